section WORK
def RectP (w h np : Nat) (f0 f1 f2 f3 px : Nat → Int32) : Prop := ∀ p, p < np → ∃ a b u v : Nat, f0 p = nI a ∧ f1 p = nI b ∧ f2 p = nI u ∧ f3 p = nI v ∧ 1 ≤ u ∧ 1 ≤ v ∧ a + u ≤ w ∧ b + v ≤ h ∧ ∀ x y, x < w → y < h → (px (12 * y + x) = nI p ↔ a ≤ x ∧ x < a + u ∧ b ≤ y ∧ y < b + v)
theorem ew_congr {w h a b : Nat} {p q hv d : Int32} {D D' : Nat → Nat → Int32} (ha : a < w) (hb : b < h) (hD : ∀ x y, x < w → y < h → ¬ (x = a ∧ y = b) → D' x y = D x y) : ew w h p q D' a b hv d = ew w h p q D a b hv d := by
  have e1 : (if 0 < a then p * B_X6_squareApart (D' (a - 1) b) d else 0) = (if 0 < a then p * B_X6_squareApart (D (a - 1) b) d else 0) := by
    by_cases h1 : 0 < a
    · rw [if_pos h1, if_pos h1, hD (a - 1) b (by omega) hb (by omega)]
    · rw [if_neg h1, if_neg h1]
  have e2 : (if a + 1 < w then p * B_X6_squareApart (D' (a + 1) b) d else 0) = (if a + 1 < w then p * B_X6_squareApart (D (a + 1) b) d else 0) := by
    by_cases h1 : a + 1 < w
    · rw [if_pos h1, if_pos h1, hD (a + 1) b (by omega) hb (by omega)]
    · rw [if_neg h1, if_neg h1]
  have e3 : (if 0 < b then q * B_X6_squareApart (D' a (b - 1)) d else 0) = (if 0 < b then q * B_X6_squareApart (D a (b - 1)) d else 0) := by
    by_cases h1 : 0 < b
    · rw [if_pos h1, if_pos h1, hD a (b - 1) ha (by omega) (by omega)]
    · rw [if_neg h1, if_neg h1]
  have e4 : (if b + 1 < h then q * B_X6_squareApart (D' a (b + 1)) d else 0) = (if b + 1 < h then q * B_X6_squareApart (D a (b + 1)) d else 0) := by
    by_cases h1 : b + 1 < h
    · rw [if_pos h1, if_pos h1, hD a (b + 1) ha (by omega) (by omega)]
    · rw [if_neg h1, if_neg h1]
  unfold ew
  rw [e1, e2, e3, e4]
section
variable {w h np : Nat} {I : Nat → Int32} {A A' : Nat → Nat → Int32}
/-- a change of one cell -/
theorem en_local (C : Co w h np I A) (C' : Co w h np I A') {x y : Nat} (hx : x < w) (hy : y < h) (hD : ∀ j, j ≠ 12 * y + x → A' 8 j = A 8 j) (hH : ∀ j d, j ≠ 12 * y + x → hd A' j d = hd A j d) :
    en w h (I 7) (I 8) A' = en w h (I 7) (I 8) A + (B_X1_energyAt I A' (nI x) (nI y) - B_X1_energyAt I A (nI x) (nI y)) := by
  have w12 := C.w12
  have e1 : ∀ a b, a < w → b < h → ¬ (a = x ∧ b = y) → dd A' a b = dd A a b := fun a b ha hb hne => hD _ (by omega)
  have e2 : ∀ a b, a < w → b < h → ¬ (a = x ∧ b = y) → hh A' a b = hh A a b := fun a b ha hb hne => by
    have : 12 * b + a ≠ 12 * y + x := by omega
    unfold hh
    rw [hD _ this, hH _ _ this]
  have k := ec_local (p := I 7) (q := I 8) hx hy e1 e2 (fun a b ha hb => C.dup ha hb) (C'.dup hx hy)
  rw [C.eAt hx hy, C'.eAt hx hy, ew_congr hx hy e1]
  unfold en
  generalize gs w h (ec w h (I 7) (I 8) (dd A') (hh A')) = g1 at k ⊢
  generalize gs w h (ec w h (I 7) (I 8) (dd A) (hh A)) = g2 at k ⊢
  generalize ew w h (I 7) (I 8) (dd A) x y (hh A x y) (dd A x y) = u at k ⊢
  generalize ew w h (I 7) (I 8) (dd A) x y (hh A' x y) (dd A' x y) = v at k ⊢
  grind
end
theorem dir_upd {f : Nat → Int32} (h : DirP f) (c : Nat) {v : Int32} (hv : up 14 v) : DirP (upd f c v) := fun j hj => by
  rw [upd_at]
  by_cases e : j = c
  · rw [if_pos e]
    exact hv
  · rw [if_neg e]
    exact h j hj
theorem kind_upd {k wd ws : Nat → Int32} (h : KindP k wd ws) (c : Nat) {v : Int32} (hv : v ≠ 2) : KindP (upd k c v) wd ws := fun j hj => by
  rw [upd_at]
  by_cases e : j = c
  · rw [if_pos e]
    exact fun q => absurd q hv
  · rw [if_neg e]
    exact h j hj
theorem kind_upd2 {k wd ws : Nat → Int32} (h : KindP k wd ws) (c : Nat) {v d s : Int32} (hd : up 14 d) (hs : up 100 s) : KindP (upd k c v) (upd wd c d) (upd ws c s) := fun j hj => by
  rw [upd_at, upd_at, upd_at]
  by_cases e : j = c
  · rw [if_pos e, if_pos e, if_pos e]
    exact fun _ => ⟨hd, hs⟩
  · rw [if_neg e, if_neg e, if_neg e]
    exact h j hj
def CntP (n m : Nat) (a : Int32) : Prop := a = nI n ∧ n ≤ m
def NoteP (np t : Nat) (f6 f7 : Nat → Int32) : Prop := (∀ j, j < 64 → up 99 (f7 j)) ∧ ∀ p, p < np → up t (f6 p)
def DrvP (np nd : Nat) (a c d : Nat → Int32) : Prop := ∀ k, k < nd → (∃ p, p < np ∧ a k = nI p) ∧ up 14 (c k) ∧ up 100 (d k)
/-- what the energy doesn't stand on -/
def Rs (w h np nd t : Nat) (I : Nat → Int32) (A : Nat → Nat → Int32) : Prop :=
  CntP np 8 (I 4) ∧ CntP nd 40 (I 10) ∧ CntP t 2000 (I 1) ∧ up 14 (I 0) ∧ RectP w h np (A 0) (A 1) (A 2) (A 3) (A 12) ∧ NoteP np t (A 6) (A 7) ∧ DrvP np nd (A 13) (A 15) (A 16)
/-- how the object stands: w by h cells, np pixels, nd drives to come, the tick t -/
def Inv (w h np nd t : Nat) (I : Nat → Int32) (A : Nat → Nat → Int32) : Prop :=
  Co w h np I A ∧ Rs w h np nd t I A ∧ I 9 = en w h (I 7) (I 8) A ∧ I 9 = I 2 - I 3
/-- the pixels' places as they were -/
def Kp (A A' : Nat → Nat → Int32) : Prop := A' 0 = A 0 ∧ A' 1 = A 1 ∧ A' 2 = A 2 ∧ A' 3 = A 3
/-- a call that works: its answer g -/
def Wk (g : Int32) (I I' : Nat → Int32) (A A' : Nat → Nat → Int32) : Prop := I' 9 = I 9 + g ∧ I' 2 = I 2 + g ∧ I' 3 = I 3 ∧ Kp A A'
theorem fin_work {w h np nd t : Nat} {I : Nat → Int32} {A : Nat → Nat → Int32} (C : Co w h np I A) (S : Rs w h np nd t I A) {g : Int32} (hE : I 9 + g = en w h (I 7) (I 8) A) (hW : I 9 = I 2 - I 3) :
    Inv w h np nd t (va_up (va_up I 9 (I 9 + g)) 2 ((va_up I 9 (I 9 + g)) 2 + g)) A := by
  refine ⟨C, S, hE, ?_⟩
  show I 9 + g = I 2 + g - I 3
  rw [hW]
  generalize I 2 = a
  generalize I 3 = b
  grind
theorem worked_eq (I : Nat → Int32) (A : Nat → Nat → Int32) (g : Int32) : B_X6_worked I A g = some (g, va_up I 2 (I 2 + g), A) := rfl
end WORK

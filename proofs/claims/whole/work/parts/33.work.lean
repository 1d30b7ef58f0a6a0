section WORK
theorem if10 {α : Type} (a b : α) : (if (1 : Int32) = 0 then a else b) = b := if_neg (by decide)
theorem if00 {α : Type} (a b : α) : (if (0 : Int32) = 0 then a else b) = a := if_pos rfl
def CntP (n m : Nat) (a b : Int32) : Prop := a = nI n ∧ n ≤ m ∧ b = a
def RectP (w h np : Nat) (f0 f1 f2 f3 px : Nat → Int32) : Prop := ∀ p, p < np → ∃ a b u v : Nat, f0 p = nI a ∧ f1 p = nI b ∧ f2 p = nI u ∧ f3 p = nI v ∧ 1 ≤ u ∧ 1 ≤ v ∧ a + u ≤ w ∧ b + v ≤ h ∧ ∀ x y, x < w → y < h → (px (12 * y + x) = nI p ↔ a ≤ x ∧ x < a + u ∧ b ≤ y ∧ y < b + v)
def NoteP (np t : Nat) (f6 f7 g8 g7 : Nat → Int32) : Prop := (∀ j, j < 64 → up 100 (f7 j) ∧ g7 j = f7 j) ∧ (∀ j, j < 8 → g8 j = f6 j) ∧ ∀ p, p < np → up t (f6 p)
def DrvP (np nd : Nat) (a b c d a' b' c' d' : Nat → Int32) : Prop := ∀ k, k < 40 → (a' k = a k ∧ b' k = b k ∧ c' k = c k ∧ d' k = d k) ∧ (k < nd → (∃ p, p < np ∧ a k = nI p) ∧ up 14 (c k) ∧ up 100 (d k))
def PicP (nq : Nat) (f g f' g' : Nat → Int32) : Prop := (∀ k, k < 10 → f' k = f k ∧ (k < nq → up 14 (f k))) ∧ ∀ j, j < 1440 → g' j = g j
/-- what the energy doesn't stand on -/
def Rs (w h np nd nq t : Nat) (I : Nat → Int32) (A : Nat → Nat → Int32) (J : Nat → Int32) (B : Nat → Nat → Int32) : Prop :=
  CntP np 8 (I 4) (J 9) ∧ CntP nd 40 (I 10) (J 10) ∧ CntP nq 10 (I 11) (J 11) ∧ CntP t 2000 (I 1) (J 6) ∧ (up 14 (I 0) ∧ J 5 = I 0) ∧ RectP w h np (A 0) (A 1) (A 2) (A 3) (A 12) ∧ NoteP np t (A 6) (A 7) (B 8) (B 7) ∧ DrvP np nd (A 13) (A 14) (A 15) (A 16) (B 9) (B 10) (B 11) (B 12) ∧ PicP nq (A 17) (A 18) (B 13) (B 14)
/-- class and reference stand alike -/
def Rel (I : Nat → Int32) (A : Nat → Nat → Int32) (J : Nat → Int32) (B : Nat → Nat → Int32) : Prop :=
  ∃ w h np nd nq t : Nat, Co w h np I A J B ∧ Rs w h np nd nq t I A J B ∧ I 9 = en w h (I 7) (I 8) A ∧ J 7 = I 2 ∧ J 8 = I 3
/-- how a call ends, of class and reference: the same answer, or an exception of the list L by its number -/
def Good (L : List (Nat × Nat)) (o : Option OutT) (q : Option (Int32 × (Nat → Int32) × (Nat → Nat → Int32))) : Prop :=
  (∃ v I A J B, o = some (.inl (v, I, A)) ∧ q = some (v, J, B) ∧ J 0 = 0 ∧ Rel I A J B) ∨
  (∃ k c r I A J B, o = some (.inr (k, I, A)) ∧ q = some (r, J, B) ∧ (k, c) ∈ L ∧ J 0 = nI c ∧ Rel I A J B)
theorem Rel.th {I J : Nat → Int32} {A B : Nat → Nat → Int32} (R : Rel I A J B) (v : Int32) : Rel I A (va_up J 0 v) B := by
  obtain ⟨w, h, np, nd, nq, t, C, S, E, F1, F2⟩ := R
  exact ⟨w, h, np, nd, nq, t, C, S, E, F1, F2⟩
theorem good_x {L : List (Nat × Nat)} {k c : Nat} {r : Int32} {I J : Nat → Int32} {A B : Nat → Nat → Int32} (R : Rel I A J B) (h : (k, c) ∈ L) : Good L (some (.inr (k, I, A))) (some (r, va_up J 0 (nI c), B)) :=
  Or.inr ⟨k, c, r, I, A, _, B, rfl, rfl, h, rfl, R.th _⟩
theorem good_r {L : List (Nat × Nat)} {v : Int32} {I J : Nat → Int32} {A B : Nat → Nat → Int32} (R : Rel I A J B) (h : J 0 = 0) : Good L (some (.inl (v, I, A))) (some (v, J, B)) :=
  Or.inl ⟨v, I, A, J, B, rfl, rfl, h, R⟩
theorem th0 {I J : Nat → Int32} {A B : Nat → Nat → Int32} (R : Rel I A J B) : ∃ J0, va_up J 0 0 = J0 ∧ J0 0 = 0 ∧ Rel I A J0 B := ⟨_, rfl, rfl, R.th 0⟩
theorem add_sub_l (a b : Int32) : a + b - a = b := by rw [Int32.add_comm, Int32.add_sub_cancel]
theorem add_of_sub {a b c : Int32} (h : a = b - c) : c + a = b := by rw [h, Int32.add_comm, Int32.sub_add_cancel]
theorem ew_congr {w h a b : Nat} {p q hv d : Int32} {D D' : Nat → Nat → Int32} (ha : a < w) (hb : b < h) (hD : ∀ x y, x < w → y < h → ¬ (x = a ∧ y = b) → D' x y = D x y) : ew w h p q D' a b hv d = ew w h p q D a b hv d := by
  have e1 : (if 0 < a then p * B_X6_squareApart (D' (a - 1) b) d else 0) = (if 0 < a then p * B_X6_squareApart (D (a - 1) b) d else 0) := by
    by_cases h1 : 0 < a
    · rw [if_pos h1, if_pos h1, hD (a - 1) b (by omega) hb (by omega)]
    · rw [if_neg h1, if_neg h1]
  have e2 : (if a + 1 < w then p * B_X6_squareApart (D' (a + 1) b) d else 0) = (if a + 1 < w then p * B_X6_squareApart (D (a + 1) b) d else 0) := by
    by_cases h1 : a + 1 < w
    · rw [if_pos h1, if_pos h1, hD (a + 1) b (by omega) hb (by omega)]
    · rw [if_neg h1, if_neg h1]
  have e3 : (if 0 < b then q * B_X6_squareApart (D' a (b - 1)) d else 0) = (if 0 < b then q * B_X6_squareApart (D a (b - 1)) d else 0) := by
    by_cases h1 : 0 < b
    · rw [if_pos h1, if_pos h1, hD a (b - 1) ha (by omega) (by omega)]
    · rw [if_neg h1, if_neg h1]
  have e4 : (if b + 1 < h then q * B_X6_squareApart (D' a (b + 1)) d else 0) = (if b + 1 < h then q * B_X6_squareApart (D a (b + 1)) d else 0) := by
    by_cases h1 : b + 1 < h
    · rw [if_pos h1, if_pos h1, hD a (b + 1) ha (by omega) (by omega)]
    · rw [if_neg h1, if_neg h1]
  unfold ew
  rw [e1, e2, e3, e4]
section
variable {w h np nd nq t : Nat} {I J : Nat → Int32} {A B A' B' : Nat → Nat → Int32} {L : List (Nat × Nat)}
/-- a change of one cell -/
theorem en_local {J' : Nat → Int32} (C : Co w h np I A J B) (C' : Co w h np I A' J' B') {x y : Nat} (hx : x < w) (hy : y < h) (hD : ∀ j, j ≠ 12 * y + x → A' 8 j = A 8 j) (hH : ∀ j d, j ≠ 12 * y + x → hd A' j d = hd A j d) :
    en w h (I 7) (I 8) A' = en w h (I 7) (I 8) A + (B_X1_energyAt I A' (nI x) (nI y) - B_X1_energyAt I A (nI x) (nI y)) := by
  have w12 := C.w12
  have e1 : ∀ a b, a < w → b < h → ¬ (a = x ∧ b = y) → dd A' a b = dd A a b := fun a b ha hb hne => hD _ (by omega)
  have e2 : ∀ a b, a < w → b < h → ¬ (a = x ∧ b = y) → hh A' a b = hh A a b := fun a b ha hb hne => by
    have : 12 * b + a ≠ 12 * y + x := by omega
    unfold hh
    rw [hD _ this, hH _ _ this]
  have k := ec_local (p := I 7) (q := I 8) hx hy e1 e2 (fun a b ha hb => C.dup ha hb) (C'.dup hx hy)
  rw [C.eAt hx hy, C'.eAt hx hy, ew_congr hx hy e1]
  unfold en
  generalize gs w h (ec w h (I 7) (I 8) (dd A') (hh A')) = g1 at k ⊢
  generalize gs w h (ec w h (I 7) (I 8) (dd A) (hh A)) = g2 at k ⊢
  generalize ew w h (I 7) (I 8) (dd A) x y (hh A x y) (dd A x y) = u at k ⊢
  generalize ew w h (I 7) (I 8) (dd A) x y (hh A' x y) (dd A' x y) = v at k ⊢
  grind
/-- the end of a call that works -/
theorem fin_work (C : Co w h np I A J B) (S : Rs w h np nd nq t I A J B) (h0 : J 0 = 0) (F1 : J 7 = I 2) (F2 : J 8 = I 3) {g : Int32} (hE : I 9 + g = en w h (I 7) (I 8) A) :
    Good L (some (.inl (g, va_up (va_up I 9 (I 9 + g)) 2 ((va_up I 9 (I 9 + g)) 2 + g), A))) ((B_X7_worked J B (I 9)).bind fun q => some (q.1, q.2.1, q.2.2)) := by
  unfold B_X7_worked
  rw [C.all, bind_some', bind_some', ← hE, add_sub_l]
  refine good_r ⟨w, h, np, nd, nq, t, C, S, hE, ?_, F2⟩ h0
  show J 7 + g = I 2 + g
  rw [F1]
end
theorem st_costs {I J : Nat → Int32} {A B : Nat → Nat → Int32} (R : Rel I A J B) (x1 x2 : Int32) : Good [(0, 1)] (B_X6_costs I A x1 x2) (B_X7_costs J B x1 x2) := by
  unfold B_X6_costs B_X7_costs
  obtain ⟨J0, hJ, h0, R⟩ := th0 R
  rw [hJ]
  clear hJ
  have i1 : B_X7_in x1 0 20 = B_X6_isIn x1 0 20 := rfl
  have i2 : B_X7_in x2 0 20 = B_X6_isIn x2 0 20 := rfl
  rw [i1, i2]
  rcases isIn_cases (x := x1) (a := 0) (b := 20) (by decide) (by decide) with e | ⟨e, p, -, hp, rfl⟩
  · rw [show B_X6_isIn x1 0 20 = 0 from e, if00, if00]
    exact good_x R (by decide)
  rw [show B_X6_isIn (nI p) 0 20 = 1 from e, if10, if10]
  rcases isIn_cases (x := x2) (a := 0) (b := 20) (by decide) (by decide) with e | ⟨e, q, -, hq, rfl⟩
  · rw [show B_X6_isIn x2 0 20 = 0 from e, if00, if00]
    exact good_x R (by decide)
  rw [show B_X6_isIn (nI q) 0 20 = 1 from e, if10, if10]
  obtain ⟨w, h, np, nd, nq, t, C, S, E, F1, F2⟩ := R
  have C' : Co w h np (va_up (va_up I 7 (nI p)) 8 (nI q)) A (va_up (va_up J0 3 (nI p)) 4 (nI q)) B := ⟨C.geo, ⟨up_nI hp, up_nI hq, rfl, rfl⟩, C.2.2⟩
  rw [C.all, bind_some', ← E]
  unfold B_X1_price
  rw [C'.sum, bind_some']
  exact fin_work (I := va_up (va_up I 7 (nI p)) 8 (nI q)) C' S h0 F1 F2 (add_of_sub rfl)
theorem st_turn {I J : Nat → Int32} {A B : Nat → Nat → Int32} (R : Rel I A J B) (x1 x2 x3 : Int32) : Good [(1, 1), (0, 2), (2, 3)] (B_X6_turn I A x1 x2 x3) (B_X7_turn J B x1 x2 x3) := by
  unfold B_X6_turn B_X7_turn
  obtain ⟨J0, hJ, h0, R⟩ := th0 R
  rw [hJ]
  clear hJ
  have RR := R
  obtain ⟨w, h, np, nd, nq, t, C, S, E, F1, F2⟩ := R
  rw [C.isCell]
  rcases C.has x1 x2 with e | ⟨e, x, y, hx, hy, rfl, rfl⟩
  · rw [e, if00, if00]
    exact good_x RR (by decide)
  rw [e, if10, if10, show B_X7_isDirection x3 = B_X6_isIn x3 0 14 from rfl, show B_X6_isDirection x3 = B_X6_isIn x3 0 14 from rfl]
  rcases isIn_cases (x := x3) (a := 0) (b := 14) (by decide) (by decide) with e | ⟨e, d, -, hd, rfl⟩
  · rw [show B_X6_isIn x3 0 14 = 0 from e, if00, if00]
    exact good_x RR (by decide)
  have hc := C.cell hx hy
  have kk : B_X1_kindAt I A (nI x) (nI y) = A 9 (12 * y + x) := by
    unfold B_X1_kindAt
    rw [nn_num, rAt_nI hc (by decide)]
  rw [show B_X6_isIn (nI d) 0 14 = 1 from e, if10, if10, kk, nn_cell, rd_nI hc (by decide), bind_some', (C.kind _ hc).1]
  by_cases e1 : A 9 (12 * y + x) = 1
  · rw [if_pos e1, if_pos e1]
    exact good_x RR (by decide)
  rw [if_neg e1, if_neg e1, C.all, bind_some', ← E, wr_nI hc (by decide), bind_some']
  unfold B_X1_turnTo
  rw [nn_num, rPut_nI hc (by decide)]
  have C' : Co w h np I (va_up A 8 (upd (A 8) (12 * y + x) (nI d))) J0 (va_up B 0 (upd (B 0) (12 * y + x) (nI d))) := ⟨C.geo, C.cost, fun j hj => by
    show up 14 (upd (A 8) (12 * y + x) (nI d) j) ∧ upd (B 0) (12 * y + x) (nI d) j = upd (A 8) (12 * y + x) (nI d) j
    rw [upd_at, upd_at]
    by_cases e2 : j = 12 * y + x
    · rw [if_pos e2, if_pos e2]
      exact ⟨up_nI hd, rfl⟩
    · rw [if_neg e2, if_neg e2]
      exact C.dir j hj, C.kind, C.pix, C.field, C.np8⟩
  have k := en_local C C' hx hy (fun j hj => if_neg hj) (fun j d hj => rfl)
  exact fin_work C' S h0 F1 F2 (by rw [k, ← E])
end WORK

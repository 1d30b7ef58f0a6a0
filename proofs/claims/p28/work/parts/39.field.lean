section FIELD
section
variable {w h np : Nat} {I : Nat → Int32} {A A' : Nat → Nat → Int32}
def reS (a b u v : Nat) (g : Nat → Nat → Int32) : Int32 := sm v (fun j => sm u (fun i => g (a + i) (b + j)))
theorem Co.heldIn (C : Co w h np I A) {p a b u v : Nat} (hp : p < 8) (e0 : A 0 p = nI a) (e1 : A 1 p = nI b) (e2 : A 2 p = nI u) (e3 : A 3 p = nI v) (hu : a + u ≤ w) (hv : b + v ≤ h) : B_X1_heldInPixel I A (nI p) = some (reS a b u v (hh A)) := by
  have w12 := C.w12
  have h12 := C.h12
  unfold B_X1_heldInPixel B_X3_left B_X3_top B_X3_width B_X3_height
  rw [rAt_nI hp (by decide), rAt_nI hp (by decide), rAt_nI hp (by decide), rAt_nI hp (by decide), e0, e1, e2, e3, nI_add, nI_add]
  have row : ∀ j, j < v → ∀ acc, B_X1_heldInPixel_L60 I A (nI a) (nI (a + u)) (nI (b + v)) (nI (b + j)) FU acc (nI a) = some (acc + sm u (fun i => hh A (a + i) (b + j))) := by
    intro j hj acc
    refine acc_loop (fun n z k => B_X1_heldInPixel_L60 I A (nI a) (nI (a + u)) (nI (b + v)) (nI (b + j)) n z k) a u _ (fun z => z) (by omega) ?_ ?_ acc
    · intro n z k hk
      rw [B_X1_heldInPixel_L60_s, if_neg (nI_ge (show a + k < a + u by omega) (by omega)), C.dirAt (show a + k < w by omega) (show b + j < h by omega), nn_num, C.held (C.cell (show a + k < w by omega) (show b + j < h by omega)), nI_1]
      rfl
    · intro n z
      rw [B_X1_heldInPixel_L60_s, if_pos (nI_le (Nat.le_refl _) (by omega))]
  have k1 : B_X1_heldInPixel_L50 I A (nI a) (nI (a + u)) (nI (b + v)) FU 0 (nI b) = some (0 + reS a b u v (hh A)) := by
    refine acc_loop (fun n z k => B_X1_heldInPixel_L50 I A (nI a) (nI (a + u)) (nI (b + v)) n z k) b v _ (fun z => z) (by omega) ?_ ?_ 0
    · intro n z k hk
      rw [B_X1_heldInPixel_L50_s, if_neg (nI_ge (show b + k < b + v by omega) (by omega)), row k hk, bind_some', nI_1]
    · intro n z
      rw [B_X1_heldInPixel_L50_s, if_pos (nI_le (Nat.le_refl _) (by omega))]
  rw [k1, bind_some', Int32.zero_add]
theorem ec_split (w h : Nat) (p q : Int32) (D hl : Nat → Nat → Int32) : gs w h (ec w h p q D hl) = gs w h hl + gs w h (ec w h p q D (fun _ _ => 0)) := by
  rw [← gs_add]
  apply gs_congr
  intro x y _ _
  unfold ec
  rw [Int32.zero_add, Int32.add_assoc]
/-- what changes in a rectangle alone -/
theorem en_rect {a b u v : Nat} {P Q : Int32} (hu : a + u ≤ w) (hv : b + v ≤ h) (hD : A' 8 = A 8) (hH : ∀ x y, x < w → y < h → ¬ (a ≤ x ∧ x < a + u ∧ b ≤ y ∧ y < b + v) → hh A' x y = hh A x y) :
    en w h P Q A' = en w h P Q A + (reS a b u v (hh A') - reS a b u v (hh A)) := by
  have hD' : dd A' = dd A := by
    funext x y
    unfold dd
    rw [hD]
  have cut : ∀ F : Nat → Nat → Int32, gs w h F = reS a b u v F + gs w h (fun x y => if a ≤ x ∧ x < a + u ∧ b ≤ y ∧ y < b + v then 0 else F x y) := by
    intro F
    unfold reS
    rw [← gs_rect hu hv F, ← gs_add]
    apply gs_congr
    intro x y _ _
    by_cases c : a ≤ x ∧ x < a + u ∧ b ≤ y ∧ y < b + v
    · rw [if_pos c, if_pos c, Int32.add_zero]
    · rw [if_neg c, if_neg c, Int32.zero_add]
  unfold en
  rw [ec_split, ec_split w h P Q (dd A), hD', cut (hh A'), cut (hh A)]
  have e : gs w h (fun x y => if a ≤ x ∧ x < a + u ∧ b ≤ y ∧ y < b + v then 0 else hh A' x y) = gs w h (fun x y => if a ≤ x ∧ x < a + u ∧ b ≤ y ∧ y < b + v then 0 else hh A x y) := by
    apply gs_congr
    intro x y hx hy
    by_cases c : a ≤ x ∧ x < a + u ∧ b ≤ y ∧ y < b + v
    · rw [if_pos c, if_pos c]
    · rw [if_neg c, if_neg c, hH x y hx hy c]
  rw [e]
  generalize gs w h (fun x y => if a ≤ x ∧ x < a + u ∧ b ≤ y ∧ y < b + v then 0 else hh A x y) = r1
  generalize gs w h (ec w h P Q (dd A) (fun _ _ => 0)) = r2
  generalize reS a b u v (hh A') = r3
  generalize reS a b u v (hh A) = r4
  grind
/-- a field's new direction and strength -/
def setFA (A : Nat → Nat → Int32) (k1 k2 p : Nat) (d s : Int32) : Nat → Nat → Int32 := va_up (va_up A k1 (upd (A k1) p d)) k2 (upd (A k2) p s)
theorem field_upd {a b : Nat → Int32} (hf : FieldP a b) (p : Nat) {d s : Int32} (hd : up 14 d) (hs : up 100 s) : FieldP (upd a p d) (upd b p s) := fun j hj => by
  rw [upd_at, upd_at]
  by_cases e : j = p
  · rw [if_pos e, if_pos e]
    exact ⟨hd, hs⟩
  · rw [if_neg e, if_neg e]
    exact hf j hj
theorem Co.setA (C : Co w h np I A) (p : Nat) {d s : Int32} (hd : up 14 d) (hs : up 100 s) : Co w h np I (setFA A 4 5 p d s) :=
  ⟨C.geo, C.cost, C.dir, C.kind, C.pix, field_upd C.field p hd hs, C.np8⟩
theorem Co.setField (C : Co w h np I A) (hR : RectP w h np (A 0) (A 1) (A 2) (A 3) (A 12)) {p : Nat} (hp : p < np) {d s : Int32} (hd0 : up 14 d) (hs : up 100 s) :
    ∃ g, B_X1_setField I A (nI p) d s = some (g, va_up I 9 (I 9 + g), setFA A 4 5 p d s) ∧ en w h (I 7) (I 8) (setFA A 4 5 p d s) = en w h (I 7) (I 8) A + g := by
  have np8 := C.np8
  obtain ⟨a, b, u, v, e0, e1, e2, e3, u1, v1, hu, hv, hpx⟩ := hR p hp
  have C' := C.setA p hd0 hs
  refine ⟨reS a b u v (hh (setFA A 4 5 p d s)) - reS a b u v (hh A), ?_, ?_⟩
  · unfold B_X1_setField
    rw [C.heldIn (show p < 8 by omega) e0 e1 e2 e3 hu hv, bind_some']
    have e4 : B_X3_setField I A (nI p) d s = some (I, setFA A 4 5 p d s) := by
      unfold B_X3_setField
      rw [rPut_nI (show p < 8 by omega) (by decide), rPut_nI (show p < 8 by omega) (by decide)]
      rfl
    rw [e4, bind_some']
    dsimp only
    rw [C'.heldIn (show p < 8 by omega) e0 e1 e2 e3 hu hv, bind_some']
    rfl
  · refine en_rect hu hv rfl ?_
    intro x y hx hy hn
    have hne : A 12 (12 * y + x) ≠ nI p := fun q => hn ((hpx x y hx hy).mp q)
    unfold hh
    show hd (setFA A 4 5 p d s) _ (A 8 _) = hd A _ _
    unfold hd
    show _ + (if A 12 (12 * y + x) = -1 then 0 else upd (A 5) p s (A 12 (12 * y + x)).toNatClampNeg * B_X6_squareApart (upd (A 4) p d (A 12 (12 * y + x)).toNatClampNeg) _) = _
    rcases C.pix _ (C.cell hx hy) with q | ⟨p', hp', q⟩
    · rw [if_pos q, if_pos q]
      rfl
    · have : p' ≠ p := fun e => hne (e ▸ q)
      rw [q, if_neg (nI_m1 (by omega)), if_neg (nI_m1 (by omega)), nI_clamp (by omega), upd_at, upd_at, if_neg this, if_neg this]
      rfl
end
end FIELD

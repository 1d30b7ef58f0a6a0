section REL
def dd (A : Nat → Nat → Int32) (x y : Nat) : Int32 := A 8 (12 * y + x)
/-- the energy that the cell c has by itself, with the direction d -/
def hd (A : Nat → Nat → Int32) (c : Nat) (d : Int32) : Int32 := (if A 9 c = 2 then A 11 c * B_X6_squareApart (A 10 c) d else 0) + (if A 12 c = -1 then 0 else A 5 (A 12 c).toNatClampNeg * B_X6_squareApart (A 4 (A 12 c).toNatClampNeg) d)
def hh (A : Nat → Nat → Int32) (x y : Nat) : Int32 := hd A (12 * y + x) (A 8 (12 * y + x))
def en (w h : Nat) (p q : Int32) (A : Nat → Nat → Int32) : Int32 := gs w h (ec w h p q (dd A) (hh A))
def GeoP (w h : Nat) (a b : Int32) : Prop := a = nI w ∧ b = nI h ∧ 2 ≤ w ∧ w ≤ 12 ∧ 2 ≤ h ∧ h ≤ 12
def CostP (a b : Int32) : Prop := up 20 a ∧ up 20 b
def DirP (f : Nat → Int32) : Prop := ∀ j, j < 144 → up 14 (f j)
def KindP (k wd ws : Nat → Int32) : Prop := ∀ j, j < 144 → k j = 2 → up 14 (wd j) ∧ up 100 (ws j)
def PixP (np : Nat) (f : Nat → Int32) : Prop := ∀ j, j < 144 → f j = -1 ∨ ∃ p, p < np ∧ f j = nI p
def FieldP (a b : Nat → Int32) : Prop := ∀ j, j < 8 → up 14 (a j) ∧ up 100 (b j)
/-- what the energy stands on -/
def Co (w h np : Nat) (I : Nat → Int32) (A : Nat → Nat → Int32) : Prop :=
  GeoP w h (I 5) (I 6) ∧ CostP (I 7) (I 8) ∧ DirP (A 8) ∧ KindP (A 9) (A 10) (A 11) ∧ PixP np (A 12) ∧ FieldP (A 4) (A 5) ∧ np ≤ 8
section
variable {w h np : Nat} {I : Nat → Int32} {A : Nat → Nat → Int32}
theorem Co.geo (C : Co w h np I A) : GeoP w h (I 5) (I 6) := C.1
theorem Co.cost (C : Co w h np I A) : CostP (I 7) (I 8) := C.2.1
theorem Co.dir (C : Co w h np I A) : DirP (A 8) := C.2.2.1
theorem Co.kind (C : Co w h np I A) : KindP (A 9) (A 10) (A 11) := C.2.2.2.1
theorem Co.pix (C : Co w h np I A) : PixP np (A 12) := C.2.2.2.2.1
theorem Co.field (C : Co w h np I A) : FieldP (A 4) (A 5) := C.2.2.2.2.2.1
theorem Co.np8 (C : Co w h np I A) : np ≤ 8 := C.2.2.2.2.2.2
theorem Co.W (C : Co w h np I A) : I 5 = nI w := C.1.1
theorem Co.H (C : Co w h np I A) : I 6 = nI h := C.1.2.1
theorem Co.w2 (C : Co w h np I A) : 2 ≤ w := C.1.2.2.1
theorem Co.w12 (C : Co w h np I A) : w ≤ 12 := C.1.2.2.2.1
theorem Co.h2 (C : Co w h np I A) : 2 ≤ h := C.1.2.2.2.2.1
theorem Co.h12 (C : Co w h np I A) : h ≤ 12 := C.1.2.2.2.2.2
theorem Co.cell (C : Co w h np I A) {x y : Nat} (hx : x < w) (hy : y < h) : 12 * y + x < 144 := by
  have := C.w12; have := C.h12; omega
theorem Co.hin (C : Co w h np I A) {x y : Nat} (hx : x < w) (hy : y < h) : B_X1_has I A (nI x) (nI y) = 1 :=
  has_in C.W C.H (by have := C.w12; omega) (by have := C.h12; omega) hx hy
theorem Co.hox (C : Co w h np I A) {x : Nat} (hx : w ≤ x) (lx : x < 2 ^ 31) (x2 : Int32) : B_X1_has I A (nI x) x2 = 0 := has_outx C.W lx hx x2
theorem Co.hoy (C : Co w h np I A) {y : Nat} (hy : h ≤ y) (ly : y < 2 ^ 31) (x1 : Int32) : B_X1_has I A x1 (nI y) = 0 := has_outy C.H ly hy x1
theorem Co.has (C : Co w h np I A) (x1 x2 : Int32) : B_X1_has I A x1 x2 = 0 ∨ (B_X1_has I A x1 x2 = 1 ∧ ∃ x y : Nat, x < w ∧ y < h ∧ x1 = nI x ∧ x2 = nI y) :=
  has_cases C.W C.H (by have := C.w12; omega) (by have := C.h12; omega) x1 x2
theorem Co.dup (C : Co w h np I A) {x y : Nat} (hx : x < w) (hy : y < h) : up 14 (dd A x y) := C.dir _ (C.cell hx hy)
theorem Co.dirAt (C : Co w h np I A) {x y : Nat} (hx : x < w) (hy : y < h) : B_X1_directionAt I A (nI x) (nI y) = dd A x y := by
  unfold B_X1_directionAt
  rw [nn_num, rAt_nI (C.cell hx hy) (by decide)]
  rfl
theorem Co.held (C : Co w h np I A) {c : Nat} (hc : c < 144) (d : Int32) : B_X1_heldWith I A (nI c) d = hd A c d := by
  have J38 : ∀ z, B_X1_heldWith_J38 I A (nI c) d z = z + (if A 12 c = -1 then 0 else A 5 (A 12 c).toNatClampNeg * B_X6_squareApart (A 4 (A 12 c).toNatClampNeg) d) := by
    intro z
    unfold B_X1_heldWith_J38 B_X3_fieldStrength B_X3_fieldDirection
    rw [rAt_nI hc (by decide)]
    by_cases h1 : A 12 c = -1
    · rw [if_pos h1, if_pos h1, Int32.add_zero]
    · rw [if_neg h1, if_neg h1]
      rcases C.pix c hc with h2 | ⟨p, hp, e⟩
      · exact absurd h2 h1
      · have := C.np8
        rw [e, rAt_nI (by omega) (by decide), rAt_nI (by omega) (by decide), nI_clamp (by omega)]
  unfold B_X1_heldWith
  rw [rAt_nI hc (by decide), rAt_nI hc (by decide), rAt_nI hc (by decide)]
  unfold hd
  by_cases h1 : A 9 c = 2
  · rw [if_pos h1, if_pos h1, J38, Int32.zero_add]
  · rw [if_neg h1, if_neg h1, J38]
theorem Co.eW (C : Co w h np I A) {x y : Nat} (hx : x < w) (hy : y < h) (d : Int32) : B_X1_energyWith I A (nI x) (nI y) d = ew w h (I 7) (I 8) (dd A) x y (hd A (12 * y + x) d) d := by
  have j111 : ∀ z, B_X1_energyWith_J111 I A (nI x) (nI y) d z = z + (if y + 1 < h then I 8 * B_X6_squareApart (dd A x (y + 1)) d else 0) := by
    intro z
    unfold B_X1_energyWith_J111
    rw [nI_1]
    by_cases h1 : y + 1 < h
    · rw [C.hin hx h1, if_neg (by decide), C.dirAt hx h1, if_pos h1]
    · rw [C.hoy (by omega) (by have := C.h12; omega), if_pos rfl, if_neg h1, Int32.add_zero]
  have j78 : ∀ z, B_X1_energyWith_J78 I A (nI x) (nI y) d z = z + (if 0 < y then I 8 * B_X6_squareApart (dd A x (y - 1)) d else 0) + (if y + 1 < h then I 8 * B_X6_squareApart (dd A x (y + 1)) d else 0) := by
    intro z
    unfold B_X1_energyWith_J78
    by_cases h1 : 0 < y
    · rw [nI_sub1 h1, C.hin hx (show y - 1 < h by omega), if_neg (by decide), C.dirAt hx (show y - 1 < h by omega), if_pos h1, j111]
    · have h2 : y = 0 := by omega
      have h3 : B_X1_has I A (nI x) (nI y - 1) = 0 := by rw [h2]; exact has_negy _
      rw [h3, if_pos rfl, if_neg h1, j111, Int32.add_zero]
  have j45 : ∀ z, B_X1_energyWith_J45 I A (nI x) (nI y) d z = z + (if x + 1 < w then I 7 * B_X6_squareApart (dd A (x + 1) y) d else 0) + (if 0 < y then I 8 * B_X6_squareApart (dd A x (y - 1)) d else 0) + (if y + 1 < h then I 8 * B_X6_squareApart (dd A x (y + 1)) d else 0) := by
    intro z
    unfold B_X1_energyWith_J45
    rw [nI_1]
    by_cases h1 : x + 1 < w
    · rw [C.hin h1 hy, if_neg (by decide), C.dirAt h1 hy, if_pos h1, j78]
    · rw [C.hox (by omega) (by have := C.w12; omega), if_pos rfl, if_neg h1, j78, Int32.add_zero]
  unfold B_X1_energyWith ew
  rw [nn_num, C.held (C.cell hx hy)]
  by_cases h1 : 0 < x
  · rw [nI_sub1 h1, C.hin (show x - 1 < w by omega) hy, if_neg (by decide), C.dirAt (show x - 1 < w by omega) hy, if_pos h1, j45]
  · have h2 : x = 0 := by omega
    have h3 : B_X1_has I A (nI x - 1) (nI y) = 0 := by rw [h2]; exact has_negx _
    rw [h3, if_pos rfl, if_neg h1, j45, Int32.add_zero]
theorem Co.eAt (C : Co w h np I A) {x y : Nat} (hx : x < w) (hy : y < h) : B_X1_energyAt I A (nI x) (nI y) = ew w h (I 7) (I 8) (dd A) x y (hh A x y) (dd A x y) := by
  unfold B_X1_energyAt
  rw [C.dirAt hx hy, C.eW hx hy]
  rfl
theorem Co.sumRow (C : Co w h np I A) {y : Nat} (hy : y < h) (acc : Int32) : ∃ r, B_X1_sum_L14 I A (nI y) FU acc 0 = some r ∧ r = acc + sm w (fun x => ec w h (I 7) (I 8) (dd A) (hh A) x y) := by
  refine ng_lp0 (F := fun n (s : Int32 × Int32) => B_X1_sum_L14 I A (nI y) n s.1 s.2) (s := (acc, 0)) (fun k s => s.1 = acc + sm k (fun x => ec w h (I 7) (I 8) (dd A) (hh A) x y) ∧ s.2 = nI k) w _ (by have := C.w12; omega) ⟨(Int32.add_zero _).symm, rfl⟩ ?_ ?_
  · intro k n s hk hP
    obtain ⟨a, b⟩ := s
    obtain ⟨h1, h2⟩ := hP
    dsimp only at h1 h2
    subst h1 h2
    refine ⟨(acc + sm (k + 1) (fun x => ec w h (I 7) (I 8) (dd A) (hh A) x y), nI (k + 1)), ?_, rfl, rfl⟩
    dsimp only
    have e : ∀ z, B_X1_sum_J76 (B_X1_sum_L14 I A (nI y) n) I A z (nI y) (nI k) (dd A k y) = B_X1_sum_L14 I A (nI y) n (z + (if y + 1 < h then I 8 * B_X6_squareApart (dd A k y) (dd A k (y + 1)) else 0)) (nI (k + 1)) := by
      intro z
      unfold B_X1_sum_J76
      rw [nI_1, nI_1]
      by_cases h1 : y + 1 < h
      · rw [C.hin hk h1, if_neg (by decide), C.dirAt hk h1, if_pos h1]
      · rw [C.hoy (by omega) (by have := C.h12; omega), if_pos rfl, if_neg h1, Int32.add_zero]
    rw [B_X1_sum_L14_s, C.W, if_neg (nI_ge hk (by have := C.w12; omega)), C.dirAt hk hy, nn_num, C.held (C.cell hk hy), e, e, nI_1, sm_s]
    by_cases h1 : k + 1 < w
    · rw [C.hin h1 hy, if_neg (by decide), C.dirAt h1 hy]
      unfold ec
      rw [if_pos h1]
      simp only [Int32.add_assoc]
      rfl
    · rw [C.hox (by omega) (by have := C.w12; omega), if_pos rfl]
      unfold ec
      rw [if_neg h1, Int32.add_zero, Int32.add_assoc, Int32.add_assoc]
      rfl
  · intro n s hP
    obtain ⟨a, b⟩ := s
    obtain ⟨h1, h2⟩ := hP
    dsimp only at h1 h2
    subst h1 h2
    refine ⟨_, ?_, rfl⟩
    dsimp only
    rw [B_X1_sum_L14_s, C.W, if_pos (nI_le (Nat.le_refl _) (by have := C.w12; omega))]
theorem Co.sum (C : Co w h np I A) : B_X1_sum I A = some (en w h (I 7) (I 8) A) := by
  have : ∃ r, B_X1_sum_L4 I A FU 0 0 = some r ∧ r = en w h (I 7) (I 8) A := by
    refine ng_lp0 (F := fun n (s : Int32 × Int32) => B_X1_sum_L4 I A n s.1 s.2) (s := (0, 0)) (fun k s => s.1 = sm k (fun y => sm w (fun x => ec w h (I 7) (I 8) (dd A) (hh A) x y)) ∧ s.2 = nI k) h _ (by have := C.h12; omega) ⟨rfl, rfl⟩ ?_ ?_
    · intro k n s hk hP
      obtain ⟨a, b⟩ := s
      obtain ⟨h1, h2⟩ := hP
      dsimp only at h1 h2
      subst h1 h2
      refine ⟨(sm (k + 1) (fun y => sm w (fun x => ec w h (I 7) (I 8) (dd A) (hh A) x y)), nI (k + 1)), ?_, rfl, rfl⟩
      dsimp only
      obtain ⟨r, e1, e2⟩ := C.sumRow hk (sm k (fun y => sm w (fun x => ec w h (I 7) (I 8) (dd A) (hh A) x y)))
      rw [B_X1_sum_L4_s, C.H, if_neg (nI_ge hk (by have := C.h12; omega)), e1, bind_some', e2, nI_1]
      rfl
    · intro n s hP
      obtain ⟨a, b⟩ := s
      obtain ⟨h1, h2⟩ := hP
      dsimp only at h1 h2
      subst h1 h2
      refine ⟨_, ?_, rfl⟩
      dsimp only
      rw [B_X1_sum_L4_s, C.H, if_pos (nI_le (Nat.le_refl _) (by have := C.h12; omega))]
      rfl
  obtain ⟨r, e1, e2⟩ := this
  unfold B_X1_sum
  rw [e1, bind_some', e2]
theorem Co.pixAt (C : Co w h np I A) {x y : Nat} (hx : x < w) (hy : y < h) : B_X1_pixelAt I A (nI x) (nI y) = A 12 (12 * y + x) := by
  unfold B_X1_pixelAt
  rw [nn_num, rAt_nI (C.cell hx hy) (by decide)]
end
end REL

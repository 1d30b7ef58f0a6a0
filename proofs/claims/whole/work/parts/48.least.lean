section LEAST
theorem up_add {a b : Nat} {u v : Int32} (hu : up a u) (hv : up b v) : up (a + b) (u + v) := by
  obtain ⟨x, hx, rfl⟩ := hu
  obtain ⟨y, hy, rfl⟩ := hv
  exact ⟨x + y, by omega, nI_add x y⟩
theorem up_mul {a b : Nat} {u v : Int32} (hu : up a u) (hv : up b v) : up (a * b) (u * v) := by
  obtain ⟨x, hx, rfl⟩ := hu
  obtain ⟨y, hy, rfl⟩ := hv
  exact ⟨x * y, Nat.mul_le_mul hx hy, nI_mul x y⟩
theorem up_if {c : Prop} (i : Decidable c) {a : Nat} {u : Int32} (h : c → up a u) : up a (if c then u else 0) := by
  by_cases q : c
  · rw [if_pos q]; exact h q
  · rw [if_neg q]; exact ⟨0, by omega, rfl⟩
section
variable {w h np : Nat} {I J : Nat → Int32} {A B : Nat → Nat → Int32}
theorem Co.hdUp (C : Co w h np I A J B) {c : Nat} (hc : c < 144) {d : Int32} (hd0 : up 14 d) : up 9800 (hd A c d) := by
  unfold hd
  have np8 := C.np8
  refine up_mono (up_add (a := 4900) (b := 4900) ?_ ?_) (by omega)
  · refine up_if _ (fun q => ?_)
    obtain ⟨m1, m2, -⟩ := (C.kind c hc).2 q
    exact up_mono (up_mul m2 (sq_up m1 hd0)) (by omega)
  · by_cases q : A 12 c = -1
    · rw [if_pos q]; exact ⟨0, by omega, rfl⟩
    · rw [if_neg q]
      rcases (C.pix c hc).2 with z | ⟨p, hp, z⟩
      · exact absurd z q
      · rw [z, nI_clamp (by omega)]
        obtain ⟨f1, f2, -⟩ := C.field p (by omega)
        exact up_mono (up_mul f2 (sq_up f1 hd0)) (by omega)
theorem Co.eUp (C : Co w h np I A J B) {x y : Nat} (hx : x < w) (hy : y < h) {d : Int32} (hd0 : up 14 d) : up 13720 (B_X1_energyWith I A (nI x) (nI y) d) := by
  rw [C.eW hx hy]
  unfold ew
  have P : ∀ {p e : Int32}, up 20 p → up 14 e → up 980 (p * B_X6_squareApart e d) := fun hp he => up_mono (up_mul hp (sq_up he hd0)) (by omega)
  refine up_mono (up_add (a := 12740) (b := 980) (up_add (a := 11760) (b := 980) (up_add (a := 10780) (b := 980) (up_add (a := 9800) (b := 980) (C.hdUp (C.cell hx hy) hd0) ?_) ?_) ?_) ?_) (by omega)
  · exact up_if _ (fun q => P C.cost.1 (C.dup (show x - 1 < w by omega) hy))
  · exact up_if _ (fun q => P C.cost.1 (C.dup q hy))
  · exact up_if _ (fun q => P C.cost.2.1 (C.dup hx (show y - 1 < h by omega)))
  · exact up_if _ (fun q => P C.cost.2.1 (C.dup hx q))
/-- what two neighbours could have together -/
def vS2 (I : Nat → Int32) (A : Nat → Nat → Int32) (x y x' y' : Nat) (q : Int32) (one other : Int32) : Int32 :=
  (B_X1_energyWith I A (nI x) (nI y) one - q * B_X6_squareApart one (dd A x' y')) + (B_X1_energyWith I A (nI x') (nI y') other - q * B_X6_squareApart (dd A x y) other) + q * B_X6_squareApart one other
/-- r is the least of V over the pairs that may be -/
def IsMin (V : Int32 → Int32 → Int32) (l1 h1 l2 h2 : Nat) (r : Int32) : Prop :=
  (∀ a b, l1 ≤ a → a ≤ h1 → l2 ≤ b → b ≤ h2 → r ≤ V (nI a) (nI b)) ∧ ∃ a b, l1 ≤ a ∧ a ≤ h1 ∧ l2 ≤ b ∧ b ≤ h2 ∧ r = V (nI a) (nI b)
theorem IsMin.eq {V : Int32 → Int32 → Int32} {l1 h1 l2 h2 : Nat} {r s : Int32} (hr : IsMin V l1 h1 l2 h2 r) (hs : IsMin V l1 h1 l2 h2 s) : r = s := by
  obtain ⟨r1, a, b, a1, a2, b1, b2, ra⟩ := hr
  obtain ⟨s1, c, d, c1, c2, d1, d2, sa⟩ := hs
  apply Int32.le_antisymm
  · rw [sa]; exact r1 c d c1 c2 d1 d2
  · rw [ra]; exact s1 a b a1 a2 b1 b2
theorem min_le_l (a b : Int32) : B_J9_min_7cf53 a b ≤ a := by
  unfold B_J9_min_7cf53
  by_cases q : b < a
  · rw [if_pos q]; exact Int32.le_of_lt q
  · rw [if_neg q]; exact Int32.le_refl a
theorem min_le_r (a b : Int32) : B_J9_min_7cf53 a b ≤ b := by
  unfold B_J9_min_7cf53
  by_cases q : b < a
  · rw [if_pos q]; exact Int32.le_refl b
  · rw [if_neg q]
    rcases Int32.le_total a b with z | z
    · exact z
    · exact Int32.not_lt.mp q
theorem min_or (a b : Int32) : B_J9_min_7cf53 a b = a ∨ B_J9_min_7cf53 a b = b := by
  unfold B_J9_min_7cf53
  by_cases q : b < a
  · rw [if_pos q]; exact Or.inr rfl
  · rw [if_neg q]; exact Or.inl rfl
theorem lesser_inner (x1 x2 x4 x5 x6 x7 x8 x12 x13 x16 x17 : Int32) {l2 h2 : Nat} (hl : l2 ≤ h2) (hh : h2 < 1000) (m0 : Int32) : ∃ m, B_X1_leastOfTwo_L215 I A x1 x2 x4 x5 x6 x7 x8 x12 x13 (nI h2) x16 x17 FU m0 (nI l2) = some m ∧ m ≤ m0 ∧
    (∀ b, l2 ≤ b → b ≤ h2 → m ≤ (x17 + (B_X1_energyWith I A x4 x5 (nI b) - x6 * B_X6_squareApart x7 (nI b))) + x6 * B_X6_squareApart x16 (nI b)) ∧ (m = m0 ∨ ∃ b, l2 ≤ b ∧ b ≤ h2 ∧ m = (x17 + (B_X1_energyWith I A x4 x5 (nI b) - x6 * B_X6_squareApart x7 (nI b))) + x6 * B_X6_squareApart x16 (nI b)) := by
  refine ng_lp (fun n (s : Int32 × Int32) => B_X1_leastOfTwo_L215 I A x1 x2 x4 x5 x6 x7 x8 x12 x13 (nI h2) x16 x17 n s.1 s.2) (fun k s => l2 ≤ k ∧ s.2 = nI k ∧ s.1 ≤ m0 ∧ (∀ b, l2 ≤ b → b < k → s.1 ≤ (x17 + (B_X1_energyWith I A x4 x5 (nI b) - x6 * B_X6_squareApart x7 (nI b))) + x6 * B_X6_squareApart x16 (nI b)) ∧ (s.1 = m0 ∨ ∃ b, l2 ≤ b ∧ b < k ∧ s.1 = (x17 + (B_X1_energyWith I A x4 x5 (nI b) - x6 * B_X6_squareApart x7 (nI b))) + x6 * B_X6_squareApart x16 (nI b))) (h2 + 1) _ ?_ ?_ (h2 + 1 - l2) l2 FU (m0, nI l2) (by omega) (by show h2 + 1 - l2 < 2000; omega) ⟨Nat.le_refl _, rfl, Int32.le_refl m0, fun b h1 h2 => absurd h2 (by omega), Or.inl rfl⟩
  · intro k n s hk hP
    obtain ⟨m, z⟩ := s
    obtain ⟨p0, p1, p2, p3, p4⟩ := hP
    dsimp only at p0 p1 p2 p3 p4
    subst p1
    refine ⟨(B_J9_min_7cf53 m ((x17 + (B_X1_energyWith I A x4 x5 (nI k) - x6 * B_X6_squareApart x7 (nI k))) + x6 * B_X6_squareApart x16 (nI k)), nI (k + 1)), ?_, by omega, rfl, Int32.le_trans (min_le_l _ _) p2, ?_, ?_⟩
    · dsimp only
      rw [B_X1_leastOfTwo_L215_s, if_neg (nI_nlt (show k ≤ h2 by omega) (by omega)), nI_1]
    · intro b b1 b2
      by_cases e : b = k
      · rw [e]; exact min_le_r _ _
      · exact Int32.le_trans (min_le_l _ _) (p3 b b1 (by omega))
    · dsimp only
      rcases min_or m ((x17 + (B_X1_energyWith I A x4 x5 (nI k) - x6 * B_X6_squareApart x7 (nI k))) + x6 * B_X6_squareApart x16 (nI k)) with e | e
      · rw [e]
        rcases p4 with p4 | ⟨b, b1, b2, p4⟩
        · exact Or.inl p4
        · exact Or.inr ⟨b, b1, by omega, p4⟩
      · rw [e]
        exact Or.inr ⟨k, p0, by omega, rfl⟩
  · intro n s hP
    obtain ⟨m, z⟩ := s
    obtain ⟨p0, p1, p2, p3, p4⟩ := hP
    dsimp only at p0 p1 p2 p3 p4
    subst p1
    refine ⟨m, ?_, p2, fun b b1 b2 => p3 b b1 (by omega), ?_⟩
    · dsimp only
      rw [B_X1_leastOfTwo_L215_s, if_pos (nI_lt (by omega) (by omega))]
    · rcases p4 with p4 | ⟨b, b1, b2, p4⟩
      · exact Or.inl p4
      · exact Or.inr ⟨b, b1, by omega, p4⟩
end
end LEAST

section BEGIN
theorem rFill_at {n j : Nat} {f : Nat → Int32} {v : Int32} (h : j < n) : rFill n f v j = v := if_pos h
theorem beg {w h : Nat} {I : Nat → Int32} {A : Nat → Nat → Int32} (p1 : CostP (I 7) (I 8)) (p2 : FieldP (A 4) (A 5)) (p3 : up 14 (I 0)) (p4 : ∀ j, j < 64 → up 99 (A 7 j)) (w2 : 2 ≤ w) (w12 : w ≤ 12) (h2 : 2 ≤ h) (h12 : h ≤ 12) :
    ∃ I' A', B_X6_beginAnew I A (nI w) (nI h) = some (I', A') ∧ Inv w h 0 0 0 I' A' ∧ I' 7 = I 7 ∧ I' 8 = I 8 ∧ I' 0 = I 0 ∧ A' 4 = A 4 ∧ A' 5 = A 5 ∧ A' 7 = A 7 := by
  have hen : ∀ (A' : Nat → Nat → Int32) (P Q : Int32), (∀ j, j < 144 → A' 8 j = 0) → (∀ j, j < 144 → A' 9 j = 0) → (∀ j, j < 144 → A' 12 j = -1) → (0 : Int32) = en w h P Q A' := by
    intro A' P Q z1 z2 z3
    symm
    apply gs_zero
    intro x y hx hy
    unfold ec hh hd dd
    rw [z2 _ (by omega), z3 _ (by omega), z1 _ (by omega), if_neg (by decide), if_pos rfl]
    have s0 : B_X6_squareApart 0 0 = 0 := by decide
    have r1 : (if x + 1 < w then P * B_X6_squareApart 0 (A' 8 (12 * y + (x + 1))) else 0) = 0 := by
      by_cases c : x + 1 < w
      · rw [if_pos c, z1 _ (by omega), s0, Int32.mul_zero]
      · rw [if_neg c]
    have r2 : (if y + 1 < h then Q * B_X6_squareApart 0 (A' 8 (12 * (y + 1) + x)) else 0) = 0 := by
      by_cases c : y + 1 < h
      · rw [if_pos c, z1 _ (by omega), s0, Int32.mul_zero]
      · rw [if_neg c]
    rw [r1, r2]
    rfl
  refine ⟨_, _, rfl, ⟨⟨⟨rfl, rfl, w2, w12, h2, h12⟩, p1, ?_, ?_, ?_, p2, by omega⟩, ⟨⟨rfl, by omega⟩, ⟨rfl, by omega⟩, ⟨rfl, by omega⟩, p3, ?_, ⟨p4, fun p hp => absurd hp (Nat.not_lt_zero _)⟩, ?_⟩, ?_, ?_⟩, rfl, rfl, rfl, rfl, rfl, rfl⟩
  · intro j hj
    show up 14 (rFill 144 (A 8) 0 j)
    rw [rFill_at hj]
    exact ⟨0, by omega, rfl⟩
  · intro j hj
    show rFill 144 (A 9) 0 j = 2 → _
    rw [rFill_at hj]
    exact fun z => absurd z (by decide)
  · intro j hj
    show rFill 144 (A 12) (-1) j = -1 ∨ _
    rw [rFill_at hj]
    exact Or.inl rfl
  · intro p hp
    exact absurd hp (Nat.not_lt_zero _)
  · intro k hk
    exact absurd hk (Nat.not_lt_zero _)
  · exact hen _ _ _ (fun j hj => rFill_at hj) (fun j hj => rFill_at hj) (fun j hj => rFill_at hj)
  · show (0 : Int32) = 0 - 0
    decide
theorem st_grid {w h w' h' np nd t : Nat} {I : Nat → Int32} {A : Nat → Nat → Int32} (V : Inv w' h' np nd t I A) (w2 : 2 ≤ w) (w12 : w ≤ 12) (h2 : 2 ≤ h) (h12 : h ≤ 12) :
    ∃ I' A', B_X6_grid I A (nI w) (nI h) = some (I', A') ∧ Inv w h 0 0 0 I' A' := by
  unfold B_X6_grid
  rw [show B_X6_isIn (nI w) 2 12 = 1 from isIn_is (a := 2) (b := 12) w2 w12 (by decide), if10, show B_X6_isIn (nI h) 2 12 = 1 from isIn_is (a := 2) (b := 12) h2 h12 (by decide), if10]
  obtain ⟨C, ⟨s1, s2, s4, s5, s6, s7, s8⟩, E, F⟩ := V
  obtain ⟨I', A', e, V', -⟩ := beg C.cost C.field s5 s7.1 w2 w12 h2 h12
  rw [e, bind_some']
  exact ⟨_, _, rfl, V'⟩
end BEGIN

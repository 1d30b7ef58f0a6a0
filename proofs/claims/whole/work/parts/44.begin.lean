section BEGIN
/-- what holds ahead of a new grid -/
def Pre (I : Nat → Int32) (A : Nat → Nat → Int32) (J : Nat → Int32) (B : Nat → Nat → Int32) : Prop :=
  CostP (I 7) (I 8) (J 3) (J 4) ∧ FieldP (A 4) (A 5) (B 5) (B 6) ∧ (up 14 (I 0) ∧ J 5 = I 0) ∧ (∀ j, j < 64 → up 100 (A 7 j) ∧ B 7 j = A 7 j) ∧ (∀ j, j < 8 → B 8 j = A 6 j) ∧
  (∀ k, k < 40 → B 9 k = A 13 k ∧ B 10 k = A 14 k ∧ B 11 k = A 15 k ∧ B 12 k = A 16 k) ∧ (∀ k, k < 10 → B 13 k = A 17 k) ∧ (∀ j, j < 1440 → B 14 j = A 18 j)
theorem mbegin (J : Nat → Int32) (B : Nat → Nat → Int32) : ∃ Bk, B_X7_begin J B = some (va_up (va_up (va_up (va_up (va_up (va_up J 9 0) 10 0) 11 0) 6 0) 7 0) 8 0, Bk) ∧ (∀ j, j < 144 → Bk 0 j = 0 ∧ Bk 1 j = 0 ∧ Bk 4 j = -1) ∧ ∀ i, i ≠ 0 → i ≠ 1 → i ≠ 4 → Bk i = B i := by
  have : ∃ r, B_X7_begin_L2 FU 0 J B = some r ∧ ∃ Bk, r = (J, Bk) ∧ (∀ j, j < 144 → Bk 0 j = 0 ∧ Bk 1 j = 0 ∧ Bk 4 j = -1) ∧ ∀ i, i ≠ 0 → i ≠ 1 → i ≠ 4 → Bk i = B i := by
    refine ng_lp0 (F := fun n (s : Int32 × (Nat → Int32) × (Nat → Nat → Int32)) => B_X7_begin_L2 n s.1 s.2.1 s.2.2) (s := (0, J, B)) (fun k s => ∃ Bk, s = (nI k, J, Bk) ∧ (∀ j, j < k → Bk 0 j = 0 ∧ Bk 1 j = 0 ∧ Bk 4 j = -1) ∧ ∀ i, i ≠ 0 → i ≠ 1 → i ≠ 4 → Bk i = B i) 144 _ (by decide) ⟨B, rfl, fun j hj => absurd hj (Nat.not_lt_zero _), fun _ _ _ _ => rfl⟩ ?_ ?_
    · rintro k n s hk ⟨Bk, rfl, q1, q2⟩
      refine ⟨(nI (k + 1), J, va_up (va_up (va_up Bk 0 (upd (Bk 0) k 0)) 1 (upd (Bk 1) k 0)) 4 (upd (Bk 4) k (-1))), ?_, _, rfl, ?_, ?_⟩
      · dsimp only
        rw [B_X7_begin_L2_s, if_neg (show ¬ (144 : Int32) ≤ nI k from nI_ge (b := 144) hk (by decide)), wr_nI hk (by decide), bind_some', wr_nI hk (by decide), bind_some', wr_nI hk (by decide), bind_some', nI_1]
        rfl
      · intro j hj
        show upd (Bk 0) k 0 j = 0 ∧ upd (Bk 1) k 0 j = 0 ∧ upd (Bk 4) k (-1) j = -1
        rw [upd_at, upd_at, upd_at]
        by_cases e : j = k
        · rw [if_pos e, if_pos e, if_pos e]
          exact ⟨rfl, rfl, rfl⟩
        · rw [if_neg e, if_neg e, if_neg e]
          exact q1 j (by omega)
      · intro i h0 h1 h4
        rw [ng_va, if_neg h4, ng_va, if_neg h1, ng_va, if_neg h0]
        exact q2 i h0 h1 h4
    · rintro n s ⟨Bk, rfl, q1, q2⟩
      refine ⟨_, ?_, Bk, rfl, q1, q2⟩
      dsimp only
      rw [B_X7_begin_L2_s, if_pos (by decide)]
  obtain ⟨r, e, Bk, rfl, q1, q2⟩ := this
  refine ⟨Bk, ?_, q1, q2⟩
  unfold B_X7_begin
  rw [e, bind_some']
theorem rFill_at {n j : Nat} {f : Nat → Int32} {v : Int32} (h : j < n) : rFill n f v j = v := if_pos h
theorem beg {w h : Nat} {I J : Nat → Int32} {A B : Nat → Nat → Int32} (P : Pre I A J B) (w2 : 2 ≤ w) (w12 : w ≤ 12) (h2 : 2 ≤ h) (h12 : h ≤ 12) (hJ1 : J 1 = nI w) (hJ2 : J 2 = nI h) :
    ∃ I' A' J' B', B_X6_beginAnew I A (nI w) (nI h) = some (I', A') ∧ B_X7_begin J B = some (J', B') ∧ Rel I' A' J' B' ∧ J' 0 = J 0 := by
  obtain ⟨p1, p2, p3, p4, p5, p6, p7, p8⟩ := P
  obtain ⟨Bk, em, q1, q2⟩ := mbegin J B
  refine ⟨_, _, _, _, rfl, em, ?_, rfl⟩
  have b : ∀ i, i ≠ 0 → i ≠ 1 → i ≠ 4 → Bk i = B i := q2
  have hen : ∀ (A' : Nat → Nat → Int32) (P Q : Int32), (∀ j, j < 144 → A' 8 j = 0) → (∀ j, j < 144 → A' 9 j = 0) → (∀ j, j < 144 → A' 12 j = -1) → (0 : Int32) = en w h P Q A' := by
    intro A' P Q z1 z2 z3
    symm
    apply gs_zero
    intro x y hx hy
    unfold ec hh hd dd
    rw [z2 _ (by omega), z3 _ (by omega), z1 _ (by omega), if_neg (by decide), if_pos rfl]
    have s0 : B_X6_squareApart 0 0 = 0 := by decide
    have r1 : (if x + 1 < w then P * B_X6_squareApart 0 (A' 8 (12 * y + (x + 1))) else 0) = 0 := by
      by_cases c : x + 1 < w
      · rw [if_pos c, z1 _ (by omega), s0, Int32.mul_zero]
      · rw [if_neg c]
    have r2 : (if y + 1 < h then Q * B_X6_squareApart 0 (A' 8 (12 * (y + 1) + x)) else 0) = 0 := by
      by_cases c : y + 1 < h
      · rw [if_pos c, z1 _ (by omega), s0, Int32.mul_zero]
      · rw [if_neg c]
    rw [r1, r2]
    rfl
  refine ⟨w, h, 0, 0, 0, 0, ⟨⟨rfl, rfl, ?_, ?_, w2, w12, h2, h12⟩, p1, ?_, ?_, ?_, ?_, by omega⟩, ⟨⟨rfl, by omega, rfl⟩, ⟨rfl, by omega, rfl⟩, ⟨rfl, by omega, rfl⟩, ⟨rfl, by omega, rfl⟩, p3, ?_, ?_, ?_, ?_⟩, ?_, rfl, rfl⟩
  · exact hJ1
  · exact hJ2
  · intro j hj
    show up 14 (rFill 144 (A 8) 0 j) ∧ Bk 0 j = rFill 144 (A 8) 0 j
    rw [rFill_at hj, (q1 j hj).1]
    exact ⟨⟨0, by omega, rfl⟩, rfl⟩
  · intro j hj
    show Bk 1 j = rFill 144 (A 9) 0 j ∧ (rFill 144 (A 9) 0 j = 2 → _)
    rw [rFill_at hj, (q1 j hj).2.1]
    exact ⟨rfl, fun z => absurd z (by decide)⟩
  · intro j hj
    show Bk 4 j = rFill 144 (A 12) (-1) j ∧ (rFill 144 (A 12) (-1) j = -1 ∨ _)
    rw [rFill_at hj, (q1 j hj).2.2]
    exact ⟨rfl, Or.inl rfl⟩
  · rw [b 5 (by decide) (by decide) (by decide), b 6 (by decide) (by decide) (by decide)]
    exact p2
  · intro p hp
    exact absurd hp (Nat.not_lt_zero _)
  · rw [b 7 (by decide) (by decide) (by decide), b 8 (by decide) (by decide) (by decide)]
    exact ⟨p4, p5, fun p hp => absurd hp (Nat.not_lt_zero _)⟩
  · intro k hk
    rw [b 9 (by decide) (by decide) (by decide), b 10 (by decide) (by decide) (by decide), b 11 (by decide) (by decide) (by decide), b 12 (by decide) (by decide) (by decide)]
    exact ⟨p6 k hk, fun z => absurd z (Nat.not_lt_zero _)⟩
  · rw [b 13 (by decide) (by decide) (by decide), b 14 (by decide) (by decide) (by decide)]
    exact ⟨fun k hk => ⟨p7 k hk, fun z => absurd z (Nat.not_lt_zero _)⟩, p8⟩
  · exact hen _ _ _ (fun j hj => rFill_at hj) (fun j hj => rFill_at hj) (fun j hj => rFill_at hj)
/-- how grid ends -/
def GoodG (o : Option OutT) (q : Option ((Nat → Int32) × (Nat → Nat → Int32))) : Prop :=
  (∃ v I A J B, o = some (.inl (v, I, A)) ∧ q = some (J, B) ∧ J 0 = 0 ∧ Rel I A J B) ∨
  (∃ k c I A J B, o = some (.inr (k, I, A)) ∧ q = some (J, B) ∧ (k, c) ∈ [(0, 1)] ∧ J 0 = nI c ∧ Rel I A J B)
theorem st_grid {I J : Nat → Int32} {A B : Nat → Nat → Int32} (R : Rel I A J B) (x1 x2 : Int32) : GoodG (B_X6_grid I A x1 x2) (B_X7_grid J B x1 x2) := by
  unfold B_X6_grid B_X7_grid B_X7_grid_J25
  obtain ⟨J0, hJ, h0, R⟩ := th0 R
  rw [hJ]
  clear hJ
  have bad : GoodG (some (.inr (0, I, A))) ((B_X7_stop J0 B 1).bind fun q_2 => some (q_2.2.1, q_2.2.2)) := Or.inr ⟨0, 1, I, A, _, _, rfl, rfl, by decide, rfl, R.th _⟩
  rw [show B_X7_in x1 2 12 = B_X6_isIn x1 2 12 from rfl, show B_X7_in x2 2 12 = B_X6_isIn x2 2 12 from rfl]
  rcases isIn_cases (x := x1) (a := 2) (b := 12) (by decide) (by decide) with e | ⟨e, w, w2, w12, rfl⟩
  · rw [show B_X6_isIn x1 2 12 = 0 from e, if00, if00]
    exact bad
  rw [show B_X6_isIn (nI w) 2 12 = 1 from e, if10, if10]
  rcases isIn_cases (x := x2) (a := 2) (b := 12) (by decide) (by decide) with e | ⟨e, h, h2, h12, rfl⟩
  · rw [show B_X6_isIn x2 2 12 = 0 from e, if00, if00]
    exact bad
  rw [show B_X6_isIn (nI h) 2 12 = 1 from e, if10, if10]
  obtain ⟨w', h', np, nd, nq, t, C, S, E, F1, F2⟩ := R
  obtain ⟨s1, s2, s3, s4, s5, s6, s7, s8, s9⟩ := S
  have P : Pre I A (va_up (va_up J0 1 (nI w)) 2 (nI h)) B := ⟨C.cost, C.field, s5, s7.1, s7.2.1, fun k hk => (s8 k hk).1, fun k hk => (s9.1 k hk).1, s9.2⟩
  obtain ⟨I', A', J', B', e1, e2, e3, e4⟩ := beg P w2 w12 h2 h12 rfl rfl
  rw [e1, e2, bind_some', bind_some']
  exact Or.inl ⟨0, I', A', J', B', rfl, rfl, e4.trans h0, e3⟩
end BEGIN

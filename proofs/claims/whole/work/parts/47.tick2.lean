section TICK2
theorem en_same {w h : Nat} {p q : Int32} {A A' : Nat → Nat → Int32} (e : ∀ i, i ≠ 6 → i ≠ 7 → A' i = A i) : en w h p q A' = en w h p q A := by
  have e1 : dd A' = dd A := by
    funext x y
    unfold dd
    rw [e 8 (by decide) (by decide)]
  have e2 : hh A' = hh A := by
    funext x y
    unfold hh hd
    rw [e 8 (by decide) (by decide), e 9 (by decide) (by decide), e 10 (by decide) (by decide), e 11 (by decide) (by decide), e 12 (by decide) (by decide), e 4 (by decide) (by decide), e 5 (by decide) (by decide)]
  unfold en
  rw [e1, e2]
theorem st_tick {I J : Nat → Int32} {A B : Nat → Nat → Int32} (R : Rel I A J B) (x1 : Int32) : Good [(0, 1), (2, 2)] (B_X6_tick I A x1) (B_X7_tick J B x1) := by
  unfold B_X6_tick B_X7_tick
  obtain ⟨J0, hJ, h0, R⟩ := th0 R
  rw [hJ]
  clear hJ
  have RR := R
  obtain ⟨w, h, np, nd, nq, t, C, S, E, F1, F2⟩ := R
  rw [show B_X7_in x1 1 50 = B_X6_isIn x1 1 50 from rfl]
  rcases isIn_cases (x := x1) (a := 1) (b := 50) (by decide) (by decide) with e | ⟨e, m, m1, m50, rfl⟩
  · rw [show B_X6_isIn x1 1 50 = 0 from e, if00, if00]
    exact good_x RR (by decide)
  have s4 := S.2.2.2.1
  have t2000 := s4.2.1
  rw [show B_X6_isIn (nI m) 1 50 = 1 from e, if10, if10, s4.2.2, s4.1, nI_add]
  by_cases q : t + m ≤ 2000
  case neg =>
    have : ¬ nI (t + m) ≤ (2000 : Int32) := nI_ge (b := t + m) (a := 2000) (by omega) (by omega)
    rw [if_neg this, if_neg this]
    exact good_x RR (by decide)
  have : nI (t + m) ≤ (2000 : Int32) := nI_le (b := 2000) q (by decide)
  rw [if_pos this, if_pos this]
  have all : ∃ r q, B_X6_tick_L49 (nI m) (I 3) FU 0 I A = some r ∧ B_X7_tick_L43 (nI m) FU 0 0 J0 B = some q ∧ ∃ f nd' I' A' J' B', r = (I', A') ∧ q = (f, J', B') ∧ Co w h np I' A' J' B' ∧ Rs w h np nd' nq (t + m) I' A' J' B' ∧ I' 9 = en w h (I' 7) (I' 8) A' ∧ J' 7 = I' 2 ∧ I' 3 = J' 8 + f ∧ J' 8 = J0 8 ∧ J' 0 = 0 := by
    refine ng_lp20 (F := fun n (s : Int32 × (Nat → Int32) × (Nat → Nat → Int32)) => B_X6_tick_L49 (nI m) (I 3) n s.1 s.2.1 s.2.2) (G := fun n (s : Int32 × Int32 × (Nat → Int32) × (Nat → Nat → Int32)) => B_X7_tick_L43 (nI m) n s.1 s.2.1 s.2.2.1 s.2.2.2) (s := (0, I, A)) (t := (0, 0, J0, B))
      (fun k s t' => ∃ f nd' I' A' J' B', s = (nI k, I', A') ∧ t' = (f, nI k, J', B') ∧ Co w h np I' A' J' B' ∧ Rs w h np nd' nq (t + k) I' A' J' B' ∧ I' 9 = en w h (I' 7) (I' 8) A' ∧ J' 7 = I' 2 ∧ I' 3 = J' 8 + f ∧ J' 8 = J0 8 ∧ J' 0 = 0) m _ (by omega) ?_ ?_ ?_
    · exact ⟨0, nd, I, A, J0, B, rfl, rfl, C, S, E, F1, by rw [F2, Int32.add_zero], rfl, h0⟩
    · rintro k n s t' hk ⟨f, nd', I, A, J, B, rfl, rfl, c1, c2, c3, c4, c5, c6, c7⟩
      obtain ⟨s1, s2, s3, s4, s5, s6, s7, s8, s9⟩ := c2
      have C1 : Co w h np (va_up I 1 (I 1 + 1)) A (va_up J 6 (J 6 + 1)) B := c1
      have S1 : Rs w h np nd' nq (t + k + 1) (va_up I 1 (I 1 + 1)) A (va_up J 6 (J 6 + 1)) B := by
        refine ⟨s1, s2, s3, ⟨?_, by omega, ?_⟩, s5, s6, ⟨s7.1, s7.2.1, fun p hp => up_mono (s7.2.2 p hp) (by omega)⟩, s8, s9⟩
        · show I 1 + 1 = _
          rw [s4.1, nI_1]
        · show J 6 + 1 = I 1 + 1
          rw [s4.2.2]
      obtain ⟨g, nd2, I2, A2, J2, B2, e1, e2, C2, S2, E2, F2', i2, i3, j8, j0, a6, a7, b7, b8⟩ := come C1 S1 c3 c4
      have C3 : Co w h np (va_up I2 2 (I2 2 + g)) A2 J2 B2 := C2
      obtain ⟨f', I4, A4, B4, r1, r2, C4, E4, f4, x4, a4, b4⟩ := relaxAll (nI m) (nI k) (f0 := f) C3 E2
      obtain ⟨z1, z2, z3, z4, z5, z6, z7, z8, z9⟩ := S2
      have N4 : NoteP np (t + k) (A4 6) (A4 7) (B4 8) (B4 7) := by
        rw [a4 6 (by decide), a4 7 (by decide), b4 8 (by decide), b4 7 (by decide), a6, a7, b7, b8]
        exact s7
      have R4 : RectP w h np (A4 0) (A4 1) (A4 2) (A4 3) (A4 12) := by
        rw [a4 0 (by decide), a4 1 (by decide), a4 2 (by decide), a4 3 (by decide), a4 12 (by decide)]
        exact z6
      have K1 : CntP np 8 (va_up I4 3 ((va_up I2 2 (I2 2 + g)) 3 + ((va_up I2 2 (I2 2 + g)) 9 - I4 9)) 4) (J2 9) := by
        show CntP np 8 (I4 4) (J2 9)
        rw [x4 4 (by decide)]
        exact z1
      have K5 : up 14 (va_up I4 3 ((va_up I2 2 (I2 2 + g)) 3 + ((va_up I2 2 (I2 2 + g)) 9 - I4 9)) 0) ∧ J2 5 = va_up I4 3 ((va_up I2 2 (I2 2 + g)) 3 + ((va_up I2 2 (I2 2 + g)) 9 - I4 9)) 0 := by
        show up 14 (I4 0) ∧ J2 5 = I4 0
        rw [x4 0 (by decide)]
        exact z5
      obtain ⟨A6, B6, n1, n2, N6, a66, b66⟩ := notes (I := va_up I4 3 ((va_up I2 2 (I2 2 + g)) 3 + ((va_up I2 2 (I2 2 + g)) 9 - I4 9))) (nI m) f' (nI k) (show Co w h np (va_up I4 3 _) A4 J2 B4 from C4) K1 K5 R4 N4 (by omega)
      dsimp only
      rw [B_X6_tick_L49_s, B_X7_tick_L43_s, if_neg (nI_ge hk (by omega)), if_neg (nI_ge hk (by omega)), e1, bind_some', e2, bind_some', show B_X6_worked I2 A2 g = some (g, va_up I2 2 (I2 2 + g), A2) from rfl, bind_some', r2, bind_some', r1, bind_some']
      dsimp only
      rw [n1, n2, bind_some', bind_some', nI_1]
      refine ⟨(nI (k + 1), va_up I4 3 ((va_up I2 2 (I2 2 + g)) 3 + ((va_up I2 2 (I2 2 + g)) 9 - I4 9)), A6), (f', nI (k + 1), J2, B6), rfl, rfl, f', nd2, _, _, _, _, rfl, rfl, ⟨C4.geo, C4.cost, ?_, ?_, ?_, ?_, C4.np8⟩, ⟨K1, ?_, ?_, ?_, K5, ?_, N6, ?_, ?_⟩, ?_, ?_, ?_, ?_, ?_⟩
      · rw [a66 8 (by decide) (by decide), b66 0 (by decide) (by decide)]; exact C4.dir
      · rw [a66 9 (by decide) (by decide), a66 10 (by decide) (by decide), a66 11 (by decide) (by decide), b66 1 (by decide) (by decide), b66 2 (by decide) (by decide), b66 3 (by decide) (by decide)]; exact C4.kind
      · rw [a66 12 (by decide) (by decide), b66 4 (by decide) (by decide)]; exact C4.pix
      · rw [a66 4 (by decide) (by decide), a66 5 (by decide) (by decide), b66 5 (by decide) (by decide), b66 6 (by decide) (by decide)]; exact C4.field
      · show CntP nd2 40 (I4 10) (J2 10)
        rw [x4 10 (by decide)]
        exact z2
      · show CntP nq 10 (I4 11) (J2 11)
        rw [x4 11 (by decide)]
        exact z3
      · show CntP (t + (k + 1)) 2000 (I4 1) (J2 6)
        rw [x4 1 (by decide)]
        exact z4
      · rw [a66 0 (by decide) (by decide), a66 1 (by decide) (by decide), a66 2 (by decide) (by decide), a66 3 (by decide) (by decide), a66 12 (by decide) (by decide)]
        exact R4
      · rw [a66 13 (by decide) (by decide), a66 14 (by decide) (by decide), a66 15 (by decide) (by decide), a66 16 (by decide) (by decide), b66 9 (by decide) (by decide), b66 10 (by decide) (by decide), b66 11 (by decide) (by decide), b66 12 (by decide) (by decide), a4 13 (by decide), a4 14 (by decide), a4 15 (by decide), a4 16 (by decide), b4 9 (by decide), b4 10 (by decide), b4 11 (by decide), b4 12 (by decide)]
        exact z8
      · rw [a66 17 (by decide) (by decide), a66 18 (by decide) (by decide), b66 13 (by decide) (by decide), b66 14 (by decide) (by decide), a4 17 (by decide), a4 18 (by decide), b4 13 (by decide), b4 14 (by decide)]
        exact z9
      · show I4 9 = en w h (I4 7) (I4 8) A6
        rw [en_same a66]
        exact E4
      · show J2 7 = I4 2
        rw [x4 2 (by decide), F2']
        rfl
      · show (va_up I2 2 (I2 2 + g)) 3 + ((va_up I2 2 (I2 2 + g)) 9 - I4 9) = J2 8 + f'
        rw [f4, j8]
        show I2 3 + _ = J 8 + _
        rw [i3]
        show I 3 + _ = J 8 + _
        rw [c5, Int32.add_assoc]
      · rw [j8]
        exact c6
      · rw [j0]
        exact c7
    · rintro n s t' ⟨f, nd', I, A, J, B, rfl, rfl, c⟩
      refine ⟨_, _, ?_, ?_, f, nd', I, A, J, B, rfl, rfl, c⟩
      · dsimp only
        rw [B_X6_tick_L49_s, if_pos (nI_le (Nat.le_refl _) (by omega))]
      · dsimp only
        rw [B_X7_tick_L43_s, if_pos (nI_le (Nat.le_refl _) (by omega))]
  obtain ⟨r, q', e1, e2, f, nd', I', A', J', B', rfl, rfl, c1, c2, c3, c4, c5, c6, c7⟩ := all
  rw [e1, e2, bind_some', bind_some']
  have ev : I' 3 - I 3 = f := by rw [c5, c6, F2, add_sub_l]
  dsimp only
  rw [ev]
  refine Or.inl ⟨f, I', A', va_up J' 8 (J' 8 + f), B', rfl, rfl, c7, w, h, np, nd', nq, t + m, c1, c2, c3, c4, ?_⟩
  show J' 8 + f = I' 3
  rw [c5]
end TICK2

section DRIVE
theorem pix_cases {n : Nat} (hn : n < 2 ^ 31) {I J : Nat → Int32} {A B : Nat → Nat → Int32} (h1 : I 4 = nI n) (h2 : J 9 = I 4) (x : Int32) : (B_X3_has I A x = 0 ∧ B_X7_isPixel J B x = 0) ∨ (B_X3_has I A x = 1 ∧ B_X7_isPixel J B x = 1 ∧ ∃ k, k < n ∧ x = nI k) := by
  unfold B_X3_has B_X7_isPixel
  rw [h2, h1]
  exact cnt_cases hn x
theorem st_drive {I J : Nat → Int32} {A B : Nat → Nat → Int32} (R : Rel I A J B) (x1 x2 x3 : Int32) : Good [(1, 1), (0, 2)] (B_X6_drive I A x1 x2 x3) (B_X7_drive J B x1 x2 x3) := by
  unfold B_X6_drive B_X7_drive
  obtain ⟨J0, hJ, h0, R⟩ := th0 R
  rw [hJ]
  clear hJ
  have RR := R
  obtain ⟨w, h, np, nd, nq, t, C, S, E, F1, F2⟩ := R
  have np8 := C.np8
  rcases pix_cases (A := A) (B := B) (show np < 2 ^ 31 by omega) S.1.1 S.1.2.2 x1 with ⟨e1, e2⟩ | ⟨e1, e2, p, hp, rfl⟩
  · rw [e1, e2, if00, if00]
    exact good_x RR (by decide)
  rw [e1, e2, if10, if10, show B_X7_isDirection x2 = B_X6_isIn x2 0 14 from rfl, show B_X6_isDirection x2 = B_X6_isIn x2 0 14 from rfl]
  rcases isIn_cases (x := x2) (a := 0) (b := 14) (by decide) (by decide) with e | ⟨e, d, -, hd0, rfl⟩
  · rw [show B_X6_isIn x2 0 14 = 0 from e, if00, if00]
    exact good_x RR (by decide)
  rw [show B_X6_isIn (nI d) 0 14 = 1 from e, if10, if10, show B_X7_in x3 0 100 = B_X6_isIn x3 0 100 from rfl]
  rcases isIn_cases (x := x3) (a := 0) (b := 100) (by decide) (by decide) with e | ⟨e, s, -, hs0, rfl⟩
  · rw [show B_X6_isIn x3 0 100 = 0 from e, if00, if00]
    exact good_x RR (by decide)
  rw [show B_X6_isIn (nI s) 0 100 = 1 from e, if10, if10]
  obtain ⟨g, g1, g2⟩ := C.setField S.2.2.2.2.2.1 hp (up_nI hd0) (up_nI hs0)
  have C' := C.setA p (up_nI hd0) (up_nI hs0)
  unfold B_X7_driven
  rw [g1, bind_some', C.all, bind_some', ← E, wr_nI (show p < 8 by omega) (by decide), bind_some', wr_nI (show p < 8 by omega) (by decide), bind_some']
  rw [← E] at g2
  have k := fin_work (L := [(1, 1), (0, 2)]) C' S h0 F1 F2 g2.symm
  unfold B_X7_worked at k ⊢
  rw [C'.all, bind_some', bind_some'] at k
  rw [show B_X7_all J0 (va_up (va_up B 5 (upd (B 5) p (nI d))) 6 (upd (va_up B 5 (upd (B 5) p (nI d)) 6) p (nI s))) = _ from C'.all, bind_some', bind_some', bind_some']
  exact k
theorem st_program {I J : Nat → Int32} {A B : Nat → Nat → Int32} (R : Rel I A J B) (x1 x2 x3 x4 : Int32) : Good [(1, 1), (0, 2), (2, 3)] (B_X6_program I A x1 x2 x3 x4) (B_X7_program J B x1 x2 x3 x4) := by
  unfold B_X6_program B_X7_program
  obtain ⟨J0, hJ, h0, R⟩ := th0 R
  rw [hJ]
  clear hJ
  have RR := R
  obtain ⟨w, h, np, nd, nq, t, C, S, E, F1, F2⟩ := R
  obtain ⟨s1, s2, s3, s4, s5, s6, s7, s8, s9⟩ := S
  have np8 := C.np8
  rcases pix_cases (A := A) (B := B) (show np < 2 ^ 31 by omega) s1.1 s1.2.2 x1 with ⟨e1, e2⟩ | ⟨e1, e2, p, hp, rfl⟩
  · rw [e1, e2, if00, if00]
    exact good_x RR (by decide)
  rw [e1, e2, if10, if10, s4.2.2]
  by_cases q1 : x2 ≤ I 1
  · rw [if_pos q1, if_pos q1]
    exact good_x RR (by decide)
  rw [if_neg q1, if_neg q1]
  by_cases q2 : x2 ≤ 2000
  · rw [if_pos q2, if_neg (show ¬ (2000 : Int32) < x2 from fun z => (Int32.not_le.mpr z) q2), show B_X7_isDirection x3 = B_X6_isIn x3 0 14 from rfl, show B_X6_isDirection x3 = B_X6_isIn x3 0 14 from rfl]
    rcases isIn_cases (x := x3) (a := 0) (b := 14) (by decide) (by decide) with e | ⟨e, d, -, hd0, rfl⟩
    · rw [show B_X6_isIn x3 0 14 = 0 from e, if00, if00]
      exact good_x RR (by decide)
    rw [show B_X6_isIn (nI d) 0 14 = 1 from e, if10, if10, show B_X7_in x4 0 100 = B_X6_isIn x4 0 100 from rfl]
    rcases isIn_cases (x := x4) (a := 0) (b := 100) (by decide) (by decide) with e | ⟨e, s, -, hs0, rfl⟩
    · rw [show B_X6_isIn x4 0 100 = 0 from e, if00, if00]
      exact good_x RR (by decide)
    rw [show B_X6_isIn (nI s) 0 100 = 1 from e, if10, if10, s2.2.2, s2.1]
    by_cases q : nd = 40
    · rw [if_neg (show ¬ nI nd < 40 by rw [q]; decide), if_pos (show nI nd = 40 by rw [q]; rfl)]
      exact good_x RR (by decide)
    have hq : nd < 40 := by have := s2.2.1; omega
    rw [if_pos (show nI nd < 40 from nI_lt (b := 40) hq (by decide)), if_neg (show ¬ nI nd = 40 from fun e => q (nI_inj (b := 40) (by omega) (by decide) e)), wr_nI hq (by decide), bind_some', wr_nI hq (by decide), bind_some', wr_nI hq (by decide), bind_some', wr_nI hq (by decide), bind_some']
    unfold B_X0_add B_X0_put
    rw [s2.1, rPut_nI hq (by decide), rPut_nI hq (by decide), rPut_nI hq (by decide), rPut_nI hq (by decide), bind_some', bind_some']
    dsimp only
    refine Or.inl ⟨I 10 + 1, _, _, va_up J0 10 (J0 10 + 1), va_up (va_up (va_up (va_up B 9 (upd (B 9) nd (nI p))) 10 (upd (B 10) nd x2)) 11 (upd (B 11) nd (nI d))) 12 (upd (B 12) nd (nI s)), rfl, ?_, h0, ?_⟩
    · rw [s2.2.2, s2.1]
      rfl
    · refine ⟨w, h, np, nd + 1, nq, t, C, ⟨s1, ⟨?_, by omega, ?_⟩, s3, s4, s5, s6, s7, ?_, s9⟩, E, F1, F2⟩
      · show I 10 + 1 = _
        rw [s2.1, nI_1]
      · show J0 10 + 1 = I 10 + 1
        rw [s2.2.2]
      · intro k hk
        show (upd (B 9) nd (nI p) k = upd (A 13) nd (nI p) k ∧ upd (B 10) nd x2 k = upd (A 14) nd x2 k ∧ upd (B 11) nd (nI d) k = upd (A 15) nd (nI d) k ∧ upd (B 12) nd (nI s) k = upd (A 16) nd (nI s) k) ∧ (k < nd + 1 → (∃ p', p' < np ∧ upd (A 13) nd (nI p) k = nI p') ∧ up 14 (upd (A 15) nd (nI d) k) ∧ up 100 (upd (A 16) nd (nI s) k))
        simp only [upd_at]
        by_cases e : k = nd
        · simp only [if_pos e]
          refine ⟨?_, fun _ => ⟨⟨p, hp, rfl⟩, up_nI hd0, up_nI hs0⟩⟩
          simp
        · simp only [if_neg e]
          exact ⟨(s8 k hk).1, fun _ => (s8 k hk).2 (by omega)⟩
  · rw [if_neg q2, if_pos (show (2000 : Int32) < x2 from Int32.not_le.mp q2)]
    exact good_x RR (by decide)
end DRIVE

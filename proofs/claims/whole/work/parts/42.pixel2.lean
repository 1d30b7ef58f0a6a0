section PIXEL2
theorem st_pixel {I J : Nat → Int32} {A B : Nat → Nat → Int32} (R : Rel I A J B) (x1 x2 x3 x4 : Int32) : Good [(1, 1), (0, 2), (2, 3)] (B_X6_pixel I A x1 x2 x3 x4) (B_X7_pixel J B x1 x2 x3 x4) := by
  unfold B_X6_pixel B_X7_pixel B_X7_pixel_J59
  obtain ⟨J0, hJ, h0, R⟩ := th0 R
  rw [hJ]
  clear hJ
  have RR := R
  obtain ⟨w, h, np, nd, nq, t, C, S, E, F1, F2⟩ := R
  obtain ⟨s1, s2, s3, s4, s5, s6, s7, s8, s9⟩ := S
  have w12 := C.w12
  have h12 := C.h12
  have np8 := C.np8
  rw [C.isCell]
  rcases C.has x1 x2 with e | ⟨e, x, y, hx, hy, rfl, rfl⟩
  · rw [e, if00, if00]
    exact good_x RR (by decide)
  rw [e, if10, if10, show B_X7_in x3 1 12 = B_X6_isIn x3 1 12 from rfl]
  rcases isIn_cases (x := x3) (a := 1) (b := 12) (by decide) (by decide) with e | ⟨e, u, u1, u12, rfl⟩
  · rw [show B_X6_isIn x3 1 12 = 0 from e, if00, if00]
    exact good_x RR (by decide)
  rw [show B_X6_isIn (nI u) 1 12 = 1 from e, if10, if10, show B_X7_in x4 1 12 = B_X6_isIn x4 1 12 from rfl]
  rcases isIn_cases (x := x4) (a := 1) (b := 12) (by decide) (by decide) with e | ⟨e, v, v1, v12, rfl⟩
  · rw [show B_X6_isIn x4 1 12 = 0 from e, if00, if00]
    exact good_x RR (by decide)
  rw [show B_X6_isIn (nI v) 1 12 = 1 from e, if10, if10, C.isCell, nI_add, nI_add, nI_sub1 (by omega), nI_sub1 (by omega)]
  by_cases hxu : x + u ≤ w
  case neg =>
    rw [C.hox (show w ≤ x + u - 1 by omega) (by omega), if00, if00]
    exact good_x RR (by decide)
  by_cases hyv : y + v ≤ h
  case neg =>
    rw [C.hoy (show h ≤ y + v - 1 by omega) (by omega), if00, if00]
    exact good_x RR (by decide)
  rw [C.hin (show x + u - 1 < w by omega) (show y + v - 1 < h by omega), if10, if10, s1.2.2, s1.1]
  by_cases q : np = 8
  · rw [if_pos (show 8 ≤ nI np by rw [q]; decide), if_pos (show 8 ≤ nI np by rw [q]; decide)]
    unfold B_X7_pixel_J79
    obtain ⟨f, e, z⟩ := C.chk hxu hyv u1 (t0 := 0) (Or.inl rfl)
    rcases z with ⟨-, z, -⟩ | ⟨rfl, -⟩
    · exact absurd z (by decide)
    · rw [e, bind_some']
      dsimp only
      rw [if00]
      exact good_x RR (by decide)
  have hn8 : ¬ (8 : Int32) ≤ nI np := nI_ge (b := 8) (show np < 8 by omega) (by decide)
  rw [if_neg hn8, if_neg hn8]
  unfold B_X7_pixel_J79
  obtain ⟨f, e, z⟩ := C.chk hxu hyv u1 (t0 := 1) (Or.inr rfl)
  rcases z with ⟨rfl, -, hfree⟩ | ⟨rfl, z⟩
  case inr =>
    rcases C.chkC hxu hyv with ⟨-, z2⟩ | ⟨e2, -⟩
    · exfalso
      rcases z with z | ⟨c, hc, z⟩
      · exact absurd z (by decide)
      · exact z (z2 c hc)
    · rw [e2, bind_some', if10, e, bind_some']
      dsimp only
      rw [if00]
      exact good_x RR (by decide)
  rcases C.chkC hxu hyv with ⟨e2, -⟩ | ⟨-, c, hc, z⟩
  case inr => exact absurd (hfree c hc) z
  obtain ⟨fm, em, gm1, gm2⟩ := C.fillM hxu hyv u1
  rw [s1.2.2, s1.1] at gm1
  have npl : np < 8 := by omega
  rw [e2, bind_some', if00, e, bind_some']
  dsimp only
  rw [if10, em, bind_some']
  dsimp only
  rw [s1.2.2, s1.1, wr_nI npl (by decide), bind_some', wr_nI npl (by decide), bind_some', wr_nI npl (by decide), bind_some']
  unfold B_X3_make
  rw [s1.1, rPut_nI npl (by decide), rPut_nI npl (by decide), rPut_nI npl (by decide), rPut_nI npl (by decide), rPut_nI npl (by decide), rPut_nI npl (by decide), rPut_nI npl (by decide), bind_some']
  dsimp only
  generalize hA1 : va_up (va_up (va_up (va_up (va_up (va_up (va_up A 0 (upd (A 0) np (nI x))) 1 _) 2 _) 3 _) 4 _) 5 _) 6 _ = A1
  obtain ⟨fc, eec, gc1, gc2⟩ := fillC (x := x) (y := y) (u := u) (v := v) (by omega) (by omega) (nI np) (va_up I 4 (nI np + 1)) A1
  rw [eec, bind_some']
  have a0 : A1 0 = upd (A 0) np (nI x) := by rw [← hA1]; rfl
  have a1 : A1 1 = upd (A 1) np (nI y) := by rw [← hA1]; rfl
  have a2 : A1 2 = upd (A 2) np (nI u) := by rw [← hA1]; rfl
  have a3 : A1 3 = upd (A 3) np (nI v) := by rw [← hA1]; rfl
  have a4 : A1 4 = upd (A 4) np 0 := by rw [← hA1]; rfl
  have a5 : A1 5 = upd (A 5) np 0 := by rw [← hA1]; rfl
  have a6 : A1 6 = upd (A 6) np 0 := by rw [← hA1]; rfl
  have a7 : A1 7 = A 7 := by rw [← hA1]; rfl
  have a8 : A1 8 = A 8 := by rw [← hA1]; rfl
  have a9 : A1 9 = A 9 := by rw [← hA1]; rfl
  have a10 : A1 10 = A 10 := by rw [← hA1]; rfl
  have a11 : A1 11 = A 11 := by rw [← hA1]; rfl
  have a12 : A1 12 = A 12 := by rw [← hA1]; rfl
  have a13 : A1 13 = A 13 := by rw [← hA1]; rfl
  have a14 : A1 14 = A 14 := by rw [← hA1]; rfl
  have a15 : A1 15 = A 15 := by rw [← hA1]; rfl
  have a16 : A1 16 = A 16 := by rw [← hA1]; rfl
  have a17 : A1 17 = A 17 := by rw [← hA1]; rfl
  have a18 : A1 18 = A 18 := by rw [← hA1]; rfl
  clear hA1
  rw [a12] at gc2
  have pxn : PixP (np + 1) fc fm := by
    intro c hc
    by_cases hin : inR x y u v c
    · exact ⟨by rw [gm1 c hin, gc1 c hin], Or.inr ⟨np, by omega, gc1 c hin⟩⟩
    · rw [gm2 c hin, gc2 c hin]
      refine ⟨(C.pix c hc).1, ?_⟩
      rcases (C.pix c hc).2 with z | ⟨p, hp, z⟩
      · exact Or.inl z
      · exact Or.inr ⟨p, by omega, z⟩
  have hrc : RectP w h (np + 1) (upd (A 0) np (nI x)) (upd (A 1) np (nI y)) (upd (A 2) np (nI u)) (upd (A 3) np (nI v)) fc := by
    intro p hp
    by_cases ep : p = np
    · subst ep
      refine ⟨x, y, u, v, if_pos rfl, if_pos rfl, if_pos rfl, if_pos rfl, u1, v1, hxu, hyv, ?_⟩
      intro X Y hX hY
      rw [← inR_xy (v := v) (y := y) (Y := Y) (show x + u ≤ 12 by omega) (show X < 12 by omega)]
      constructor
      · intro z
        by_cases hin : inR x y u v (12 * Y + X)
        · exact hin
        · exfalso
          rw [gc2 _ hin] at z
          rcases (C.pix _ (C.cell hX hY)).2 with z2 | ⟨p', hp', z2⟩
          · rw [z2] at z
            exact nI_m1 (by omega) z.symm
          · rw [z2] at z
            have := nI_inj (by omega) (by omega) z
            omega
      · intro z
        exact gc1 _ z
    · obtain ⟨a, b, u', v', r0, r1, r2, r3, r4, r5, r6, r7, r8⟩ := s6 p (by omega)
      refine ⟨a, b, u', v', (if_neg ep).trans r0, (if_neg ep).trans r1, (if_neg ep).trans r2, (if_neg ep).trans r3, r4, r5, r6, r7, ?_⟩
      intro X Y hX hY
      rw [← r8 X Y hX hY]
      by_cases hin : inR x y u v (12 * Y + X)
      · rw [gc1 _ hin, hfree _ hin]
        constructor
        · intro z
          have := nI_inj (by omega) (by omega) z
          omega
        · intro z
          exact absurd z.symm (nI_m1 (by omega))
      · rw [gc2 _ hin]
  have hden : ∀ c d, c < 144 → hd (va_up A1 12 fc) c d = hd A c d := by
    intro c d hc
    unfold hd
    show (if A1 9 c = 2 then A1 11 c * B_X6_squareApart (A1 10 c) d else 0) + (if fc c = -1 then 0 else A1 5 (fc c).toNatClampNeg * B_X6_squareApart (A1 4 (fc c).toNatClampNeg) d) = _
    rw [a9, a10, a11, a4, a5]
    congr 1
    by_cases hin : inR x y u v c
    · rw [gc1 c hin, hfree c hin, if_neg (nI_m1 (by omega)), if_pos rfl, nI_clamp (by omega), upd_at, if_pos rfl, Int32.zero_mul]
    · rw [gc2 c hin]
      rcases (C.pix c hc).2 with z | ⟨p, hp, z⟩
      · rw [if_pos z, if_pos z]
      · rw [z, if_neg (nI_m1 (by omega)), if_neg (nI_m1 (by omega)), nI_clamp (by omega), upd_at, upd_at, if_neg (by omega), if_neg (by omega)]
  have hen : en w h (I 7) (I 8) (va_up A1 12 fc) = en w h (I 7) (I 8) A := by
    apply gs_congr
    intro X Y hX hY
    have e1 : hh (va_up A1 12 fc) X Y = hh A X Y := by
      unfold hh
      rw [hden _ _ (C.cell hX hY)]
      show hd A _ (A1 8 _) = _
      rw [a8]
    have e2 : dd (va_up A1 12 fc) = dd A := by
      funext X Y
      show A1 8 _ = A 8 _
      rw [a8]
    unfold ec
    rw [e1, e2]
  refine Or.inl ⟨nI np, va_up I 4 (nI np + 1), va_up A1 12 fc, va_up J0 9 (nI np + 1), va_up (va_up (va_up (va_up B 4 fm) 5 (upd (B 5) np 0)) 6 (upd (B 6) np 0)) 8 (upd (B 8) np 0), rfl, ?_, h0, ?_⟩
  · show some (nI np + 1 - 1, _, _) = _
    rw [Int32.add_sub_cancel]
    rfl
  · refine ⟨w, h, np + 1, nd, nq, t, ⟨C.geo, C.cost, ?_, ?_, pxn, ?_, by omega⟩, ⟨⟨nI_1 np, by omega, rfl⟩, s2, s3, s4, s5, ?_, ?_, ?_, ?_⟩, ?_, F1, F2⟩
    · show DirP (A1 8) (B 0)
      rw [a8]
      exact C.dir
    · show KindP (A1 9) (A1 10) (A1 11) (B 1) (B 2) (B 3)
      rw [a9, a10, a11]
      exact C.kind
    · show FieldP (A1 4) (A1 5) (upd (B 5) np 0) (upd (B 6) np 0)
      rw [a4, a5]
      exact field_upd C.field np ⟨0, by omega, rfl⟩ ⟨0, by omega, rfl⟩
    · show RectP w h (np + 1) (A1 0) (A1 1) (A1 2) (A1 3) fc
      rw [a0, a1, a2, a3]
      exact hrc
    · show NoteP (np + 1) t (A1 6) (A1 7) (upd (B 8) np 0) (B 7)
      rw [a6, a7]
      refine ⟨s7.1, fun j hj => ?_, fun p hp => ?_⟩
      · rw [upd_at, upd_at]
        by_cases e : j = np
        · rw [if_pos e, if_pos e]
        · rw [if_neg e, if_neg e]
          exact s7.2.1 j hj
      · rw [upd_at]
        by_cases e : p = np
        · rw [if_pos e]
          exact ⟨0, by omega, rfl⟩
        · rw [if_neg e]
          exact s7.2.2 p (by omega)
    · show DrvP (np + 1) nd (A1 13) (A1 14) (A1 15) (A1 16) (B 9) (B 10) (B 11) (B 12)
      rw [a13, a14, a15, a16]
      intro k hk
      refine ⟨(s8 k hk).1, fun hk2 => ?_⟩
      obtain ⟨⟨p, hp, e⟩, z⟩ := (s8 k hk).2 hk2
      exact ⟨⟨p, by omega, e⟩, z⟩
    · show PicP nq (A1 17) (A1 18) (B 13) (B 14)
      rw [a17, a18]
      exact s9
    · show I 9 = en w h (I 7) (I 8) (va_up A1 12 fc)
      rw [hen]
      exact E
end PIXEL2

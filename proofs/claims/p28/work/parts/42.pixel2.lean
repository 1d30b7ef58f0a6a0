section PIXEL2
/-- the pixel np as it is made, at x y, of u by v cells -/
def Mk (np x y u v : Nat) (A A' : Nat → Nat → Int32) : Prop := A' 0 = upd (A 0) np (nI x) ∧ A' 1 = upd (A 1) np (nI y) ∧ A' 2 = upd (A 2) np (nI u) ∧ A' 3 = upd (A 3) np (nI v)
theorem st_pixel {w h np nd t : Nat} {I : Nat → Int32} {A : Nat → Nat → Int32} (V : Inv w h np nd t I A) (hnp : np < 8) {x y u v : Nat} (u1 : 1 ≤ u) (v1 : 1 ≤ v) (hxu : x + u ≤ w) (hyv : y + v ≤ h) (hfree : ∀ c, inR x y u v c → A 12 c = -1) :
    ∃ I' A', B_X6_pixel I A (nI x) (nI y) (nI u) (nI v) = some (nI np, I', A') ∧ Inv w h (np + 1) nd t I' A' ∧ I' 9 = I 9 ∧ I' 2 = I 2 ∧ I' 3 = I 3 ∧ Mk np x y u v A A' := by
  obtain ⟨C, ⟨s1, s2, s4, s5, s6, s7, s8⟩, E, F⟩ := V
  have w12 := C.w12
  have h12 := C.h12
  unfold B_X6_pixel
  rw [C.hin (show x < w by omega) (show y < h by omega), if10, show B_X6_isIn (nI u) 1 12 = 1 from isIn_is (a := 1) (b := 12) u1 (by omega) (by decide), if10, show B_X6_isIn (nI v) 1 12 = 1 from isIn_is (a := 1) (b := 12) v1 (by omega) (by decide), if10,
    nI_add, nI_add, nI_sub1 (by omega), nI_sub1 (by omega), C.hin (show x + u - 1 < w by omega) (show y + v - 1 < h by omega), if10, s1.1, if_neg (show ¬ (8 : Int32) ≤ nI np from nI_ge (b := 8) hnp (by decide))]
  rcases C.chkC hxu hyv with ⟨e2, -⟩ | ⟨-, c, hc, z⟩
  case inr => exact absurd (hfree c hc) z
  rw [e2, bind_some', if00]
  unfold B_X3_make
  rw [s1.1, rPut_nI hnp (by decide), rPut_nI hnp (by decide), rPut_nI hnp (by decide), rPut_nI hnp (by decide), rPut_nI hnp (by decide), rPut_nI hnp (by decide), rPut_nI hnp (by decide), bind_some']
  dsimp only
  generalize hA1 : va_up (va_up (va_up (va_up (va_up (va_up (va_up A 0 (upd (A 0) np (nI x))) 1 _) 2 _) 3 _) 4 _) 5 _) 6 _ = A1
  obtain ⟨fc, eec, gc1, gc2⟩ := fillC (x := x) (y := y) (u := u) (v := v) (by omega) (by omega) (nI np) (va_up I 4 (nI np + 1)) A1
  rw [eec, bind_some']
  have a0 : A1 0 = upd (A 0) np (nI x) := by rw [← hA1]; rfl
  have a1 : A1 1 = upd (A 1) np (nI y) := by rw [← hA1]; rfl
  have a2 : A1 2 = upd (A 2) np (nI u) := by rw [← hA1]; rfl
  have a3 : A1 3 = upd (A 3) np (nI v) := by rw [← hA1]; rfl
  have a4 : A1 4 = upd (A 4) np 0 := by rw [← hA1]; rfl
  have a5 : A1 5 = upd (A 5) np 0 := by rw [← hA1]; rfl
  have a6 : A1 6 = upd (A 6) np 0 := by rw [← hA1]; rfl
  have a7 : A1 7 = A 7 := by rw [← hA1]; rfl
  have a8 : A1 8 = A 8 := by rw [← hA1]; rfl
  have a9 : A1 9 = A 9 := by rw [← hA1]; rfl
  have a10 : A1 10 = A 10 := by rw [← hA1]; rfl
  have a11 : A1 11 = A 11 := by rw [← hA1]; rfl
  have a12 : A1 12 = A 12 := by rw [← hA1]; rfl
  have a13 : A1 13 = A 13 := by rw [← hA1]; rfl
  have a15 : A1 15 = A 15 := by rw [← hA1]; rfl
  have a16 : A1 16 = A 16 := by rw [← hA1]; rfl
  clear hA1
  rw [a12] at gc2
  have pxn : PixP (np + 1) fc := by
    intro c hc
    by_cases hin : inR x y u v c
    · exact Or.inr ⟨np, by omega, gc1 c hin⟩
    · rw [gc2 c hin]
      rcases C.pix c hc with z | ⟨p, hp, z⟩
      · exact Or.inl z
      · exact Or.inr ⟨p, by omega, z⟩
  have hrc : RectP w h (np + 1) (upd (A 0) np (nI x)) (upd (A 1) np (nI y)) (upd (A 2) np (nI u)) (upd (A 3) np (nI v)) fc := by
    intro p hp
    by_cases ep : p = np
    · subst ep
      refine ⟨x, y, u, v, if_pos rfl, if_pos rfl, if_pos rfl, if_pos rfl, u1, v1, hxu, hyv, ?_⟩
      intro X Y hX hY
      rw [← inR_xy (v := v) (y := y) (Y := Y) (show x + u ≤ 12 by omega) (show X < 12 by omega)]
      constructor
      · intro z
        by_cases hin : inR x y u v (12 * Y + X)
        · exact hin
        · exfalso
          rw [gc2 _ hin] at z
          rcases C.pix _ (C.cell hX hY) with z2 | ⟨p', hp', z2⟩
          · rw [z2] at z
            exact nI_m1 (by omega) z.symm
          · rw [z2] at z
            have := nI_inj (by omega) (by omega) z
            omega
      · intro z
        exact gc1 _ z
    · obtain ⟨a, b, u', v', r0, r1, r2, r3, r4, r5, r6, r7, r8⟩ := s6 p (by omega)
      refine ⟨a, b, u', v', (if_neg ep).trans r0, (if_neg ep).trans r1, (if_neg ep).trans r2, (if_neg ep).trans r3, r4, r5, r6, r7, ?_⟩
      intro X Y hX hY
      rw [← r8 X Y hX hY]
      by_cases hin : inR x y u v (12 * Y + X)
      · rw [gc1 _ hin, hfree _ hin]
        constructor
        · intro z
          have := nI_inj (by omega) (by omega) z
          omega
        · intro z
          exact absurd z.symm (nI_m1 (by omega))
      · rw [gc2 _ hin]
  have hden : ∀ c d, c < 144 → hd (va_up A1 12 fc) c d = hd A c d := by
    intro c d hc
    unfold hd
    show (if A1 9 c = 2 then A1 11 c * B_X6_squareApart (A1 10 c) d else 0) + (if fc c = -1 then 0 else A1 5 (fc c).toNatClampNeg * B_X6_squareApart (A1 4 (fc c).toNatClampNeg) d) = _
    rw [a9, a10, a11, a4, a5]
    congr 1
    by_cases hin : inR x y u v c
    · rw [gc1 c hin, hfree c hin, if_neg (nI_m1 (by omega)), if_pos rfl, nI_clamp (by omega), upd_at, if_pos rfl, Int32.zero_mul]
    · rw [gc2 c hin]
      rcases C.pix c hc with z | ⟨p, hp, z⟩
      · rw [if_pos z, if_pos z]
      · rw [z, if_neg (nI_m1 (by omega)), if_neg (nI_m1 (by omega)), nI_clamp (by omega), upd_at, upd_at, if_neg (by omega), if_neg (by omega)]
  have hen : en w h (I 7) (I 8) (va_up A1 12 fc) = en w h (I 7) (I 8) A := by
    apply gs_congr
    intro X Y hX hY
    have e1 : hh (va_up A1 12 fc) X Y = hh A X Y := by
      unfold hh
      rw [hden _ _ (C.cell hX hY)]
      show hd A _ (A1 8 _) = _
      rw [a8]
    have e2 : dd (va_up A1 12 fc) = dd A := by
      funext X Y
      show A1 8 _ = A 8 _
      rw [a8]
    unfold ec
    rw [e1, e2]
  refine ⟨va_up I 4 (nI np + 1), va_up A1 12 fc, rfl, ⟨⟨C.geo, C.cost, ?_, ?_, pxn, ?_, by omega⟩, ⟨⟨nI_1 np, by omega⟩, s2, s4, s5, ?_, ?_, ?_⟩, ?_, F⟩, rfl, rfl, rfl, a0, a1, a2, a3⟩
  · show DirP (A1 8)
    rw [a8]
    exact C.dir
  · show KindP (A1 9) (A1 10) (A1 11)
    rw [a9, a10, a11]
    exact C.kind
  · show FieldP (A1 4) (A1 5)
    rw [a4, a5]
    exact field_upd C.field np ⟨0, by omega, rfl⟩ ⟨0, by omega, rfl⟩
  · show RectP w h (np + 1) (A1 0) (A1 1) (A1 2) (A1 3) fc
    rw [a0, a1, a2, a3]
    exact hrc
  · show NoteP (np + 1) t (A1 6) (A1 7)
    rw [a6, a7]
    refine ⟨s7.1, fun p hp => ?_⟩
    rw [upd_at]
    by_cases e : p = np
    · rw [if_pos e]
      exact ⟨0, by omega, rfl⟩
    · rw [if_neg e]
      exact s7.2 p (by omega)
  · show DrvP (np + 1) nd (A1 13) (A1 15) (A1 16)
    rw [a13, a15, a16]
    intro k hk
    obtain ⟨⟨p, hp, e⟩, z⟩ := s8 k hk
    exact ⟨⟨p, by omega, e⟩, z⟩
  · show I 9 = en w h (I 7) (I 8) (va_up A1 12 fc)
    rw [hen]
    exact E
end PIXEL2

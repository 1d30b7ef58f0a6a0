section TICK
theorem en_same {w h : Nat} {p q : Int32} {A A' : Nat → Nat → Int32} (e : ∀ i, i ≠ 6 → i ≠ 7 → A' i = A i) : en w h p q A' = en w h p q A := by
  have e1 : dd A' = dd A := by
    funext x y
    unfold dd
    rw [e 8 (by decide) (by decide)]
  have e2 : hh A' = hh A := by
    funext x y
    unfold hh hd
    rw [e 8 (by decide) (by decide), e 9 (by decide) (by decide), e 10 (by decide) (by decide), e 11 (by decide) (by decide), e 12 (by decide) (by decide), e 4 (by decide) (by decide), e 5 (by decide) (by decide)]
  unfold en
  rw [e1, e2]
theorem Kp.tr {A B C : Nat → Nat → Int32} (h1 : Kp A B) (h2 : Kp B C) : Kp A C := ⟨h2.1.trans h1.1, h2.2.1.trans h1.2.1, h2.2.2.1.trans h1.2.2.1, h2.2.2.2.trans h1.2.2.2⟩
theorem st_tick {w h np nd t : Nat} {I : Nat → Int32} {A : Nat → Nat → Int32} (V : Inv w h np nd t I A) {m : Nat} (m1 : 1 ≤ m) (m50 : m ≤ 50) (htm : t + m ≤ 2000) :
    ∃ f nd' I' A', B_X6_tick I A (nI m) = some (f, I', A') ∧ nd' ≤ nd ∧ Inv w h np nd' (t + m) I' A' ∧ up 100000000 f ∧ I' 3 = I 3 + f ∧ Kp A A' := by
  have s4 := V.2.1.2.2.1
  unfold B_X6_tick
  rw [show B_X6_isIn (nI m) 1 50 = 1 from isIn_is (a := 1) (b := 50) m1 m50 (by decide), if10, s4.1, nI_add, if_pos (show nI (t + m) ≤ (2000 : Int32) from nI_le (b := 2000) htm (by decide))]
  have all : ∃ r, B_X6_tick_L49 (nI m) (I 3) FU 0 I A = some r ∧ ∃ f nd' I' A', r = (I', A') ∧ nd' ≤ nd ∧ Inv w h np nd' (t + m) I' A' ∧ up (2000000 * m) f ∧ I' 3 = I 3 + f ∧ Kp A A' := by
    refine ng_lp0 (F := fun n (s : Int32 × (Nat → Int32) × (Nat → Nat → Int32)) => B_X6_tick_L49 (nI m) (I 3) n s.1 s.2.1 s.2.2) (s := (0, I, A))
      (fun k s => ∃ f nd' I' A', s = (nI k, I', A') ∧ nd' ≤ nd ∧ Inv w h np nd' (t + k) I' A' ∧ up (2000000 * k) f ∧ I' 3 = I 3 + f ∧ Kp A A') m _ (by omega) ?_ ?_ ?_
    · exact ⟨0, nd, I, A, rfl, Nat.le_refl _, V, ⟨0, by omega, rfl⟩, (Int32.add_zero _).symm, rfl, rfl, rfl, rfl⟩
    · rintro k n s hk ⟨f, nd', I1, A1, rfl, hnd, ⟨c1, ⟨s1, s2, s4, s5, s6, s7, s8⟩, c3, c4⟩, c5, c6, c7⟩
      have C1 : Co w h np (va_up I1 1 (I1 1 + 1)) A1 := c1
      have S1 : Rs w h np nd' (t + k + 1) (va_up I1 1 (I1 1 + 1)) A1 := by
        refine ⟨s1, s2, ⟨?_, by omega⟩, s5, s6, ⟨s7.1, fun p hp => up_mono (s7.2 p hp) (by omega)⟩, s8⟩
        show I1 1 + 1 = _
        rw [s4.1, nI_1]
      obtain ⟨g, nd2, I2, A2, e1, hnd2, C2, S2, E2, G2, i1, i2, i3, y6, y7, K2⟩ := come C1 S1 c3
      have C3 : Co w h np (va_up I2 2 (I2 2 + g)) A2 := C2
      obtain ⟨I4, A4, r1, C4, E4, f4, x4, a4⟩ := relaxAll C3 E2
      obtain ⟨z1, z2, z4, z5, z6, z7, z8⟩ := S2
      have hf2 : up 2000000 ((va_up I2 2 (I2 2 + g)) 9 - I4 9) := by
        refine up_sub (by decide) ?_ ?_ f4
        · have := C2.enUp
          rw [← E2] at this
          exact this
        · have := C4.enUp
          rw [← E4] at this
          exact this
      have N4 : NoteP np (t + k) (A4 6) (A4 7) := by
        rw [a4 6 (by decide), a4 7 (by decide), y6, y7]
        exact s7
      have R4 : RectP w h np (A4 0) (A4 1) (A4 2) (A4 3) (A4 12) := by
        rw [a4 0 (by decide), a4 1 (by decide), a4 2 (by decide), a4 3 (by decide), a4 12 (by decide)]
        exact z6
      have K1 : CntP np 8 (va_up I4 3 ((va_up I2 2 (I2 2 + g)) 3 + ((va_up I2 2 (I2 2 + g)) 9 - I4 9)) 4) := by
        show CntP np 8 (I4 4)
        rw [x4 4 (by decide)]
        exact z1
      have K5 : up 14 (va_up I4 3 ((va_up I2 2 (I2 2 + g)) 3 + ((va_up I2 2 (I2 2 + g)) 9 - I4 9)) 0) := by
        show up 14 (I4 0)
        rw [x4 0 (by decide)]
        exact z5
      obtain ⟨A6, n1, N6, a66⟩ := notes (I := va_up I4 3 ((va_up I2 2 (I2 2 + g)) 3 + ((va_up I2 2 (I2 2 + g)) 9 - I4 9))) (show Co w h np (va_up I4 3 _) A4 from C4) K1 K5 R4 N4 (by omega)
      have h2 : I4 2 = I2 2 + g := by rw [x4 2 (by decide)]; rfl
      have h3 : (va_up I2 2 (I2 2 + g)) 3 = I1 3 := i3
      have h9 : (va_up I2 2 (I2 2 + g)) 9 = I1 9 + g := G2
      dsimp only
      rw [B_X6_tick_L49_s, if_neg (nI_ge hk (by omega)), e1, bind_some', worked_eq, bind_some', r1, bind_some']
      dsimp only
      rw [n1, bind_some', nI_1]
      refine ⟨(nI (k + 1), va_up I4 3 ((va_up I2 2 (I2 2 + g)) 3 + ((va_up I2 2 (I2 2 + g)) 9 - I4 9)), A6), rfl, f + ((va_up I2 2 (I2 2 + g)) 9 - I4 9), nd2, _, _, rfl, by omega, ⟨⟨C4.geo, C4.cost, ?_, ?_, ?_, ?_, C4.np8⟩, ⟨K1, ?_, ?_, K5, ?_, N6, ?_⟩, ?_, ?_⟩, ?_, ?_, ?_⟩
      · rw [a66 8 (by decide) (by decide)]; exact C4.dir
      · rw [a66 9 (by decide) (by decide), a66 10 (by decide) (by decide), a66 11 (by decide) (by decide)]; exact C4.kind
      · rw [a66 12 (by decide) (by decide)]; exact C4.pix
      · rw [a66 4 (by decide) (by decide), a66 5 (by decide) (by decide)]; exact C4.field
      · show CntP nd2 40 (I4 10)
        rw [x4 10 (by decide)]
        exact z2
      · show CntP (t + (k + 1)) 2000 (I4 1)
        rw [x4 1 (by decide)]
        exact z4
      · rw [a66 0 (by decide) (by decide), a66 1 (by decide) (by decide), a66 2 (by decide) (by decide), a66 3 (by decide) (by decide), a66 12 (by decide) (by decide)]
        exact R4
      · rw [a66 13 (by decide) (by decide), a66 15 (by decide) (by decide), a66 16 (by decide) (by decide), a4 13 (by decide), a4 15 (by decide), a4 16 (by decide)]
        exact z8
      · show I4 9 = en w h (I4 7) (I4 8) A6
        rw [en_same a66]
        exact E4
      · show I4 9 = I4 2 - ((va_up I2 2 (I2 2 + g)) 3 + ((va_up I2 2 (I2 2 + g)) 9 - I4 9))
        rw [h2, h3, h9, i2]
        show I4 9 = I1 2 + g - (I1 3 + (I1 9 + g - I4 9))
        rw [c4]
        generalize I1 2 = a
        generalize I1 3 = b
        generalize I4 9 = c
        grind
      · have := up_add c5 hf2
        exact up_mono this (by omega)
      · show (va_up I2 2 (I2 2 + g)) 3 + ((va_up I2 2 (I2 2 + g)) 9 - I4 9) = _
        rw [h3, c6, Int32.add_assoc]
      · refine Kp.tr c7 (Kp.tr K2 ⟨?_, ?_, ?_, ?_⟩)
        · rw [a66 0 (by decide) (by decide), a4 0 (by decide)]
        · rw [a66 1 (by decide) (by decide), a4 1 (by decide)]
        · rw [a66 2 (by decide) (by decide), a4 2 (by decide)]
        · rw [a66 3 (by decide) (by decide), a4 3 (by decide)]
    · rintro n s ⟨f, nd', I, A, rfl, c⟩
      refine ⟨_, ?_, f, nd', I, A, rfl, c⟩
      dsimp only
      rw [B_X6_tick_L49_s, if_pos (nI_le (Nat.le_refl _) (by omega))]
  obtain ⟨r, e1, f, nd', I', A', rfl, h1, h2, h3, h4, h5⟩ := all
  rw [e1, bind_some']
  refine ⟨f, nd', I', A', ?_, h1, h2, up_mono h3 (by omega), h4, h5⟩
  dsimp only
  rw [h4, add_sub_l]
end TICK

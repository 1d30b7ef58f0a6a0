section DRIVE
section
variable {w h np nd t : Nat} {I : Nat → Int32} {A : Nat → Nat → Int32}
theorem hasPix (V : Inv w h np nd t I A) {p : Nat} (hp : p < np) : B_X3_has I A (nI p) = 1 := by
  have np8 := V.1.np8
  unfold B_X3_has
  rw [if_neg (nI_pos (by omega)), V.2.1.1.1, if_neg (nI_ge hp (by omega))]
theorem st_drive (V : Inv w h np nd t I A) {p d s : Nat} (hp : p < np) (hd0 : d ≤ 14) (hs : s ≤ 100) :
    ∃ g I' A', B_X6_drive I A (nI p) (nI d) (nI s) = some (g, I', A') ∧ Inv w h np nd t I' A' ∧ Wk g I I' A A' := by
  unfold B_X6_drive
  rw [hasPix V hp, if10, isDir hd0, if10, show B_X6_isIn (nI s) 0 100 = 1 from isIn_is (a := 0) (b := 100) (Nat.zero_le s) hs (by decide), if10]
  obtain ⟨C, S, E, F⟩ := V
  obtain ⟨g, g1, g2⟩ := C.setField S.2.2.2.2.1 hp (up_nI hd0) (up_nI hs)
  have C' := C.setA p (up_nI hd0) (up_nI hs)
  rw [g1, bind_some']
  dsimp only
  rw [worked_eq, bind_some']
  exact ⟨_, _, _, rfl, fin_work C' S (by rw [g2, E]) F, rfl, rfl, rfl, rfl, rfl, rfl, rfl⟩
theorem st_program (V : Inv w h np nd t I A) (hnd : nd < 40) {p k d s : Nat} (hp : p < np) (hk : t < k) (hk2 : k ≤ 2000) (hd0 : d ≤ 14) (hs : s ≤ 100) :
    ∃ g I' A', B_X6_program I A (nI p) (nI k) (nI d) (nI s) = some (g, I', A') ∧ Inv w h np (nd + 1) t I' A' ∧ I' 9 = I 9 ∧ I' 2 = I 2 ∧ I' 3 = I 3 ∧ Kp A A' := by
  unfold B_X6_program
  rw [hasPix V hp, if10]
  obtain ⟨C, ⟨s1, s2, s4, s5, s6, s7, s8⟩, E, F⟩ := V
  have np8 := C.np8
  have t2 := s4.2
  rw [s4.1, if_neg (nI_ge hk (by omega)), if_pos (show nI k ≤ (2000 : Int32) from nI_le (b := 2000) hk2 (by decide)), isDir hd0, if10, show B_X6_isIn (nI s) 0 100 = 1 from isIn_is (a := 0) (b := 100) (Nat.zero_le s) hs (by decide), if10, s2.1, if_pos (show nI nd < 40 from nI_lt (b := 40) hnd (by decide))]
  unfold B_X0_add B_X0_put
  rw [s2.1, rPut_nI hnd (by decide), rPut_nI hnd (by decide), rPut_nI hnd (by decide), rPut_nI hnd (by decide), bind_some', bind_some']
  dsimp only
  refine ⟨_, _, _, rfl, ⟨C, ⟨s1, ⟨?_, by omega⟩, s4, s5, s6, s7, ?_⟩, E, F⟩, rfl, rfl, rfl, rfl, rfl, rfl, rfl⟩
  · show I 10 + 1 = _
    rw [s2.1, nI_1]
  · intro k' hk'
    show (∃ p', p' < np ∧ upd (A 13) nd (nI p) k' = nI p') ∧ up 14 (upd (A 15) nd (nI d) k') ∧ up 100 (upd (A 16) nd (nI s) k')
    simp only [upd_at]
    by_cases e : k' = nd
    · simp only [if_pos e]
      exact ⟨⟨p, hp, rfl⟩, up_nI hd0, up_nI hs⟩
    · simp only [if_neg e]
      exact s8 k' (by omega)
end
end DRIVE

section CALLS
theorem isIn_is {a b k : Nat} (h1 : a ≤ k) (h2 : k ≤ b) (hb : b < 2 ^ 31) : B_X6_isIn (nI k) (nI a) (nI b) = 1 := by
  unfold B_X6_isIn
  rw [if_neg (nI_nlt h1 (by omega)), if_neg (nI_nlt h2 hb)]
theorem isDir {d : Nat} (h : d ≤ 14) : B_X6_isDirection (nI d) = 1 := isIn_is (a := 0) (b := 14) (Nat.zero_le d) h (by decide)
section
variable {w h np nd t : Nat} {I : Nat → Int32} {A : Nat → Nat → Int32}
theorem Co.kindOf (C : Co w h np I A) {x y : Nat} (hx : x < w) (hy : y < h) : B_X1_kindAt I A (nI x) (nI y) = A 9 (12 * y + x) := by
  unfold B_X1_kindAt
  rw [nn_num, rAt_nI (C.cell hx hy) (by decide)]
theorem st_turn (V : Inv w h np nd t I A) {x y d : Nat} (hx : x < w) (hy : y < h) (hd0 : d ≤ 14) (hk : A 9 (12 * y + x) ≠ 1) :
    ∃ g I' A', B_X6_turn I A (nI x) (nI y) (nI d) = some (g, I', A') ∧ Inv w h np nd t I' A' ∧ Wk g I I' A A' := by
  obtain ⟨C, S, E, F⟩ := V
  have hc := C.cell hx hy
  unfold B_X6_turn
  rw [C.hin hx hy, if10, isDir hd0, if10, C.kindOf hx hy, if_neg hk]
  unfold B_X1_turnTo
  rw [nn_num, rPut_nI hc (by decide)]
  have C' : Co w h np I (va_up A 8 (upd (A 8) (12 * y + x) (nI d))) := ⟨C.geo, C.cost, dir_upd C.dir _ (up_nI hd0), C.kind, C.pix, C.field, C.np8⟩
  have k := en_local C C' hx hy (fun j hj => if_neg hj) (fun j d hj => rfl)
  refine ⟨_, _, _, rfl, fin_work C' S (by rw [k, ← E]) F, rfl, rfl, rfl, rfl, rfl, rfl, rfl⟩
theorem st_anchor (V : Inv w h np nd t I A) {x y k d s : Nat} (hx : x < w) (hy : y < h) (hk : k ≤ 2) (hd0 : d ≤ 14) (s1 : 1 ≤ s) (s2 : s ≤ 100) :
    ∃ g I' A', B_X6_anchor I A (nI x) (nI y) (nI k) (nI d) (nI s) = some (g, I', A') ∧ Inv w h np nd t I' A' ∧ Wk g I I' A A' := by
  obtain ⟨C, S, E, F⟩ := V
  have hc := C.cell hx hy
  have rp : ∀ (f : Nat → Int32) (v : Int32), rPut 144 f (nI (12 * y + x)) v = upd f (12 * y + x) v := fun f v => rPut_nI hc (by decide)
  have hD : ∀ (f : Nat → Int32) (v : Int32) (j : Nat), j ≠ 12 * y + x → upd f (12 * y + x) v j = f j := fun f v j hj => if_neg hj
  unfold B_X6_anchor
  rw [C.hin hx hy, if10, show B_X6_isIn (nI k) 0 2 = 1 from isIn_is (a := 0) (b := 2) (Nat.zero_le k) hk (by decide), if10, isDir hd0, if10, show B_X6_isIn (nI s) 1 100 = 1 from isIn_is (a := 1) (b := 100) s1 s2 (by decide), if10]
  unfold B_X1_hold B_X1_hold_J52 B_X1_hold_J68
  simp only [nn_num, rp]
  have hk3 : k = 0 ∨ k = 1 ∨ k = 2 := by omega
  rcases hk3 with rfl | rfl | rfl
  · simp only [if_neg (show ¬ nI 0 = 2 by decide), if_neg (show ¬ nI 0 = 1 by decide)]
    have C' : Co w h np I (va_up A 9 (upd (A 9) (12 * y + x) (nI 0))) := ⟨C.geo, C.cost, C.dir, kind_upd C.kind _ (by decide), C.pix, C.field, C.np8⟩
    have k := en_local C C' hx hy (fun j hj => rfl) (fun j d hj => by simp [hd, va_up, hD _ _ _ hj])
    rw [← E] at k
    exact ⟨_, _, _, rfl, fin_work C' S k.symm F, rfl, rfl, rfl, rfl, rfl, rfl, rfl⟩
  · simp only [if_neg (show ¬ nI 1 = 2 by decide), if_pos (show nI 1 = 1 by decide)]
    have C' : Co w h np I (va_up (va_up A 9 (upd (A 9) (12 * y + x) (nI 1))) 8 (upd (A 8) (12 * y + x) (nI d))) :=
      ⟨C.geo, C.cost, dir_upd C.dir _ (up_nI hd0), kind_upd C.kind _ (by decide), C.pix, C.field, C.np8⟩
    have k := en_local C C' hx hy (fun j hj => hD _ _ _ hj) (fun j d hj => by simp [hd, va_up, hD _ _ _ hj])
    rw [← E] at k
    exact ⟨_, _, _, rfl, fin_work C' S k.symm F, rfl, rfl, rfl, rfl, rfl, rfl, rfl⟩
  · simp only [if_pos (show nI 2 = 2 by decide), if_neg (show ¬ nI 2 = 1 by decide)]
    have C' : Co w h np I (va_up (va_up (va_up A 9 (upd (A 9) (12 * y + x) (nI 2))) 10 (upd (A 10) (12 * y + x) (nI d))) 11 (upd (A 11) (12 * y + x) (nI s))) :=
      ⟨C.geo, C.cost, C.dir, kind_upd2 C.kind _ (up_nI hd0) ⟨s, s2, rfl⟩, C.pix, C.field, C.np8⟩
    have k := en_local C C' hx hy (fun j hj => rfl) (fun j d hj => by simp [hd, va_up, hD _ _ _ hj])
    rw [← E] at k
    exact ⟨_, _, _, rfl, fin_work C' S k.symm F, rfl, rfl, rfl, rfl, rfl, rfl, rfl⟩
theorem st_told1 (C : Co w h np I A) {x y : Nat} (hx : x < w) (hy : y < h) : B_X6_told I A (nI x) (nI y) 1 = some (A 9 (12 * y + x)) := by
  unfold B_X6_told
  rw [C.hin hx hy, if10, if_neg (by decide), if_pos rfl, C.kindOf hx hy]
theorem st_told2 (C : Co w h np I A) {x y : Nat} (hx : x < w) (hy : y < h) : B_X6_told I A (nI x) (nI y) 2 = some (A 12 (12 * y + x)) := by
  unfold B_X6_told
  rw [C.hin hx hy, if10, if_neg (by decide), if_neg (by decide), if_pos rfl, C.pixAt hx hy]
end
end CALLS

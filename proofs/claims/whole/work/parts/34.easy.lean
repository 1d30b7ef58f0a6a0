section EASY
theorem dir_upd {f g : Nat → Int32} (h : DirP f g) (c : Nat) {v : Int32} (hv : up 14 v) : DirP (upd f c v) (upd g c v) := fun j hj => by
  rw [upd_at, upd_at]
  by_cases e : j = c
  · rw [if_pos e, if_pos e]
    exact ⟨hv, rfl⟩
  · rw [if_neg e, if_neg e]
    exact h j hj
theorem dir_same {f g : Nat → Int32} (h : DirP f g) (c : Nat) : DirP f (upd g c (g c)) := fun j hj => by
  rw [upd_at]
  by_cases e : j = c
  · rw [if_pos e, ← e]
    exact h j hj
  · rw [if_neg e]
    exact h j hj
theorem kind_upd {k wd ws k' wd' ws' : Nat → Int32} (h : KindP k wd ws k' wd' ws') (c : Nat) {v d s : Int32} (hv : v ≠ 2) : KindP (upd k c v) wd ws (upd k' c v) (upd wd' c d) (upd ws' c s) := fun j hj => by
  rw [upd_at, upd_at, upd_at, upd_at]
  by_cases e : j = c
  · rw [if_pos e, if_pos e]
    exact ⟨rfl, fun q => absurd q hv⟩
  · rw [if_neg e, if_neg e, if_neg e, if_neg e]
    exact h j hj
theorem kind_upd2 {k wd ws k' wd' ws' : Nat → Int32} (h : KindP k wd ws k' wd' ws') (c : Nat) {v d s : Int32} (hd : up 14 d) (hs : up 100 s) : KindP (upd k c v) (upd wd c d) (upd ws c s) (upd k' c v) (upd wd' c d) (upd ws' c s) := fun j hj => by
  rw [upd_at, upd_at, upd_at, upd_at, upd_at, upd_at]
  by_cases e : j = c
  · rw [if_pos e, if_pos e, if_pos e, if_pos e, if_pos e, if_pos e]
    exact ⟨rfl, fun _ => ⟨hd, hs, rfl, rfl⟩⟩
  · rw [if_neg e, if_neg e, if_neg e, if_neg e, if_neg e, if_neg e]
    exact h j hj
theorem st_anchor {I J : Nat → Int32} {A B : Nat → Nat → Int32} (R : Rel I A J B) (x1 x2 x3 x4 x5 : Int32) : Good [(1, 1), (0, 2)] (B_X6_anchor I A x1 x2 x3 x4 x5) (B_X7_anchor J B x1 x2 x3 x4 x5) := by
  unfold B_X6_anchor B_X7_anchor
  obtain ⟨J0, hJ, h0, R⟩ := th0 R
  rw [hJ]
  clear hJ
  have RR := R
  obtain ⟨w, h, np, nd, nq, t, C, S, E, F1, F2⟩ := R
  rw [C.isCell]
  rcases C.has x1 x2 with e | ⟨e, x, y, hx, hy, rfl, rfl⟩
  · rw [e, if00, if00]
    exact good_x RR (by decide)
  rw [e, if10, if10, show B_X7_in x3 0 2 = B_X6_isIn x3 0 2 from rfl]
  rcases isIn_cases (x := x3) (a := 0) (b := 2) (by decide) (by decide) with e | ⟨e, k, -, hk, rfl⟩
  · rw [show B_X6_isIn x3 0 2 = 0 from e, if00, if00]
    exact good_x RR (by decide)
  rw [show B_X6_isIn (nI k) 0 2 = 1 from e, if10, if10, show B_X7_isDirection x4 = B_X6_isIn x4 0 14 from rfl, show B_X6_isDirection x4 = B_X6_isIn x4 0 14 from rfl]
  rcases isIn_cases (x := x4) (a := 0) (b := 14) (by decide) (by decide) with e | ⟨e, d, -, hd0, rfl⟩
  · rw [show B_X6_isIn x4 0 14 = 0 from e, if00, if00]
    exact good_x RR (by decide)
  rw [show B_X6_isIn (nI d) 0 14 = 1 from e, if10, if10, show B_X7_in x5 1 100 = B_X6_isIn x5 1 100 from rfl]
  rcases isIn_cases (x := x5) (a := 1) (b := 100) (by decide) (by decide) with e | ⟨e, s, -, hs0, rfl⟩
  · rw [show B_X6_isIn x5 1 100 = 0 from e, if00, if00]
    exact good_x RR (by decide)
  have hc := C.cell hx hy
  have rp : ∀ (f : Nat → Int32) (v : Int32), rPut 144 f (nI (12 * y + x)) v = upd f (12 * y + x) v := fun f v => rPut_nI hc (by decide)
  have rw1 : ∀ (f : Nat → Int32) (v : Int32), wr f 144 (nI (12 * y + x)) v = some (upd f (12 * y + x) v) := fun f v => wr_nI hc (by decide)
  have rr : ∀ (f : Nat → Int32), rd f 144 (nI (12 * y + x)) = some (f (12 * y + x)) := fun f => rd_nI hc (by decide)
  rw [show B_X6_isIn (nI s) 1 100 = 1 from e, if10, if10, C.all, bind_some', ← E]
  unfold B_X1_hold B_X1_hold_J52 B_X1_hold_J68 B_X7_anchor_J116
  simp only [nn_num, nn_cell, rp, rw1, rr, bind_some']
  have hD : ∀ (f : Nat → Int32) (v : Int32) (j : Nat), j ≠ 12 * y + x → upd f (12 * y + x) v j = f j := fun f v j hj => if_neg hj
  have hk3 : k = 0 ∨ k = 1 ∨ k = 2 := by omega
  rcases hk3 with rfl | rfl | rfl
  · simp only [if_neg (show ¬ nI 0 = 2 by decide), if_neg (show ¬ nI 0 = 1 by decide)]
    have C' : Co w h np I (va_up A 9 (upd (A 9) (12 * y + x) (nI 0))) J0 (va_up (va_up (va_up (va_up B 1 (upd (B 1) (12 * y + x) (nI 0))) 2 (upd (B 2) (12 * y + x) (nI d))) 3 (upd (B 3) (12 * y + x) (nI s))) 0 (upd (B 0) (12 * y + x) (B 0 (12 * y + x)))) :=
      ⟨C.geo, C.cost, dir_same C.dir _, kind_upd C.kind _ (by decide), C.pix, C.field, C.np8⟩
    have k := en_local C C' hx hy (fun j hj => rfl) (fun j d hj => by simp [hd, va_up, hD _ _ _ hj])
    rw [← E] at k
    exact fin_work C' S h0 F1 F2 k.symm
  · simp only [if_neg (show ¬ nI 1 = 2 by decide), if_pos (show nI 1 = 1 by decide)]
    have C' : Co w h np I (va_up (va_up A 9 (upd (A 9) (12 * y + x) (nI 1))) 8 (upd (A 8) (12 * y + x) (nI d))) J0 (va_up (va_up (va_up (va_up B 1 (upd (B 1) (12 * y + x) (nI 1))) 2 (upd (B 2) (12 * y + x) (nI d))) 3 (upd (B 3) (12 * y + x) (nI s))) 0 (upd (B 0) (12 * y + x) (nI d))) :=
      ⟨C.geo, C.cost, dir_upd C.dir _ (up_nI hd0), kind_upd C.kind _ (by decide), C.pix, C.field, C.np8⟩
    have k := en_local C C' hx hy (fun j hj => hD _ _ _ hj) (fun j d hj => by simp [hd, va_up, hD _ _ _ hj])
    rw [← E] at k
    exact fin_work C' S h0 F1 F2 k.symm
  · simp only [if_pos (show nI 2 = 2 by decide), if_neg (show ¬ nI 2 = 1 by decide)]
    have C' : Co w h np I (va_up (va_up (va_up A 9 (upd (A 9) (12 * y + x) (nI 2))) 10 (upd (A 10) (12 * y + x) (nI d))) 11 (upd (A 11) (12 * y + x) (nI s))) J0 (va_up (va_up (va_up (va_up B 1 (upd (B 1) (12 * y + x) (nI 2))) 2 (upd (B 2) (12 * y + x) (nI d))) 3 (upd (B 3) (12 * y + x) (nI s))) 0 (upd (B 0) (12 * y + x) (B 0 (12 * y + x)))) :=
      ⟨C.geo, C.cost, dir_same C.dir _, kind_upd2 C.kind _ (up_nI hd0) (up_nI hs0), C.pix, C.field, C.np8⟩
    have k := en_local C C' hx hy (fun j hj => rfl) (fun j d hj => by simp [hd, va_up, hD _ _ _ hj])
    rw [← E] at k
    exact fin_work C' S h0 F1 F2 k.symm
theorem st_plates {I J : Nat → Int32} {A B : Nat → Nat → Int32} (R : Rel I A J B) (x1 : Int32) : Good [(0, 1)] (B_X6_plates I A x1) (B_X7_plates J B x1) := by
  unfold B_X6_plates B_X7_plates
  obtain ⟨J0, hJ, h0, R⟩ := th0 R
  rw [hJ]
  clear hJ
  rw [show B_X7_isDirection x1 = B_X6_isIn x1 0 14 from rfl, show B_X6_isDirection x1 = B_X6_isIn x1 0 14 from rfl]
  rcases isIn_cases (x := x1) (a := 0) (b := 14) (by decide) (by decide) with e | ⟨e, d, -, hd0, rfl⟩
  · rw [show B_X6_isIn x1 0 14 = 0 from e, if00, if00]
    exact good_x R (by decide)
  rw [show B_X6_isIn (nI d) 0 14 = 1 from e, if10, if10]
  obtain ⟨w, h, np, nd, nq, t, C, S, E, F1, F2⟩ := R
  obtain ⟨s1, s2, s3, s4, s5, s6⟩ := S
  rw [s5.2]
  exact good_r ⟨w, h, np, nd, nq, t, C, ⟨s1, s2, s3, s4, ⟨up_nI hd0, rfl⟩, s6⟩, E, F1, F2⟩ h0
/-- a question without an exception -/
def Same (v : Int32) (I : Nat → Int32) (A : Nat → Nat → Int32) (q : Option (Int32 × (Nat → Int32) × (Nat → Nat → Int32))) : Prop := ∃ J B, q = some (v, J, B) ∧ Rel I A J B
theorem st_now {I J : Nat → Int32} {A B : Nat → Nat → Int32} (R : Rel I A J B) : Same (B_X6_now I A) I A (B_X7_now J B) := by
  refine ⟨va_up J 0 0, B, ?_, R.th 0⟩
  obtain ⟨w, h, np, nd, nq, t, C, S, E, F1, F2⟩ := R
  have e : J 6 = I 1 := S.2.2.2.1.2.2
  show some (J 6, _, B) = _
  rw [e]
  rfl
theorem st_spent {I J : Nat → Int32} {A B : Nat → Nat → Int32} (R : Rel I A J B) (x : Int32) : Same (B_X6_spent I A x) I A (B_X7_spent J B x) := by
  refine ⟨va_up J 0 0, B, ?_, R.th 0⟩
  obtain ⟨w, h, np, nd, nq, t, C, S, E, F1, F2⟩ := R
  unfold B_X6_spent B_X7_spent
  by_cases e : x = 0
  · rw [if_pos e, if_pos e]
    show some (J 7, _, B) = _
    rw [F1]
  · rw [if_neg e, if_neg e]
    show some (J 8, _, B) = _
    rw [F2]
theorem st_energy {I J : Nat → Int32} {A B : Nat → Nat → Int32} (R : Rel I A J B) : Same (B_X6_energy I A) I A (B_X7_energy J B) := by
  refine ⟨va_up J 0 0, B, ?_, R.th 0⟩
  obtain ⟨J0, hJ, h0, R⟩ := th0 R
  unfold B_X6_energy B_X7_energy
  rw [hJ]
  obtain ⟨w, h, np, nd, nq, t, C, S, E, F1, F2⟩ := R
  rw [C.all, bind_some', ← E]
theorem st_energyAnew {I J : Nat → Int32} {A B : Nat → Nat → Int32} (R : Rel I A J B) : ∃ v, B_X6_energyAnew I A = some v ∧ Same v I A (B_X7_energyAnew J B) := by
  obtain ⟨w, h, np, nd, nq, t, C, S, E, F1, F2⟩ := id R
  unfold B_X6_energyAnew
  rw [C.sum]
  refine ⟨_, rfl, va_up J 0 0, B, ?_, R.th 0⟩
  obtain ⟨J0, hJ, h0, R⟩ := th0 R
  unfold B_X7_energyAnew
  rw [hJ]
  have C0 : Co w h np I A (va_up J 0 0) B := C
  rw [hJ] at C0
  rw [C0.all, bind_some']
theorem st_told {I J : Nat → Int32} {A B : Nat → Nat → Int32} (R : Rel I A J B) (x1 x2 x3 : Int32) : Good [(1, 1), (0, 2)] (B_X6_told I A x1 x2 x3) (B_X7_told J B x1 x2 x3) := by
  unfold B_X6_told B_X7_told
  obtain ⟨J0, hJ, h0, R⟩ := th0 R
  rw [hJ]
  clear hJ
  have RR := R
  obtain ⟨w, h, np, nd, nq, t, C, S, E, F1, F2⟩ := R
  rw [C.isCell]
  rcases C.has x1 x2 with e | ⟨e, x, y, hx, hy, rfl, rfl⟩
  · rw [e, if00, if00]
    exact good_x RR (by decide)
  rw [e, if10, if10, show B_X7_in x3 0 4 = B_X6_isIn x3 0 4 from rfl]
  rcases isIn_cases (x := x3) (a := 0) (b := 4) (by decide) (by decide) with e | ⟨e, k, -, hk, rfl⟩
  · have e' : B_X6_isIn x3 0 4 = 0 := e
    rw [e', if00, if_neg (show ¬ x3 = 0 by rintro rfl; exact absurd e' (by decide)), if_neg (show ¬ x3 = 1 by rintro rfl; exact absurd e' (by decide)), if_neg (show ¬ x3 = 2 by rintro rfl; exact absurd e' (by decide)), if_neg (show ¬ x3 = 3 by rintro rfl; exact absurd e' (by decide)), if_neg (show ¬ x3 = 4 by rintro rfl; exact absurd e' (by decide))]
    exact good_x RR (by decide)
  have hc := C.cell hx hy
  rw [show B_X6_isIn (nI k) 0 4 = 1 from e, if10]
  have rr : ∀ (f : Nat → Int32), rd f 144 (B_X7_cell (nI x) (nI y)) = some (f (12 * y + x)) := fun f => by rw [nn_cell]; exact rd_nI hc (by decide)
  have ra : ∀ (f : Nat → Int32), rAt 144 f (B_X6_numberOf (nI x) (nI y)) = f (12 * y + x) := fun f => by rw [nn_num]; exact rAt_nI hc (by decide)
  have hk5 : k = 0 ∨ k = 1 ∨ k = 2 ∨ k = 3 ∨ k = 4 := by omega
  rcases hk5 with rfl | rfl | rfl | rfl | rfl
  · rw [if_pos (show nI 0 = 0 by decide), if_pos (show nI 0 = 0 by decide), rr, bind_some', (C.dir _ hc).2, C.dirAt hx hy]
    exact good_r RR h0
  · rw [if_neg (show ¬ nI 1 = 0 by decide), if_neg (show ¬ nI 1 = 0 by decide), if_pos (show nI 1 = 1 by decide), if_pos (show nI 1 = 1 by decide), rr, bind_some', (C.kind _ hc).1]
    unfold B_X1_kindAt
    rw [ra]
    exact good_r RR h0
  · rw [if_neg (show ¬ nI 2 = 0 by decide), if_neg (show ¬ nI 2 = 0 by decide), if_neg (show ¬ nI 2 = 1 by decide), if_neg (show ¬ nI 2 = 1 by decide), if_pos (show nI 2 = 2 by decide), if_pos (show nI 2 = 2 by decide), rr, bind_some', (C.pix _ hc).1]
    unfold B_X1_pixelAt
    rw [ra]
    exact good_r RR h0
  · rw [if_neg (show ¬ nI 3 = 0 by decide), if_neg (show ¬ nI 3 = 0 by decide), if_neg (show ¬ nI 3 = 1 by decide), if_neg (show ¬ nI 3 = 1 by decide), if_neg (show ¬ nI 3 = 2 by decide), if_neg (show ¬ nI 3 = 2 by decide), if_pos (show nI 3 = 3 by decide), if_pos (show nI 3 = 3 by decide)]
    unfold B_X7_greyAt
    rw [rr, bind_some', bind_some', (C.dir _ hc).2, C.dirAt hx hy, S.2.2.2.2.1.2, grey_eq (C.dir _ hc).1 S.2.2.2.2.1.1]
    exact good_r RR h0
  · rw [if_neg (show ¬ nI 4 = 0 by decide), if_neg (show ¬ nI 4 = 0 by decide), if_neg (show ¬ nI 4 = 1 by decide), if_neg (show ¬ nI 4 = 1 by decide), if_neg (show ¬ nI 4 = 2 by decide), if_neg (show ¬ nI 4 = 2 by decide), if_neg (show ¬ nI 4 = 3 by decide), if_neg (show ¬ nI 4 = 3 by decide), if_pos (show nI 4 = 4 by decide), rr, bind_some', (C.dir _ hc).2, C.wA hx hy (C.dir _ hc).1, bind_some']
    unfold B_X1_energyAt
    rw [C.dirAt hx hy]
    exact good_r RR h0
end EASY

section PIC
/-- a number below a count, of both -/
theorem cnt_cases {n : Nat} (hn : n < 2 ^ 31) (x : Int32) : ((if x < 0 then 0 else (if nI n ≤ x then 0 else 1) : Int32) = 0 ∧ B_X7_in x 0 (nI n - 1) = 0) ∨ ((if x < 0 then 0 else (if nI n ≤ x then 0 else 1) : Int32) = 1 ∧ B_X7_in x 0 (nI n - 1) = 1 ∧ ∃ k, k < n ∧ x = nI k) := by
  unfold B_X7_in
  by_cases h1 : x < 0
  · rw [if_pos h1, if_pos h1]
    exact Or.inl ⟨rfl, rfl⟩
  rw [if_neg h1, if_neg h1]
  obtain ⟨k, hk, rfl⟩ := nI_of h1
  by_cases h2 : n ≤ k
  · rw [if_pos (nI_le h2 hk), if_pos ?_]
    · exact Or.inl ⟨rfl, rfl⟩
    · by_cases h3 : 1 ≤ n
      · exact (pred_lt h3 hn _).mpr (nI_le h2 hk)
      · have : n = 0 := by omega
        subst this
        rw [Int32.lt_iff_toInt_lt, nI_toInt hk]
        have : (nI 0 - 1).toInt = -1 := by decide
        omega
  · rw [if_neg (nI_ge (by omega) hn), if_neg ?_]
    · exact Or.inr ⟨rfl, rfl, k, by omega, rfl⟩
    · rw [pred_lt (by omega) hn]
      exact nI_ge (by omega) hn
theorem va_up2 {α : Type} (f : Nat → α) (k : Nat) (u v : α) : va_up (va_up f k u) k v = va_up f k v := by
  funext j
  unfold va_up
  by_cases e : j = k
  · rw [if_pos e, if_pos e]
  · rw [if_neg e, if_neg e, if_neg e]
section
variable {w h np : Nat} {I J : Nat → Int32} {A B : Nat → Nat → Int32}
theorem Co.greyAt (C : Co w h np I A J B) {x y : Nat} (hx : x < w) (hy : y < h) {pl : Int32} (hp : up 14 pl) : B_X7_greyAt J B (nI x) (nI y) pl = some (B_X6_greyOf (dd A x y) pl) := by
  unfold B_X7_greyAt
  rw [C.rdDir hx hy, bind_some', grey_eq (C.dup hx hy) hp]
theorem pgAt {p x y : Nat} (hp : p < 10) (hc : 12 * y + x < 144) : B_X2_greyAt I A (nI p) (nI x) (nI y) = A 18 (144 * p + (12 * y + x)) := by
  unfold B_X2_greyAt
  rw [nn_num, show (144 : Int32) = nI 144 from rfl, nI_mul, nI_add, rAt_nI (by omega) (by decide), Nat.mul_comm p]
theorem pgRd {p x y : Nat} (hp : p < 10) (hc : 12 * y + x < 144) (f : Nat → Int32) : rd f 1440 ((144 * nI p) + (B_X7_cell (nI x) (nI y))) = some (f (144 * p + (12 * y + x))) := by
  rw [nn_cell, show (144 : Int32) = nI 144 from rfl, nI_mul, nI_add, rd_nI (by omega) (by decide)]
end
theorem st_pictured {I J : Nat → Int32} {A B : Nat → Nat → Int32} (R : Rel I A J B) (x1 x2 x3 : Int32) : Good [(1, 1)] (B_X6_pictured I A x1 x2 x3) (B_X7_pictured J B x1 x2 x3) := by
  unfold B_X6_pictured B_X7_pictured
  obtain ⟨J0, hJ, h0, R⟩ := th0 R
  rw [hJ]
  clear hJ
  have RR := R
  obtain ⟨w, h, np, nd, nq, t, C, S, E, F1, F2⟩ := R
  obtain ⟨s1, s2, s3, s4, s5, s6, s7, s8, s9⟩ := S
  unfold B_X2_has
  rw [s3.2.2, s3.1, C.isCell]
  rcases cnt_cases (n := nq) (by have := s3.2.1; omega) x1 with ⟨e1, e2⟩ | ⟨e1, e2, p, hp, rfl⟩
  · rw [e1, e2, if00, if00]
    exact good_x RR (by decide)
  rw [e1, e2, if10, if10]
  rcases C.has x2 x3 with e | ⟨e, x, y, hx, hy, rfl, rfl⟩
  · rw [e, if00, if00]
    exact good_x RR (by decide)
  have hp10 : p < 10 := by have := s3.2.1; omega
  have hc := C.cell hx hy
  rw [e, if10, if10, pgAt hp10 hc, pgRd hp10 hc, bind_some', s9.2 _ (by omega)]
  exact good_r RR h0
theorem st_ghosts {I J : Nat → Int32} {A B : Nat → Nat → Int32} (R : Rel I A J B) (x1 : Int32) : Good [(1, 1)] (B_X6_ghosts I A x1) (B_X7_ghosts J B x1) := by
  unfold B_X6_ghosts B_X7_ghosts
  obtain ⟨J0, hJ, h0, R⟩ := th0 R
  rw [hJ]
  clear hJ
  have RR := R
  obtain ⟨w, h, np, nd, nq, t, C, S, E, F1, F2⟩ := R
  obtain ⟨s1, s2, s3, s4, s5, s6, s7, s8, s9⟩ := S
  have w12 := C.w12
  have h12 := C.h12
  unfold B_X2_has
  rw [s3.2.2, s3.1]
  rcases cnt_cases (n := nq) (by have := s3.2.1; omega) x1 with ⟨e1, e2⟩ | ⟨e1, e2, p, hp, rfl⟩
  · rw [e1, e2, if00, if00]
    exact good_x RR (by decide)
  rw [e1, e2, if10, if10]
  have hp10 : p < 10 := by have := s3.2.1; omega
  have hpl := (s9.1 p hp10).2 hp
  have row1 : ∀ y, y < h → ∀ acc, B_X2_changed_L17 I A (nI p) (nI y) FU acc 0 = some (acc + sm w (fun x => if B_X6_greyOf (dd A x y) (A 17 p) = A 18 (144 * p + (12 * y + x)) then 0 else 1)) := by
    intro y hy acc
    show B_X2_changed_L17 I A (nI p) (nI y) FU acc (nI 0) = _
    refine acc_loop (fun n z k => B_X2_changed_L17 I A (nI p) (nI y) n z k) 0 w _ (fun z => z) (by omega) ?_ ?_ acc
    · intro n z k hk
      rw [Nat.zero_add, B_X2_changed_L17_s, C.W, if_neg (nI_ge hk (by omega)), C.dirAt hk hy, rAt_nI hp10 (by decide), pgAt hp10 (C.cell hk hy), nI_1]
      by_cases q : B_X6_greyOf (dd A k y) (A 17 p) = A 18 (144 * p + (12 * y + k))
      · rw [if_pos q, if_pos q, Int32.add_zero]
      · rw [if_neg q, if_neg q]
    · intro n z
      rw [B_X2_changed_L17_s, C.W, if_pos (nI_le (by omega) (by omega))]
  have row2 : ∀ y, y < h → ∀ acc, B_X7_ghosts_L40 (nI p) (nI y) FU acc 0 J0 B = some (acc + sm w (fun x => if B_X6_greyOf (dd A x y) (A 17 p) = A 18 (144 * p + (12 * y + x)) then 0 else 1), J0, B) := by
    intro y hy acc
    show B_X7_ghosts_L40 (nI p) (nI y) FU acc (nI 0) J0 B = _
    refine acc_loop (fun n z k => B_X7_ghosts_L40 (nI p) (nI y) n z k J0 B) 0 w _ (fun z => (z, J0, B)) (by omega) ?_ ?_ acc
    · intro n z k hk
      have hc := C.cell hk hy
      rw [Nat.zero_add, B_X7_ghosts_L40_s, C.JW, if_neg (nI_ge hk (by omega)), rd_nI hp10 (by decide), bind_some', (s9.1 p hp10).1, C.greyAt hk hy hpl, bind_some', pgRd hp10 hc, bind_some', s9.2 _ (by omega), nI_1]
      by_cases q : B_X6_greyOf (dd A k y) (A 17 p) = A 18 (144 * p + (12 * y + k))
      · rw [if_pos q, if_pos q]
      · rw [if_neg q, if_neg q]
    · intro n z
      rw [B_X7_ghosts_L40_s, C.JW, if_pos (nI_le (by omega) (by omega))]
  have k1 : B_X2_changed_L5 I A (nI p) FU 0 (nI 0) = some (0 + sm h (fun y => sm w (fun x => if B_X6_greyOf (dd A x y) (A 17 p) = A 18 (144 * p + (12 * y + x)) then 0 else 1))) := by
    refine acc_loop (fun n z k => B_X2_changed_L5 I A (nI p) n z k) 0 h _ (fun z => z) (by omega) ?_ ?_ 0
    · intro n z k hk
      rw [Nat.zero_add, B_X2_changed_L5_s, C.H, if_neg (nI_ge hk (by omega)), row1 k (by omega), bind_some', nI_1]
    · intro n z
      rw [B_X2_changed_L5_s, C.H, if_pos (nI_le (by omega) (by omega))]
  have k2 : B_X7_ghosts_L29 (nI p) FU 0 (nI 0) J0 B = some (0 + sm h (fun y => sm w (fun x => if B_X6_greyOf (dd A x y) (A 17 p) = A 18 (144 * p + (12 * y + x)) then 0 else 1)), J0, B) := by
    refine acc_loop (fun n z k => B_X7_ghosts_L29 (nI p) n z k J0 B) 0 h _ (fun z => (z, J0, B)) (by omega) ?_ ?_ 0
    · intro n z k hk
      rw [Nat.zero_add, B_X7_ghosts_L29_s, C.JH, if_neg (nI_ge hk (by omega)), row2 k (by omega), bind_some', nI_1]
    · intro n z
      rw [B_X7_ghosts_L29_s, C.JH, if_pos (nI_le (by omega) (by omega))]
  unfold B_X2_changed
  rw [show B_X2_changed_L5 I A (nI p) FU 0 0 = _ from k1, show B_X7_ghosts_L29 (nI p) FU 0 0 J0 B = _ from k2, bind_some', bind_some', bind_some']
  exact good_r RR h0
theorem st_guesses {I J : Nat → Int32} {A B : Nat → Nat → Int32} (R : Rel I A J B) (x1 x2 x3 : Int32) : Good [(1, 1)] (B_X6_guesses I A x1 x2 x3) (B_X7_guesses J B x1 x2 x3) := by
  unfold B_X6_guesses B_X7_guesses
  obtain ⟨J0, hJ, h0, R⟩ := th0 R
  rw [hJ]
  clear hJ
  have RR := R
  obtain ⟨w, h, np, nd, nq, t, C, S, E, F1, F2⟩ := R
  obtain ⟨s1, s2, s3, s4, s5, s6, s7, s8, s9⟩ := S
  unfold B_X2_has
  rw [s3.2.2, s3.1, C.isCell]
  rcases cnt_cases (n := nq) (by have := s3.2.1; omega) x1 with ⟨e1, e2⟩ | ⟨e1, e2, p, hp, rfl⟩
  · rw [e1, e2, if00, if00]
    exact good_x RR (by decide)
  rw [e1, e2, if10, if10]
  rcases C.has x2 x3 with e | ⟨e, x, y, hx, hy, rfl, rfl⟩
  · rw [e, if00, if00]
    exact good_x RR (by decide)
  have hp10 : p < 10 := by have := s3.2.1; omega
  have hpl := (s9.1 p hp10).2 hp
  have hc := C.cell hx hy
  have k1 : B_X2_fitting_L6 I A (nI p) (nI x) (nI y) FU 0 (nI 0) = some (0 + sm 15 (fun d => if B_X6_greyOf (nI d) (A 17 p) = A 18 (144 * p + (12 * y + x)) then 1 else 0)) := by
    refine acc_loop (fun n z k => B_X2_fitting_L6 I A (nI p) (nI x) (nI y) n z k) 0 15 _ (fun z => z) (by omega) ?_ ?_ 0
    · intro n z k hk
      rw [Nat.zero_add, B_X2_fitting_L6_s, if_neg (show ¬ (15 : Int32) ≤ nI k from nI_ge (b := 15) hk (by omega)), rAt_nI hp10 (by decide), pgAt hp10 hc, nI_1]
      by_cases q : B_X6_greyOf (nI k) (A 17 p) = A 18 (144 * p + (12 * y + x))
      · rw [if_pos q, if_pos q]
      · rw [if_neg q, if_neg q, Int32.add_zero]
    · intro n z
      rw [B_X2_fitting_L6_s, if_pos (by decide)]
  have k2 : B_X7_guesses_L40 (nI p) (nI x) (nI y) FU 0 (nI 0) J0 B = some (0 + sm 15 (fun d => if B_X6_greyOf (nI d) (A 17 p) = A 18 (144 * p + (12 * y + x)) then 1 else 0), J0, B) := by
    refine acc_loop (fun n z k => B_X7_guesses_L40 (nI p) (nI x) (nI y) n z k J0 B) 0 15 _ (fun z => (z, J0, B)) (by omega) ?_ ?_ 0
    · intro n z k hk
      rw [Nat.zero_add, B_X7_guesses_L40_s, if_neg (show ¬ (15 : Int32) ≤ nI k from nI_ge (b := 15) hk (by omega)), rd_nI hp10 (by decide), bind_some', (s9.1 p hp10).1, pgRd hp10 hc, bind_some', s9.2 _ (by omega), grey_eq (up_nI (by omega)) hpl, nI_1]
      by_cases q : B_X6_greyOf (nI k) (A 17 p) = A 18 (144 * p + (12 * y + x))
      · rw [if_pos q, if_pos q]
      · rw [if_neg q, if_neg q]
    · intro n z
      rw [B_X7_guesses_L40_s, if_pos (by decide)]
  unfold B_X2_fitting
  rw [e, if10, if10, show B_X2_fitting_L6 I A (nI p) (nI x) (nI y) FU 0 0 = _ from k1, show B_X7_guesses_L40 (nI p) (nI x) (nI y) FU 0 0 J0 B = _ from k2, bind_some', bind_some', bind_some']
  exact good_r RR h0
/-- the greys of a new picture, row by row -/
theorem st_picture {I J : Nat → Int32} {A B : Nat → Nat → Int32} (R : Rel I A J B) : Good [(2, 1)] (B_X6_picture I A) (B_X7_picture J B) := by
  unfold B_X6_picture B_X7_picture
  obtain ⟨J0, hJ, h0, R⟩ := th0 R
  rw [hJ]
  clear hJ
  have RR := R
  obtain ⟨w, h, np, nd, nq, t, C, S, E, F1, F2⟩ := R
  obtain ⟨s1, s2, s3, s4, s5, s6, s7, s8, s9⟩ := S
  have w12 := C.w12
  have h12 := C.h12
  rw [s3.2.2, s3.1]
  by_cases q : nq = 10
  · rw [if_neg (show ¬ nI nq < 10 by rw [q]; decide), if_pos (show nI nq = 10 by rw [q]; rfl)]
    exact good_x RR (by decide)
  have hq10 : nq < 10 := by have := s3.2.1; omega
  rw [if_pos (show nI nq < 10 from nI_lt (b := 10) hq10 (by decide)), if_neg (show ¬ nI nq = 10 from fun e => q (nI_inj (b := 10) (by omega) (by decide) e)), wr_nI hq10 (by decide), bind_some', s5.2]
  unfold B_X2_take
  rw [s3.1, rPut_nI hq10 (by decide)]
  -- the arrays ahead of the loops
  generalize hA1 : va_up A 17 (upd (A 17) nq (I 0)) = A1
  generalize hB1 : va_up B 13 (upd (B 13) nq (I 0)) = B1
  have C1 : ∀ g g', Co w h np I (va_up A1 18 g) J0 (va_up B1 14 g') := fun g g' => by rw [← hA1, ← hB1]; exact C
  have d1 : ∀ g x y, dd (va_up A1 18 g) x y = dd A x y := fun g x y => by rw [← hA1]; rfl
  have row : ∀ y, y < h → ∀ g g', (∀ j, j < 1440 → g' j = g j) → ∃ r q, B_X2_take_L29 (I 0) (nI nq) (nI y) FU 0 I (va_up A1 18 g) = some r ∧ B_X7_picture_L45 (nI y) FU 0 J0 (va_up B1 14 g') = some q ∧ ∃ f f', (∀ j, j < 1440 → f' j = f j) ∧ r = (I, va_up A1 18 f) ∧ q = (J0, va_up B1 14 f') := by
    intro y hy g g' hg
    refine ng_lp20 (F := fun n (s : Int32 × (Nat → Int32) × (Nat → Nat → Int32)) => B_X2_take_L29 (I 0) (nI nq) (nI y) n s.1 s.2.1 s.2.2) (G := fun n (s : Int32 × (Nat → Int32) × (Nat → Nat → Int32)) => B_X7_picture_L45 (nI y) n s.1 s.2.1 s.2.2) (s := (0, I, va_up A1 18 g)) (t := (0, J0, va_up B1 14 g')) (fun k s t => ∃ f f', (∀ j, j < 1440 → f' j = f j) ∧ s = (nI k, I, va_up A1 18 f) ∧ t = (nI k, J0, va_up B1 14 f')) w _ (by omega) ⟨g, g', hg, rfl, rfl⟩ ?_ ?_
    · rintro k n s t hk ⟨f, f', hf, rfl, rfl⟩
      have hc := C.cell hk hy
      refine ⟨(nI (k + 1), I, va_up A1 18 (upd f (144 * nq + (12 * y + k)) (B_X6_greyOf (dd A k y) (I 0)))), (nI (k + 1), J0, va_up B1 14 (upd f' (144 * nq + (12 * y + k)) (B_X6_greyOf (dd A k y) (I 0)))), ?_, ?_, ⟨_, _, ?_, rfl, rfl⟩⟩
      · dsimp only
        rw [B_X2_take_L29_s, C.W, if_neg (nI_ge hk (by omega)), (C1 f f').dirAt hk hy, d1, nn_num, show (144 : Int32) = nI 144 from rfl, nI_mul, nI_add, rPut_nI (by omega) (by decide), va_up2, nI_1, Nat.mul_comm nq]
        rfl
      · dsimp only
        rw [B_X7_picture_L45_s, C.JW, if_neg (nI_ge hk (by omega)), s5.2, (C1 f f').greyAt hk hy s5.1, bind_some', d1, s3.2.2, s3.1, nn_cell, show (144 : Int32) = nI 144 from rfl, nI_mul, nI_add, wr_nI (by omega) (by decide), bind_some', va_up2, nI_1]
        rfl
      · intro j hj
        rw [upd_at, upd_at]
        by_cases e : j = 144 * nq + (12 * y + k)
        · rw [if_pos e, if_pos e]
        · rw [if_neg e, if_neg e]
          exact hf j hj
    · rintro n s t ⟨f, f', hf, rfl, rfl⟩
      refine ⟨_, _, ?_, ?_, f, f', hf, rfl, rfl⟩
      · dsimp only
        rw [B_X2_take_L29_s, C.W, if_pos (nI_le (Nat.le_refl _) (by omega))]
      · dsimp only
        rw [B_X7_picture_L45_s, C.JW, if_pos (nI_le (Nat.le_refl _) (by omega))]
  have all : ∃ r q, B_X2_take_L17 (I 0) (nI nq) FU 0 I A1 = some r ∧ B_X7_picture_L35 FU 0 J0 B1 = some q ∧ ∃ f f', (∀ j, j < 1440 → f' j = f j) ∧ r = (I, va_up A1 18 f) ∧ q = (J0, va_up B1 14 f') := by
    have eA : A1 = va_up A1 18 (A1 18) := by
      funext j
      unfold va_up
      by_cases e : j = 18
      · rw [if_pos e, e]
      · rw [if_neg e]
    have eB : B1 = va_up B1 14 (B1 14) := by
      funext j
      unfold va_up
      by_cases e : j = 14
      · rw [if_pos e, e]
      · rw [if_neg e]
    have e0 : ∀ j, j < 1440 → B1 14 j = A1 18 j := by
      intro j hj
      rw [← hA1, ← hB1]
      exact s9.2 j hj
    refine ng_lp20 (F := fun n (s : Int32 × (Nat → Int32) × (Nat → Nat → Int32)) => B_X2_take_L17 (I 0) (nI nq) n s.1 s.2.1 s.2.2) (G := fun n (s : Int32 × (Nat → Int32) × (Nat → Nat → Int32)) => B_X7_picture_L35 n s.1 s.2.1 s.2.2) (s := (0, I, A1)) (t := (0, J0, B1)) (fun k s t => ∃ f f', (∀ j, j < 1440 → f' j = f j) ∧ s = (nI k, I, va_up A1 18 f) ∧ t = (nI k, J0, va_up B1 14 f')) h _ (by omega) ⟨A1 18, B1 14, e0, by rw [← eA]; rfl, by rw [← eB]; rfl⟩ ?_ ?_
    · rintro k n s t hk ⟨f, f', hf, rfl, rfl⟩
      obtain ⟨r, q, e1, e2, g, g', hg, rfl, rfl⟩ := row k hk f f' hf
      refine ⟨(nI (k + 1), I, va_up A1 18 g), (nI (k + 1), J0, va_up B1 14 g'), ?_, ?_, ⟨g, g', hg, rfl, rfl⟩⟩
      · dsimp only
        rw [B_X2_take_L17_s, C.H, if_neg (nI_ge hk (by omega)), e1, bind_some', nI_1]
      · dsimp only
        rw [B_X7_picture_L35_s, C.JH, if_neg (nI_ge hk (by omega)), e2, bind_some', nI_1]
    · rintro n s t ⟨f, f', hf, rfl, rfl⟩
      refine ⟨_, _, ?_, ?_, f, f', hf, rfl, rfl⟩
      · dsimp only
        rw [B_X2_take_L17_s, C.H, if_pos (nI_le (Nat.le_refl _) (by omega))]
      · dsimp only
        rw [B_X7_picture_L35_s, C.JH, if_pos (nI_le (Nat.le_refl _) (by omega))]
  obtain ⟨r, q', e1, e2, f, f', hf, rfl, rfl⟩ := all
  rw [e1, e2, bind_some', bind_some', bind_some']
  dsimp only
  refine Or.inl ⟨nI nq, va_up I 11 (I 11 + 1), va_up A1 18 f, va_up J0 11 (J0 11 + 1), va_up B1 14 f', rfl, ?_, h0, ?_⟩
  · show some (J0 11 + 1 - 1, _, _) = _
    rw [s3.2.2, s3.1, Int32.add_sub_cancel]
  · refine ⟨w, h, np, nd, nq + 1, t, ?_, ⟨s1, s2, ⟨?_, by omega, ?_⟩, s4, s5, ?_, ?_, ?_, ?_, hf⟩, ?_, F1, F2⟩
    · rw [← hA1, ← hB1]
      exact C
    · show I 11 + 1 = _
      rw [s3.1, nI_1]
    · show J0 11 + 1 = I 11 + 1
      rw [s3.2.2]
    · rw [← hA1]
      exact s6
    · rw [← hA1, ← hB1]
      exact s7
    · rw [← hA1, ← hB1]
      exact s8
    · intro k hk
      rw [← hA1, ← hB1]
      show upd (B 13) nq (I 0) k = upd (A 17) nq (I 0) k ∧ (k < nq + 1 → up 14 (upd (A 17) nq (I 0) k))
      rw [upd_at, upd_at]
      by_cases e : k = nq
      · rw [if_pos e, if_pos e]
        exact ⟨rfl, fun _ => s5.1⟩
      · rw [if_neg e, if_neg e]
        exact ⟨(s9.1 k hk).1, fun h9 => (s9.1 k hk).2 (by omega)⟩
    · rw [← hA1]
      exact E
end PIC

section DEFECT
section
variable {w h np : Nat} {I J : Nat → Int32} {A B : Nat → Nat → Int32}
theorem exit34 {x2 x6 x3 x4 x5 x7 : Int32} {n : Nat} (h3 : x3 < 0) : B_X7_defect_L34 x2 x6 (n + 1) x3 x4 x5 x7 J B = some (x3, x4, x5, J, B) := by
  rw [B_X7_defect_L34_s]
  by_cases q : (J 1) - 1 ≤ x7
  · rw [if_pos q]
  · rw [if_neg q, if_pos h3]
theorem exit16 {x2 x3 x4 x5 x6 : Int32} {n : Nat} (h3 : x3 < 0) : B_X7_defect_L16 x2 (n + 1) x3 x4 x5 x6 J B = some (x4, x5, J, B) := by
  rw [B_X7_defect_L16_s]
  by_cases q : (J 2) - 1 ≤ x6
  · rw [if_pos q]
  · rw [if_neg q, if_pos h3]
theorem Co.findRow (C : Co w h np I A J B) {y m : Nat} (hy : y + 1 < h) (hm : m < 2 ^ 31) (x2 : Int32) : ∀ (d k n f : Nat), k + d = w - 1 → d < n → f ≤ m →
    (∃ f', f ≤ f' ∧ f' ≤ m ∧ B_X5_find_L20 I A (nI m) (nI y) n (nI f) (nI k) = some (.inl (nI f')) ∧ B_X7_defect_L34 x2 (nI y) n (nI (m - f)) (-1) (-1) (nI k) J B = some (nI (m - f'), -1, -1, J, B)) ∨
    (∃ x, x + 1 < w ∧ B_X5_find_L20 I A (nI m) (nI y) n (nI f) (nI k) = some (.inr (nI (12 * y + x))) ∧ B_X7_defect_L34 x2 (nI y) n (nI (m - f)) (-1) (-1) (nI k) J B = some (-1, nI x, nI y, J, B)) := by
  have w12 := C.w12
  have w2 := C.w2
  intro d
  induction d with
  | zero =>
    intro k n f hk hn hf
    obtain ⟨n, rfl⟩ : ∃ n', n = n' + 1 := ⟨n - 1, by omega⟩
    refine Or.inl ⟨f, Nat.le_refl _, hf, ?_, ?_⟩
    · rw [B_X5_find_L20_s, C.W, nI_sub1 (by omega), if_pos (nI_le (by omega) (by omega))]
    · rw [B_X7_defect_L34_s, C.JW, nI_sub1 (by omega), if_pos (nI_le (by omega) (by omega))]
  | succ d ih =>
    intro k n f hk hn hf
    obtain ⟨n, rfl⟩ : ∃ n', n = n' + 1 := ⟨n - 1, by omega⟩
    rw [B_X5_find_L20_s, C.W, nI_sub1 (by omega), if_neg (nI_ge (show k < w - 1 by omega) (by omega)), C.at (show k + 1 < w by omega) hy, bind_some', nI_1, nI_1,
      B_X7_defect_L34_s, C.JW, nI_sub1 (by omega), if_neg (nI_ge (show k < w - 1 by omega) (by omega)), if_neg (nI_pos (show m - f < 2 ^ 31 by omega)), C.wAt (show k + 1 < w by omega) hy, bind_some', nI_1]
    by_cases q : wdS A k y = 0
    · rw [if_pos q, if_pos q]
      exact ih (k + 1) n f (by omega) (by omega) hf
    · rw [if_neg q, if_neg q, nn_num]
      unfold B_X7_defect_J71
      by_cases q2 : f = m
      · subst q2
        rw [if_pos rfl, Nat.sub_self, if_pos (show nI 0 = 0 from rfl), if_pos (show nI 0 = 0 from rfl)]
        obtain ⟨n, rfl⟩ : ∃ n', n = n' + 1 := ⟨n - 1, by omega⟩
        refine Or.inr ⟨k, by omega, rfl, ?_⟩
        rw [exit34 (by decide)]
        rfl
      · rw [if_neg (show ¬ nI f = nI m from fun e => q2 (nI_inj (by omega) (by omega) e)), if_neg (nI_ne0 (show 0 < m - f by omega) (by omega)), if_neg (nI_ne0 (show 0 < m - f by omega) (by omega)), nI_am1 (by omega), nI_1, Nat.sub_sub]
        rcases ih (k + 1) n (f + 1) (by omega) (by omega) (by omega) with ⟨f', p1, p2, p3, p4⟩ | z
        · exact Or.inl ⟨f', by omega, p2, p3, p4⟩
        · exact Or.inr z
theorem Co.find (C : Co w h np I A J B) {m : Nat} (hm : m < 2 ^ 31) (x2 : Int32) : ∀ (d y n f : Nat), y + d = h - 1 → d < n → f ≤ m →
    (B_X5_find_L4 I A (nI m) n (nI f) (nI y) = some (.inl ()) ∧ B_X7_defect_L16 x2 n (nI (m - f)) (-1) (-1) (nI y) J B = some (-1, -1, J, B)) ∨
    (∃ x y', x + 1 < w ∧ y' + 1 < h ∧ B_X5_find_L4 I A (nI m) n (nI f) (nI y) = some (.inr (nI (12 * y' + x))) ∧ B_X7_defect_L16 x2 n (nI (m - f)) (-1) (-1) (nI y) J B = some (nI x, nI y', J, B)) := by
  have w12 := C.w12
  have h12 := C.h12
  have h2 := C.h2
  intro d
  induction d with
  | zero =>
    intro y n f hk hn hf
    obtain ⟨n, rfl⟩ : ∃ n', n = n' + 1 := ⟨n - 1, by omega⟩
    refine Or.inl ⟨?_, ?_⟩
    · rw [B_X5_find_L4_s, C.H, nI_sub1 (by omega), if_pos (nI_le (by omega) (by omega))]
    · rw [B_X7_defect_L16_s, C.JH, nI_sub1 (by omega), if_pos (nI_le (by omega) (by omega))]
  | succ d ih =>
    intro y n f hk hn hf
    obtain ⟨n, rfl⟩ : ∃ n', n = n' + 1 := ⟨n - 1, by omega⟩
    rw [B_X5_find_L4_s, C.H, nI_sub1 (by omega), if_neg (nI_ge (show y < h - 1 by omega) (by omega)),
      B_X7_defect_L16_s, C.JH, nI_sub1 (by omega), if_neg (nI_ge (show y < h - 1 by omega) (by omega)), if_neg (nI_pos (show m - f < 2 ^ 31 by omega))]
    rcases C.findRow (show y + 1 < h by omega) hm x2 (w - 1) 0 FU f (by omega) (by show w - 1 < 2000; omega) hf with ⟨f', p1, p2, p3, p4⟩ | ⟨x, hx, p3, p4⟩
    · rw [show B_X5_find_L20 I A (nI m) (nI y) FU (nI f) 0 = _ from p3, show B_X7_defect_L34 x2 (nI y) FU (nI (m - f)) (-1) (-1) 0 J B = _ from p4, bind_some', bind_some', nI_1]
      exact ih (y + 1) n f' (by omega) (by omega) p2
    · rw [show B_X5_find_L20 I A (nI m) (nI y) FU (nI f) 0 = _ from p3, show B_X7_defect_L34 x2 (nI y) FU (nI (m - f)) (-1) (-1) 0 J B = _ from p4, bind_some', bind_some']
      obtain ⟨n, rfl⟩ : ∃ n', n = n' + 1 := ⟨n - 1, by omega⟩
      refine Or.inr ⟨x, y, hx, by omega, rfl, ?_⟩
      dsimp only
      rw [exit16 (by decide)]
theorem Co.negRow (C : Co w h np I A J B) {y : Nat} (hy : y + 1 < h) {x1 : Int32} (hx1 : x1 < 0) : ∀ (d k n f : Nat), k + d = w - 1 → d < n → f + d < 2 ^ 31 →
    ∃ f', f' ≤ f + d ∧ B_X5_find_L20 I A x1 (nI y) n (nI f) (nI k) = some (.inl (nI f')) := by
  have w12 := C.w12
  have w2 := C.w2
  intro d
  induction d with
  | zero =>
    intro k n f hk hn hf
    obtain ⟨n, rfl⟩ : ∃ n', n = n' + 1 := ⟨n - 1, by omega⟩
    refine ⟨f, by omega, ?_⟩
    rw [B_X5_find_L20_s, C.W, nI_sub1 (by omega), if_pos (nI_le (by omega) (by omega))]
  | succ d ih =>
    intro k n f hk hn hf
    obtain ⟨n, rfl⟩ : ∃ n', n = n' + 1 := ⟨n - 1, by omega⟩
    rw [B_X5_find_L20_s, C.W, nI_sub1 (by omega), if_neg (nI_ge (show k < w - 1 by omega) (by omega)), C.at (show k + 1 < w by omega) hy, bind_some', nI_1, nI_1]
    by_cases q : wdS A k y = 0
    · rw [if_pos q]
      obtain ⟨f', p1, p2⟩ := ih (k + 1) n f (by omega) (by omega) (by omega)
      exact ⟨f', by omega, p2⟩
    · rw [if_neg q, if_neg (show ¬ nI f = x1 from fun e => nI_pos (show f < 2 ^ 31 by omega) (e ▸ hx1))]
      obtain ⟨f', p1, p2⟩ := ih (k + 1) n (f + 1) (by omega) (by omega) (by omega)
      exact ⟨f', by omega, p2⟩
theorem Co.neg (C : Co w h np I A J B) {x1 : Int32} (hx1 : x1 < 0) : ∀ (d y n f : Nat), y + d = h - 1 → d < n → f ≤ 12 * y → B_X5_find_L4 I A x1 n (nI f) (nI y) = some (.inl ()) := by
  have w12 := C.w12
  have h12 := C.h12
  have h2 := C.h2
  intro d
  induction d with
  | zero =>
    intro y n f hk hn hf
    obtain ⟨n, rfl⟩ : ∃ n', n = n' + 1 := ⟨n - 1, by omega⟩
    rw [B_X5_find_L4_s, C.H, nI_sub1 (by omega), if_pos (nI_le (by omega) (by omega))]
  | succ d ih =>
    intro y n f hk hn hf
    obtain ⟨n, rfl⟩ : ∃ n', n = n' + 1 := ⟨n - 1, by omega⟩
    rw [B_X5_find_L4_s, C.H, nI_sub1 (by omega), if_neg (nI_ge (show y < h - 1 by omega) (by omega))]
    obtain ⟨f', p1, p2⟩ := C.negRow (show y + 1 < h by omega) hx1 (w - 1) 0 FU f (by omega) (by show w - 1 < 2000; omega) (by omega)
    rw [show B_X5_find_L20 I A x1 (nI y) FU (nI f) 0 = _ from p2, bind_some', nI_1]
    exact ih (y + 1) n f' (by omega) (by omega) (by omega)
end
theorem nI_div {a b : Nat} (ha : a < 2 ^ 31) (hb : b < 2 ^ 31) : nI a / nI b = nI (a / b) := (Int32.ofNat_div ha hb).symm
theorem st_defect {I J : Nat → Int32} {A B : Nat → Nat → Int32} (R : Rel I A J B) (x1 x2 : Int32) : Good [(1, 1), (0, 2)] (B_X6_defect I A x1 x2) (B_X7_defect J B x1 x2) := by
  unfold B_X6_defect B_X7_defect
  obtain ⟨J0, hJ, h0, R⟩ := th0 R
  rw [hJ]
  clear hJ
  have RR := R
  obtain ⟨w, h, np, nd, nq, t, C, S, E, F1, F2⟩ := R
  have w12 := C.w12
  have h12 := C.h12
  have none_ : ∀ (z : Int32), B_X5_find I A z = some (-1) → B_X7_defect_L16 x2 FU z (-1) (-1) 0 J0 B = some (-1, -1, J0, B) → Good [(1, 1), (0, 2)] ((B_X5_find I A z).bind fun r_1 => if r_1 = (-1) then some (.inr (1, I, A)) else (if x2 = 0 then some (.inl ((r_1 - r_1 / 12 * 12), I, A)) else if x2 = 1 then some (.inl ((r_1 / 12), I, A)) else if x2 = 2 then ((B_X5_at I A ((r_1 - r_1 / 12 * 12)) ((r_1 / 12))).bind fun r_7 => some (.inl (r_7, I, A))) else some (.inr (0, I, A)))) ((B_X7_defect_L16 x2 FU z ((-1)) ((-1)) 0 J0 B).bind fun q_12 => B_X7_defect_J101 q_12.2.2.1 q_12.2.2.2 x2 q_12.1 q_12.2.1) := by
    intro z e1 e2
    rw [e1, e2, bind_some', bind_some', if_pos rfl]
    unfold B_X7_defect_J101
    dsimp only
    rw [if_pos rfl]
    exact good_x RR (by decide)
  by_cases hx1 : x1 < 0
  · apply none_
    · unfold B_X5_find
      rw [show B_X5_find_L4 I A x1 FU 0 0 = _ from C.neg hx1 (h - 1) 0 FU 0 (by omega) (by show h - 1 < 2000; omega) (by omega), bind_some']
    · exact exit16 (n := 1999) hx1
  · obtain ⟨m, hm, rfl⟩ := nI_of hx1
    rcases C.find hm x2 (h - 1) 0 FU 0 (by omega) (by show h - 1 < 2000; omega) (by omega) with ⟨p3, p4⟩ | ⟨x, y, hx, hy, p3, p4⟩
    · apply none_
      · unfold B_X5_find
        rw [show B_X5_find_L4 I A (nI m) FU 0 0 = _ from p3, bind_some']
      · exact p4
    · unfold B_X5_find
      rw [show B_X5_find_L4 I A (nI m) FU 0 0 = _ from p3, bind_some', bind_some', show B_X7_defect_L16 x2 FU (nI m) (-1) (-1) 0 J0 B = _ from p4, bind_some']
      unfold B_X7_defect_J101
      dsimp only
      have e1 : nI (12 * y + x) / 12 = nI y := by
        rw [show (12 : Int32) = nI 12 from rfl, nI_div (by omega) (by omega)]
        congr 1
        omega
      have e2 : nI (12 * y + x) - nI (12 * y + x) / 12 * 12 = nI x := by
        rw [e1, show (12 : Int32) = nI 12 from rfl, nI_mul, nI_sub (by omega)]
        congr 1
        omega
      rw [if_neg (nI_m1 (by omega)), if_neg (nI_m1 (by omega)), e2, e1, show B_X7_in x2 0 2 = B_X6_isIn x2 0 2 from rfl]
      rcases isIn_cases (x := x2) (a := 0) (b := 2) (by decide) (by decide) with e | ⟨e, k, -, hk, rfl⟩
      · have e' : B_X6_isIn x2 0 2 = 0 := e
        rw [e', if00, if_neg (show ¬ x2 = 0 by rintro rfl; exact absurd e' (by decide)), if_neg (show ¬ x2 = 1 by rintro rfl; exact absurd e' (by decide)), if_neg (show ¬ x2 = 2 by rintro rfl; exact absurd e' (by decide))]
        exact good_x RR (by decide)
      rw [show B_X6_isIn (nI k) 0 2 = 1 from e, if10]
      have hk3 : k = 0 ∨ k = 1 ∨ k = 2 := by omega
      rcases hk3 with rfl | rfl | rfl
      · rw [if_pos (show nI 0 = 0 by decide), if_pos (show nI 0 = 0 by decide)]
        exact good_r RR h0
      · rw [if_neg (show ¬ nI 1 = 0 by decide), if_neg (show ¬ nI 1 = 0 by decide), if_pos (show nI 1 = 1 by decide), if_pos (show nI 1 = 1 by decide)]
        exact good_r RR h0
      · rw [if_neg (show ¬ nI 2 = 0 by decide), if_neg (show ¬ nI 2 = 0 by decide), if_neg (show ¬ nI 2 = 1 by decide), if_neg (show ¬ nI 2 = 1 by decide), if_pos (show nI 2 = 2 by decide), C.at hx hy, bind_some', C.wAt hx hy, bind_some']
        exact good_r RR h0
section
variable {w h np : Nat} {I J : Nat → Int32} {A B : Nat → Nat → Int32}
theorem Co.pixAt (C : Co w h np I A J B) {x y : Nat} (hx : x < w) (hy : y < h) : B_X1_pixelAt I A (nI x) (nI y) = A 12 (12 * y + x) := by
  unfold B_X1_pixelAt
  rw [nn_num, rAt_nI (C.cell hx hy) (by decide)]
theorem Co.rdPix (C : Co w h np I A J B) {x y : Nat} (hx : x < w) (hy : y < h) : rd (B 4) 144 (B_X7_cell (nI x) (nI y)) = some (A 12 (12 * y + x)) := by
  rw [nn_cell, rd_nI (C.cell hx hy) (by decide), (C.pix _ (C.cell hx hy)).1]
theorem Co.goodRow (C : Co w h np I A J B) {y : Nat} (hy : y + 1 < h) (x1 : Int32) : ∀ (d k n : Nat), k + d = w - 1 → d < n → ∃ r, B_X5_isGood_L17 I A x1 (nI y) n (nI k) = some r ∧ B_X7_isGood_L14 J B x1 (nI y) n (nI k) = some r ∧ (r = .inl () ∨ r = .inr 0) := by
  have w12 := C.w12
  have w2 := C.w2
  intro d
  induction d with
  | zero =>
    intro k n hk hn
    obtain ⟨n, rfl⟩ : ∃ n', n = n' + 1 := ⟨n - 1, by omega⟩
    refine ⟨.inl (), ?_, ?_, Or.inl rfl⟩
    · rw [B_X5_isGood_L17_s, C.W, nI_sub1 (by omega), if_pos (nI_le (by omega) (by omega))]
    · rw [B_X7_isGood_L14_s, C.JW, nI_sub1 (by omega), if_pos (nI_le (by omega) (by omega))]
  | succ d ih =>
    intro k n hk hn
    obtain ⟨n, rfl⟩ : ∃ n', n = n' + 1 := ⟨n - 1, by omega⟩
    have IH := ih (k + 1) n (by omega) (by omega)
    have j93 : ∃ r, (B_X5_at I A (nI k) (nI y)).bind (fun r_4 => if r_4 = 0 then (B_X5_isGood_L17 I A x1 (nI y) n) (nI k + 1) else some (.inr 0)) = some r ∧ B_X7_isGood_J93 (B_X7_isGood_L14 J B x1 (nI y) n) J B x1 (nI y) (nI k) 1 = some r ∧ (r = .inl () ∨ r = .inr 0) := by
      unfold B_X7_isGood_J93
      rw [C.at (show k + 1 < w by omega) hy, bind_some', if10, C.wAt (show k + 1 < w by omega) hy, bind_some', nI_1]
      by_cases q : wdS A k y = 0
      · rw [if_pos q, if_pos q]
        exact IH
      · rw [if_neg q, if_neg q]
        exact ⟨_, rfl, rfl, Or.inr rfl⟩
    rw [B_X5_isGood_L17_s, C.W, nI_sub1 (by omega), if_neg (nI_ge (show k < w - 1 by omega) (by omega)),
      B_X7_isGood_L14_s, C.JW, nI_sub1 (by omega), if_neg (nI_ge (show k < w - 1 by omega) (by omega))]
    unfold B_X5_touches B_X7_isGood_J88
    rw [C.pixAt (show k < w by omega) (show y < h by omega), C.rdPix (show k < w by omega) (show y < h by omega), bind_some']
    by_cases q1 : A 12 (12 * y + k) = x1
    · rw [if_pos q1, if_pos q1, if10]
      exact j93
    rw [if_neg q1, if_neg q1, nI_1, nI_1, C.pixAt (show k + 1 < w by omega) (show y < h by omega), C.rdPix (show k + 1 < w by omega) (show y < h by omega), bind_some']
    by_cases q2 : A 12 (12 * y + (k + 1)) = x1
    · rw [if_pos q2, if_pos q2, if10]
      rw [nI_1] at j93
      exact j93
    rw [if_neg q2, if_neg q2, C.pixAt (show k < w by omega) hy, C.rdPix (show k < w by omega) hy, bind_some']
    by_cases q3 : A 12 (12 * (y + 1) + k) = x1
    · rw [if_pos q3, if_pos q3, if10]
      rw [nI_1] at j93
      exact j93
    rw [if_neg q3, if_neg q3, C.pixAt (show k + 1 < w by omega) hy, C.rdPix (show k + 1 < w by omega) hy, bind_some']
    by_cases q4 : A 12 (12 * (y + 1) + (k + 1)) = x1
    · rw [if_pos q4, if_pos q4, if10]
      rw [nI_1] at j93
      exact j93
    rw [if_neg q4, if_neg q4, if00]
    unfold B_X7_isGood_J93
    rw [if00, nI_1]
    exact IH
theorem Co.goodAll (C : Co w h np I A J B) (x1 : Int32) : ∀ (d y n : Nat), y + d = h - 1 → d < n → ∃ r, B_X5_isGood_L2 I A x1 n (nI y) = some r ∧ B_X7_isGood_L2 J B x1 n (nI y) = some r ∧ (r = .inl () ∨ r = .inr 0) := by
  have w12 := C.w12
  have h12 := C.h12
  have h2 := C.h2
  intro d
  induction d with
  | zero =>
    intro y n hk hn
    obtain ⟨n, rfl⟩ : ∃ n', n = n' + 1 := ⟨n - 1, by omega⟩
    refine ⟨.inl (), ?_, ?_, Or.inl rfl⟩
    · rw [B_X5_isGood_L2_s, C.H, nI_sub1 (by omega), if_pos (nI_le (by omega) (by omega))]
    · rw [B_X7_isGood_L2_s, C.JH, nI_sub1 (by omega), if_pos (nI_le (by omega) (by omega))]
  | succ d ih =>
    intro y n hk hn
    obtain ⟨n, rfl⟩ : ∃ n', n = n' + 1 := ⟨n - 1, by omega⟩
    obtain ⟨r, e1, e2, e3⟩ := C.goodRow (show y + 1 < h by omega) x1 (w - 1) 0 FU (by omega) (by show w - 1 < 2000; omega)
    rw [B_X5_isGood_L2_s, C.H, nI_sub1 (by omega), if_neg (nI_ge (show y < h - 1 by omega) (by omega)),
      B_X7_isGood_L2_s, C.JH, nI_sub1 (by omega), if_neg (nI_ge (show y < h - 1 by omega) (by omega)), show B_X5_isGood_L17 I A x1 (nI y) FU 0 = _ from e1, show B_X7_isGood_L14 J B x1 (nI y) FU 0 = _ from e2, bind_some', bind_some', nI_1]
    rcases e3 with rfl | rfl
    · exact ih (y + 1) n (by omega) (by omega)
    · exact ⟨_, rfl, rfl, Or.inr rfl⟩
theorem Co.isGood (C : Co w h np I A J B) (x1 : Int32) : ∃ r, B_X5_isGood I A x1 = some r ∧ B_X7_isGood J B x1 = some r := by
  have h12 := C.h12
  obtain ⟨r, e1, e2, e3⟩ := C.goodAll x1 (h - 1) 0 FU (by omega) (by show h - 1 < 2000; omega)
  unfold B_X5_isGood B_X7_isGood
  rw [show B_X5_isGood_L2 I A x1 FU 0 = _ from e1, show B_X7_isGood_L2 J B x1 FU 0 = _ from e2, bind_some', bind_some']
  rcases e3 with rfl | rfl
  · exact ⟨_, rfl, rfl⟩
  · exact ⟨_, rfl, rfl⟩
end
end DEFECT

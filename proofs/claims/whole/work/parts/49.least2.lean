section LEAST2
def loF (k : Int32) (d : Nat) : Nat := if k = 1 then d else 0
def hiF (k : Int32) (d : Nat) : Nat := if k = 1 then d else 14
theorem loF_1 (d : Nat) : loF 1 d = d := if_pos rfl
theorem hiF_1 (d : Nat) : hiF 1 d = d := if_pos rfl
theorem loF_n {k : Int32} (h : k ≠ 1) (d : Nat) : loF k d = 0 := if_neg h
theorem hiF_n {k : Int32} (h : k ≠ 1) (d : Nat) : hiF k d = 14 := if_neg h
theorem lo_le {k : Int32} {d : Nat} : loF k d ≤ d := by
  unfold loF
  by_cases q : k = 1
  · rw [if_pos q]; exact Nat.le_refl d
  · rw [if_neg q]; omega
theorem le_hi {k : Int32} {d : Nat} (h : d ≤ 14) : d ≤ hiF k d := by
  unfold hiF
  by_cases q : k = 1
  · rw [if_pos q]; exact Nat.le_refl d
  · rw [if_neg q]; exact h
theorem hi14 {k : Int32} {d : Nat} (h : d ≤ 14) : hiF k d ≤ 14 := by
  unfold hiF
  by_cases q : k = 1
  · rw [if_pos q]; exact h
  · rw [if_neg q]; omega
theorem lo_hi {k : Int32} {d a : Nat} (ha : a ≤ 14) : (loF k d ≤ a ∧ a ≤ hiF k d) ↔ (k = 1 → a = d) := by
  unfold loF hiF
  by_cases q : k = 1
  · rw [if_pos q, if_pos q]
    exact ⟨fun z _ => by omega, fun z => by have := z q; omega⟩
  · rw [if_neg q, if_neg q]
    exact ⟨fun _ z => absurd z q, fun _ => ⟨by omega, ha⟩⟩
section
variable {w h np : Nat} {I J : Nat → Int32} {A B : Nat → Nat → Int32}
theorem lesser_outer (x y x' y' : Nat) (q : Int32) {l1 h1 l2 h2 d1 d2 : Nat} (hl1 : l1 ≤ h1) (hh1 : h1 < 1000) (hl2 : l2 ≤ h2) (hh2 : h2 < 1000) (e1 : dd A x y = nI d1) (e2 : dd A x' y' = nI d2) (m1 : l1 ≤ d1 ∧ d1 ≤ h1) (m2 : l2 ≤ d2 ∧ d2 ≤ h2) {init : Int32} (hi : init = vS2 I A x y x' y' q (nI d1) (nI d2)) :
    ∃ r, B_X1_leastOfTwo_L183 I A (nI x) (nI y) (nI x') (nI y') q (dd A x y) (dd A x' y') (nI h1) (nI l2) (nI h2) FU init (nI l1) = some r ∧ IsMin (vS2 I A x y x' y' q) l1 h1 l2 h2 r := by
  have : ∃ r, B_X1_leastOfTwo_L183 I A (nI x) (nI y) (nI x') (nI y') q (dd A x y) (dd A x' y') (nI h1) (nI l2) (nI h2) FU init (nI l1) = some r ∧ (∀ a b, l1 ≤ a → a ≤ h1 → l2 ≤ b → b ≤ h2 → r ≤ vS2 I A x y x' y' q (nI a) (nI b)) ∧ (r = init ∨ ∃ a b, l1 ≤ a ∧ a ≤ h1 ∧ l2 ≤ b ∧ b ≤ h2 ∧ r = vS2 I A x y x' y' q (nI a) (nI b)) := by
    refine ng_lp (fun n (s : Int32 × Int32) => B_X1_leastOfTwo_L183 I A (nI x) (nI y) (nI x') (nI y') q (dd A x y) (dd A x' y') (nI h1) (nI l2) (nI h2) n s.1 s.2) (fun k s => l1 ≤ k ∧ s.2 = nI k ∧ (∀ a b, l1 ≤ a → a < k → l2 ≤ b → b ≤ h2 → s.1 ≤ vS2 I A x y x' y' q (nI a) (nI b)) ∧ (s.1 = init ∨ ∃ a b, l1 ≤ a ∧ a < k ∧ l2 ≤ b ∧ b ≤ h2 ∧ s.1 = vS2 I A x y x' y' q (nI a) (nI b))) (h1 + 1) _ ?_ ?_ (h1 + 1 - l1) l1 FU (init, nI l1) (by omega) (by show h1 + 1 - l1 < 2000; omega) ⟨Nat.le_refl _, rfl, fun a b h1 h2 => absurd h2 (by omega), Or.inl rfl⟩
    · intro k n s hk hP
      obtain ⟨m, z⟩ := s
      obtain ⟨p0, p1, p3, p4⟩ := hP
      dsimp only at p0 p1 p3 p4
      subst p1
      obtain ⟨m', em, q1, q2, q3⟩ := lesser_inner (I := I) (A := A) (nI x) (nI y) (nI x') (nI y') q (dd A x y) (dd A x' y') (nI h1) (nI l2) (nI k) ((B_X1_energyWith I A (nI x) (nI y) (nI k)) - (q * B_X6_squareApart (nI k) (dd A x' y'))) hl2 hh2 m
      refine ⟨(m', nI (k + 1)), ?_, by omega, rfl, ?_, ?_⟩
      · dsimp only
        rw [B_X1_leastOfTwo_L183_s, if_neg (nI_nlt (show k ≤ h1 by omega) (by omega)), em, bind_some', nI_1]
      · intro a b a1 a2 b1 b2
        by_cases e : a = k
        · rw [e]; exact q2 b b1 b2
        · exact Int32.le_trans q1 (p3 a b a1 (by omega) b1 b2)
      · dsimp only
        rcases q3 with rfl | ⟨b, b1, b2, q3⟩
        · rcases p4 with p4 | ⟨a, b, a1, a2, b1, b2, p4⟩
          · exact Or.inl p4
          · exact Or.inr ⟨a, b, a1, by omega, b1, b2, p4⟩
        · exact Or.inr ⟨k, b, p0, by omega, b1, b2, q3⟩
    · intro n s hP
      obtain ⟨m, z⟩ := s
      obtain ⟨p0, p1, p3, p4⟩ := hP
      dsimp only at p0 p1 p3 p4
      subst p1
      refine ⟨m, ?_, fun a b a1 a2 b1 b2 => p3 a b a1 (by omega) b1 b2, ?_⟩
      · dsimp only
        rw [B_X1_leastOfTwo_L183_s, if_pos (nI_lt (by omega) (by omega))]
      · rcases p4 with p4 | ⟨a, b, a1, a2, b1, b2, p4⟩
        · exact Or.inl p4
        · exact Or.inr ⟨a, b, a1, by omega, b1, b2, p4⟩
  obtain ⟨r, e, r1, r2⟩ := this
  refine ⟨r, e, r1, ?_⟩
  rcases r2 with r2 | r2
  · exact ⟨d1, d2, m1.1, m1.2, m2.1, m2.2, r2.trans hi⟩
  · exact r2
theorem Co.leastC (C : Co w h np I A J B) {x y x' y' d1 d2 : Nat} (hx : x < w) (hy : y < h) (hx' : x' < w) (hy' : y' < h) (q : Int32) (hd1 : d1 ≤ 14) (hd2 : d2 ≤ 14) (e1 : dd A x y = nI d1) (e2 : dd A x' y' = nI d2) :
    ∃ r, B_X1_leastOfTwo_J41 I A (nI x) (nI y) (nI x') (nI y') q = some r ∧ IsMin (vS2 I A x y x' y' q) (loF (A 9 (12 * y + x)) d1) (hiF (A 9 (12 * y + x)) d1) (loF (A 9 (12 * y' + x')) d2) (hiF (A 9 (12 * y' + x')) d2) r := by
  have ek : ∀ {x y}, x < w → y < h → B_X1_kindAt I A (nI x) (nI y) = A 9 (12 * y + x) := fun hx hy => by
    unfold B_X1_kindAt
    rw [nn_num, rAt_nI (C.cell hx hy) (by decide)]
  have hi : ((B_X1_energyAt I A (nI x) (nI y)) + (B_X1_energyAt I A (nI x') (nI y'))) - (q * (B_X6_squareApart (dd A x y) (dd A x' y'))) = vS2 I A x y x' y' q (nI d1) (nI d2) := by
    unfold vS2 B_X1_energyAt
    rw [C.dirAt hx hy, C.dirAt hx' hy', e1, e2]
    generalize B_X1_energyWith I A (nI x) (nI y) (nI d1) = a
    generalize B_X1_energyWith I A (nI x') (nI y') (nI d2) = b
    generalize q * B_X6_squareApart (nI d1) (nI d2) = c
    grind
  have L := lesser_outer (I := I) (A := A) x y x' y' q (l1 := loF (A 9 (12 * y + x)) d1) (h1 := hiF (A 9 (12 * y + x)) d1) (l2 := loF (A 9 (12 * y' + x')) d2) (h2 := hiF (A 9 (12 * y' + x')) d2) (Nat.le_trans lo_le (le_hi hd1)) (by have := hi14 (k := A 9 (12 * y + x)) hd1; omega) (Nat.le_trans lo_le (le_hi hd2)) (by have := hi14 (k := A 9 (12 * y' + x')) hd2; omega) e1 e2 ⟨lo_le, le_hi hd1⟩ ⟨lo_le, le_hi hd2⟩ hi
  obtain ⟨r, er, hr⟩ := L
  refine ⟨r, ?_, hr⟩
  unfold B_X1_leastOfTwo_J41 B_X1_leastOfTwo_J76 B_X1_leastOfTwo_J95 B_X1_leastOfTwo_J108 B_X1_leastOfTwo_J122 B_X1_leastOfTwo_J135 B_X1_leastOfTwo_J149
  rw [C.dirAt hx hy, C.dirAt hx' hy', ek hx hy, ek hx' hy']
  by_cases k1 : A 9 (12 * y + x) = 1
  · rw [k1, loF_1, hiF_1] at er
    rw [if_pos k1]
    by_cases k2 : A 9 (12 * y' + x') = 1
    · rw [k2, loF_1, hiF_1] at er
      rw [if_pos k2, if10, if10, if10, if10]
      rw [← e1, ← e2] at er
      rw [er, bind_some']
    · rw [loF_n k2, hiF_n k2] at er
      rw [if_neg k2, if10, if10, if00, if00]
      rw [← e1] at er
      rw [show B_X1_leastOfTwo_L183 I A (nI x) (nI y) (nI x') (nI y') q (dd A x y) (dd A x' y') (dd A x y) 0 14 FU _ (dd A x y) = _ from er, bind_some']
  · rw [loF_n k1, hiF_n k1] at er
    rw [if_neg k1]
    by_cases k2 : A 9 (12 * y' + x') = 1
    · rw [k2, loF_1, hiF_1] at er
      rw [if_pos k2, if00, if00, if10, if10]
      rw [← e2] at er
      rw [show B_X1_leastOfTwo_L183 I A (nI x) (nI y) (nI x') (nI y') q (dd A x y) (dd A x' y') 14 (dd A x' y') (dd A x' y') FU _ 0 = _ from er, bind_some']
    · rw [loF_n k2, hiF_n k2] at er
      rw [if_neg k2, if00, if00, if00, if00]
      rw [show B_X1_leastOfTwo_L183 I A (nI x) (nI y) (nI x') (nI y') q (dd A x y) (dd A x' y') 14 0 14 FU _ 0 = _ from er, bind_some']
/-! the reference tries all pairs -/
theorem Co.leastM (C : Co w h np I A J B) {x y x' y' d1 d2 : Nat} (hx : x < w) (hy : y < h) (hx' : x' < w) (hy' : y' < h) (hne : 12 * y + x ≠ 12 * y' + x') (hd1 : d1 ≤ 14) (hd2 : d2 ≤ 14) {V : Int32 → Int32 → Int32}
    (hb : ∀ (u v : Int32) (f : Nat → Int32), up 14 u → up 14 v → (∀ j, j ≠ 12 * y + x → j ≠ 12 * y' + x' → f j = B 0 j) → f (12 * y + x) = u → f (12 * y' + x') = v → ∃ e1 e2 e3, B_X7_withAll J (va_up B 0 f) (nI x) (nI y) u = some e1 ∧ B_X7_withAll J (va_up B 0 f) (nI x') (nI y') v = some e2 ∧ B_X7_pair J (va_up B 0 f) (nI x) (nI y) u (nI x' - nI x) (nI y' - nI y) = some e3 ∧ e1 + e2 - e3 = V u v) :
    ∃ r f, B_X7_least_L98 (nI x) (nI y) (nI x') (nI y') (nI (12 * y + x)) (nI (12 * y' + x')) (nI d1) (nI d2) FU 1000000000 0 J B = some (r, J, va_up B 0 f) ∧ (∀ j, j ≠ 12 * y + x → j ≠ 12 * y' + x' → f j = B 0 j) ∧
      (∀ a b, loF (A 9 (12 * y + x)) d1 ≤ a → a ≤ hiF (A 9 (12 * y + x)) d1 → loF (A 9 (12 * y' + x')) d2 ≤ b → b ≤ hiF (A 9 (12 * y' + x')) d2 → r ≤ V (nI a) (nI b)) ∧
      (r = 1000000000 ∨ ∃ a b, loF (A 9 (12 * y + x)) d1 ≤ a ∧ a ≤ hiF (A 9 (12 * y + x)) d1 ∧ loF (A 9 (12 * y' + x')) d2 ≤ b ∧ b ≤ hiF (A 9 (12 * y' + x')) d2 ∧ r = V (nI a) (nI b)) := by
  have c1 := C.cell hx hy
  have c2 := C.cell hx' hy'
  generalize hc1 : 12 * y + x = c at *
  generalize hc2 : 12 * y' + x' = c' at *
  have eB : B = va_up B 0 (B 0) := by
    funext j
    unfold va_up
    by_cases e : j = 0
    · rw [if_pos e, e]
    · rw [if_neg e]
  have k1 := (C.kind c c1).1
  have k2 := (C.kind c' c2).1
  have hi1 := hi14 (k := A 9 c) hd1
  have hi2 := hi14 (k := A 9 c') hd2
  -- one turn
  have turn : ∀ n m k f, k < 225 → (∀ j, j ≠ c → j ≠ c' → f j = B 0 j) →
      (((A 9 c = 1 → k / 15 = d1) ∧ (A 9 c' = 1 → k % 15 = d2)) → ∃ f', (∀ j, j ≠ c → j ≠ c' → f' j = B 0 j) ∧ B_X7_least_L98 (nI x) (nI y) (nI x') (nI y') (nI c) (nI c') (nI d1) (nI d2) (n + 1) m (nI k) J (va_up B 0 f) = B_X7_least_L98 (nI x) (nI y) (nI x') (nI y') (nI c) (nI c') (nI d1) (nI d2) n (B_J9_min_7cf53 m (V (nI (k / 15)) (nI (k % 15)))) (nI (k + 1)) J (va_up B 0 f')) ∧
      (¬ ((A 9 c = 1 → k / 15 = d1) ∧ (A 9 c' = 1 → k % 15 = d2)) → B_X7_least_L98 (nI x) (nI y) (nI x') (nI y') (nI c) (nI c') (nI d1) (nI d2) (n + 1) m (nI k) J (va_up B 0 f) = B_X7_least_L98 (nI x) (nI y) (nI x') (nI y') (nI c) (nI c') (nI d1) (nI d2) n m (nI (k + 1)) J (va_up B 0 f)) := by
    intro n m k f hk hf
    have e15 : nI k / 15 = nI (k / 15) := by rw [show (15 : Int32) = nI 15 from rfl, nI_div (by omega) (by decide)]
    have m15 : nI k - nI k / 15 * 15 = nI (k % 15) := by rw [e15, show (15 : Int32) = nI 15 from rfl, nI_mul, nI_sub (Nat.div_mul_le_self k 15), mod_sub]
    have u1 : up 14 (nI (k / 15)) := up_nI (by omega)
    have u2 : up 14 (nI (k % 15)) := up_nI (by omega)
    have eqA : (nI (k / 15) = nI d1) ↔ k / 15 = d1 := nI_eq (by omega) (by omega)
    have eqB : (nI (k % 15) = nI d2) ↔ k % 15 = d2 := nI_eq (by omega) (by omega)
    have r1 : rd (va_up B 0 f 1) 144 (nI c) = some (A 9 c) := by
      rw [rd_nI c1 (by decide)]
      show some (B 1 c) = _
      rw [k1]
    have r2 : rd (va_up B 0 f 1) 144 (nI c') = some (A 9 c') := by
      rw [rd_nI c2 (by decide)]
      show some (B 1 c') = _
      rw [k2]
    have g2 : ∀ j, j ≠ c → j ≠ c' → upd (upd f c (nI (k / 15))) c' (nI (k % 15)) j = B 0 j := fun j j1 j2 => by
      rw [upd_at, if_neg j2, upd_at, if_neg j1]
      exact hf j j1 j2
    obtain ⟨e1, e2, e3, w1, w2, w3, w4⟩ := hb (nI (k / 15)) (nI (k % 15)) _ u1 u2 g2 (by rw [upd_at, if_neg hne, upd_at, if_pos rfl]) (by rw [upd_at, if_pos rfl])
    have try1 : B_X7_least_J161 (B_X7_least_L98 (nI x) (nI y) (nI x') (nI y') (nI c) (nI c') (nI d1) (nI d2) n) J (va_up B 0 f) (nI x) (nI y) (nI x') (nI y') (nI c) (nI c') (nI d1) (nI d2) m (nI k) (nI (k / 15)) (nI (k % 15)) 1 = B_X7_least_L98 (nI x) (nI y) (nI x') (nI y') (nI c) (nI c') (nI d1) (nI d2) n (B_J9_min_7cf53 m (V (nI (k / 15)) (nI (k % 15)))) (nI (k + 1)) J (va_up B 0 (upd (upd f c (nI (k / 15))) c' (nI (k % 15)))) := by
      unfold B_X7_least_J161
      have eW : va_up (va_up (va_up B 0 f) 0 (upd (va_up B 0 f 0) c (nI (k / 15)))) 0 (upd (va_up (va_up B 0 f) 0 (upd (va_up B 0 f 0) c (nI (k / 15))) 0) c' (nI (k % 15))) = va_up B 0 (upd (upd f c (nI (k / 15))) c' (nI (k % 15))) := by
        rw [va_up2, va_up2]
        rfl
      rw [if10, wr_nI c1 (by decide), bind_some', wr_nI c2 (by decide), bind_some', eW, w1, bind_some', w2, bind_some', w3, bind_some', w4, nI_1]
      unfold B_J9_min_7cf53
      by_cases z : m ≤ V (nI (k / 15)) (nI (k % 15))
      · rw [if_pos z, if_neg (show ¬ V (nI (k / 15)) (nI (k % 15)) < m from fun q => (Int32.not_le.mpr q) z)]
      · rw [if_neg z, if_pos (Int32.not_le.mp z)]
    have try0 : B_X7_least_J161 (B_X7_least_L98 (nI x) (nI y) (nI x') (nI y') (nI c) (nI c') (nI d1) (nI d2) n) J (va_up B 0 f) (nI x) (nI y) (nI x') (nI y') (nI c) (nI c') (nI d1) (nI d2) m (nI k) (nI (k / 15)) (nI (k % 15)) 0 = B_X7_least_L98 (nI x) (nI y) (nI x') (nI y') (nI c) (nI c') (nI d1) (nI d2) n m (nI (k + 1)) J (va_up B 0 f) := by
      unfold B_X7_least_J161
      rw [if00, nI_1]
    have base : B_X7_least_L98 (nI x) (nI y) (nI x') (nI y') (nI c) (nI c') (nI d1) (nI d2) (n + 1) m (nI k) J (va_up B 0 f) = (if A 9 c = 1 then (if nI (k / 15) = nI d1 then (if A 9 c' = 1 then (if nI (k % 15) = nI d2 then B_X7_least_L98 (nI x) (nI y) (nI x') (nI y') (nI c) (nI c') (nI d1) (nI d2) n (B_J9_min_7cf53 m (V (nI (k / 15)) (nI (k % 15)))) (nI (k + 1)) J (va_up B 0 (upd (upd f c (nI (k / 15))) c' (nI (k % 15)))) else B_X7_least_L98 (nI x) (nI y) (nI x') (nI y') (nI c) (nI c') (nI d1) (nI d2) n m (nI (k + 1)) J (va_up B 0 f)) else B_X7_least_L98 (nI x) (nI y) (nI x') (nI y') (nI c) (nI c') (nI d1) (nI d2) n (B_J9_min_7cf53 m (V (nI (k / 15)) (nI (k % 15)))) (nI (k + 1)) J (va_up B 0 (upd (upd f c (nI (k / 15))) c' (nI (k % 15))))) else B_X7_least_L98 (nI x) (nI y) (nI x') (nI y') (nI c) (nI c') (nI d1) (nI d2) n m (nI (k + 1)) J (va_up B 0 f)) else (if A 9 c' = 1 then (if nI (k % 15) = nI d2 then B_X7_least_L98 (nI x) (nI y) (nI x') (nI y') (nI c) (nI c') (nI d1) (nI d2) n (B_J9_min_7cf53 m (V (nI (k / 15)) (nI (k % 15)))) (nI (k + 1)) J (va_up B 0 (upd (upd f c (nI (k / 15))) c' (nI (k % 15)))) else B_X7_least_L98 (nI x) (nI y) (nI x') (nI y') (nI c) (nI c') (nI d1) (nI d2) n m (nI (k + 1)) J (va_up B 0 f)) else B_X7_least_L98 (nI x) (nI y) (nI x') (nI y') (nI c) (nI c') (nI d1) (nI d2) n (B_J9_min_7cf53 m (V (nI (k / 15)) (nI (k % 15)))) (nI (k + 1)) J (va_up B 0 (upd (upd f c (nI (k / 15))) c' (nI (k % 15)))))) := by
      rw [B_X7_least_L98_s, if_neg (show ¬ (225 : Int32) ≤ nI k from nI_ge (b := 225) hk (by decide)), r1, bind_some', m15, e15]
      unfold B_X7_least_J138 B_X7_least_J156 B_X7_least_J160
      rw [r2, bind_some', try1, try0]
    constructor
    · rintro ⟨p1, p2⟩
      refine ⟨_, g2, ?_⟩
      rw [base]
      by_cases q1 : A 9 c = 1
      · rw [if_pos q1, if_pos (eqA.mpr (p1 q1))]
        by_cases q2 : A 9 c' = 1
        · rw [if_pos q2, if_pos (eqB.mpr (p2 q2))]
        · rw [if_neg q2]
      · rw [if_neg q1]
        by_cases q2 : A 9 c' = 1
        · rw [if_pos q2, if_pos (eqB.mpr (p2 q2))]
        · rw [if_neg q2]
    · intro hn
      rw [base]
      by_cases q1 : A 9 c = 1
      · rw [if_pos q1]
        by_cases p1 : k / 15 = d1
        · rw [if_pos (eqA.mpr p1)]
          by_cases q2 : A 9 c' = 1
          · rw [if_pos q2]
            by_cases p2 : k % 15 = d2
            · exact absurd ⟨fun _ => p1, fun _ => p2⟩ hn
            · rw [if_neg (fun z => p2 (eqB.mp z))]
          · exact absurd ⟨fun _ => p1, fun z => absurd z q2⟩ hn
        · rw [if_neg (fun z => p1 (eqA.mp z))]
      · rw [if_neg q1]
        by_cases q2 : A 9 c' = 1
        · rw [if_pos q2]
          by_cases p2 : k % 15 = d2
          · exact absurd ⟨fun z => absurd z q1, fun _ => p2⟩ hn
          · rw [if_neg (fun z => p2 (eqB.mp z))]
        · exact absurd ⟨fun z => absurd z q1, fun z => absurd z q2⟩ hn
  have all : ∃ r, B_X7_least_L98 (nI x) (nI y) (nI x') (nI y') (nI c) (nI c') (nI d1) (nI d2) FU 1000000000 0 J B = some r ∧ ∃ m f, r = (m, J, va_up B 0 f) ∧ (∀ j, j ≠ c → j ≠ c' → f j = B 0 j) ∧
      (∀ a b, loF (A 9 c) d1 ≤ a → a ≤ hiF (A 9 c) d1 → loF (A 9 c') d2 ≤ b → b ≤ hiF (A 9 c') d2 → 15 * a + b < 225 → m ≤ V (nI a) (nI b)) ∧
      (m = 1000000000 ∨ ∃ a b, loF (A 9 c) d1 ≤ a ∧ a ≤ hiF (A 9 c) d1 ∧ loF (A 9 c') d2 ≤ b ∧ b ≤ hiF (A 9 c') d2 ∧ m = V (nI a) (nI b)) := by
    refine ng_lp0 (F := fun n (s : Int32 × Int32 × (Nat → Int32) × (Nat → Nat → Int32)) => B_X7_least_L98 (nI x) (nI y) (nI x') (nI y') (nI c) (nI c') (nI d1) (nI d2) n s.1 s.2.1 s.2.2.1 s.2.2.2) (s := (1000000000, 0, J, B)) (fun k s => ∃ m f, s = (m, nI k, J, va_up B 0 f) ∧ (∀ j, j ≠ c → j ≠ c' → f j = B 0 j) ∧
      (∀ a b, loF (A 9 c) d1 ≤ a → a ≤ hiF (A 9 c) d1 → loF (A 9 c') d2 ≤ b → b ≤ hiF (A 9 c') d2 → 15 * a + b < k → m ≤ V (nI a) (nI b)) ∧
      (m = 1000000000 ∨ ∃ a b, loF (A 9 c) d1 ≤ a ∧ a ≤ hiF (A 9 c) d1 ∧ loF (A 9 c') d2 ≤ b ∧ b ≤ hiF (A 9 c') d2 ∧ m = V (nI a) (nI b))) 225 _ (by decide) ⟨1000000000, B 0, by rw [← eB]; rfl, fun _ _ _ => rfl, fun a b _ _ _ _ z => absurd z (Nat.not_lt_zero _), Or.inl rfl⟩ ?_ ?_
    · rintro k n s hk ⟨m, f, rfl, p1, p2, p3⟩
      obtain ⟨t1, t2⟩ := turn n m k f hk p1
      have la := lo_hi (k := A 9 c) (d := d1) (a := k / 15) (by omega)
      have lb := lo_hi (k := A 9 c') (d := d2) (a := k % 15) (by omega)
      by_cases may : (A 9 c = 1 → k / 15 = d1) ∧ (A 9 c' = 1 → k % 15 = d2)
      · obtain ⟨f', g1, g2⟩ := t1 may
        obtain ⟨la1, la2⟩ := la.mpr may.1
        obtain ⟨lb1, lb2⟩ := lb.mpr may.2
        refine ⟨(B_J9_min_7cf53 m (V (nI (k / 15)) (nI (k % 15))), nI (k + 1), J, va_up B 0 f'), g2, _, f', rfl, g1, ?_, ?_⟩
        · intro a b a1 a2 b1 b2 ab
          by_cases e : 15 * a + b = k
          · have ea : k / 15 = a := by omega
            have eb : k % 15 = b := by omega
            rw [ea, eb]
            exact min_le_r _ _
          · exact Int32.le_trans (min_le_l _ _) (p2 a b a1 a2 b1 b2 (by omega))
        · rcases min_or m (V (nI (k / 15)) (nI (k % 15))) with e | e
          · rw [e]
            exact p3
          · rw [e]
            exact Or.inr ⟨_, _, la1, la2, lb1, lb2, rfl⟩
      · refine ⟨(m, nI (k + 1), J, va_up B 0 f), t2 may, m, f, rfl, p1, ?_, p3⟩
        intro a b a1 a2 b1 b2 ab
        by_cases e : 15 * a + b = k
        · exfalso
          apply may
          have ea : k / 15 = a := by omega
          have eb : k % 15 = b := by omega
          rw [ea, eb]
          rw [ea] at la
          rw [eb] at lb
          exact ⟨la.mp ⟨a1, a2⟩, lb.mp ⟨b1, b2⟩⟩
        · exact p2 a b a1 a2 b1 b2 (by omega)
    · rintro n s ⟨m, f, rfl, p⟩
      refine ⟨_, ?_, m, f, rfl, p⟩
      dsimp only
      rw [B_X7_least_L98_s, if_pos (by decide)]
  obtain ⟨r, e, m, f, rfl, p1, p2, p3⟩ := all
  exact ⟨m, f, e, p1, fun a b a1 a2 b1 b2 => p2 a b a1 a2 b1 b2 (by omega), p3⟩
end
end LEAST2

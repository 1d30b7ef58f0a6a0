section DEFECT
/-- how many defects there are in the row y, ahead of the column k; in all rows ahead of y -/
def cn (A : Nat → Nat → Int32) (y : Nat) : Nat → Nat
  | 0 => 0
  | k + 1 => cn A y k + (if wdS A k y = 0 then 0 else 1)
def tc (A : Nat → Nat → Int32) (w : Nat) : Nat → Nat
  | 0 => 0
  | y + 1 => tc A w y + cn A y (w - 1)
theorem cn_s (A : Nat → Nat → Int32) (y k : Nat) : cn A y (k + 1) = cn A y k + (if wdS A k y = 0 then 0 else 1) := rfl
theorem tc_s (A : Nat → Nat → Int32) (w y : Nat) : tc A w (y + 1) = tc A w y + cn A y (w - 1) := rfl
theorem cn_mono (A : Nat → Nat → Int32) (y k d : Nat) : cn A y k ≤ cn A y (k + d) := by
  induction d with
  | zero => exact Nat.le_refl _
  | succ d ih => rw [← Nat.add_assoc, cn_s]; omega
theorem cn_lt {A : Nat → Nat → Int32} {y x k : Nat} (h : wdS A x y ≠ 0) (hx : x < k) : cn A y x < cn A y k := by
  have := cn_mono A y (x + 1) (k - (x + 1))
  rw [Nat.add_sub_cancel' hx, cn_s, if_neg h] at this
  omega
theorem cn_le (A : Nat → Nat → Int32) (y k : Nat) : cn A y k ≤ k := by
  induction k with
  | zero => exact Nat.le_refl _
  | succ k ih =>
    rw [cn_s]
    by_cases q : wdS A k y = 0
    · rw [if_pos q]; omega
    · rw [if_neg q]; omega
theorem tc_mono (A : Nat → Nat → Int32) (w y d : Nat) : tc A w y ≤ tc A w (y + d) := by
  induction d with
  | zero => exact Nat.le_refl _
  | succ d ih => rw [← Nat.add_assoc, tc_s]; omega
theorem tc_le (A : Nat → Nat → Int32) (w y : Nat) : tc A w y ≤ y * (w - 1) := by
  induction y with
  | zero => exact Nat.zero_le _
  | succ y ih =>
    have := cn_le A y (w - 1)
    rw [tc_s, Nat.succ_mul]
    omega
/-- the number of a defect tells its place -/
theorem tc_inj {A : Nat → Nat → Int32} {w x y x' y' : Nat} (hx : x + 1 < w) (hx' : x' + 1 < w) (h : wdS A x y ≠ 0) (h' : wdS A x' y' ≠ 0) (e : tc A w y + cn A y x = tc A w y' + cn A y' x') : x = x' ∧ y = y' := by
  have key : ∀ {x y y' : Nat} (x' : Nat), x + 1 < w → wdS A x y ≠ 0 → y < y' → tc A w y + cn A y x < tc A w y' + cn A y' x' := by
    intro x y y' x' hx h hy
    have k1 := cn_lt (k := w - 1) h (by omega)
    have k2 := tc_mono A w (y + 1) (y' - (y + 1))
    rw [Nat.add_sub_cancel' hy, tc_s] at k2
    omega
  have ey : y = y' := by
    rcases Nat.lt_trichotomy y y' with q | q | q
    · have := key x' hx h q; omega
    · exact q
    · have := key x hx' h' q; omega
  subst ey
  refine ⟨?_, rfl⟩
  rcases Nat.lt_trichotomy x x' with q | q | q
  · have := cn_lt h q; omega
  · exact q
  · have := cn_lt h' q; omega
section
variable {w h np nd t : Nat} {I : Nat → Int32} {A : Nat → Nat → Int32}
theorem Co.tcUp (C : Co w h np I A) (y : Nat) (hy : y ≤ h) : tc A w y ≤ 144 := by
  have w12 := C.w12
  have h12 := C.h12
  have k := tc_le A w y
  have : y * (w - 1) ≤ 12 * 12 := Nat.mul_le_mul (by omega) (by omega)
  omega
theorem sm_cn (A : Nat → Nat → Int32) (y k : Nat) : sm k (fun x => if wdS A x y = 0 then (0 : Int32) else 1) = nI (cn A y k) := by
  induction k with
  | zero => rfl
  | succ k ih =>
    rw [sm_s, ih, cn_s, ← nI_add]
    by_cases q : wdS A k y = 0
    · rw [if_pos q, if_pos q]; rfl
    · rw [if_neg q, if_neg q]; rfl
theorem sm_tc (A : Nat → Nat → Int32) (w y : Nat) : sm y (fun y => sm (w - 1) (fun x => if wdS A x y = 0 then (0 : Int32) else 1)) = nI (tc A w y) := by
  induction y with
  | zero => rfl
  | succ y ih => rw [sm_s, ih, tc_s, ← nI_add, sm_cn]
theorem st_defects (C : Co w h np I A) : B_X6_defects I A = some (nI (tc A w (h - 1))) := by
  have w12 := C.w12
  have h12 := C.h12
  have w2 := C.w2
  have h2 := C.h2
  have row1 : ∀ y, y + 1 < h → ∀ acc, B_X5_count_L19 I A (nI y) FU acc 0 = some (acc + sm (w - 1) (fun x => if wdS A x y = 0 then 0 else 1)) := by
    intro y hy acc
    show B_X5_count_L19 I A (nI y) FU acc (nI 0) = _
    refine acc_loop (fun n z k => B_X5_count_L19 I A (nI y) n z k) 0 (w - 1) _ (fun z => z) (by omega) ?_ ?_ acc
    · intro n z k hk
      rw [Nat.zero_add, B_X5_count_L19_s, C.W, nI_sub1 (by omega), if_neg (nI_ge hk (by omega)), C.at (show k + 1 < w by omega) hy, bind_some', nI_1]
      by_cases q : wdS A k y = 0
      · rw [if_pos q, if_pos q, Int32.add_zero]
      · rw [if_neg q, if_neg q]
    · intro n z
      rw [B_X5_count_L19_s, C.W, nI_sub1 (by omega), if_pos (nI_le (by omega) (by omega))]
  have k1 : B_X5_count_L4 I A FU 0 (nI 0) = some (0 + sm (h - 1) (fun y => sm (w - 1) (fun x => if wdS A x y = 0 then 0 else 1))) := by
    refine acc_loop (fun n z k => B_X5_count_L4 I A n z k) 0 (h - 1) _ (fun z => z) (by omega) ?_ ?_ 0
    · intro n z k hk
      rw [Nat.zero_add, B_X5_count_L4_s, C.H, nI_sub1 (by omega), if_neg (nI_ge hk (by omega)), row1 k (by omega), bind_some', nI_1]
    · intro n z
      rw [B_X5_count_L4_s, C.H, nI_sub1 (by omega), if_pos (nI_le (by omega) (by omega))]
  unfold B_X6_defects B_X5_count
  rw [show B_X5_count_L4 I A FU 0 0 = _ from k1, bind_some', bind_some', Int32.zero_add, sm_tc]
theorem Co.findRow (C : Co w h np I A) {y m : Nat} (hy : y + 1 < h) (hm : m < 2 ^ 31) : ∀ (d k n : Nat), k + d = w - 1 → d < n → tc A w y + cn A y k ≤ m →
    (∃ x, x + 1 < w ∧ wdS A x y ≠ 0 ∧ tc A w y + cn A y x = m ∧ B_X5_find_L20 I A (nI m) (nI y) n (nI (tc A w y + cn A y k)) (nI k) = some (.inr (nI (12 * y + x)))) ∨
    (tc A w y + cn A y (w - 1) ≤ m ∧ B_X5_find_L20 I A (nI m) (nI y) n (nI (tc A w y + cn A y k)) (nI k) = some (.inl (nI (tc A w y + cn A y (w - 1))))) := by
  have w12 := C.w12
  have w2 := C.w2
  intro d
  induction d with
  | zero =>
    intro k n hk hn hf
    obtain ⟨n, rfl⟩ : ∃ n', n = n' + 1 := ⟨n - 1, by omega⟩
    have hkw : k = w - 1 := by omega
    refine Or.inr ⟨hkw ▸ hf, ?_⟩
    rw [B_X5_find_L20_s, C.W, nI_sub1 (by omega), if_pos (nI_le (by omega) (by omega)), hkw]
  | succ d ih =>
    intro k n hk hn hf
    obtain ⟨n, rfl⟩ : ∃ n', n = n' + 1 := ⟨n - 1, by omega⟩
    have c1 := cn_s A y k
    rw [B_X5_find_L20_s, C.W, nI_sub1 (by omega), if_neg (nI_ge (show k < w - 1 by omega) (by omega)), C.at (show k + 1 < w by omega) hy, bind_some', nI_1, nI_1]
    by_cases q : wdS A k y = 0
    · rw [if_pos q] at c1
      rw [if_pos q, show tc A w y + cn A y k = tc A w y + cn A y (k + 1) by omega]
      exact ih (k + 1) n (by omega) (by omega) (by omega)
    · rw [if_neg q] at c1
      rw [if_neg q]
      by_cases q2 : tc A w y + cn A y k = m
      · rw [if_pos (show nI (tc A w y + cn A y k) = nI m by rw [q2]), nn_num]
        exact Or.inl ⟨k, by omega, q, q2, rfl⟩
      · rw [if_neg (show ¬ nI (tc A w y + cn A y k) = nI m from fun e => q2 (nI_inj (by omega) (by omega) e)), show tc A w y + cn A y k + 1 = tc A w y + cn A y (k + 1) by omega]
        exact ih (k + 1) n (by omega) (by omega) (by omega)
theorem Co.findAll (C : Co w h np I A) {m : Nat} (hm : m < 2 ^ 31) : ∀ (d y n : Nat), y + d = h - 1 → d < n → tc A w y ≤ m →
    (∃ x y', x + 1 < w ∧ y' + 1 < h ∧ wdS A x y' ≠ 0 ∧ tc A w y' + cn A y' x = m ∧ B_X5_find_L4 I A (nI m) n (nI (tc A w y)) (nI y) = some (.inr (nI (12 * y' + x)))) ∨
    tc A w (h - 1) ≤ m := by
  have w12 := C.w12
  have h12 := C.h12
  have h2 := C.h2
  intro d
  induction d with
  | zero =>
    intro y n hk hn hf
    have : y = h - 1 := by omega
    exact Or.inr (this ▸ hf)
  | succ d ih =>
    intro y n hk hn hf
    obtain ⟨n, rfl⟩ : ∃ n', n = n' + 1 := ⟨n - 1, by omega⟩
    rw [B_X5_find_L4_s, C.H, nI_sub1 (by omega), if_neg (nI_ge (show y < h - 1 by omega) (by omega))]
    rcases C.findRow (show y + 1 < h by omega) hm (w - 1) 0 FU (by omega) (by show w - 1 < 2000; omega) hf with ⟨x, hx, q1, q2, q3⟩ | ⟨q1, q2⟩
    · rw [show B_X5_find_L20 I A (nI m) (nI y) FU (nI (tc A w y)) 0 = _ from q3, bind_some']
      exact Or.inl ⟨x, y, hx, by omega, q1, q2, rfl⟩
    · rw [show B_X5_find_L20 I A (nI m) (nI y) FU (nI (tc A w y)) 0 = _ from q2, bind_some', nI_1]
      exact ih (y + 1) n (by omega) (by omega) q1
/-- where the defect m is -/
theorem Co.find (C : Co w h np I A) {m : Nat} (hm : m < tc A w (h - 1)) : ∃ x y, x + 1 < w ∧ y + 1 < h ∧ wdS A x y ≠ 0 ∧ tc A w y + cn A y x = m ∧ B_X5_find I A (nI m) = some (nI (12 * y + x)) := by
  have h12 := C.h12
  have k := C.tcUp (h - 1) (by omega)
  rcases C.findAll (show m < 2 ^ 31 by omega) (h - 1) 0 FU (by omega) (by show h - 1 < 2000; omega) (Nat.zero_le m) with ⟨x, y, hx, hy, q1, q2, q3⟩ | q
  · refine ⟨x, y, hx, hy, q1, q2, ?_⟩
    unfold B_X5_find
    rw [show B_X5_find_L4 I A (nI m) FU 0 0 = _ from q3, bind_some']
  · omega
theorem nI_12 (x y : Nat) (hx : x < 12) (hy : y < 12) : nI (12 * y + x) / 12 = nI y ∧ nI (12 * y + x) - nI (12 * y + x) / 12 * 12 = nI x := by
  have e1 : nI (12 * y + x) / 12 = nI y := by
    rw [show (12 : Int32) = nI 12 from rfl, nI_div (by omega) (by omega)]
    congr 1
    omega
  refine ⟨e1, ?_⟩
  rw [e1, show (12 : Int32) = nI 12 from rfl, nI_mul, nI_sub (by omega)]
  congr 1
  omega
theorem st_defect (C : Co w h np I A) {m : Nat} (hm : m < tc A w (h - 1)) : ∃ x y, x + 1 < w ∧ y + 1 < h ∧ wdS A x y ≠ 0 ∧ tc A w y + cn A y x = m ∧ B_X6_defect I A (nI m) 0 = some (nI x) ∧ B_X6_defect I A (nI m) 1 = some (nI y) := by
  have w12 := C.w12
  have h12 := C.h12
  obtain ⟨x, y, hx, hy, q1, q2, q3⟩ := C.find hm
  obtain ⟨e1, e2⟩ := nI_12 x y (by omega) (by omega)
  refine ⟨x, y, hx, hy, q1, q2, ?_, ?_⟩
  · unfold B_X6_defect
    rw [q3, bind_some', if_neg (nI_m1 (by omega)), if_pos rfl, e2]
  · unfold B_X6_defect
    rw [q3, bind_some', if_neg (nI_m1 (by omega)), if_neg (by decide), if_pos rfl, e1]
/-- a place has a cell of the pixel v -/
def tou (A : Nat → Nat → Int32) (x y : Nat) (v : Int32) : Prop := A 12 (12 * y + x) = v ∨ A 12 (12 * y + (x + 1)) = v ∨ A 12 (12 * (y + 1) + x) = v ∨ A 12 (12 * (y + 1) + (x + 1)) = v
theorem Co.touches (C : Co w h np I A) {x y : Nat} (hx : x + 1 < w) (hy : y + 1 < h) (v : Int32) : (B_X5_touches I A (nI x) (nI y) v = 1 ∧ tou A x y v) ∨ (B_X5_touches I A (nI x) (nI y) v = 0 ∧ ¬ tou A x y v) := by
  unfold B_X5_touches tou
  rw [nI_1, nI_1, C.pixAt (show x < w by omega) (show y < h by omega), C.pixAt hx (show y < h by omega), C.pixAt (show x < w by omega) hy, C.pixAt hx hy]
  by_cases q1 : A 12 (12 * y + x) = v
  · rw [if_pos q1]; exact Or.inl ⟨rfl, Or.inl q1⟩
  rw [if_neg q1]
  by_cases q2 : A 12 (12 * y + (x + 1)) = v
  · rw [if_pos q2]; exact Or.inl ⟨rfl, Or.inr (Or.inl q2)⟩
  rw [if_neg q2]
  by_cases q3 : A 12 (12 * (y + 1) + x) = v
  · rw [if_pos q3]; exact Or.inl ⟨rfl, Or.inr (Or.inr (Or.inl q3))⟩
  rw [if_neg q3]
  by_cases q4 : A 12 (12 * (y + 1) + (x + 1)) = v
  · rw [if_pos q4]; exact Or.inl ⟨rfl, Or.inr (Or.inr (Or.inr q4))⟩
  rw [if_neg q4]
  refine Or.inr ⟨rfl, ?_⟩
  rintro (z | z | z | z)
  · exact q1 z
  · exact q2 z
  · exact q3 z
  · exact q4 z
/-- a bad place -/
def bad (A : Nat → Nat → Int32) (w h : Nat) (v : Int32) (x y : Nat) : Prop := x + 1 < w ∧ y + 1 < h ∧ wdS A x y ≠ 0 ∧ tou A x y v
theorem Co.goodRow (C : Co w h np I A) {y : Nat} (hy : y + 1 < h) (v : Int32) : ∃ r, B_X5_isGood_L17 I A v (nI y) FU 0 = some r ∧ ((r = .inl () ∧ ∀ x, ¬ bad A w h v x y) ∨ (r = .inr 0 ∧ ∃ x, bad A w h v x y)) := by
  have w12 := C.w12
  have w2 := C.w2
  refine ng_le0 (F := fun n (s : Int32) => B_X5_isGood_L17 I A v (nI y) n s) (s := 0) (fun k s => s = nI k ∧ ∀ x, x < k → ¬ bad A w h v x y) (w - 1) _ (by omega) ⟨rfl, fun x hx => absurd hx (Nat.not_lt_zero _)⟩ ?_ ?_
  · rintro k n s hk ⟨rfl, q⟩
    rw [B_X5_isGood_L17_s, C.W, nI_sub1 (by omega), if_neg (nI_ge hk (by omega)), nI_1]
    have next : ¬ bad A w h v k y → ∀ x, x < k + 1 → ¬ bad A w h v x y := by
      intro z x hx
      by_cases e : x = k
      · rw [e]; exact z
      · exact q x (by omega)
    rcases C.touches (show k + 1 < w by omega) hy v with ⟨e, z⟩ | ⟨e, z⟩
    · rw [e, if10, C.at (show k + 1 < w by omega) hy, bind_some']
      by_cases e2 : wdS A k y = 0
      · rw [if_pos e2]
        exact Or.inl ⟨nI (k + 1), rfl, rfl, next (fun b => b.2.2.1 e2)⟩
      · rw [if_neg e2]
        exact Or.inr ⟨_, rfl, Or.inr ⟨rfl, k, by omega, hy, e2, z⟩⟩
    · rw [e, if00]
      exact Or.inl ⟨nI (k + 1), rfl, rfl, next (fun b => z b.2.2.2)⟩
  · rintro n s ⟨rfl, q⟩
    refine ⟨.inl (), ?_, Or.inl ⟨rfl, fun x b => q x (by have := b.1; omega) b⟩⟩
    rw [B_X5_isGood_L17_s, C.W, nI_sub1 (by omega), if_pos (nI_le (Nat.le_refl _) (by omega))]
theorem Co.isGood (C : Co w h np I A) (v : Int32) : (B_X5_isGood I A v = some 1 ∧ ∀ x y, ¬ bad A w h v x y) ∨ (B_X5_isGood I A v = some 0 ∧ ∃ x y, bad A w h v x y) := by
  have h12 := C.h12
  have h2 := C.h2
  have all : ∃ r, B_X5_isGood_L2 I A v FU 0 = some r ∧ ((r = .inl () ∧ ∀ x y, ¬ bad A w h v x y) ∨ (r = .inr 0 ∧ ∃ x y, bad A w h v x y)) := by
    refine ng_le0 (F := fun n (s : Int32) => B_X5_isGood_L2 I A v n s) (s := 0) (fun k s => s = nI k ∧ ∀ x y, y < k → ¬ bad A w h v x y) (h - 1) _ (by omega) ⟨rfl, fun x y hy => absurd hy (Nat.not_lt_zero _)⟩ ?_ ?_
    · rintro k n s hk ⟨rfl, q⟩
      obtain ⟨r, e, z⟩ := C.goodRow (show k + 1 < h by omega) v
      rw [B_X5_isGood_L2_s, C.H, nI_sub1 (by omega), if_neg (nI_ge hk (by omega)), e, bind_some', nI_1]
      rcases z with ⟨rfl, z⟩ | ⟨rfl, x, z⟩
      · refine Or.inl ⟨nI (k + 1), rfl, rfl, fun x y hy => ?_⟩
        by_cases e2 : y = k
        · rw [e2]; exact z x
        · exact q x y (by omega)
      · exact Or.inr ⟨_, rfl, Or.inr ⟨rfl, x, k, z⟩⟩
    · rintro n s ⟨rfl, q⟩
      refine ⟨.inl (), ?_, Or.inl ⟨rfl, fun x y b => q x y (by have := b.2.1; omega) b⟩⟩
      rw [B_X5_isGood_L2_s, C.H, nI_sub1 (by omega), if_pos (nI_le (Nat.le_refl _) (by omega))]
  obtain ⟨r, e, z⟩ := all
  unfold B_X5_isGood
  rw [e, bind_some']
  rcases z with ⟨rfl, z⟩ | ⟨rfl, z⟩
  · exact Or.inl ⟨rfl, z⟩
  · exact Or.inr ⟨rfl, z⟩
end
end DEFECT

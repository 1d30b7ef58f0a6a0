section REGION
/-! the winding within a region is that of its border -/
theorem on_anti_n : ∀ a, a < 15 → ∀ b, b < 15 → B_X6_onFrom (nI b) (nI a) = 0 - B_X6_onFrom (nI a) (nI b) := by decide +kernel
theorem on_anti {a b : Int32} (ha : up 14 a) (hb : up 14 b) : B_X6_onFrom b a = 0 - B_X6_onFrom a b := by
  obtain ⟨x, hx, rfl⟩ := ha
  obtain ⟨y, hy, rfl⟩ := hb
  exact on_anti_n x (by omega) y (by omega)
theorem sm_sub (n : Nat) (f g : Nat → Int32) : sm n (fun i => f i - g i) = sm n f - sm n g := by
  induction n with
  | zero => show (0 : Int32) = 0 - 0; decide
  | succ n ih =>
    rw [sm_s, sm_s, sm_s, ih]
    generalize sm n f = a
    generalize sm n g = b
    grind
/-- a sum of steps -/
theorem sm_tele (n : Nat) (f : Nat → Int32) : sm n (fun i => f (i + 1) - f i) = f n - f 0 := by
  induction n with
  | zero => show (0 : Int32) = f 0 - f 0; rw [Int32.sub_self]
  | succ n ih =>
    rw [sm_s, ih]
    generalize f (n + 1) = a
    generalize f n = b
    generalize f 0 = c
    grind
/-- along a row, along a column -/
def hz (A : Nat → Nat → Int32) (x y : Nat) : Int32 := B_X6_onFrom (dd A x y) (dd A (x + 1) y)
def vt (A : Nat → Nat → Int32) (x y : Nat) : Int32 := B_X6_onFrom (dd A x y) (dd A x (y + 1))
section
variable {w h np nd t : Nat} {I : Nat → Int32} {A : Nat → Nat → Int32}
theorem Co.arE (C : Co w h np I A) {a b c d : Nat} (hac : a < c) (hbd : b < d) (hc : c < w) (hd : d < h) : arS A a b c d = (sm (c - a) (fun i => hz A (a + i) b) - sm (c - a) (fun i => hz A (a + i) d)) + (sm (d - b) (fun j => vt A c (b + j)) - sm (d - b) (fun j => vt A a (b + j))) := by
  unfold arS tS vS
  rw [← sm_sub, ← sm_sub]
  congr 1
  · apply sm_congr
    intro i hi
    rw [on_anti (C.dup (show a + i < w by omega) hd) (C.dup (show a + i + 1 < w by omega) hd)]
    unfold hz
    generalize B_X6_onFrom (dd A (a + i) b) (dd A (a + i + 1) b) = p
    generalize B_X6_onFrom (dd A (a + i) d) (dd A (a + i + 1) d) = q
    grind
  · apply sm_congr
    intro j hj
    rw [on_anti (C.dup (show a < w by omega) (show b + j < h by omega)) (C.dup (show a < w by omega) (show b + j + 1 < h by omega))]
    unfold vt
    generalize B_X6_onFrom (dd A c (b + j)) (dd A c (b + j + 1)) = p
    generalize B_X6_onFrom (dd A a (b + j)) (dd A a (b + j + 1)) = q
    grind
theorem Co.arP (C : Co w h np I A) {x y : Nat} (hx : x + 1 < w) (hy : y + 1 < h) : arS A x y (x + 1) (y + 1) = (hz A x y - hz A x (y + 1)) + (vt A (x + 1) y - vt A x y) := by
  rw [C.arE (Nat.lt_succ_self x) (Nat.lt_succ_self y) hx hy, show x + 1 - x = 1 by omega, show y + 1 - y = 1 by omega]
  show (0 + hz A (x + 0) y - (0 + hz A (x + 0) (y + 1))) + (0 + vt A (x + 1) (y + 0) - (0 + vt A x (y + 0))) = _
  rw [Int32.zero_add, Int32.zero_add, Int32.zero_add, Int32.zero_add]
  rfl
/-- around a region: the sum of what is around its places -/
theorem Co.arSum (C : Co w h np I A) {a b c d : Nat} (hac : a < c) (hbd : b < d) (hc : c < w) (hd : d < h) : arS A a b c d = sm (d - b) (fun j => sm (c - a) (fun i => arS A (a + i) (b + j) (a + i + 1) (b + j + 1))) := by
  have e : sm (d - b) (fun j => sm (c - a) (fun i => arS A (a + i) (b + j) (a + i + 1) (b + j + 1))) = sm (d - b) (fun j => (0 - (sm (c - a) (fun i => hz A (a + i) (b + (j + 1))) - sm (c - a) (fun i => hz A (a + i) (b + j)))) + (vt A c (b + j) - vt A a (b + j))) := by
    apply sm_congr
    intro j hj
    rw [sm_congr (fun i hi => C.arP (show a + i + 1 < w by omega) (show b + j + 1 < h by omega)), sm_add (c - a) (fun i => hz A (a + i) (b + j) - hz A (a + i) (b + j + 1)) (fun i => vt A (a + i + 1) (b + j) - vt A (a + i) (b + j)), sm_sub]
    have k := sm_tele (c - a) (fun i => vt A (a + i) (b + j))
    rw [show sm (c - a) (fun i => vt A (a + i + 1) (b + j) - vt A (a + i) (b + j)) = _ from k, Nat.add_sub_cancel' (Nat.le_of_lt hac), Nat.add_zero]
    congr 1
    rw [Int32.zero_sub, Int32.neg_sub]
    rfl
  have s1 : sm (d - b) (fun j => 0 - (sm (c - a) (fun i => hz A (a + i) (b + (j + 1))) - sm (c - a) (fun i => hz A (a + i) (b + j)))) = 0 - (sm (c - a) (fun i => hz A (a + i) d) - sm (c - a) (fun i => hz A (a + i) b)) := by
    rw [sm_sub (d - b) (fun _ => 0) (fun j => sm (c - a) (fun i => hz A (a + i) (b + (j + 1))) - sm (c - a) (fun i => hz A (a + i) (b + j))), sm_zero (fun _ _ => rfl), sm_tele (d - b) (fun j => sm (c - a) (fun i => hz A (a + i) (b + j))), Nat.add_sub_cancel' (Nat.le_of_lt hbd), Nat.add_zero]
  rw [e, sm_add (d - b) (fun j => 0 - (sm (c - a) (fun i => hz A (a + i) (b + (j + 1))) - sm (c - a) (fun i => hz A (a + i) (b + j)))) (fun j => vt A c (b + j) - vt A a (b + j)), s1, sm_sub, C.arE hac hbd hc hd, Int32.zero_sub, Int32.neg_sub]
theorem sm_ofInt (n : Nat) (f : Nat → Int32) (m : Int) (hf : ∀ i, i < n → ∃ T : Int, -m ≤ T ∧ T ≤ m ∧ f i = Int32.ofInt T) : ∃ T : Int, -(m * n) ≤ T ∧ T ≤ m * n ∧ sm n f = Int32.ofInt T := by
  induction n with
  | zero => exact ⟨0, by omega, by omega, rfl⟩
  | succ n ih =>
    obtain ⟨T, t1, t2, e⟩ := ih (fun i hi => hf i (by omega))
    obtain ⟨U, u1, u2, eu⟩ := hf n (by omega)
    have : m * ((n + 1 : Nat) : Int) = m * n + m := by rw [show ((n + 1 : Nat) : Int) = (n : Int) + 1 from rfl, Int.mul_add, Int.mul_one]
    exact ⟨T + U, by omega, by omega, by rw [sm_s, e, eu, Int32.ofInt_add]⟩
theorem sm_mul (n : Nat) (p : Int32) (f : Nat → Int32) : sm n (fun i => p * f i) = p * sm n f := by
  induction n with
  | zero => exact (Int32.mul_zero).symm
  | succ n ih => rw [sm_s, sm_s, ih, Int32.mul_add]
/-- the winding of a place is whole and small -/
theorem Co.wdT (C : Co w h np I A) {x y : Nat} (hx : x + 1 < w) (hy : y + 1 < h) : ∃ T : Int, -100 ≤ T ∧ T ≤ 100 ∧ wdS A x y = Int32.ofInt T ∧ arS A x y (x + 1) (y + 1) = 15 * wdS A x y := by
  obtain ⟨T, t1, t2, e⟩ := C.arT (Nat.lt_succ_self x) (Nat.lt_succ_self y) hx hy
  refine ⟨T, t1, t2, ?_, ?_⟩
  · unfold wdS
    rw [e, div15 t1 t2]
  · unfold wdS
    rw [e, div15 t1 t2, show (15 : Int32) = Int32.ofInt 15 from rfl, ← Int32.ofInt_mul]
/-- THE WINDING WITHIN IS WHAT THE BORDER TELLS -/
theorem Co.border (C : Co w h np I A) {a b c d : Nat} (hac : a < c) (hbd : b < d) (hc : c < w) (hd : d < h) : arS A a b c d / 15 = rgS A a b c d := by
  have w12 := C.w12
  have h12 := C.h12
  obtain ⟨T, t1, t2, e⟩ := C.arT hac hbd hc hd
  have row : ∀ j, j < d - b → ∃ T : Int, -1200 ≤ T ∧ T ≤ 1200 ∧ sm (c - a) (fun i => wdS A (a + i) (b + j)) = Int32.ofInt T := by
    intro j hj
    obtain ⟨U, u1, u2, eu⟩ := sm_ofInt (c - a) (fun i => wdS A (a + i) (b + j)) 100 (fun i hi => by
      obtain ⟨U, u1, u2, eu, -⟩ := C.wdT (show a + i + 1 < w by omega) (show b + j + 1 < h by omega)
      exact ⟨U, u1, u2, eu⟩)
    exact ⟨U, by omega, by omega, eu⟩
  obtain ⟨U, u1, u2, eu⟩ := sm_ofInt (d - b) (fun j => sm (c - a) (fun i => wdS A (a + i) (b + j))) 1200 row
  have e2 : arS A a b c d = 15 * rgS A a b c d := by
    rw [C.arSum hac hbd hc hd]
    unfold rgS
    rw [← sm_mul]
    apply sm_congr
    intro j hj
    rw [← sm_mul]
    apply sm_congr
    intro i hi
    obtain ⟨-, -, -, -, z⟩ := C.wdT (show a + i + 1 < w by omega) (show b + j + 1 < h by omega)
    exact z
  have eu' : rgS A a b c d = Int32.ofInt U := eu
  rw [e, eu', show (15 : Int32) = Int32.ofInt 15 from rfl, ← Int32.ofInt_mul] at e2
  have e3 := congrArg Int32.toInt e2
  rw [Int32.toInt_ofInt_of_le (by omega) (by omega), Int32.toInt_ofInt_of_le (by omega) (by omega)] at e3
  rw [e, eu', div15 t1 t2, show T = U by omega]
theorem st_winding (C : Co w h np I A) {x y : Nat} (hx : x + 1 < w) (hy : y + 1 < h) : B_X6_winding I A (nI x) (nI y) = some (wdS A x y) := by
  unfold B_X6_winding B_X5_has
  rw [C.hin (show x < w by omega) (show y < h by omega), if10, nI_1, nI_1, C.hin hx hy, if10, if10, C.at hx hy, bind_some']
theorem st_within (C : Co w h np I A) {a b c d : Nat} (hac : a < c) (hbd : b < d) (hc : c < w) (hd : d < h) : B_X6_within I A (nI a) (nI b) (nI c) (nI d) = some (rgS A a b c d) := by
  have w12 := C.w12
  have h12 := C.h12
  unfold B_X6_within
  rw [C.hin (show a < w by omega) (show b < h by omega), if10, C.hin hc hd, if10, if_neg (nI_ge hac (by omega)), if_pos (nI_lt hbd (by omega))]
  have row1 : ∀ j, b + j < d → ∀ acc, B_X5_sum_L16 I A (nI a) (nI c) (nI d) (nI (b + j)) FU acc (nI a) = some (acc + sm (c - a) (fun i => wdS A (a + i) (b + j))) := by
    intro j hj acc
    refine acc_loop (fun n z k => B_X5_sum_L16 I A (nI a) (nI c) (nI d) (nI (b + j)) n z k) a (c - a) _ (fun z => z) (by omega) ?_ ?_ acc
    · intro n z k hk
      rw [B_X5_sum_L16_s, if_neg (nI_ge (show a + k < c by omega) (by omega)), C.at (show a + k + 1 < w by omega) (show b + j + 1 < h by omega), bind_some', nI_1]
    · intro n z
      rw [B_X5_sum_L16_s, if_pos (nI_le (show c ≤ a + (c - a) by omega) (by omega))]
  have k1 : B_X5_sum_L6 I A (nI a) (nI c) (nI d) FU 0 (nI b) = some (0 + rgS A a b c d) := by
    refine acc_loop (fun n z k => B_X5_sum_L6 I A (nI a) (nI c) (nI d) n z k) b (d - b) _ (fun z => z) (by omega) ?_ ?_ 0
    · intro n z k hk
      rw [B_X5_sum_L6_s, if_neg (nI_ge (show b + k < d by omega) (by omega)), row1 k (by omega), bind_some', nI_1]
    · intro n z
      rw [B_X5_sum_L6_s, if_pos (nI_le (show d ≤ b + (d - b) by omega) (by omega))]
  unfold B_X5_sum
  rw [k1, bind_some', bind_some', Int32.zero_add]
theorem st_border (C : Co w h np I A) {a b c d : Nat} (hac : a < c) (hbd : b < d) (hc : c < w) (hd : d < h) : B_X6_border I A (nI a) (nI b) (nI c) (nI d) = some (rgS A a b c d) := by
  have w12 := C.w12
  have h12 := C.h12
  unfold B_X6_border
  rw [C.hin (show a < w by omega) (show b < h by omega), if10, C.hin hc hd, if10, if_neg (nI_ge hac (by omega)), if_pos (nI_lt hbd (by omega)), C.around hac hbd hc hd, bind_some', C.border hac hbd hc hd]
end
end REGION

section WIND
def wrz (a b : Int) : Int := if 7 < b - a then -1 else if b - a < -7 then 1 else 0
theorem on_wrz_n : ∀ a, a < 15 → ∀ b, b < 15 → B_X6_onFrom (nI a) (nI b) = Int32.ofInt ((nI b).toInt - (nI a).toInt + 15 * wrz (nI a).toInt (nI b).toInt) := by decide +kernel
theorem on_wrz {u v : Int32} (hu : up 14 u) (hv : up 14 v) : ∃ T : Int, -1 ≤ T ∧ T ≤ 1 ∧ B_X6_onFrom u v = Int32.ofInt (v.toInt - u.toInt + 15 * T) := by
  obtain ⟨a, ha, rfl⟩ := hu
  obtain ⟨b, hb, rfl⟩ := hv
  refine ⟨wrz (nI a).toInt (nI b).toInt, ?_, ?_, on_wrz_n a (by omega) b (by omega)⟩ <;>
    (unfold wrz; split; (try omega); split <;> omega)
theorem tele {f g : Nat → Int32} : ∀ {n : Nat} (_ : ∀ i, i ≤ n → up 14 (f i)) (_ : ∀ i, i ≤ n → up 14 (g i)), ∃ T : Int, -(2 * (n : Int)) ≤ T ∧ T ≤ 2 * (n : Int) ∧
    sm n (fun i => B_X6_onFrom (f i) (f (i + 1)) + B_X6_onFrom (g (i + 1)) (g i)) = Int32.ofInt ((f n).toInt - (f 0).toInt + ((g 0).toInt - (g n).toInt) + 15 * T) := by
  intro n
  induction n with
  | zero =>
    intro _ _
    refine ⟨0, by omega, by omega, ?_⟩
    rw [show (f 0).toInt - (f 0).toInt + ((g 0).toInt - (g 0).toInt) + 15 * 0 = 0 by omega]
    rfl
  | succ n ih =>
    intro hf hg
    obtain ⟨T, t1, t2, e⟩ := ih (fun i hi => hf i (by omega)) (fun i hi => hg i (by omega))
    obtain ⟨a, a1, a2, ea⟩ := on_wrz (hf n (by omega)) (hf (n + 1) (by omega))
    obtain ⟨b, b1, b2, eb⟩ := on_wrz (hg (n + 1) (by omega)) (hg n (by omega))
    refine ⟨T + a + b, by omega, by omega, ?_⟩
    rw [sm_s, e, ea, eb, ← Int32.ofInt_add, ← Int32.ofInt_add]
    congr 1
    omega
def tS (A : Nat → Nat → Int32) (a b c d : Nat) : Int32 := sm (c - a) (fun i => B_X6_onFrom (dd A (a + i) b) (dd A (a + i + 1) b) + B_X6_onFrom (dd A (a + i + 1) d) (dd A (a + i) d))
def vS (A : Nat → Nat → Int32) (a b c d : Nat) : Int32 := sm (d - b) (fun j => B_X6_onFrom (dd A c (b + j)) (dd A c (b + j + 1)) + B_X6_onFrom (dd A a (b + j + 1)) (dd A a (b + j)))
def arS (A : Nat → Nat → Int32) (a b c d : Nat) : Int32 := tS A a b c d + vS A a b c d
/-- the winding of a place -/
def wdS (A : Nat → Nat → Int32) (x y : Nat) : Int32 := arS A x y (x + 1) (y + 1) / 15
theorem div15 {T : Int} (h1 : -100 ≤ T) (h2 : T ≤ 100) : Int32.ofInt (15 * T) / 15 = Int32.ofInt T := by
  apply Int32.toInt_inj.mp
  rw [Int32.toInt_div_of_ne_right _ _ (by decide), Int32.toInt_ofInt_of_le (by omega) (by omega), Int32.toInt_ofInt_of_le (by omega) (by omega), show (15 : Int32).toInt = 15 by decide]
  exact Int.mul_tdiv_cancel_left T (by decide)
section
variable {w h np : Nat} {I : Nat → Int32} {A : Nat → Nat → Int32}
theorem Co.arT (C : Co w h np I A) {a b c d : Nat} (hac : a < c) (hbd : b < d) (hc : c < w) (hd : d < h) : ∃ T : Int, -100 ≤ T ∧ T ≤ 100 ∧ arS A a b c d = Int32.ofInt (15 * T) := by
  have w12 := C.w12
  have h12 := C.h12
  obtain ⟨T1, p1, p2, e1⟩ := tele (f := fun i => dd A (a + i) b) (g := fun i => dd A (a + i) d) (n := c - a) (fun i hi => C.dup (by omega) (by omega)) (fun i hi => C.dup (by omega) (by omega))
  obtain ⟨T2, q1, q2, e2⟩ := tele (f := fun j => dd A c (b + j)) (g := fun j => dd A a (b + j)) (n := d - b) (fun i hi => C.dup (by omega) (by omega)) (fun i hi => C.dup (by omega) (by omega))
  refine ⟨T1 + T2, by omega, by omega, ?_⟩
  have e1' : tS A a b c d = _ := e1
  have e2' : vS A a b c d = _ := e2
  unfold arS
  rw [e1', e2', ← Int32.ofInt_add]
  rw [Nat.add_sub_cancel' (Nat.le_of_lt hac), Nat.add_sub_cancel' (Nat.le_of_lt hbd), Nat.add_zero, Nat.add_zero]
  congr 1
  omega
theorem Co.floor (C : Co w h np I A) {a b c d : Nat} (hac : a < c) (hbd : b < d) (hc : c < w) (hd : d < h) : B_J9_floorDiv_7cf53 (arS A a b c d) 15 = some (arS A a b c d / 15) := by
  obtain ⟨T, t1, t2, e⟩ := C.arT hac hbd hc hd
  unfold B_J9_floorDiv_7cf53
  rw [if_neg (show ¬ (15 : Int32) = 0 by decide)]
  have e3 : arS A a b c d / 15 * 15 = arS A a b c d := by
    rw [e, div15 t1 t2, show (15 : Int32) = Int32.ofInt 15 from rfl, ← Int32.ofInt_mul]
    congr 1
    omega
  by_cases c1 : 0 ≤ (arS A a b c d ^^^ 15)
  · rw [if_pos c1]
  · rw [if_neg c1, if_pos e3]
theorem Co.around (C : Co w h np I A) {a b c d : Nat} (hac : a < c) (hbd : b < d) (hc : c < w) (hd : d < h) : B_X5_around I A (nI a) (nI b) (nI c) (nI d) = some (arS A a b c d / 15) := by
  have w12 := C.w12
  have h12 := C.h12
  have r1 : ∃ r, B_X5_around_L6 I A (nI a) (nI b) (nI c) (nI d) FU 0 (nI a) = some r ∧ r = tS A a b c d := by
    refine ng_lp0 (F := fun n (s : Int32 × Int32) => B_X5_around_L6 I A (nI a) (nI b) (nI c) (nI d) n s.1 s.2) (s := (0, nI a)) (fun k s => s.1 = sm k (fun i => B_X6_onFrom (dd A (a + i) b) (dd A (a + i + 1) b) + B_X6_onFrom (dd A (a + i + 1) d) (dd A (a + i) d)) ∧ s.2 = nI (a + k)) (c - a) _ (by omega) ⟨rfl, rfl⟩ ?_ ?_
    · intro k n s hk hP
      obtain ⟨u, v⟩ := s
      obtain ⟨h1, h2⟩ := hP
      dsimp only at h1 h2
      subst h1 h2
      refine ⟨(sm (k + 1) (fun i => B_X6_onFrom (dd A (a + i) b) (dd A (a + i + 1) b) + B_X6_onFrom (dd A (a + i + 1) d) (dd A (a + i) d)), nI (a + k + 1)), ?_, rfl, rfl⟩
      dsimp only
      rw [B_X5_around_L6_s, if_neg (nI_ge (show a + k < c by omega) (by omega)), nI_1, C.dirAt (show a + k < w by omega) (show b < h by omega), C.dirAt (show a + k + 1 < w by omega) (show b < h by omega), C.dirAt (show a + k + 1 < w by omega) hd, C.dirAt (show a + k < w by omega) hd, Int32.add_assoc]
      rfl
    · intro n s hP
      obtain ⟨u, v⟩ := s
      obtain ⟨h1, h2⟩ := hP
      dsimp only at h1 h2
      subst h1 h2
      refine ⟨_, ?_, rfl⟩
      dsimp only
      rw [B_X5_around_L6_s, if_pos (nI_le (show c ≤ a + (c - a) by omega) (by omega))]
      rfl
  have r2 : ∃ r, B_X5_around_L83 I A (nI a) (nI c) (nI d) FU (tS A a b c d) (nI b) = some r ∧ r = arS A a b c d := by
    refine ng_lp0 (F := fun n (s : Int32 × Int32) => B_X5_around_L83 I A (nI a) (nI c) (nI d) n s.1 s.2) (s := (tS A a b c d, nI b)) (fun k s => s.1 = tS A a b c d + sm k (fun j => B_X6_onFrom (dd A c (b + j)) (dd A c (b + j + 1)) + B_X6_onFrom (dd A a (b + j + 1)) (dd A a (b + j))) ∧ s.2 = nI (b + k)) (d - b) _ (by omega) ⟨(Int32.add_zero _).symm, rfl⟩ ?_ ?_
    · intro k n s hk hP
      obtain ⟨u, v⟩ := s
      obtain ⟨h1, h2⟩ := hP
      dsimp only at h1 h2
      subst h1 h2
      refine ⟨(tS A a b c d + sm (k + 1) (fun j => B_X6_onFrom (dd A c (b + j)) (dd A c (b + j + 1)) + B_X6_onFrom (dd A a (b + j + 1)) (dd A a (b + j))), nI (b + k + 1)), ?_, rfl, rfl⟩
      dsimp only
      rw [B_X5_around_L83_s, if_neg (nI_ge (show b + k < d by omega) (by omega)), nI_1, C.dirAt hc (show b + k < h by omega), C.dirAt hc (show b + k + 1 < h by omega), C.dirAt (show a < w by omega) (show b + k + 1 < h by omega), C.dirAt (show a < w by omega) (show b + k < h by omega), sm_s, Int32.add_assoc, Int32.add_assoc]
    · intro n s hP
      obtain ⟨u, v⟩ := s
      obtain ⟨h1, h2⟩ := hP
      dsimp only at h1 h2
      subst h1 h2
      refine ⟨_, ?_, rfl⟩
      dsimp only
      rw [B_X5_around_L83_s, if_pos (nI_le (show d ≤ b + (d - b) by omega) (by omega))]
      rfl
  obtain ⟨q1, e1, rfl⟩ := r1
  obtain ⟨q2, e2, rfl⟩ := r2
  unfold B_X5_around
  rw [e1, bind_some', e2, bind_some', C.floor hac hbd hc hd, bind_some']
theorem Co.at (C : Co w h np I A) {x y : Nat} (hx : x + 1 < w) (hy : y + 1 < h) : B_X5_at I A (nI x) (nI y) = some (wdS A x y) := by
  unfold B_X5_at
  rw [nI_1, nI_1, C.around (Nat.lt_succ_self x) (Nat.lt_succ_self y) hx hy, bind_some']
  rfl
end
def rgS (A : Nat → Nat → Int32) (a b c d : Nat) : Int32 := sm (d - b) (fun j => sm (c - a) (fun i => wdS A (a + i) (b + j)))
end WIND

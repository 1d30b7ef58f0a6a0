section WIND
/-! a loop that may end early -/
theorem ng_le {σ R : Type} (F : Nat → σ → Option R) (P : Nat → σ → Prop) (w : Nat) (Q : R → Prop)
    (hs : ∀ k n s, k < w → P k s → (∃ s', F (n + 1) s = F n s' ∧ P (k + 1) s') ∨ ∃ r, F (n + 1) s = some r ∧ Q r)
    (he : ∀ n s, P w s → ∃ r, F (n + 1) s = some r ∧ Q r) : ∀ (d k n : Nat) (s : σ), k + d = w → d < n → P k s → ∃ r, F n s = some r ∧ Q r := by
  intro d
  induction d with
  | zero =>
    intro k n s hk hn hP
    obtain ⟨n, rfl⟩ : ∃ n', n = n' + 1 := ⟨n - 1, by omega⟩
    have : k = w := by omega
    subst this
    exact he n s hP
  | succ d ih =>
    intro k n s hk hn hP
    obtain ⟨n, rfl⟩ : ∃ n', n = n' + 1 := ⟨n - 1, by omega⟩
    rcases hs k n s (by omega) hP with ⟨s', h1, h2⟩ | ⟨r, h1, h2⟩
    · rw [h1]
      exact ih (k + 1) n s' (by omega) (by omega) h2
    · exact ⟨r, h1, h2⟩
theorem ng_le0 {σ R : Type} {F : Nat → σ → Option R} (P : Nat → σ → Prop) (w : Nat) (Q : R → Prop) {s : σ} (hw : w < 2000) (h0 : P 0 s)
    (hs : ∀ k n s, k < w → P k s → (∃ s', F (n + 1) s = F n s' ∧ P (k + 1) s') ∨ ∃ r, F (n + 1) s = some r ∧ Q r)
    (he : ∀ n s, P w s → ∃ r, F (n + 1) s = some r ∧ Q r) : ∃ r, F FU s = some r ∧ Q r := ng_le F P w Q hs he w 0 FU s (by omega) (show w < 2000 from hw) h0
/-! windings are whole: once round is a multiple of 15 -/
def wrz (a b : Int) : Int := if 7 < b - a then -1 else if b - a < -7 then 1 else 0
theorem on_wrz_n : ∀ a, a < 15 → ∀ b, b < 15 → B_X6_onFrom (nI a) (nI b) = Int32.ofInt ((nI b).toInt - (nI a).toInt + 15 * wrz (nI a).toInt (nI b).toInt) := by decide +kernel
theorem on_wrz {u v : Int32} (hu : up 14 u) (hv : up 14 v) : ∃ T : Int, -1 ≤ T ∧ T ≤ 1 ∧ B_X6_onFrom u v = Int32.ofInt (v.toInt - u.toInt + 15 * T) := by
  obtain ⟨a, ha, rfl⟩ := hu
  obtain ⟨b, hb, rfl⟩ := hv
  refine ⟨wrz (nI a).toInt (nI b).toInt, ?_, ?_, on_wrz_n a (by omega) b (by omega)⟩ <;>
    (unfold wrz; split; (try omega); split <;> omega)
theorem tele {f g : Nat → Int32} : ∀ {n : Nat} (_ : ∀ i, i ≤ n → up 14 (f i)) (_ : ∀ i, i ≤ n → up 14 (g i)), ∃ T : Int, -(2 * (n : Int)) ≤ T ∧ T ≤ 2 * (n : Int) ∧
    sm n (fun i => B_X6_onFrom (f i) (f (i + 1)) + B_X6_onFrom (g (i + 1)) (g i)) = Int32.ofInt ((f n).toInt - (f 0).toInt + ((g 0).toInt - (g n).toInt) + 15 * T) := by
  intro n
  induction n with
  | zero =>
    intro _ _
    refine ⟨0, by omega, by omega, ?_⟩
    rw [show (f 0).toInt - (f 0).toInt + ((g 0).toInt - (g 0).toInt) + 15 * 0 = 0 by omega]
    rfl
  | succ n ih =>
    intro hf hg
    obtain ⟨T, t1, t2, e⟩ := ih (fun i hi => hf i (by omega)) (fun i hi => hg i (by omega))
    obtain ⟨a, a1, a2, ea⟩ := on_wrz (hf n (by omega)) (hf (n + 1) (by omega))
    obtain ⟨b, b1, b2, eb⟩ := on_wrz (hg (n + 1) (by omega)) (hg n (by omega))
    refine ⟨T + a + b, by omega, by omega, ?_⟩
    rw [sm_s, e, ea, eb, ← Int32.ofInt_add, ← Int32.ofInt_add]
    congr 1
    omega
def tS (A : Nat → Nat → Int32) (a b c d : Nat) : Int32 := sm (c - a) (fun i => B_X6_onFrom (dd A (a + i) b) (dd A (a + i + 1) b) + B_X6_onFrom (dd A (a + i + 1) d) (dd A (a + i) d))
def vS (A : Nat → Nat → Int32) (a b c d : Nat) : Int32 := sm (d - b) (fun j => B_X6_onFrom (dd A c (b + j)) (dd A c (b + j + 1)) + B_X6_onFrom (dd A a (b + j + 1)) (dd A a (b + j)))
def arS (A : Nat → Nat → Int32) (a b c d : Nat) : Int32 := tS A a b c d + vS A a b c d
/-- the winding of a place -/
def wdS (A : Nat → Nat → Int32) (x y : Nat) : Int32 := arS A x y (x + 1) (y + 1) / 15
theorem div15 {T : Int} (h1 : -100 ≤ T) (h2 : T ≤ 100) : Int32.ofInt (15 * T) / 15 = Int32.ofInt T := by
  apply Int32.toInt_inj.mp
  rw [Int32.toInt_div_of_ne_right _ _ (by decide), Int32.toInt_ofInt_of_le (by omega) (by omega), Int32.toInt_ofInt_of_le (by omega) (by omega), show (15 : Int32).toInt = 15 by decide]
  exact Int.mul_tdiv_cancel_left T (by decide)
section
variable {w h np : Nat} {I J : Nat → Int32} {A B : Nat → Nat → Int32}
theorem Co.arT (C : Co w h np I A J B) {a b c d : Nat} (hac : a < c) (hbd : b < d) (hc : c < w) (hd : d < h) : ∃ T : Int, -100 ≤ T ∧ T ≤ 100 ∧ arS A a b c d = Int32.ofInt (15 * T) := by
  have w12 := C.w12
  have h12 := C.h12
  obtain ⟨T1, p1, p2, e1⟩ := tele (f := fun i => dd A (a + i) b) (g := fun i => dd A (a + i) d) (n := c - a) (fun i hi => C.dup (by omega) (by omega)) (fun i hi => C.dup (by omega) (by omega))
  obtain ⟨T2, q1, q2, e2⟩ := tele (f := fun j => dd A c (b + j)) (g := fun j => dd A a (b + j)) (n := d - b) (fun i hi => C.dup (by omega) (by omega)) (fun i hi => C.dup (by omega) (by omega))
  refine ⟨T1 + T2, by omega, by omega, ?_⟩
  have e1' : tS A a b c d = _ := e1
  have e2' : vS A a b c d = _ := e2
  unfold arS
  rw [e1', e2', ← Int32.ofInt_add]
  rw [Nat.add_sub_cancel' (Nat.le_of_lt hac), Nat.add_sub_cancel' (Nat.le_of_lt hbd), Nat.add_zero, Nat.add_zero]
  congr 1
  omega
theorem Co.floor (C : Co w h np I A J B) {a b c d : Nat} (hac : a < c) (hbd : b < d) (hc : c < w) (hd : d < h) : B_J9_floorDiv_7cf53 (arS A a b c d) 15 = some (arS A a b c d / 15) := by
  obtain ⟨T, t1, t2, e⟩ := C.arT hac hbd hc hd
  unfold B_J9_floorDiv_7cf53
  rw [if_neg (show ¬ (15 : Int32) = 0 by decide)]
  have e3 : arS A a b c d / 15 * 15 = arS A a b c d := by
    rw [e, div15 t1 t2, show (15 : Int32) = Int32.ofInt 15 from rfl, ← Int32.ofInt_mul]
    congr 1
    omega
  by_cases c1 : 0 ≤ (arS A a b c d ^^^ 15)
  · rw [if_pos c1]
  · rw [if_neg c1, if_pos e3]
theorem Co.around (C : Co w h np I A J B) {a b c d : Nat} (hac : a < c) (hbd : b < d) (hc : c < w) (hd : d < h) : B_X5_around I A (nI a) (nI b) (nI c) (nI d) = some (arS A a b c d / 15) := by
  have w12 := C.w12
  have h12 := C.h12
  have r1 : ∃ r, B_X5_around_L6 I A (nI a) (nI b) (nI c) (nI d) FU 0 (nI a) = some r ∧ r = tS A a b c d := by
    refine ng_lp0 (F := fun n (s : Int32 × Int32) => B_X5_around_L6 I A (nI a) (nI b) (nI c) (nI d) n s.1 s.2) (s := (0, nI a)) (fun k s => s.1 = sm k (fun i => B_X6_onFrom (dd A (a + i) b) (dd A (a + i + 1) b) + B_X6_onFrom (dd A (a + i + 1) d) (dd A (a + i) d)) ∧ s.2 = nI (a + k)) (c - a) _ (by omega) ⟨rfl, rfl⟩ ?_ ?_
    · intro k n s hk hP
      obtain ⟨u, v⟩ := s
      obtain ⟨h1, h2⟩ := hP
      dsimp only at h1 h2
      subst h1 h2
      refine ⟨(sm (k + 1) (fun i => B_X6_onFrom (dd A (a + i) b) (dd A (a + i + 1) b) + B_X6_onFrom (dd A (a + i + 1) d) (dd A (a + i) d)), nI (a + k + 1)), ?_, rfl, rfl⟩
      dsimp only
      rw [B_X5_around_L6_s, if_neg (nI_ge (show a + k < c by omega) (by omega)), nI_1, C.dirAt (show a + k < w by omega) (show b < h by omega), C.dirAt (show a + k + 1 < w by omega) (show b < h by omega), C.dirAt (show a + k + 1 < w by omega) hd, C.dirAt (show a + k < w by omega) hd, Int32.add_assoc]
      rfl
    · intro n s hP
      obtain ⟨u, v⟩ := s
      obtain ⟨h1, h2⟩ := hP
      dsimp only at h1 h2
      subst h1 h2
      refine ⟨_, ?_, rfl⟩
      dsimp only
      rw [B_X5_around_L6_s, if_pos (nI_le (show c ≤ a + (c - a) by omega) (by omega))]
      rfl
  have r2 : ∃ r, B_X5_around_L83 I A (nI a) (nI c) (nI d) FU (tS A a b c d) (nI b) = some r ∧ r = arS A a b c d := by
    refine ng_lp0 (F := fun n (s : Int32 × Int32) => B_X5_around_L83 I A (nI a) (nI c) (nI d) n s.1 s.2) (s := (tS A a b c d, nI b)) (fun k s => s.1 = tS A a b c d + sm k (fun j => B_X6_onFrom (dd A c (b + j)) (dd A c (b + j + 1)) + B_X6_onFrom (dd A a (b + j + 1)) (dd A a (b + j))) ∧ s.2 = nI (b + k)) (d - b) _ (by omega) ⟨(Int32.add_zero _).symm, rfl⟩ ?_ ?_
    · intro k n s hk hP
      obtain ⟨u, v⟩ := s
      obtain ⟨h1, h2⟩ := hP
      dsimp only at h1 h2
      subst h1 h2
      refine ⟨(tS A a b c d + sm (k + 1) (fun j => B_X6_onFrom (dd A c (b + j)) (dd A c (b + j + 1)) + B_X6_onFrom (dd A a (b + j + 1)) (dd A a (b + j))), nI (b + k + 1)), ?_, rfl, rfl⟩
      dsimp only
      rw [B_X5_around_L83_s, if_neg (nI_ge (show b + k < d by omega) (by omega)), nI_1, C.dirAt hc (show b + k < h by omega), C.dirAt hc (show b + k + 1 < h by omega), C.dirAt (show a < w by omega) (show b + k + 1 < h by omega), C.dirAt (show a < w by omega) (show b + k < h by omega), sm_s, Int32.add_assoc, Int32.add_assoc]
    · intro n s hP
      obtain ⟨u, v⟩ := s
      obtain ⟨h1, h2⟩ := hP
      dsimp only at h1 h2
      subst h1 h2
      refine ⟨_, ?_, rfl⟩
      dsimp only
      rw [B_X5_around_L83_s, if_pos (nI_le (show d ≤ b + (d - b) by omega) (by omega))]
      rfl
  obtain ⟨q1, e1, rfl⟩ := r1
  obtain ⟨q2, e2, rfl⟩ := r2
  unfold B_X5_around
  rw [e1, bind_some', e2, bind_some', C.floor hac hbd hc hd, bind_some']
theorem Co.at (C : Co w h np I A J B) {x y : Nat} (hx : x + 1 < w) (hy : y + 1 < h) : B_X5_at I A (nI x) (nI y) = some (wdS A x y) := by
  unfold B_X5_at
  rw [nI_1, nI_1, C.around (Nat.lt_succ_self x) (Nat.lt_succ_self y) hx hy, bind_some']
  rfl
theorem Co.dAt (C : Co w h np I A J B) {x y : Nat} (hx : x < w) (hy : y < h) : B_X7_directionAt J B (nI x) (nI y) = some (dd A x y) := by
  unfold B_X7_directionAt
  rw [C.rdDir hx hy, bind_some']
theorem sm1 (f : Nat → Int32) : sm 1 f = f 0 := Int32.zero_add _
theorem Co.wAt (C : Co w h np I A J B) {x y : Nat} (hx : x + 1 < w) (hy : y + 1 < h) : B_X7_windingAt J B (nI x) (nI y) = some (wdS A x y) := by
  unfold B_X7_windingAt
  rw [nI_1, nI_1, C.dAt (show x < w by omega) (show y < h by omega), bind_some', C.dAt hx (show y < h by omega), bind_some', C.dAt hx hy, bind_some', C.dAt (show x < w by omega) hy, bind_some', on_eq, on_eq, on_eq, on_eq]
  have e : arS A x y (x + 1) (y + 1) = B_X6_onFrom (dd A x (y + 1)) (dd A x y) + B_X6_onFrom (dd A x y) (dd A (x + 1) y) + B_X6_onFrom (dd A (x + 1) y) (dd A (x + 1) (y + 1)) + B_X6_onFrom (dd A (x + 1) (y + 1)) (dd A x (y + 1)) := by
    unfold arS tS vS
    rw [show x + 1 - x = 1 by omega, show y + 1 - y = 1 by omega, sm1, sm1]
    simp only [Nat.add_zero]
    generalize B_X6_onFrom (dd A x (y + 1)) (dd A x y) = p
    generalize B_X6_onFrom (dd A x y) (dd A (x + 1) y) = q
    generalize B_X6_onFrom (dd A (x + 1) y) (dd A (x + 1) (y + 1)) = r
    generalize B_X6_onFrom (dd A (x + 1) (y + 1)) (dd A x (y + 1)) = s
    ac_rfl
  unfold wdS
  rw [e]
theorem Co.place (C : Co w h np I A J B) (x1 x2 : Int32) : (B_X5_has I A x1 x2 = 0 ∧ (B_X7_in x1 0 (J 1 - 2) = 0 ∨ B_X7_in x2 0 (J 2 - 2) = 0)) ∨ (B_X5_has I A x1 x2 = 1 ∧ B_X7_in x1 0 (J 1 - 2) = 1 ∧ B_X7_in x2 0 (J 2 - 2) = 1 ∧ ∃ x y, x + 1 < w ∧ y + 1 < h ∧ x1 = nI x ∧ x2 = nI y) := by
  have w12 := C.w12
  have h12 := C.h12
  have w2 := C.w2
  have h2 := C.h2
  rw [C.JW, C.JH, show nI w - 2 = nI (w - 2) from nI_sub w2, show nI h - 2 = nI (h - 2) from nI_sub h2]
  unfold B_X5_has
  have X : ∀ (z : Int32) (a : Nat), B_X7_in z 0 (nI a) = B_X6_isIn z (nI 0) (nI a) := fun _ _ => rfl
  rw [X, X]
  rcases isIn_cases (x := x1) (a := 0) (b := w - 2) (by decide) (by omega) with e1 | ⟨e1, x, -, hx, rfl⟩
  · refine Or.inl ⟨?_, Or.inl e1⟩
    rcases C.has x1 x2 with e | ⟨e, x, y, hx, hy, rfl, rfl⟩
    · rw [e, if00]
    · rw [e, if10, nI_1, C.hox (x := x + 1) ?_ (by omega), if00]
      by_cases q : w ≤ x + 1
      · exact q
      · exfalso
        unfold B_X6_isIn at e1
        rw [if_neg (show ¬ nI x < nI 0 from nI_pos (by omega)), if_neg (nI_nlt (show x ≤ w - 2 by omega) (by omega))] at e1
        exact absurd e1 (by decide)
  rcases isIn_cases (x := x2) (a := 0) (b := h - 2) (by decide) (by omega) with e2 | ⟨e2, y, -, hy, rfl⟩
  · refine Or.inl ⟨?_, Or.inr e2⟩
    rcases C.has (nI x) x2 with e | ⟨e, x', y, hx', hy, ex, rfl⟩
    · rw [e, if00]
    · rw [e, if10, nI_1 y, C.hoy (y := y + 1) ?_ (by omega), if00]
      by_cases q : h ≤ y + 1
      · exact q
      · exfalso
        unfold B_X6_isIn at e2
        rw [if_neg (show ¬ nI y < nI 0 from nI_pos (by omega)), if_neg (nI_nlt (show y ≤ h - 2 by omega) (by omega))] at e2
        exact absurd e2 (by decide)
  refine Or.inr ⟨?_, e1, e2, x, y, by omega, by omega, rfl, rfl⟩
  rw [C.hin (show x < w by omega) (show y < h by omega), if10, nI_1, nI_1, C.hin (show x + 1 < w by omega) (show y + 1 < h by omega), if10]
end
theorem st_winding {I J : Nat → Int32} {A B : Nat → Nat → Int32} (R : Rel I A J B) (x1 x2 : Int32) : Good [(1, 1)] (B_X6_winding I A x1 x2) (B_X7_winding J B x1 x2) := by
  unfold B_X6_winding B_X7_winding
  obtain ⟨J0, hJ, h0, R⟩ := th0 R
  rw [hJ]
  clear hJ
  have RR := R
  obtain ⟨w, h, np, nd, nq, t, C, S, E, F1, F2⟩ := R
  rcases C.place x1 x2 with ⟨e, e'⟩ | ⟨e, e1, e2, x, y, hx, hy, rfl, rfl⟩
  · rw [e, if00]
    rcases e' with e' | e'
    · rw [e', if00]
      exact good_x RR (by decide)
    · rw [e', if00]
      by_cases q : B_X7_in x1 0 (J0 1 - 2) = 0
      · rw [if_pos q]
        exact good_x RR (by decide)
      · rw [if_neg q]
        exact good_x RR (by decide)
  · rw [e, if10, e1, if10, e2, if10, C.at hx hy, bind_some', C.wAt hx hy, bind_some']
    exact good_r RR h0
end WIND

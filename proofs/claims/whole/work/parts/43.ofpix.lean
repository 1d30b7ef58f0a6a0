section OFPIX
theorem acc_loop2 {R : Type} (F : Nat → Int32 → Int32 → Int32 → Option R) (a len : Nat) (g1 g2 : Nat → Int32) (fin : Int32 → Int32 → R) (hl : len < 2000)
    (hs : ∀ n z1 z2 k, k < len → F (n + 1) z1 z2 (nI (a + k)) = F n (z1 + g1 k) (z2 + g2 k) (nI (a + k + 1))) (he : ∀ n z1 z2, F (n + 1) z1 z2 (nI (a + len)) = some (fin z1 z2)) (acc1 acc2 : Int32) : F FU acc1 acc2 (nI a) = some (fin (acc1 + sm len g1) (acc2 + sm len g2)) := by
  have : ∃ r, F FU acc1 acc2 (nI a) = some r ∧ r = fin (acc1 + sm len g1) (acc2 + sm len g2) := by
    refine ng_lp0 (F := fun n (s : Int32 × Int32 × Int32) => F n s.1 s.2.1 s.2.2) (s := (acc1, acc2, nI a)) (fun k s => s = (acc1 + sm k g1, acc2 + sm k g2, nI (a + k))) len _ hl ?_ ?_ ?_
    · show (acc1, acc2, nI a) = (acc1 + 0, acc2 + 0, nI a)
      rw [Int32.add_zero, Int32.add_zero]
    · rintro k n s hk rfl
      refine ⟨(acc1 + sm (k + 1) g1, acc2 + sm (k + 1) g2, nI (a + k + 1)), ?_, rfl⟩
      dsimp only
      rw [hs n _ _ k hk, sm_s, sm_s, Int32.add_assoc, Int32.add_assoc]
    · rintro n s rfl
      exact ⟨_, he n _ _, rfl⟩
  obtain ⟨r, e1, e2⟩ := this
  rw [e1, e2]
theorem sm_const (n u : Nat) : sm n (fun _ => nI u) = nI (n * u) := by
  induction n with
  | zero => rw [Nat.zero_mul]; rfl
  | succ n ih => rw [sm_s, ih, nI_add, Nat.succ_mul]
def gpS (A : Nat → Nat → Int32) (pl : Int32) (a b u v : Nat) : Int32 := reS a b u v (fun X Y => B_X6_greyOf (dd A X Y) pl) / nI (v * u)
section
variable {w h np nd nq t : Nat} {I J : Nat → Int32} {A B : Nat → Nat → Int32}
theorem Co.greyC (C : Co w h np I A J B) {p a b u v : Nat} (hp : p < 8) (e0 : A 0 p = nI a) (e1 : A 1 p = nI b) (e2 : A 2 p = nI u) (e3 : A 3 p = nI v) (u1 : 1 ≤ u) (v1 : 1 ≤ v) (hu : a + u ≤ w) (hv : b + v ≤ h) (pl : Int32) : B_X1_greyOfPixel I A (nI p) pl = some (gpS A pl a b u v) := by
  have w12 := C.w12
  have h12 := C.h12
  unfold B_X1_greyOfPixel B_X3_left B_X3_top B_X3_width B_X3_height
  rw [rAt_nI hp (by decide), rAt_nI hp (by decide), rAt_nI hp (by decide), rAt_nI hp (by decide), e0, e1, e2, e3, nI_add, nI_add]
  have row : ∀ j, j < v → ∀ z1 z2, B_X1_greyOfPixel_L66 I A pl (nI a) (nI (a + u)) (nI (b + v)) (nI (b + j)) FU z1 z2 (nI a) = some (z1 + sm u (fun i => B_X6_greyOf (dd A (a + i) (b + j)) pl), z2 + sm u (fun _ => 1)) := by
    intro j hj z1 z2
    refine acc_loop2 (fun n z1 z2 k => B_X1_greyOfPixel_L66 I A pl (nI a) (nI (a + u)) (nI (b + v)) (nI (b + j)) n z1 z2 k) a u _ _ (fun z1 z2 => (z1, z2)) (by omega) ?_ ?_ z1 z2
    · intro n z1 z2 k hk
      rw [B_X1_greyOfPixel_L66_s, if_neg (nI_ge (show a + k < a + u by omega) (by omega)), C.dirAt (show a + k < w by omega) (show b + j < h by omega), nI_1]
    · intro n z1 z2
      rw [B_X1_greyOfPixel_L66_s, if_pos (nI_le (Nat.le_refl _) (by omega))]
  have k1 : B_X1_greyOfPixel_L55 I A pl (nI a) (nI (a + u)) (nI (b + v)) FU 0 0 (nI b) = some (0 + reS a b u v (fun X Y => B_X6_greyOf (dd A X Y) pl), 0 + sm v (fun _ => sm u (fun _ => 1))) := by
    refine acc_loop2 (fun n z1 z2 k => B_X1_greyOfPixel_L55 I A pl (nI a) (nI (a + u)) (nI (b + v)) n z1 z2 k) b v _ _ (fun z1 z2 => (z1, z2)) (by omega) ?_ ?_ 0 0
    · intro n z1 z2 k hk
      rw [B_X1_greyOfPixel_L55_s, if_neg (nI_ge (show b + k < b + v by omega) (by omega)), row k hk, bind_some', nI_1]
    · intro n z1 z2
      rw [B_X1_greyOfPixel_L55_s, if_pos (nI_le (Nat.le_refl _) (by omega))]
  have vu : 1 ≤ v * u := Nat.mul_le_mul v1 u1
  have vu2 : v * u ≤ 144 := Nat.mul_le_mul (show v ≤ 12 by omega) (show u ≤ 12 by omega)
  rw [k1, bind_some', Int32.zero_add, Int32.zero_add, sm_one, sm_const]
  dsimp only
  rw [if_neg (nI_nle vu (by omega)), if_neg (nI_ne0 vu (by omega))]
  rfl
theorem Co.greyM (C : Co w h np I A J B) {p a b u v : Nat} (hp : p < 8) (u1 : 1 ≤ u) (v1 : 1 ≤ v) (hu : a + u ≤ w) (hv : b + v ≤ h) (hpx : ∀ x y, x < w → y < h → (A 12 (12 * y + x) = nI p ↔ a ≤ x ∧ x < a + u ∧ b ≤ y ∧ y < b + v)) {pl : Int32} (e5 : J 5 = pl) (hpl : up 14 pl) : B_X7_greyOfPixel J B (nI p) = some (gpS A pl a b u v) := by
  have w12 := C.w12
  have h12 := C.h12
  unfold B_X7_greyOfPixel
  have row : ∀ y, y < h → ∀ z1 z2, B_X7_greyOfPixel_L19 J B (nI p) (nI y) FU z1 z2 0 = some (z1 + sm w (fun x => if A 12 (12 * y + x) = nI p then B_X6_greyOf (dd A x y) pl else 0), z2 + sm w (fun x => if A 12 (12 * y + x) = nI p then 1 else 0)) := by
    intro y hy z1 z2
    show B_X7_greyOfPixel_L19 J B (nI p) (nI y) FU z1 z2 (nI 0) = _
    refine acc_loop2 (fun n z1 z2 k => B_X7_greyOfPixel_L19 J B (nI p) (nI y) n z1 z2 k) 0 w _ _ (fun z1 z2 => (z1, z2)) (by omega) ?_ ?_ z1 z2
    · intro n z1 z2 k hk
      rw [Nat.zero_add, B_X7_greyOfPixel_L19_s, C.JW, if_neg (nI_ge hk (by omega)), C.rdPix hk hy, bind_some', nI_1]
      by_cases q : A 12 (12 * y + k) = nI p
      · rw [if_pos q, if_pos q, if_pos q, e5, C.greyAt hk hy hpl, bind_some']
      · rw [if_neg q, if_neg q, if_neg q, Int32.add_zero, Int32.add_zero]
    · intro n z1 z2
      rw [B_X7_greyOfPixel_L19_s, C.JW, if_pos (nI_le (by omega) (by omega))]
  have k1 : B_X7_greyOfPixel_L7 J B (nI p) FU 0 0 (nI 0) = some (0 + gs w h (fun x y => if A 12 (12 * y + x) = nI p then B_X6_greyOf (dd A x y) pl else 0), 0 + gs w h (fun x y => if A 12 (12 * y + x) = nI p then 1 else 0)) := by
    refine acc_loop2 (fun n z1 z2 k => B_X7_greyOfPixel_L7 J B (nI p) n z1 z2 k) 0 h _ _ (fun z1 z2 => (z1, z2)) (by omega) ?_ ?_ 0 0
    · intro n z1 z2 k hk
      rw [Nat.zero_add, B_X7_greyOfPixel_L7_s, C.JH, if_neg (nI_ge hk (by omega)), row k hk, bind_some', nI_1]
    · intro n z1 z2
      rw [B_X7_greyOfPixel_L7_s, C.JH, if_pos (nI_le (by omega) (by omega))]
  have g1 : gs w h (fun x y => if A 12 (12 * y + x) = nI p then B_X6_greyOf (dd A x y) pl else 0) = reS a b u v (fun X Y => B_X6_greyOf (dd A X Y) pl) := by
    unfold reS
    rw [← gs_rect hu hv (fun X Y => B_X6_greyOf (dd A X Y) pl)]
    apply gs_congr
    intro x y hx hy
    by_cases c : a ≤ x ∧ x < a + u ∧ b ≤ y ∧ y < b + v
    · rw [if_pos c, if_pos ((hpx x y hx hy).mpr c)]
    · rw [if_neg c, if_neg (fun z => c ((hpx x y hx hy).mp z))]
  have g2 : gs w h (fun x y => if A 12 (12 * y + x) = nI p then 1 else 0) = nI (v * u) := by
    rw [← sm_const v u, ← sm_one u, ← gs_rect hu hv (fun _ _ => 1)]
    apply gs_congr
    intro x y hx hy
    by_cases c : a ≤ x ∧ x < a + u ∧ b ≤ y ∧ y < b + v
    · rw [if_pos c, if_pos ((hpx x y hx hy).mpr c)]
    · rw [if_neg c, if_neg (fun z => c ((hpx x y hx hy).mp z))]
  have vu : 1 ≤ v * u := Nat.mul_le_mul v1 u1
  have vu2 : v * u ≤ 144 := Nat.mul_le_mul (show v ≤ 12 by omega) (show u ≤ 12 by omega)
  rw [show B_X7_greyOfPixel_L7 J B (nI p) FU 0 0 0 = _ from k1, bind_some', Int32.zero_add, Int32.zero_add, g1, g2]
  dsimp only
  rw [if_neg (nI_ne0 vu (by omega))]
  rfl
theorem Co.gpUp (C : Co w h np I A J B) {a b u v : Nat} (u1 : 1 ≤ u) (v1 : 1 ≤ v) (hu : a + u ≤ w) (hv : b + v ≤ h) {pl : Int32} (hpl : up 14 pl) : up 100 (gpS A pl a b u v) := by
  have w12 := C.w12
  have h12 := C.h12
  have vu : 1 ≤ v * u := Nat.mul_le_mul v1 u1
  have vu2 : v * u ≤ 144 := Nat.mul_le_mul (show v ≤ 12 by omega) (show u ≤ 12 by omega)
  have : up (v * (u * 99)) (reS a b u v (fun X Y => B_X6_greyOf (dd A X Y) pl)) :=
    sm_up fun j hj => sm_up fun i hi => grey_up (C.dup (by omega) (by omega)) hpl
  obtain ⟨s, hs, e⟩ := this
  rw [← Nat.mul_assoc] at hs
  unfold gpS
  rw [e, nI_div (by omega) (by omega)]
  have : s / (v * u) ≤ 99 := Nat.div_le_of_le_mul hs
  exact up_nI (by omega)
/-! flicker -/
def mxS (f : Nat → Int32) : Nat → Int32
  | 0 => f 0
  | k + 1 => if mxS f k < f (k + 1) then f (k + 1) else mxS f k
def mnS (f : Nat → Int32) : Nat → Int32
  | 0 => f 0
  | k + 1 => if f (k + 1) < mnS f k then f (k + 1) else mnS f k
theorem Co.flick (C : Co w h np I A J B) (hN : NoteP np t (A 6) (A 7) (B 8) (B 7)) (ht : t ≤ 2000) {p : Nat} (hp : p < np) : ∃ r, B_X3_flicker I A (nI p) = some r ∧ B_X7_flickers J B (nI p) = some r := by
  have np8 := C.np8
  obtain ⟨n1, n2, n3⟩ := hN
  obtain ⟨c, hc, ec⟩ := n3 p hp
  -- how many are known
  have kn : ∃ m, m ≤ 8 ∧ (m = 0 ↔ c = 0) ∧ B_J9_min_7cf53 (A 6 p) 8 = nI m ∧ (if (8 : Int32) ≤ A 6 p then (8 : Int32) else A 6 p) = nI m := by
    unfold B_J9_min_7cf53
    rw [ec]
    by_cases q : 8 ≤ c
    · refine ⟨8, by omega, by omega, ?_, ?_⟩
      · by_cases q2 : (8 : Int32) < nI c
        · rw [if_pos q2]; rfl
        · rw [if_neg q2]
          have : ¬ 8 < c := fun z => q2 (nI_lt (a := 8) z (by omega))
          rw [show c = 8 by omega]
      · rw [if_pos (show (8 : Int32) ≤ nI c from nI_le (a := 8) q (by omega))]
        rfl
    · refine ⟨c, by omega, by omega, ?_, ?_⟩
      · rw [if_neg (show ¬ (8 : Int32) < nI c from nI_nlt (b := c) (a := 8) (by omega) (by decide))]
      · rw [if_neg (show ¬ (8 : Int32) ≤ nI c from nI_ge (b := 8) (show c < 8 by omega) (by decide))]
  obtain ⟨m, m8, m0, em1, em2⟩ := kn
  have ra : ∀ k, k < 8 → rAt 64 (A 7) (nI p * 8 + nI k) = A 7 (8 * p + k) := fun k hk => by
    rw [show (8 : Int32) = nI 8 from rfl, nI_mul, nI_add, rAt_nI (by omega) (by decide), Nat.mul_comm p]
  have rb : ∀ k, k < 8 → rd (B 7) 64 (8 * nI p + nI k) = some (A 7 (8 * p + k)) := fun k hk => by
    rw [show (8 : Int32) = nI 8 from rfl, nI_mul, nI_add, rd_nI (by omega) (by decide), (n1 _ (by omega)).2]
  have cls : B_X3_flicker I A (nI p) = some (if m = 0 then 0 else mxS (fun k => A 7 (8 * p + k)) (m - 1) - mnS (fun k => A 7 (8 * p + k)) (m - 1)) := by
    unfold B_X3_flicker
    rw [rAt_nI (show p < 8 by omega) (by decide), em1]
    have hf : rAt 64 (A 7) (nI p * 8) = A 7 (8 * p) := by
      have := ra 0 (by omega)
      rwa [nI_0, Int32.add_zero] at this
    have k1 : ∃ r, B_X3_flicker_L36 I A (nI p * 8) (nI m) FU (rAt 64 (A 7) (nI p * 8)) (rAt 64 (A 7) (nI p * 8)) (nI 1) = some r ∧ r = (mxS (fun k => A 7 (8 * p + k)) (m - 1), mnS (fun k => A 7 (8 * p + k)) (m - 1)) := by
      refine ng_lp0 (F := fun n (s : Int32 × Int32 × Int32) => B_X3_flicker_L36 I A (nI p * 8) (nI m) n s.1 s.2.1 s.2.2) (s := (rAt 64 (A 7) (nI p * 8), rAt 64 (A 7) (nI p * 8), nI 1)) (fun k s => s = (mxS (fun k => A 7 (8 * p + k)) k, mnS (fun k => A 7 (8 * p + k)) k, nI (1 + k))) (m - 1) _ (by omega) (by rw [hf]; rfl) ?_ ?_
      · rintro k n s hk rfl
        refine ⟨_, ?_, rfl⟩
        dsimp only
        rw [B_X3_flicker_L36_s, if_neg (nI_ge (show 1 + k < m by omega) (by omega)), ra (1 + k) (by omega), nI_1]
        unfold B_J9_max_7cf53 B_J9_min_7cf53
        rw [show 1 + k = k + 1 by omega, show 1 + (k + 1) = k + 1 + 1 by omega]
        rfl
      · rintro n s rfl
        refine ⟨_, ?_, rfl⟩
        dsimp only
        rw [B_X3_flicker_L36_s, if_pos (nI_le (show m ≤ 1 + (m - 1) by omega) (by omega))]
    obtain ⟨r, k1, rfl⟩ := k1
    rw [show B_X3_flicker_L36 I A (nI p * 8) (nI m) FU (rAt 64 (A 7) (nI p * 8)) (rAt 64 (A 7) (nI p * 8)) 1 = _ from k1, bind_some']
    by_cases q : m = 0
    · rw [if_pos q, q, if_pos (by decide)]
    · rw [if_neg q, if_neg (nI_nle (by omega) (by omega))]
  have mdl : B_X7_flickers J B (nI p) = some (if m = 0 then 0 else mxS (fun k => A 7 (8 * p + k)) (m - 1) - mnS (fun k => A 7 (8 * p + k)) (m - 1)) := by
    have st : ∀ n x3 x4 k, k < m → B_X7_flickers_L32 J B (nI p) (nI m) (n + 1) x3 x4 (nI k) = B_X7_flickers_L32 J B (nI p) (nI m) n (if A 7 (8 * p + k) < x3 then A 7 (8 * p + k) else x3) (if x4 < A 7 (8 * p + k) then A 7 (8 * p + k) else x4) (nI (k + 1)) := by
      intro n x3 x4 k hk
      rw [B_X7_flickers_L32_s, if_neg (nI_ge hk (by omega)), rb k (by omega), bind_some']
      unfold B_X7_flickers_J64
      rw [nI_1]
      by_cases q1 : x3 ≤ A 7 (8 * p + k)
      · rw [if_pos q1, if_neg (show ¬ A 7 (8 * p + k) < x3 from fun z => (Int32.not_le.mpr z) q1)]
        by_cases q2 : A 7 (8 * p + k) ≤ x4
        · rw [if_pos q2, if_neg (show ¬ x4 < A 7 (8 * p + k) from fun z => (Int32.not_le.mpr z) q2)]
        · rw [if_neg q2, if_pos (Int32.not_le.mp q2)]
      · rw [if_neg q1, if_pos (Int32.not_le.mp q1)]
        by_cases q2 : A 7 (8 * p + k) ≤ x4
        · rw [if_pos q2, if_neg (show ¬ x4 < A 7 (8 * p + k) from fun z => (Int32.not_le.mpr z) q2)]
        · rw [if_neg q2, if_pos (Int32.not_le.mp q2)]
    have fin : ∀ n x3 x4, B_X7_flickers_L32 J B (nI p) (nI m) (n + 1) x3 x4 (nI m) = some (x3, x4) := by
      intro n x3 x4
      rw [B_X7_flickers_L32_s, if_pos (nI_le (Nat.le_refl _) (by omega))]
    have J22 : ∀ z, z = nI m → B_X7_flickers_J22 J B (nI p) z = some (if m = 0 then 0 else mxS (fun k => A 7 (8 * p + k)) (m - 1) - mnS (fun k => A 7 (8 * p + k)) (m - 1)) := by
      rintro z rfl
      unfold B_X7_flickers_J22
      by_cases q : m = 0
      · subst q
        rw [show B_X7_flickers_L32 J B (nI p) (nI 0) FU 100 0 0 = _ from fin 1999 100 0, bind_some', if_pos (show nI 0 = 0 from rfl)]
        rfl
      · have k1 : ∃ r, B_X7_flickers_L32 J B (nI p) (nI m) 1999 (A 7 (8 * p)) (A 7 (8 * p)) (nI 1) = some r ∧ r = (mnS (fun k => A 7 (8 * p + k)) (m - 1), mxS (fun k => A 7 (8 * p + k)) (m - 1)) := by
          refine ng_lp (fun n (s : Int32 × Int32 × Int32) => B_X7_flickers_L32 J B (nI p) (nI m) n s.1 s.2.1 s.2.2) (fun k s => s = (mnS (fun k => A 7 (8 * p + k)) k, mxS (fun k => A 7 (8 * p + k)) k, nI (k + 1))) (m - 1) _ ?_ ?_ (m - 1) 0 1999 (A 7 (8 * p), A 7 (8 * p), nI 1) (by omega) (by omega) rfl
          · rintro k n s hk rfl
            refine ⟨_, ?_, rfl⟩
            dsimp only
            rw [st n _ _ (k + 1) (by omega)]
            rfl
          · rintro n s rfl
            refine ⟨_, ?_, rfl⟩
            dsimp only
            rw [show m - 1 + 1 = m by omega, fin]
        obtain ⟨r, k1, rfl⟩ := k1
        have s0 := st 1999 100 0 0 (by omega)
        obtain ⟨v0, hv0, ev0⟩ := (n1 (8 * p) (by omega)).1
        have b1 : (if A 7 (8 * p + 0) < (100 : Int32) then A 7 (8 * p + 0) else 100) = A 7 (8 * p) := by
          rw [Nat.add_zero, ev0]
          by_cases q1 : nI v0 < (100 : Int32)
          · rw [if_pos q1]
          · rw [if_neg q1]
            have : ¬ v0 < 100 := fun z => q1 (nI_lt (b := 100) z (by decide))
            rw [show v0 = 100 by omega]
            rfl
        have b2 : (if (0 : Int32) < A 7 (8 * p + 0) then A 7 (8 * p + 0) else 0) = A 7 (8 * p) := by
          rw [Nat.add_zero, ev0]
          by_cases q1 : (0 : Int32) < nI v0
          · rw [if_pos q1]
          · rw [if_neg q1]
            have : ¬ 0 < v0 := fun z => q1 (nI_lt (a := 0) z (by omega))
            rw [show v0 = 0 by omega]
            rfl
        rw [b1, b2] at s0
        rw [show B_X7_flickers_L32 J B (nI p) (nI m) FU 100 0 0 = _ from s0.trans k1, bind_some', if_neg (nI_ne0 (by omega) (by omega)), if_neg q]
    unfold B_X7_flickers
    rw [rd_nI (show p < 8 by omega) (by decide), bind_some', n2 p (by omega)]
    by_cases q : (8 : Int32) ≤ A 6 p
    · rw [if_pos q] at em2 ⊢
      exact J22 _ em2
    · rw [if_neg q] at em2 ⊢
      rw [bind_some']
      exact J22 _ em2
  exact ⟨_, cls, mdl⟩
end
theorem st_ofPixel {I J : Nat → Int32} {A B : Nat → Nat → Int32} (R : Rel I A J B) (x1 x2 : Int32) : Good [(1, 1), (0, 2)] (B_X6_ofPixel I A x1 x2) (B_X7_ofPixel J B x1 x2) := by
  unfold B_X6_ofPixel B_X7_ofPixel
  obtain ⟨J0, hJ, h0, R⟩ := th0 R
  rw [hJ]
  clear hJ
  have RR := R
  obtain ⟨w, h, np, nd, nq, t, C, S, E, F1, F2⟩ := R
  obtain ⟨s1, s2, s3, s4, s5, s6, s7, s8, s9⟩ := S
  have np8 := C.np8
  rcases pix_cases (A := A) (B := B) (show np < 2 ^ 31 by omega) s1.1 s1.2.2 x1 with ⟨e1, e2⟩ | ⟨e1, e2, p, hp, rfl⟩
  · rw [e1, e2, if00, if00]
    exact good_x RR (by decide)
  rw [e1, e2, if10, if10, show B_X7_in x2 0 4 = B_X6_isIn x2 0 4 from rfl]
  rcases isIn_cases (x := x2) (a := 0) (b := 4) (by decide) (by decide) with e | ⟨e, k, -, hk, rfl⟩
  · have e' : B_X6_isIn x2 0 4 = 0 := e
    rw [e', if00, if_neg (show ¬ x2 = 0 by rintro rfl; exact absurd e' (by decide)), if_neg (show ¬ x2 = 1 by rintro rfl; exact absurd e' (by decide)), if_neg (show ¬ x2 = 2 by rintro rfl; exact absurd e' (by decide)), if_neg (show ¬ x2 = 3 by rintro rfl; exact absurd e' (by decide)), if_neg (show ¬ x2 = 4 by rintro rfl; exact absurd e' (by decide))]
    exact good_x RR (by decide)
  rw [show B_X6_isIn (nI k) 0 4 = 1 from e, if10]
  obtain ⟨a, b, u, v, r0, r1, r2, r3, r4, r5, r6, r7, r8⟩ := s6 p hp
  obtain ⟨f1, f2, f3, f4⟩ := C.field p (by omega)
  have hk5 : k = 0 ∨ k = 1 ∨ k = 2 ∨ k = 3 ∨ k = 4 := by omega
  rcases hk5 with rfl | rfl | rfl | rfl | rfl
  · rw [if_pos (show nI 0 = 0 by decide), if_pos (show nI 0 = 0 by decide), C.greyC (show p < 8 by omega) r0 r1 r2 r3 r4 r5 r6 r7, bind_some', C.greyM (show p < 8 by omega) r4 r5 r6 r7 r8 s5.2 s5.1, bind_some']
    exact good_r RR h0
  · obtain ⟨r, q1, q2⟩ := C.flick s7 s4.2.1 hp
    rw [if_neg (show ¬ nI 1 = 0 by decide), if_neg (show ¬ nI 1 = 0 by decide), if_pos (show nI 1 = 1 by decide), if_pos (show nI 1 = 1 by decide), q1, q2, bind_some', bind_some']
    exact good_r RR h0
  · obtain ⟨r, q1, q2⟩ := C.isGood (nI p)
    rw [if_neg (show ¬ nI 2 = 0 by decide), if_neg (show ¬ nI 2 = 0 by decide), if_neg (show ¬ nI 2 = 1 by decide), if_neg (show ¬ nI 2 = 1 by decide), if_pos (show nI 2 = 2 by decide), if_pos (show nI 2 = 2 by decide), q1, q2, bind_some', bind_some']
    by_cases z : r = 0
    · rw [if_pos z, if_pos z]
      exact good_r RR h0
    · rw [if_neg z, if_neg z]
      exact good_r RR h0
  · rw [if_neg (show ¬ nI 3 = 0 by decide), if_neg (show ¬ nI 3 = 0 by decide), if_neg (show ¬ nI 3 = 1 by decide), if_neg (show ¬ nI 3 = 1 by decide), if_neg (show ¬ nI 3 = 2 by decide), if_neg (show ¬ nI 3 = 2 by decide), if_pos (show nI 3 = 3 by decide), if_pos (show nI 3 = 3 by decide), rd_nI (show p < 8 by omega) (by decide), bind_some', f3]
    unfold B_X3_fieldDirection
    rw [rAt_nI (show p < 8 by omega) (by decide)]
    exact good_r RR h0
  · rw [if_neg (show ¬ nI 4 = 0 by decide), if_neg (show ¬ nI 4 = 0 by decide), if_neg (show ¬ nI 4 = 1 by decide), if_neg (show ¬ nI 4 = 1 by decide), if_neg (show ¬ nI 4 = 2 by decide), if_neg (show ¬ nI 4 = 2 by decide), if_neg (show ¬ nI 4 = 3 by decide), if_neg (show ¬ nI 4 = 3 by decide), if_pos (show nI 4 = 4 by decide), rd_nI (show p < 8 by omega) (by decide), bind_some', f4]
    unfold B_X3_fieldStrength
    rw [rAt_nI (show p < 8 by omega) (by decide)]
    exact good_r RR h0
end OFPIX

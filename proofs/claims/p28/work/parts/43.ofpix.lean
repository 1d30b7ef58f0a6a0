section OFPIX
theorem sm_const (n u : Nat) : sm n (fun _ => nI u) = nI (n * u) := by
  induction n with
  | zero => rw [Nat.zero_mul]; rfl
  | succ n ih => rw [sm_s, ih, nI_add, Nat.succ_mul]
def gpS (A : Nat → Nat → Int32) (pl : Int32) (a b u v : Nat) : Int32 := reS a b u v (fun X Y => B_X6_greyOf (dd A X Y) pl) / nI (v * u)
section
variable {w h np t : Nat} {I : Nat → Int32} {A : Nat → Nat → Int32}
theorem Co.greyC (C : Co w h np I A) {p a b u v : Nat} (hp : p < 8) (e0 : A 0 p = nI a) (e1 : A 1 p = nI b) (e2 : A 2 p = nI u) (e3 : A 3 p = nI v) (u1 : 1 ≤ u) (v1 : 1 ≤ v) (hu : a + u ≤ w) (hv : b + v ≤ h) (pl : Int32) : B_X1_greyOfPixel I A (nI p) pl = some (gpS A pl a b u v) := by
  have w12 := C.w12
  have h12 := C.h12
  unfold B_X1_greyOfPixel B_X3_left B_X3_top B_X3_width B_X3_height
  rw [rAt_nI hp (by decide), rAt_nI hp (by decide), rAt_nI hp (by decide), rAt_nI hp (by decide), e0, e1, e2, e3, nI_add, nI_add]
  have row : ∀ j, j < v → ∀ z1 z2, B_X1_greyOfPixel_L66 I A pl (nI a) (nI (a + u)) (nI (b + v)) (nI (b + j)) FU z1 z2 (nI a) = some (z1 + sm u (fun i => B_X6_greyOf (dd A (a + i) (b + j)) pl), z2 + sm u (fun _ => 1)) := by
    intro j hj z1 z2
    refine acc_loop2 (fun n z1 z2 k => B_X1_greyOfPixel_L66 I A pl (nI a) (nI (a + u)) (nI (b + v)) (nI (b + j)) n z1 z2 k) a u _ _ (fun z1 z2 => (z1, z2)) (by omega) ?_ ?_ z1 z2
    · intro n z1 z2 k hk
      rw [B_X1_greyOfPixel_L66_s, if_neg (nI_ge (show a + k < a + u by omega) (by omega)), C.dirAt (show a + k < w by omega) (show b + j < h by omega), nI_1]
    · intro n z1 z2
      rw [B_X1_greyOfPixel_L66_s, if_pos (nI_le (Nat.le_refl _) (by omega))]
  have k1 : B_X1_greyOfPixel_L55 I A pl (nI a) (nI (a + u)) (nI (b + v)) FU 0 0 (nI b) = some (0 + reS a b u v (fun X Y => B_X6_greyOf (dd A X Y) pl), 0 + sm v (fun _ => sm u (fun _ => 1))) := by
    refine acc_loop2 (fun n z1 z2 k => B_X1_greyOfPixel_L55 I A pl (nI a) (nI (a + u)) (nI (b + v)) n z1 z2 k) b v _ _ (fun z1 z2 => (z1, z2)) (by omega) ?_ ?_ 0 0
    · intro n z1 z2 k hk
      rw [B_X1_greyOfPixel_L55_s, if_neg (nI_ge (show b + k < b + v by omega) (by omega)), row k hk, bind_some', nI_1]
    · intro n z1 z2
      rw [B_X1_greyOfPixel_L55_s, if_pos (nI_le (Nat.le_refl _) (by omega))]
  have vu : 1 ≤ v * u := Nat.mul_le_mul v1 u1
  have vu2 : v * u ≤ 144 := Nat.mul_le_mul (show v ≤ 12 by omega) (show u ≤ 12 by omega)
  rw [k1, bind_some', Int32.zero_add, Int32.zero_add, sm_one, sm_const]
  dsimp only
  rw [if_neg (nI_nle vu (by omega)), if_neg (nI_ne0 vu (by omega))]
  rfl
theorem Co.gpUp (C : Co w h np I A) {a b u v : Nat} (u1 : 1 ≤ u) (v1 : 1 ≤ v) (hu : a + u ≤ w) (hv : b + v ≤ h) {pl : Int32} (hpl : up 14 pl) : up 99 (gpS A pl a b u v) := by
  have w12 := C.w12
  have h12 := C.h12
  have vu : 1 ≤ v * u := Nat.mul_le_mul v1 u1
  have vu2 : v * u ≤ 144 := Nat.mul_le_mul (show v ≤ 12 by omega) (show u ≤ 12 by omega)
  have : up (v * (u * 99)) (reS a b u v (fun X Y => B_X6_greyOf (dd A X Y) pl)) :=
    sm_up fun j hj => sm_up fun i hi => grey_up (C.dup (by omega) (by omega)) hpl
  obtain ⟨s, hs, e⟩ := this
  rw [← Nat.mul_assoc] at hs
  unfold gpS
  rw [e, nI_div (by omega) (by omega)]
  have : s / (v * u) ≤ 99 := Nat.div_le_of_le_mul hs
  exact up_nI (by omega)
def mxS (f : Nat → Int32) : Nat → Int32
  | 0 => f 0
  | k + 1 => if mxS f k < f (k + 1) then f (k + 1) else mxS f k
def mnS (f : Nat → Int32) : Nat → Int32
  | 0 => f 0
  | k + 1 => if f (k + 1) < mnS f k then f (k + 1) else mnS f k
theorem mx_up {f : Nat → Int32} {n : Nat} : ∀ k, (∀ i, i ≤ k → up n (f i)) → up n (mxS f k)
  | 0, h => h 0 (Nat.le_refl 0)
  | k + 1, h => by
    unfold mxS
    split
    · exact h (k + 1) (Nat.le_refl _)
    · exact mx_up k (fun i hi => h i (by omega))
theorem mn_up {f : Nat → Int32} {n : Nat} : ∀ k, (∀ i, i ≤ k → up n (f i)) → up n (mnS f k)
  | 0, h => h 0 (Nat.le_refl 0)
  | k + 1, h => by
    unfold mnS
    split
    · exact h (k + 1) (Nat.le_refl _)
    · exact mn_up k (fun i hi => h i (by omega))
theorem mn_le_mx (f : Nat → Int32) : ∀ k, (mnS f k).toInt ≤ (mxS f k).toInt
  | 0 => Int.le_refl _
  | k + 1 => by
    have ih := mn_le_mx f k
    unfold mnS mxS
    by_cases c1 : f (k + 1) < mnS f k
    · rw [if_pos c1]
      rw [Int32.lt_iff_toInt_lt] at c1
      by_cases c2 : mxS f k < f (k + 1)
      · rw [if_pos c2]
        exact Int.le_refl _
      · rw [if_neg c2]
        omega
    · rw [if_neg c1]
      by_cases c2 : mxS f k < f (k + 1)
      · rw [if_pos c2]
        rw [Int32.lt_iff_toInt_lt] at c2
        omega
      · rw [if_neg c2]
        exact ih
theorem up_sub {n : Nat} {a b : Int32} (hn : n < 2 ^ 31) (ha : up n a) (hb : up n b) (h : b.toInt ≤ a.toInt) : up n (a - b) := by
  obtain ⟨x, hx, rfl⟩ := ha
  obtain ⟨y, hy, rfl⟩ := hb
  rw [nI_toInt (by omega), nI_toInt (by omega)] at h
  rw [nI_sub (by omega)]
  exact up_nI (by omega)
theorem Co.flick (C : Co w h np I A) (hN : NoteP np t (A 6) (A 7)) (ht : t ≤ 2000) {p : Nat} (hp : p < np) : ∃ r, B_X3_flicker I A (nI p) = some r ∧ up 99 r := by
  have np8 := C.np8
  obtain ⟨n1, n3⟩ := hN
  obtain ⟨c, hc, ec⟩ := n3 p hp
  -- how many are known
  have kn : ∃ m, m ≤ 8 ∧ B_J9_min_7cf53 (A 6 p) 8 = nI m := by
    unfold B_J9_min_7cf53
    rw [ec]
    by_cases q2 : (8 : Int32) < nI c
    · exact ⟨8, by omega, by rw [if_pos q2]; rfl⟩
    · refine ⟨c, ?_, by rw [if_neg q2]⟩
      have : ¬ 8 < c := fun z => q2 (nI_lt (a := 8) z (by omega))
      omega
  obtain ⟨m, m8, em1⟩ := kn
  have ra : ∀ k, k < 8 → rAt 64 (A 7) (nI p * 8 + nI k) = A 7 (8 * p + k) := fun k hk => by
    rw [show (8 : Int32) = nI 8 from rfl, nI_mul, nI_add, rAt_nI (by omega) (by decide), Nat.mul_comm p]
  have cls : B_X3_flicker I A (nI p) = some (if m = 0 then 0 else mxS (fun k => A 7 (8 * p + k)) (m - 1) - mnS (fun k => A 7 (8 * p + k)) (m - 1)) := by
    unfold B_X3_flicker
    rw [rAt_nI (show p < 8 by omega) (by decide), em1]
    have hf : rAt 64 (A 7) (nI p * 8) = A 7 (8 * p) := by
      have := ra 0 (by omega)
      rwa [nI_0, Int32.add_zero] at this
    have k1 : ∃ r, B_X3_flicker_L36 I A (nI p * 8) (nI m) FU (rAt 64 (A 7) (nI p * 8)) (rAt 64 (A 7) (nI p * 8)) (nI 1) = some r ∧ r = (mxS (fun k => A 7 (8 * p + k)) (m - 1), mnS (fun k => A 7 (8 * p + k)) (m - 1)) := by
      refine ng_lp0 (F := fun n (s : Int32 × Int32 × Int32) => B_X3_flicker_L36 I A (nI p * 8) (nI m) n s.1 s.2.1 s.2.2) (s := (rAt 64 (A 7) (nI p * 8), rAt 64 (A 7) (nI p * 8), nI 1)) (fun k s => s = (mxS (fun k => A 7 (8 * p + k)) k, mnS (fun k => A 7 (8 * p + k)) k, nI (1 + k))) (m - 1) _ (by omega) (by rw [hf]; rfl) ?_ ?_
      · rintro k n s hk rfl
        refine ⟨_, ?_, rfl⟩
        dsimp only
        rw [B_X3_flicker_L36_s, if_neg (nI_ge (show 1 + k < m by omega) (by omega)), ra (1 + k) (by omega), nI_1]
        unfold B_J9_max_7cf53 B_J9_min_7cf53
        rw [show 1 + k = k + 1 by omega, show 1 + (k + 1) = k + 1 + 1 by omega]
        rfl
      · rintro n s rfl
        refine ⟨_, ?_, rfl⟩
        dsimp only
        rw [B_X3_flicker_L36_s, if_pos (nI_le (show m ≤ 1 + (m - 1) by omega) (by omega))]
    obtain ⟨r, k1, rfl⟩ := k1
    rw [show B_X3_flicker_L36 I A (nI p * 8) (nI m) FU (rAt 64 (A 7) (nI p * 8)) (rAt 64 (A 7) (nI p * 8)) 1 = _ from k1, bind_some']
    by_cases q : m = 0
    · rw [if_pos q, q, if_pos (by decide)]
    · rw [if_neg q, if_neg (nI_nle (by omega) (by omega))]
  refine ⟨_, cls, ?_⟩
  by_cases q : m = 0
  · rw [if_pos q]
    exact ⟨0, by omega, rfl⟩
  · rw [if_neg q]
    have hu : ∀ i, i ≤ m - 1 → up 99 (A 7 (8 * p + i)) := fun i hi => n1 _ (by omega)
    exact up_sub (by decide) (mx_up (f := fun k => A 7 (8 * p + k)) _ hu) (mn_up (f := fun k => A 7 (8 * p + k)) _ hu) (mn_le_mx _ _)
end
end OFPIX

section REGION
theorem acc_loop {R : Type} (F : Nat → Int32 → Int32 → Option R) (a len : Nat) (g : Nat → Int32) (fin : Int32 → R) (hl : len < 2000)
    (hs : ∀ n z k, k < len → F (n + 1) z (nI (a + k)) = F n (z + g k) (nI (a + k + 1))) (he : ∀ n z, F (n + 1) z (nI (a + len)) = some (fin z)) (acc : Int32) : F FU acc (nI a) = some (fin (acc + sm len g)) := by
  have : ∃ r, F FU acc (nI a) = some r ∧ r = fin (acc + sm len g) := by
    refine ng_lp0 (F := fun n (s : Int32 × Int32) => F n s.1 s.2) (s := (acc, nI a)) (fun k s => s.1 = acc + sm k g ∧ s.2 = nI (a + k)) len _ hl ⟨(Int32.add_zero _).symm, rfl⟩ ?_ ?_
    · intro k n s hk hP
      obtain ⟨u, v⟩ := s
      obtain ⟨h1, h2⟩ := hP
      dsimp only at h1 h2
      subst h1 h2
      refine ⟨(acc + sm (k + 1) g, nI (a + k + 1)), ?_, rfl, rfl⟩
      dsimp only
      rw [hs n _ k hk, sm_s, Int32.add_assoc]
    · intro n s hP
      obtain ⟨u, v⟩ := s
      obtain ⟨h1, h2⟩ := hP
      dsimp only at h1 h2
      subst h1 h2
      exact ⟨_, he n _, rfl⟩
  obtain ⟨r, e1, e2⟩ := this
  rw [e1, e2]
theorem region {I J : Nat → Int32} {A B : Nat → Nat → Int32} (R : Rel I A J B) (x1 x2 x3 x4 : Int32) (K : Option OutT) (M : (Nat → Int32) → (Nat → Nat → Int32) → Option (Int32 × (Nat → Int32) × (Nat → Nat → Int32)))
    (hk : ∀ (J0 : Nat → Int32) (w h np : Nat), J0 0 = 0 → Rel I A J0 B → Co w h np I A J0 B → ∀ a b c d : Nat, a < c → b < d → c < w → d < h → x1 = nI a → x2 = nI b → x3 = nI c → x4 = nI d → Good [(1, 1), (0, 2)] K (M J0 B)) :
    Good [(1, 1), (0, 2)] (if (B_X1_has I A x1 x2) = 0 then some (.inr (1, I, A)) else (if (B_X1_has I A x3 x4) = 0 then some (.inr (1, I, A)) else (if x3 ≤ x1 then some (.inr (0, I, A)) else (if x2 < x4 then K else some (.inr (0, I, A))))))
      ((B_X7_isRefused J B x1 x2 x3 x4).bind fun q => if q.1 = 0 then M q.2.1 q.2.2 else some (0, q.2.1, q.2.2)) := by
  have RR := R
  obtain ⟨w, h, np, nd, nq, t, C, S, E, F1, F2⟩ := R
  have w12 := C.w12
  have h12 := C.h12
  unfold B_X7_isRefused B_X7_isRefused_J20 B_X7_isRefused_J35 B_X7_isRefused_J40
  rw [C.isCell, C.isCell]
  have bad : ∀ (k c : Nat), 0 < c → c < 4 → (k, c) ∈ [(1, 1), (0, 2)] → Good [(1, 1), (0, 2)] (some (.inr (k, I, A))) ((if (va_up J 0 (nI c)) 0 ≤ 0 then some (0, va_up J 0 (nI c), B) else some (1, va_up J 0 (nI c), B) : Option (Int32 × (Nat → Int32) × (Nat → Nat → Int32))).bind fun q => if q.1 = 0 then M q.2.1 q.2.2 else some (0, q.2.1, q.2.2)) := by
    intro k c c0 c4 hm
    rw [if_neg (show ¬ (va_up J 0 (nI c)) 0 ≤ 0 from nI_nle c0 (by omega)), bind_some']
    dsimp only
    rw [if10]
    exact good_x RR hm
  rcases C.has x1 x2 with e | ⟨e, a, b, ha, hb, rfl, rfl⟩
  · rw [e, if00, if00]
    exact bad 1 1 (by decide) (by decide) (by decide)
  rw [e, if10, if10]
  rcases C.has x3 x4 with e | ⟨e, c, d, hc, hd, rfl, rfl⟩
  · rw [e, if00, if00]
    exact bad 1 1 (by decide) (by decide) (by decide)
  rw [e, if10, if10]
  by_cases q1 : nI c ≤ nI a
  · rw [if_pos q1, if_pos q1]
    exact bad 0 2 (by decide) (by decide) (by decide)
  rw [if_neg q1, if_neg q1]
  by_cases q2 : nI b < nI d
  · rw [if_pos q2, if_pos q2, if_pos (show (va_up J 0 0) 0 ≤ 0 by show (0 : Int32) ≤ 0; decide), bind_some']
    dsimp only
    rw [if00]
    rw [nI_leI (by omega) (by omega)] at q1
    rw [nI_ltI (by omega) (by omega)] at q2
    exact hk _ w h np rfl (RR.th 0) C a b c d (by omega) q2 hc hd rfl rfl rfl rfl
  · rw [if_neg q2, if_neg q2]
    exact bad 0 2 (by decide) (by decide) (by decide)
def rgS (A : Nat → Nat → Int32) (a b c d : Nat) : Int32 := sm (d - b) (fun j => sm (c - a) (fun i => wdS A (a + i) (b + j)))
theorem st_within {I J : Nat → Int32} {A B : Nat → Nat → Int32} (R : Rel I A J B) (x1 x2 x3 x4 : Int32) : Good [(1, 1), (0, 2)] (B_X6_within I A x1 x2 x3 x4) (B_X7_within J B x1 x2 x3 x4) := by
  unfold B_X6_within B_X7_within
  refine region R x1 x2 x3 x4 _ (fun J1 B1 => (B_X7_within_L20 x1 x3 x4 FU 0 x2 J1 B1).bind fun q_10 => some (q_10.1, q_10.2.1, q_10.2.2)) ?_
  intro J0 w h np h0 RR C a b c d hac hbd hc hd e1 e2 e3 e4
  subst e1 e2 e3 e4
  have w12 := C.w12
  have h12 := C.h12
  have row1 : ∀ j, b + j < d → ∀ acc, B_X5_sum_L16 I A (nI a) (nI c) (nI d) (nI (b + j)) FU acc (nI a) = some (acc + sm (c - a) (fun i => wdS A (a + i) (b + j))) := by
    intro j hj acc
    refine acc_loop (fun n z k => B_X5_sum_L16 I A (nI a) (nI c) (nI d) (nI (b + j)) n z k) a (c - a) _ (fun z => z) (by omega) ?_ ?_ acc
    · intro n z k hk
      rw [B_X5_sum_L16_s, if_neg (nI_ge (show a + k < c by omega) (by omega)), C.at (show a + k + 1 < w by omega) (show b + j + 1 < h by omega), bind_some', nI_1]
    · intro n z
      rw [B_X5_sum_L16_s, if_pos (nI_le (show c ≤ a + (c - a) by omega) (by omega))]
  have row2 : ∀ j, b + j < d → ∀ acc, B_X7_within_L30 (nI a) (nI c) (nI d) (nI (b + j)) FU acc (nI a) J0 B = some (acc + sm (c - a) (fun i => wdS A (a + i) (b + j)), J0, B) := by
    intro j hj acc
    refine acc_loop (fun n z k => B_X7_within_L30 (nI a) (nI c) (nI d) (nI (b + j)) n z k J0 B) a (c - a) _ (fun z => (z, J0, B)) (by omega) ?_ ?_ acc
    · intro n z k hk
      rw [B_X7_within_L30_s, if_neg (nI_ge (show a + k < c by omega) (by omega)), C.wAt (show a + k + 1 < w by omega) (show b + j + 1 < h by omega), bind_some', nI_1]
    · intro n z
      rw [B_X7_within_L30_s, if_pos (nI_le (show c ≤ a + (c - a) by omega) (by omega))]
  have k1 : B_X5_sum_L6 I A (nI a) (nI c) (nI d) FU 0 (nI b) = some (0 + rgS A a b c d) := by
    refine acc_loop (fun n z k => B_X5_sum_L6 I A (nI a) (nI c) (nI d) n z k) b (d - b) _ (fun z => z) (by omega) ?_ ?_ 0
    · intro n z k hk
      rw [B_X5_sum_L6_s, if_neg (nI_ge (show b + k < d by omega) (by omega)), row1 k (by omega), bind_some', nI_1]
    · intro n z
      rw [B_X5_sum_L6_s, if_pos (nI_le (show d ≤ b + (d - b) by omega) (by omega))]
  have k2 : B_X7_within_L20 (nI a) (nI c) (nI d) FU 0 (nI b) J0 B = some (0 + rgS A a b c d, J0, B) := by
    refine acc_loop (fun n z k => B_X7_within_L20 (nI a) (nI c) (nI d) n z k J0 B) b (d - b) _ (fun z => (z, J0, B)) (by omega) ?_ ?_ 0
    · intro n z k hk
      rw [B_X7_within_L20_s, if_neg (nI_ge (show b + k < d by omega) (by omega)), row2 k (by omega), bind_some', nI_1]
    · intro n z
      rw [B_X7_within_L20_s, if_pos (nI_le (show d ≤ b + (d - b) by omega) (by omega))]
  unfold B_X5_sum
  rw [k1, bind_some', bind_some', k2, bind_some']
  exact good_r RR h0
theorem st_border {I J : Nat → Int32} {A B : Nat → Nat → Int32} (R : Rel I A J B) (x1 x2 x3 x4 : Int32) : Good [(1, 1), (0, 2)] (B_X6_border I A x1 x2 x3 x4) (B_X7_border J B x1 x2 x3 x4) := by
  unfold B_X6_border B_X7_border
  refine region R x1 x2 x3 x4 _ (fun J1 B1 => (B_X7_border_L20 x1 x2 x3 x4 FU 0 x1 J1 B1).bind fun q_13 => (B_X7_border_L85 x1 x3 x4 FU q_13.1 x2 q_13.2.1 q_13.2.2).bind fun q_24 => some ((q_24.1 / 15), q_24.2.1, q_24.2.2)) ?_
  intro J0 w h np h0 RR C a b c d hac hbd hc hd e1 e2 e3 e4
  subst e1 e2 e3 e4
  have w12 := C.w12
  have h12 := C.h12
  have k1 : B_X7_border_L20 (nI a) (nI b) (nI c) (nI d) FU 0 (nI a) J0 B = some (0 + tS A a b c d, J0, B) := by
    refine acc_loop (fun n z k => B_X7_border_L20 (nI a) (nI b) (nI c) (nI d) n z k J0 B) a (c - a) _ (fun z => (z, J0, B)) (by omega) ?_ ?_ 0
    · intro n z k hk
      rw [B_X7_border_L20_s, if_neg (nI_ge (show a + k < c by omega) (by omega)), nI_1, C.dAt (show a + k < w by omega) (show b < h by omega), bind_some', C.dAt (show a + k + 1 < w by omega) (show b < h by omega), bind_some', C.dAt (show a + k + 1 < w by omega) hd, bind_some', C.dAt (show a + k < w by omega) hd, bind_some', on_eq, on_eq, Int32.add_assoc]
    · intro n z
      rw [B_X7_border_L20_s, if_pos (nI_le (show c ≤ a + (c - a) by omega) (by omega))]
  have k2 : ∀ acc, B_X7_border_L85 (nI a) (nI c) (nI d) FU acc (nI b) J0 B = some (acc + vS A a b c d, J0, B) := by
    refine acc_loop (fun n z k => B_X7_border_L85 (nI a) (nI c) (nI d) n z k J0 B) b (d - b) _ (fun z => (z, J0, B)) (by omega) ?_ ?_
    · intro n z k hk
      rw [B_X7_border_L85_s, if_neg (nI_ge (show b + k < d by omega) (by omega)), nI_1, C.dAt hc (show b + k < h by omega), bind_some', C.dAt hc (show b + k + 1 < h by omega), bind_some', C.dAt (show a < w by omega) (show b + k + 1 < h by omega), bind_some', C.dAt (show a < w by omega) (show b + k < h by omega), bind_some', on_eq, on_eq, Int32.add_assoc]
    · intro n z
      rw [B_X7_border_L85_s, if_pos (nI_le (show d ≤ b + (d - b) by omega) (by omega))]
  rw [C.around hac hbd hc hd, bind_some', k1, bind_some', k2, bind_some', Int32.zero_add]
  exact good_r RR h0
/-! defects -/
theorem st_defects {I J : Nat → Int32} {A B : Nat → Nat → Int32} (R : Rel I A J B) : ∃ v, B_X6_defects I A = some v ∧ Same v I A (B_X7_defects J B) := by
  obtain ⟨J0, hJ, h0, R0⟩ := th0 R
  obtain ⟨w, h, np, nd, nq, t, C, S, E, F1, F2⟩ := id R0
  have w12 := C.w12
  have h12 := C.h12
  have w2 := C.w2
  have h2 := C.h2
  have row1 : ∀ y, y + 1 < h → ∀ acc, B_X5_count_L19 I A (nI y) FU acc 0 = some (acc + sm (w - 1) (fun x => if wdS A x y = 0 then 0 else 1)) := by
    intro y hy acc
    show B_X5_count_L19 I A (nI y) FU acc (nI 0) = _
    refine acc_loop (fun n z k => B_X5_count_L19 I A (nI y) n z k) 0 (w - 1) _ (fun z => z) (by omega) ?_ ?_ acc
    · intro n z k hk
      rw [Nat.zero_add, B_X5_count_L19_s, C.W, nI_sub1 (by omega), if_neg (nI_ge hk (by omega)), C.at (show k + 1 < w by omega) hy, bind_some', nI_1]
      by_cases q : wdS A k y = 0
      · rw [if_pos q, if_pos q, Int32.add_zero]
      · rw [if_neg q, if_neg q]
    · intro n z
      rw [B_X5_count_L19_s, C.W, nI_sub1 (by omega), if_pos (nI_le (by omega) (by omega))]
  have row2 : ∀ y, y + 1 < h → ∀ acc, B_X7_defects_L21 (nI y) FU acc 0 J0 B = some (acc + sm (w - 1) (fun x => if wdS A x y = 0 then 0 else 1), J0, B) := by
    intro y hy acc
    show B_X7_defects_L21 (nI y) FU acc (nI 0) J0 B = _
    refine acc_loop (fun n z k => B_X7_defects_L21 (nI y) n z k J0 B) 0 (w - 1) _ (fun z => (z, J0, B)) (by omega) ?_ ?_ acc
    · intro n z k hk
      rw [Nat.zero_add, B_X7_defects_L21_s, C.JW, nI_sub1 (by omega), if_neg (nI_ge hk (by omega)), C.wAt (show k + 1 < w by omega) hy, bind_some', nI_1]
      by_cases q : wdS A k y = 0
      · rw [if_pos q, if_pos q]
      · rw [if_neg q, if_neg q]
    · intro n z
      rw [B_X7_defects_L21_s, C.JW, nI_sub1 (by omega), if_pos (nI_le (by omega) (by omega))]
  have k1 : B_X5_count_L4 I A FU 0 (nI 0) = some (0 + sm (h - 1) (fun y => sm (w - 1) (fun x => if wdS A x y = 0 then 0 else 1))) := by
    refine acc_loop (fun n z k => B_X5_count_L4 I A n z k) 0 (h - 1) _ (fun z => z) (by omega) ?_ ?_ 0
    · intro n z k hk
      rw [Nat.zero_add, B_X5_count_L4_s, C.H, nI_sub1 (by omega), if_neg (nI_ge hk (by omega)), row1 k (by omega), bind_some', nI_1]
    · intro n z
      rw [B_X5_count_L4_s, C.H, nI_sub1 (by omega), if_pos (nI_le (by omega) (by omega))]
  have k2 : B_X7_defects_L9 FU 0 (nI 0) J0 B = some (0 + sm (h - 1) (fun y => sm (w - 1) (fun x => if wdS A x y = 0 then 0 else 1)), J0, B) := by
    refine acc_loop (fun n z k => B_X7_defects_L9 n z k J0 B) 0 (h - 1) _ (fun z => (z, J0, B)) (by omega) ?_ ?_ 0
    · intro n z k hk
      rw [Nat.zero_add, B_X7_defects_L9_s, C.JH, nI_sub1 (by omega), if_neg (nI_ge hk (by omega)), row2 k (by omega), bind_some', nI_1]
    · intro n z
      rw [B_X7_defects_L9_s, C.JH, nI_sub1 (by omega), if_pos (nI_le (by omega) (by omega))]
  unfold B_X6_defects B_X5_count B_X7_defects
  rw [hJ, show B_X5_count_L4 I A FU 0 0 = _ from k1, show B_X7_defects_L9 FU 0 0 J0 B = _ from k2]
  exact ⟨_, rfl, J0, B, rfl, R0⟩
end REGION

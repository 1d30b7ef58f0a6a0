section LAWM1
theorem rd_nI {n j : Nat} {f : Nat → Int32} (h : j < n) (hn : n < 2 ^ 31) : rd f n (nI j) = some (f j) := by
  unfold rd
  rw [nI_clamp (by omega), if_neg]
  intro q
  rcases q with q | q
  · exact nI_pos (by omega) q
  · omega
theorem wr_nI {n j : Nat} {f : Nat → Int32} {v : Int32} (h : j < n) (hn : n < 2 ^ 31) : wr f n (nI j) v = some (upd f j v) := by
  unfold wr
  rw [nI_clamp (by omega), if_neg]
  intro q
  rcases q with q | q
  · exact nI_pos (by omega) q
  · omega
/-! the law's choices -/
theorem ush_nn (x : Int32) : ∃ v : Nat, v < 2 ^ 31 ∧ ush x = nI v := by
  have h1 := pk_ushr x 1 1 (by decide)
  have h2 : x.toBitVec.toNat < 2 ^ 32 := x.toBitVec.isLt
  refine ⟨x.toBitVec.toNat / 2, by omega, ?_⟩
  unfold ush
  apply Int32.toBitVec_inj.mp
  apply BitVec.eq_of_toNat_eq
  rw [h1]
  show _ = (BitVec.ofNat 32 (x.toBitVec.toNat / 2)).toNat
  rw [BitVec.toNat_ofNat, Nat.mod_eq_of_lt (by omega)]
theorem at_ok {n : Nat} (h0 : 0 < n) (hn : n < 2 ^ 31) (x : Int32) : ∃ k : Nat, k < n ∧ B_L_at x (nI n) = some (nI k) := by
  obtain ⟨v, hv, e⟩ := ush_nn x
  refine ⟨v % n, Nat.mod_lt _ h0, ?_⟩
  unfold B_L_at
  rw [if_neg (nI_ne0 h0 hn), e, pk_rem hv h0 hn]
theorem cell_ok (L : Nat) (xs : Nat → Int32) {j : Nat} (hj : j < 2 ^ 31) : ∃ r, B_L_cell L xs (nI j) = some r := by
  unfold B_L_cell
  by_cases c : nI L ≤ nI j
  · rw [if_pos c]; exact ⟨_, rfl⟩
  · rw [if_neg c, if_neg (nI_pos hj)]; exact ⟨_, rfl⟩
theorem sub_int {a b : Nat} (ha : a < 1000) (hb : b < 1000) : (nI a - nI b).toInt = (a : Int) - b := by
  rw [Int32.toInt_sub, nI_toInt (by omega), nI_toInt (by omega), Int.bmod_eq_of_le (by omega) (by omega)]
abbrev OT3 : Type := (Nat → Int32) × (Nat → Nat → Int32) × (Nat → Nat → Int32)
abbrev KT3 : Type := Int32 → Int32 → Int32 → Int32 → (Nat → Int32) → (Nat → Nat → Int32) → (Nat → Nat → Int32) → Option OT3
/-- how the law stands at its turn k: np pixels, pr programs told, the tick t; its arrays tell where the pixels are -/
def Lq (w h k np nd t pr : Nat) (I : Nat → Int32) (A B : Nat → Nat → Int32) : Prop :=
  Inv w h np nd t I A ∧ nd ≤ pr ∧ pr ≤ 35 ∧ t ≤ 3 * k ∧ ∀ p, p < np → B 0 p = A 0 p ∧ B 1 p = A 1 p ∧ B 2 p = A 2 p ∧ B 3 p = A 3 p
theorem Lq.up {w h k np nd t pr : Nat} {I : Nat → Int32} {A B : Nat → Nat → Int32} (Q : Lq w h k np nd t pr I A B) : Lq w h (k + 1) np nd t pr I A B := ⟨Q.1, Q.2.1, Q.2.2.1, by have := Q.2.2.2.1; omega, Q.2.2.2.2⟩
/-- a turn goes through -/
def Res (w h k : Nat) (x12 : Int32) (K : KT3) (o : Option OT3) : Prop := ∃ np nd t pr I A B, o = K (nI np) (nI pr) (nI t) (x12 + 1) I A B ∧ Lq w h (k + 1) np nd t pr I A B
section
variable {w h k np nd t pr L : Nat} {xs : Nat → Int32} {I : Nat → Int32} {A B : Nat → Nat → Int32}
/-- which places have a cell of a pixel -/
theorem tou_iff (C : Co w h np I A) {p a b u v x y : Nat} (u1 : 1 ≤ u) (v1 : 1 ≤ v) (hpx : ∀ x y, x < w → y < h → (A 12 (12 * y + x) = nI p ↔ a ≤ x ∧ x < a + u ∧ b ≤ y ∧ y < b + v)) (hx : x + 1 < w) (hy : y + 1 < h) : tou A x y (nI p) ↔ (a ≤ x + 1 ∧ x < a + u ∧ b ≤ y + 1 ∧ y < b + v) := by
  unfold tou
  rw [hpx x y (by omega) (by omega), hpx (x + 1) y hx (by omega), hpx x (y + 1) (by omega) hy, hpx (x + 1) (y + 1) hx hy]
  omega
theorem l831 (Q : Lq w h k np nd t pr I A B) {p : Nat} (hp : p < np) (x3 x4 x5 x6 x7 x12 : Int32) :
    ∃ r, B_L_law_L831 L xs I A B x3 x4 x5 x6 x7 x12 (nI (tc A w (h - 1))) (nI p) FU 1 0 = some r ∧ ((r = 1 ∧ ∀ x y, ¬ bad A w h (nI p) x y) ∨ (r = 0 ∧ ∃ x y, bad A w h (nI p) x y)) := by
  obtain ⟨⟨C, S, -, -⟩, -, -, -, hB⟩ := Q
  have np8 := C.np8
  have w12 := C.w12
  have h12 := C.h12
  have w2 := C.w2
  have h2 := C.h2
  obtain ⟨a, b, u, v, r0, r1, r2, r3, u1, v1, hu, hv, hpx⟩ := S.2.2.2.2.1 p hp
  obtain ⟨b0, b1, b2, b3⟩ := hB p hp
  rw [r0] at b0
  rw [r1] at b1
  rw [r2] at b2
  rw [r3] at b3
  have cnt := C.tcUp (h - 1) (by omega)
  refine ng_lp0 (F := fun n (s : Int32 × Int32) => B_L_law_L831 L xs I A B x3 x4 x5 x6 x7 x12 (nI (tc A w (h - 1))) (nI p) n s.1 s.2) (s := (1, 0))
    (fun k s => s.2 = nI k ∧ ((s.1 = 1 ∧ ∀ x y, x + 1 < w → y + 1 < h → wdS A x y ≠ 0 → tc A w y + cn A y x < k → ¬ tou A x y (nI p)) ∨ (s.1 = 0 ∧ ∃ x y, bad A w h (nI p) x y))) (tc A w (h - 1)) _ (by omega) ⟨rfl, Or.inl ⟨rfl, fun x y _ _ _ hk => absurd hk (Nat.not_lt_zero _)⟩⟩ ?_ ?_
  · rintro k n ⟨z, i⟩ hk ⟨e, P⟩
    dsimp only at e P ⊢
    subst e
    obtain ⟨x, y, hx, hy, q1, q2, d0, d1⟩ := st_defect C hk
    have T := tou_iff C u1 v1 hpx hx hy
    have z01 : z = 0 ∨ z = 1 := by rcases P with P | P; exact Or.inr P.1; exact Or.inl P.1
    have a1 : z &&& 1 = z := by rcases z01 with rfl | rfl <;> decide
    have a0 : z &&& 0 = 0 := by rcases z01 with rfl | rfl <;> decide
    have off : ¬ tou A x y (nI p) → (z = 1 ∧ ∀ x y, x + 1 < w → y + 1 < h → wdS A x y ≠ 0 → tc A w y + cn A y x < k + 1 → ¬ tou A x y (nI p)) ∨ (z = 0 ∧ ∃ x y, bad A w h (nI p) x y) := by
      intro hn
      rcases P with ⟨p1, p2⟩ | P
      · refine Or.inl ⟨p1, fun x' y' hx' hy' q' hk' => ?_⟩
        by_cases e : tc A w y' + cn A y' x' = k
        · obtain ⟨rfl, rfl⟩ := tc_inj hx' hx q' q1 (e.trans q2.symm)
          exact hn
        · exact p2 x' y' hx' hy' q' (by omega)
      · exact Or.inr P
    rw [B_L_law_L831_s, if_neg (nI_ge hk (by omega)), d0, bind_some', rd_nI (show p < 8 by omega) (by decide), bind_some', d1, bind_some', rd_nI (show p < 8 by omega) (by decide), bind_some', b0, b1, nI_1, a1, a0]
    have i1 := sub_int (a := x) (b := a) (by omega) (by omega)
    have i2 := sub_int (a := y) (b := b) (by omega) (by omega)
    have m1 : (-1 : Int32).toInt = -1 := by decide
    by_cases c1 : nI x - nI a < -1
    · rw [if_pos c1]
      rw [Int32.lt_iff_toInt_lt, i1, m1] at c1
      exact ⟨(z, nI (k + 1)), rfl, rfl, off (fun q => by have := T.mp q; omega)⟩
    rw [if_neg c1, rd_nI (show p < 8 by omega) (by decide), bind_some', b2]
    rw [Int32.lt_iff_toInt_lt, i1, m1] at c1
    by_cases c2 : nI u ≤ nI x - nI a
    · rw [if_pos c2]
      rw [Int32.le_iff_toInt_le, i1, nI_toInt (by omega)] at c2
      exact ⟨(z, nI (k + 1)), rfl, rfl, off (fun q => by have := T.mp q; omega)⟩
    rw [if_neg c2]
    rw [Int32.le_iff_toInt_le, i1, nI_toInt (by omega)] at c2
    by_cases c3 : nI y - nI b < -1
    · rw [if_pos c3]
      rw [Int32.lt_iff_toInt_lt, i2, m1] at c3
      exact ⟨(z, nI (k + 1)), rfl, rfl, off (fun q => by have := T.mp q; omega)⟩
    rw [if_neg c3, rd_nI (show p < 8 by omega) (by decide), bind_some', b3]
    rw [Int32.lt_iff_toInt_lt, i2, m1] at c3
    by_cases c4 : nI y - nI b < nI v
    · rw [if_pos c4]
      rw [Int32.lt_iff_toInt_lt, i2, nI_toInt (by omega)] at c4
      exact ⟨(0, nI (k + 1)), rfl, rfl, Or.inr ⟨rfl, x, y, hx, hy, q1, T.mpr (by omega)⟩⟩
    rw [if_neg c4]
    rw [Int32.lt_iff_toInt_lt, i2, nI_toInt (by omega)] at c4
    exact ⟨(z, nI (k + 1)), rfl, rfl, off (fun q => by have := T.mp q; omega)⟩
  · rintro n ⟨z, i⟩ ⟨e, P⟩
    dsimp only at e P ⊢
    subst e
    refine ⟨z, ?_, ?_⟩
    · rw [B_L_law_L831_s, if_pos (nI_le (Nat.le_refl _) (by omega))]
    · rcases P with ⟨p1, p2⟩ | P
      · refine Or.inl ⟨p1, fun x y bd => p2 x y bd.1 bd.2.1 bd.2.2.1 ?_ bd.2.2.2⟩
        have k1 := cn_lt (k := w - 1) bd.2.2.1 (by have := bd.1; omega)
        have k2 := tc_mono A w (y + 1) (h - 1 - (y + 1))
        have hy := bd.2.1
        rw [Nat.add_sub_cancel' (by omega), tc_s] at k2
        omega
      · exact Or.inr P
theorem ofPix1 (V : Inv w h np nd t I A) {p : Nat} (hp : p < np) : ∃ r, B_X6_ofPixel I A (nI p) 1 = some r ∧ up 99 r := by
  obtain ⟨r, e, u⟩ := V.1.flick V.2.1.2.2.2.2.2.1 V.2.1.2.2.1.2 hp
  refine ⟨r, ?_, u⟩
  unfold B_X6_ofPixel
  rw [hasPix V hp, if10, if_neg (by decide), if_pos rfl, e, bind_some']
theorem ofPix2 (V : Inv w h np nd t I A) {p : Nat} (hp : p < np) : (B_X6_ofPixel I A (nI p) 2 = some 1 ∧ ∀ x y, ¬ bad A w h (nI p) x y) ∨ (B_X6_ofPixel I A (nI p) 2 = some 0 ∧ ∃ x y, bad A w h (nI p) x y) := by
  unfold B_X6_ofPixel
  rw [hasPix V hp, if10, if_neg (by decide), if_neg (by decide), if_pos rfl]
  rcases V.1.isGood (nI p) with ⟨e, z⟩ | ⟨e, z⟩
  · rw [e, bind_some', if10]
    exact Or.inl ⟨rfl, z⟩
  · rw [e, bind_some', if00]
    exact Or.inr ⟨rfl, z⟩
theorem l818 (Q : Lq w h k np nd t pr I A B) (x3 x4 x6 x7 x12 : Int32) : B_L_law_L818 L xs I A B x3 x4 (nI np) x6 x7 x12 (nI (tc A w (h - 1))) FU 0 = some () := by
  have np8 := Q.1.1.np8
  have : ∃ r, B_L_law_L818 L xs I A B x3 x4 (nI np) x6 x7 x12 (nI (tc A w (h - 1))) FU 0 = some r ∧ True := by
    refine ng_lp0 (F := fun n (s : Int32) => B_L_law_L818 L xs I A B x3 x4 (nI np) x6 x7 x12 (nI (tc A w (h - 1))) n s) (s := 0) (fun k s => s = nI k) np _ (by omega) rfl ?_ ?_
    · rintro p n s hp rfl
      obtain ⟨r, e, z⟩ := l831 (L := L) (xs := xs) Q hp x3 x4 (nI np) x6 x7 x12
      obtain ⟨f, e1, f99⟩ := ofPix1 Q.1 hp
      refine ⟨nI (p + 1), ?_, rfl⟩
      rw [B_L_law_L818_s, if_neg (nI_ge hp (by omega)), e, bind_some', e1, bind_some']
      obtain ⟨f', hf, rfl⟩ := f99
      have j942 : ∀ (K : Int32 → Option Unit) (z : Int32), B_L_law_J942 L xs K I A B x3 x4 (nI np) x6 x7 x12 (nI (tc A w (h - 1))) (nI p) (nI f') z z = K (nI p + 1) := by
        intro K z
        unfold B_L_law_J942
        rw [if_pos rfl, if_neg (nI_pos (by omega)), if_pos (show nI f' ≤ (99 : Int32) from nI_le (b := 99) hf (by decide))]
      rcases z with ⟨rfl, z⟩ | ⟨rfl, x, y, z⟩
      · rcases ofPix2 Q.1 hp with ⟨e2, -⟩ | ⟨-, x, y, z2⟩
        · rw [e2, bind_some', if10, j942, nI_1]
        · exact absurd z2 (z x y)
      · rcases ofPix2 Q.1 hp with ⟨-, z2⟩ | ⟨e2, -⟩
        · exact absurd z (z2 x y)
        · rw [e2, bind_some', if00, j942, nI_1]
    · rintro n s rfl
      refine ⟨(), ?_, trivial⟩
      rw [B_L_law_L818_s, if_pos (nI_le (Nat.le_refl _) (by omega))]
  obtain ⟨r, e, -⟩ := this
  exact e
theorem j809 (Q : Lq w h (k + 1) np nd t pr I A B) (K : KT3) (x3 x4 x12 : Int32) : B_L_law_J809 L xs K I A B x3 x4 (nI np) (nI pr) (nI t) x12 = K (nI np) (nI pr) (nI t) (x12 + 1) I A B := by
  unfold B_L_law_J809
  rw [st_defects Q.1.1, bind_some', l818 Q, bind_some']
theorem j680 (Q : Lq w h (k + 1) np nd t pr I A B) (K : KT3) (x2 x12 : Int32) {a b : Nat} (ha : a < w) (hb : b < h) : B_L_law_J680 L xs K I A B x2 (nI w) (nI h) (nI np) (nI pr) (nI t) x12 (nI a) (nI b) = K (nI np) (nI pr) (nI t) (x12 + 1) I A B := by
  have C := Q.1.1
  have w12 := C.w12
  have h12 := C.h12
  obtain ⟨c, hc, ec⟩ := at_ok (n := w) (by omega) (by omega) (x2 >>> (2 &&& 31))
  obtain ⟨d, hd, ed⟩ := at_ok (n := h) (by omega) (by omega) (x2 >>> (6 &&& 31))
  unfold B_L_law_J680
  rw [ec, bind_some', ed, bind_some', nI_1, nI_1, nI_add, nI_add, j809 Q]
  by_cases c1 : w ≤ a + 1 + c
  · rw [if_pos (nI_le c1 (by omega))]
  rw [if_neg (nI_ge (show a + 1 + c < w by omega) (by omega))]
  by_cases c2 : h ≤ b + 1 + d
  · rw [if_pos (nI_le c2 (by omega))]
  rw [if_neg (nI_ge (show b + 1 + d < h by omega) (by omega))]
  have row : ∀ j, j < b + 1 + d - b → ∀ acc, B_L_law_L741 L xs I A B (nI w) (nI h) (nI np) (nI pr) (nI t) x12 (nI a) (nI b) (nI (a + 1 + c)) (nI (b + 1 + d)) (nI (b + j)) FU acc (nI a) = some (acc + sm (a + 1 + c - a) (fun i => wdS A (a + i) (b + j))) := by
    intro j hj acc
    refine acc_loop (fun n z k => B_L_law_L741 L xs I A B (nI w) (nI h) (nI np) (nI pr) (nI t) x12 (nI a) (nI b) (nI (a + 1 + c)) (nI (b + 1 + d)) (nI (b + j)) n z k) a (a + 1 + c - a) _ (fun z => z) (by omega) ?_ ?_ acc
    · intro n z k hk
      rw [B_L_law_L741_s, if_neg (nI_ge (show a + k < a + 1 + c by omega) (by omega)), st_winding C (show a + k + 1 < w by omega) (show b + j + 1 < h by omega), bind_some', nI_1]
    · intro n z
      rw [B_L_law_L741_s, if_pos (nI_le (show a + 1 + c ≤ a + (a + 1 + c - a) by omega) (by omega))]
  have k1 : B_L_law_L730 L xs I A B (nI w) (nI h) (nI np) (nI pr) (nI t) x12 (nI a) (nI b) (nI (a + 1 + c)) (nI (b + 1 + d)) FU 0 (nI b) = some (0 + rgS A a b (a + 1 + c) (b + 1 + d)) := by
    refine acc_loop (fun n z k => B_L_law_L730 L xs I A B (nI w) (nI h) (nI np) (nI pr) (nI t) x12 (nI a) (nI b) (nI (a + 1 + c)) (nI (b + 1 + d)) n z k) b (b + 1 + d - b) _ (fun z => z) (by omega) ?_ ?_ 0
    · intro n z k hk
      rw [B_L_law_L730_s, if_neg (nI_ge (show b + k < b + 1 + d by omega) (by omega)), row k hk, bind_some', nI_1]
    · intro n z
      rw [B_L_law_L730_s, if_pos (nI_le (show b + 1 + d ≤ b + (b + 1 + d - b) by omega) (by omega))]
  rw [k1, bind_some', Int32.zero_add, st_within C (show a < a + 1 + c by omega) (show b < b + 1 + d by omega) (by omega) (by omega), bind_some', if_pos rfl, st_border C (show a < a + 1 + c by omega) (show b < b + 1 + d by omega) (by omega) (by omega), bind_some', if_pos rfl]
theorem j598 (Q : Lq w h (k + 1) np nd t pr I A B) (K : KT3) (x2 x12 : Int32) {act a b : Nat} (hact : act ≤ 8) (ha : a < w) (hb : b < h) {x17 x18 x19 : Int32} (hw : act < 7 → I 3 = x19 ∧ I 2 = x18 + I 9 - x17) :
    Res w h k x12 K (B_L_law_J598 L xs K I A B x2 (nI w) (nI h) (nI np) (nI pr) (nI t) x12 (nI act) (nI a) (nI b) x17 x18 x19) := by
  refine ⟨np, nd, t, pr, I, A, B, ?_, Q⟩
  obtain ⟨C, S, E, F⟩ := Q.1
  unfold B_L_law_J598
  have e0 : B_X6_spent I A 0 = I 2 := rfl
  have e1 : B_X6_spent I A 1 = I 3 := rfl
  have e2 : B_X6_energy I A = I 9 := rfl
  have e3 : B_X6_energyAnew I A = some (I 9) := by
    unfold B_X6_energyAnew
    rw [C.sum, bind_some', E]
  have up9 := C.enUp
  rw [← E] at up9
  obtain ⟨v, hv, ev⟩ := up9
  have p9 : (0 : Int32) ≤ I 9 := by rw [ev]; exact nI_pos' (by omega)
  rw [e0, e1, e2, e3, if_pos F, bind_some', if_pos rfl, if_pos p9]
  have j653 : B_L_law_J653 L xs K I A B x2 (nI w) (nI h) (nI np) (nI pr) (nI t) x12 (nI act) (nI a) (nI b) x17 x18 = K (nI np) (nI pr) (nI t) (x12 + 1) I A B := by
    unfold B_L_law_J653
    rw [e0, e2, j680 Q K x2 x12 ha hb]
    by_cases c : act < 7
    · rw [if_neg (show ¬ (7 : Int32) ≤ nI act from nI_ge (b := 7) c (by decide)), if_pos (hw c).2]
    · rw [if_pos (show (7 : Int32) ≤ nI act from nI_le (a := 7) (by omega) (by omega))]
  rw [j653]
  by_cases c : act < 7
  · rw [if_neg (show ¬ (7 : Int32) ≤ nI act from nI_ge (b := 7) c (by decide)), if_pos (hw c).1]
  · rw [if_pos (show (7 : Int32) ≤ nI act from nI_le (a := 7) (by omega) (by omega))]
end
end LAWM1

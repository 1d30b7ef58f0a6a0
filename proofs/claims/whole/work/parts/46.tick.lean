section TICK
section
variable {w h np nd nq t : Nat} {I J : Nat → Int32} {A B : Nat → Nat → Int32}
/-- a cell settles -/
theorem Co.settle (C : Co w h np I A J B) (E : I 9 = en w h (I 7) (I 8) A) {x y : Nat} (hx : x < w) (hy : y < h) (hk : A 9 (12 * y + x) ≠ 1) :
    ∃ g b, up 14 b ∧ B_X1_settle I A (nI x) (nI y) = some (va_up I 9 (I 9 + g), va_up A 8 (upd (A 8) (12 * y + x) b)) ∧ B_X7_relax J B (nI x) (nI y) = some (0 - g, J, va_up B 0 (upd (B 0) (12 * y + x) b)) ∧ en w h (I 7) (I 8) (va_up A 8 (upd (A 8) (12 * y + x) b)) = en w h (I 7) (I 8) A + g := by
  have hc := C.cell hx hy
  obtain ⟨d, hd0, ed⟩ := C.dup hx hy
  -- the energy of the grid with another direction here
  have key : ∀ b, up 14 b → en w h (I 7) (I 8) (va_up A 8 (upd (A 8) (12 * y + x) b)) = en w h (I 7) (I 8) A + (B_X1_energyWith I A (nI x) (nI y) b - B_X1_energyWith I A (nI x) (nI y) (dd A x y)) := by
    intro b hb
    have C' : Co w h np I (va_up A 8 (upd (A 8) (12 * y + x) b)) J (va_up B 0 (upd (B 0) (12 * y + x) b)) := ⟨C.geo, C.cost, dir_upd C.dir _ hb, C.kind, C.pix, C.field, C.np8⟩
    have w12 := C.w12
    have k := en_local C C' hx hy (fun j hj => if_neg hj) (fun j d hj => rfl)
    have e0 : B_X1_energyAt I A (nI x) (nI y) = B_X1_energyWith I A (nI x) (nI y) (dd A x y) := by
      unfold B_X1_energyAt
      rw [C.dirAt hx hy]
    have e1 : B_X1_energyAt I (va_up A 8 (upd (A 8) (12 * y + x) b)) (nI x) (nI y) = B_X1_energyWith I A (nI x) (nI y) b := by
      have eb : dd (va_up A 8 (upd (A 8) (12 * y + x) b)) x y = b := if_pos rfl
      have eh : hh (va_up A 8 (upd (A 8) (12 * y + x) b)) x y = hd A (12 * y + x) b := by
        show hd A (12 * y + x) (dd (va_up A 8 (upd (A 8) (12 * y + x) b)) x y) = _
        rw [eb]
      have hD : ∀ a c, a < w → c < h → ¬ (a = x ∧ c = y) → dd (va_up A 8 (upd (A 8) (12 * y + x) b)) a c = dd A a c := fun a c ha hc hne => if_neg (by omega)
      rw [C'.eAt hx hy, C.eW hx hy, ew_congr hx hy hD, eb, eh]
    rw [k, e0, e1]
  have eq0 : ∀ v, B_X7_withAll J B (nI x) (nI y) v = B_X7_withAll J B (nI x) (nI y) v := fun _ => rfl
  have a15 := ahead_n d (by omega)
  have b15 := behind_n d (by omega)
  obtain ⟨⟨u1, u2⟩, u3, u4⟩ := ahead_up_n d (by omega)
  have ua : up 14 (if nI d = 0 then 14 else nI d - 1) := ⟨_, u1, (Int32.ofNat_toNatClampNeg _ u2).symm⟩
  have ub : up 14 (if nI d = 14 then 0 else nI d + 1) := ⟨_, u3, (Int32.ofNat_toNatClampNeg _ u4).symm⟩
  generalize ea : (if nI d = 0 then (14 : Int32) else nI d - 1) = a at a15 ua
  generalize eb : (if nI d = 14 then (0 : Int32) else nI d + 1) = b at b15 ub
  -- the class
  have cls : B_X1_settle I A (nI x) (nI y) = B_X1_settle_J34 I A (nI x) (nI y) (nI d) a b := by
    unfold B_X1_settle B_X1_settle_J19
    rw [C.dirAt hx hy, ed]
    by_cases q1 : nI d = 0
    · rw [if_pos q1] at ea ⊢
      rw [← ea]
      by_cases q2 : nI d = 14
      · rw [if_pos q2] at eb ⊢
        rw [← eb]
      · rw [if_neg q2] at eb ⊢
        rw [← eb]
    · rw [if_neg q1] at ea ⊢
      rw [← ea]
      by_cases q2 : nI d = 14
      · rw [if_pos q2] at eb ⊢
        rw [← eb]
      · rw [if_neg q2] at eb ⊢
        rw [← eb]
  have eN : nI d = dd A x y := ed.symm
  have mdl : B_X7_relax J B (nI x) (nI y) = (if B_X1_energyWith I A (nI x) (nI y) (nI d) ≤ B_X1_energyWith I A (nI x) (nI y) a then B_X7_relax_J100 J B (nI x) (nI y) (nI (12 * y + x)) (B_X1_energyWith I A (nI x) (nI y) (nI d)) b (B_X1_energyWith I A (nI x) (nI y) (nI d)) (nI d) else B_X7_relax_J100 J B (nI x) (nI y) (nI (12 * y + x)) (B_X1_energyWith I A (nI x) (nI y) (nI d)) b (B_X1_energyWith I A (nI x) (nI y) a) a) := by
    unfold B_X7_relax
    have e1 : rd (B 1) 144 (B_X7_cell (nI x) (nI y)) = some (A 9 (12 * y + x)) := by rw [nn_cell, rd_nI hc (by decide), (C.kind _ hc).1]
    rw [e1, bind_some', if_neg hk, C.rdDir hx hy, ed, bind_some', C.wA hx hy (up_nI hd0), bind_some', bind_some', bind_some', bind_some', a15, b15, C.wA hx hy ua, bind_some', bind_some', nn_cell]
  have j100 : ∀ L T, B_X7_relax_J100 J B (nI x) (nI y) (nI (12 * y + x)) (B_X1_energyWith I A (nI x) (nI y) (nI d)) b L T = (if L ≤ B_X1_energyWith I A (nI x) (nI y) b then some (B_X1_energyWith I A (nI x) (nI y) (nI d) - L, J, va_up B 0 (upd (B 0) (12 * y + x) T)) else some (B_X1_energyWith I A (nI x) (nI y) (nI d) - B_X1_energyWith I A (nI x) (nI y) b, J, va_up B 0 (upd (B 0) (12 * y + x) b))) := by
    intro L T
    unfold B_X7_relax_J100 B_X7_relax_J127
    rw [C.wA hx hy ub, bind_some', bind_some', wr_nI hc (by decide), wr_nI hc (by decide), bind_some', bind_some']
  have j87 : ∀ L T, B_X1_settle_J87 I A (nI x) (nI y) b (B_X1_energyWith I A (nI x) (nI y) (nI d)) (B_X1_energyWith I A (nI x) (nI y) b) T L = (if L ≤ B_X1_energyWith I A (nI x) (nI y) b then some (va_up I 9 (I 9 + (L - B_X1_energyWith I A (nI x) (nI y) (nI d))), va_up A 8 (upd (A 8) (12 * y + x) T)) else some (va_up I 9 (I 9 + (B_X1_energyWith I A (nI x) (nI y) b - B_X1_energyWith I A (nI x) (nI y) (nI d))), va_up A 8 (upd (A 8) (12 * y + x) b))) := by
    intro L T
    unfold B_X1_settle_J87 B_X1_settle_J102
    rw [nn_num, rPut_nI hc (by decide), rPut_nI hc (by decide)]
    rfl
  have neg : ∀ p q : Int32, p - q = 0 - (q - p) := fun p q => by rw [Int32.zero_sub, Int32.neg_sub]
  rw [cls, mdl]
  unfold B_X1_settle_J34
  rw [j87, j87, j100, j100]
  by_cases q1 : B_X1_energyWith I A (nI x) (nI y) (nI d) ≤ B_X1_energyWith I A (nI x) (nI y) a
  · rw [if_pos q1, if_pos q1]
    by_cases q2 : B_X1_energyWith I A (nI x) (nI y) (nI d) ≤ B_X1_energyWith I A (nI x) (nI y) b
    · rw [if_pos q2, if_pos q2]
      refine ⟨_, nI d, up_nI hd0, rfl, ?_, ?_⟩
      · exact congrArg (fun z => some (z, J, va_up B 0 (upd (B 0) (12 * y + x) _))) (neg _ _)
      · rw [key _ (up_nI hd0), ed]
    · rw [if_neg q2, if_neg q2]
      refine ⟨_, b, ub, rfl, ?_, ?_⟩
      · exact congrArg (fun z => some (z, J, va_up B 0 (upd (B 0) (12 * y + x) _))) (neg _ _)
      · rw [key _ ub, ed]
  · rw [if_neg q1, if_neg q1]
    by_cases q2 : B_X1_energyWith I A (nI x) (nI y) a ≤ B_X1_energyWith I A (nI x) (nI y) b
    · rw [if_pos q2, if_pos q2]
      refine ⟨_, a, ua, rfl, ?_, ?_⟩
      · exact congrArg (fun z => some (z, J, va_up B 0 (upd (B 0) (12 * y + x) _))) (neg _ _)
      · rw [key _ ua, ed]
    · rw [if_neg q2, if_neg q2]
      refine ⟨_, b, ub, rfl, ?_, ?_⟩
      · exact congrArg (fun z => some (z, J, va_up B 0 (upd (B 0) (12 * y + x) _))) (neg _ _)
      · rw [key _ ub, ed]
/-- in the midst of relaxing -/
def InR (w h np : Nat) (I0 J0 : Nat → Int32) (A0 B0 : Nat → Nat → Int32) (f0 : Int32) (I : Nat → Int32) (A : Nat → Nat → Int32) (f : Int32) (B : Nat → Nat → Int32) : Prop :=
  Co w h np I A J0 B ∧ I 9 = en w h (I 7) (I 8) A ∧ f = f0 + (I0 9 - I 9) ∧ Eqx 9 I I0 ∧ (∀ i, i ≠ 8 → A i = A0 i) ∧ (∀ i, i ≠ 0 → B i = B0 i)
theorem relaxRow {I0 J0 : Nat → Int32} {A0 B0 : Nat → Nat → Int32} {f0 : Int32} {y : Nat} (hy : y < h) (z1 z2 z3 : Int32) {f : Int32} (P : InR w h np I0 J0 A0 B0 f0 I A f B) :
    ∃ f' I' A' B', B_X1_relax_L17 z1 (nI y) FU 0 I A = some (I', A') ∧ B_X7_tick_L77 z2 z3 (nI y) FU f 0 J0 B = some (f', J0, B') ∧ InR w h np I0 J0 A0 B0 f0 I' A' f' B' := by
  have w12 := P.1.w12
  have : ∃ r q, B_X1_relax_L17 z1 (nI y) FU 0 I A = some r ∧ B_X7_tick_L77 z2 z3 (nI y) FU f 0 J0 B = some q ∧ ∃ f' I' A' B', r = (I', A') ∧ q = (f', J0, B') ∧ InR w h np I0 J0 A0 B0 f0 I' A' f' B' := by
    refine ng_lp20 (F := fun n (s : Int32 × (Nat → Int32) × (Nat → Nat → Int32)) => B_X1_relax_L17 z1 (nI y) n s.1 s.2.1 s.2.2) (G := fun n (s : Int32 × Int32 × (Nat → Int32) × (Nat → Nat → Int32)) => B_X7_tick_L77 z2 z3 (nI y) n s.1 s.2.1 s.2.2.1 s.2.2.2) (s := (0, I, A)) (t := (f, 0, J0, B))
      (fun k s t' => ∃ f' I' A' B', s = (nI k, I', A') ∧ t' = (f', nI k, J0, B') ∧ InR w h np I0 J0 A0 B0 f0 I' A' f' B') w _ (by omega) ⟨f, I, A, B, rfl, rfl, P⟩ ?_ ?_
    · rintro k n s t' hk ⟨f, I, A, B, rfl, rfl, c1, c2, c3, c4, c5, c6⟩
      have hc := c1.cell hk hy
      dsimp only
      have ek : B_X1_kindAt I A (nI k) (nI y) = A 9 (12 * y + k) := by
        unfold B_X1_kindAt
        rw [nn_num, rAt_nI hc (by decide)]
      rw [B_X1_relax_L17_s, B_X7_tick_L77_s, c1.W, c1.JW, if_neg (nI_ge hk (by omega)), if_neg (nI_ge hk (by omega)), ek, nI_1]
      by_cases q : A 9 (12 * y + k) = 1
      · have eM : B_X7_relax J0 B (nI k) (nI y) = some (0, J0, B) := by
          unfold B_X7_relax
          rw [nn_cell, rd_nI hc (by decide), bind_some', (c1.kind _ hc).1, if_pos q]
        rw [if_pos q, eM, bind_some']
        refine ⟨(nI (k + 1), I, A), (f + 0, nI (k + 1), J0, B), rfl, rfl, f + 0, I, A, B, rfl, rfl, c1, c2, ?_, c4, c5, c6⟩
        rw [Int32.add_zero]
        exact c3
      · obtain ⟨g, b, hb, e1, e2, e3⟩ := c1.settle c2 hk hy q
        rw [if_neg q, e1, bind_some', e2, bind_some']
        refine ⟨(nI (k + 1), va_up I 9 (I 9 + g), va_up A 8 (upd (A 8) (12 * y + k) b)), (f + (0 - g), nI (k + 1), J0, va_up B 0 (upd (B 0) (12 * y + k) b)), rfl, rfl, _, _, _, _, rfl, rfl, ⟨c1.geo, c1.cost, dir_upd c1.dir _ hb, c1.kind, c1.pix, c1.field, c1.np8⟩, ?_, ?_, c4.up _, ?_, ?_⟩
        · show I 9 + g = en w h (I 7) (I 8) _
          rw [e3, c2]
        · show f + (0 - g) = f0 + (I0 9 - (I 9 + g))
          rw [c3]
          generalize I0 9 = p
          generalize I 9 = q
          grind
        · intro i hi
          rw [ng_va, if_neg hi]
          exact c5 i hi
        · intro i hi
          rw [ng_va, if_neg hi]
          exact c6 i hi
    · rintro n s t' ⟨f, I, A, B, rfl, rfl, c⟩
      refine ⟨_, _, ?_, ?_, f, I, A, B, rfl, rfl, c⟩
      · dsimp only
        rw [B_X1_relax_L17_s, c.1.W, if_pos (nI_le (Nat.le_refl _) (by omega))]
      · dsimp only
        rw [B_X7_tick_L77_s, c.1.JW, if_pos (nI_le (Nat.le_refl _) (by omega))]
  obtain ⟨r, q, e1, e2, f', I', A', B', rfl, rfl, c⟩ := this
  exact ⟨f', I', A', B', e1, e2, c⟩
theorem relaxAll {I0 J0 : Nat → Int32} {A0 B0 : Nat → Nat → Int32} (z2 z3 : Int32) {f0 : Int32} (C : Co w h np I0 A0 J0 B0) (E : I0 9 = en w h (I0 7) (I0 8) A0) :
    ∃ f' I' A' B', B_X1_relax I0 A0 = some (I0 9 - I' 9, I', A') ∧ B_X7_tick_L65 z2 z3 FU f0 0 J0 B0 = some (f', J0, B') ∧ InR w h np I0 J0 A0 B0 f0 I' A' f' B' := by
  have h12 := C.h12
  have : ∃ r q, B_X1_relax_L7 (I0 9) FU 0 I0 A0 = some r ∧ B_X7_tick_L65 z2 z3 FU f0 0 J0 B0 = some q ∧ ∃ f' I' A' B', r = (I', A') ∧ q = (f', J0, B') ∧ InR w h np I0 J0 A0 B0 f0 I' A' f' B' := by
    refine ng_lp20 (F := fun n (s : Int32 × (Nat → Int32) × (Nat → Nat → Int32)) => B_X1_relax_L7 (I0 9) n s.1 s.2.1 s.2.2) (G := fun n (s : Int32 × Int32 × (Nat → Int32) × (Nat → Nat → Int32)) => B_X7_tick_L65 z2 z3 n s.1 s.2.1 s.2.2.1 s.2.2.2) (s := (0, I0, A0)) (t := (f0, 0, J0, B0))
      (fun k s t' => ∃ f' I' A' B', s = (nI k, I', A') ∧ t' = (f', nI k, J0, B') ∧ InR w h np I0 J0 A0 B0 f0 I' A' f' B') h _ (by omega) ⟨f0, I0, A0, B0, rfl, rfl, C, E, ?_, fun _ _ => rfl, fun _ _ => rfl, fun _ _ => rfl⟩ ?_ ?_
    · rw [Int32.sub_self, Int32.add_zero]
    · rintro k n s t' hk ⟨f, I, A, B, rfl, rfl, c⟩
      obtain ⟨f', I', A', B', e1, e2, c'⟩ := relaxRow hk (I0 9) z2 z3 c
      refine ⟨(nI (k + 1), I', A'), (f', nI (k + 1), J0, B'), ?_, ?_, f', I', A', B', rfl, rfl, c'⟩
      · dsimp only
        rw [B_X1_relax_L7_s, c.1.H, if_neg (nI_ge hk (by omega)), e1, bind_some', nI_1]
      · dsimp only
        rw [B_X7_tick_L65_s, c.1.JH, if_neg (nI_ge hk (by omega)), e2, bind_some', nI_1]
    · rintro n s t' ⟨f, I, A, B, rfl, rfl, c⟩
      refine ⟨_, _, ?_, ?_, f, I, A, B, rfl, rfl, c⟩
      · dsimp only
        rw [B_X1_relax_L7_s, c.1.H, if_pos (nI_le (Nat.le_refl _) (by omega))]
      · dsimp only
        rw [B_X7_tick_L65_s, c.1.JH, if_pos (nI_le (Nat.le_refl _) (by omega))]
  obtain ⟨r, q, e1, e2, f', I', A', B', rfl, rfl, c⟩ := this
  refine ⟨f', I', A', B', ?_, e2, c⟩
  unfold B_X1_relax
  rw [e1, bind_some']
theorem mod8 {c : Nat} (hc : c < 2 ^ 31) : nI c - nI c / 8 * 8 = nI (c % 8) := by
  rw [show (8 : Int32) = nI 8 from rfl, nI_div hc (by decide), nI_mul, nI_sub (Nat.div_mul_le_self c 8), mod_sub]
/-- the greys of a tick are noted -/
theorem notes {J0 : Nat → Int32} {A0 B0 : Nat → Nat → Int32} (z1 z2 z3 : Int32) (C : Co w h np I A0 J0 B0) (S1 : CntP np 8 (I 4) (J0 9)) (S5 : up 14 (I 0) ∧ J0 5 = I 0) (S6 : RectP w h np (A0 0) (A0 1) (A0 2) (A0 3) (A0 12)) (S7 : NoteP np t (A0 6) (A0 7) (B0 8) (B0 7)) (ht : t ≤ 2000) :
    ∃ A B, B_X6_noteGreys I A0 = some (I, A) ∧ B_X7_tick_L112 z1 z2 z3 FU 0 J0 B0 = some (J0, B) ∧ NoteP np (t + 1) (A 6) (A 7) (B 8) (B 7) ∧ (∀ i, i ≠ 6 → i ≠ 7 → A i = A0 i) ∧ (∀ i, i ≠ 7 → i ≠ 8 → B i = B0 i) := by
  have np8 := C.np8
  have : ∃ r q, B_X6_noteGreys_L2 FU 0 I A0 = some r ∧ B_X7_tick_L112 z1 z2 z3 FU 0 J0 B0 = some q ∧ ∃ A B, r = (I, A) ∧ q = (J0, B) ∧ NoteP np (t + 1) (A 6) (A 7) (B 8) (B 7) ∧ (∀ i, i ≠ 6 → i ≠ 7 → A i = A0 i) ∧ (∀ i, i ≠ 7 → i ≠ 8 → B i = B0 i) := by
    refine ng_lp20 (F := fun n (s : Int32 × (Nat → Int32) × (Nat → Nat → Int32)) => B_X6_noteGreys_L2 n s.1 s.2.1 s.2.2) (G := fun n (s : Int32 × (Nat → Int32) × (Nat → Nat → Int32)) => B_X7_tick_L112 z1 z2 z3 n s.1 s.2.1 s.2.2) (s := (0, I, A0)) (t := (0, J0, B0))
      (fun k s t' => ∃ A B, s = (nI k, I, A) ∧ t' = (nI k, J0, B) ∧ ((∀ j, j < 64 → up 100 (A 7 j) ∧ B 7 j = A 7 j) ∧ (∀ j, j < 8 → B 8 j = A 6 j) ∧ (∀ p, p < np → p < k → up (t + 1) (A 6 p)) ∧ (∀ p, p < np → k ≤ p → up t (A 6 p))) ∧ (∀ i, i ≠ 6 → i ≠ 7 → A i = A0 i) ∧ (∀ i, i ≠ 7 → i ≠ 8 → B i = B0 i)) np _ (by omega) ⟨A0, B0, rfl, rfl, ⟨S7.1, S7.2.1, fun p _ hp => absurd hp (Nat.not_lt_zero _), fun p hp _ => S7.2.2 p hp⟩, fun _ _ _ => rfl, fun _ _ _ => rfl⟩ ?_ ?_
    · rintro k n s t' hk ⟨A, B, rfl, rfl, ⟨n1, n2, n3, n4⟩, a1, b1⟩
      have hk8 : k < 8 := by omega
      have C' : Co w h np I A J0 B := by
        refine ⟨C.geo, C.cost, ?_, ?_, ?_, ?_, C.np8⟩
        · rw [a1 8 (by decide) (by decide), b1 0 (by decide) (by decide)]; exact C.dir
        · rw [a1 9 (by decide) (by decide), a1 10 (by decide) (by decide), a1 11 (by decide) (by decide), b1 1 (by decide) (by decide), b1 2 (by decide) (by decide), b1 3 (by decide) (by decide)]; exact C.kind
        · rw [a1 12 (by decide) (by decide), b1 4 (by decide) (by decide)]; exact C.pix
        · rw [a1 4 (by decide) (by decide), a1 5 (by decide) (by decide), b1 5 (by decide) (by decide), b1 6 (by decide) (by decide)]; exact C.field
      have S6' : RectP w h np (A 0) (A 1) (A 2) (A 3) (A 12) := by
        rw [a1 0 (by decide) (by decide), a1 1 (by decide) (by decide), a1 2 (by decide) (by decide), a1 3 (by decide) (by decide), a1 12 (by decide) (by decide)]; exact S6
      obtain ⟨a, b, u, v, r0, r1, r2, r3, r4, r5, r6, r7, r8⟩ := S6' k hk
      obtain ⟨c, hc, ec⟩ := n4 k hk (Nat.le_refl _)
      have hgp := C'.gpUp r4 r5 r6 r7 S5.1
      have hcm : c % 8 < 8 := Nat.mod_lt _ (by decide)
      dsimp only
      rw [B_X6_noteGreys_L2_s, B_X7_tick_L112_s, S1.1, S1.2.2, S1.1, if_neg (nI_ge hk (by omega)), if_neg (nI_ge hk (by omega)), C'.greyC hk8 r0 r1 r2 r3 r4 r5 r6 r7, bind_some', rd_nI hk8 (by decide), bind_some', C'.greyM hk8 r4 r5 r6 r7 r8 S5.2 S5.1, bind_some']
      unfold B_X3_note
      rw [rAt_nI hk8 (by decide), n2 k hk8, ec, mod8 (by omega), show (8 : Int32) = nI 8 from rfl, nI_mul, nI_mul, nI_add, nI_add, rPut_nI (show k * 8 + c % 8 < 64 by omega) (by decide), wr_nI (show 8 * k + c % 8 < 64 by omega) (by decide), bind_some', bind_some', rPut_nI hk8 (by decide), rd_nI hk8 (by decide), bind_some', wr_nI hk8 (by decide), bind_some', Nat.mul_comm k 8, nI_1, nI_1]
      have e8 : va_up B 7 (upd (B 7) (8 * k + c % 8) (gpS A (I 0) a b u v)) 8 = B 8 := rfl
      rw [e8, n2 k hk8, ec, nI_1]
      refine ⟨(nI (k + 1), I, va_up (va_up A 7 (upd (A 7) (8 * k + c % 8) (gpS A (I 0) a b u v))) 6 (upd (A 6) k (nI (c + 1)))), (nI (k + 1), J0, va_up (va_up B 7 (upd (B 7) (8 * k + c % 8) (gpS A (I 0) a b u v))) 8 (upd (B 8) k (nI (c + 1)))), rfl, rfl, _, _, rfl, rfl, ⟨?_, ?_, ?_, ?_⟩, ?_, ?_⟩
      · intro j hj
        show up 100 (upd (A 7) (8 * k + c % 8) (gpS A (I 0) a b u v) j) ∧ upd (B 7) (8 * k + c % 8) (gpS A (I 0) a b u v) j = upd (A 7) (8 * k + c % 8) (gpS A (I 0) a b u v) j
        rw [upd_at, upd_at]
        by_cases e : j = 8 * k + c % 8
        · rw [if_pos e, if_pos e]
          exact ⟨hgp, rfl⟩
        · rw [if_neg e, if_neg e]
          exact n1 j hj
      · intro j hj
        show upd (B 8) k (nI (c + 1)) j = upd (A 6) k (nI (c + 1)) j
        rw [upd_at, upd_at]
        by_cases e : j = k
        · rw [if_pos e, if_pos e]
        · rw [if_neg e, if_neg e]
          exact n2 j hj
      · intro p hp hpk
        show up (t + 1) (upd (A 6) k (nI (c + 1)) p)
        rw [upd_at]
        by_cases e : p = k
        · rw [if_pos e]
          exact up_nI (by omega)
        · rw [if_neg e]
          exact n3 p hp (by omega)
      · intro p hp hpk
        show up t (upd (A 6) k (nI (c + 1)) p)
        rw [upd_at, if_neg (by omega)]
        exact n4 p hp (by omega)
      · intro i h1 h2
        rw [ng_va, if_neg h1, ng_va, if_neg h2]
        exact a1 i h1 h2
      · intro i h1 h2
        rw [ng_va, if_neg h2, ng_va, if_neg h1]
        exact b1 i h1 h2
    · rintro n s t' ⟨A, B, rfl, rfl, ⟨n1, n2, n3, n4⟩, a1, b1⟩
      refine ⟨_, _, ?_, ?_, A, B, rfl, rfl, ⟨n1, n2, fun p hp => n3 p hp hp⟩, a1, b1⟩
      · dsimp only
        rw [B_X6_noteGreys_L2_s, S1.1, if_pos (nI_le (Nat.le_refl _) (by omega))]
      · dsimp only
        rw [B_X7_tick_L112_s, S1.2.2, S1.1, if_pos (nI_le (Nat.le_refl _) (by omega))]
  obtain ⟨r, q, e1, e2, A, B, rfl, rfl, z⟩ := this
  refine ⟨A, B, ?_, e2, z⟩
  unfold B_X6_noteGreys
  rw [e1, bind_some']
end
end TICK

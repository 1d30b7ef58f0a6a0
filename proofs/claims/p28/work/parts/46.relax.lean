section RELAX
section
variable {w h np nd t : Nat} {I : Nat → Int32} {A : Nat → Nat → Int32}
theorem up_add {a b : Nat} {u v : Int32} (hu : up a u) (hv : up b v) : up (a + b) (u + v) := by
  obtain ⟨x, hx, rfl⟩ := hu
  obtain ⟨y, hy, rfl⟩ := hv
  exact ⟨x + y, by omega, nI_add x y⟩
theorem up_mul {a b : Nat} {u v : Int32} (hu : up a u) (hv : up b v) : up (a * b) (u * v) := by
  obtain ⟨x, hx, rfl⟩ := hu
  obtain ⟨y, hy, rfl⟩ := hv
  exact ⟨x * y, Nat.mul_le_mul hx hy, nI_mul x y⟩
theorem up_if {c : Prop} [Decidable c] {a : Nat} {u : Int32} (hu : c → up a u) : up a (if c then u else 0) := by
  by_cases q : c
  · rw [if_pos q]
    exact hu q
  · rw [if_neg q]
    exact ⟨0, Nat.zero_le _, rfl⟩
theorem Co.hdUp (C : Co w h np I A) {c : Nat} (hc : c < 144) {d : Int32} (hd0 : up 14 d) : up 9800 (hd A c d) := by
  unfold hd
  refine up_add (a := 100 * 49) (b := 100 * 49) (up_if fun q => ?_) ?_
  · obtain ⟨k1, k2⟩ := C.kind c hc q
    exact up_mul k2 (sq_up k1 hd0)
  · have np8 := C.np8
    by_cases q : A 12 c = -1
    · rw [if_pos q]
      exact ⟨0, Nat.zero_le _, rfl⟩
    · rw [if_neg q]
      rcases C.pix c hc with z | ⟨p, hp, z⟩
      · exact absurd z q
      · obtain ⟨f1, f2⟩ := C.field p (by omega)
        rw [z, nI_clamp (by omega)]
        exact up_mul f2 (sq_up f1 hd0)
/-- the energy is not below 0, and small -/
theorem Co.enUp (C : Co w h np I A) : up 2000000 (en w h (I 7) (I 8) A) := by
  have w12 := C.w12
  have h12 := C.h12
  have k : up (h * (w * (9800 + 980 + 980))) (en w h (I 7) (I 8) A) := by
    refine sm_up fun y hy => sm_up fun x hx => ?_
    unfold ec
    refine up_add (up_add (C.hdUp (C.cell hx hy) (C.dup hx hy)) (up_if fun q => up_mul (a := 20) (b := 49) C.cost.1 (sq_up (C.dup hx hy) (C.dup q hy)))) (up_if fun q => up_mul (a := 20) (b := 49) C.cost.2 (sq_up (C.dup hx hy) (C.dup hx q)))
  refine up_mono k ?_
  exact Nat.le_trans (Nat.mul_le_mul h12 (Nat.mul_le_mul w12 (Nat.le_refl _))) (by decide)
theorem Co.ewUp (C : Co w h np I A) {x y : Nat} (hx : x < w) (hy : y < h) {d : Int32} (hd0 : up 14 d) : up 20000 (B_X1_energyWith I A (nI x) (nI y) d) := by
  rw [C.eW hx hy]
  unfold ew
  refine up_mono (a := 9800 + 980 + 980 + 980 + 980) ?_ (by decide)
  exact up_add (up_add (up_add (up_add (C.hdUp (C.cell hx hy) hd0) (up_if fun q => up_mul (a := 20) (b := 49) C.cost.1 (sq_up (C.dup (by omega) hy) hd0))) (up_if fun q => up_mul (a := 20) (b := 49) C.cost.1 (sq_up (C.dup q hy) hd0))) (up_if fun q => up_mul (a := 20) (b := 49) C.cost.2 (sq_up (C.dup hx (by omega)) hd0))) (up_if fun q => up_mul (a := 20) (b := 49) C.cost.2 (sq_up (C.dup hx q) hd0))
/-- a cell settles: the energy doesn't grow -/
theorem Co.settle (C : Co w h np I A) (E : I 9 = en w h (I 7) (I 8) A) {x y : Nat} (hx : x < w) (hy : y < h) :
    ∃ g b, up 14 b ∧ g.toInt ≤ 0 ∧ -20000 ≤ g.toInt ∧ B_X1_settle I A (nI x) (nI y) = some (va_up I 9 (I 9 + g), va_up A 8 (upd (A 8) (12 * y + x) b)) ∧ en w h (I 7) (I 8) (va_up A 8 (upd (A 8) (12 * y + x) b)) = en w h (I 7) (I 8) A + g := by
  have hc := C.cell hx hy
  obtain ⟨d, hd0, ed⟩ := C.dup hx hy
  -- the energy of the grid with another direction here
  have key : ∀ b, up 14 b → en w h (I 7) (I 8) (va_up A 8 (upd (A 8) (12 * y + x) b)) = en w h (I 7) (I 8) A + (B_X1_energyWith I A (nI x) (nI y) b - B_X1_energyWith I A (nI x) (nI y) (dd A x y)) := by
    intro b hb
    have C' : Co w h np I (va_up A 8 (upd (A 8) (12 * y + x) b)) := ⟨C.geo, C.cost, dir_upd C.dir _ hb, C.kind, C.pix, C.field, C.np8⟩
    have w12 := C.w12
    have k := en_local C C' hx hy (fun j hj => if_neg hj) (fun j d hj => rfl)
    have e0 : B_X1_energyAt I A (nI x) (nI y) = B_X1_energyWith I A (nI x) (nI y) (dd A x y) := by
      unfold B_X1_energyAt
      rw [C.dirAt hx hy]
    have e1 : B_X1_energyAt I (va_up A 8 (upd (A 8) (12 * y + x) b)) (nI x) (nI y) = B_X1_energyWith I A (nI x) (nI y) b := by
      have eb : dd (va_up A 8 (upd (A 8) (12 * y + x) b)) x y = b := if_pos rfl
      have eh : hh (va_up A 8 (upd (A 8) (12 * y + x) b)) x y = hd A (12 * y + x) b := by
        show hd A (12 * y + x) (dd (va_up A 8 (upd (A 8) (12 * y + x) b)) x y) = _
        rw [eb]
      have hD : ∀ a c, a < w → c < h → ¬ (a = x ∧ c = y) → dd (va_up A 8 (upd (A 8) (12 * y + x) b)) a c = dd A a c := fun a c ha hc hne => if_neg (by omega)
      rw [C'.eAt hx hy, C.eW hx hy, ew_congr hx hy hD, eb, eh]
    rw [k, e0, e1]
  obtain ⟨⟨u1, u2⟩, u3, u4⟩ := ahead_up_n d (by omega)
  have ua : up 14 (if nI d = 0 then 14 else nI d - 1) := ⟨_, u1, (Int32.ofNat_toNatClampNeg _ u2).symm⟩
  have ub : up 14 (if nI d = 14 then 0 else nI d + 1) := ⟨_, u3, (Int32.ofNat_toNatClampNeg _ u4).symm⟩
  generalize ea : (if nI d = 0 then (14 : Int32) else nI d - 1) = a at ua
  generalize eb : (if nI d = 14 then (0 : Int32) else nI d + 1) = b at ub
  have cls : B_X1_settle I A (nI x) (nI y) = B_X1_settle_J34 I A (nI x) (nI y) (nI d) a b := by
    unfold B_X1_settle B_X1_settle_J19
    rw [C.dirAt hx hy, ed]
    by_cases q1 : nI d = 0
    · rw [if_pos q1] at ea ⊢
      rw [← ea]
      by_cases q2 : nI d = 14
      · rw [if_pos q2] at eb ⊢
        rw [← eb]
      · rw [if_neg q2] at eb ⊢
        rw [← eb]
    · rw [if_neg q1] at ea ⊢
      rw [← ea]
      by_cases q2 : nI d = 14
      · rw [if_pos q2] at eb ⊢
        rw [← eb]
      · rw [if_neg q2] at eb ⊢
        rw [← eb]
  have j87 : ∀ L T, B_X1_settle_J87 I A (nI x) (nI y) b (B_X1_energyWith I A (nI x) (nI y) (nI d)) (B_X1_energyWith I A (nI x) (nI y) b) T L = (if L ≤ B_X1_energyWith I A (nI x) (nI y) b then some (va_up I 9 (I 9 + (L - B_X1_energyWith I A (nI x) (nI y) (nI d))), va_up A 8 (upd (A 8) (12 * y + x) T)) else some (va_up I 9 (I 9 + (B_X1_energyWith I A (nI x) (nI y) b - B_X1_energyWith I A (nI x) (nI y) (nI d))), va_up A 8 (upd (A 8) (12 * y + x) b))) := by
    intro L T
    unfold B_X1_settle_J87 B_X1_settle_J102
    rw [nn_num, rPut_nI hc (by decide), rPut_nI hc (by decide)]
    rfl
  obtain ⟨ed1, hed, eed⟩ := C.ewUp hx hy (up_nI hd0)
  obtain ⟨ea1, hea, eea⟩ := C.ewUp hx hy ua
  obtain ⟨eb1, heb, eeb⟩ := C.ewUp hx hy ub
  have dif : ∀ u v : Nat, u ≤ 20000 → v ≤ 20000 → u ≤ v → (nI u - nI v).toInt ≤ 0 ∧ -20000 ≤ (nI u - nI v).toInt := by
    intro u v hu hv huv
    have : (nI u - nI v).toInt = (u : Int) - v := by
      rw [Int32.toInt_sub, nI_toInt (by omega), nI_toInt (by omega), Int.bmod_eq_of_le (by omega) (by omega)]
    omega
  have kd := key (nI d) (up_nI hd0)
  have ka := key a ua
  have kb := key b ub
  rw [ed] at kd ka kb
  rw [cls]
  unfold B_X1_settle_J34
  rw [j87, j87, eed, eea, eeb] at *
  by_cases q1 : nI ed1 ≤ nI ea1
  · rw [if_pos q1]
    by_cases q2 : nI ed1 ≤ nI eb1
    · rw [if_pos q2]
      exact ⟨_, nI d, up_nI hd0, (dif ed1 ed1 hed hed (Nat.le_refl _)).1, (dif ed1 ed1 hed hed (Nat.le_refl _)).2, rfl, kd⟩
    · rw [if_neg q2]
      rw [nI_leI (by omega) (by omega)] at q2
      exact ⟨_, b, ub, (dif eb1 ed1 heb hed (by omega)).1, (dif eb1 ed1 heb hed (by omega)).2, rfl, kb⟩
  · rw [if_neg q1]
    rw [nI_leI (by omega) (by omega)] at q1
    by_cases q2 : nI ea1 ≤ nI eb1
    · rw [if_pos q2]
      exact ⟨_, a, ua, (dif ea1 ed1 hea hed (by omega)).1, (dif ea1 ed1 hea hed (by omega)).2, rfl, ka⟩
    · rw [if_neg q2]
      rw [nI_leI (by omega) (by omega)] at q2
      exact ⟨_, b, ub, (dif eb1 ed1 heb hed (by omega)).1, (dif eb1 ed1 heb hed (by omega)).2, rfl, kb⟩
/-- in the midst of relaxing: the energy has not grown -/
def InR (w h np : Nat) (I0 : Nat → Int32) (A0 : Nat → Nat → Int32) (I : Nat → Int32) (A : Nat → Nat → Int32) : Prop :=
  Co w h np I A ∧ I 9 = en w h (I 7) (I 8) A ∧ (I 9).toInt ≤ (I0 9).toInt ∧ Eqx 9 I I0 ∧ (∀ i, i ≠ 8 → A i = A0 i)
theorem relaxRow {I0 : Nat → Int32} {A0 : Nat → Nat → Int32} {y : Nat} (hy : y < h) (z1 : Int32) (P : InR w h np I0 A0 I A) :
    ∃ I' A', B_X1_relax_L17 z1 (nI y) FU 0 I A = some (I', A') ∧ InR w h np I0 A0 I' A' := by
  have w12 := P.1.w12
  have : ∃ r, B_X1_relax_L17 z1 (nI y) FU 0 I A = some r ∧ ∃ I' A', r = (I', A') ∧ InR w h np I0 A0 I' A' := by
    refine ng_lp0 (F := fun n (s : Int32 × (Nat → Int32) × (Nat → Nat → Int32)) => B_X1_relax_L17 z1 (nI y) n s.1 s.2.1 s.2.2) (s := (0, I, A))
      (fun k s => ∃ I' A', s = (nI k, I', A') ∧ InR w h np I0 A0 I' A') w _ (by omega) ⟨I, A, rfl, P⟩ ?_ ?_
    · rintro k n s hk ⟨I, A, rfl, c1, c2, c3, c4, c5⟩
      have hc := c1.cell hk hy
      dsimp only
      rw [B_X1_relax_L17_s, c1.W, if_neg (nI_ge hk (by omega)), c1.kindOf hk hy, nI_1]
      by_cases q : A 9 (12 * y + k) = 1
      · rw [if_pos q]
        exact ⟨(nI (k + 1), I, A), rfl, I, A, rfl, c1, c2, c3, c4, c5⟩
      · obtain ⟨g, b, hb, g1, g2, e1, e3⟩ := c1.settle c2 hk hy
        rw [if_neg q, e1, bind_some']
        refine ⟨(nI (k + 1), va_up I 9 (I 9 + g), va_up A 8 (upd (A 8) (12 * y + k) b)), rfl, _, _, rfl, ⟨c1.geo, c1.cost, dir_upd c1.dir _ hb, c1.kind, c1.pix, c1.field, c1.np8⟩, ?_, ?_, c4.up _, ?_⟩
        · show I 9 + g = en w h (I 7) (I 8) _
          rw [e3, c2]
        · show (I 9 + g).toInt ≤ (I0 9).toInt
          obtain ⟨v, hv, ev⟩ := c1.enUp
          rw [← c2] at ev
          rw [ev, nI_toInt (by omega)] at c3
          rw [ev, Int32.toInt_add, nI_toInt (by omega), Int.bmod_eq_of_le (by omega) (by omega)]
          omega
        · intro i hi
          rw [ng_va, if_neg hi]
          exact c5 i hi
    · rintro n s ⟨I, A, rfl, c⟩
      refine ⟨_, ?_, I, A, rfl, c⟩
      dsimp only
      rw [B_X1_relax_L17_s, c.1.W, if_pos (nI_le (Nat.le_refl _) (by omega))]
  obtain ⟨r, e1, I', A', rfl, c⟩ := this
  exact ⟨I', A', e1, c⟩
theorem relaxAll {I0 : Nat → Int32} {A0 : Nat → Nat → Int32} (C : Co w h np I0 A0) (E : I0 9 = en w h (I0 7) (I0 8) A0) :
    ∃ I' A', B_X1_relax I0 A0 = some (I0 9 - I' 9, I', A') ∧ InR w h np I0 A0 I' A' := by
  have h12 := C.h12
  have : ∃ r, B_X1_relax_L7 (I0 9) FU 0 I0 A0 = some r ∧ ∃ I' A', r = (I', A') ∧ InR w h np I0 A0 I' A' := by
    refine ng_lp0 (F := fun n (s : Int32 × (Nat → Int32) × (Nat → Nat → Int32)) => B_X1_relax_L7 (I0 9) n s.1 s.2.1 s.2.2) (s := (0, I0, A0))
      (fun k s => ∃ I' A', s = (nI k, I', A') ∧ InR w h np I0 A0 I' A') h _ (by omega) ⟨I0, A0, rfl, C, E, Int.le_refl _, fun _ _ => rfl, fun _ _ => rfl⟩ ?_ ?_
    · rintro k n s hk ⟨I, A, rfl, c⟩
      obtain ⟨I', A', e1, c'⟩ := relaxRow hk (I0 9) c
      refine ⟨(nI (k + 1), I', A'), ?_, I', A', rfl, c'⟩
      dsimp only
      rw [B_X1_relax_L7_s, c.1.H, if_neg (nI_ge hk (by omega)), e1, bind_some', nI_1]
    · rintro n s ⟨I, A, rfl, c⟩
      refine ⟨_, ?_, I, A, rfl, c⟩
      dsimp only
      rw [B_X1_relax_L7_s, c.1.H, if_pos (nI_le (Nat.le_refl _) (by omega))]
  obtain ⟨r, e1, I', A', rfl, c⟩ := this
  refine ⟨I', A', ?_, c⟩
  unfold B_X1_relax
  rw [e1, bind_some']
theorem mod8 {c : Nat} (hc : c < 2 ^ 31) : nI c - nI c / 8 * 8 = nI (c % 8) := by
  rw [show (8 : Int32) = nI 8 from rfl, nI_div hc (by decide), nI_mul, nI_sub (Nat.div_mul_le_self c 8), mod_sub]
/-- the greys of a tick are noted -/
theorem notes {A0 : Nat → Nat → Int32} (C : Co w h np I A0) (S1 : CntP np 8 (I 4)) (S5 : up 14 (I 0)) (S6 : RectP w h np (A0 0) (A0 1) (A0 2) (A0 3) (A0 12)) (S7 : NoteP np t (A0 6) (A0 7)) (ht : t ≤ 2000) :
    ∃ A, B_X6_noteGreys I A0 = some (I, A) ∧ NoteP np (t + 1) (A 6) (A 7) ∧ (∀ i, i ≠ 6 → i ≠ 7 → A i = A0 i) := by
  have np8 := C.np8
  have : ∃ r, B_X6_noteGreys_L2 FU 0 I A0 = some r ∧ ∃ A, r = (I, A) ∧ NoteP np (t + 1) (A 6) (A 7) ∧ (∀ i, i ≠ 6 → i ≠ 7 → A i = A0 i) := by
    refine ng_lp0 (F := fun n (s : Int32 × (Nat → Int32) × (Nat → Nat → Int32)) => B_X6_noteGreys_L2 n s.1 s.2.1 s.2.2) (s := (0, I, A0))
      (fun k s => ∃ A, s = (nI k, I, A) ∧ ((∀ j, j < 64 → up 99 (A 7 j)) ∧ (∀ p, p < np → p < k → up (t + 1) (A 6 p)) ∧ (∀ p, p < np → k ≤ p → up t (A 6 p))) ∧ (∀ i, i ≠ 6 → i ≠ 7 → A i = A0 i)) np _ (by omega) ⟨A0, rfl, ⟨S7.1, fun p _ hp => absurd hp (Nat.not_lt_zero _), fun p hp _ => S7.2 p hp⟩, fun _ _ _ => rfl⟩ ?_ ?_
    · rintro k n s hk ⟨A, rfl, ⟨n1, n3, n4⟩, a1⟩
      have hk8 : k < 8 := by omega
      have C' : Co w h np I A := by
        refine ⟨C.geo, C.cost, ?_, ?_, ?_, ?_, C.np8⟩
        · rw [a1 8 (by decide) (by decide)]; exact C.dir
        · rw [a1 9 (by decide) (by decide), a1 10 (by decide) (by decide), a1 11 (by decide) (by decide)]; exact C.kind
        · rw [a1 12 (by decide) (by decide)]; exact C.pix
        · rw [a1 4 (by decide) (by decide), a1 5 (by decide) (by decide)]; exact C.field
      have S6' : RectP w h np (A 0) (A 1) (A 2) (A 3) (A 12) := by
        rw [a1 0 (by decide) (by decide), a1 1 (by decide) (by decide), a1 2 (by decide) (by decide), a1 3 (by decide) (by decide), a1 12 (by decide) (by decide)]; exact S6
      obtain ⟨a, b, u, v, r0, r1, r2, r3, r4, r5, r6, r7, r8⟩ := S6' k hk
      obtain ⟨c, hc, ec⟩ := n4 k hk (Nat.le_refl _)
      have hgp := C'.gpUp r4 r5 r6 r7 S5
      have hcm : c % 8 < 8 := Nat.mod_lt _ (by decide)
      dsimp only
      rw [B_X6_noteGreys_L2_s, S1.1, if_neg (nI_ge hk (by omega)), C'.greyC hk8 r0 r1 r2 r3 r4 r5 r6 r7, bind_some']
      unfold B_X3_note
      rw [rAt_nI hk8 (by decide), ec, mod8 (by omega), show (8 : Int32) = nI 8 from rfl, nI_mul, nI_add, rPut_nI (show k * 8 + c % 8 < 64 by omega) (by decide), bind_some', rPut_nI hk8 (by decide), nI_1, nI_1]
      refine ⟨(nI (k + 1), I, va_up (va_up A 7 (upd (A 7) (k * 8 + c % 8) (gpS A (I 0) a b u v))) 6 (upd (A 6) k (nI (c + 1)))), rfl, _, rfl, ⟨?_, ?_, ?_⟩, ?_⟩
      · intro j hj
        show up 99 (upd (A 7) (k * 8 + c % 8) (gpS A (I 0) a b u v) j)
        rw [upd_at]
        by_cases e : j = k * 8 + c % 8
        · rw [if_pos e]
          exact hgp
        · rw [if_neg e]
          exact n1 j hj
      · intro p hp hpk
        show up (t + 1) (upd (A 6) k (nI (c + 1)) p)
        rw [upd_at]
        by_cases e : p = k
        · rw [if_pos e]
          exact up_nI (by omega)
        · rw [if_neg e]
          exact n3 p hp (by omega)
      · intro p hp hpk
        show up t (upd (A 6) k (nI (c + 1)) p)
        rw [upd_at, if_neg (by omega)]
        exact n4 p hp (by omega)
      · intro i h1 h2
        rw [ng_va, if_neg h1, ng_va, if_neg h2]
        exact a1 i h1 h2
    · rintro n s ⟨A, rfl, ⟨n1, n3, n4⟩, a1⟩
      refine ⟨_, ?_, A, rfl, ⟨n1, fun p hp => n3 p hp hp⟩, a1⟩
      dsimp only
      rw [B_X6_noteGreys_L2_s, S1.1, if_pos (nI_le (Nat.le_refl _) (by omega))]
  obtain ⟨r, e1, A, rfl, z⟩ := this
  refine ⟨A, ?_, z⟩
  unfold B_X6_noteGreys
  rw [e1, bind_some']
end
end RELAX

section WRAP
theorem D_mono {A B : Nat → Prop} {ws : va_W} (h : va_D A ws) (hAB : ∀ q, A q → B q) : va_D B ws := ⟨h.1, fun k q hq => hAB _ (h.2 k q hq)⟩
theorem D_app {A : Nat → Prop} {w1 w2 : va_W} (h1 : va_D A w1) (h2 : va_D A w2) (hd : ∀ (i j : Nat) (p q : Nat × va_E), w1[i]? = some p → w2[j]? = some q → p.1 ≠ q.1) : va_D A (w1 ++ w2) := by
  have key : ∀ (k : Nat) (q : Nat × va_E), (w1 ++ w2)[k]? = some q → (w1[k]? = some q ∧ k < w1.length) ∨ (w2[k - w1.length]? = some q ∧ w1.length ≤ k) := by
    intro k q hq
    by_cases hk : k < w1.length
    · rw [List.getElem?_append_left hk] at hq
      exact Or.inl ⟨hq, hk⟩
    · rw [List.getElem?_append_right (by omega)] at hq
      exact Or.inr ⟨hq, by omega⟩
  refine ⟨fun i j p q hi hj e => ?_, fun k q hq => ?_⟩
  · rcases key i p hi with ⟨a, a'⟩ | ⟨a, a'⟩
    · rcases key j q hj with ⟨b, b'⟩ | ⟨b, b'⟩
      · exact h1.1 i j p q a b e
      · exact absurd e (hd _ _ p q a b)
    · rcases key j q hj with ⟨b, b'⟩ | ⟨b, b'⟩
      · exact absurd e.symm (hd _ _ q p b a)
      · have := h2.1 _ _ p q a b e
        omega
  · rcases key k q hq with ⟨a, -⟩ | ⟨a, -⟩
    · exact h1.2 k q a
    · exact h2.2 _ q a
theorem P_left {D : va_G} {cl : List vw_C} {w1 w2 : va_W} {H : Heap} (h : va_P D cl (w1 ++ w2) H) : va_P D cl w1 H := fun k q hq => h k q (by rw [List.getElem?_append_left (List.getElem?_eq_some_iff.mp hq).1]; exact hq)
theorem P_right {D : va_G} {cl : List vw_C} {w1 w2 : va_W} {H : Heap} (h : va_P D cl (w1 ++ w2) H) : va_P D cl w2 H := fun k q hq => h (w1.length + k) q (by rw [List.getElem?_append_right (by omega), Nat.add_sub_cancel_left]; exact hq)
theorem cwo_D {cyI : ClassId} {ad : Nat → Nat} {I : Nat → Int32} {A : Nat → Nat → Int32} {o : Nat} {x : va_E} (N : AdN 44 ad) (ho : ¬ InN 44 ad o) : va_D (InL ad o) (cw cyI ad I A ++ [(o, x)]) :=
  D_app (D_mono (cw_D N I A) (fun q h => Or.inl h)) (one_D (Or.inr rfl)) (fun i j p q hi hj e => ho (by rw [← one_in hj, ← e]; exact cw_in hi))
theorem updL0 (f : Nat → Int64) (x : Int64) : vp_updL f (0 : Int32).toNatClampNeg x 0 = x := if_pos (show (0 : Nat) = (0 : Int32).toNatClampNeg by decide)
theorem good_hx {L : List (Nat × Nat)} {out : OutT} {q : Option (Int32 × (Nat → Int32) × (Nat → Nat → Int32))} (G : Good L (some out) q) : ∀ k I1 A1, out = .inr (k, I1, A1) → ∃ c, (k, c) ∈ L := by
  intro k I1 A1 e
  rcases G with ⟨v, I, A, J, B, e1, -⟩ | ⟨k2, c, r, I, A, J, B, e1, -, e3, -⟩
  · cases e1; cases e
  · cases e1; cases e; exact ⟨c, e3⟩
theorem goodG_hx {out : OutT} {q : Option ((Nat → Int32) × (Nat → Nat → Int32))} (G : GoodG (some out) q) : ∀ k I1 A1, out = .inr (k, I1, A1) → ∃ c, (k, c) ∈ [((0 : Nat), (1 : Nat))] := by
  intro k I1 A1 e
  rcases G with ⟨v, I, A, J, B, e1, -⟩ | ⟨k2, c, I, A, J, B, e1, -, e3, -⟩
  · cases e1; cases e
  · cases e1; cases e; exact ⟨c, e3⟩
set_option maxHeartbeats 4000000 in
set_option maxRecDepth 100000 in
theorem c_L_grid (l : Launch) (hfl : l.stackTraces = false) {H : Heap} {D : va_G} {cyI cyL : ClassId} {ad : Nat → Nat} {I : Nat → Int32} {A : Nat → Nat → Int32} (N : AdN 44 ad) (P : va_P D classes (cw cyI ad I A) H) {o : Nat} {f : Nat → Int64} (Po : va_P D classes [(o, .inl (cyL, 1, .inr (.inl f)))] H) (ho : ¬ InN 44 ad o) {x1 x2 : Int32} {out : OutT} (h : B_X6_grid I A x1 x2 = some out) (hx : ∀ k I1 A1, out = .inr (k, I1, A1) → ∃ c, (k, c) ∈ ([(0, 1)] : List (Nat × Nat))) : Met l yL_grid (.codeWith yL_grid cL_grid 4 (some .int) [(0, 6, 9, 13)] :: TA) (rmX 8) (PX [.ref (ad 0), .int x1, .int x2] H (KL D cyI cyL ad)) (QL D cyI cyL ad o true [(0, 1)] out) 1 6 (InL ad o) := by
  refine va_MetW (cc := cL_grid) (maxL := 4) (ret := some .int) (hh := [(0, 6, 9, 13)]) (by decide +kernel) rfl ?_
  intro p e s m args below meth c s₁ BB hml hv
  obtain ⟨rfl, hH, K0, KA⟩ := hv
  subst hH
  have hts := atoms_spec (ws := (.codeWith yL_grid cL_grid 4 (some .int) [(0, 6, 9, 13)] :: TA)) BB.pre
  have tab := vx_table (x := yL_grid) BB (hts _ List.mem_cons_self)
  have E : EX p s m (List.toArray [.ref (ad 0), .int x1, .int x2]) meth c cL_grid 4 RL (some .int) := ⟨BB.exec, BB.bytes, hml, findClass_of_methodNamed BB.named, fun w hw => hts w (List.mem_cons_of_mem _ hw), BB.returns, BB.notSynchronized⟩
  have S : va_S (InL ad o) s.heap s.heap [] := va_S.rf
  have hl := lv_entry [.ref (ad 0), .int x1, .int x2] (n := 4) (Nat.le_of_ble_eq_true rfl)
  rw [lg_entry_eq]
  generalize (lg_sl [.ref (ad 0), .int x1, .int x2] ++ List.replicate (4 - (lg_sl [.ref (ad 0), .int x1, .int x2]).length) Slot.unset).toArray = ls at hl ⊢
  have hl : lv_has ls 4 [(0, .ref (ad 0)), (1, .int x1), (2, .int x2)] := hl
  refine lv_aload_n E.hx E.hb dL_grid_0 rfl (lv_at hl 0 rfl) ?_
  refine lv_iload_n E.hx E.hb dL_grid_1 rfl (lv_at hl 1 rfl) ?_
  refine lv_iload_n E.hx E.hb dL_grid_2 rfl (lv_at hl 2 rfl) ?_
  refine vt_call (vx_runV (As := [.int x1, .int x2]) (rest := []) E.fix (c_X6_grid l hfl N P x1 x2 h) (cwV 2 E.ht (gV kML_L_7 kIM_X6_grid kSE_X6_grid kIN_X6 kCO_X6_grid) rfl rfl rfl ⟨rfl, ds_X6_grid⟩ ⟨Nat.le_of_ble_eq_true rfl, Nat.le_of_ble_eq_true rfl⟩) ⟨PX_blind KC_blind, va_recv K0.k P (show classes[6]? = some (RX6, TX6, 9) from rfl) cw_g0, fun U hU hW9 => ⟨rfl, hU, K0.warm hW9⟩⟩ rfl rfl hl.1 rfl (lv_room (Nat.le_of_ble_eq_true rfl)) dL_grid_3 ⟨Nat.le_refl 1, Nat.le_refl 6⟩) S (fun q h => Or.inl h) (fun k I1 A1 ce q9 H1 locs1 ho1 P1 hk1 S1 hce hcv hcl => ?_) (fun r I1 A1 H1 locs1 ho1 P1 hk1 S1 => ?_)
  · have Po1 := P_keep Po hk1 (fun k q hq => by rw [one_in hq]; exact ho)
    obtain ⟨cc, hm⟩ := hx k I1 A1 ho1
    simp only [List.mem_cons, Prod.mk.injEq, List.not_mem_nil, or_false] at hm
    rcases hm with ⟨rfl, rfl⟩
    refine vx_catch (own := RL) (name := "java/lang/IllegalArgumentException") E.ho [] ⟨0, 6, 9, 13⟩ [] tab (fun z hz => nomatch hz) (by decide) (by decide) (E.ht _ kCL_L_13) (va_Nw.use rfl (K0.ca "java/lang/IllegalArgumentException" (List.mem_of_getElem? (i := 0) rfl))) hce hcv hcl ?_
    refine lv_astore_n (lv' := [(3, .ref q9), (0, .ref (ad 0)), (1, .int x1), (2, .int x2)]) E.hx E.hb dL_grid_9 rfl hl (by decide) rfl (fun ls hl => ?_)
    refine lv_iconst (v := 1) E.hx E.hb dL_grid_10 (by decide) ?_
    exact W.iret E.hx E.hb E.hr (fun t ht _ => ⟨_, I1, A1, f, rfl, by rw [ht]; exact P1, by rw [ht]; exact Po1, Or.inr ⟨0, 1, ho1, by decide, rfl⟩, S1.F ht⟩) S1.2.2 dL_grid_11 E.hk
  · have Po1 := P_keep Po hk1 (fun k q hq => by rw [one_in hq]; exact ho)
    refine lv_goto (tgt := 12) E.hx E.hb dL_grid_6 (by decide) ?_
    refine lv_iconst (v := 0) E.hx E.hb dL_grid_12 (by decide) ?_
    exact W.iret E.hx E.hb E.hr (fun t ht _ => ⟨0, I1, A1, f, rfl, by rw [ht]; exact P1, by rw [ht]; exact Po1, Or.inl ⟨r, ho1, rfl, fun z => nomatch z⟩, S1.F ht⟩) S1.2.2 dL_grid_13 E.hk
set_option maxHeartbeats 4000000 in
set_option maxRecDepth 100000 in
theorem c_L_costs (l : Launch) (hfl : l.stackTraces = false) {H : Heap} {D : va_G} {cyI cyL : ClassId} {ad : Nat → Nat} {I : Nat → Int32} {A : Nat → Nat → Int32} (N : AdN 44 ad) (P : va_P D classes (cw cyI ad I A) H) {o : Nat} {f : Nat → Int64} (Po : va_P D classes [(o, .inl (cyL, 1, .inr (.inl f)))] H) (ho : ¬ InN 44 ad o) {x1 x2 : Int32} {out : OutT} (h : B_X6_costs I A x1 x2 = some out) (hx : ∀ k I1 A1, out = .inr (k, I1, A1) → ∃ c, (k, c) ∈ ([(0, 1)] : List (Nat × Nat))) : Met l yL_costs (.codeWith yL_costs cL_costs 5 (some .int) [(0, 10, 13, 13)] :: TA) (rmX 8) (PX [.ref (ad 0), .int x1, .int x2, .ref o] H (KL D cyI cyL ad)) (QL D cyI cyL ad o false [(0, 1)] out) 1 6 (InL ad o) := by
  refine va_MetW (cc := cL_costs) (maxL := 5) (ret := some .int) (hh := [(0, 10, 13, 13)]) (by decide +kernel) rfl ?_
  intro p e s m args below meth c s₁ BB hml hv
  obtain ⟨rfl, hH, K0, KA⟩ := hv
  subst hH
  have hts := atoms_spec (ws := (.codeWith yL_costs cL_costs 5 (some .int) [(0, 10, 13, 13)] :: TA)) BB.pre
  have tab := vx_table (x := yL_costs) BB (hts _ List.mem_cons_self)
  have E : EX p s m (List.toArray [.ref (ad 0), .int x1, .int x2, .ref o]) meth c cL_costs 5 RL (some .int) := ⟨BB.exec, BB.bytes, hml, findClass_of_methodNamed BB.named, fun w hw => hts w (List.mem_cons_of_mem _ hw), BB.returns, BB.notSynchronized⟩
  have S : va_S (InL ad o) s.heap s.heap [] := va_S.rf
  have hl := lv_entry [.ref (ad 0), .int x1, .int x2, .ref o] (n := 5) (Nat.le_of_ble_eq_true rfl)
  rw [lg_entry_eq]
  generalize (lg_sl [.ref (ad 0), .int x1, .int x2, .ref o] ++ List.replicate (5 - (lg_sl [.ref (ad 0), .int x1, .int x2, .ref o]).length) Slot.unset).toArray = ls at hl ⊢
  have hl : lv_has ls 5 [(0, .ref (ad 0)), (1, .int x1), (2, .int x2), (3, .ref o)] := hl
  refine lv_aload_n E.hx E.hb dL_costs_0 rfl (lv_at hl 3 rfl) ?_
  refine lv_iconst (v := 0) E.hx E.hb dL_costs_1 (by decide) ?_
  refine lv_aload_n E.hx E.hb dL_costs_2 rfl (lv_at hl 0 rfl) ?_
  refine lv_iload_n E.hx E.hb dL_costs_3 rfl (lv_at hl 1 rfl) ?_
  refine lv_iload_n E.hx E.hb dL_costs_4 rfl (lv_at hl 2 rfl) ?_
  refine vt_call (vx_runV (As := [.int x1, .int x2]) (rest := [.int 0, .ref o]) E.fix (c_X6_costs l hfl N P x1 x2 h) (cwV 2 E.ht (gV kML_L_15 kIM_X6_costs kSE_X6_costs kIN_X6 kCO_X6_costs) rfl rfl rfl ⟨rfl, ds_X6_costs⟩ ⟨Nat.le_of_ble_eq_true rfl, Nat.le_of_ble_eq_true rfl⟩) ⟨PX_blind KC_blind, va_recv K0.k P (show classes[6]? = some (RX6, TX6, 9) from rfl) cw_g0, fun U hU hW9 => ⟨rfl, hU, K0.warm hW9⟩⟩ rfl rfl hl.1 rfl (lv_room (Nat.le_of_ble_eq_true rfl)) dL_costs_5 ⟨Nat.le_refl 1, Nat.le_refl 6⟩) S (fun q h => Or.inl h) (fun k I1 A1 ce q9 H1 locs1 ho1 P1 hk1 S1 hce hcv hcl => ?_) (fun r I1 A1 H1 locs1 ho1 P1 hk1 S1 => ?_)
  · have Po1 := P_keep Po hk1 (fun k q hq => by rw [one_in hq]; exact ho)
    obtain ⟨cc, hm⟩ := hx k I1 A1 ho1
    simp only [List.mem_cons, Prod.mk.injEq, List.not_mem_nil, or_false] at hm
    rcases hm with ⟨rfl, rfl⟩
    refine vx_catch (own := RL) (name := "java/lang/IllegalArgumentException") E.ho [] ⟨0, 10, 13, 13⟩ [] tab (fun z hz => nomatch hz) (by decide) (by decide) (E.ht _ kCL_L_13) (va_Nw.use rfl (K0.ca "java/lang/IllegalArgumentException" (List.mem_of_getElem? (i := 0) rfl))) hce hcv hcl ?_
    refine lv_astore (lv' := [(4, .ref q9), (0, .ref (ad 0)), (1, .int x1), (2, .int x2), (3, .ref o)]) E.hx E.hb dL_costs_13 hl (by decide) rfl (fun ls hl => ?_)
    refine lv_iconst (v := 1) E.hx E.hb dL_costs_15 (by decide) ?_
    exact W.iret E.hx E.hb E.hr (fun t ht _ => ⟨_, I1, A1, f, rfl, by rw [ht]; exact P1, by rw [ht]; exact Po1, Or.inr ⟨0, 1, ho1, by decide, rfl⟩, S1.F ht⟩) S1.2.2 dL_costs_16 E.hk
  · have Po1 := P_keep Po hk1 (fun k q hq => by rw [one_in hq]; exact ho)
    refine lv_i2l (v := r.toInt64) E.hx E.hb dL_costs_8 rfl ?_
    refine va_last E.hx E.hb KA (P_app P1 Po1) (cwo_D N ho) S1 44 1 rfl rfl (vp_in_nI (n := 0) (N := 1) (by decide) (by decide)) dL_costs_9 (fun H2 locs2 P2 D2 S2 => ?_)
    have P2 : va_P D classes (cw cyI ad I1 A1 ++ [(o, .inl (cyL, 1, .inr (.inl (vp_updL f (0 : Int32).toNatClampNeg r.toInt64))))]) H2 := P2
    refine lv_goto (tgt := 17) E.hx E.hb dL_costs_10 (by decide) ?_
    refine lv_iconst (v := 0) E.hx E.hb dL_costs_17 (by decide) ?_
    exact W.iret E.hx E.hb E.hr (fun t ht _ => ⟨0, I1, A1, vp_updL f (0 : Int32).toNatClampNeg r.toInt64, rfl, by rw [ht]; exact P_left P2, by rw [ht]; exact P_right P2, Or.inl ⟨r, ho1, rfl, fun _ => updL0 f r.toInt64⟩, S2.F ht⟩) S2.2.2 dL_costs_18 E.hk
set_option maxHeartbeats 4000000 in
set_option maxRecDepth 100000 in
theorem c_L_turn (l : Launch) (hfl : l.stackTraces = false) {H : Heap} {D : va_G} {cyI cyL : ClassId} {ad : Nat → Nat} {I : Nat → Int32} {A : Nat → Nat → Int32} (N : AdN 44 ad) (P : va_P D classes (cw cyI ad I A) H) {o : Nat} {f : Nat → Int64} (Po : va_P D classes [(o, .inl (cyL, 1, .inr (.inl f)))] H) (ho : ¬ InN 44 ad o) {x1 x2 x3 : Int32} {out : OutT} (h : B_X6_turn I A x1 x2 x3 = some out) (hx : ∀ k I1 A1, out = .inr (k, I1, A1) → ∃ c, (k, c) ∈ ([(1, 1), (0, 2), (2, 3)] : List (Nat × Nat))) : Met l yL_turn (.codeWith yL_turn cL_turn 6 (some .int) [(0, 12, 15, 23), (0, 12, 19, 13), (0, 12, 23, 25)] :: TA) (rmX 8) (PX [.ref (ad 0), .int x1, .int x2, .int x3, .ref o] H (KL D cyI cyL ad)) (QL D cyI cyL ad o false [(1, 1), (0, 2), (2, 3)] out) 1 6 (InL ad o) := by
  refine va_MetW (cc := cL_turn) (maxL := 6) (ret := some .int) (hh := [(0, 12, 15, 23), (0, 12, 19, 13), (0, 12, 23, 25)]) (by decide +kernel) rfl ?_
  intro p e s m args below meth c s₁ BB hml hv
  obtain ⟨rfl, hH, K0, KA⟩ := hv
  subst hH
  have hts := atoms_spec (ws := (.codeWith yL_turn cL_turn 6 (some .int) [(0, 12, 15, 23), (0, 12, 19, 13), (0, 12, 23, 25)] :: TA)) BB.pre
  have tab := vx_table (x := yL_turn) BB (hts _ List.mem_cons_self)
  have E : EX p s m (List.toArray [.ref (ad 0), .int x1, .int x2, .int x3, .ref o]) meth c cL_turn 6 RL (some .int) := ⟨BB.exec, BB.bytes, hml, findClass_of_methodNamed BB.named, fun w hw => hts w (List.mem_cons_of_mem _ hw), BB.returns, BB.notSynchronized⟩
  have S : va_S (InL ad o) s.heap s.heap [] := va_S.rf
  have hl := lv_entry [.ref (ad 0), .int x1, .int x2, .int x3, .ref o] (n := 6) (Nat.le_of_ble_eq_true rfl)
  rw [lg_entry_eq]
  generalize (lg_sl [.ref (ad 0), .int x1, .int x2, .int x3, .ref o] ++ List.replicate (6 - (lg_sl [.ref (ad 0), .int x1, .int x2, .int x3, .ref o]).length) Slot.unset).toArray = ls at hl ⊢
  have hl : lv_has ls 6 [(0, .ref (ad 0)), (1, .int x1), (2, .int x2), (3, .int x3), (4, .ref o)] := hl
  refine lv_aload E.hx E.hb dL_turn_0 (lv_at hl 4 rfl) ?_
  refine lv_iconst (v := 0) E.hx E.hb dL_turn_2 (by decide) ?_
  refine lv_aload_n E.hx E.hb dL_turn_3 rfl (lv_at hl 0 rfl) ?_
  refine lv_iload_n E.hx E.hb dL_turn_4 rfl (lv_at hl 1 rfl) ?_
  refine lv_iload_n E.hx E.hb dL_turn_5 rfl (lv_at hl 2 rfl) ?_
  refine lv_iload_n E.hx E.hb dL_turn_6 rfl (lv_at hl 3 rfl) ?_
  refine vt_call (vx_runV (As := [.int x1, .int x2, .int x3]) (rest := [.int 0, .ref o]) E.fix (c_X6_turn l hfl N P x1 x2 x3 h) (cwV 3 E.ht (gV kML_L_19 kIM_X6_turn kSE_X6_turn kIN_X6 kCO_X6_turn) rfl rfl rfl ⟨rfl, ds_X6_turn⟩ ⟨Nat.le_of_ble_eq_true rfl, Nat.le_of_ble_eq_true rfl⟩) ⟨PX_blind KC_blind, va_recv K0.k P (show classes[6]? = some (RX6, TX6, 9) from rfl) cw_g0, fun U hU hW9 => ⟨rfl, hU, K0.warm hW9⟩⟩ rfl rfl hl.1 rfl (lv_room (Nat.le_of_ble_eq_true rfl)) dL_turn_7 ⟨Nat.le_refl 1, Nat.le_refl 6⟩) S (fun q h => Or.inl h) (fun k I1 A1 ce q9 H1 locs1 ho1 P1 hk1 S1 hce hcv hcl => ?_) (fun r I1 A1 H1 locs1 ho1 P1 hk1 S1 => ?_)
  · have Po1 := P_keep Po hk1 (fun k q hq => by rw [one_in hq]; exact ho)
    obtain ⟨cc, hm⟩ := hx k I1 A1 ho1
    simp only [List.mem_cons, Prod.mk.injEq, List.not_mem_nil, or_false] at hm
    rcases hm with ⟨rfl, rfl⟩ | ⟨rfl, rfl⟩ | ⟨rfl, rfl⟩
    · refine vx_catch (own := RL) (name := "java/lang/IndexOutOfBoundsException") E.ho [] ⟨0, 12, 15, 23⟩ [⟨0, 12, 19, 13⟩, ⟨0, 12, 23, 25⟩] tab (fun z hz => nomatch hz) (by decide) (by decide) (E.ht _ kCL_L_23) (va_Nw.use rfl (K0.ca "java/lang/IndexOutOfBoundsException" (List.mem_of_getElem? (i := 1) rfl))) hce hcv hcl ?_
      refine lv_astore (lv' := [(5, .ref q9), (0, .ref (ad 0)), (1, .int x1), (2, .int x2), (3, .int x3), (4, .ref o)]) E.hx E.hb dL_turn_15 hl (by decide) rfl (fun ls hl => ?_)
      refine lv_iconst (v := 1) E.hx E.hb dL_turn_17 (by decide) ?_
      exact W.iret E.hx E.hb E.hr (fun t ht _ => ⟨_, I1, A1, f, rfl, by rw [ht]; exact P1, by rw [ht]; exact Po1, Or.inr ⟨1, 1, ho1, by decide, rfl⟩, S1.F ht⟩) S1.2.2 dL_turn_18 E.hk
    · refine vx_catch (own := RL) (name := "java/lang/IllegalArgumentException") E.ho [⟨0, 12, 15, 23⟩] ⟨0, 12, 19, 13⟩ [⟨0, 12, 23, 25⟩] tab (fun z hz => by rw [List.mem_singleton.mp hz]; exact Or.inr ⟨by decide, _, E.ht _ kCL_L_23, K0.nc _ (List.mem_of_getElem? (i := 0) rfl)⟩) (by decide) (by decide) (E.ht _ kCL_L_13) (va_Nw.use rfl (K0.ca "java/lang/IllegalArgumentException" (List.mem_of_getElem? (i := 0) rfl))) hce hcv hcl ?_
      refine lv_astore (lv' := [(5, .ref q9), (0, .ref (ad 0)), (1, .int x1), (2, .int x2), (3, .int x3), (4, .ref o)]) E.hx E.hb dL_turn_19 hl (by decide) rfl (fun ls hl => ?_)
      refine lv_iconst (v := 2) E.hx E.hb dL_turn_21 (by decide) ?_
      exact W.iret E.hx E.hb E.hr (fun t ht _ => ⟨_, I1, A1, f, rfl, by rw [ht]; exact P1, by rw [ht]; exact Po1, Or.inr ⟨0, 2, ho1, by decide, rfl⟩, S1.F ht⟩) S1.2.2 dL_turn_22 E.hk
    · refine vx_catch (own := RL) (name := "java/lang/IllegalStateException") E.ho [⟨0, 12, 15, 23⟩, ⟨0, 12, 19, 13⟩] ⟨0, 12, 23, 25⟩ [] tab (fun z hz => (List.mem_cons.mp hz).elim (fun hz => by rw [hz]; exact Or.inr ⟨by decide, _, E.ht _ kCL_L_23, K0.nc _ (List.mem_of_getElem? (i := 1) rfl)⟩) (fun hz => by rw [List.mem_singleton.mp hz]; exact Or.inr ⟨by decide, _, E.ht _ kCL_L_13, K0.nc _ (List.mem_of_getElem? (i := 2) rfl)⟩)) (by decide) (by decide) (E.ht _ kCL_L_25) (va_Nw.use rfl (K0.ca "java/lang/IllegalStateException" (List.mem_of_getElem? (i := 2) rfl))) hce hcv hcl ?_
      refine lv_astore (lv' := [(5, .ref q9), (0, .ref (ad 0)), (1, .int x1), (2, .int x2), (3, .int x3), (4, .ref o)]) E.hx E.hb dL_turn_23 hl (by decide) rfl (fun ls hl => ?_)
      refine lv_iconst (v := 3) E.hx E.hb dL_turn_25 (by decide) ?_
      exact W.iret E.hx E.hb E.hr (fun t ht _ => ⟨_, I1, A1, f, rfl, by rw [ht]; exact P1, by rw [ht]; exact Po1, Or.inr ⟨2, 3, ho1, by decide, rfl⟩, S1.F ht⟩) S1.2.2 dL_turn_26 E.hk
  · have Po1 := P_keep Po hk1 (fun k q hq => by rw [one_in hq]; exact ho)
    refine lv_i2l (v := r.toInt64) E.hx E.hb dL_turn_10 rfl ?_
    refine va_last E.hx E.hb KA (P_app P1 Po1) (cwo_D N ho) S1 44 1 rfl rfl (vp_in_nI (n := 0) (N := 1) (by decide) (by decide)) dL_turn_11 (fun H2 locs2 P2 D2 S2 => ?_)
    have P2 : va_P D classes (cw cyI ad I1 A1 ++ [(o, .inl (cyL, 1, .inr (.inl (vp_updL f (0 : Int32).toNatClampNeg r.toInt64))))]) H2 := P2
    refine lv_goto (tgt := 27) E.hx E.hb dL_turn_12 (by decide) ?_
    refine lv_iconst (v := 0) E.hx E.hb dL_turn_27 (by decide) ?_
    exact W.iret E.hx E.hb E.hr (fun t ht _ => ⟨0, I1, A1, vp_updL f (0 : Int32).toNatClampNeg r.toInt64, rfl, by rw [ht]; exact P_left P2, by rw [ht]; exact P_right P2, Or.inl ⟨r, ho1, rfl, fun _ => updL0 f r.toInt64⟩, S2.F ht⟩) S2.2.2 dL_turn_28 E.hk
set_option maxHeartbeats 4000000 in
set_option maxRecDepth 100000 in
theorem c_L_anchor (l : Launch) (hfl : l.stackTraces = false) {H : Heap} {D : va_G} {cyI cyL : ClassId} {ad : Nat → Nat} {I : Nat → Int32} {A : Nat → Nat → Int32} (N : AdN 44 ad) (P : va_P D classes (cw cyI ad I A) H) {o : Nat} {f : Nat → Int64} (Po : va_P D classes [(o, .inl (cyL, 1, .inr (.inl f)))] H) (ho : ¬ InN 44 ad o) {x1 x2 x3 x4 x5 : Int32} {out : OutT} (h : B_X6_anchor I A x1 x2 x3 x4 x5 = some out) (hx : ∀ k I1 A1, out = .inr (k, I1, A1) → ∃ c, (k, c) ∈ ([(1, 1), (0, 2)] : List (Nat × Nat))) : Met l yL_anchor (.codeWith yL_anchor cL_anchor 8 (some .int) [(0, 16, 19, 23), (0, 16, 23, 13)] :: TA) (rmX 8) (PX [.ref (ad 0), .int x1, .int x2, .int x3, .int x4, .int x5, .ref o] H (KL D cyI cyL ad)) (QL D cyI cyL ad o false [(1, 1), (0, 2)] out) 1 6 (InL ad o) := by
  refine va_MetW (cc := cL_anchor) (maxL := 8) (ret := some .int) (hh := [(0, 16, 19, 23), (0, 16, 23, 13)]) (by decide +kernel) rfl ?_
  intro p e s m args below meth c s₁ BB hml hv
  obtain ⟨rfl, hH, K0, KA⟩ := hv
  subst hH
  have hts := atoms_spec (ws := (.codeWith yL_anchor cL_anchor 8 (some .int) [(0, 16, 19, 23), (0, 16, 23, 13)] :: TA)) BB.pre
  have tab := vx_table (x := yL_anchor) BB (hts _ List.mem_cons_self)
  have E : EX p s m (List.toArray [.ref (ad 0), .int x1, .int x2, .int x3, .int x4, .int x5, .ref o]) meth c cL_anchor 8 RL (some .int) := ⟨BB.exec, BB.bytes, hml, findClass_of_methodNamed BB.named, fun w hw => hts w (List.mem_cons_of_mem _ hw), BB.returns, BB.notSynchronized⟩
  have S : va_S (InL ad o) s.heap s.heap [] := va_S.rf
  have hl := lv_entry [.ref (ad 0), .int x1, .int x2, .int x3, .int x4, .int x5, .ref o] (n := 8) (Nat.le_of_ble_eq_true rfl)
  rw [lg_entry_eq]
  generalize (lg_sl [.ref (ad 0), .int x1, .int x2, .int x3, .int x4, .int x5, .ref o] ++ List.replicate (8 - (lg_sl [.ref (ad 0), .int x1, .int x2, .int x3, .int x4, .int x5, .ref o]).length) Slot.unset).toArray = ls at hl ⊢
  have hl : lv_has ls 8 [(0, .ref (ad 0)), (1, .int x1), (2, .int x2), (3, .int x3), (4, .int x4), (5, .int x5), (6, .ref o)] := hl
  refine lv_aload E.hx E.hb dL_anchor_0 (lv_at hl 6 rfl) ?_
  refine lv_iconst (v := 0) E.hx E.hb dL_anchor_2 (by decide) ?_
  refine lv_aload_n E.hx E.hb dL_anchor_3 rfl (lv_at hl 0 rfl) ?_
  refine lv_iload_n E.hx E.hb dL_anchor_4 rfl (lv_at hl 1 rfl) ?_
  refine lv_iload_n E.hx E.hb dL_anchor_5 rfl (lv_at hl 2 rfl) ?_
  refine lv_iload_n E.hx E.hb dL_anchor_6 rfl (lv_at hl 3 rfl) ?_
  refine lv_iload E.hx E.hb dL_anchor_7 (lv_at hl 4 rfl) ?_
  refine lv_iload E.hx E.hb dL_anchor_9 (lv_at hl 5 rfl) ?_
  refine vt_call (vx_runV (As := [.int x1, .int x2, .int x3, .int x4, .int x5]) (rest := [.int 0, .ref o]) E.fix (c_X6_anchor l hfl N P x1 x2 x3 x4 x5 h) (cwV 5 E.ht (gV kML_L_27 kIM_X6_anchor kSE_X6_anchor kIN_X6 kCO_X6_anchor) rfl rfl rfl ⟨rfl, ds_X6_anchor⟩ ⟨Nat.le_of_ble_eq_true rfl, Nat.le_of_ble_eq_true rfl⟩) ⟨PX_blind KC_blind, va_recv K0.k P (show classes[6]? = some (RX6, TX6, 9) from rfl) cw_g0, fun U hU hW9 => ⟨rfl, hU, K0.warm hW9⟩⟩ rfl rfl hl.1 rfl (lv_room (Nat.le_of_ble_eq_true rfl)) dL_anchor_11 ⟨Nat.le_refl 1, Nat.le_refl 6⟩) S (fun q h => Or.inl h) (fun k I1 A1 ce q9 H1 locs1 ho1 P1 hk1 S1 hce hcv hcl => ?_) (fun r I1 A1 H1 locs1 ho1 P1 hk1 S1 => ?_)
  · have Po1 := P_keep Po hk1 (fun k q hq => by rw [one_in hq]; exact ho)
    obtain ⟨cc, hm⟩ := hx k I1 A1 ho1
    simp only [List.mem_cons, Prod.mk.injEq, List.not_mem_nil, or_false] at hm
    rcases hm with ⟨rfl, rfl⟩ | ⟨rfl, rfl⟩
    · refine vx_catch (own := RL) (name := "java/lang/IndexOutOfBoundsException") E.ho [] ⟨0, 16, 19, 23⟩ [⟨0, 16, 23, 13⟩] tab (fun z hz => nomatch hz) (by decide) (by decide) (E.ht _ kCL_L_23) (va_Nw.use rfl (K0.ca "java/lang/IndexOutOfBoundsException" (List.mem_of_getElem? (i := 1) rfl))) hce hcv hcl ?_
      refine lv_astore (lv' := [(7, .ref q9), (0, .ref (ad 0)), (1, .int x1), (2, .int x2), (3, .int x3), (4, .int x4), (5, .int x5), (6, .ref o)]) E.hx E.hb dL_anchor_19 hl (by decide) rfl (fun ls hl => ?_)
      refine lv_iconst (v := 1) E.hx E.hb dL_anchor_21 (by decide) ?_
      exact W.iret E.hx E.hb E.hr (fun t ht _ => ⟨_, I1, A1, f, rfl, by rw [ht]; exact P1, by rw [ht]; exact Po1, Or.inr ⟨1, 1, ho1, by decide, rfl⟩, S1.F ht⟩) S1.2.2 dL_anchor_22 E.hk
    · refine vx_catch (own := RL) (name := "java/lang/IllegalArgumentException") E.ho [⟨0, 16, 19, 23⟩] ⟨0, 16, 23, 13⟩ [] tab (fun z hz => by rw [List.mem_singleton.mp hz]; exact Or.inr ⟨by decide, _, E.ht _ kCL_L_23, K0.nc _ (List.mem_of_getElem? (i := 0) rfl)⟩) (by decide) (by decide) (E.ht _ kCL_L_13) (va_Nw.use rfl (K0.ca "java/lang/IllegalArgumentException" (List.mem_of_getElem? (i := 0) rfl))) hce hcv hcl ?_
      refine lv_astore (lv' := [(7, .ref q9), (0, .ref (ad 0)), (1, .int x1), (2, .int x2), (3, .int x3), (4, .int x4), (5, .int x5), (6, .ref o)]) E.hx E.hb dL_anchor_23 hl (by decide) rfl (fun ls hl => ?_)
      refine lv_iconst (v := 2) E.hx E.hb dL_anchor_25 (by decide) ?_
      exact W.iret E.hx E.hb E.hr (fun t ht _ => ⟨_, I1, A1, f, rfl, by rw [ht]; exact P1, by rw [ht]; exact Po1, Or.inr ⟨0, 2, ho1, by decide, rfl⟩, S1.F ht⟩) S1.2.2 dL_anchor_26 E.hk
  · have Po1 := P_keep Po hk1 (fun k q hq => by rw [one_in hq]; exact ho)
    refine lv_i2l (v := r.toInt64) E.hx E.hb dL_anchor_14 rfl ?_
    refine va_last E.hx E.hb KA (P_app P1 Po1) (cwo_D N ho) S1 44 1 rfl rfl (vp_in_nI (n := 0) (N := 1) (by decide) (by decide)) dL_anchor_15 (fun H2 locs2 P2 D2 S2 => ?_)
    have P2 : va_P D classes (cw cyI ad I1 A1 ++ [(o, .inl (cyL, 1, .inr (.inl (vp_updL f (0 : Int32).toNatClampNeg r.toInt64))))]) H2 := P2
    refine lv_goto (tgt := 27) E.hx E.hb dL_anchor_16 (by decide) ?_
    refine lv_iconst (v := 0) E.hx E.hb dL_anchor_27 (by decide) ?_
    exact W.iret E.hx E.hb E.hr (fun t ht _ => ⟨0, I1, A1, vp_updL f (0 : Int32).toNatClampNeg r.toInt64, rfl, by rw [ht]; exact P_left P2, by rw [ht]; exact P_right P2, Or.inl ⟨r, ho1, rfl, fun _ => updL0 f r.toInt64⟩, S2.F ht⟩) S2.2.2 dL_anchor_28 E.hk
set_option maxHeartbeats 4000000 in
set_option maxRecDepth 100000 in
theorem c_L_pixel (l : Launch) (hfl : l.stackTraces = false) {H : Heap} {D : va_G} {cyI cyL : ClassId} {ad : Nat → Nat} {I : Nat → Int32} {A : Nat → Nat → Int32} (N : AdN 44 ad) (P : va_P D classes (cw cyI ad I A) H) {o : Nat} {f : Nat → Int64} (Po : va_P D classes [(o, .inl (cyL, 1, .inr (.inl f)))] H) (ho : ¬ InN 44 ad o) {x1 x2 x3 x4 : Int32} {out : OutT} (h : B_X6_pixel I A x1 x2 x3 x4 = some out) (hx : ∀ k I1 A1, out = .inr (k, I1, A1) → ∃ c, (k, c) ∈ ([(1, 1), (0, 2), (2, 3)] : List (Nat × Nat))) : Met l yL_pixel (.codeWith yL_pixel cL_pixel 7 (some .int) [(0, 14, 17, 23), (0, 14, 21, 13), (0, 14, 25, 25)] :: TA) (rmX 8) (PX [.ref (ad 0), .int x1, .int x2, .int x3, .int x4, .ref o] H (KL D cyI cyL ad)) (QL D cyI cyL ad o false [(1, 1), (0, 2), (2, 3)] out) 1 6 (InL ad o) := by
  refine va_MetW (cc := cL_pixel) (maxL := 7) (ret := some .int) (hh := [(0, 14, 17, 23), (0, 14, 21, 13), (0, 14, 25, 25)]) (by decide +kernel) rfl ?_
  intro p e s m args below meth c s₁ BB hml hv
  obtain ⟨rfl, hH, K0, KA⟩ := hv
  subst hH
  have hts := atoms_spec (ws := (.codeWith yL_pixel cL_pixel 7 (some .int) [(0, 14, 17, 23), (0, 14, 21, 13), (0, 14, 25, 25)] :: TA)) BB.pre
  have tab := vx_table (x := yL_pixel) BB (hts _ List.mem_cons_self)
  have E : EX p s m (List.toArray [.ref (ad 0), .int x1, .int x2, .int x3, .int x4, .ref o]) meth c cL_pixel 7 RL (some .int) := ⟨BB.exec, BB.bytes, hml, findClass_of_methodNamed BB.named, fun w hw => hts w (List.mem_cons_of_mem _ hw), BB.returns, BB.notSynchronized⟩
  have S : va_S (InL ad o) s.heap s.heap [] := va_S.rf
  have hl := lv_entry [.ref (ad 0), .int x1, .int x2, .int x3, .int x4, .ref o] (n := 7) (Nat.le_of_ble_eq_true rfl)
  rw [lg_entry_eq]
  generalize (lg_sl [.ref (ad 0), .int x1, .int x2, .int x3, .int x4, .ref o] ++ List.replicate (7 - (lg_sl [.ref (ad 0), .int x1, .int x2, .int x3, .int x4, .ref o]).length) Slot.unset).toArray = ls at hl ⊢
  have hl : lv_has ls 7 [(0, .ref (ad 0)), (1, .int x1), (2, .int x2), (3, .int x3), (4, .int x4), (5, .ref o)] := hl
  refine lv_aload E.hx E.hb dL_pixel_0 (lv_at hl 5 rfl) ?_
  refine lv_iconst (v := 0) E.hx E.hb dL_pixel_2 (by decide) ?_
  refine lv_aload_n E.hx E.hb dL_pixel_3 rfl (lv_at hl 0 rfl) ?_
  refine lv_iload_n E.hx E.hb dL_pixel_4 rfl (lv_at hl 1 rfl) ?_
  refine lv_iload_n E.hx E.hb dL_pixel_5 rfl (lv_at hl 2 rfl) ?_
  refine lv_iload_n E.hx E.hb dL_pixel_6 rfl (lv_at hl 3 rfl) ?_
  refine lv_iload E.hx E.hb dL_pixel_7 (lv_at hl 4 rfl) ?_
  refine vt_call (vx_runV (As := [.int x1, .int x2, .int x3, .int x4]) (rest := [.int 0, .ref o]) E.fix (c_X6_pixel l hfl N P x1 x2 x3 x4 h) (cwV 4 E.ht (gV kML_L_31 kIM_X6_pixel kSE_X6_pixel kIN_X6 kCO_X6_pixel) rfl rfl rfl ⟨rfl, ds_X6_pixel⟩ ⟨Nat.le_of_ble_eq_true rfl, Nat.le_of_ble_eq_true rfl⟩) ⟨PX_blind KC_blind, va_recv K0.k P (show classes[6]? = some (RX6, TX6, 9) from rfl) cw_g0, fun U hU hW9 => ⟨rfl, hU, K0.warm hW9⟩⟩ rfl rfl hl.1 rfl (lv_room (Nat.le_of_ble_eq_true rfl)) dL_pixel_9 ⟨Nat.le_refl 1, Nat.le_refl 6⟩) S (fun q h => Or.inl h) (fun k I1 A1 ce q9 H1 locs1 ho1 P1 hk1 S1 hce hcv hcl => ?_) (fun r I1 A1 H1 locs1 ho1 P1 hk1 S1 => ?_)
  · have Po1 := P_keep Po hk1 (fun k q hq => by rw [one_in hq]; exact ho)
    obtain ⟨cc, hm⟩ := hx k I1 A1 ho1
    simp only [List.mem_cons, Prod.mk.injEq, List.not_mem_nil, or_false] at hm
    rcases hm with ⟨rfl, rfl⟩ | ⟨rfl, rfl⟩ | ⟨rfl, rfl⟩
    · refine vx_catch (own := RL) (name := "java/lang/IndexOutOfBoundsException") E.ho [] ⟨0, 14, 17, 23⟩ [⟨0, 14, 21, 13⟩, ⟨0, 14, 25, 25⟩] tab (fun z hz => nomatch hz) (by decide) (by decide) (E.ht _ kCL_L_23) (va_Nw.use rfl (K0.ca "java/lang/IndexOutOfBoundsException" (List.mem_of_getElem? (i := 1) rfl))) hce hcv hcl ?_
      refine lv_astore (lv' := [(6, .ref q9), (0, .ref (ad 0)), (1, .int x1), (2, .int x2), (3, .int x3), (4, .int x4), (5, .ref o)]) E.hx E.hb dL_pixel_17 hl (by decide) rfl (fun ls hl => ?_)
      refine lv_iconst (v := 1) E.hx E.hb dL_pixel_19 (by decide) ?_
      exact W.iret E.hx E.hb E.hr (fun t ht _ => ⟨_, I1, A1, f, rfl, by rw [ht]; exact P1, by rw [ht]; exact Po1, Or.inr ⟨1, 1, ho1, by decide, rfl⟩, S1.F ht⟩) S1.2.2 dL_pixel_20 E.hk
    · refine vx_catch (own := RL) (name := "java/lang/IllegalArgumentException") E.ho [⟨0, 14, 17, 23⟩] ⟨0, 14, 21, 13⟩ [⟨0, 14, 25, 25⟩] tab (fun z hz => by rw [List.mem_singleton.mp hz]; exact Or.inr ⟨by decide, _, E.ht _ kCL_L_23, K0.nc _ (List.mem_of_getElem? (i := 0) rfl)⟩) (by decide) (by decide) (E.ht _ kCL_L_13) (va_Nw.use rfl (K0.ca "java/lang/IllegalArgumentException" (List.mem_of_getElem? (i := 0) rfl))) hce hcv hcl ?_
      refine lv_astore (lv' := [(6, .ref q9), (0, .ref (ad 0)), (1, .int x1), (2, .int x2), (3, .int x3), (4, .int x4), (5, .ref o)]) E.hx E.hb dL_pixel_21 hl (by decide) rfl (fun ls hl => ?_)
      refine lv_iconst (v := 2) E.hx E.hb dL_pixel_23 (by decide) ?_
      exact W.iret E.hx E.hb E.hr (fun t ht _ => ⟨_, I1, A1, f, rfl, by rw [ht]; exact P1, by rw [ht]; exact Po1, Or.inr ⟨0, 2, ho1, by decide, rfl⟩, S1.F ht⟩) S1.2.2 dL_pixel_24 E.hk
    · refine vx_catch (own := RL) (name := "java/lang/IllegalStateException") E.ho [⟨0, 14, 17, 23⟩, ⟨0, 14, 21, 13⟩] ⟨0, 14, 25, 25⟩ [] tab (fun z hz => (List.mem_cons.mp hz).elim (fun hz => by rw [hz]; exact Or.inr ⟨by decide, _, E.ht _ kCL_L_23, K0.nc _ (List.mem_of_getElem? (i := 1) rfl)⟩) (fun hz => by rw [List.mem_singleton.mp hz]; exact Or.inr ⟨by decide, _, E.ht _ kCL_L_13, K0.nc _ (List.mem_of_getElem? (i := 2) rfl)⟩)) (by decide) (by decide) (E.ht _ kCL_L_25) (va_Nw.use rfl (K0.ca "java/lang/IllegalStateException" (List.mem_of_getElem? (i := 2) rfl))) hce hcv hcl ?_
      refine lv_astore (lv' := [(6, .ref q9), (0, .ref (ad 0)), (1, .int x1), (2, .int x2), (3, .int x3), (4, .int x4), (5, .ref o)]) E.hx E.hb dL_pixel_25 hl (by decide) rfl (fun ls hl => ?_)
      refine lv_iconst (v := 3) E.hx E.hb dL_pixel_27 (by decide) ?_
      exact W.iret E.hx E.hb E.hr (fun t ht _ => ⟨_, I1, A1, f, rfl, by rw [ht]; exact P1, by rw [ht]; exact Po1, Or.inr ⟨2, 3, ho1, by decide, rfl⟩, S1.F ht⟩) S1.2.2 dL_pixel_28 E.hk
  · have Po1 := P_keep Po hk1 (fun k q hq => by rw [one_in hq]; exact ho)
    refine lv_i2l (v := r.toInt64) E.hx E.hb dL_pixel_12 rfl ?_
    refine va_last E.hx E.hb KA (P_app P1 Po1) (cwo_D N ho) S1 44 1 rfl rfl (vp_in_nI (n := 0) (N := 1) (by decide) (by decide)) dL_pixel_13 (fun H2 locs2 P2 D2 S2 => ?_)
    have P2 : va_P D classes (cw cyI ad I1 A1 ++ [(o, .inl (cyL, 1, .inr (.inl (vp_updL f (0 : Int32).toNatClampNeg r.toInt64))))]) H2 := P2
    refine lv_goto (tgt := 29) E.hx E.hb dL_pixel_14 (by decide) ?_
    refine lv_iconst (v := 0) E.hx E.hb dL_pixel_29 (by decide) ?_
    exact W.iret E.hx E.hb E.hr (fun t ht _ => ⟨0, I1, A1, vp_updL f (0 : Int32).toNatClampNeg r.toInt64, rfl, by rw [ht]; exact P_left P2, by rw [ht]; exact P_right P2, Or.inl ⟨r, ho1, rfl, fun _ => updL0 f r.toInt64⟩, S2.F ht⟩) S2.2.2 dL_pixel_30 E.hk
set_option maxHeartbeats 4000000 in
set_option maxRecDepth 100000 in
theorem c_L_drive (l : Launch) (hfl : l.stackTraces = false) {H : Heap} {D : va_G} {cyI cyL : ClassId} {ad : Nat → Nat} {I : Nat → Int32} {A : Nat → Nat → Int32} (N : AdN 44 ad) (P : va_P D classes (cw cyI ad I A) H) {o : Nat} {f : Nat → Int64} (Po : va_P D classes [(o, .inl (cyL, 1, .inr (.inl f)))] H) (ho : ¬ InN 44 ad o) {x1 x2 x3 : Int32} {out : OutT} (h : B_X6_drive I A x1 x2 x3 = some out) (hx : ∀ k I1 A1, out = .inr (k, I1, A1) → ∃ c, (k, c) ∈ ([(1, 1), (0, 2)] : List (Nat × Nat))) : Met l yL_drive (.codeWith yL_drive cL_drive 6 (some .int) [(0, 12, 15, 23), (0, 12, 19, 13)] :: TA) (rmX 8) (PX [.ref (ad 0), .int x1, .int x2, .int x3, .ref o] H (KL D cyI cyL ad)) (QL D cyI cyL ad o false [(1, 1), (0, 2)] out) 1 6 (InL ad o) := by
  refine va_MetW (cc := cL_drive) (maxL := 6) (ret := some .int) (hh := [(0, 12, 15, 23), (0, 12, 19, 13)]) (by decide +kernel) rfl ?_
  intro p e s m args below meth c s₁ BB hml hv
  obtain ⟨rfl, hH, K0, KA⟩ := hv
  subst hH
  have hts := atoms_spec (ws := (.codeWith yL_drive cL_drive 6 (some .int) [(0, 12, 15, 23), (0, 12, 19, 13)] :: TA)) BB.pre
  have tab := vx_table (x := yL_drive) BB (hts _ List.mem_cons_self)
  have E : EX p s m (List.toArray [.ref (ad 0), .int x1, .int x2, .int x3, .ref o]) meth c cL_drive 6 RL (some .int) := ⟨BB.exec, BB.bytes, hml, findClass_of_methodNamed BB.named, fun w hw => hts w (List.mem_cons_of_mem _ hw), BB.returns, BB.notSynchronized⟩
  have S : va_S (InL ad o) s.heap s.heap [] := va_S.rf
  have hl := lv_entry [.ref (ad 0), .int x1, .int x2, .int x3, .ref o] (n := 6) (Nat.le_of_ble_eq_true rfl)
  rw [lg_entry_eq]
  generalize (lg_sl [.ref (ad 0), .int x1, .int x2, .int x3, .ref o] ++ List.replicate (6 - (lg_sl [.ref (ad 0), .int x1, .int x2, .int x3, .ref o]).length) Slot.unset).toArray = ls at hl ⊢
  have hl : lv_has ls 6 [(0, .ref (ad 0)), (1, .int x1), (2, .int x2), (3, .int x3), (4, .ref o)] := hl
  refine lv_aload E.hx E.hb dL_drive_0 (lv_at hl 4 rfl) ?_
  refine lv_iconst (v := 0) E.hx E.hb dL_drive_2 (by decide) ?_
  refine lv_aload_n E.hx E.hb dL_drive_3 rfl (lv_at hl 0 rfl) ?_
  refine lv_iload_n E.hx E.hb dL_drive_4 rfl (lv_at hl 1 rfl) ?_
  refine lv_iload_n E.hx E.hb dL_drive_5 rfl (lv_at hl 2 rfl) ?_
  refine lv_iload_n E.hx E.hb dL_drive_6 rfl (lv_at hl 3 rfl) ?_
  refine vt_call (vx_runV (As := [.int x1, .int x2, .int x3]) (rest := [.int 0, .ref o]) E.fix (c_X6_drive l hfl N P x1 x2 x3 h) (cwV 3 E.ht (gV kML_L_35 kIM_X6_drive kSE_X6_drive kIN_X6 kCO_X6_drive) rfl rfl rfl ⟨rfl, ds_X6_drive⟩ ⟨Nat.le_of_ble_eq_true rfl, Nat.le_of_ble_eq_true rfl⟩) ⟨PX_blind KC_blind, va_recv K0.k P (show classes[6]? = some (RX6, TX6, 9) from rfl) cw_g0, fun U hU hW9 => ⟨rfl, hU, K0.warm hW9⟩⟩ rfl rfl hl.1 rfl (lv_room (Nat.le_of_ble_eq_true rfl)) dL_drive_7 ⟨Nat.le_refl 1, Nat.le_refl 6⟩) S (fun q h => Or.inl h) (fun k I1 A1 ce q9 H1 locs1 ho1 P1 hk1 S1 hce hcv hcl => ?_) (fun r I1 A1 H1 locs1 ho1 P1 hk1 S1 => ?_)
  · have Po1 := P_keep Po hk1 (fun k q hq => by rw [one_in hq]; exact ho)
    obtain ⟨cc, hm⟩ := hx k I1 A1 ho1
    simp only [List.mem_cons, Prod.mk.injEq, List.not_mem_nil, or_false] at hm
    rcases hm with ⟨rfl, rfl⟩ | ⟨rfl, rfl⟩
    · refine vx_catch (own := RL) (name := "java/lang/IndexOutOfBoundsException") E.ho [] ⟨0, 12, 15, 23⟩ [⟨0, 12, 19, 13⟩] tab (fun z hz => nomatch hz) (by decide) (by decide) (E.ht _ kCL_L_23) (va_Nw.use rfl (K0.ca "java/lang/IndexOutOfBoundsException" (List.mem_of_getElem? (i := 1) rfl))) hce hcv hcl ?_
      refine lv_astore (lv' := [(5, .ref q9), (0, .ref (ad 0)), (1, .int x1), (2, .int x2), (3, .int x3), (4, .ref o)]) E.hx E.hb dL_drive_15 hl (by decide) rfl (fun ls hl => ?_)
      refine lv_iconst (v := 1) E.hx E.hb dL_drive_17 (by decide) ?_
      exact W.iret E.hx E.hb E.hr (fun t ht _ => ⟨_, I1, A1, f, rfl, by rw [ht]; exact P1, by rw [ht]; exact Po1, Or.inr ⟨1, 1, ho1, by decide, rfl⟩, S1.F ht⟩) S1.2.2 dL_drive_18 E.hk
    · refine vx_catch (own := RL) (name := "java/lang/IllegalArgumentException") E.ho [⟨0, 12, 15, 23⟩] ⟨0, 12, 19, 13⟩ [] tab (fun z hz => by rw [List.mem_singleton.mp hz]; exact Or.inr ⟨by decide, _, E.ht _ kCL_L_23, K0.nc _ (List.mem_of_getElem? (i := 0) rfl)⟩) (by decide) (by decide) (E.ht _ kCL_L_13) (va_Nw.use rfl (K0.ca "java/lang/IllegalArgumentException" (List.mem_of_getElem? (i := 0) rfl))) hce hcv hcl ?_
      refine lv_astore (lv' := [(5, .ref q9), (0, .ref (ad 0)), (1, .int x1), (2, .int x2), (3, .int x3), (4, .ref o)]) E.hx E.hb dL_drive_19 hl (by decide) rfl (fun ls hl => ?_)
      refine lv_iconst (v := 2) E.hx E.hb dL_drive_21 (by decide) ?_
      exact W.iret E.hx E.hb E.hr (fun t ht _ => ⟨_, I1, A1, f, rfl, by rw [ht]; exact P1, by rw [ht]; exact Po1, Or.inr ⟨0, 2, ho1, by decide, rfl⟩, S1.F ht⟩) S1.2.2 dL_drive_22 E.hk
  · have Po1 := P_keep Po hk1 (fun k q hq => by rw [one_in hq]; exact ho)
    refine lv_i2l (v := r.toInt64) E.hx E.hb dL_drive_10 rfl ?_
    refine va_last E.hx E.hb KA (P_app P1 Po1) (cwo_D N ho) S1 44 1 rfl rfl (vp_in_nI (n := 0) (N := 1) (by decide) (by decide)) dL_drive_11 (fun H2 locs2 P2 D2 S2 => ?_)
    have P2 : va_P D classes (cw cyI ad I1 A1 ++ [(o, .inl (cyL, 1, .inr (.inl (vp_updL f (0 : Int32).toNatClampNeg r.toInt64))))]) H2 := P2
    refine lv_goto (tgt := 23) E.hx E.hb dL_drive_12 (by decide) ?_
    refine lv_iconst (v := 0) E.hx E.hb dL_drive_23 (by decide) ?_
    exact W.iret E.hx E.hb E.hr (fun t ht _ => ⟨0, I1, A1, vp_updL f (0 : Int32).toNatClampNeg r.toInt64, rfl, by rw [ht]; exact P_left P2, by rw [ht]; exact P_right P2, Or.inl ⟨r, ho1, rfl, fun _ => updL0 f r.toInt64⟩, S2.F ht⟩) S2.2.2 dL_drive_24 E.hk
set_option maxHeartbeats 4000000 in
set_option maxRecDepth 100000 in
theorem c_L_program (l : Launch) (hfl : l.stackTraces = false) {H : Heap} {D : va_G} {cyI cyL : ClassId} {ad : Nat → Nat} {I : Nat → Int32} {A : Nat → Nat → Int32} (N : AdN 44 ad) (P : va_P D classes (cw cyI ad I A) H) {o : Nat} {f : Nat → Int64} (Po : va_P D classes [(o, .inl (cyL, 1, .inr (.inl f)))] H) (ho : ¬ InN 44 ad o) {x1 x2 x3 x4 : Int32} {out : OutT} (h : B_X6_program I A x1 x2 x3 x4 = some out) (hx : ∀ k I1 A1, out = .inr (k, I1, A1) → ∃ c, (k, c) ∈ ([(1, 1), (0, 2), (2, 3)] : List (Nat × Nat))) : Met l yL_program (.codeWith yL_program cL_program 7 (some .int) [(0, 14, 17, 23), (0, 14, 21, 13), (0, 14, 25, 25)] :: TA) (rmX 8) (PX [.ref (ad 0), .int x1, .int x2, .int x3, .int x4, .ref o] H (KL D cyI cyL ad)) (QL D cyI cyL ad o false [(1, 1), (0, 2), (2, 3)] out) 1 6 (InL ad o) := by
  refine va_MetW (cc := cL_program) (maxL := 7) (ret := some .int) (hh := [(0, 14, 17, 23), (0, 14, 21, 13), (0, 14, 25, 25)]) (by decide +kernel) rfl ?_
  intro p e s m args below meth c s₁ BB hml hv
  obtain ⟨rfl, hH, K0, KA⟩ := hv
  subst hH
  have hts := atoms_spec (ws := (.codeWith yL_program cL_program 7 (some .int) [(0, 14, 17, 23), (0, 14, 21, 13), (0, 14, 25, 25)] :: TA)) BB.pre
  have tab := vx_table (x := yL_program) BB (hts _ List.mem_cons_self)
  have E : EX p s m (List.toArray [.ref (ad 0), .int x1, .int x2, .int x3, .int x4, .ref o]) meth c cL_program 7 RL (some .int) := ⟨BB.exec, BB.bytes, hml, findClass_of_methodNamed BB.named, fun w hw => hts w (List.mem_cons_of_mem _ hw), BB.returns, BB.notSynchronized⟩
  have S : va_S (InL ad o) s.heap s.heap [] := va_S.rf
  have hl := lv_entry [.ref (ad 0), .int x1, .int x2, .int x3, .int x4, .ref o] (n := 7) (Nat.le_of_ble_eq_true rfl)
  rw [lg_entry_eq]
  generalize (lg_sl [.ref (ad 0), .int x1, .int x2, .int x3, .int x4, .ref o] ++ List.replicate (7 - (lg_sl [.ref (ad 0), .int x1, .int x2, .int x3, .int x4, .ref o]).length) Slot.unset).toArray = ls at hl ⊢
  have hl : lv_has ls 7 [(0, .ref (ad 0)), (1, .int x1), (2, .int x2), (3, .int x3), (4, .int x4), (5, .ref o)] := hl
  refine lv_aload E.hx E.hb dL_program_0 (lv_at hl 5 rfl) ?_
  refine lv_iconst (v := 0) E.hx E.hb dL_program_2 (by decide) ?_
  refine lv_aload_n E.hx E.hb dL_program_3 rfl (lv_at hl 0 rfl) ?_
  refine lv_iload_n E.hx E.hb dL_program_4 rfl (lv_at hl 1 rfl) ?_
  refine lv_iload_n E.hx E.hb dL_program_5 rfl (lv_at hl 2 rfl) ?_
  refine lv_iload_n E.hx E.hb dL_program_6 rfl (lv_at hl 3 rfl) ?_
  refine lv_iload E.hx E.hb dL_program_7 (lv_at hl 4 rfl) ?_
  refine vt_call (vx_runV (As := [.int x1, .int x2, .int x3, .int x4]) (rest := [.int 0, .ref o]) E.fix (c_X6_program l hfl N P x1 x2 x3 x4 h) (cwV 4 E.ht (gV kML_L_38 kIM_X6_program kSE_X6_program kIN_X6 kCO_X6_program) rfl rfl rfl ⟨rfl, ds_X6_program⟩ ⟨Nat.le_of_ble_eq_true rfl, Nat.le_of_ble_eq_true rfl⟩) ⟨PX_blind KC_blind, va_recv K0.k P (show classes[6]? = some (RX6, TX6, 9) from rfl) cw_g0, fun U hU hW9 => ⟨rfl, hU, K0.warm hW9⟩⟩ rfl rfl hl.1 rfl (lv_room (Nat.le_of_ble_eq_true rfl)) dL_program_9 ⟨Nat.le_refl 1, Nat.le_refl 6⟩) S (fun q h => Or.inl h) (fun k I1 A1 ce q9 H1 locs1 ho1 P1 hk1 S1 hce hcv hcl => ?_) (fun r I1 A1 H1 locs1 ho1 P1 hk1 S1 => ?_)
  · have Po1 := P_keep Po hk1 (fun k q hq => by rw [one_in hq]; exact ho)
    obtain ⟨cc, hm⟩ := hx k I1 A1 ho1
    simp only [List.mem_cons, Prod.mk.injEq, List.not_mem_nil, or_false] at hm
    rcases hm with ⟨rfl, rfl⟩ | ⟨rfl, rfl⟩ | ⟨rfl, rfl⟩
    · refine vx_catch (own := RL) (name := "java/lang/IndexOutOfBoundsException") E.ho [] ⟨0, 14, 17, 23⟩ [⟨0, 14, 21, 13⟩, ⟨0, 14, 25, 25⟩] tab (fun z hz => nomatch hz) (by decide) (by decide) (E.ht _ kCL_L_23) (va_Nw.use rfl (K0.ca "java/lang/IndexOutOfBoundsException" (List.mem_of_getElem? (i := 1) rfl))) hce hcv hcl ?_
      refine lv_astore (lv' := [(6, .ref q9), (0, .ref (ad 0)), (1, .int x1), (2, .int x2), (3, .int x3), (4, .int x4), (5, .ref o)]) E.hx E.hb dL_program_17 hl (by decide) rfl (fun ls hl => ?_)
      refine lv_iconst (v := 1) E.hx E.hb dL_program_19 (by decide) ?_
      exact W.iret E.hx E.hb E.hr (fun t ht _ => ⟨_, I1, A1, f, rfl, by rw [ht]; exact P1, by rw [ht]; exact Po1, Or.inr ⟨1, 1, ho1, by decide, rfl⟩, S1.F ht⟩) S1.2.2 dL_program_20 E.hk
    · refine vx_catch (own := RL) (name := "java/lang/IllegalArgumentException") E.ho [⟨0, 14, 17, 23⟩] ⟨0, 14, 21, 13⟩ [⟨0, 14, 25, 25⟩] tab (fun z hz => by rw [List.mem_singleton.mp hz]; exact Or.inr ⟨by decide, _, E.ht _ kCL_L_23, K0.nc _ (List.mem_of_getElem? (i := 0) rfl)⟩) (by decide) (by decide) (E.ht _ kCL_L_13) (va_Nw.use rfl (K0.ca "java/lang/IllegalArgumentException" (List.mem_of_getElem? (i := 0) rfl))) hce hcv hcl ?_
      refine lv_astore (lv' := [(6, .ref q9), (0, .ref (ad 0)), (1, .int x1), (2, .int x2), (3, .int x3), (4, .int x4), (5, .ref o)]) E.hx E.hb dL_program_21 hl (by decide) rfl (fun ls hl => ?_)
      refine lv_iconst (v := 2) E.hx E.hb dL_program_23 (by decide) ?_
      exact W.iret E.hx E.hb E.hr (fun t ht _ => ⟨_, I1, A1, f, rfl, by rw [ht]; exact P1, by rw [ht]; exact Po1, Or.inr ⟨0, 2, ho1, by decide, rfl⟩, S1.F ht⟩) S1.2.2 dL_program_24 E.hk
    · refine vx_catch (own := RL) (name := "java/lang/IllegalStateException") E.ho [⟨0, 14, 17, 23⟩, ⟨0, 14, 21, 13⟩] ⟨0, 14, 25, 25⟩ [] tab (fun z hz => (List.mem_cons.mp hz).elim (fun hz => by rw [hz]; exact Or.inr ⟨by decide, _, E.ht _ kCL_L_23, K0.nc _ (List.mem_of_getElem? (i := 1) rfl)⟩) (fun hz => by rw [List.mem_singleton.mp hz]; exact Or.inr ⟨by decide, _, E.ht _ kCL_L_13, K0.nc _ (List.mem_of_getElem? (i := 2) rfl)⟩)) (by decide) (by decide) (E.ht _ kCL_L_25) (va_Nw.use rfl (K0.ca "java/lang/IllegalStateException" (List.mem_of_getElem? (i := 2) rfl))) hce hcv hcl ?_
      refine lv_astore (lv' := [(6, .ref q9), (0, .ref (ad 0)), (1, .int x1), (2, .int x2), (3, .int x3), (4, .int x4), (5, .ref o)]) E.hx E.hb dL_program_25 hl (by decide) rfl (fun ls hl => ?_)
      refine lv_iconst (v := 3) E.hx E.hb dL_program_27 (by decide) ?_
      exact W.iret E.hx E.hb E.hr (fun t ht _ => ⟨_, I1, A1, f, rfl, by rw [ht]; exact P1, by rw [ht]; exact Po1, Or.inr ⟨2, 3, ho1, by decide, rfl⟩, S1.F ht⟩) S1.2.2 dL_program_28 E.hk
  · have Po1 := P_keep Po hk1 (fun k q hq => by rw [one_in hq]; exact ho)
    refine lv_i2l (v := r.toInt64) E.hx E.hb dL_program_12 rfl ?_
    refine va_last E.hx E.hb KA (P_app P1 Po1) (cwo_D N ho) S1 44 1 rfl rfl (vp_in_nI (n := 0) (N := 1) (by decide) (by decide)) dL_program_13 (fun H2 locs2 P2 D2 S2 => ?_)
    have P2 : va_P D classes (cw cyI ad I1 A1 ++ [(o, .inl (cyL, 1, .inr (.inl (vp_updL f (0 : Int32).toNatClampNeg r.toInt64))))]) H2 := P2
    refine lv_goto (tgt := 29) E.hx E.hb dL_program_14 (by decide) ?_
    refine lv_iconst (v := 0) E.hx E.hb dL_program_29 (by decide) ?_
    exact W.iret E.hx E.hb E.hr (fun t ht _ => ⟨0, I1, A1, vp_updL f (0 : Int32).toNatClampNeg r.toInt64, rfl, by rw [ht]; exact P_left P2, by rw [ht]; exact P_right P2, Or.inl ⟨r, ho1, rfl, fun _ => updL0 f r.toInt64⟩, S2.F ht⟩) S2.2.2 dL_program_30 E.hk
set_option maxHeartbeats 4000000 in
set_option maxRecDepth 100000 in
theorem c_L_tick (l : Launch) (hfl : l.stackTraces = false) {H : Heap} {D : va_G} {cyI cyL : ClassId} {ad : Nat → Nat} {I : Nat → Int32} {A : Nat → Nat → Int32} (N : AdN 44 ad) (P : va_P D classes (cw cyI ad I A) H) {o : Nat} {f : Nat → Int64} (Po : va_P D classes [(o, .inl (cyL, 1, .inr (.inl f)))] H) (ho : ¬ InN 44 ad o) {x1 : Int32} {out : OutT} (h : B_X6_tick I A x1 = some out) (hx : ∀ k I1 A1, out = .inr (k, I1, A1) → ∃ c, (k, c) ∈ ([(0, 1), (2, 2)] : List (Nat × Nat))) : Met l yL_tick (.codeWith yL_tick cL_tick 4 (some .int) [(0, 9, 12, 13), (0, 9, 15, 25)] :: TA) (rmX 8) (PX [.ref (ad 0), .int x1, .ref o] H (KL D cyI cyL ad)) (QL D cyI cyL ad o false [(0, 1), (2, 2)] out) 1 6 (InL ad o) := by
  refine va_MetW (cc := cL_tick) (maxL := 4) (ret := some .int) (hh := [(0, 9, 12, 13), (0, 9, 15, 25)]) (by decide +kernel) rfl ?_
  intro p e s m args below meth c s₁ BB hml hv
  obtain ⟨rfl, hH, K0, KA⟩ := hv
  subst hH
  have hts := atoms_spec (ws := (.codeWith yL_tick cL_tick 4 (some .int) [(0, 9, 12, 13), (0, 9, 15, 25)] :: TA)) BB.pre
  have tab := vx_table (x := yL_tick) BB (hts _ List.mem_cons_self)
  have E : EX p s m (List.toArray [.ref (ad 0), .int x1, .ref o]) meth c cL_tick 4 RL (some .int) := ⟨BB.exec, BB.bytes, hml, findClass_of_methodNamed BB.named, fun w hw => hts w (List.mem_cons_of_mem _ hw), BB.returns, BB.notSynchronized⟩
  have S : va_S (InL ad o) s.heap s.heap [] := va_S.rf
  have hl := lv_entry [.ref (ad 0), .int x1, .ref o] (n := 4) (Nat.le_of_ble_eq_true rfl)
  rw [lg_entry_eq]
  generalize (lg_sl [.ref (ad 0), .int x1, .ref o] ++ List.replicate (4 - (lg_sl [.ref (ad 0), .int x1, .ref o]).length) Slot.unset).toArray = ls at hl ⊢
  have hl : lv_has ls 4 [(0, .ref (ad 0)), (1, .int x1), (2, .ref o)] := hl
  refine lv_aload_n E.hx E.hb dL_tick_0 rfl (lv_at hl 2 rfl) ?_
  refine lv_iconst (v := 0) E.hx E.hb dL_tick_1 (by decide) ?_
  refine lv_aload_n E.hx E.hb dL_tick_2 rfl (lv_at hl 0 rfl) ?_
  refine lv_iload_n E.hx E.hb dL_tick_3 rfl (lv_at hl 1 rfl) ?_
  refine vt_call (vx_runV (As := [.int x1]) (rest := [.int 0, .ref o]) E.fix (c_X6_tick l hfl N P x1 h) (cwV 1 E.ht (gV kML_L_41 kIM_X6_tick kSE_X6_tick kIN_X6 kCO_X6_tick) rfl rfl rfl ⟨rfl, ds_X6_tick⟩ ⟨Nat.le_of_ble_eq_true rfl, Nat.le_of_ble_eq_true rfl⟩) ⟨PX_blind KC_blind, va_recv K0.k P (show classes[6]? = some (RX6, TX6, 9) from rfl) cw_g0, fun U hU hW9 => ⟨rfl, hU, K0.warm hW9⟩⟩ rfl rfl hl.1 rfl (lv_room (Nat.le_of_ble_eq_true rfl)) dL_tick_4 ⟨Nat.le_refl 1, Nat.le_refl 6⟩) S (fun q h => Or.inl h) (fun k I1 A1 ce q9 H1 locs1 ho1 P1 hk1 S1 hce hcv hcl => ?_) (fun r I1 A1 H1 locs1 ho1 P1 hk1 S1 => ?_)
  · have Po1 := P_keep Po hk1 (fun k q hq => by rw [one_in hq]; exact ho)
    obtain ⟨cc, hm⟩ := hx k I1 A1 ho1
    simp only [List.mem_cons, Prod.mk.injEq, List.not_mem_nil, or_false] at hm
    rcases hm with ⟨rfl, rfl⟩ | ⟨rfl, rfl⟩
    · refine vx_catch (own := RL) (name := "java/lang/IllegalArgumentException") E.ho [] ⟨0, 9, 12, 13⟩ [⟨0, 9, 15, 25⟩] tab (fun z hz => nomatch hz) (by decide) (by decide) (E.ht _ kCL_L_13) (va_Nw.use rfl (K0.ca "java/lang/IllegalArgumentException" (List.mem_of_getElem? (i := 0) rfl))) hce hcv hcl ?_
      refine lv_astore_n (lv' := [(3, .ref q9), (0, .ref (ad 0)), (1, .int x1), (2, .ref o)]) E.hx E.hb dL_tick_12 rfl hl (by decide) rfl (fun ls hl => ?_)
      refine lv_iconst (v := 1) E.hx E.hb dL_tick_13 (by decide) ?_
      exact W.iret E.hx E.hb E.hr (fun t ht _ => ⟨_, I1, A1, f, rfl, by rw [ht]; exact P1, by rw [ht]; exact Po1, Or.inr ⟨0, 1, ho1, by decide, rfl⟩, S1.F ht⟩) S1.2.2 dL_tick_14 E.hk
    · refine vx_catch (own := RL) (name := "java/lang/IllegalStateException") E.ho [⟨0, 9, 12, 13⟩] ⟨0, 9, 15, 25⟩ [] tab (fun z hz => by rw [List.mem_singleton.mp hz]; exact Or.inr ⟨by decide, _, E.ht _ kCL_L_13, K0.nc _ (List.mem_of_getElem? (i := 2) rfl)⟩) (by decide) (by decide) (E.ht _ kCL_L_25) (va_Nw.use rfl (K0.ca "java/lang/IllegalStateException" (List.mem_of_getElem? (i := 2) rfl))) hce hcv hcl ?_
      refine lv_astore_n (lv' := [(3, .ref q9), (0, .ref (ad 0)), (1, .int x1), (2, .ref o)]) E.hx E.hb dL_tick_15 rfl hl (by decide) rfl (fun ls hl => ?_)
      refine lv_iconst (v := 2) E.hx E.hb dL_tick_16 (by decide) ?_
      exact W.iret E.hx E.hb E.hr (fun t ht _ => ⟨_, I1, A1, f, rfl, by rw [ht]; exact P1, by rw [ht]; exact Po1, Or.inr ⟨2, 2, ho1, by decide, rfl⟩, S1.F ht⟩) S1.2.2 dL_tick_17 E.hk
  · have Po1 := P_keep Po hk1 (fun k q hq => by rw [one_in hq]; exact ho)
    refine lv_i2l (v := r.toInt64) E.hx E.hb dL_tick_7 rfl ?_
    refine va_last E.hx E.hb KA (P_app P1 Po1) (cwo_D N ho) S1 44 1 rfl rfl (vp_in_nI (n := 0) (N := 1) (by decide) (by decide)) dL_tick_8 (fun H2 locs2 P2 D2 S2 => ?_)
    have P2 : va_P D classes (cw cyI ad I1 A1 ++ [(o, .inl (cyL, 1, .inr (.inl (vp_updL f (0 : Int32).toNatClampNeg r.toInt64))))]) H2 := P2
    refine lv_goto (tgt := 18) E.hx E.hb dL_tick_9 (by decide) ?_
    refine lv_iconst (v := 0) E.hx E.hb dL_tick_18 (by decide) ?_
    exact W.iret E.hx E.hb E.hr (fun t ht _ => ⟨0, I1, A1, vp_updL f (0 : Int32).toNatClampNeg r.toInt64, rfl, by rw [ht]; exact P_left P2, by rw [ht]; exact P_right P2, Or.inl ⟨r, ho1, rfl, fun _ => updL0 f r.toInt64⟩, S2.F ht⟩) S2.2.2 dL_tick_19 E.hk
set_option maxHeartbeats 4000000 in
set_option maxRecDepth 100000 in
theorem c_L_plates (l : Launch) (hfl : l.stackTraces = false) {H : Heap} {D : va_G} {cyI cyL : ClassId} {ad : Nat → Nat} {I : Nat → Int32} {A : Nat → Nat → Int32} (N : AdN 44 ad) (P : va_P D classes (cw cyI ad I A) H) {o : Nat} {f : Nat → Int64} (Po : va_P D classes [(o, .inl (cyL, 1, .inr (.inl f)))] H) (ho : ¬ InN 44 ad o) {x1 : Int32} {out : OutT} (h : B_X6_plates I A x1 = some out) (hx : ∀ k I1 A1, out = .inr (k, I1, A1) → ∃ c, (k, c) ∈ ([(0, 1)] : List (Nat × Nat))) : Met l yL_plates (.codeWith yL_plates cL_plates 4 (some .int) [(0, 9, 12, 13)] :: TA) (rmX 8) (PX [.ref (ad 0), .int x1, .ref o] H (KL D cyI cyL ad)) (QL D cyI cyL ad o false [(0, 1)] out) 1 6 (InL ad o) := by
  refine va_MetW (cc := cL_plates) (maxL := 4) (ret := some .int) (hh := [(0, 9, 12, 13)]) (by decide +kernel) rfl ?_
  intro p e s m args below meth c s₁ BB hml hv
  obtain ⟨rfl, hH, K0, KA⟩ := hv
  subst hH
  have hts := atoms_spec (ws := (.codeWith yL_plates cL_plates 4 (some .int) [(0, 9, 12, 13)] :: TA)) BB.pre
  have tab := vx_table (x := yL_plates) BB (hts _ List.mem_cons_self)
  have E : EX p s m (List.toArray [.ref (ad 0), .int x1, .ref o]) meth c cL_plates 4 RL (some .int) := ⟨BB.exec, BB.bytes, hml, findClass_of_methodNamed BB.named, fun w hw => hts w (List.mem_cons_of_mem _ hw), BB.returns, BB.notSynchronized⟩
  have S : va_S (InL ad o) s.heap s.heap [] := va_S.rf
  have hl := lv_entry [.ref (ad 0), .int x1, .ref o] (n := 4) (Nat.le_of_ble_eq_true rfl)
  rw [lg_entry_eq]
  generalize (lg_sl [.ref (ad 0), .int x1, .ref o] ++ List.replicate (4 - (lg_sl [.ref (ad 0), .int x1, .ref o]).length) Slot.unset).toArray = ls at hl ⊢
  have hl : lv_has ls 4 [(0, .ref (ad 0)), (1, .int x1), (2, .ref o)] := hl
  refine lv_aload_n E.hx E.hb dL_plates_0 rfl (lv_at hl 2 rfl) ?_
  refine lv_iconst (v := 0) E.hx E.hb dL_plates_1 (by decide) ?_
  refine lv_aload_n E.hx E.hb dL_plates_2 rfl (lv_at hl 0 rfl) ?_
  refine lv_iload_n E.hx E.hb dL_plates_3 rfl (lv_at hl 1 rfl) ?_
  refine vt_call (vx_runV (As := [.int x1]) (rest := [.int 0, .ref o]) E.fix (c_X6_plates l hfl N P x1 h) (cwV 1 E.ht (gV kML_L_45 kIM_X6_plates kSE_X6_plates kIN_X6 kCO_X6_plates) rfl rfl rfl ⟨rfl, ds_X6_plates⟩ ⟨Nat.le_of_ble_eq_true rfl, Nat.le_of_ble_eq_true rfl⟩) ⟨PX_blind KC_blind, va_recv K0.k P (show classes[6]? = some (RX6, TX6, 9) from rfl) cw_g0, fun U hU hW9 => ⟨rfl, hU, K0.warm hW9⟩⟩ rfl rfl hl.1 rfl (lv_room (Nat.le_of_ble_eq_true rfl)) dL_plates_4 ⟨Nat.le_refl 1, Nat.le_refl 6⟩) S (fun q h => Or.inl h) (fun k I1 A1 ce q9 H1 locs1 ho1 P1 hk1 S1 hce hcv hcl => ?_) (fun r I1 A1 H1 locs1 ho1 P1 hk1 S1 => ?_)
  · have Po1 := P_keep Po hk1 (fun k q hq => by rw [one_in hq]; exact ho)
    obtain ⟨cc, hm⟩ := hx k I1 A1 ho1
    simp only [List.mem_cons, Prod.mk.injEq, List.not_mem_nil, or_false] at hm
    rcases hm with ⟨rfl, rfl⟩
    refine vx_catch (own := RL) (name := "java/lang/IllegalArgumentException") E.ho [] ⟨0, 9, 12, 13⟩ [] tab (fun z hz => nomatch hz) (by decide) (by decide) (E.ht _ kCL_L_13) (va_Nw.use rfl (K0.ca "java/lang/IllegalArgumentException" (List.mem_of_getElem? (i := 0) rfl))) hce hcv hcl ?_
    refine lv_astore_n (lv' := [(3, .ref q9), (0, .ref (ad 0)), (1, .int x1), (2, .ref o)]) E.hx E.hb dL_plates_12 rfl hl (by decide) rfl (fun ls hl => ?_)
    refine lv_iconst (v := 1) E.hx E.hb dL_plates_13 (by decide) ?_
    exact W.iret E.hx E.hb E.hr (fun t ht _ => ⟨_, I1, A1, f, rfl, by rw [ht]; exact P1, by rw [ht]; exact Po1, Or.inr ⟨0, 1, ho1, by decide, rfl⟩, S1.F ht⟩) S1.2.2 dL_plates_14 E.hk
  · have Po1 := P_keep Po hk1 (fun k q hq => by rw [one_in hq]; exact ho)
    refine lv_i2l (v := r.toInt64) E.hx E.hb dL_plates_7 rfl ?_
    refine va_last E.hx E.hb KA (P_app P1 Po1) (cwo_D N ho) S1 44 1 rfl rfl (vp_in_nI (n := 0) (N := 1) (by decide) (by decide)) dL_plates_8 (fun H2 locs2 P2 D2 S2 => ?_)
    have P2 : va_P D classes (cw cyI ad I1 A1 ++ [(o, .inl (cyL, 1, .inr (.inl (vp_updL f (0 : Int32).toNatClampNeg r.toInt64))))]) H2 := P2
    refine lv_goto (tgt := 15) E.hx E.hb dL_plates_9 (by decide) ?_
    refine lv_iconst (v := 0) E.hx E.hb dL_plates_15 (by decide) ?_
    exact W.iret E.hx E.hb E.hr (fun t ht _ => ⟨0, I1, A1, vp_updL f (0 : Int32).toNatClampNeg r.toInt64, rfl, by rw [ht]; exact P_left P2, by rw [ht]; exact P_right P2, Or.inl ⟨r, ho1, rfl, fun _ => updL0 f r.toInt64⟩, S2.F ht⟩) S2.2.2 dL_plates_16 E.hk
set_option maxHeartbeats 4000000 in
set_option maxRecDepth 100000 in
theorem c_L_picture (l : Launch) (hfl : l.stackTraces = false) {H : Heap} {D : va_G} {cyI cyL : ClassId} {ad : Nat → Nat} {I : Nat → Int32} {A : Nat → Nat → Int32} (N : AdN 44 ad) (P : va_P D classes (cw cyI ad I A) H) {o : Nat} {f : Nat → Int64} (Po : va_P D classes [(o, .inl (cyL, 1, .inr (.inl f)))] H) (ho : ¬ InN 44 ad o) {out : OutT} (h : B_X6_picture I A  = some out) (hx : ∀ k I1 A1, out = .inr (k, I1, A1) → ∃ c, (k, c) ∈ ([(2, 1)] : List (Nat × Nat))) : Met l yL_picture (.codeWith yL_picture cL_picture 3 (some .int) [(0, 8, 11, 25)] :: TA) (rmX 8) (PX [.ref (ad 0), .ref o] H (KL D cyI cyL ad)) (QL D cyI cyL ad o false [(2, 1)] out) 1 6 (InL ad o) := by
  refine va_MetW (cc := cL_picture) (maxL := 3) (ret := some .int) (hh := [(0, 8, 11, 25)]) (by decide +kernel) rfl ?_
  intro p e s m args below meth c s₁ BB hml hv
  obtain ⟨rfl, hH, K0, KA⟩ := hv
  subst hH
  have hts := atoms_spec (ws := (.codeWith yL_picture cL_picture 3 (some .int) [(0, 8, 11, 25)] :: TA)) BB.pre
  have tab := vx_table (x := yL_picture) BB (hts _ List.mem_cons_self)
  have E : EX p s m (List.toArray [.ref (ad 0), .ref o]) meth c cL_picture 3 RL (some .int) := ⟨BB.exec, BB.bytes, hml, findClass_of_methodNamed BB.named, fun w hw => hts w (List.mem_cons_of_mem _ hw), BB.returns, BB.notSynchronized⟩
  have S : va_S (InL ad o) s.heap s.heap [] := va_S.rf
  have hl := lv_entry [.ref (ad 0), .ref o] (n := 3) (Nat.le_of_ble_eq_true rfl)
  rw [lg_entry_eq]
  generalize (lg_sl [.ref (ad 0), .ref o] ++ List.replicate (3 - (lg_sl [.ref (ad 0), .ref o]).length) Slot.unset).toArray = ls at hl ⊢
  have hl : lv_has ls 3 [(0, .ref (ad 0)), (1, .ref o)] := hl
  refine lv_aload_n E.hx E.hb dL_picture_0 rfl (lv_at hl 1 rfl) ?_
  refine lv_iconst (v := 0) E.hx E.hb dL_picture_1 (by decide) ?_
  refine lv_aload_n E.hx E.hb dL_picture_2 rfl (lv_at hl 0 rfl) ?_
  refine vt_call (vx_runV (As := []) (rest := [.int 0, .ref o]) E.fix (c_X6_picture l hfl N P  h) (cwV 0 E.ht (gV kML_L_48 kIM_X6_picture kSE_X6_picture kIN_X6 kCO_X6_picture) rfl rfl rfl ⟨rfl, ds_X6_picture⟩ ⟨Nat.le_of_ble_eq_true rfl, Nat.le_of_ble_eq_true rfl⟩) ⟨PX_blind KC_blind, va_recv K0.k P (show classes[6]? = some (RX6, TX6, 9) from rfl) cw_g0, fun U hU hW9 => ⟨rfl, hU, K0.warm hW9⟩⟩ rfl rfl hl.1 rfl (lv_room (Nat.le_of_ble_eq_true rfl)) dL_picture_3 ⟨Nat.le_refl 1, Nat.le_refl 6⟩) S (fun q h => Or.inl h) (fun k I1 A1 ce q9 H1 locs1 ho1 P1 hk1 S1 hce hcv hcl => ?_) (fun r I1 A1 H1 locs1 ho1 P1 hk1 S1 => ?_)
  · have Po1 := P_keep Po hk1 (fun k q hq => by rw [one_in hq]; exact ho)
    obtain ⟨cc, hm⟩ := hx k I1 A1 ho1
    simp only [List.mem_cons, Prod.mk.injEq, List.not_mem_nil, or_false] at hm
    rcases hm with ⟨rfl, rfl⟩
    refine vx_catch (own := RL) (name := "java/lang/IllegalStateException") E.ho [] ⟨0, 8, 11, 25⟩ [] tab (fun z hz => nomatch hz) (by decide) (by decide) (E.ht _ kCL_L_25) (va_Nw.use rfl (K0.ca "java/lang/IllegalStateException" (List.mem_of_getElem? (i := 2) rfl))) hce hcv hcl ?_
    refine lv_astore_n (lv' := [(2, .ref q9), (0, .ref (ad 0)), (1, .ref o)]) E.hx E.hb dL_picture_11 rfl hl (by decide) rfl (fun ls hl => ?_)
    refine lv_iconst (v := 1) E.hx E.hb dL_picture_12 (by decide) ?_
    exact W.iret E.hx E.hb E.hr (fun t ht _ => ⟨_, I1, A1, f, rfl, by rw [ht]; exact P1, by rw [ht]; exact Po1, Or.inr ⟨2, 1, ho1, by decide, rfl⟩, S1.F ht⟩) S1.2.2 dL_picture_13 E.hk
  · have Po1 := P_keep Po hk1 (fun k q hq => by rw [one_in hq]; exact ho)
    refine lv_i2l (v := r.toInt64) E.hx E.hb dL_picture_6 rfl ?_
    refine va_last E.hx E.hb KA (P_app P1 Po1) (cwo_D N ho) S1 44 1 rfl rfl (vp_in_nI (n := 0) (N := 1) (by decide) (by decide)) dL_picture_7 (fun H2 locs2 P2 D2 S2 => ?_)
    have P2 : va_P D classes (cw cyI ad I1 A1 ++ [(o, .inl (cyL, 1, .inr (.inl (vp_updL f (0 : Int32).toNatClampNeg r.toInt64))))]) H2 := P2
    refine lv_goto (tgt := 14) E.hx E.hb dL_picture_8 (by decide) ?_
    refine lv_iconst (v := 0) E.hx E.hb dL_picture_14 (by decide) ?_
    exact W.iret E.hx E.hb E.hr (fun t ht _ => ⟨0, I1, A1, vp_updL f (0 : Int32).toNatClampNeg r.toInt64, rfl, by rw [ht]; exact P_left P2, by rw [ht]; exact P_right P2, Or.inl ⟨r, ho1, rfl, fun _ => updL0 f r.toInt64⟩, S2.F ht⟩) S2.2.2 dL_picture_15 E.hk
set_option maxHeartbeats 4000000 in
set_option maxRecDepth 100000 in
theorem c_L_told (l : Launch) (hfl : l.stackTraces = false) {H : Heap} {D : va_G} {cyI cyL : ClassId} {ad : Nat → Nat} {I : Nat → Int32} {A : Nat → Nat → Int32} (N : AdN 44 ad) (P : va_P D classes (cw cyI ad I A) H) {o : Nat} {f : Nat → Int64} (Po : va_P D classes [(o, .inl (cyL, 1, .inr (.inl f)))] H) (ho : ¬ InN 44 ad o) {x1 x2 x3 : Int32} {out : OutT} (h : B_X6_told I A x1 x2 x3 = some out) (hx : ∀ k I1 A1, out = .inr (k, I1, A1) → ∃ c, (k, c) ∈ ([(1, 1), (0, 2)] : List (Nat × Nat))) : Met l yL_told (.codeWith yL_told cL_told 6 (some .int) [(0, 12, 15, 23), (0, 12, 19, 13)] :: TA) (rmX 8) (PX [.ref (ad 0), .int x1, .int x2, .int x3, .ref o] H (KL D cyI cyL ad)) (QL D cyI cyL ad o false [(1, 1), (0, 2)] out) 1 6 (InL ad o) := by
  refine va_MetW (cc := cL_told) (maxL := 6) (ret := some .int) (hh := [(0, 12, 15, 23), (0, 12, 19, 13)]) (by decide +kernel) rfl ?_
  intro p e s m args below meth c s₁ BB hml hv
  obtain ⟨rfl, hH, K0, KA⟩ := hv
  subst hH
  have hts := atoms_spec (ws := (.codeWith yL_told cL_told 6 (some .int) [(0, 12, 15, 23), (0, 12, 19, 13)] :: TA)) BB.pre
  have tab := vx_table (x := yL_told) BB (hts _ List.mem_cons_self)
  have E : EX p s m (List.toArray [.ref (ad 0), .int x1, .int x2, .int x3, .ref o]) meth c cL_told 6 RL (some .int) := ⟨BB.exec, BB.bytes, hml, findClass_of_methodNamed BB.named, fun w hw => hts w (List.mem_cons_of_mem _ hw), BB.returns, BB.notSynchronized⟩
  have S : va_S (InL ad o) s.heap s.heap [] := va_S.rf
  have hl := lv_entry [.ref (ad 0), .int x1, .int x2, .int x3, .ref o] (n := 6) (Nat.le_of_ble_eq_true rfl)
  rw [lg_entry_eq]
  generalize (lg_sl [.ref (ad 0), .int x1, .int x2, .int x3, .ref o] ++ List.replicate (6 - (lg_sl [.ref (ad 0), .int x1, .int x2, .int x3, .ref o]).length) Slot.unset).toArray = ls at hl ⊢
  have hl : lv_has ls 6 [(0, .ref (ad 0)), (1, .int x1), (2, .int x2), (3, .int x3), (4, .ref o)] := hl
  refine lv_aload E.hx E.hb dL_told_0 (lv_at hl 4 rfl) ?_
  refine lv_iconst (v := 0) E.hx E.hb dL_told_2 (by decide) ?_
  refine lv_aload_n E.hx E.hb dL_told_3 rfl (lv_at hl 0 rfl) ?_
  refine lv_iload_n E.hx E.hb dL_told_4 rfl (lv_at hl 1 rfl) ?_
  refine lv_iload_n E.hx E.hb dL_told_5 rfl (lv_at hl 2 rfl) ?_
  refine lv_iload_n E.hx E.hb dL_told_6 rfl (lv_at hl 3 rfl) ?_
  refine vt_call (vx_runV (As := [.int x1, .int x2, .int x3]) (rest := [.int 0, .ref o]) E.fix (c_X6_told l hfl N P x1 x2 x3 h) (cwV 3 E.ht (gV kML_L_52 kIM_X6_told kSE_X6_told kIN_X6 kCO_X6_told) rfl rfl rfl ⟨rfl, ds_X6_told⟩ ⟨Nat.le_of_ble_eq_true rfl, Nat.le_of_ble_eq_true rfl⟩) ⟨PX_blind KC_blind, va_recv K0.k P (show classes[6]? = some (RX6, TX6, 9) from rfl) cw_g0, fun U hU hW9 => ⟨rfl, hU, K0.warm hW9⟩⟩ rfl rfl hl.1 rfl (lv_room (Nat.le_of_ble_eq_true rfl)) dL_told_7 ⟨Nat.le_refl 1, Nat.le_refl 6⟩) S (fun q h => Or.inl h) (fun k I1 A1 ce q9 H1 locs1 ho1 P1 hk1 S1 hce hcv hcl => ?_) (fun r I1 A1 H1 locs1 ho1 P1 hk1 S1 => ?_)
  · have Po1 := P_keep Po hk1 (fun k q hq => by rw [one_in hq]; exact ho)
    obtain ⟨cc, hm⟩ := hx k I1 A1 ho1
    simp only [List.mem_cons, Prod.mk.injEq, List.not_mem_nil, or_false] at hm
    rcases hm with ⟨rfl, rfl⟩ | ⟨rfl, rfl⟩
    · refine vx_catch (own := RL) (name := "java/lang/IndexOutOfBoundsException") E.ho [] ⟨0, 12, 15, 23⟩ [⟨0, 12, 19, 13⟩] tab (fun z hz => nomatch hz) (by decide) (by decide) (E.ht _ kCL_L_23) (va_Nw.use rfl (K0.ca "java/lang/IndexOutOfBoundsException" (List.mem_of_getElem? (i := 1) rfl))) hce hcv hcl ?_
      refine lv_astore (lv' := [(5, .ref q9), (0, .ref (ad 0)), (1, .int x1), (2, .int x2), (3, .int x3), (4, .ref o)]) E.hx E.hb dL_told_15 hl (by decide) rfl (fun ls hl => ?_)
      refine lv_iconst (v := 1) E.hx E.hb dL_told_17 (by decide) ?_
      exact W.iret E.hx E.hb E.hr (fun t ht _ => ⟨_, I1, A1, f, rfl, by rw [ht]; exact P1, by rw [ht]; exact Po1, Or.inr ⟨1, 1, ho1, by decide, rfl⟩, S1.F ht⟩) S1.2.2 dL_told_18 E.hk
    · refine vx_catch (own := RL) (name := "java/lang/IllegalArgumentException") E.ho [⟨0, 12, 15, 23⟩] ⟨0, 12, 19, 13⟩ [] tab (fun z hz => by rw [List.mem_singleton.mp hz]; exact Or.inr ⟨by decide, _, E.ht _ kCL_L_23, K0.nc _ (List.mem_of_getElem? (i := 0) rfl)⟩) (by decide) (by decide) (E.ht _ kCL_L_13) (va_Nw.use rfl (K0.ca "java/lang/IllegalArgumentException" (List.mem_of_getElem? (i := 0) rfl))) hce hcv hcl ?_
      refine lv_astore (lv' := [(5, .ref q9), (0, .ref (ad 0)), (1, .int x1), (2, .int x2), (3, .int x3), (4, .ref o)]) E.hx E.hb dL_told_19 hl (by decide) rfl (fun ls hl => ?_)
      refine lv_iconst (v := 2) E.hx E.hb dL_told_21 (by decide) ?_
      exact W.iret E.hx E.hb E.hr (fun t ht _ => ⟨_, I1, A1, f, rfl, by rw [ht]; exact P1, by rw [ht]; exact Po1, Or.inr ⟨0, 2, ho1, by decide, rfl⟩, S1.F ht⟩) S1.2.2 dL_told_22 E.hk
  · have Po1 := P_keep Po hk1 (fun k q hq => by rw [one_in hq]; exact ho)
    refine lv_i2l (v := r.toInt64) E.hx E.hb dL_told_10 rfl ?_
    refine va_last E.hx E.hb KA (P_app P1 Po1) (cwo_D N ho) S1 44 1 rfl rfl (vp_in_nI (n := 0) (N := 1) (by decide) (by decide)) dL_told_11 (fun H2 locs2 P2 D2 S2 => ?_)
    have P2 : va_P D classes (cw cyI ad I1 A1 ++ [(o, .inl (cyL, 1, .inr (.inl (vp_updL f (0 : Int32).toNatClampNeg r.toInt64))))]) H2 := P2
    refine lv_goto (tgt := 23) E.hx E.hb dL_told_12 (by decide) ?_
    refine lv_iconst (v := 0) E.hx E.hb dL_told_23 (by decide) ?_
    exact W.iret E.hx E.hb E.hr (fun t ht _ => ⟨0, I1, A1, vp_updL f (0 : Int32).toNatClampNeg r.toInt64, rfl, by rw [ht]; exact P_left P2, by rw [ht]; exact P_right P2, Or.inl ⟨r, ho1, rfl, fun _ => updL0 f r.toInt64⟩, S2.F ht⟩) S2.2.2 dL_told_24 E.hk
set_option maxHeartbeats 4000000 in
set_option maxRecDepth 100000 in
theorem c_L_least (l : Launch) (hfl : l.stackTraces = false) {H : Heap} {D : va_G} {cyI cyL : ClassId} {ad : Nat → Nat} {I : Nat → Int32} {A : Nat → Nat → Int32} (N : AdN 44 ad) (P : va_P D classes (cw cyI ad I A) H) {o : Nat} {f : Nat → Int64} (Po : va_P D classes [(o, .inl (cyL, 1, .inr (.inl f)))] H) (ho : ¬ InN 44 ad o) {x1 x2 x3 : Int32} {out : OutT} (h : B_X6_least I A x1 x2 x3 = some out) (hx : ∀ k I1 A1, out = .inr (k, I1, A1) → ∃ c, (k, c) ∈ ([(1, 1)] : List (Nat × Nat))) : Met l yL_least (.codeWith yL_least cL_least 6 (some .int) [(0, 12, 15, 23)] :: TA) (rmX 8) (PX [.ref (ad 0), .int x1, .int x2, .int x3, .ref o] H (KL D cyI cyL ad)) (QL D cyI cyL ad o false [(1, 1)] out) 1 6 (InL ad o) := by
  refine va_MetW (cc := cL_least) (maxL := 6) (ret := some .int) (hh := [(0, 12, 15, 23)]) (by decide +kernel) rfl ?_
  intro p e s m args below meth c s₁ BB hml hv
  obtain ⟨rfl, hH, K0, KA⟩ := hv
  subst hH
  have hts := atoms_spec (ws := (.codeWith yL_least cL_least 6 (some .int) [(0, 12, 15, 23)] :: TA)) BB.pre
  have tab := vx_table (x := yL_least) BB (hts _ List.mem_cons_self)
  have E : EX p s m (List.toArray [.ref (ad 0), .int x1, .int x2, .int x3, .ref o]) meth c cL_least 6 RL (some .int) := ⟨BB.exec, BB.bytes, hml, findClass_of_methodNamed BB.named, fun w hw => hts w (List.mem_cons_of_mem _ hw), BB.returns, BB.notSynchronized⟩
  have S : va_S (InL ad o) s.heap s.heap [] := va_S.rf
  have hl := lv_entry [.ref (ad 0), .int x1, .int x2, .int x3, .ref o] (n := 6) (Nat.le_of_ble_eq_true rfl)
  rw [lg_entry_eq]
  generalize (lg_sl [.ref (ad 0), .int x1, .int x2, .int x3, .ref o] ++ List.replicate (6 - (lg_sl [.ref (ad 0), .int x1, .int x2, .int x3, .ref o]).length) Slot.unset).toArray = ls at hl ⊢
  have hl : lv_has ls 6 [(0, .ref (ad 0)), (1, .int x1), (2, .int x2), (3, .int x3), (4, .ref o)] := hl
  refine lv_aload E.hx E.hb dL_least_0 (lv_at hl 4 rfl) ?_
  refine lv_iconst (v := 0) E.hx E.hb dL_least_2 (by decide) ?_
  refine lv_aload_n E.hx E.hb dL_least_3 rfl (lv_at hl 0 rfl) ?_
  refine lv_iload_n E.hx E.hb dL_least_4 rfl (lv_at hl 1 rfl) ?_
  refine lv_iload_n E.hx E.hb dL_least_5 rfl (lv_at hl 2 rfl) ?_
  refine lv_iload_n E.hx E.hb dL_least_6 rfl (lv_at hl 3 rfl) ?_
  refine vt_call (vx_runV (As := [.int x1, .int x2, .int x3]) (rest := [.int 0, .ref o]) E.fix (c_X6_least l hfl N P x1 x2 x3 h) (cwV 3 E.ht (gV kML_L_55 kIM_X6_least kSE_X6_least kIN_X6 kCO_X6_least) rfl rfl rfl ⟨rfl, ds_X6_least⟩ ⟨Nat.le_of_ble_eq_true rfl, Nat.le_of_ble_eq_true rfl⟩) ⟨PX_blind KC_blind, va_recv K0.k P (show classes[6]? = some (RX6, TX6, 9) from rfl) cw_g0, fun U hU hW9 => ⟨rfl, hU, K0.warm hW9⟩⟩ rfl rfl hl.1 rfl (lv_room (Nat.le_of_ble_eq_true rfl)) dL_least_7 ⟨Nat.le_refl 1, Nat.le_refl 6⟩) S (fun q h => Or.inl h) (fun k I1 A1 ce q9 H1 locs1 ho1 P1 hk1 S1 hce hcv hcl => ?_) (fun r I1 A1 H1 locs1 ho1 P1 hk1 S1 => ?_)
  · have Po1 := P_keep Po hk1 (fun k q hq => by rw [one_in hq]; exact ho)
    obtain ⟨cc, hm⟩ := hx k I1 A1 ho1
    simp only [List.mem_cons, Prod.mk.injEq, List.not_mem_nil, or_false] at hm
    rcases hm with ⟨rfl, rfl⟩
    refine vx_catch (own := RL) (name := "java/lang/IndexOutOfBoundsException") E.ho [] ⟨0, 12, 15, 23⟩ [] tab (fun z hz => nomatch hz) (by decide) (by decide) (E.ht _ kCL_L_23) (va_Nw.use rfl (K0.ca "java/lang/IndexOutOfBoundsException" (List.mem_of_getElem? (i := 1) rfl))) hce hcv hcl ?_
    refine lv_astore (lv' := [(5, .ref q9), (0, .ref (ad 0)), (1, .int x1), (2, .int x2), (3, .int x3), (4, .ref o)]) E.hx E.hb dL_least_15 hl (by decide) rfl (fun ls hl => ?_)
    refine lv_iconst (v := 1) E.hx E.hb dL_least_17 (by decide) ?_
    exact W.iret E.hx E.hb E.hr (fun t ht _ => ⟨_, I1, A1, f, rfl, by rw [ht]; exact P1, by rw [ht]; exact Po1, Or.inr ⟨1, 1, ho1, by decide, rfl⟩, S1.F ht⟩) S1.2.2 dL_least_18 E.hk
  · have Po1 := P_keep Po hk1 (fun k q hq => by rw [one_in hq]; exact ho)
    refine lv_i2l (v := r.toInt64) E.hx E.hb dL_least_10 rfl ?_
    refine va_last E.hx E.hb KA (P_app P1 Po1) (cwo_D N ho) S1 44 1 rfl rfl (vp_in_nI (n := 0) (N := 1) (by decide) (by decide)) dL_least_11 (fun H2 locs2 P2 D2 S2 => ?_)
    have P2 : va_P D classes (cw cyI ad I1 A1 ++ [(o, .inl (cyL, 1, .inr (.inl (vp_updL f (0 : Int32).toNatClampNeg r.toInt64))))]) H2 := P2
    refine lv_goto (tgt := 19) E.hx E.hb dL_least_12 (by decide) ?_
    refine lv_iconst (v := 0) E.hx E.hb dL_least_19 (by decide) ?_
    exact W.iret E.hx E.hb E.hr (fun t ht _ => ⟨0, I1, A1, vp_updL f (0 : Int32).toNatClampNeg r.toInt64, rfl, by rw [ht]; exact P_left P2, by rw [ht]; exact P_right P2, Or.inl ⟨r, ho1, rfl, fun _ => updL0 f r.toInt64⟩, S2.F ht⟩) S2.2.2 dL_least_20 E.hk
set_option maxHeartbeats 4000000 in
set_option maxRecDepth 100000 in
theorem c_L_winding (l : Launch) (hfl : l.stackTraces = false) {H : Heap} {D : va_G} {cyI cyL : ClassId} {ad : Nat → Nat} {I : Nat → Int32} {A : Nat → Nat → Int32} (N : AdN 44 ad) (P : va_P D classes (cw cyI ad I A) H) {o : Nat} {f : Nat → Int64} (Po : va_P D classes [(o, .inl (cyL, 1, .inr (.inl f)))] H) (ho : ¬ InN 44 ad o) {x1 x2 : Int32} {out : OutT} (h : B_X6_winding I A x1 x2 = some out) (hx : ∀ k I1 A1, out = .inr (k, I1, A1) → ∃ c, (k, c) ∈ ([(1, 1)] : List (Nat × Nat))) : Met l yL_winding (.codeWith yL_winding cL_winding 5 (some .int) [(0, 10, 13, 23)] :: TA) (rmX 8) (PX [.ref (ad 0), .int x1, .int x2, .ref o] H (KL D cyI cyL ad)) (QL D cyI cyL ad o false [(1, 1)] out) 1 6 (InL ad o) := by
  refine va_MetW (cc := cL_winding) (maxL := 5) (ret := some .int) (hh := [(0, 10, 13, 23)]) (by decide +kernel) rfl ?_
  intro p e s m args below meth c s₁ BB hml hv
  obtain ⟨rfl, hH, K0, KA⟩ := hv
  subst hH
  have hts := atoms_spec (ws := (.codeWith yL_winding cL_winding 5 (some .int) [(0, 10, 13, 23)] :: TA)) BB.pre
  have tab := vx_table (x := yL_winding) BB (hts _ List.mem_cons_self)
  have E : EX p s m (List.toArray [.ref (ad 0), .int x1, .int x2, .ref o]) meth c cL_winding 5 RL (some .int) := ⟨BB.exec, BB.bytes, hml, findClass_of_methodNamed BB.named, fun w hw => hts w (List.mem_cons_of_mem _ hw), BB.returns, BB.notSynchronized⟩
  have S : va_S (InL ad o) s.heap s.heap [] := va_S.rf
  have hl := lv_entry [.ref (ad 0), .int x1, .int x2, .ref o] (n := 5) (Nat.le_of_ble_eq_true rfl)
  rw [lg_entry_eq]
  generalize (lg_sl [.ref (ad 0), .int x1, .int x2, .ref o] ++ List.replicate (5 - (lg_sl [.ref (ad 0), .int x1, .int x2, .ref o]).length) Slot.unset).toArray = ls at hl ⊢
  have hl : lv_has ls 5 [(0, .ref (ad 0)), (1, .int x1), (2, .int x2), (3, .ref o)] := hl
  refine lv_aload_n E.hx E.hb dL_winding_0 rfl (lv_at hl 3 rfl) ?_
  refine lv_iconst (v := 0) E.hx E.hb dL_winding_1 (by decide) ?_
  refine lv_aload_n E.hx E.hb dL_winding_2 rfl (lv_at hl 0 rfl) ?_
  refine lv_iload_n E.hx E.hb dL_winding_3 rfl (lv_at hl 1 rfl) ?_
  refine lv_iload_n E.hx E.hb dL_winding_4 rfl (lv_at hl 2 rfl) ?_
  refine vt_call (vx_runV (As := [.int x1, .int x2]) (rest := [.int 0, .ref o]) E.fix (c_X6_winding l hfl N P x1 x2 h) (cwV 2 E.ht (gV kML_L_59 kIM_X6_winding kSE_X6_winding kIN_X6 kCO_X6_winding) rfl rfl rfl ⟨rfl, ds_X6_winding⟩ ⟨Nat.le_of_ble_eq_true rfl, Nat.le_of_ble_eq_true rfl⟩) ⟨PX_blind KC_blind, va_recv K0.k P (show classes[6]? = some (RX6, TX6, 9) from rfl) cw_g0, fun U hU hW9 => ⟨rfl, hU, K0.warm hW9⟩⟩ rfl rfl hl.1 rfl (lv_room (Nat.le_of_ble_eq_true rfl)) dL_winding_5 ⟨Nat.le_refl 1, Nat.le_refl 6⟩) S (fun q h => Or.inl h) (fun k I1 A1 ce q9 H1 locs1 ho1 P1 hk1 S1 hce hcv hcl => ?_) (fun r I1 A1 H1 locs1 ho1 P1 hk1 S1 => ?_)
  · have Po1 := P_keep Po hk1 (fun k q hq => by rw [one_in hq]; exact ho)
    obtain ⟨cc, hm⟩ := hx k I1 A1 ho1
    simp only [List.mem_cons, Prod.mk.injEq, List.not_mem_nil, or_false] at hm
    rcases hm with ⟨rfl, rfl⟩
    refine vx_catch (own := RL) (name := "java/lang/IndexOutOfBoundsException") E.ho [] ⟨0, 10, 13, 23⟩ [] tab (fun z hz => nomatch hz) (by decide) (by decide) (E.ht _ kCL_L_23) (va_Nw.use rfl (K0.ca "java/lang/IndexOutOfBoundsException" (List.mem_of_getElem? (i := 1) rfl))) hce hcv hcl ?_
    refine lv_astore (lv' := [(4, .ref q9), (0, .ref (ad 0)), (1, .int x1), (2, .int x2), (3, .ref o)]) E.hx E.hb dL_winding_13 hl (by decide) rfl (fun ls hl => ?_)
    refine lv_iconst (v := 1) E.hx E.hb dL_winding_15 (by decide) ?_
    exact W.iret E.hx E.hb E.hr (fun t ht _ => ⟨_, I1, A1, f, rfl, by rw [ht]; exact P1, by rw [ht]; exact Po1, Or.inr ⟨1, 1, ho1, by decide, rfl⟩, S1.F ht⟩) S1.2.2 dL_winding_16 E.hk
  · have Po1 := P_keep Po hk1 (fun k q hq => by rw [one_in hq]; exact ho)
    refine lv_i2l (v := r.toInt64) E.hx E.hb dL_winding_8 rfl ?_
    refine va_last E.hx E.hb KA (P_app P1 Po1) (cwo_D N ho) S1 44 1 rfl rfl (vp_in_nI (n := 0) (N := 1) (by decide) (by decide)) dL_winding_9 (fun H2 locs2 P2 D2 S2 => ?_)
    have P2 : va_P D classes (cw cyI ad I1 A1 ++ [(o, .inl (cyL, 1, .inr (.inl (vp_updL f (0 : Int32).toNatClampNeg r.toInt64))))]) H2 := P2
    refine lv_goto (tgt := 17) E.hx E.hb dL_winding_10 (by decide) ?_
    refine lv_iconst (v := 0) E.hx E.hb dL_winding_17 (by decide) ?_
    exact W.iret E.hx E.hb E.hr (fun t ht _ => ⟨0, I1, A1, vp_updL f (0 : Int32).toNatClampNeg r.toInt64, rfl, by rw [ht]; exact P_left P2, by rw [ht]; exact P_right P2, Or.inl ⟨r, ho1, rfl, fun _ => updL0 f r.toInt64⟩, S2.F ht⟩) S2.2.2 dL_winding_18 E.hk
set_option maxHeartbeats 4000000 in
set_option maxRecDepth 100000 in
theorem c_L_within (l : Launch) (hfl : l.stackTraces = false) {H : Heap} {D : va_G} {cyI cyL : ClassId} {ad : Nat → Nat} {I : Nat → Int32} {A : Nat → Nat → Int32} (N : AdN 44 ad) (P : va_P D classes (cw cyI ad I A) H) {o : Nat} {f : Nat → Int64} (Po : va_P D classes [(o, .inl (cyL, 1, .inr (.inl f)))] H) (ho : ¬ InN 44 ad o) {x1 x2 x3 x4 : Int32} {out : OutT} (h : B_X6_within I A x1 x2 x3 x4 = some out) (hx : ∀ k I1 A1, out = .inr (k, I1, A1) → ∃ c, (k, c) ∈ ([(1, 1), (0, 2)] : List (Nat × Nat))) : Met l yL_within (.codeWith yL_within cL_within 7 (some .int) [(0, 14, 17, 23), (0, 14, 21, 13)] :: TA) (rmX 8) (PX [.ref (ad 0), .int x1, .int x2, .int x3, .int x4, .ref o] H (KL D cyI cyL ad)) (QL D cyI cyL ad o false [(1, 1), (0, 2)] out) 1 6 (InL ad o) := by
  refine va_MetW (cc := cL_within) (maxL := 7) (ret := some .int) (hh := [(0, 14, 17, 23), (0, 14, 21, 13)]) (by decide +kernel) rfl ?_
  intro p e s m args below meth c s₁ BB hml hv
  obtain ⟨rfl, hH, K0, KA⟩ := hv
  subst hH
  have hts := atoms_spec (ws := (.codeWith yL_within cL_within 7 (some .int) [(0, 14, 17, 23), (0, 14, 21, 13)] :: TA)) BB.pre
  have tab := vx_table (x := yL_within) BB (hts _ List.mem_cons_self)
  have E : EX p s m (List.toArray [.ref (ad 0), .int x1, .int x2, .int x3, .int x4, .ref o]) meth c cL_within 7 RL (some .int) := ⟨BB.exec, BB.bytes, hml, findClass_of_methodNamed BB.named, fun w hw => hts w (List.mem_cons_of_mem _ hw), BB.returns, BB.notSynchronized⟩
  have S : va_S (InL ad o) s.heap s.heap [] := va_S.rf
  have hl := lv_entry [.ref (ad 0), .int x1, .int x2, .int x3, .int x4, .ref o] (n := 7) (Nat.le_of_ble_eq_true rfl)
  rw [lg_entry_eq]
  generalize (lg_sl [.ref (ad 0), .int x1, .int x2, .int x3, .int x4, .ref o] ++ List.replicate (7 - (lg_sl [.ref (ad 0), .int x1, .int x2, .int x3, .int x4, .ref o]).length) Slot.unset).toArray = ls at hl ⊢
  have hl : lv_has ls 7 [(0, .ref (ad 0)), (1, .int x1), (2, .int x2), (3, .int x3), (4, .int x4), (5, .ref o)] := hl
  refine lv_aload E.hx E.hb dL_within_0 (lv_at hl 5 rfl) ?_
  refine lv_iconst (v := 0) E.hx E.hb dL_within_2 (by decide) ?_
  refine lv_aload_n E.hx E.hb dL_within_3 rfl (lv_at hl 0 rfl) ?_
  refine lv_iload_n E.hx E.hb dL_within_4 rfl (lv_at hl 1 rfl) ?_
  refine lv_iload_n E.hx E.hb dL_within_5 rfl (lv_at hl 2 rfl) ?_
  refine lv_iload_n E.hx E.hb dL_within_6 rfl (lv_at hl 3 rfl) ?_
  refine lv_iload E.hx E.hb dL_within_7 (lv_at hl 4 rfl) ?_
  refine vt_call (vx_runV (As := [.int x1, .int x2, .int x3, .int x4]) (rest := [.int 0, .ref o]) E.fix (c_X6_within l hfl N P x1 x2 x3 x4 h) (cwV 4 E.ht (gV kML_L_62 kIM_X6_within kSE_X6_within kIN_X6 kCO_X6_within) rfl rfl rfl ⟨rfl, ds_X6_within⟩ ⟨Nat.le_of_ble_eq_true rfl, Nat.le_of_ble_eq_true rfl⟩) ⟨PX_blind KC_blind, va_recv K0.k P (show classes[6]? = some (RX6, TX6, 9) from rfl) cw_g0, fun U hU hW9 => ⟨rfl, hU, K0.warm hW9⟩⟩ rfl rfl hl.1 rfl (lv_room (Nat.le_of_ble_eq_true rfl)) dL_within_9 ⟨Nat.le_refl 1, Nat.le_refl 6⟩) S (fun q h => Or.inl h) (fun k I1 A1 ce q9 H1 locs1 ho1 P1 hk1 S1 hce hcv hcl => ?_) (fun r I1 A1 H1 locs1 ho1 P1 hk1 S1 => ?_)
  · have Po1 := P_keep Po hk1 (fun k q hq => by rw [one_in hq]; exact ho)
    obtain ⟨cc, hm⟩ := hx k I1 A1 ho1
    simp only [List.mem_cons, Prod.mk.injEq, List.not_mem_nil, or_false] at hm
    rcases hm with ⟨rfl, rfl⟩ | ⟨rfl, rfl⟩
    · refine vx_catch (own := RL) (name := "java/lang/IndexOutOfBoundsException") E.ho [] ⟨0, 14, 17, 23⟩ [⟨0, 14, 21, 13⟩] tab (fun z hz => nomatch hz) (by decide) (by decide) (E.ht _ kCL_L_23) (va_Nw.use rfl (K0.ca "java/lang/IndexOutOfBoundsException" (List.mem_of_getElem? (i := 1) rfl))) hce hcv hcl ?_
      refine lv_astore (lv' := [(6, .ref q9), (0, .ref (ad 0)), (1, .int x1), (2, .int x2), (3, .int x3), (4, .int x4), (5, .ref o)]) E.hx E.hb dL_within_17 hl (by decide) rfl (fun ls hl => ?_)
      refine lv_iconst (v := 1) E.hx E.hb dL_within_19 (by decide) ?_
      exact W.iret E.hx E.hb E.hr (fun t ht _ => ⟨_, I1, A1, f, rfl, by rw [ht]; exact P1, by rw [ht]; exact Po1, Or.inr ⟨1, 1, ho1, by decide, rfl⟩, S1.F ht⟩) S1.2.2 dL_within_20 E.hk
    · refine vx_catch (own := RL) (name := "java/lang/IllegalArgumentException") E.ho [⟨0, 14, 17, 23⟩] ⟨0, 14, 21, 13⟩ [] tab (fun z hz => by rw [List.mem_singleton.mp hz]; exact Or.inr ⟨by decide, _, E.ht _ kCL_L_23, K0.nc _ (List.mem_of_getElem? (i := 0) rfl)⟩) (by decide) (by decide) (E.ht _ kCL_L_13) (va_Nw.use rfl (K0.ca "java/lang/IllegalArgumentException" (List.mem_of_getElem? (i := 0) rfl))) hce hcv hcl ?_
      refine lv_astore (lv' := [(6, .ref q9), (0, .ref (ad 0)), (1, .int x1), (2, .int x2), (3, .int x3), (4, .int x4), (5, .ref o)]) E.hx E.hb dL_within_21 hl (by decide) rfl (fun ls hl => ?_)
      refine lv_iconst (v := 2) E.hx E.hb dL_within_23 (by decide) ?_
      exact W.iret E.hx E.hb E.hr (fun t ht _ => ⟨_, I1, A1, f, rfl, by rw [ht]; exact P1, by rw [ht]; exact Po1, Or.inr ⟨0, 2, ho1, by decide, rfl⟩, S1.F ht⟩) S1.2.2 dL_within_24 E.hk
  · have Po1 := P_keep Po hk1 (fun k q hq => by rw [one_in hq]; exact ho)
    refine lv_i2l (v := r.toInt64) E.hx E.hb dL_within_12 rfl ?_
    refine va_last E.hx E.hb KA (P_app P1 Po1) (cwo_D N ho) S1 44 1 rfl rfl (vp_in_nI (n := 0) (N := 1) (by decide) (by decide)) dL_within_13 (fun H2 locs2 P2 D2 S2 => ?_)
    have P2 : va_P D classes (cw cyI ad I1 A1 ++ [(o, .inl (cyL, 1, .inr (.inl (vp_updL f (0 : Int32).toNatClampNeg r.toInt64))))]) H2 := P2
    refine lv_goto (tgt := 25) E.hx E.hb dL_within_14 (by decide) ?_
    refine lv_iconst (v := 0) E.hx E.hb dL_within_25 (by decide) ?_
    exact W.iret E.hx E.hb E.hr (fun t ht _ => ⟨0, I1, A1, vp_updL f (0 : Int32).toNatClampNeg r.toInt64, rfl, by rw [ht]; exact P_left P2, by rw [ht]; exact P_right P2, Or.inl ⟨r, ho1, rfl, fun _ => updL0 f r.toInt64⟩, S2.F ht⟩) S2.2.2 dL_within_26 E.hk
set_option maxHeartbeats 4000000 in
set_option maxRecDepth 100000 in
theorem c_L_border (l : Launch) (hfl : l.stackTraces = false) {H : Heap} {D : va_G} {cyI cyL : ClassId} {ad : Nat → Nat} {I : Nat → Int32} {A : Nat → Nat → Int32} (N : AdN 44 ad) (P : va_P D classes (cw cyI ad I A) H) {o : Nat} {f : Nat → Int64} (Po : va_P D classes [(o, .inl (cyL, 1, .inr (.inl f)))] H) (ho : ¬ InN 44 ad o) {x1 x2 x3 x4 : Int32} {out : OutT} (h : B_X6_border I A x1 x2 x3 x4 = some out) (hx : ∀ k I1 A1, out = .inr (k, I1, A1) → ∃ c, (k, c) ∈ ([(1, 1), (0, 2)] : List (Nat × Nat))) : Met l yL_border (.codeWith yL_border cL_border 7 (some .int) [(0, 14, 17, 23), (0, 14, 21, 13)] :: TA) (rmX 8) (PX [.ref (ad 0), .int x1, .int x2, .int x3, .int x4, .ref o] H (KL D cyI cyL ad)) (QL D cyI cyL ad o false [(1, 1), (0, 2)] out) 1 6 (InL ad o) := by
  refine va_MetW (cc := cL_border) (maxL := 7) (ret := some .int) (hh := [(0, 14, 17, 23), (0, 14, 21, 13)]) (by decide +kernel) rfl ?_
  intro p e s m args below meth c s₁ BB hml hv
  obtain ⟨rfl, hH, K0, KA⟩ := hv
  subst hH
  have hts := atoms_spec (ws := (.codeWith yL_border cL_border 7 (some .int) [(0, 14, 17, 23), (0, 14, 21, 13)] :: TA)) BB.pre
  have tab := vx_table (x := yL_border) BB (hts _ List.mem_cons_self)
  have E : EX p s m (List.toArray [.ref (ad 0), .int x1, .int x2, .int x3, .int x4, .ref o]) meth c cL_border 7 RL (some .int) := ⟨BB.exec, BB.bytes, hml, findClass_of_methodNamed BB.named, fun w hw => hts w (List.mem_cons_of_mem _ hw), BB.returns, BB.notSynchronized⟩
  have S : va_S (InL ad o) s.heap s.heap [] := va_S.rf
  have hl := lv_entry [.ref (ad 0), .int x1, .int x2, .int x3, .int x4, .ref o] (n := 7) (Nat.le_of_ble_eq_true rfl)
  rw [lg_entry_eq]
  generalize (lg_sl [.ref (ad 0), .int x1, .int x2, .int x3, .int x4, .ref o] ++ List.replicate (7 - (lg_sl [.ref (ad 0), .int x1, .int x2, .int x3, .int x4, .ref o]).length) Slot.unset).toArray = ls at hl ⊢
  have hl : lv_has ls 7 [(0, .ref (ad 0)), (1, .int x1), (2, .int x2), (3, .int x3), (4, .int x4), (5, .ref o)] := hl
  refine lv_aload E.hx E.hb dL_border_0 (lv_at hl 5 rfl) ?_
  refine lv_iconst (v := 0) E.hx E.hb dL_border_2 (by decide) ?_
  refine lv_aload_n E.hx E.hb dL_border_3 rfl (lv_at hl 0 rfl) ?_
  refine lv_iload_n E.hx E.hb dL_border_4 rfl (lv_at hl 1 rfl) ?_
  refine lv_iload_n E.hx E.hb dL_border_5 rfl (lv_at hl 2 rfl) ?_
  refine lv_iload_n E.hx E.hb dL_border_6 rfl (lv_at hl 3 rfl) ?_
  refine lv_iload E.hx E.hb dL_border_7 (lv_at hl 4 rfl) ?_
  refine vt_call (vx_runV (As := [.int x1, .int x2, .int x3, .int x4]) (rest := [.int 0, .ref o]) E.fix (c_X6_border l hfl N P x1 x2 x3 x4 h) (cwV 4 E.ht (gV kML_L_65 kIM_X6_border kSE_X6_border kIN_X6 kCO_X6_border) rfl rfl rfl ⟨rfl, ds_X6_border⟩ ⟨Nat.le_of_ble_eq_true rfl, Nat.le_of_ble_eq_true rfl⟩) ⟨PX_blind KC_blind, va_recv K0.k P (show classes[6]? = some (RX6, TX6, 9) from rfl) cw_g0, fun U hU hW9 => ⟨rfl, hU, K0.warm hW9⟩⟩ rfl rfl hl.1 rfl (lv_room (Nat.le_of_ble_eq_true rfl)) dL_border_9 ⟨Nat.le_refl 1, Nat.le_refl 6⟩) S (fun q h => Or.inl h) (fun k I1 A1 ce q9 H1 locs1 ho1 P1 hk1 S1 hce hcv hcl => ?_) (fun r I1 A1 H1 locs1 ho1 P1 hk1 S1 => ?_)
  · have Po1 := P_keep Po hk1 (fun k q hq => by rw [one_in hq]; exact ho)
    obtain ⟨cc, hm⟩ := hx k I1 A1 ho1
    simp only [List.mem_cons, Prod.mk.injEq, List.not_mem_nil, or_false] at hm
    rcases hm with ⟨rfl, rfl⟩ | ⟨rfl, rfl⟩
    · refine vx_catch (own := RL) (name := "java/lang/IndexOutOfBoundsException") E.ho [] ⟨0, 14, 17, 23⟩ [⟨0, 14, 21, 13⟩] tab (fun z hz => nomatch hz) (by decide) (by decide) (E.ht _ kCL_L_23) (va_Nw.use rfl (K0.ca "java/lang/IndexOutOfBoundsException" (List.mem_of_getElem? (i := 1) rfl))) hce hcv hcl ?_
      refine lv_astore (lv' := [(6, .ref q9), (0, .ref (ad 0)), (1, .int x1), (2, .int x2), (3, .int x3), (4, .int x4), (5, .ref o)]) E.hx E.hb dL_border_17 hl (by decide) rfl (fun ls hl => ?_)
      refine lv_iconst (v := 1) E.hx E.hb dL_border_19 (by decide) ?_
      exact W.iret E.hx E.hb E.hr (fun t ht _ => ⟨_, I1, A1, f, rfl, by rw [ht]; exact P1, by rw [ht]; exact Po1, Or.inr ⟨1, 1, ho1, by decide, rfl⟩, S1.F ht⟩) S1.2.2 dL_border_20 E.hk
    · refine vx_catch (own := RL) (name := "java/lang/IllegalArgumentException") E.ho [⟨0, 14, 17, 23⟩] ⟨0, 14, 21, 13⟩ [] tab (fun z hz => by rw [List.mem_singleton.mp hz]; exact Or.inr ⟨by decide, _, E.ht _ kCL_L_23, K0.nc _ (List.mem_of_getElem? (i := 0) rfl)⟩) (by decide) (by decide) (E.ht _ kCL_L_13) (va_Nw.use rfl (K0.ca "java/lang/IllegalArgumentException" (List.mem_of_getElem? (i := 0) rfl))) hce hcv hcl ?_
      refine lv_astore (lv' := [(6, .ref q9), (0, .ref (ad 0)), (1, .int x1), (2, .int x2), (3, .int x3), (4, .int x4), (5, .ref o)]) E.hx E.hb dL_border_21 hl (by decide) rfl (fun ls hl => ?_)
      refine lv_iconst (v := 2) E.hx E.hb dL_border_23 (by decide) ?_
      exact W.iret E.hx E.hb E.hr (fun t ht _ => ⟨_, I1, A1, f, rfl, by rw [ht]; exact P1, by rw [ht]; exact Po1, Or.inr ⟨0, 2, ho1, by decide, rfl⟩, S1.F ht⟩) S1.2.2 dL_border_24 E.hk
  · have Po1 := P_keep Po hk1 (fun k q hq => by rw [one_in hq]; exact ho)
    refine lv_i2l (v := r.toInt64) E.hx E.hb dL_border_12 rfl ?_
    refine va_last E.hx E.hb KA (P_app P1 Po1) (cwo_D N ho) S1 44 1 rfl rfl (vp_in_nI (n := 0) (N := 1) (by decide) (by decide)) dL_border_13 (fun H2 locs2 P2 D2 S2 => ?_)
    have P2 : va_P D classes (cw cyI ad I1 A1 ++ [(o, .inl (cyL, 1, .inr (.inl (vp_updL f (0 : Int32).toNatClampNeg r.toInt64))))]) H2 := P2
    refine lv_goto (tgt := 25) E.hx E.hb dL_border_14 (by decide) ?_
    refine lv_iconst (v := 0) E.hx E.hb dL_border_25 (by decide) ?_
    exact W.iret E.hx E.hb E.hr (fun t ht _ => ⟨0, I1, A1, vp_updL f (0 : Int32).toNatClampNeg r.toInt64, rfl, by rw [ht]; exact P_left P2, by rw [ht]; exact P_right P2, Or.inl ⟨r, ho1, rfl, fun _ => updL0 f r.toInt64⟩, S2.F ht⟩) S2.2.2 dL_border_26 E.hk
set_option maxHeartbeats 4000000 in
set_option maxRecDepth 100000 in
theorem c_L_defect (l : Launch) (hfl : l.stackTraces = false) {H : Heap} {D : va_G} {cyI cyL : ClassId} {ad : Nat → Nat} {I : Nat → Int32} {A : Nat → Nat → Int32} (N : AdN 44 ad) (P : va_P D classes (cw cyI ad I A) H) {o : Nat} {f : Nat → Int64} (Po : va_P D classes [(o, .inl (cyL, 1, .inr (.inl f)))] H) (ho : ¬ InN 44 ad o) {x1 x2 : Int32} {out : OutT} (h : B_X6_defect I A x1 x2 = some out) (hx : ∀ k I1 A1, out = .inr (k, I1, A1) → ∃ c, (k, c) ∈ ([(1, 1), (0, 2)] : List (Nat × Nat))) : Met l yL_defect (.codeWith yL_defect cL_defect 5 (some .int) [(0, 10, 13, 23), (0, 10, 17, 13)] :: TA) (rmX 8) (PX [.ref (ad 0), .int x1, .int x2, .ref o] H (KL D cyI cyL ad)) (QL D cyI cyL ad o false [(1, 1), (0, 2)] out) 1 6 (InL ad o) := by
  refine va_MetW (cc := cL_defect) (maxL := 5) (ret := some .int) (hh := [(0, 10, 13, 23), (0, 10, 17, 13)]) (by decide +kernel) rfl ?_
  intro p e s m args below meth c s₁ BB hml hv
  obtain ⟨rfl, hH, K0, KA⟩ := hv
  subst hH
  have hts := atoms_spec (ws := (.codeWith yL_defect cL_defect 5 (some .int) [(0, 10, 13, 23), (0, 10, 17, 13)] :: TA)) BB.pre
  have tab := vx_table (x := yL_defect) BB (hts _ List.mem_cons_self)
  have E : EX p s m (List.toArray [.ref (ad 0), .int x1, .int x2, .ref o]) meth c cL_defect 5 RL (some .int) := ⟨BB.exec, BB.bytes, hml, findClass_of_methodNamed BB.named, fun w hw => hts w (List.mem_cons_of_mem _ hw), BB.returns, BB.notSynchronized⟩
  have S : va_S (InL ad o) s.heap s.heap [] := va_S.rf
  have hl := lv_entry [.ref (ad 0), .int x1, .int x2, .ref o] (n := 5) (Nat.le_of_ble_eq_true rfl)
  rw [lg_entry_eq]
  generalize (lg_sl [.ref (ad 0), .int x1, .int x2, .ref o] ++ List.replicate (5 - (lg_sl [.ref (ad 0), .int x1, .int x2, .ref o]).length) Slot.unset).toArray = ls at hl ⊢
  have hl : lv_has ls 5 [(0, .ref (ad 0)), (1, .int x1), (2, .int x2), (3, .ref o)] := hl
  refine lv_aload_n E.hx E.hb dL_defect_0 rfl (lv_at hl 3 rfl) ?_
  refine lv_iconst (v := 0) E.hx E.hb dL_defect_1 (by decide) ?_
  refine lv_aload_n E.hx E.hb dL_defect_2 rfl (lv_at hl 0 rfl) ?_
  refine lv_iload_n E.hx E.hb dL_defect_3 rfl (lv_at hl 1 rfl) ?_
  refine lv_iload_n E.hx E.hb dL_defect_4 rfl (lv_at hl 2 rfl) ?_
  refine vt_call (vx_runV (As := [.int x1, .int x2]) (rest := [.int 0, .ref o]) E.fix (c_X6_defect l hfl N P x1 x2 h) (cwV 2 E.ht (gV kML_L_68 kIM_X6_defect kSE_X6_defect kIN_X6 kCO_X6_defect) rfl rfl rfl ⟨rfl, ds_X6_defect⟩ ⟨Nat.le_of_ble_eq_true rfl, Nat.le_of_ble_eq_true rfl⟩) ⟨PX_blind KC_blind, va_recv K0.k P (show classes[6]? = some (RX6, TX6, 9) from rfl) cw_g0, fun U hU hW9 => ⟨rfl, hU, K0.warm hW9⟩⟩ rfl rfl hl.1 rfl (lv_room (Nat.le_of_ble_eq_true rfl)) dL_defect_5 ⟨Nat.le_refl 1, Nat.le_refl 6⟩) S (fun q h => Or.inl h) (fun k I1 A1 ce q9 H1 locs1 ho1 P1 hk1 S1 hce hcv hcl => ?_) (fun r I1 A1 H1 locs1 ho1 P1 hk1 S1 => ?_)
  · have Po1 := P_keep Po hk1 (fun k q hq => by rw [one_in hq]; exact ho)
    obtain ⟨cc, hm⟩ := hx k I1 A1 ho1
    simp only [List.mem_cons, Prod.mk.injEq, List.not_mem_nil, or_false] at hm
    rcases hm with ⟨rfl, rfl⟩ | ⟨rfl, rfl⟩
    · refine vx_catch (own := RL) (name := "java/lang/IndexOutOfBoundsException") E.ho [] ⟨0, 10, 13, 23⟩ [⟨0, 10, 17, 13⟩] tab (fun z hz => nomatch hz) (by decide) (by decide) (E.ht _ kCL_L_23) (va_Nw.use rfl (K0.ca "java/lang/IndexOutOfBoundsException" (List.mem_of_getElem? (i := 1) rfl))) hce hcv hcl ?_
      refine lv_astore (lv' := [(4, .ref q9), (0, .ref (ad 0)), (1, .int x1), (2, .int x2), (3, .ref o)]) E.hx E.hb dL_defect_13 hl (by decide) rfl (fun ls hl => ?_)
      refine lv_iconst (v := 1) E.hx E.hb dL_defect_15 (by decide) ?_
      exact W.iret E.hx E.hb E.hr (fun t ht _ => ⟨_, I1, A1, f, rfl, by rw [ht]; exact P1, by rw [ht]; exact Po1, Or.inr ⟨1, 1, ho1, by decide, rfl⟩, S1.F ht⟩) S1.2.2 dL_defect_16 E.hk
    · refine vx_catch (own := RL) (name := "java/lang/IllegalArgumentException") E.ho [⟨0, 10, 13, 23⟩] ⟨0, 10, 17, 13⟩ [] tab (fun z hz => by rw [List.mem_singleton.mp hz]; exact Or.inr ⟨by decide, _, E.ht _ kCL_L_23, K0.nc _ (List.mem_of_getElem? (i := 0) rfl)⟩) (by decide) (by decide) (E.ht _ kCL_L_13) (va_Nw.use rfl (K0.ca "java/lang/IllegalArgumentException" (List.mem_of_getElem? (i := 0) rfl))) hce hcv hcl ?_
      refine lv_astore (lv' := [(4, .ref q9), (0, .ref (ad 0)), (1, .int x1), (2, .int x2), (3, .ref o)]) E.hx E.hb dL_defect_17 hl (by decide) rfl (fun ls hl => ?_)
      refine lv_iconst (v := 2) E.hx E.hb dL_defect_19 (by decide) ?_
      exact W.iret E.hx E.hb E.hr (fun t ht _ => ⟨_, I1, A1, f, rfl, by rw [ht]; exact P1, by rw [ht]; exact Po1, Or.inr ⟨0, 2, ho1, by decide, rfl⟩, S1.F ht⟩) S1.2.2 dL_defect_20 E.hk
  · have Po1 := P_keep Po hk1 (fun k q hq => by rw [one_in hq]; exact ho)
    refine lv_i2l (v := r.toInt64) E.hx E.hb dL_defect_8 rfl ?_
    refine va_last E.hx E.hb KA (P_app P1 Po1) (cwo_D N ho) S1 44 1 rfl rfl (vp_in_nI (n := 0) (N := 1) (by decide) (by decide)) dL_defect_9 (fun H2 locs2 P2 D2 S2 => ?_)
    have P2 : va_P D classes (cw cyI ad I1 A1 ++ [(o, .inl (cyL, 1, .inr (.inl (vp_updL f (0 : Int32).toNatClampNeg r.toInt64))))]) H2 := P2
    refine lv_goto (tgt := 21) E.hx E.hb dL_defect_10 (by decide) ?_
    refine lv_iconst (v := 0) E.hx E.hb dL_defect_21 (by decide) ?_
    exact W.iret E.hx E.hb E.hr (fun t ht _ => ⟨0, I1, A1, vp_updL f (0 : Int32).toNatClampNeg r.toInt64, rfl, by rw [ht]; exact P_left P2, by rw [ht]; exact P_right P2, Or.inl ⟨r, ho1, rfl, fun _ => updL0 f r.toInt64⟩, S2.F ht⟩) S2.2.2 dL_defect_22 E.hk
set_option maxHeartbeats 4000000 in
set_option maxRecDepth 100000 in
theorem c_L_ofPixel (l : Launch) (hfl : l.stackTraces = false) {H : Heap} {D : va_G} {cyI cyL : ClassId} {ad : Nat → Nat} {I : Nat → Int32} {A : Nat → Nat → Int32} (N : AdN 44 ad) (P : va_P D classes (cw cyI ad I A) H) {o : Nat} {f : Nat → Int64} (Po : va_P D classes [(o, .inl (cyL, 1, .inr (.inl f)))] H) (ho : ¬ InN 44 ad o) {x1 x2 : Int32} {out : OutT} (h : B_X6_ofPixel I A x1 x2 = some out) (hx : ∀ k I1 A1, out = .inr (k, I1, A1) → ∃ c, (k, c) ∈ ([(1, 1), (0, 2)] : List (Nat × Nat))) : Met l yL_ofPixel (.codeWith yL_ofPixel cL_ofPixel 5 (some .int) [(0, 10, 13, 23), (0, 10, 17, 13)] :: TA) (rmX 8) (PX [.ref (ad 0), .int x1, .int x2, .ref o] H (KL D cyI cyL ad)) (QL D cyI cyL ad o false [(1, 1), (0, 2)] out) 1 6 (InL ad o) := by
  refine va_MetW (cc := cL_ofPixel) (maxL := 5) (ret := some .int) (hh := [(0, 10, 13, 23), (0, 10, 17, 13)]) (by decide +kernel) rfl ?_
  intro p e s m args below meth c s₁ BB hml hv
  obtain ⟨rfl, hH, K0, KA⟩ := hv
  subst hH
  have hts := atoms_spec (ws := (.codeWith yL_ofPixel cL_ofPixel 5 (some .int) [(0, 10, 13, 23), (0, 10, 17, 13)] :: TA)) BB.pre
  have tab := vx_table (x := yL_ofPixel) BB (hts _ List.mem_cons_self)
  have E : EX p s m (List.toArray [.ref (ad 0), .int x1, .int x2, .ref o]) meth c cL_ofPixel 5 RL (some .int) := ⟨BB.exec, BB.bytes, hml, findClass_of_methodNamed BB.named, fun w hw => hts w (List.mem_cons_of_mem _ hw), BB.returns, BB.notSynchronized⟩
  have S : va_S (InL ad o) s.heap s.heap [] := va_S.rf
  have hl := lv_entry [.ref (ad 0), .int x1, .int x2, .ref o] (n := 5) (Nat.le_of_ble_eq_true rfl)
  rw [lg_entry_eq]
  generalize (lg_sl [.ref (ad 0), .int x1, .int x2, .ref o] ++ List.replicate (5 - (lg_sl [.ref (ad 0), .int x1, .int x2, .ref o]).length) Slot.unset).toArray = ls at hl ⊢
  have hl : lv_has ls 5 [(0, .ref (ad 0)), (1, .int x1), (2, .int x2), (3, .ref o)] := hl
  refine lv_aload_n E.hx E.hb dL_ofPixel_0 rfl (lv_at hl 3 rfl) ?_
  refine lv_iconst (v := 0) E.hx E.hb dL_ofPixel_1 (by decide) ?_
  refine lv_aload_n E.hx E.hb dL_ofPixel_2 rfl (lv_at hl 0 rfl) ?_
  refine lv_iload_n E.hx E.hb dL_ofPixel_3 rfl (lv_at hl 1 rfl) ?_
  refine lv_iload_n E.hx E.hb dL_ofPixel_4 rfl (lv_at hl 2 rfl) ?_
  refine vt_call (vx_runV (As := [.int x1, .int x2]) (rest := [.int 0, .ref o]) E.fix (c_X6_ofPixel l hfl N P x1 x2 h) (cwV 2 E.ht (gV kML_L_71 kIM_X6_ofPixel kSE_X6_ofPixel kIN_X6 kCO_X6_ofPixel) rfl rfl rfl ⟨rfl, ds_X6_ofPixel⟩ ⟨Nat.le_of_ble_eq_true rfl, Nat.le_of_ble_eq_true rfl⟩) ⟨PX_blind KC_blind, va_recv K0.k P (show classes[6]? = some (RX6, TX6, 9) from rfl) cw_g0, fun U hU hW9 => ⟨rfl, hU, K0.warm hW9⟩⟩ rfl rfl hl.1 rfl (lv_room (Nat.le_of_ble_eq_true rfl)) dL_ofPixel_5 ⟨Nat.le_refl 1, Nat.le_refl 6⟩) S (fun q h => Or.inl h) (fun k I1 A1 ce q9 H1 locs1 ho1 P1 hk1 S1 hce hcv hcl => ?_) (fun r I1 A1 H1 locs1 ho1 P1 hk1 S1 => ?_)
  · have Po1 := P_keep Po hk1 (fun k q hq => by rw [one_in hq]; exact ho)
    obtain ⟨cc, hm⟩ := hx k I1 A1 ho1
    simp only [List.mem_cons, Prod.mk.injEq, List.not_mem_nil, or_false] at hm
    rcases hm with ⟨rfl, rfl⟩ | ⟨rfl, rfl⟩
    · refine vx_catch (own := RL) (name := "java/lang/IndexOutOfBoundsException") E.ho [] ⟨0, 10, 13, 23⟩ [⟨0, 10, 17, 13⟩] tab (fun z hz => nomatch hz) (by decide) (by decide) (E.ht _ kCL_L_23) (va_Nw.use rfl (K0.ca "java/lang/IndexOutOfBoundsException" (List.mem_of_getElem? (i := 1) rfl))) hce hcv hcl ?_
      refine lv_astore (lv' := [(4, .ref q9), (0, .ref (ad 0)), (1, .int x1), (2, .int x2), (3, .ref o)]) E.hx E.hb dL_ofPixel_13 hl (by decide) rfl (fun ls hl => ?_)
      refine lv_iconst (v := 1) E.hx E.hb dL_ofPixel_15 (by decide) ?_
      exact W.iret E.hx E.hb E.hr (fun t ht _ => ⟨_, I1, A1, f, rfl, by rw [ht]; exact P1, by rw [ht]; exact Po1, Or.inr ⟨1, 1, ho1, by decide, rfl⟩, S1.F ht⟩) S1.2.2 dL_ofPixel_16 E.hk
    · refine vx_catch (own := RL) (name := "java/lang/IllegalArgumentException") E.ho [⟨0, 10, 13, 23⟩] ⟨0, 10, 17, 13⟩ [] tab (fun z hz => by rw [List.mem_singleton.mp hz]; exact Or.inr ⟨by decide, _, E.ht _ kCL_L_23, K0.nc _ (List.mem_of_getElem? (i := 0) rfl)⟩) (by decide) (by decide) (E.ht _ kCL_L_13) (va_Nw.use rfl (K0.ca "java/lang/IllegalArgumentException" (List.mem_of_getElem? (i := 0) rfl))) hce hcv hcl ?_
      refine lv_astore (lv' := [(4, .ref q9), (0, .ref (ad 0)), (1, .int x1), (2, .int x2), (3, .ref o)]) E.hx E.hb dL_ofPixel_17 hl (by decide) rfl (fun ls hl => ?_)
      refine lv_iconst (v := 2) E.hx E.hb dL_ofPixel_19 (by decide) ?_
      exact W.iret E.hx E.hb E.hr (fun t ht _ => ⟨_, I1, A1, f, rfl, by rw [ht]; exact P1, by rw [ht]; exact Po1, Or.inr ⟨0, 2, ho1, by decide, rfl⟩, S1.F ht⟩) S1.2.2 dL_ofPixel_20 E.hk
  · have Po1 := P_keep Po hk1 (fun k q hq => by rw [one_in hq]; exact ho)
    refine lv_i2l (v := r.toInt64) E.hx E.hb dL_ofPixel_8 rfl ?_
    refine va_last E.hx E.hb KA (P_app P1 Po1) (cwo_D N ho) S1 44 1 rfl rfl (vp_in_nI (n := 0) (N := 1) (by decide) (by decide)) dL_ofPixel_9 (fun H2 locs2 P2 D2 S2 => ?_)
    have P2 : va_P D classes (cw cyI ad I1 A1 ++ [(o, .inl (cyL, 1, .inr (.inl (vp_updL f (0 : Int32).toNatClampNeg r.toInt64))))]) H2 := P2
    refine lv_goto (tgt := 21) E.hx E.hb dL_ofPixel_10 (by decide) ?_
    refine lv_iconst (v := 0) E.hx E.hb dL_ofPixel_21 (by decide) ?_
    exact W.iret E.hx E.hb E.hr (fun t ht _ => ⟨0, I1, A1, vp_updL f (0 : Int32).toNatClampNeg r.toInt64, rfl, by rw [ht]; exact P_left P2, by rw [ht]; exact P_right P2, Or.inl ⟨r, ho1, rfl, fun _ => updL0 f r.toInt64⟩, S2.F ht⟩) S2.2.2 dL_ofPixel_22 E.hk
set_option maxHeartbeats 4000000 in
set_option maxRecDepth 100000 in
theorem c_L_pictured (l : Launch) (hfl : l.stackTraces = false) {H : Heap} {D : va_G} {cyI cyL : ClassId} {ad : Nat → Nat} {I : Nat → Int32} {A : Nat → Nat → Int32} (N : AdN 44 ad) (P : va_P D classes (cw cyI ad I A) H) {o : Nat} {f : Nat → Int64} (Po : va_P D classes [(o, .inl (cyL, 1, .inr (.inl f)))] H) (ho : ¬ InN 44 ad o) {x1 x2 x3 : Int32} {out : OutT} (h : B_X6_pictured I A x1 x2 x3 = some out) (hx : ∀ k I1 A1, out = .inr (k, I1, A1) → ∃ c, (k, c) ∈ ([(1, 1)] : List (Nat × Nat))) : Met l yL_pictured (.codeWith yL_pictured cL_pictured 6 (some .int) [(0, 12, 15, 23)] :: TA) (rmX 8) (PX [.ref (ad 0), .int x1, .int x2, .int x3, .ref o] H (KL D cyI cyL ad)) (QL D cyI cyL ad o false [(1, 1)] out) 1 6 (InL ad o) := by
  refine va_MetW (cc := cL_pictured) (maxL := 6) (ret := some .int) (hh := [(0, 12, 15, 23)]) (by decide +kernel) rfl ?_
  intro p e s m args below meth c s₁ BB hml hv
  obtain ⟨rfl, hH, K0, KA⟩ := hv
  subst hH
  have hts := atoms_spec (ws := (.codeWith yL_pictured cL_pictured 6 (some .int) [(0, 12, 15, 23)] :: TA)) BB.pre
  have tab := vx_table (x := yL_pictured) BB (hts _ List.mem_cons_self)
  have E : EX p s m (List.toArray [.ref (ad 0), .int x1, .int x2, .int x3, .ref o]) meth c cL_pictured 6 RL (some .int) := ⟨BB.exec, BB.bytes, hml, findClass_of_methodNamed BB.named, fun w hw => hts w (List.mem_cons_of_mem _ hw), BB.returns, BB.notSynchronized⟩
  have S : va_S (InL ad o) s.heap s.heap [] := va_S.rf
  have hl := lv_entry [.ref (ad 0), .int x1, .int x2, .int x3, .ref o] (n := 6) (Nat.le_of_ble_eq_true rfl)
  rw [lg_entry_eq]
  generalize (lg_sl [.ref (ad 0), .int x1, .int x2, .int x3, .ref o] ++ List.replicate (6 - (lg_sl [.ref (ad 0), .int x1, .int x2, .int x3, .ref o]).length) Slot.unset).toArray = ls at hl ⊢
  have hl : lv_has ls 6 [(0, .ref (ad 0)), (1, .int x1), (2, .int x2), (3, .int x3), (4, .ref o)] := hl
  refine lv_aload E.hx E.hb dL_pictured_0 (lv_at hl 4 rfl) ?_
  refine lv_iconst (v := 0) E.hx E.hb dL_pictured_2 (by decide) ?_
  refine lv_aload_n E.hx E.hb dL_pictured_3 rfl (lv_at hl 0 rfl) ?_
  refine lv_iload_n E.hx E.hb dL_pictured_4 rfl (lv_at hl 1 rfl) ?_
  refine lv_iload_n E.hx E.hb dL_pictured_5 rfl (lv_at hl 2 rfl) ?_
  refine lv_iload_n E.hx E.hb dL_pictured_6 rfl (lv_at hl 3 rfl) ?_
  refine vt_call (vx_runV (As := [.int x1, .int x2, .int x3]) (rest := [.int 0, .ref o]) E.fix (c_X6_pictured l hfl N P x1 x2 x3 h) (cwV 3 E.ht (gV kML_L_74 kIM_X6_pictured kSE_X6_pictured kIN_X6 kCO_X6_pictured) rfl rfl rfl ⟨rfl, ds_X6_pictured⟩ ⟨Nat.le_of_ble_eq_true rfl, Nat.le_of_ble_eq_true rfl⟩) ⟨PX_blind KC_blind, va_recv K0.k P (show classes[6]? = some (RX6, TX6, 9) from rfl) cw_g0, fun U hU hW9 => ⟨rfl, hU, K0.warm hW9⟩⟩ rfl rfl hl.1 rfl (lv_room (Nat.le_of_ble_eq_true rfl)) dL_pictured_7 ⟨Nat.le_refl 1, Nat.le_refl 6⟩) S (fun q h => Or.inl h) (fun k I1 A1 ce q9 H1 locs1 ho1 P1 hk1 S1 hce hcv hcl => ?_) (fun r I1 A1 H1 locs1 ho1 P1 hk1 S1 => ?_)
  · have Po1 := P_keep Po hk1 (fun k q hq => by rw [one_in hq]; exact ho)
    obtain ⟨cc, hm⟩ := hx k I1 A1 ho1
    simp only [List.mem_cons, Prod.mk.injEq, List.not_mem_nil, or_false] at hm
    rcases hm with ⟨rfl, rfl⟩
    refine vx_catch (own := RL) (name := "java/lang/IndexOutOfBoundsException") E.ho [] ⟨0, 12, 15, 23⟩ [] tab (fun z hz => nomatch hz) (by decide) (by decide) (E.ht _ kCL_L_23) (va_Nw.use rfl (K0.ca "java/lang/IndexOutOfBoundsException" (List.mem_of_getElem? (i := 1) rfl))) hce hcv hcl ?_
    refine lv_astore (lv' := [(5, .ref q9), (0, .ref (ad 0)), (1, .int x1), (2, .int x2), (3, .int x3), (4, .ref o)]) E.hx E.hb dL_pictured_15 hl (by decide) rfl (fun ls hl => ?_)
    refine lv_iconst (v := 1) E.hx E.hb dL_pictured_17 (by decide) ?_
    exact W.iret E.hx E.hb E.hr (fun t ht _ => ⟨_, I1, A1, f, rfl, by rw [ht]; exact P1, by rw [ht]; exact Po1, Or.inr ⟨1, 1, ho1, by decide, rfl⟩, S1.F ht⟩) S1.2.2 dL_pictured_18 E.hk
  · have Po1 := P_keep Po hk1 (fun k q hq => by rw [one_in hq]; exact ho)
    refine lv_i2l (v := r.toInt64) E.hx E.hb dL_pictured_10 rfl ?_
    refine va_last E.hx E.hb KA (P_app P1 Po1) (cwo_D N ho) S1 44 1 rfl rfl (vp_in_nI (n := 0) (N := 1) (by decide) (by decide)) dL_pictured_11 (fun H2 locs2 P2 D2 S2 => ?_)
    have P2 : va_P D classes (cw cyI ad I1 A1 ++ [(o, .inl (cyL, 1, .inr (.inl (vp_updL f (0 : Int32).toNatClampNeg r.toInt64))))]) H2 := P2
    refine lv_goto (tgt := 19) E.hx E.hb dL_pictured_12 (by decide) ?_
    refine lv_iconst (v := 0) E.hx E.hb dL_pictured_19 (by decide) ?_
    exact W.iret E.hx E.hb E.hr (fun t ht _ => ⟨0, I1, A1, vp_updL f (0 : Int32).toNatClampNeg r.toInt64, rfl, by rw [ht]; exact P_left P2, by rw [ht]; exact P_right P2, Or.inl ⟨r, ho1, rfl, fun _ => updL0 f r.toInt64⟩, S2.F ht⟩) S2.2.2 dL_pictured_20 E.hk
set_option maxHeartbeats 4000000 in
set_option maxRecDepth 100000 in
theorem c_L_ghosts (l : Launch) (hfl : l.stackTraces = false) {H : Heap} {D : va_G} {cyI cyL : ClassId} {ad : Nat → Nat} {I : Nat → Int32} {A : Nat → Nat → Int32} (N : AdN 44 ad) (P : va_P D classes (cw cyI ad I A) H) {o : Nat} {f : Nat → Int64} (Po : va_P D classes [(o, .inl (cyL, 1, .inr (.inl f)))] H) (ho : ¬ InN 44 ad o) {x1 : Int32} {out : OutT} (h : B_X6_ghosts I A x1 = some out) (hx : ∀ k I1 A1, out = .inr (k, I1, A1) → ∃ c, (k, c) ∈ ([(1, 1)] : List (Nat × Nat))) : Met l yL_ghosts (.codeWith yL_ghosts cL_ghosts 4 (some .int) [(0, 9, 12, 23)] :: TA) (rmX 8) (PX [.ref (ad 0), .int x1, .ref o] H (KL D cyI cyL ad)) (QL D cyI cyL ad o false [(1, 1)] out) 1 6 (InL ad o) := by
  refine va_MetW (cc := cL_ghosts) (maxL := 4) (ret := some .int) (hh := [(0, 9, 12, 23)]) (by decide +kernel) rfl ?_
  intro p e s m args below meth c s₁ BB hml hv
  obtain ⟨rfl, hH, K0, KA⟩ := hv
  subst hH
  have hts := atoms_spec (ws := (.codeWith yL_ghosts cL_ghosts 4 (some .int) [(0, 9, 12, 23)] :: TA)) BB.pre
  have tab := vx_table (x := yL_ghosts) BB (hts _ List.mem_cons_self)
  have E : EX p s m (List.toArray [.ref (ad 0), .int x1, .ref o]) meth c cL_ghosts 4 RL (some .int) := ⟨BB.exec, BB.bytes, hml, findClass_of_methodNamed BB.named, fun w hw => hts w (List.mem_cons_of_mem _ hw), BB.returns, BB.notSynchronized⟩
  have S : va_S (InL ad o) s.heap s.heap [] := va_S.rf
  have hl := lv_entry [.ref (ad 0), .int x1, .ref o] (n := 4) (Nat.le_of_ble_eq_true rfl)
  rw [lg_entry_eq]
  generalize (lg_sl [.ref (ad 0), .int x1, .ref o] ++ List.replicate (4 - (lg_sl [.ref (ad 0), .int x1, .ref o]).length) Slot.unset).toArray = ls at hl ⊢
  have hl : lv_has ls 4 [(0, .ref (ad 0)), (1, .int x1), (2, .ref o)] := hl
  refine lv_aload_n E.hx E.hb dL_ghosts_0 rfl (lv_at hl 2 rfl) ?_
  refine lv_iconst (v := 0) E.hx E.hb dL_ghosts_1 (by decide) ?_
  refine lv_aload_n E.hx E.hb dL_ghosts_2 rfl (lv_at hl 0 rfl) ?_
  refine lv_iload_n E.hx E.hb dL_ghosts_3 rfl (lv_at hl 1 rfl) ?_
  refine vt_call (vx_runV (As := [.int x1]) (rest := [.int 0, .ref o]) E.fix (c_X6_ghosts l hfl N P x1 h) (cwV 1 E.ht (gV kML_L_77 kIM_X6_ghosts kSE_X6_ghosts kIN_X6 kCO_X6_ghosts) rfl rfl rfl ⟨rfl, ds_X6_ghosts⟩ ⟨Nat.le_of_ble_eq_true rfl, Nat.le_of_ble_eq_true rfl⟩) ⟨PX_blind KC_blind, va_recv K0.k P (show classes[6]? = some (RX6, TX6, 9) from rfl) cw_g0, fun U hU hW9 => ⟨rfl, hU, K0.warm hW9⟩⟩ rfl rfl hl.1 rfl (lv_room (Nat.le_of_ble_eq_true rfl)) dL_ghosts_4 ⟨Nat.le_refl 1, Nat.le_refl 6⟩) S (fun q h => Or.inl h) (fun k I1 A1 ce q9 H1 locs1 ho1 P1 hk1 S1 hce hcv hcl => ?_) (fun r I1 A1 H1 locs1 ho1 P1 hk1 S1 => ?_)
  · have Po1 := P_keep Po hk1 (fun k q hq => by rw [one_in hq]; exact ho)
    obtain ⟨cc, hm⟩ := hx k I1 A1 ho1
    simp only [List.mem_cons, Prod.mk.injEq, List.not_mem_nil, or_false] at hm
    rcases hm with ⟨rfl, rfl⟩
    refine vx_catch (own := RL) (name := "java/lang/IndexOutOfBoundsException") E.ho [] ⟨0, 9, 12, 23⟩ [] tab (fun z hz => nomatch hz) (by decide) (by decide) (E.ht _ kCL_L_23) (va_Nw.use rfl (K0.ca "java/lang/IndexOutOfBoundsException" (List.mem_of_getElem? (i := 1) rfl))) hce hcv hcl ?_
    refine lv_astore_n (lv' := [(3, .ref q9), (0, .ref (ad 0)), (1, .int x1), (2, .ref o)]) E.hx E.hb dL_ghosts_12 rfl hl (by decide) rfl (fun ls hl => ?_)
    refine lv_iconst (v := 1) E.hx E.hb dL_ghosts_13 (by decide) ?_
    exact W.iret E.hx E.hb E.hr (fun t ht _ => ⟨_, I1, A1, f, rfl, by rw [ht]; exact P1, by rw [ht]; exact Po1, Or.inr ⟨1, 1, ho1, by decide, rfl⟩, S1.F ht⟩) S1.2.2 dL_ghosts_14 E.hk
  · have Po1 := P_keep Po hk1 (fun k q hq => by rw [one_in hq]; exact ho)
    refine lv_i2l (v := r.toInt64) E.hx E.hb dL_ghosts_7 rfl ?_
    refine va_last E.hx E.hb KA (P_app P1 Po1) (cwo_D N ho) S1 44 1 rfl rfl (vp_in_nI (n := 0) (N := 1) (by decide) (by decide)) dL_ghosts_8 (fun H2 locs2 P2 D2 S2 => ?_)
    have P2 : va_P D classes (cw cyI ad I1 A1 ++ [(o, .inl (cyL, 1, .inr (.inl (vp_updL f (0 : Int32).toNatClampNeg r.toInt64))))]) H2 := P2
    refine lv_goto (tgt := 15) E.hx E.hb dL_ghosts_9 (by decide) ?_
    refine lv_iconst (v := 0) E.hx E.hb dL_ghosts_15 (by decide) ?_
    exact W.iret E.hx E.hb E.hr (fun t ht _ => ⟨0, I1, A1, vp_updL f (0 : Int32).toNatClampNeg r.toInt64, rfl, by rw [ht]; exact P_left P2, by rw [ht]; exact P_right P2, Or.inl ⟨r, ho1, rfl, fun _ => updL0 f r.toInt64⟩, S2.F ht⟩) S2.2.2 dL_ghosts_16 E.hk
set_option maxHeartbeats 4000000 in
set_option maxRecDepth 100000 in
theorem c_L_guesses (l : Launch) (hfl : l.stackTraces = false) {H : Heap} {D : va_G} {cyI cyL : ClassId} {ad : Nat → Nat} {I : Nat → Int32} {A : Nat → Nat → Int32} (N : AdN 44 ad) (P : va_P D classes (cw cyI ad I A) H) {o : Nat} {f : Nat → Int64} (Po : va_P D classes [(o, .inl (cyL, 1, .inr (.inl f)))] H) (ho : ¬ InN 44 ad o) {x1 x2 x3 : Int32} {out : OutT} (h : B_X6_guesses I A x1 x2 x3 = some out) (hx : ∀ k I1 A1, out = .inr (k, I1, A1) → ∃ c, (k, c) ∈ ([(1, 1)] : List (Nat × Nat))) : Met l yL_guesses (.codeWith yL_guesses cL_guesses 6 (some .int) [(0, 12, 15, 23)] :: TA) (rmX 8) (PX [.ref (ad 0), .int x1, .int x2, .int x3, .ref o] H (KL D cyI cyL ad)) (QL D cyI cyL ad o false [(1, 1)] out) 1 6 (InL ad o) := by
  refine va_MetW (cc := cL_guesses) (maxL := 6) (ret := some .int) (hh := [(0, 12, 15, 23)]) (by decide +kernel) rfl ?_
  intro p e s m args below meth c s₁ BB hml hv
  obtain ⟨rfl, hH, K0, KA⟩ := hv
  subst hH
  have hts := atoms_spec (ws := (.codeWith yL_guesses cL_guesses 6 (some .int) [(0, 12, 15, 23)] :: TA)) BB.pre
  have tab := vx_table (x := yL_guesses) BB (hts _ List.mem_cons_self)
  have E : EX p s m (List.toArray [.ref (ad 0), .int x1, .int x2, .int x3, .ref o]) meth c cL_guesses 6 RL (some .int) := ⟨BB.exec, BB.bytes, hml, findClass_of_methodNamed BB.named, fun w hw => hts w (List.mem_cons_of_mem _ hw), BB.returns, BB.notSynchronized⟩
  have S : va_S (InL ad o) s.heap s.heap [] := va_S.rf
  have hl := lv_entry [.ref (ad 0), .int x1, .int x2, .int x3, .ref o] (n := 6) (Nat.le_of_ble_eq_true rfl)
  rw [lg_entry_eq]
  generalize (lg_sl [.ref (ad 0), .int x1, .int x2, .int x3, .ref o] ++ List.replicate (6 - (lg_sl [.ref (ad 0), .int x1, .int x2, .int x3, .ref o]).length) Slot.unset).toArray = ls at hl ⊢
  have hl : lv_has ls 6 [(0, .ref (ad 0)), (1, .int x1), (2, .int x2), (3, .int x3), (4, .ref o)] := hl
  refine lv_aload E.hx E.hb dL_guesses_0 (lv_at hl 4 rfl) ?_
  refine lv_iconst (v := 0) E.hx E.hb dL_guesses_2 (by decide) ?_
  refine lv_aload_n E.hx E.hb dL_guesses_3 rfl (lv_at hl 0 rfl) ?_
  refine lv_iload_n E.hx E.hb dL_guesses_4 rfl (lv_at hl 1 rfl) ?_
  refine lv_iload_n E.hx E.hb dL_guesses_5 rfl (lv_at hl 2 rfl) ?_
  refine lv_iload_n E.hx E.hb dL_guesses_6 rfl (lv_at hl 3 rfl) ?_
  refine vt_call (vx_runV (As := [.int x1, .int x2, .int x3]) (rest := [.int 0, .ref o]) E.fix (c_X6_guesses l hfl N P x1 x2 x3 h) (cwV 3 E.ht (gV kML_L_80 kIM_X6_guesses kSE_X6_guesses kIN_X6 kCO_X6_guesses) rfl rfl rfl ⟨rfl, ds_X6_guesses⟩ ⟨Nat.le_of_ble_eq_true rfl, Nat.le_of_ble_eq_true rfl⟩) ⟨PX_blind KC_blind, va_recv K0.k P (show classes[6]? = some (RX6, TX6, 9) from rfl) cw_g0, fun U hU hW9 => ⟨rfl, hU, K0.warm hW9⟩⟩ rfl rfl hl.1 rfl (lv_room (Nat.le_of_ble_eq_true rfl)) dL_guesses_7 ⟨Nat.le_refl 1, Nat.le_refl 6⟩) S (fun q h => Or.inl h) (fun k I1 A1 ce q9 H1 locs1 ho1 P1 hk1 S1 hce hcv hcl => ?_) (fun r I1 A1 H1 locs1 ho1 P1 hk1 S1 => ?_)
  · have Po1 := P_keep Po hk1 (fun k q hq => by rw [one_in hq]; exact ho)
    obtain ⟨cc, hm⟩ := hx k I1 A1 ho1
    simp only [List.mem_cons, Prod.mk.injEq, List.not_mem_nil, or_false] at hm
    rcases hm with ⟨rfl, rfl⟩
    refine vx_catch (own := RL) (name := "java/lang/IndexOutOfBoundsException") E.ho [] ⟨0, 12, 15, 23⟩ [] tab (fun z hz => nomatch hz) (by decide) (by decide) (E.ht _ kCL_L_23) (va_Nw.use rfl (K0.ca "java/lang/IndexOutOfBoundsException" (List.mem_of_getElem? (i := 1) rfl))) hce hcv hcl ?_
    refine lv_astore (lv' := [(5, .ref q9), (0, .ref (ad 0)), (1, .int x1), (2, .int x2), (3, .int x3), (4, .ref o)]) E.hx E.hb dL_guesses_15 hl (by decide) rfl (fun ls hl => ?_)
    refine lv_iconst (v := 1) E.hx E.hb dL_guesses_17 (by decide) ?_
    exact W.iret E.hx E.hb E.hr (fun t ht _ => ⟨_, I1, A1, f, rfl, by rw [ht]; exact P1, by rw [ht]; exact Po1, Or.inr ⟨1, 1, ho1, by decide, rfl⟩, S1.F ht⟩) S1.2.2 dL_guesses_18 E.hk
  · have Po1 := P_keep Po hk1 (fun k q hq => by rw [one_in hq]; exact ho)
    refine lv_i2l (v := r.toInt64) E.hx E.hb dL_guesses_10 rfl ?_
    refine va_last E.hx E.hb KA (P_app P1 Po1) (cwo_D N ho) S1 44 1 rfl rfl (vp_in_nI (n := 0) (N := 1) (by decide) (by decide)) dL_guesses_11 (fun H2 locs2 P2 D2 S2 => ?_)
    have P2 : va_P D classes (cw cyI ad I1 A1 ++ [(o, .inl (cyL, 1, .inr (.inl (vp_updL f (0 : Int32).toNatClampNeg r.toInt64))))]) H2 := P2
    refine lv_goto (tgt := 19) E.hx E.hb dL_guesses_12 (by decide) ?_
    refine lv_iconst (v := 0) E.hx E.hb dL_guesses_19 (by decide) ?_
    exact W.iret E.hx E.hb E.hr (fun t ht _ => ⟨0, I1, A1, vp_updL f (0 : Int32).toNatClampNeg r.toInt64, rfl, by rw [ht]; exact P_left P2, by rw [ht]; exact P_right P2, Or.inl ⟨r, ho1, rfl, fun _ => updL0 f r.toInt64⟩, S2.F ht⟩) S2.2.2 dL_guesses_20 E.hk
end WRAP

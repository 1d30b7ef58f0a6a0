section LAWD
theorem kc_start {args : Array Value} {s : State} (hts : ∀ w ∈ lw_tbl, w.before args s = true) (hgv : (Jvm.Cond.and given_1 narrow_1).before args s = true) {D : va_G} {cyI : ClassId} (K : va_K D classes [(cyI, .int)] s) : KCg D cyI (fun q => s.heap.size ≤ q) s s.heap := by
  have hA : ∀ a : Nat, a < s.heap.size → ¬ (fun q : Nat => s.heap.size ≤ q) a := fun a h => Nat.not_le.mpr h
  refine ⟨K, ?_, ?_, ?_⟩
  · obtain ⟨t, ht, hT⟩ := va_Tof (args := args) (s := s) (tm := .static "NemaGrid" "GREYS" "[I") (ty := .int) (N := 8) (f := fun j => .int (greyV j)) (A := fun q => s.heap.size ≤ q) (by decide) (nar hgv (by decide +kernel)) (va_eqt (nar hgv (by decide +kernel))) (fun j hj => va_eqt (nar hgv (grey_in j hj))) hA
    exact ⟨t, va_Zof (hts _ (by decide +kernel)) (hts _ (by decide +kernel)) ht hA, hT⟩
  · exact fun q hq => va_Nw.of rfl (hts _ (nestM_tbl q hq))
  · exact fun q hq => va_Nw.of rfl (hts _ (nestF_tbl q hq))
theorem AdN_lw {A0 : Nat → Prop} {cyI : ClassId} {ad : Nat → Nat} {I : Nat → Int32} {A B : Nat → Nat → Int32} (h : va_D A0 (lwd cyI ad I A B)) : AdN 48 ad ∧ ∀ q, InN 48 ad q → A0 q := by
  have key : ∀ i, i < 48 → ∃ x, (lwd cyI ad I A B)[i]? = some (ad i, x) := by
    intro i hi
    have h1 : ((lwd cyI ad I A B).map (·.1))[i]? = some (ad i) := by
      rw [show (lwd cyI ad I A B).map (·.1) = (List.range 48).map ad from rfl, List.getElem?_map, List.getElem?_range hi]
      rfl
    rw [List.getElem?_map] at h1
    cases hq : (lwd cyI ad I A B)[i]? with
    | none => rw [hq] at h1; cases h1
    | some q =>
      rw [hq] at h1
      exact ⟨q.2, by rw [← Option.some.inj h1]⟩
  refine ⟨fun i j hi hj e => ?_, fun q hq => ?_⟩
  · obtain ⟨x, hx⟩ := key i hi
    obtain ⟨y, hy⟩ := key j hj
    exact h.1 i j _ _ hx hy e
  · obtain ⟨i, hi, rfl⟩ := hq
    obtain ⟨x, hx⟩ := key i hi
    exact h.2 i _ hx
/-- the cells' addresses, with the law's four arrays' -/
def ad8 (ad : Nat → Nat) (q0 q1 q2 q3 : Nat) : Nat → Nat := fun i => if i < 44 then ad i else ([q0, q1, q2, q3] : List Nat).getD (i - 44) 0
set_option maxHeartbeats 8000000 in
set_option maxRecDepth 100000 in
/-- THE LAW, from its entry -/
theorem whole_start {p : Program} {e : Env} {s : State} {m : MethodId} {below : List Frame} {meth : Method} {c : Code} (l : Launch) (hflags : l.flags = flags0) {b L : Nat} {xs : Nat → Int32} (hL : L ≤ 260) (C0 : lw_At p s m meth c b L xs) : W p l e room_1 s m #[Value.ref b] below meth c s.heap [] 0 0 (lw_Z below #[Value.ref b] s) (entryFrame m ([Value.ref b] : List Value).toArray 28) := by
  obtain ⟨hx, hb, hr, hml, hown, hts, hX, hbl, hlocks, hgv⟩ := C0
  have E : EX p s m #[Value.ref b] meth c code 28 RL ret := ⟨hx, hb, hml, hown, fun w hw => hts w (ta_in hw), hr, hlocks⟩
  obtain ⟨D, hD⟩ := D_start E.ht
  obtain ⟨cyI, aI, rI⟩ := arrI (E.ht _ kAR_int)
  have K : va_K D classes [(cyI, .int)] s := ⟨hD, fun k q hk => by
    match k with
    | 0 => cases hk; exact ⟨aI, rI⟩
    | k + 1 => simp at hk⟩
  have KG := kc_start hts hgv K
  obtain ⟨I1, A1, e6, V1, -⟩ := beg (w := 4) (h := 4) (I := I0c) (A := A0c) ⟨⟨1, by decide, rfl⟩, ⟨1, by decide, rfl⟩⟩ (fun j _ => ⟨⟨0, by decide, rfl⟩, ⟨0, by decide, rfl⟩⟩) ⟨0, by decide, rfl⟩ (fun j _ => ⟨0, by decide, rfl⟩) (by decide) (by decide) (by decide) (by decide)
  have hA : ∀ q : Nat, s.heap.size ≤ q → (fun q : Nat => s.heap.size ≤ q) q := fun _ h => h
  have hbA : ¬ (fun q : Nat => s.heap.size ≤ q) b := Nat.not_le.mpr hbl
  have S : va_S (fun q : Nat => s.heap.size ≤ q) s.heap s.heap [] := va_S.rf
  have P : va_P D classes [] s.heap := fun k q h => by simp at h
  have D0 : va_D (fun q : Nat => s.heap.size ≤ q) [] := ⟨fun i j p q h => by simp at h, fun k q h => by simp at h⟩
  have hl := lv_entry ([.ref b]) (n := 28) (Nat.le_of_ble_eq_true rfl)
  rw [lg_entry_eq]
  generalize (lg_sl ([.ref b]) ++ List.replicate (28 - (lg_sl ([.ref b])).length) Slot.unset).toArray = ls at hl ⊢
  have hl : lv_has ls 28 [(0, .ref b)] := hl
  refine va_new (ci := 6) (fs := [.null, .null, .null, .null, .null, .int 0, .int 0, .int 0, .int 0]) (C := RX6) (T := TX6) (N := 9) E.hx E.hb E.ht inAX6 tyX6 tyX6_ok E.ho (E.ht _ kCL_L_8) (E.ht _ kIS_X6) (E.ht _ kIN_X6) K P D0 S hA rfl (fun j hj => by rcases (show j = 0 ∨ j = 1 ∨ j = 2 ∨ j = 3 ∨ j = 4 ∨ j = 5 ∨ j = 6 ∨ j = 7 ∨ j = 8 by omega) with rfl | rfl | rfl | rfl | rfl | rfl | rfl | rfl | rfl <;> rfl) (Nat.le_of_ble_eq_true rfl) (Nat.le_of_ble_eq_true rfl) dL_law_0 (fun h6 H P D0 S => ?_)
  have P : va_P D classes [(h6, .inr (6, [.null, .null, .null, .null, .null, .int 0, .int 0, .int 0, .int 0]))] H := P
  have D0 : va_D (fun q : Nat => s.heap.size ≤ q) [(h6, .inr (6, [.null, .null, .null, .null, .null, .int 0, .int 0, .int 0, .int 0]))] := D0
  refine lv_dup E.hx E.hb dL_law_3 rfl ?_
  have hFc := va_free (wc := [(h6, .inr (6, [.null, .null, .null, .null, .null, .int 0, .int 0, .int 0, .int 0]))]) D0 S hA [0] rfl
  refine va_callv (va_runI (As := []) (rest := [.ref h6]) E.fix (c_X6_init l (D := D) (cyI := cyI) (h0 := h6) (sz := H.size) e6) ⟨callB_of 0 E.ht (gC kCO_X6_init) rfl rfl rfl (E.ht _ kIN_X6) (E.ht _ kML_L_10) ds_X6_init ⟨Nat.le_of_ble_eq_true rfl, Nat.le_of_ble_eq_true rfl⟩, rfl, E.ht _ kIM_X6_init⟩ ⟨IPg_blind, fun U hU hW => ⟨rfl, by rw [hU], by rw [hU]; exact P, by rw [hU]; exact ((KG.at S).narrow hFc).warm hW, D0.weaken (fun _ _ _ _ => trivial)⟩⟩ rfl rfl hl.1 rfl (lv_room (Nat.le_of_ble_eq_true rfl)) dL_law_4 ⟨Nat.le_of_ble_eq_true rfl, Nat.le_of_ble_eq_true rfl⟩) S (fun q _ h => hFc q h) hFc (fun u6 t H1 locs1 ht hvm _ hB hz1 hk1 S => ?_)
  obtain ⟨P, D0⟩ := hB
  rw [ht] at P
  have D0 := D_mono D0 hFc
  clear hz1 hk1 hFc
  generalize H1 = H at P S ⊢
  refine lv_astore_n (lv' := [(1, .ref h6), (0, .ref b)]) E.hx E.hb dL_law_7 rfl hl (by decide) rfl (fun ls hl => ?_)
  obtain ⟨ad, ead⟩ : ∃ z, z = adU h6 u6 := ⟨_, rfl⟩
  rw [← ead] at P D0
  have e0 : h6 = ad 0 := by rw [ead]; rfl
  rw [e0] at hl
  obtain ⟨N1, r1⟩ := AdN_cw D0
  -- the size
  obtain ⟨x2, ex2⟩ := cell_ok L xs (j := 0) (by decide)
  obtain ⟨w6, hw6, ew⟩ := at_ok (n := 6) (by decide) (by decide) (x2 &&& 2147483647)
  obtain ⟨h6', hh6, eh⟩ := at_ok (n := 6) (by decide) (by decide) ((x2 &&& 2147483647) >>> (4 &&& 31))
  obtain ⟨I2, A2, eg, V2⟩ := st_grid V1 (w := 3 + w6) (h := 3 + h6') (by omega) (by omega) (by omega) (by omega)
  refine lv_aload_n E.hx E.hb dL_law_8 rfl (lv_at hl 1 rfl) ?_
  refine lv_iconst (v := nI 0) E.hx E.hb dL_law_9 (by decide) ?_
  refine lr_cell (S0 := fun _ => False) E (by omega) (hX.kept (S.2.1 b hbl hbA)) ex2 ⟨Nat.le_of_ble_eq_true rfl, Nat.le_of_ble_eq_true rfl, Nat.le_of_ble_eq_true rfl, Nat.le_of_ble_eq_true rfl⟩ hl.1 (Nat.le_of_ble_eq_true rfl) dL_law_10 ?_
  refine lv_ldc (v := 2147483647) E.hx E.hb E.ho (E.ht _ kCN_L_17) dL_law_13 ?_
  refine lv_iand E.hx E.hb dL_law_15 ?_
  refine lv_istore_n (lv' := [(2, .int (x2 &&& 2147483647)), (1, .ref (ad 0)), (0, .ref b)]) E.hx E.hb dL_law_16 rfl hl (by decide) rfl (fun ls hl => ?_)
  refine lv_iconst (v := nI 3) E.hx E.hb dL_law_17 (by decide) ?_
  refine lv_iload_n E.hx E.hb dL_law_18 rfl (lv_at hl 0 rfl) ?_
  refine lv_bipush (v := nI 6) E.hx E.hb dL_law_19 (by decide) ?_
  refine lr_at E ew ⟨Nat.le_of_ble_eq_true rfl, Nat.le_of_ble_eq_true rfl, Nat.le_of_ble_eq_true rfl, Nat.le_of_ble_eq_true rfl⟩ hl.1 (Nat.le_of_ble_eq_true rfl) dL_law_21 ?_
  refine lv_iadd E.hx E.hb dL_law_24 ?_
  rw [nI_add]
  refine lv_istore_n (lv' := [(3, .int (nI (3 + w6))), (2, .int (x2 &&& 2147483647)), (1, .ref (ad 0)), (0, .ref b)]) E.hx E.hb dL_law_25 rfl hl (by decide) rfl (fun ls hl => ?_)
  refine lv_iconst (v := nI 3) E.hx E.hb dL_law_26 (by decide) ?_
  refine lv_iload_n E.hx E.hb dL_law_27 rfl (lv_at hl 1 rfl) ?_
  refine lv_iconst (v := 4) E.hx E.hb dL_law_28 (by decide) ?_
  refine lv_ishr E.hx E.hb dL_law_29 ?_
  refine lv_bipush (v := nI 6) E.hx E.hb dL_law_30 (by decide) ?_
  refine lr_at E eh ⟨Nat.le_of_ble_eq_true rfl, Nat.le_of_ble_eq_true rfl, Nat.le_of_ble_eq_true rfl, Nat.le_of_ble_eq_true rfl⟩ hl.1 (Nat.le_of_ble_eq_true rfl) dL_law_32 ?_
  refine lv_iadd E.hx E.hb dL_law_35 ?_
  rw [nI_add]
  refine lv_istore (lv' := [(4, .int (nI (3 + h6'))), (3, .int (nI (3 + w6))), (2, .int (x2 &&& 2147483647)), (1, .ref (ad 0)), (0, .ref b)]) E.hx E.hb dL_law_36 hl (by decide) rfl (fun ls hl => ?_)
  refine lv_aload_n E.hx E.hb dL_law_38 rfl (lv_at hl 3 rfl) ?_
  refine lv_iload_n E.hx E.hb dL_law_39 rfl (lv_at hl 1 rfl) ?_
  refine lv_iload E.hx E.hb dL_law_40 (lv_at hl 0 rfl) ?_
  refine cv_rw2 E (c_X6_grid l N1 P (nI (3 + w6)) (nI (3 + h6')) eg) (gV kML_L_22 kIM_X6_grid kSE_X6_grid kIN_X6 kCO_X6_grid) rfl ds_X6_grid rfl KC_blind (fun U _ hW => KC.warm hW ((KG.at S).narrow r1).to) S r1 (va_recv K P (show classes[6]? = some (RX6, TX6, 9) from rfl) cw_g0) ⟨Nat.le_of_ble_eq_true rfl, Nat.le_of_ble_eq_true rfl, Nat.le_of_ble_eq_true rfl, Nat.le_of_ble_eq_true rfl⟩ hl.1 rfl (Nat.le_of_ble_eq_true rfl) dL_law_42 (fun H1 locs1 P hz hk S => ?_)
  clear hz hk
  generalize H1 = H at P S ⊢
  have P : va_P D classes (cw cyI ad I2 A2) H := P
  have D0 : va_D (fun q : Nat => s.heap.size ≤ q) (cw cyI ad I2 A2) := D_mono (cw_D N1 I2 A2) r1
  have hl : lv_has ls 28 [(4, .int (nI (3 + h6'))), (3, .int (nI (3 + w6))), (1, .ref (ad 0)), (0, .ref b)] := lv_sub hl [0, 1, 3, 4] rfl
  refine lv_iconst (v := nI 0) E.hx E.hb dL_law_45 (by decide) ?_
  refine lv_istore (lv' := [(5, .int (nI 0)), (4, .int (nI (3 + h6'))), (3, .int (nI (3 + w6))), (1, .ref (ad 0)), (0, .ref b)]) E.hx E.hb dL_law_46 hl (by decide) rfl (fun ls hl => ?_)
  refine lv_iconst (v := nI 0) E.hx E.hb dL_law_48 (by decide) ?_
  refine lv_istore (lv' := [(6, .int (nI 0)), (5, .int (nI 0)), (4, .int (nI (3 + h6'))), (3, .int (nI (3 + w6))), (1, .ref (ad 0)), (0, .ref b)]) E.hx E.hb dL_law_49 hl (by decide) rfl (fun ls hl => ?_)
  refine lv_iconst (v := nI 0) E.hx E.hb dL_law_51 (by decide) ?_
  refine lv_istore (lv' := [(7, .int (nI 0)), (6, .int (nI 0)), (5, .int (nI 0)), (4, .int (nI (3 + h6'))), (3, .int (nI (3 + w6))), (1, .ref (ad 0)), (0, .ref b)]) E.hx E.hb dL_law_52 hl (by decide) rfl (fun ls hl => ?_)
  refine lv_bipush (v := 8) E.hx E.hb dL_law_54 (by decide) ?_
  refine va_newa (atype := .int) (ty := .int) (a0 := (8, .inl (fun _ => 0))) (N' := 8) E.hx E.hb (E.ht _ kAR_int) rfl K P D0 S hA (fun _ => rfl) (by decide) (by decide) (by decide) (Nat.le_of_ble_eq_true rfl) (Nat.le_of_ble_eq_true rfl) dL_law_56 (fun q0 cA0 H KB P D0 S => ?_)
  have hc := cyI_one KB
  rw [hc] at P D0
  clear hc KB
  refine lv_astore (lv' := [(8, .ref q0), (7, .int (nI 0)), (6, .int (nI 0)), (5, .int (nI 0)), (4, .int (nI (3 + h6'))), (3, .int (nI (3 + w6))), (1, .ref (ad 0)), (0, .ref b)]) E.hx E.hb dL_law_58 hl (by decide) rfl (fun ls hl => ?_)
  refine lv_bipush (v := 8) E.hx E.hb dL_law_60 (by decide) ?_
  refine va_newa (atype := .int) (ty := .int) (a0 := (8, .inl (fun _ => 0))) (N' := 8) E.hx E.hb (E.ht _ kAR_int) rfl K P D0 S hA (fun _ => rfl) (by decide) (by decide) (by decide) (Nat.le_of_ble_eq_true rfl) (Nat.le_of_ble_eq_true rfl) dL_law_62 (fun q1 cA1 H KB P D0 S => ?_)
  have hc := cyI_one KB
  rw [hc] at P D0
  clear hc KB
  refine lv_astore (lv' := [(9, .ref q1), (8, .ref q0), (7, .int (nI 0)), (6, .int (nI 0)), (5, .int (nI 0)), (4, .int (nI (3 + h6'))), (3, .int (nI (3 + w6))), (1, .ref (ad 0)), (0, .ref b)]) E.hx E.hb dL_law_64 hl (by decide) rfl (fun ls hl => ?_)
  refine lv_bipush (v := 8) E.hx E.hb dL_law_66 (by decide) ?_
  refine va_newa (atype := .int) (ty := .int) (a0 := (8, .inl (fun _ => 0))) (N' := 8) E.hx E.hb (E.ht _ kAR_int) rfl K P D0 S hA (fun _ => rfl) (by decide) (by decide) (by decide) (Nat.le_of_ble_eq_true rfl) (Nat.le_of_ble_eq_true rfl) dL_law_68 (fun q2 cA2 H KB P D0 S => ?_)
  have hc := cyI_one KB
  rw [hc] at P D0
  clear hc KB
  refine lv_astore (lv' := [(10, .ref q2), (9, .ref q1), (8, .ref q0), (7, .int (nI 0)), (6, .int (nI 0)), (5, .int (nI 0)), (4, .int (nI (3 + h6'))), (3, .int (nI (3 + w6))), (1, .ref (ad 0)), (0, .ref b)]) E.hx E.hb dL_law_70 hl (by decide) rfl (fun ls hl => ?_)
  refine lv_bipush (v := 8) E.hx E.hb dL_law_72 (by decide) ?_
  refine va_newa (atype := .int) (ty := .int) (a0 := (8, .inl (fun _ => 0))) (N' := 8) E.hx E.hb (E.ht _ kAR_int) rfl K P D0 S hA (fun _ => rfl) (by decide) (by decide) (by decide) (Nat.le_of_ble_eq_true rfl) (Nat.le_of_ble_eq_true rfl) dL_law_74 (fun q3 cA3 H KB P D0 S => ?_)
  have hc := cyI_one KB
  rw [hc] at P D0
  clear hc KB
  refine lv_astore (lv' := [(11, .ref q3), (10, .ref q2), (9, .ref q1), (8, .ref q0), (7, .int (nI 0)), (6, .int (nI 0)), (5, .int (nI 0)), (4, .int (nI (3 + h6'))), (3, .int (nI (3 + w6))), (1, .ref (ad 0)), (0, .ref b)]) E.hx E.hb dL_law_76 hl (by decide) rfl (fun ls hl => ?_)
  refine lv_iconst (v := 0) E.hx E.hb dL_law_78 (by decide) ?_
  refine lv_istore (lv' := [(12, .int 0), (11, .ref q3), (10, .ref q2), (9, .ref q1), (8, .ref q0), (7, .int (nI 0)), (6, .int (nI 0)), (5, .int (nI 0)), (4, .int (nI (3 + h6'))), (3, .int (nI (3 + w6))), (1, .ref (ad 0)), (0, .ref b)]) E.hx E.hb dL_law_79 hl (by decide) rfl (fun ls hl => ?_)
  have P : va_P D classes (lwd cyI (ad8 ad q0 q1 q2 q3) I2 A2 (fun _ _ => 0)) H := P
  have D0 : va_D (fun q : Nat => s.heap.size ≤ q) (lwd cyI (ad8 ad q0 q1 q2 q3) I2 A2 (fun _ _ => 0)) := D0
  have hl : lv_has ls 28 [(0, .ref b), (1, .ref (ad8 ad q0 q1 q2 q3 0)), (3, .int (nI (3 + w6))), (4, .int (nI (3 + h6'))), (5, .int (nI 0)), (6, .int (nI 0)), (7, .int (nI 0)), (8, .ref (ad8 ad q0 q1 q2 q3 44)), (9, .ref (ad8 ad q0 q1 q2 q3 45)), (10, .ref (ad8 ad q0 q1 q2 q3 46)), (11, .ref (ad8 ad q0 q1 q2 q3 47)), (12, .int 0)] := lv_sub hl [11, 10, 9, 8, 7, 6, 5, 4, 3, 2, 1, 0] rfl
  generalize ad8 ad q0 q1 q2 q3 = a8 at P D0 hl
  obtain ⟨N8, r8⟩ := AdN_lw D0
  have C : LW p l s m #[Value.ref b] meth c D cyI a8 b L xs := ⟨E, hX, hbl, N8, r8, KG, hL⟩
  have T : LT s D cyI a8 I2 A2 (fun _ _ => 0) H _ := ⟨P, S⟩
  obtain ⟨o, eo⟩ := l81 (L := L) (xs := xs) (w := 3 + w6) (h := 3 + h6') (np := 0) (nd := 0) (t := 0) (pr := 0) (I := I2) (A := A2) (B := fun _ _ => 0) ⟨V2, Nat.le_refl _, by decide, by decide, fun p hp => absurd hp (Nat.not_lt_zero _)⟩
  refine w_L_law_L81 C FU T eo hl (fun {H locs} T {ls} hl => ?_)
  refine lv_iconst (v := 1) E.hx E.hb dL_law_971 (by decide) ?_
  refine va_forget (fun q hq => T.sS.2.2 q hq) ?_
  refine W.widen (k := 600086) (n := 7301441) (Nat.le_of_ble_eq_true rfl) (Nat.le_of_ble_eq_true rfl) ?_
  exact lw_ret E.hx E.hb E.hr E.hk dL_law_972
end LAWD

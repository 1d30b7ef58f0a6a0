section LAWD
theorem nar {args : Array Value} {s : State} (h : (Jvm.Cond.and given_1 narrow_1).before args s = true) {w : Cond} (hw : w ∈ flatC (Jvm.Cond.and given_1 narrow_1)) : w.before args s = true := flat_of_before _ h w hw
theorem pre0 : Pre I0c A0c J0c A0c :=
  ⟨⟨⟨1, by decide, rfl⟩, ⟨1, by decide, rfl⟩, rfl, rfl⟩, fun j _ => ⟨⟨0, by decide, rfl⟩, ⟨0, by decide, rfl⟩, rfl, rfl⟩, ⟨⟨0, by decide, rfl⟩, rfl⟩, fun j _ => ⟨⟨0, by decide, rfl⟩, rfl⟩, fun j _ => rfl, fun k _ => ⟨rfl, rfl, rfl, rfl⟩, fun k _ => rfl, fun j _ => rfl⟩
theorem arrI {args : Array Value} {s : State} (h : (Cond.arrayClass .int).before args s = true) : ∃ cA, ArrOfT s cA .int ∧ va_RA s cA .int := by
  obtain ⟨cA, kA, comp, h1, h2, h3⟩ := Cond.arrayClass_spec h
  exact ⟨cA, fun n z => ⟨fun k h => (by cases h), kA, h2, comp, h3⟩, h1⟩
theorem arrL {args : Array Value} {s : State} (h : (Cond.arrayClass .long).before args s = true) : ∃ cA, ArrOfT s cA .long ∧ va_RA s cA .long := by
  obtain ⟨cA, kA, comp, h1, h2, h3⟩ := Cond.arrayClass_spec h
  exact ⟨cA, fun n z => ⟨fun k h => (by cases h), kA, h2, comp, h3⟩, h1⟩
theorem cyL_one {D : va_G} {cl : List vw_C} {cyI cyL cA : ClassId} {s : State} (h : va_K D cl ([(cyI, .int), (cyL, .long)] ++ [(cA, .long)]) s) : cA = cyL := by
  have h0 := (h.2 1 (cyL, .long) rfl).2
  have h1 := (h.2 2 (cA, .long) rfl).2
  exact Option.some.inj (h1.symm.trans h0)
theorem D_start {args : Array Value} {s : State} (hts : ∀ w ∈ TA, w.before args s = true) : ∃ D : va_G, ∀ (k : Nat) (q : vw_C), classes[k]? = some q → u_Kn s q.1 q.2.1 q.2.2 (D.1 k) (D.2 k) := by
  obtain ⟨c0, i0, g0⟩ := u_known (C := RX0) (T := TX0) (N := 5) (n := 5) hts inAX0 (hts _ kIS_X0)
  have h0 : ∀ k : Nat, ∃ z : ClassId × (Nat → Nat), ∀ q : vw_C, classes[k]? = some q → u_Kn s q.1 q.2.1 q.2.2 z.1 z.2 := by
    intro k
    match k with
    | 0 => exact ⟨(c0, i0), fun q hq => by cases hq; exact g0⟩
    | 1 =>
      obtain ⟨c, i, g⟩ := u_known (C := RX1) (T := TX1) (N := 11) (n := 11) hts inAX1 (hts _ kIS_X1)
      exact ⟨(c, i), fun q hq => by cases hq; exact g⟩
    | 2 =>
      obtain ⟨c, i, g⟩ := u_known (C := RX2) (T := TX2) (N := 3) (n := 3) hts inAX2 (hts _ kIS_X2)
      exact ⟨(c, i), fun q hq => by cases hq; exact g⟩
    | 3 =>
      obtain ⟨c, i, g⟩ := u_known (C := RX3) (T := TX3) (N := 9) (n := 9) hts inAX3 (hts _ kIS_X3)
      exact ⟨(c, i), fun q hq => by cases hq; exact g⟩
    | 4 =>
      obtain ⟨c, i, g⟩ := u_known (C := RX4) (T := TX4) (N := 1) (n := 1) hts inAX4 (hts _ kIS_X4)
      exact ⟨(c, i), fun q hq => by cases hq; exact g⟩
    | 5 =>
      obtain ⟨c, i, g⟩ := u_known (C := RX5) (T := TX5) (N := 1) (n := 1) hts inAX5 (hts _ kIS_X5)
      exact ⟨(c, i), fun q hq => by cases hq; exact g⟩
    | 6 =>
      obtain ⟨c, i, g⟩ := u_known (C := RX6) (T := TX6) (N := 9) (n := 9) hts inAX6 (hts _ kIS_X6)
      exact ⟨(c, i), fun q hq => by cases hq; exact g⟩
    | 7 =>
      obtain ⟨c, i, g⟩ := u_known (C := RX7) (T := TX7) (N := 27) (n := 27) hts inAX7 (hts _ kIS_X7)
      exact ⟨(c, i), fun q hq => by cases hq; exact g⟩
    | k + 8 => exact ⟨(c0, i0), fun q hq => by simp [classes] at hq⟩
  obtain ⟨f, hf⟩ := Classical.axiomOfChoice h0
  exact ⟨(fun k => (f k).1, fun k => (f k).2), hf⟩
theorem cw_at {cyI : ClassId} {ad : Nat → Nat} {I : Nat → Int32} {A : Nat → Nat → Int32} {i : Nat} (hi : i < 44) : ∃ x, (cw cyI ad I A)[i]? = some (ad i, x) := by
  have h1 : ((cw cyI ad I A).map (·.1))[i]? = some (ad i) := by
    rw [show (cw cyI ad I A).map (·.1) = (List.range 44).map ad from rfl, List.getElem?_map, List.getElem?_range hi]
    rfl
  rw [List.getElem?_map] at h1
  cases hq : (cw cyI ad I A)[i]? with
  | none => rw [hq] at h1; cases h1
  | some q =>
    rw [hq] at h1
    exact ⟨q.2, by rw [← Option.some.inj h1]⟩
theorem mw_at {cyI : ClassId} {ad : Nat → Nat} {I : Nat → Int32} {A : Nat → Nat → Int32} {i : Nat} (hi : i < 16) : ∃ x, (mw cyI ad I A)[i]? = some (ad i, x) := by
  have h1 : ((mw cyI ad I A).map (·.1))[i]? = some (ad i) := by
    rw [show (mw cyI ad I A).map (·.1) = (List.range 16).map ad from rfl, List.getElem?_map, List.getElem?_range hi]
    rfl
  rw [List.getElem?_map] at h1
  cases hq : (mw cyI ad I A)[i]? with
  | none => rw [hq] at h1; cases h1
  | some q =>
    rw [hq] at h1
    exact ⟨q.2, by rw [← Option.some.inj h1]⟩
theorem D_apart {A : Nat → Prop} {w1 w2 : va_W} (h : va_D A (w1 ++ w2)) {i j : Nat} {p q : Nat × va_E} (h1 : w1[i]? = some p) (h2 : w2[j]? = some q) : p.1 ≠ q.1 := fun e => by
  have hi : i < w1.length := (List.getElem?_eq_some_iff.mp h1).1
  have := h.1 i (w1.length + j) p q (by rw [List.getElem?_append_left hi]; exact h1) (by rw [List.getElem?_append_right (by omega), Nat.add_sub_cancel_left]; exact h2) e
  omega
theorem D_left {A : Nat → Prop} {w1 w2 : va_W} (h : va_D A (w1 ++ w2)) : va_D A w1 :=
  ⟨fun i j p q hi hj e => h.1 i j p q (by rw [List.getElem?_append_left (List.getElem?_eq_some_iff.mp hi).1]; exact hi) (by rw [List.getElem?_append_left (List.getElem?_eq_some_iff.mp hj).1]; exact hj) e, fun k q hq => h.2 k q (by rw [List.getElem?_append_left (List.getElem?_eq_some_iff.mp hq).1]; exact hq)⟩
theorem D_right {A : Nat → Prop} {w1 w2 : va_W} (h : va_D A (w1 ++ w2)) : va_D A w2 :=
  ⟨fun i j p q hi hj e => by
    have := h.1 (w1.length + i) (w1.length + j) p q (by rw [List.getElem?_append_right (by omega), Nat.add_sub_cancel_left]; exact hi) (by rw [List.getElem?_append_right (by omega), Nat.add_sub_cancel_left]; exact hj) e
    omega, fun k q hq => h.2 (w1.length + k) q (by rw [List.getElem?_append_right (by omega), Nat.add_sub_cancel_left]; exact hq)⟩
theorem grey_in : ∀ j, j < 8 → Cond.eq (.elem (.static "NemaGrid" "GREYS" "[I") (.int (Int32.ofNat j))) (.int (greyV j)) ∈ flatC (Jvm.Cond.and given_1 narrow_1) := by decide +kernel
theorem strs_nar : ∀ q ∈ strsC, Cond.exactly (.string RX6 q.1) "java/lang/String" ∈ flatC (Jvm.Cond.and given_1 narrow_1) := by decide +kernel
theorem strs_tbl : ∀ q ∈ strsC, Cond.stringRef RX6 q.1 q.2 ∈ lw_tbl := by decide +kernel
theorem excN_tbl : ∀ q ∈ excN, Cond.castable q q ∈ lw_tbl := by decide +kernel
theorem excP_nar : ∀ q ∈ excP, Cond.not (.castable q.1 q.2) ∈ flatC (Jvm.Cond.and given_1 narrow_1) := by decide +kernel
theorem dclN_tbl : ∀ q ∈ dclN, Cond.declares ⟨q, "<init>", "(Ljava/lang/String;)V"⟩ ∈ lw_tbl := by decide +kernel
theorem kc_start {args : Array Value} {s : State} (hts : ∀ w ∈ lw_tbl, w.before args s = true) (hgv : (Jvm.Cond.and given_1 narrow_1).before args s = true) {D : va_G} {cyI : ClassId} (K : va_K D classes [(cyI, .int)] s) : KCg D cyI (fun q => s.heap.size ≤ q) s s.heap := by
  have hA : ∀ a : Nat, a < s.heap.size → ¬ (fun q : Nat => s.heap.size ≤ q) a := fun a h => Nat.not_le.mpr h
  refine ⟨K, ?_, ?_, ?_, ?_, ?_, ?_, ?_, ?_, ?_⟩
  · obtain ⟨t, ht, hT⟩ := va_Tof (args := args) (s := s) (tm := .static "NemaGrid" "GREYS" "[I") (ty := .int) (N := 8) (f := fun j => .int (greyV j)) (A := fun q => s.heap.size ≤ q) (by decide) (nar hgv (by decide +kernel)) (va_eqt (nar hgv (by decide +kernel))) (fun j hj => va_eqt (nar hgv (grey_in j hj))) hA
    exact ⟨t, va_Zof (hts _ (by decide +kernel)) (hts _ (by decide +kernel)) ht hA, hT⟩
  · exact vx_Zqof (args := args) (hts _ (by decide +kernel)) (hts _ (by decide +kernel)) (nar hgv (by decide +kernel)) hA
  · exact vx_Zqof (args := args) (hts _ (by decide +kernel)) (hts _ (by decide +kernel)) (nar hgv (by decide +kernel)) hA
  · intro q hq
    obtain ⟨a, c, cA, kA, q1, -⟩ := Cond.exactly_spec (args := args) (first := s) (o := none) (s := s) (idx := []) (t := .string RX6 q.1) (cls := "java/lang/String") (nar hgv (strs_nar q hq))
    exact ⟨a, vk_R.of (hts _ (strs_tbl q hq)) q1⟩
  · exact fun q hq => va_Nw.of rfl (hts _ (nestM_tbl q hq))
  · exact fun q hq => va_Nw.of rfl (hts _ (nestF_tbl q hq))
  · exact fun q hq => va_Nw.of rfl (hts _ (excN_tbl q hq))
  · exact fun q hq => va_Nc.of (nar hgv (excP_nar q hq))
  · exact fun q hq => va_Nw.of rfl (hts _ (dclN_tbl q hq))
set_option maxHeartbeats 8000000 in
set_option maxRecDepth 100000 in
/-- THE LAW, from its entry -/
theorem whole_start {p : Program} {e : Env} {s : State} {m : MethodId} {below : List Frame} {meth : Method} {c : Code} (l : Launch) (hflags : l.flags = flags0) {b L : Nat} {xs : Nat → Int32} (hL : L ≤ 3072) (C0 : lw_At p s m meth c b L xs) : W p l e room_1 s m #[Value.ref b] below meth c s.heap [] 0 0 (lw_Z below #[Value.ref b] s) (entryFrame m ([Value.ref b] : List Value).toArray 7) := by
  obtain ⟨hx, hb, hr, hml, hown, hts, hX, hbl, hlocks, hgv⟩ := C0
  have E : EX p s m #[Value.ref b] meth c code 7 RL ret := ⟨hx, hb, hml, hown, fun w hw => hts w (ta_in hw), hr, hlocks⟩
  have hfl : l.stackTraces = false := by
    show (!l.flags.contains noTraceFlag) = false
    rw [hflags]
    decide +kernel
  obtain ⟨D, hD⟩ := D_start E.ht
  obtain ⟨cyI, aI, rI⟩ := arrI (E.ht _ kAR_int)
  obtain ⟨cyL, aL, rL⟩ := arrL (E.ht _ kAR_long)
  have KA : va_K D classes [(cyI, .int), (cyL, .long)] s := ⟨hD, fun k q hk => by
    match k with
    | 0 => cases hk; exact ⟨aI, rI⟩
    | 1 => cases hk; exact ⟨aL, rL⟩
    | k + 2 => simp at hk⟩
  have K : va_K D classes [(cyI, .int)] s := KA.sub [0] rfl
  have KG := kc_start hts hgv K
  obtain ⟨I1, A1, J1, B1, e6, e7, R, -⟩ := beg pre0 (w := 4) (h := 4) (by decide) (by decide) (by decide) (by decide) rfl rfl
  have hA : ∀ q : Nat, s.heap.size ≤ q → (fun q : Nat => s.heap.size ≤ q) q := fun _ h => h
  have S : va_S (fun q : Nat => s.heap.size ≤ q) s.heap s.heap [] := va_S.rf
  have P : va_P D classes [] s.heap := fun k q h => by simp at h
  have D0 : va_D (fun q : Nat => s.heap.size ≤ q) [] := ⟨fun i j p q h => by simp at h, fun k q h => by simp at h⟩
  have hl := lv_entry ([.ref b]) (n := 7) (Nat.le_of_ble_eq_true rfl)
  rw [lg_entry_eq]
  generalize (lg_sl ([.ref b]) ++ List.replicate (7 - (lg_sl ([.ref b])).length) Slot.unset).toArray = ls at hl ⊢
  have hl : lv_has ls 7 [(0, .ref b)] := hl
  refine va_new (ci := 6) (fs := [.null, .null, .null, .null, .null, .int 0, .int 0, .int 0, .int 0]) (C := RX6) (T := TX6) (N := 9) E.hx E.hb E.ht inAX6 tyX6 tyX6_ok E.ho (E.ht _ kCL_L_8) (E.ht _ kIS_X6) (E.ht _ kIN_X6) K P D0 S hA rfl (fun j hj => by rcases (show j = 0 ∨ j = 1 ∨ j = 2 ∨ j = 3 ∨ j = 4 ∨ j = 5 ∨ j = 6 ∨ j = 7 ∨ j = 8 by omega) with rfl | rfl | rfl | rfl | rfl | rfl | rfl | rfl | rfl <;> rfl) (Nat.le_of_ble_eq_true rfl) (Nat.le_of_ble_eq_true rfl) dL_law_0 (fun h6 H P D0 S => ?_)
  have P : va_P D classes [(h6, .inr (6, [.null, .null, .null, .null, .null, .int 0, .int 0, .int 0, .int 0]))] H := P
  have D0 : va_D (fun q : Nat => s.heap.size ≤ q) [(h6, .inr (6, [.null, .null, .null, .null, .null, .int 0, .int 0, .int 0, .int 0]))] := D0
  refine lv_dup E.hx E.hb dL_law_3 rfl ?_
  have hFc := va_free (wc := [(h6, .inr (6, [.null, .null, .null, .null, .null, .int 0, .int 0, .int 0, .int 0]))]) D0 S hA [0] rfl
  refine va_callv (va_runI (As := []) (rest := [.ref h6]) E.fix (c_X6_init l (D := D) (cyI := cyI) (h0 := h6) (sz := H.size) e6) ⟨callB_of 0 E.ht (gC kCO_X6_init) rfl rfl rfl (E.ht _ kIN_X6) (E.ht _ kML_L_83) ds_X6_init ⟨Nat.le_of_ble_eq_true rfl, Nat.le_of_ble_eq_true rfl⟩, rfl, E.ht _ kIM_X6_init⟩ ⟨IPg_blind, fun U hU hW => ⟨rfl, by rw [hU], by rw [hU]; exact P, by rw [hU]; exact ((KG.at S).narrow hFc).warm hW, D0.weaken (fun _ _ _ _ => trivial)⟩⟩ rfl rfl hl.1 rfl (lv_room (Nat.le_of_ble_eq_true rfl)) dL_law_4 ⟨Nat.le_of_ble_eq_true rfl, Nat.le_of_ble_eq_true rfl⟩) S (fun q _ h => hFc q h) hFc (fun u6 t H1 locs1 ht hvm _ hB hz1 hk1 S => ?_)
  obtain ⟨P, D0⟩ := hB
  rw [ht] at P
  have D0 := D_mono D0 hFc
  clear hz1 hk1 hFc
  generalize H1 = H at P S ⊢
  refine lv_astore_n (lv' := [(1, .ref h6), (0, .ref b)]) E.hx E.hb dL_law_7 rfl hl (by decide) rfl (fun ls hl => ?_)
  refine va_new (ci := 7) (fs := [.int 0, .int 0, .int 0, .int 0, .int 0, .int 0, .int 0, .int 0, .int 0, .null, .null, .null, .null, .null, .int 0, .null, .null, .null, .null, .int 0, .null, .null, .null, .null, .int 0, .null, .null]) (C := RX7) (T := TX7) (N := 27) E.hx E.hb E.ht inAX7 tyX7 tyX7_ok E.ho (E.ht _ kCL_L_84) (E.ht _ kIS_X7) (E.ht _ kIN_X7) K P D0 S hA rfl (by decide +kernel) (Nat.le_of_ble_eq_true rfl) (Nat.le_of_ble_eq_true rfl) dL_law_8 (fun h7 H P D0 S => ?_)
  refine lv_dup E.hx E.hb dL_law_11 rfl ?_
  refine ci (n := 44) E (wr := cw cyI (adU h6 u6) I1 A1) (As := []) (rest := [.ref h7]) (c_X7_init l e7) kML_L_86 kIM_X7_init kIN_X7 kCO_X7_init rfl ds_X7_init rfl P D0 S hA K rfl rfl rfl ⟨Nat.le_of_ble_eq_true rfl, Nat.le_of_ble_eq_true rfl, Nat.le_of_ble_eq_true rfl, Nat.le_of_ble_eq_true rfl⟩ hl.1 (Nat.le_of_ble_eq_true rfl) dL_law_12 (fun u7 H locs P D0 S => ?_)
  refine lv_astore_n (lv' := [(2, .ref h7), (1, .ref h6), (0, .ref b)]) E.hx E.hb dL_law_15 rfl hl (by decide) rfl (fun ls hl => ?_)
  refine lv_iconst (v := 1) E.hx E.hb dL_law_16 (by decide) ?_
  refine va_newa (atype := .long) (ty := .long) (a0 := (1, .inr (.inl (fun _ => 0)))) (N' := 1) E.hx E.hb (E.ht _ kAR_long) rfl KA P D0 S hA (fun _ => rfl) (by decide) (by decide) (by decide) (Nat.le_of_ble_eq_true rfl) (Nat.le_of_ble_eq_true rfl) dL_law_17 (fun o cA H KB P D0 S => ?_)
  have hc := cyL_one KB
  rw [hc] at P D0
  refine lv_astore_n (lv' := [(3, .ref o), (2, .ref h7), (1, .ref h6), (0, .ref b)]) E.hx E.hb dL_law_19 rfl hl (by decide) rfl (fun ls hl => ?_)
  refine lv_iconst (v := nI 0) E.hx E.hb dL_law_20 (by decide) ?_
  refine lv_istore (lv' := [(4, .int (nI 0)), (3, .ref o), (2, .ref h7), (1, .ref h6), (0, .ref b)]) E.hx E.hb dL_law_21 hl (by decide) rfl (fun ls hl => ?_)
  obtain ⟨N1, r1⟩ := AdN_cw (D_left (D_left D0))
  obtain ⟨N2, r2⟩ := AdN_mw (D_right (D_left D0))
  have r3 : s.heap.size ≤ o := (D_right D0).2 0 _ rfl
  have d12 : ∀ q, InN 44 (adU h6 u6) q → ¬ InN 16 (adU h7 u7) q := by
    rintro q ⟨i, hi, rfl⟩ ⟨j, hj, e9⟩
    obtain ⟨x, hx9⟩ := cw_at (cyI := cyI) (ad := adU h6 u6) (I := I1) (A := A1) hi
    obtain ⟨y, hy9⟩ := mw_at (cyI := cyI) (ad := adU h7 u7) (I := J1) (A := B1) hj
    exact D_apart (D_left D0) hx9 hy9 e9
  have d13 : ¬ InN 44 (adU h6 u6) o := by
    rintro ⟨i, hi, e9⟩
    obtain ⟨x, hx9⟩ := cw_at (cyI := cyI) (ad := adU h6 u6) (I := I1) (A := A1) hi
    exact D_apart D0 (i := i) (j := 0) (by rw [List.getElem?_append_left (Nat.lt_of_lt_of_le hi (Nat.le_of_ble_eq_true rfl))]; exact hx9) rfl e9.symm
  have d23 : ¬ InN 16 (adU h7 u7) o := by
    rintro ⟨j, hj, e9⟩
    obtain ⟨y, hy9⟩ := mw_at (cyI := cyI) (ad := adU h7 u7) (I := J1) (A := B1) hj
    exact D_apart D0 (i := 44 + j) (j := 0) (by rw [List.getElem?_append_right (show (cw cyI (adU h6 u6) I1 A1).length ≤ 44 + j from Nat.le_add_right 44 j), show 44 + j - (cw cyI (adU h6 u6) I1 A1).length = j from Nat.add_sub_cancel_left 44 j]; exact hy9) rfl e9.symm
  have C : LW p l s m #[Value.ref b] meth c D cyI cyL (adU h6 u6) (adU h7 u7) o b L xs := ⟨E, hX, hbl, hfl, N1, N2, r1, r2, r3, d12, d13, d23, KG, KA⟩
  exact law_loop C hL (L + 1) 0 _ _ I1 J1 A1 B1 _ H locs ls (Nat.zero_le L) (by omega) (by omega) (by omega) ⟨P_left (P_left P), P_right (P_left P), P_right P, S, R⟩ (lv_sub hl [4, 3, 2, 1, 0] rfl)
end LAWD

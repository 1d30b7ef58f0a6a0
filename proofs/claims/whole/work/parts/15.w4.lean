section WALK
section
variable {p : Program} {l : Launch} {e : Env} {R : Room} {s : State} {m : MethodId} {args : Array Value} {below : List Frame} {meth : Method} {c : Code} {H : Heap} {locs : List Loc} {cells slots : Nat} {Q : State → Prop} {cc : ByteArray} {nL pc : Nat} {ret : Option FieldType} {ls : Array Slot} {rest : List Value} {D : va_G} {cyI : ClassId} {ad : Nat → Nat} {I : Nat → Int32} {A : Nat → Nat → Int32}
theorem iv_X6_52 (E : EX p s m args meth c cc nL RX6 ret) (N : AdN 44 ad) (K0 : KC D cyI ad s s.heap) (P : va_P D classes (cw cyI ad I A) H) (S : va_S (InN 44 ad) s.heap H locs) {a0 a1 : Int32} {v : (Nat → Int32) × (Nat → Nat → Int32)} (hv : B_X6_beginAnew I A a0 a1 = some v) (hR : RmOk R cells slots 2 3) (hls : ls.size = nL) (hro : (rest.map fun v => v.category).sum ≤ 8) (hdg : decode cc pc = .ok (.invokevirtual 52, 3)) (kk : ∀ (H1 : Heap) (locs1 : List Loc), va_P D classes (cw cyI ad v.1 v.2) H1 → va_S (InN 44 ad) s.heap H1 locs1 → W p l e R s m args below meth c H1 locs1 cells slots Q (F0 m (pc + 3) ls (rest))) : W p l e R s m args below meth c H locs cells slots Q (F0 m pc ls (.int a1 :: .int a0 :: .ref (ad 0) :: rest)) :=
  cv_rw E (c_X6_beginAnew l N P a0 a1 hv) (gV kML_X6_52 kIM_X6_beginAnew kSE_X6_beginAnew kIN_X6 kCO_X6_beginAnew) rfl ds_X6_beginAnew rfl KC_blind (fun U _ hW => (K0.at S).warm hW) S (va_recv K0.k P (show classes[6]? = some (RX6, TX6, 9) from rfl) cw_g0) hR hls rfl hro hdg kk
end
section
variable {p : Program} {l : Launch} {e : Env} {s : State} {m : MethodId} {args : Array Value} {below : List Frame} {meth : Method} {c : Code} {D : va_G} {cyI : ClassId} {ad : Nat → Nat} {I : Nat → Int32} {A : Nat → Nat → Int32}
def B_X6_grid (I : Nat → Int32) (A : Nat → Nat → Int32) (x1 x2 : Int32) : Option (OutT) := if (B_X6_isIn x1 2 12) = 0 then some (.inr (0, I, A)) else (if (B_X6_isIn x2 2 12) = 0 then some (.inr (0, I, A)) else ((B_X6_beginAnew I A x1 x2).bind fun q_3 => some (.inl (0, q_3.1, q_3.2))))
set_option maxHeartbeats 4000000 in
set_option maxRecDepth 100000 in
theorem w_X6_grid (E : EX p s m args meth c cX6_grid 3 RX6 none) (K0 : KC D cyI ad s s.heap) (N : AdN 44 ad) (hfl : l.stackTraces = false) (X0 : ∀ x ∈ c.exceptionTable.toList, False) {H : Heap} {locs : List Loc} (P : va_P D classes (cw cyI ad I A) H) (S : va_S (InN 44 ad) s.heap H locs)  {x1 x2 : Int32} {out : OutT} (h : B_X6_grid I A x1 x2 = some out) {ls : Array Slot} (hl : lv_has ls 3 [(0, .ref (ad 0)), (1, .int x1), (2, .int x2)]) : W p l e (rmX 7) s m args below meth c H locs 0 0 (vx_MQ below (QT D cyI ad true out) (XT D cyI ad out) args s 1 6 (InN 44 ad)) (F0 m 0 ls []) := by
  unfold B_X6_grid at h
  refine lv_iload_n E.hx E.hb dX6_grid_0 rfl (lv_at hl 1 rfl) ?_
  refine lv_iconst (v := 2) E.hx E.hb dX6_grid_1 (by decide) ?_
  refine lv_bipush (v := 12) E.hx E.hb dX6_grid_2 (by decide) ?_
  refine iv_X6_56 E K0 S (by decide) hl.1 (Nat.le_of_ble_eq_true rfl) dX6_grid_4 ?_
  refine lv_if_eq (tgt := 20) E.hx E.hb dX6_grid_7 (by decide) (fun c_1 => ?_) (fun c_1 => ?_)
  · rw [if_pos c_1] at h
    cases h
    exact thr_0 E hfl X0 K0 P S (List.mem_of_getElem? (i := 0) rfl) hl.1 rfl dX6_grid_20 dX6_grid_23 dX6_grid_24 dX6_grid_26 dX6_grid_29 rfl
  · rw [if_neg c_1] at h
    refine lv_iload_n E.hx E.hb dX6_grid_10 rfl (lv_at hl 2 rfl) ?_
    refine lv_iconst (v := 2) E.hx E.hb dX6_grid_11 (by decide) ?_
    refine lv_bipush (v := 12) E.hx E.hb dX6_grid_12 (by decide) ?_
    refine iv_X6_56 E K0 S (by decide) hl.1 (Nat.le_of_ble_eq_true rfl) dX6_grid_14 ?_
    refine lv_if_ne (tgt := 30) E.hx E.hb dX6_grid_17 (by decide) (fun c_2 => ?_) (fun c_2 => ?_)
    · rw [if_neg c_2] at h
      refine lv_aload_n E.hx E.hb dX6_grid_30 rfl (lv_at hl 0 rfl) ?_
      refine lv_iload_n E.hx E.hb dX6_grid_31 rfl (lv_at hl 1 rfl) ?_
      refine lv_iload_n E.hx E.hb dX6_grid_32 rfl (lv_at hl 2 rfl) ?_
      obtain ⟨q_3, e_4, h⟩ := obind h
      refine iv_X6_52 E N K0 P S e_4 (by decide) hl.1 (Nat.le_of_ble_eq_true rfl) dX6_grid_33 (fun H locs P S => ?_)
      cases h
      refine W.widen (k := 1) (n := 6) (by omega) (by omega) ?_
      exact vx_ret (W.vret E.hx E.hb E.hr (fun t ht _ => ⟨_, _, _, rfl, rfl, by rw [ht]; exact P, S.F ht⟩) S.2.2 dX6_grid_36 E.hk)
    · rw [if_pos c_2] at h
      cases h
      exact thr_0 E hfl X0 K0 P S (List.mem_of_getElem? (i := 0) rfl) hl.1 rfl dX6_grid_20 dX6_grid_23 dX6_grid_24 dX6_grid_26 dX6_grid_29 rfl
theorem c_X6_grid (l : Launch) (hfl : l.stackTraces = false) {H : Heap} {D : va_G} {cyI : ClassId} {ad : Nat → Nat} {I : Nat → Int32} {A : Nat → Nat → Int32} (N : AdN 44 ad) (P : va_P D classes (cw cyI ad I A) H) (x1 x2 : Int32) {out : OutT} (h : B_X6_grid I A x1 x2 = some out) : vx_Met l yX6_grid (.code yX6_grid cX6_grid 3 none :: TA) (rmX 7) (PX [.ref (ad 0), .int x1, .int x2] H (KC D cyI ad)) (QT D cyI ad true out) (XT D cyI ad out) 1 6 (InN 44 ad) := by
  refine MofX (own := RX6) (by decide +kernel) rfl rfl ?_
  intro p e s m args below meth c ls E X0 hH K0 hl
  subst hH
  exact w_X6_grid E K0 N hfl X0 P va_S.rf h hl
theorem ds_X6_grid : Dsc yX6_grid 2 := ⟨by decide +kernel, by decide +kernel, by decide +kernel⟩
end
section
variable {p : Program} {l : Launch} {e : Env} {R : Room} {s : State} {m : MethodId} {args : Array Value} {below : List Frame} {meth : Method} {c : Code} {H : Heap} {locs : List Loc} {cells slots : Nat} {Q : State → Prop} {cc : ByteArray} {nL pc : Nat} {ret : Option FieldType} {ls : Array Slot} {rest : List Value} {D : va_G} {cyI : ClassId} {ad : Nat → Nat} {I : Nat → Int32} {A : Nat → Nat → Int32}
theorem iv_X6_69 (E : EX p s m args meth c cc nL RX6 ret) (N : AdN 44 ad) (K0 : KC D cyI ad s s.heap) (P : va_P D classes (cw cyI ad I A) H) (S : va_S (InN 44 ad) s.heap H locs) {a0 a1 : Int32} {v : Int32 × (Nat → Int32) × (Nat → Nat → Int32)} (hv : B_X1_price I A a0 a1 = some v) (hR : RmOk R cells slots 4 3) (hls : ls.size = nL) (hro : (rest.map fun v => v.category).sum ≤ 8) (hdg : decode cc pc = .ok (.invokevirtual 69, 3)) (kk : ∀ (H1 : Heap) (locs1 : List Loc), va_P D classes (cw cyI ad v.2.1 v.2.2) H1 → va_S (InN 44 ad) s.heap H1 locs1 → W p l e R s m args below meth c H1 locs1 cells slots Q (F0 m (pc + 3) ls (.int v.1 :: rest))) : W p l e R s m args below meth c H locs cells slots Q (F0 m pc ls (.int a1 :: .int a0 :: .ref (ad 2) :: rest)) :=
  cv_rw E (c_X1_price l N P a0 a1 hv) (gV kML_X6_69 kIM_X1_price kSE_X1_price kIN_X1 kCO_X1_price) rfl ds_X1_price rfl KC_blind (fun U _ hW => (K0.at S).warm hW) S (va_recv K0.k P (show classes[1]? = some (RX1, TX1, 11) from rfl) cw_g2) hR hls rfl hro hdg kk
end
section
variable {p : Program} {l : Launch} {e : Env} {R : Room} {s : State} {m : MethodId} {args : Array Value} {below : List Frame} {meth : Method} {c : Code} {H : Heap} {locs : List Loc} {cells slots : Nat} {Q : State → Prop} {cc : ByteArray} {nL pc : Nat} {ret : Option FieldType} {ls : Array Slot} {rest : List Value} {D : va_G} {cyI : ClassId} {ad : Nat → Nat} {I : Nat → Int32} {A : Nat → Nat → Int32}
theorem iv_X6_73 (E : EX p s m args meth c cc nL RX6 ret) (N : AdN 44 ad) (K0 : KC D cyI ad s s.heap) (P : va_P D classes (cw cyI ad I A) H) (S : va_S (InN 44 ad) s.heap H locs) {a0 : Int32} {v : Int32 × (Nat → Int32) × (Nat → Nat → Int32)} (hv : B_X6_worked I A a0 = some v) (hR : RmOk R cells slots 0 2) (hls : ls.size = nL) (hro : (rest.map fun v => v.category).sum ≤ 8) (hdg : decode cc pc = .ok (.invokevirtual 73, 3)) (kk : ∀ (H1 : Heap) (locs1 : List Loc), va_P D classes (cw cyI ad v.2.1 v.2.2) H1 → va_S (InN 44 ad) s.heap H1 locs1 → W p l e R s m args below meth c H1 locs1 cells slots Q (F0 m (pc + 3) ls (.int v.1 :: rest))) : W p l e R s m args below meth c H locs cells slots Q (F0 m pc ls (.int a0 :: .ref (ad 0) :: rest)) :=
  cv_rw E (c_X6_worked l N P a0 hv) (gV kML_X6_73 kIM_X6_worked kSE_X6_worked kIN_X6 kCO_X6_worked) rfl ds_X6_worked rfl KC_blind (fun U _ hW => (K0.at S).warm hW) S (va_recv K0.k P (show classes[6]? = some (RX6, TX6, 9) from rfl) cw_g0) hR hls rfl hro hdg kk
end
section
variable {p : Program} {l : Launch} {e : Env} {s : State} {m : MethodId} {args : Array Value} {below : List Frame} {meth : Method} {c : Code} {D : va_G} {cyI : ClassId} {ad : Nat → Nat} {I : Nat → Int32} {A : Nat → Nat → Int32}
def B_X6_costs (I : Nat → Int32) (A : Nat → Nat → Int32) (x1 x2 : Int32) : Option (OutT) := if (B_X6_isIn x1 0 20) = 0 then some (.inr (0, I, A)) else (if (B_X6_isIn x2 0 20) = 0 then some (.inr (0, I, A)) else ((B_X1_price I A x1 x2).bind fun q_3 => (B_X6_worked q_3.2.1 q_3.2.2 q_3.1).bind fun q_5 => some (.inl (q_5.1, q_5.2.1, q_5.2.2))))
set_option maxHeartbeats 4000000 in
set_option maxRecDepth 100000 in
theorem w_X6_costs (E : EX p s m args meth c cX6_costs 3 RX6 (some .int)) (K0 : KC D cyI ad s s.heap) (N : AdN 44 ad) (hfl : l.stackTraces = false) (X0 : ∀ x ∈ c.exceptionTable.toList, False) {H : Heap} {locs : List Loc} (P : va_P D classes (cw cyI ad I A) H) (S : va_S (InN 44 ad) s.heap H locs)  {x1 x2 : Int32} {out : OutT} (h : B_X6_costs I A x1 x2 = some out) {ls : Array Slot} (hl : lv_has ls 3 [(0, .ref (ad 0)), (1, .int x1), (2, .int x2)]) : W p l e (rmX 7) s m args below meth c H locs 0 0 (vx_MQ below (QT D cyI ad false out) (XT D cyI ad out) args s 1 6 (InN 44 ad)) (F0 m 0 ls []) := by
  unfold B_X6_costs at h
  refine lv_iload_n E.hx E.hb dX6_costs_0 rfl (lv_at hl 1 rfl) ?_
  refine lv_iconst (v := 0) E.hx E.hb dX6_costs_1 (by decide) ?_
  refine lv_bipush (v := 20) E.hx E.hb dX6_costs_2 (by decide) ?_
  refine iv_X6_56 E K0 S (by decide) hl.1 (Nat.le_of_ble_eq_true rfl) dX6_costs_4 ?_
  refine lv_if_eq (tgt := 20) E.hx E.hb dX6_costs_7 (by decide) (fun c_1 => ?_) (fun c_1 => ?_)
  · rw [if_pos c_1] at h
    cases h
    exact thr_0 E hfl X0 K0 P S (List.mem_of_getElem? (i := 1) rfl) hl.1 rfl dX6_costs_20 dX6_costs_23 dX6_costs_24 dX6_costs_26 dX6_costs_29 rfl
  · rw [if_neg c_1] at h
    refine lv_iload_n E.hx E.hb dX6_costs_10 rfl (lv_at hl 2 rfl) ?_
    refine lv_iconst (v := 0) E.hx E.hb dX6_costs_11 (by decide) ?_
    refine lv_bipush (v := 20) E.hx E.hb dX6_costs_12 (by decide) ?_
    refine iv_X6_56 E K0 S (by decide) hl.1 (Nat.le_of_ble_eq_true rfl) dX6_costs_14 ?_
    refine lv_if_ne (tgt := 30) E.hx E.hb dX6_costs_17 (by decide) (fun c_2 => ?_) (fun c_2 => ?_)
    · rw [if_neg c_2] at h
      refine lv_aload_n E.hx E.hb dX6_costs_30 rfl (lv_at hl 0 rfl) ?_
      refine lv_aload_n E.hx E.hb dX6_costs_31 rfl (lv_at hl 0 rfl) ?_
      refine gf_X6_21 E K0 P dX6_costs_32 ?_
      refine lv_iload_n E.hx E.hb dX6_costs_35 rfl (lv_at hl 1 rfl) ?_
      refine lv_iload_n E.hx E.hb dX6_costs_36 rfl (lv_at hl 2 rfl) ?_
      obtain ⟨q_3, e_4, h⟩ := obind h
      refine iv_X6_69 E N K0 P S e_4 (by decide) hl.1 (Nat.le_of_ble_eq_true rfl) dX6_costs_37 (fun H locs P S => ?_)
      obtain ⟨q_5, e_6, h⟩ := obind h
      refine iv_X6_73 E N K0 P S e_6 (by decide) hl.1 (Nat.le_of_ble_eq_true rfl) dX6_costs_40 (fun H locs P S => ?_)
      cases h
      refine W.widen (k := 1) (n := 6) (by omega) (by omega) ?_
      exact vx_ret (W.iret E.hx E.hb E.hr (fun t ht _ => ⟨_, _, _, rfl, rfl, by rw [ht]; exact P, S.F ht⟩) S.2.2 dX6_costs_43 E.hk)
    · rw [if_pos c_2] at h
      cases h
      exact thr_0 E hfl X0 K0 P S (List.mem_of_getElem? (i := 1) rfl) hl.1 rfl dX6_costs_20 dX6_costs_23 dX6_costs_24 dX6_costs_26 dX6_costs_29 rfl
theorem c_X6_costs (l : Launch) (hfl : l.stackTraces = false) {H : Heap} {D : va_G} {cyI : ClassId} {ad : Nat → Nat} {I : Nat → Int32} {A : Nat → Nat → Int32} (N : AdN 44 ad) (P : va_P D classes (cw cyI ad I A) H) (x1 x2 : Int32) {out : OutT} (h : B_X6_costs I A x1 x2 = some out) : vx_Met l yX6_costs (.code yX6_costs cX6_costs 3 (some .int) :: TA) (rmX 7) (PX [.ref (ad 0), .int x1, .int x2] H (KC D cyI ad)) (QT D cyI ad false out) (XT D cyI ad out) 1 6 (InN 44 ad) := by
  refine MofX (own := RX6) (by decide +kernel) rfl rfl ?_
  intro p e s m args below meth c ls E X0 hH K0 hl
  subst hH
  exact w_X6_costs E K0 N hfl X0 P va_S.rf h hl
theorem ds_X6_costs : Dsc yX6_costs 2 := ⟨by decide +kernel, by decide +kernel, by decide +kernel⟩
end
section
variable {p : Program} {l : Launch} {e : Env} {R : Room} {s : State} {m : MethodId} {args : Array Value} {below : List Frame} {meth : Method} {c : Code} {H : Heap} {locs : List Loc} {cells slots : Nat} {Q : State → Prop} {cc : ByteArray} {nL pc : Nat} {ret : Option FieldType} {ls : Array Slot} {rest : List Value} {D : va_G} {cyI : ClassId} {ad : Nat → Nat} {I : Nat → Int32} {A : Nat → Nat → Int32}
theorem iv_X6_77 (E : EX p s m args meth c cc nL RX6 ret) (K0 : KC D cyI ad s s.heap) (P : va_P D classes (cw cyI ad I A) H) (S : va_S (InN 44 ad) s.heap H locs) {a0 a1 : Int32} (hR : RmOk R cells slots 0 3) (hls : ls.size = nL) (hro : (rest.map fun v => v.category).sum ≤ 8) (hdg : decode cc pc = .ok (.invokevirtual 77, 3)) (kk : W p l e R s m args below meth c H locs cells slots Q (F0 m (pc + 3) ls (.int (B_X1_has I A a0 a1) :: rest))) : W p l e R s m args below meth c H locs cells slots Q (F0 m pc ls (.int a1 :: .int a0 :: .ref (ad 2) :: rest)) :=
  cv_ro E (c_X1_has l P a0 a1 ) (gV kML_X6_77 kIM_X1_has kSE_X1_has kIN_X1 kCO_X1_has) rfl ds_X1_has rfl KC_blind (fun U _ hW => (K0.at S).warm hW) (va_recv K0.k P (show classes[1]? = some (RX1, TX1, 11) from rfl) cw_g2) hR hls rfl hro hdg kk
end
section
variable {p : Program} {l : Launch} {e : Env} {R : Room} {s : State} {m : MethodId} {args : Array Value} {below : List Frame} {meth : Method} {c : Code} {H : Heap} {locs : List Loc} {cells slots : Nat} {Q : State → Prop} {cc : ByteArray} {nL pc : Nat} {ret : Option FieldType} {ls : Array Slot} {rest : List Value} {D : va_G} {cyI : ClassId} {ad : Nat → Nat} {I : Nat → Int32} {A : Nat → Nat → Int32}
theorem iv_X6_86 (E : EX p s m args meth c cc nL RX6 ret) (K0 : KC D cyI ad s s.heap) (S : va_S (InN 44 ad) s.heap H locs) {a0 : Int32} (hR : RmOk R cells slots 1 1) (hls : ls.size = nL) (hro : (rest.map fun v => v.category).sum ≤ 8) (hdg : decode cc pc = .ok (.invokestatic 86, 3)) (kk : W p l e R s m args below meth c H locs cells slots Q (F0 m (pc + 3) ls (.int (B_X6_isDirection a0) :: rest))) : W p l e R s m args below meth c H locs cells slots Q (F0 m pc ls (.int a0 :: rest)) :=
  cs_ro E (c_X6_isDirection l (H := H) (D := D) (cyI := cyI) (ad := ad) a0 ) (gS kML_X6_86 kST_X6_isDirection kIN_X6 kCO_X6_isDirection) rfl ds_X6_isDirection rfl KC_blind (fun U _ hW => (K0.at S).warm hW) hR hls rfl hro hdg kk
end
section
variable {p : Program} {l : Launch} {e : Env} {R : Room} {s : State} {m : MethodId} {args : Array Value} {below : List Frame} {meth : Method} {c : Code} {H : Heap} {locs : List Loc} {cells slots : Nat} {Q : State → Prop} {cc : ByteArray} {nL pc : Nat} {ret : Option FieldType} {ls : Array Slot} {rest : List Value} {D : va_G} {cyI : ClassId} {ad : Nat → Nat} {I : Nat → Int32} {A : Nat → Nat → Int32}
theorem iv_X6_92 (E : EX p s m args meth c cc nL RX6 ret) (K0 : KC D cyI ad s s.heap) (P : va_P D classes (cw cyI ad I A) H) (S : va_S (InN 44 ad) s.heap H locs) {a0 a1 : Int32} (hR : RmOk R cells slots 1 3) (hls : ls.size = nL) (hro : (rest.map fun v => v.category).sum ≤ 8) (hdg : decode cc pc = .ok (.invokevirtual 92, 3)) (kk : W p l e R s m args below meth c H locs cells slots Q (F0 m (pc + 3) ls (.int (B_X1_kindAt I A a0 a1) :: rest))) : W p l e R s m args below meth c H locs cells slots Q (F0 m pc ls (.int a1 :: .int a0 :: .ref (ad 2) :: rest)) :=
  cv_ro E (c_X1_kindAt l P a0 a1 ) (gV kML_X6_92 kIM_X1_kindAt kSE_X1_kindAt kIN_X1 kCO_X1_kindAt) rfl ds_X1_kindAt rfl KC_blind (fun U _ hW => (K0.at S).warm hW) (va_recv K0.k P (show classes[1]? = some (RX1, TX1, 11) from rfl) cw_g2) hR hls rfl hro hdg kk
end
section
variable {p : Program} {l : Launch} {e : Env} {R : Room} {s : State} {m : MethodId} {args : Array Value} {below : List Frame} {meth : Method} {c : Code} {H : Heap} {locs : List Loc} {cells slots : Nat} {Q : State → Prop} {cc : ByteArray} {nL pc : Nat} {ret : Option FieldType} {ls : Array Slot} {rest : List Value} {D : va_G} {cyI : ClassId} {ad : Nat → Nat} {I : Nat → Int32} {A : Nat → Nat → Int32}
theorem iv_X6_100 (E : EX p s m args meth c cc nL RX6 ret) (N : AdN 44 ad) (K0 : KC D cyI ad s s.heap) (P : va_P D classes (cw cyI ad I A) H) (S : va_S (InN 44 ad) s.heap H locs) {a0 a1 a2 : Int32} {v : Int32 × (Nat → Int32) × (Nat → Nat → Int32)} (hv : B_X1_turnTo I A a0 a1 a2 = some v) (hR : RmOk R cells slots 5 5) (hls : ls.size = nL) (hro : (rest.map fun v => v.category).sum ≤ 8) (hdg : decode cc pc = .ok (.invokevirtual 100, 3)) (kk : ∀ (H1 : Heap) (locs1 : List Loc), va_P D classes (cw cyI ad v.2.1 v.2.2) H1 → va_S (InN 44 ad) s.heap H1 locs1 → W p l e R s m args below meth c H1 locs1 cells slots Q (F0 m (pc + 3) ls (.int v.1 :: rest))) : W p l e R s m args below meth c H locs cells slots Q (F0 m pc ls (.int a2 :: .int a1 :: .int a0 :: .ref (ad 2) :: rest)) :=
  cv_rw E (c_X1_turnTo l N P a0 a1 a2 hv) (gV kML_X6_100 kIM_X1_turnTo kSE_X1_turnTo kIN_X1 kCO_X1_turnTo) rfl ds_X1_turnTo rfl KC_blind (fun U _ hW => (K0.at S).warm hW) S (va_recv K0.k P (show classes[1]? = some (RX1, TX1, 11) from rfl) cw_g2) hR hls rfl hro hdg kk
end
section
variable {p : Program} {l : Launch} {e : Env} {s : State} {m : MethodId} {args : Array Value} {below : List Frame} {meth : Method} {c : Code} {D : va_G} {cyI : ClassId} {ad : Nat → Nat} {I : Nat → Int32} {A : Nat → Nat → Int32}
def B_X6_turn (I : Nat → Int32) (A : Nat → Nat → Int32) (x1 x2 x3 : Int32) : Option (OutT) := if (B_X1_has I A x1 x2) = 0 then some (.inr (1, I, A)) else (if (B_X6_isDirection x3) = 0 then some (.inr (0, I, A)) else (if (B_X1_kindAt I A x1 x2) = 1 then some (.inr (2, I, A)) else ((B_X1_turnTo I A x1 x2 x3).bind fun q_4 => (B_X6_worked q_4.2.1 q_4.2.2 q_4.1).bind fun q_6 => some (.inl (q_6.1, q_6.2.1, q_6.2.2)))))
set_option maxHeartbeats 4000000 in
set_option maxRecDepth 100000 in
theorem w_X6_turn (E : EX p s m args meth c cX6_turn 4 RX6 (some .int)) (K0 : KC D cyI ad s s.heap) (N : AdN 44 ad) (hfl : l.stackTraces = false) (X0 : ∀ x ∈ c.exceptionTable.toList, False) {H : Heap} {locs : List Loc} (P : va_P D classes (cw cyI ad I A) H) (S : va_S (InN 44 ad) s.heap H locs)  {x1 x2 x3 : Int32} {out : OutT} (h : B_X6_turn I A x1 x2 x3 = some out) {ls : Array Slot} (hl : lv_has ls 4 [(0, .ref (ad 0)), (1, .int x1), (2, .int x2), (3, .int x3)]) : W p l e (rmX 7) s m args below meth c H locs 0 0 (vx_MQ below (QT D cyI ad false out) (XT D cyI ad out) args s 1 6 (InN 44 ad)) (F0 m 0 ls []) := by
  unfold B_X6_turn at h
  refine lv_aload_n E.hx E.hb dX6_turn_0 rfl (lv_at hl 0 rfl) ?_
  refine gf_X6_21 E K0 P dX6_turn_1 ?_
  refine lv_iload_n E.hx E.hb dX6_turn_4 rfl (lv_at hl 1 rfl) ?_
  refine lv_iload_n E.hx E.hb dX6_turn_5 rfl (lv_at hl 2 rfl) ?_
  refine iv_X6_77 E K0 P S (by decide) hl.1 (Nat.le_of_ble_eq_true rfl) dX6_turn_6 ?_
  refine lv_if_ne (tgt := 22) E.hx E.hb dX6_turn_9 (by decide) (fun c_1 => ?_) (fun c_1 => ?_)
  · rw [if_neg c_1] at h
    refine lv_iload_n E.hx E.hb dX6_turn_22 rfl (lv_at hl 3 rfl) ?_
    refine iv_X6_86 E K0 S (by decide) hl.1 (Nat.le_of_ble_eq_true rfl) dX6_turn_23 ?_
    refine lv_if_ne (tgt := 39) E.hx E.hb dX6_turn_26 (by decide) (fun c_2 => ?_) (fun c_2 => ?_)
    · rw [if_neg c_2] at h
      refine lv_aload_n E.hx E.hb dX6_turn_39 rfl (lv_at hl 0 rfl) ?_
      refine gf_X6_21 E K0 P dX6_turn_40 ?_
      refine lv_iload_n E.hx E.hb dX6_turn_43 rfl (lv_at hl 1 rfl) ?_
      refine lv_iload_n E.hx E.hb dX6_turn_44 rfl (lv_at hl 2 rfl) ?_
      refine iv_X6_92 E K0 P S (by decide) hl.1 (Nat.le_of_ble_eq_true rfl) dX6_turn_45 ?_
      refine lv_iconst (v := 1) E.hx E.hb dX6_turn_48 (by decide) ?_
      refine lv_icmp_ne (tgt := 62) E.hx E.hb dX6_turn_49 (by decide) (fun c_3 => ?_) (fun c_3 => ?_)
      · rw [if_neg c_3] at h
        refine lv_aload_n E.hx E.hb dX6_turn_62 rfl (lv_at hl 0 rfl) ?_
        refine lv_aload_n E.hx E.hb dX6_turn_63 rfl (lv_at hl 0 rfl) ?_
        refine gf_X6_21 E K0 P dX6_turn_64 ?_
        refine lv_iload_n E.hx E.hb dX6_turn_67 rfl (lv_at hl 1 rfl) ?_
        refine lv_iload_n E.hx E.hb dX6_turn_68 rfl (lv_at hl 2 rfl) ?_
        refine lv_iload_n E.hx E.hb dX6_turn_69 rfl (lv_at hl 3 rfl) ?_
        obtain ⟨q_4, e_5, h⟩ := obind h
        refine iv_X6_100 E N K0 P S e_5 (by decide) hl.1 (Nat.le_of_ble_eq_true rfl) dX6_turn_70 (fun H locs P S => ?_)
        obtain ⟨q_6, e_7, h⟩ := obind h
        refine iv_X6_73 E N K0 P S e_7 (by decide) hl.1 (Nat.le_of_ble_eq_true rfl) dX6_turn_73 (fun H locs P S => ?_)
        cases h
        refine W.widen (k := 1) (n := 6) (by omega) (by omega) ?_
        exact vx_ret (W.iret E.hx E.hb E.hr (fun t ht _ => ⟨_, _, _, rfl, rfl, by rw [ht]; exact P, S.F ht⟩) S.2.2 dX6_turn_76 E.hk)
      · rw [if_pos c_3] at h
        cases h
        exact thr_2 E hfl X0 K0 P S (List.mem_of_getElem? (i := 4) rfl) hl.1 rfl dX6_turn_52 dX6_turn_55 dX6_turn_56 dX6_turn_58 dX6_turn_61 rfl
    · rw [if_pos c_2] at h
      cases h
      exact thr_0 E hfl X0 K0 P S (List.mem_of_getElem? (i := 3) rfl) hl.1 rfl dX6_turn_29 dX6_turn_32 dX6_turn_33 dX6_turn_35 dX6_turn_38 rfl
  · rw [if_pos c_1] at h
    cases h
    exact thr_1 E hfl X0 K0 P S (List.mem_of_getElem? (i := 2) rfl) hl.1 rfl dX6_turn_12 dX6_turn_15 dX6_turn_16 dX6_turn_18 dX6_turn_21 rfl
theorem c_X6_turn (l : Launch) (hfl : l.stackTraces = false) {H : Heap} {D : va_G} {cyI : ClassId} {ad : Nat → Nat} {I : Nat → Int32} {A : Nat → Nat → Int32} (N : AdN 44 ad) (P : va_P D classes (cw cyI ad I A) H) (x1 x2 x3 : Int32) {out : OutT} (h : B_X6_turn I A x1 x2 x3 = some out) : vx_Met l yX6_turn (.code yX6_turn cX6_turn 4 (some .int) :: TA) (rmX 7) (PX [.ref (ad 0), .int x1, .int x2, .int x3] H (KC D cyI ad)) (QT D cyI ad false out) (XT D cyI ad out) 1 6 (InN 44 ad) := by
  refine MofX (own := RX6) (by decide +kernel) rfl rfl ?_
  intro p e s m args below meth c ls E X0 hH K0 hl
  subst hH
  exact w_X6_turn E K0 N hfl X0 P va_S.rf h hl
theorem ds_X6_turn : Dsc yX6_turn 3 := ⟨by decide +kernel, by decide +kernel, by decide +kernel⟩
end
section
variable {p : Program} {l : Launch} {e : Env} {R : Room} {s : State} {m : MethodId} {args : Array Value} {below : List Frame} {meth : Method} {c : Code} {H : Heap} {locs : List Loc} {cells slots : Nat} {Q : State → Prop} {cc : ByteArray} {nL pc : Nat} {ret : Option FieldType} {ls : Array Slot} {rest : List Value} {D : va_G} {cyI : ClassId} {ad : Nat → Nat} {I : Nat → Int32} {A : Nat → Nat → Int32}
theorem iv_X6_106 (E : EX p s m args meth c cc nL RX6 ret) (N : AdN 44 ad) (K0 : KC D cyI ad s s.heap) (P : va_P D classes (cw cyI ad I A) H) (S : va_S (InN 44 ad) s.heap H locs) {a0 a1 a2 a3 a4 : Int32} {v : Int32 × (Nat → Int32) × (Nat → Nat → Int32)} (hv : B_X1_hold I A a0 a1 a2 a3 a4 = some v) (hR : RmOk R cells slots 5 8) (hls : ls.size = nL) (hro : (rest.map fun v => v.category).sum ≤ 8) (hdg : decode cc pc = .ok (.invokevirtual 106, 3)) (kk : ∀ (H1 : Heap) (locs1 : List Loc), va_P D classes (cw cyI ad v.2.1 v.2.2) H1 → va_S (InN 44 ad) s.heap H1 locs1 → W p l e R s m args below meth c H1 locs1 cells slots Q (F0 m (pc + 3) ls (.int v.1 :: rest))) : W p l e R s m args below meth c H locs cells slots Q (F0 m pc ls (.int a4 :: .int a3 :: .int a2 :: .int a1 :: .int a0 :: .ref (ad 2) :: rest)) :=
  cv_rw E (c_X1_hold l N P a0 a1 a2 a3 a4 hv) (gV kML_X6_106 kIM_X1_hold kSE_X1_hold kIN_X1 kCO_X1_hold) rfl ds_X1_hold rfl KC_blind (fun U _ hW => (K0.at S).warm hW) S (va_recv K0.k P (show classes[1]? = some (RX1, TX1, 11) from rfl) cw_g2) hR hls rfl hro hdg kk
end
section
variable {p : Program} {l : Launch} {e : Env} {s : State} {m : MethodId} {args : Array Value} {below : List Frame} {meth : Method} {c : Code} {D : va_G} {cyI : ClassId} {ad : Nat → Nat} {I : Nat → Int32} {A : Nat → Nat → Int32}
def B_X6_anchor (I : Nat → Int32) (A : Nat → Nat → Int32) (x1 x2 x3 x4 x5 : Int32) : Option (OutT) := if (B_X1_has I A x1 x2) = 0 then some (.inr (1, I, A)) else (if (B_X6_isIn x3 0 2) = 0 then some (.inr (0, I, A)) else (if (B_X6_isDirection x4) = 0 then some (.inr (0, I, A)) else (if (B_X6_isIn x5 1 100) = 0 then some (.inr (0, I, A)) else ((B_X1_hold I A x1 x2 x3 x4 x5).bind fun q_5 => (B_X6_worked q_5.2.1 q_5.2.2 q_5.1).bind fun q_7 => some (.inl (q_7.1, q_7.2.1, q_7.2.2))))))
set_option maxHeartbeats 4000000 in
set_option maxRecDepth 100000 in
theorem w_X6_anchor (E : EX p s m args meth c cX6_anchor 6 RX6 (some .int)) (K0 : KC D cyI ad s s.heap) (N : AdN 44 ad) (hfl : l.stackTraces = false) (X0 : ∀ x ∈ c.exceptionTable.toList, False) {H : Heap} {locs : List Loc} (P : va_P D classes (cw cyI ad I A) H) (S : va_S (InN 44 ad) s.heap H locs)  {x1 x2 x3 x4 x5 : Int32} {out : OutT} (h : B_X6_anchor I A x1 x2 x3 x4 x5 = some out) {ls : Array Slot} (hl : lv_has ls 6 [(0, .ref (ad 0)), (1, .int x1), (2, .int x2), (3, .int x3), (4, .int x4), (5, .int x5)]) : W p l e (rmX 7) s m args below meth c H locs 0 0 (vx_MQ below (QT D cyI ad false out) (XT D cyI ad out) args s 1 6 (InN 44 ad)) (F0 m 0 ls []) := by
  unfold B_X6_anchor at h
  refine lv_aload_n E.hx E.hb dX6_anchor_0 rfl (lv_at hl 0 rfl) ?_
  refine gf_X6_21 E K0 P dX6_anchor_1 ?_
  refine lv_iload_n E.hx E.hb dX6_anchor_4 rfl (lv_at hl 1 rfl) ?_
  refine lv_iload_n E.hx E.hb dX6_anchor_5 rfl (lv_at hl 2 rfl) ?_
  refine iv_X6_77 E K0 P S (by decide) hl.1 (Nat.le_of_ble_eq_true rfl) dX6_anchor_6 ?_
  refine lv_if_ne (tgt := 22) E.hx E.hb dX6_anchor_9 (by decide) (fun c_1 => ?_) (fun c_1 => ?_)
  · rw [if_neg c_1] at h
    refine lv_iload_n E.hx E.hb dX6_anchor_22 rfl (lv_at hl 3 rfl) ?_
    refine lv_iconst (v := 0) E.hx E.hb dX6_anchor_23 (by decide) ?_
    refine lv_iconst (v := 2) E.hx E.hb dX6_anchor_24 (by decide) ?_
    refine iv_X6_56 E K0 S (by decide) hl.1 (Nat.le_of_ble_eq_true rfl) dX6_anchor_25 ?_
    refine lv_if_eq (tgt := 50) E.hx E.hb dX6_anchor_28 (by decide) (fun c_2 => ?_) (fun c_2 => ?_)
    · rw [if_pos c_2] at h
      cases h
      exact thr_0 E hfl X0 K0 P S (List.mem_of_getElem? (i := 5) rfl) hl.1 rfl dX6_anchor_50 dX6_anchor_53 dX6_anchor_54 dX6_anchor_56 dX6_anchor_59 rfl
    · rw [if_neg c_2] at h
      refine lv_iload E.hx E.hb dX6_anchor_31 (lv_at hl 4 rfl) ?_
      refine iv_X6_86 E K0 S (by decide) hl.1 (Nat.le_of_ble_eq_true rfl) dX6_anchor_33 ?_
      refine lv_if_eq (tgt := 50) E.hx E.hb dX6_anchor_36 (by decide) (fun c_3 => ?_) (fun c_3 => ?_)
      · rw [if_pos c_3] at h
        cases h
        exact thr_0 E hfl X0 K0 P S (List.mem_of_getElem? (i := 5) rfl) hl.1 rfl dX6_anchor_50 dX6_anchor_53 dX6_anchor_54 dX6_anchor_56 dX6_anchor_59 rfl
      · rw [if_neg c_3] at h
        refine lv_iload E.hx E.hb dX6_anchor_39 (lv_at hl 5 rfl) ?_
        refine lv_iconst (v := 1) E.hx E.hb dX6_anchor_41 (by decide) ?_
        refine lv_bipush (v := 100) E.hx E.hb dX6_anchor_42 (by decide) ?_
        refine iv_X6_56 E K0 S (by decide) hl.1 (Nat.le_of_ble_eq_true rfl) dX6_anchor_44 ?_
        refine lv_if_ne (tgt := 60) E.hx E.hb dX6_anchor_47 (by decide) (fun c_4 => ?_) (fun c_4 => ?_)
        · rw [if_neg c_4] at h
          refine lv_aload_n E.hx E.hb dX6_anchor_60 rfl (lv_at hl 0 rfl) ?_
          refine lv_aload_n E.hx E.hb dX6_anchor_61 rfl (lv_at hl 0 rfl) ?_
          refine gf_X6_21 E K0 P dX6_anchor_62 ?_
          refine lv_iload_n E.hx E.hb dX6_anchor_65 rfl (lv_at hl 1 rfl) ?_
          refine lv_iload_n E.hx E.hb dX6_anchor_66 rfl (lv_at hl 2 rfl) ?_
          refine lv_iload_n E.hx E.hb dX6_anchor_67 rfl (lv_at hl 3 rfl) ?_
          refine lv_iload E.hx E.hb dX6_anchor_68 (lv_at hl 4 rfl) ?_
          refine lv_iload E.hx E.hb dX6_anchor_70 (lv_at hl 5 rfl) ?_
          obtain ⟨q_5, e_6, h⟩ := obind h
          refine iv_X6_106 E N K0 P S e_6 (by decide) hl.1 (Nat.le_of_ble_eq_true rfl) dX6_anchor_72 (fun H locs P S => ?_)
          obtain ⟨q_7, e_8, h⟩ := obind h
          refine iv_X6_73 E N K0 P S e_8 (by decide) hl.1 (Nat.le_of_ble_eq_true rfl) dX6_anchor_75 (fun H locs P S => ?_)
          cases h
          refine W.widen (k := 1) (n := 6) (by omega) (by omega) ?_
          exact vx_ret (W.iret E.hx E.hb E.hr (fun t ht _ => ⟨_, _, _, rfl, rfl, by rw [ht]; exact P, S.F ht⟩) S.2.2 dX6_anchor_78 E.hk)
        · rw [if_pos c_4] at h
          cases h
          exact thr_0 E hfl X0 K0 P S (List.mem_of_getElem? (i := 5) rfl) hl.1 rfl dX6_anchor_50 dX6_anchor_53 dX6_anchor_54 dX6_anchor_56 dX6_anchor_59 rfl
  · rw [if_pos c_1] at h
    cases h
    exact thr_1 E hfl X0 K0 P S (List.mem_of_getElem? (i := 2) rfl) hl.1 rfl dX6_anchor_12 dX6_anchor_15 dX6_anchor_16 dX6_anchor_18 dX6_anchor_21 rfl
theorem c_X6_anchor (l : Launch) (hfl : l.stackTraces = false) {H : Heap} {D : va_G} {cyI : ClassId} {ad : Nat → Nat} {I : Nat → Int32} {A : Nat → Nat → Int32} (N : AdN 44 ad) (P : va_P D classes (cw cyI ad I A) H) (x1 x2 x3 x4 x5 : Int32) {out : OutT} (h : B_X6_anchor I A x1 x2 x3 x4 x5 = some out) : vx_Met l yX6_anchor (.code yX6_anchor cX6_anchor 6 (some .int) :: TA) (rmX 7) (PX [.ref (ad 0), .int x1, .int x2, .int x3, .int x4, .int x5] H (KC D cyI ad)) (QT D cyI ad false out) (XT D cyI ad out) 1 6 (InN 44 ad) := by
  refine MofX (own := RX6) (by decide +kernel) rfl rfl ?_
  intro p e s m args below meth c ls E X0 hH K0 hl
  subst hH
  exact w_X6_anchor E K0 N hfl X0 P va_S.rf h hl
theorem ds_X6_anchor : Dsc yX6_anchor 5 := ⟨by decide +kernel, by decide +kernel, by decide +kernel⟩
end
section
variable {p : Program} {l : Launch} {e : Env} {R : Room} {s : State} {m : MethodId} {args : Array Value} {below : List Frame} {meth : Method} {c : Code} {H : Heap} {locs : List Loc} {cells slots : Nat} {Q : State → Prop} {cc : ByteArray} {nL pc : Nat} {ret : Option FieldType} {ls : Array Slot} {rest : List Value} {D : va_G} {cyI : ClassId} {ad : Nat → Nat} {I : Nat → Int32} {A : Nat → Nat → Int32}
theorem iv_X6_117 (E : EX p s m args meth c cc nL RX6 ret) (K0 : KC D cyI ad s s.heap) (P : va_P D classes (cw cyI ad I A) H) (S : va_S (InN 44 ad) s.heap H locs) {a0 a1 a2 a3 : Int32} {v : Int32} (hv : B_X1_hasPixelIn I A a0 a1 a2 a3 = some v) (hR : RmOk R cells slots 2 7) (hls : ls.size = nL) (hro : (rest.map fun v => v.category).sum ≤ 8) (hdg : decode cc pc = .ok (.invokevirtual 117, 3)) (kk : W p l e R s m args below meth c H locs cells slots Q (F0 m (pc + 3) ls (.int v :: rest))) : W p l e R s m args below meth c H locs cells slots Q (F0 m pc ls (.int a3 :: .int a2 :: .int a1 :: .int a0 :: .ref (ad 2) :: rest)) :=
  cv_ro E (c_X1_hasPixelIn l P a0 a1 a2 a3 hv) (gV kML_X6_117 kIM_X1_hasPixelIn kSE_X1_hasPixelIn kIN_X1 kCO_X1_hasPixelIn) rfl ds_X1_hasPixelIn rfl KC_blind (fun U _ hW => (K0.at S).warm hW) (va_recv K0.k P (show classes[1]? = some (RX1, TX1, 11) from rfl) cw_g2) hR hls rfl hro hdg kk
end
section
variable {p : Program} {l : Launch} {e : Env} {R : Room} {s : State} {m : MethodId} {args : Array Value} {below : List Frame} {meth : Method} {c : Code} {H : Heap} {locs : List Loc} {cells slots : Nat} {Q : State → Prop} {cc : ByteArray} {nL pc : Nat} {ret : Option FieldType} {ls : Array Slot} {rest : List Value} {D : va_G} {cyI : ClassId} {ad : Nat → Nat} {I : Nat → Int32} {A : Nat → Nat → Int32}
theorem iv_X6_123 (E : EX p s m args meth c cc nL RX6 ret) (N : AdN 44 ad) (K0 : KC D cyI ad s s.heap) (P : va_P D classes (cw cyI ad I A) H) (S : va_S (InN 44 ad) s.heap H locs) {a0 a1 a2 a3 : Int32} {v : Int32 × (Nat → Int32) × (Nat → Nat → Int32)} (hv : B_X3_make I A a0 a1 a2 a3 = some v) (hR : RmOk R cells slots 1 6) (hls : ls.size = nL) (hro : (rest.map fun v => v.category).sum ≤ 8) (hdg : decode cc pc = .ok (.invokevirtual 123, 3)) (kk : ∀ (H1 : Heap) (locs1 : List Loc), va_P D classes (cw cyI ad v.2.1 v.2.2) H1 → va_S (InN 44 ad) s.heap H1 locs1 → W p l e R s m args below meth c H1 locs1 cells slots Q (F0 m (pc + 3) ls (.int v.1 :: rest))) : W p l e R s m args below meth c H locs cells slots Q (F0 m pc ls (.int a3 :: .int a2 :: .int a1 :: .int a0 :: .ref (ad 1) :: rest)) :=
  cv_rw E (c_X3_make l N P a0 a1 a2 a3 hv) (gV kML_X6_123 kIM_X3_make kSE_X3_make kIN_X3 kCO_X3_make) rfl ds_X3_make rfl KC_blind (fun U _ hW => (K0.at S).warm hW) S (va_recv K0.k P (show classes[3]? = some (RX3, TX3, 9) from rfl) cw_g1) hR hls rfl hro hdg kk
end
section
variable {p : Program} {l : Launch} {e : Env} {R : Room} {s : State} {m : MethodId} {args : Array Value} {below : List Frame} {meth : Method} {c : Code} {H : Heap} {locs : List Loc} {cells slots : Nat} {Q : State → Prop} {cc : ByteArray} {nL pc : Nat} {ret : Option FieldType} {ls : Array Slot} {rest : List Value} {D : va_G} {cyI : ClassId} {ad : Nat → Nat} {I : Nat → Int32} {A : Nat → Nat → Int32}
theorem iv_X6_127 (E : EX p s m args meth c cc nL RX6 ret) (N : AdN 44 ad) (K0 : KC D cyI ad s s.heap) (P : va_P D classes (cw cyI ad I A) H) (S : va_S (InN 44 ad) s.heap H locs) {a0 a1 a2 a3 a4 : Int32} {v : (Nat → Int32) × (Nat → Nat → Int32)} (hv : B_X1_mark I A a0 a1 a2 a3 a4 = some v) (hR : RmOk R cells slots 1 8) (hls : ls.size = nL) (hro : (rest.map fun v => v.category).sum ≤ 8) (hdg : decode cc pc = .ok (.invokevirtual 127, 3)) (kk : ∀ (H1 : Heap) (locs1 : List Loc), va_P D classes (cw cyI ad v.1 v.2) H1 → va_S (InN 44 ad) s.heap H1 locs1 → W p l e R s m args below meth c H1 locs1 cells slots Q (F0 m (pc + 3) ls (rest))) : W p l e R s m args below meth c H locs cells slots Q (F0 m pc ls (.int a4 :: .int a3 :: .int a2 :: .int a1 :: .int a0 :: .ref (ad 2) :: rest)) :=
  cv_rw E (c_X1_mark l N P a0 a1 a2 a3 a4 hv) (gV kML_X6_127 kIM_X1_mark kSE_X1_mark kIN_X1 kCO_X1_mark) rfl ds_X1_mark rfl KC_blind (fun U _ hW => (K0.at S).warm hW) S (va_recv K0.k P (show classes[1]? = some (RX1, TX1, 11) from rfl) cw_g2) hR hls rfl hro hdg kk
end
section
variable {p : Program} {l : Launch} {e : Env} {s : State} {m : MethodId} {args : Array Value} {below : List Frame} {meth : Method} {c : Code} {D : va_G} {cyI : ClassId} {ad : Nat → Nat} {I : Nat → Int32} {A : Nat → Nat → Int32}
def B_X6_pixel (I : Nat → Int32) (A : Nat → Nat → Int32) (x1 x2 x3 x4 : Int32) : Option (OutT) := if (B_X1_has I A x1 x2) = 0 then some (.inr (1, I, A)) else (if (B_X6_isIn x3 1 12) = 0 then some (.inr (0, I, A)) else (if (B_X6_isIn x4 1 12) = 0 then some (.inr (0, I, A)) else (if (B_X1_has I A (((x1 + x3) - 1)) (((x2 + x4) - 1))) = 0 then some (.inr (0, I, A)) else (if 8 ≤ (I 4) then some (.inr (2, I, A)) else ((B_X1_hasPixelIn I A x1 x2 x3 x4).bind fun r_6 => if r_6 = 0 then ((B_X3_make I A x1 x2 x3 x4).bind fun q_9 => (B_X1_mark q_9.2.1 q_9.2.2 x1 x2 x3 x4 q_9.1).bind fun q_11 => some (.inl (q_9.1, q_11.1, q_11.2))) else some (.inr (2, I, A)))))))
set_option maxHeartbeats 4000000 in
set_option maxRecDepth 100000 in
theorem w_X6_pixel (E : EX p s m args meth c cX6_pixel 6 RX6 (some .int)) (K0 : KC D cyI ad s s.heap) (N : AdN 44 ad) (hfl : l.stackTraces = false) (X0 : ∀ x ∈ c.exceptionTable.toList, False) {H : Heap} {locs : List Loc} (P : va_P D classes (cw cyI ad I A) H) (S : va_S (InN 44 ad) s.heap H locs)  {x1 x2 x3 x4 : Int32} {out : OutT} (h : B_X6_pixel I A x1 x2 x3 x4 = some out) {ls : Array Slot} (hl : lv_has ls 6 [(0, .ref (ad 0)), (1, .int x1), (2, .int x2), (3, .int x3), (4, .int x4)]) : W p l e (rmX 7) s m args below meth c H locs 0 0 (vx_MQ below (QT D cyI ad false out) (XT D cyI ad out) args s 1 6 (InN 44 ad)) (F0 m 0 ls []) := by
  unfold B_X6_pixel at h
  refine lv_aload_n E.hx E.hb dX6_pixel_0 rfl (lv_at hl 0 rfl) ?_
  refine gf_X6_21 E K0 P dX6_pixel_1 ?_
  refine lv_iload_n E.hx E.hb dX6_pixel_4 rfl (lv_at hl 1 rfl) ?_
  refine lv_iload_n E.hx E.hb dX6_pixel_5 rfl (lv_at hl 2 rfl) ?_
  refine iv_X6_77 E K0 P S (by decide) hl.1 (Nat.le_of_ble_eq_true rfl) dX6_pixel_6 ?_
  refine lv_if_ne (tgt := 22) E.hx E.hb dX6_pixel_9 (by decide) (fun c_1 => ?_) (fun c_1 => ?_)
  · rw [if_neg c_1] at h
    refine lv_iload_n E.hx E.hb dX6_pixel_22 rfl (lv_at hl 3 rfl) ?_
    refine lv_iconst (v := 1) E.hx E.hb dX6_pixel_23 (by decide) ?_
    refine lv_bipush (v := 12) E.hx E.hb dX6_pixel_24 (by decide) ?_
    refine iv_X6_56 E K0 S (by decide) hl.1 (Nat.le_of_ble_eq_true rfl) dX6_pixel_26 ?_
    refine lv_if_eq (tgt := 43) E.hx E.hb dX6_pixel_29 (by decide) (fun c_2 => ?_) (fun c_2 => ?_)
    · rw [if_pos c_2] at h
      cases h
      exact thr_0 E hfl X0 K0 P S (List.mem_of_getElem? (i := 6) rfl) hl.1 rfl dX6_pixel_43 dX6_pixel_46 dX6_pixel_47 dX6_pixel_49 dX6_pixel_52 rfl
    · rw [if_neg c_2] at h
      refine lv_iload E.hx E.hb dX6_pixel_32 (lv_at hl 4 rfl) ?_
      refine lv_iconst (v := 1) E.hx E.hb dX6_pixel_34 (by decide) ?_
      refine lv_bipush (v := 12) E.hx E.hb dX6_pixel_35 (by decide) ?_
      refine iv_X6_56 E K0 S (by decide) hl.1 (Nat.le_of_ble_eq_true rfl) dX6_pixel_37 ?_
      refine lv_if_ne (tgt := 53) E.hx E.hb dX6_pixel_40 (by decide) (fun c_3 => ?_) (fun c_3 => ?_)
      · rw [if_neg c_3] at h
        refine lv_aload_n E.hx E.hb dX6_pixel_53 rfl (lv_at hl 0 rfl) ?_
        refine gf_X6_21 E K0 P dX6_pixel_54 ?_
        refine lv_iload_n E.hx E.hb dX6_pixel_57 rfl (lv_at hl 1 rfl) ?_
        refine lv_iload_n E.hx E.hb dX6_pixel_58 rfl (lv_at hl 3 rfl) ?_
        refine lv_iadd E.hx E.hb dX6_pixel_59 ?_
        refine lv_iconst (v := 1) E.hx E.hb dX6_pixel_60 (by decide) ?_
        refine lv_isub E.hx E.hb dX6_pixel_61 ?_
        refine lv_iload_n E.hx E.hb dX6_pixel_62 rfl (lv_at hl 2 rfl) ?_
        refine lv_iload E.hx E.hb dX6_pixel_63 (lv_at hl 4 rfl) ?_
        refine lv_iadd E.hx E.hb dX6_pixel_65 ?_
        refine lv_iconst (v := 1) E.hx E.hb dX6_pixel_66 (by decide) ?_
        refine lv_isub E.hx E.hb dX6_pixel_67 ?_
        refine iv_X6_77 E K0 P S (by decide) hl.1 (Nat.le_of_ble_eq_true rfl) dX6_pixel_68 ?_
        refine lv_if_ne (tgt := 84) E.hx E.hb dX6_pixel_71 (by decide) (fun c_4 => ?_) (fun c_4 => ?_)
        · rw [if_neg c_4] at h
          refine lv_aload_n E.hx E.hb dX6_pixel_84 rfl (lv_at hl 0 rfl) ?_
          refine gf_X6_12 E K0 P dX6_pixel_85 ?_
          refine gf_X6_114 E K0 P dX6_pixel_88 ?_
          refine lv_bipush (v := 8) E.hx E.hb dX6_pixel_91 (by decide) ?_
          refine lv_icmp_ge (tgt := 111) E.hx E.hb dX6_pixel_93 (by decide) (fun c_5 => ?_) (fun c_5 => ?_)
          · rw [if_pos c_5] at h
            cases h
            exact thr_2 E hfl X0 K0 P S (List.mem_of_getElem? (i := 8) rfl) hl.1 rfl dX6_pixel_111 dX6_pixel_114 dX6_pixel_115 dX6_pixel_117 dX6_pixel_120 rfl
          · rw [if_neg c_5] at h
            refine lv_aload_n E.hx E.hb dX6_pixel_96 rfl (lv_at hl 0 rfl) ?_
            refine gf_X6_21 E K0 P dX6_pixel_97 ?_
            refine lv_iload_n E.hx E.hb dX6_pixel_100 rfl (lv_at hl 1 rfl) ?_
            refine lv_iload_n E.hx E.hb dX6_pixel_101 rfl (lv_at hl 2 rfl) ?_
            refine lv_iload_n E.hx E.hb dX6_pixel_102 rfl (lv_at hl 3 rfl) ?_
            refine lv_iload E.hx E.hb dX6_pixel_103 (lv_at hl 4 rfl) ?_
            obtain ⟨r_6, e_7, h⟩ := obind h
            refine iv_X6_117 E K0 P S e_7 (by decide) hl.1 (Nat.le_of_ble_eq_true rfl) dX6_pixel_105 ?_
            refine lv_if_eq (tgt := 121) E.hx E.hb dX6_pixel_108 (by decide) (fun c_8 => ?_) (fun c_8 => ?_)
            · rw [if_pos c_8] at h
              refine lv_aload_n E.hx E.hb dX6_pixel_121 rfl (lv_at hl 0 rfl) ?_
              refine gf_X6_12 E K0 P dX6_pixel_122 ?_
              refine lv_iload_n E.hx E.hb dX6_pixel_125 rfl (lv_at hl 1 rfl) ?_
              refine lv_iload_n E.hx E.hb dX6_pixel_126 rfl (lv_at hl 2 rfl) ?_
              refine lv_iload_n E.hx E.hb dX6_pixel_127 rfl (lv_at hl 3 rfl) ?_
              refine lv_iload E.hx E.hb dX6_pixel_128 (lv_at hl 4 rfl) ?_
              obtain ⟨q_9, e_10, h⟩ := obind h
              refine iv_X6_123 E N K0 P S e_10 (by decide) hl.1 (Nat.le_of_ble_eq_true rfl) dX6_pixel_130 (fun H locs P S => ?_)
              refine lv_istore (lv' := [(5, .int q_9.1), (0, .ref (ad 0)), (1, .int x1), (2, .int x2), (3, .int x3), (4, .int x4)]) E.hx E.hb dX6_pixel_133 hl (by decide) rfl (fun ls hl => ?_)
              refine lv_aload_n E.hx E.hb dX6_pixel_135 rfl (lv_at hl 1 rfl) ?_
              refine gf_X6_21 E K0 P dX6_pixel_136 ?_
              refine lv_iload_n E.hx E.hb dX6_pixel_139 rfl (lv_at hl 2 rfl) ?_
              refine lv_iload_n E.hx E.hb dX6_pixel_140 rfl (lv_at hl 3 rfl) ?_
              refine lv_iload_n E.hx E.hb dX6_pixel_141 rfl (lv_at hl 4 rfl) ?_
              refine lv_iload E.hx E.hb dX6_pixel_142 (lv_at hl 5 rfl) ?_
              refine lv_iload E.hx E.hb dX6_pixel_144 (lv_at hl 0 rfl) ?_
              obtain ⟨q_11, e_12, h⟩ := obind h
              refine iv_X6_127 E N K0 P S e_12 (by decide) hl.1 (Nat.le_of_ble_eq_true rfl) dX6_pixel_146 (fun H locs P S => ?_)
              refine lv_iload E.hx E.hb dX6_pixel_149 (lv_at hl 0 rfl) ?_
              cases h
              refine W.widen (k := 1) (n := 6) (by omega) (by omega) ?_
              exact vx_ret (W.iret E.hx E.hb E.hr (fun t ht _ => ⟨_, _, _, rfl, rfl, by rw [ht]; exact P, S.F ht⟩) S.2.2 dX6_pixel_151 E.hk)
            · rw [if_neg c_8] at h
              cases h
              exact thr_2 E hfl X0 K0 P S (List.mem_of_getElem? (i := 8) rfl) hl.1 rfl dX6_pixel_111 dX6_pixel_114 dX6_pixel_115 dX6_pixel_117 dX6_pixel_120 rfl
        · rw [if_pos c_4] at h
          cases h
          exact thr_0 E hfl X0 K0 P S (List.mem_of_getElem? (i := 7) rfl) hl.1 rfl dX6_pixel_74 dX6_pixel_77 dX6_pixel_78 dX6_pixel_80 dX6_pixel_83 rfl
      · rw [if_pos c_3] at h
        cases h
        exact thr_0 E hfl X0 K0 P S (List.mem_of_getElem? (i := 6) rfl) hl.1 rfl dX6_pixel_43 dX6_pixel_46 dX6_pixel_47 dX6_pixel_49 dX6_pixel_52 rfl
  · rw [if_pos c_1] at h
    cases h
    exact thr_1 E hfl X0 K0 P S (List.mem_of_getElem? (i := 2) rfl) hl.1 rfl dX6_pixel_12 dX6_pixel_15 dX6_pixel_16 dX6_pixel_18 dX6_pixel_21 rfl
theorem c_X6_pixel (l : Launch) (hfl : l.stackTraces = false) {H : Heap} {D : va_G} {cyI : ClassId} {ad : Nat → Nat} {I : Nat → Int32} {A : Nat → Nat → Int32} (N : AdN 44 ad) (P : va_P D classes (cw cyI ad I A) H) (x1 x2 x3 x4 : Int32) {out : OutT} (h : B_X6_pixel I A x1 x2 x3 x4 = some out) : vx_Met l yX6_pixel (.code yX6_pixel cX6_pixel 6 (some .int) :: TA) (rmX 7) (PX [.ref (ad 0), .int x1, .int x2, .int x3, .int x4] H (KC D cyI ad)) (QT D cyI ad false out) (XT D cyI ad out) 1 6 (InN 44 ad) := by
  refine MofX (own := RX6) (by decide +kernel) rfl rfl ?_
  intro p e s m args below meth c ls E X0 hH K0 hl
  subst hH
  exact w_X6_pixel E K0 N hfl X0 P va_S.rf h hl
theorem ds_X6_pixel : Dsc yX6_pixel 4 := ⟨by decide +kernel, by decide +kernel, by decide +kernel⟩
end
section
variable {p : Program} {l : Launch} {e : Env} {R : Room} {s : State} {m : MethodId} {args : Array Value} {below : List Frame} {meth : Method} {c : Code} {H : Heap} {locs : List Loc} {cells slots : Nat} {Q : State → Prop} {cc : ByteArray} {nL pc : Nat} {ret : Option FieldType} {ls : Array Slot} {rest : List Value} {D : va_G} {cyI : ClassId} {ad : Nat → Nat} {I : Nat → Int32} {A : Nat → Nat → Int32}
theorem iv_X6_131 (E : EX p s m args meth c cc nL RX6 ret) (K0 : KC D cyI ad s s.heap) (P : va_P D classes (cw cyI ad I A) H) (S : va_S (InN 44 ad) s.heap H locs) {a0 : Int32} (hR : RmOk R cells slots 0 2) (hls : ls.size = nL) (hro : (rest.map fun v => v.category).sum ≤ 8) (hdg : decode cc pc = .ok (.invokevirtual 131, 3)) (kk : W p l e R s m args below meth c H locs cells slots Q (F0 m (pc + 3) ls (.int (B_X3_has I A a0) :: rest))) : W p l e R s m args below meth c H locs cells slots Q (F0 m pc ls (.int a0 :: .ref (ad 1) :: rest)) :=
  cv_ro E (c_X3_has l P a0 ) (gV kML_X6_131 kIM_X3_has kSE_X3_has kIN_X3 kCO_X3_has) rfl ds_X3_has rfl KC_blind (fun U _ hW => (K0.at S).warm hW) (va_recv K0.k P (show classes[3]? = some (RX3, TX3, 9) from rfl) cw_g1) hR hls rfl hro hdg kk
end
section
variable {p : Program} {l : Launch} {e : Env} {R : Room} {s : State} {m : MethodId} {args : Array Value} {below : List Frame} {meth : Method} {c : Code} {H : Heap} {locs : List Loc} {cells slots : Nat} {Q : State → Prop} {cc : ByteArray} {nL pc : Nat} {ret : Option FieldType} {ls : Array Slot} {rest : List Value} {D : va_G} {cyI : ClassId} {ad : Nat → Nat} {I : Nat → Int32} {A : Nat → Nat → Int32}
theorem iv_X6_137 (E : EX p s m args meth c cc nL RX6 ret) (N : AdN 44 ad) (K0 : KC D cyI ad s s.heap) (P : va_P D classes (cw cyI ad I A) H) (S : va_S (InN 44 ad) s.heap H locs) {a0 a1 a2 : Int32} {v : Int32 × (Nat → Int32) × (Nat → Nat → Int32)} (hv : B_X1_setField I A a0 a1 a2 = some v) (hR : RmOk R cells slots 4 5) (hls : ls.size = nL) (hro : (rest.map fun v => v.category).sum ≤ 8) (hdg : decode cc pc = .ok (.invokevirtual 137, 3)) (kk : ∀ (H1 : Heap) (locs1 : List Loc), va_P D classes (cw cyI ad v.2.1 v.2.2) H1 → va_S (InN 44 ad) s.heap H1 locs1 → W p l e R s m args below meth c H1 locs1 cells slots Q (F0 m (pc + 3) ls (.int v.1 :: rest))) : W p l e R s m args below meth c H locs cells slots Q (F0 m pc ls (.int a2 :: .int a1 :: .int a0 :: .ref (ad 2) :: rest)) :=
  cv_rw E (c_X1_setField l N P a0 a1 a2 hv) (gV kML_X6_137 kIM_X1_setField kSE_X1_setField kIN_X1 kCO_X1_setField) rfl ds_X1_setField rfl KC_blind (fun U _ hW => (K0.at S).warm hW) S (va_recv K0.k P (show classes[1]? = some (RX1, TX1, 11) from rfl) cw_g2) hR hls rfl hro hdg kk
end
section
variable {p : Program} {l : Launch} {e : Env} {s : State} {m : MethodId} {args : Array Value} {below : List Frame} {meth : Method} {c : Code} {D : va_G} {cyI : ClassId} {ad : Nat → Nat} {I : Nat → Int32} {A : Nat → Nat → Int32}
def B_X6_drive (I : Nat → Int32) (A : Nat → Nat → Int32) (x1 x2 x3 : Int32) : Option (OutT) := if (B_X3_has I A x1) = 0 then some (.inr (1, I, A)) else (if (B_X6_isDirection x2) = 0 then some (.inr (0, I, A)) else (if (B_X6_isIn x3 0 100) = 0 then some (.inr (0, I, A)) else ((B_X1_setField I A x1 x2 x3).bind fun q_4 => (B_X6_worked q_4.2.1 q_4.2.2 q_4.1).bind fun q_6 => some (.inl (q_6.1, q_6.2.1, q_6.2.2)))))
set_option maxHeartbeats 4000000 in
set_option maxRecDepth 100000 in
theorem w_X6_drive (E : EX p s m args meth c cX6_drive 4 RX6 (some .int)) (K0 : KC D cyI ad s s.heap) (N : AdN 44 ad) (hfl : l.stackTraces = false) (X0 : ∀ x ∈ c.exceptionTable.toList, False) {H : Heap} {locs : List Loc} (P : va_P D classes (cw cyI ad I A) H) (S : va_S (InN 44 ad) s.heap H locs)  {x1 x2 x3 : Int32} {out : OutT} (h : B_X6_drive I A x1 x2 x3 = some out) {ls : Array Slot} (hl : lv_has ls 4 [(0, .ref (ad 0)), (1, .int x1), (2, .int x2), (3, .int x3)]) : W p l e (rmX 7) s m args below meth c H locs 0 0 (vx_MQ below (QT D cyI ad false out) (XT D cyI ad out) args s 1 6 (InN 44 ad)) (F0 m 0 ls []) := by
  unfold B_X6_drive at h
  refine lv_aload_n E.hx E.hb dX6_drive_0 rfl (lv_at hl 0 rfl) ?_
  refine gf_X6_12 E K0 P dX6_drive_1 ?_
  refine lv_iload_n E.hx E.hb dX6_drive_4 rfl (lv_at hl 1 rfl) ?_
  refine iv_X6_131 E K0 P S (by decide) hl.1 (Nat.le_of_ble_eq_true rfl) dX6_drive_5 ?_
  refine lv_if_ne (tgt := 21) E.hx E.hb dX6_drive_8 (by decide) (fun c_1 => ?_) (fun c_1 => ?_)
  · rw [if_neg c_1] at h
    refine lv_iload_n E.hx E.hb dX6_drive_21 rfl (lv_at hl 2 rfl) ?_
    refine iv_X6_86 E K0 S (by decide) hl.1 (Nat.le_of_ble_eq_true rfl) dX6_drive_22 ?_
    refine lv_if_eq (tgt := 38) E.hx E.hb dX6_drive_25 (by decide) (fun c_2 => ?_) (fun c_2 => ?_)
    · rw [if_pos c_2] at h
      cases h
      exact thr_0 E hfl X0 K0 P S (List.mem_of_getElem? (i := 10) rfl) hl.1 rfl dX6_drive_38 dX6_drive_41 dX6_drive_42 dX6_drive_44 dX6_drive_47 rfl
    · rw [if_neg c_2] at h
      refine lv_iload_n E.hx E.hb dX6_drive_28 rfl (lv_at hl 3 rfl) ?_
      refine lv_iconst (v := 0) E.hx E.hb dX6_drive_29 (by decide) ?_
      refine lv_bipush (v := 100) E.hx E.hb dX6_drive_30 (by decide) ?_
      refine iv_X6_56 E K0 S (by decide) hl.1 (Nat.le_of_ble_eq_true rfl) dX6_drive_32 ?_
      refine lv_if_ne (tgt := 48) E.hx E.hb dX6_drive_35 (by decide) (fun c_3 => ?_) (fun c_3 => ?_)
      · rw [if_neg c_3] at h
        refine lv_aload_n E.hx E.hb dX6_drive_48 rfl (lv_at hl 0 rfl) ?_
        refine lv_aload_n E.hx E.hb dX6_drive_49 rfl (lv_at hl 0 rfl) ?_
        refine gf_X6_21 E K0 P dX6_drive_50 ?_
        refine lv_iload_n E.hx E.hb dX6_drive_53 rfl (lv_at hl 1 rfl) ?_
        refine lv_iload_n E.hx E.hb dX6_drive_54 rfl (lv_at hl 2 rfl) ?_
        refine lv_iload_n E.hx E.hb dX6_drive_55 rfl (lv_at hl 3 rfl) ?_
        obtain ⟨q_4, e_5, h⟩ := obind h
        refine iv_X6_137 E N K0 P S e_5 (by decide) hl.1 (Nat.le_of_ble_eq_true rfl) dX6_drive_56 (fun H locs P S => ?_)
        obtain ⟨q_6, e_7, h⟩ := obind h
        refine iv_X6_73 E N K0 P S e_7 (by decide) hl.1 (Nat.le_of_ble_eq_true rfl) dX6_drive_59 (fun H locs P S => ?_)
        cases h
        refine W.widen (k := 1) (n := 6) (by omega) (by omega) ?_
        exact vx_ret (W.iret E.hx E.hb E.hr (fun t ht _ => ⟨_, _, _, rfl, rfl, by rw [ht]; exact P, S.F ht⟩) S.2.2 dX6_drive_62 E.hk)
      · rw [if_pos c_3] at h
        cases h
        exact thr_0 E hfl X0 K0 P S (List.mem_of_getElem? (i := 10) rfl) hl.1 rfl dX6_drive_38 dX6_drive_41 dX6_drive_42 dX6_drive_44 dX6_drive_47 rfl
  · rw [if_pos c_1] at h
    cases h
    exact thr_1 E hfl X0 K0 P S (List.mem_of_getElem? (i := 9) rfl) hl.1 rfl dX6_drive_11 dX6_drive_14 dX6_drive_15 dX6_drive_17 dX6_drive_20 rfl
theorem c_X6_drive (l : Launch) (hfl : l.stackTraces = false) {H : Heap} {D : va_G} {cyI : ClassId} {ad : Nat → Nat} {I : Nat → Int32} {A : Nat → Nat → Int32} (N : AdN 44 ad) (P : va_P D classes (cw cyI ad I A) H) (x1 x2 x3 : Int32) {out : OutT} (h : B_X6_drive I A x1 x2 x3 = some out) : vx_Met l yX6_drive (.code yX6_drive cX6_drive 4 (some .int) :: TA) (rmX 7) (PX [.ref (ad 0), .int x1, .int x2, .int x3] H (KC D cyI ad)) (QT D cyI ad false out) (XT D cyI ad out) 1 6 (InN 44 ad) := by
  refine MofX (own := RX6) (by decide +kernel) rfl rfl ?_
  intro p e s m args below meth c ls E X0 hH K0 hl
  subst hH
  exact w_X6_drive E K0 N hfl X0 P va_S.rf h hl
theorem ds_X6_drive : Dsc yX6_drive 3 := ⟨by decide +kernel, by decide +kernel, by decide +kernel⟩
end
section
variable {p : Program} {l : Launch} {e : Env} {R : Room} {s : State} {m : MethodId} {args : Array Value} {below : List Frame} {meth : Method} {c : Code} {H : Heap} {locs : List Loc} {cells slots : Nat} {Q : State → Prop} {cc : ByteArray} {nL pc : Nat} {ret : Option FieldType} {ls : Array Slot} {rest : List Value} {D : va_G} {cyI : ClassId} {ad : Nat → Nat} {I : Nat → Int32} {A : Nat → Nat → Int32}
theorem iv_X6_148 (E : EX p s m args meth c cc nL RX6 ret) (N : AdN 44 ad) (K0 : KC D cyI ad s s.heap) (P : va_P D classes (cw cyI ad I A) H) (S : va_S (InN 44 ad) s.heap H locs) {a0 a1 a2 a3 : Int32} {v : Int32 × (Nat → Int32) × (Nat → Nat → Int32)} (hv : B_X0_add I A a0 a1 a2 a3 = some v) (hR : RmOk R cells slots 2 5) (hls : ls.size = nL) (hro : (rest.map fun v => v.category).sum ≤ 8) (hdg : decode cc pc = .ok (.invokevirtual 148, 3)) (kk : ∀ (H1 : Heap) (locs1 : List Loc), va_P D classes (cw cyI ad v.2.1 v.2.2) H1 → va_S (InN 44 ad) s.heap H1 locs1 → W p l e R s m args below meth c H1 locs1 cells slots Q (F0 m (pc + 3) ls (.int v.1 :: rest))) : W p l e R s m args below meth c H locs cells slots Q (F0 m pc ls (.int a3 :: .int a2 :: .int a1 :: .int a0 :: .ref (ad 4) :: rest)) :=
  cv_rw E (c_X0_add l N P a0 a1 a2 a3 hv) (gV kML_X6_148 kIM_X0_add kSE_X0_add kIN_X0 kCO_X0_add) rfl ds_X0_add rfl KC_blind (fun U _ hW => (K0.at S).warm hW) S (va_recv K0.k P (show classes[0]? = some (RX0, TX0, 5) from rfl) cw_g4) hR hls rfl hro hdg kk
end
section
variable {p : Program} {l : Launch} {e : Env} {s : State} {m : MethodId} {args : Array Value} {below : List Frame} {meth : Method} {c : Code} {D : va_G} {cyI : ClassId} {ad : Nat → Nat} {I : Nat → Int32} {A : Nat → Nat → Int32}
def B_X6_program (I : Nat → Int32) (A : Nat → Nat → Int32) (x1 x2 x3 x4 : Int32) : Option (OutT) := if (B_X3_has I A x1) = 0 then some (.inr (1, I, A)) else (if x2 ≤ (I 1) then some (.inr (0, I, A)) else (if x2 ≤ 2000 then (if (B_X6_isDirection x3) = 0 then some (.inr (0, I, A)) else (if (B_X6_isIn x4 0 100) = 0 then some (.inr (0, I, A)) else (if (I 10) < 40 then ((B_X0_add I A x1 x2 x3 x4).bind fun q_7 => some (.inl (q_7.1, q_7.2.1, q_7.2.2))) else some (.inr (2, I, A))))) else some (.inr (0, I, A))))
set_option maxHeartbeats 4000000 in
set_option maxRecDepth 100000 in
theorem w_X6_program (E : EX p s m args meth c cX6_program 5 RX6 (some .int)) (K0 : KC D cyI ad s s.heap) (N : AdN 44 ad) (hfl : l.stackTraces = false) (X0 : ∀ x ∈ c.exceptionTable.toList, False) {H : Heap} {locs : List Loc} (P : va_P D classes (cw cyI ad I A) H) (S : va_S (InN 44 ad) s.heap H locs)  {x1 x2 x3 x4 : Int32} {out : OutT} (h : B_X6_program I A x1 x2 x3 x4 = some out) {ls : Array Slot} (hl : lv_has ls 5 [(0, .ref (ad 0)), (1, .int x1), (2, .int x2), (3, .int x3), (4, .int x4)]) : W p l e (rmX 7) s m args below meth c H locs 0 0 (vx_MQ below (QT D cyI ad false out) (XT D cyI ad out) args s 1 6 (InN 44 ad)) (F0 m 0 ls []) := by
  unfold B_X6_program at h
  refine lv_aload_n E.hx E.hb dX6_program_0 rfl (lv_at hl 0 rfl) ?_
  refine gf_X6_12 E K0 P dX6_program_1 ?_
  refine lv_iload_n E.hx E.hb dX6_program_4 rfl (lv_at hl 1 rfl) ?_
  refine iv_X6_131 E K0 P S (by decide) hl.1 (Nat.le_of_ble_eq_true rfl) dX6_program_5 ?_
  refine lv_if_ne (tgt := 21) E.hx E.hb dX6_program_8 (by decide) (fun c_1 => ?_) (fun c_1 => ?_)
  · rw [if_neg c_1] at h
    refine lv_iload_n E.hx E.hb dX6_program_21 rfl (lv_at hl 2 rfl) ?_
    refine lv_aload_n E.hx E.hb dX6_program_22 rfl (lv_at hl 0 rfl) ?_
    refine gf_X6_140 E K0 P dX6_program_23 ?_
    refine lv_icmp_le (tgt := 36) E.hx E.hb dX6_program_26 (by decide) (fun c_2 => ?_) (fun c_2 => ?_)
    · rw [if_pos c_2] at h
      cases h
      exact thr_0 E hfl X0 K0 P S (List.mem_of_getElem? (i := 11) rfl) hl.1 rfl dX6_program_36 dX6_program_39 dX6_program_40 dX6_program_42 dX6_program_45 rfl
    · rw [if_neg c_2] at h
      refine lv_iload_n E.hx E.hb dX6_program_29 rfl (lv_at hl 2 rfl) ?_
      refine lv_sipush (v := 2000) E.hx E.hb dX6_program_30 (by decide) ?_
      refine lv_icmp_le (tgt := 46) E.hx E.hb dX6_program_33 (by decide) (fun c_3 => ?_) (fun c_3 => ?_)
      · rw [if_pos c_3] at h
        refine lv_iload_n E.hx E.hb dX6_program_46 rfl (lv_at hl 3 rfl) ?_
        refine iv_X6_86 E K0 S (by decide) hl.1 (Nat.le_of_ble_eq_true rfl) dX6_program_47 ?_
        refine lv_if_eq (tgt := 64) E.hx E.hb dX6_program_50 (by decide) (fun c_4 => ?_) (fun c_4 => ?_)
        · rw [if_pos c_4] at h
          cases h
          exact thr_0 E hfl X0 K0 P S (List.mem_of_getElem? (i := 10) rfl) hl.1 rfl dX6_program_64 dX6_program_67 dX6_program_68 dX6_program_70 dX6_program_73 rfl
        · rw [if_neg c_4] at h
          refine lv_iload E.hx E.hb dX6_program_53 (lv_at hl 4 rfl) ?_
          refine lv_iconst (v := 0) E.hx E.hb dX6_program_55 (by decide) ?_
          refine lv_bipush (v := 100) E.hx E.hb dX6_program_56 (by decide) ?_
          refine iv_X6_56 E K0 S (by decide) hl.1 (Nat.le_of_ble_eq_true rfl) dX6_program_58 ?_
          refine lv_if_ne (tgt := 74) E.hx E.hb dX6_program_61 (by decide) (fun c_5 => ?_) (fun c_5 => ?_)
          · rw [if_neg c_5] at h
            refine lv_aload_n E.hx E.hb dX6_program_74 rfl (lv_at hl 0 rfl) ?_
            refine gf_X6_37 E K0 P dX6_program_75 ?_
            refine gf_X6_145 E K0 P dX6_program_78 ?_
            refine lv_bipush (v := 40) E.hx E.hb dX6_program_81 (by decide) ?_
            refine lv_icmp_lt (tgt := 96) E.hx E.hb dX6_program_83 (by decide) (fun c_6 => ?_) (fun c_6 => ?_)
            · rw [if_pos c_6] at h
              refine lv_aload_n E.hx E.hb dX6_program_96 rfl (lv_at hl 0 rfl) ?_
              refine gf_X6_37 E K0 P dX6_program_97 ?_
              refine lv_iload_n E.hx E.hb dX6_program_100 rfl (lv_at hl 1 rfl) ?_
              refine lv_iload_n E.hx E.hb dX6_program_101 rfl (lv_at hl 2 rfl) ?_
              refine lv_iload_n E.hx E.hb dX6_program_102 rfl (lv_at hl 3 rfl) ?_
              refine lv_iload E.hx E.hb dX6_program_103 (lv_at hl 4 rfl) ?_
              obtain ⟨q_7, e_8, h⟩ := obind h
              refine iv_X6_148 E N K0 P S e_8 (by decide) hl.1 (Nat.le_of_ble_eq_true rfl) dX6_program_105 (fun H locs P S => ?_)
              cases h
              refine W.widen (k := 1) (n := 6) (by omega) (by omega) ?_
              exact vx_ret (W.iret E.hx E.hb E.hr (fun t ht _ => ⟨_, _, _, rfl, rfl, by rw [ht]; exact P, S.F ht⟩) S.2.2 dX6_program_108 E.hk)
            · rw [if_neg c_6] at h
              cases h
              exact thr_2 E hfl X0 K0 P S (List.mem_of_getElem? (i := 12) rfl) hl.1 rfl dX6_program_86 dX6_program_89 dX6_program_90 dX6_program_92 dX6_program_95 rfl
          · rw [if_pos c_5] at h
            cases h
            exact thr_0 E hfl X0 K0 P S (List.mem_of_getElem? (i := 10) rfl) hl.1 rfl dX6_program_64 dX6_program_67 dX6_program_68 dX6_program_70 dX6_program_73 rfl
      · rw [if_neg c_3] at h
        cases h
        exact thr_0 E hfl X0 K0 P S (List.mem_of_getElem? (i := 11) rfl) hl.1 rfl dX6_program_36 dX6_program_39 dX6_program_40 dX6_program_42 dX6_program_45 rfl
  · rw [if_pos c_1] at h
    cases h
    exact thr_1 E hfl X0 K0 P S (List.mem_of_getElem? (i := 9) rfl) hl.1 rfl dX6_program_11 dX6_program_14 dX6_program_15 dX6_program_17 dX6_program_20 rfl
theorem c_X6_program (l : Launch) (hfl : l.stackTraces = false) {H : Heap} {D : va_G} {cyI : ClassId} {ad : Nat → Nat} {I : Nat → Int32} {A : Nat → Nat → Int32} (N : AdN 44 ad) (P : va_P D classes (cw cyI ad I A) H) (x1 x2 x3 x4 : Int32) {out : OutT} (h : B_X6_program I A x1 x2 x3 x4 = some out) : vx_Met l yX6_program (.code yX6_program cX6_program 5 (some .int) :: TA) (rmX 7) (PX [.ref (ad 0), .int x1, .int x2, .int x3, .int x4] H (KC D cyI ad)) (QT D cyI ad false out) (XT D cyI ad out) 1 6 (InN 44 ad) := by
  refine MofX (own := RX6) (by decide +kernel) rfl rfl ?_
  intro p e s m args below meth c ls E X0 hH K0 hl
  subst hH
  exact w_X6_program E K0 N hfl X0 P va_S.rf h hl
theorem ds_X6_program : Dsc yX6_program 4 := ⟨by decide +kernel, by decide +kernel, by decide +kernel⟩
end
section
variable {p : Program} {l : Launch} {e : Env} {R : Room} {s : State} {m : MethodId} {args : Array Value} {below : List Frame} {meth : Method} {c : Code} {H : Heap} {locs : List Loc} {cells slots : Nat} {Q : State → Prop} {cc : ByteArray} {nL pc : Nat} {ret : Option FieldType} {ls : Array Slot} {rest : List Value} {D : va_G} {cyI : ClassId} {ad : Nat → Nat} {I : Nat → Int32} {A : Nat → Nat → Int32}
theorem iv_X6_158 (E : EX p s m args meth c cc nL RX6 ret) (N : AdN 44 ad) (K0 : KC D cyI ad s s.heap) (P : va_P D classes (cw cyI ad I A) H) (S : va_S (InN 44 ad) s.heap H locs) {a0 : Int32} {v : Int32 × (Nat → Int32) × (Nat → Nat → Int32)} (hv : B_X0_comeAt I A a0 = some v) (hR : RmOk R cells slots 5 6) (hls : ls.size = nL) (hro : (rest.map fun v => v.category).sum ≤ 8) (hdg : decode cc pc = .ok (.invokevirtual 158, 3)) (kk : ∀ (H1 : Heap) (locs1 : List Loc), va_P D classes (cw cyI ad v.2.1 v.2.2) H1 → va_S (InN 44 ad) s.heap H1 locs1 → W p l e R s m args below meth c H1 locs1 cells slots Q (F0 m (pc + 3) ls (.int v.1 :: rest))) : W p l e R s m args below meth c H locs cells slots Q (F0 m pc ls (.ref (ad 2) :: .int a0 :: .ref (ad 4) :: rest)) :=
  cv_rw E (c_X0_comeAt l N P a0 hv) (gV kML_X6_158 kIM_X0_comeAt kSE_X0_comeAt kIN_X0 kCO_X0_comeAt) rfl ds_X0_comeAt rfl KC_blind (fun U _ hW => (K0.at S).warm hW) S (va_recv K0.k P (show classes[0]? = some (RX0, TX0, 5) from rfl) cw_g4) hR hls rfl hro hdg kk
end
section
variable {p : Program} {l : Launch} {e : Env} {R : Room} {s : State} {m : MethodId} {args : Array Value} {below : List Frame} {meth : Method} {c : Code} {H : Heap} {locs : List Loc} {cells slots : Nat} {Q : State → Prop} {cc : ByteArray} {nL pc : Nat} {ret : Option FieldType} {ls : Array Slot} {rest : List Value} {D : va_G} {cyI : ClassId} {ad : Nat → Nat} {I : Nat → Int32} {A : Nat → Nat → Int32}
theorem iv_X6_162 (E : EX p s m args meth c cc nL RX6 ret) (N : AdN 44 ad) (K0 : KC D cyI ad s s.heap) (P : va_P D classes (cw cyI ad I A) H) (S : va_S (InN 44 ad) s.heap H locs) {v : Int32 × (Nat → Int32) × (Nat → Nat → Int32)} (hv : B_X1_relax I A  = some v) (hR : RmOk R cells slots 5 4) (hls : ls.size = nL) (hro : (rest.map fun v => v.category).sum ≤ 8) (hdg : decode cc pc = .ok (.invokevirtual 162, 3)) (kk : ∀ (H1 : Heap) (locs1 : List Loc), va_P D classes (cw cyI ad v.2.1 v.2.2) H1 → va_S (InN 44 ad) s.heap H1 locs1 → W p l e R s m args below meth c H1 locs1 cells slots Q (F0 m (pc + 3) ls (.int v.1 :: rest))) : W p l e R s m args below meth c H locs cells slots Q (F0 m pc ls (.ref (ad 2) :: rest)) :=
  cv_rw E (c_X1_relax l N P  hv) (gV kML_X6_162 kIM_X1_relax kSE_X1_relax kIN_X1 kCO_X1_relax) rfl ds_X1_relax rfl KC_blind (fun U _ hW => (K0.at S).warm hW) S (va_recv K0.k P (show classes[1]? = some (RX1, TX1, 11) from rfl) cw_g2) hR hls rfl hro hdg kk
end
section
variable {p : Program} {l : Launch} {e : Env} {R : Room} {s : State} {m : MethodId} {args : Array Value} {below : List Frame} {meth : Method} {c : Code} {H : Heap} {locs : List Loc} {cells slots : Nat} {Q : State → Prop} {cc : ByteArray} {nL pc : Nat} {ret : Option FieldType} {ls : Array Slot} {rest : List Value} {D : va_G} {cyI : ClassId} {ad : Nat → Nat} {I : Nat → Int32} {A : Nat → Nat → Int32}
theorem iv_X6_166 (E : EX p s m args meth c cc nL RX6 ret) (N : AdN 44 ad) (K0 : KC D cyI ad s s.heap) (P : va_P D classes (cw cyI ad I A) H) (S : va_S (InN 44 ad) s.heap H locs) {v : (Nat → Int32) × (Nat → Nat → Int32)} (hv : B_X6_noteGreys I A  = some v) (hR : RmOk R cells slots 3 2) (hls : ls.size = nL) (hro : (rest.map fun v => v.category).sum ≤ 8) (hdg : decode cc pc = .ok (.invokevirtual 166, 3)) (kk : ∀ (H1 : Heap) (locs1 : List Loc), va_P D classes (cw cyI ad v.1 v.2) H1 → va_S (InN 44 ad) s.heap H1 locs1 → W p l e R s m args below meth c H1 locs1 cells slots Q (F0 m (pc + 3) ls (rest))) : W p l e R s m args below meth c H locs cells slots Q (F0 m pc ls (.ref (ad 0) :: rest)) :=
  cv_rw E (c_X6_noteGreys l N P  hv) (gV kML_X6_166 kIM_X6_noteGreys kSE_X6_noteGreys kIN_X6 kCO_X6_noteGreys) rfl ds_X6_noteGreys rfl KC_blind (fun U _ hW => (K0.at S).warm hW) S (va_recv K0.k P (show classes[6]? = some (RX6, TX6, 9) from rfl) cw_g0) hR hls rfl hro hdg kk
end
section
variable {p : Program} {l : Launch} {e : Env} {s : State} {m : MethodId} {args : Array Value} {below : List Frame} {meth : Method} {c : Code} {D : va_G} {cyI : ClassId} {ad : Nat → Nat} {I : Nat → Int32} {A : Nat → Nat → Int32}
def B_X6_tick_L49  (x1 x2 : Int32) : Nat → Int32 → (Nat → Int32) → (Nat → Nat → Int32) → Option ((Nat → Int32) × (Nat → Nat → Int32))
  | 0 => fun _ _ _ => none
  | n + 1 => fun x3 I A => if x1 ≤ x3 then some ((I, A)) else ((B_X0_comeAt ((va_up I 1 (((I 1) + 1)))) A ((((va_up I 1 (((I 1) + 1)))) 1))).bind fun q_4 => (B_X6_worked q_4.2.1 q_4.2.2 q_4.1).bind fun q_6 => (B_X1_relax q_6.2.1 q_6.2.2 ).bind fun q_8 => (B_X6_noteGreys ((va_up q_8.2.1 3 (((q_6.2.1 3) + q_8.1)))) q_8.2.2 ).bind fun q_10 => (B_X6_tick_L49 x1 x2 n) (x3 + 1) q_10.1 q_10.2)
theorem B_X6_tick_L49_s (I : Nat → Int32) (A : Nat → Nat → Int32) (x1 x2 x3 : Int32) (n : Nat) : B_X6_tick_L49  x1 x2 (n + 1) x3 I A = if x1 ≤ x3 then some ((I, A)) else ((B_X0_comeAt ((va_up I 1 (((I 1) + 1)))) A ((((va_up I 1 (((I 1) + 1)))) 1))).bind fun q_4 => (B_X6_worked q_4.2.1 q_4.2.2 q_4.1).bind fun q_6 => (B_X1_relax q_6.2.1 q_6.2.2 ).bind fun q_8 => (B_X6_noteGreys ((va_up q_8.2.1 3 (((q_6.2.1 3) + q_8.1)))) q_8.2.2 ).bind fun q_10 => (B_X6_tick_L49 x1 x2 n) (x3 + 1) q_10.1 q_10.2) := rfl
set_option maxHeartbeats 4000000 in
set_option maxRecDepth 100000 in
theorem w_X6_tick_L49 (E : EX p s m args meth c cX6_tick 4 RX6 (some .int)) (K0 : KC D cyI ad s s.heap) (N : AdN 44 ad) (hfl : l.stackTraces = false) (X0 : ∀ x ∈ c.exceptionTable.toList, False) {x1 x2 : Int32} {out : OutT} : ∀ (n : Nat) {x3 : Int32} {I : Nat → Int32} {A : Nat → Nat → Int32} {H : Heap} {locs : List Loc} (P : va_P D classes (cw cyI ad I A) H) (S : va_S (InN 44 ad) s.heap H locs) {o : (Nat → Int32) × (Nat → Nat → Int32)} (h : B_X6_tick_L49  x1 x2 n x3 I A = some o) {ls : Array Slot} (hl : lv_has ls 4 [(0, .ref (ad 0)), (1, .int x1), (2, .int x2), (3, .int x3)]) (kx : ∀ {H : Heap} {locs : List Loc} (_ : va_P D classes (cw cyI ad o.1 o.2) H) (_ : va_S (InN 44 ad) s.heap H locs) {ls : Array Slot}, lv_has ls 4 [(0, .ref (ad 0)), (2, .int x2)] → W p l e (rmX 7) s m args below meth c H locs 0 0 (vx_MQ below (QT D cyI ad false out) (XT D cyI ad out) args s 1 6 (InN 44 ad)) (F0 m 110 ls [])), W p l e (rmX 7) s m args below meth c H locs 0 0 (vx_MQ below (QT D cyI ad false out) (XT D cyI ad out) args s 1 6 (InN 44 ad)) (F0 m 49 ls []) := by
  intro n
  induction n with
  | zero => intro x3 I A H locs P S o h ls hl kx; exact nomatch (show none = some o from h)
  | succ n ih =>
    intro x3 I A H locs P S o h ls hl kx
    rw [B_X6_tick_L49_s] at h
    refine lv_iload_n E.hx E.hb dX6_tick_49 rfl (lv_at hl 3 rfl) ?_
    refine lv_iload_n E.hx E.hb dX6_tick_50 rfl (lv_at hl 1 rfl) ?_
    refine lv_icmp_ge (tgt := 110) E.hx E.hb dX6_tick_51 (by decide) (fun c_3 => ?_) (fun c_3 => ?_)
    · rw [if_pos c_3] at h
      cases h
      exact kx P S (lv_sub hl [0, 2] rfl)
    · rw [if_neg c_3] at h
      refine lv_aload_n E.hx E.hb dX6_tick_54 rfl (lv_at hl 0 rfl) ?_
      refine lv_dup E.hx E.hb dX6_tick_55 rfl ?_
      refine gf_X6_140 E K0 P dX6_tick_56 ?_
      refine lv_iconst (v := 1) E.hx E.hb dX6_tick_59 (by decide) ?_
      refine lv_iadd E.hx E.hb dX6_tick_60 ?_
      refine pf_X6_140 E N K0 P S dX6_tick_61 (fun H locs P S => ?_)
      refine lv_aload_n E.hx E.hb dX6_tick_64 rfl (lv_at hl 0 rfl) ?_
      refine lv_aload_n E.hx E.hb dX6_tick_65 rfl (lv_at hl 0 rfl) ?_
      refine gf_X6_37 E K0 P dX6_tick_66 ?_
      refine lv_aload_n E.hx E.hb dX6_tick_69 rfl (lv_at hl 0 rfl) ?_
      refine gf_X6_140 E K0 P dX6_tick_70 ?_
      refine lv_aload_n E.hx E.hb dX6_tick_73 rfl (lv_at hl 0 rfl) ?_
      refine gf_X6_21 E K0 P dX6_tick_74 ?_
      obtain ⟨q_4, e_5, h⟩ := obind h
      refine iv_X6_158 E N K0 P S e_5 (by decide) hl.1 (Nat.le_of_ble_eq_true rfl) dX6_tick_77 (fun H locs P S => ?_)
      obtain ⟨q_6, e_7, h⟩ := obind h
      refine iv_X6_73 E N K0 P S e_7 (by decide) hl.1 (Nat.le_of_ble_eq_true rfl) dX6_tick_80 (fun H locs P S => ?_)
      refine lv_pop E.hx E.hb dX6_tick_83 rfl ?_
      refine lv_aload_n E.hx E.hb dX6_tick_84 rfl (lv_at hl 0 rfl) ?_
      refine lv_dup E.hx E.hb dX6_tick_85 rfl ?_
      refine gf_X6_155 E K0 P dX6_tick_86 ?_
      refine lv_aload_n E.hx E.hb dX6_tick_89 rfl (lv_at hl 0 rfl) ?_
      refine gf_X6_21 E K0 P dX6_tick_90 ?_
      obtain ⟨q_8, e_9, h⟩ := obind h
      refine iv_X6_162 E N K0 P S e_9 (by decide) hl.1 (Nat.le_of_ble_eq_true rfl) dX6_tick_93 (fun H locs P S => ?_)
      refine lv_iadd E.hx E.hb dX6_tick_96 ?_
      refine pf_X6_155 E N K0 P S dX6_tick_97 (fun H locs P S => ?_)
      refine lv_aload_n E.hx E.hb dX6_tick_100 rfl (lv_at hl 0 rfl) ?_
      obtain ⟨q_10, e_11, h⟩ := obind h
      refine iv_X6_166 E N K0 P S e_11 (by decide) hl.1 (Nat.le_of_ble_eq_true rfl) dX6_tick_101 (fun H locs P S => ?_)
      refine lv_iinc (v := x3 + 1) (lv' := [(3, .int (x3 + 1)), (0, .ref (ad 0)), (1, .int x1), (2, .int x2)]) E.hx E.hb dX6_tick_104 hl (k := 3) rfl rfl (by decide) rfl (fun ls hl => ?_)
      refine lv_goto (tgt := 49) E.hx E.hb dX6_tick_107 (by decide) ?_
      exact ih P S h (lv_sub hl [1, 2, 3, 0] rfl) kx
def B_X6_tick (I : Nat → Int32) (A : Nat → Nat → Int32) (x1 : Int32) : Option (OutT) := if (B_X6_isIn x1 1 50) = 0 then some (.inr (0, I, A)) else (if ((I 1) + x1) ≤ 2000 then ((B_X6_tick_L49  x1 ((I 3)) FU 0 I A).bind fun q_12 => some (.inl (((q_12.1 3) - (I 3)), q_12.1, q_12.2))) else some (.inr (2, I, A)))
set_option maxHeartbeats 4000000 in
set_option maxRecDepth 100000 in
theorem w_X6_tick (E : EX p s m args meth c cX6_tick 4 RX6 (some .int)) (K0 : KC D cyI ad s s.heap) (N : AdN 44 ad) (hfl : l.stackTraces = false) (X0 : ∀ x ∈ c.exceptionTable.toList, False) {H : Heap} {locs : List Loc} (P : va_P D classes (cw cyI ad I A) H) (S : va_S (InN 44 ad) s.heap H locs)  {x1 : Int32} {out : OutT} (h : B_X6_tick I A x1 = some out) {ls : Array Slot} (hl : lv_has ls 4 [(0, .ref (ad 0)), (1, .int x1)]) : W p l e (rmX 7) s m args below meth c H locs 0 0 (vx_MQ below (QT D cyI ad false out) (XT D cyI ad out) args s 1 6 (InN 44 ad)) (F0 m 0 ls []) := by
  unfold B_X6_tick at h
  refine lv_iload_n E.hx E.hb dX6_tick_0 rfl (lv_at hl 1 rfl) ?_
  refine lv_iconst (v := 1) E.hx E.hb dX6_tick_1 (by decide) ?_
  refine lv_bipush (v := 50) E.hx E.hb dX6_tick_2 (by decide) ?_
  refine iv_X6_56 E K0 S (by decide) hl.1 (Nat.le_of_ble_eq_true rfl) dX6_tick_4 ?_
  refine lv_if_ne (tgt := 20) E.hx E.hb dX6_tick_7 (by decide) (fun c_1 => ?_) (fun c_1 => ?_)
  · rw [if_neg c_1] at h
    refine lv_aload_n E.hx E.hb dX6_tick_20 rfl (lv_at hl 0 rfl) ?_
    refine gf_X6_140 E K0 P dX6_tick_21 ?_
    refine lv_iload_n E.hx E.hb dX6_tick_24 rfl (lv_at hl 1 rfl) ?_
    refine lv_iadd E.hx E.hb dX6_tick_25 ?_
    refine lv_sipush (v := 2000) E.hx E.hb dX6_tick_26 (by decide) ?_
    refine lv_icmp_le (tgt := 42) E.hx E.hb dX6_tick_29 (by decide) (fun c_2 => ?_) (fun c_2 => ?_)
    · rw [if_pos c_2] at h
      refine lv_aload_n E.hx E.hb dX6_tick_42 rfl (lv_at hl 0 rfl) ?_
      refine gf_X6_155 E K0 P dX6_tick_43 ?_
      refine lv_istore_n (lv' := [(2, .int (I 3)), (0, .ref (ad 0)), (1, .int x1)]) E.hx E.hb dX6_tick_46 rfl hl (by decide) rfl (fun ls hl => ?_)
      refine lv_iconst (v := 0) E.hx E.hb dX6_tick_47 (by decide) ?_
      refine lv_istore_n (lv' := [(3, .int 0), (2, .int (I 3)), (0, .ref (ad 0)), (1, .int x1)]) E.hx E.hb dX6_tick_48 rfl hl (by decide) rfl (fun ls hl => ?_)
      obtain ⟨q_12, e_13, h⟩ := obind h
      refine w_X6_tick_L49 E K0 N hfl X0 FU P S e_13 (lv_sub hl [2, 3, 1, 0] rfl) (fun {H locs} P S {ls} hl => ?_)
      refine lv_aload_n E.hx E.hb dX6_tick_110 rfl (lv_at hl 0 rfl) ?_
      refine gf_X6_155 E K0 P dX6_tick_111 ?_
      refine lv_iload_n E.hx E.hb dX6_tick_114 rfl (lv_at hl 1 rfl) ?_
      refine lv_isub E.hx E.hb dX6_tick_115 ?_
      cases h
      refine W.widen (k := 1) (n := 6) (by omega) (by omega) ?_
      exact vx_ret (W.iret E.hx E.hb E.hr (fun t ht _ => ⟨_, _, _, rfl, rfl, by rw [ht]; exact P, S.F ht⟩) S.2.2 dX6_tick_116 E.hk)
    · rw [if_neg c_2] at h
      cases h
      exact thr_2 E hfl X0 K0 P S (List.mem_of_getElem? (i := 14) rfl) hl.1 rfl dX6_tick_32 dX6_tick_35 dX6_tick_36 dX6_tick_38 dX6_tick_41 rfl
  · rw [if_pos c_1] at h
    cases h
    exact thr_0 E hfl X0 K0 P S (List.mem_of_getElem? (i := 13) rfl) hl.1 rfl dX6_tick_10 dX6_tick_13 dX6_tick_14 dX6_tick_16 dX6_tick_19 rfl
theorem c_X6_tick (l : Launch) (hfl : l.stackTraces = false) {H : Heap} {D : va_G} {cyI : ClassId} {ad : Nat → Nat} {I : Nat → Int32} {A : Nat → Nat → Int32} (N : AdN 44 ad) (P : va_P D classes (cw cyI ad I A) H) (x1 : Int32) {out : OutT} (h : B_X6_tick I A x1 = some out) : vx_Met l yX6_tick (.code yX6_tick cX6_tick 4 (some .int) :: TA) (rmX 7) (PX [.ref (ad 0), .int x1] H (KC D cyI ad)) (QT D cyI ad false out) (XT D cyI ad out) 1 6 (InN 44 ad) := by
  refine MofX (own := RX6) (by decide +kernel) rfl rfl ?_
  intro p e s m args below meth c ls E X0 hH K0 hl
  subst hH
  exact w_X6_tick E K0 N hfl X0 P va_S.rf h hl
theorem ds_X6_tick : Dsc yX6_tick 1 := ⟨by decide +kernel, by decide +kernel, by decide +kernel⟩
end
section
variable {p : Program} {l : Launch} {e : Env} {s : State} {m : MethodId} {args : Array Value} {below : List Frame} {meth : Method} {c : Code} {D : va_G} {cyI : ClassId} {ad : Nat → Nat} {I : Nat → Int32} {A : Nat → Nat → Int32}
def B_X6_plates (I : Nat → Int32) (A : Nat → Nat → Int32) (x1 : Int32) : Option (OutT) := if (B_X6_isDirection x1) = 0 then some (.inr (0, I, A)) else some (.inl ((I 0), (va_up I 0 x1), A))
set_option maxHeartbeats 4000000 in
set_option maxRecDepth 100000 in
theorem w_X6_plates (E : EX p s m args meth c cX6_plates 3 RX6 (some .int)) (K0 : KC D cyI ad s s.heap) (N : AdN 44 ad) (hfl : l.stackTraces = false) (X0 : ∀ x ∈ c.exceptionTable.toList, False) {H : Heap} {locs : List Loc} (P : va_P D classes (cw cyI ad I A) H) (S : va_S (InN 44 ad) s.heap H locs)  {x1 : Int32} {out : OutT} (h : B_X6_plates I A x1 = some out) {ls : Array Slot} (hl : lv_has ls 3 [(0, .ref (ad 0)), (1, .int x1)]) : W p l e (rmX 7) s m args below meth c H locs 0 0 (vx_MQ below (QT D cyI ad false out) (XT D cyI ad out) args s 1 6 (InN 44 ad)) (F0 m 0 ls []) := by
  unfold B_X6_plates at h
  refine lv_iload_n E.hx E.hb dX6_plates_0 rfl (lv_at hl 1 rfl) ?_
  refine iv_X6_86 E K0 S (by decide) hl.1 (Nat.le_of_ble_eq_true rfl) dX6_plates_1 ?_
  refine lv_if_ne (tgt := 17) E.hx E.hb dX6_plates_4 (by decide) (fun c_1 => ?_) (fun c_1 => ?_)
  · rw [if_neg c_1] at h
    refine lv_aload_n E.hx E.hb dX6_plates_17 rfl (lv_at hl 0 rfl) ?_
    refine gf_X6_48 E K0 P dX6_plates_18 ?_
    refine lv_istore_n (lv' := [(2, .int (I 0)), (0, .ref (ad 0)), (1, .int x1)]) E.hx E.hb dX6_plates_21 rfl hl (by decide) rfl (fun ls hl => ?_)
    refine lv_aload_n E.hx E.hb dX6_plates_22 rfl (lv_at hl 1 rfl) ?_
    refine lv_iload_n E.hx E.hb dX6_plates_23 rfl (lv_at hl 2 rfl) ?_
    refine pf_X6_48 E N K0 P S dX6_plates_24 (fun H locs P S => ?_)
    refine lv_iload_n E.hx E.hb dX6_plates_27 rfl (lv_at hl 0 rfl) ?_
    cases h
    refine W.widen (k := 1) (n := 6) (by omega) (by omega) ?_
    exact vx_ret (W.iret E.hx E.hb E.hr (fun t ht _ => ⟨_, _, _, rfl, rfl, by rw [ht]; exact P, S.F ht⟩) S.2.2 dX6_plates_28 E.hk)
  · rw [if_pos c_1] at h
    cases h
    exact thr_0 E hfl X0 K0 P S (List.mem_of_getElem? (i := 3) rfl) hl.1 rfl dX6_plates_7 dX6_plates_10 dX6_plates_11 dX6_plates_13 dX6_plates_16 rfl
theorem c_X6_plates (l : Launch) (hfl : l.stackTraces = false) {H : Heap} {D : va_G} {cyI : ClassId} {ad : Nat → Nat} {I : Nat → Int32} {A : Nat → Nat → Int32} (N : AdN 44 ad) (P : va_P D classes (cw cyI ad I A) H) (x1 : Int32) {out : OutT} (h : B_X6_plates I A x1 = some out) : vx_Met l yX6_plates (.code yX6_plates cX6_plates 3 (some .int) :: TA) (rmX 7) (PX [.ref (ad 0), .int x1] H (KC D cyI ad)) (QT D cyI ad false out) (XT D cyI ad out) 1 6 (InN 44 ad) := by
  refine MofX (own := RX6) (by decide +kernel) rfl rfl ?_
  intro p e s m args below meth c ls E X0 hH K0 hl
  subst hH
  exact w_X6_plates E K0 N hfl X0 P va_S.rf h hl
theorem ds_X6_plates : Dsc yX6_plates 1 := ⟨by decide +kernel, by decide +kernel, by decide +kernel⟩
end
section
variable {p : Program} {l : Launch} {e : Env} {R : Room} {s : State} {m : MethodId} {args : Array Value} {below : List Frame} {meth : Method} {c : Code} {H : Heap} {locs : List Loc} {cells slots : Nat} {Q : State → Prop} {cc : ByteArray} {nL pc : Nat} {ret : Option FieldType} {ls : Array Slot} {rest : List Value} {D : va_G} {cyI : ClassId} {ad : Nat → Nat} {I : Nat → Int32} {A : Nat → Nat → Int32}
theorem iv_X6_172 (E : EX p s m args meth c cc nL RX6 ret) (N : AdN 44 ad) (K0 : KC D cyI ad s s.heap) (P : va_P D classes (cw cyI ad I A) H) (S : va_S (InN 44 ad) s.heap H locs) {a1 : Int32} {v : Int32 × (Nat → Int32) × (Nat → Nat → Int32)} (hv : B_X2_take I A a1 = some v) (hR : RmOk R cells slots 2 6) (hls : ls.size = nL) (hro : (rest.map fun v => v.category).sum ≤ 8) (hdg : decode cc pc = .ok (.invokevirtual 172, 3)) (kk : ∀ (H1 : Heap) (locs1 : List Loc), va_P D classes (cw cyI ad v.2.1 v.2.2) H1 → va_S (InN 44 ad) s.heap H1 locs1 → W p l e R s m args below meth c H1 locs1 cells slots Q (F0 m (pc + 3) ls (.int v.1 :: rest))) : W p l e R s m args below meth c H locs cells slots Q (F0 m pc ls (.int a1 :: .ref (ad 2) :: .ref (ad 5) :: rest)) :=
  cv_rw E (c_X2_take l N P a1 hv) (gV kML_X6_172 kIM_X2_take kSE_X2_take kIN_X2 kCO_X2_take) rfl ds_X2_take rfl KC_blind (fun U _ hW => (K0.at S).warm hW) S (va_recv K0.k P (show classes[2]? = some (RX2, TX2, 3) from rfl) cw_g5) hR hls rfl hro hdg kk
end
section
variable {p : Program} {l : Launch} {e : Env} {s : State} {m : MethodId} {args : Array Value} {below : List Frame} {meth : Method} {c : Code} {D : va_G} {cyI : ClassId} {ad : Nat → Nat} {I : Nat → Int32} {A : Nat → Nat → Int32}
def B_X6_picture (I : Nat → Int32) (A : Nat → Nat → Int32)  : Option (OutT) := if (I 11) < 10 then ((B_X2_take I A ((I 0))).bind fun q_2 => some (.inl (q_2.1, q_2.2.1, q_2.2.2))) else some (.inr (2, I, A))
set_option maxHeartbeats 4000000 in
set_option maxRecDepth 100000 in
theorem w_X6_picture (E : EX p s m args meth c cX6_picture 1 RX6 (some .int)) (K0 : KC D cyI ad s s.heap) (N : AdN 44 ad) (hfl : l.stackTraces = false) (X0 : ∀ x ∈ c.exceptionTable.toList, False) {H : Heap} {locs : List Loc} (P : va_P D classes (cw cyI ad I A) H) (S : va_S (InN 44 ad) s.heap H locs)  {out : OutT} (h : B_X6_picture I A  = some out) {ls : Array Slot} (hl : lv_has ls 1 [(0, .ref (ad 0))]) : W p l e (rmX 7) s m args below meth c H locs 0 0 (vx_MQ below (QT D cyI ad false out) (XT D cyI ad out) args s 1 6 (InN 44 ad)) (F0 m 0 ls []) := by
  unfold B_X6_picture at h
  refine lv_aload_n E.hx E.hb dX6_picture_0 rfl (lv_at hl 0 rfl) ?_
  refine gf_X6_44 E K0 P dX6_picture_1 ?_
  refine gf_X6_169 E K0 P dX6_picture_4 ?_
  refine lv_bipush (v := 10) E.hx E.hb dX6_picture_7 (by decide) ?_
  refine lv_icmp_lt (tgt := 22) E.hx E.hb dX6_picture_9 (by decide) (fun c_1 => ?_) (fun c_1 => ?_)
  · rw [if_pos c_1] at h
    refine lv_aload_n E.hx E.hb dX6_picture_22 rfl (lv_at hl 0 rfl) ?_
    refine gf_X6_44 E K0 P dX6_picture_23 ?_
    refine lv_aload_n E.hx E.hb dX6_picture_26 rfl (lv_at hl 0 rfl) ?_
    refine gf_X6_21 E K0 P dX6_picture_27 ?_
    refine lv_aload_n E.hx E.hb dX6_picture_30 rfl (lv_at hl 0 rfl) ?_
    refine gf_X6_48 E K0 P dX6_picture_31 ?_
    obtain ⟨q_2, e_3, h⟩ := obind h
    refine iv_X6_172 E N K0 P S e_3 (by decide) hl.1 (Nat.le_of_ble_eq_true rfl) dX6_picture_34 (fun H locs P S => ?_)
    cases h
    refine W.widen (k := 1) (n := 6) (by omega) (by omega) ?_
    exact vx_ret (W.iret E.hx E.hb E.hr (fun t ht _ => ⟨_, _, _, rfl, rfl, by rw [ht]; exact P, S.F ht⟩) S.2.2 dX6_picture_37 E.hk)
  · rw [if_neg c_1] at h
    cases h
    exact thr_2 E hfl X0 K0 P S (List.mem_of_getElem? (i := 15) rfl) hl.1 rfl dX6_picture_12 dX6_picture_15 dX6_picture_16 dX6_picture_18 dX6_picture_21 rfl
theorem c_X6_picture (l : Launch) (hfl : l.stackTraces = false) {H : Heap} {D : va_G} {cyI : ClassId} {ad : Nat → Nat} {I : Nat → Int32} {A : Nat → Nat → Int32} (N : AdN 44 ad) (P : va_P D classes (cw cyI ad I A) H)  {out : OutT} (h : B_X6_picture I A  = some out) : vx_Met l yX6_picture (.code yX6_picture cX6_picture 1 (some .int) :: TA) (rmX 7) (PX [.ref (ad 0)] H (KC D cyI ad)) (QT D cyI ad false out) (XT D cyI ad out) 1 6 (InN 44 ad) := by
  refine MofX (own := RX6) (by decide +kernel) rfl rfl ?_
  intro p e s m args below meth c ls E X0 hH K0 hl
  subst hH
  exact w_X6_picture E K0 N hfl X0 P va_S.rf h hl
theorem ds_X6_picture : Dsc yX6_picture 0 := ⟨by decide +kernel, by decide +kernel, by decide +kernel⟩
end
section
variable {p : Program} {l : Launch} {e : Env} {R : Room} {s : State} {m : MethodId} {args : Array Value} {below : List Frame} {meth : Method} {c : Code} {H : Heap} {locs : List Loc} {cells slots : Nat} {Q : State → Prop} {cc : ByteArray} {nL pc : Nat} {ret : Option FieldType} {ls : Array Slot} {rest : List Value} {D : va_G} {cyI : ClassId} {ad : Nat → Nat} {I : Nat → Int32} {A : Nat → Nat → Int32}
theorem iv_X6_176 (E : EX p s m args meth c cc nL RX6 ret) (K0 : KC D cyI ad s s.heap) (P : va_P D classes (cw cyI ad I A) H) (S : va_S (InN 44 ad) s.heap H locs) {a0 a1 : Int32} (hR : RmOk R cells slots 1 3) (hls : ls.size = nL) (hro : (rest.map fun v => v.category).sum ≤ 8) (hdg : decode cc pc = .ok (.invokevirtual 176, 3)) (kk : W p l e R s m args below meth c H locs cells slots Q (F0 m (pc + 3) ls (.int (B_X1_directionAt I A a0 a1) :: rest))) : W p l e R s m args below meth c H locs cells slots Q (F0 m pc ls (.int a1 :: .int a0 :: .ref (ad 2) :: rest)) :=
  cv_ro E (c_X1_directionAt l P a0 a1 ) (gV kML_X6_176 kIM_X1_directionAt kSE_X1_directionAt kIN_X1 kCO_X1_directionAt) rfl ds_X1_directionAt rfl KC_blind (fun U _ hW => (K0.at S).warm hW) (va_recv K0.k P (show classes[1]? = some (RX1, TX1, 11) from rfl) cw_g2) hR hls rfl hro hdg kk
end
section
variable {p : Program} {l : Launch} {e : Env} {R : Room} {s : State} {m : MethodId} {args : Array Value} {below : List Frame} {meth : Method} {c : Code} {H : Heap} {locs : List Loc} {cells slots : Nat} {Q : State → Prop} {cc : ByteArray} {nL pc : Nat} {ret : Option FieldType} {ls : Array Slot} {rest : List Value} {D : va_G} {cyI : ClassId} {ad : Nat → Nat} {I : Nat → Int32} {A : Nat → Nat → Int32}
theorem iv_X6_179 (E : EX p s m args meth c cc nL RX6 ret) (K0 : KC D cyI ad s s.heap) (P : va_P D classes (cw cyI ad I A) H) (S : va_S (InN 44 ad) s.heap H locs) {a0 a1 : Int32} (hR : RmOk R cells slots 1 3) (hls : ls.size = nL) (hro : (rest.map fun v => v.category).sum ≤ 8) (hdg : decode cc pc = .ok (.invokevirtual 179, 3)) (kk : W p l e R s m args below meth c H locs cells slots Q (F0 m (pc + 3) ls (.int (B_X1_pixelAt I A a0 a1) :: rest))) : W p l e R s m args below meth c H locs cells slots Q (F0 m pc ls (.int a1 :: .int a0 :: .ref (ad 2) :: rest)) :=
  cv_ro E (c_X1_pixelAt l P a0 a1 ) (gV kML_X6_179 kIM_X1_pixelAt kSE_X1_pixelAt kIN_X1 kCO_X1_pixelAt) rfl ds_X1_pixelAt rfl KC_blind (fun U _ hW => (K0.at S).warm hW) (va_recv K0.k P (show classes[1]? = some (RX1, TX1, 11) from rfl) cw_g2) hR hls rfl hro hdg kk
end
section
variable {p : Program} {l : Launch} {e : Env} {R : Room} {s : State} {m : MethodId} {args : Array Value} {below : List Frame} {meth : Method} {c : Code} {H : Heap} {locs : List Loc} {cells slots : Nat} {Q : State → Prop} {cc : ByteArray} {nL pc : Nat} {ret : Option FieldType} {ls : Array Slot} {rest : List Value} {D : va_G} {cyI : ClassId} {ad : Nat → Nat} {I : Nat → Int32} {A : Nat → Nat → Int32}
theorem iv_X6_182 (E : EX p s m args meth c cc nL RX6 ret) (K0 : KC D cyI ad s s.heap) (S : va_S (InN 44 ad) s.heap H locs) {a0 a1 : Int32} (hR : RmOk R cells slots 1 3) (hls : ls.size = nL) (hro : (rest.map fun v => v.category).sum ≤ 8) (hdg : decode cc pc = .ok (.invokestatic 182, 3)) (kk : W p l e R s m args below meth c H locs cells slots Q (F0 m (pc + 3) ls (.int (B_X6_greyOf a0 a1) :: rest))) : W p l e R s m args below meth c H locs cells slots Q (F0 m pc ls (.int a1 :: .int a0 :: rest)) :=
  cs_ro E (c_X6_greyOf l (H := H) (D := D) (cyI := cyI) (ad := ad) a0 a1 ) (gS kML_X6_182 kST_X6_greyOf kIN_X6 kCO_X6_greyOf) rfl ds_X6_greyOf rfl KC_blind (fun U _ hW => (K0.at S).warm hW) hR hls rfl hro hdg kk
end
section
variable {p : Program} {l : Launch} {e : Env} {R : Room} {s : State} {m : MethodId} {args : Array Value} {below : List Frame} {meth : Method} {c : Code} {H : Heap} {locs : List Loc} {cells slots : Nat} {Q : State → Prop} {cc : ByteArray} {nL pc : Nat} {ret : Option FieldType} {ls : Array Slot} {rest : List Value} {D : va_G} {cyI : ClassId} {ad : Nat → Nat} {I : Nat → Int32} {A : Nat → Nat → Int32}
theorem iv_X6_185 (E : EX p s m args meth c cc nL RX6 ret) (K0 : KC D cyI ad s s.heap) (P : va_P D classes (cw cyI ad I A) H) (S : va_S (InN 44 ad) s.heap H locs) {a0 a1 : Int32} (hR : RmOk R cells slots 4 3) (hls : ls.size = nL) (hro : (rest.map fun v => v.category).sum ≤ 8) (hdg : decode cc pc = .ok (.invokevirtual 185, 3)) (kk : W p l e R s m args below meth c H locs cells slots Q (F0 m (pc + 3) ls (.int (B_X1_energyAt I A a0 a1) :: rest))) : W p l e R s m args below meth c H locs cells slots Q (F0 m pc ls (.int a1 :: .int a0 :: .ref (ad 2) :: rest)) :=
  cv_ro E (c_X1_energyAt l P a0 a1 ) (gV kML_X6_185 kIM_X1_energyAt kSE_X1_energyAt kIN_X1 kCO_X1_energyAt) rfl ds_X1_energyAt rfl KC_blind (fun U _ hW => (K0.at S).warm hW) (va_recv K0.k P (show classes[1]? = some (RX1, TX1, 11) from rfl) cw_g2) hR hls rfl hro hdg kk
end
section
variable {p : Program} {l : Launch} {e : Env} {s : State} {m : MethodId} {args : Array Value} {below : List Frame} {meth : Method} {c : Code} {D : va_G} {cyI : ClassId} {ad : Nat → Nat} {I : Nat → Int32} {A : Nat → Nat → Int32}
def B_X6_told (I : Nat → Int32) (A : Nat → Nat → Int32) (x1 x2 x3 : Int32) : Option (OutT) := if (B_X1_has I A x1 x2) = 0 then some (.inr (1, I, A)) else (if x3 = 0 then some (.inl ((B_X1_directionAt I A x1 x2), I, A)) else if x3 = 1 then some (.inl ((B_X1_kindAt I A x1 x2), I, A)) else if x3 = 2 then some (.inl ((B_X1_pixelAt I A x1 x2), I, A)) else if x3 = 3 then some (.inl ((B_X6_greyOf ((B_X1_directionAt I A x1 x2)) ((I 0))), I, A)) else if x3 = 4 then some (.inl ((B_X1_energyAt I A x1 x2), I, A)) else some (.inr (0, I, A)))
set_option maxHeartbeats 4000000 in
set_option maxRecDepth 100000 in
theorem w_X6_told (E : EX p s m args meth c cX6_told 4 RX6 (some .int)) (K0 : KC D cyI ad s s.heap) (N : AdN 44 ad) (hfl : l.stackTraces = false) (X0 : ∀ x ∈ c.exceptionTable.toList, False) {H : Heap} {locs : List Loc} (P : va_P D classes (cw cyI ad I A) H) (S : va_S (InN 44 ad) s.heap H locs)  {x1 x2 x3 : Int32} {out : OutT} (h : B_X6_told I A x1 x2 x3 = some out) {ls : Array Slot} (hl : lv_has ls 4 [(0, .ref (ad 0)), (1, .int x1), (2, .int x2), (3, .int x3)]) : W p l e (rmX 7) s m args below meth c H locs 0 0 (vx_MQ below (QT D cyI ad false out) (XT D cyI ad out) args s 1 6 (InN 44 ad)) (F0 m 0 ls []) := by
  unfold B_X6_told at h
  refine lv_aload_n E.hx E.hb dX6_told_0 rfl (lv_at hl 0 rfl) ?_
  refine gf_X6_21 E K0 P dX6_told_1 ?_
  refine lv_iload_n E.hx E.hb dX6_told_4 rfl (lv_at hl 1 rfl) ?_
  refine lv_iload_n E.hx E.hb dX6_told_5 rfl (lv_at hl 2 rfl) ?_
  refine iv_X6_77 E K0 P S (by decide) hl.1 (Nat.le_of_ble_eq_true rfl) dX6_told_6 ?_
  refine lv_if_ne (tgt := 22) E.hx E.hb dX6_told_9 (by decide) (fun c_1 => ?_) (fun c_1 => ?_)
  · rw [if_neg c_1] at h
    refine lv_iload_n E.hx E.hb dX6_told_22 rfl (lv_at hl 3 rfl) ?_
    by_cases c_2 : x3 = 0
    · rw [if_pos c_2] at h
      refine lv_tableIn (off := 33) (tgt := 56) E.hx E.hb dX6_told_23 (by rw [c_2]; decide) (by rw [c_2]; decide) (by rw [c_2]; rfl) (by decide) ?_
      refine lv_aload_n E.hx E.hb dX6_told_56 rfl (lv_at hl 0 rfl) ?_
      refine gf_X6_21 E K0 P dX6_told_57 ?_
      refine lv_iload_n E.hx E.hb dX6_told_60 rfl (lv_at hl 1 rfl) ?_
      refine lv_iload_n E.hx E.hb dX6_told_61 rfl (lv_at hl 2 rfl) ?_
      refine iv_X6_176 E K0 P S (by decide) hl.1 (Nat.le_of_ble_eq_true rfl) dX6_told_62 ?_
      cases h
      refine W.widen (k := 1) (n := 6) (by omega) (by omega) ?_
      exact vx_ret (W.iret E.hx E.hb E.hr (fun t ht _ => ⟨_, _, _, rfl, rfl, by rw [ht]; exact P, S.F ht⟩) S.2.2 dX6_told_65 E.hk)
    rw [if_neg c_2] at h
    by_cases c_3 : x3 = 1
    · rw [if_pos c_3] at h
      refine lv_tableIn (off := 43) (tgt := 66) E.hx E.hb dX6_told_23 (by rw [c_3]; decide) (by rw [c_3]; decide) (by rw [c_3]; rfl) (by decide) ?_
      refine lv_aload_n E.hx E.hb dX6_told_66 rfl (lv_at hl 0 rfl) ?_
      refine gf_X6_21 E K0 P dX6_told_67 ?_
      refine lv_iload_n E.hx E.hb dX6_told_70 rfl (lv_at hl 1 rfl) ?_
      refine lv_iload_n E.hx E.hb dX6_told_71 rfl (lv_at hl 2 rfl) ?_
      refine iv_X6_92 E K0 P S (by decide) hl.1 (Nat.le_of_ble_eq_true rfl) dX6_told_72 ?_
      cases h
      refine W.widen (k := 1) (n := 6) (by omega) (by omega) ?_
      exact vx_ret (W.iret E.hx E.hb E.hr (fun t ht _ => ⟨_, _, _, rfl, rfl, by rw [ht]; exact P, S.F ht⟩) S.2.2 dX6_told_75 E.hk)
    rw [if_neg c_3] at h
    by_cases c_4 : x3 = 2
    · rw [if_pos c_4] at h
      refine lv_tableIn (off := 53) (tgt := 76) E.hx E.hb dX6_told_23 (by rw [c_4]; decide) (by rw [c_4]; decide) (by rw [c_4]; rfl) (by decide) ?_
      refine lv_aload_n E.hx E.hb dX6_told_76 rfl (lv_at hl 0 rfl) ?_
      refine gf_X6_21 E K0 P dX6_told_77 ?_
      refine lv_iload_n E.hx E.hb dX6_told_80 rfl (lv_at hl 1 rfl) ?_
      refine lv_iload_n E.hx E.hb dX6_told_81 rfl (lv_at hl 2 rfl) ?_
      refine iv_X6_179 E K0 P S (by decide) hl.1 (Nat.le_of_ble_eq_true rfl) dX6_told_82 ?_
      cases h
      refine W.widen (k := 1) (n := 6) (by omega) (by omega) ?_
      exact vx_ret (W.iret E.hx E.hb E.hr (fun t ht _ => ⟨_, _, _, rfl, rfl, by rw [ht]; exact P, S.F ht⟩) S.2.2 dX6_told_85 E.hk)
    rw [if_neg c_4] at h
    by_cases c_5 : x3 = 3
    · rw [if_pos c_5] at h
      refine lv_tableIn (off := 63) (tgt := 86) E.hx E.hb dX6_told_23 (by rw [c_5]; decide) (by rw [c_5]; decide) (by rw [c_5]; rfl) (by decide) ?_
      refine lv_aload_n E.hx E.hb dX6_told_86 rfl (lv_at hl 0 rfl) ?_
      refine gf_X6_21 E K0 P dX6_told_87 ?_
      refine lv_iload_n E.hx E.hb dX6_told_90 rfl (lv_at hl 1 rfl) ?_
      refine lv_iload_n E.hx E.hb dX6_told_91 rfl (lv_at hl 2 rfl) ?_
      refine iv_X6_176 E K0 P S (by decide) hl.1 (Nat.le_of_ble_eq_true rfl) dX6_told_92 ?_
      refine lv_aload_n E.hx E.hb dX6_told_95 rfl (lv_at hl 0 rfl) ?_
      refine gf_X6_48 E K0 P dX6_told_96 ?_
      refine iv_X6_182 E K0 S (by decide) hl.1 (Nat.le_of_ble_eq_true rfl) dX6_told_99 ?_
      cases h
      refine W.widen (k := 1) (n := 6) (by omega) (by omega) ?_
      exact vx_ret (W.iret E.hx E.hb E.hr (fun t ht _ => ⟨_, _, _, rfl, rfl, by rw [ht]; exact P, S.F ht⟩) S.2.2 dX6_told_102 E.hk)
    rw [if_neg c_5] at h
    by_cases c_6 : x3 = 4
    · rw [if_pos c_6] at h
      refine lv_tableIn (off := 80) (tgt := 103) E.hx E.hb dX6_told_23 (by rw [c_6]; decide) (by rw [c_6]; decide) (by rw [c_6]; rfl) (by decide) ?_
      refine lv_aload_n E.hx E.hb dX6_told_103 rfl (lv_at hl 0 rfl) ?_
      refine gf_X6_21 E K0 P dX6_told_104 ?_
      refine lv_iload_n E.hx E.hb dX6_told_107 rfl (lv_at hl 1 rfl) ?_
      refine lv_iload_n E.hx E.hb dX6_told_108 rfl (lv_at hl 2 rfl) ?_
      refine iv_X6_185 E K0 P S (by decide) hl.1 (Nat.le_of_ble_eq_true rfl) dX6_told_109 ?_
      cases h
      refine W.widen (k := 1) (n := 6) (by omega) (by omega) ?_
      exact vx_ret (W.iret E.hx E.hb E.hr (fun t ht _ => ⟨_, _, _, rfl, rfl, by rw [ht]; exact P, S.F ht⟩) S.2.2 dX6_told_112 E.hk)
    rw [if_neg c_6] at h
    refine lv_tableOut (tgt := 113) E.hx E.hb dX6_told_23 (swo 4 (by decide) (by intro j hj; rcases (show j = 0 ∨ j = 1 ∨ j = 2 ∨ j = 3 ∨ j = 4 by omega) with rfl | rfl | rfl | rfl | rfl <;> assumption)) (by decide) ?_
    cases h
    exact thr_0 E hfl X0 K0 P S (List.mem_of_getElem? (i := 16) rfl) hl.1 rfl dX6_told_113 dX6_told_116 dX6_told_117 dX6_told_119 dX6_told_122 rfl
  · rw [if_pos c_1] at h
    cases h
    exact thr_1 E hfl X0 K0 P S (List.mem_of_getElem? (i := 2) rfl) hl.1 rfl dX6_told_12 dX6_told_15 dX6_told_16 dX6_told_18 dX6_told_21 rfl
theorem c_X6_told (l : Launch) (hfl : l.stackTraces = false) {H : Heap} {D : va_G} {cyI : ClassId} {ad : Nat → Nat} {I : Nat → Int32} {A : Nat → Nat → Int32} (N : AdN 44 ad) (P : va_P D classes (cw cyI ad I A) H) (x1 x2 x3 : Int32) {out : OutT} (h : B_X6_told I A x1 x2 x3 = some out) : vx_Met l yX6_told (.code yX6_told cX6_told 4 (some .int) :: TA) (rmX 7) (PX [.ref (ad 0), .int x1, .int x2, .int x3] H (KC D cyI ad)) (QT D cyI ad false out) (XT D cyI ad out) 1 6 (InN 44 ad) := by
  refine MofX (own := RX6) (by decide +kernel) rfl rfl ?_
  intro p e s m args below meth c ls E X0 hH K0 hl
  subst hH
  exact w_X6_told E K0 N hfl X0 P va_S.rf h hl
theorem ds_X6_told : Dsc yX6_told 3 := ⟨by decide +kernel, by decide +kernel, by decide +kernel⟩
end
section
variable {p : Program} {l : Launch} {e : Env} {R : Room} {s : State} {m : MethodId} {args : Array Value} {below : List Frame} {meth : Method} {c : Code} {H : Heap} {locs : List Loc} {cells slots : Nat} {Q : State → Prop} {cc : ByteArray} {nL pc : Nat} {ret : Option FieldType} {ls : Array Slot} {rest : List Value} {D : va_G} {cyI : ClassId} {ad : Nat → Nat} {I : Nat → Int32} {A : Nat → Nat → Int32}
theorem iv_X6_199 (E : EX p s m args meth c cc nL RX6 ret) (K0 : KC D cyI ad s s.heap) (P : va_P D classes (cw cyI ad I A) H) (S : va_S (InN 44 ad) s.heap H locs) {a0 a1 a2 : Int32} {v : Int32} (hv : B_X1_leastOfTwo I A a0 a1 a2 = some v) (hR : RmOk R cells slots 5 20) (hls : ls.size = nL) (hro : (rest.map fun v => v.category).sum ≤ 8) (hdg : decode cc pc = .ok (.invokevirtual 199, 3)) (kk : W p l e R s m args below meth c H locs cells slots Q (F0 m (pc + 3) ls (.int v :: rest))) : W p l e R s m args below meth c H locs cells slots Q (F0 m pc ls (.int a2 :: .int a1 :: .int a0 :: .ref (ad 2) :: rest)) :=
  cv_ro E (c_X1_leastOfTwo l P a0 a1 a2 hv) (gV kML_X6_199 kIM_X1_leastOfTwo kSE_X1_leastOfTwo kIN_X1 kCO_X1_leastOfTwo) rfl ds_X1_leastOfTwo rfl KC_blind (fun U _ hW => (K0.at S).warm hW) (va_recv K0.k P (show classes[1]? = some (RX1, TX1, 11) from rfl) cw_g2) hR hls rfl hro hdg kk
end
section
variable {p : Program} {l : Launch} {e : Env} {s : State} {m : MethodId} {args : Array Value} {below : List Frame} {meth : Method} {c : Code} {D : va_G} {cyI : ClassId} {ad : Nat → Nat} {I : Nat → Int32} {A : Nat → Nat → Int32}
def B_X6_least_J38  (I : Nat → Int32) (A : Nat → Nat → Int32) (x1 x2 x3 t1 t2 : Int32) : Option (OutT) := if (B_X1_has I A t1 t2) = 0 then some (.inr (1, I, A)) else ((B_X1_leastOfTwo I A x1 x2 x3).bind fun r_5 => some (.inl (r_5, I, A)))
set_option maxHeartbeats 4000000 in
set_option maxRecDepth 100000 in
theorem w_X6_least_J38 (E : EX p s m args meth c cX6_least 4 RX6 (some .int)) (K0 : KC D cyI ad s s.heap) (N : AdN 44 ad) (hfl : l.stackTraces = false) (X0 : ∀ x ∈ c.exceptionTable.toList, False) {H : Heap} {locs : List Loc} (P : va_P D classes (cw cyI ad I A) H) (S : va_S (InN 44 ad) s.heap H locs) {x1 x2 x3 t1 t2 : Int32} {out : OutT} (h : B_X6_least_J38  I A x1 x2 x3 t1 t2 = some out) {ls : Array Slot} (hl : lv_has ls 4 [(0, .ref (ad 0)), (1, .int x1), (2, .int x2), (3, .int x3)]) : W p l e (rmX 7) s m args below meth c H locs 0 0 (vx_MQ below (QT D cyI ad false out) (XT D cyI ad out) args s 1 6 (InN 44 ad)) (F0 m 38 ls [.int t2, .int t1, .ref (ad 2)]) := by
  unfold B_X6_least_J38 at h
  refine iv_X6_77 E K0 P S (by decide) hl.1 (Nat.le_of_ble_eq_true rfl) dX6_least_38 ?_
  refine lv_if_ne (tgt := 54) E.hx E.hb dX6_least_41 (by decide) (fun c_4 => ?_) (fun c_4 => ?_)
  · rw [if_neg c_4] at h
    refine lv_aload_n E.hx E.hb dX6_least_54 rfl (lv_at hl 0 rfl) ?_
    refine gf_X6_21 E K0 P dX6_least_55 ?_
    refine lv_iload_n E.hx E.hb dX6_least_58 rfl (lv_at hl 1 rfl) ?_
    refine lv_iload_n E.hx E.hb dX6_least_59 rfl (lv_at hl 2 rfl) ?_
    refine lv_iload_n E.hx E.hb dX6_least_60 rfl (lv_at hl 3 rfl) ?_
    obtain ⟨r_5, e_6, h⟩ := obind h
    refine iv_X6_199 E K0 P S e_6 (by decide) hl.1 (Nat.le_of_ble_eq_true rfl) dX6_least_61 ?_
    cases h
    refine W.widen (k := 1) (n := 6) (by omega) (by omega) ?_
    exact vx_ret (W.iret E.hx E.hb E.hr (fun t ht _ => ⟨_, _, _, rfl, rfl, by rw [ht]; exact P, S.F ht⟩) S.2.2 dX6_least_64 E.hk)
  · rw [if_pos c_4] at h
    cases h
    exact thr_1 E hfl X0 K0 P S (List.mem_of_getElem? (i := 2) rfl) hl.1 rfl dX6_least_44 dX6_least_47 dX6_least_48 dX6_least_50 dX6_least_53 rfl
def B_X6_least_J27  (I : Nat → Int32) (A : Nat → Nat → Int32) (x1 x2 x3 t1 : Int32) : Option (OutT) := if x3 = 0 then B_X6_least_J38  I A x1 x2 x3 t1 ((x2 + 1)) else B_X6_least_J38  I A x1 x2 x3 t1 x2
set_option maxHeartbeats 4000000 in
set_option maxRecDepth 100000 in
theorem w_X6_least_J27 (E : EX p s m args meth c cX6_least 4 RX6 (some .int)) (K0 : KC D cyI ad s s.heap) (N : AdN 44 ad) (hfl : l.stackTraces = false) (X0 : ∀ x ∈ c.exceptionTable.toList, False) {H : Heap} {locs : List Loc} (P : va_P D classes (cw cyI ad I A) H) (S : va_S (InN 44 ad) s.heap H locs) {x1 x2 x3 t1 : Int32} {out : OutT} (h : B_X6_least_J27  I A x1 x2 x3 t1 = some out) {ls : Array Slot} (hl : lv_has ls 4 [(0, .ref (ad 0)), (1, .int x1), (2, .int x2), (3, .int x3)]) : W p l e (rmX 7) s m args below meth c H locs 0 0 (vx_MQ below (QT D cyI ad false out) (XT D cyI ad out) args s 1 6 (InN 44 ad)) (F0 m 27 ls [.int t1, .ref (ad 2)]) := by
  unfold B_X6_least_J27 at h
  refine lv_iload_n E.hx E.hb dX6_least_27 rfl (lv_at hl 3 rfl) ?_
  refine lv_if_eq (tgt := 35) E.hx E.hb dX6_least_28 (by decide) (fun c_3 => ?_) (fun c_3 => ?_)
  · rw [if_pos c_3] at h
    refine lv_iload_n E.hx E.hb dX6_least_35 rfl (lv_at hl 2 rfl) ?_
    refine lv_iconst (v := 1) E.hx E.hb dX6_least_36 (by decide) ?_
    refine lv_iadd E.hx E.hb dX6_least_37 ?_
    exact w_X6_least_J38 E K0 N hfl X0 P S h (lv_sub hl [0, 1, 2, 3] rfl)
  · rw [if_neg c_3] at h
    refine lv_iload_n E.hx E.hb dX6_least_31 rfl (lv_at hl 2 rfl) ?_
    refine lv_goto (tgt := 38) E.hx E.hb dX6_least_32 (by decide) ?_
    exact w_X6_least_J38 E K0 N hfl X0 P S h (lv_sub hl [0, 1, 2, 3] rfl)
def B_X6_least (I : Nat → Int32) (A : Nat → Nat → Int32) (x1 x2 x3 : Int32) : Option (OutT) := if (B_X1_has I A x1 x2) = 0 then some (.inr (1, I, A)) else (if x3 = 0 then B_X6_least_J27  I A x1 x2 x3 x1 else B_X6_least_J27  I A x1 x2 x3 ((x1 + 1)))
set_option maxHeartbeats 4000000 in
set_option maxRecDepth 100000 in
theorem w_X6_least (E : EX p s m args meth c cX6_least 4 RX6 (some .int)) (K0 : KC D cyI ad s s.heap) (N : AdN 44 ad) (hfl : l.stackTraces = false) (X0 : ∀ x ∈ c.exceptionTable.toList, False) {H : Heap} {locs : List Loc} (P : va_P D classes (cw cyI ad I A) H) (S : va_S (InN 44 ad) s.heap H locs)  {x1 x2 x3 : Int32} {out : OutT} (h : B_X6_least I A x1 x2 x3 = some out) {ls : Array Slot} (hl : lv_has ls 4 [(0, .ref (ad 0)), (1, .int x1), (2, .int x2), (3, .int x3)]) : W p l e (rmX 7) s m args below meth c H locs 0 0 (vx_MQ below (QT D cyI ad false out) (XT D cyI ad out) args s 1 6 (InN 44 ad)) (F0 m 0 ls []) := by
  unfold B_X6_least at h
  refine lv_aload_n E.hx E.hb dX6_least_0 rfl (lv_at hl 0 rfl) ?_
  refine gf_X6_21 E K0 P dX6_least_1 ?_
  refine lv_iload_n E.hx E.hb dX6_least_4 rfl (lv_at hl 1 rfl) ?_
  refine lv_iload_n E.hx E.hb dX6_least_5 rfl (lv_at hl 2 rfl) ?_
  refine iv_X6_77 E K0 P S (by decide) hl.1 (Nat.le_of_ble_eq_true rfl) dX6_least_6 ?_
  refine lv_if_eq (tgt := 44) E.hx E.hb dX6_least_9 (by decide) (fun c_1 => ?_) (fun c_1 => ?_)
  · rw [if_pos c_1] at h
    cases h
    exact thr_1 E hfl X0 K0 P S (List.mem_of_getElem? (i := 2) rfl) hl.1 rfl dX6_least_44 dX6_least_47 dX6_least_48 dX6_least_50 dX6_least_53 rfl
  · rw [if_neg c_1] at h
    refine lv_aload_n E.hx E.hb dX6_least_12 rfl (lv_at hl 0 rfl) ?_
    refine gf_X6_21 E K0 P dX6_least_13 ?_
    refine lv_iload_n E.hx E.hb dX6_least_16 rfl (lv_at hl 3 rfl) ?_
    refine lv_if_eq (tgt := 26) E.hx E.hb dX6_least_17 (by decide) (fun c_2 => ?_) (fun c_2 => ?_)
    · rw [if_pos c_2] at h
      refine lv_iload_n E.hx E.hb dX6_least_26 rfl (lv_at hl 1 rfl) ?_
      exact w_X6_least_J27 E K0 N hfl X0 P S h (lv_sub hl [0, 1, 2, 3] rfl)
    · rw [if_neg c_2] at h
      refine lv_iload_n E.hx E.hb dX6_least_20 rfl (lv_at hl 1 rfl) ?_
      refine lv_iconst (v := 1) E.hx E.hb dX6_least_21 (by decide) ?_
      refine lv_iadd E.hx E.hb dX6_least_22 ?_
      refine lv_goto (tgt := 27) E.hx E.hb dX6_least_23 (by decide) ?_
      exact w_X6_least_J27 E K0 N hfl X0 P S h (lv_sub hl [0, 1, 2, 3] rfl)
theorem c_X6_least (l : Launch) (hfl : l.stackTraces = false) {H : Heap} {D : va_G} {cyI : ClassId} {ad : Nat → Nat} {I : Nat → Int32} {A : Nat → Nat → Int32} (N : AdN 44 ad) (P : va_P D classes (cw cyI ad I A) H) (x1 x2 x3 : Int32) {out : OutT} (h : B_X6_least I A x1 x2 x3 = some out) : vx_Met l yX6_least (.code yX6_least cX6_least 4 (some .int) :: TA) (rmX 7) (PX [.ref (ad 0), .int x1, .int x2, .int x3] H (KC D cyI ad)) (QT D cyI ad false out) (XT D cyI ad out) 1 6 (InN 44 ad) := by
  refine MofX (own := RX6) (by decide +kernel) rfl rfl ?_
  intro p e s m args below meth c ls E X0 hH K0 hl
  subst hH
  exact w_X6_least E K0 N hfl X0 P va_S.rf h hl
theorem ds_X6_least : Dsc yX6_least 3 := ⟨by decide +kernel, by decide +kernel, by decide +kernel⟩
end
section
variable {p : Program} {l : Launch} {e : Env} {R : Room} {s : State} {m : MethodId} {args : Array Value} {below : List Frame} {meth : Method} {c : Code} {H : Heap} {locs : List Loc} {cells slots : Nat} {Q : State → Prop} {cc : ByteArray} {nL pc : Nat} {ret : Option FieldType} {ls : Array Slot} {rest : List Value} {D : va_G} {cyI : ClassId} {ad : Nat → Nat} {I : Nat → Int32} {A : Nat → Nat → Int32}
theorem iv_X6_203 (E : EX p s m args meth c cc nL RX6 ret) (K0 : KC D cyI ad s s.heap) (P : va_P D classes (cw cyI ad I A) H) (S : va_S (InN 44 ad) s.heap H locs) {a0 a1 : Int32} (hR : RmOk R cells slots 1 3) (hls : ls.size = nL) (hro : (rest.map fun v => v.category).sum ≤ 8) (hdg : decode cc pc = .ok (.invokevirtual 203, 3)) (kk : W p l e R s m args below meth c H locs cells slots Q (F0 m (pc + 3) ls (.int (B_X5_has I A a0 a1) :: rest))) : W p l e R s m args below meth c H locs cells slots Q (F0 m pc ls (.int a1 :: .int a0 :: .ref (ad 3) :: rest)) :=
  cv_ro E (c_X5_has l P a0 a1 ) (gV kML_X6_203 kIM_X5_has kSE_X5_has kIN_X5 kCO_X5_has) rfl ds_X5_has rfl KC_blind (fun U _ hW => (K0.at S).warm hW) (va_recv K0.k P (show classes[5]? = some (RX5, TX5, 1) from rfl) cw_g3) hR hls rfl hro hdg kk
end
section
variable {p : Program} {l : Launch} {e : Env} {R : Room} {s : State} {m : MethodId} {args : Array Value} {below : List Frame} {meth : Method} {c : Code} {H : Heap} {locs : List Loc} {cells slots : Nat} {Q : State → Prop} {cc : ByteArray} {nL pc : Nat} {ret : Option FieldType} {ls : Array Slot} {rest : List Value} {D : va_G} {cyI : ClassId} {ad : Nat → Nat} {I : Nat → Int32} {A : Nat → Nat → Int32}
theorem iv_X6_206 (E : EX p s m args meth c cc nL RX6 ret) (K0 : KC D cyI ad s s.heap) (P : va_P D classes (cw cyI ad I A) H) (S : va_S (InN 44 ad) s.heap H locs) {a0 a1 : Int32} {v : Int32} (hv : B_X5_at I A a0 a1 = some v) (hR : RmOk R cells slots 3 3) (hls : ls.size = nL) (hro : (rest.map fun v => v.category).sum ≤ 8) (hdg : decode cc pc = .ok (.invokevirtual 206, 3)) (kk : W p l e R s m args below meth c H locs cells slots Q (F0 m (pc + 3) ls (.int v :: rest))) : W p l e R s m args below meth c H locs cells slots Q (F0 m pc ls (.int a1 :: .int a0 :: .ref (ad 3) :: rest)) :=
  cv_ro E (c_X5_at l P a0 a1 hv) (gV kML_X6_206 kIM_X5_at kSE_X5_at kIN_X5 kCO_X5_at) rfl ds_X5_at rfl KC_blind (fun U _ hW => (K0.at S).warm hW) (va_recv K0.k P (show classes[5]? = some (RX5, TX5, 1) from rfl) cw_g3) hR hls rfl hro hdg kk
end
section
variable {p : Program} {l : Launch} {e : Env} {s : State} {m : MethodId} {args : Array Value} {below : List Frame} {meth : Method} {c : Code} {D : va_G} {cyI : ClassId} {ad : Nat → Nat} {I : Nat → Int32} {A : Nat → Nat → Int32}
def B_X6_winding (I : Nat → Int32) (A : Nat → Nat → Int32) (x1 x2 : Int32) : Option (OutT) := if (B_X5_has I A x1 x2) = 0 then some (.inr (1, I, A)) else ((B_X5_at I A x1 x2).bind fun r_2 => some (.inl (r_2, I, A)))
set_option maxHeartbeats 4000000 in
set_option maxRecDepth 100000 in
theorem w_X6_winding (E : EX p s m args meth c cX6_winding 3 RX6 (some .int)) (K0 : KC D cyI ad s s.heap) (N : AdN 44 ad) (hfl : l.stackTraces = false) (X0 : ∀ x ∈ c.exceptionTable.toList, False) {H : Heap} {locs : List Loc} (P : va_P D classes (cw cyI ad I A) H) (S : va_S (InN 44 ad) s.heap H locs)  {x1 x2 : Int32} {out : OutT} (h : B_X6_winding I A x1 x2 = some out) {ls : Array Slot} (hl : lv_has ls 3 [(0, .ref (ad 0)), (1, .int x1), (2, .int x2)]) : W p l e (rmX 7) s m args below meth c H locs 0 0 (vx_MQ below (QT D cyI ad false out) (XT D cyI ad out) args s 1 6 (InN 44 ad)) (F0 m 0 ls []) := by
  unfold B_X6_winding at h
  refine lv_aload_n E.hx E.hb dX6_winding_0 rfl (lv_at hl 0 rfl) ?_
  refine gf_X6_30 E K0 P dX6_winding_1 ?_
  refine lv_iload_n E.hx E.hb dX6_winding_4 rfl (lv_at hl 1 rfl) ?_
  refine lv_iload_n E.hx E.hb dX6_winding_5 rfl (lv_at hl 2 rfl) ?_
  refine iv_X6_203 E K0 P S (by decide) hl.1 (Nat.le_of_ble_eq_true rfl) dX6_winding_6 ?_
  refine lv_if_ne (tgt := 22) E.hx E.hb dX6_winding_9 (by decide) (fun c_1 => ?_) (fun c_1 => ?_)
  · rw [if_neg c_1] at h
    refine lv_aload_n E.hx E.hb dX6_winding_22 rfl (lv_at hl 0 rfl) ?_
    refine gf_X6_30 E K0 P dX6_winding_23 ?_
    refine lv_iload_n E.hx E.hb dX6_winding_26 rfl (lv_at hl 1 rfl) ?_
    refine lv_iload_n E.hx E.hb dX6_winding_27 rfl (lv_at hl 2 rfl) ?_
    obtain ⟨r_2, e_3, h⟩ := obind h
    refine iv_X6_206 E K0 P S e_3 (by decide) hl.1 (Nat.le_of_ble_eq_true rfl) dX6_winding_28 ?_
    cases h
    refine W.widen (k := 1) (n := 6) (by omega) (by omega) ?_
    exact vx_ret (W.iret E.hx E.hb E.hr (fun t ht _ => ⟨_, _, _, rfl, rfl, by rw [ht]; exact P, S.F ht⟩) S.2.2 dX6_winding_31 E.hk)
  · rw [if_pos c_1] at h
    cases h
    exact thr_1 E hfl X0 K0 P S (List.mem_of_getElem? (i := 17) rfl) hl.1 rfl dX6_winding_12 dX6_winding_15 dX6_winding_16 dX6_winding_18 dX6_winding_21 rfl
theorem c_X6_winding (l : Launch) (hfl : l.stackTraces = false) {H : Heap} {D : va_G} {cyI : ClassId} {ad : Nat → Nat} {I : Nat → Int32} {A : Nat → Nat → Int32} (N : AdN 44 ad) (P : va_P D classes (cw cyI ad I A) H) (x1 x2 : Int32) {out : OutT} (h : B_X6_winding I A x1 x2 = some out) : vx_Met l yX6_winding (.code yX6_winding cX6_winding 3 (some .int) :: TA) (rmX 7) (PX [.ref (ad 0), .int x1, .int x2] H (KC D cyI ad)) (QT D cyI ad false out) (XT D cyI ad out) 1 6 (InN 44 ad) := by
  refine MofX (own := RX6) (by decide +kernel) rfl rfl ?_
  intro p e s m args below meth c ls E X0 hH K0 hl
  subst hH
  exact w_X6_winding E K0 N hfl X0 P va_S.rf h hl
theorem ds_X6_winding : Dsc yX6_winding 2 := ⟨by decide +kernel, by decide +kernel, by decide +kernel⟩
end
section
variable {p : Program} {l : Launch} {e : Env} {R : Room} {s : State} {m : MethodId} {args : Array Value} {below : List Frame} {meth : Method} {c : Code} {H : Heap} {locs : List Loc} {cells slots : Nat} {Q : State → Prop} {cc : ByteArray} {nL pc : Nat} {ret : Option FieldType} {ls : Array Slot} {rest : List Value} {D : va_G} {cyI : ClassId} {ad : Nat → Nat} {I : Nat → Int32} {A : Nat → Nat → Int32}
theorem iv_X6_211 (E : EX p s m args meth c cc nL RX6 ret) (K0 : KC D cyI ad s s.heap) (P : va_P D classes (cw cyI ad I A) H) (S : va_S (InN 44 ad) s.heap H locs) {a0 a1 a2 a3 : Int32} {v : Int32} (hv : B_X5_sum I A a0 a1 a2 a3 = some v) (hR : RmOk R cells slots 4 8) (hls : ls.size = nL) (hro : (rest.map fun v => v.category).sum ≤ 8) (hdg : decode cc pc = .ok (.invokevirtual 211, 3)) (kk : W p l e R s m args below meth c H locs cells slots Q (F0 m (pc + 3) ls (.int v :: rest))) : W p l e R s m args below meth c H locs cells slots Q (F0 m pc ls (.int a3 :: .int a2 :: .int a1 :: .int a0 :: .ref (ad 3) :: rest)) :=
  cv_ro E (c_X5_sum l P a0 a1 a2 a3 hv) (gV kML_X6_211 kIM_X5_sum kSE_X5_sum kIN_X5 kCO_X5_sum) rfl ds_X5_sum rfl KC_blind (fun U _ hW => (K0.at S).warm hW) (va_recv K0.k P (show classes[5]? = some (RX5, TX5, 1) from rfl) cw_g3) hR hls rfl hro hdg kk
end
section
variable {p : Program} {l : Launch} {e : Env} {s : State} {m : MethodId} {args : Array Value} {below : List Frame} {meth : Method} {c : Code} {D : va_G} {cyI : ClassId} {ad : Nat → Nat} {I : Nat → Int32} {A : Nat → Nat → Int32}
def B_X6_within (I : Nat → Int32) (A : Nat → Nat → Int32) (x1 x2 x3 x4 : Int32) : Option (OutT) := if (B_X1_has I A x1 x2) = 0 then some (.inr (1, I, A)) else (if (B_X1_has I A x3 x4) = 0 then some (.inr (1, I, A)) else (if x3 ≤ x1 then some (.inr (0, I, A)) else (if x2 < x4 then ((B_X5_sum I A x1 x2 x3 x4).bind fun r_5 => some (.inl (r_5, I, A))) else some (.inr (0, I, A)))))
set_option maxHeartbeats 4000000 in
set_option maxRecDepth 100000 in
theorem w_X6_within (E : EX p s m args meth c cX6_within 5 RX6 (some .int)) (K0 : KC D cyI ad s s.heap) (N : AdN 44 ad) (hfl : l.stackTraces = false) (X0 : ∀ x ∈ c.exceptionTable.toList, False) {H : Heap} {locs : List Loc} (P : va_P D classes (cw cyI ad I A) H) (S : va_S (InN 44 ad) s.heap H locs)  {x1 x2 x3 x4 : Int32} {out : OutT} (h : B_X6_within I A x1 x2 x3 x4 = some out) {ls : Array Slot} (hl : lv_has ls 5 [(0, .ref (ad 0)), (1, .int x1), (2, .int x2), (3, .int x3), (4, .int x4)]) : W p l e (rmX 7) s m args below meth c H locs 0 0 (vx_MQ below (QT D cyI ad false out) (XT D cyI ad out) args s 1 6 (InN 44 ad)) (F0 m 0 ls []) := by
  unfold B_X6_within at h
  refine lv_aload_n E.hx E.hb dX6_within_0 rfl (lv_at hl 0 rfl) ?_
  refine gf_X6_21 E K0 P dX6_within_1 ?_
  refine lv_iload_n E.hx E.hb dX6_within_4 rfl (lv_at hl 1 rfl) ?_
  refine lv_iload_n E.hx E.hb dX6_within_5 rfl (lv_at hl 2 rfl) ?_
  refine iv_X6_77 E K0 P S (by decide) hl.1 (Nat.le_of_ble_eq_true rfl) dX6_within_6 ?_
  refine lv_if_eq (tgt := 25) E.hx E.hb dX6_within_9 (by decide) (fun c_1 => ?_) (fun c_1 => ?_)
  · rw [if_pos c_1] at h
    cases h
    exact thr_1 E hfl X0 K0 P S (List.mem_of_getElem? (i := 2) rfl) hl.1 rfl dX6_within_25 dX6_within_28 dX6_within_29 dX6_within_31 dX6_within_34 rfl
  · rw [if_neg c_1] at h
    refine lv_aload_n E.hx E.hb dX6_within_12 rfl (lv_at hl 0 rfl) ?_
    refine gf_X6_21 E K0 P dX6_within_13 ?_
    refine lv_iload_n E.hx E.hb dX6_within_16 rfl (lv_at hl 3 rfl) ?_
    refine lv_iload E.hx E.hb dX6_within_17 (lv_at hl 4 rfl) ?_
    refine iv_X6_77 E K0 P S (by decide) hl.1 (Nat.le_of_ble_eq_true rfl) dX6_within_19 ?_
    refine lv_if_ne (tgt := 35) E.hx E.hb dX6_within_22 (by decide) (fun c_2 => ?_) (fun c_2 => ?_)
    · rw [if_neg c_2] at h
      refine lv_iload_n E.hx E.hb dX6_within_35 rfl (lv_at hl 3 rfl) ?_
      refine lv_iload_n E.hx E.hb dX6_within_36 rfl (lv_at hl 1 rfl) ?_
      refine lv_icmp_le (tgt := 46) E.hx E.hb dX6_within_37 (by decide) (fun c_3 => ?_) (fun c_3 => ?_)
      · rw [if_pos c_3] at h
        cases h
        exact thr_0 E hfl X0 K0 P S (List.mem_of_getElem? (i := 18) rfl) hl.1 rfl dX6_within_46 dX6_within_49 dX6_within_50 dX6_within_52 dX6_within_55 rfl
      · rw [if_neg c_3] at h
        refine lv_iload E.hx E.hb dX6_within_40 (lv_at hl 4 rfl) ?_
        refine lv_iload_n E.hx E.hb dX6_within_42 rfl (lv_at hl 2 rfl) ?_
        refine lv_icmp_gt (tgt := 56) E.hx E.hb dX6_within_43 (by decide) (fun c_4 => ?_) (fun c_4 => ?_)
        · rw [if_pos c_4] at h
          refine lv_aload_n E.hx E.hb dX6_within_56 rfl (lv_at hl 0 rfl) ?_
          refine gf_X6_30 E K0 P dX6_within_57 ?_
          refine lv_iload_n E.hx E.hb dX6_within_60 rfl (lv_at hl 1 rfl) ?_
          refine lv_iload_n E.hx E.hb dX6_within_61 rfl (lv_at hl 2 rfl) ?_
          refine lv_iload_n E.hx E.hb dX6_within_62 rfl (lv_at hl 3 rfl) ?_
          refine lv_iload E.hx E.hb dX6_within_63 (lv_at hl 4 rfl) ?_
          obtain ⟨r_5, e_6, h⟩ := obind h
          refine iv_X6_211 E K0 P S e_6 (by decide) hl.1 (Nat.le_of_ble_eq_true rfl) dX6_within_65 ?_
          cases h
          refine W.widen (k := 1) (n := 6) (by omega) (by omega) ?_
          exact vx_ret (W.iret E.hx E.hb E.hr (fun t ht _ => ⟨_, _, _, rfl, rfl, by rw [ht]; exact P, S.F ht⟩) S.2.2 dX6_within_68 E.hk)
        · rw [if_neg c_4] at h
          cases h
          exact thr_0 E hfl X0 K0 P S (List.mem_of_getElem? (i := 18) rfl) hl.1 rfl dX6_within_46 dX6_within_49 dX6_within_50 dX6_within_52 dX6_within_55 rfl
    · rw [if_pos c_2] at h
      cases h
      exact thr_1 E hfl X0 K0 P S (List.mem_of_getElem? (i := 2) rfl) hl.1 rfl dX6_within_25 dX6_within_28 dX6_within_29 dX6_within_31 dX6_within_34 rfl
theorem c_X6_within (l : Launch) (hfl : l.stackTraces = false) {H : Heap} {D : va_G} {cyI : ClassId} {ad : Nat → Nat} {I : Nat → Int32} {A : Nat → Nat → Int32} (N : AdN 44 ad) (P : va_P D classes (cw cyI ad I A) H) (x1 x2 x3 x4 : Int32) {out : OutT} (h : B_X6_within I A x1 x2 x3 x4 = some out) : vx_Met l yX6_within (.code yX6_within cX6_within 5 (some .int) :: TA) (rmX 7) (PX [.ref (ad 0), .int x1, .int x2, .int x3, .int x4] H (KC D cyI ad)) (QT D cyI ad false out) (XT D cyI ad out) 1 6 (InN 44 ad) := by
  refine MofX (own := RX6) (by decide +kernel) rfl rfl ?_
  intro p e s m args below meth c ls E X0 hH K0 hl
  subst hH
  exact w_X6_within E K0 N hfl X0 P va_S.rf h hl
theorem ds_X6_within : Dsc yX6_within 4 := ⟨by decide +kernel, by decide +kernel, by decide +kernel⟩
end
section
variable {p : Program} {l : Launch} {e : Env} {R : Room} {s : State} {m : MethodId} {args : Array Value} {below : List Frame} {meth : Method} {c : Code} {H : Heap} {locs : List Loc} {cells slots : Nat} {Q : State → Prop} {cc : ByteArray} {nL pc : Nat} {ret : Option FieldType} {ls : Array Slot} {rest : List Value} {D : va_G} {cyI : ClassId} {ad : Nat → Nat} {I : Nat → Int32} {A : Nat → Nat → Int32}
theorem iv_X6_213 (E : EX p s m args meth c cc nL RX6 ret) (K0 : KC D cyI ad s s.heap) (P : va_P D classes (cw cyI ad I A) H) (S : va_S (InN 44 ad) s.heap H locs) {a0 a1 a2 a3 : Int32} {v : Int32} (hv : B_X5_around I A a0 a1 a2 a3 = some v) (hR : RmOk R cells slots 2 7) (hls : ls.size = nL) (hro : (rest.map fun v => v.category).sum ≤ 8) (hdg : decode cc pc = .ok (.invokevirtual 213, 3)) (kk : W p l e R s m args below meth c H locs cells slots Q (F0 m (pc + 3) ls (.int v :: rest))) : W p l e R s m args below meth c H locs cells slots Q (F0 m pc ls (.int a3 :: .int a2 :: .int a1 :: .int a0 :: .ref (ad 3) :: rest)) :=
  cv_ro E (c_X5_around l P a0 a1 a2 a3 hv) (gV kML_X6_213 kIM_X5_around kSE_X5_around kIN_X5 kCO_X5_around) rfl ds_X5_around rfl KC_blind (fun U _ hW => (K0.at S).warm hW) (va_recv K0.k P (show classes[5]? = some (RX5, TX5, 1) from rfl) cw_g3) hR hls rfl hro hdg kk
end
section
variable {p : Program} {l : Launch} {e : Env} {s : State} {m : MethodId} {args : Array Value} {below : List Frame} {meth : Method} {c : Code} {D : va_G} {cyI : ClassId} {ad : Nat → Nat} {I : Nat → Int32} {A : Nat → Nat → Int32}
def B_X6_border (I : Nat → Int32) (A : Nat → Nat → Int32) (x1 x2 x3 x4 : Int32) : Option (OutT) := if (B_X1_has I A x1 x2) = 0 then some (.inr (1, I, A)) else (if (B_X1_has I A x3 x4) = 0 then some (.inr (1, I, A)) else (if x3 ≤ x1 then some (.inr (0, I, A)) else (if x2 < x4 then ((B_X5_around I A x1 x2 x3 x4).bind fun r_5 => some (.inl (r_5, I, A))) else some (.inr (0, I, A)))))
set_option maxHeartbeats 4000000 in
set_option maxRecDepth 100000 in
theorem w_X6_border (E : EX p s m args meth c cX6_border 5 RX6 (some .int)) (K0 : KC D cyI ad s s.heap) (N : AdN 44 ad) (hfl : l.stackTraces = false) (X0 : ∀ x ∈ c.exceptionTable.toList, False) {H : Heap} {locs : List Loc} (P : va_P D classes (cw cyI ad I A) H) (S : va_S (InN 44 ad) s.heap H locs)  {x1 x2 x3 x4 : Int32} {out : OutT} (h : B_X6_border I A x1 x2 x3 x4 = some out) {ls : Array Slot} (hl : lv_has ls 5 [(0, .ref (ad 0)), (1, .int x1), (2, .int x2), (3, .int x3), (4, .int x4)]) : W p l e (rmX 7) s m args below meth c H locs 0 0 (vx_MQ below (QT D cyI ad false out) (XT D cyI ad out) args s 1 6 (InN 44 ad)) (F0 m 0 ls []) := by
  unfold B_X6_border at h
  refine lv_aload_n E.hx E.hb dX6_border_0 rfl (lv_at hl 0 rfl) ?_
  refine gf_X6_21 E K0 P dX6_border_1 ?_
  refine lv_iload_n E.hx E.hb dX6_border_4 rfl (lv_at hl 1 rfl) ?_
  refine lv_iload_n E.hx E.hb dX6_border_5 rfl (lv_at hl 2 rfl) ?_
  refine iv_X6_77 E K0 P S (by decide) hl.1 (Nat.le_of_ble_eq_true rfl) dX6_border_6 ?_
  refine lv_if_eq (tgt := 25) E.hx E.hb dX6_border_9 (by decide) (fun c_1 => ?_) (fun c_1 => ?_)
  · rw [if_pos c_1] at h
    cases h
    exact thr_1 E hfl X0 K0 P S (List.mem_of_getElem? (i := 2) rfl) hl.1 rfl dX6_border_25 dX6_border_28 dX6_border_29 dX6_border_31 dX6_border_34 rfl
  · rw [if_neg c_1] at h
    refine lv_aload_n E.hx E.hb dX6_border_12 rfl (lv_at hl 0 rfl) ?_
    refine gf_X6_21 E K0 P dX6_border_13 ?_
    refine lv_iload_n E.hx E.hb dX6_border_16 rfl (lv_at hl 3 rfl) ?_
    refine lv_iload E.hx E.hb dX6_border_17 (lv_at hl 4 rfl) ?_
    refine iv_X6_77 E K0 P S (by decide) hl.1 (Nat.le_of_ble_eq_true rfl) dX6_border_19 ?_
    refine lv_if_ne (tgt := 35) E.hx E.hb dX6_border_22 (by decide) (fun c_2 => ?_) (fun c_2 => ?_)
    · rw [if_neg c_2] at h
      refine lv_iload_n E.hx E.hb dX6_border_35 rfl (lv_at hl 3 rfl) ?_
      refine lv_iload_n E.hx E.hb dX6_border_36 rfl (lv_at hl 1 rfl) ?_
      refine lv_icmp_le (tgt := 46) E.hx E.hb dX6_border_37 (by decide) (fun c_3 => ?_) (fun c_3 => ?_)
      · rw [if_pos c_3] at h
        cases h
        exact thr_0 E hfl X0 K0 P S (List.mem_of_getElem? (i := 18) rfl) hl.1 rfl dX6_border_46 dX6_border_49 dX6_border_50 dX6_border_52 dX6_border_55 rfl
      · rw [if_neg c_3] at h
        refine lv_iload E.hx E.hb dX6_border_40 (lv_at hl 4 rfl) ?_
        refine lv_iload_n E.hx E.hb dX6_border_42 rfl (lv_at hl 2 rfl) ?_
        refine lv_icmp_gt (tgt := 56) E.hx E.hb dX6_border_43 (by decide) (fun c_4 => ?_) (fun c_4 => ?_)
        · rw [if_pos c_4] at h
          refine lv_aload_n E.hx E.hb dX6_border_56 rfl (lv_at hl 0 rfl) ?_
          refine gf_X6_30 E K0 P dX6_border_57 ?_
          refine lv_iload_n E.hx E.hb dX6_border_60 rfl (lv_at hl 1 rfl) ?_
          refine lv_iload_n E.hx E.hb dX6_border_61 rfl (lv_at hl 2 rfl) ?_
          refine lv_iload_n E.hx E.hb dX6_border_62 rfl (lv_at hl 3 rfl) ?_
          refine lv_iload E.hx E.hb dX6_border_63 (lv_at hl 4 rfl) ?_
          obtain ⟨r_5, e_6, h⟩ := obind h
          refine iv_X6_213 E K0 P S e_6 (by decide) hl.1 (Nat.le_of_ble_eq_true rfl) dX6_border_65 ?_
          cases h
          refine W.widen (k := 1) (n := 6) (by omega) (by omega) ?_
          exact vx_ret (W.iret E.hx E.hb E.hr (fun t ht _ => ⟨_, _, _, rfl, rfl, by rw [ht]; exact P, S.F ht⟩) S.2.2 dX6_border_68 E.hk)
        · rw [if_neg c_4] at h
          cases h
          exact thr_0 E hfl X0 K0 P S (List.mem_of_getElem? (i := 18) rfl) hl.1 rfl dX6_border_46 dX6_border_49 dX6_border_50 dX6_border_52 dX6_border_55 rfl
    · rw [if_pos c_2] at h
      cases h
      exact thr_1 E hfl X0 K0 P S (List.mem_of_getElem? (i := 2) rfl) hl.1 rfl dX6_border_25 dX6_border_28 dX6_border_29 dX6_border_31 dX6_border_34 rfl
theorem c_X6_border (l : Launch) (hfl : l.stackTraces = false) {H : Heap} {D : va_G} {cyI : ClassId} {ad : Nat → Nat} {I : Nat → Int32} {A : Nat → Nat → Int32} (N : AdN 44 ad) (P : va_P D classes (cw cyI ad I A) H) (x1 x2 x3 x4 : Int32) {out : OutT} (h : B_X6_border I A x1 x2 x3 x4 = some out) : vx_Met l yX6_border (.code yX6_border cX6_border 5 (some .int) :: TA) (rmX 7) (PX [.ref (ad 0), .int x1, .int x2, .int x3, .int x4] H (KC D cyI ad)) (QT D cyI ad false out) (XT D cyI ad out) 1 6 (InN 44 ad) := by
  refine MofX (own := RX6) (by decide +kernel) rfl rfl ?_
  intro p e s m args below meth c ls E X0 hH K0 hl
  subst hH
  exact w_X6_border E K0 N hfl X0 P va_S.rf h hl
theorem ds_X6_border : Dsc yX6_border 4 := ⟨by decide +kernel, by decide +kernel, by decide +kernel⟩
end
section
variable {p : Program} {l : Launch} {e : Env} {R : Room} {s : State} {m : MethodId} {args : Array Value} {below : List Frame} {meth : Method} {c : Code} {H : Heap} {locs : List Loc} {cells slots : Nat} {Q : State → Prop} {cc : ByteArray} {nL pc : Nat} {ret : Option FieldType} {ls : Array Slot} {rest : List Value} {D : va_G} {cyI : ClassId} {ad : Nat → Nat} {I : Nat → Int32} {A : Nat → Nat → Int32}
theorem iv_X6_218 (E : EX p s m args meth c cc nL RX6 ret) (K0 : KC D cyI ad s s.heap) (P : va_P D classes (cw cyI ad I A) H) (S : va_S (InN 44 ad) s.heap H locs) {a0 : Int32} {v : Int32} (hv : B_X5_find I A a0 = some v) (hR : RmOk R cells slots 4 5) (hls : ls.size = nL) (hro : (rest.map fun v => v.category).sum ≤ 8) (hdg : decode cc pc = .ok (.invokevirtual 218, 3)) (kk : W p l e R s m args below meth c H locs cells slots Q (F0 m (pc + 3) ls (.int v :: rest))) : W p l e R s m args below meth c H locs cells slots Q (F0 m pc ls (.int a0 :: .ref (ad 3) :: rest)) :=
  cv_ro E (c_X5_find l P a0 hv) (gV kML_X6_218 kIM_X5_find kSE_X5_find kIN_X5 kCO_X5_find) rfl ds_X5_find rfl KC_blind (fun U _ hW => (K0.at S).warm hW) (va_recv K0.k P (show classes[5]? = some (RX5, TX5, 1) from rfl) cw_g3) hR hls rfl hro hdg kk
end
section
variable {p : Program} {l : Launch} {e : Env} {s : State} {m : MethodId} {args : Array Value} {below : List Frame} {meth : Method} {c : Code} {D : va_G} {cyI : ClassId} {ad : Nat → Nat} {I : Nat → Int32} {A : Nat → Nat → Int32}
def B_X6_defect (I : Nat → Int32) (A : Nat → Nat → Int32) (x1 x2 : Int32) : Option (OutT) := (B_X5_find I A x1).bind fun r_1 => if r_1 = (-1) then some (.inr (1, I, A)) else (if x2 = 0 then some (.inl ((r_1 - r_1 / 12 * 12), I, A)) else if x2 = 1 then some (.inl ((r_1 / 12), I, A)) else if x2 = 2 then ((B_X5_at I A ((r_1 - r_1 / 12 * 12)) ((r_1 / 12))).bind fun r_7 => some (.inl (r_7, I, A))) else some (.inr (0, I, A)))
set_option maxHeartbeats 4000000 in
set_option maxRecDepth 100000 in
theorem w_X6_defect (E : EX p s m args meth c cX6_defect 6 RX6 (some .int)) (K0 : KC D cyI ad s s.heap) (N : AdN 44 ad) (hfl : l.stackTraces = false) (X0 : ∀ x ∈ c.exceptionTable.toList, False) {H : Heap} {locs : List Loc} (P : va_P D classes (cw cyI ad I A) H) (S : va_S (InN 44 ad) s.heap H locs)  {x1 x2 : Int32} {out : OutT} (h : B_X6_defect I A x1 x2 = some out) {ls : Array Slot} (hl : lv_has ls 6 [(0, .ref (ad 0)), (1, .int x1), (2, .int x2)]) : W p l e (rmX 7) s m args below meth c H locs 0 0 (vx_MQ below (QT D cyI ad false out) (XT D cyI ad out) args s 1 6 (InN 44 ad)) (F0 m 0 ls []) := by
  unfold B_X6_defect at h
  refine lv_aload_n E.hx E.hb dX6_defect_0 rfl (lv_at hl 0 rfl) ?_
  refine gf_X6_30 E K0 P dX6_defect_1 ?_
  refine lv_iload_n E.hx E.hb dX6_defect_4 rfl (lv_at hl 1 rfl) ?_
  obtain ⟨r_1, e_2, h⟩ := obind h
  refine iv_X6_218 E K0 P S e_2 (by decide) hl.1 (Nat.le_of_ble_eq_true rfl) dX6_defect_5 ?_
  refine lv_istore_n (lv' := [(3, .int r_1), (0, .ref (ad 0)), (1, .int x1), (2, .int x2)]) E.hx E.hb dX6_defect_8 rfl hl (by decide) rfl (fun ls hl => ?_)
  refine lv_iload_n E.hx E.hb dX6_defect_9 rfl (lv_at hl 0 rfl) ?_
  refine lv_iconst (v := (-1)) E.hx E.hb dX6_defect_10 (by decide) ?_
  refine lv_icmp_ne (tgt := 24) E.hx E.hb dX6_defect_11 (by decide) (fun c_3 => ?_) (fun c_3 => ?_)
  · rw [if_neg c_3] at h
    refine lv_iload_n E.hx E.hb dX6_defect_24 rfl (lv_at hl 0 rfl) ?_
    refine lv_bipush (v := 12) E.hx E.hb dX6_defect_25 (by decide) ?_
    refine lv_irem E.hx E.hb dX6_defect_27 (by decide) ?_
    refine lv_istore (lv' := [(4, .int (r_1 - r_1 / 12 * 12)), (3, .int r_1), (0, .ref (ad 0)), (1, .int x1), (2, .int x2)]) E.hx E.hb dX6_defect_28 hl (by decide) rfl (fun ls hl => ?_)
    refine lv_iload_n E.hx E.hb dX6_defect_30 rfl (lv_at hl 1 rfl) ?_
    refine lv_bipush (v := 12) E.hx E.hb dX6_defect_31 (by decide) ?_
    refine lv_idiv E.hx E.hb dX6_defect_33 (by decide) ?_
    refine lv_istore (lv' := [(5, .int (r_1 / 12)), (4, .int (r_1 - r_1 / 12 * 12)), (3, .int r_1), (0, .ref (ad 0)), (1, .int x1), (2, .int x2)]) E.hx E.hb dX6_defect_34 hl (by decide) rfl (fun ls hl => ?_)
    refine lv_iload_n E.hx E.hb dX6_defect_36 rfl (lv_at hl 5 rfl) ?_
    by_cases c_4 : x2 = 0
    · rw [if_pos c_4] at h
      refine lv_tableIn (off := 27) (tgt := 64) E.hx E.hb dX6_defect_37 (by rw [c_4]; decide) (by rw [c_4]; decide) (by rw [c_4]; rfl) (by decide) ?_
      refine lv_iload E.hx E.hb dX6_defect_64 (lv_at hl 1 rfl) ?_
      cases h
      refine W.widen (k := 1) (n := 6) (by omega) (by omega) ?_
      exact vx_ret (W.iret E.hx E.hb E.hr (fun t ht _ => ⟨_, _, _, rfl, rfl, by rw [ht]; exact P, S.F ht⟩) S.2.2 dX6_defect_66 E.hk)
    rw [if_neg c_4] at h
    by_cases c_5 : x2 = 1
    · rw [if_pos c_5] at h
      refine lv_tableIn (off := 30) (tgt := 67) E.hx E.hb dX6_defect_37 (by rw [c_5]; decide) (by rw [c_5]; decide) (by rw [c_5]; rfl) (by decide) ?_
      refine lv_iload E.hx E.hb dX6_defect_67 (lv_at hl 0 rfl) ?_
      cases h
      refine W.widen (k := 1) (n := 6) (by omega) (by omega) ?_
      exact vx_ret (W.iret E.hx E.hb E.hr (fun t ht _ => ⟨_, _, _, rfl, rfl, by rw [ht]; exact P, S.F ht⟩) S.2.2 dX6_defect_69 E.hk)
    rw [if_neg c_5] at h
    by_cases c_6 : x2 = 2
    · rw [if_pos c_6] at h
      refine lv_tableIn (off := 33) (tgt := 70) E.hx E.hb dX6_defect_37 (by rw [c_6]; decide) (by rw [c_6]; decide) (by rw [c_6]; rfl) (by decide) ?_
      refine lv_aload_n E.hx E.hb dX6_defect_70 rfl (lv_at hl 3 rfl) ?_
      refine gf_X6_30 E K0 P dX6_defect_71 ?_
      refine lv_iload E.hx E.hb dX6_defect_74 (lv_at hl 1 rfl) ?_
      refine lv_iload E.hx E.hb dX6_defect_76 (lv_at hl 0 rfl) ?_
      obtain ⟨r_7, e_8, h⟩ := obind h
      refine iv_X6_206 E K0 P S e_8 (by decide) hl.1 (Nat.le_of_ble_eq_true rfl) dX6_defect_78 ?_
      cases h
      refine W.widen (k := 1) (n := 6) (by omega) (by omega) ?_
      exact vx_ret (W.iret E.hx E.hb E.hr (fun t ht _ => ⟨_, _, _, rfl, rfl, by rw [ht]; exact P, S.F ht⟩) S.2.2 dX6_defect_81 E.hk)
    rw [if_neg c_6] at h
    refine lv_tableOut (tgt := 82) E.hx E.hb dX6_defect_37 (swo 2 (by decide) (by intro j hj; rcases (show j = 0 ∨ j = 1 ∨ j = 2 by omega) with rfl | rfl | rfl <;> assumption)) (by decide) ?_
    cases h
    exact thr_0 E hfl X0 K0 P S (List.mem_of_getElem? (i := 20) rfl) hl.1 rfl dX6_defect_82 dX6_defect_85 dX6_defect_86 dX6_defect_88 dX6_defect_91 rfl
  · rw [if_pos c_3] at h
    cases h
    exact thr_1 E hfl X0 K0 P S (List.mem_of_getElem? (i := 19) rfl) hl.1 rfl dX6_defect_14 dX6_defect_17 dX6_defect_18 dX6_defect_20 dX6_defect_23 rfl
theorem c_X6_defect (l : Launch) (hfl : l.stackTraces = false) {H : Heap} {D : va_G} {cyI : ClassId} {ad : Nat → Nat} {I : Nat → Int32} {A : Nat → Nat → Int32} (N : AdN 44 ad) (P : va_P D classes (cw cyI ad I A) H) (x1 x2 : Int32) {out : OutT} (h : B_X6_defect I A x1 x2 = some out) : vx_Met l yX6_defect (.code yX6_defect cX6_defect 6 (some .int) :: TA) (rmX 7) (PX [.ref (ad 0), .int x1, .int x2] H (KC D cyI ad)) (QT D cyI ad false out) (XT D cyI ad out) 1 6 (InN 44 ad) := by
  refine MofX (own := RX6) (by decide +kernel) rfl rfl ?_
  intro p e s m args below meth c ls E X0 hH K0 hl
  subst hH
  exact w_X6_defect E K0 N hfl X0 P va_S.rf h hl
theorem ds_X6_defect : Dsc yX6_defect 2 := ⟨by decide +kernel, by decide +kernel, by decide +kernel⟩
end
section
variable {p : Program} {l : Launch} {e : Env} {R : Room} {s : State} {m : MethodId} {args : Array Value} {below : List Frame} {meth : Method} {c : Code} {H : Heap} {locs : List Loc} {cells slots : Nat} {Q : State → Prop} {cc : ByteArray} {nL pc : Nat} {ret : Option FieldType} {ls : Array Slot} {rest : List Value} {D : va_G} {cyI : ClassId} {ad : Nat → Nat} {I : Nat → Int32} {A : Nat → Nat → Int32}
theorem iv_X6_228 (E : EX p s m args meth c cc nL RX6 ret) (K0 : KC D cyI ad s s.heap) (P : va_P D classes (cw cyI ad I A) H) (S : va_S (InN 44 ad) s.heap H locs) {a0 : Int32} {v : Int32} (hv : B_X3_flicker I A a0 = some v) (hR : RmOk R cells slots 1 8) (hls : ls.size = nL) (hro : (rest.map fun v => v.category).sum ≤ 8) (hdg : decode cc pc = .ok (.invokevirtual 228, 3)) (kk : W p l e R s m args below meth c H locs cells slots Q (F0 m (pc + 3) ls (.int v :: rest))) : W p l e R s m args below meth c H locs cells slots Q (F0 m pc ls (.int a0 :: .ref (ad 1) :: rest)) :=
  cv_ro E (c_X3_flicker l P a0 hv) (gV kML_X6_228 kIM_X3_flicker kSE_X3_flicker kIN_X3 kCO_X3_flicker) rfl ds_X3_flicker rfl KC_blind (fun U _ hW => (K0.at S).warm hW) (va_recv K0.k P (show classes[3]? = some (RX3, TX3, 9) from rfl) cw_g1) hR hls rfl hro hdg kk
end
section
variable {p : Program} {l : Launch} {e : Env} {R : Room} {s : State} {m : MethodId} {args : Array Value} {below : List Frame} {meth : Method} {c : Code} {H : Heap} {locs : List Loc} {cells slots : Nat} {Q : State → Prop} {cc : ByteArray} {nL pc : Nat} {ret : Option FieldType} {ls : Array Slot} {rest : List Value} {D : va_G} {cyI : ClassId} {ad : Nat → Nat} {I : Nat → Int32} {A : Nat → Nat → Int32}
theorem iv_X6_231 (E : EX p s m args meth c cc nL RX6 ret) (K0 : KC D cyI ad s s.heap) (P : va_P D classes (cw cyI ad I A) H) (S : va_S (InN 44 ad) s.heap H locs) {a0 : Int32} {v : Int32} (hv : B_X5_isGood I A a0 = some v) (hR : RmOk R cells slots 4 4) (hls : ls.size = nL) (hro : (rest.map fun v => v.category).sum ≤ 8) (hdg : decode cc pc = .ok (.invokevirtual 231, 3)) (kk : W p l e R s m args below meth c H locs cells slots Q (F0 m (pc + 3) ls (.int v :: rest))) : W p l e R s m args below meth c H locs cells slots Q (F0 m pc ls (.int a0 :: .ref (ad 3) :: rest)) :=
  cv_ro E (c_X5_isGood l P a0 hv) (gV kML_X6_231 kIM_X5_isGood kSE_X5_isGood kIN_X5 kCO_X5_isGood) rfl ds_X5_isGood rfl KC_blind (fun U _ hW => (K0.at S).warm hW) (va_recv K0.k P (show classes[5]? = some (RX5, TX5, 1) from rfl) cw_g3) hR hls rfl hro hdg kk
end
section
variable {p : Program} {l : Launch} {e : Env} {R : Room} {s : State} {m : MethodId} {args : Array Value} {below : List Frame} {meth : Method} {c : Code} {H : Heap} {locs : List Loc} {cells slots : Nat} {Q : State → Prop} {cc : ByteArray} {nL pc : Nat} {ret : Option FieldType} {ls : Array Slot} {rest : List Value} {D : va_G} {cyI : ClassId} {ad : Nat → Nat} {I : Nat → Int32} {A : Nat → Nat → Int32}
theorem iv_X6_234 (E : EX p s m args meth c cc nL RX6 ret) (K0 : KC D cyI ad s s.heap) (P : va_P D classes (cw cyI ad I A) H) (S : va_S (InN 44 ad) s.heap H locs) {a0 : Int32} (hR : RmOk R cells slots 1 2) (hls : ls.size = nL) (hro : (rest.map fun v => v.category).sum ≤ 8) (hdg : decode cc pc = .ok (.invokevirtual 234, 3)) (kk : W p l e R s m args below meth c H locs cells slots Q (F0 m (pc + 3) ls (.int (B_X3_fieldDirection I A a0) :: rest))) : W p l e R s m args below meth c H locs cells slots Q (F0 m pc ls (.int a0 :: .ref (ad 1) :: rest)) :=
  cv_ro E (c_X3_fieldDirection l P a0 ) (gV kML_X6_234 kIM_X3_fieldDirection kSE_X3_fieldDirection kIN_X3 kCO_X3_fieldDirection) rfl ds_X3_fieldDirection rfl KC_blind (fun U _ hW => (K0.at S).warm hW) (va_recv K0.k P (show classes[3]? = some (RX3, TX3, 9) from rfl) cw_g1) hR hls rfl hro hdg kk
end
section
variable {p : Program} {l : Launch} {e : Env} {R : Room} {s : State} {m : MethodId} {args : Array Value} {below : List Frame} {meth : Method} {c : Code} {H : Heap} {locs : List Loc} {cells slots : Nat} {Q : State → Prop} {cc : ByteArray} {nL pc : Nat} {ret : Option FieldType} {ls : Array Slot} {rest : List Value} {D : va_G} {cyI : ClassId} {ad : Nat → Nat} {I : Nat → Int32} {A : Nat → Nat → Int32}
theorem iv_X6_237 (E : EX p s m args meth c cc nL RX6 ret) (K0 : KC D cyI ad s s.heap) (P : va_P D classes (cw cyI ad I A) H) (S : va_S (InN 44 ad) s.heap H locs) {a0 : Int32} (hR : RmOk R cells slots 1 2) (hls : ls.size = nL) (hro : (rest.map fun v => v.category).sum ≤ 8) (hdg : decode cc pc = .ok (.invokevirtual 237, 3)) (kk : W p l e R s m args below meth c H locs cells slots Q (F0 m (pc + 3) ls (.int (B_X3_fieldStrength I A a0) :: rest))) : W p l e R s m args below meth c H locs cells slots Q (F0 m pc ls (.int a0 :: .ref (ad 1) :: rest)) :=
  cv_ro E (c_X3_fieldStrength l P a0 ) (gV kML_X6_237 kIM_X3_fieldStrength kSE_X3_fieldStrength kIN_X3 kCO_X3_fieldStrength) rfl ds_X3_fieldStrength rfl KC_blind (fun U _ hW => (K0.at S).warm hW) (va_recv K0.k P (show classes[3]? = some (RX3, TX3, 9) from rfl) cw_g1) hR hls rfl hro hdg kk
end
section
variable {p : Program} {l : Launch} {e : Env} {s : State} {m : MethodId} {args : Array Value} {below : List Frame} {meth : Method} {c : Code} {D : va_G} {cyI : ClassId} {ad : Nat → Nat} {I : Nat → Int32} {A : Nat → Nat → Int32}
def B_X6_ofPixel (I : Nat → Int32) (A : Nat → Nat → Int32) (x1 x2 : Int32) : Option (OutT) := if (B_X3_has I A x1) = 0 then some (.inr (1, I, A)) else (if x2 = 0 then ((B_X1_greyOfPixel I A x1 ((I 0))).bind fun r_3 => some (.inl (r_3, I, A))) else if x2 = 1 then ((B_X3_flicker I A x1).bind fun r_6 => some (.inl (r_6, I, A))) else if x2 = 2 then ((B_X5_isGood I A x1).bind fun r_9 => if r_9 = 0 then some (.inl (0, I, A)) else some (.inl (1, I, A))) else if x2 = 3 then some (.inl ((B_X3_fieldDirection I A x1), I, A)) else if x2 = 4 then some (.inl ((B_X3_fieldStrength I A x1), I, A)) else some (.inr (0, I, A)))
set_option maxHeartbeats 4000000 in
set_option maxRecDepth 100000 in
theorem w_X6_ofPixel (E : EX p s m args meth c cX6_ofPixel 3 RX6 (some .int)) (K0 : KC D cyI ad s s.heap) (N : AdN 44 ad) (hfl : l.stackTraces = false) (X0 : ∀ x ∈ c.exceptionTable.toList, False) {H : Heap} {locs : List Loc} (P : va_P D classes (cw cyI ad I A) H) (S : va_S (InN 44 ad) s.heap H locs)  {x1 x2 : Int32} {out : OutT} (h : B_X6_ofPixel I A x1 x2 = some out) {ls : Array Slot} (hl : lv_has ls 3 [(0, .ref (ad 0)), (1, .int x1), (2, .int x2)]) : W p l e (rmX 7) s m args below meth c H locs 0 0 (vx_MQ below (QT D cyI ad false out) (XT D cyI ad out) args s 1 6 (InN 44 ad)) (F0 m 0 ls []) := by
  unfold B_X6_ofPixel at h
  refine lv_aload_n E.hx E.hb dX6_ofPixel_0 rfl (lv_at hl 0 rfl) ?_
  refine gf_X6_12 E K0 P dX6_ofPixel_1 ?_
  refine lv_iload_n E.hx E.hb dX6_ofPixel_4 rfl (lv_at hl 1 rfl) ?_
  refine iv_X6_131 E K0 P S (by decide) hl.1 (Nat.le_of_ble_eq_true rfl) dX6_ofPixel_5 ?_
  refine lv_if_ne (tgt := 21) E.hx E.hb dX6_ofPixel_8 (by decide) (fun c_1 => ?_) (fun c_1 => ?_)
  · rw [if_neg c_1] at h
    refine lv_iload_n E.hx E.hb dX6_ofPixel_21 rfl (lv_at hl 2 rfl) ?_
    by_cases c_2 : x2 = 0
    · rw [if_pos c_2] at h
      refine lv_tableIn (off := 34) (tgt := 56) E.hx E.hb dX6_ofPixel_22 (by rw [c_2]; decide) (by rw [c_2]; decide) (by rw [c_2]; rfl) (by decide) ?_
      refine lv_aload_n E.hx E.hb dX6_ofPixel_56 rfl (lv_at hl 0 rfl) ?_
      refine gf_X6_21 E K0 P dX6_ofPixel_57 ?_
      refine lv_iload_n E.hx E.hb dX6_ofPixel_60 rfl (lv_at hl 1 rfl) ?_
      refine lv_aload_n E.hx E.hb dX6_ofPixel_61 rfl (lv_at hl 0 rfl) ?_
      refine gf_X6_48 E K0 P dX6_ofPixel_62 ?_
      obtain ⟨r_3, e_4, h⟩ := obind h
      refine iv_X6_225 E K0 P S e_4 (by decide) hl.1 (Nat.le_of_ble_eq_true rfl) dX6_ofPixel_65 ?_
      cases h
      refine W.widen (k := 1) (n := 6) (by omega) (by omega) ?_
      exact vx_ret (W.iret E.hx E.hb E.hr (fun t ht _ => ⟨_, _, _, rfl, rfl, by rw [ht]; exact P, S.F ht⟩) S.2.2 dX6_ofPixel_68 E.hk)
    rw [if_neg c_2] at h
    by_cases c_5 : x2 = 1
    · rw [if_pos c_5] at h
      refine lv_tableIn (off := 47) (tgt := 69) E.hx E.hb dX6_ofPixel_22 (by rw [c_5]; decide) (by rw [c_5]; decide) (by rw [c_5]; rfl) (by decide) ?_
      refine lv_aload_n E.hx E.hb dX6_ofPixel_69 rfl (lv_at hl 0 rfl) ?_
      refine gf_X6_12 E K0 P dX6_ofPixel_70 ?_
      refine lv_iload_n E.hx E.hb dX6_ofPixel_73 rfl (lv_at hl 1 rfl) ?_
      obtain ⟨r_6, e_7, h⟩ := obind h
      refine iv_X6_228 E K0 P S e_7 (by decide) hl.1 (Nat.le_of_ble_eq_true rfl) dX6_ofPixel_74 ?_
      cases h
      refine W.widen (k := 1) (n := 6) (by omega) (by omega) ?_
      exact vx_ret (W.iret E.hx E.hb E.hr (fun t ht _ => ⟨_, _, _, rfl, rfl, by rw [ht]; exact P, S.F ht⟩) S.2.2 dX6_ofPixel_77 E.hk)
    rw [if_neg c_5] at h
    by_cases c_8 : x2 = 2
    · rw [if_pos c_8] at h
      refine lv_tableIn (off := 56) (tgt := 78) E.hx E.hb dX6_ofPixel_22 (by rw [c_8]; decide) (by rw [c_8]; decide) (by rw [c_8]; rfl) (by decide) ?_
      refine lv_aload_n E.hx E.hb dX6_ofPixel_78 rfl (lv_at hl 0 rfl) ?_
      refine gf_X6_30 E K0 P dX6_ofPixel_79 ?_
      refine lv_iload_n E.hx E.hb dX6_ofPixel_82 rfl (lv_at hl 1 rfl) ?_
      obtain ⟨r_9, e_10, h⟩ := obind h
      refine iv_X6_231 E K0 P S e_10 (by decide) hl.1 (Nat.le_of_ble_eq_true rfl) dX6_ofPixel_83 ?_
      refine lv_if_eq (tgt := 93) E.hx E.hb dX6_ofPixel_86 (by decide) (fun c_11 => ?_) (fun c_11 => ?_)
      · rw [if_pos c_11] at h
        refine lv_iconst (v := 0) E.hx E.hb dX6_ofPixel_93 (by decide) ?_
        cases h
        refine W.widen (k := 1) (n := 6) (by omega) (by omega) ?_
        exact vx_ret (W.iret E.hx E.hb E.hr (fun t ht _ => ⟨_, _, _, rfl, rfl, by rw [ht]; exact P, S.F ht⟩) S.2.2 dX6_ofPixel_94 E.hk)
      · rw [if_neg c_11] at h
        refine lv_iconst (v := 1) E.hx E.hb dX6_ofPixel_89 (by decide) ?_
        refine lv_goto (tgt := 94) E.hx E.hb dX6_ofPixel_90 (by decide) ?_
        cases h
        refine W.widen (k := 1) (n := 6) (by omega) (by omega) ?_
        exact vx_ret (W.iret E.hx E.hb E.hr (fun t ht _ => ⟨_, _, _, rfl, rfl, by rw [ht]; exact P, S.F ht⟩) S.2.2 dX6_ofPixel_94 E.hk)
    rw [if_neg c_8] at h
    by_cases c_12 : x2 = 3
    · rw [if_pos c_12] at h
      refine lv_tableIn (off := 73) (tgt := 95) E.hx E.hb dX6_ofPixel_22 (by rw [c_12]; decide) (by rw [c_12]; decide) (by rw [c_12]; rfl) (by decide) ?_
      refine lv_aload_n E.hx E.hb dX6_ofPixel_95 rfl (lv_at hl 0 rfl) ?_
      refine gf_X6_12 E K0 P dX6_ofPixel_96 ?_
      refine lv_iload_n E.hx E.hb dX6_ofPixel_99 rfl (lv_at hl 1 rfl) ?_
      refine iv_X6_234 E K0 P S (by decide) hl.1 (Nat.le_of_ble_eq_true rfl) dX6_ofPixel_100 ?_
      cases h
      refine W.widen (k := 1) (n := 6) (by omega) (by omega) ?_
      exact vx_ret (W.iret E.hx E.hb E.hr (fun t ht _ => ⟨_, _, _, rfl, rfl, by rw [ht]; exact P, S.F ht⟩) S.2.2 dX6_ofPixel_103 E.hk)
    rw [if_neg c_12] at h
    by_cases c_13 : x2 = 4
    · rw [if_pos c_13] at h
      refine lv_tableIn (off := 82) (tgt := 104) E.hx E.hb dX6_ofPixel_22 (by rw [c_13]; decide) (by rw [c_13]; decide) (by rw [c_13]; rfl) (by decide) ?_
      refine lv_aload_n E.hx E.hb dX6_ofPixel_104 rfl (lv_at hl 0 rfl) ?_
      refine gf_X6_12 E K0 P dX6_ofPixel_105 ?_
      refine lv_iload_n E.hx E.hb dX6_ofPixel_108 rfl (lv_at hl 1 rfl) ?_
      refine iv_X6_237 E K0 P S (by decide) hl.1 (Nat.le_of_ble_eq_true rfl) dX6_ofPixel_109 ?_
      cases h
      refine W.widen (k := 1) (n := 6) (by omega) (by omega) ?_
      exact vx_ret (W.iret E.hx E.hb E.hr (fun t ht _ => ⟨_, _, _, rfl, rfl, by rw [ht]; exact P, S.F ht⟩) S.2.2 dX6_ofPixel_112 E.hk)
    rw [if_neg c_13] at h
    refine lv_tableOut (tgt := 113) E.hx E.hb dX6_ofPixel_22 (swo 4 (by decide) (by intro j hj; rcases (show j = 0 ∨ j = 1 ∨ j = 2 ∨ j = 3 ∨ j = 4 by omega) with rfl | rfl | rfl | rfl | rfl <;> assumption)) (by decide) ?_
    cases h
    exact thr_0 E hfl X0 K0 P S (List.mem_of_getElem? (i := 16) rfl) hl.1 rfl dX6_ofPixel_113 dX6_ofPixel_116 dX6_ofPixel_117 dX6_ofPixel_119 dX6_ofPixel_122 rfl
  · rw [if_pos c_1] at h
    cases h
    exact thr_1 E hfl X0 K0 P S (List.mem_of_getElem? (i := 9) rfl) hl.1 rfl dX6_ofPixel_11 dX6_ofPixel_14 dX6_ofPixel_15 dX6_ofPixel_17 dX6_ofPixel_20 rfl
theorem c_X6_ofPixel (l : Launch) (hfl : l.stackTraces = false) {H : Heap} {D : va_G} {cyI : ClassId} {ad : Nat → Nat} {I : Nat → Int32} {A : Nat → Nat → Int32} (N : AdN 44 ad) (P : va_P D classes (cw cyI ad I A) H) (x1 x2 : Int32) {out : OutT} (h : B_X6_ofPixel I A x1 x2 = some out) : vx_Met l yX6_ofPixel (.code yX6_ofPixel cX6_ofPixel 3 (some .int) :: TA) (rmX 7) (PX [.ref (ad 0), .int x1, .int x2] H (KC D cyI ad)) (QT D cyI ad false out) (XT D cyI ad out) 1 6 (InN 44 ad) := by
  refine MofX (own := RX6) (by decide +kernel) rfl rfl ?_
  intro p e s m args below meth c ls E X0 hH K0 hl
  subst hH
  exact w_X6_ofPixel E K0 N hfl X0 P va_S.rf h hl
theorem ds_X6_ofPixel : Dsc yX6_ofPixel 2 := ⟨by decide +kernel, by decide +kernel, by decide +kernel⟩
end
section
variable {p : Program} {l : Launch} {e : Env} {R : Room} {s : State} {m : MethodId} {args : Array Value} {below : List Frame} {meth : Method} {c : Code} {H : Heap} {locs : List Loc} {cells slots : Nat} {Q : State → Prop} {cc : ByteArray} {nL pc : Nat} {ret : Option FieldType} {ls : Array Slot} {rest : List Value} {D : va_G} {cyI : ClassId} {ad : Nat → Nat} {I : Nat → Int32} {A : Nat → Nat → Int32}
theorem iv_X6_240 (E : EX p s m args meth c cc nL RX6 ret) (K0 : KC D cyI ad s s.heap) (P : va_P D classes (cw cyI ad I A) H) (S : va_S (InN 44 ad) s.heap H locs) {a0 : Int32} (hR : RmOk R cells slots 0 2) (hls : ls.size = nL) (hro : (rest.map fun v => v.category).sum ≤ 8) (hdg : decode cc pc = .ok (.invokevirtual 240, 3)) (kk : W p l e R s m args below meth c H locs cells slots Q (F0 m (pc + 3) ls (.int (B_X2_has I A a0) :: rest))) : W p l e R s m args below meth c H locs cells slots Q (F0 m pc ls (.int a0 :: .ref (ad 5) :: rest)) :=
  cv_ro E (c_X2_has l P a0 ) (gV kML_X6_240 kIM_X2_has kSE_X2_has kIN_X2 kCO_X2_has) rfl ds_X2_has rfl KC_blind (fun U _ hW => (K0.at S).warm hW) (va_recv K0.k P (show classes[2]? = some (RX2, TX2, 3) from rfl) cw_g5) hR hls rfl hro hdg kk
end
section
variable {p : Program} {l : Launch} {e : Env} {R : Room} {s : State} {m : MethodId} {args : Array Value} {below : List Frame} {meth : Method} {c : Code} {H : Heap} {locs : List Loc} {cells slots : Nat} {Q : State → Prop} {cc : ByteArray} {nL pc : Nat} {ret : Option FieldType} {ls : Array Slot} {rest : List Value} {D : va_G} {cyI : ClassId} {ad : Nat → Nat} {I : Nat → Int32} {A : Nat → Nat → Int32}
theorem iv_X6_243 (E : EX p s m args meth c cc nL RX6 ret) (K0 : KC D cyI ad s s.heap) (P : va_P D classes (cw cyI ad I A) H) (S : va_S (InN 44 ad) s.heap H locs) {a0 a1 a2 : Int32} (hR : RmOk R cells slots 1 4) (hls : ls.size = nL) (hro : (rest.map fun v => v.category).sum ≤ 8) (hdg : decode cc pc = .ok (.invokevirtual 243, 3)) (kk : W p l e R s m args below meth c H locs cells slots Q (F0 m (pc + 3) ls (.int (B_X2_greyAt I A a0 a1 a2) :: rest))) : W p l e R s m args below meth c H locs cells slots Q (F0 m pc ls (.int a2 :: .int a1 :: .int a0 :: .ref (ad 5) :: rest)) :=
  cv_ro E (c_X2_greyAt l P a0 a1 a2 ) (gV kML_X6_243 kIM_X2_greyAt kSE_X2_greyAt kIN_X2 kCO_X2_greyAt) rfl ds_X2_greyAt rfl KC_blind (fun U _ hW => (K0.at S).warm hW) (va_recv K0.k P (show classes[2]? = some (RX2, TX2, 3) from rfl) cw_g5) hR hls rfl hro hdg kk
end
section
variable {p : Program} {l : Launch} {e : Env} {s : State} {m : MethodId} {args : Array Value} {below : List Frame} {meth : Method} {c : Code} {D : va_G} {cyI : ClassId} {ad : Nat → Nat} {I : Nat → Int32} {A : Nat → Nat → Int32}
def B_X6_pictured (I : Nat → Int32) (A : Nat → Nat → Int32) (x1 x2 x3 : Int32) : Option (OutT) := if (B_X2_has I A x1) = 0 then some (.inr (1, I, A)) else (if (B_X1_has I A x2 x3) = 0 then some (.inr (1, I, A)) else some (.inl ((B_X2_greyAt I A x1 x2 x3), I, A)))
set_option maxHeartbeats 4000000 in
set_option maxRecDepth 100000 in
theorem w_X6_pictured (E : EX p s m args meth c cX6_pictured 4 RX6 (some .int)) (K0 : KC D cyI ad s s.heap) (N : AdN 44 ad) (hfl : l.stackTraces = false) (X0 : ∀ x ∈ c.exceptionTable.toList, False) {H : Heap} {locs : List Loc} (P : va_P D classes (cw cyI ad I A) H) (S : va_S (InN 44 ad) s.heap H locs)  {x1 x2 x3 : Int32} {out : OutT} (h : B_X6_pictured I A x1 x2 x3 = some out) {ls : Array Slot} (hl : lv_has ls 4 [(0, .ref (ad 0)), (1, .int x1), (2, .int x2), (3, .int x3)]) : W p l e (rmX 7) s m args below meth c H locs 0 0 (vx_MQ below (QT D cyI ad false out) (XT D cyI ad out) args s 1 6 (InN 44 ad)) (F0 m 0 ls []) := by
  unfold B_X6_pictured at h
  refine lv_aload_n E.hx E.hb dX6_pictured_0 rfl (lv_at hl 0 rfl) ?_
  refine gf_X6_44 E K0 P dX6_pictured_1 ?_
  refine lv_iload_n E.hx E.hb dX6_pictured_4 rfl (lv_at hl 1 rfl) ?_
  refine iv_X6_240 E K0 P S (by decide) hl.1 (Nat.le_of_ble_eq_true rfl) dX6_pictured_5 ?_
  refine lv_if_eq (tgt := 23) E.hx E.hb dX6_pictured_8 (by decide) (fun c_1 => ?_) (fun c_1 => ?_)
  · rw [if_pos c_1] at h
    cases h
    exact thr_1 E hfl X0 K0 P S (List.mem_of_getElem? (i := 21) rfl) hl.1 rfl dX6_pictured_23 dX6_pictured_26 dX6_pictured_27 dX6_pictured_29 dX6_pictured_32 rfl
  · rw [if_neg c_1] at h
    refine lv_aload_n E.hx E.hb dX6_pictured_11 rfl (lv_at hl 0 rfl) ?_
    refine gf_X6_21 E K0 P dX6_pictured_12 ?_
    refine lv_iload_n E.hx E.hb dX6_pictured_15 rfl (lv_at hl 2 rfl) ?_
    refine lv_iload_n E.hx E.hb dX6_pictured_16 rfl (lv_at hl 3 rfl) ?_
    refine iv_X6_77 E K0 P S (by decide) hl.1 (Nat.le_of_ble_eq_true rfl) dX6_pictured_17 ?_
    refine lv_if_ne (tgt := 33) E.hx E.hb dX6_pictured_20 (by decide) (fun c_2 => ?_) (fun c_2 => ?_)
    · rw [if_neg c_2] at h
      refine lv_aload_n E.hx E.hb dX6_pictured_33 rfl (lv_at hl 0 rfl) ?_
      refine gf_X6_44 E K0 P dX6_pictured_34 ?_
      refine lv_iload_n E.hx E.hb dX6_pictured_37 rfl (lv_at hl 1 rfl) ?_
      refine lv_iload_n E.hx E.hb dX6_pictured_38 rfl (lv_at hl 2 rfl) ?_
      refine lv_iload_n E.hx E.hb dX6_pictured_39 rfl (lv_at hl 3 rfl) ?_
      refine iv_X6_243 E K0 P S (by decide) hl.1 (Nat.le_of_ble_eq_true rfl) dX6_pictured_40 ?_
      cases h
      refine W.widen (k := 1) (n := 6) (by omega) (by omega) ?_
      exact vx_ret (W.iret E.hx E.hb E.hr (fun t ht _ => ⟨_, _, _, rfl, rfl, by rw [ht]; exact P, S.F ht⟩) S.2.2 dX6_pictured_43 E.hk)
    · rw [if_pos c_2] at h
      cases h
      exact thr_1 E hfl X0 K0 P S (List.mem_of_getElem? (i := 21) rfl) hl.1 rfl dX6_pictured_23 dX6_pictured_26 dX6_pictured_27 dX6_pictured_29 dX6_pictured_32 rfl
theorem c_X6_pictured (l : Launch) (hfl : l.stackTraces = false) {H : Heap} {D : va_G} {cyI : ClassId} {ad : Nat → Nat} {I : Nat → Int32} {A : Nat → Nat → Int32} (N : AdN 44 ad) (P : va_P D classes (cw cyI ad I A) H) (x1 x2 x3 : Int32) {out : OutT} (h : B_X6_pictured I A x1 x2 x3 = some out) : vx_Met l yX6_pictured (.code yX6_pictured cX6_pictured 4 (some .int) :: TA) (rmX 7) (PX [.ref (ad 0), .int x1, .int x2, .int x3] H (KC D cyI ad)) (QT D cyI ad false out) (XT D cyI ad out) 1 6 (InN 44 ad) := by
  refine MofX (own := RX6) (by decide +kernel) rfl rfl ?_
  intro p e s m args below meth c ls E X0 hH K0 hl
  subst hH
  exact w_X6_pictured E K0 N hfl X0 P va_S.rf h hl
theorem ds_X6_pictured : Dsc yX6_pictured 3 := ⟨by decide +kernel, by decide +kernel, by decide +kernel⟩
end
section
variable {p : Program} {l : Launch} {e : Env} {R : Room} {s : State} {m : MethodId} {args : Array Value} {below : List Frame} {meth : Method} {c : Code} {H : Heap} {locs : List Loc} {cells slots : Nat} {Q : State → Prop} {cc : ByteArray} {nL pc : Nat} {ret : Option FieldType} {ls : Array Slot} {rest : List Value} {D : va_G} {cyI : ClassId} {ad : Nat → Nat} {I : Nat → Int32} {A : Nat → Nat → Int32}
theorem iv_X6_248 (E : EX p s m args meth c cc nL RX6 ret) (K0 : KC D cyI ad s s.heap) (P : va_P D classes (cw cyI ad I A) H) (S : va_S (InN 44 ad) s.heap H locs) {a0 : Int32} {v : Int32} (hv : B_X2_changed I A a0 = some v) (hR : RmOk R cells slots 2 6) (hls : ls.size = nL) (hro : (rest.map fun v => v.category).sum ≤ 8) (hdg : decode cc pc = .ok (.invokevirtual 248, 3)) (kk : W p l e R s m args below meth c H locs cells slots Q (F0 m (pc + 3) ls (.int v :: rest))) : W p l e R s m args below meth c H locs cells slots Q (F0 m pc ls (.ref (ad 2) :: .int a0 :: .ref (ad 5) :: rest)) :=
  cv_ro E (c_X2_changed l P a0 hv) (gV kML_X6_248 kIM_X2_changed kSE_X2_changed kIN_X2 kCO_X2_changed) rfl ds_X2_changed rfl KC_blind (fun U _ hW => (K0.at S).warm hW) (va_recv K0.k P (show classes[2]? = some (RX2, TX2, 3) from rfl) cw_g5) hR hls rfl hro hdg kk
end
section
variable {p : Program} {l : Launch} {e : Env} {s : State} {m : MethodId} {args : Array Value} {below : List Frame} {meth : Method} {c : Code} {D : va_G} {cyI : ClassId} {ad : Nat → Nat} {I : Nat → Int32} {A : Nat → Nat → Int32}
def B_X6_ghosts (I : Nat → Int32) (A : Nat → Nat → Int32) (x1 : Int32) : Option (OutT) := if (B_X2_has I A x1) = 0 then some (.inr (1, I, A)) else ((B_X2_changed I A x1).bind fun r_2 => some (.inl (r_2, I, A)))
set_option maxHeartbeats 4000000 in
set_option maxRecDepth 100000 in
theorem w_X6_ghosts (E : EX p s m args meth c cX6_ghosts 2 RX6 (some .int)) (K0 : KC D cyI ad s s.heap) (N : AdN 44 ad) (hfl : l.stackTraces = false) (X0 : ∀ x ∈ c.exceptionTable.toList, False) {H : Heap} {locs : List Loc} (P : va_P D classes (cw cyI ad I A) H) (S : va_S (InN 44 ad) s.heap H locs)  {x1 : Int32} {out : OutT} (h : B_X6_ghosts I A x1 = some out) {ls : Array Slot} (hl : lv_has ls 2 [(0, .ref (ad 0)), (1, .int x1)]) : W p l e (rmX 7) s m args below meth c H locs 0 0 (vx_MQ below (QT D cyI ad false out) (XT D cyI ad out) args s 1 6 (InN 44 ad)) (F0 m 0 ls []) := by
  unfold B_X6_ghosts at h
  refine lv_aload_n E.hx E.hb dX6_ghosts_0 rfl (lv_at hl 0 rfl) ?_
  refine gf_X6_44 E K0 P dX6_ghosts_1 ?_
  refine lv_iload_n E.hx E.hb dX6_ghosts_4 rfl (lv_at hl 1 rfl) ?_
  refine iv_X6_240 E K0 P S (by decide) hl.1 (Nat.le_of_ble_eq_true rfl) dX6_ghosts_5 ?_
  refine lv_if_ne (tgt := 21) E.hx E.hb dX6_ghosts_8 (by decide) (fun c_1 => ?_) (fun c_1 => ?_)
  · rw [if_neg c_1] at h
    refine lv_aload_n E.hx E.hb dX6_ghosts_21 rfl (lv_at hl 0 rfl) ?_
    refine gf_X6_44 E K0 P dX6_ghosts_22 ?_
    refine lv_iload_n E.hx E.hb dX6_ghosts_25 rfl (lv_at hl 1 rfl) ?_
    refine lv_aload_n E.hx E.hb dX6_ghosts_26 rfl (lv_at hl 0 rfl) ?_
    refine gf_X6_21 E K0 P dX6_ghosts_27 ?_
    obtain ⟨r_2, e_3, h⟩ := obind h
    refine iv_X6_248 E K0 P S e_3 (by decide) hl.1 (Nat.le_of_ble_eq_true rfl) dX6_ghosts_30 ?_
    cases h
    refine W.widen (k := 1) (n := 6) (by omega) (by omega) ?_
    exact vx_ret (W.iret E.hx E.hb E.hr (fun t ht _ => ⟨_, _, _, rfl, rfl, by rw [ht]; exact P, S.F ht⟩) S.2.2 dX6_ghosts_33 E.hk)
  · rw [if_pos c_1] at h
    cases h
    exact thr_1 E hfl X0 K0 P S (List.mem_of_getElem? (i := 22) rfl) hl.1 rfl dX6_ghosts_11 dX6_ghosts_14 dX6_ghosts_15 dX6_ghosts_17 dX6_ghosts_20 rfl
theorem c_X6_ghosts (l : Launch) (hfl : l.stackTraces = false) {H : Heap} {D : va_G} {cyI : ClassId} {ad : Nat → Nat} {I : Nat → Int32} {A : Nat → Nat → Int32} (N : AdN 44 ad) (P : va_P D classes (cw cyI ad I A) H) (x1 : Int32) {out : OutT} (h : B_X6_ghosts I A x1 = some out) : vx_Met l yX6_ghosts (.code yX6_ghosts cX6_ghosts 2 (some .int) :: TA) (rmX 7) (PX [.ref (ad 0), .int x1] H (KC D cyI ad)) (QT D cyI ad false out) (XT D cyI ad out) 1 6 (InN 44 ad) := by
  refine MofX (own := RX6) (by decide +kernel) rfl rfl ?_
  intro p e s m args below meth c ls E X0 hH K0 hl
  subst hH
  exact w_X6_ghosts E K0 N hfl X0 P va_S.rf h hl
theorem ds_X6_ghosts : Dsc yX6_ghosts 1 := ⟨by decide +kernel, by decide +kernel, by decide +kernel⟩
end
section
variable {p : Program} {l : Launch} {e : Env} {R : Room} {s : State} {m : MethodId} {args : Array Value} {below : List Frame} {meth : Method} {c : Code} {H : Heap} {locs : List Loc} {cells slots : Nat} {Q : State → Prop} {cc : ByteArray} {nL pc : Nat} {ret : Option FieldType} {ls : Array Slot} {rest : List Value} {D : va_G} {cyI : ClassId} {ad : Nat → Nat} {I : Nat → Int32} {A : Nat → Nat → Int32}
theorem iv_X6_251 (E : EX p s m args meth c cc nL RX6 ret) (K0 : KC D cyI ad s s.heap) (P : va_P D classes (cw cyI ad I A) H) (S : va_S (InN 44 ad) s.heap H locs) {a0 a1 a2 : Int32} {v : Int32} (hv : B_X2_fitting I A a0 a1 a2 = some v) (hR : RmOk R cells slots 2 6) (hls : ls.size = nL) (hro : (rest.map fun v => v.category).sum ≤ 8) (hdg : decode cc pc = .ok (.invokevirtual 251, 3)) (kk : W p l e R s m args below meth c H locs cells slots Q (F0 m (pc + 3) ls (.int v :: rest))) : W p l e R s m args below meth c H locs cells slots Q (F0 m pc ls (.int a2 :: .int a1 :: .int a0 :: .ref (ad 5) :: rest)) :=
  cv_ro E (c_X2_fitting l P a0 a1 a2 hv) (gV kML_X6_251 kIM_X2_fitting kSE_X2_fitting kIN_X2 kCO_X2_fitting) rfl ds_X2_fitting rfl KC_blind (fun U _ hW => (K0.at S).warm hW) (va_recv K0.k P (show classes[2]? = some (RX2, TX2, 3) from rfl) cw_g5) hR hls rfl hro hdg kk
end
section
variable {p : Program} {l : Launch} {e : Env} {s : State} {m : MethodId} {args : Array Value} {below : List Frame} {meth : Method} {c : Code} {D : va_G} {cyI : ClassId} {ad : Nat → Nat} {I : Nat → Int32} {A : Nat → Nat → Int32}
def B_X6_guesses (I : Nat → Int32) (A : Nat → Nat → Int32) (x1 x2 x3 : Int32) : Option (OutT) := if (B_X2_has I A x1) = 0 then some (.inr (1, I, A)) else (if (B_X1_has I A x2 x3) = 0 then some (.inr (1, I, A)) else ((B_X2_fitting I A x1 x2 x3).bind fun r_3 => some (.inl (r_3, I, A))))
set_option maxHeartbeats 4000000 in
set_option maxRecDepth 100000 in
theorem w_X6_guesses (E : EX p s m args meth c cX6_guesses 4 RX6 (some .int)) (K0 : KC D cyI ad s s.heap) (N : AdN 44 ad) (hfl : l.stackTraces = false) (X0 : ∀ x ∈ c.exceptionTable.toList, False) {H : Heap} {locs : List Loc} (P : va_P D classes (cw cyI ad I A) H) (S : va_S (InN 44 ad) s.heap H locs)  {x1 x2 x3 : Int32} {out : OutT} (h : B_X6_guesses I A x1 x2 x3 = some out) {ls : Array Slot} (hl : lv_has ls 4 [(0, .ref (ad 0)), (1, .int x1), (2, .int x2), (3, .int x3)]) : W p l e (rmX 7) s m args below meth c H locs 0 0 (vx_MQ below (QT D cyI ad false out) (XT D cyI ad out) args s 1 6 (InN 44 ad)) (F0 m 0 ls []) := by
  unfold B_X6_guesses at h
  refine lv_aload_n E.hx E.hb dX6_guesses_0 rfl (lv_at hl 0 rfl) ?_
  refine gf_X6_44 E K0 P dX6_guesses_1 ?_
  refine lv_iload_n E.hx E.hb dX6_guesses_4 rfl (lv_at hl 1 rfl) ?_
  refine iv_X6_240 E K0 P S (by decide) hl.1 (Nat.le_of_ble_eq_true rfl) dX6_guesses_5 ?_
  refine lv_if_eq (tgt := 23) E.hx E.hb dX6_guesses_8 (by decide) (fun c_1 => ?_) (fun c_1 => ?_)
  · rw [if_pos c_1] at h
    cases h
    exact thr_1 E hfl X0 K0 P S (List.mem_of_getElem? (i := 21) rfl) hl.1 rfl dX6_guesses_23 dX6_guesses_26 dX6_guesses_27 dX6_guesses_29 dX6_guesses_32 rfl
  · rw [if_neg c_1] at h
    refine lv_aload_n E.hx E.hb dX6_guesses_11 rfl (lv_at hl 0 rfl) ?_
    refine gf_X6_21 E K0 P dX6_guesses_12 ?_
    refine lv_iload_n E.hx E.hb dX6_guesses_15 rfl (lv_at hl 2 rfl) ?_
    refine lv_iload_n E.hx E.hb dX6_guesses_16 rfl (lv_at hl 3 rfl) ?_
    refine iv_X6_77 E K0 P S (by decide) hl.1 (Nat.le_of_ble_eq_true rfl) dX6_guesses_17 ?_
    refine lv_if_ne (tgt := 33) E.hx E.hb dX6_guesses_20 (by decide) (fun c_2 => ?_) (fun c_2 => ?_)
    · rw [if_neg c_2] at h
      refine lv_aload_n E.hx E.hb dX6_guesses_33 rfl (lv_at hl 0 rfl) ?_
      refine gf_X6_44 E K0 P dX6_guesses_34 ?_
      refine lv_iload_n E.hx E.hb dX6_guesses_37 rfl (lv_at hl 1 rfl) ?_
      refine lv_iload_n E.hx E.hb dX6_guesses_38 rfl (lv_at hl 2 rfl) ?_
      refine lv_iload_n E.hx E.hb dX6_guesses_39 rfl (lv_at hl 3 rfl) ?_
      obtain ⟨r_3, e_4, h⟩ := obind h
      refine iv_X6_251 E K0 P S e_4 (by decide) hl.1 (Nat.le_of_ble_eq_true rfl) dX6_guesses_40 ?_
      cases h
      refine W.widen (k := 1) (n := 6) (by omega) (by omega) ?_
      exact vx_ret (W.iret E.hx E.hb E.hr (fun t ht _ => ⟨_, _, _, rfl, rfl, by rw [ht]; exact P, S.F ht⟩) S.2.2 dX6_guesses_43 E.hk)
    · rw [if_pos c_2] at h
      cases h
      exact thr_1 E hfl X0 K0 P S (List.mem_of_getElem? (i := 21) rfl) hl.1 rfl dX6_guesses_23 dX6_guesses_26 dX6_guesses_27 dX6_guesses_29 dX6_guesses_32 rfl
theorem c_X6_guesses (l : Launch) (hfl : l.stackTraces = false) {H : Heap} {D : va_G} {cyI : ClassId} {ad : Nat → Nat} {I : Nat → Int32} {A : Nat → Nat → Int32} (N : AdN 44 ad) (P : va_P D classes (cw cyI ad I A) H) (x1 x2 x3 : Int32) {out : OutT} (h : B_X6_guesses I A x1 x2 x3 = some out) : vx_Met l yX6_guesses (.code yX6_guesses cX6_guesses 4 (some .int) :: TA) (rmX 7) (PX [.ref (ad 0), .int x1, .int x2, .int x3] H (KC D cyI ad)) (QT D cyI ad false out) (XT D cyI ad out) 1 6 (InN 44 ad) := by
  refine MofX (own := RX6) (by decide +kernel) rfl rfl ?_
  intro p e s m args below meth c ls E X0 hH K0 hl
  subst hH
  exact w_X6_guesses E K0 N hfl X0 P va_S.rf h hl
theorem ds_X6_guesses : Dsc yX6_guesses 3 := ⟨by decide +kernel, by decide +kernel, by decide +kernel⟩
end
end WALK

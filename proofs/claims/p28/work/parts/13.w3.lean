section WALK
section
variable {p : Program} {l : Launch} {e : Env} {R : Room} {s : State} {m : MethodId} {args : Array Value} {below : List Frame} {meth : Method} {c : Code} {H : Heap} {locs : List Loc} {cells slots : Nat} {Q : State → Prop} {cc : ByteArray} {nL pc : Nat} {ret : Option FieldType} {ls : Array Slot} {rest : List Value} {D : va_G} {cyI : ClassId} {ad : Nat → Nat} {I : Nat → Int32} {A : Nat → Nat → Int32}
theorem iv_X6_254 (E : EX p s m args meth c cc nL RX6 ret) (N : AdN 44 ad) (K0 : KC D cyI ad s s.heap) (P : va_P D classes (cw cyI ad I A) H) (S : va_S (InN 44 ad) s.heap H locs) {a0 a1 : Int32} {v : (Nat → Int32) × (Nat → Nat → Int32)} (hv : B_X1_begin I A a0 a1 = some v) (hR : RmOk R cells slots 1 3) (hls : ls.size = nL) (hro : (rest.map fun v => v.category).sum ≤ 8) (hdg : decode cc pc = .ok (.invokevirtual 254, 3)) (kk : ∀ (H1 : Heap) (locs1 : List Loc), va_P D classes (cw cyI ad v.1 v.2) H1 → va_S (InN 44 ad) s.heap H1 locs1 → W p l e R s m args below meth c H1 locs1 cells slots Q (F0 m (pc + 3) ls (rest))) : W p l e R s m args below meth c H locs cells slots Q (F0 m pc ls (.int a1 :: .int a0 :: .ref (ad 2) :: rest)) :=
  cv_rw E (c_X1_begin l N P a0 a1 hv) (gV kML_X6_254 kIM_X1_begin kSE_X1_begin kIN_X1 kCO_X1_begin) rfl ds_X1_begin rfl KC_blind (fun U _ hW => (K0.at S).warm hW) S (va_recv K0.k P (show classes[1]? = some (RX1, TX1, 11) from rfl) cw_g2) hR hls rfl hro hdg kk
end
section
variable {p : Program} {l : Launch} {e : Env} {s : State} {m : MethodId} {args : Array Value} {below : List Frame} {meth : Method} {c : Code} {D : va_G} {cyI : ClassId} {ad : Nat → Nat} {I : Nat → Int32} {A : Nat → Nat → Int32}
def B_X6_beginAnew (I : Nat → Int32) (A : Nat → Nat → Int32) (x1 x2 : Int32) : Option ((Nat → Int32) × (Nat → Nat → Int32)) := (B_X1_begin I A x1 x2).bind fun q_1 => some ((va_up ((va_up ((va_up ((va_up ((va_up ((va_up q_1.1 4 0)) 10 0)) 11 0)) 1 0)) 2 0)) 3 0), q_1.2)
set_option maxHeartbeats 4000000 in
set_option maxRecDepth 100000 in
theorem w_X6_beginAnew (E : EX p s m args meth c cX6_beginAnew 3 RX6 none) (K0 : KC D cyI ad s s.heap) (N : AdN 44 ad) {H : Heap} {locs : List Loc} (P : va_P D classes (cw cyI ad I A) H) (S : va_S (InN 44 ad) s.heap H locs)  {x1 x2 : Int32} {out : (Nat → Int32) × (Nat → Nat → Int32)} (h : B_X6_beginAnew I A x1 x2 = some out) {ls : Array Slot} (hl : lv_has ls 3 [(0, .ref (ad 0)), (1, .int x1), (2, .int x2)]) : W p l e (rmL 2) s m args below meth c H locs 0 0 (MQ below (Qrw (InN 44 ad) (none) (fun H1 => va_P D classes (cw cyI ad out.1 out.2) H1)) args s 0 0 (InN 44 ad)) (F0 m 0 ls []) := by
  unfold B_X6_beginAnew at h
  refine lv_aload_n E.hx E.hb dX6_beginAnew_0 rfl (lv_at hl 0 rfl) ?_
  refine gf_X6_21 E K0 P dX6_beginAnew_1 ?_
  refine lv_iload_n E.hx E.hb dX6_beginAnew_4 rfl (lv_at hl 1 rfl) ?_
  refine lv_iload_n E.hx E.hb dX6_beginAnew_5 rfl (lv_at hl 2 rfl) ?_
  obtain ⟨q_1, e_2, h⟩ := obind h
  refine iv_X6_254 E N K0 P S e_2 (by decide) hl.1 (Nat.le_of_ble_eq_true rfl) dX6_beginAnew_6 (fun H locs P S => ?_)
  refine lv_aload_n E.hx E.hb dX6_beginAnew_9 rfl (lv_at hl 0 rfl) ?_
  refine gf_X6_12 E K0 P dX6_beginAnew_10 ?_
  refine lv_iconst (v := 0) E.hx E.hb dX6_beginAnew_13 (by decide) ?_
  refine pf_X6_114 E N K0 P S dX6_beginAnew_14 (fun H locs P S => ?_)
  refine lv_aload_n E.hx E.hb dX6_beginAnew_17 rfl (lv_at hl 0 rfl) ?_
  refine gf_X6_37 E K0 P dX6_beginAnew_18 ?_
  refine lv_iconst (v := 0) E.hx E.hb dX6_beginAnew_21 (by decide) ?_
  refine pf_X6_145 E N K0 P S dX6_beginAnew_22 (fun H locs P S => ?_)
  refine lv_aload_n E.hx E.hb dX6_beginAnew_25 rfl (lv_at hl 0 rfl) ?_
  refine gf_X6_44 E K0 P dX6_beginAnew_26 ?_
  refine lv_iconst (v := 0) E.hx E.hb dX6_beginAnew_29 (by decide) ?_
  refine pf_X6_169 E N K0 P S dX6_beginAnew_30 (fun H locs P S => ?_)
  refine lv_aload_n E.hx E.hb dX6_beginAnew_33 rfl (lv_at hl 0 rfl) ?_
  refine lv_iconst (v := 0) E.hx E.hb dX6_beginAnew_34 (by decide) ?_
  refine pf_X6_140 E N K0 P S dX6_beginAnew_35 (fun H locs P S => ?_)
  refine lv_aload_n E.hx E.hb dX6_beginAnew_38 rfl (lv_at hl 0 rfl) ?_
  refine lv_iconst (v := 0) E.hx E.hb dX6_beginAnew_39 (by decide) ?_
  refine pf_X6_196 E N K0 P S dX6_beginAnew_40 (fun H locs P S => ?_)
  refine lv_aload_n E.hx E.hb dX6_beginAnew_43 rfl (lv_at hl 0 rfl) ?_
  refine lv_iconst (v := 0) E.hx E.hb dX6_beginAnew_44 (by decide) ?_
  refine pf_X6_155 E N K0 P S dX6_beginAnew_45 (fun H locs P S => ?_)
  cases h
  exact W.vret E.hx E.hb E.hr (fun t ht _ => ⟨rfl, by rw [ht]; exact P, S.F ht⟩) S.2.2 dX6_beginAnew_48 E.hk
theorem c_X6_beginAnew (l : Launch) {H : Heap} {D : va_G} {cyI : ClassId} {ad : Nat → Nat} {I : Nat → Int32} {A : Nat → Nat → Int32} (N : AdN 44 ad) (P : va_P D classes (cw cyI ad I A) H) (x1 x2 : Int32) {out : (Nat → Int32) × (Nat → Nat → Int32)} (h : B_X6_beginAnew I A x1 x2 = some out) : MRW l yX6_beginAnew cX6_beginAnew 3 none 2 [.ref (ad 0), .int x1, .int x2] H (KC D cyI ad) (InN 44 ad) none (fun H1 => va_P D classes (cw cyI ad out.1 out.2) H1) := by
  refine Mof (own := RX6) (by decide +kernel) rfl rfl ?_
  intro p e s m args below meth c ls E hH K0 hl
  subst hH
  exact w_X6_beginAnew E K0 N P va_S.rf h hl
theorem ds_X6_beginAnew : Dsc yX6_beginAnew 2 := ⟨by decide +kernel, by decide +kernel, by decide +kernel⟩
end
section
variable {p : Program} {l : Launch} {e : Env} {R : Room} {s : State} {m : MethodId} {args : Array Value} {below : List Frame} {meth : Method} {c : Code} {H : Heap} {locs : List Loc} {cells slots : Nat} {Q : State → Prop} {cc : ByteArray} {nL pc : Nat} {ret : Option FieldType} {ls : Array Slot} {rest : List Value} {D : va_G} {cyI : ClassId} {ad : Nat → Nat} {I : Nat → Int32} {A : Nat → Nat → Int32}
theorem iv_X6_52 (E : EX p s m args meth c cc nL RX6 ret) (N : AdN 44 ad) (K0 : KC D cyI ad s s.heap) (P : va_P D classes (cw cyI ad I A) H) (S : va_S (InN 44 ad) s.heap H locs) {a0 a1 : Int32} {v : (Nat → Int32) × (Nat → Nat → Int32)} (hv : B_X6_beginAnew I A a0 a1 = some v) (hR : RmOk R cells slots 2 3) (hls : ls.size = nL) (hro : (rest.map fun v => v.category).sum ≤ 8) (hdg : decode cc pc = .ok (.invokevirtual 52, 3)) (kk : ∀ (H1 : Heap) (locs1 : List Loc), va_P D classes (cw cyI ad v.1 v.2) H1 → va_S (InN 44 ad) s.heap H1 locs1 → W p l e R s m args below meth c H1 locs1 cells slots Q (F0 m (pc + 3) ls (rest))) : W p l e R s m args below meth c H locs cells slots Q (F0 m pc ls (.int a1 :: .int a0 :: .ref (ad 0) :: rest)) :=
  cv_rw E (c_X6_beginAnew l N P a0 a1 hv) (gV kML_X6_52 kIM_X6_beginAnew kSE_X6_beginAnew kIN_X6 kCO_X6_beginAnew) rfl ds_X6_beginAnew rfl KC_blind (fun U _ hW => (K0.at S).warm hW) S (va_recv K0.k P (show classes[6]? = some (RX6, TX6, 9) from rfl) cw_g0) hR hls rfl hro hdg kk
end
section
variable {p : Program} {l : Launch} {e : Env} {s : State} {m : MethodId} {args : Array Value} {below : List Frame} {meth : Method} {c : Code} {D : va_G} {cyI : ClassId} {ad : Nat → Nat} {I : Nat → Int32} {A : Nat → Nat → Int32}
def B_X6_grid (I : Nat → Int32) (A : Nat → Nat → Int32) (x1 x2 : Int32) : Option ((Nat → Int32) × (Nat → Nat → Int32)) := if (B_X6_isIn x1 2 12) = 0 then none else (if (B_X6_isIn x2 2 12) = 0 then none else ((B_X6_beginAnew I A x1 x2).bind fun q_3 => some (q_3.1, q_3.2)))
set_option maxHeartbeats 4000000 in
set_option maxRecDepth 100000 in
theorem w_X6_grid (E : EX p s m args meth c cX6_grid 3 RX6 none) (K0 : KC D cyI ad s s.heap) (N : AdN 44 ad) {H : Heap} {locs : List Loc} (P : va_P D classes (cw cyI ad I A) H) (S : va_S (InN 44 ad) s.heap H locs)  {x1 x2 : Int32} {out : (Nat → Int32) × (Nat → Nat → Int32)} (h : B_X6_grid I A x1 x2 = some out) {ls : Array Slot} (hl : lv_has ls 3 [(0, .ref (ad 0)), (1, .int x1), (2, .int x2)]) : W p l e (rmL 3) s m args below meth c H locs 0 0 (MQ below (Qrw (InN 44 ad) (none) (fun H1 => va_P D classes (cw cyI ad out.1 out.2) H1)) args s 0 0 (InN 44 ad)) (F0 m 0 ls []) := by
  unfold B_X6_grid at h
  refine lv_iload_n E.hx E.hb dX6_grid_0 rfl (lv_at hl 1 rfl) ?_
  refine lv_iconst (v := 2) E.hx E.hb dX6_grid_1 (by decide) ?_
  refine lv_bipush (v := 12) E.hx E.hb dX6_grid_2 (by decide) ?_
  refine iv_X6_56 E K0 S (by decide) hl.1 (Nat.le_of_ble_eq_true rfl) dX6_grid_4 ?_
  refine lv_if_eq (tgt := 20) E.hx E.hb dX6_grid_7 (by decide) (fun c_1 => ?_) (fun c_1 => ?_)
  · rw [if_pos c_1] at h
    exact nomatch h
  · rw [if_neg c_1] at h
    refine lv_iload_n E.hx E.hb dX6_grid_10 rfl (lv_at hl 2 rfl) ?_
    refine lv_iconst (v := 2) E.hx E.hb dX6_grid_11 (by decide) ?_
    refine lv_bipush (v := 12) E.hx E.hb dX6_grid_12 (by decide) ?_
    refine iv_X6_56 E K0 S (by decide) hl.1 (Nat.le_of_ble_eq_true rfl) dX6_grid_14 ?_
    refine lv_if_ne (tgt := 30) E.hx E.hb dX6_grid_17 (by decide) (fun c_2 => ?_) (fun c_2 => ?_)
    · rw [if_neg c_2] at h
      refine lv_aload_n E.hx E.hb dX6_grid_30 rfl (lv_at hl 0 rfl) ?_
      refine lv_iload_n E.hx E.hb dX6_grid_31 rfl (lv_at hl 1 rfl) ?_
      refine lv_iload_n E.hx E.hb dX6_grid_32 rfl (lv_at hl 2 rfl) ?_
      obtain ⟨q_3, e_4, h⟩ := obind h
      refine iv_X6_52 E N K0 P S e_4 (by decide) hl.1 (Nat.le_of_ble_eq_true rfl) dX6_grid_33 (fun H locs P S => ?_)
      cases h
      exact W.vret E.hx E.hb E.hr (fun t ht _ => ⟨rfl, by rw [ht]; exact P, S.F ht⟩) S.2.2 dX6_grid_36 E.hk
    · rw [if_pos c_2] at h
      exact nomatch h
theorem c_X6_grid (l : Launch) {H : Heap} {D : va_G} {cyI : ClassId} {ad : Nat → Nat} {I : Nat → Int32} {A : Nat → Nat → Int32} (N : AdN 44 ad) (P : va_P D classes (cw cyI ad I A) H) (x1 x2 : Int32) {out : (Nat → Int32) × (Nat → Nat → Int32)} (h : B_X6_grid I A x1 x2 = some out) : MRW l yX6_grid cX6_grid 3 none 3 [.ref (ad 0), .int x1, .int x2] H (KC D cyI ad) (InN 44 ad) none (fun H1 => va_P D classes (cw cyI ad out.1 out.2) H1) := by
  refine Mof (own := RX6) (by decide +kernel) rfl rfl ?_
  intro p e s m args below meth c ls E hH K0 hl
  subst hH
  exact w_X6_grid E K0 N P va_S.rf h hl
theorem ds_X6_grid : Dsc yX6_grid 2 := ⟨by decide +kernel, by decide +kernel, by decide +kernel⟩
end
section
variable {p : Program} {l : Launch} {e : Env} {s : State} {m : MethodId} {args : Array Value} {below : List Frame} {meth : Method} {c : Code} {D : va_G} {cyI : ClassId} {ad : Nat → Nat} {I : Nat → Int32} {A : Nat → Nat → Int32}
def B_X6_worked (I : Nat → Int32) (A : Nat → Nat → Int32) (x1 : Int32) : Option (Int32 × (Nat → Int32) × (Nat → Nat → Int32)) := some (x1, (va_up I 2 (((I 2) + x1))), A)
set_option maxHeartbeats 4000000 in
set_option maxRecDepth 100000 in
theorem w_X6_worked (E : EX p s m args meth c cX6_worked 2 RX6 (some .int)) (K0 : KC D cyI ad s s.heap) (N : AdN 44 ad) {H : Heap} {locs : List Loc} (P : va_P D classes (cw cyI ad I A) H) (S : va_S (InN 44 ad) s.heap H locs)  {x1 : Int32} {out : Int32 × (Nat → Int32) × (Nat → Nat → Int32)} (h : B_X6_worked I A x1 = some out) {ls : Array Slot} (hl : lv_has ls 2 [(0, .ref (ad 0)), (1, .int x1)]) : W p l e (rmL 0) s m args below meth c H locs 0 0 (MQ below (Qrw (InN 44 ad) (some (.int out.1)) (fun H1 => va_P D classes (cw cyI ad out.2.1 out.2.2) H1)) args s 0 0 (InN 44 ad)) (F0 m 0 ls []) := by
  unfold B_X6_worked at h
  refine lv_aload_n E.hx E.hb dX6_worked_0 rfl (lv_at hl 0 rfl) ?_
  refine lv_dup E.hx E.hb dX6_worked_1 rfl ?_
  refine gf_X6_196 E K0 P dX6_worked_2 ?_
  refine lv_iload_n E.hx E.hb dX6_worked_5 rfl (lv_at hl 1 rfl) ?_
  refine lv_iadd E.hx E.hb dX6_worked_6 ?_
  refine pf_X6_196 E N K0 P S dX6_worked_7 (fun H locs P S => ?_)
  refine lv_iload_n E.hx E.hb dX6_worked_10 rfl (lv_at hl 1 rfl) ?_
  cases h
  exact W.iret E.hx E.hb E.hr (fun t ht _ => ⟨rfl, by rw [ht]; exact P, S.F ht⟩) S.2.2 dX6_worked_11 E.hk
theorem c_X6_worked (l : Launch) {H : Heap} {D : va_G} {cyI : ClassId} {ad : Nat → Nat} {I : Nat → Int32} {A : Nat → Nat → Int32} (N : AdN 44 ad) (P : va_P D classes (cw cyI ad I A) H) (x1 : Int32) {out : Int32 × (Nat → Int32) × (Nat → Nat → Int32)} (h : B_X6_worked I A x1 = some out) : MRW l yX6_worked cX6_worked 2 (some .int) 0 [.ref (ad 0), .int x1] H (KC D cyI ad) (InN 44 ad) (some (.int out.1)) (fun H1 => va_P D classes (cw cyI ad out.2.1 out.2.2) H1) := by
  refine Mof (own := RX6) (by decide +kernel) rfl rfl ?_
  intro p e s m args below meth c ls E hH K0 hl
  subst hH
  exact w_X6_worked E K0 N P va_S.rf h hl
theorem ds_X6_worked : Dsc yX6_worked 1 := ⟨by decide +kernel, by decide +kernel, by decide +kernel⟩
end
section
variable {p : Program} {l : Launch} {e : Env} {R : Room} {s : State} {m : MethodId} {args : Array Value} {below : List Frame} {meth : Method} {c : Code} {H : Heap} {locs : List Loc} {cells slots : Nat} {Q : State → Prop} {cc : ByteArray} {nL pc : Nat} {ret : Option FieldType} {ls : Array Slot} {rest : List Value} {D : va_G} {cyI : ClassId} {ad : Nat → Nat} {I : Nat → Int32} {A : Nat → Nat → Int32}
theorem iv_X6_77 (E : EX p s m args meth c cc nL RX6 ret) (K0 : KC D cyI ad s s.heap) (P : va_P D classes (cw cyI ad I A) H) (S : va_S (InN 44 ad) s.heap H locs) {a0 a1 : Int32} (hR : RmOk R cells slots 0 3) (hls : ls.size = nL) (hro : (rest.map fun v => v.category).sum ≤ 8) (hdg : decode cc pc = .ok (.invokevirtual 77, 3)) (kk : W p l e R s m args below meth c H locs cells slots Q (F0 m (pc + 3) ls (.int (B_X1_has I A a0 a1) :: rest))) : W p l e R s m args below meth c H locs cells slots Q (F0 m pc ls (.int a1 :: .int a0 :: .ref (ad 2) :: rest)) :=
  cv_ro E (c_X1_has l P a0 a1 ) (gV kML_X6_77 kIM_X1_has kSE_X1_has kIN_X1 kCO_X1_has) rfl ds_X1_has rfl KC_blind (fun U _ hW => (K0.at S).warm hW) (va_recv K0.k P (show classes[1]? = some (RX1, TX1, 11) from rfl) cw_g2) hR hls rfl hro hdg kk
end
section
variable {p : Program} {l : Launch} {e : Env} {R : Room} {s : State} {m : MethodId} {args : Array Value} {below : List Frame} {meth : Method} {c : Code} {H : Heap} {locs : List Loc} {cells slots : Nat} {Q : State → Prop} {cc : ByteArray} {nL pc : Nat} {ret : Option FieldType} {ls : Array Slot} {rest : List Value} {D : va_G} {cyI : ClassId} {ad : Nat → Nat} {I : Nat → Int32} {A : Nat → Nat → Int32}
theorem iv_X6_86 (E : EX p s m args meth c cc nL RX6 ret) (K0 : KC D cyI ad s s.heap) (S : va_S (InN 44 ad) s.heap H locs) {a0 : Int32} (hR : RmOk R cells slots 1 1) (hls : ls.size = nL) (hro : (rest.map fun v => v.category).sum ≤ 8) (hdg : decode cc pc = .ok (.invokestatic 86, 3)) (kk : W p l e R s m args below meth c H locs cells slots Q (F0 m (pc + 3) ls (.int (B_X6_isDirection a0) :: rest))) : W p l e R s m args below meth c H locs cells slots Q (F0 m pc ls (.int a0 :: rest)) :=
  cs_ro E (c_X6_isDirection l (H := H) (D := D) (cyI := cyI) (ad := ad) a0 ) (gS kML_X6_86 kST_X6_isDirection kIN_X6 kCO_X6_isDirection) rfl ds_X6_isDirection rfl KC_blind (fun U _ hW => (K0.at S).warm hW) hR hls rfl hro hdg kk
end
section
variable {p : Program} {l : Launch} {e : Env} {R : Room} {s : State} {m : MethodId} {args : Array Value} {below : List Frame} {meth : Method} {c : Code} {H : Heap} {locs : List Loc} {cells slots : Nat} {Q : State → Prop} {cc : ByteArray} {nL pc : Nat} {ret : Option FieldType} {ls : Array Slot} {rest : List Value} {D : va_G} {cyI : ClassId} {ad : Nat → Nat} {I : Nat → Int32} {A : Nat → Nat → Int32}
theorem iv_X6_92 (E : EX p s m args meth c cc nL RX6 ret) (K0 : KC D cyI ad s s.heap) (P : va_P D classes (cw cyI ad I A) H) (S : va_S (InN 44 ad) s.heap H locs) {a0 a1 : Int32} (hR : RmOk R cells slots 1 3) (hls : ls.size = nL) (hro : (rest.map fun v => v.category).sum ≤ 8) (hdg : decode cc pc = .ok (.invokevirtual 92, 3)) (kk : W p l e R s m args below meth c H locs cells slots Q (F0 m (pc + 3) ls (.int (B_X1_kindAt I A a0 a1) :: rest))) : W p l e R s m args below meth c H locs cells slots Q (F0 m pc ls (.int a1 :: .int a0 :: .ref (ad 2) :: rest)) :=
  cv_ro E (c_X1_kindAt l P a0 a1 ) (gV kML_X6_92 kIM_X1_kindAt kSE_X1_kindAt kIN_X1 kCO_X1_kindAt) rfl ds_X1_kindAt rfl KC_blind (fun U _ hW => (K0.at S).warm hW) (va_recv K0.k P (show classes[1]? = some (RX1, TX1, 11) from rfl) cw_g2) hR hls rfl hro hdg kk
end
section
variable {p : Program} {l : Launch} {e : Env} {R : Room} {s : State} {m : MethodId} {args : Array Value} {below : List Frame} {meth : Method} {c : Code} {H : Heap} {locs : List Loc} {cells slots : Nat} {Q : State → Prop} {cc : ByteArray} {nL pc : Nat} {ret : Option FieldType} {ls : Array Slot} {rest : List Value} {D : va_G} {cyI : ClassId} {ad : Nat → Nat} {I : Nat → Int32} {A : Nat → Nat → Int32}
theorem iv_X6_100 (E : EX p s m args meth c cc nL RX6 ret) (N : AdN 44 ad) (K0 : KC D cyI ad s s.heap) (P : va_P D classes (cw cyI ad I A) H) (S : va_S (InN 44 ad) s.heap H locs) {a0 a1 a2 : Int32} {v : Int32 × (Nat → Int32) × (Nat → Nat → Int32)} (hv : B_X1_turnTo I A a0 a1 a2 = some v) (hR : RmOk R cells slots 5 5) (hls : ls.size = nL) (hro : (rest.map fun v => v.category).sum ≤ 8) (hdg : decode cc pc = .ok (.invokevirtual 100, 3)) (kk : ∀ (H1 : Heap) (locs1 : List Loc), va_P D classes (cw cyI ad v.2.1 v.2.2) H1 → va_S (InN 44 ad) s.heap H1 locs1 → W p l e R s m args below meth c H1 locs1 cells slots Q (F0 m (pc + 3) ls (.int v.1 :: rest))) : W p l e R s m args below meth c H locs cells slots Q (F0 m pc ls (.int a2 :: .int a1 :: .int a0 :: .ref (ad 2) :: rest)) :=
  cv_rw E (c_X1_turnTo l N P a0 a1 a2 hv) (gV kML_X6_100 kIM_X1_turnTo kSE_X1_turnTo kIN_X1 kCO_X1_turnTo) rfl ds_X1_turnTo rfl KC_blind (fun U _ hW => (K0.at S).warm hW) S (va_recv K0.k P (show classes[1]? = some (RX1, TX1, 11) from rfl) cw_g2) hR hls rfl hro hdg kk
end
section
variable {p : Program} {l : Launch} {e : Env} {R : Room} {s : State} {m : MethodId} {args : Array Value} {below : List Frame} {meth : Method} {c : Code} {H : Heap} {locs : List Loc} {cells slots : Nat} {Q : State → Prop} {cc : ByteArray} {nL pc : Nat} {ret : Option FieldType} {ls : Array Slot} {rest : List Value} {D : va_G} {cyI : ClassId} {ad : Nat → Nat} {I : Nat → Int32} {A : Nat → Nat → Int32}
theorem iv_X6_73 (E : EX p s m args meth c cc nL RX6 ret) (N : AdN 44 ad) (K0 : KC D cyI ad s s.heap) (P : va_P D classes (cw cyI ad I A) H) (S : va_S (InN 44 ad) s.heap H locs) {a0 : Int32} {v : Int32 × (Nat → Int32) × (Nat → Nat → Int32)} (hv : B_X6_worked I A a0 = some v) (hR : RmOk R cells slots 0 2) (hls : ls.size = nL) (hro : (rest.map fun v => v.category).sum ≤ 8) (hdg : decode cc pc = .ok (.invokevirtual 73, 3)) (kk : ∀ (H1 : Heap) (locs1 : List Loc), va_P D classes (cw cyI ad v.2.1 v.2.2) H1 → va_S (InN 44 ad) s.heap H1 locs1 → W p l e R s m args below meth c H1 locs1 cells slots Q (F0 m (pc + 3) ls (.int v.1 :: rest))) : W p l e R s m args below meth c H locs cells slots Q (F0 m pc ls (.int a0 :: .ref (ad 0) :: rest)) :=
  cv_rw E (c_X6_worked l N P a0 hv) (gV kML_X6_73 kIM_X6_worked kSE_X6_worked kIN_X6 kCO_X6_worked) rfl ds_X6_worked rfl KC_blind (fun U _ hW => (K0.at S).warm hW) S (va_recv K0.k P (show classes[6]? = some (RX6, TX6, 9) from rfl) cw_g0) hR hls rfl hro hdg kk
end
section
variable {p : Program} {l : Launch} {e : Env} {s : State} {m : MethodId} {args : Array Value} {below : List Frame} {meth : Method} {c : Code} {D : va_G} {cyI : ClassId} {ad : Nat → Nat} {I : Nat → Int32} {A : Nat → Nat → Int32}
def B_X6_turn (I : Nat → Int32) (A : Nat → Nat → Int32) (x1 x2 x3 : Int32) : Option (Int32 × (Nat → Int32) × (Nat → Nat → Int32)) := if (B_X1_has I A x1 x2) = 0 then none else (if (B_X6_isDirection x3) = 0 then none else (if (B_X1_kindAt I A x1 x2) = 1 then none else ((B_X1_turnTo I A x1 x2 x3).bind fun q_4 => (B_X6_worked q_4.2.1 q_4.2.2 q_4.1).bind fun q_6 => some (q_6.1, q_6.2.1, q_6.2.2))))
set_option maxHeartbeats 4000000 in
set_option maxRecDepth 100000 in
theorem w_X6_turn (E : EX p s m args meth c cX6_turn 4 RX6 (some .int)) (K0 : KC D cyI ad s s.heap) (N : AdN 44 ad) {H : Heap} {locs : List Loc} (P : va_P D classes (cw cyI ad I A) H) (S : va_S (InN 44 ad) s.heap H locs)  {x1 x2 x3 : Int32} {out : Int32 × (Nat → Int32) × (Nat → Nat → Int32)} (h : B_X6_turn I A x1 x2 x3 = some out) {ls : Array Slot} (hl : lv_has ls 4 [(0, .ref (ad 0)), (1, .int x1), (2, .int x2), (3, .int x3)]) : W p l e (rmL 6) s m args below meth c H locs 0 0 (MQ below (Qrw (InN 44 ad) (some (.int out.1)) (fun H1 => va_P D classes (cw cyI ad out.2.1 out.2.2) H1)) args s 0 0 (InN 44 ad)) (F0 m 0 ls []) := by
  unfold B_X6_turn at h
  refine lv_aload_n E.hx E.hb dX6_turn_0 rfl (lv_at hl 0 rfl) ?_
  refine gf_X6_21 E K0 P dX6_turn_1 ?_
  refine lv_iload_n E.hx E.hb dX6_turn_4 rfl (lv_at hl 1 rfl) ?_
  refine lv_iload_n E.hx E.hb dX6_turn_5 rfl (lv_at hl 2 rfl) ?_
  refine iv_X6_77 E K0 P S (by decide) hl.1 (Nat.le_of_ble_eq_true rfl) dX6_turn_6 ?_
  refine lv_if_ne (tgt := 22) E.hx E.hb dX6_turn_9 (by decide) (fun c_1 => ?_) (fun c_1 => ?_)
  · rw [if_neg c_1] at h
    refine lv_iload_n E.hx E.hb dX6_turn_22 rfl (lv_at hl 3 rfl) ?_
    refine iv_X6_86 E K0 S (by decide) hl.1 (Nat.le_of_ble_eq_true rfl) dX6_turn_23 ?_
    refine lv_if_ne (tgt := 39) E.hx E.hb dX6_turn_26 (by decide) (fun c_2 => ?_) (fun c_2 => ?_)
    · rw [if_neg c_2] at h
      refine lv_aload_n E.hx E.hb dX6_turn_39 rfl (lv_at hl 0 rfl) ?_
      refine gf_X6_21 E K0 P dX6_turn_40 ?_
      refine lv_iload_n E.hx E.hb dX6_turn_43 rfl (lv_at hl 1 rfl) ?_
      refine lv_iload_n E.hx E.hb dX6_turn_44 rfl (lv_at hl 2 rfl) ?_
      refine iv_X6_92 E K0 P S (by decide) hl.1 (Nat.le_of_ble_eq_true rfl) dX6_turn_45 ?_
      refine lv_iconst (v := 1) E.hx E.hb dX6_turn_48 (by decide) ?_
      refine lv_icmp_ne (tgt := 62) E.hx E.hb dX6_turn_49 (by decide) (fun c_3 => ?_) (fun c_3 => ?_)
      · rw [if_neg c_3] at h
        refine lv_aload_n E.hx E.hb dX6_turn_62 rfl (lv_at hl 0 rfl) ?_
        refine lv_aload_n E.hx E.hb dX6_turn_63 rfl (lv_at hl 0 rfl) ?_
        refine gf_X6_21 E K0 P dX6_turn_64 ?_
        refine lv_iload_n E.hx E.hb dX6_turn_67 rfl (lv_at hl 1 rfl) ?_
        refine lv_iload_n E.hx E.hb dX6_turn_68 rfl (lv_at hl 2 rfl) ?_
        refine lv_iload_n E.hx E.hb dX6_turn_69 rfl (lv_at hl 3 rfl) ?_
        obtain ⟨q_4, e_5, h⟩ := obind h
        refine iv_X6_100 E N K0 P S e_5 (by decide) hl.1 (Nat.le_of_ble_eq_true rfl) dX6_turn_70 (fun H locs P S => ?_)
        obtain ⟨q_6, e_7, h⟩ := obind h
        refine iv_X6_73 E N K0 P S e_7 (by decide) hl.1 (Nat.le_of_ble_eq_true rfl) dX6_turn_73 (fun H locs P S => ?_)
        cases h
        exact W.iret E.hx E.hb E.hr (fun t ht _ => ⟨rfl, by rw [ht]; exact P, S.F ht⟩) S.2.2 dX6_turn_76 E.hk
      · rw [if_pos c_3] at h
        exact nomatch h
    · rw [if_pos c_2] at h
      exact nomatch h
  · rw [if_pos c_1] at h
    exact nomatch h
theorem c_X6_turn (l : Launch) {H : Heap} {D : va_G} {cyI : ClassId} {ad : Nat → Nat} {I : Nat → Int32} {A : Nat → Nat → Int32} (N : AdN 44 ad) (P : va_P D classes (cw cyI ad I A) H) (x1 x2 x3 : Int32) {out : Int32 × (Nat → Int32) × (Nat → Nat → Int32)} (h : B_X6_turn I A x1 x2 x3 = some out) : MRW l yX6_turn cX6_turn 4 (some .int) 6 [.ref (ad 0), .int x1, .int x2, .int x3] H (KC D cyI ad) (InN 44 ad) (some (.int out.1)) (fun H1 => va_P D classes (cw cyI ad out.2.1 out.2.2) H1) := by
  refine Mof (own := RX6) (by decide +kernel) rfl rfl ?_
  intro p e s m args below meth c ls E hH K0 hl
  subst hH
  exact w_X6_turn E K0 N P va_S.rf h hl
theorem ds_X6_turn : Dsc yX6_turn 3 := ⟨by decide +kernel, by decide +kernel, by decide +kernel⟩
end
section
variable {p : Program} {l : Launch} {e : Env} {R : Room} {s : State} {m : MethodId} {args : Array Value} {below : List Frame} {meth : Method} {c : Code} {H : Heap} {locs : List Loc} {cells slots : Nat} {Q : State → Prop} {cc : ByteArray} {nL pc : Nat} {ret : Option FieldType} {ls : Array Slot} {rest : List Value} {D : va_G} {cyI : ClassId} {ad : Nat → Nat} {I : Nat → Int32} {A : Nat → Nat → Int32}
theorem iv_X6_106 (E : EX p s m args meth c cc nL RX6 ret) (N : AdN 44 ad) (K0 : KC D cyI ad s s.heap) (P : va_P D classes (cw cyI ad I A) H) (S : va_S (InN 44 ad) s.heap H locs) {a0 a1 a2 a3 a4 : Int32} {v : Int32 × (Nat → Int32) × (Nat → Nat → Int32)} (hv : B_X1_hold I A a0 a1 a2 a3 a4 = some v) (hR : RmOk R cells slots 5 8) (hls : ls.size = nL) (hro : (rest.map fun v => v.category).sum ≤ 8) (hdg : decode cc pc = .ok (.invokevirtual 106, 3)) (kk : ∀ (H1 : Heap) (locs1 : List Loc), va_P D classes (cw cyI ad v.2.1 v.2.2) H1 → va_S (InN 44 ad) s.heap H1 locs1 → W p l e R s m args below meth c H1 locs1 cells slots Q (F0 m (pc + 3) ls (.int v.1 :: rest))) : W p l e R s m args below meth c H locs cells slots Q (F0 m pc ls (.int a4 :: .int a3 :: .int a2 :: .int a1 :: .int a0 :: .ref (ad 2) :: rest)) :=
  cv_rw E (c_X1_hold l N P a0 a1 a2 a3 a4 hv) (gV kML_X6_106 kIM_X1_hold kSE_X1_hold kIN_X1 kCO_X1_hold) rfl ds_X1_hold rfl KC_blind (fun U _ hW => (K0.at S).warm hW) S (va_recv K0.k P (show classes[1]? = some (RX1, TX1, 11) from rfl) cw_g2) hR hls rfl hro hdg kk
end
section
variable {p : Program} {l : Launch} {e : Env} {s : State} {m : MethodId} {args : Array Value} {below : List Frame} {meth : Method} {c : Code} {D : va_G} {cyI : ClassId} {ad : Nat → Nat} {I : Nat → Int32} {A : Nat → Nat → Int32}
def B_X6_anchor (I : Nat → Int32) (A : Nat → Nat → Int32) (x1 x2 x3 x4 x5 : Int32) : Option (Int32 × (Nat → Int32) × (Nat → Nat → Int32)) := if (B_X1_has I A x1 x2) = 0 then none else (if (B_X6_isIn x3 0 2) = 0 then none else (if (B_X6_isDirection x4) = 0 then none else (if (B_X6_isIn x5 1 100) = 0 then none else ((B_X1_hold I A x1 x2 x3 x4 x5).bind fun q_5 => (B_X6_worked q_5.2.1 q_5.2.2 q_5.1).bind fun q_7 => some (q_7.1, q_7.2.1, q_7.2.2)))))
set_option maxHeartbeats 4000000 in
set_option maxRecDepth 100000 in
theorem w_X6_anchor (E : EX p s m args meth c cX6_anchor 6 RX6 (some .int)) (K0 : KC D cyI ad s s.heap) (N : AdN 44 ad) {H : Heap} {locs : List Loc} (P : va_P D classes (cw cyI ad I A) H) (S : va_S (InN 44 ad) s.heap H locs)  {x1 x2 x3 x4 x5 : Int32} {out : Int32 × (Nat → Int32) × (Nat → Nat → Int32)} (h : B_X6_anchor I A x1 x2 x3 x4 x5 = some out) {ls : Array Slot} (hl : lv_has ls 6 [(0, .ref (ad 0)), (1, .int x1), (2, .int x2), (3, .int x3), (4, .int x4), (5, .int x5)]) : W p l e (rmL 6) s m args below meth c H locs 0 0 (MQ below (Qrw (InN 44 ad) (some (.int out.1)) (fun H1 => va_P D classes (cw cyI ad out.2.1 out.2.2) H1)) args s 0 0 (InN 44 ad)) (F0 m 0 ls []) := by
  unfold B_X6_anchor at h
  refine lv_aload_n E.hx E.hb dX6_anchor_0 rfl (lv_at hl 0 rfl) ?_
  refine gf_X6_21 E K0 P dX6_anchor_1 ?_
  refine lv_iload_n E.hx E.hb dX6_anchor_4 rfl (lv_at hl 1 rfl) ?_
  refine lv_iload_n E.hx E.hb dX6_anchor_5 rfl (lv_at hl 2 rfl) ?_
  refine iv_X6_77 E K0 P S (by decide) hl.1 (Nat.le_of_ble_eq_true rfl) dX6_anchor_6 ?_
  refine lv_if_ne (tgt := 22) E.hx E.hb dX6_anchor_9 (by decide) (fun c_1 => ?_) (fun c_1 => ?_)
  · rw [if_neg c_1] at h
    refine lv_iload_n E.hx E.hb dX6_anchor_22 rfl (lv_at hl 3 rfl) ?_
    refine lv_iconst (v := 0) E.hx E.hb dX6_anchor_23 (by decide) ?_
    refine lv_iconst (v := 2) E.hx E.hb dX6_anchor_24 (by decide) ?_
    refine iv_X6_56 E K0 S (by decide) hl.1 (Nat.le_of_ble_eq_true rfl) dX6_anchor_25 ?_
    refine lv_if_eq (tgt := 50) E.hx E.hb dX6_anchor_28 (by decide) (fun c_2 => ?_) (fun c_2 => ?_)
    · rw [if_pos c_2] at h
      exact nomatch h
    · rw [if_neg c_2] at h
      refine lv_iload E.hx E.hb dX6_anchor_31 (lv_at hl 4 rfl) ?_
      refine iv_X6_86 E K0 S (by decide) hl.1 (Nat.le_of_ble_eq_true rfl) dX6_anchor_33 ?_
      refine lv_if_eq (tgt := 50) E.hx E.hb dX6_anchor_36 (by decide) (fun c_3 => ?_) (fun c_3 => ?_)
      · rw [if_pos c_3] at h
        exact nomatch h
      · rw [if_neg c_3] at h
        refine lv_iload E.hx E.hb dX6_anchor_39 (lv_at hl 5 rfl) ?_
        refine lv_iconst (v := 1) E.hx E.hb dX6_anchor_41 (by decide) ?_
        refine lv_bipush (v := 100) E.hx E.hb dX6_anchor_42 (by decide) ?_
        refine iv_X6_56 E K0 S (by decide) hl.1 (Nat.le_of_ble_eq_true rfl) dX6_anchor_44 ?_
        refine lv_if_ne (tgt := 60) E.hx E.hb dX6_anchor_47 (by decide) (fun c_4 => ?_) (fun c_4 => ?_)
        · rw [if_neg c_4] at h
          refine lv_aload_n E.hx E.hb dX6_anchor_60 rfl (lv_at hl 0 rfl) ?_
          refine lv_aload_n E.hx E.hb dX6_anchor_61 rfl (lv_at hl 0 rfl) ?_
          refine gf_X6_21 E K0 P dX6_anchor_62 ?_
          refine lv_iload_n E.hx E.hb dX6_anchor_65 rfl (lv_at hl 1 rfl) ?_
          refine lv_iload_n E.hx E.hb dX6_anchor_66 rfl (lv_at hl 2 rfl) ?_
          refine lv_iload_n E.hx E.hb dX6_anchor_67 rfl (lv_at hl 3 rfl) ?_
          refine lv_iload E.hx E.hb dX6_anchor_68 (lv_at hl 4 rfl) ?_
          refine lv_iload E.hx E.hb dX6_anchor_70 (lv_at hl 5 rfl) ?_
          obtain ⟨q_5, e_6, h⟩ := obind h
          refine iv_X6_106 E N K0 P S e_6 (by decide) hl.1 (Nat.le_of_ble_eq_true rfl) dX6_anchor_72 (fun H locs P S => ?_)
          obtain ⟨q_7, e_8, h⟩ := obind h
          refine iv_X6_73 E N K0 P S e_8 (by decide) hl.1 (Nat.le_of_ble_eq_true rfl) dX6_anchor_75 (fun H locs P S => ?_)
          cases h
          exact W.iret E.hx E.hb E.hr (fun t ht _ => ⟨rfl, by rw [ht]; exact P, S.F ht⟩) S.2.2 dX6_anchor_78 E.hk
        · rw [if_pos c_4] at h
          exact nomatch h
  · rw [if_pos c_1] at h
    exact nomatch h
theorem c_X6_anchor (l : Launch) {H : Heap} {D : va_G} {cyI : ClassId} {ad : Nat → Nat} {I : Nat → Int32} {A : Nat → Nat → Int32} (N : AdN 44 ad) (P : va_P D classes (cw cyI ad I A) H) (x1 x2 x3 x4 x5 : Int32) {out : Int32 × (Nat → Int32) × (Nat → Nat → Int32)} (h : B_X6_anchor I A x1 x2 x3 x4 x5 = some out) : MRW l yX6_anchor cX6_anchor 6 (some .int) 6 [.ref (ad 0), .int x1, .int x2, .int x3, .int x4, .int x5] H (KC D cyI ad) (InN 44 ad) (some (.int out.1)) (fun H1 => va_P D classes (cw cyI ad out.2.1 out.2.2) H1) := by
  refine Mof (own := RX6) (by decide +kernel) rfl rfl ?_
  intro p e s m args below meth c ls E hH K0 hl
  subst hH
  exact w_X6_anchor E K0 N P va_S.rf h hl
theorem ds_X6_anchor : Dsc yX6_anchor 5 := ⟨by decide +kernel, by decide +kernel, by decide +kernel⟩
end
section
variable {p : Program} {l : Launch} {e : Env} {R : Room} {s : State} {m : MethodId} {args : Array Value} {below : List Frame} {meth : Method} {c : Code} {H : Heap} {locs : List Loc} {cells slots : Nat} {Q : State → Prop} {cc : ByteArray} {nL pc : Nat} {ret : Option FieldType} {ls : Array Slot} {rest : List Value} {D : va_G} {cyI : ClassId} {ad : Nat → Nat} {I : Nat → Int32} {A : Nat → Nat → Int32}
theorem iv_X6_117 (E : EX p s m args meth c cc nL RX6 ret) (K0 : KC D cyI ad s s.heap) (P : va_P D classes (cw cyI ad I A) H) (S : va_S (InN 44 ad) s.heap H locs) {a0 a1 a2 a3 : Int32} {v : Int32} (hv : B_X1_hasPixelIn I A a0 a1 a2 a3 = some v) (hR : RmOk R cells slots 2 7) (hls : ls.size = nL) (hro : (rest.map fun v => v.category).sum ≤ 8) (hdg : decode cc pc = .ok (.invokevirtual 117, 3)) (kk : W p l e R s m args below meth c H locs cells slots Q (F0 m (pc + 3) ls (.int v :: rest))) : W p l e R s m args below meth c H locs cells slots Q (F0 m pc ls (.int a3 :: .int a2 :: .int a1 :: .int a0 :: .ref (ad 2) :: rest)) :=
  cv_ro E (c_X1_hasPixelIn l P a0 a1 a2 a3 hv) (gV kML_X6_117 kIM_X1_hasPixelIn kSE_X1_hasPixelIn kIN_X1 kCO_X1_hasPixelIn) rfl ds_X1_hasPixelIn rfl KC_blind (fun U _ hW => (K0.at S).warm hW) (va_recv K0.k P (show classes[1]? = some (RX1, TX1, 11) from rfl) cw_g2) hR hls rfl hro hdg kk
end
section
variable {p : Program} {l : Launch} {e : Env} {R : Room} {s : State} {m : MethodId} {args : Array Value} {below : List Frame} {meth : Method} {c : Code} {H : Heap} {locs : List Loc} {cells slots : Nat} {Q : State → Prop} {cc : ByteArray} {nL pc : Nat} {ret : Option FieldType} {ls : Array Slot} {rest : List Value} {D : va_G} {cyI : ClassId} {ad : Nat → Nat} {I : Nat → Int32} {A : Nat → Nat → Int32}
theorem iv_X6_123 (E : EX p s m args meth c cc nL RX6 ret) (N : AdN 44 ad) (K0 : KC D cyI ad s s.heap) (P : va_P D classes (cw cyI ad I A) H) (S : va_S (InN 44 ad) s.heap H locs) {a0 a1 a2 a3 : Int32} {v : Int32 × (Nat → Int32) × (Nat → Nat → Int32)} (hv : B_X3_make I A a0 a1 a2 a3 = some v) (hR : RmOk R cells slots 1 6) (hls : ls.size = nL) (hro : (rest.map fun v => v.category).sum ≤ 8) (hdg : decode cc pc = .ok (.invokevirtual 123, 3)) (kk : ∀ (H1 : Heap) (locs1 : List Loc), va_P D classes (cw cyI ad v.2.1 v.2.2) H1 → va_S (InN 44 ad) s.heap H1 locs1 → W p l e R s m args below meth c H1 locs1 cells slots Q (F0 m (pc + 3) ls (.int v.1 :: rest))) : W p l e R s m args below meth c H locs cells slots Q (F0 m pc ls (.int a3 :: .int a2 :: .int a1 :: .int a0 :: .ref (ad 1) :: rest)) :=
  cv_rw E (c_X3_make l N P a0 a1 a2 a3 hv) (gV kML_X6_123 kIM_X3_make kSE_X3_make kIN_X3 kCO_X3_make) rfl ds_X3_make rfl KC_blind (fun U _ hW => (K0.at S).warm hW) S (va_recv K0.k P (show classes[3]? = some (RX3, TX3, 9) from rfl) cw_g1) hR hls rfl hro hdg kk
end
section
variable {p : Program} {l : Launch} {e : Env} {R : Room} {s : State} {m : MethodId} {args : Array Value} {below : List Frame} {meth : Method} {c : Code} {H : Heap} {locs : List Loc} {cells slots : Nat} {Q : State → Prop} {cc : ByteArray} {nL pc : Nat} {ret : Option FieldType} {ls : Array Slot} {rest : List Value} {D : va_G} {cyI : ClassId} {ad : Nat → Nat} {I : Nat → Int32} {A : Nat → Nat → Int32}
theorem iv_X6_127 (E : EX p s m args meth c cc nL RX6 ret) (N : AdN 44 ad) (K0 : KC D cyI ad s s.heap) (P : va_P D classes (cw cyI ad I A) H) (S : va_S (InN 44 ad) s.heap H locs) {a0 a1 a2 a3 a4 : Int32} {v : (Nat → Int32) × (Nat → Nat → Int32)} (hv : B_X1_mark I A a0 a1 a2 a3 a4 = some v) (hR : RmOk R cells slots 1 8) (hls : ls.size = nL) (hro : (rest.map fun v => v.category).sum ≤ 8) (hdg : decode cc pc = .ok (.invokevirtual 127, 3)) (kk : ∀ (H1 : Heap) (locs1 : List Loc), va_P D classes (cw cyI ad v.1 v.2) H1 → va_S (InN 44 ad) s.heap H1 locs1 → W p l e R s m args below meth c H1 locs1 cells slots Q (F0 m (pc + 3) ls (rest))) : W p l e R s m args below meth c H locs cells slots Q (F0 m pc ls (.int a4 :: .int a3 :: .int a2 :: .int a1 :: .int a0 :: .ref (ad 2) :: rest)) :=
  cv_rw E (c_X1_mark l N P a0 a1 a2 a3 a4 hv) (gV kML_X6_127 kIM_X1_mark kSE_X1_mark kIN_X1 kCO_X1_mark) rfl ds_X1_mark rfl KC_blind (fun U _ hW => (K0.at S).warm hW) S (va_recv K0.k P (show classes[1]? = some (RX1, TX1, 11) from rfl) cw_g2) hR hls rfl hro hdg kk
end
section
variable {p : Program} {l : Launch} {e : Env} {s : State} {m : MethodId} {args : Array Value} {below : List Frame} {meth : Method} {c : Code} {D : va_G} {cyI : ClassId} {ad : Nat → Nat} {I : Nat → Int32} {A : Nat → Nat → Int32}
def B_X6_pixel (I : Nat → Int32) (A : Nat → Nat → Int32) (x1 x2 x3 x4 : Int32) : Option (Int32 × (Nat → Int32) × (Nat → Nat → Int32)) := if (B_X1_has I A x1 x2) = 0 then none else (if (B_X6_isIn x3 1 12) = 0 then none else (if (B_X6_isIn x4 1 12) = 0 then none else (if (B_X1_has I A (((x1 + x3) - 1)) (((x2 + x4) - 1))) = 0 then none else (if 8 ≤ (I 4) then none else ((B_X1_hasPixelIn I A x1 x2 x3 x4).bind fun r_6 => if r_6 = 0 then ((B_X3_make I A x1 x2 x3 x4).bind fun q_9 => (B_X1_mark q_9.2.1 q_9.2.2 x1 x2 x3 x4 q_9.1).bind fun q_11 => some (q_9.1, q_11.1, q_11.2)) else none)))))
set_option maxHeartbeats 4000000 in
set_option maxRecDepth 100000 in
theorem w_X6_pixel (E : EX p s m args meth c cX6_pixel 6 RX6 (some .int)) (K0 : KC D cyI ad s s.heap) (N : AdN 44 ad) {H : Heap} {locs : List Loc} (P : va_P D classes (cw cyI ad I A) H) (S : va_S (InN 44 ad) s.heap H locs)  {x1 x2 x3 x4 : Int32} {out : Int32 × (Nat → Int32) × (Nat → Nat → Int32)} (h : B_X6_pixel I A x1 x2 x3 x4 = some out) {ls : Array Slot} (hl : lv_has ls 6 [(0, .ref (ad 0)), (1, .int x1), (2, .int x2), (3, .int x3), (4, .int x4)]) : W p l e (rmL 3) s m args below meth c H locs 0 0 (MQ below (Qrw (InN 44 ad) (some (.int out.1)) (fun H1 => va_P D classes (cw cyI ad out.2.1 out.2.2) H1)) args s 0 0 (InN 44 ad)) (F0 m 0 ls []) := by
  unfold B_X6_pixel at h
  refine lv_aload_n E.hx E.hb dX6_pixel_0 rfl (lv_at hl 0 rfl) ?_
  refine gf_X6_21 E K0 P dX6_pixel_1 ?_
  refine lv_iload_n E.hx E.hb dX6_pixel_4 rfl (lv_at hl 1 rfl) ?_
  refine lv_iload_n E.hx E.hb dX6_pixel_5 rfl (lv_at hl 2 rfl) ?_
  refine iv_X6_77 E K0 P S (by decide) hl.1 (Nat.le_of_ble_eq_true rfl) dX6_pixel_6 ?_
  refine lv_if_ne (tgt := 22) E.hx E.hb dX6_pixel_9 (by decide) (fun c_1 => ?_) (fun c_1 => ?_)
  · rw [if_neg c_1] at h
    refine lv_iload_n E.hx E.hb dX6_pixel_22 rfl (lv_at hl 3 rfl) ?_
    refine lv_iconst (v := 1) E.hx E.hb dX6_pixel_23 (by decide) ?_
    refine lv_bipush (v := 12) E.hx E.hb dX6_pixel_24 (by decide) ?_
    refine iv_X6_56 E K0 S (by decide) hl.1 (Nat.le_of_ble_eq_true rfl) dX6_pixel_26 ?_
    refine lv_if_eq (tgt := 43) E.hx E.hb dX6_pixel_29 (by decide) (fun c_2 => ?_) (fun c_2 => ?_)
    · rw [if_pos c_2] at h
      exact nomatch h
    · rw [if_neg c_2] at h
      refine lv_iload E.hx E.hb dX6_pixel_32 (lv_at hl 4 rfl) ?_
      refine lv_iconst (v := 1) E.hx E.hb dX6_pixel_34 (by decide) ?_
      refine lv_bipush (v := 12) E.hx E.hb dX6_pixel_35 (by decide) ?_
      refine iv_X6_56 E K0 S (by decide) hl.1 (Nat.le_of_ble_eq_true rfl) dX6_pixel_37 ?_
      refine lv_if_ne (tgt := 53) E.hx E.hb dX6_pixel_40 (by decide) (fun c_3 => ?_) (fun c_3 => ?_)
      · rw [if_neg c_3] at h
        refine lv_aload_n E.hx E.hb dX6_pixel_53 rfl (lv_at hl 0 rfl) ?_
        refine gf_X6_21 E K0 P dX6_pixel_54 ?_
        refine lv_iload_n E.hx E.hb dX6_pixel_57 rfl (lv_at hl 1 rfl) ?_
        refine lv_iload_n E.hx E.hb dX6_pixel_58 rfl (lv_at hl 3 rfl) ?_
        refine lv_iadd E.hx E.hb dX6_pixel_59 ?_
        refine lv_iconst (v := 1) E.hx E.hb dX6_pixel_60 (by decide) ?_
        refine lv_isub E.hx E.hb dX6_pixel_61 ?_
        refine lv_iload_n E.hx E.hb dX6_pixel_62 rfl (lv_at hl 2 rfl) ?_
        refine lv_iload E.hx E.hb dX6_pixel_63 (lv_at hl 4 rfl) ?_
        refine lv_iadd E.hx E.hb dX6_pixel_65 ?_
        refine lv_iconst (v := 1) E.hx E.hb dX6_pixel_66 (by decide) ?_
        refine lv_isub E.hx E.hb dX6_pixel_67 ?_
        refine iv_X6_77 E K0 P S (by decide) hl.1 (Nat.le_of_ble_eq_true rfl) dX6_pixel_68 ?_
        refine lv_if_ne (tgt := 84) E.hx E.hb dX6_pixel_71 (by decide) (fun c_4 => ?_) (fun c_4 => ?_)
        · rw [if_neg c_4] at h
          refine lv_aload_n E.hx E.hb dX6_pixel_84 rfl (lv_at hl 0 rfl) ?_
          refine gf_X6_12 E K0 P dX6_pixel_85 ?_
          refine gf_X6_114 E K0 P dX6_pixel_88 ?_
          refine lv_bipush (v := 8) E.hx E.hb dX6_pixel_91 (by decide) ?_
          refine lv_icmp_ge (tgt := 111) E.hx E.hb dX6_pixel_93 (by decide) (fun c_5 => ?_) (fun c_5 => ?_)
          · rw [if_pos c_5] at h
            exact nomatch h
          · rw [if_neg c_5] at h
            refine lv_aload_n E.hx E.hb dX6_pixel_96 rfl (lv_at hl 0 rfl) ?_
            refine gf_X6_21 E K0 P dX6_pixel_97 ?_
            refine lv_iload_n E.hx E.hb dX6_pixel_100 rfl (lv_at hl 1 rfl) ?_
            refine lv_iload_n E.hx E.hb dX6_pixel_101 rfl (lv_at hl 2 rfl) ?_
            refine lv_iload_n E.hx E.hb dX6_pixel_102 rfl (lv_at hl 3 rfl) ?_
            refine lv_iload E.hx E.hb dX6_pixel_103 (lv_at hl 4 rfl) ?_
            obtain ⟨r_6, e_7, h⟩ := obind h
            refine iv_X6_117 E K0 P S e_7 (by decide) hl.1 (Nat.le_of_ble_eq_true rfl) dX6_pixel_105 ?_
            refine lv_if_eq (tgt := 121) E.hx E.hb dX6_pixel_108 (by decide) (fun c_8 => ?_) (fun c_8 => ?_)
            · rw [if_pos c_8] at h
              refine lv_aload_n E.hx E.hb dX6_pixel_121 rfl (lv_at hl 0 rfl) ?_
              refine gf_X6_12 E K0 P dX6_pixel_122 ?_
              refine lv_iload_n E.hx E.hb dX6_pixel_125 rfl (lv_at hl 1 rfl) ?_
              refine lv_iload_n E.hx E.hb dX6_pixel_126 rfl (lv_at hl 2 rfl) ?_
              refine lv_iload_n E.hx E.hb dX6_pixel_127 rfl (lv_at hl 3 rfl) ?_
              refine lv_iload E.hx E.hb dX6_pixel_128 (lv_at hl 4 rfl) ?_
              obtain ⟨q_9, e_10, h⟩ := obind h
              refine iv_X6_123 E N K0 P S e_10 (by decide) hl.1 (Nat.le_of_ble_eq_true rfl) dX6_pixel_130 (fun H locs P S => ?_)
              refine lv_istore (lv' := [(5, .int q_9.1), (0, .ref (ad 0)), (1, .int x1), (2, .int x2), (3, .int x3), (4, .int x4)]) E.hx E.hb dX6_pixel_133 hl (by decide) rfl (fun ls hl => ?_)
              refine lv_aload_n E.hx E.hb dX6_pixel_135 rfl (lv_at hl 1 rfl) ?_
              refine gf_X6_21 E K0 P dX6_pixel_136 ?_
              refine lv_iload_n E.hx E.hb dX6_pixel_139 rfl (lv_at hl 2 rfl) ?_
              refine lv_iload_n E.hx E.hb dX6_pixel_140 rfl (lv_at hl 3 rfl) ?_
              refine lv_iload_n E.hx E.hb dX6_pixel_141 rfl (lv_at hl 4 rfl) ?_
              refine lv_iload E.hx E.hb dX6_pixel_142 (lv_at hl 5 rfl) ?_
              refine lv_iload E.hx E.hb dX6_pixel_144 (lv_at hl 0 rfl) ?_
              obtain ⟨q_11, e_12, h⟩ := obind h
              refine iv_X6_127 E N K0 P S e_12 (by decide) hl.1 (Nat.le_of_ble_eq_true rfl) dX6_pixel_146 (fun H locs P S => ?_)
              refine lv_iload E.hx E.hb dX6_pixel_149 (lv_at hl 0 rfl) ?_
              cases h
              exact W.iret E.hx E.hb E.hr (fun t ht _ => ⟨rfl, by rw [ht]; exact P, S.F ht⟩) S.2.2 dX6_pixel_151 E.hk
            · rw [if_neg c_8] at h
              exact nomatch h
        · rw [if_pos c_4] at h
          exact nomatch h
      · rw [if_pos c_3] at h
        exact nomatch h
  · rw [if_pos c_1] at h
    exact nomatch h
theorem c_X6_pixel (l : Launch) {H : Heap} {D : va_G} {cyI : ClassId} {ad : Nat → Nat} {I : Nat → Int32} {A : Nat → Nat → Int32} (N : AdN 44 ad) (P : va_P D classes (cw cyI ad I A) H) (x1 x2 x3 x4 : Int32) {out : Int32 × (Nat → Int32) × (Nat → Nat → Int32)} (h : B_X6_pixel I A x1 x2 x3 x4 = some out) : MRW l yX6_pixel cX6_pixel 6 (some .int) 3 [.ref (ad 0), .int x1, .int x2, .int x3, .int x4] H (KC D cyI ad) (InN 44 ad) (some (.int out.1)) (fun H1 => va_P D classes (cw cyI ad out.2.1 out.2.2) H1) := by
  refine Mof (own := RX6) (by decide +kernel) rfl rfl ?_
  intro p e s m args below meth c ls E hH K0 hl
  subst hH
  exact w_X6_pixel E K0 N P va_S.rf h hl
theorem ds_X6_pixel : Dsc yX6_pixel 4 := ⟨by decide +kernel, by decide +kernel, by decide +kernel⟩
end
section
variable {p : Program} {l : Launch} {e : Env} {R : Room} {s : State} {m : MethodId} {args : Array Value} {below : List Frame} {meth : Method} {c : Code} {H : Heap} {locs : List Loc} {cells slots : Nat} {Q : State → Prop} {cc : ByteArray} {nL pc : Nat} {ret : Option FieldType} {ls : Array Slot} {rest : List Value} {D : va_G} {cyI : ClassId} {ad : Nat → Nat} {I : Nat → Int32} {A : Nat → Nat → Int32}
theorem iv_X6_131 (E : EX p s m args meth c cc nL RX6 ret) (K0 : KC D cyI ad s s.heap) (P : va_P D classes (cw cyI ad I A) H) (S : va_S (InN 44 ad) s.heap H locs) {a0 : Int32} (hR : RmOk R cells slots 0 2) (hls : ls.size = nL) (hro : (rest.map fun v => v.category).sum ≤ 8) (hdg : decode cc pc = .ok (.invokevirtual 131, 3)) (kk : W p l e R s m args below meth c H locs cells slots Q (F0 m (pc + 3) ls (.int (B_X3_has I A a0) :: rest))) : W p l e R s m args below meth c H locs cells slots Q (F0 m pc ls (.int a0 :: .ref (ad 1) :: rest)) :=
  cv_ro E (c_X3_has l P a0 ) (gV kML_X6_131 kIM_X3_has kSE_X3_has kIN_X3 kCO_X3_has) rfl ds_X3_has rfl KC_blind (fun U _ hW => (K0.at S).warm hW) (va_recv K0.k P (show classes[3]? = some (RX3, TX3, 9) from rfl) cw_g1) hR hls rfl hro hdg kk
end
section
variable {p : Program} {l : Launch} {e : Env} {R : Room} {s : State} {m : MethodId} {args : Array Value} {below : List Frame} {meth : Method} {c : Code} {H : Heap} {locs : List Loc} {cells slots : Nat} {Q : State → Prop} {cc : ByteArray} {nL pc : Nat} {ret : Option FieldType} {ls : Array Slot} {rest : List Value} {D : va_G} {cyI : ClassId} {ad : Nat → Nat} {I : Nat → Int32} {A : Nat → Nat → Int32}
theorem iv_X6_137 (E : EX p s m args meth c cc nL RX6 ret) (N : AdN 44 ad) (K0 : KC D cyI ad s s.heap) (P : va_P D classes (cw cyI ad I A) H) (S : va_S (InN 44 ad) s.heap H locs) {a0 a1 a2 : Int32} {v : Int32 × (Nat → Int32) × (Nat → Nat → Int32)} (hv : B_X1_setField I A a0 a1 a2 = some v) (hR : RmOk R cells slots 4 5) (hls : ls.size = nL) (hro : (rest.map fun v => v.category).sum ≤ 8) (hdg : decode cc pc = .ok (.invokevirtual 137, 3)) (kk : ∀ (H1 : Heap) (locs1 : List Loc), va_P D classes (cw cyI ad v.2.1 v.2.2) H1 → va_S (InN 44 ad) s.heap H1 locs1 → W p l e R s m args below meth c H1 locs1 cells slots Q (F0 m (pc + 3) ls (.int v.1 :: rest))) : W p l e R s m args below meth c H locs cells slots Q (F0 m pc ls (.int a2 :: .int a1 :: .int a0 :: .ref (ad 2) :: rest)) :=
  cv_rw E (c_X1_setField l N P a0 a1 a2 hv) (gV kML_X6_137 kIM_X1_setField kSE_X1_setField kIN_X1 kCO_X1_setField) rfl ds_X1_setField rfl KC_blind (fun U _ hW => (K0.at S).warm hW) S (va_recv K0.k P (show classes[1]? = some (RX1, TX1, 11) from rfl) cw_g2) hR hls rfl hro hdg kk
end
section
variable {p : Program} {l : Launch} {e : Env} {s : State} {m : MethodId} {args : Array Value} {below : List Frame} {meth : Method} {c : Code} {D : va_G} {cyI : ClassId} {ad : Nat → Nat} {I : Nat → Int32} {A : Nat → Nat → Int32}
def B_X6_drive (I : Nat → Int32) (A : Nat → Nat → Int32) (x1 x2 x3 : Int32) : Option (Int32 × (Nat → Int32) × (Nat → Nat → Int32)) := if (B_X3_has I A x1) = 0 then none else (if (B_X6_isDirection x2) = 0 then none else (if (B_X6_isIn x3 0 100) = 0 then none else ((B_X1_setField I A x1 x2 x3).bind fun q_4 => (B_X6_worked q_4.2.1 q_4.2.2 q_4.1).bind fun q_6 => some (q_6.1, q_6.2.1, q_6.2.2))))
set_option maxHeartbeats 4000000 in
set_option maxRecDepth 100000 in
theorem w_X6_drive (E : EX p s m args meth c cX6_drive 4 RX6 (some .int)) (K0 : KC D cyI ad s s.heap) (N : AdN 44 ad) {H : Heap} {locs : List Loc} (P : va_P D classes (cw cyI ad I A) H) (S : va_S (InN 44 ad) s.heap H locs)  {x1 x2 x3 : Int32} {out : Int32 × (Nat → Int32) × (Nat → Nat → Int32)} (h : B_X6_drive I A x1 x2 x3 = some out) {ls : Array Slot} (hl : lv_has ls 4 [(0, .ref (ad 0)), (1, .int x1), (2, .int x2), (3, .int x3)]) : W p l e (rmL 5) s m args below meth c H locs 0 0 (MQ below (Qrw (InN 44 ad) (some (.int out.1)) (fun H1 => va_P D classes (cw cyI ad out.2.1 out.2.2) H1)) args s 0 0 (InN 44 ad)) (F0 m 0 ls []) := by
  unfold B_X6_drive at h
  refine lv_aload_n E.hx E.hb dX6_drive_0 rfl (lv_at hl 0 rfl) ?_
  refine gf_X6_12 E K0 P dX6_drive_1 ?_
  refine lv_iload_n E.hx E.hb dX6_drive_4 rfl (lv_at hl 1 rfl) ?_
  refine iv_X6_131 E K0 P S (by decide) hl.1 (Nat.le_of_ble_eq_true rfl) dX6_drive_5 ?_
  refine lv_if_ne (tgt := 21) E.hx E.hb dX6_drive_8 (by decide) (fun c_1 => ?_) (fun c_1 => ?_)
  · rw [if_neg c_1] at h
    refine lv_iload_n E.hx E.hb dX6_drive_21 rfl (lv_at hl 2 rfl) ?_
    refine iv_X6_86 E K0 S (by decide) hl.1 (Nat.le_of_ble_eq_true rfl) dX6_drive_22 ?_
    refine lv_if_eq (tgt := 38) E.hx E.hb dX6_drive_25 (by decide) (fun c_2 => ?_) (fun c_2 => ?_)
    · rw [if_pos c_2] at h
      exact nomatch h
    · rw [if_neg c_2] at h
      refine lv_iload_n E.hx E.hb dX6_drive_28 rfl (lv_at hl 3 rfl) ?_
      refine lv_iconst (v := 0) E.hx E.hb dX6_drive_29 (by decide) ?_
      refine lv_bipush (v := 100) E.hx E.hb dX6_drive_30 (by decide) ?_
      refine iv_X6_56 E K0 S (by decide) hl.1 (Nat.le_of_ble_eq_true rfl) dX6_drive_32 ?_
      refine lv_if_ne (tgt := 48) E.hx E.hb dX6_drive_35 (by decide) (fun c_3 => ?_) (fun c_3 => ?_)
      · rw [if_neg c_3] at h
        refine lv_aload_n E.hx E.hb dX6_drive_48 rfl (lv_at hl 0 rfl) ?_
        refine lv_aload_n E.hx E.hb dX6_drive_49 rfl (lv_at hl 0 rfl) ?_
        refine gf_X6_21 E K0 P dX6_drive_50 ?_
        refine lv_iload_n E.hx E.hb dX6_drive_53 rfl (lv_at hl 1 rfl) ?_
        refine lv_iload_n E.hx E.hb dX6_drive_54 rfl (lv_at hl 2 rfl) ?_
        refine lv_iload_n E.hx E.hb dX6_drive_55 rfl (lv_at hl 3 rfl) ?_
        obtain ⟨q_4, e_5, h⟩ := obind h
        refine iv_X6_137 E N K0 P S e_5 (by decide) hl.1 (Nat.le_of_ble_eq_true rfl) dX6_drive_56 (fun H locs P S => ?_)
        obtain ⟨q_6, e_7, h⟩ := obind h
        refine iv_X6_73 E N K0 P S e_7 (by decide) hl.1 (Nat.le_of_ble_eq_true rfl) dX6_drive_59 (fun H locs P S => ?_)
        cases h
        exact W.iret E.hx E.hb E.hr (fun t ht _ => ⟨rfl, by rw [ht]; exact P, S.F ht⟩) S.2.2 dX6_drive_62 E.hk
      · rw [if_pos c_3] at h
        exact nomatch h
  · rw [if_pos c_1] at h
    exact nomatch h
theorem c_X6_drive (l : Launch) {H : Heap} {D : va_G} {cyI : ClassId} {ad : Nat → Nat} {I : Nat → Int32} {A : Nat → Nat → Int32} (N : AdN 44 ad) (P : va_P D classes (cw cyI ad I A) H) (x1 x2 x3 : Int32) {out : Int32 × (Nat → Int32) × (Nat → Nat → Int32)} (h : B_X6_drive I A x1 x2 x3 = some out) : MRW l yX6_drive cX6_drive 4 (some .int) 5 [.ref (ad 0), .int x1, .int x2, .int x3] H (KC D cyI ad) (InN 44 ad) (some (.int out.1)) (fun H1 => va_P D classes (cw cyI ad out.2.1 out.2.2) H1) := by
  refine Mof (own := RX6) (by decide +kernel) rfl rfl ?_
  intro p e s m args below meth c ls E hH K0 hl
  subst hH
  exact w_X6_drive E K0 N P va_S.rf h hl
theorem ds_X6_drive : Dsc yX6_drive 3 := ⟨by decide +kernel, by decide +kernel, by decide +kernel⟩
end
section
variable {p : Program} {l : Launch} {e : Env} {R : Room} {s : State} {m : MethodId} {args : Array Value} {below : List Frame} {meth : Method} {c : Code} {H : Heap} {locs : List Loc} {cells slots : Nat} {Q : State → Prop} {cc : ByteArray} {nL pc : Nat} {ret : Option FieldType} {ls : Array Slot} {rest : List Value} {D : va_G} {cyI : ClassId} {ad : Nat → Nat} {I : Nat → Int32} {A : Nat → Nat → Int32}
theorem iv_X6_148 (E : EX p s m args meth c cc nL RX6 ret) (N : AdN 44 ad) (K0 : KC D cyI ad s s.heap) (P : va_P D classes (cw cyI ad I A) H) (S : va_S (InN 44 ad) s.heap H locs) {a0 a1 a2 a3 : Int32} {v : Int32 × (Nat → Int32) × (Nat → Nat → Int32)} (hv : B_X0_add I A a0 a1 a2 a3 = some v) (hR : RmOk R cells slots 2 5) (hls : ls.size = nL) (hro : (rest.map fun v => v.category).sum ≤ 8) (hdg : decode cc pc = .ok (.invokevirtual 148, 3)) (kk : ∀ (H1 : Heap) (locs1 : List Loc), va_P D classes (cw cyI ad v.2.1 v.2.2) H1 → va_S (InN 44 ad) s.heap H1 locs1 → W p l e R s m args below meth c H1 locs1 cells slots Q (F0 m (pc + 3) ls (.int v.1 :: rest))) : W p l e R s m args below meth c H locs cells slots Q (F0 m pc ls (.int a3 :: .int a2 :: .int a1 :: .int a0 :: .ref (ad 4) :: rest)) :=
  cv_rw E (c_X0_add l N P a0 a1 a2 a3 hv) (gV kML_X6_148 kIM_X0_add kSE_X0_add kIN_X0 kCO_X0_add) rfl ds_X0_add rfl KC_blind (fun U _ hW => (K0.at S).warm hW) S (va_recv K0.k P (show classes[0]? = some (RX0, TX0, 5) from rfl) cw_g4) hR hls rfl hro hdg kk
end
section
variable {p : Program} {l : Launch} {e : Env} {s : State} {m : MethodId} {args : Array Value} {below : List Frame} {meth : Method} {c : Code} {D : va_G} {cyI : ClassId} {ad : Nat → Nat} {I : Nat → Int32} {A : Nat → Nat → Int32}
def B_X6_program (I : Nat → Int32) (A : Nat → Nat → Int32) (x1 x2 x3 x4 : Int32) : Option (Int32 × (Nat → Int32) × (Nat → Nat → Int32)) := if (B_X3_has I A x1) = 0 then none else (if x2 ≤ (I 1) then none else (if x2 ≤ 2000 then (if (B_X6_isDirection x3) = 0 then none else (if (B_X6_isIn x4 0 100) = 0 then none else (if (I 10) < 40 then ((B_X0_add I A x1 x2 x3 x4).bind fun q_7 => some (q_7.1, q_7.2.1, q_7.2.2)) else none))) else none))
set_option maxHeartbeats 4000000 in
set_option maxRecDepth 100000 in
theorem w_X6_program (E : EX p s m args meth c cX6_program 5 RX6 (some .int)) (K0 : KC D cyI ad s s.heap) (N : AdN 44 ad) {H : Heap} {locs : List Loc} (P : va_P D classes (cw cyI ad I A) H) (S : va_S (InN 44 ad) s.heap H locs)  {x1 x2 x3 x4 : Int32} {out : Int32 × (Nat → Int32) × (Nat → Nat → Int32)} (h : B_X6_program I A x1 x2 x3 x4 = some out) {ls : Array Slot} (hl : lv_has ls 5 [(0, .ref (ad 0)), (1, .int x1), (2, .int x2), (3, .int x3), (4, .int x4)]) : W p l e (rmL 3) s m args below meth c H locs 0 0 (MQ below (Qrw (InN 44 ad) (some (.int out.1)) (fun H1 => va_P D classes (cw cyI ad out.2.1 out.2.2) H1)) args s 0 0 (InN 44 ad)) (F0 m 0 ls []) := by
  unfold B_X6_program at h
  refine lv_aload_n E.hx E.hb dX6_program_0 rfl (lv_at hl 0 rfl) ?_
  refine gf_X6_12 E K0 P dX6_program_1 ?_
  refine lv_iload_n E.hx E.hb dX6_program_4 rfl (lv_at hl 1 rfl) ?_
  refine iv_X6_131 E K0 P S (by decide) hl.1 (Nat.le_of_ble_eq_true rfl) dX6_program_5 ?_
  refine lv_if_ne (tgt := 21) E.hx E.hb dX6_program_8 (by decide) (fun c_1 => ?_) (fun c_1 => ?_)
  · rw [if_neg c_1] at h
    refine lv_iload_n E.hx E.hb dX6_program_21 rfl (lv_at hl 2 rfl) ?_
    refine lv_aload_n E.hx E.hb dX6_program_22 rfl (lv_at hl 0 rfl) ?_
    refine gf_X6_140 E K0 P dX6_program_23 ?_
    refine lv_icmp_le (tgt := 36) E.hx E.hb dX6_program_26 (by decide) (fun c_2 => ?_) (fun c_2 => ?_)
    · rw [if_pos c_2] at h
      exact nomatch h
    · rw [if_neg c_2] at h
      refine lv_iload_n E.hx E.hb dX6_program_29 rfl (lv_at hl 2 rfl) ?_
      refine lv_sipush (v := 2000) E.hx E.hb dX6_program_30 (by decide) ?_
      refine lv_icmp_le (tgt := 46) E.hx E.hb dX6_program_33 (by decide) (fun c_3 => ?_) (fun c_3 => ?_)
      · rw [if_pos c_3] at h
        refine lv_iload_n E.hx E.hb dX6_program_46 rfl (lv_at hl 3 rfl) ?_
        refine iv_X6_86 E K0 S (by decide) hl.1 (Nat.le_of_ble_eq_true rfl) dX6_program_47 ?_
        refine lv_if_eq (tgt := 64) E.hx E.hb dX6_program_50 (by decide) (fun c_4 => ?_) (fun c_4 => ?_)
        · rw [if_pos c_4] at h
          exact nomatch h
        · rw [if_neg c_4] at h
          refine lv_iload E.hx E.hb dX6_program_53 (lv_at hl 4 rfl) ?_
          refine lv_iconst (v := 0) E.hx E.hb dX6_program_55 (by decide) ?_
          refine lv_bipush (v := 100) E.hx E.hb dX6_program_56 (by decide) ?_
          refine iv_X6_56 E K0 S (by decide) hl.1 (Nat.le_of_ble_eq_true rfl) dX6_program_58 ?_
          refine lv_if_ne (tgt := 74) E.hx E.hb dX6_program_61 (by decide) (fun c_5 => ?_) (fun c_5 => ?_)
          · rw [if_neg c_5] at h
            refine lv_aload_n E.hx E.hb dX6_program_74 rfl (lv_at hl 0 rfl) ?_
            refine gf_X6_37 E K0 P dX6_program_75 ?_
            refine gf_X6_145 E K0 P dX6_program_78 ?_
            refine lv_bipush (v := 40) E.hx E.hb dX6_program_81 (by decide) ?_
            refine lv_icmp_lt (tgt := 96) E.hx E.hb dX6_program_83 (by decide) (fun c_6 => ?_) (fun c_6 => ?_)
            · rw [if_pos c_6] at h
              refine lv_aload_n E.hx E.hb dX6_program_96 rfl (lv_at hl 0 rfl) ?_
              refine gf_X6_37 E K0 P dX6_program_97 ?_
              refine lv_iload_n E.hx E.hb dX6_program_100 rfl (lv_at hl 1 rfl) ?_
              refine lv_iload_n E.hx E.hb dX6_program_101 rfl (lv_at hl 2 rfl) ?_
              refine lv_iload_n E.hx E.hb dX6_program_102 rfl (lv_at hl 3 rfl) ?_
              refine lv_iload E.hx E.hb dX6_program_103 (lv_at hl 4 rfl) ?_
              obtain ⟨q_7, e_8, h⟩ := obind h
              refine iv_X6_148 E N K0 P S e_8 (by decide) hl.1 (Nat.le_of_ble_eq_true rfl) dX6_program_105 (fun H locs P S => ?_)
              cases h
              exact W.iret E.hx E.hb E.hr (fun t ht _ => ⟨rfl, by rw [ht]; exact P, S.F ht⟩) S.2.2 dX6_program_108 E.hk
            · rw [if_neg c_6] at h
              exact nomatch h
          · rw [if_pos c_5] at h
            exact nomatch h
      · rw [if_neg c_3] at h
        exact nomatch h
  · rw [if_pos c_1] at h
    exact nomatch h
theorem c_X6_program (l : Launch) {H : Heap} {D : va_G} {cyI : ClassId} {ad : Nat → Nat} {I : Nat → Int32} {A : Nat → Nat → Int32} (N : AdN 44 ad) (P : va_P D classes (cw cyI ad I A) H) (x1 x2 x3 x4 : Int32) {out : Int32 × (Nat → Int32) × (Nat → Nat → Int32)} (h : B_X6_program I A x1 x2 x3 x4 = some out) : MRW l yX6_program cX6_program 5 (some .int) 3 [.ref (ad 0), .int x1, .int x2, .int x3, .int x4] H (KC D cyI ad) (InN 44 ad) (some (.int out.1)) (fun H1 => va_P D classes (cw cyI ad out.2.1 out.2.2) H1) := by
  refine Mof (own := RX6) (by decide +kernel) rfl rfl ?_
  intro p e s m args below meth c ls E hH K0 hl
  subst hH
  exact w_X6_program E K0 N P va_S.rf h hl
theorem ds_X6_program : Dsc yX6_program 4 := ⟨by decide +kernel, by decide +kernel, by decide +kernel⟩
end
section
variable {p : Program} {l : Launch} {e : Env} {s : State} {m : MethodId} {args : Array Value} {below : List Frame} {meth : Method} {c : Code} {D : va_G} {cyI : ClassId} {ad : Nat → Nat} {I : Nat → Int32} {A : Nat → Nat → Int32}
def B_X6_now (I : Nat → Int32) (A : Nat → Nat → Int32)  : Int32 := (I 1)
set_option maxHeartbeats 4000000 in
set_option maxRecDepth 100000 in
theorem w_X6_now (E : EX p s m args meth c cX6_now 1 RX6 (some .int)) (K0 : KC D cyI ad s s.heap) (P : va_P D classes (cw cyI ad I A) s.heap)  {out : Int32} (h : B_X6_now I A  = out) {ls : Array Slot} (hl : lv_has ls 1 [(0, .ref (ad 0))]) : W p l e (rmL 0) s m args below meth c s.heap [] 0 0 (MQ below (vp_Si (fun z => z = out)) args s 0 0 (fun _ => False)) (F0 m 0 ls []) := by
  unfold B_X6_now at h
  refine lv_aload_n E.hx E.hb dX6_now_0 rfl (lv_at hl 0 rfl) ?_
  refine gf_X6_140 E K0 P dX6_now_1 ?_
  exact W.iret E.hx E.hb E.hr (fun t ht _ => ⟨_, rfl, h, ht⟩) (fun q hq => nomatch hq) dX6_now_4 E.hk
theorem c_X6_now (l : Launch) {H : Heap} {D : va_G} {cyI : ClassId} {ad : Nat → Nat} {I : Nat → Int32} {A : Nat → Nat → Int32} (P : va_P D classes (cw cyI ad I A) H)  : MRO l yX6_now cX6_now 1 (some .int) 0 [.ref (ad 0)] H (KC D cyI ad) (B_X6_now I A ) := by
  refine Mof (own := RX6) (by decide +kernel) rfl rfl ?_
  intro p e s m args below meth c ls E hH K0 hl
  subst hH
  exact w_X6_now E K0 P rfl hl
theorem ds_X6_now : Dsc yX6_now 0 := ⟨by decide +kernel, by decide +kernel, by decide +kernel⟩
end
section
variable {p : Program} {l : Launch} {e : Env} {s : State} {m : MethodId} {args : Array Value} {below : List Frame} {meth : Method} {c : Code} {D : va_G} {cyI : ClassId} {ad : Nat → Nat} {I : Nat → Int32} {A : Nat → Nat → Int32}
def B_X6_energy (I : Nat → Int32) (A : Nat → Nat → Int32)  : Int32 := (I 9)
set_option maxHeartbeats 4000000 in
set_option maxRecDepth 100000 in
theorem w_X6_energy (E : EX p s m args meth c cX6_energy 1 RX6 (some .int)) (K0 : KC D cyI ad s s.heap) (P : va_P D classes (cw cyI ad I A) s.heap)  {out : Int32} (h : B_X6_energy I A  = out) {ls : Array Slot} (hl : lv_has ls 1 [(0, .ref (ad 0))]) : W p l e (rmL 0) s m args below meth c s.heap [] 0 0 (MQ below (vp_Si (fun z => z = out)) args s 0 0 (fun _ => False)) (F0 m 0 ls []) := by
  unfold B_X6_energy at h
  refine lv_aload_n E.hx E.hb dX6_energy_0 rfl (lv_at hl 0 rfl) ?_
  refine gf_X6_21 E K0 P dX6_energy_1 ?_
  refine gf_X6_190 E K0 P dX6_energy_4 ?_
  exact W.iret E.hx E.hb E.hr (fun t ht _ => ⟨_, rfl, h, ht⟩) (fun q hq => nomatch hq) dX6_energy_7 E.hk
theorem c_X6_energy (l : Launch) {H : Heap} {D : va_G} {cyI : ClassId} {ad : Nat → Nat} {I : Nat → Int32} {A : Nat → Nat → Int32} (P : va_P D classes (cw cyI ad I A) H)  : MRO l yX6_energy cX6_energy 1 (some .int) 0 [.ref (ad 0)] H (KC D cyI ad) (B_X6_energy I A ) := by
  refine Mof (own := RX6) (by decide +kernel) rfl rfl ?_
  intro p e s m args below meth c ls E hH K0 hl
  subst hH
  exact w_X6_energy E K0 P rfl hl
theorem ds_X6_energy : Dsc yX6_energy 0 := ⟨by decide +kernel, by decide +kernel, by decide +kernel⟩
end
section
variable {p : Program} {l : Launch} {e : Env} {R : Room} {s : State} {m : MethodId} {args : Array Value} {below : List Frame} {meth : Method} {c : Code} {H : Heap} {locs : List Loc} {cells slots : Nat} {Q : State → Prop} {cc : ByteArray} {nL pc : Nat} {ret : Option FieldType} {ls : Array Slot} {rest : List Value} {D : va_G} {cyI : ClassId} {ad : Nat → Nat} {I : Nat → Int32} {A : Nat → Nat → Int32}
theorem iv_X6_193 (E : EX p s m args meth c cc nL RX6 ret) (K0 : KC D cyI ad s s.heap) (P : va_P D classes (cw cyI ad I A) H) (S : va_S (InN 44 ad) s.heap H locs) {v : Int32} (hv : B_X1_sum I A  = some v) (hR : RmOk R cells slots 3 5) (hls : ls.size = nL) (hro : (rest.map fun v => v.category).sum ≤ 8) (hdg : decode cc pc = .ok (.invokevirtual 193, 3)) (kk : W p l e R s m args below meth c H locs cells slots Q (F0 m (pc + 3) ls (.int v :: rest))) : W p l e R s m args below meth c H locs cells slots Q (F0 m pc ls (.ref (ad 2) :: rest)) :=
  cv_ro E (c_X1_sum l P  hv) (gV kML_X6_193 kIM_X1_sum kSE_X1_sum kIN_X1 kCO_X1_sum) rfl ds_X1_sum rfl KC_blind (fun U _ hW => (K0.at S).warm hW) (va_recv K0.k P (show classes[1]? = some (RX1, TX1, 11) from rfl) cw_g2) hR hls rfl hro hdg kk
end
section
variable {p : Program} {l : Launch} {e : Env} {s : State} {m : MethodId} {args : Array Value} {below : List Frame} {meth : Method} {c : Code} {D : va_G} {cyI : ClassId} {ad : Nat → Nat} {I : Nat → Int32} {A : Nat → Nat → Int32}
def B_X6_energyAnew (I : Nat → Int32) (A : Nat → Nat → Int32)  : Option (Int32) := (B_X1_sum I A ).bind fun r_1 => some r_1
set_option maxHeartbeats 4000000 in
set_option maxRecDepth 100000 in
theorem w_X6_energyAnew (E : EX p s m args meth c cX6_energyAnew 1 RX6 (some .int)) (K0 : KC D cyI ad s s.heap) (P : va_P D classes (cw cyI ad I A) s.heap)  {out : Int32} (h : B_X6_energyAnew I A  = some out) {ls : Array Slot} (hl : lv_has ls 1 [(0, .ref (ad 0))]) : W p l e (rmL 4) s m args below meth c s.heap [] 0 0 (MQ below (vp_Si (fun z => z = out)) args s 0 0 (fun _ => False)) (F0 m 0 ls []) := by
  unfold B_X6_energyAnew at h
  refine lv_aload_n E.hx E.hb dX6_energyAnew_0 rfl (lv_at hl 0 rfl) ?_
  refine gf_X6_21 E K0 P dX6_energyAnew_1 ?_
  obtain ⟨r_1, e_2, h⟩ := obind h
  refine iv_X6_193 E K0 P va_S.rf e_2 (by decide) hl.1 (Nat.le_of_ble_eq_true rfl) dX6_energyAnew_4 ?_
  exact W.iret E.hx E.hb E.hr (fun t ht _ => ⟨_, rfl, (Option.some.inj h), ht⟩) (fun q hq => nomatch hq) dX6_energyAnew_7 E.hk
theorem c_X6_energyAnew (l : Launch) {H : Heap} {D : va_G} {cyI : ClassId} {ad : Nat → Nat} {I : Nat → Int32} {A : Nat → Nat → Int32} (P : va_P D classes (cw cyI ad I A) H)  {out : Int32} (h : B_X6_energyAnew I A  = some out) : MRO l yX6_energyAnew cX6_energyAnew 1 (some .int) 4 [.ref (ad 0)] H (KC D cyI ad) out := by
  refine Mof (own := RX6) (by decide +kernel) rfl rfl ?_
  intro p e s m args below meth c ls E hH K0 hl
  subst hH
  exact w_X6_energyAnew E K0 P h hl
theorem ds_X6_energyAnew : Dsc yX6_energyAnew 0 := ⟨by decide +kernel, by decide +kernel, by decide +kernel⟩
end
section
variable {p : Program} {l : Launch} {e : Env} {s : State} {m : MethodId} {args : Array Value} {below : List Frame} {meth : Method} {c : Code} {D : va_G} {cyI : ClassId} {ad : Nat → Nat} {I : Nat → Int32} {A : Nat → Nat → Int32}
def B_X6_spent (I : Nat → Int32) (A : Nat → Nat → Int32) (x1 : Int32) : Int32 := if x1 = 0 then (I 2) else (I 3)
set_option maxHeartbeats 4000000 in
set_option maxRecDepth 100000 in
theorem w_X6_spent (E : EX p s m args meth c cX6_spent 2 RX6 (some .int)) (K0 : KC D cyI ad s s.heap) (P : va_P D classes (cw cyI ad I A) s.heap)  {x1 : Int32} {out : Int32} (h : B_X6_spent I A x1 = out) {ls : Array Slot} (hl : lv_has ls 2 [(0, .ref (ad 0)), (1, .int x1)]) : W p l e (rmL 0) s m args below meth c s.heap [] 0 0 (MQ below (vp_Si (fun z => z = out)) args s 0 0 (fun _ => False)) (F0 m 0 ls []) := by
  unfold B_X6_spent at h
  refine lv_iload_n E.hx E.hb dX6_spent_0 rfl (lv_at hl 1 rfl) ?_
  refine lv_if_eq (tgt := 11) E.hx E.hb dX6_spent_1 (by decide) (fun c_1 => ?_) (fun c_1 => ?_)
  · rw [if_pos c_1] at h
    refine lv_aload_n E.hx E.hb dX6_spent_11 rfl (lv_at hl 0 rfl) ?_
    refine gf_X6_196 E K0 P dX6_spent_12 ?_
    exact W.iret E.hx E.hb E.hr (fun t ht _ => ⟨_, rfl, h, ht⟩) (fun q hq => nomatch hq) dX6_spent_15 E.hk
  · rw [if_neg c_1] at h
    refine lv_aload_n E.hx E.hb dX6_spent_4 rfl (lv_at hl 0 rfl) ?_
    refine gf_X6_155 E K0 P dX6_spent_5 ?_
    refine lv_goto (tgt := 15) E.hx E.hb dX6_spent_8 (by decide) ?_
    exact W.iret E.hx E.hb E.hr (fun t ht _ => ⟨_, rfl, h, ht⟩) (fun q hq => nomatch hq) dX6_spent_15 E.hk
theorem c_X6_spent (l : Launch) {H : Heap} {D : va_G} {cyI : ClassId} {ad : Nat → Nat} {I : Nat → Int32} {A : Nat → Nat → Int32} (P : va_P D classes (cw cyI ad I A) H) (x1 : Int32) : MRO l yX6_spent cX6_spent 2 (some .int) 0 [.ref (ad 0), .int x1] H (KC D cyI ad) (B_X6_spent I A x1) := by
  refine Mof (own := RX6) (by decide +kernel) rfl rfl ?_
  intro p e s m args below meth c ls E hH K0 hl
  subst hH
  exact w_X6_spent E K0 P rfl hl
theorem ds_X6_spent : Dsc yX6_spent 1 := ⟨by decide +kernel, by decide +kernel, by decide +kernel⟩
end
section
variable {p : Program} {l : Launch} {e : Env} {R : Room} {s : State} {m : MethodId} {args : Array Value} {below : List Frame} {meth : Method} {c : Code} {H : Heap} {locs : List Loc} {cells slots : Nat} {Q : State → Prop} {cc : ByteArray} {nL pc : Nat} {ret : Option FieldType} {ls : Array Slot} {rest : List Value} {D : va_G} {cyI : ClassId} {ad : Nat → Nat} {I : Nat → Int32} {A : Nat → Nat → Int32}
theorem iv_X6_203 (E : EX p s m args meth c cc nL RX6 ret) (K0 : KC D cyI ad s s.heap) (P : va_P D classes (cw cyI ad I A) H) (S : va_S (InN 44 ad) s.heap H locs) {a0 a1 : Int32} (hR : RmOk R cells slots 1 3) (hls : ls.size = nL) (hro : (rest.map fun v => v.category).sum ≤ 8) (hdg : decode cc pc = .ok (.invokevirtual 203, 3)) (kk : W p l e R s m args below meth c H locs cells slots Q (F0 m (pc + 3) ls (.int (B_X5_has I A a0 a1) :: rest))) : W p l e R s m args below meth c H locs cells slots Q (F0 m pc ls (.int a1 :: .int a0 :: .ref (ad 3) :: rest)) :=
  cv_ro E (c_X5_has l P a0 a1 ) (gV kML_X6_203 kIM_X5_has kSE_X5_has kIN_X5 kCO_X5_has) rfl ds_X5_has rfl KC_blind (fun U _ hW => (K0.at S).warm hW) (va_recv K0.k P (show classes[5]? = some (RX5, TX5, 1) from rfl) cw_g3) hR hls rfl hro hdg kk
end
section
variable {p : Program} {l : Launch} {e : Env} {R : Room} {s : State} {m : MethodId} {args : Array Value} {below : List Frame} {meth : Method} {c : Code} {H : Heap} {locs : List Loc} {cells slots : Nat} {Q : State → Prop} {cc : ByteArray} {nL pc : Nat} {ret : Option FieldType} {ls : Array Slot} {rest : List Value} {D : va_G} {cyI : ClassId} {ad : Nat → Nat} {I : Nat → Int32} {A : Nat → Nat → Int32}
theorem iv_X6_206 (E : EX p s m args meth c cc nL RX6 ret) (K0 : KC D cyI ad s s.heap) (P : va_P D classes (cw cyI ad I A) H) (S : va_S (InN 44 ad) s.heap H locs) {a0 a1 : Int32} {v : Int32} (hv : B_X5_at I A a0 a1 = some v) (hR : RmOk R cells slots 3 3) (hls : ls.size = nL) (hro : (rest.map fun v => v.category).sum ≤ 8) (hdg : decode cc pc = .ok (.invokevirtual 206, 3)) (kk : W p l e R s m args below meth c H locs cells slots Q (F0 m (pc + 3) ls (.int v :: rest))) : W p l e R s m args below meth c H locs cells slots Q (F0 m pc ls (.int a1 :: .int a0 :: .ref (ad 3) :: rest)) :=
  cv_ro E (c_X5_at l P a0 a1 hv) (gV kML_X6_206 kIM_X5_at kSE_X5_at kIN_X5 kCO_X5_at) rfl ds_X5_at rfl KC_blind (fun U _ hW => (K0.at S).warm hW) (va_recv K0.k P (show classes[5]? = some (RX5, TX5, 1) from rfl) cw_g3) hR hls rfl hro hdg kk
end
section
variable {p : Program} {l : Launch} {e : Env} {s : State} {m : MethodId} {args : Array Value} {below : List Frame} {meth : Method} {c : Code} {D : va_G} {cyI : ClassId} {ad : Nat → Nat} {I : Nat → Int32} {A : Nat → Nat → Int32}
def B_X6_winding (I : Nat → Int32) (A : Nat → Nat → Int32) (x1 x2 : Int32) : Option (Int32) := if (B_X5_has I A x1 x2) = 0 then none else ((B_X5_at I A x1 x2).bind fun r_2 => some r_2)
set_option maxHeartbeats 4000000 in
set_option maxRecDepth 100000 in
theorem w_X6_winding (E : EX p s m args meth c cX6_winding 3 RX6 (some .int)) (K0 : KC D cyI ad s s.heap) (P : va_P D classes (cw cyI ad I A) s.heap)  {x1 x2 : Int32} {out : Int32} (h : B_X6_winding I A x1 x2 = some out) {ls : Array Slot} (hl : lv_has ls 3 [(0, .ref (ad 0)), (1, .int x1), (2, .int x2)]) : W p l e (rmL 4) s m args below meth c s.heap [] 0 0 (MQ below (vp_Si (fun z => z = out)) args s 0 0 (fun _ => False)) (F0 m 0 ls []) := by
  unfold B_X6_winding at h
  refine lv_aload_n E.hx E.hb dX6_winding_0 rfl (lv_at hl 0 rfl) ?_
  refine gf_X6_30 E K0 P dX6_winding_1 ?_
  refine lv_iload_n E.hx E.hb dX6_winding_4 rfl (lv_at hl 1 rfl) ?_
  refine lv_iload_n E.hx E.hb dX6_winding_5 rfl (lv_at hl 2 rfl) ?_
  refine iv_X6_203 E K0 P va_S.rf (by decide) hl.1 (Nat.le_of_ble_eq_true rfl) dX6_winding_6 ?_
  refine lv_if_ne (tgt := 22) E.hx E.hb dX6_winding_9 (by decide) (fun c_1 => ?_) (fun c_1 => ?_)
  · rw [if_neg c_1] at h
    refine lv_aload_n E.hx E.hb dX6_winding_22 rfl (lv_at hl 0 rfl) ?_
    refine gf_X6_30 E K0 P dX6_winding_23 ?_
    refine lv_iload_n E.hx E.hb dX6_winding_26 rfl (lv_at hl 1 rfl) ?_
    refine lv_iload_n E.hx E.hb dX6_winding_27 rfl (lv_at hl 2 rfl) ?_
    obtain ⟨r_2, e_3, h⟩ := obind h
    refine iv_X6_206 E K0 P va_S.rf e_3 (by decide) hl.1 (Nat.le_of_ble_eq_true rfl) dX6_winding_28 ?_
    exact W.iret E.hx E.hb E.hr (fun t ht _ => ⟨_, rfl, (Option.some.inj h), ht⟩) (fun q hq => nomatch hq) dX6_winding_31 E.hk
  · rw [if_pos c_1] at h
    exact nomatch h
theorem c_X6_winding (l : Launch) {H : Heap} {D : va_G} {cyI : ClassId} {ad : Nat → Nat} {I : Nat → Int32} {A : Nat → Nat → Int32} (P : va_P D classes (cw cyI ad I A) H) (x1 x2 : Int32) {out : Int32} (h : B_X6_winding I A x1 x2 = some out) : MRO l yX6_winding cX6_winding 3 (some .int) 4 [.ref (ad 0), .int x1, .int x2] H (KC D cyI ad) out := by
  refine Mof (own := RX6) (by decide +kernel) rfl rfl ?_
  intro p e s m args below meth c ls E hH K0 hl
  subst hH
  exact w_X6_winding E K0 P h hl
theorem ds_X6_winding : Dsc yX6_winding 2 := ⟨by decide +kernel, by decide +kernel, by decide +kernel⟩
end
section
variable {p : Program} {l : Launch} {e : Env} {R : Room} {s : State} {m : MethodId} {args : Array Value} {below : List Frame} {meth : Method} {c : Code} {H : Heap} {locs : List Loc} {cells slots : Nat} {Q : State → Prop} {cc : ByteArray} {nL pc : Nat} {ret : Option FieldType} {ls : Array Slot} {rest : List Value} {D : va_G} {cyI : ClassId} {ad : Nat → Nat} {I : Nat → Int32} {A : Nat → Nat → Int32}
theorem iv_X6_211 (E : EX p s m args meth c cc nL RX6 ret) (K0 : KC D cyI ad s s.heap) (P : va_P D classes (cw cyI ad I A) H) (S : va_S (InN 44 ad) s.heap H locs) {a0 a1 a2 a3 : Int32} {v : Int32} (hv : B_X5_sum I A a0 a1 a2 a3 = some v) (hR : RmOk R cells slots 4 8) (hls : ls.size = nL) (hro : (rest.map fun v => v.category).sum ≤ 8) (hdg : decode cc pc = .ok (.invokevirtual 211, 3)) (kk : W p l e R s m args below meth c H locs cells slots Q (F0 m (pc + 3) ls (.int v :: rest))) : W p l e R s m args below meth c H locs cells slots Q (F0 m pc ls (.int a3 :: .int a2 :: .int a1 :: .int a0 :: .ref (ad 3) :: rest)) :=
  cv_ro E (c_X5_sum l P a0 a1 a2 a3 hv) (gV kML_X6_211 kIM_X5_sum kSE_X5_sum kIN_X5 kCO_X5_sum) rfl ds_X5_sum rfl KC_blind (fun U _ hW => (K0.at S).warm hW) (va_recv K0.k P (show classes[5]? = some (RX5, TX5, 1) from rfl) cw_g3) hR hls rfl hro hdg kk
end
section
variable {p : Program} {l : Launch} {e : Env} {s : State} {m : MethodId} {args : Array Value} {below : List Frame} {meth : Method} {c : Code} {D : va_G} {cyI : ClassId} {ad : Nat → Nat} {I : Nat → Int32} {A : Nat → Nat → Int32}
def B_X6_within (I : Nat → Int32) (A : Nat → Nat → Int32) (x1 x2 x3 x4 : Int32) : Option (Int32) := if (B_X1_has I A x1 x2) = 0 then none else (if (B_X1_has I A x3 x4) = 0 then none else (if x3 ≤ x1 then none else (if x2 < x4 then ((B_X5_sum I A x1 x2 x3 x4).bind fun r_5 => some r_5) else none)))
set_option maxHeartbeats 4000000 in
set_option maxRecDepth 100000 in
theorem w_X6_within (E : EX p s m args meth c cX6_within 5 RX6 (some .int)) (K0 : KC D cyI ad s s.heap) (P : va_P D classes (cw cyI ad I A) s.heap)  {x1 x2 x3 x4 : Int32} {out : Int32} (h : B_X6_within I A x1 x2 x3 x4 = some out) {ls : Array Slot} (hl : lv_has ls 5 [(0, .ref (ad 0)), (1, .int x1), (2, .int x2), (3, .int x3), (4, .int x4)]) : W p l e (rmL 5) s m args below meth c s.heap [] 0 0 (MQ below (vp_Si (fun z => z = out)) args s 0 0 (fun _ => False)) (F0 m 0 ls []) := by
  unfold B_X6_within at h
  refine lv_aload_n E.hx E.hb dX6_within_0 rfl (lv_at hl 0 rfl) ?_
  refine gf_X6_21 E K0 P dX6_within_1 ?_
  refine lv_iload_n E.hx E.hb dX6_within_4 rfl (lv_at hl 1 rfl) ?_
  refine lv_iload_n E.hx E.hb dX6_within_5 rfl (lv_at hl 2 rfl) ?_
  refine iv_X6_77 E K0 P va_S.rf (by decide) hl.1 (Nat.le_of_ble_eq_true rfl) dX6_within_6 ?_
  refine lv_if_eq (tgt := 25) E.hx E.hb dX6_within_9 (by decide) (fun c_1 => ?_) (fun c_1 => ?_)
  · rw [if_pos c_1] at h
    exact nomatch h
  · rw [if_neg c_1] at h
    refine lv_aload_n E.hx E.hb dX6_within_12 rfl (lv_at hl 0 rfl) ?_
    refine gf_X6_21 E K0 P dX6_within_13 ?_
    refine lv_iload_n E.hx E.hb dX6_within_16 rfl (lv_at hl 3 rfl) ?_
    refine lv_iload E.hx E.hb dX6_within_17 (lv_at hl 4 rfl) ?_
    refine iv_X6_77 E K0 P va_S.rf (by decide) hl.1 (Nat.le_of_ble_eq_true rfl) dX6_within_19 ?_
    refine lv_if_ne (tgt := 35) E.hx E.hb dX6_within_22 (by decide) (fun c_2 => ?_) (fun c_2 => ?_)
    · rw [if_neg c_2] at h
      refine lv_iload_n E.hx E.hb dX6_within_35 rfl (lv_at hl 3 rfl) ?_
      refine lv_iload_n E.hx E.hb dX6_within_36 rfl (lv_at hl 1 rfl) ?_
      refine lv_icmp_le (tgt := 46) E.hx E.hb dX6_within_37 (by decide) (fun c_3 => ?_) (fun c_3 => ?_)
      · rw [if_pos c_3] at h
        exact nomatch h
      · rw [if_neg c_3] at h
        refine lv_iload E.hx E.hb dX6_within_40 (lv_at hl 4 rfl) ?_
        refine lv_iload_n E.hx E.hb dX6_within_42 rfl (lv_at hl 2 rfl) ?_
        refine lv_icmp_gt (tgt := 56) E.hx E.hb dX6_within_43 (by decide) (fun c_4 => ?_) (fun c_4 => ?_)
        · rw [if_pos c_4] at h
          refine lv_aload_n E.hx E.hb dX6_within_56 rfl (lv_at hl 0 rfl) ?_
          refine gf_X6_30 E K0 P dX6_within_57 ?_
          refine lv_iload_n E.hx E.hb dX6_within_60 rfl (lv_at hl 1 rfl) ?_
          refine lv_iload_n E.hx E.hb dX6_within_61 rfl (lv_at hl 2 rfl) ?_
          refine lv_iload_n E.hx E.hb dX6_within_62 rfl (lv_at hl 3 rfl) ?_
          refine lv_iload E.hx E.hb dX6_within_63 (lv_at hl 4 rfl) ?_
          obtain ⟨r_5, e_6, h⟩ := obind h
          refine iv_X6_211 E K0 P va_S.rf e_6 (by decide) hl.1 (Nat.le_of_ble_eq_true rfl) dX6_within_65 ?_
          exact W.iret E.hx E.hb E.hr (fun t ht _ => ⟨_, rfl, (Option.some.inj h), ht⟩) (fun q hq => nomatch hq) dX6_within_68 E.hk
        · rw [if_neg c_4] at h
          exact nomatch h
    · rw [if_pos c_2] at h
      exact nomatch h
theorem c_X6_within (l : Launch) {H : Heap} {D : va_G} {cyI : ClassId} {ad : Nat → Nat} {I : Nat → Int32} {A : Nat → Nat → Int32} (P : va_P D classes (cw cyI ad I A) H) (x1 x2 x3 x4 : Int32) {out : Int32} (h : B_X6_within I A x1 x2 x3 x4 = some out) : MRO l yX6_within cX6_within 5 (some .int) 5 [.ref (ad 0), .int x1, .int x2, .int x3, .int x4] H (KC D cyI ad) out := by
  refine Mof (own := RX6) (by decide +kernel) rfl rfl ?_
  intro p e s m args below meth c ls E hH K0 hl
  subst hH
  exact w_X6_within E K0 P h hl
theorem ds_X6_within : Dsc yX6_within 4 := ⟨by decide +kernel, by decide +kernel, by decide +kernel⟩
end
section
variable {p : Program} {l : Launch} {e : Env} {R : Room} {s : State} {m : MethodId} {args : Array Value} {below : List Frame} {meth : Method} {c : Code} {H : Heap} {locs : List Loc} {cells slots : Nat} {Q : State → Prop} {cc : ByteArray} {nL pc : Nat} {ret : Option FieldType} {ls : Array Slot} {rest : List Value} {D : va_G} {cyI : ClassId} {ad : Nat → Nat} {I : Nat → Int32} {A : Nat → Nat → Int32}
theorem iv_X6_213 (E : EX p s m args meth c cc nL RX6 ret) (K0 : KC D cyI ad s s.heap) (P : va_P D classes (cw cyI ad I A) H) (S : va_S (InN 44 ad) s.heap H locs) {a0 a1 a2 a3 : Int32} {v : Int32} (hv : B_X5_around I A a0 a1 a2 a3 = some v) (hR : RmOk R cells slots 2 7) (hls : ls.size = nL) (hro : (rest.map fun v => v.category).sum ≤ 8) (hdg : decode cc pc = .ok (.invokevirtual 213, 3)) (kk : W p l e R s m args below meth c H locs cells slots Q (F0 m (pc + 3) ls (.int v :: rest))) : W p l e R s m args below meth c H locs cells slots Q (F0 m pc ls (.int a3 :: .int a2 :: .int a1 :: .int a0 :: .ref (ad 3) :: rest)) :=
  cv_ro E (c_X5_around l P a0 a1 a2 a3 hv) (gV kML_X6_213 kIM_X5_around kSE_X5_around kIN_X5 kCO_X5_around) rfl ds_X5_around rfl KC_blind (fun U _ hW => (K0.at S).warm hW) (va_recv K0.k P (show classes[5]? = some (RX5, TX5, 1) from rfl) cw_g3) hR hls rfl hro hdg kk
end
section
variable {p : Program} {l : Launch} {e : Env} {s : State} {m : MethodId} {args : Array Value} {below : List Frame} {meth : Method} {c : Code} {D : va_G} {cyI : ClassId} {ad : Nat → Nat} {I : Nat → Int32} {A : Nat → Nat → Int32}
def B_X6_border (I : Nat → Int32) (A : Nat → Nat → Int32) (x1 x2 x3 x4 : Int32) : Option (Int32) := if (B_X1_has I A x1 x2) = 0 then none else (if (B_X1_has I A x3 x4) = 0 then none else (if x3 ≤ x1 then none else (if x2 < x4 then ((B_X5_around I A x1 x2 x3 x4).bind fun r_5 => some r_5) else none)))
set_option maxHeartbeats 4000000 in
set_option maxRecDepth 100000 in
theorem w_X6_border (E : EX p s m args meth c cX6_border 5 RX6 (some .int)) (K0 : KC D cyI ad s s.heap) (P : va_P D classes (cw cyI ad I A) s.heap)  {x1 x2 x3 x4 : Int32} {out : Int32} (h : B_X6_border I A x1 x2 x3 x4 = some out) {ls : Array Slot} (hl : lv_has ls 5 [(0, .ref (ad 0)), (1, .int x1), (2, .int x2), (3, .int x3), (4, .int x4)]) : W p l e (rmL 3) s m args below meth c s.heap [] 0 0 (MQ below (vp_Si (fun z => z = out)) args s 0 0 (fun _ => False)) (F0 m 0 ls []) := by
  unfold B_X6_border at h
  refine lv_aload_n E.hx E.hb dX6_border_0 rfl (lv_at hl 0 rfl) ?_
  refine gf_X6_21 E K0 P dX6_border_1 ?_
  refine lv_iload_n E.hx E.hb dX6_border_4 rfl (lv_at hl 1 rfl) ?_
  refine lv_iload_n E.hx E.hb dX6_border_5 rfl (lv_at hl 2 rfl) ?_
  refine iv_X6_77 E K0 P va_S.rf (by decide) hl.1 (Nat.le_of_ble_eq_true rfl) dX6_border_6 ?_
  refine lv_if_eq (tgt := 25) E.hx E.hb dX6_border_9 (by decide) (fun c_1 => ?_) (fun c_1 => ?_)
  · rw [if_pos c_1] at h
    exact nomatch h
  · rw [if_neg c_1] at h
    refine lv_aload_n E.hx E.hb dX6_border_12 rfl (lv_at hl 0 rfl) ?_
    refine gf_X6_21 E K0 P dX6_border_13 ?_
    refine lv_iload_n E.hx E.hb dX6_border_16 rfl (lv_at hl 3 rfl) ?_
    refine lv_iload E.hx E.hb dX6_border_17 (lv_at hl 4 rfl) ?_
    refine iv_X6_77 E K0 P va_S.rf (by decide) hl.1 (Nat.le_of_ble_eq_true rfl) dX6_border_19 ?_
    refine lv_if_ne (tgt := 35) E.hx E.hb dX6_border_22 (by decide) (fun c_2 => ?_) (fun c_2 => ?_)
    · rw [if_neg c_2] at h
      refine lv_iload_n E.hx E.hb dX6_border_35 rfl (lv_at hl 3 rfl) ?_
      refine lv_iload_n E.hx E.hb dX6_border_36 rfl (lv_at hl 1 rfl) ?_
      refine lv_icmp_le (tgt := 46) E.hx E.hb dX6_border_37 (by decide) (fun c_3 => ?_) (fun c_3 => ?_)
      · rw [if_pos c_3] at h
        exact nomatch h
      · rw [if_neg c_3] at h
        refine lv_iload E.hx E.hb dX6_border_40 (lv_at hl 4 rfl) ?_
        refine lv_iload_n E.hx E.hb dX6_border_42 rfl (lv_at hl 2 rfl) ?_
        refine lv_icmp_gt (tgt := 56) E.hx E.hb dX6_border_43 (by decide) (fun c_4 => ?_) (fun c_4 => ?_)
        · rw [if_pos c_4] at h
          refine lv_aload_n E.hx E.hb dX6_border_56 rfl (lv_at hl 0 rfl) ?_
          refine gf_X6_30 E K0 P dX6_border_57 ?_
          refine lv_iload_n E.hx E.hb dX6_border_60 rfl (lv_at hl 1 rfl) ?_
          refine lv_iload_n E.hx E.hb dX6_border_61 rfl (lv_at hl 2 rfl) ?_
          refine lv_iload_n E.hx E.hb dX6_border_62 rfl (lv_at hl 3 rfl) ?_
          refine lv_iload E.hx E.hb dX6_border_63 (lv_at hl 4 rfl) ?_
          obtain ⟨r_5, e_6, h⟩ := obind h
          refine iv_X6_213 E K0 P va_S.rf e_6 (by decide) hl.1 (Nat.le_of_ble_eq_true rfl) dX6_border_65 ?_
          exact W.iret E.hx E.hb E.hr (fun t ht _ => ⟨_, rfl, (Option.some.inj h), ht⟩) (fun q hq => nomatch hq) dX6_border_68 E.hk
        · rw [if_neg c_4] at h
          exact nomatch h
    · rw [if_pos c_2] at h
      exact nomatch h
theorem c_X6_border (l : Launch) {H : Heap} {D : va_G} {cyI : ClassId} {ad : Nat → Nat} {I : Nat → Int32} {A : Nat → Nat → Int32} (P : va_P D classes (cw cyI ad I A) H) (x1 x2 x3 x4 : Int32) {out : Int32} (h : B_X6_border I A x1 x2 x3 x4 = some out) : MRO l yX6_border cX6_border 5 (some .int) 3 [.ref (ad 0), .int x1, .int x2, .int x3, .int x4] H (KC D cyI ad) out := by
  refine Mof (own := RX6) (by decide +kernel) rfl rfl ?_
  intro p e s m args below meth c ls E hH K0 hl
  subst hH
  exact w_X6_border E K0 P h hl
theorem ds_X6_border : Dsc yX6_border 4 := ⟨by decide +kernel, by decide +kernel, by decide +kernel⟩
end
section
variable {p : Program} {l : Launch} {e : Env} {R : Room} {s : State} {m : MethodId} {args : Array Value} {below : List Frame} {meth : Method} {c : Code} {H : Heap} {locs : List Loc} {cells slots : Nat} {Q : State → Prop} {cc : ByteArray} {nL pc : Nat} {ret : Option FieldType} {ls : Array Slot} {rest : List Value} {D : va_G} {cyI : ClassId} {ad : Nat → Nat} {I : Nat → Int32} {A : Nat → Nat → Int32}
theorem iv_X6_216 (E : EX p s m args meth c cc nL RX6 ret) (K0 : KC D cyI ad s s.heap) (P : va_P D classes (cw cyI ad I A) H) (S : va_S (InN 44 ad) s.heap H locs) {v : Int32} (hv : B_X5_count I A  = some v) (hR : RmOk R cells slots 4 4) (hls : ls.size = nL) (hro : (rest.map fun v => v.category).sum ≤ 8) (hdg : decode cc pc = .ok (.invokevirtual 216, 3)) (kk : W p l e R s m args below meth c H locs cells slots Q (F0 m (pc + 3) ls (.int v :: rest))) : W p l e R s m args below meth c H locs cells slots Q (F0 m pc ls (.ref (ad 3) :: rest)) :=
  cv_ro E (c_X5_count l P  hv) (gV kML_X6_216 kIM_X5_count kSE_X5_count kIN_X5 kCO_X5_count) rfl ds_X5_count rfl KC_blind (fun U _ hW => (K0.at S).warm hW) (va_recv K0.k P (show classes[5]? = some (RX5, TX5, 1) from rfl) cw_g3) hR hls rfl hro hdg kk
end
section
variable {p : Program} {l : Launch} {e : Env} {s : State} {m : MethodId} {args : Array Value} {below : List Frame} {meth : Method} {c : Code} {D : va_G} {cyI : ClassId} {ad : Nat → Nat} {I : Nat → Int32} {A : Nat → Nat → Int32}
def B_X6_defects (I : Nat → Int32) (A : Nat → Nat → Int32)  : Option (Int32) := (B_X5_count I A ).bind fun r_1 => some r_1
set_option maxHeartbeats 4000000 in
set_option maxRecDepth 100000 in
theorem w_X6_defects (E : EX p s m args meth c cX6_defects 1 RX6 (some .int)) (K0 : KC D cyI ad s s.heap) (P : va_P D classes (cw cyI ad I A) s.heap)  {out : Int32} (h : B_X6_defects I A  = some out) {ls : Array Slot} (hl : lv_has ls 1 [(0, .ref (ad 0))]) : W p l e (rmL 5) s m args below meth c s.heap [] 0 0 (MQ below (vp_Si (fun z => z = out)) args s 0 0 (fun _ => False)) (F0 m 0 ls []) := by
  unfold B_X6_defects at h
  refine lv_aload_n E.hx E.hb dX6_defects_0 rfl (lv_at hl 0 rfl) ?_
  refine gf_X6_30 E K0 P dX6_defects_1 ?_
  obtain ⟨r_1, e_2, h⟩ := obind h
  refine iv_X6_216 E K0 P va_S.rf e_2 (by decide) hl.1 (Nat.le_of_ble_eq_true rfl) dX6_defects_4 ?_
  exact W.iret E.hx E.hb E.hr (fun t ht _ => ⟨_, rfl, (Option.some.inj h), ht⟩) (fun q hq => nomatch hq) dX6_defects_7 E.hk
theorem c_X6_defects (l : Launch) {H : Heap} {D : va_G} {cyI : ClassId} {ad : Nat → Nat} {I : Nat → Int32} {A : Nat → Nat → Int32} (P : va_P D classes (cw cyI ad I A) H)  {out : Int32} (h : B_X6_defects I A  = some out) : MRO l yX6_defects cX6_defects 1 (some .int) 5 [.ref (ad 0)] H (KC D cyI ad) out := by
  refine Mof (own := RX6) (by decide +kernel) rfl rfl ?_
  intro p e s m args below meth c ls E hH K0 hl
  subst hH
  exact w_X6_defects E K0 P h hl
theorem ds_X6_defects : Dsc yX6_defects 0 := ⟨by decide +kernel, by decide +kernel, by decide +kernel⟩
end
section
variable {p : Program} {l : Launch} {e : Env} {R : Room} {s : State} {m : MethodId} {args : Array Value} {below : List Frame} {meth : Method} {c : Code} {H : Heap} {locs : List Loc} {cells slots : Nat} {Q : State → Prop} {cc : ByteArray} {nL pc : Nat} {ret : Option FieldType} {ls : Array Slot} {rest : List Value} {D : va_G} {cyI : ClassId} {ad : Nat → Nat} {I : Nat → Int32} {A : Nat → Nat → Int32}
theorem iv_X6_218 (E : EX p s m args meth c cc nL RX6 ret) (K0 : KC D cyI ad s s.heap) (P : va_P D classes (cw cyI ad I A) H) (S : va_S (InN 44 ad) s.heap H locs) {a0 : Int32} {v : Int32} (hv : B_X5_find I A a0 = some v) (hR : RmOk R cells slots 4 5) (hls : ls.size = nL) (hro : (rest.map fun v => v.category).sum ≤ 8) (hdg : decode cc pc = .ok (.invokevirtual 218, 3)) (kk : W p l e R s m args below meth c H locs cells slots Q (F0 m (pc + 3) ls (.int v :: rest))) : W p l e R s m args below meth c H locs cells slots Q (F0 m pc ls (.int a0 :: .ref (ad 3) :: rest)) :=
  cv_ro E (c_X5_find l P a0 hv) (gV kML_X6_218 kIM_X5_find kSE_X5_find kIN_X5 kCO_X5_find) rfl ds_X5_find rfl KC_blind (fun U _ hW => (K0.at S).warm hW) (va_recv K0.k P (show classes[5]? = some (RX5, TX5, 1) from rfl) cw_g3) hR hls rfl hro hdg kk
end
section
variable {p : Program} {l : Launch} {e : Env} {s : State} {m : MethodId} {args : Array Value} {below : List Frame} {meth : Method} {c : Code} {D : va_G} {cyI : ClassId} {ad : Nat → Nat} {I : Nat → Int32} {A : Nat → Nat → Int32}
def B_X6_defect (I : Nat → Int32) (A : Nat → Nat → Int32) (x1 x2 : Int32) : Option (Int32) := (B_X5_find I A x1).bind fun r_1 => if r_1 = (-1) then none else (if x2 = 0 then some ((r_1 - r_1 / 12 * 12)) else if x2 = 1 then some ((r_1 / 12)) else if x2 = 2 then ((B_X5_at I A ((r_1 - r_1 / 12 * 12)) ((r_1 / 12))).bind fun r_7 => some r_7) else none)
set_option maxHeartbeats 4000000 in
set_option maxRecDepth 100000 in
theorem w_X6_defect (E : EX p s m args meth c cX6_defect 6 RX6 (some .int)) (K0 : KC D cyI ad s s.heap) (P : va_P D classes (cw cyI ad I A) s.heap)  {x1 x2 : Int32} {out : Int32} (h : B_X6_defect I A x1 x2 = some out) {ls : Array Slot} (hl : lv_has ls 6 [(0, .ref (ad 0)), (1, .int x1), (2, .int x2)]) : W p l e (rmL 5) s m args below meth c s.heap [] 0 0 (MQ below (vp_Si (fun z => z = out)) args s 0 0 (fun _ => False)) (F0 m 0 ls []) := by
  unfold B_X6_defect at h
  refine lv_aload_n E.hx E.hb dX6_defect_0 rfl (lv_at hl 0 rfl) ?_
  refine gf_X6_30 E K0 P dX6_defect_1 ?_
  refine lv_iload_n E.hx E.hb dX6_defect_4 rfl (lv_at hl 1 rfl) ?_
  obtain ⟨r_1, e_2, h⟩ := obind h
  refine iv_X6_218 E K0 P va_S.rf e_2 (by decide) hl.1 (Nat.le_of_ble_eq_true rfl) dX6_defect_5 ?_
  refine lv_istore_n (lv' := [(3, .int r_1), (0, .ref (ad 0)), (1, .int x1), (2, .int x2)]) E.hx E.hb dX6_defect_8 rfl hl (by decide) rfl (fun ls hl => ?_)
  refine lv_iload_n E.hx E.hb dX6_defect_9 rfl (lv_at hl 0 rfl) ?_
  refine lv_iconst (v := (-1)) E.hx E.hb dX6_defect_10 (by decide) ?_
  refine lv_icmp_ne (tgt := 24) E.hx E.hb dX6_defect_11 (by decide) (fun c_3 => ?_) (fun c_3 => ?_)
  · rw [if_neg c_3] at h
    refine lv_iload_n E.hx E.hb dX6_defect_24 rfl (lv_at hl 0 rfl) ?_
    refine lv_bipush (v := 12) E.hx E.hb dX6_defect_25 (by decide) ?_
    refine lv_irem E.hx E.hb dX6_defect_27 (by decide) ?_
    refine lv_istore (lv' := [(4, .int (r_1 - r_1 / 12 * 12)), (3, .int r_1), (0, .ref (ad 0)), (1, .int x1), (2, .int x2)]) E.hx E.hb dX6_defect_28 hl (by decide) rfl (fun ls hl => ?_)
    refine lv_iload_n E.hx E.hb dX6_defect_30 rfl (lv_at hl 1 rfl) ?_
    refine lv_bipush (v := 12) E.hx E.hb dX6_defect_31 (by decide) ?_
    refine lv_idiv E.hx E.hb dX6_defect_33 (by decide) ?_
    refine lv_istore (lv' := [(5, .int (r_1 / 12)), (4, .int (r_1 - r_1 / 12 * 12)), (3, .int r_1), (0, .ref (ad 0)), (1, .int x1), (2, .int x2)]) E.hx E.hb dX6_defect_34 hl (by decide) rfl (fun ls hl => ?_)
    refine lv_iload_n E.hx E.hb dX6_defect_36 rfl (lv_at hl 5 rfl) ?_
    by_cases c_4 : x2 = 0
    · rw [if_pos c_4] at h
      refine lv_tableIn (off := 27) (tgt := 64) E.hx E.hb dX6_defect_37 (by rw [c_4]; decide) (by rw [c_4]; decide) (by rw [c_4]; rfl) (by decide) ?_
      refine lv_iload E.hx E.hb dX6_defect_64 (lv_at hl 1 rfl) ?_
      exact W.iret E.hx E.hb E.hr (fun t ht _ => ⟨_, rfl, (Option.some.inj h), ht⟩) (fun q hq => nomatch hq) dX6_defect_66 E.hk
    rw [if_neg c_4] at h
    by_cases c_5 : x2 = 1
    · rw [if_pos c_5] at h
      refine lv_tableIn (off := 30) (tgt := 67) E.hx E.hb dX6_defect_37 (by rw [c_5]; decide) (by rw [c_5]; decide) (by rw [c_5]; rfl) (by decide) ?_
      refine lv_iload E.hx E.hb dX6_defect_67 (lv_at hl 0 rfl) ?_
      exact W.iret E.hx E.hb E.hr (fun t ht _ => ⟨_, rfl, (Option.some.inj h), ht⟩) (fun q hq => nomatch hq) dX6_defect_69 E.hk
    rw [if_neg c_5] at h
    by_cases c_6 : x2 = 2
    · rw [if_pos c_6] at h
      refine lv_tableIn (off := 33) (tgt := 70) E.hx E.hb dX6_defect_37 (by rw [c_6]; decide) (by rw [c_6]; decide) (by rw [c_6]; rfl) (by decide) ?_
      refine lv_aload_n E.hx E.hb dX6_defect_70 rfl (lv_at hl 3 rfl) ?_
      refine gf_X6_30 E K0 P dX6_defect_71 ?_
      refine lv_iload E.hx E.hb dX6_defect_74 (lv_at hl 1 rfl) ?_
      refine lv_iload E.hx E.hb dX6_defect_76 (lv_at hl 0 rfl) ?_
      obtain ⟨r_7, e_8, h⟩ := obind h
      refine iv_X6_206 E K0 P va_S.rf e_8 (by decide) hl.1 (Nat.le_of_ble_eq_true rfl) dX6_defect_78 ?_
      exact W.iret E.hx E.hb E.hr (fun t ht _ => ⟨_, rfl, (Option.some.inj h), ht⟩) (fun q hq => nomatch hq) dX6_defect_81 E.hk
    rw [if_neg c_6] at h
    refine lv_tableOut (tgt := 82) E.hx E.hb dX6_defect_37 (swo 2 (by decide) (by intro j hj; rcases (show j = 0 ∨ j = 1 ∨ j = 2 by omega) with rfl | rfl | rfl <;> assumption)) (by decide) ?_
    exact nomatch h
  · rw [if_pos c_3] at h
    exact nomatch h
theorem c_X6_defect (l : Launch) {H : Heap} {D : va_G} {cyI : ClassId} {ad : Nat → Nat} {I : Nat → Int32} {A : Nat → Nat → Int32} (P : va_P D classes (cw cyI ad I A) H) (x1 x2 : Int32) {out : Int32} (h : B_X6_defect I A x1 x2 = some out) : MRO l yX6_defect cX6_defect 6 (some .int) 5 [.ref (ad 0), .int x1, .int x2] H (KC D cyI ad) out := by
  refine Mof (own := RX6) (by decide +kernel) rfl rfl ?_
  intro p e s m args below meth c ls E hH K0 hl
  subst hH
  exact w_X6_defect E K0 P h hl
theorem ds_X6_defect : Dsc yX6_defect 2 := ⟨by decide +kernel, by decide +kernel, by decide +kernel⟩
end
end WALK

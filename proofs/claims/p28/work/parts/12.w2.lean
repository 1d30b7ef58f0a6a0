section WALK
section
variable {p : Program} {l : Launch} {e : Env} {R : Room} {s : State} {m : MethodId} {args : Array Value} {below : List Frame} {meth : Method} {c : Code} {H : Heap} {locs : List Loc} {cells slots : Nat} {Q : State → Prop} {cc : ByteArray} {nL pc : Nat} {ret : Option FieldType} {ls : Array Slot} {rest : List Value} {D : va_G} {cyI : ClassId} {ad : Nat → Nat} {I : Nat → Int32} {A : Nat → Nat → Int32}
theorem rpt_X0_37 (E : EX p s m args meth c cc nL RX0 ret) (N : AdN 44 ad) (K0 : KC D cyI ad s s.heap) (P : va_P D classes (cw cyI ad I A) H) (S : va_S (InN 44 ad) s.heap H locs) {q0 q1 a b n : Nat} {f : Nat → Int32} (he : (cw cyI ad I A)[q0]? = some (b, .inr (4, [.ref a]))) (ha : (cw cyI ad I A)[q1]? = some (a, .inl (cyI, n, .inl f))) {k : Nat} (hs : ∀ g : Nat → Int32, (cw cyI ad I A).set q1 (a, .inl (cyI, n, .inl g)) = cw cyI ad I (va_up A k g)) (hn : n < 2 ^ 31) {i x : Int32} (hR : RmOk R cells slots 0 3) (hls : ls.size = nL) (hro : (rest.map fun v => v.category).sum ≤ 8) (hdg : decode cc pc = .ok (.invokevirtual 37, 3)) (kk : ∀ (H1 : Heap) (locs1 : List Loc), va_P D classes (cw cyI ad I (va_up A k (rPut n f i x))) H1 → va_S (InN 44 ad) s.heap H1 locs1 → W p l e R s m args below meth c H1 locs1 cells slots Q (F0 m (pc + 3) ls rest)) : W p l e R s m args below meth c H locs cells slots Q (F0 m pc ls (.int x :: .int i :: .ref b :: rest)) :=
  cv_rw E (c_X4_put l (fun _ _ h => h.1) P (cw_D N I A) q0 q1 he ha hn i x) (gV kML_X0_37 kIM_X4_put kSE_X4_put kIN_X4 kCO_X4_put) rfl ds_X4_put rfl KC_blind (fun U _ hW => (K0.at S).warm hW) S (va_recv K0.k P (show classes[4]? = some (RX4, TX4, 1) from rfl) he) hR hls rfl hro hdg (fun H1 l1 hP hS => kk H1 l1 (by rw [← hs]; exact hP) hS)
end
section
variable {p : Program} {l : Launch} {e : Env} {s : State} {m : MethodId} {args : Array Value} {below : List Frame} {meth : Method} {c : Code} {D : va_G} {cyI : ClassId} {ad : Nat → Nat} {I : Nat → Int32} {A : Nat → Nat → Int32}
def B_X0_put (I : Nat → Int32) (A : Nat → Nat → Int32) (x1 x2 x3 x4 x5 : Int32) : Option ((Nat → Int32) × (Nat → Nat → Int32)) := some (I, (va_up ((va_up ((va_up ((va_up A 13 (rPut 40 (A 13) x1 x2))) 14 (rPut 40 (((va_up A 13 (rPut 40 (A 13) x1 x2))) 14) x1 x3))) 15 (rPut 40 (((va_up ((va_up A 13 (rPut 40 (A 13) x1 x2))) 14 (rPut 40 (((va_up A 13 (rPut 40 (A 13) x1 x2))) 14) x1 x3))) 15) x1 x4))) 16 (rPut 40 (((va_up ((va_up ((va_up A 13 (rPut 40 (A 13) x1 x2))) 14 (rPut 40 (((va_up A 13 (rPut 40 (A 13) x1 x2))) 14) x1 x3))) 15 (rPut 40 (((va_up ((va_up A 13 (rPut 40 (A 13) x1 x2))) 14 (rPut 40 (((va_up A 13 (rPut 40 (A 13) x1 x2))) 14) x1 x3))) 15) x1 x4))) 16) x1 x5)))
set_option maxHeartbeats 4000000 in
set_option maxRecDepth 100000 in
theorem w_X0_put (E : EX p s m args meth c cX0_put 6 RX0 none) (K0 : KC D cyI ad s s.heap) (N : AdN 44 ad) {H : Heap} {locs : List Loc} (P : va_P D classes (cw cyI ad I A) H) (S : va_S (InN 44 ad) s.heap H locs)  {x1 x2 x3 x4 x5 : Int32} {out : (Nat → Int32) × (Nat → Nat → Int32)} (h : B_X0_put I A x1 x2 x3 x4 x5 = some out) {ls : Array Slot} (hl : lv_has ls 6 [(0, .ref (ad 4)), (1, .int x1), (2, .int x2), (3, .int x3), (4, .int x4), (5, .int x5)]) : W p l e (rmL 1) s m args below meth c H locs 0 0 (MQ below (Qrw (InN 44 ad) (none) (fun H1 => va_P D classes (cw cyI ad out.1 out.2) H1)) args s 0 0 (InN 44 ad)) (F0 m 0 ls []) := by
  unfold B_X0_put at h
  refine lv_aload_n E.hx E.hb dX0_put_0 rfl (lv_at hl 0 rfl) ?_
  refine gf_X0_14 E K0 P dX0_put_1 ?_
  refine lv_iload_n E.hx E.hb dX0_put_4 rfl (lv_at hl 1 rfl) ?_
  refine lv_iload_n E.hx E.hb dX0_put_5 rfl (lv_at hl 2 rfl) ?_
  refine rpt_X0_37 E N K0 P S cw_r13 cw_a13 cw_s13 (by decide) (by decide) hl.1 (Nat.le_of_ble_eq_true rfl) dX0_put_6 (fun H locs P S => ?_)
  refine lv_aload_n E.hx E.hb dX0_put_9 rfl (lv_at hl 0 rfl) ?_
  refine gf_X0_20 E K0 P dX0_put_10 ?_
  refine lv_iload_n E.hx E.hb dX0_put_13 rfl (lv_at hl 1 rfl) ?_
  refine lv_iload_n E.hx E.hb dX0_put_14 rfl (lv_at hl 3 rfl) ?_
  refine rpt_X0_37 E N K0 P S cw_r14 cw_a14 cw_s14 (by decide) (by decide) hl.1 (Nat.le_of_ble_eq_true rfl) dX0_put_15 (fun H locs P S => ?_)
  refine lv_aload_n E.hx E.hb dX0_put_18 rfl (lv_at hl 0 rfl) ?_
  refine gf_X0_23 E K0 P dX0_put_19 ?_
  refine lv_iload_n E.hx E.hb dX0_put_22 rfl (lv_at hl 1 rfl) ?_
  refine lv_iload E.hx E.hb dX0_put_23 (lv_at hl 4 rfl) ?_
  refine rpt_X0_37 E N K0 P S cw_r15 cw_a15 cw_s15 (by decide) (by decide) hl.1 (Nat.le_of_ble_eq_true rfl) dX0_put_25 (fun H locs P S => ?_)
  refine lv_aload_n E.hx E.hb dX0_put_28 rfl (lv_at hl 0 rfl) ?_
  refine gf_X0_26 E K0 P dX0_put_29 ?_
  refine lv_iload_n E.hx E.hb dX0_put_32 rfl (lv_at hl 1 rfl) ?_
  refine lv_iload E.hx E.hb dX0_put_33 (lv_at hl 5 rfl) ?_
  refine rpt_X0_37 E N K0 P S cw_r16 cw_a16 cw_s16 (by decide) (by decide) hl.1 (Nat.le_of_ble_eq_true rfl) dX0_put_35 (fun H locs P S => ?_)
  cases h
  exact W.vret E.hx E.hb E.hr (fun t ht _ => ⟨rfl, by rw [ht]; exact P, S.F ht⟩) S.2.2 dX0_put_38 E.hk
theorem c_X0_put (l : Launch) {H : Heap} {D : va_G} {cyI : ClassId} {ad : Nat → Nat} {I : Nat → Int32} {A : Nat → Nat → Int32} (N : AdN 44 ad) (P : va_P D classes (cw cyI ad I A) H) (x1 x2 x3 x4 x5 : Int32) {out : (Nat → Int32) × (Nat → Nat → Int32)} (h : B_X0_put I A x1 x2 x3 x4 x5 = some out) : MRW l yX0_put cX0_put 6 none 1 [.ref (ad 4), .int x1, .int x2, .int x3, .int x4, .int x5] H (KC D cyI ad) (InN 44 ad) none (fun H1 => va_P D classes (cw cyI ad out.1 out.2) H1) := by
  refine Mof (own := RX0) (by decide +kernel) rfl rfl ?_
  intro p e s m args below meth c ls E hH K0 hl
  subst hH
  exact w_X0_put E K0 N P va_S.rf h hl
theorem ds_X0_put : Dsc yX0_put 5 := ⟨by decide +kernel, by decide +kernel, by decide +kernel⟩
end
section
variable {p : Program} {l : Launch} {e : Env} {R : Room} {s : State} {m : MethodId} {args : Array Value} {below : List Frame} {meth : Method} {c : Code} {H : Heap} {locs : List Loc} {cells slots : Nat} {Q : State → Prop} {cc : ByteArray} {nL pc : Nat} {ret : Option FieldType} {ls : Array Slot} {rest : List Value} {D : va_G} {cyI : ClassId} {ad : Nat → Nat} {I : Nat → Int32} {A : Nat → Nat → Int32}
theorem iv_X0_33 (E : EX p s m args meth c cc nL RX0 ret) (N : AdN 44 ad) (K0 : KC D cyI ad s s.heap) (P : va_P D classes (cw cyI ad I A) H) (S : va_S (InN 44 ad) s.heap H locs) {a0 a1 a2 a3 a4 : Int32} {v : (Nat → Int32) × (Nat → Nat → Int32)} (hv : B_X0_put I A a0 a1 a2 a3 a4 = some v) (hR : RmOk R cells slots 1 6) (hls : ls.size = nL) (hro : (rest.map fun v => v.category).sum ≤ 8) (hdg : decode cc pc = .ok (.invokevirtual 33, 3)) (kk : ∀ (H1 : Heap) (locs1 : List Loc), va_P D classes (cw cyI ad v.1 v.2) H1 → va_S (InN 44 ad) s.heap H1 locs1 → W p l e R s m args below meth c H1 locs1 cells slots Q (F0 m (pc + 3) ls (rest))) : W p l e R s m args below meth c H locs cells slots Q (F0 m pc ls (.int a4 :: .int a3 :: .int a2 :: .int a1 :: .int a0 :: .ref (ad 4) :: rest)) :=
  cv_rw E (c_X0_put l N P a0 a1 a2 a3 a4 hv) (gV kML_X0_33 kIM_X0_put kSE_X0_put kIN_X0 kCO_X0_put) rfl ds_X0_put rfl KC_blind (fun U _ hW => (K0.at S).warm hW) S (va_recv K0.k P (show classes[0]? = some (RX0, TX0, 5) from rfl) cw_g4) hR hls rfl hro hdg kk
end
section
variable {p : Program} {l : Launch} {e : Env} {s : State} {m : MethodId} {args : Array Value} {below : List Frame} {meth : Method} {c : Code} {D : va_G} {cyI : ClassId} {ad : Nat → Nat} {I : Nat → Int32} {A : Nat → Nat → Int32}
def B_X0_add (I : Nat → Int32) (A : Nat → Nat → Int32) (x1 x2 x3 x4 : Int32) : Option (Int32 × (Nat → Int32) × (Nat → Nat → Int32)) := (B_X0_put I A ((I 10)) x1 x2 x3 x4).bind fun q_1 => some ((((va_up q_1.1 10 (((q_1.1 10) + 1)))) 10), (va_up q_1.1 10 (((q_1.1 10) + 1))), q_1.2)
set_option maxHeartbeats 4000000 in
set_option maxRecDepth 100000 in
theorem w_X0_add (E : EX p s m args meth c cX0_add 5 RX0 (some .int)) (K0 : KC D cyI ad s s.heap) (N : AdN 44 ad) {H : Heap} {locs : List Loc} (P : va_P D classes (cw cyI ad I A) H) (S : va_S (InN 44 ad) s.heap H locs)  {x1 x2 x3 x4 : Int32} {out : Int32 × (Nat → Int32) × (Nat → Nat → Int32)} (h : B_X0_add I A x1 x2 x3 x4 = some out) {ls : Array Slot} (hl : lv_has ls 5 [(0, .ref (ad 4)), (1, .int x1), (2, .int x2), (3, .int x3), (4, .int x4)]) : W p l e (rmL 2) s m args below meth c H locs 0 0 (MQ below (Qrw (InN 44 ad) (some (.int out.1)) (fun H1 => va_P D classes (cw cyI ad out.2.1 out.2.2) H1)) args s 0 0 (InN 44 ad)) (F0 m 0 ls []) := by
  unfold B_X0_add at h
  refine lv_aload_n E.hx E.hb dX0_add_0 rfl (lv_at hl 0 rfl) ?_
  refine lv_aload_n E.hx E.hb dX0_add_1 rfl (lv_at hl 0 rfl) ?_
  refine gf_X0_29 E K0 P dX0_add_2 ?_
  refine lv_iload_n E.hx E.hb dX0_add_5 rfl (lv_at hl 1 rfl) ?_
  refine lv_iload_n E.hx E.hb dX0_add_6 rfl (lv_at hl 2 rfl) ?_
  refine lv_iload_n E.hx E.hb dX0_add_7 rfl (lv_at hl 3 rfl) ?_
  refine lv_iload E.hx E.hb dX0_add_8 (lv_at hl 4 rfl) ?_
  obtain ⟨q_1, e_2, h⟩ := obind h
  refine iv_X0_33 E N K0 P S e_2 (by decide) hl.1 (Nat.le_of_ble_eq_true rfl) dX0_add_10 (fun H locs P S => ?_)
  refine lv_aload_n E.hx E.hb dX0_add_13 rfl (lv_at hl 0 rfl) ?_
  refine lv_dup E.hx E.hb dX0_add_14 rfl ?_
  refine gf_X0_29 E K0 P dX0_add_15 ?_
  refine lv_iconst (v := 1) E.hx E.hb dX0_add_18 (by decide) ?_
  refine lv_iadd E.hx E.hb dX0_add_19 ?_
  refine pf_X0_29 E N K0 P S dX0_add_20 (fun H locs P S => ?_)
  refine lv_aload_n E.hx E.hb dX0_add_23 rfl (lv_at hl 0 rfl) ?_
  refine gf_X0_29 E K0 P dX0_add_24 ?_
  cases h
  exact W.iret E.hx E.hb E.hr (fun t ht _ => ⟨rfl, by rw [ht]; exact P, S.F ht⟩) S.2.2 dX0_add_27 E.hk
theorem c_X0_add (l : Launch) {H : Heap} {D : va_G} {cyI : ClassId} {ad : Nat → Nat} {I : Nat → Int32} {A : Nat → Nat → Int32} (N : AdN 44 ad) (P : va_P D classes (cw cyI ad I A) H) (x1 x2 x3 x4 : Int32) {out : Int32 × (Nat → Int32) × (Nat → Nat → Int32)} (h : B_X0_add I A x1 x2 x3 x4 = some out) : MRW l yX0_add cX0_add 5 (some .int) 2 [.ref (ad 4), .int x1, .int x2, .int x3, .int x4] H (KC D cyI ad) (InN 44 ad) (some (.int out.1)) (fun H1 => va_P D classes (cw cyI ad out.2.1 out.2.2) H1) := by
  refine Mof (own := RX0) (by decide +kernel) rfl rfl ?_
  intro p e s m args below meth c ls E hH K0 hl
  subst hH
  exact w_X0_add E K0 N P va_S.rf h hl
theorem ds_X0_add : Dsc yX0_add 4 := ⟨by decide +kernel, by decide +kernel, by decide +kernel⟩
end
section
variable {p : Program} {l : Launch} {e : Env} {s : State} {m : MethodId} {args : Array Value} {below : List Frame} {meth : Method} {c : Code} {D : va_G} {cyI : ClassId} {ad : Nat → Nat} {I : Nat → Int32} {A : Nat → Nat → Int32}
def B_X3_left (I : Nat → Int32) (A : Nat → Nat → Int32) (x1 : Int32) : Int32 := (rAt 8 (A 0) x1)
set_option maxHeartbeats 4000000 in
set_option maxRecDepth 100000 in
theorem w_X3_left (E : EX p s m args meth c cX3_left 2 RX3 (some .int)) (K0 : KC D cyI ad s s.heap) (P : va_P D classes (cw cyI ad I A) s.heap)  {x1 : Int32} {out : Int32} (h : B_X3_left I A x1 = out) {ls : Array Slot} (hl : lv_has ls 2 [(0, .ref (ad 1)), (1, .int x1)]) : W p l e (rmL 1) s m args below meth c s.heap [] 0 0 (MQ below (vp_Si (fun z => z = out)) args s 0 0 (fun _ => False)) (F0 m 0 ls []) := by
  unfold B_X3_left at h
  refine lv_aload_n E.hx E.hb dX3_left_0 rfl (lv_at hl 0 rfl) ?_
  refine gf_X3_14 E K0 P dX3_left_1 ?_
  refine lv_iload_n E.hx E.hb dX3_left_4 rfl (lv_at hl 1 rfl) ?_
  refine rat_X3_49 E K0 P va_S.rf cw_r0 cw_a0 (by decide) (by decide) hl.1 (Nat.le_of_ble_eq_true rfl) dX3_left_5 ?_
  exact W.iret E.hx E.hb E.hr (fun t ht _ => ⟨_, rfl, h, ht⟩) (fun q hq => nomatch hq) dX3_left_8 E.hk
theorem c_X3_left (l : Launch) {H : Heap} {D : va_G} {cyI : ClassId} {ad : Nat → Nat} {I : Nat → Int32} {A : Nat → Nat → Int32} (P : va_P D classes (cw cyI ad I A) H) (x1 : Int32) : MRO l yX3_left cX3_left 2 (some .int) 1 [.ref (ad 1), .int x1] H (KC D cyI ad) (B_X3_left I A x1) := by
  refine Mof (own := RX3) (by decide +kernel) rfl rfl ?_
  intro p e s m args below meth c ls E hH K0 hl
  subst hH
  exact w_X3_left E K0 P rfl hl
theorem ds_X3_left : Dsc yX3_left 1 := ⟨by decide +kernel, by decide +kernel, by decide +kernel⟩
end
section
variable {p : Program} {l : Launch} {e : Env} {s : State} {m : MethodId} {args : Array Value} {below : List Frame} {meth : Method} {c : Code} {D : va_G} {cyI : ClassId} {ad : Nat → Nat} {I : Nat → Int32} {A : Nat → Nat → Int32}
def B_X3_top (I : Nat → Int32) (A : Nat → Nat → Int32) (x1 : Int32) : Int32 := (rAt 8 (A 1) x1)
set_option maxHeartbeats 4000000 in
set_option maxRecDepth 100000 in
theorem w_X3_top (E : EX p s m args meth c cX3_top 2 RX3 (some .int)) (K0 : KC D cyI ad s s.heap) (P : va_P D classes (cw cyI ad I A) s.heap)  {x1 : Int32} {out : Int32} (h : B_X3_top I A x1 = out) {ls : Array Slot} (hl : lv_has ls 2 [(0, .ref (ad 1)), (1, .int x1)]) : W p l e (rmL 1) s m args below meth c s.heap [] 0 0 (MQ below (vp_Si (fun z => z = out)) args s 0 0 (fun _ => False)) (F0 m 0 ls []) := by
  unfold B_X3_top at h
  refine lv_aload_n E.hx E.hb dX3_top_0 rfl (lv_at hl 0 rfl) ?_
  refine gf_X3_20 E K0 P dX3_top_1 ?_
  refine lv_iload_n E.hx E.hb dX3_top_4 rfl (lv_at hl 1 rfl) ?_
  refine rat_X3_49 E K0 P va_S.rf cw_r1 cw_a1 (by decide) (by decide) hl.1 (Nat.le_of_ble_eq_true rfl) dX3_top_5 ?_
  exact W.iret E.hx E.hb E.hr (fun t ht _ => ⟨_, rfl, h, ht⟩) (fun q hq => nomatch hq) dX3_top_8 E.hk
theorem c_X3_top (l : Launch) {H : Heap} {D : va_G} {cyI : ClassId} {ad : Nat → Nat} {I : Nat → Int32} {A : Nat → Nat → Int32} (P : va_P D classes (cw cyI ad I A) H) (x1 : Int32) : MRO l yX3_top cX3_top 2 (some .int) 1 [.ref (ad 1), .int x1] H (KC D cyI ad) (B_X3_top I A x1) := by
  refine Mof (own := RX3) (by decide +kernel) rfl rfl ?_
  intro p e s m args below meth c ls E hH K0 hl
  subst hH
  exact w_X3_top E K0 P rfl hl
theorem ds_X3_top : Dsc yX3_top 1 := ⟨by decide +kernel, by decide +kernel, by decide +kernel⟩
end
section
variable {p : Program} {l : Launch} {e : Env} {s : State} {m : MethodId} {args : Array Value} {below : List Frame} {meth : Method} {c : Code} {D : va_G} {cyI : ClassId} {ad : Nat → Nat} {I : Nat → Int32} {A : Nat → Nat → Int32}
def B_X3_width (I : Nat → Int32) (A : Nat → Nat → Int32) (x1 : Int32) : Int32 := (rAt 8 (A 2) x1)
set_option maxHeartbeats 4000000 in
set_option maxRecDepth 100000 in
theorem w_X3_width (E : EX p s m args meth c cX3_width 2 RX3 (some .int)) (K0 : KC D cyI ad s s.heap) (P : va_P D classes (cw cyI ad I A) s.heap)  {x1 : Int32} {out : Int32} (h : B_X3_width I A x1 = out) {ls : Array Slot} (hl : lv_has ls 2 [(0, .ref (ad 1)), (1, .int x1)]) : W p l e (rmL 1) s m args below meth c s.heap [] 0 0 (MQ below (vp_Si (fun z => z = out)) args s 0 0 (fun _ => False)) (F0 m 0 ls []) := by
  unfold B_X3_width at h
  refine lv_aload_n E.hx E.hb dX3_width_0 rfl (lv_at hl 0 rfl) ?_
  refine gf_X3_23 E K0 P dX3_width_1 ?_
  refine lv_iload_n E.hx E.hb dX3_width_4 rfl (lv_at hl 1 rfl) ?_
  refine rat_X3_49 E K0 P va_S.rf cw_r2 cw_a2 (by decide) (by decide) hl.1 (Nat.le_of_ble_eq_true rfl) dX3_width_5 ?_
  exact W.iret E.hx E.hb E.hr (fun t ht _ => ⟨_, rfl, h, ht⟩) (fun q hq => nomatch hq) dX3_width_8 E.hk
theorem c_X3_width (l : Launch) {H : Heap} {D : va_G} {cyI : ClassId} {ad : Nat → Nat} {I : Nat → Int32} {A : Nat → Nat → Int32} (P : va_P D classes (cw cyI ad I A) H) (x1 : Int32) : MRO l yX3_width cX3_width 2 (some .int) 1 [.ref (ad 1), .int x1] H (KC D cyI ad) (B_X3_width I A x1) := by
  refine Mof (own := RX3) (by decide +kernel) rfl rfl ?_
  intro p e s m args below meth c ls E hH K0 hl
  subst hH
  exact w_X3_width E K0 P rfl hl
theorem ds_X3_width : Dsc yX3_width 1 := ⟨by decide +kernel, by decide +kernel, by decide +kernel⟩
end
section
variable {p : Program} {l : Launch} {e : Env} {s : State} {m : MethodId} {args : Array Value} {below : List Frame} {meth : Method} {c : Code} {D : va_G} {cyI : ClassId} {ad : Nat → Nat} {I : Nat → Int32} {A : Nat → Nat → Int32}
def B_X3_height (I : Nat → Int32) (A : Nat → Nat → Int32) (x1 : Int32) : Int32 := (rAt 8 (A 3) x1)
set_option maxHeartbeats 4000000 in
set_option maxRecDepth 100000 in
theorem w_X3_height (E : EX p s m args meth c cX3_height 2 RX3 (some .int)) (K0 : KC D cyI ad s s.heap) (P : va_P D classes (cw cyI ad I A) s.heap)  {x1 : Int32} {out : Int32} (h : B_X3_height I A x1 = out) {ls : Array Slot} (hl : lv_has ls 2 [(0, .ref (ad 1)), (1, .int x1)]) : W p l e (rmL 1) s m args below meth c s.heap [] 0 0 (MQ below (vp_Si (fun z => z = out)) args s 0 0 (fun _ => False)) (F0 m 0 ls []) := by
  unfold B_X3_height at h
  refine lv_aload_n E.hx E.hb dX3_height_0 rfl (lv_at hl 0 rfl) ?_
  refine gf_X3_26 E K0 P dX3_height_1 ?_
  refine lv_iload_n E.hx E.hb dX3_height_4 rfl (lv_at hl 1 rfl) ?_
  refine rat_X3_49 E K0 P va_S.rf cw_r3 cw_a3 (by decide) (by decide) hl.1 (Nat.le_of_ble_eq_true rfl) dX3_height_5 ?_
  exact W.iret E.hx E.hb E.hr (fun t ht _ => ⟨_, rfl, h, ht⟩) (fun q hq => nomatch hq) dX3_height_8 E.hk
theorem c_X3_height (l : Launch) {H : Heap} {D : va_G} {cyI : ClassId} {ad : Nat → Nat} {I : Nat → Int32} {A : Nat → Nat → Int32} (P : va_P D classes (cw cyI ad I A) H) (x1 : Int32) : MRO l yX3_height cX3_height 2 (some .int) 1 [.ref (ad 1), .int x1] H (KC D cyI ad) (B_X3_height I A x1) := by
  refine Mof (own := RX3) (by decide +kernel) rfl rfl ?_
  intro p e s m args below meth c ls E hH K0 hl
  subst hH
  exact w_X3_height E K0 P rfl hl
theorem ds_X3_height : Dsc yX3_height 1 := ⟨by decide +kernel, by decide +kernel, by decide +kernel⟩
end
section
variable {p : Program} {l : Launch} {e : Env} {R : Room} {s : State} {m : MethodId} {args : Array Value} {below : List Frame} {meth : Method} {c : Code} {H : Heap} {locs : List Loc} {cells slots : Nat} {Q : State → Prop} {cc : ByteArray} {nL pc : Nat} {ret : Option FieldType} {ls : Array Slot} {rest : List Value} {D : va_G} {cyI : ClassId} {ad : Nat → Nat} {I : Nat → Int32} {A : Nat → Nat → Int32}
theorem iv_X1_112 (E : EX p s m args meth c cc nL RX1 ret) (K0 : KC D cyI ad s s.heap) (P : va_P D classes (cw cyI ad I A) H) (S : va_S (InN 44 ad) s.heap H locs) {a0 : Int32} (hR : RmOk R cells slots 1 2) (hls : ls.size = nL) (hro : (rest.map fun v => v.category).sum ≤ 8) (hdg : decode cc pc = .ok (.invokevirtual 112, 3)) (kk : W p l e R s m args below meth c H locs cells slots Q (F0 m (pc + 3) ls (.int (B_X3_left I A a0) :: rest))) : W p l e R s m args below meth c H locs cells slots Q (F0 m pc ls (.int a0 :: .ref (ad 1) :: rest)) :=
  cv_ro E (c_X3_left l P a0 ) (gV kML_X1_112 kIM_X3_left kSE_X3_left kIN_X3 kCO_X3_left) rfl ds_X3_left rfl KC_blind (fun U _ hW => (K0.at S).warm hW) (va_recv K0.k P (show classes[3]? = some (RX3, TX3, 9) from rfl) cw_g1) hR hls rfl hro hdg kk
end
section
variable {p : Program} {l : Launch} {e : Env} {R : Room} {s : State} {m : MethodId} {args : Array Value} {below : List Frame} {meth : Method} {c : Code} {H : Heap} {locs : List Loc} {cells slots : Nat} {Q : State → Prop} {cc : ByteArray} {nL pc : Nat} {ret : Option FieldType} {ls : Array Slot} {rest : List Value} {D : va_G} {cyI : ClassId} {ad : Nat → Nat} {I : Nat → Int32} {A : Nat → Nat → Int32}
theorem iv_X1_115 (E : EX p s m args meth c cc nL RX1 ret) (K0 : KC D cyI ad s s.heap) (P : va_P D classes (cw cyI ad I A) H) (S : va_S (InN 44 ad) s.heap H locs) {a0 : Int32} (hR : RmOk R cells slots 1 2) (hls : ls.size = nL) (hro : (rest.map fun v => v.category).sum ≤ 8) (hdg : decode cc pc = .ok (.invokevirtual 115, 3)) (kk : W p l e R s m args below meth c H locs cells slots Q (F0 m (pc + 3) ls (.int (B_X3_top I A a0) :: rest))) : W p l e R s m args below meth c H locs cells slots Q (F0 m pc ls (.int a0 :: .ref (ad 1) :: rest)) :=
  cv_ro E (c_X3_top l P a0 ) (gV kML_X1_115 kIM_X3_top kSE_X3_top kIN_X3 kCO_X3_top) rfl ds_X3_top rfl KC_blind (fun U _ hW => (K0.at S).warm hW) (va_recv K0.k P (show classes[3]? = some (RX3, TX3, 9) from rfl) cw_g1) hR hls rfl hro hdg kk
end
section
variable {p : Program} {l : Launch} {e : Env} {R : Room} {s : State} {m : MethodId} {args : Array Value} {below : List Frame} {meth : Method} {c : Code} {H : Heap} {locs : List Loc} {cells slots : Nat} {Q : State → Prop} {cc : ByteArray} {nL pc : Nat} {ret : Option FieldType} {ls : Array Slot} {rest : List Value} {D : va_G} {cyI : ClassId} {ad : Nat → Nat} {I : Nat → Int32} {A : Nat → Nat → Int32}
theorem iv_X1_118 (E : EX p s m args meth c cc nL RX1 ret) (K0 : KC D cyI ad s s.heap) (P : va_P D classes (cw cyI ad I A) H) (S : va_S (InN 44 ad) s.heap H locs) {a0 : Int32} (hR : RmOk R cells slots 1 2) (hls : ls.size = nL) (hro : (rest.map fun v => v.category).sum ≤ 8) (hdg : decode cc pc = .ok (.invokevirtual 118, 3)) (kk : W p l e R s m args below meth c H locs cells slots Q (F0 m (pc + 3) ls (.int (B_X3_width I A a0) :: rest))) : W p l e R s m args below meth c H locs cells slots Q (F0 m pc ls (.int a0 :: .ref (ad 1) :: rest)) :=
  cv_ro E (c_X3_width l P a0 ) (gV kML_X1_118 kIM_X3_width kSE_X3_width kIN_X3 kCO_X3_width) rfl ds_X3_width rfl KC_blind (fun U _ hW => (K0.at S).warm hW) (va_recv K0.k P (show classes[3]? = some (RX3, TX3, 9) from rfl) cw_g1) hR hls rfl hro hdg kk
end
section
variable {p : Program} {l : Launch} {e : Env} {R : Room} {s : State} {m : MethodId} {args : Array Value} {below : List Frame} {meth : Method} {c : Code} {H : Heap} {locs : List Loc} {cells slots : Nat} {Q : State → Prop} {cc : ByteArray} {nL pc : Nat} {ret : Option FieldType} {ls : Array Slot} {rest : List Value} {D : va_G} {cyI : ClassId} {ad : Nat → Nat} {I : Nat → Int32} {A : Nat → Nat → Int32}
theorem iv_X1_120 (E : EX p s m args meth c cc nL RX1 ret) (K0 : KC D cyI ad s s.heap) (P : va_P D classes (cw cyI ad I A) H) (S : va_S (InN 44 ad) s.heap H locs) {a0 : Int32} (hR : RmOk R cells slots 1 2) (hls : ls.size = nL) (hro : (rest.map fun v => v.category).sum ≤ 8) (hdg : decode cc pc = .ok (.invokevirtual 120, 3)) (kk : W p l e R s m args below meth c H locs cells slots Q (F0 m (pc + 3) ls (.int (B_X3_height I A a0) :: rest))) : W p l e R s m args below meth c H locs cells slots Q (F0 m pc ls (.int a0 :: .ref (ad 1) :: rest)) :=
  cv_ro E (c_X3_height l P a0 ) (gV kML_X1_120 kIM_X3_height kSE_X3_height kIN_X3 kCO_X3_height) rfl ds_X3_height rfl KC_blind (fun U _ hW => (K0.at S).warm hW) (va_recv K0.k P (show classes[3]? = some (RX3, TX3, 9) from rfl) cw_g1) hR hls rfl hro hdg kk
end
section
variable {p : Program} {l : Launch} {e : Env} {s : State} {m : MethodId} {args : Array Value} {below : List Frame} {meth : Method} {c : Code} {D : va_G} {cyI : ClassId} {ad : Nat → Nat} {I : Nat → Int32} {A : Nat → Nat → Int32}
def B_X1_heldInPixel_L60 (I : Nat → Int32) (A : Nat → Nat → Int32) (x3 x5 x6 x7 : Int32) : Nat → Int32 → Int32 → Option (Int32)
  | 0 => fun _ _ => none
  | n + 1 => fun x2 x8 => if x5 ≤ x8 then some (x2) else (B_X1_heldInPixel_L60 I A x3 x5 x6 x7 n) ((x2 + (B_X1_heldWith I A ((B_X6_numberOf x8 x7)) ((B_X1_directionAt I A x8 x7))))) (x8 + 1)
theorem B_X1_heldInPixel_L60_s (I : Nat → Int32) (A : Nat → Nat → Int32) (x3 x5 x6 x7 x2 x8 : Int32) (n : Nat) : B_X1_heldInPixel_L60 I A x3 x5 x6 x7 (n + 1) x2 x8 = if x5 ≤ x8 then some (x2) else (B_X1_heldInPixel_L60 I A x3 x5 x6 x7 n) ((x2 + (B_X1_heldWith I A ((B_X6_numberOf x8 x7)) ((B_X1_directionAt I A x8 x7))))) (x8 + 1) := rfl
set_option maxHeartbeats 4000000 in
set_option maxRecDepth 100000 in
theorem w_X1_heldInPixel_L60 (E : EX p s m args meth c cX1_heldInPixel 9 RX1 (some .int)) (K0 : KC D cyI ad s s.heap) (P : va_P D classes (cw cyI ad I A) s.heap) {x3 x5 x6 x7 : Int32} {out : Int32} : ∀ (n : Nat) {x2 x8 : Int32} {o : Int32} (h : B_X1_heldInPixel_L60 I A x3 x5 x6 x7 n x2 x8 = some o) {ls : Array Slot} (hl : lv_has ls 9 [(0, .ref (ad 2)), (2, .int x2), (3, .int x3), (5, .int x5), (6, .int x6), (7, .int x7), (8, .int x8)]) (kx : ∀ {ls : Array Slot}, lv_has ls 9 [(0, .ref (ad 2)), (2, .int o), (3, .int x3), (5, .int x5), (6, .int x6), (7, .int x7)] → W p l e (rmL 3) s m args below meth c s.heap [] 0 0 (MQ below (vp_Si (fun z => z = out)) args s 0 0 (fun _ => False)) (F0 m 95 ls [])), W p l e (rmL 3) s m args below meth c s.heap [] 0 0 (MQ below (vp_Si (fun z => z = out)) args s 0 0 (fun _ => False)) (F0 m 60 ls []) := by
  intro n
  induction n with
  | zero => intro x2 x8 o h ls hl kx; exact nomatch (show none = some o from h)
  | succ n ih =>
    intro x2 x8 o h ls hl kx
    rw [B_X1_heldInPixel_L60_s] at h
    refine lv_iload E.hx E.hb dX1_heldInPixel_60 (lv_at hl 6 rfl) ?_
    refine lv_iload E.hx E.hb dX1_heldInPixel_62 (lv_at hl 3 rfl) ?_
    refine lv_icmp_ge (tgt := 95) E.hx E.hb dX1_heldInPixel_64 (by decide) (fun c_2 => ?_) (fun c_2 => ?_)
    · rw [if_pos c_2] at h
      cases h
      exact kx  (lv_sub hl [0, 1, 2, 3, 4, 5] rfl)
    · rw [if_neg c_2] at h
      refine lv_iload_n E.hx E.hb dX1_heldInPixel_67 rfl (lv_at hl 1 rfl) ?_
      refine lv_aload_n E.hx E.hb dX1_heldInPixel_68 rfl (lv_at hl 0 rfl) ?_
      refine lv_iload E.hx E.hb dX1_heldInPixel_69 (lv_at hl 6 rfl) ?_
      refine lv_iload E.hx E.hb dX1_heldInPixel_71 (lv_at hl 5 rfl) ?_
      refine iv_X1_55 E K0 va_S.rf (by decide) hl.1 (Nat.le_of_ble_eq_true rfl) dX1_heldInPixel_73 ?_
      refine lv_aload_n E.hx E.hb dX1_heldInPixel_76 rfl (lv_at hl 0 rfl) ?_
      refine lv_iload E.hx E.hb dX1_heldInPixel_77 (lv_at hl 6 rfl) ?_
      refine lv_iload E.hx E.hb dX1_heldInPixel_79 (lv_at hl 5 rfl) ?_
      refine iv_X1_88 E K0 P va_S.rf (by decide) hl.1 (Nat.le_of_ble_eq_true rfl) dX1_heldInPixel_81 ?_
      refine iv_X1_81 E K0 P va_S.rf (by decide) hl.1 (Nat.le_of_ble_eq_true rfl) dX1_heldInPixel_84 ?_
      refine lv_iadd E.hx E.hb dX1_heldInPixel_87 ?_
      refine lv_istore_n (lv' := [(2, .int (x2 + (B_X1_heldWith I A ((B_X6_numberOf x8 x7)) ((B_X1_directionAt I A x8 x7))))), (0, .ref (ad 2)), (3, .int x3), (5, .int x5), (6, .int x6), (7, .int x7), (8, .int x8)]) E.hx E.hb dX1_heldInPixel_88 rfl hl (by decide) rfl (fun ls hl => ?_)
      refine lv_iinc (v := x8 + 1) (lv' := [(8, .int (x8 + 1)), (2, .int (x2 + (B_X1_heldWith I A ((B_X6_numberOf x8 x7)) ((B_X1_directionAt I A x8 x7))))), (0, .ref (ad 2)), (3, .int x3), (5, .int x5), (6, .int x6), (7, .int x7)]) E.hx E.hb dX1_heldInPixel_89 hl (k := 6) rfl rfl (by decide) rfl (fun ls hl => ?_)
      refine lv_goto (tgt := 60) E.hx E.hb dX1_heldInPixel_92 (by decide) ?_
      exact ih  h (lv_sub hl [2, 1, 3, 4, 5, 6, 0] rfl) kx
def B_X1_heldInPixel_L50 (I : Nat → Int32) (A : Nat → Nat → Int32) (x3 x5 x6 : Int32) : Nat → Int32 → Int32 → Option (Int32)
  | 0 => fun _ _ => none
  | n + 1 => fun x2 x7 => if x6 ≤ x7 then some (x2) else ((B_X1_heldInPixel_L60 I A x3 x5 x6 x7 FU x2 x3).bind fun q_3 => (B_X1_heldInPixel_L50 I A x3 x5 x6 n) q_3 (x7 + 1))
theorem B_X1_heldInPixel_L50_s (I : Nat → Int32) (A : Nat → Nat → Int32) (x3 x5 x6 x2 x7 : Int32) (n : Nat) : B_X1_heldInPixel_L50 I A x3 x5 x6 (n + 1) x2 x7 = if x6 ≤ x7 then some (x2) else ((B_X1_heldInPixel_L60 I A x3 x5 x6 x7 FU x2 x3).bind fun q_3 => (B_X1_heldInPixel_L50 I A x3 x5 x6 n) q_3 (x7 + 1)) := rfl
set_option maxHeartbeats 4000000 in
set_option maxRecDepth 100000 in
theorem w_X1_heldInPixel_L50 (E : EX p s m args meth c cX1_heldInPixel 9 RX1 (some .int)) (K0 : KC D cyI ad s s.heap) (P : va_P D classes (cw cyI ad I A) s.heap) {x3 x5 x6 : Int32} {out : Int32} : ∀ (n : Nat) {x2 x7 : Int32} {o : Int32} (h : B_X1_heldInPixel_L50 I A x3 x5 x6 n x2 x7 = some o) {ls : Array Slot} (hl : lv_has ls 9 [(0, .ref (ad 2)), (2, .int x2), (3, .int x3), (5, .int x5), (6, .int x6), (7, .int x7)]) (kx : ∀ {ls : Array Slot}, lv_has ls 9 [(2, .int o)] → W p l e (rmL 3) s m args below meth c s.heap [] 0 0 (MQ below (vp_Si (fun z => z = out)) args s 0 0 (fun _ => False)) (F0 m 101 ls [])), W p l e (rmL 3) s m args below meth c s.heap [] 0 0 (MQ below (vp_Si (fun z => z = out)) args s 0 0 (fun _ => False)) (F0 m 50 ls []) := by
  intro n
  induction n with
  | zero => intro x2 x7 o h ls hl kx; exact nomatch (show none = some o from h)
  | succ n ih =>
    intro x2 x7 o h ls hl kx
    rw [B_X1_heldInPixel_L50_s] at h
    refine lv_iload E.hx E.hb dX1_heldInPixel_50 (lv_at hl 5 rfl) ?_
    refine lv_iload E.hx E.hb dX1_heldInPixel_52 (lv_at hl 4 rfl) ?_
    refine lv_icmp_ge (tgt := 101) E.hx E.hb dX1_heldInPixel_54 (by decide) (fun c_1 => ?_) (fun c_1 => ?_)
    · rw [if_pos c_1] at h
      cases h
      exact kx  (lv_sub hl [1] rfl)
    · rw [if_neg c_1] at h
      refine lv_iload_n E.hx E.hb dX1_heldInPixel_57 rfl (lv_at hl 2 rfl) ?_
      refine lv_istore (lv' := [(8, .int x3), (0, .ref (ad 2)), (2, .int x2), (3, .int x3), (5, .int x5), (6, .int x6), (7, .int x7)]) E.hx E.hb dX1_heldInPixel_58 hl (by decide) rfl (fun ls hl => ?_)
      obtain ⟨q_3, e_4, h⟩ := obind h
      refine w_X1_heldInPixel_L60 E K0 P FU e_4 (lv_sub hl [1, 2, 3, 4, 5, 6, 0] rfl) (fun {ls} hl => ?_)
      refine lv_iinc (v := x7 + 1) (lv' := [(7, .int (x7 + 1)), (0, .ref (ad 2)), (2, .int q_3), (3, .int x3), (5, .int x5), (6, .int x6)]) E.hx E.hb dX1_heldInPixel_95 hl (k := 5) rfl rfl (by decide) rfl (fun ls hl => ?_)
      refine lv_goto (tgt := 50) E.hx E.hb dX1_heldInPixel_98 (by decide) ?_
      exact ih  h (lv_sub hl [1, 2, 3, 4, 5, 0] rfl) kx
def B_X1_heldInPixel (I : Nat → Int32) (A : Nat → Nat → Int32) (x1 : Int32) : Option (Int32) := (B_X1_heldInPixel_L50 I A ((B_X3_left I A x1)) (((B_X3_left I A x1) + (B_X3_width I A x1))) (((B_X3_top I A x1) + (B_X3_height I A x1))) FU 0 ((B_X3_top I A x1))).bind fun q_5 => some q_5
set_option maxHeartbeats 4000000 in
set_option maxRecDepth 100000 in
theorem w_X1_heldInPixel (E : EX p s m args meth c cX1_heldInPixel 9 RX1 (some .int)) (K0 : KC D cyI ad s s.heap) (P : va_P D classes (cw cyI ad I A) s.heap)  {x1 : Int32} {out : Int32} (h : B_X1_heldInPixel I A x1 = some out) {ls : Array Slot} (hl : lv_has ls 9 [(0, .ref (ad 2)), (1, .int x1)]) : W p l e (rmL 3) s m args below meth c s.heap [] 0 0 (MQ below (vp_Si (fun z => z = out)) args s 0 0 (fun _ => False)) (F0 m 0 ls []) := by
  unfold B_X1_heldInPixel at h
  refine lv_iconst (v := 0) E.hx E.hb dX1_heldInPixel_0 (by decide) ?_
  refine lv_istore_n (lv' := [(2, .int 0), (0, .ref (ad 2)), (1, .int x1)]) E.hx E.hb dX1_heldInPixel_1 rfl hl (by decide) rfl (fun ls hl => ?_)
  refine lv_aload_n E.hx E.hb dX1_heldInPixel_2 rfl (lv_at hl 1 rfl) ?_
  refine gf_X1_45 E K0 P dX1_heldInPixel_3 ?_
  refine lv_iload_n E.hx E.hb dX1_heldInPixel_6 rfl (lv_at hl 2 rfl) ?_
  refine iv_X1_112 E K0 P va_S.rf (by decide) hl.1 (Nat.le_of_ble_eq_true rfl) dX1_heldInPixel_7 ?_
  refine lv_istore_n (lv' := [(3, .int (B_X3_left I A x1)), (2, .int 0), (0, .ref (ad 2)), (1, .int x1)]) E.hx E.hb dX1_heldInPixel_10 rfl hl (by decide) rfl (fun ls hl => ?_)
  refine lv_aload_n E.hx E.hb dX1_heldInPixel_11 rfl (lv_at hl 2 rfl) ?_
  refine gf_X1_45 E K0 P dX1_heldInPixel_12 ?_
  refine lv_iload_n E.hx E.hb dX1_heldInPixel_15 rfl (lv_at hl 3 rfl) ?_
  refine iv_X1_115 E K0 P va_S.rf (by decide) hl.1 (Nat.le_of_ble_eq_true rfl) dX1_heldInPixel_16 ?_
  refine lv_istore (lv' := [(4, .int (B_X3_top I A x1)), (3, .int (B_X3_left I A x1)), (2, .int 0), (0, .ref (ad 2)), (1, .int x1)]) E.hx E.hb dX1_heldInPixel_19 hl (by decide) rfl (fun ls hl => ?_)
  refine lv_iload_n E.hx E.hb dX1_heldInPixel_21 rfl (lv_at hl 1 rfl) ?_
  refine lv_aload_n E.hx E.hb dX1_heldInPixel_22 rfl (lv_at hl 3 rfl) ?_
  refine gf_X1_45 E K0 P dX1_heldInPixel_23 ?_
  refine lv_iload_n E.hx E.hb dX1_heldInPixel_26 rfl (lv_at hl 4 rfl) ?_
  refine iv_X1_118 E K0 P va_S.rf (by decide) hl.1 (Nat.le_of_ble_eq_true rfl) dX1_heldInPixel_27 ?_
  refine lv_iadd E.hx E.hb dX1_heldInPixel_30 ?_
  refine lv_istore (lv' := [(5, .int ((B_X3_left I A x1) + (B_X3_width I A x1))), (4, .int (B_X3_top I A x1)), (3, .int (B_X3_left I A x1)), (2, .int 0), (0, .ref (ad 2)), (1, .int x1)]) E.hx E.hb dX1_heldInPixel_31 hl (by decide) rfl (fun ls hl => ?_)
  refine lv_iload E.hx E.hb dX1_heldInPixel_33 (lv_at hl 1 rfl) ?_
  refine lv_aload_n E.hx E.hb dX1_heldInPixel_35 rfl (lv_at hl 4 rfl) ?_
  refine gf_X1_45 E K0 P dX1_heldInPixel_36 ?_
  refine lv_iload_n E.hx E.hb dX1_heldInPixel_39 rfl (lv_at hl 5 rfl) ?_
  refine iv_X1_120 E K0 P va_S.rf (by decide) hl.1 (Nat.le_of_ble_eq_true rfl) dX1_heldInPixel_40 ?_
  refine lv_iadd E.hx E.hb dX1_heldInPixel_43 ?_
  refine lv_istore (lv' := [(6, .int ((B_X3_top I A x1) + (B_X3_height I A x1))), (5, .int ((B_X3_left I A x1) + (B_X3_width I A x1))), (4, .int (B_X3_top I A x1)), (3, .int (B_X3_left I A x1)), (2, .int 0), (0, .ref (ad 2)), (1, .int x1)]) E.hx E.hb dX1_heldInPixel_44 hl (by decide) rfl (fun ls hl => ?_)
  refine lv_iload E.hx E.hb dX1_heldInPixel_46 (lv_at hl 2 rfl) ?_
  refine lv_istore (lv' := [(7, .int (B_X3_top I A x1)), (6, .int ((B_X3_top I A x1) + (B_X3_height I A x1))), (5, .int ((B_X3_left I A x1) + (B_X3_width I A x1))), (4, .int (B_X3_top I A x1)), (3, .int (B_X3_left I A x1)), (2, .int 0), (0, .ref (ad 2)), (1, .int x1)]) E.hx E.hb dX1_heldInPixel_48 hl (by decide) rfl (fun ls hl => ?_)
  obtain ⟨q_5, e_6, h⟩ := obind h
  refine w_X1_heldInPixel_L50 E K0 P FU e_6 (lv_sub hl [6, 5, 4, 2, 1, 0] rfl) (fun {ls} hl => ?_)
  refine lv_iload_n E.hx E.hb dX1_heldInPixel_101 rfl (lv_at hl 0 rfl) ?_
  exact W.iret E.hx E.hb E.hr (fun t ht _ => ⟨_, rfl, (Option.some.inj h), ht⟩) (fun q hq => nomatch hq) dX1_heldInPixel_102 E.hk
theorem c_X1_heldInPixel (l : Launch) {H : Heap} {D : va_G} {cyI : ClassId} {ad : Nat → Nat} {I : Nat → Int32} {A : Nat → Nat → Int32} (P : va_P D classes (cw cyI ad I A) H) (x1 : Int32) {out : Int32} (h : B_X1_heldInPixel I A x1 = some out) : MRO l yX1_heldInPixel cX1_heldInPixel 9 (some .int) 3 [.ref (ad 2), .int x1] H (KC D cyI ad) out := by
  refine Mof (own := RX1) (by decide +kernel) rfl rfl ?_
  intro p e s m args below meth c ls E hH K0 hl
  subst hH
  exact w_X1_heldInPixel E K0 P h hl
theorem ds_X1_heldInPixel : Dsc yX1_heldInPixel 1 := ⟨by decide +kernel, by decide +kernel, by decide +kernel⟩
end
section
variable {p : Program} {l : Launch} {e : Env} {R : Room} {s : State} {m : MethodId} {args : Array Value} {below : List Frame} {meth : Method} {c : Code} {H : Heap} {locs : List Loc} {cells slots : Nat} {Q : State → Prop} {cc : ByteArray} {nL pc : Nat} {ret : Option FieldType} {ls : Array Slot} {rest : List Value} {D : va_G} {cyI : ClassId} {ad : Nat → Nat} {I : Nat → Int32} {A : Nat → Nat → Int32}
theorem rpt_X3_45 (E : EX p s m args meth c cc nL RX3 ret) (N : AdN 44 ad) (K0 : KC D cyI ad s s.heap) (P : va_P D classes (cw cyI ad I A) H) (S : va_S (InN 44 ad) s.heap H locs) {q0 q1 a b n : Nat} {f : Nat → Int32} (he : (cw cyI ad I A)[q0]? = some (b, .inr (4, [.ref a]))) (ha : (cw cyI ad I A)[q1]? = some (a, .inl (cyI, n, .inl f))) {k : Nat} (hs : ∀ g : Nat → Int32, (cw cyI ad I A).set q1 (a, .inl (cyI, n, .inl g)) = cw cyI ad I (va_up A k g)) (hn : n < 2 ^ 31) {i x : Int32} (hR : RmOk R cells slots 0 3) (hls : ls.size = nL) (hro : (rest.map fun v => v.category).sum ≤ 8) (hdg : decode cc pc = .ok (.invokevirtual 45, 3)) (kk : ∀ (H1 : Heap) (locs1 : List Loc), va_P D classes (cw cyI ad I (va_up A k (rPut n f i x))) H1 → va_S (InN 44 ad) s.heap H1 locs1 → W p l e R s m args below meth c H1 locs1 cells slots Q (F0 m (pc + 3) ls rest)) : W p l e R s m args below meth c H locs cells slots Q (F0 m pc ls (.int x :: .int i :: .ref b :: rest)) :=
  cv_rw E (c_X4_put l (fun _ _ h => h.1) P (cw_D N I A) q0 q1 he ha hn i x) (gV kML_X3_45 kIM_X4_put kSE_X4_put kIN_X4 kCO_X4_put) rfl ds_X4_put rfl KC_blind (fun U _ hW => (K0.at S).warm hW) S (va_recv K0.k P (show classes[4]? = some (RX4, TX4, 1) from rfl) he) hR hls rfl hro hdg (fun H1 l1 hP hS => kk H1 l1 (by rw [← hs]; exact hP) hS)
end
section
variable {p : Program} {l : Launch} {e : Env} {s : State} {m : MethodId} {args : Array Value} {below : List Frame} {meth : Method} {c : Code} {D : va_G} {cyI : ClassId} {ad : Nat → Nat} {I : Nat → Int32} {A : Nat → Nat → Int32}
def B_X3_setField (I : Nat → Int32) (A : Nat → Nat → Int32) (x1 x2 x3 : Int32) : Option ((Nat → Int32) × (Nat → Nat → Int32)) := some (I, (va_up ((va_up A 4 (rPut 8 (A 4) x1 x2))) 5 (rPut 8 (((va_up A 4 (rPut 8 (A 4) x1 x2))) 5) x1 x3)))
set_option maxHeartbeats 4000000 in
set_option maxRecDepth 100000 in
theorem w_X3_setField (E : EX p s m args meth c cX3_setField 4 RX3 none) (K0 : KC D cyI ad s s.heap) (N : AdN 44 ad) {H : Heap} {locs : List Loc} (P : va_P D classes (cw cyI ad I A) H) (S : va_S (InN 44 ad) s.heap H locs)  {x1 x2 x3 : Int32} {out : (Nat → Int32) × (Nat → Nat → Int32)} (h : B_X3_setField I A x1 x2 x3 = some out) {ls : Array Slot} (hl : lv_has ls 4 [(0, .ref (ad 1)), (1, .int x1), (2, .int x2), (3, .int x3)]) : W p l e (rmL 1) s m args below meth c H locs 0 0 (MQ below (Qrw (InN 44 ad) (none) (fun H1 => va_P D classes (cw cyI ad out.1 out.2) H1)) args s 0 0 (InN 44 ad)) (F0 m 0 ls []) := by
  unfold B_X3_setField at h
  refine lv_aload_n E.hx E.hb dX3_setField_0 rfl (lv_at hl 0 rfl) ?_
  refine gf_X3_29 E K0 P dX3_setField_1 ?_
  refine lv_iload_n E.hx E.hb dX3_setField_4 rfl (lv_at hl 1 rfl) ?_
  refine lv_iload_n E.hx E.hb dX3_setField_5 rfl (lv_at hl 2 rfl) ?_
  refine rpt_X3_45 E N K0 P S cw_r4 cw_a4 cw_s4 (by decide) (by decide) hl.1 (Nat.le_of_ble_eq_true rfl) dX3_setField_6 (fun H locs P S => ?_)
  refine lv_aload_n E.hx E.hb dX3_setField_9 rfl (lv_at hl 0 rfl) ?_
  refine gf_X3_32 E K0 P dX3_setField_10 ?_
  refine lv_iload_n E.hx E.hb dX3_setField_13 rfl (lv_at hl 1 rfl) ?_
  refine lv_iload_n E.hx E.hb dX3_setField_14 rfl (lv_at hl 3 rfl) ?_
  refine rpt_X3_45 E N K0 P S cw_r5 cw_a5 cw_s5 (by decide) (by decide) hl.1 (Nat.le_of_ble_eq_true rfl) dX3_setField_15 (fun H locs P S => ?_)
  cases h
  exact W.vret E.hx E.hb E.hr (fun t ht _ => ⟨rfl, by rw [ht]; exact P, S.F ht⟩) S.2.2 dX3_setField_18 E.hk
theorem c_X3_setField (l : Launch) {H : Heap} {D : va_G} {cyI : ClassId} {ad : Nat → Nat} {I : Nat → Int32} {A : Nat → Nat → Int32} (N : AdN 44 ad) (P : va_P D classes (cw cyI ad I A) H) (x1 x2 x3 : Int32) {out : (Nat → Int32) × (Nat → Nat → Int32)} (h : B_X3_setField I A x1 x2 x3 = some out) : MRW l yX3_setField cX3_setField 4 none 1 [.ref (ad 1), .int x1, .int x2, .int x3] H (KC D cyI ad) (InN 44 ad) none (fun H1 => va_P D classes (cw cyI ad out.1 out.2) H1) := by
  refine Mof (own := RX3) (by decide +kernel) rfl rfl ?_
  intro p e s m args below meth c ls E hH K0 hl
  subst hH
  exact w_X3_setField E K0 N P va_S.rf h hl
theorem ds_X3_setField : Dsc yX3_setField 3 := ⟨by decide +kernel, by decide +kernel, by decide +kernel⟩
end
section
variable {p : Program} {l : Launch} {e : Env} {s : State} {m : MethodId} {args : Array Value} {below : List Frame} {meth : Method} {c : Code} {D : va_G} {cyI : ClassId} {ad : Nat → Nat} {I : Nat → Int32} {A : Nat → Nat → Int32}
def B_X1_grown (I : Nat → Int32) (A : Nat → Nat → Int32) (x1 : Int32) : Option (Int32 × (Nat → Int32) × (Nat → Nat → Int32)) := some (x1, (va_up I 9 (((I 9) + x1))), A)
set_option maxHeartbeats 4000000 in
set_option maxRecDepth 100000 in
theorem w_X1_grown (E : EX p s m args meth c cX1_grown 2 RX1 (some .int)) (K0 : KC D cyI ad s s.heap) (N : AdN 44 ad) {H : Heap} {locs : List Loc} (P : va_P D classes (cw cyI ad I A) H) (S : va_S (InN 44 ad) s.heap H locs)  {x1 : Int32} {out : Int32 × (Nat → Int32) × (Nat → Nat → Int32)} (h : B_X1_grown I A x1 = some out) {ls : Array Slot} (hl : lv_has ls 2 [(0, .ref (ad 2)), (1, .int x1)]) : W p l e (rmL 0) s m args below meth c H locs 0 0 (MQ below (Qrw (InN 44 ad) (some (.int out.1)) (fun H1 => va_P D classes (cw cyI ad out.2.1 out.2.2) H1)) args s 0 0 (InN 44 ad)) (F0 m 0 ls []) := by
  unfold B_X1_grown at h
  refine lv_aload_n E.hx E.hb dX1_grown_0 rfl (lv_at hl 0 rfl) ?_
  refine lv_dup E.hx E.hb dX1_grown_1 rfl ?_
  refine gf_X1_52 E K0 P dX1_grown_2 ?_
  refine lv_iload_n E.hx E.hb dX1_grown_5 rfl (lv_at hl 1 rfl) ?_
  refine lv_iadd E.hx E.hb dX1_grown_6 ?_
  refine pf_X1_52 E N K0 P S dX1_grown_7 (fun H locs P S => ?_)
  refine lv_iload_n E.hx E.hb dX1_grown_10 rfl (lv_at hl 1 rfl) ?_
  cases h
  exact W.iret E.hx E.hb E.hr (fun t ht _ => ⟨rfl, by rw [ht]; exact P, S.F ht⟩) S.2.2 dX1_grown_11 E.hk
theorem c_X1_grown (l : Launch) {H : Heap} {D : va_G} {cyI : ClassId} {ad : Nat → Nat} {I : Nat → Int32} {A : Nat → Nat → Int32} (N : AdN 44 ad) (P : va_P D classes (cw cyI ad I A) H) (x1 : Int32) {out : Int32 × (Nat → Int32) × (Nat → Nat → Int32)} (h : B_X1_grown I A x1 = some out) : MRW l yX1_grown cX1_grown 2 (some .int) 0 [.ref (ad 2), .int x1] H (KC D cyI ad) (InN 44 ad) (some (.int out.1)) (fun H1 => va_P D classes (cw cyI ad out.2.1 out.2.2) H1) := by
  refine Mof (own := RX1) (by decide +kernel) rfl rfl ?_
  intro p e s m args below meth c ls E hH K0 hl
  subst hH
  exact w_X1_grown E K0 N P va_S.rf h hl
theorem ds_X1_grown : Dsc yX1_grown 1 := ⟨by decide +kernel, by decide +kernel, by decide +kernel⟩
end
section
variable {p : Program} {l : Launch} {e : Env} {R : Room} {s : State} {m : MethodId} {args : Array Value} {below : List Frame} {meth : Method} {c : Code} {H : Heap} {locs : List Loc} {cells slots : Nat} {Q : State → Prop} {cc : ByteArray} {nL pc : Nat} {ret : Option FieldType} {ls : Array Slot} {rest : List Value} {D : va_G} {cyI : ClassId} {ad : Nat → Nat} {I : Nat → Int32} {A : Nat → Nat → Int32}
theorem iv_X1_105 (E : EX p s m args meth c cc nL RX1 ret) (K0 : KC D cyI ad s s.heap) (P : va_P D classes (cw cyI ad I A) H) (S : va_S (InN 44 ad) s.heap H locs) {a0 : Int32} {v : Int32} (hv : B_X1_heldInPixel I A a0 = some v) (hR : RmOk R cells slots 3 9) (hls : ls.size = nL) (hro : (rest.map fun v => v.category).sum ≤ 8) (hdg : decode cc pc = .ok (.invokevirtual 105, 3)) (kk : W p l e R s m args below meth c H locs cells slots Q (F0 m (pc + 3) ls (.int v :: rest))) : W p l e R s m args below meth c H locs cells slots Q (F0 m pc ls (.int a0 :: .ref (ad 2) :: rest)) :=
  cv_ro E (c_X1_heldInPixel l P a0 hv) (gV kML_X1_105 kIM_X1_heldInPixel kSE_X1_heldInPixel kIN_X1 kCO_X1_heldInPixel) rfl ds_X1_heldInPixel rfl KC_blind (fun U _ hW => (K0.at S).warm hW) (va_recv K0.k P (show classes[1]? = some (RX1, TX1, 11) from rfl) cw_g2) hR hls rfl hro hdg kk
end
section
variable {p : Program} {l : Launch} {e : Env} {R : Room} {s : State} {m : MethodId} {args : Array Value} {below : List Frame} {meth : Method} {c : Code} {H : Heap} {locs : List Loc} {cells slots : Nat} {Q : State → Prop} {cc : ByteArray} {nL pc : Nat} {ret : Option FieldType} {ls : Array Slot} {rest : List Value} {D : va_G} {cyI : ClassId} {ad : Nat → Nat} {I : Nat → Int32} {A : Nat → Nat → Int32}
theorem iv_X1_108 (E : EX p s m args meth c cc nL RX1 ret) (N : AdN 44 ad) (K0 : KC D cyI ad s s.heap) (P : va_P D classes (cw cyI ad I A) H) (S : va_S (InN 44 ad) s.heap H locs) {a0 a1 a2 : Int32} {v : (Nat → Int32) × (Nat → Nat → Int32)} (hv : B_X3_setField I A a0 a1 a2 = some v) (hR : RmOk R cells slots 1 4) (hls : ls.size = nL) (hro : (rest.map fun v => v.category).sum ≤ 8) (hdg : decode cc pc = .ok (.invokevirtual 108, 3)) (kk : ∀ (H1 : Heap) (locs1 : List Loc), va_P D classes (cw cyI ad v.1 v.2) H1 → va_S (InN 44 ad) s.heap H1 locs1 → W p l e R s m args below meth c H1 locs1 cells slots Q (F0 m (pc + 3) ls (rest))) : W p l e R s m args below meth c H locs cells slots Q (F0 m pc ls (.int a2 :: .int a1 :: .int a0 :: .ref (ad 1) :: rest)) :=
  cv_rw E (c_X3_setField l N P a0 a1 a2 hv) (gV kML_X1_108 kIM_X3_setField kSE_X3_setField kIN_X3 kCO_X3_setField) rfl ds_X3_setField rfl KC_blind (fun U _ hW => (K0.at S).warm hW) S (va_recv K0.k P (show classes[3]? = some (RX3, TX3, 9) from rfl) cw_g1) hR hls rfl hro hdg kk
end
section
variable {p : Program} {l : Launch} {e : Env} {R : Room} {s : State} {m : MethodId} {args : Array Value} {below : List Frame} {meth : Method} {c : Code} {H : Heap} {locs : List Loc} {cells slots : Nat} {Q : State → Prop} {cc : ByteArray} {nL pc : Nat} {ret : Option FieldType} {ls : Array Slot} {rest : List Value} {D : va_G} {cyI : ClassId} {ad : Nat → Nat} {I : Nat → Int32} {A : Nat → Nat → Int32}
theorem iv_X1_99 (E : EX p s m args meth c cc nL RX1 ret) (N : AdN 44 ad) (K0 : KC D cyI ad s s.heap) (P : va_P D classes (cw cyI ad I A) H) (S : va_S (InN 44 ad) s.heap H locs) {a0 : Int32} {v : Int32 × (Nat → Int32) × (Nat → Nat → Int32)} (hv : B_X1_grown I A a0 = some v) (hR : RmOk R cells slots 0 2) (hls : ls.size = nL) (hro : (rest.map fun v => v.category).sum ≤ 8) (hdg : decode cc pc = .ok (.invokevirtual 99, 3)) (kk : ∀ (H1 : Heap) (locs1 : List Loc), va_P D classes (cw cyI ad v.2.1 v.2.2) H1 → va_S (InN 44 ad) s.heap H1 locs1 → W p l e R s m args below meth c H1 locs1 cells slots Q (F0 m (pc + 3) ls (.int v.1 :: rest))) : W p l e R s m args below meth c H locs cells slots Q (F0 m pc ls (.int a0 :: .ref (ad 2) :: rest)) :=
  cv_rw E (c_X1_grown l N P a0 hv) (gV kML_X1_99 kIM_X1_grown kSE_X1_grown kIN_X1 kCO_X1_grown) rfl ds_X1_grown rfl KC_blind (fun U _ hW => (K0.at S).warm hW) S (va_recv K0.k P (show classes[1]? = some (RX1, TX1, 11) from rfl) cw_g2) hR hls rfl hro hdg kk
end
section
variable {p : Program} {l : Launch} {e : Env} {s : State} {m : MethodId} {args : Array Value} {below : List Frame} {meth : Method} {c : Code} {D : va_G} {cyI : ClassId} {ad : Nat → Nat} {I : Nat → Int32} {A : Nat → Nat → Int32}
def B_X1_setField (I : Nat → Int32) (A : Nat → Nat → Int32) (x1 x2 x3 : Int32) : Option (Int32 × (Nat → Int32) × (Nat → Nat → Int32)) := (B_X1_heldInPixel I A x1).bind fun r_1 => (B_X3_setField I A x1 x2 x3).bind fun q_3 => (B_X1_heldInPixel q_3.1 q_3.2 x1).bind fun r_5 => (B_X1_grown q_3.1 q_3.2 ((r_5 - r_1))).bind fun q_7 => some (q_7.1, q_7.2.1, q_7.2.2)
set_option maxHeartbeats 4000000 in
set_option maxRecDepth 100000 in
theorem w_X1_setField (E : EX p s m args meth c cX1_setField 5 RX1 (some .int)) (K0 : KC D cyI ad s s.heap) (N : AdN 44 ad) {H : Heap} {locs : List Loc} (P : va_P D classes (cw cyI ad I A) H) (S : va_S (InN 44 ad) s.heap H locs)  {x1 x2 x3 : Int32} {out : Int32 × (Nat → Int32) × (Nat → Nat → Int32)} (h : B_X1_setField I A x1 x2 x3 = some out) {ls : Array Slot} (hl : lv_has ls 5 [(0, .ref (ad 2)), (1, .int x1), (2, .int x2), (3, .int x3)]) : W p l e (rmL 4) s m args below meth c H locs 0 0 (MQ below (Qrw (InN 44 ad) (some (.int out.1)) (fun H1 => va_P D classes (cw cyI ad out.2.1 out.2.2) H1)) args s 0 0 (InN 44 ad)) (F0 m 0 ls []) := by
  unfold B_X1_setField at h
  refine lv_aload_n E.hx E.hb dX1_setField_0 rfl (lv_at hl 0 rfl) ?_
  refine lv_iload_n E.hx E.hb dX1_setField_1 rfl (lv_at hl 1 rfl) ?_
  obtain ⟨r_1, e_2, h⟩ := obind h
  refine iv_X1_105 E K0 P S e_2 (by decide) hl.1 (Nat.le_of_ble_eq_true rfl) dX1_setField_2 ?_
  refine lv_istore (lv' := [(4, .int r_1), (0, .ref (ad 2)), (1, .int x1), (2, .int x2), (3, .int x3)]) E.hx E.hb dX1_setField_5 hl (by decide) rfl (fun ls hl => ?_)
  refine lv_aload_n E.hx E.hb dX1_setField_7 rfl (lv_at hl 1 rfl) ?_
  refine gf_X1_45 E K0 P dX1_setField_8 ?_
  refine lv_iload_n E.hx E.hb dX1_setField_11 rfl (lv_at hl 2 rfl) ?_
  refine lv_iload_n E.hx E.hb dX1_setField_12 rfl (lv_at hl 3 rfl) ?_
  refine lv_iload_n E.hx E.hb dX1_setField_13 rfl (lv_at hl 4 rfl) ?_
  obtain ⟨q_3, e_4, h⟩ := obind h
  refine iv_X1_108 E N K0 P S e_4 (by decide) hl.1 (Nat.le_of_ble_eq_true rfl) dX1_setField_14 (fun H locs P S => ?_)
  refine lv_aload_n E.hx E.hb dX1_setField_17 rfl (lv_at hl 1 rfl) ?_
  refine lv_aload_n E.hx E.hb dX1_setField_18 rfl (lv_at hl 1 rfl) ?_
  refine lv_iload_n E.hx E.hb dX1_setField_19 rfl (lv_at hl 2 rfl) ?_
  obtain ⟨r_5, e_6, h⟩ := obind h
  refine iv_X1_105 E K0 P S e_6 (by decide) hl.1 (Nat.le_of_ble_eq_true rfl) dX1_setField_20 ?_
  refine lv_iload E.hx E.hb dX1_setField_23 (lv_at hl 0 rfl) ?_
  refine lv_isub E.hx E.hb dX1_setField_25 ?_
  obtain ⟨q_7, e_8, h⟩ := obind h
  refine iv_X1_99 E N K0 P S e_8 (by decide) hl.1 (Nat.le_of_ble_eq_true rfl) dX1_setField_26 (fun H locs P S => ?_)
  cases h
  exact W.iret E.hx E.hb E.hr (fun t ht _ => ⟨rfl, by rw [ht]; exact P, S.F ht⟩) S.2.2 dX1_setField_29 E.hk
theorem c_X1_setField (l : Launch) {H : Heap} {D : va_G} {cyI : ClassId} {ad : Nat → Nat} {I : Nat → Int32} {A : Nat → Nat → Int32} (N : AdN 44 ad) (P : va_P D classes (cw cyI ad I A) H) (x1 x2 x3 : Int32) {out : Int32 × (Nat → Int32) × (Nat → Nat → Int32)} (h : B_X1_setField I A x1 x2 x3 = some out) : MRW l yX1_setField cX1_setField 5 (some .int) 4 [.ref (ad 2), .int x1, .int x2, .int x3] H (KC D cyI ad) (InN 44 ad) (some (.int out.1)) (fun H1 => va_P D classes (cw cyI ad out.2.1 out.2.2) H1) := by
  refine Mof (own := RX1) (by decide +kernel) rfl rfl ?_
  intro p e s m args below meth c ls E hH K0 hl
  subst hH
  exact w_X1_setField E K0 N P va_S.rf h hl
theorem ds_X1_setField : Dsc yX1_setField 3 := ⟨by decide +kernel, by decide +kernel, by decide +kernel⟩
end
section
variable {p : Program} {l : Launch} {e : Env} {R : Room} {s : State} {m : MethodId} {args : Array Value} {below : List Frame} {meth : Method} {c : Code} {H : Heap} {locs : List Loc} {cells slots : Nat} {Q : State → Prop} {cc : ByteArray} {nL pc : Nat} {ret : Option FieldType} {ls : Array Slot} {rest : List Value} {D : va_G} {cyI : ClassId} {ad : Nat → Nat} {I : Nat → Int32} {A : Nat → Nat → Int32}
theorem rat_X0_40 (E : EX p s m args meth c cc nL RX0 ret) (K0 : KC D cyI ad s s.heap) (P : va_P D classes (cw cyI ad I A) H) (S : va_S (InN 44 ad) s.heap H locs) {q0 q1 a b n : Nat} {f : Nat → Int32} (he : (cw cyI ad I A)[q0]? = some (b, .inr (4, [.ref a]))) (ha : (cw cyI ad I A)[q1]? = some (a, .inl (cyI, n, .inl f))) (hn : n < 2 ^ 31) {i : Int32} (hR : RmOk R cells slots 0 2) (hls : ls.size = nL) (hro : (rest.map fun v => v.category).sum ≤ 8) (hdg : decode cc pc = .ok (.invokevirtual 40, 3)) (kk : W p l e R s m args below meth c H locs cells slots Q (F0 m (pc + 3) ls (.int (rAt n f i) :: rest))) : W p l e R s m args below meth c H locs cells slots Q (F0 m pc ls (.int i :: .ref b :: rest)) :=
  cv_ro E (c_X4_at l (fun _ _ h => h.1) P q0 q1 he ha hn i) (gV kML_X0_40 kIM_X4_at kSE_X4_at kIN_X4 kCO_X4_at) rfl ds_X4_at rfl KC_blind (fun U _ hW => (K0.at S).warm hW) (va_recv K0.k P (show classes[4]? = some (RX4, TX4, 1) from rfl) he) hR hls rfl hro hdg kk
end
section
variable {p : Program} {l : Launch} {e : Env} {R : Room} {s : State} {m : MethodId} {args : Array Value} {below : List Frame} {meth : Method} {c : Code} {H : Heap} {locs : List Loc} {cells slots : Nat} {Q : State → Prop} {cc : ByteArray} {nL pc : Nat} {ret : Option FieldType} {ls : Array Slot} {rest : List Value} {D : va_G} {cyI : ClassId} {ad : Nat → Nat} {I : Nat → Int32} {A : Nat → Nat → Int32}
theorem iv_X0_44 (E : EX p s m args meth c cc nL RX0 ret) (N : AdN 44 ad) (K0 : KC D cyI ad s s.heap) (P : va_P D classes (cw cyI ad I A) H) (S : va_S (InN 44 ad) s.heap H locs) {a0 a1 a2 : Int32} {v : Int32 × (Nat → Int32) × (Nat → Nat → Int32)} (hv : B_X1_setField I A a0 a1 a2 = some v) (hR : RmOk R cells slots 4 5) (hls : ls.size = nL) (hro : (rest.map fun v => v.category).sum ≤ 8) (hdg : decode cc pc = .ok (.invokevirtual 44, 3)) (kk : ∀ (H1 : Heap) (locs1 : List Loc), va_P D classes (cw cyI ad v.2.1 v.2.2) H1 → va_S (InN 44 ad) s.heap H1 locs1 → W p l e R s m args below meth c H1 locs1 cells slots Q (F0 m (pc + 3) ls (.int v.1 :: rest))) : W p l e R s m args below meth c H locs cells slots Q (F0 m pc ls (.int a2 :: .int a1 :: .int a0 :: .ref (ad 2) :: rest)) :=
  cv_rw E (c_X1_setField l N P a0 a1 a2 hv) (gV kML_X0_44 kIM_X1_setField kSE_X1_setField kIN_X1 kCO_X1_setField) rfl ds_X1_setField rfl KC_blind (fun U _ hW => (K0.at S).warm hW) S (va_recv K0.k P (show classes[1]? = some (RX1, TX1, 11) from rfl) cw_g2) hR hls rfl hro hdg kk
end
section
variable {p : Program} {l : Launch} {e : Env} {s : State} {m : MethodId} {args : Array Value} {below : List Frame} {meth : Method} {c : Code} {D : va_G} {cyI : ClassId} {ad : Nat → Nat} {I : Nat → Int32} {A : Nat → Nat → Int32}
def B_X0_comeAt_L8  (x1 : Int32) : Nat → Int32 → Int32 → Int32 → (Nat → Int32) → (Nat → Nat → Int32) → Option (Int32 × Int32 × (Nat → Int32) × (Nat → Nat → Int32))
  | 0 => fun _ _ _ _ _ => none
  | n + 1 => fun x3 x4 x5 I A => if (I 10) ≤ x5 then some ((x3, x4, I, A)) else (if (rAt 40 (A 14) x5) = x1 then ((B_X1_setField I A ((rAt 40 (A 13) x5)) ((rAt 40 (A 15) x5)) ((rAt 40 (A 16) x5))).bind fun q_5 => (B_X0_comeAt_L8 x1 n) ((x3 + q_5.1)) x4 (x5 + 1) q_5.2.1 q_5.2.2) else ((B_X0_put I A x4 ((rAt 40 (A 13) x5)) ((rAt 40 (A 14) x5)) ((rAt 40 (A 15) x5)) ((rAt 40 (A 16) x5))).bind fun q_3 => (B_X0_comeAt_L8 x1 n) x3 (x4 + 1) (x5 + 1) q_3.1 q_3.2))
theorem B_X0_comeAt_L8_s (I : Nat → Int32) (A : Nat → Nat → Int32) (x1 x3 x4 x5 : Int32) (n : Nat) : B_X0_comeAt_L8  x1 (n + 1) x3 x4 x5 I A = if (I 10) ≤ x5 then some ((x3, x4, I, A)) else (if (rAt 40 (A 14) x5) = x1 then ((B_X1_setField I A ((rAt 40 (A 13) x5)) ((rAt 40 (A 15) x5)) ((rAt 40 (A 16) x5))).bind fun q_5 => (B_X0_comeAt_L8 x1 n) ((x3 + q_5.1)) x4 (x5 + 1) q_5.2.1 q_5.2.2) else ((B_X0_put I A x4 ((rAt 40 (A 13) x5)) ((rAt 40 (A 14) x5)) ((rAt 40 (A 15) x5)) ((rAt 40 (A 16) x5))).bind fun q_3 => (B_X0_comeAt_L8 x1 n) x3 (x4 + 1) (x5 + 1) q_3.1 q_3.2)) := rfl
set_option maxHeartbeats 4000000 in
set_option maxRecDepth 100000 in
theorem w_X0_comeAt_L8 (E : EX p s m args meth c cX0_comeAt 6 RX0 (some .int)) (K0 : KC D cyI ad s s.heap) (N : AdN 44 ad) {x1 : Int32} {out : Int32 × (Nat → Int32) × (Nat → Nat → Int32)} : ∀ (n : Nat) {x3 x4 x5 : Int32} {I : Nat → Int32} {A : Nat → Nat → Int32} {H : Heap} {locs : List Loc} (P : va_P D classes (cw cyI ad I A) H) (S : va_S (InN 44 ad) s.heap H locs) {o : Int32 × Int32 × (Nat → Int32) × (Nat → Nat → Int32)} (h : B_X0_comeAt_L8  x1 n x3 x4 x5 I A = some o) {ls : Array Slot} (hl : lv_has ls 6 [(0, .ref (ad 4)), (1, .int x1), (2, .ref (ad 2)), (3, .int x3), (4, .int x4), (5, .int x5)]) (kx : ∀ {H : Heap} {locs : List Loc} (_ : va_P D classes (cw cyI ad o.2.2.1 o.2.2.2) H) (_ : va_S (InN 44 ad) s.heap H locs) {ls : Array Slot}, lv_has ls 6 [(0, .ref (ad 4)), (3, .int o.1), (4, .int o.2.1)] → W p l e (rmL 5) s m args below meth c H locs 0 0 (MQ below (Qrw (InN 44 ad) (some (.int out.1)) (fun H1 => va_P D classes (cw cyI ad out.2.1 out.2.2) H1)) args s 0 0 (InN 44 ad)) (F0 m 118 ls [])), W p l e (rmL 5) s m args below meth c H locs 0 0 (MQ below (Qrw (InN 44 ad) (some (.int out.1)) (fun H1 => va_P D classes (cw cyI ad out.2.1 out.2.2) H1)) args s 0 0 (InN 44 ad)) (F0 m 8 ls []) := by
  intro n
  induction n with
  | zero => intro x3 x4 x5 I A H locs P S o h ls hl kx; exact nomatch (show none = some o from h)
  | succ n ih =>
    intro x3 x4 x5 I A H locs P S o h ls hl kx
    rw [B_X0_comeAt_L8_s] at h
    refine lv_iload E.hx E.hb dX0_comeAt_8 (lv_at hl 5 rfl) ?_
    refine lv_aload_n E.hx E.hb dX0_comeAt_10 rfl (lv_at hl 0 rfl) ?_
    refine gf_X0_29 E K0 P dX0_comeAt_11 ?_
    refine lv_icmp_ge (tgt := 118) E.hx E.hb dX0_comeAt_14 (by decide) (fun c_1 => ?_) (fun c_1 => ?_)
    · rw [if_pos c_1] at h
      cases h
      exact kx P S (lv_sub hl [0, 3, 4] rfl)
    · rw [if_neg c_1] at h
      refine lv_aload_n E.hx E.hb dX0_comeAt_17 rfl (lv_at hl 0 rfl) ?_
      refine gf_X0_20 E K0 P dX0_comeAt_18 ?_
      refine lv_iload E.hx E.hb dX0_comeAt_21 (lv_at hl 5 rfl) ?_
      refine rat_X0_40 E K0 P S cw_r14 cw_a14 (by decide) (by decide) hl.1 (Nat.le_of_ble_eq_true rfl) dX0_comeAt_23 ?_
      refine lv_iload_n E.hx E.hb dX0_comeAt_26 rfl (lv_at hl 1 rfl) ?_
      refine lv_icmp_ne (tgt := 67) E.hx E.hb dX0_comeAt_27 (by decide) (fun c_2 => ?_) (fun c_2 => ?_)
      · rw [if_neg c_2] at h
        refine lv_aload_n E.hx E.hb dX0_comeAt_67 rfl (lv_at hl 0 rfl) ?_
        refine lv_iload E.hx E.hb dX0_comeAt_68 (lv_at hl 4 rfl) ?_
        refine lv_aload_n E.hx E.hb dX0_comeAt_70 rfl (lv_at hl 0 rfl) ?_
        refine gf_X0_14 E K0 P dX0_comeAt_71 ?_
        refine lv_iload E.hx E.hb dX0_comeAt_74 (lv_at hl 5 rfl) ?_
        refine rat_X0_40 E K0 P S cw_r13 cw_a13 (by decide) (by decide) hl.1 (Nat.le_of_ble_eq_true rfl) dX0_comeAt_76 ?_
        refine lv_aload_n E.hx E.hb dX0_comeAt_79 rfl (lv_at hl 0 rfl) ?_
        refine gf_X0_20 E K0 P dX0_comeAt_80 ?_
        refine lv_iload E.hx E.hb dX0_comeAt_83 (lv_at hl 5 rfl) ?_
        refine rat_X0_40 E K0 P S cw_r14 cw_a14 (by decide) (by decide) hl.1 (Nat.le_of_ble_eq_true rfl) dX0_comeAt_85 ?_
        refine lv_aload_n E.hx E.hb dX0_comeAt_88 rfl (lv_at hl 0 rfl) ?_
        refine gf_X0_23 E K0 P dX0_comeAt_89 ?_
        refine lv_iload E.hx E.hb dX0_comeAt_92 (lv_at hl 5 rfl) ?_
        refine rat_X0_40 E K0 P S cw_r15 cw_a15 (by decide) (by decide) hl.1 (Nat.le_of_ble_eq_true rfl) dX0_comeAt_94 ?_
        refine lv_aload_n E.hx E.hb dX0_comeAt_97 rfl (lv_at hl 0 rfl) ?_
        refine gf_X0_26 E K0 P dX0_comeAt_98 ?_
        refine lv_iload E.hx E.hb dX0_comeAt_101 (lv_at hl 5 rfl) ?_
        refine rat_X0_40 E K0 P S cw_r16 cw_a16 (by decide) (by decide) hl.1 (Nat.le_of_ble_eq_true rfl) dX0_comeAt_103 ?_
        obtain ⟨q_3, e_4, h⟩ := obind h
        refine iv_X0_33 E N K0 P S e_4 (by decide) hl.1 (Nat.le_of_ble_eq_true rfl) dX0_comeAt_106 (fun H locs P S => ?_)
        refine lv_iinc (v := x4 + 1) (lv' := [(4, .int (x4 + 1)), (0, .ref (ad 4)), (1, .int x1), (2, .ref (ad 2)), (3, .int x3), (5, .int x5)]) E.hx E.hb dX0_comeAt_109 hl (k := 4) rfl rfl (by decide) rfl (fun ls hl => ?_)
        refine lv_iinc (v := x5 + 1) (lv' := [(5, .int (x5 + 1)), (4, .int (x4 + 1)), (0, .ref (ad 4)), (1, .int x1), (2, .ref (ad 2)), (3, .int x3)]) E.hx E.hb dX0_comeAt_112 hl (k := 5) rfl rfl (by decide) rfl (fun ls hl => ?_)
        refine lv_goto (tgt := 8) E.hx E.hb dX0_comeAt_115 (by decide) ?_
        exact ih P S h (lv_sub hl [2, 3, 4, 5, 1, 0] rfl) kx
      · rw [if_pos c_2] at h
        refine lv_iload_n E.hx E.hb dX0_comeAt_30 rfl (lv_at hl 3 rfl) ?_
        refine lv_aload_n E.hx E.hb dX0_comeAt_31 rfl (lv_at hl 2 rfl) ?_
        refine lv_aload_n E.hx E.hb dX0_comeAt_32 rfl (lv_at hl 0 rfl) ?_
        refine gf_X0_14 E K0 P dX0_comeAt_33 ?_
        refine lv_iload E.hx E.hb dX0_comeAt_36 (lv_at hl 5 rfl) ?_
        refine rat_X0_40 E K0 P S cw_r13 cw_a13 (by decide) (by decide) hl.1 (Nat.le_of_ble_eq_true rfl) dX0_comeAt_38 ?_
        refine lv_aload_n E.hx E.hb dX0_comeAt_41 rfl (lv_at hl 0 rfl) ?_
        refine gf_X0_23 E K0 P dX0_comeAt_42 ?_
        refine lv_iload E.hx E.hb dX0_comeAt_45 (lv_at hl 5 rfl) ?_
        refine rat_X0_40 E K0 P S cw_r15 cw_a15 (by decide) (by decide) hl.1 (Nat.le_of_ble_eq_true rfl) dX0_comeAt_47 ?_
        refine lv_aload_n E.hx E.hb dX0_comeAt_50 rfl (lv_at hl 0 rfl) ?_
        refine gf_X0_26 E K0 P dX0_comeAt_51 ?_
        refine lv_iload E.hx E.hb dX0_comeAt_54 (lv_at hl 5 rfl) ?_
        refine rat_X0_40 E K0 P S cw_r16 cw_a16 (by decide) (by decide) hl.1 (Nat.le_of_ble_eq_true rfl) dX0_comeAt_56 ?_
        obtain ⟨q_5, e_6, h⟩ := obind h
        refine iv_X0_44 E N K0 P S e_6 (by decide) hl.1 (Nat.le_of_ble_eq_true rfl) dX0_comeAt_59 (fun H locs P S => ?_)
        refine lv_iadd E.hx E.hb dX0_comeAt_62 ?_
        refine lv_istore_n (lv' := [(3, .int (x3 + q_5.1)), (0, .ref (ad 4)), (1, .int x1), (2, .ref (ad 2)), (4, .int x4), (5, .int x5)]) E.hx E.hb dX0_comeAt_63 rfl hl (by decide) rfl (fun ls hl => ?_)
        refine lv_goto (tgt := 112) E.hx E.hb dX0_comeAt_64 (by decide) ?_
        refine lv_iinc (v := x5 + 1) (lv' := [(5, .int (x5 + 1)), (3, .int (x3 + q_5.1)), (0, .ref (ad 4)), (1, .int x1), (2, .ref (ad 2)), (4, .int x4)]) E.hx E.hb dX0_comeAt_112 hl (k := 5) rfl rfl (by decide) rfl (fun ls hl => ?_)
        refine lv_goto (tgt := 8) E.hx E.hb dX0_comeAt_115 (by decide) ?_
        exact ih P S h (lv_sub hl [2, 3, 4, 1, 5, 0] rfl) kx
def B_X0_comeAt (I : Nat → Int32) (A : Nat → Nat → Int32) (x1 : Int32) : Option (Int32 × (Nat → Int32) × (Nat → Nat → Int32)) := (B_X0_comeAt_L8  x1 FU 0 0 0 I A).bind fun q_7 => some (q_7.1, (va_up q_7.2.2.1 10 q_7.2.1), q_7.2.2.2)
set_option maxHeartbeats 4000000 in
set_option maxRecDepth 100000 in
theorem w_X0_comeAt (E : EX p s m args meth c cX0_comeAt 6 RX0 (some .int)) (K0 : KC D cyI ad s s.heap) (N : AdN 44 ad) {H : Heap} {locs : List Loc} (P : va_P D classes (cw cyI ad I A) H) (S : va_S (InN 44 ad) s.heap H locs)  {x1 : Int32} {out : Int32 × (Nat → Int32) × (Nat → Nat → Int32)} (h : B_X0_comeAt I A x1 = some out) {ls : Array Slot} (hl : lv_has ls 6 [(0, .ref (ad 4)), (1, .int x1), (2, .ref (ad 2))]) : W p l e (rmL 5) s m args below meth c H locs 0 0 (MQ below (Qrw (InN 44 ad) (some (.int out.1)) (fun H1 => va_P D classes (cw cyI ad out.2.1 out.2.2) H1)) args s 0 0 (InN 44 ad)) (F0 m 0 ls []) := by
  unfold B_X0_comeAt at h
  refine lv_iconst (v := 0) E.hx E.hb dX0_comeAt_0 (by decide) ?_
  refine lv_istore_n (lv' := [(3, .int 0), (0, .ref (ad 4)), (1, .int x1), (2, .ref (ad 2))]) E.hx E.hb dX0_comeAt_1 rfl hl (by decide) rfl (fun ls hl => ?_)
  refine lv_iconst (v := 0) E.hx E.hb dX0_comeAt_2 (by decide) ?_
  refine lv_istore (lv' := [(4, .int 0), (3, .int 0), (0, .ref (ad 4)), (1, .int x1), (2, .ref (ad 2))]) E.hx E.hb dX0_comeAt_3 hl (by decide) rfl (fun ls hl => ?_)
  refine lv_iconst (v := 0) E.hx E.hb dX0_comeAt_5 (by decide) ?_
  refine lv_istore (lv' := [(5, .int 0), (4, .int 0), (3, .int 0), (0, .ref (ad 4)), (1, .int x1), (2, .ref (ad 2))]) E.hx E.hb dX0_comeAt_6 hl (by decide) rfl (fun ls hl => ?_)
  obtain ⟨q_7, e_8, h⟩ := obind h
  refine w_X0_comeAt_L8 E K0 N FU P S e_8 (lv_sub hl [3, 4, 5, 2, 1, 0] rfl) (fun {H locs} P S {ls} hl => ?_)
  refine lv_aload_n E.hx E.hb dX0_comeAt_118 rfl (lv_at hl 0 rfl) ?_
  refine lv_iload E.hx E.hb dX0_comeAt_119 (lv_at hl 2 rfl) ?_
  refine pf_X0_29 E N K0 P S dX0_comeAt_121 (fun H locs P S => ?_)
  refine lv_iload_n E.hx E.hb dX0_comeAt_124 rfl (lv_at hl 1 rfl) ?_
  cases h
  exact W.iret E.hx E.hb E.hr (fun t ht _ => ⟨rfl, by rw [ht]; exact P, S.F ht⟩) S.2.2 dX0_comeAt_125 E.hk
theorem c_X0_comeAt (l : Launch) {H : Heap} {D : va_G} {cyI : ClassId} {ad : Nat → Nat} {I : Nat → Int32} {A : Nat → Nat → Int32} (N : AdN 44 ad) (P : va_P D classes (cw cyI ad I A) H) (x1 : Int32) {out : Int32 × (Nat → Int32) × (Nat → Nat → Int32)} (h : B_X0_comeAt I A x1 = some out) : MRW l yX0_comeAt cX0_comeAt 6 (some .int) 5 [.ref (ad 4), .int x1, .ref (ad 2)] H (KC D cyI ad) (InN 44 ad) (some (.int out.1)) (fun H1 => va_P D classes (cw cyI ad out.2.1 out.2.2) H1) := by
  refine Mof (own := RX0) (by decide +kernel) rfl rfl ?_
  intro p e s m args below meth c ls E hH K0 hl
  subst hH
  exact w_X0_comeAt E K0 N P va_S.rf h hl
theorem ds_X0_comeAt : Dsc yX0_comeAt 2 := ⟨by decide +kernel, by decide +kernel, by decide +kernel⟩
end
section
variable {p : Program} {l : Launch} {e : Env} {R : Room} {s : State} {m : MethodId} {args : Array Value} {below : List Frame} {meth : Method} {c : Code} {H : Heap} {locs : List Loc} {cells slots : Nat} {Q : State → Prop} {cc : ByteArray} {nL pc : Nat} {ret : Option FieldType} {ls : Array Slot} {rest : List Value} {D : va_G} {cyI : ClassId} {ad : Nat → Nat} {I : Nat → Int32} {A : Nat → Nat → Int32}
theorem rfl_X1_49 (E : EX p s m args meth c cc nL RX1 ret) (N : AdN 44 ad) (K0 : KC D cyI ad s s.heap) (P : va_P D classes (cw cyI ad I A) H) (S : va_S (InN 44 ad) s.heap H locs) {q0 q1 a b n : Nat} {f : Nat → Int32} (he : (cw cyI ad I A)[q0]? = some (b, .inr (4, [.ref a]))) (hq : q0 ≠ q1) (ha : (cw cyI ad I A)[q1]? = some (a, .inl (cyI, n, .inl f))) {k : Nat} (hs : ∀ g : Nat → Int32, (cw cyI ad I A).set q1 (a, .inl (cyI, n, .inl g)) = cw cyI ad I (va_up A k g)) (hn : n < 2 ^ 31) {x : Int32} (hR : RmOk R cells slots 0 3) (hls : ls.size = nL) (hro : (rest.map fun v => v.category).sum ≤ 8) (hdg : decode cc pc = .ok (.invokevirtual 49, 3)) (kk : ∀ (H1 : Heap) (locs1 : List Loc), va_P D classes (cw cyI ad I (va_up A k (rFill n f x))) H1 → va_S (InN 44 ad) s.heap H1 locs1 → W p l e R s m args below meth c H1 locs1 cells slots Q (F0 m (pc + 3) ls rest)) : W p l e R s m args below meth c H locs cells slots Q (F0 m pc ls (.int x :: .ref b :: rest)) :=
  cv_rw E (c_X4_fill l (fun _ _ h => h.1) P (cw_D N I A) q0 q1 he hq ha hn x) (gV kML_X1_49 kIM_X4_fill kSE_X4_fill kIN_X4 kCO_X4_fill) rfl ds_X4_fill rfl KC_blind (fun U _ hW => (K0.at S).warm hW) S (va_recv K0.k P (show classes[4]? = some (RX4, TX4, 1) from rfl) he) hR hls rfl hro hdg (fun H1 l1 hP hS => kk H1 l1 (by rw [← hs]; exact hP) hS)
end
section
variable {p : Program} {l : Launch} {e : Env} {s : State} {m : MethodId} {args : Array Value} {below : List Frame} {meth : Method} {c : Code} {D : va_G} {cyI : ClassId} {ad : Nat → Nat} {I : Nat → Int32} {A : Nat → Nat → Int32}
def B_X1_begin (I : Nat → Int32) (A : Nat → Nat → Int32) (x1 x2 : Int32) : Option ((Nat → Int32) × (Nat → Nat → Int32)) := some ((va_up ((va_up ((va_up I 5 x1)) 6 x2)) 9 0), (va_up ((va_up ((va_up A 8 (rFill 144 (A 8) 0))) 9 (rFill 144 (((va_up A 8 (rFill 144 (A 8) 0))) 9) 0))) 12 (rFill 144 (((va_up ((va_up A 8 (rFill 144 (A 8) 0))) 9 (rFill 144 (((va_up A 8 (rFill 144 (A 8) 0))) 9) 0))) 12) ((-1)))))
set_option maxHeartbeats 4000000 in
set_option maxRecDepth 100000 in
theorem w_X1_begin (E : EX p s m args meth c cX1_begin 3 RX1 none) (K0 : KC D cyI ad s s.heap) (N : AdN 44 ad) {H : Heap} {locs : List Loc} (P : va_P D classes (cw cyI ad I A) H) (S : va_S (InN 44 ad) s.heap H locs)  {x1 x2 : Int32} {out : (Nat → Int32) × (Nat → Nat → Int32)} (h : B_X1_begin I A x1 x2 = some out) {ls : Array Slot} (hl : lv_has ls 3 [(0, .ref (ad 2)), (1, .int x1), (2, .int x2)]) : W p l e (rmL 1) s m args below meth c H locs 0 0 (MQ below (Qrw (InN 44 ad) (none) (fun H1 => va_P D classes (cw cyI ad out.1 out.2) H1)) args s 0 0 (InN 44 ad)) (F0 m 0 ls []) := by
  unfold B_X1_begin at h
  refine lv_aload_n E.hx E.hb dX1_begin_0 rfl (lv_at hl 0 rfl) ?_
  refine lv_iload_n E.hx E.hb dX1_begin_1 rfl (lv_at hl 1 rfl) ?_
  refine pf_X1_32 E N K0 P S dX1_begin_2 (fun H locs P S => ?_)
  refine lv_aload_n E.hx E.hb dX1_begin_5 rfl (lv_at hl 0 rfl) ?_
  refine lv_iload_n E.hx E.hb dX1_begin_6 rfl (lv_at hl 2 rfl) ?_
  refine pf_X1_36 E N K0 P S dX1_begin_7 (fun H locs P S => ?_)
  refine lv_aload_n E.hx E.hb dX1_begin_10 rfl (lv_at hl 0 rfl) ?_
  refine gf_X1_14 E K0 P dX1_begin_11 ?_
  refine lv_iconst (v := 0) E.hx E.hb dX1_begin_14 (by decide) ?_
  refine rfl_X1_49 E N K0 P S cw_r8 (by decide) cw_a8 cw_s8 (by decide) (by decide) hl.1 (Nat.le_of_ble_eq_true rfl) dX1_begin_15 (fun H locs P S => ?_)
  refine lv_aload_n E.hx E.hb dX1_begin_18 rfl (lv_at hl 0 rfl) ?_
  refine gf_X1_20 E K0 P dX1_begin_19 ?_
  refine lv_iconst (v := 0) E.hx E.hb dX1_begin_22 (by decide) ?_
  refine rfl_X1_49 E N K0 P S cw_r9 (by decide) cw_a9 cw_s9 (by decide) (by decide) hl.1 (Nat.le_of_ble_eq_true rfl) dX1_begin_23 (fun H locs P S => ?_)
  refine lv_aload_n E.hx E.hb dX1_begin_26 rfl (lv_at hl 0 rfl) ?_
  refine gf_X1_29 E K0 P dX1_begin_27 ?_
  refine lv_iconst (v := (-1)) E.hx E.hb dX1_begin_30 (by decide) ?_
  refine rfl_X1_49 E N K0 P S cw_r12 (by decide) cw_a12 cw_s12 (by decide) (by decide) hl.1 (Nat.le_of_ble_eq_true rfl) dX1_begin_31 (fun H locs P S => ?_)
  refine lv_aload_n E.hx E.hb dX1_begin_34 rfl (lv_at hl 0 rfl) ?_
  refine lv_iconst (v := 0) E.hx E.hb dX1_begin_35 (by decide) ?_
  refine pf_X1_52 E N K0 P S dX1_begin_36 (fun H locs P S => ?_)
  cases h
  exact W.vret E.hx E.hb E.hr (fun t ht _ => ⟨rfl, by rw [ht]; exact P, S.F ht⟩) S.2.2 dX1_begin_39 E.hk
theorem c_X1_begin (l : Launch) {H : Heap} {D : va_G} {cyI : ClassId} {ad : Nat → Nat} {I : Nat → Int32} {A : Nat → Nat → Int32} (N : AdN 44 ad) (P : va_P D classes (cw cyI ad I A) H) (x1 x2 : Int32) {out : (Nat → Int32) × (Nat → Nat → Int32)} (h : B_X1_begin I A x1 x2 = some out) : MRW l yX1_begin cX1_begin 3 none 1 [.ref (ad 2), .int x1, .int x2] H (KC D cyI ad) (InN 44 ad) none (fun H1 => va_P D classes (cw cyI ad out.1 out.2) H1) := by
  refine Mof (own := RX1) (by decide +kernel) rfl rfl ?_
  intro p e s m args below meth c ls E hH K0 hl
  subst hH
  exact w_X1_begin E K0 N P va_S.rf h hl
theorem ds_X1_begin : Dsc yX1_begin 2 := ⟨by decide +kernel, by decide +kernel, by decide +kernel⟩
end
section
variable {p : Program} {l : Launch} {e : Env} {s : State} {m : MethodId} {args : Array Value} {below : List Frame} {meth : Method} {c : Code} {D : va_G} {cyI : ClassId} {ad : Nat → Nat} {I : Nat → Int32} {A : Nat → Nat → Int32}
def B_X1_kindAt (I : Nat → Int32) (A : Nat → Nat → Int32) (x1 x2 : Int32) : Int32 := (rAt 144 (A 9) ((B_X6_numberOf x1 x2)))
set_option maxHeartbeats 4000000 in
set_option maxRecDepth 100000 in
theorem w_X1_kindAt (E : EX p s m args meth c cX1_kindAt 3 RX1 (some .int)) (K0 : KC D cyI ad s s.heap) (P : va_P D classes (cw cyI ad I A) s.heap)  {x1 x2 : Int32} {out : Int32} (h : B_X1_kindAt I A x1 x2 = out) {ls : Array Slot} (hl : lv_has ls 3 [(0, .ref (ad 2)), (1, .int x1), (2, .int x2)]) : W p l e (rmL 1) s m args below meth c s.heap [] 0 0 (MQ below (vp_Si (fun z => z = out)) args s 0 0 (fun _ => False)) (F0 m 0 ls []) := by
  unfold B_X1_kindAt at h
  refine lv_aload_n E.hx E.hb dX1_kindAt_0 rfl (lv_at hl 0 rfl) ?_
  refine gf_X1_20 E K0 P dX1_kindAt_1 ?_
  refine lv_iload_n E.hx E.hb dX1_kindAt_4 rfl (lv_at hl 1 rfl) ?_
  refine lv_iload_n E.hx E.hb dX1_kindAt_5 rfl (lv_at hl 2 rfl) ?_
  refine iv_X1_55 E K0 va_S.rf (by decide) hl.1 (Nat.le_of_ble_eq_true rfl) dX1_kindAt_6 ?_
  refine rat_X1_59 E K0 P va_S.rf cw_r9 cw_a9 (by decide) (by decide) hl.1 (Nat.le_of_ble_eq_true rfl) dX1_kindAt_9 ?_
  exact W.iret E.hx E.hb E.hr (fun t ht _ => ⟨_, rfl, h, ht⟩) (fun q hq => nomatch hq) dX1_kindAt_12 E.hk
theorem c_X1_kindAt (l : Launch) {H : Heap} {D : va_G} {cyI : ClassId} {ad : Nat → Nat} {I : Nat → Int32} {A : Nat → Nat → Int32} (P : va_P D classes (cw cyI ad I A) H) (x1 x2 : Int32) : MRO l yX1_kindAt cX1_kindAt 3 (some .int) 1 [.ref (ad 2), .int x1, .int x2] H (KC D cyI ad) (B_X1_kindAt I A x1 x2) := by
  refine Mof (own := RX1) (by decide +kernel) rfl rfl ?_
  intro p e s m args below meth c ls E hH K0 hl
  subst hH
  exact w_X1_kindAt E K0 P rfl hl
theorem ds_X1_kindAt : Dsc yX1_kindAt 2 := ⟨by decide +kernel, by decide +kernel, by decide +kernel⟩
end
section
variable {p : Program} {l : Launch} {e : Env} {R : Room} {s : State} {m : MethodId} {args : Array Value} {below : List Frame} {meth : Method} {c : Code} {H : Heap} {locs : List Loc} {cells slots : Nat} {Q : State → Prop} {cc : ByteArray} {nL pc : Nat} {ret : Option FieldType} {ls : Array Slot} {rest : List Value} {D : va_G} {cyI : ClassId} {ad : Nat → Nat} {I : Nat → Int32} {A : Nat → Nat → Int32}
theorem rpt_X1_66 (E : EX p s m args meth c cc nL RX1 ret) (N : AdN 44 ad) (K0 : KC D cyI ad s s.heap) (P : va_P D classes (cw cyI ad I A) H) (S : va_S (InN 44 ad) s.heap H locs) {q0 q1 a b n : Nat} {f : Nat → Int32} (he : (cw cyI ad I A)[q0]? = some (b, .inr (4, [.ref a]))) (ha : (cw cyI ad I A)[q1]? = some (a, .inl (cyI, n, .inl f))) {k : Nat} (hs : ∀ g : Nat → Int32, (cw cyI ad I A).set q1 (a, .inl (cyI, n, .inl g)) = cw cyI ad I (va_up A k g)) (hn : n < 2 ^ 31) {i x : Int32} (hR : RmOk R cells slots 0 3) (hls : ls.size = nL) (hro : (rest.map fun v => v.category).sum ≤ 8) (hdg : decode cc pc = .ok (.invokevirtual 66, 3)) (kk : ∀ (H1 : Heap) (locs1 : List Loc), va_P D classes (cw cyI ad I (va_up A k (rPut n f i x))) H1 → va_S (InN 44 ad) s.heap H1 locs1 → W p l e R s m args below meth c H1 locs1 cells slots Q (F0 m (pc + 3) ls rest)) : W p l e R s m args below meth c H locs cells slots Q (F0 m pc ls (.int x :: .int i :: .ref b :: rest)) :=
  cv_rw E (c_X4_put l (fun _ _ h => h.1) P (cw_D N I A) q0 q1 he ha hn i x) (gV kML_X1_66 kIM_X4_put kSE_X4_put kIN_X4 kCO_X4_put) rfl ds_X4_put rfl KC_blind (fun U _ hW => (K0.at S).warm hW) S (va_recv K0.k P (show classes[4]? = some (RX4, TX4, 1) from rfl) he) hR hls rfl hro hdg (fun H1 l1 hP hS => kk H1 l1 (by rw [← hs]; exact hP) hS)
end
section
variable {p : Program} {l : Launch} {e : Env} {s : State} {m : MethodId} {args : Array Value} {below : List Frame} {meth : Method} {c : Code} {D : va_G} {cyI : ClassId} {ad : Nat → Nat} {I : Nat → Int32} {A : Nat → Nat → Int32}
def B_X1_mark_L15  (x1 x2 x3 x4 x5 x6 : Int32) : Nat → Int32 → (Nat → Int32) → (Nat → Nat → Int32) → Option ((Nat → Int32) × (Nat → Nat → Int32))
  | 0 => fun _ _ _ => none
  | n + 1 => fun x7 I A => if (x1 + x3) ≤ x7 then some ((I, A)) else (B_X1_mark_L15 x1 x2 x3 x4 x5 x6 n) (x7 + 1) I ((va_up A 12 (rPut 144 (A 12) ((B_X6_numberOf x7 x6)) x5)))
theorem B_X1_mark_L15_s (I : Nat → Int32) (A : Nat → Nat → Int32) (x1 x2 x3 x4 x5 x6 x7 : Int32) (n : Nat) : B_X1_mark_L15  x1 x2 x3 x4 x5 x6 (n + 1) x7 I A = if (x1 + x3) ≤ x7 then some ((I, A)) else (B_X1_mark_L15 x1 x2 x3 x4 x5 x6 n) (x7 + 1) I ((va_up A 12 (rPut 144 (A 12) ((B_X6_numberOf x7 x6)) x5))) := rfl
set_option maxHeartbeats 4000000 in
set_option maxRecDepth 100000 in
theorem w_X1_mark_L15 (E : EX p s m args meth c cX1_mark 8 RX1 none) (K0 : KC D cyI ad s s.heap) (N : AdN 44 ad) {x1 x2 x3 x4 x5 x6 : Int32} {out : (Nat → Int32) × (Nat → Nat → Int32)} : ∀ (n : Nat) {x7 : Int32} {I : Nat → Int32} {A : Nat → Nat → Int32} {H : Heap} {locs : List Loc} (P : va_P D classes (cw cyI ad I A) H) (S : va_S (InN 44 ad) s.heap H locs) {o : (Nat → Int32) × (Nat → Nat → Int32)} (h : B_X1_mark_L15  x1 x2 x3 x4 x5 x6 n x7 I A = some o) {ls : Array Slot} (hl : lv_has ls 8 [(0, .ref (ad 2)), (1, .int x1), (2, .int x2), (3, .int x3), (4, .int x4), (5, .int x5), (6, .int x6), (7, .int x7)]) (kx : ∀ {H : Heap} {locs : List Loc} (_ : va_P D classes (cw cyI ad o.1 o.2) H) (_ : va_S (InN 44 ad) s.heap H locs) {ls : Array Slot}, lv_has ls 8 [(0, .ref (ad 2)), (1, .int x1), (2, .int x2), (3, .int x3), (4, .int x4), (5, .int x5), (6, .int x6)] → W p l e (rmL 1) s m args below meth c H locs 0 0 (MQ below (Qrw (InN 44 ad) (none) (fun H1 => va_P D classes (cw cyI ad out.1 out.2) H1)) args s 0 0 (InN 44 ad)) (F0 m 45 ls [])), W p l e (rmL 1) s m args below meth c H locs 0 0 (MQ below (Qrw (InN 44 ad) (none) (fun H1 => va_P D classes (cw cyI ad out.1 out.2) H1)) args s 0 0 (InN 44 ad)) (F0 m 15 ls []) := by
  intro n
  induction n with
  | zero => intro x7 I A H locs P S o h ls hl kx; exact nomatch (show none = some o from h)
  | succ n ih =>
    intro x7 I A H locs P S o h ls hl kx
    rw [B_X1_mark_L15_s] at h
    refine lv_iload E.hx E.hb dX1_mark_15 (lv_at hl 7 rfl) ?_
    refine lv_iload_n E.hx E.hb dX1_mark_17 rfl (lv_at hl 1 rfl) ?_
    refine lv_iload_n E.hx E.hb dX1_mark_18 rfl (lv_at hl 3 rfl) ?_
    refine lv_iadd E.hx E.hb dX1_mark_19 ?_
    refine lv_icmp_ge (tgt := 45) E.hx E.hb dX1_mark_20 (by decide) (fun c_2 => ?_) (fun c_2 => ?_)
    · rw [if_pos c_2] at h
      cases h
      exact kx P S (lv_sub hl [0, 1, 2, 3, 4, 5, 6] rfl)
    · rw [if_neg c_2] at h
      refine lv_aload_n E.hx E.hb dX1_mark_23 rfl (lv_at hl 0 rfl) ?_
      refine gf_X1_29 E K0 P dX1_mark_24 ?_
      refine lv_iload E.hx E.hb dX1_mark_27 (lv_at hl 7 rfl) ?_
      refine lv_iload E.hx E.hb dX1_mark_29 (lv_at hl 6 rfl) ?_
      refine iv_X1_55 E K0 S (by decide) hl.1 (Nat.le_of_ble_eq_true rfl) dX1_mark_31 ?_
      refine lv_iload E.hx E.hb dX1_mark_34 (lv_at hl 5 rfl) ?_
      refine rpt_X1_66 E N K0 P S cw_r12 cw_a12 cw_s12 (by decide) (by decide) hl.1 (Nat.le_of_ble_eq_true rfl) dX1_mark_36 (fun H locs P S => ?_)
      refine lv_iinc (v := x7 + 1) (lv' := [(7, .int (x7 + 1)), (0, .ref (ad 2)), (1, .int x1), (2, .int x2), (3, .int x3), (4, .int x4), (5, .int x5), (6, .int x6)]) E.hx E.hb dX1_mark_39 hl (k := 7) rfl rfl (by decide) rfl (fun ls hl => ?_)
      refine lv_goto (tgt := 15) E.hx E.hb dX1_mark_42 (by decide) ?_
      exact ih P S h (lv_sub hl [1, 2, 3, 4, 5, 6, 7, 0] rfl) kx
def B_X1_mark_L3  (x1 x2 x3 x4 x5 : Int32) : Nat → Int32 → (Nat → Int32) → (Nat → Nat → Int32) → Option ((Nat → Int32) × (Nat → Nat → Int32))
  | 0 => fun _ _ _ => none
  | n + 1 => fun x6 I A => if (x2 + x4) ≤ x6 then some ((I, A)) else ((B_X1_mark_L15  x1 x2 x3 x4 x5 x6 FU x1 I A).bind fun q_3 => (B_X1_mark_L3 x1 x2 x3 x4 x5 n) (x6 + 1) q_3.1 q_3.2)
theorem B_X1_mark_L3_s (I : Nat → Int32) (A : Nat → Nat → Int32) (x1 x2 x3 x4 x5 x6 : Int32) (n : Nat) : B_X1_mark_L3  x1 x2 x3 x4 x5 (n + 1) x6 I A = if (x2 + x4) ≤ x6 then some ((I, A)) else ((B_X1_mark_L15  x1 x2 x3 x4 x5 x6 FU x1 I A).bind fun q_3 => (B_X1_mark_L3 x1 x2 x3 x4 x5 n) (x6 + 1) q_3.1 q_3.2) := rfl
set_option maxHeartbeats 4000000 in
set_option maxRecDepth 100000 in
theorem w_X1_mark_L3 (E : EX p s m args meth c cX1_mark 8 RX1 none) (K0 : KC D cyI ad s s.heap) (N : AdN 44 ad) {x1 x2 x3 x4 x5 : Int32} {out : (Nat → Int32) × (Nat → Nat → Int32)} : ∀ (n : Nat) {x6 : Int32} {I : Nat → Int32} {A : Nat → Nat → Int32} {H : Heap} {locs : List Loc} (P : va_P D classes (cw cyI ad I A) H) (S : va_S (InN 44 ad) s.heap H locs) {o : (Nat → Int32) × (Nat → Nat → Int32)} (h : B_X1_mark_L3  x1 x2 x3 x4 x5 n x6 I A = some o) {ls : Array Slot} (hl : lv_has ls 8 [(0, .ref (ad 2)), (1, .int x1), (2, .int x2), (3, .int x3), (4, .int x4), (5, .int x5), (6, .int x6)]) (kx : ∀ {H : Heap} {locs : List Loc} (_ : va_P D classes (cw cyI ad o.1 o.2) H) (_ : va_S (InN 44 ad) s.heap H locs) {ls : Array Slot}, lv_has ls 8 [] → W p l e (rmL 1) s m args below meth c H locs 0 0 (MQ below (Qrw (InN 44 ad) (none) (fun H1 => va_P D classes (cw cyI ad out.1 out.2) H1)) args s 0 0 (InN 44 ad)) (F0 m 51 ls [])), W p l e (rmL 1) s m args below meth c H locs 0 0 (MQ below (Qrw (InN 44 ad) (none) (fun H1 => va_P D classes (cw cyI ad out.1 out.2) H1)) args s 0 0 (InN 44 ad)) (F0 m 3 ls []) := by
  intro n
  induction n with
  | zero => intro x6 I A H locs P S o h ls hl kx; exact nomatch (show none = some o from h)
  | succ n ih =>
    intro x6 I A H locs P S o h ls hl kx
    rw [B_X1_mark_L3_s] at h
    refine lv_iload E.hx E.hb dX1_mark_3 (lv_at hl 6 rfl) ?_
    refine lv_iload_n E.hx E.hb dX1_mark_5 rfl (lv_at hl 2 rfl) ?_
    refine lv_iload E.hx E.hb dX1_mark_6 (lv_at hl 4 rfl) ?_
    refine lv_iadd E.hx E.hb dX1_mark_8 ?_
    refine lv_icmp_ge (tgt := 51) E.hx E.hb dX1_mark_9 (by decide) (fun c_1 => ?_) (fun c_1 => ?_)
    · rw [if_pos c_1] at h
      cases h
      exact kx P S (lv_sub hl [] rfl)
    · rw [if_neg c_1] at h
      refine lv_iload_n E.hx E.hb dX1_mark_12 rfl (lv_at hl 1 rfl) ?_
      refine lv_istore (lv' := [(7, .int x1), (0, .ref (ad 2)), (1, .int x1), (2, .int x2), (3, .int x3), (4, .int x4), (5, .int x5), (6, .int x6)]) E.hx E.hb dX1_mark_13 hl (by decide) rfl (fun ls hl => ?_)
      obtain ⟨q_3, e_4, h⟩ := obind h
      refine w_X1_mark_L15 E K0 N FU P S e_4 (lv_sub hl [1, 2, 3, 4, 5, 6, 7, 0] rfl) (fun {H locs} P S {ls} hl => ?_)
      refine lv_iinc (v := x6 + 1) (lv' := [(6, .int (x6 + 1)), (0, .ref (ad 2)), (1, .int x1), (2, .int x2), (3, .int x3), (4, .int x4), (5, .int x5)]) E.hx E.hb dX1_mark_45 hl (k := 6) rfl rfl (by decide) rfl (fun ls hl => ?_)
      refine lv_goto (tgt := 3) E.hx E.hb dX1_mark_48 (by decide) ?_
      exact ih P S h (lv_sub hl [1, 2, 3, 4, 5, 6, 0] rfl) kx
def B_X1_mark (I : Nat → Int32) (A : Nat → Nat → Int32) (x1 x2 x3 x4 x5 : Int32) : Option ((Nat → Int32) × (Nat → Nat → Int32)) := (B_X1_mark_L3  x1 x2 x3 x4 x5 FU x2 I A).bind fun q_5 => some (q_5.1, q_5.2)
set_option maxHeartbeats 4000000 in
set_option maxRecDepth 100000 in
theorem w_X1_mark (E : EX p s m args meth c cX1_mark 8 RX1 none) (K0 : KC D cyI ad s s.heap) (N : AdN 44 ad) {H : Heap} {locs : List Loc} (P : va_P D classes (cw cyI ad I A) H) (S : va_S (InN 44 ad) s.heap H locs)  {x1 x2 x3 x4 x5 : Int32} {out : (Nat → Int32) × (Nat → Nat → Int32)} (h : B_X1_mark I A x1 x2 x3 x4 x5 = some out) {ls : Array Slot} (hl : lv_has ls 8 [(0, .ref (ad 2)), (1, .int x1), (2, .int x2), (3, .int x3), (4, .int x4), (5, .int x5)]) : W p l e (rmL 1) s m args below meth c H locs 0 0 (MQ below (Qrw (InN 44 ad) (none) (fun H1 => va_P D classes (cw cyI ad out.1 out.2) H1)) args s 0 0 (InN 44 ad)) (F0 m 0 ls []) := by
  unfold B_X1_mark at h
  refine lv_iload_n E.hx E.hb dX1_mark_0 rfl (lv_at hl 2 rfl) ?_
  refine lv_istore (lv' := [(6, .int x2), (0, .ref (ad 2)), (1, .int x1), (2, .int x2), (3, .int x3), (4, .int x4), (5, .int x5)]) E.hx E.hb dX1_mark_1 hl (by decide) rfl (fun ls hl => ?_)
  obtain ⟨q_5, e_6, h⟩ := obind h
  refine w_X1_mark_L3 E K0 N FU P S e_6 (lv_sub hl [1, 2, 3, 4, 5, 6, 0] rfl) (fun {H locs} P S {ls} hl => ?_)
  cases h
  exact W.vret E.hx E.hb E.hr (fun t ht _ => ⟨rfl, by rw [ht]; exact P, S.F ht⟩) S.2.2 dX1_mark_51 E.hk
theorem c_X1_mark (l : Launch) {H : Heap} {D : va_G} {cyI : ClassId} {ad : Nat → Nat} {I : Nat → Int32} {A : Nat → Nat → Int32} (N : AdN 44 ad) (P : va_P D classes (cw cyI ad I A) H) (x1 x2 x3 x4 x5 : Int32) {out : (Nat → Int32) × (Nat → Nat → Int32)} (h : B_X1_mark I A x1 x2 x3 x4 x5 = some out) : MRW l yX1_mark cX1_mark 8 none 1 [.ref (ad 2), .int x1, .int x2, .int x3, .int x4, .int x5] H (KC D cyI ad) (InN 44 ad) none (fun H1 => va_P D classes (cw cyI ad out.1 out.2) H1) := by
  refine Mof (own := RX1) (by decide +kernel) rfl rfl ?_
  intro p e s m args below meth c ls E hH K0 hl
  subst hH
  exact w_X1_mark E K0 N P va_S.rf h hl
theorem ds_X1_mark : Dsc yX1_mark 5 := ⟨by decide +kernel, by decide +kernel, by decide +kernel⟩
end
section
variable {p : Program} {l : Launch} {e : Env} {R : Room} {s : State} {m : MethodId} {args : Array Value} {below : List Frame} {meth : Method} {c : Code} {H : Heap} {locs : List Loc} {cells slots : Nat} {Q : State → Prop} {cc : ByteArray} {nL pc : Nat} {ret : Option FieldType} {ls : Array Slot} {rest : List Value} {D : va_G} {cyI : ClassId} {ad : Nat → Nat} {I : Nat → Int32} {A : Nat → Nat → Int32}
theorem iv_X1_91 (E : EX p s m args meth c cc nL RX1 ret) (K0 : KC D cyI ad s s.heap) (P : va_P D classes (cw cyI ad I A) H) (S : va_S (InN 44 ad) s.heap H locs) {a0 a1 a2 : Int32} (hR : RmOk R cells slots 3 5) (hls : ls.size = nL) (hro : (rest.map fun v => v.category).sum ≤ 8) (hdg : decode cc pc = .ok (.invokevirtual 91, 3)) (kk : W p l e R s m args below meth c H locs cells slots Q (F0 m (pc + 3) ls (.int (B_X1_energyWith I A a0 a1 a2) :: rest))) : W p l e R s m args below meth c H locs cells slots Q (F0 m pc ls (.int a2 :: .int a1 :: .int a0 :: .ref (ad 2) :: rest)) :=
  cv_ro E (c_X1_energyWith l P a0 a1 a2 ) (gV kML_X1_91 kIM_X1_energyWith kSE_X1_energyWith kIN_X1 kCO_X1_energyWith) rfl ds_X1_energyWith rfl KC_blind (fun U _ hW => (K0.at S).warm hW) (va_recv K0.k P (show classes[1]? = some (RX1, TX1, 11) from rfl) cw_g2) hR hls rfl hro hdg kk
end
section
variable {p : Program} {l : Launch} {e : Env} {s : State} {m : MethodId} {args : Array Value} {below : List Frame} {meth : Method} {c : Code} {D : va_G} {cyI : ClassId} {ad : Nat → Nat} {I : Nat → Int32} {A : Nat → Nat → Int32}
def B_X1_energyAt (I : Nat → Int32) (A : Nat → Nat → Int32) (x1 x2 : Int32) : Int32 := (B_X1_energyWith I A x1 x2 ((B_X1_directionAt I A x1 x2)))
set_option maxHeartbeats 4000000 in
set_option maxRecDepth 100000 in
theorem w_X1_energyAt (E : EX p s m args meth c cX1_energyAt 3 RX1 (some .int)) (K0 : KC D cyI ad s s.heap) (P : va_P D classes (cw cyI ad I A) s.heap)  {x1 x2 : Int32} {out : Int32} (h : B_X1_energyAt I A x1 x2 = out) {ls : Array Slot} (hl : lv_has ls 3 [(0, .ref (ad 2)), (1, .int x1), (2, .int x2)]) : W p l e (rmL 4) s m args below meth c s.heap [] 0 0 (MQ below (vp_Si (fun z => z = out)) args s 0 0 (fun _ => False)) (F0 m 0 ls []) := by
  unfold B_X1_energyAt at h
  refine lv_aload_n E.hx E.hb dX1_energyAt_0 rfl (lv_at hl 0 rfl) ?_
  refine lv_iload_n E.hx E.hb dX1_energyAt_1 rfl (lv_at hl 1 rfl) ?_
  refine lv_iload_n E.hx E.hb dX1_energyAt_2 rfl (lv_at hl 2 rfl) ?_
  refine lv_aload_n E.hx E.hb dX1_energyAt_3 rfl (lv_at hl 0 rfl) ?_
  refine lv_iload_n E.hx E.hb dX1_energyAt_4 rfl (lv_at hl 1 rfl) ?_
  refine lv_iload_n E.hx E.hb dX1_energyAt_5 rfl (lv_at hl 2 rfl) ?_
  refine iv_X1_88 E K0 P va_S.rf (by decide) hl.1 (Nat.le_of_ble_eq_true rfl) dX1_energyAt_6 ?_
  refine iv_X1_91 E K0 P va_S.rf (by decide) hl.1 (Nat.le_of_ble_eq_true rfl) dX1_energyAt_9 ?_
  exact W.iret E.hx E.hb E.hr (fun t ht _ => ⟨_, rfl, h, ht⟩) (fun q hq => nomatch hq) dX1_energyAt_12 E.hk
theorem c_X1_energyAt (l : Launch) {H : Heap} {D : va_G} {cyI : ClassId} {ad : Nat → Nat} {I : Nat → Int32} {A : Nat → Nat → Int32} (P : va_P D classes (cw cyI ad I A) H) (x1 x2 : Int32) : MRO l yX1_energyAt cX1_energyAt 3 (some .int) 4 [.ref (ad 2), .int x1, .int x2] H (KC D cyI ad) (B_X1_energyAt I A x1 x2) := by
  refine Mof (own := RX1) (by decide +kernel) rfl rfl ?_
  intro p e s m args below meth c ls E hH K0 hl
  subst hH
  exact w_X1_energyAt E K0 P rfl hl
theorem ds_X1_energyAt : Dsc yX1_energyAt 2 := ⟨by decide +kernel, by decide +kernel, by decide +kernel⟩
end
section
variable {p : Program} {l : Launch} {e : Env} {R : Room} {s : State} {m : MethodId} {args : Array Value} {below : List Frame} {meth : Method} {c : Code} {H : Heap} {locs : List Loc} {cells slots : Nat} {Q : State → Prop} {cc : ByteArray} {nL pc : Nat} {ret : Option FieldType} {ls : Array Slot} {rest : List Value} {D : va_G} {cyI : ClassId} {ad : Nat → Nat} {I : Nat → Int32} {A : Nat → Nat → Int32}
theorem iv_X1_102 (E : EX p s m args meth c cc nL RX1 ret) (K0 : KC D cyI ad s s.heap) (P : va_P D classes (cw cyI ad I A) H) (S : va_S (InN 44 ad) s.heap H locs) {a0 a1 : Int32} (hR : RmOk R cells slots 4 3) (hls : ls.size = nL) (hro : (rest.map fun v => v.category).sum ≤ 8) (hdg : decode cc pc = .ok (.invokevirtual 102, 3)) (kk : W p l e R s m args below meth c H locs cells slots Q (F0 m (pc + 3) ls (.int (B_X1_energyAt I A a0 a1) :: rest))) : W p l e R s m args below meth c H locs cells slots Q (F0 m pc ls (.int a1 :: .int a0 :: .ref (ad 2) :: rest)) :=
  cv_ro E (c_X1_energyAt l P a0 a1 ) (gV kML_X1_102 kIM_X1_energyAt kSE_X1_energyAt kIN_X1 kCO_X1_energyAt) rfl ds_X1_energyAt rfl KC_blind (fun U _ hW => (K0.at S).warm hW) (va_recv K0.k P (show classes[1]? = some (RX1, TX1, 11) from rfl) cw_g2) hR hls rfl hro hdg kk
end
section
variable {p : Program} {l : Launch} {e : Env} {s : State} {m : MethodId} {args : Array Value} {below : List Frame} {meth : Method} {c : Code} {D : va_G} {cyI : ClassId} {ad : Nat → Nat} {I : Nat → Int32} {A : Nat → Nat → Int32}
def B_X1_turnTo (I : Nat → Int32) (A : Nat → Nat → Int32) (x1 x2 x3 : Int32) : Option (Int32 × (Nat → Int32) × (Nat → Nat → Int32)) := (B_X1_grown I ((va_up A 8 (rPut 144 (A 8) ((B_X6_numberOf x1 x2)) x3))) (((B_X1_energyAt I ((va_up A 8 (rPut 144 (A 8) ((B_X6_numberOf x1 x2)) x3))) x1 x2) - (B_X1_energyAt I A x1 x2)))).bind fun q_1 => some (q_1.1, q_1.2.1, q_1.2.2)
set_option maxHeartbeats 4000000 in
set_option maxRecDepth 100000 in
theorem w_X1_turnTo (E : EX p s m args meth c cX1_turnTo 5 RX1 (some .int)) (K0 : KC D cyI ad s s.heap) (N : AdN 44 ad) {H : Heap} {locs : List Loc} (P : va_P D classes (cw cyI ad I A) H) (S : va_S (InN 44 ad) s.heap H locs)  {x1 x2 x3 : Int32} {out : Int32 × (Nat → Int32) × (Nat → Nat → Int32)} (h : B_X1_turnTo I A x1 x2 x3 = some out) {ls : Array Slot} (hl : lv_has ls 5 [(0, .ref (ad 2)), (1, .int x1), (2, .int x2), (3, .int x3)]) : W p l e (rmL 5) s m args below meth c H locs 0 0 (MQ below (Qrw (InN 44 ad) (some (.int out.1)) (fun H1 => va_P D classes (cw cyI ad out.2.1 out.2.2) H1)) args s 0 0 (InN 44 ad)) (F0 m 0 ls []) := by
  unfold B_X1_turnTo at h
  refine lv_aload_n E.hx E.hb dX1_turnTo_0 rfl (lv_at hl 0 rfl) ?_
  refine lv_iload_n E.hx E.hb dX1_turnTo_1 rfl (lv_at hl 1 rfl) ?_
  refine lv_iload_n E.hx E.hb dX1_turnTo_2 rfl (lv_at hl 2 rfl) ?_
  refine iv_X1_102 E K0 P S (by decide) hl.1 (Nat.le_of_ble_eq_true rfl) dX1_turnTo_3 ?_
  refine lv_istore (lv' := [(4, .int (B_X1_energyAt I A x1 x2)), (0, .ref (ad 2)), (1, .int x1), (2, .int x2), (3, .int x3)]) E.hx E.hb dX1_turnTo_6 hl (by decide) rfl (fun ls hl => ?_)
  refine lv_aload_n E.hx E.hb dX1_turnTo_8 rfl (lv_at hl 1 rfl) ?_
  refine gf_X1_14 E K0 P dX1_turnTo_9 ?_
  refine lv_iload_n E.hx E.hb dX1_turnTo_12 rfl (lv_at hl 2 rfl) ?_
  refine lv_iload_n E.hx E.hb dX1_turnTo_13 rfl (lv_at hl 3 rfl) ?_
  refine iv_X1_55 E K0 S (by decide) hl.1 (Nat.le_of_ble_eq_true rfl) dX1_turnTo_14 ?_
  refine lv_iload_n E.hx E.hb dX1_turnTo_17 rfl (lv_at hl 4 rfl) ?_
  refine rpt_X1_66 E N K0 P S cw_r8 cw_a8 cw_s8 (by decide) (by decide) hl.1 (Nat.le_of_ble_eq_true rfl) dX1_turnTo_18 (fun H locs P S => ?_)
  refine lv_aload_n E.hx E.hb dX1_turnTo_21 rfl (lv_at hl 1 rfl) ?_
  refine lv_aload_n E.hx E.hb dX1_turnTo_22 rfl (lv_at hl 1 rfl) ?_
  refine lv_iload_n E.hx E.hb dX1_turnTo_23 rfl (lv_at hl 2 rfl) ?_
  refine lv_iload_n E.hx E.hb dX1_turnTo_24 rfl (lv_at hl 3 rfl) ?_
  refine iv_X1_102 E K0 P S (by decide) hl.1 (Nat.le_of_ble_eq_true rfl) dX1_turnTo_25 ?_
  refine lv_iload E.hx E.hb dX1_turnTo_28 (lv_at hl 0 rfl) ?_
  refine lv_isub E.hx E.hb dX1_turnTo_30 ?_
  obtain ⟨q_1, e_2, h⟩ := obind h
  refine iv_X1_99 E N K0 P S e_2 (by decide) hl.1 (Nat.le_of_ble_eq_true rfl) dX1_turnTo_31 (fun H locs P S => ?_)
  cases h
  exact W.iret E.hx E.hb E.hr (fun t ht _ => ⟨rfl, by rw [ht]; exact P, S.F ht⟩) S.2.2 dX1_turnTo_34 E.hk
theorem c_X1_turnTo (l : Launch) {H : Heap} {D : va_G} {cyI : ClassId} {ad : Nat → Nat} {I : Nat → Int32} {A : Nat → Nat → Int32} (N : AdN 44 ad) (P : va_P D classes (cw cyI ad I A) H) (x1 x2 x3 : Int32) {out : Int32 × (Nat → Int32) × (Nat → Nat → Int32)} (h : B_X1_turnTo I A x1 x2 x3 = some out) : MRW l yX1_turnTo cX1_turnTo 5 (some .int) 5 [.ref (ad 2), .int x1, .int x2, .int x3] H (KC D cyI ad) (InN 44 ad) (some (.int out.1)) (fun H1 => va_P D classes (cw cyI ad out.2.1 out.2.2) H1) := by
  refine Mof (own := RX1) (by decide +kernel) rfl rfl ?_
  intro p e s m args below meth c ls E hH K0 hl
  subst hH
  exact w_X1_turnTo E K0 N P va_S.rf h hl
theorem ds_X1_turnTo : Dsc yX1_turnTo 3 := ⟨by decide +kernel, by decide +kernel, by decide +kernel⟩
end
section
variable {p : Program} {l : Launch} {e : Env} {s : State} {m : MethodId} {args : Array Value} {below : List Frame} {meth : Method} {c : Code} {D : va_G} {cyI : ClassId} {ad : Nat → Nat} {I : Nat → Int32} {A : Nat → Nat → Int32}
def B_X1_hold_J68  (I : Nat → Int32) (A : Nat → Nat → Int32) (x1 x2 x6 : Int32) : Option (Int32 × (Nat → Int32) × (Nat → Nat → Int32)) := (B_X1_grown I A (((B_X1_energyAt I A x1 x2) - x6))).bind fun q_3 => some (q_3.1, q_3.2.1, q_3.2.2)
set_option maxHeartbeats 4000000 in
set_option maxRecDepth 100000 in
theorem w_X1_hold_J68 (E : EX p s m args meth c cX1_hold 8 RX1 (some .int)) (K0 : KC D cyI ad s s.heap) (N : AdN 44 ad) {H : Heap} {locs : List Loc} (P : va_P D classes (cw cyI ad I A) H) (S : va_S (InN 44 ad) s.heap H locs) {x1 x2 x6 : Int32} {out : Int32 × (Nat → Int32) × (Nat → Nat → Int32)} (h : B_X1_hold_J68  I A x1 x2 x6 = some out) {ls : Array Slot} (hl : lv_has ls 8 [(0, .ref (ad 2)), (1, .int x1), (2, .int x2), (6, .int x6)]) : W p l e (rmL 5) s m args below meth c H locs 0 0 (MQ below (Qrw (InN 44 ad) (some (.int out.1)) (fun H1 => va_P D classes (cw cyI ad out.2.1 out.2.2) H1)) args s 0 0 (InN 44 ad)) (F0 m 68 ls []) := by
  unfold B_X1_hold_J68 at h
  refine lv_aload_n E.hx E.hb dX1_hold_68 rfl (lv_at hl 0 rfl) ?_
  refine lv_aload_n E.hx E.hb dX1_hold_69 rfl (lv_at hl 0 rfl) ?_
  refine lv_iload_n E.hx E.hb dX1_hold_70 rfl (lv_at hl 1 rfl) ?_
  refine lv_iload_n E.hx E.hb dX1_hold_71 rfl (lv_at hl 2 rfl) ?_
  refine iv_X1_102 E K0 P S (by decide) hl.1 (Nat.le_of_ble_eq_true rfl) dX1_hold_72 ?_
  refine lv_iload E.hx E.hb dX1_hold_75 (lv_at hl 3 rfl) ?_
  refine lv_isub E.hx E.hb dX1_hold_77 ?_
  obtain ⟨q_3, e_4, h⟩ := obind h
  refine iv_X1_99 E N K0 P S e_4 (by decide) hl.1 (Nat.le_of_ble_eq_true rfl) dX1_hold_78 (fun H locs P S => ?_)
  cases h
  exact W.iret E.hx E.hb E.hr (fun t ht _ => ⟨rfl, by rw [ht]; exact P, S.F ht⟩) S.2.2 dX1_hold_81 E.hk
def B_X1_hold_J52  (I : Nat → Int32) (A : Nat → Nat → Int32) (x1 x2 x3 x4 x6 x7 : Int32) : Option (Int32 × (Nat → Int32) × (Nat → Nat → Int32)) := if x3 = 1 then B_X1_hold_J68  I ((va_up A 8 (rPut 144 (A 8) x7 x4))) x1 x2 x6 else B_X1_hold_J68  I A x1 x2 x6
set_option maxHeartbeats 4000000 in
set_option maxRecDepth 100000 in
theorem w_X1_hold_J52 (E : EX p s m args meth c cX1_hold 8 RX1 (some .int)) (K0 : KC D cyI ad s s.heap) (N : AdN 44 ad) {H : Heap} {locs : List Loc} (P : va_P D classes (cw cyI ad I A) H) (S : va_S (InN 44 ad) s.heap H locs) {x1 x2 x3 x4 x6 x7 : Int32} {out : Int32 × (Nat → Int32) × (Nat → Nat → Int32)} (h : B_X1_hold_J52  I A x1 x2 x3 x4 x6 x7 = some out) {ls : Array Slot} (hl : lv_has ls 8 [(0, .ref (ad 2)), (1, .int x1), (2, .int x2), (3, .int x3), (4, .int x4), (6, .int x6), (7, .int x7)]) : W p l e (rmL 5) s m args below meth c H locs 0 0 (MQ below (Qrw (InN 44 ad) (some (.int out.1)) (fun H1 => va_P D classes (cw cyI ad out.2.1 out.2.2) H1)) args s 0 0 (InN 44 ad)) (F0 m 52 ls []) := by
  unfold B_X1_hold_J52 at h
  refine lv_iload_n E.hx E.hb dX1_hold_52 rfl (lv_at hl 3 rfl) ?_
  refine lv_iconst (v := 1) E.hx E.hb dX1_hold_53 (by decide) ?_
  refine lv_icmp_ne (tgt := 68) E.hx E.hb dX1_hold_54 (by decide) (fun c_2 => ?_) (fun c_2 => ?_)
  · rw [if_neg c_2] at h
    exact w_X1_hold_J68 E K0 N P S h (lv_sub hl [0, 1, 2, 5] rfl)
  · rw [if_pos c_2] at h
    refine lv_aload_n E.hx E.hb dX1_hold_57 rfl (lv_at hl 0 rfl) ?_
    refine gf_X1_14 E K0 P dX1_hold_58 ?_
    refine lv_iload E.hx E.hb dX1_hold_61 (lv_at hl 6 rfl) ?_
    refine lv_iload E.hx E.hb dX1_hold_63 (lv_at hl 4 rfl) ?_
    refine rpt_X1_66 E N K0 P S cw_r8 cw_a8 cw_s8 (by decide) (by decide) hl.1 (Nat.le_of_ble_eq_true rfl) dX1_hold_65 (fun H locs P S => ?_)
    exact w_X1_hold_J68 E K0 N P S h (lv_sub hl [0, 1, 2, 5] rfl)
def B_X1_hold (I : Nat → Int32) (A : Nat → Nat → Int32) (x1 x2 x3 x4 x5 : Int32) : Option (Int32 × (Nat → Int32) × (Nat → Nat → Int32)) := if x3 = 2 then B_X1_hold_J52  I ((va_up ((va_up ((va_up A 9 (rPut 144 (A 9) ((B_X6_numberOf x1 x2)) x3))) 10 (rPut 144 (((va_up A 9 (rPut 144 (A 9) ((B_X6_numberOf x1 x2)) x3))) 10) ((B_X6_numberOf x1 x2)) x4))) 11 (rPut 144 (((va_up ((va_up A 9 (rPut 144 (A 9) ((B_X6_numberOf x1 x2)) x3))) 10 (rPut 144 (((va_up A 9 (rPut 144 (A 9) ((B_X6_numberOf x1 x2)) x3))) 10) ((B_X6_numberOf x1 x2)) x4))) 11) ((B_X6_numberOf x1 x2)) x5))) x1 x2 x3 x4 ((B_X1_energyAt I A x1 x2)) ((B_X6_numberOf x1 x2)) else B_X1_hold_J52  I ((va_up A 9 (rPut 144 (A 9) ((B_X6_numberOf x1 x2)) x3))) x1 x2 x3 x4 ((B_X1_energyAt I A x1 x2)) ((B_X6_numberOf x1 x2))
set_option maxHeartbeats 4000000 in
set_option maxRecDepth 100000 in
theorem w_X1_hold (E : EX p s m args meth c cX1_hold 8 RX1 (some .int)) (K0 : KC D cyI ad s s.heap) (N : AdN 44 ad) {H : Heap} {locs : List Loc} (P : va_P D classes (cw cyI ad I A) H) (S : va_S (InN 44 ad) s.heap H locs)  {x1 x2 x3 x4 x5 : Int32} {out : Int32 × (Nat → Int32) × (Nat → Nat → Int32)} (h : B_X1_hold I A x1 x2 x3 x4 x5 = some out) {ls : Array Slot} (hl : lv_has ls 8 [(0, .ref (ad 2)), (1, .int x1), (2, .int x2), (3, .int x3), (4, .int x4), (5, .int x5)]) : W p l e (rmL 5) s m args below meth c H locs 0 0 (MQ below (Qrw (InN 44 ad) (some (.int out.1)) (fun H1 => va_P D classes (cw cyI ad out.2.1 out.2.2) H1)) args s 0 0 (InN 44 ad)) (F0 m 0 ls []) := by
  unfold B_X1_hold at h
  refine lv_aload_n E.hx E.hb dX1_hold_0 rfl (lv_at hl 0 rfl) ?_
  refine lv_iload_n E.hx E.hb dX1_hold_1 rfl (lv_at hl 1 rfl) ?_
  refine lv_iload_n E.hx E.hb dX1_hold_2 rfl (lv_at hl 2 rfl) ?_
  refine iv_X1_102 E K0 P S (by decide) hl.1 (Nat.le_of_ble_eq_true rfl) dX1_hold_3 ?_
  refine lv_istore (lv' := [(6, .int (B_X1_energyAt I A x1 x2)), (0, .ref (ad 2)), (1, .int x1), (2, .int x2), (3, .int x3), (4, .int x4), (5, .int x5)]) E.hx E.hb dX1_hold_6 hl (by decide) rfl (fun ls hl => ?_)
  refine lv_iload_n E.hx E.hb dX1_hold_8 rfl (lv_at hl 2 rfl) ?_
  refine lv_iload_n E.hx E.hb dX1_hold_9 rfl (lv_at hl 3 rfl) ?_
  refine iv_X1_55 E K0 S (by decide) hl.1 (Nat.le_of_ble_eq_true rfl) dX1_hold_10 ?_
  refine lv_istore (lv' := [(7, .int (B_X6_numberOf x1 x2)), (6, .int (B_X1_energyAt I A x1 x2)), (0, .ref (ad 2)), (1, .int x1), (2, .int x2), (3, .int x3), (4, .int x4), (5, .int x5)]) E.hx E.hb dX1_hold_13 hl (by decide) rfl (fun ls hl => ?_)
  refine lv_aload_n E.hx E.hb dX1_hold_15 rfl (lv_at hl 2 rfl) ?_
  refine gf_X1_20 E K0 P dX1_hold_16 ?_
  refine lv_iload E.hx E.hb dX1_hold_19 (lv_at hl 0 rfl) ?_
  refine lv_iload_n E.hx E.hb dX1_hold_21 rfl (lv_at hl 5 rfl) ?_
  refine rpt_X1_66 E N K0 P S cw_r9 cw_a9 cw_s9 (by decide) (by decide) hl.1 (Nat.le_of_ble_eq_true rfl) dX1_hold_22 (fun H locs P S => ?_)
  refine lv_iload_n E.hx E.hb dX1_hold_25 rfl (lv_at hl 5 rfl) ?_
  refine lv_iconst (v := 2) E.hx E.hb dX1_hold_26 (by decide) ?_
  refine lv_icmp_ne (tgt := 52) E.hx E.hb dX1_hold_27 (by decide) (fun c_1 => ?_) (fun c_1 => ?_)
  · rw [if_neg c_1] at h
    exact w_X1_hold_J52 E K0 N P S h (lv_sub hl [2, 3, 4, 5, 6, 1, 0] rfl)
  · rw [if_pos c_1] at h
    refine lv_aload_n E.hx E.hb dX1_hold_30 rfl (lv_at hl 2 rfl) ?_
    refine gf_X1_23 E K0 P dX1_hold_31 ?_
    refine lv_iload E.hx E.hb dX1_hold_34 (lv_at hl 0 rfl) ?_
    refine lv_iload E.hx E.hb dX1_hold_36 (lv_at hl 6 rfl) ?_
    refine rpt_X1_66 E N K0 P S cw_r10 cw_a10 cw_s10 (by decide) (by decide) hl.1 (Nat.le_of_ble_eq_true rfl) dX1_hold_38 (fun H locs P S => ?_)
    refine lv_aload_n E.hx E.hb dX1_hold_41 rfl (lv_at hl 2 rfl) ?_
    refine gf_X1_26 E K0 P dX1_hold_42 ?_
    refine lv_iload E.hx E.hb dX1_hold_45 (lv_at hl 0 rfl) ?_
    refine lv_iload E.hx E.hb dX1_hold_47 (lv_at hl 7 rfl) ?_
    refine rpt_X1_66 E N K0 P S cw_r11 cw_a11 cw_s11 (by decide) (by decide) hl.1 (Nat.le_of_ble_eq_true rfl) dX1_hold_49 (fun H locs P S => ?_)
    exact w_X1_hold_J52 E K0 N P S h (lv_sub hl [2, 3, 4, 5, 6, 1, 0] rfl)
theorem c_X1_hold (l : Launch) {H : Heap} {D : va_G} {cyI : ClassId} {ad : Nat → Nat} {I : Nat → Int32} {A : Nat → Nat → Int32} (N : AdN 44 ad) (P : va_P D classes (cw cyI ad I A) H) (x1 x2 x3 x4 x5 : Int32) {out : Int32 × (Nat → Int32) × (Nat → Nat → Int32)} (h : B_X1_hold I A x1 x2 x3 x4 x5 = some out) : MRW l yX1_hold cX1_hold 8 (some .int) 5 [.ref (ad 2), .int x1, .int x2, .int x3, .int x4, .int x5] H (KC D cyI ad) (InN 44 ad) (some (.int out.1)) (fun H1 => va_P D classes (cw cyI ad out.2.1 out.2.2) H1) := by
  refine Mof (own := RX1) (by decide +kernel) rfl rfl ?_
  intro p e s m args below meth c ls E hH K0 hl
  subst hH
  exact w_X1_hold E K0 N P va_S.rf h hl
theorem ds_X1_hold : Dsc yX1_hold 5 := ⟨by decide +kernel, by decide +kernel, by decide +kernel⟩
end
section
variable {p : Program} {l : Launch} {e : Env} {s : State} {m : MethodId} {args : Array Value} {below : List Frame} {meth : Method} {c : Code} {D : va_G} {cyI : ClassId} {ad : Nat → Nat} {I : Nat → Int32} {A : Nat → Nat → Int32}
def B_X1_settle_J102  (I : Nat → Int32) (A : Nat → Nat → Int32) (x1 x2 x6 x9 x10 : Int32) : Option ((Nat → Int32) × (Nat → Nat → Int32)) := (B_X1_grown I ((va_up A 8 (rPut 144 (A 8) ((B_X6_numberOf x1 x2)) x9))) ((x10 - x6))).bind fun q_5 => some (q_5.2.1, q_5.2.2)
set_option maxHeartbeats 4000000 in
set_option maxRecDepth 100000 in
theorem w_X1_settle_J102 (E : EX p s m args meth c cX1_settle 11 RX1 none) (K0 : KC D cyI ad s s.heap) (N : AdN 44 ad) {H : Heap} {locs : List Loc} (P : va_P D classes (cw cyI ad I A) H) (S : va_S (InN 44 ad) s.heap H locs) {x1 x2 x6 x9 x10 : Int32} {out : (Nat → Int32) × (Nat → Nat → Int32)} (h : B_X1_settle_J102  I A x1 x2 x6 x9 x10 = some out) {ls : Array Slot} (hl : lv_has ls 11 [(0, .ref (ad 2)), (1, .int x1), (2, .int x2), (6, .int x6), (9, .int x9), (10, .int x10)]) : W p l e (rmL 4) s m args below meth c H locs 0 0 (MQ below (Qrw (InN 44 ad) (none) (fun H1 => va_P D classes (cw cyI ad out.1 out.2) H1)) args s 0 0 (InN 44 ad)) (F0 m 102 ls []) := by
  unfold B_X1_settle_J102 at h
  refine lv_aload_n E.hx E.hb dX1_settle_102 rfl (lv_at hl 0 rfl) ?_
  refine gf_X1_14 E K0 P dX1_settle_103 ?_
  refine lv_iload_n E.hx E.hb dX1_settle_106 rfl (lv_at hl 1 rfl) ?_
  refine lv_iload_n E.hx E.hb dX1_settle_107 rfl (lv_at hl 2 rfl) ?_
  refine iv_X1_55 E K0 S (by decide) hl.1 (Nat.le_of_ble_eq_true rfl) dX1_settle_108 ?_
  refine lv_iload E.hx E.hb dX1_settle_111 (lv_at hl 4 rfl) ?_
  refine rpt_X1_66 E N K0 P S cw_r8 cw_a8 cw_s8 (by decide) (by decide) hl.1 (Nat.le_of_ble_eq_true rfl) dX1_settle_113 (fun H locs P S => ?_)
  refine lv_aload_n E.hx E.hb dX1_settle_116 rfl (lv_at hl 0 rfl) ?_
  refine lv_iload E.hx E.hb dX1_settle_117 (lv_at hl 5 rfl) ?_
  refine lv_iload E.hx E.hb dX1_settle_119 (lv_at hl 3 rfl) ?_
  refine lv_isub E.hx E.hb dX1_settle_121 ?_
  obtain ⟨q_5, e_6, h⟩ := obind h
  refine iv_X1_99 E N K0 P S e_6 (by decide) hl.1 (Nat.le_of_ble_eq_true rfl) dX1_settle_122 (fun H locs P S => ?_)
  refine lv_pop E.hx E.hb dX1_settle_125 rfl ?_
  cases h
  exact W.vret E.hx E.hb E.hr (fun t ht _ => ⟨rfl, by rw [ht]; exact P, S.F ht⟩) S.2.2 dX1_settle_126 E.hk
def B_X1_settle_J87  (I : Nat → Int32) (A : Nat → Nat → Int32) (x1 x2 x5 x6 x8 x9 x10 : Int32) : Option ((Nat → Int32) × (Nat → Nat → Int32)) := if x10 ≤ x8 then B_X1_settle_J102  I A x1 x2 x6 x9 x10 else B_X1_settle_J102  I A x1 x2 x6 x5 x8
set_option maxHeartbeats 4000000 in
set_option maxRecDepth 100000 in
theorem w_X1_settle_J87 (E : EX p s m args meth c cX1_settle 11 RX1 none) (K0 : KC D cyI ad s s.heap) (N : AdN 44 ad) {H : Heap} {locs : List Loc} (P : va_P D classes (cw cyI ad I A) H) (S : va_S (InN 44 ad) s.heap H locs) {x1 x2 x5 x6 x8 x9 x10 : Int32} {out : (Nat → Int32) × (Nat → Nat → Int32)} (h : B_X1_settle_J87  I A x1 x2 x5 x6 x8 x9 x10 = some out) {ls : Array Slot} (hl : lv_has ls 11 [(0, .ref (ad 2)), (1, .int x1), (2, .int x2), (5, .int x5), (6, .int x6), (8, .int x8), (9, .int x9), (10, .int x10)]) : W p l e (rmL 4) s m args below meth c H locs 0 0 (MQ below (Qrw (InN 44 ad) (none) (fun H1 => va_P D classes (cw cyI ad out.1 out.2) H1)) args s 0 0 (InN 44 ad)) (F0 m 87 ls []) := by
  unfold B_X1_settle_J87 at h
  refine lv_iload E.hx E.hb dX1_settle_87 (lv_at hl 5 rfl) ?_
  refine lv_iload E.hx E.hb dX1_settle_89 (lv_at hl 7 rfl) ?_
  refine lv_icmp_ge (tgt := 102) E.hx E.hb dX1_settle_91 (by decide) (fun c_4 => ?_) (fun c_4 => ?_)
  · rw [if_pos c_4] at h
    exact w_X1_settle_J102 E K0 N P S h (lv_sub hl [0, 1, 2, 4, 6, 7] rfl)
  · rw [if_neg c_4] at h
    refine lv_iload E.hx E.hb dX1_settle_94 (lv_at hl 3 rfl) ?_
    refine lv_istore (lv' := [(9, .int x5), (0, .ref (ad 2)), (1, .int x1), (2, .int x2), (5, .int x5), (6, .int x6), (8, .int x8), (10, .int x10)]) E.hx E.hb dX1_settle_96 hl (by decide) rfl (fun ls hl => ?_)
    refine lv_iload E.hx E.hb dX1_settle_98 (lv_at hl 6 rfl) ?_
    refine lv_istore (lv' := [(10, .int x8), (9, .int x5), (0, .ref (ad 2)), (1, .int x1), (2, .int x2), (5, .int x5), (6, .int x6), (8, .int x8)]) E.hx E.hb dX1_settle_100 hl (by decide) rfl (fun ls hl => ?_)
    exact w_X1_settle_J102 E K0 N P S h (lv_sub hl [2, 3, 4, 6, 1, 0] rfl)
def B_X1_settle_J34  (I : Nat → Int32) (A : Nat → Nat → Int32) (x1 x2 x3 x4 t0 : Int32) : Option ((Nat → Int32) × (Nat → Nat → Int32)) := if (B_X1_energyWith I A x1 x2 x3) ≤ (B_X1_energyWith I A x1 x2 x4) then B_X1_settle_J87  I A x1 x2 t0 ((B_X1_energyWith I A x1 x2 x3)) ((B_X1_energyWith I A x1 x2 t0)) x3 ((B_X1_energyWith I A x1 x2 x3)) else B_X1_settle_J87  I A x1 x2 t0 ((B_X1_energyWith I A x1 x2 x3)) ((B_X1_energyWith I A x1 x2 t0)) x4 ((B_X1_energyWith I A x1 x2 x4))
set_option maxHeartbeats 4000000 in
set_option maxRecDepth 100000 in
theorem w_X1_settle_J34 (E : EX p s m args meth c cX1_settle 11 RX1 none) (K0 : KC D cyI ad s s.heap) (N : AdN 44 ad) {H : Heap} {locs : List Loc} (P : va_P D classes (cw cyI ad I A) H) (S : va_S (InN 44 ad) s.heap H locs) {x1 x2 x3 x4 t0 : Int32} {out : (Nat → Int32) × (Nat → Nat → Int32)} (h : B_X1_settle_J34  I A x1 x2 x3 x4 t0 = some out) {ls : Array Slot} (hl : lv_has ls 11 [(0, .ref (ad 2)), (1, .int x1), (2, .int x2), (3, .int x3), (4, .int x4)]) : W p l e (rmL 4) s m args below meth c H locs 0 0 (MQ below (Qrw (InN 44 ad) (none) (fun H1 => va_P D classes (cw cyI ad out.1 out.2) H1)) args s 0 0 (InN 44 ad)) (F0 m 34 ls [.int t0]) := by
  unfold B_X1_settle_J34 at h
  refine lv_istore (lv' := [(5, .int t0), (0, .ref (ad 2)), (1, .int x1), (2, .int x2), (3, .int x3), (4, .int x4)]) E.hx E.hb dX1_settle_34 hl (by decide) rfl (fun ls hl => ?_)
  refine lv_aload_n E.hx E.hb dX1_settle_36 rfl (lv_at hl 1 rfl) ?_
  refine lv_iload_n E.hx E.hb dX1_settle_37 rfl (lv_at hl 2 rfl) ?_
  refine lv_iload_n E.hx E.hb dX1_settle_38 rfl (lv_at hl 3 rfl) ?_
  refine lv_iload_n E.hx E.hb dX1_settle_39 rfl (lv_at hl 4 rfl) ?_
  refine iv_X1_91 E K0 P S (by decide) hl.1 (Nat.le_of_ble_eq_true rfl) dX1_settle_40 ?_
  refine lv_istore (lv' := [(6, .int (B_X1_energyWith I A x1 x2 x3)), (5, .int t0), (0, .ref (ad 2)), (1, .int x1), (2, .int x2), (3, .int x3), (4, .int x4)]) E.hx E.hb dX1_settle_43 hl (by decide) rfl (fun ls hl => ?_)
  refine lv_aload_n E.hx E.hb dX1_settle_45 rfl (lv_at hl 2 rfl) ?_
  refine lv_iload_n E.hx E.hb dX1_settle_46 rfl (lv_at hl 3 rfl) ?_
  refine lv_iload_n E.hx E.hb dX1_settle_47 rfl (lv_at hl 4 rfl) ?_
  refine lv_iload E.hx E.hb dX1_settle_48 (lv_at hl 6 rfl) ?_
  refine iv_X1_91 E K0 P S (by decide) hl.1 (Nat.le_of_ble_eq_true rfl) dX1_settle_50 ?_
  refine lv_istore (lv' := [(7, .int (B_X1_energyWith I A x1 x2 x4)), (6, .int (B_X1_energyWith I A x1 x2 x3)), (5, .int t0), (0, .ref (ad 2)), (1, .int x1), (2, .int x2), (3, .int x3), (4, .int x4)]) E.hx E.hb dX1_settle_53 hl (by decide) rfl (fun ls hl => ?_)
  refine lv_aload_n E.hx E.hb dX1_settle_55 rfl (lv_at hl 3 rfl) ?_
  refine lv_iload_n E.hx E.hb dX1_settle_56 rfl (lv_at hl 4 rfl) ?_
  refine lv_iload_n E.hx E.hb dX1_settle_57 rfl (lv_at hl 5 rfl) ?_
  refine lv_iload E.hx E.hb dX1_settle_58 (lv_at hl 2 rfl) ?_
  refine iv_X1_91 E K0 P S (by decide) hl.1 (Nat.le_of_ble_eq_true rfl) dX1_settle_60 ?_
  refine lv_istore (lv' := [(8, .int (B_X1_energyWith I A x1 x2 t0)), (7, .int (B_X1_energyWith I A x1 x2 x4)), (6, .int (B_X1_energyWith I A x1 x2 x3)), (5, .int t0), (0, .ref (ad 2)), (1, .int x1), (2, .int x2), (3, .int x3), (4, .int x4)]) E.hx E.hb dX1_settle_63 hl (by decide) rfl (fun ls hl => ?_)
  refine lv_iload_n E.hx E.hb dX1_settle_65 rfl (lv_at hl 7 rfl) ?_
  refine lv_istore (lv' := [(9, .int x3), (8, .int (B_X1_energyWith I A x1 x2 t0)), (7, .int (B_X1_energyWith I A x1 x2 x4)), (6, .int (B_X1_energyWith I A x1 x2 x3)), (5, .int t0), (0, .ref (ad 2)), (1, .int x1), (2, .int x2), (3, .int x3), (4, .int x4)]) E.hx E.hb dX1_settle_66 hl (by decide) rfl (fun ls hl => ?_)
  refine lv_iload E.hx E.hb dX1_settle_68 (lv_at hl 3 rfl) ?_
  refine lv_istore (lv' := [(10, .int (B_X1_energyWith I A x1 x2 x3)), (9, .int x3), (8, .int (B_X1_energyWith I A x1 x2 t0)), (7, .int (B_X1_energyWith I A x1 x2 x4)), (6, .int (B_X1_energyWith I A x1 x2 x3)), (5, .int t0), (0, .ref (ad 2)), (1, .int x1), (2, .int x2), (3, .int x3), (4, .int x4)]) E.hx E.hb dX1_settle_70 hl (by decide) rfl (fun ls hl => ?_)
  refine lv_iload E.hx E.hb dX1_settle_72 (lv_at hl 3 rfl) ?_
  refine lv_iload E.hx E.hb dX1_settle_74 (lv_at hl 0 rfl) ?_
  refine lv_icmp_ge (tgt := 87) E.hx E.hb dX1_settle_76 (by decide) (fun c_3 => ?_) (fun c_3 => ?_)
  · rw [if_pos c_3] at h
    exact w_X1_settle_J87 E K0 N P S h (lv_sub hl [6, 7, 8, 5, 4, 2, 1, 0] rfl)
  · rw [if_neg c_3] at h
    refine lv_iload E.hx E.hb dX1_settle_79 (lv_at hl 10 rfl) ?_
    refine lv_istore (lv' := [(9, .int x4), (10, .int (B_X1_energyWith I A x1 x2 x3)), (8, .int (B_X1_energyWith I A x1 x2 t0)), (7, .int (B_X1_energyWith I A x1 x2 x4)), (6, .int (B_X1_energyWith I A x1 x2 x3)), (5, .int t0), (0, .ref (ad 2)), (1, .int x1), (2, .int x2), (3, .int x3), (4, .int x4)]) E.hx E.hb dX1_settle_81 hl (by decide) rfl (fun ls hl => ?_)
    refine lv_iload E.hx E.hb dX1_settle_83 (lv_at hl 3 rfl) ?_
    refine lv_istore (lv' := [(10, .int (B_X1_energyWith I A x1 x2 x4)), (9, .int x4), (8, .int (B_X1_energyWith I A x1 x2 t0)), (7, .int (B_X1_energyWith I A x1 x2 x4)), (6, .int (B_X1_energyWith I A x1 x2 x3)), (5, .int t0), (0, .ref (ad 2)), (1, .int x1), (2, .int x2), (3, .int x3), (4, .int x4)]) E.hx E.hb dX1_settle_85 hl (by decide) rfl (fun ls hl => ?_)
    exact w_X1_settle_J87 E K0 N P S h (lv_sub hl [6, 7, 8, 5, 4, 2, 1, 0] rfl)
def B_X1_settle_J19  (I : Nat → Int32) (A : Nat → Nat → Int32) (x1 x2 x3 t0 : Int32) : Option ((Nat → Int32) × (Nat → Nat → Int32)) := if x3 = 14 then B_X1_settle_J34  I A x1 x2 x3 t0 0 else B_X1_settle_J34  I A x1 x2 x3 t0 ((x3 + 1))
set_option maxHeartbeats 4000000 in
set_option maxRecDepth 100000 in
theorem w_X1_settle_J19 (E : EX p s m args meth c cX1_settle 11 RX1 none) (K0 : KC D cyI ad s s.heap) (N : AdN 44 ad) {H : Heap} {locs : List Loc} (P : va_P D classes (cw cyI ad I A) H) (S : va_S (InN 44 ad) s.heap H locs) {x1 x2 x3 t0 : Int32} {out : (Nat → Int32) × (Nat → Nat → Int32)} (h : B_X1_settle_J19  I A x1 x2 x3 t0 = some out) {ls : Array Slot} (hl : lv_has ls 11 [(0, .ref (ad 2)), (1, .int x1), (2, .int x2), (3, .int x3)]) : W p l e (rmL 4) s m args below meth c H locs 0 0 (MQ below (Qrw (InN 44 ad) (none) (fun H1 => va_P D classes (cw cyI ad out.1 out.2) H1)) args s 0 0 (InN 44 ad)) (F0 m 19 ls [.int t0]) := by
  unfold B_X1_settle_J19 at h
  refine lv_istore (lv' := [(4, .int t0), (0, .ref (ad 2)), (1, .int x1), (2, .int x2), (3, .int x3)]) E.hx E.hb dX1_settle_19 hl (by decide) rfl (fun ls hl => ?_)
  refine lv_iload_n E.hx E.hb dX1_settle_21 rfl (lv_at hl 4 rfl) ?_
  refine lv_bipush (v := 14) E.hx E.hb dX1_settle_22 (by decide) ?_
  refine lv_icmp_ne (tgt := 31) E.hx E.hb dX1_settle_24 (by decide) (fun c_2 => ?_) (fun c_2 => ?_)
  · rw [if_neg c_2] at h
    refine lv_iload_n E.hx E.hb dX1_settle_31 rfl (lv_at hl 4 rfl) ?_
    refine lv_iconst (v := 1) E.hx E.hb dX1_settle_32 (by decide) ?_
    refine lv_iadd E.hx E.hb dX1_settle_33 ?_
    exact w_X1_settle_J34 E K0 N P S h (lv_sub hl [1, 2, 3, 4, 0] rfl)
  · rw [if_pos c_2] at h
    refine lv_iconst (v := 0) E.hx E.hb dX1_settle_27 (by decide) ?_
    refine lv_goto (tgt := 34) E.hx E.hb dX1_settle_28 (by decide) ?_
    exact w_X1_settle_J34 E K0 N P S h (lv_sub hl [1, 2, 3, 4, 0] rfl)
def B_X1_settle (I : Nat → Int32) (A : Nat → Nat → Int32) (x1 x2 : Int32) : Option ((Nat → Int32) × (Nat → Nat → Int32)) := if (B_X1_directionAt I A x1 x2) = 0 then B_X1_settle_J19  I A x1 x2 ((B_X1_directionAt I A x1 x2)) 14 else B_X1_settle_J19  I A x1 x2 ((B_X1_directionAt I A x1 x2)) (((B_X1_directionAt I A x1 x2) - 1))
set_option maxHeartbeats 4000000 in
set_option maxRecDepth 100000 in
theorem w_X1_settle (E : EX p s m args meth c cX1_settle 11 RX1 none) (K0 : KC D cyI ad s s.heap) (N : AdN 44 ad) {H : Heap} {locs : List Loc} (P : va_P D classes (cw cyI ad I A) H) (S : va_S (InN 44 ad) s.heap H locs)  {x1 x2 : Int32} {out : (Nat → Int32) × (Nat → Nat → Int32)} (h : B_X1_settle I A x1 x2 = some out) {ls : Array Slot} (hl : lv_has ls 11 [(0, .ref (ad 2)), (1, .int x1), (2, .int x2)]) : W p l e (rmL 4) s m args below meth c H locs 0 0 (MQ below (Qrw (InN 44 ad) (none) (fun H1 => va_P D classes (cw cyI ad out.1 out.2) H1)) args s 0 0 (InN 44 ad)) (F0 m 0 ls []) := by
  unfold B_X1_settle at h
  refine lv_aload_n E.hx E.hb dX1_settle_0 rfl (lv_at hl 0 rfl) ?_
  refine lv_iload_n E.hx E.hb dX1_settle_1 rfl (lv_at hl 1 rfl) ?_
  refine lv_iload_n E.hx E.hb dX1_settle_2 rfl (lv_at hl 2 rfl) ?_
  refine iv_X1_88 E K0 P S (by decide) hl.1 (Nat.le_of_ble_eq_true rfl) dX1_settle_3 ?_
  refine lv_istore_n (lv' := [(3, .int (B_X1_directionAt I A x1 x2)), (0, .ref (ad 2)), (1, .int x1), (2, .int x2)]) E.hx E.hb dX1_settle_6 rfl hl (by decide) rfl (fun ls hl => ?_)
  refine lv_iload_n E.hx E.hb dX1_settle_7 rfl (lv_at hl 0 rfl) ?_
  refine lv_if_ne (tgt := 16) E.hx E.hb dX1_settle_8 (by decide) (fun c_1 => ?_) (fun c_1 => ?_)
  · rw [if_neg c_1] at h
    refine lv_iload_n E.hx E.hb dX1_settle_16 rfl (lv_at hl 0 rfl) ?_
    refine lv_iconst (v := 1) E.hx E.hb dX1_settle_17 (by decide) ?_
    refine lv_isub E.hx E.hb dX1_settle_18 ?_
    exact w_X1_settle_J19 E K0 N P S h (lv_sub hl [1, 2, 3, 0] rfl)
  · rw [if_pos c_1] at h
    refine lv_bipush (v := 14) E.hx E.hb dX1_settle_11 (by decide) ?_
    refine lv_goto (tgt := 19) E.hx E.hb dX1_settle_13 (by decide) ?_
    exact w_X1_settle_J19 E K0 N P S h (lv_sub hl [1, 2, 3, 0] rfl)
theorem c_X1_settle (l : Launch) {H : Heap} {D : va_G} {cyI : ClassId} {ad : Nat → Nat} {I : Nat → Int32} {A : Nat → Nat → Int32} (N : AdN 44 ad) (P : va_P D classes (cw cyI ad I A) H) (x1 x2 : Int32) {out : (Nat → Int32) × (Nat → Nat → Int32)} (h : B_X1_settle I A x1 x2 = some out) : MRW l yX1_settle cX1_settle 11 none 4 [.ref (ad 2), .int x1, .int x2] H (KC D cyI ad) (InN 44 ad) none (fun H1 => va_P D classes (cw cyI ad out.1 out.2) H1) := by
  refine Mof (own := RX1) (by decide +kernel) rfl rfl ?_
  intro p e s m args below meth c ls E hH K0 hl
  subst hH
  exact w_X1_settle E K0 N P va_S.rf h hl
theorem ds_X1_settle : Dsc yX1_settle 2 := ⟨by decide +kernel, by decide +kernel, by decide +kernel⟩
end
section
variable {p : Program} {l : Launch} {e : Env} {R : Room} {s : State} {m : MethodId} {args : Array Value} {below : List Frame} {meth : Method} {c : Code} {H : Heap} {locs : List Loc} {cells slots : Nat} {Q : State → Prop} {cc : ByteArray} {nL pc : Nat} {ret : Option FieldType} {ls : Array Slot} {rest : List Value} {D : va_G} {cyI : ClassId} {ad : Nat → Nat} {I : Nat → Int32} {A : Nat → Nat → Int32}
theorem iv_X1_122 (E : EX p s m args meth c cc nL RX1 ret) (K0 : KC D cyI ad s s.heap) (P : va_P D classes (cw cyI ad I A) H) (S : va_S (InN 44 ad) s.heap H locs) {a0 a1 : Int32} (hR : RmOk R cells slots 1 3) (hls : ls.size = nL) (hro : (rest.map fun v => v.category).sum ≤ 8) (hdg : decode cc pc = .ok (.invokevirtual 122, 3)) (kk : W p l e R s m args below meth c H locs cells slots Q (F0 m (pc + 3) ls (.int (B_X1_kindAt I A a0 a1) :: rest))) : W p l e R s m args below meth c H locs cells slots Q (F0 m pc ls (.int a1 :: .int a0 :: .ref (ad 2) :: rest)) :=
  cv_ro E (c_X1_kindAt l P a0 a1 ) (gV kML_X1_122 kIM_X1_kindAt kSE_X1_kindAt kIN_X1 kCO_X1_kindAt) rfl ds_X1_kindAt rfl KC_blind (fun U _ hW => (K0.at S).warm hW) (va_recv K0.k P (show classes[1]? = some (RX1, TX1, 11) from rfl) cw_g2) hR hls rfl hro hdg kk
end
section
variable {p : Program} {l : Launch} {e : Env} {R : Room} {s : State} {m : MethodId} {args : Array Value} {below : List Frame} {meth : Method} {c : Code} {H : Heap} {locs : List Loc} {cells slots : Nat} {Q : State → Prop} {cc : ByteArray} {nL pc : Nat} {ret : Option FieldType} {ls : Array Slot} {rest : List Value} {D : va_G} {cyI : ClassId} {ad : Nat → Nat} {I : Nat → Int32} {A : Nat → Nat → Int32}
theorem iv_X1_125 (E : EX p s m args meth c cc nL RX1 ret) (N : AdN 44 ad) (K0 : KC D cyI ad s s.heap) (P : va_P D classes (cw cyI ad I A) H) (S : va_S (InN 44 ad) s.heap H locs) {a0 a1 : Int32} {v : (Nat → Int32) × (Nat → Nat → Int32)} (hv : B_X1_settle I A a0 a1 = some v) (hR : RmOk R cells slots 4 11) (hls : ls.size = nL) (hro : (rest.map fun v => v.category).sum ≤ 8) (hdg : decode cc pc = .ok (.invokevirtual 125, 3)) (kk : ∀ (H1 : Heap) (locs1 : List Loc), va_P D classes (cw cyI ad v.1 v.2) H1 → va_S (InN 44 ad) s.heap H1 locs1 → W p l e R s m args below meth c H1 locs1 cells slots Q (F0 m (pc + 3) ls (rest))) : W p l e R s m args below meth c H locs cells slots Q (F0 m pc ls (.int a1 :: .int a0 :: .ref (ad 2) :: rest)) :=
  cv_rw E (c_X1_settle l N P a0 a1 hv) (gV kML_X1_125 kIM_X1_settle kSE_X1_settle kIN_X1 kCO_X1_settle) rfl ds_X1_settle rfl KC_blind (fun U _ hW => (K0.at S).warm hW) S (va_recv K0.k P (show classes[1]? = some (RX1, TX1, 11) from rfl) cw_g2) hR hls rfl hro hdg kk
end
section
variable {p : Program} {l : Launch} {e : Env} {s : State} {m : MethodId} {args : Array Value} {below : List Frame} {meth : Method} {c : Code} {D : va_G} {cyI : ClassId} {ad : Nat → Nat} {I : Nat → Int32} {A : Nat → Nat → Int32}
def B_X1_relax_L17  (x1 x2 : Int32) : Nat → Int32 → (Nat → Int32) → (Nat → Nat → Int32) → Option ((Nat → Int32) × (Nat → Nat → Int32))
  | 0 => fun _ _ _ => none
  | n + 1 => fun x3 I A => if (I 5) ≤ x3 then some ((I, A)) else (if (B_X1_kindAt I A x3 x2) = 1 then (B_X1_relax_L17 x1 x2 n) (x3 + 1) I A else ((B_X1_settle I A x3 x2).bind fun q_4 => (B_X1_relax_L17 x1 x2 n) (x3 + 1) q_4.1 q_4.2))
theorem B_X1_relax_L17_s (I : Nat → Int32) (A : Nat → Nat → Int32) (x1 x2 x3 : Int32) (n : Nat) : B_X1_relax_L17  x1 x2 (n + 1) x3 I A = if (I 5) ≤ x3 then some ((I, A)) else (if (B_X1_kindAt I A x3 x2) = 1 then (B_X1_relax_L17 x1 x2 n) (x3 + 1) I A else ((B_X1_settle I A x3 x2).bind fun q_4 => (B_X1_relax_L17 x1 x2 n) (x3 + 1) q_4.1 q_4.2)) := rfl
set_option maxHeartbeats 4000000 in
set_option maxRecDepth 100000 in
theorem w_X1_relax_L17 (E : EX p s m args meth c cX1_relax 4 RX1 (some .int)) (K0 : KC D cyI ad s s.heap) (N : AdN 44 ad) {x1 x2 : Int32} {out : Int32 × (Nat → Int32) × (Nat → Nat → Int32)} : ∀ (n : Nat) {x3 : Int32} {I : Nat → Int32} {A : Nat → Nat → Int32} {H : Heap} {locs : List Loc} (P : va_P D classes (cw cyI ad I A) H) (S : va_S (InN 44 ad) s.heap H locs) {o : (Nat → Int32) × (Nat → Nat → Int32)} (h : B_X1_relax_L17  x1 x2 n x3 I A = some o) {ls : Array Slot} (hl : lv_has ls 4 [(0, .ref (ad 2)), (1, .int x1), (2, .int x2), (3, .int x3)]) (kx : ∀ {H : Heap} {locs : List Loc} (_ : va_P D classes (cw cyI ad o.1 o.2) H) (_ : va_S (InN 44 ad) s.heap H locs) {ls : Array Slot}, lv_has ls 4 [(0, .ref (ad 2)), (1, .int x1), (2, .int x2)] → W p l e (rmL 5) s m args below meth c H locs 0 0 (MQ below (Qrw (InN 44 ad) (some (.int out.1)) (fun H1 => va_P D classes (cw cyI ad out.2.1 out.2.2) H1)) args s 0 0 (InN 44 ad)) (F0 m 47 ls [])), W p l e (rmL 5) s m args below meth c H locs 0 0 (MQ below (Qrw (InN 44 ad) (some (.int out.1)) (fun H1 => va_P D classes (cw cyI ad out.2.1 out.2.2) H1)) args s 0 0 (InN 44 ad)) (F0 m 17 ls []) := by
  intro n
  induction n with
  | zero => intro x3 I A H locs P S o h ls hl kx; exact nomatch (show none = some o from h)
  | succ n ih =>
    intro x3 I A H locs P S o h ls hl kx
    rw [B_X1_relax_L17_s] at h
    refine lv_iload_n E.hx E.hb dX1_relax_17 rfl (lv_at hl 3 rfl) ?_
    refine lv_aload_n E.hx E.hb dX1_relax_18 rfl (lv_at hl 0 rfl) ?_
    refine gf_X1_32 E K0 P dX1_relax_19 ?_
    refine lv_icmp_ge (tgt := 47) E.hx E.hb dX1_relax_22 (by decide) (fun c_2 => ?_) (fun c_2 => ?_)
    · rw [if_pos c_2] at h
      cases h
      exact kx P S (lv_sub hl [0, 1, 2] rfl)
    · rw [if_neg c_2] at h
      refine lv_aload_n E.hx E.hb dX1_relax_25 rfl (lv_at hl 0 rfl) ?_
      refine lv_iload_n E.hx E.hb dX1_relax_26 rfl (lv_at hl 3 rfl) ?_
      refine lv_iload_n E.hx E.hb dX1_relax_27 rfl (lv_at hl 2 rfl) ?_
      refine iv_X1_122 E K0 P S (by decide) hl.1 (Nat.le_of_ble_eq_true rfl) dX1_relax_28 ?_
      refine lv_iconst (v := 1) E.hx E.hb dX1_relax_31 (by decide) ?_
      refine lv_icmp_eq (tgt := 41) E.hx E.hb dX1_relax_32 (by decide) (fun c_3 => ?_) (fun c_3 => ?_)
      · rw [if_pos c_3] at h
        refine lv_iinc (v := x3 + 1) (lv' := [(3, .int (x3 + 1)), (0, .ref (ad 2)), (1, .int x1), (2, .int x2)]) E.hx E.hb dX1_relax_41 hl (k := 3) rfl rfl (by decide) rfl (fun ls hl => ?_)
        refine lv_goto (tgt := 17) E.hx E.hb dX1_relax_44 (by decide) ?_
        exact ih P S h (lv_sub hl [1, 2, 3, 0] rfl) kx
      · rw [if_neg c_3] at h
        refine lv_aload_n E.hx E.hb dX1_relax_35 rfl (lv_at hl 0 rfl) ?_
        refine lv_iload_n E.hx E.hb dX1_relax_36 rfl (lv_at hl 3 rfl) ?_
        refine lv_iload_n E.hx E.hb dX1_relax_37 rfl (lv_at hl 2 rfl) ?_
        obtain ⟨q_4, e_5, h⟩ := obind h
        refine iv_X1_125 E N K0 P S e_5 (by decide) hl.1 (Nat.le_of_ble_eq_true rfl) dX1_relax_38 (fun H locs P S => ?_)
        refine lv_iinc (v := x3 + 1) (lv' := [(3, .int (x3 + 1)), (0, .ref (ad 2)), (1, .int x1), (2, .int x2)]) E.hx E.hb dX1_relax_41 hl (k := 3) rfl rfl (by decide) rfl (fun ls hl => ?_)
        refine lv_goto (tgt := 17) E.hx E.hb dX1_relax_44 (by decide) ?_
        exact ih P S h (lv_sub hl [1, 2, 3, 0] rfl) kx
def B_X1_relax_L7  (x1 : Int32) : Nat → Int32 → (Nat → Int32) → (Nat → Nat → Int32) → Option ((Nat → Int32) × (Nat → Nat → Int32))
  | 0 => fun _ _ _ => none
  | n + 1 => fun x2 I A => if (I 6) ≤ x2 then some ((I, A)) else ((B_X1_relax_L17  x1 x2 FU 0 I A).bind fun q_6 => (B_X1_relax_L7 x1 n) (x2 + 1) q_6.1 q_6.2)
theorem B_X1_relax_L7_s (I : Nat → Int32) (A : Nat → Nat → Int32) (x1 x2 : Int32) (n : Nat) : B_X1_relax_L7  x1 (n + 1) x2 I A = if (I 6) ≤ x2 then some ((I, A)) else ((B_X1_relax_L17  x1 x2 FU 0 I A).bind fun q_6 => (B_X1_relax_L7 x1 n) (x2 + 1) q_6.1 q_6.2) := rfl
set_option maxHeartbeats 4000000 in
set_option maxRecDepth 100000 in
theorem w_X1_relax_L7 (E : EX p s m args meth c cX1_relax 4 RX1 (some .int)) (K0 : KC D cyI ad s s.heap) (N : AdN 44 ad) {x1 : Int32} {out : Int32 × (Nat → Int32) × (Nat → Nat → Int32)} : ∀ (n : Nat) {x2 : Int32} {I : Nat → Int32} {A : Nat → Nat → Int32} {H : Heap} {locs : List Loc} (P : va_P D classes (cw cyI ad I A) H) (S : va_S (InN 44 ad) s.heap H locs) {o : (Nat → Int32) × (Nat → Nat → Int32)} (h : B_X1_relax_L7  x1 n x2 I A = some o) {ls : Array Slot} (hl : lv_has ls 4 [(0, .ref (ad 2)), (1, .int x1), (2, .int x2)]) (kx : ∀ {H : Heap} {locs : List Loc} (_ : va_P D classes (cw cyI ad o.1 o.2) H) (_ : va_S (InN 44 ad) s.heap H locs) {ls : Array Slot}, lv_has ls 4 [(0, .ref (ad 2)), (1, .int x1)] → W p l e (rmL 5) s m args below meth c H locs 0 0 (MQ below (Qrw (InN 44 ad) (some (.int out.1)) (fun H1 => va_P D classes (cw cyI ad out.2.1 out.2.2) H1)) args s 0 0 (InN 44 ad)) (F0 m 53 ls [])), W p l e (rmL 5) s m args below meth c H locs 0 0 (MQ below (Qrw (InN 44 ad) (some (.int out.1)) (fun H1 => va_P D classes (cw cyI ad out.2.1 out.2.2) H1)) args s 0 0 (InN 44 ad)) (F0 m 7 ls []) := by
  intro n
  induction n with
  | zero => intro x2 I A H locs P S o h ls hl kx; exact nomatch (show none = some o from h)
  | succ n ih =>
    intro x2 I A H locs P S o h ls hl kx
    rw [B_X1_relax_L7_s] at h
    refine lv_iload_n E.hx E.hb dX1_relax_7 rfl (lv_at hl 2 rfl) ?_
    refine lv_aload_n E.hx E.hb dX1_relax_8 rfl (lv_at hl 0 rfl) ?_
    refine gf_X1_36 E K0 P dX1_relax_9 ?_
    refine lv_icmp_ge (tgt := 53) E.hx E.hb dX1_relax_12 (by decide) (fun c_1 => ?_) (fun c_1 => ?_)
    · rw [if_pos c_1] at h
      cases h
      exact kx P S (lv_sub hl [0, 1] rfl)
    · rw [if_neg c_1] at h
      refine lv_iconst (v := 0) E.hx E.hb dX1_relax_15 (by decide) ?_
      refine lv_istore_n (lv' := [(3, .int 0), (0, .ref (ad 2)), (1, .int x1), (2, .int x2)]) E.hx E.hb dX1_relax_16 rfl hl (by decide) rfl (fun ls hl => ?_)
      obtain ⟨q_6, e_7, h⟩ := obind h
      refine w_X1_relax_L17 E K0 N FU P S e_7 (lv_sub hl [1, 2, 3, 0] rfl) (fun {H locs} P S {ls} hl => ?_)
      refine lv_iinc (v := x2 + 1) (lv' := [(2, .int (x2 + 1)), (0, .ref (ad 2)), (1, .int x1)]) E.hx E.hb dX1_relax_47 hl (k := 2) rfl rfl (by decide) rfl (fun ls hl => ?_)
      refine lv_goto (tgt := 7) E.hx E.hb dX1_relax_50 (by decide) ?_
      exact ih P S h (lv_sub hl [1, 2, 0] rfl) kx
def B_X1_relax (I : Nat → Int32) (A : Nat → Nat → Int32)  : Option (Int32 × (Nat → Int32) × (Nat → Nat → Int32)) := (B_X1_relax_L7  ((I 9)) FU 0 I A).bind fun q_8 => some (((I 9) - (q_8.1 9)), q_8.1, q_8.2)
set_option maxHeartbeats 4000000 in
set_option maxRecDepth 100000 in
theorem w_X1_relax (E : EX p s m args meth c cX1_relax 4 RX1 (some .int)) (K0 : KC D cyI ad s s.heap) (N : AdN 44 ad) {H : Heap} {locs : List Loc} (P : va_P D classes (cw cyI ad I A) H) (S : va_S (InN 44 ad) s.heap H locs)  {out : Int32 × (Nat → Int32) × (Nat → Nat → Int32)} (h : B_X1_relax I A  = some out) {ls : Array Slot} (hl : lv_has ls 4 [(0, .ref (ad 2))]) : W p l e (rmL 5) s m args below meth c H locs 0 0 (MQ below (Qrw (InN 44 ad) (some (.int out.1)) (fun H1 => va_P D classes (cw cyI ad out.2.1 out.2.2) H1)) args s 0 0 (InN 44 ad)) (F0 m 0 ls []) := by
  unfold B_X1_relax at h
  refine lv_aload_n E.hx E.hb dX1_relax_0 rfl (lv_at hl 0 rfl) ?_
  refine gf_X1_52 E K0 P dX1_relax_1 ?_
  refine lv_istore_n (lv' := [(1, .int (I 9)), (0, .ref (ad 2))]) E.hx E.hb dX1_relax_4 rfl hl (by decide) rfl (fun ls hl => ?_)
  refine lv_iconst (v := 0) E.hx E.hb dX1_relax_5 (by decide) ?_
  refine lv_istore_n (lv' := [(2, .int 0), (1, .int (I 9)), (0, .ref (ad 2))]) E.hx E.hb dX1_relax_6 rfl hl (by decide) rfl (fun ls hl => ?_)
  obtain ⟨q_8, e_9, h⟩ := obind h
  refine w_X1_relax_L7 E K0 N FU P S e_9 (lv_sub hl [2, 1, 0] rfl) (fun {H locs} P S {ls} hl => ?_)
  refine lv_iload_n E.hx E.hb dX1_relax_53 rfl (lv_at hl 1 rfl) ?_
  refine lv_aload_n E.hx E.hb dX1_relax_54 rfl (lv_at hl 0 rfl) ?_
  refine gf_X1_52 E K0 P dX1_relax_55 ?_
  refine lv_isub E.hx E.hb dX1_relax_58 ?_
  cases h
  exact W.iret E.hx E.hb E.hr (fun t ht _ => ⟨rfl, by rw [ht]; exact P, S.F ht⟩) S.2.2 dX1_relax_59 E.hk
theorem c_X1_relax (l : Launch) {H : Heap} {D : va_G} {cyI : ClassId} {ad : Nat → Nat} {I : Nat → Int32} {A : Nat → Nat → Int32} (N : AdN 44 ad) (P : va_P D classes (cw cyI ad I A) H)  {out : Int32 × (Nat → Int32) × (Nat → Nat → Int32)} (h : B_X1_relax I A  = some out) : MRW l yX1_relax cX1_relax 4 (some .int) 5 [.ref (ad 2)] H (KC D cyI ad) (InN 44 ad) (some (.int out.1)) (fun H1 => va_P D classes (cw cyI ad out.2.1 out.2.2) H1) := by
  refine Mof (own := RX1) (by decide +kernel) rfl rfl ?_
  intro p e s m args below meth c ls E hH K0 hl
  subst hH
  exact w_X1_relax E K0 N P va_S.rf h hl
theorem ds_X1_relax : Dsc yX1_relax 0 := ⟨by decide +kernel, by decide +kernel, by decide +kernel⟩
end
section
variable {p : Program} {l : Launch} {e : Env} {s : State} {m : MethodId} {args : Array Value} {below : List Frame} {meth : Method} {c : Code} {D : va_G} {cyI : ClassId} {ad : Nat → Nat} {I : Nat → Int32} {A : Nat → Nat → Int32}
def B_X3_has (I : Nat → Int32) (A : Nat → Nat → Int32) (x1 : Int32) : Int32 := if x1 < 0 then 0 else (if (I 4) ≤ x1 then 0 else 1)
set_option maxHeartbeats 4000000 in
set_option maxRecDepth 100000 in
theorem w_X3_has (E : EX p s m args meth c cX3_has 2 RX3 (some .boolean)) (K0 : KC D cyI ad s s.heap) (P : va_P D classes (cw cyI ad I A) s.heap)  {x1 : Int32} {out : Int32} (h : B_X3_has I A x1 = out) {ls : Array Slot} (hl : lv_has ls 2 [(0, .ref (ad 1)), (1, .int x1)]) : W p l e (rmL 0) s m args below meth c s.heap [] 0 0 (MQ below (vp_Si (fun z => z = out)) args s 0 0 (fun _ => False)) (F0 m 0 ls []) := by
  unfold B_X3_has at h
  refine lv_iload_n E.hx E.hb dX3_has_0 rfl (lv_at hl 1 rfl) ?_
  refine lv_if_lt (tgt := 16) E.hx E.hb dX3_has_1 (by decide) (fun c_1 => ?_) (fun c_1 => ?_)
  · rw [if_pos c_1] at h
    refine lv_iconst (v := 0) E.hx E.hb dX3_has_16 (by decide) ?_
    exact W.zret E.hx E.hb E.hr rfl (fun t ht _ => ⟨_, rfl, h, ht⟩) (fun q hq => nomatch hq) dX3_has_17 E.hk
  · rw [if_neg c_1] at h
    refine lv_iload_n E.hx E.hb dX3_has_4 rfl (lv_at hl 1 rfl) ?_
    refine lv_aload_n E.hx E.hb dX3_has_5 rfl (lv_at hl 0 rfl) ?_
    refine gf_X3_41 E K0 P dX3_has_6 ?_
    refine lv_icmp_ge (tgt := 16) E.hx E.hb dX3_has_9 (by decide) (fun c_2 => ?_) (fun c_2 => ?_)
    · rw [if_pos c_2] at h
      refine lv_iconst (v := 0) E.hx E.hb dX3_has_16 (by decide) ?_
      exact W.zret E.hx E.hb E.hr rfl (fun t ht _ => ⟨_, rfl, h, ht⟩) (fun q hq => nomatch hq) dX3_has_17 E.hk
    · rw [if_neg c_2] at h
      refine lv_iconst (v := 1) E.hx E.hb dX3_has_12 (by decide) ?_
      refine lv_goto (tgt := 17) E.hx E.hb dX3_has_13 (by decide) ?_
      exact W.zret E.hx E.hb E.hr rfl (fun t ht _ => ⟨_, rfl, h, ht⟩) (fun q hq => nomatch hq) dX3_has_17 E.hk
theorem c_X3_has (l : Launch) {H : Heap} {D : va_G} {cyI : ClassId} {ad : Nat → Nat} {I : Nat → Int32} {A : Nat → Nat → Int32} (P : va_P D classes (cw cyI ad I A) H) (x1 : Int32) : MRO l yX3_has cX3_has 2 (some .boolean) 0 [.ref (ad 1), .int x1] H (KC D cyI ad) (B_X3_has I A x1) := by
  refine Mof (own := RX3) (by decide +kernel) rfl rfl ?_
  intro p e s m args below meth c ls E hH K0 hl
  subst hH
  exact w_X3_has E K0 P rfl hl
theorem ds_X3_has : Dsc yX3_has 1 := ⟨by decide +kernel, by decide +kernel, by decide +kernel⟩
end
section
variable {p : Program} {l : Launch} {e : Env} {s : State} {m : MethodId} {args : Array Value} {below : List Frame} {meth : Method} {c : Code} {D : va_G} {cyI : ClassId} {ad : Nat → Nat} {I : Nat → Int32} {A : Nat → Nat → Int32}
def B_X3_make (I : Nat → Int32) (A : Nat → Nat → Int32) (x1 x2 x3 x4 : Int32) : Option (Int32 × (Nat → Int32) × (Nat → Nat → Int32)) := some ((I 4), (va_up I 4 (((I 4) + 1))), (va_up ((va_up ((va_up ((va_up ((va_up ((va_up ((va_up A 0 (rPut 8 (A 0) ((I 4)) x1))) 1 (rPut 8 (((va_up A 0 (rPut 8 (A 0) ((I 4)) x1))) 1) ((I 4)) x2))) 2 (rPut 8 (((va_up ((va_up A 0 (rPut 8 (A 0) ((I 4)) x1))) 1 (rPut 8 (((va_up A 0 (rPut 8 (A 0) ((I 4)) x1))) 1) ((I 4)) x2))) 2) ((I 4)) x3))) 3 (rPut 8 (((va_up ((va_up ((va_up A 0 (rPut 8 (A 0) ((I 4)) x1))) 1 (rPut 8 (((va_up A 0 (rPut 8 (A 0) ((I 4)) x1))) 1) ((I 4)) x2))) 2 (rPut 8 (((va_up ((va_up A 0 (rPut 8 (A 0) ((I 4)) x1))) 1 (rPut 8 (((va_up A 0 (rPut 8 (A 0) ((I 4)) x1))) 1) ((I 4)) x2))) 2) ((I 4)) x3))) 3) ((I 4)) x4))) 4 (rPut 8 (((va_up ((va_up ((va_up ((va_up A 0 (rPut 8 (A 0) ((I 4)) x1))) 1 (rPut 8 (((va_up A 0 (rPut 8 (A 0) ((I 4)) x1))) 1) ((I 4)) x2))) 2 (rPut 8 (((va_up ((va_up A 0 (rPut 8 (A 0) ((I 4)) x1))) 1 (rPut 8 (((va_up A 0 (rPut 8 (A 0) ((I 4)) x1))) 1) ((I 4)) x2))) 2) ((I 4)) x3))) 3 (rPut 8 (((va_up ((va_up ((va_up A 0 (rPut 8 (A 0) ((I 4)) x1))) 1 (rPut 8 (((va_up A 0 (rPut 8 (A 0) ((I 4)) x1))) 1) ((I 4)) x2))) 2 (rPut 8 (((va_up ((va_up A 0 (rPut 8 (A 0) ((I 4)) x1))) 1 (rPut 8 (((va_up A 0 (rPut 8 (A 0) ((I 4)) x1))) 1) ((I 4)) x2))) 2) ((I 4)) x3))) 3) ((I 4)) x4))) 4) ((I 4)) 0))) 5 (rPut 8 (((va_up ((va_up ((va_up ((va_up ((va_up A 0 (rPut 8 (A 0) ((I 4)) x1))) 1 (rPut 8 (((va_up A 0 (rPut 8 (A 0) ((I 4)) x1))) 1) ((I 4)) x2))) 2 (rPut 8 (((va_up ((va_up A 0 (rPut 8 (A 0) ((I 4)) x1))) 1 (rPut 8 (((va_up A 0 (rPut 8 (A 0) ((I 4)) x1))) 1) ((I 4)) x2))) 2) ((I 4)) x3))) 3 (rPut 8 (((va_up ((va_up ((va_up A 0 (rPut 8 (A 0) ((I 4)) x1))) 1 (rPut 8 (((va_up A 0 (rPut 8 (A 0) ((I 4)) x1))) 1) ((I 4)) x2))) 2 (rPut 8 (((va_up ((va_up A 0 (rPut 8 (A 0) ((I 4)) x1))) 1 (rPut 8 (((va_up A 0 (rPut 8 (A 0) ((I 4)) x1))) 1) ((I 4)) x2))) 2) ((I 4)) x3))) 3) ((I 4)) x4))) 4 (rPut 8 (((va_up ((va_up ((va_up ((va_up A 0 (rPut 8 (A 0) ((I 4)) x1))) 1 (rPut 8 (((va_up A 0 (rPut 8 (A 0) ((I 4)) x1))) 1) ((I 4)) x2))) 2 (rPut 8 (((va_up ((va_up A 0 (rPut 8 (A 0) ((I 4)) x1))) 1 (rPut 8 (((va_up A 0 (rPut 8 (A 0) ((I 4)) x1))) 1) ((I 4)) x2))) 2) ((I 4)) x3))) 3 (rPut 8 (((va_up ((va_up ((va_up A 0 (rPut 8 (A 0) ((I 4)) x1))) 1 (rPut 8 (((va_up A 0 (rPut 8 (A 0) ((I 4)) x1))) 1) ((I 4)) x2))) 2 (rPut 8 (((va_up ((va_up A 0 (rPut 8 (A 0) ((I 4)) x1))) 1 (rPut 8 (((va_up A 0 (rPut 8 (A 0) ((I 4)) x1))) 1) ((I 4)) x2))) 2) ((I 4)) x3))) 3) ((I 4)) x4))) 4) ((I 4)) 0))) 5) ((I 4)) 0))) 6 (rPut 8 (((va_up ((va_up ((va_up ((va_up ((va_up ((va_up A 0 (rPut 8 (A 0) ((I 4)) x1))) 1 (rPut 8 (((va_up A 0 (rPut 8 (A 0) ((I 4)) x1))) 1) ((I 4)) x2))) 2 (rPut 8 (((va_up ((va_up A 0 (rPut 8 (A 0) ((I 4)) x1))) 1 (rPut 8 (((va_up A 0 (rPut 8 (A 0) ((I 4)) x1))) 1) ((I 4)) x2))) 2) ((I 4)) x3))) 3 (rPut 8 (((va_up ((va_up ((va_up A 0 (rPut 8 (A 0) ((I 4)) x1))) 1 (rPut 8 (((va_up A 0 (rPut 8 (A 0) ((I 4)) x1))) 1) ((I 4)) x2))) 2 (rPut 8 (((va_up ((va_up A 0 (rPut 8 (A 0) ((I 4)) x1))) 1 (rPut 8 (((va_up A 0 (rPut 8 (A 0) ((I 4)) x1))) 1) ((I 4)) x2))) 2) ((I 4)) x3))) 3) ((I 4)) x4))) 4 (rPut 8 (((va_up ((va_up ((va_up ((va_up A 0 (rPut 8 (A 0) ((I 4)) x1))) 1 (rPut 8 (((va_up A 0 (rPut 8 (A 0) ((I 4)) x1))) 1) ((I 4)) x2))) 2 (rPut 8 (((va_up ((va_up A 0 (rPut 8 (A 0) ((I 4)) x1))) 1 (rPut 8 (((va_up A 0 (rPut 8 (A 0) ((I 4)) x1))) 1) ((I 4)) x2))) 2) ((I 4)) x3))) 3 (rPut 8 (((va_up ((va_up ((va_up A 0 (rPut 8 (A 0) ((I 4)) x1))) 1 (rPut 8 (((va_up A 0 (rPut 8 (A 0) ((I 4)) x1))) 1) ((I 4)) x2))) 2 (rPut 8 (((va_up ((va_up A 0 (rPut 8 (A 0) ((I 4)) x1))) 1 (rPut 8 (((va_up A 0 (rPut 8 (A 0) ((I 4)) x1))) 1) ((I 4)) x2))) 2) ((I 4)) x3))) 3) ((I 4)) x4))) 4) ((I 4)) 0))) 5 (rPut 8 (((va_up ((va_up ((va_up ((va_up ((va_up A 0 (rPut 8 (A 0) ((I 4)) x1))) 1 (rPut 8 (((va_up A 0 (rPut 8 (A 0) ((I 4)) x1))) 1) ((I 4)) x2))) 2 (rPut 8 (((va_up ((va_up A 0 (rPut 8 (A 0) ((I 4)) x1))) 1 (rPut 8 (((va_up A 0 (rPut 8 (A 0) ((I 4)) x1))) 1) ((I 4)) x2))) 2) ((I 4)) x3))) 3 (rPut 8 (((va_up ((va_up ((va_up A 0 (rPut 8 (A 0) ((I 4)) x1))) 1 (rPut 8 (((va_up A 0 (rPut 8 (A 0) ((I 4)) x1))) 1) ((I 4)) x2))) 2 (rPut 8 (((va_up ((va_up A 0 (rPut 8 (A 0) ((I 4)) x1))) 1 (rPut 8 (((va_up A 0 (rPut 8 (A 0) ((I 4)) x1))) 1) ((I 4)) x2))) 2) ((I 4)) x3))) 3) ((I 4)) x4))) 4 (rPut 8 (((va_up ((va_up ((va_up ((va_up A 0 (rPut 8 (A 0) ((I 4)) x1))) 1 (rPut 8 (((va_up A 0 (rPut 8 (A 0) ((I 4)) x1))) 1) ((I 4)) x2))) 2 (rPut 8 (((va_up ((va_up A 0 (rPut 8 (A 0) ((I 4)) x1))) 1 (rPut 8 (((va_up A 0 (rPut 8 (A 0) ((I 4)) x1))) 1) ((I 4)) x2))) 2) ((I 4)) x3))) 3 (rPut 8 (((va_up ((va_up ((va_up A 0 (rPut 8 (A 0) ((I 4)) x1))) 1 (rPut 8 (((va_up A 0 (rPut 8 (A 0) ((I 4)) x1))) 1) ((I 4)) x2))) 2 (rPut 8 (((va_up ((va_up A 0 (rPut 8 (A 0) ((I 4)) x1))) 1 (rPut 8 (((va_up A 0 (rPut 8 (A 0) ((I 4)) x1))) 1) ((I 4)) x2))) 2) ((I 4)) x3))) 3) ((I 4)) x4))) 4) ((I 4)) 0))) 5) ((I 4)) 0))) 6) ((I 4)) 0)))
set_option maxHeartbeats 4000000 in
set_option maxRecDepth 100000 in
theorem w_X3_make (E : EX p s m args meth c cX3_make 6 RX3 (some .int)) (K0 : KC D cyI ad s s.heap) (N : AdN 44 ad) {H : Heap} {locs : List Loc} (P : va_P D classes (cw cyI ad I A) H) (S : va_S (InN 44 ad) s.heap H locs)  {x1 x2 x3 x4 : Int32} {out : Int32 × (Nat → Int32) × (Nat → Nat → Int32)} (h : B_X3_make I A x1 x2 x3 x4 = some out) {ls : Array Slot} (hl : lv_has ls 6 [(0, .ref (ad 1)), (1, .int x1), (2, .int x2), (3, .int x3), (4, .int x4)]) : W p l e (rmL 1) s m args below meth c H locs 0 0 (MQ below (Qrw (InN 44 ad) (some (.int out.1)) (fun H1 => va_P D classes (cw cyI ad out.2.1 out.2.2) H1)) args s 0 0 (InN 44 ad)) (F0 m 0 ls []) := by
  unfold B_X3_make at h
  refine lv_aload_n E.hx E.hb dX3_make_0 rfl (lv_at hl 0 rfl) ?_
  refine gf_X3_41 E K0 P dX3_make_1 ?_
  refine lv_istore (lv' := [(5, .int (I 4)), (0, .ref (ad 1)), (1, .int x1), (2, .int x2), (3, .int x3), (4, .int x4)]) E.hx E.hb dX3_make_4 hl (by decide) rfl (fun ls hl => ?_)
  refine lv_aload_n E.hx E.hb dX3_make_6 rfl (lv_at hl 1 rfl) ?_
  refine gf_X3_14 E K0 P dX3_make_7 ?_
  refine lv_iload E.hx E.hb dX3_make_10 (lv_at hl 0 rfl) ?_
  refine lv_iload_n E.hx E.hb dX3_make_12 rfl (lv_at hl 2 rfl) ?_
  refine rpt_X3_45 E N K0 P S cw_r0 cw_a0 cw_s0 (by decide) (by decide) hl.1 (Nat.le_of_ble_eq_true rfl) dX3_make_13 (fun H locs P S => ?_)
  refine lv_aload_n E.hx E.hb dX3_make_16 rfl (lv_at hl 1 rfl) ?_
  refine gf_X3_20 E K0 P dX3_make_17 ?_
  refine lv_iload E.hx E.hb dX3_make_20 (lv_at hl 0 rfl) ?_
  refine lv_iload_n E.hx E.hb dX3_make_22 rfl (lv_at hl 3 rfl) ?_
  refine rpt_X3_45 E N K0 P S cw_r1 cw_a1 cw_s1 (by decide) (by decide) hl.1 (Nat.le_of_ble_eq_true rfl) dX3_make_23 (fun H locs P S => ?_)
  refine lv_aload_n E.hx E.hb dX3_make_26 rfl (lv_at hl 1 rfl) ?_
  refine gf_X3_23 E K0 P dX3_make_27 ?_
  refine lv_iload E.hx E.hb dX3_make_30 (lv_at hl 0 rfl) ?_
  refine lv_iload_n E.hx E.hb dX3_make_32 rfl (lv_at hl 4 rfl) ?_
  refine rpt_X3_45 E N K0 P S cw_r2 cw_a2 cw_s2 (by decide) (by decide) hl.1 (Nat.le_of_ble_eq_true rfl) dX3_make_33 (fun H locs P S => ?_)
  refine lv_aload_n E.hx E.hb dX3_make_36 rfl (lv_at hl 1 rfl) ?_
  refine gf_X3_26 E K0 P dX3_make_37 ?_
  refine lv_iload E.hx E.hb dX3_make_40 (lv_at hl 0 rfl) ?_
  refine lv_iload E.hx E.hb dX3_make_42 (lv_at hl 5 rfl) ?_
  refine rpt_X3_45 E N K0 P S cw_r3 cw_a3 cw_s3 (by decide) (by decide) hl.1 (Nat.le_of_ble_eq_true rfl) dX3_make_44 (fun H locs P S => ?_)
  refine lv_aload_n E.hx E.hb dX3_make_47 rfl (lv_at hl 1 rfl) ?_
  refine gf_X3_29 E K0 P dX3_make_48 ?_
  refine lv_iload E.hx E.hb dX3_make_51 (lv_at hl 0 rfl) ?_
  refine lv_iconst (v := 0) E.hx E.hb dX3_make_53 (by decide) ?_
  refine rpt_X3_45 E N K0 P S cw_r4 cw_a4 cw_s4 (by decide) (by decide) hl.1 (Nat.le_of_ble_eq_true rfl) dX3_make_54 (fun H locs P S => ?_)
  refine lv_aload_n E.hx E.hb dX3_make_57 rfl (lv_at hl 1 rfl) ?_
  refine gf_X3_32 E K0 P dX3_make_58 ?_
  refine lv_iload E.hx E.hb dX3_make_61 (lv_at hl 0 rfl) ?_
  refine lv_iconst (v := 0) E.hx E.hb dX3_make_63 (by decide) ?_
  refine rpt_X3_45 E N K0 P S cw_r5 cw_a5 cw_s5 (by decide) (by decide) hl.1 (Nat.le_of_ble_eq_true rfl) dX3_make_64 (fun H locs P S => ?_)
  refine lv_aload_n E.hx E.hb dX3_make_67 rfl (lv_at hl 1 rfl) ?_
  refine gf_X3_35 E K0 P dX3_make_68 ?_
  refine lv_iload E.hx E.hb dX3_make_71 (lv_at hl 0 rfl) ?_
  refine lv_iconst (v := 0) E.hx E.hb dX3_make_73 (by decide) ?_
  refine rpt_X3_45 E N K0 P S cw_r6 cw_a6 cw_s6 (by decide) (by decide) hl.1 (Nat.le_of_ble_eq_true rfl) dX3_make_74 (fun H locs P S => ?_)
  refine lv_aload_n E.hx E.hb dX3_make_77 rfl (lv_at hl 1 rfl) ?_
  refine lv_dup E.hx E.hb dX3_make_78 rfl ?_
  refine gf_X3_41 E K0 P dX3_make_79 ?_
  refine lv_iconst (v := 1) E.hx E.hb dX3_make_82 (by decide) ?_
  refine lv_iadd E.hx E.hb dX3_make_83 ?_
  refine pf_X3_41 E N K0 P S dX3_make_84 (fun H locs P S => ?_)
  refine lv_iload E.hx E.hb dX3_make_87 (lv_at hl 0 rfl) ?_
  cases h
  exact W.iret E.hx E.hb E.hr (fun t ht _ => ⟨rfl, by rw [ht]; exact P, S.F ht⟩) S.2.2 dX3_make_89 E.hk
theorem c_X3_make (l : Launch) {H : Heap} {D : va_G} {cyI : ClassId} {ad : Nat → Nat} {I : Nat → Int32} {A : Nat → Nat → Int32} (N : AdN 44 ad) (P : va_P D classes (cw cyI ad I A) H) (x1 x2 x3 x4 : Int32) {out : Int32 × (Nat → Int32) × (Nat → Nat → Int32)} (h : B_X3_make I A x1 x2 x3 x4 = some out) : MRW l yX3_make cX3_make 6 (some .int) 1 [.ref (ad 1), .int x1, .int x2, .int x3, .int x4] H (KC D cyI ad) (InN 44 ad) (some (.int out.1)) (fun H1 => va_P D classes (cw cyI ad out.2.1 out.2.2) H1) := by
  refine Mof (own := RX3) (by decide +kernel) rfl rfl ?_
  intro p e s m args below meth c ls E hH K0 hl
  subst hH
  exact w_X3_make E K0 N P va_S.rf h hl
theorem ds_X3_make : Dsc yX3_make 4 := ⟨by decide +kernel, by decide +kernel, by decide +kernel⟩
end
section
variable {p : Program} {l : Launch} {e : Env} {s : State} {m : MethodId} {args : Array Value} {below : List Frame} {meth : Method} {c : Code} {D : va_G} {cyI : ClassId} {ad : Nat → Nat} {I : Nat → Int32} {A : Nat → Nat → Int32}
def B_X3_note (I : Nat → Int32) (A : Nat → Nat → Int32) (x1 x2 : Int32) : Option ((Nat → Int32) × (Nat → Nat → Int32)) := some (I, (va_up ((va_up A 7 (rPut 64 (A 7) (((x1 * 8) + ((rAt 8 (A 6) x1) - (rAt 8 (A 6) x1) / 8 * 8))) x2))) 6 (rPut 8 (((va_up A 7 (rPut 64 (A 7) (((x1 * 8) + ((rAt 8 (A 6) x1) - (rAt 8 (A 6) x1) / 8 * 8))) x2))) 6) x1 (((rAt 8 (A 6) x1) + 1)))))
set_option maxHeartbeats 4000000 in
set_option maxRecDepth 100000 in
theorem w_X3_note (E : EX p s m args meth c cX3_note 4 RX3 none) (K0 : KC D cyI ad s s.heap) (N : AdN 44 ad) {H : Heap} {locs : List Loc} (P : va_P D classes (cw cyI ad I A) H) (S : va_S (InN 44 ad) s.heap H locs)  {x1 x2 : Int32} {out : (Nat → Int32) × (Nat → Nat → Int32)} (h : B_X3_note I A x1 x2 = some out) {ls : Array Slot} (hl : lv_has ls 4 [(0, .ref (ad 1)), (1, .int x1), (2, .int x2)]) : W p l e (rmL 1) s m args below meth c H locs 0 0 (MQ below (Qrw (InN 44 ad) (none) (fun H1 => va_P D classes (cw cyI ad out.1 out.2) H1)) args s 0 0 (InN 44 ad)) (F0 m 0 ls []) := by
  unfold B_X3_note at h
  refine lv_aload_n E.hx E.hb dX3_note_0 rfl (lv_at hl 0 rfl) ?_
  refine gf_X3_35 E K0 P dX3_note_1 ?_
  refine lv_iload_n E.hx E.hb dX3_note_4 rfl (lv_at hl 1 rfl) ?_
  refine rat_X3_49 E K0 P S cw_r6 cw_a6 (by decide) (by decide) hl.1 (Nat.le_of_ble_eq_true rfl) dX3_note_5 ?_
  refine lv_istore_n (lv' := [(3, .int (rAt 8 (A 6) x1)), (0, .ref (ad 1)), (1, .int x1), (2, .int x2)]) E.hx E.hb dX3_note_8 rfl hl (by decide) rfl (fun ls hl => ?_)
  refine lv_aload_n E.hx E.hb dX3_note_9 rfl (lv_at hl 1 rfl) ?_
  refine gf_X3_38 E K0 P dX3_note_10 ?_
  refine lv_iload_n E.hx E.hb dX3_note_13 rfl (lv_at hl 2 rfl) ?_
  refine lv_bipush (v := 8) E.hx E.hb dX3_note_14 (by decide) ?_
  refine lv_imul E.hx E.hb dX3_note_16 ?_
  refine lv_iload_n E.hx E.hb dX3_note_17 rfl (lv_at hl 0 rfl) ?_
  refine lv_bipush (v := 8) E.hx E.hb dX3_note_18 (by decide) ?_
  refine lv_irem E.hx E.hb dX3_note_20 (by decide) ?_
  refine lv_iadd E.hx E.hb dX3_note_21 ?_
  refine lv_iload_n E.hx E.hb dX3_note_22 rfl (lv_at hl 3 rfl) ?_
  refine rpt_X3_45 E N K0 P S cw_r7 cw_a7 cw_s7 (by decide) (by decide) hl.1 (Nat.le_of_ble_eq_true rfl) dX3_note_23 (fun H locs P S => ?_)
  refine lv_aload_n E.hx E.hb dX3_note_26 rfl (lv_at hl 1 rfl) ?_
  refine gf_X3_35 E K0 P dX3_note_27 ?_
  refine lv_iload_n E.hx E.hb dX3_note_30 rfl (lv_at hl 2 rfl) ?_
  refine lv_iload_n E.hx E.hb dX3_note_31 rfl (lv_at hl 0 rfl) ?_
  refine lv_iconst (v := 1) E.hx E.hb dX3_note_32 (by decide) ?_
  refine lv_iadd E.hx E.hb dX3_note_33 ?_
  refine rpt_X3_45 E N K0 P S cw_r6 cw_a6 cw_s6 (by decide) (by decide) hl.1 (Nat.le_of_ble_eq_true rfl) dX3_note_34 (fun H locs P S => ?_)
  cases h
  exact W.vret E.hx E.hb E.hr (fun t ht _ => ⟨rfl, by rw [ht]; exact P, S.F ht⟩) S.2.2 dX3_note_37 E.hk
theorem c_X3_note (l : Launch) {H : Heap} {D : va_G} {cyI : ClassId} {ad : Nat → Nat} {I : Nat → Int32} {A : Nat → Nat → Int32} (N : AdN 44 ad) (P : va_P D classes (cw cyI ad I A) H) (x1 x2 : Int32) {out : (Nat → Int32) × (Nat → Nat → Int32)} (h : B_X3_note I A x1 x2 = some out) : MRW l yX3_note cX3_note 4 none 1 [.ref (ad 1), .int x1, .int x2] H (KC D cyI ad) (InN 44 ad) none (fun H1 => va_P D classes (cw cyI ad out.1 out.2) H1) := by
  refine Mof (own := RX3) (by decide +kernel) rfl rfl ?_
  intro p e s m args below meth c ls E hH K0 hl
  subst hH
  exact w_X3_note E K0 N P va_S.rf h hl
theorem ds_X3_note : Dsc yX3_note 2 := ⟨by decide +kernel, by decide +kernel, by decide +kernel⟩
end
section
variable {p : Program} {l : Launch} {e : Env} {R : Room} {s : State} {m : MethodId} {args : Array Value} {below : List Frame} {meth : Method} {c : Code} {H : Heap} {locs : List Loc} {cells slots : Nat} {Q : State → Prop} {cc : ByteArray} {nL pc : Nat} {ret : Option FieldType} {ls : Array Slot} {rest : List Value} {D : va_G} {cyI : ClassId} {ad : Nat → Nat} {I : Nat → Int32} {A : Nat → Nat → Int32}
theorem iv_X3_53 (E : EX p s m args meth c cc nL RX3 ret) (K0 : KC D cyI ad s s.heap) (S : va_S (InN 44 ad) s.heap H locs) {a0 a1 : Int32} (hR : RmOk R cells slots 0 2) (hls : ls.size = nL) (hro : (rest.map fun v => v.category).sum ≤ 8) (hdg : decode cc pc = .ok (.invokestatic 53, 3)) (kk : W p l e R s m args below meth c H locs cells slots Q (F0 m (pc + 3) ls (.int (B_J9_min_7cf53 a0 a1) :: rest))) : W p l e R s m args below meth c H locs cells slots Q (F0 m pc ls (.int a1 :: .int a0 :: rest)) :=
  cq_ro E (c_J9_min_7cf53 l (H := H) (D := D) (cyI := cyI) (ad := ad) a0 a1 ) kML_X3_53 kST_J9_min_7cf53 kIN_J9 kCO_J9_min_7cf53 ds_J9_min_7cf53 rfl KC_blind (fun U _ hW => (K0.at S).warm hW) hR hls rfl hro hdg kk
end
section
variable {p : Program} {l : Launch} {e : Env} {R : Room} {s : State} {m : MethodId} {args : Array Value} {below : List Frame} {meth : Method} {c : Code} {H : Heap} {locs : List Loc} {cells slots : Nat} {Q : State → Prop} {cc : ByteArray} {nL pc : Nat} {ret : Option FieldType} {ls : Array Slot} {rest : List Value} {D : va_G} {cyI : ClassId} {ad : Nat → Nat} {I : Nat → Int32} {A : Nat → Nat → Int32}
theorem iv_X3_59 (E : EX p s m args meth c cc nL RX3 ret) (K0 : KC D cyI ad s s.heap) (S : va_S (InN 44 ad) s.heap H locs) {a0 a1 : Int32} (hR : RmOk R cells slots 0 2) (hls : ls.size = nL) (hro : (rest.map fun v => v.category).sum ≤ 8) (hdg : decode cc pc = .ok (.invokestatic 59, 3)) (kk : W p l e R s m args below meth c H locs cells slots Q (F0 m (pc + 3) ls (.int (B_J9_max_7cf53 a0 a1) :: rest))) : W p l e R s m args below meth c H locs cells slots Q (F0 m pc ls (.int a1 :: .int a0 :: rest)) :=
  cq_ro E (c_J9_max_7cf53 l (H := H) (D := D) (cyI := cyI) (ad := ad) a0 a1 ) kML_X3_59 kST_J9_max_7cf53 kIN_J9 kCO_J9_max_7cf53 ds_J9_max_7cf53 rfl KC_blind (fun U _ hW => (K0.at S).warm hW) hR hls rfl hro hdg kk
end
section
variable {p : Program} {l : Launch} {e : Env} {s : State} {m : MethodId} {args : Array Value} {below : List Frame} {meth : Method} {c : Code} {D : va_G} {cyI : ClassId} {ad : Nat → Nat} {I : Nat → Int32} {A : Nat → Nat → Int32}
def B_X3_flicker_L36 (I : Nat → Int32) (A : Nat → Nat → Int32) (x2 x3 : Int32) : Nat → Int32 → Int32 → Int32 → Option (Int32 × Int32)
  | 0 => fun _ _ _ => none
  | n + 1 => fun x4 x5 x6 => if x3 ≤ x6 then some ((x4, x5)) else (B_X3_flicker_L36 I A x2 x3 n) ((B_J9_max_7cf53 x4 ((rAt 64 (A 7) ((x2 + x6)))))) ((B_J9_min_7cf53 x5 ((rAt 64 (A 7) ((x2 + x6)))))) (x6 + 1)
theorem B_X3_flicker_L36_s (I : Nat → Int32) (A : Nat → Nat → Int32) (x2 x3 x4 x5 x6 : Int32) (n : Nat) : B_X3_flicker_L36 I A x2 x3 (n + 1) x4 x5 x6 = if x3 ≤ x6 then some ((x4, x5)) else (B_X3_flicker_L36 I A x2 x3 n) ((B_J9_max_7cf53 x4 ((rAt 64 (A 7) ((x2 + x6)))))) ((B_J9_min_7cf53 x5 ((rAt 64 (A 7) ((x2 + x6)))))) (x6 + 1) := rfl
set_option maxHeartbeats 4000000 in
set_option maxRecDepth 100000 in
theorem w_X3_flicker_L36 (E : EX p s m args meth c cX3_flicker 8 RX3 (some .int)) (K0 : KC D cyI ad s s.heap) (P : va_P D classes (cw cyI ad I A) s.heap) {x2 x3 : Int32} {out : Int32} : ∀ (n : Nat) {x4 x5 x6 : Int32} {o : Int32 × Int32} (h : B_X3_flicker_L36 I A x2 x3 n x4 x5 x6 = some o) {ls : Array Slot} (hl : lv_has ls 8 [(0, .ref (ad 1)), (2, .int x2), (3, .int x3), (4, .int x4), (5, .int x5), (6, .int x6)]) (kx : ∀ {ls : Array Slot}, lv_has ls 8 [(3, .int x3), (4, .int o.1), (5, .int o.2)] → W p l e (rmL 1) s m args below meth c s.heap [] 0 0 (MQ below (vp_Si (fun z => z = out)) args s 0 0 (fun _ => False)) (F0 m 79 ls [])), W p l e (rmL 1) s m args below meth c s.heap [] 0 0 (MQ below (vp_Si (fun z => z = out)) args s 0 0 (fun _ => False)) (F0 m 36 ls []) := by
  intro n
  induction n with
  | zero => intro x4 x5 x6 o h ls hl kx; exact nomatch (show none = some o from h)
  | succ n ih =>
    intro x4 x5 x6 o h ls hl kx
    rw [B_X3_flicker_L36_s] at h
    refine lv_iload E.hx E.hb dX3_flicker_36 (lv_at hl 5 rfl) ?_
    refine lv_iload_n E.hx E.hb dX3_flicker_38 rfl (lv_at hl 2 rfl) ?_
    refine lv_icmp_ge (tgt := 79) E.hx E.hb dX3_flicker_39 (by decide) (fun c_1 => ?_) (fun c_1 => ?_)
    · rw [if_pos c_1] at h
      cases h
      exact kx  (lv_sub hl [2, 3, 4] rfl)
    · rw [if_neg c_1] at h
      refine lv_aload_n E.hx E.hb dX3_flicker_42 rfl (lv_at hl 0 rfl) ?_
      refine gf_X3_38 E K0 P dX3_flicker_43 ?_
      refine lv_iload_n E.hx E.hb dX3_flicker_46 rfl (lv_at hl 1 rfl) ?_
      refine lv_iload E.hx E.hb dX3_flicker_47 (lv_at hl 5 rfl) ?_
      refine lv_iadd E.hx E.hb dX3_flicker_49 ?_
      refine rat_X3_49 E K0 P va_S.rf cw_r7 cw_a7 (by decide) (by decide) hl.1 (Nat.le_of_ble_eq_true rfl) dX3_flicker_50 ?_
      refine lv_istore (lv' := [(7, .int (rAt 64 (A 7) ((x2 + x6)))), (0, .ref (ad 1)), (2, .int x2), (3, .int x3), (4, .int x4), (5, .int x5), (6, .int x6)]) E.hx E.hb dX3_flicker_53 hl (by decide) rfl (fun ls hl => ?_)
      refine lv_iload E.hx E.hb dX3_flicker_55 (lv_at hl 4 rfl) ?_
      refine lv_iload E.hx E.hb dX3_flicker_57 (lv_at hl 0 rfl) ?_
      refine iv_X3_59 E K0 va_S.rf (by decide) hl.1 (Nat.le_of_ble_eq_true rfl) dX3_flicker_59 ?_
      refine lv_istore (lv' := [(4, .int (B_J9_max_7cf53 x4 ((rAt 64 (A 7) ((x2 + x6)))))), (7, .int (rAt 64 (A 7) ((x2 + x6)))), (0, .ref (ad 1)), (2, .int x2), (3, .int x3), (5, .int x5), (6, .int x6)]) E.hx E.hb dX3_flicker_62 hl (by decide) rfl (fun ls hl => ?_)
      refine lv_iload E.hx E.hb dX3_flicker_64 (lv_at hl 5 rfl) ?_
      refine lv_iload E.hx E.hb dX3_flicker_66 (lv_at hl 1 rfl) ?_
      refine iv_X3_53 E K0 va_S.rf (by decide) hl.1 (Nat.le_of_ble_eq_true rfl) dX3_flicker_68 ?_
      refine lv_istore (lv' := [(5, .int (B_J9_min_7cf53 x5 ((rAt 64 (A 7) ((x2 + x6)))))), (4, .int (B_J9_max_7cf53 x4 ((rAt 64 (A 7) ((x2 + x6)))))), (7, .int (rAt 64 (A 7) ((x2 + x6)))), (0, .ref (ad 1)), (2, .int x2), (3, .int x3), (6, .int x6)]) E.hx E.hb dX3_flicker_71 hl (by decide) rfl (fun ls hl => ?_)
      refine lv_iinc (v := x6 + 1) (lv' := [(6, .int (x6 + 1)), (5, .int (B_J9_min_7cf53 x5 ((rAt 64 (A 7) ((x2 + x6)))))), (4, .int (B_J9_max_7cf53 x4 ((rAt 64 (A 7) ((x2 + x6)))))), (7, .int (rAt 64 (A 7) ((x2 + x6)))), (0, .ref (ad 1)), (2, .int x2), (3, .int x3)]) E.hx E.hb dX3_flicker_73 hl (k := 6) rfl rfl (by decide) rfl (fun ls hl => ?_)
      refine lv_goto (tgt := 36) E.hx E.hb dX3_flicker_76 (by decide) ?_
      exact ih  h (lv_sub hl [4, 5, 6, 2, 1, 0] rfl) kx
def B_X3_flicker (I : Nat → Int32) (A : Nat → Nat → Int32) (x1 : Int32) : Option (Int32) := (B_X3_flicker_L36 I A ((x1 * 8)) ((B_J9_min_7cf53 ((rAt 8 (A 6) x1)) 8)) FU ((rAt 64 (A 7) ((x1 * 8)))) ((rAt 64 (A 7) ((x1 * 8)))) 1).bind fun q_2 => if (B_J9_min_7cf53 ((rAt 8 (A 6) x1)) 8) ≤ 0 then some 0 else some ((q_2.1 - q_2.2))
set_option maxHeartbeats 4000000 in
set_option maxRecDepth 100000 in
theorem w_X3_flicker (E : EX p s m args meth c cX3_flicker 8 RX3 (some .int)) (K0 : KC D cyI ad s s.heap) (P : va_P D classes (cw cyI ad I A) s.heap)  {x1 : Int32} {out : Int32} (h : B_X3_flicker I A x1 = some out) {ls : Array Slot} (hl : lv_has ls 8 [(0, .ref (ad 1)), (1, .int x1)]) : W p l e (rmL 1) s m args below meth c s.heap [] 0 0 (MQ below (vp_Si (fun z => z = out)) args s 0 0 (fun _ => False)) (F0 m 0 ls []) := by
  unfold B_X3_flicker at h
  refine lv_iload_n E.hx E.hb dX3_flicker_0 rfl (lv_at hl 1 rfl) ?_
  refine lv_bipush (v := 8) E.hx E.hb dX3_flicker_1 (by decide) ?_
  refine lv_imul E.hx E.hb dX3_flicker_3 ?_
  refine lv_istore_n (lv' := [(2, .int (x1 * 8)), (0, .ref (ad 1)), (1, .int x1)]) E.hx E.hb dX3_flicker_4 rfl hl (by decide) rfl (fun ls hl => ?_)
  refine lv_aload_n E.hx E.hb dX3_flicker_5 rfl (lv_at hl 1 rfl) ?_
  refine gf_X3_35 E K0 P dX3_flicker_6 ?_
  refine lv_iload_n E.hx E.hb dX3_flicker_9 rfl (lv_at hl 2 rfl) ?_
  refine rat_X3_49 E K0 P va_S.rf cw_r6 cw_a6 (by decide) (by decide) hl.1 (Nat.le_of_ble_eq_true rfl) dX3_flicker_10 ?_
  refine lv_bipush (v := 8) E.hx E.hb dX3_flicker_13 (by decide) ?_
  refine iv_X3_53 E K0 va_S.rf (by decide) hl.1 (Nat.le_of_ble_eq_true rfl) dX3_flicker_15 ?_
  refine lv_istore_n (lv' := [(3, .int (B_J9_min_7cf53 ((rAt 8 (A 6) x1)) 8)), (2, .int (x1 * 8)), (0, .ref (ad 1)), (1, .int x1)]) E.hx E.hb dX3_flicker_18 rfl hl (by decide) rfl (fun ls hl => ?_)
  refine lv_aload_n E.hx E.hb dX3_flicker_19 rfl (lv_at hl 2 rfl) ?_
  refine gf_X3_38 E K0 P dX3_flicker_20 ?_
  refine lv_iload_n E.hx E.hb dX3_flicker_23 rfl (lv_at hl 1 rfl) ?_
  refine rat_X3_49 E K0 P va_S.rf cw_r7 cw_a7 (by decide) (by decide) hl.1 (Nat.le_of_ble_eq_true rfl) dX3_flicker_24 ?_
  refine lv_istore (lv' := [(4, .int (rAt 64 (A 7) ((x1 * 8)))), (3, .int (B_J9_min_7cf53 ((rAt 8 (A 6) x1)) 8)), (2, .int (x1 * 8)), (0, .ref (ad 1)), (1, .int x1)]) E.hx E.hb dX3_flicker_27 hl (by decide) rfl (fun ls hl => ?_)
  refine lv_iload E.hx E.hb dX3_flicker_29 (lv_at hl 0 rfl) ?_
  refine lv_istore (lv' := [(5, .int (rAt 64 (A 7) ((x1 * 8)))), (4, .int (rAt 64 (A 7) ((x1 * 8)))), (3, .int (B_J9_min_7cf53 ((rAt 8 (A 6) x1)) 8)), (2, .int (x1 * 8)), (0, .ref (ad 1)), (1, .int x1)]) E.hx E.hb dX3_flicker_31 hl (by decide) rfl (fun ls hl => ?_)
  refine lv_iconst (v := 1) E.hx E.hb dX3_flicker_33 (by decide) ?_
  refine lv_istore (lv' := [(6, .int 1), (5, .int (rAt 64 (A 7) ((x1 * 8)))), (4, .int (rAt 64 (A 7) ((x1 * 8)))), (3, .int (B_J9_min_7cf53 ((rAt 8 (A 6) x1)) 8)), (2, .int (x1 * 8)), (0, .ref (ad 1)), (1, .int x1)]) E.hx E.hb dX3_flicker_34 hl (by decide) rfl (fun ls hl => ?_)
  obtain ⟨q_2, e_3, h⟩ := obind h
  refine w_X3_flicker_L36 E K0 P FU e_3 (lv_sub hl [5, 4, 3, 2, 1, 0] rfl) (fun {ls} hl => ?_)
  refine lv_iload_n E.hx E.hb dX3_flicker_79 rfl (lv_at hl 0 rfl) ?_
  refine lv_if_le (tgt := 91) E.hx E.hb dX3_flicker_80 (by decide) (fun c_4 => ?_) (fun c_4 => ?_)
  · rw [if_pos c_4] at h
    refine lv_iconst (v := 0) E.hx E.hb dX3_flicker_91 (by decide) ?_
    exact W.iret E.hx E.hb E.hr (fun t ht _ => ⟨_, rfl, (Option.some.inj h), ht⟩) (fun q hq => nomatch hq) dX3_flicker_92 E.hk
  · rw [if_neg c_4] at h
    refine lv_iload E.hx E.hb dX3_flicker_83 (lv_at hl 1 rfl) ?_
    refine lv_iload E.hx E.hb dX3_flicker_85 (lv_at hl 2 rfl) ?_
    refine lv_isub E.hx E.hb dX3_flicker_87 ?_
    refine lv_goto (tgt := 92) E.hx E.hb dX3_flicker_88 (by decide) ?_
    exact W.iret E.hx E.hb E.hr (fun t ht _ => ⟨_, rfl, (Option.some.inj h), ht⟩) (fun q hq => nomatch hq) dX3_flicker_92 E.hk
theorem c_X3_flicker (l : Launch) {H : Heap} {D : va_G} {cyI : ClassId} {ad : Nat → Nat} {I : Nat → Int32} {A : Nat → Nat → Int32} (P : va_P D classes (cw cyI ad I A) H) (x1 : Int32) {out : Int32} (h : B_X3_flicker I A x1 = some out) : MRO l yX3_flicker cX3_flicker 8 (some .int) 1 [.ref (ad 1), .int x1] H (KC D cyI ad) out := by
  refine Mof (own := RX3) (by decide +kernel) rfl rfl ?_
  intro p e s m args below meth c ls E hH K0 hl
  subst hH
  exact w_X3_flicker E K0 P h hl
theorem ds_X3_flicker : Dsc yX3_flicker 1 := ⟨by decide +kernel, by decide +kernel, by decide +kernel⟩
end
section
variable {p : Program} {l : Launch} {e : Env} {R : Room} {s : State} {m : MethodId} {args : Array Value} {below : List Frame} {meth : Method} {c : Code} {H : Heap} {locs : List Loc} {cells slots : Nat} {Q : State → Prop} {cc : ByteArray} {nL pc : Nat} {ret : Option FieldType} {ls : Array Slot} {rest : List Value} {D : va_G} {cyI : ClassId} {ad : Nat → Nat} {I : Nat → Int32} {A : Nat → Nat → Int32}
theorem iv_X5_15 (E : EX p s m args meth c cc nL RX5 ret) (K0 : KC D cyI ad s s.heap) (P : va_P D classes (cw cyI ad I A) H) (S : va_S (InN 44 ad) s.heap H locs) {a0 a1 : Int32} (hR : RmOk R cells slots 0 3) (hls : ls.size = nL) (hro : (rest.map fun v => v.category).sum ≤ 8) (hdg : decode cc pc = .ok (.invokevirtual 15, 3)) (kk : W p l e R s m args below meth c H locs cells slots Q (F0 m (pc + 3) ls (.int (B_X1_has I A a0 a1) :: rest))) : W p l e R s m args below meth c H locs cells slots Q (F0 m pc ls (.int a1 :: .int a0 :: .ref (ad 2) :: rest)) :=
  cv_ro E (c_X1_has l P a0 a1 ) (gV kML_X5_15 kIM_X1_has kSE_X1_has kIN_X1 kCO_X1_has) rfl ds_X1_has rfl KC_blind (fun U _ hW => (K0.at S).warm hW) (va_recv K0.k P (show classes[1]? = some (RX1, TX1, 11) from rfl) cw_g2) hR hls rfl hro hdg kk
end
section
variable {p : Program} {l : Launch} {e : Env} {s : State} {m : MethodId} {args : Array Value} {below : List Frame} {meth : Method} {c : Code} {D : va_G} {cyI : ClassId} {ad : Nat → Nat} {I : Nat → Int32} {A : Nat → Nat → Int32}
def B_X5_has (I : Nat → Int32) (A : Nat → Nat → Int32) (x1 x2 : Int32) : Int32 := if (B_X1_has I A x1 x2) = 0 then 0 else (if (B_X1_has I A ((x1 + 1)) ((x2 + 1))) = 0 then 0 else 1)
set_option maxHeartbeats 4000000 in
set_option maxRecDepth 100000 in
theorem w_X5_has (E : EX p s m args meth c cX5_has 3 RX5 (some .boolean)) (K0 : KC D cyI ad s s.heap) (P : va_P D classes (cw cyI ad I A) s.heap)  {x1 x2 : Int32} {out : Int32} (h : B_X5_has I A x1 x2 = out) {ls : Array Slot} (hl : lv_has ls 3 [(0, .ref (ad 3)), (1, .int x1), (2, .int x2)]) : W p l e (rmL 1) s m args below meth c s.heap [] 0 0 (MQ below (vp_Si (fun z => z = out)) args s 0 0 (fun _ => False)) (F0 m 0 ls []) := by
  unfold B_X5_has at h
  refine lv_aload_n E.hx E.hb dX5_has_0 rfl (lv_at hl 0 rfl) ?_
  refine gf_X5_9 E K0 P dX5_has_1 ?_
  refine lv_iload_n E.hx E.hb dX5_has_4 rfl (lv_at hl 1 rfl) ?_
  refine lv_iload_n E.hx E.hb dX5_has_5 rfl (lv_at hl 2 rfl) ?_
  refine iv_X5_15 E K0 P va_S.rf (by decide) hl.1 (Nat.le_of_ble_eq_true rfl) dX5_has_6 ?_
  refine lv_if_eq (tgt := 32) E.hx E.hb dX5_has_9 (by decide) (fun c_1 => ?_) (fun c_1 => ?_)
  · rw [if_pos c_1] at h
    refine lv_iconst (v := 0) E.hx E.hb dX5_has_32 (by decide) ?_
    exact W.zret E.hx E.hb E.hr rfl (fun t ht _ => ⟨_, rfl, h, ht⟩) (fun q hq => nomatch hq) dX5_has_33 E.hk
  · rw [if_neg c_1] at h
    refine lv_aload_n E.hx E.hb dX5_has_12 rfl (lv_at hl 0 rfl) ?_
    refine gf_X5_9 E K0 P dX5_has_13 ?_
    refine lv_iload_n E.hx E.hb dX5_has_16 rfl (lv_at hl 1 rfl) ?_
    refine lv_iconst (v := 1) E.hx E.hb dX5_has_17 (by decide) ?_
    refine lv_iadd E.hx E.hb dX5_has_18 ?_
    refine lv_iload_n E.hx E.hb dX5_has_19 rfl (lv_at hl 2 rfl) ?_
    refine lv_iconst (v := 1) E.hx E.hb dX5_has_20 (by decide) ?_
    refine lv_iadd E.hx E.hb dX5_has_21 ?_
    refine iv_X5_15 E K0 P va_S.rf (by decide) hl.1 (Nat.le_of_ble_eq_true rfl) dX5_has_22 ?_
    refine lv_if_eq (tgt := 32) E.hx E.hb dX5_has_25 (by decide) (fun c_2 => ?_) (fun c_2 => ?_)
    · rw [if_pos c_2] at h
      refine lv_iconst (v := 0) E.hx E.hb dX5_has_32 (by decide) ?_
      exact W.zret E.hx E.hb E.hr rfl (fun t ht _ => ⟨_, rfl, h, ht⟩) (fun q hq => nomatch hq) dX5_has_33 E.hk
    · rw [if_neg c_2] at h
      refine lv_iconst (v := 1) E.hx E.hb dX5_has_28 (by decide) ?_
      refine lv_goto (tgt := 33) E.hx E.hb dX5_has_29 (by decide) ?_
      exact W.zret E.hx E.hb E.hr rfl (fun t ht _ => ⟨_, rfl, h, ht⟩) (fun q hq => nomatch hq) dX5_has_33 E.hk
theorem c_X5_has (l : Launch) {H : Heap} {D : va_G} {cyI : ClassId} {ad : Nat → Nat} {I : Nat → Int32} {A : Nat → Nat → Int32} (P : va_P D classes (cw cyI ad I A) H) (x1 x2 : Int32) : MRO l yX5_has cX5_has 3 (some .boolean) 1 [.ref (ad 3), .int x1, .int x2] H (KC D cyI ad) (B_X5_has I A x1 x2) := by
  refine Mof (own := RX5) (by decide +kernel) rfl rfl ?_
  intro p e s m args below meth c ls E hH K0 hl
  subst hH
  exact w_X5_has E K0 P rfl hl
theorem ds_X5_has : Dsc yX5_has 2 := ⟨by decide +kernel, by decide +kernel, by decide +kernel⟩
end
section
variable {p : Program} {l : Launch} {e : Env} {R : Room} {s : State} {m : MethodId} {args : Array Value} {below : List Frame} {meth : Method} {c : Code} {H : Heap} {locs : List Loc} {cells slots : Nat} {Q : State → Prop} {cc : ByteArray} {nL pc : Nat} {ret : Option FieldType} {ls : Array Slot} {rest : List Value} {D : va_G} {cyI : ClassId} {ad : Nat → Nat} {I : Nat → Int32} {A : Nat → Nat → Int32}
theorem iv_X5_29 (E : EX p s m args meth c cc nL RX5 ret) (K0 : KC D cyI ad s s.heap) (P : va_P D classes (cw cyI ad I A) H) (S : va_S (InN 44 ad) s.heap H locs) {a0 a1 : Int32} (hR : RmOk R cells slots 1 3) (hls : ls.size = nL) (hro : (rest.map fun v => v.category).sum ≤ 8) (hdg : decode cc pc = .ok (.invokevirtual 29, 3)) (kk : W p l e R s m args below meth c H locs cells slots Q (F0 m (pc + 3) ls (.int (B_X1_directionAt I A a0 a1) :: rest))) : W p l e R s m args below meth c H locs cells slots Q (F0 m pc ls (.int a1 :: .int a0 :: .ref (ad 2) :: rest)) :=
  cv_ro E (c_X1_directionAt l P a0 a1 ) (gV kML_X5_29 kIM_X1_directionAt kSE_X1_directionAt kIN_X1 kCO_X1_directionAt) rfl ds_X1_directionAt rfl KC_blind (fun U _ hW => (K0.at S).warm hW) (va_recv K0.k P (show classes[1]? = some (RX1, TX1, 11) from rfl) cw_g2) hR hls rfl hro hdg kk
end
section
variable {p : Program} {l : Launch} {e : Env} {R : Room} {s : State} {m : MethodId} {args : Array Value} {below : List Frame} {meth : Method} {c : Code} {H : Heap} {locs : List Loc} {cells slots : Nat} {Q : State → Prop} {cc : ByteArray} {nL pc : Nat} {ret : Option FieldType} {ls : Array Slot} {rest : List Value} {D : va_G} {cyI : ClassId} {ad : Nat → Nat} {I : Nat → Int32} {A : Nat → Nat → Int32}
theorem iv_X5_32 (E : EX p s m args meth c cc nL RX5 ret) (K0 : KC D cyI ad s s.heap) (S : va_S (InN 44 ad) s.heap H locs) {a0 a1 : Int32} (hR : RmOk R cells slots 0 2) (hls : ls.size = nL) (hro : (rest.map fun v => v.category).sum ≤ 8) (hdg : decode cc pc = .ok (.invokestatic 32, 3)) (kk : W p l e R s m args below meth c H locs cells slots Q (F0 m (pc + 3) ls (.int (B_X6_onFrom a0 a1) :: rest))) : W p l e R s m args below meth c H locs cells slots Q (F0 m pc ls (.int a1 :: .int a0 :: rest)) :=
  cn_ro E (c_X6_onFrom l (H := H) (D := D) (cyI := cyI) (ad := ad) a0 a1 ) (K0.nm _ (List.mem_of_getElem? (i := 6) rfl)) kST_X6_onFrom kIN_X6 kCO_X6_onFrom ds_X6_onFrom rfl KC_blind (fun U _ hW => (K0.at S).warm hW) hR hls rfl hro hdg kk
end
section
variable {p : Program} {l : Launch} {e : Env} {R : Room} {s : State} {m : MethodId} {args : Array Value} {below : List Frame} {meth : Method} {c : Code} {H : Heap} {locs : List Loc} {cells slots : Nat} {Q : State → Prop} {cc : ByteArray} {nL pc : Nat} {ret : Option FieldType} {ls : Array Slot} {rest : List Value} {D : va_G} {cyI : ClassId} {ad : Nat → Nat} {I : Nat → Int32} {A : Nat → Nat → Int32}
theorem iv_X5_35 (E : EX p s m args meth c cc nL RX5 ret) (K0 : KC D cyI ad s s.heap) (S : va_S (InN 44 ad) s.heap H locs) {a0 a1 : Int32} {v : Int32} (hv : B_J9_floorDiv_7cf53 a0 a1 = some v) (hR : RmOk R cells slots 0 3) (hls : ls.size = nL) (hro : (rest.map fun v => v.category).sum ≤ 8) (hdg : decode cc pc = .ok (.invokestatic 35, 3)) (kk : W p l e R s m args below meth c H locs cells slots Q (F0 m (pc + 3) ls (.int v :: rest))) : W p l e R s m args below meth c H locs cells slots Q (F0 m pc ls (.int a1 :: .int a0 :: rest)) :=
  cq_ro E (c_J9_floorDiv_7cf53 l (H := H) (D := D) (cyI := cyI) (ad := ad) a0 a1 hv) kML_X5_35 kST_J9_floorDiv_7cf53 kIN_J9 kCO_J9_floorDiv_7cf53 ds_J9_floorDiv_7cf53 rfl KC_blind (fun U _ hW => (K0.at S).warm hW) hR hls rfl hro hdg kk
end
section
variable {p : Program} {l : Launch} {e : Env} {s : State} {m : MethodId} {args : Array Value} {below : List Frame} {meth : Method} {c : Code} {D : va_G} {cyI : ClassId} {ad : Nat → Nat} {I : Nat → Int32} {A : Nat → Nat → Int32}
def B_X5_around_L6 (I : Nat → Int32) (A : Nat → Nat → Int32) (x1 x2 x3 x4 : Int32) : Nat → Int32 → Int32 → Option (Int32)
  | 0 => fun _ _ => none
  | n + 1 => fun x5 x6 => if x3 ≤ x6 then some (x5) else (B_X5_around_L6 I A x1 x2 x3 x4 n) (((x5 + (B_X6_onFrom ((B_X1_directionAt I A x6 x2)) ((B_X1_directionAt I A ((x6 + 1)) x2)))) + (B_X6_onFrom ((B_X1_directionAt I A ((x6 + 1)) x4)) ((B_X1_directionAt I A x6 x4))))) (x6 + 1)
theorem B_X5_around_L6_s (I : Nat → Int32) (A : Nat → Nat → Int32) (x1 x2 x3 x4 x5 x6 : Int32) (n : Nat) : B_X5_around_L6 I A x1 x2 x3 x4 (n + 1) x5 x6 = if x3 ≤ x6 then some (x5) else (B_X5_around_L6 I A x1 x2 x3 x4 n) (((x5 + (B_X6_onFrom ((B_X1_directionAt I A x6 x2)) ((B_X1_directionAt I A ((x6 + 1)) x2)))) + (B_X6_onFrom ((B_X1_directionAt I A ((x6 + 1)) x4)) ((B_X1_directionAt I A x6 x4))))) (x6 + 1) := rfl
set_option maxHeartbeats 4000000 in
set_option maxRecDepth 100000 in
theorem w_X5_around_L6 (E : EX p s m args meth c cX5_around 7 RX5 (some .int)) (K0 : KC D cyI ad s s.heap) (P : va_P D classes (cw cyI ad I A) s.heap) {x1 x2 x3 x4 : Int32} {out : Int32} : ∀ (n : Nat) {x5 x6 : Int32} {o : Int32} (h : B_X5_around_L6 I A x1 x2 x3 x4 n x5 x6 = some o) {ls : Array Slot} (hl : lv_has ls 7 [(0, .ref (ad 3)), (1, .int x1), (2, .int x2), (3, .int x3), (4, .int x4), (5, .int x5), (6, .int x6)]) (kx : ∀ {ls : Array Slot}, lv_has ls 7 [(0, .ref (ad 3)), (1, .int x1), (2, .int x2), (3, .int x3), (4, .int x4), (5, .int o)] → W p l e (rmL 2) s m args below meth c s.heap [] 0 0 (MQ below (vp_Si (fun z => z = out)) args s 0 0 (fun _ => False)) (F0 m 80 ls [])), W p l e (rmL 2) s m args below meth c s.heap [] 0 0 (MQ below (vp_Si (fun z => z = out)) args s 0 0 (fun _ => False)) (F0 m 6 ls []) := by
  intro n
  induction n with
  | zero => intro x5 x6 o h ls hl kx; exact nomatch (show none = some o from h)
  | succ n ih =>
    intro x5 x6 o h ls hl kx
    rw [B_X5_around_L6_s] at h
    refine lv_iload E.hx E.hb dX5_around_6 (lv_at hl 6 rfl) ?_
    refine lv_iload_n E.hx E.hb dX5_around_8 rfl (lv_at hl 3 rfl) ?_
    refine lv_icmp_ge (tgt := 80) E.hx E.hb dX5_around_9 (by decide) (fun c_1 => ?_) (fun c_1 => ?_)
    · rw [if_pos c_1] at h
      cases h
      exact kx  (lv_sub hl [0, 1, 2, 3, 4, 5] rfl)
    · rw [if_neg c_1] at h
      refine lv_iload E.hx E.hb dX5_around_12 (lv_at hl 5 rfl) ?_
      refine lv_aload_n E.hx E.hb dX5_around_14 rfl (lv_at hl 0 rfl) ?_
      refine gf_X5_9 E K0 P dX5_around_15 ?_
      refine lv_iload E.hx E.hb dX5_around_18 (lv_at hl 6 rfl) ?_
      refine lv_iload_n E.hx E.hb dX5_around_20 rfl (lv_at hl 2 rfl) ?_
      refine iv_X5_29 E K0 P va_S.rf (by decide) hl.1 (Nat.le_of_ble_eq_true rfl) dX5_around_21 ?_
      refine lv_aload_n E.hx E.hb dX5_around_24 rfl (lv_at hl 0 rfl) ?_
      refine gf_X5_9 E K0 P dX5_around_25 ?_
      refine lv_iload E.hx E.hb dX5_around_28 (lv_at hl 6 rfl) ?_
      refine lv_iconst (v := 1) E.hx E.hb dX5_around_30 (by decide) ?_
      refine lv_iadd E.hx E.hb dX5_around_31 ?_
      refine lv_iload_n E.hx E.hb dX5_around_32 rfl (lv_at hl 2 rfl) ?_
      refine iv_X5_29 E K0 P va_S.rf (by decide) hl.1 (Nat.le_of_ble_eq_true rfl) dX5_around_33 ?_
      refine iv_X5_32 E K0 va_S.rf (by decide) hl.1 (Nat.le_of_ble_eq_true rfl) dX5_around_36 ?_
      refine lv_iadd E.hx E.hb dX5_around_39 ?_
      refine lv_istore (lv' := [(5, .int (x5 + (B_X6_onFrom ((B_X1_directionAt I A x6 x2)) ((B_X1_directionAt I A ((x6 + 1)) x2))))), (0, .ref (ad 3)), (1, .int x1), (2, .int x2), (3, .int x3), (4, .int x4), (6, .int x6)]) E.hx E.hb dX5_around_40 hl (by decide) rfl (fun ls hl => ?_)
      refine lv_iload E.hx E.hb dX5_around_42 (lv_at hl 0 rfl) ?_
      refine lv_aload_n E.hx E.hb dX5_around_44 rfl (lv_at hl 1 rfl) ?_
      refine gf_X5_9 E K0 P dX5_around_45 ?_
      refine lv_iload E.hx E.hb dX5_around_48 (lv_at hl 6 rfl) ?_
      refine lv_iconst (v := 1) E.hx E.hb dX5_around_50 (by decide) ?_
      refine lv_iadd E.hx E.hb dX5_around_51 ?_
      refine lv_iload E.hx E.hb dX5_around_52 (lv_at hl 5 rfl) ?_
      refine iv_X5_29 E K0 P va_S.rf (by decide) hl.1 (Nat.le_of_ble_eq_true rfl) dX5_around_54 ?_
      refine lv_aload_n E.hx E.hb dX5_around_57 rfl (lv_at hl 1 rfl) ?_
      refine gf_X5_9 E K0 P dX5_around_58 ?_
      refine lv_iload E.hx E.hb dX5_around_61 (lv_at hl 6 rfl) ?_
      refine lv_iload E.hx E.hb dX5_around_63 (lv_at hl 5 rfl) ?_
      refine iv_X5_29 E K0 P va_S.rf (by decide) hl.1 (Nat.le_of_ble_eq_true rfl) dX5_around_65 ?_
      refine iv_X5_32 E K0 va_S.rf (by decide) hl.1 (Nat.le_of_ble_eq_true rfl) dX5_around_68 ?_
      refine lv_iadd E.hx E.hb dX5_around_71 ?_
      refine lv_istore (lv' := [(5, .int ((x5 + (B_X6_onFrom ((B_X1_directionAt I A x6 x2)) ((B_X1_directionAt I A ((x6 + 1)) x2)))) + (B_X6_onFrom ((B_X1_directionAt I A ((x6 + 1)) x4)) ((B_X1_directionAt I A x6 x4))))), (0, .ref (ad 3)), (1, .int x1), (2, .int x2), (3, .int x3), (4, .int x4), (6, .int x6)]) E.hx E.hb dX5_around_72 hl (by decide) rfl (fun ls hl => ?_)
      refine lv_iinc (v := x6 + 1) (lv' := [(6, .int (x6 + 1)), (5, .int ((x5 + (B_X6_onFrom ((B_X1_directionAt I A x6 x2)) ((B_X1_directionAt I A ((x6 + 1)) x2)))) + (B_X6_onFrom ((B_X1_directionAt I A ((x6 + 1)) x4)) ((B_X1_directionAt I A x6 x4))))), (0, .ref (ad 3)), (1, .int x1), (2, .int x2), (3, .int x3), (4, .int x4)]) E.hx E.hb dX5_around_74 hl (k := 6) rfl rfl (by decide) rfl (fun ls hl => ?_)
      refine lv_goto (tgt := 6) E.hx E.hb dX5_around_77 (by decide) ?_
      exact ih  h (lv_sub hl [2, 3, 4, 5, 6, 1, 0] rfl) kx
def B_X5_around_L83 (I : Nat → Int32) (A : Nat → Nat → Int32) (x1 x3 x4 : Int32) : Nat → Int32 → Int32 → Option (Int32)
  | 0 => fun _ _ => none
  | n + 1 => fun x5 x6 => if x4 ≤ x6 then some (x5) else (B_X5_around_L83 I A x1 x3 x4 n) (((x5 + (B_X6_onFrom ((B_X1_directionAt I A x3 x6)) ((B_X1_directionAt I A x3 ((x6 + 1)))))) + (B_X6_onFrom ((B_X1_directionAt I A x1 ((x6 + 1)))) ((B_X1_directionAt I A x1 x6))))) (x6 + 1)
theorem B_X5_around_L83_s (I : Nat → Int32) (A : Nat → Nat → Int32) (x1 x3 x4 x5 x6 : Int32) (n : Nat) : B_X5_around_L83 I A x1 x3 x4 (n + 1) x5 x6 = if x4 ≤ x6 then some (x5) else (B_X5_around_L83 I A x1 x3 x4 n) (((x5 + (B_X6_onFrom ((B_X1_directionAt I A x3 x6)) ((B_X1_directionAt I A x3 ((x6 + 1)))))) + (B_X6_onFrom ((B_X1_directionAt I A x1 ((x6 + 1)))) ((B_X1_directionAt I A x1 x6))))) (x6 + 1) := rfl
set_option maxHeartbeats 4000000 in
set_option maxRecDepth 100000 in
theorem w_X5_around_L83 (E : EX p s m args meth c cX5_around 7 RX5 (some .int)) (K0 : KC D cyI ad s s.heap) (P : va_P D classes (cw cyI ad I A) s.heap) {x1 x3 x4 : Int32} {out : Int32} : ∀ (n : Nat) {x5 x6 : Int32} {o : Int32} (h : B_X5_around_L83 I A x1 x3 x4 n x5 x6 = some o) {ls : Array Slot} (hl : lv_has ls 7 [(0, .ref (ad 3)), (1, .int x1), (3, .int x3), (4, .int x4), (5, .int x5), (6, .int x6)]) (kx : ∀ {ls : Array Slot}, lv_has ls 7 [(5, .int o)] → W p l e (rmL 2) s m args below meth c s.heap [] 0 0 (MQ below (vp_Si (fun z => z = out)) args s 0 0 (fun _ => False)) (F0 m 156 ls [])), W p l e (rmL 2) s m args below meth c s.heap [] 0 0 (MQ below (vp_Si (fun z => z = out)) args s 0 0 (fun _ => False)) (F0 m 83 ls []) := by
  intro n
  induction n with
  | zero => intro x5 x6 o h ls hl kx; exact nomatch (show none = some o from h)
  | succ n ih =>
    intro x5 x6 o h ls hl kx
    rw [B_X5_around_L83_s] at h
    refine lv_iload E.hx E.hb dX5_around_83 (lv_at hl 5 rfl) ?_
    refine lv_iload E.hx E.hb dX5_around_85 (lv_at hl 3 rfl) ?_
    refine lv_icmp_ge (tgt := 156) E.hx E.hb dX5_around_87 (by decide) (fun c_4 => ?_) (fun c_4 => ?_)
    · rw [if_pos c_4] at h
      cases h
      exact kx  (lv_sub hl [4] rfl)
    · rw [if_neg c_4] at h
      refine lv_iload E.hx E.hb dX5_around_90 (lv_at hl 4 rfl) ?_
      refine lv_aload_n E.hx E.hb dX5_around_92 rfl (lv_at hl 0 rfl) ?_
      refine gf_X5_9 E K0 P dX5_around_93 ?_
      refine lv_iload_n E.hx E.hb dX5_around_96 rfl (lv_at hl 2 rfl) ?_
      refine lv_iload E.hx E.hb dX5_around_97 (lv_at hl 5 rfl) ?_
      refine iv_X5_29 E K0 P va_S.rf (by decide) hl.1 (Nat.le_of_ble_eq_true rfl) dX5_around_99 ?_
      refine lv_aload_n E.hx E.hb dX5_around_102 rfl (lv_at hl 0 rfl) ?_
      refine gf_X5_9 E K0 P dX5_around_103 ?_
      refine lv_iload_n E.hx E.hb dX5_around_106 rfl (lv_at hl 2 rfl) ?_
      refine lv_iload E.hx E.hb dX5_around_107 (lv_at hl 5 rfl) ?_
      refine lv_iconst (v := 1) E.hx E.hb dX5_around_109 (by decide) ?_
      refine lv_iadd E.hx E.hb dX5_around_110 ?_
      refine iv_X5_29 E K0 P va_S.rf (by decide) hl.1 (Nat.le_of_ble_eq_true rfl) dX5_around_111 ?_
      refine iv_X5_32 E K0 va_S.rf (by decide) hl.1 (Nat.le_of_ble_eq_true rfl) dX5_around_114 ?_
      refine lv_iadd E.hx E.hb dX5_around_117 ?_
      refine lv_istore (lv' := [(5, .int (x5 + (B_X6_onFrom ((B_X1_directionAt I A x3 x6)) ((B_X1_directionAt I A x3 ((x6 + 1))))))), (0, .ref (ad 3)), (1, .int x1), (3, .int x3), (4, .int x4), (6, .int x6)]) E.hx E.hb dX5_around_118 hl (by decide) rfl (fun ls hl => ?_)
      refine lv_iload E.hx E.hb dX5_around_120 (lv_at hl 0 rfl) ?_
      refine lv_aload_n E.hx E.hb dX5_around_122 rfl (lv_at hl 1 rfl) ?_
      refine gf_X5_9 E K0 P dX5_around_123 ?_
      refine lv_iload_n E.hx E.hb dX5_around_126 rfl (lv_at hl 2 rfl) ?_
      refine lv_iload E.hx E.hb dX5_around_127 (lv_at hl 5 rfl) ?_
      refine lv_iconst (v := 1) E.hx E.hb dX5_around_129 (by decide) ?_
      refine lv_iadd E.hx E.hb dX5_around_130 ?_
      refine iv_X5_29 E K0 P va_S.rf (by decide) hl.1 (Nat.le_of_ble_eq_true rfl) dX5_around_131 ?_
      refine lv_aload_n E.hx E.hb dX5_around_134 rfl (lv_at hl 1 rfl) ?_
      refine gf_X5_9 E K0 P dX5_around_135 ?_
      refine lv_iload_n E.hx E.hb dX5_around_138 rfl (lv_at hl 2 rfl) ?_
      refine lv_iload E.hx E.hb dX5_around_139 (lv_at hl 5 rfl) ?_
      refine iv_X5_29 E K0 P va_S.rf (by decide) hl.1 (Nat.le_of_ble_eq_true rfl) dX5_around_141 ?_
      refine iv_X5_32 E K0 va_S.rf (by decide) hl.1 (Nat.le_of_ble_eq_true rfl) dX5_around_144 ?_
      refine lv_iadd E.hx E.hb dX5_around_147 ?_
      refine lv_istore (lv' := [(5, .int ((x5 + (B_X6_onFrom ((B_X1_directionAt I A x3 x6)) ((B_X1_directionAt I A x3 ((x6 + 1)))))) + (B_X6_onFrom ((B_X1_directionAt I A x1 ((x6 + 1)))) ((B_X1_directionAt I A x1 x6))))), (0, .ref (ad 3)), (1, .int x1), (3, .int x3), (4, .int x4), (6, .int x6)]) E.hx E.hb dX5_around_148 hl (by decide) rfl (fun ls hl => ?_)
      refine lv_iinc (v := x6 + 1) (lv' := [(6, .int (x6 + 1)), (5, .int ((x5 + (B_X6_onFrom ((B_X1_directionAt I A x3 x6)) ((B_X1_directionAt I A x3 ((x6 + 1)))))) + (B_X6_onFrom ((B_X1_directionAt I A x1 ((x6 + 1)))) ((B_X1_directionAt I A x1 x6))))), (0, .ref (ad 3)), (1, .int x1), (3, .int x3), (4, .int x4)]) E.hx E.hb dX5_around_150 hl (k := 5) rfl rfl (by decide) rfl (fun ls hl => ?_)
      refine lv_goto (tgt := 83) E.hx E.hb dX5_around_153 (by decide) ?_
      exact ih  h (lv_sub hl [2, 3, 4, 5, 1, 0] rfl) kx
def B_X5_around (I : Nat → Int32) (A : Nat → Nat → Int32) (x1 x2 x3 x4 : Int32) : Option (Int32) := (B_X5_around_L6 I A x1 x2 x3 x4 FU 0 x1).bind fun q_2 => (B_X5_around_L83 I A x1 x3 x4 FU q_2 x2).bind fun q_5 => (B_J9_floorDiv_7cf53 q_5 15).bind fun r_7 => some r_7
set_option maxHeartbeats 4000000 in
set_option maxRecDepth 100000 in
theorem w_X5_around (E : EX p s m args meth c cX5_around 7 RX5 (some .int)) (K0 : KC D cyI ad s s.heap) (P : va_P D classes (cw cyI ad I A) s.heap)  {x1 x2 x3 x4 : Int32} {out : Int32} (h : B_X5_around I A x1 x2 x3 x4 = some out) {ls : Array Slot} (hl : lv_has ls 7 [(0, .ref (ad 3)), (1, .int x1), (2, .int x2), (3, .int x3), (4, .int x4)]) : W p l e (rmL 2) s m args below meth c s.heap [] 0 0 (MQ below (vp_Si (fun z => z = out)) args s 0 0 (fun _ => False)) (F0 m 0 ls []) := by
  unfold B_X5_around at h
  refine lv_iconst (v := 0) E.hx E.hb dX5_around_0 (by decide) ?_
  refine lv_istore (lv' := [(5, .int 0), (0, .ref (ad 3)), (1, .int x1), (2, .int x2), (3, .int x3), (4, .int x4)]) E.hx E.hb dX5_around_1 hl (by decide) rfl (fun ls hl => ?_)
  refine lv_iload_n E.hx E.hb dX5_around_3 rfl (lv_at hl 2 rfl) ?_
  refine lv_istore (lv' := [(6, .int x1), (5, .int 0), (0, .ref (ad 3)), (1, .int x1), (2, .int x2), (3, .int x3), (4, .int x4)]) E.hx E.hb dX5_around_4 hl (by decide) rfl (fun ls hl => ?_)
  obtain ⟨q_2, e_3, h⟩ := obind h
  refine w_X5_around_L6 E K0 P FU e_3 (lv_sub hl [2, 3, 4, 5, 6, 1, 0] rfl) (fun {ls} hl => ?_)
  refine lv_iload_n E.hx E.hb dX5_around_80 rfl (lv_at hl 2 rfl) ?_
  refine lv_istore (lv' := [(6, .int x2), (0, .ref (ad 3)), (1, .int x1), (2, .int x2), (3, .int x3), (4, .int x4), (5, .int q_2)]) E.hx E.hb dX5_around_81 hl (by decide) rfl (fun ls hl => ?_)
  obtain ⟨q_5, e_6, h⟩ := obind h
  refine w_X5_around_L83 E K0 P FU e_6 (lv_sub hl [1, 2, 4, 5, 6, 0] rfl) (fun {ls} hl => ?_)
  refine lv_iload E.hx E.hb dX5_around_156 (lv_at hl 0 rfl) ?_
  refine lv_bipush (v := 15) E.hx E.hb dX5_around_158 (by decide) ?_
  obtain ⟨r_7, e_8, h⟩ := obind h
  refine iv_X5_35 E K0 va_S.rf e_8 (by decide) hl.1 (Nat.le_of_ble_eq_true rfl) dX5_around_160 ?_
  exact W.iret E.hx E.hb E.hr (fun t ht _ => ⟨_, rfl, (Option.some.inj h), ht⟩) (fun q hq => nomatch hq) dX5_around_163 E.hk
theorem c_X5_around (l : Launch) {H : Heap} {D : va_G} {cyI : ClassId} {ad : Nat → Nat} {I : Nat → Int32} {A : Nat → Nat → Int32} (P : va_P D classes (cw cyI ad I A) H) (x1 x2 x3 x4 : Int32) {out : Int32} (h : B_X5_around I A x1 x2 x3 x4 = some out) : MRO l yX5_around cX5_around 7 (some .int) 2 [.ref (ad 3), .int x1, .int x2, .int x3, .int x4] H (KC D cyI ad) out := by
  refine Mof (own := RX5) (by decide +kernel) rfl rfl ?_
  intro p e s m args below meth c ls E hH K0 hl
  subst hH
  exact w_X5_around E K0 P h hl
theorem ds_X5_around : Dsc yX5_around 4 := ⟨by decide +kernel, by decide +kernel, by decide +kernel⟩
end
section
variable {p : Program} {l : Launch} {e : Env} {R : Room} {s : State} {m : MethodId} {args : Array Value} {below : List Frame} {meth : Method} {c : Code} {H : Heap} {locs : List Loc} {cells slots : Nat} {Q : State → Prop} {cc : ByteArray} {nL pc : Nat} {ret : Option FieldType} {ls : Array Slot} {rest : List Value} {D : va_G} {cyI : ClassId} {ad : Nat → Nat} {I : Nat → Int32} {A : Nat → Nat → Int32}
theorem iv_X5_21 (E : EX p s m args meth c cc nL RX5 ret) (K0 : KC D cyI ad s s.heap) (P : va_P D classes (cw cyI ad I A) H) (S : va_S (InN 44 ad) s.heap H locs) {a0 a1 a2 a3 : Int32} {v : Int32} (hv : B_X5_around I A a0 a1 a2 a3 = some v) (hR : RmOk R cells slots 2 7) (hls : ls.size = nL) (hro : (rest.map fun v => v.category).sum ≤ 8) (hdg : decode cc pc = .ok (.invokevirtual 21, 3)) (kk : W p l e R s m args below meth c H locs cells slots Q (F0 m (pc + 3) ls (.int v :: rest))) : W p l e R s m args below meth c H locs cells slots Q (F0 m pc ls (.int a3 :: .int a2 :: .int a1 :: .int a0 :: .ref (ad 3) :: rest)) :=
  cv_ro E (c_X5_around l P a0 a1 a2 a3 hv) (gV kML_X5_21 kIM_X5_around kSE_X5_around kIN_X5 kCO_X5_around) rfl ds_X5_around rfl KC_blind (fun U _ hW => (K0.at S).warm hW) (va_recv K0.k P (show classes[5]? = some (RX5, TX5, 1) from rfl) cw_g3) hR hls rfl hro hdg kk
end
section
variable {p : Program} {l : Launch} {e : Env} {s : State} {m : MethodId} {args : Array Value} {below : List Frame} {meth : Method} {c : Code} {D : va_G} {cyI : ClassId} {ad : Nat → Nat} {I : Nat → Int32} {A : Nat → Nat → Int32}
def B_X5_at (I : Nat → Int32) (A : Nat → Nat → Int32) (x1 x2 : Int32) : Option (Int32) := (B_X5_around I A x1 x2 ((x1 + 1)) ((x2 + 1))).bind fun r_1 => some r_1
set_option maxHeartbeats 4000000 in
set_option maxRecDepth 100000 in
theorem w_X5_at (E : EX p s m args meth c cX5_at 3 RX5 (some .int)) (K0 : KC D cyI ad s s.heap) (P : va_P D classes (cw cyI ad I A) s.heap)  {x1 x2 : Int32} {out : Int32} (h : B_X5_at I A x1 x2 = some out) {ls : Array Slot} (hl : lv_has ls 3 [(0, .ref (ad 3)), (1, .int x1), (2, .int x2)]) : W p l e (rmL 3) s m args below meth c s.heap [] 0 0 (MQ below (vp_Si (fun z => z = out)) args s 0 0 (fun _ => False)) (F0 m 0 ls []) := by
  unfold B_X5_at at h
  refine lv_aload_n E.hx E.hb dX5_at_0 rfl (lv_at hl 0 rfl) ?_
  refine lv_iload_n E.hx E.hb dX5_at_1 rfl (lv_at hl 1 rfl) ?_
  refine lv_iload_n E.hx E.hb dX5_at_2 rfl (lv_at hl 2 rfl) ?_
  refine lv_iload_n E.hx E.hb dX5_at_3 rfl (lv_at hl 1 rfl) ?_
  refine lv_iconst (v := 1) E.hx E.hb dX5_at_4 (by decide) ?_
  refine lv_iadd E.hx E.hb dX5_at_5 ?_
  refine lv_iload_n E.hx E.hb dX5_at_6 rfl (lv_at hl 2 rfl) ?_
  refine lv_iconst (v := 1) E.hx E.hb dX5_at_7 (by decide) ?_
  refine lv_iadd E.hx E.hb dX5_at_8 ?_
  obtain ⟨r_1, e_2, h⟩ := obind h
  refine iv_X5_21 E K0 P va_S.rf e_2 (by decide) hl.1 (Nat.le_of_ble_eq_true rfl) dX5_at_9 ?_
  exact W.iret E.hx E.hb E.hr (fun t ht _ => ⟨_, rfl, (Option.some.inj h), ht⟩) (fun q hq => nomatch hq) dX5_at_12 E.hk
theorem c_X5_at (l : Launch) {H : Heap} {D : va_G} {cyI : ClassId} {ad : Nat → Nat} {I : Nat → Int32} {A : Nat → Nat → Int32} (P : va_P D classes (cw cyI ad I A) H) (x1 x2 : Int32) {out : Int32} (h : B_X5_at I A x1 x2 = some out) : MRO l yX5_at cX5_at 3 (some .int) 3 [.ref (ad 3), .int x1, .int x2] H (KC D cyI ad) out := by
  refine Mof (own := RX5) (by decide +kernel) rfl rfl ?_
  intro p e s m args below meth c ls E hH K0 hl
  subst hH
  exact w_X5_at E K0 P h hl
theorem ds_X5_at : Dsc yX5_at 2 := ⟨by decide +kernel, by decide +kernel, by decide +kernel⟩
end
section
variable {p : Program} {l : Launch} {e : Env} {R : Room} {s : State} {m : MethodId} {args : Array Value} {below : List Frame} {meth : Method} {c : Code} {H : Heap} {locs : List Loc} {cells slots : Nat} {Q : State → Prop} {cc : ByteArray} {nL pc : Nat} {ret : Option FieldType} {ls : Array Slot} {rest : List Value} {D : va_G} {cyI : ClassId} {ad : Nat → Nat} {I : Nat → Int32} {A : Nat → Nat → Int32}
theorem iv_X5_25 (E : EX p s m args meth c cc nL RX5 ret) (K0 : KC D cyI ad s s.heap) (P : va_P D classes (cw cyI ad I A) H) (S : va_S (InN 44 ad) s.heap H locs) {a0 a1 : Int32} {v : Int32} (hv : B_X5_at I A a0 a1 = some v) (hR : RmOk R cells slots 3 3) (hls : ls.size = nL) (hro : (rest.map fun v => v.category).sum ≤ 8) (hdg : decode cc pc = .ok (.invokevirtual 25, 3)) (kk : W p l e R s m args below meth c H locs cells slots Q (F0 m (pc + 3) ls (.int v :: rest))) : W p l e R s m args below meth c H locs cells slots Q (F0 m pc ls (.int a1 :: .int a0 :: .ref (ad 3) :: rest)) :=
  cv_ro E (c_X5_at l P a0 a1 hv) (gV kML_X5_25 kIM_X5_at kSE_X5_at kIN_X5 kCO_X5_at) rfl ds_X5_at rfl KC_blind (fun U _ hW => (K0.at S).warm hW) (va_recv K0.k P (show classes[5]? = some (RX5, TX5, 1) from rfl) cw_g3) hR hls rfl hro hdg kk
end
section
variable {p : Program} {l : Launch} {e : Env} {s : State} {m : MethodId} {args : Array Value} {below : List Frame} {meth : Method} {c : Code} {D : va_G} {cyI : ClassId} {ad : Nat → Nat} {I : Nat → Int32} {A : Nat → Nat → Int32}
def B_X5_sum_L16 (I : Nat → Int32) (A : Nat → Nat → Int32) (x1 x3 x4 x6 : Int32) : Nat → Int32 → Int32 → Option (Int32)
  | 0 => fun _ _ => none
  | n + 1 => fun x5 x7 => if x3 ≤ x7 then some (x5) else ((B_X5_at I A x7 x6).bind fun r_3 => (B_X5_sum_L16 I A x1 x3 x4 x6 n) ((x5 + r_3)) (x7 + 1))
theorem B_X5_sum_L16_s (I : Nat → Int32) (A : Nat → Nat → Int32) (x1 x3 x4 x6 x5 x7 : Int32) (n : Nat) : B_X5_sum_L16 I A x1 x3 x4 x6 (n + 1) x5 x7 = if x3 ≤ x7 then some (x5) else ((B_X5_at I A x7 x6).bind fun r_3 => (B_X5_sum_L16 I A x1 x3 x4 x6 n) ((x5 + r_3)) (x7 + 1)) := rfl
set_option maxHeartbeats 4000000 in
set_option maxRecDepth 100000 in
theorem w_X5_sum_L16 (E : EX p s m args meth c cX5_sum 8 RX5 (some .int)) (K0 : KC D cyI ad s s.heap) (P : va_P D classes (cw cyI ad I A) s.heap) {x1 x3 x4 x6 : Int32} {out : Int32} : ∀ (n : Nat) {x5 x7 : Int32} {o : Int32} (h : B_X5_sum_L16 I A x1 x3 x4 x6 n x5 x7 = some o) {ls : Array Slot} (hl : lv_has ls 8 [(0, .ref (ad 3)), (1, .int x1), (3, .int x3), (4, .int x4), (5, .int x5), (6, .int x6), (7, .int x7)]) (kx : ∀ {ls : Array Slot}, lv_has ls 8 [(0, .ref (ad 3)), (1, .int x1), (3, .int x3), (4, .int x4), (5, .int o), (6, .int x6)] → W p l e (rmL 4) s m args below meth c s.heap [] 0 0 (MQ below (vp_Si (fun z => z = out)) args s 0 0 (fun _ => False)) (F0 m 41 ls [])), W p l e (rmL 4) s m args below meth c s.heap [] 0 0 (MQ below (vp_Si (fun z => z = out)) args s 0 0 (fun _ => False)) (F0 m 16 ls []) := by
  intro n
  induction n with
  | zero => intro x5 x7 o h ls hl kx; exact nomatch (show none = some o from h)
  | succ n ih =>
    intro x5 x7 o h ls hl kx
    rw [B_X5_sum_L16_s] at h
    refine lv_iload E.hx E.hb dX5_sum_16 (lv_at hl 6 rfl) ?_
    refine lv_iload_n E.hx E.hb dX5_sum_18 rfl (lv_at hl 2 rfl) ?_
    refine lv_icmp_ge (tgt := 41) E.hx E.hb dX5_sum_19 (by decide) (fun c_2 => ?_) (fun c_2 => ?_)
    · rw [if_pos c_2] at h
      cases h
      exact kx  (lv_sub hl [0, 1, 2, 3, 4, 5] rfl)
    · rw [if_neg c_2] at h
      refine lv_iload E.hx E.hb dX5_sum_22 (lv_at hl 4 rfl) ?_
      refine lv_aload_n E.hx E.hb dX5_sum_24 rfl (lv_at hl 0 rfl) ?_
      refine lv_iload E.hx E.hb dX5_sum_25 (lv_at hl 6 rfl) ?_
      refine lv_iload E.hx E.hb dX5_sum_27 (lv_at hl 5 rfl) ?_
      obtain ⟨r_3, e_4, h⟩ := obind h
      refine iv_X5_25 E K0 P va_S.rf e_4 (by decide) hl.1 (Nat.le_of_ble_eq_true rfl) dX5_sum_29 ?_
      refine lv_iadd E.hx E.hb dX5_sum_32 ?_
      refine lv_istore (lv' := [(5, .int (x5 + r_3)), (0, .ref (ad 3)), (1, .int x1), (3, .int x3), (4, .int x4), (6, .int x6), (7, .int x7)]) E.hx E.hb dX5_sum_33 hl (by decide) rfl (fun ls hl => ?_)
      refine lv_iinc (v := x7 + 1) (lv' := [(7, .int (x7 + 1)), (5, .int (x5 + r_3)), (0, .ref (ad 3)), (1, .int x1), (3, .int x3), (4, .int x4), (6, .int x6)]) E.hx E.hb dX5_sum_35 hl (k := 6) rfl rfl (by decide) rfl (fun ls hl => ?_)
      refine lv_goto (tgt := 16) E.hx E.hb dX5_sum_38 (by decide) ?_
      exact ih  h (lv_sub hl [2, 3, 4, 5, 1, 6, 0] rfl) kx
def B_X5_sum_L6 (I : Nat → Int32) (A : Nat → Nat → Int32) (x1 x3 x4 : Int32) : Nat → Int32 → Int32 → Option (Int32)
  | 0 => fun _ _ => none
  | n + 1 => fun x5 x6 => if x4 ≤ x6 then some (x5) else ((B_X5_sum_L16 I A x1 x3 x4 x6 FU x5 x1).bind fun q_5 => (B_X5_sum_L6 I A x1 x3 x4 n) q_5 (x6 + 1))
theorem B_X5_sum_L6_s (I : Nat → Int32) (A : Nat → Nat → Int32) (x1 x3 x4 x5 x6 : Int32) (n : Nat) : B_X5_sum_L6 I A x1 x3 x4 (n + 1) x5 x6 = if x4 ≤ x6 then some (x5) else ((B_X5_sum_L16 I A x1 x3 x4 x6 FU x5 x1).bind fun q_5 => (B_X5_sum_L6 I A x1 x3 x4 n) q_5 (x6 + 1)) := rfl
set_option maxHeartbeats 4000000 in
set_option maxRecDepth 100000 in
theorem w_X5_sum_L6 (E : EX p s m args meth c cX5_sum 8 RX5 (some .int)) (K0 : KC D cyI ad s s.heap) (P : va_P D classes (cw cyI ad I A) s.heap) {x1 x3 x4 : Int32} {out : Int32} : ∀ (n : Nat) {x5 x6 : Int32} {o : Int32} (h : B_X5_sum_L6 I A x1 x3 x4 n x5 x6 = some o) {ls : Array Slot} (hl : lv_has ls 8 [(0, .ref (ad 3)), (1, .int x1), (3, .int x3), (4, .int x4), (5, .int x5), (6, .int x6)]) (kx : ∀ {ls : Array Slot}, lv_has ls 8 [(5, .int o)] → W p l e (rmL 4) s m args below meth c s.heap [] 0 0 (MQ below (vp_Si (fun z => z = out)) args s 0 0 (fun _ => False)) (F0 m 47 ls [])), W p l e (rmL 4) s m args below meth c s.heap [] 0 0 (MQ below (vp_Si (fun z => z = out)) args s 0 0 (fun _ => False)) (F0 m 6 ls []) := by
  intro n
  induction n with
  | zero => intro x5 x6 o h ls hl kx; exact nomatch (show none = some o from h)
  | succ n ih =>
    intro x5 x6 o h ls hl kx
    rw [B_X5_sum_L6_s] at h
    refine lv_iload E.hx E.hb dX5_sum_6 (lv_at hl 5 rfl) ?_
    refine lv_iload E.hx E.hb dX5_sum_8 (lv_at hl 3 rfl) ?_
    refine lv_icmp_ge (tgt := 47) E.hx E.hb dX5_sum_10 (by decide) (fun c_1 => ?_) (fun c_1 => ?_)
    · rw [if_pos c_1] at h
      cases h
      exact kx  (lv_sub hl [4] rfl)
    · rw [if_neg c_1] at h
      refine lv_iload_n E.hx E.hb dX5_sum_13 rfl (lv_at hl 1 rfl) ?_
      refine lv_istore (lv' := [(7, .int x1), (0, .ref (ad 3)), (1, .int x1), (3, .int x3), (4, .int x4), (5, .int x5), (6, .int x6)]) E.hx E.hb dX5_sum_14 hl (by decide) rfl (fun ls hl => ?_)
      obtain ⟨q_5, e_6, h⟩ := obind h
      refine w_X5_sum_L16 E K0 P FU e_6 (lv_sub hl [1, 2, 3, 4, 5, 6, 0] rfl) (fun {ls} hl => ?_)
      refine lv_iinc (v := x6 + 1) (lv' := [(6, .int (x6 + 1)), (0, .ref (ad 3)), (1, .int x1), (3, .int x3), (4, .int x4), (5, .int q_5)]) E.hx E.hb dX5_sum_41 hl (k := 5) rfl rfl (by decide) rfl (fun ls hl => ?_)
      refine lv_goto (tgt := 6) E.hx E.hb dX5_sum_44 (by decide) ?_
      exact ih  h (lv_sub hl [1, 2, 3, 4, 5, 0] rfl) kx
def B_X5_sum (I : Nat → Int32) (A : Nat → Nat → Int32) (x1 x2 x3 x4 : Int32) : Option (Int32) := (B_X5_sum_L6 I A x1 x3 x4 FU 0 x2).bind fun q_7 => some q_7
set_option maxHeartbeats 4000000 in
set_option maxRecDepth 100000 in
theorem w_X5_sum (E : EX p s m args meth c cX5_sum 8 RX5 (some .int)) (K0 : KC D cyI ad s s.heap) (P : va_P D classes (cw cyI ad I A) s.heap)  {x1 x2 x3 x4 : Int32} {out : Int32} (h : B_X5_sum I A x1 x2 x3 x4 = some out) {ls : Array Slot} (hl : lv_has ls 8 [(0, .ref (ad 3)), (1, .int x1), (2, .int x2), (3, .int x3), (4, .int x4)]) : W p l e (rmL 4) s m args below meth c s.heap [] 0 0 (MQ below (vp_Si (fun z => z = out)) args s 0 0 (fun _ => False)) (F0 m 0 ls []) := by
  unfold B_X5_sum at h
  refine lv_iconst (v := 0) E.hx E.hb dX5_sum_0 (by decide) ?_
  refine lv_istore (lv' := [(5, .int 0), (0, .ref (ad 3)), (1, .int x1), (2, .int x2), (3, .int x3), (4, .int x4)]) E.hx E.hb dX5_sum_1 hl (by decide) rfl (fun ls hl => ?_)
  refine lv_iload_n E.hx E.hb dX5_sum_3 rfl (lv_at hl 3 rfl) ?_
  refine lv_istore (lv' := [(6, .int x2), (5, .int 0), (0, .ref (ad 3)), (1, .int x1), (2, .int x2), (3, .int x3), (4, .int x4)]) E.hx E.hb dX5_sum_4 hl (by decide) rfl (fun ls hl => ?_)
  obtain ⟨q_7, e_8, h⟩ := obind h
  refine w_X5_sum_L6 E K0 P FU e_8 (lv_sub hl [2, 3, 5, 6, 1, 0] rfl) (fun {ls} hl => ?_)
  refine lv_iload E.hx E.hb dX5_sum_47 (lv_at hl 0 rfl) ?_
  exact W.iret E.hx E.hb E.hr (fun t ht _ => ⟨_, rfl, (Option.some.inj h), ht⟩) (fun q hq => nomatch hq) dX5_sum_49 E.hk
theorem c_X5_sum (l : Launch) {H : Heap} {D : va_G} {cyI : ClassId} {ad : Nat → Nat} {I : Nat → Int32} {A : Nat → Nat → Int32} (P : va_P D classes (cw cyI ad I A) H) (x1 x2 x3 x4 : Int32) {out : Int32} (h : B_X5_sum I A x1 x2 x3 x4 = some out) : MRO l yX5_sum cX5_sum 8 (some .int) 4 [.ref (ad 3), .int x1, .int x2, .int x3, .int x4] H (KC D cyI ad) out := by
  refine Mof (own := RX5) (by decide +kernel) rfl rfl ?_
  intro p e s m args below meth c ls E hH K0 hl
  subst hH
  exact w_X5_sum E K0 P h hl
theorem ds_X5_sum : Dsc yX5_sum 4 := ⟨by decide +kernel, by decide +kernel, by decide +kernel⟩
end
section
variable {p : Program} {l : Launch} {e : Env} {s : State} {m : MethodId} {args : Array Value} {below : List Frame} {meth : Method} {c : Code} {D : va_G} {cyI : ClassId} {ad : Nat → Nat} {I : Nat → Int32} {A : Nat → Nat → Int32}
def B_X5_count_L19 (I : Nat → Int32) (A : Nat → Nat → Int32) (x2 : Int32) : Nat → Int32 → Int32 → Option (Int32)
  | 0 => fun _ _ => none
  | n + 1 => fun x1 x3 => if ((I 5) - 1) ≤ x3 then some (x1) else ((B_X5_at I A x3 x2).bind fun r_3 => if r_3 = 0 then (B_X5_count_L19 I A x2 n) x1 (x3 + 1) else (B_X5_count_L19 I A x2 n) (x1 + 1) (x3 + 1))
theorem B_X5_count_L19_s (I : Nat → Int32) (A : Nat → Nat → Int32) (x2 x1 x3 : Int32) (n : Nat) : B_X5_count_L19 I A x2 (n + 1) x1 x3 = if ((I 5) - 1) ≤ x3 then some (x1) else ((B_X5_at I A x3 x2).bind fun r_3 => if r_3 = 0 then (B_X5_count_L19 I A x2 n) x1 (x3 + 1) else (B_X5_count_L19 I A x2 n) (x1 + 1) (x3 + 1)) := rfl
set_option maxHeartbeats 4000000 in
set_option maxRecDepth 100000 in
theorem w_X5_count_L19 (E : EX p s m args meth c cX5_count 4 RX5 (some .int)) (K0 : KC D cyI ad s s.heap) (P : va_P D classes (cw cyI ad I A) s.heap) {x2 : Int32} {out : Int32} : ∀ (n : Nat) {x1 x3 : Int32} {o : Int32} (h : B_X5_count_L19 I A x2 n x1 x3 = some o) {ls : Array Slot} (hl : lv_has ls 4 [(0, .ref (ad 3)), (1, .int x1), (2, .int x2), (3, .int x3)]) (kx : ∀ {ls : Array Slot}, lv_has ls 4 [(0, .ref (ad 3)), (1, .int o), (2, .int x2)] → W p l e (rmL 4) s m args below meth c s.heap [] 0 0 (MQ below (vp_Si (fun z => z = out)) args s 0 0 (fun _ => False)) (F0 m 50 ls [])), W p l e (rmL 4) s m args below meth c s.heap [] 0 0 (MQ below (vp_Si (fun z => z = out)) args s 0 0 (fun _ => False)) (F0 m 19 ls []) := by
  intro n
  induction n with
  | zero => intro x1 x3 o h ls hl kx; exact nomatch (show none = some o from h)
  | succ n ih =>
    intro x1 x3 o h ls hl kx
    rw [B_X5_count_L19_s] at h
    refine lv_iload_n E.hx E.hb dX5_count_19 rfl (lv_at hl 3 rfl) ?_
    refine lv_aload_n E.hx E.hb dX5_count_20 rfl (lv_at hl 0 rfl) ?_
    refine gf_X5_9 E K0 P dX5_count_21 ?_
    refine gf_X5_44 E K0 P dX5_count_24 ?_
    refine lv_iconst (v := 1) E.hx E.hb dX5_count_27 (by decide) ?_
    refine lv_isub E.hx E.hb dX5_count_28 ?_
    refine lv_icmp_ge (tgt := 50) E.hx E.hb dX5_count_29 (by decide) (fun c_2 => ?_) (fun c_2 => ?_)
    · rw [if_pos c_2] at h
      cases h
      exact kx  (lv_sub hl [0, 1, 2] rfl)
    · rw [if_neg c_2] at h
      refine lv_aload_n E.hx E.hb dX5_count_32 rfl (lv_at hl 0 rfl) ?_
      refine lv_iload_n E.hx E.hb dX5_count_33 rfl (lv_at hl 3 rfl) ?_
      refine lv_iload_n E.hx E.hb dX5_count_34 rfl (lv_at hl 2 rfl) ?_
      obtain ⟨r_3, e_4, h⟩ := obind h
      refine iv_X5_25 E K0 P va_S.rf e_4 (by decide) hl.1 (Nat.le_of_ble_eq_true rfl) dX5_count_35 ?_
      refine lv_if_eq (tgt := 44) E.hx E.hb dX5_count_38 (by decide) (fun c_5 => ?_) (fun c_5 => ?_)
      · rw [if_pos c_5] at h
        refine lv_iinc (v := x3 + 1) (lv' := [(3, .int (x3 + 1)), (0, .ref (ad 3)), (1, .int x1), (2, .int x2)]) E.hx E.hb dX5_count_44 hl (k := 3) rfl rfl (by decide) rfl (fun ls hl => ?_)
        refine lv_goto (tgt := 19) E.hx E.hb dX5_count_47 (by decide) ?_
        exact ih  h (lv_sub hl [1, 2, 3, 0] rfl) kx
      · rw [if_neg c_5] at h
        refine lv_iinc (v := x1 + 1) (lv' := [(1, .int (x1 + 1)), (0, .ref (ad 3)), (2, .int x2), (3, .int x3)]) E.hx E.hb dX5_count_41 hl (k := 1) rfl rfl (by decide) rfl (fun ls hl => ?_)
        refine lv_iinc (v := x3 + 1) (lv' := [(3, .int (x3 + 1)), (1, .int (x1 + 1)), (0, .ref (ad 3)), (2, .int x2)]) E.hx E.hb dX5_count_44 hl (k := 3) rfl rfl (by decide) rfl (fun ls hl => ?_)
        refine lv_goto (tgt := 19) E.hx E.hb dX5_count_47 (by decide) ?_
        exact ih  h (lv_sub hl [2, 1, 3, 0] rfl) kx
def B_X5_count_L4 (I : Nat → Int32) (A : Nat → Nat → Int32)  : Nat → Int32 → Int32 → Option (Int32)
  | 0 => fun _ _ => none
  | n + 1 => fun x1 x2 => if ((I 6) - 1) ≤ x2 then some (x1) else ((B_X5_count_L19 I A x2 FU x1 0).bind fun q_6 => (B_X5_count_L4 I A n) q_6 (x2 + 1))
theorem B_X5_count_L4_s (I : Nat → Int32) (A : Nat → Nat → Int32) (x1 x2 : Int32) (n : Nat) : B_X5_count_L4 I A  (n + 1) x1 x2 = if ((I 6) - 1) ≤ x2 then some (x1) else ((B_X5_count_L19 I A x2 FU x1 0).bind fun q_6 => (B_X5_count_L4 I A n) q_6 (x2 + 1)) := rfl
set_option maxHeartbeats 4000000 in
set_option maxRecDepth 100000 in
theorem w_X5_count_L4 (E : EX p s m args meth c cX5_count 4 RX5 (some .int)) (K0 : KC D cyI ad s s.heap) (P : va_P D classes (cw cyI ad I A) s.heap) {out : Int32} : ∀ (n : Nat) {x1 x2 : Int32} {o : Int32} (h : B_X5_count_L4 I A  n x1 x2 = some o) {ls : Array Slot} (hl : lv_has ls 4 [(0, .ref (ad 3)), (1, .int x1), (2, .int x2)]) (kx : ∀ {ls : Array Slot}, lv_has ls 4 [(1, .int o)] → W p l e (rmL 4) s m args below meth c s.heap [] 0 0 (MQ below (vp_Si (fun z => z = out)) args s 0 0 (fun _ => False)) (F0 m 56 ls [])), W p l e (rmL 4) s m args below meth c s.heap [] 0 0 (MQ below (vp_Si (fun z => z = out)) args s 0 0 (fun _ => False)) (F0 m 4 ls []) := by
  intro n
  induction n with
  | zero => intro x1 x2 o h ls hl kx; exact nomatch (show none = some o from h)
  | succ n ih =>
    intro x1 x2 o h ls hl kx
    rw [B_X5_count_L4_s] at h
    refine lv_iload_n E.hx E.hb dX5_count_4 rfl (lv_at hl 2 rfl) ?_
    refine lv_aload_n E.hx E.hb dX5_count_5 rfl (lv_at hl 0 rfl) ?_
    refine gf_X5_9 E K0 P dX5_count_6 ?_
    refine gf_X5_40 E K0 P dX5_count_9 ?_
    refine lv_iconst (v := 1) E.hx E.hb dX5_count_12 (by decide) ?_
    refine lv_isub E.hx E.hb dX5_count_13 ?_
    refine lv_icmp_ge (tgt := 56) E.hx E.hb dX5_count_14 (by decide) (fun c_1 => ?_) (fun c_1 => ?_)
    · rw [if_pos c_1] at h
      cases h
      exact kx  (lv_sub hl [1] rfl)
    · rw [if_neg c_1] at h
      refine lv_iconst (v := 0) E.hx E.hb dX5_count_17 (by decide) ?_
      refine lv_istore_n (lv' := [(3, .int 0), (0, .ref (ad 3)), (1, .int x1), (2, .int x2)]) E.hx E.hb dX5_count_18 rfl hl (by decide) rfl (fun ls hl => ?_)
      obtain ⟨q_6, e_7, h⟩ := obind h
      refine w_X5_count_L19 E K0 P FU e_7 (lv_sub hl [1, 2, 3, 0] rfl) (fun {ls} hl => ?_)
      refine lv_iinc (v := x2 + 1) (lv' := [(2, .int (x2 + 1)), (0, .ref (ad 3)), (1, .int q_6)]) E.hx E.hb dX5_count_50 hl (k := 2) rfl rfl (by decide) rfl (fun ls hl => ?_)
      refine lv_goto (tgt := 4) E.hx E.hb dX5_count_53 (by decide) ?_
      exact ih  h (lv_sub hl [1, 2, 0] rfl) kx
def B_X5_count (I : Nat → Int32) (A : Nat → Nat → Int32)  : Option (Int32) := (B_X5_count_L4 I A  FU 0 0).bind fun q_8 => some q_8
set_option maxHeartbeats 4000000 in
set_option maxRecDepth 100000 in
theorem w_X5_count (E : EX p s m args meth c cX5_count 4 RX5 (some .int)) (K0 : KC D cyI ad s s.heap) (P : va_P D classes (cw cyI ad I A) s.heap)  {out : Int32} (h : B_X5_count I A  = some out) {ls : Array Slot} (hl : lv_has ls 4 [(0, .ref (ad 3))]) : W p l e (rmL 4) s m args below meth c s.heap [] 0 0 (MQ below (vp_Si (fun z => z = out)) args s 0 0 (fun _ => False)) (F0 m 0 ls []) := by
  unfold B_X5_count at h
  refine lv_iconst (v := 0) E.hx E.hb dX5_count_0 (by decide) ?_
  refine lv_istore_n (lv' := [(1, .int 0), (0, .ref (ad 3))]) E.hx E.hb dX5_count_1 rfl hl (by decide) rfl (fun ls hl => ?_)
  refine lv_iconst (v := 0) E.hx E.hb dX5_count_2 (by decide) ?_
  refine lv_istore_n (lv' := [(2, .int 0), (1, .int 0), (0, .ref (ad 3))]) E.hx E.hb dX5_count_3 rfl hl (by decide) rfl (fun ls hl => ?_)
  obtain ⟨q_8, e_9, h⟩ := obind h
  refine w_X5_count_L4 E K0 P FU e_9 (lv_sub hl [2, 1, 0] rfl) (fun {ls} hl => ?_)
  refine lv_iload_n E.hx E.hb dX5_count_56 rfl (lv_at hl 0 rfl) ?_
  exact W.iret E.hx E.hb E.hr (fun t ht _ => ⟨_, rfl, (Option.some.inj h), ht⟩) (fun q hq => nomatch hq) dX5_count_57 E.hk
theorem c_X5_count (l : Launch) {H : Heap} {D : va_G} {cyI : ClassId} {ad : Nat → Nat} {I : Nat → Int32} {A : Nat → Nat → Int32} (P : va_P D classes (cw cyI ad I A) H)  {out : Int32} (h : B_X5_count I A  = some out) : MRO l yX5_count cX5_count 4 (some .int) 4 [.ref (ad 3)] H (KC D cyI ad) out := by
  refine Mof (own := RX5) (by decide +kernel) rfl rfl ?_
  intro p e s m args below meth c ls E hH K0 hl
  subst hH
  exact w_X5_count E K0 P h hl
theorem ds_X5_count : Dsc yX5_count 0 := ⟨by decide +kernel, by decide +kernel, by decide +kernel⟩
end
section
variable {p : Program} {l : Launch} {e : Env} {R : Room} {s : State} {m : MethodId} {args : Array Value} {below : List Frame} {meth : Method} {c : Code} {H : Heap} {locs : List Loc} {cells slots : Nat} {Q : State → Prop} {cc : ByteArray} {nL pc : Nat} {ret : Option FieldType} {ls : Array Slot} {rest : List Value} {D : va_G} {cyI : ClassId} {ad : Nat → Nat} {I : Nat → Int32} {A : Nat → Nat → Int32}
theorem iv_X5_47 (E : EX p s m args meth c cc nL RX5 ret) (K0 : KC D cyI ad s s.heap) (S : va_S (InN 44 ad) s.heap H locs) {a0 a1 : Int32} (hR : RmOk R cells slots 0 2) (hls : ls.size = nL) (hro : (rest.map fun v => v.category).sum ≤ 8) (hdg : decode cc pc = .ok (.invokestatic 47, 3)) (kk : W p l e R s m args below meth c H locs cells slots Q (F0 m (pc + 3) ls (.int (B_X6_numberOf a0 a1) :: rest))) : W p l e R s m args below meth c H locs cells slots Q (F0 m pc ls (.int a1 :: .int a0 :: rest)) :=
  cn_ro E (c_X6_numberOf l (H := H) (D := D) (cyI := cyI) (ad := ad) a0 a1 ) (K0.nm _ (List.mem_of_getElem? (i := 7) rfl)) kST_X6_numberOf kIN_X6 kCO_X6_numberOf ds_X6_numberOf rfl KC_blind (fun U _ hW => (K0.at S).warm hW) hR hls rfl hro hdg kk
end
section
variable {p : Program} {l : Launch} {e : Env} {s : State} {m : MethodId} {args : Array Value} {below : List Frame} {meth : Method} {c : Code} {D : va_G} {cyI : ClassId} {ad : Nat → Nat} {I : Nat → Int32} {A : Nat → Nat → Int32}
def B_X5_find_L20 (I : Nat → Int32) (A : Nat → Nat → Int32) (x1 x3 : Int32) : Nat → Int32 → Int32 → Option ((Int32) ⊕ Int32)
  | 0 => fun _ _ => none
  | n + 1 => fun x2 x4 => if ((I 5) - 1) ≤ x4 then some (.inl x2) else ((B_X5_at I A x4 x3).bind fun r_3 => if r_3 = 0 then (B_X5_find_L20 I A x1 x3 n) x2 (x4 + 1) else (if x2 = x1 then some (.inr ((B_X6_numberOf x4 x3))) else (B_X5_find_L20 I A x1 x3 n) (x2 + 1) (x4 + 1)))
theorem B_X5_find_L20_s (I : Nat → Int32) (A : Nat → Nat → Int32) (x1 x3 x2 x4 : Int32) (n : Nat) : B_X5_find_L20 I A x1 x3 (n + 1) x2 x4 = if ((I 5) - 1) ≤ x4 then some (.inl x2) else ((B_X5_at I A x4 x3).bind fun r_3 => if r_3 = 0 then (B_X5_find_L20 I A x1 x3 n) x2 (x4 + 1) else (if x2 = x1 then some (.inr ((B_X6_numberOf x4 x3))) else (B_X5_find_L20 I A x1 x3 n) (x2 + 1) (x4 + 1))) := rfl
set_option maxHeartbeats 4000000 in
set_option maxRecDepth 100000 in
theorem w_X5_find_L20 (E : EX p s m args meth c cX5_find 5 RX5 (some .int)) (K0 : KC D cyI ad s s.heap) (P : va_P D classes (cw cyI ad I A) s.heap) {x1 x3 : Int32} {out : Int32} : ∀ (n : Nat) {x2 x4 : Int32} {o : (Int32) ⊕ Int32} (h : B_X5_find_L20 I A x1 x3 n x2 x4 = some o) {ls : Array Slot} (hl : lv_has ls 5 [(0, .ref (ad 3)), (1, .int x1), (2, .int x2), (3, .int x3), (4, .int x4)]) (kx : ∀ {q : Int32}, o = .inl q → ∀ {ls : Array Slot}, lv_has ls 5 [(0, .ref (ad 3)), (1, .int x1), (2, .int q), (3, .int x3)] → W p l e (rmL 4) s m args below meth c s.heap [] 0 0 (MQ below (vp_Si (fun z => z = out)) args s 0 0 (fun _ => False)) (F0 m 65 ls [])) (kr : ∀ r : Int32, o = .inr r → r = out), W p l e (rmL 4) s m args below meth c s.heap [] 0 0 (MQ below (vp_Si (fun z => z = out)) args s 0 0 (fun _ => False)) (F0 m 20 ls []) := by
  intro n
  induction n with
  | zero => intro x2 x4 o h ls hl kx kr; exact nomatch (show none = some o from h)
  | succ n ih =>
    intro x2 x4 o h ls hl kx kr
    rw [B_X5_find_L20_s] at h
    refine lv_iload E.hx E.hb dX5_find_20 (lv_at hl 4 rfl) ?_
    refine lv_aload_n E.hx E.hb dX5_find_22 rfl (lv_at hl 0 rfl) ?_
    refine gf_X5_9 E K0 P dX5_find_23 ?_
    refine gf_X5_44 E K0 P dX5_find_26 ?_
    refine lv_iconst (v := 1) E.hx E.hb dX5_find_29 (by decide) ?_
    refine lv_isub E.hx E.hb dX5_find_30 ?_
    refine lv_icmp_ge (tgt := 65) E.hx E.hb dX5_find_31 (by decide) (fun c_2 => ?_) (fun c_2 => ?_)
    · rw [if_pos c_2] at h
      cases h
      exact kx rfl  (lv_sub hl [0, 1, 2, 3] rfl)
    · rw [if_neg c_2] at h
      refine lv_aload_n E.hx E.hb dX5_find_34 rfl (lv_at hl 0 rfl) ?_
      refine lv_iload E.hx E.hb dX5_find_35 (lv_at hl 4 rfl) ?_
      refine lv_iload_n E.hx E.hb dX5_find_37 rfl (lv_at hl 3 rfl) ?_
      obtain ⟨r_3, e_4, h⟩ := obind h
      refine iv_X5_25 E K0 P va_S.rf e_4 (by decide) hl.1 (Nat.le_of_ble_eq_true rfl) dX5_find_38 ?_
      refine lv_if_eq (tgt := 59) E.hx E.hb dX5_find_41 (by decide) (fun c_5 => ?_) (fun c_5 => ?_)
      · rw [if_pos c_5] at h
        refine lv_iinc (v := x4 + 1) (lv' := [(4, .int (x4 + 1)), (0, .ref (ad 3)), (1, .int x1), (2, .int x2), (3, .int x3)]) E.hx E.hb dX5_find_59 hl (k := 4) rfl rfl (by decide) rfl (fun ls hl => ?_)
        refine lv_goto (tgt := 20) E.hx E.hb dX5_find_62 (by decide) ?_
        exact ih  h (lv_sub hl [1, 2, 3, 4, 0] rfl) kx kr
      · rw [if_neg c_5] at h
        refine lv_iload_n E.hx E.hb dX5_find_44 rfl (lv_at hl 2 rfl) ?_
        refine lv_iload_n E.hx E.hb dX5_find_45 rfl (lv_at hl 1 rfl) ?_
        refine lv_icmp_ne (tgt := 56) E.hx E.hb dX5_find_46 (by decide) (fun c_6 => ?_) (fun c_6 => ?_)
        · rw [if_neg c_6] at h
          refine lv_iinc (v := x2 + 1) (lv' := [(2, .int (x2 + 1)), (0, .ref (ad 3)), (1, .int x1), (3, .int x3), (4, .int x4)]) E.hx E.hb dX5_find_56 hl (k := 2) rfl rfl (by decide) rfl (fun ls hl => ?_)
          refine lv_iinc (v := x4 + 1) (lv' := [(4, .int (x4 + 1)), (2, .int (x2 + 1)), (0, .ref (ad 3)), (1, .int x1), (3, .int x3)]) E.hx E.hb dX5_find_59 hl (k := 4) rfl rfl (by decide) rfl (fun ls hl => ?_)
          refine lv_goto (tgt := 20) E.hx E.hb dX5_find_62 (by decide) ?_
          exact ih  h (lv_sub hl [2, 3, 1, 4, 0] rfl) kx kr
        · rw [if_pos c_6] at h
          refine lv_iload E.hx E.hb dX5_find_49 (lv_at hl 4 rfl) ?_
          refine lv_iload_n E.hx E.hb dX5_find_51 rfl (lv_at hl 3 rfl) ?_
          refine iv_X5_47 E K0 va_S.rf (by decide) hl.1 (Nat.le_of_ble_eq_true rfl) dX5_find_52 ?_
          exact W.iret E.hx E.hb E.hr (fun t ht _ => ⟨_, rfl, (kr _ (Option.some.inj h).symm), ht⟩) (fun q hq => nomatch hq) dX5_find_55 E.hk
def B_X5_find_L4 (I : Nat → Int32) (A : Nat → Nat → Int32) (x1 : Int32) : Nat → Int32 → Int32 → Option ((Unit) ⊕ Int32)
  | 0 => fun _ _ => none
  | n + 1 => fun x2 x3 => if ((I 6) - 1) ≤ x3 then some (.inl ()) else ((B_X5_find_L20 I A x1 x3 FU x2 0).bind fun q_7 => match q_7 with | .inr r => some (.inr r) | .inl q_7v => (B_X5_find_L4 I A x1 n) q_7v (x3 + 1))
theorem B_X5_find_L4_s (I : Nat → Int32) (A : Nat → Nat → Int32) (x1 x2 x3 : Int32) (n : Nat) : B_X5_find_L4 I A x1 (n + 1) x2 x3 = if ((I 6) - 1) ≤ x3 then some (.inl ()) else ((B_X5_find_L20 I A x1 x3 FU x2 0).bind fun q_7 => match q_7 with | .inr r => some (.inr r) | .inl q_7v => (B_X5_find_L4 I A x1 n) q_7v (x3 + 1)) := rfl
set_option maxHeartbeats 4000000 in
set_option maxRecDepth 100000 in
theorem w_X5_find_L4 (E : EX p s m args meth c cX5_find 5 RX5 (some .int)) (K0 : KC D cyI ad s s.heap) (P : va_P D classes (cw cyI ad I A) s.heap) {x1 : Int32} {out : Int32} : ∀ (n : Nat) {x2 x3 : Int32} {o : (Unit) ⊕ Int32} (h : B_X5_find_L4 I A x1 n x2 x3 = some o) {ls : Array Slot} (hl : lv_has ls 5 [(0, .ref (ad 3)), (1, .int x1), (2, .int x2), (3, .int x3)]) (kx : ∀ {q : Unit}, o = .inl q → ∀ {ls : Array Slot}, lv_has ls 5 [] → W p l e (rmL 4) s m args below meth c s.heap [] 0 0 (MQ below (vp_Si (fun z => z = out)) args s 0 0 (fun _ => False)) (F0 m 71 ls [])) (kr : ∀ r : Int32, o = .inr r → r = out), W p l e (rmL 4) s m args below meth c s.heap [] 0 0 (MQ below (vp_Si (fun z => z = out)) args s 0 0 (fun _ => False)) (F0 m 4 ls []) := by
  intro n
  induction n with
  | zero => intro x2 x3 o h ls hl kx kr; exact nomatch (show none = some o from h)
  | succ n ih =>
    intro x2 x3 o h ls hl kx kr
    rw [B_X5_find_L4_s] at h
    refine lv_iload_n E.hx E.hb dX5_find_4 rfl (lv_at hl 3 rfl) ?_
    refine lv_aload_n E.hx E.hb dX5_find_5 rfl (lv_at hl 0 rfl) ?_
    refine gf_X5_9 E K0 P dX5_find_6 ?_
    refine gf_X5_40 E K0 P dX5_find_9 ?_
    refine lv_iconst (v := 1) E.hx E.hb dX5_find_12 (by decide) ?_
    refine lv_isub E.hx E.hb dX5_find_13 ?_
    refine lv_icmp_ge (tgt := 71) E.hx E.hb dX5_find_14 (by decide) (fun c_1 => ?_) (fun c_1 => ?_)
    · rw [if_pos c_1] at h
      cases h
      exact kx rfl  (lv_sub hl [] rfl)
    · rw [if_neg c_1] at h
      refine lv_iconst (v := 0) E.hx E.hb dX5_find_17 (by decide) ?_
      refine lv_istore (lv' := [(4, .int 0), (0, .ref (ad 3)), (1, .int x1), (2, .int x2), (3, .int x3)]) E.hx E.hb dX5_find_18 hl (by decide) rfl (fun ls hl => ?_)
      obtain ⟨q_7, e_8, h⟩ := obind h
      refine w_X5_find_L20 E K0 P FU e_8 (lv_sub hl [1, 2, 3, 4, 0] rfl) (fun {q_7v} hq {ls} hl => ?_) (fun r hr => by subst hr; exact kr r (Option.some.inj h).symm)
      subst hq
      dsimp only at h
      refine lv_iinc (v := x3 + 1) (lv' := [(3, .int (x3 + 1)), (0, .ref (ad 3)), (1, .int x1), (2, .int q_7v)]) E.hx E.hb dX5_find_65 hl (k := 3) rfl rfl (by decide) rfl (fun ls hl => ?_)
      refine lv_goto (tgt := 4) E.hx E.hb dX5_find_68 (by decide) ?_
      exact ih  h (lv_sub hl [1, 2, 3, 0] rfl) kx kr
def B_X5_find (I : Nat → Int32) (A : Nat → Nat → Int32) (x1 : Int32) : Option (Int32) := (B_X5_find_L4 I A x1 FU 0 0).bind fun q_9 => match q_9 with | .inr r => some r | .inl q_9v => some ((-1))
set_option maxHeartbeats 4000000 in
set_option maxRecDepth 100000 in
theorem w_X5_find (E : EX p s m args meth c cX5_find 5 RX5 (some .int)) (K0 : KC D cyI ad s s.heap) (P : va_P D classes (cw cyI ad I A) s.heap)  {x1 : Int32} {out : Int32} (h : B_X5_find I A x1 = some out) {ls : Array Slot} (hl : lv_has ls 5 [(0, .ref (ad 3)), (1, .int x1)]) : W p l e (rmL 4) s m args below meth c s.heap [] 0 0 (MQ below (vp_Si (fun z => z = out)) args s 0 0 (fun _ => False)) (F0 m 0 ls []) := by
  unfold B_X5_find at h
  refine lv_iconst (v := 0) E.hx E.hb dX5_find_0 (by decide) ?_
  refine lv_istore_n (lv' := [(2, .int 0), (0, .ref (ad 3)), (1, .int x1)]) E.hx E.hb dX5_find_1 rfl hl (by decide) rfl (fun ls hl => ?_)
  refine lv_iconst (v := 0) E.hx E.hb dX5_find_2 (by decide) ?_
  refine lv_istore_n (lv' := [(3, .int 0), (2, .int 0), (0, .ref (ad 3)), (1, .int x1)]) E.hx E.hb dX5_find_3 rfl hl (by decide) rfl (fun ls hl => ?_)
  obtain ⟨q_9, e_10, h⟩ := obind h
  refine w_X5_find_L4 E K0 P FU e_10 (lv_sub hl [2, 3, 1, 0] rfl) (fun {q_9v} hq {ls} hl => ?_) (fun r hr => by subst hr; exact Option.some.inj h)
  subst hq
  dsimp only at h
  refine lv_iconst (v := (-1)) E.hx E.hb dX5_find_71 (by decide) ?_
  exact W.iret E.hx E.hb E.hr (fun t ht _ => ⟨_, rfl, (Option.some.inj h), ht⟩) (fun q hq => nomatch hq) dX5_find_72 E.hk
theorem c_X5_find (l : Launch) {H : Heap} {D : va_G} {cyI : ClassId} {ad : Nat → Nat} {I : Nat → Int32} {A : Nat → Nat → Int32} (P : va_P D classes (cw cyI ad I A) H) (x1 : Int32) {out : Int32} (h : B_X5_find I A x1 = some out) : MRO l yX5_find cX5_find 5 (some .int) 4 [.ref (ad 3), .int x1] H (KC D cyI ad) out := by
  refine Mof (own := RX5) (by decide +kernel) rfl rfl ?_
  intro p e s m args below meth c ls E hH K0 hl
  subst hH
  exact w_X5_find E K0 P h hl
theorem ds_X5_find : Dsc yX5_find 1 := ⟨by decide +kernel, by decide +kernel, by decide +kernel⟩
end
section
variable {p : Program} {l : Launch} {e : Env} {R : Room} {s : State} {m : MethodId} {args : Array Value} {below : List Frame} {meth : Method} {c : Code} {H : Heap} {locs : List Loc} {cells slots : Nat} {Q : State → Prop} {cc : ByteArray} {nL pc : Nat} {ret : Option FieldType} {ls : Array Slot} {rest : List Value} {D : va_G} {cyI : ClassId} {ad : Nat → Nat} {I : Nat → Int32} {A : Nat → Nat → Int32}
theorem iv_X5_54 (E : EX p s m args meth c cc nL RX5 ret) (K0 : KC D cyI ad s s.heap) (P : va_P D classes (cw cyI ad I A) H) (S : va_S (InN 44 ad) s.heap H locs) {a0 a1 : Int32} (hR : RmOk R cells slots 1 3) (hls : ls.size = nL) (hro : (rest.map fun v => v.category).sum ≤ 8) (hdg : decode cc pc = .ok (.invokevirtual 54, 3)) (kk : W p l e R s m args below meth c H locs cells slots Q (F0 m (pc + 3) ls (.int (B_X1_pixelAt I A a0 a1) :: rest))) : W p l e R s m args below meth c H locs cells slots Q (F0 m pc ls (.int a1 :: .int a0 :: .ref (ad 2) :: rest)) :=
  cv_ro E (c_X1_pixelAt l P a0 a1 ) (gV kML_X5_54 kIM_X1_pixelAt kSE_X1_pixelAt kIN_X1 kCO_X1_pixelAt) rfl ds_X1_pixelAt rfl KC_blind (fun U _ hW => (K0.at S).warm hW) (va_recv K0.k P (show classes[1]? = some (RX1, TX1, 11) from rfl) cw_g2) hR hls rfl hro hdg kk
end
section
variable {p : Program} {l : Launch} {e : Env} {s : State} {m : MethodId} {args : Array Value} {below : List Frame} {meth : Method} {c : Code} {D : va_G} {cyI : ClassId} {ad : Nat → Nat} {I : Nat → Int32} {A : Nat → Nat → Int32}
def B_X5_touches (I : Nat → Int32) (A : Nat → Nat → Int32) (x1 x2 x3 : Int32) : Int32 := if (B_X1_pixelAt I A x1 x2) = x3 then 1 else (if (B_X1_pixelAt I A ((x1 + 1)) x2) = x3 then 1 else (if (B_X1_pixelAt I A x1 ((x2 + 1))) = x3 then 1 else (if (B_X1_pixelAt I A ((x1 + 1)) ((x2 + 1))) = x3 then 1 else 0)))
set_option maxHeartbeats 4000000 in
set_option maxRecDepth 100000 in
theorem w_X5_touches (E : EX p s m args meth c cX5_touches 4 RX5 (some .boolean)) (K0 : KC D cyI ad s s.heap) (P : va_P D classes (cw cyI ad I A) s.heap)  {x1 x2 x3 : Int32} {out : Int32} (h : B_X5_touches I A x1 x2 x3 = out) {ls : Array Slot} (hl : lv_has ls 4 [(0, .ref (ad 3)), (1, .int x1), (2, .int x2), (3, .int x3)]) : W p l e (rmL 2) s m args below meth c s.heap [] 0 0 (MQ below (vp_Si (fun z => z = out)) args s 0 0 (fun _ => False)) (F0 m 0 ls []) := by
  unfold B_X5_touches at h
  refine lv_aload_n E.hx E.hb dX5_touches_0 rfl (lv_at hl 0 rfl) ?_
  refine gf_X5_9 E K0 P dX5_touches_1 ?_
  refine lv_iload_n E.hx E.hb dX5_touches_4 rfl (lv_at hl 1 rfl) ?_
  refine lv_iload_n E.hx E.hb dX5_touches_5 rfl (lv_at hl 2 rfl) ?_
  refine iv_X5_54 E K0 P va_S.rf (by decide) hl.1 (Nat.le_of_ble_eq_true rfl) dX5_touches_6 ?_
  refine lv_iload_n E.hx E.hb dX5_touches_9 rfl (lv_at hl 3 rfl) ?_
  refine lv_icmp_eq (tgt := 60) E.hx E.hb dX5_touches_10 (by decide) (fun c_1 => ?_) (fun c_1 => ?_)
  · rw [if_pos c_1] at h
    refine lv_iconst (v := 1) E.hx E.hb dX5_touches_60 (by decide) ?_
    refine lv_goto (tgt := 65) E.hx E.hb dX5_touches_61 (by decide) ?_
    exact W.zret E.hx E.hb E.hr rfl (fun t ht _ => ⟨_, rfl, h, ht⟩) (fun q hq => nomatch hq) dX5_touches_65 E.hk
  · rw [if_neg c_1] at h
    refine lv_aload_n E.hx E.hb dX5_touches_13 rfl (lv_at hl 0 rfl) ?_
    refine gf_X5_9 E K0 P dX5_touches_14 ?_
    refine lv_iload_n E.hx E.hb dX5_touches_17 rfl (lv_at hl 1 rfl) ?_
    refine lv_iconst (v := 1) E.hx E.hb dX5_touches_18 (by decide) ?_
    refine lv_iadd E.hx E.hb dX5_touches_19 ?_
    refine lv_iload_n E.hx E.hb dX5_touches_20 rfl (lv_at hl 2 rfl) ?_
    refine iv_X5_54 E K0 P va_S.rf (by decide) hl.1 (Nat.le_of_ble_eq_true rfl) dX5_touches_21 ?_
    refine lv_iload_n E.hx E.hb dX5_touches_24 rfl (lv_at hl 3 rfl) ?_
    refine lv_icmp_eq (tgt := 60) E.hx E.hb dX5_touches_25 (by decide) (fun c_2 => ?_) (fun c_2 => ?_)
    · rw [if_pos c_2] at h
      refine lv_iconst (v := 1) E.hx E.hb dX5_touches_60 (by decide) ?_
      refine lv_goto (tgt := 65) E.hx E.hb dX5_touches_61 (by decide) ?_
      exact W.zret E.hx E.hb E.hr rfl (fun t ht _ => ⟨_, rfl, h, ht⟩) (fun q hq => nomatch hq) dX5_touches_65 E.hk
    · rw [if_neg c_2] at h
      refine lv_aload_n E.hx E.hb dX5_touches_28 rfl (lv_at hl 0 rfl) ?_
      refine gf_X5_9 E K0 P dX5_touches_29 ?_
      refine lv_iload_n E.hx E.hb dX5_touches_32 rfl (lv_at hl 1 rfl) ?_
      refine lv_iload_n E.hx E.hb dX5_touches_33 rfl (lv_at hl 2 rfl) ?_
      refine lv_iconst (v := 1) E.hx E.hb dX5_touches_34 (by decide) ?_
      refine lv_iadd E.hx E.hb dX5_touches_35 ?_
      refine iv_X5_54 E K0 P va_S.rf (by decide) hl.1 (Nat.le_of_ble_eq_true rfl) dX5_touches_36 ?_
      refine lv_iload_n E.hx E.hb dX5_touches_39 rfl (lv_at hl 3 rfl) ?_
      refine lv_icmp_eq (tgt := 60) E.hx E.hb dX5_touches_40 (by decide) (fun c_3 => ?_) (fun c_3 => ?_)
      · rw [if_pos c_3] at h
        refine lv_iconst (v := 1) E.hx E.hb dX5_touches_60 (by decide) ?_
        refine lv_goto (tgt := 65) E.hx E.hb dX5_touches_61 (by decide) ?_
        exact W.zret E.hx E.hb E.hr rfl (fun t ht _ => ⟨_, rfl, h, ht⟩) (fun q hq => nomatch hq) dX5_touches_65 E.hk
      · rw [if_neg c_3] at h
        refine lv_aload_n E.hx E.hb dX5_touches_43 rfl (lv_at hl 0 rfl) ?_
        refine gf_X5_9 E K0 P dX5_touches_44 ?_
        refine lv_iload_n E.hx E.hb dX5_touches_47 rfl (lv_at hl 1 rfl) ?_
        refine lv_iconst (v := 1) E.hx E.hb dX5_touches_48 (by decide) ?_
        refine lv_iadd E.hx E.hb dX5_touches_49 ?_
        refine lv_iload_n E.hx E.hb dX5_touches_50 rfl (lv_at hl 2 rfl) ?_
        refine lv_iconst (v := 1) E.hx E.hb dX5_touches_51 (by decide) ?_
        refine lv_iadd E.hx E.hb dX5_touches_52 ?_
        refine iv_X5_54 E K0 P va_S.rf (by decide) hl.1 (Nat.le_of_ble_eq_true rfl) dX5_touches_53 ?_
        refine lv_iload_n E.hx E.hb dX5_touches_56 rfl (lv_at hl 3 rfl) ?_
        refine lv_icmp_ne (tgt := 64) E.hx E.hb dX5_touches_57 (by decide) (fun c_4 => ?_) (fun c_4 => ?_)
        · rw [if_neg c_4] at h
          refine lv_iconst (v := 0) E.hx E.hb dX5_touches_64 (by decide) ?_
          exact W.zret E.hx E.hb E.hr rfl (fun t ht _ => ⟨_, rfl, h, ht⟩) (fun q hq => nomatch hq) dX5_touches_65 E.hk
        · rw [if_pos c_4] at h
          refine lv_iconst (v := 1) E.hx E.hb dX5_touches_60 (by decide) ?_
          refine lv_goto (tgt := 65) E.hx E.hb dX5_touches_61 (by decide) ?_
          exact W.zret E.hx E.hb E.hr rfl (fun t ht _ => ⟨_, rfl, h, ht⟩) (fun q hq => nomatch hq) dX5_touches_65 E.hk
theorem c_X5_touches (l : Launch) {H : Heap} {D : va_G} {cyI : ClassId} {ad : Nat → Nat} {I : Nat → Int32} {A : Nat → Nat → Int32} (P : va_P D classes (cw cyI ad I A) H) (x1 x2 x3 : Int32) : MRO l yX5_touches cX5_touches 4 (some .boolean) 2 [.ref (ad 3), .int x1, .int x2, .int x3] H (KC D cyI ad) (B_X5_touches I A x1 x2 x3) := by
  refine Mof (own := RX5) (by decide +kernel) rfl rfl ?_
  intro p e s m args below meth c ls E hH K0 hl
  subst hH
  exact w_X5_touches E K0 P rfl hl
theorem ds_X5_touches : Dsc yX5_touches 3 := ⟨by decide +kernel, by decide +kernel, by decide +kernel⟩
end
section
variable {p : Program} {l : Launch} {e : Env} {R : Room} {s : State} {m : MethodId} {args : Array Value} {below : List Frame} {meth : Method} {c : Code} {H : Heap} {locs : List Loc} {cells slots : Nat} {Q : State → Prop} {cc : ByteArray} {nL pc : Nat} {ret : Option FieldType} {ls : Array Slot} {rest : List Value} {D : va_G} {cyI : ClassId} {ad : Nat → Nat} {I : Nat → Int32} {A : Nat → Nat → Int32}
theorem iv_X5_50 (E : EX p s m args meth c cc nL RX5 ret) (K0 : KC D cyI ad s s.heap) (P : va_P D classes (cw cyI ad I A) H) (S : va_S (InN 44 ad) s.heap H locs) {a0 a1 a2 : Int32} (hR : RmOk R cells slots 2 4) (hls : ls.size = nL) (hro : (rest.map fun v => v.category).sum ≤ 8) (hdg : decode cc pc = .ok (.invokevirtual 50, 3)) (kk : W p l e R s m args below meth c H locs cells slots Q (F0 m (pc + 3) ls (.int (B_X5_touches I A a0 a1 a2) :: rest))) : W p l e R s m args below meth c H locs cells slots Q (F0 m pc ls (.int a2 :: .int a1 :: .int a0 :: .ref (ad 3) :: rest)) :=
  cv_ro E (c_X5_touches l P a0 a1 a2 ) (gV kML_X5_50 kIM_X5_touches kSE_X5_touches kIN_X5 kCO_X5_touches) rfl ds_X5_touches rfl KC_blind (fun U _ hW => (K0.at S).warm hW) (va_recv K0.k P (show classes[5]? = some (RX5, TX5, 1) from rfl) cw_g3) hR hls rfl hro hdg kk
end
section
variable {p : Program} {l : Launch} {e : Env} {s : State} {m : MethodId} {args : Array Value} {below : List Frame} {meth : Method} {c : Code} {D : va_G} {cyI : ClassId} {ad : Nat → Nat} {I : Nat → Int32} {A : Nat → Nat → Int32}
def B_X5_isGood_L17 (I : Nat → Int32) (A : Nat → Nat → Int32) (x1 x2 : Int32) : Nat → Int32 → Option ((Unit) ⊕ Int32)
  | 0 => fun _ => none
  | n + 1 => fun x3 => if ((I 5) - 1) ≤ x3 then some (.inl ()) else (if (B_X5_touches I A x3 x2 x1) = 0 then (B_X5_isGood_L17 I A x1 x2 n) (x3 + 1) else ((B_X5_at I A x3 x2).bind fun r_4 => if r_4 = 0 then (B_X5_isGood_L17 I A x1 x2 n) (x3 + 1) else some (.inr 0)))
theorem B_X5_isGood_L17_s (I : Nat → Int32) (A : Nat → Nat → Int32) (x1 x2 x3 : Int32) (n : Nat) : B_X5_isGood_L17 I A x1 x2 (n + 1) x3 = if ((I 5) - 1) ≤ x3 then some (.inl ()) else (if (B_X5_touches I A x3 x2 x1) = 0 then (B_X5_isGood_L17 I A x1 x2 n) (x3 + 1) else ((B_X5_at I A x3 x2).bind fun r_4 => if r_4 = 0 then (B_X5_isGood_L17 I A x1 x2 n) (x3 + 1) else some (.inr 0))) := rfl
set_option maxHeartbeats 4000000 in
set_option maxRecDepth 100000 in
theorem w_X5_isGood_L17 (E : EX p s m args meth c cX5_isGood 4 RX5 (some .boolean)) (K0 : KC D cyI ad s s.heap) (P : va_P D classes (cw cyI ad I A) s.heap) {x1 x2 : Int32} {out : Int32} : ∀ (n : Nat) {x3 : Int32} {o : (Unit) ⊕ Int32} (h : B_X5_isGood_L17 I A x1 x2 n x3 = some o) {ls : Array Slot} (hl : lv_has ls 4 [(0, .ref (ad 3)), (1, .int x1), (2, .int x2), (3, .int x3)]) (kx : ∀ {q : Unit}, o = .inl q → ∀ {ls : Array Slot}, lv_has ls 4 [(0, .ref (ad 3)), (1, .int x1), (2, .int x2)] → W p l e (rmL 4) s m args below meth c s.heap [] 0 0 (MQ below (vp_Si (fun z => z = out)) args s 0 0 (fun _ => False)) (F0 m 57 ls [])) (kr : ∀ r : Int32, o = .inr r → r = out), W p l e (rmL 4) s m args below meth c s.heap [] 0 0 (MQ below (vp_Si (fun z => z = out)) args s 0 0 (fun _ => False)) (F0 m 17 ls []) := by
  intro n
  induction n with
  | zero => intro x3 o h ls hl kx kr; exact nomatch (show none = some o from h)
  | succ n ih =>
    intro x3 o h ls hl kx kr
    rw [B_X5_isGood_L17_s] at h
    refine lv_iload_n E.hx E.hb dX5_isGood_17 rfl (lv_at hl 3 rfl) ?_
    refine lv_aload_n E.hx E.hb dX5_isGood_18 rfl (lv_at hl 0 rfl) ?_
    refine gf_X5_9 E K0 P dX5_isGood_19 ?_
    refine gf_X5_44 E K0 P dX5_isGood_22 ?_
    refine lv_iconst (v := 1) E.hx E.hb dX5_isGood_25 (by decide) ?_
    refine lv_isub E.hx E.hb dX5_isGood_26 ?_
    refine lv_icmp_ge (tgt := 57) E.hx E.hb dX5_isGood_27 (by decide) (fun c_2 => ?_) (fun c_2 => ?_)
    · rw [if_pos c_2] at h
      cases h
      exact kx rfl  (lv_sub hl [0, 1, 2] rfl)
    · rw [if_neg c_2] at h
      refine lv_aload_n E.hx E.hb dX5_isGood_30 rfl (lv_at hl 0 rfl) ?_
      refine lv_iload_n E.hx E.hb dX5_isGood_31 rfl (lv_at hl 3 rfl) ?_
      refine lv_iload_n E.hx E.hb dX5_isGood_32 rfl (lv_at hl 2 rfl) ?_
      refine lv_iload_n E.hx E.hb dX5_isGood_33 rfl (lv_at hl 1 rfl) ?_
      refine iv_X5_50 E K0 P va_S.rf (by decide) hl.1 (Nat.le_of_ble_eq_true rfl) dX5_isGood_34 ?_
      refine lv_if_eq (tgt := 51) E.hx E.hb dX5_isGood_37 (by decide) (fun c_3 => ?_) (fun c_3 => ?_)
      · rw [if_pos c_3] at h
        refine lv_iinc (v := x3 + 1) (lv' := [(3, .int (x3 + 1)), (0, .ref (ad 3)), (1, .int x1), (2, .int x2)]) E.hx E.hb dX5_isGood_51 hl (k := 3) rfl rfl (by decide) rfl (fun ls hl => ?_)
        refine lv_goto (tgt := 17) E.hx E.hb dX5_isGood_54 (by decide) ?_
        exact ih  h (lv_sub hl [1, 2, 3, 0] rfl) kx kr
      · rw [if_neg c_3] at h
        refine lv_aload_n E.hx E.hb dX5_isGood_40 rfl (lv_at hl 0 rfl) ?_
        refine lv_iload_n E.hx E.hb dX5_isGood_41 rfl (lv_at hl 3 rfl) ?_
        refine lv_iload_n E.hx E.hb dX5_isGood_42 rfl (lv_at hl 2 rfl) ?_
        obtain ⟨r_4, e_5, h⟩ := obind h
        refine iv_X5_25 E K0 P va_S.rf e_5 (by decide) hl.1 (Nat.le_of_ble_eq_true rfl) dX5_isGood_43 ?_
        refine lv_if_eq (tgt := 51) E.hx E.hb dX5_isGood_46 (by decide) (fun c_6 => ?_) (fun c_6 => ?_)
        · rw [if_pos c_6] at h
          refine lv_iinc (v := x3 + 1) (lv' := [(3, .int (x3 + 1)), (0, .ref (ad 3)), (1, .int x1), (2, .int x2)]) E.hx E.hb dX5_isGood_51 hl (k := 3) rfl rfl (by decide) rfl (fun ls hl => ?_)
          refine lv_goto (tgt := 17) E.hx E.hb dX5_isGood_54 (by decide) ?_
          exact ih  h (lv_sub hl [1, 2, 3, 0] rfl) kx kr
        · rw [if_neg c_6] at h
          refine lv_iconst (v := 0) E.hx E.hb dX5_isGood_49 (by decide) ?_
          exact W.zret E.hx E.hb E.hr rfl (fun t ht _ => ⟨_, rfl, (kr _ (Option.some.inj h).symm), ht⟩) (fun q hq => nomatch hq) dX5_isGood_50 E.hk
def B_X5_isGood_L2 (I : Nat → Int32) (A : Nat → Nat → Int32) (x1 : Int32) : Nat → Int32 → Option ((Unit) ⊕ Int32)
  | 0 => fun _ => none
  | n + 1 => fun x2 => if ((I 6) - 1) ≤ x2 then some (.inl ()) else ((B_X5_isGood_L17 I A x1 x2 FU 0).bind fun q_7 => match q_7 with | .inr r => some (.inr r) | .inl q_7v => (B_X5_isGood_L2 I A x1 n) (x2 + 1))
theorem B_X5_isGood_L2_s (I : Nat → Int32) (A : Nat → Nat → Int32) (x1 x2 : Int32) (n : Nat) : B_X5_isGood_L2 I A x1 (n + 1) x2 = if ((I 6) - 1) ≤ x2 then some (.inl ()) else ((B_X5_isGood_L17 I A x1 x2 FU 0).bind fun q_7 => match q_7 with | .inr r => some (.inr r) | .inl q_7v => (B_X5_isGood_L2 I A x1 n) (x2 + 1)) := rfl
set_option maxHeartbeats 4000000 in
set_option maxRecDepth 100000 in
theorem w_X5_isGood_L2 (E : EX p s m args meth c cX5_isGood 4 RX5 (some .boolean)) (K0 : KC D cyI ad s s.heap) (P : va_P D classes (cw cyI ad I A) s.heap) {x1 : Int32} {out : Int32} : ∀ (n : Nat) {x2 : Int32} {o : (Unit) ⊕ Int32} (h : B_X5_isGood_L2 I A x1 n x2 = some o) {ls : Array Slot} (hl : lv_has ls 4 [(0, .ref (ad 3)), (1, .int x1), (2, .int x2)]) (kx : ∀ {q : Unit}, o = .inl q → ∀ {ls : Array Slot}, lv_has ls 4 [] → W p l e (rmL 4) s m args below meth c s.heap [] 0 0 (MQ below (vp_Si (fun z => z = out)) args s 0 0 (fun _ => False)) (F0 m 63 ls [])) (kr : ∀ r : Int32, o = .inr r → r = out), W p l e (rmL 4) s m args below meth c s.heap [] 0 0 (MQ below (vp_Si (fun z => z = out)) args s 0 0 (fun _ => False)) (F0 m 2 ls []) := by
  intro n
  induction n with
  | zero => intro x2 o h ls hl kx kr; exact nomatch (show none = some o from h)
  | succ n ih =>
    intro x2 o h ls hl kx kr
    rw [B_X5_isGood_L2_s] at h
    refine lv_iload_n E.hx E.hb dX5_isGood_2 rfl (lv_at hl 2 rfl) ?_
    refine lv_aload_n E.hx E.hb dX5_isGood_3 rfl (lv_at hl 0 rfl) ?_
    refine gf_X5_9 E K0 P dX5_isGood_4 ?_
    refine gf_X5_40 E K0 P dX5_isGood_7 ?_
    refine lv_iconst (v := 1) E.hx E.hb dX5_isGood_10 (by decide) ?_
    refine lv_isub E.hx E.hb dX5_isGood_11 ?_
    refine lv_icmp_ge (tgt := 63) E.hx E.hb dX5_isGood_12 (by decide) (fun c_1 => ?_) (fun c_1 => ?_)
    · rw [if_pos c_1] at h
      cases h
      exact kx rfl  (lv_sub hl [] rfl)
    · rw [if_neg c_1] at h
      refine lv_iconst (v := 0) E.hx E.hb dX5_isGood_15 (by decide) ?_
      refine lv_istore_n (lv' := [(3, .int 0), (0, .ref (ad 3)), (1, .int x1), (2, .int x2)]) E.hx E.hb dX5_isGood_16 rfl hl (by decide) rfl (fun ls hl => ?_)
      obtain ⟨q_7, e_8, h⟩ := obind h
      refine w_X5_isGood_L17 E K0 P FU e_8 (lv_sub hl [1, 2, 3, 0] rfl) (fun {q_7v} hq {ls} hl => ?_) (fun r hr => by subst hr; exact kr r (Option.some.inj h).symm)
      subst hq
      dsimp only at h
      refine lv_iinc (v := x2 + 1) (lv' := [(2, .int (x2 + 1)), (0, .ref (ad 3)), (1, .int x1)]) E.hx E.hb dX5_isGood_57 hl (k := 2) rfl rfl (by decide) rfl (fun ls hl => ?_)
      refine lv_goto (tgt := 2) E.hx E.hb dX5_isGood_60 (by decide) ?_
      exact ih  h (lv_sub hl [1, 2, 0] rfl) kx kr
def B_X5_isGood (I : Nat → Int32) (A : Nat → Nat → Int32) (x1 : Int32) : Option (Int32) := (B_X5_isGood_L2 I A x1 FU 0).bind fun q_9 => match q_9 with | .inr r => some r | .inl q_9v => some 1
set_option maxHeartbeats 4000000 in
set_option maxRecDepth 100000 in
theorem w_X5_isGood (E : EX p s m args meth c cX5_isGood 4 RX5 (some .boolean)) (K0 : KC D cyI ad s s.heap) (P : va_P D classes (cw cyI ad I A) s.heap)  {x1 : Int32} {out : Int32} (h : B_X5_isGood I A x1 = some out) {ls : Array Slot} (hl : lv_has ls 4 [(0, .ref (ad 3)), (1, .int x1)]) : W p l e (rmL 4) s m args below meth c s.heap [] 0 0 (MQ below (vp_Si (fun z => z = out)) args s 0 0 (fun _ => False)) (F0 m 0 ls []) := by
  unfold B_X5_isGood at h
  refine lv_iconst (v := 0) E.hx E.hb dX5_isGood_0 (by decide) ?_
  refine lv_istore_n (lv' := [(2, .int 0), (0, .ref (ad 3)), (1, .int x1)]) E.hx E.hb dX5_isGood_1 rfl hl (by decide) rfl (fun ls hl => ?_)
  obtain ⟨q_9, e_10, h⟩ := obind h
  refine w_X5_isGood_L2 E K0 P FU e_10 (lv_sub hl [1, 2, 0] rfl) (fun {q_9v} hq {ls} hl => ?_) (fun r hr => by subst hr; exact Option.some.inj h)
  subst hq
  dsimp only at h
  refine lv_iconst (v := 1) E.hx E.hb dX5_isGood_63 (by decide) ?_
  exact W.zret E.hx E.hb E.hr rfl (fun t ht _ => ⟨_, rfl, (Option.some.inj h), ht⟩) (fun q hq => nomatch hq) dX5_isGood_64 E.hk
theorem c_X5_isGood (l : Launch) {H : Heap} {D : va_G} {cyI : ClassId} {ad : Nat → Nat} {I : Nat → Int32} {A : Nat → Nat → Int32} (P : va_P D classes (cw cyI ad I A) H) (x1 : Int32) {out : Int32} (h : B_X5_isGood I A x1 = some out) : MRO l yX5_isGood cX5_isGood 4 (some .boolean) 4 [.ref (ad 3), .int x1] H (KC D cyI ad) out := by
  refine Mof (own := RX5) (by decide +kernel) rfl rfl ?_
  intro p e s m args below meth c ls E hH K0 hl
  subst hH
  exact w_X5_isGood E K0 P h hl
theorem ds_X5_isGood : Dsc yX5_isGood 1 := ⟨by decide +kernel, by decide +kernel, by decide +kernel⟩
end
end WALK

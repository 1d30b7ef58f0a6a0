section WALK
section
variable {p : Program} {l : Launch} {e : Env} {s : State} {m : MethodId} {args : Array Value} {below : List Frame} {meth : Method} {c : Code} {D : va_G} {cyI : ClassId} {ad : Nat → Nat}
def B_X6_isIn  (x0 x1 x2 : Int32) : Int32 := if x0 < x1 then 0 else (if x2 < x0 then 0 else 1)
theorem nb_B_X6_isIn  {x0 x1 x2 : Int32} : narrow .boolean (.int (B_X6_isIn  x0 x1 x2)) = .int (B_X6_isIn  x0 x1 x2) := by
  unfold B_X6_isIn
  (repeat' split) <;> rfl
set_option maxHeartbeats 4000000 in
set_option maxRecDepth 100000 in
theorem w_X6_isIn (E : EX p s m args meth c cX6_isIn 3 RX6 (some .boolean)) (K0 : KC D cyI ad s s.heap)  {x0 x1 x2 : Int32} {out : Int32} (h : B_X6_isIn  x0 x1 x2 = out) {ls : Array Slot} (hl : lv_has ls 3 [(0, .int x0), (1, .int x1), (2, .int x2)]) : W p l e (rmL 0) s m args below meth c s.heap [] 0 0 (MQ below (vp_Si (fun z => z = out)) args s 0 0 (fun _ => False)) (F0 m 0 ls []) := by
  unfold B_X6_isIn at h
  refine lv_iload_n E.hx E.hb dX6_isIn_0 rfl (lv_at hl 0 rfl) ?_
  refine lv_iload_n E.hx E.hb dX6_isIn_1 rfl (lv_at hl 1 rfl) ?_
  refine lv_icmp_lt (tgt := 14) E.hx E.hb dX6_isIn_2 (by decide) (fun c_1 => ?_) (fun c_1 => ?_)
  · rw [if_pos c_1] at h
    refine lv_iconst (v := 0) E.hx E.hb dX6_isIn_14 (by decide) ?_
    exact W.zret E.hx E.hb E.hr rfl (fun t ht _ => ⟨_, rfl, h, ht⟩) (fun q hq => nomatch hq) dX6_isIn_15 E.hk
  · rw [if_neg c_1] at h
    refine lv_iload_n E.hx E.hb dX6_isIn_5 rfl (lv_at hl 0 rfl) ?_
    refine lv_iload_n E.hx E.hb dX6_isIn_6 rfl (lv_at hl 2 rfl) ?_
    refine lv_icmp_gt (tgt := 14) E.hx E.hb dX6_isIn_7 (by decide) (fun c_2 => ?_) (fun c_2 => ?_)
    · rw [if_pos c_2] at h
      refine lv_iconst (v := 0) E.hx E.hb dX6_isIn_14 (by decide) ?_
      exact W.zret E.hx E.hb E.hr rfl (fun t ht _ => ⟨_, rfl, h, ht⟩) (fun q hq => nomatch hq) dX6_isIn_15 E.hk
    · rw [if_neg c_2] at h
      refine lv_iconst (v := 1) E.hx E.hb dX6_isIn_10 (by decide) ?_
      refine lv_goto (tgt := 15) E.hx E.hb dX6_isIn_11 (by decide) ?_
      exact W.zret E.hx E.hb E.hr rfl (fun t ht _ => ⟨_, rfl, h, ht⟩) (fun q hq => nomatch hq) dX6_isIn_15 E.hk
theorem c_X6_isIn (l : Launch) {H : Heap} {D : va_G} {cyI : ClassId} {ad : Nat → Nat} (x0 x1 x2 : Int32) : MRO l yX6_isIn cX6_isIn 3 (some .boolean) 0 [.int x0, .int x1, .int x2] H (KC D cyI ad) (B_X6_isIn  x0 x1 x2) := by
  refine Mof (own := RX6) (by decide +kernel) rfl rfl ?_
  intro p e s m args below meth c ls E hH K0 hl
  subst hH
  exact w_X6_isIn E K0  rfl hl
theorem ds_X6_isIn : Dsc yX6_isIn 3 := ⟨by decide +kernel, by decide +kernel, by decide +kernel⟩
end
section
variable {p : Program} {l : Launch} {e : Env} {R : Room} {s : State} {m : MethodId} {args : Array Value} {below : List Frame} {meth : Method} {c : Code} {H : Heap} {locs : List Loc} {cells slots : Nat} {Q : State → Prop} {cc : ByteArray} {nL pc : Nat} {ret : Option FieldType} {ls : Array Slot} {rest : List Value} {D : va_G} {cyI : ClassId} {ad : Nat → Nat} {I : Nat → Int32} {A : Nat → Nat → Int32}
theorem iv_X6_56 (E : EX p s m args meth c cc nL RX6 ret) (K0 : KC D cyI ad s s.heap) (S : va_S (InN 44 ad) s.heap H locs) {a0 a1 a2 : Int32} (hR : RmOk R cells slots 0 3) (hls : ls.size = nL) (hro : (rest.map fun v => v.category).sum ≤ 8) (hdg : decode cc pc = .ok (.invokestatic 56, 3)) (kk : W p l e R s m args below meth c H locs cells slots Q (F0 m (pc + 3) ls (.int (B_X6_isIn a0 a1 a2) :: rest))) : W p l e R s m args below meth c H locs cells slots Q (F0 m pc ls (.int a2 :: .int a1 :: .int a0 :: rest)) :=
  cs_ro E (c_X6_isIn l (H := H) (D := D) (cyI := cyI) (ad := ad) a0 a1 a2 ) (gS kML_X6_56 kST_X6_isIn kIN_X6 kCO_X6_isIn) rfl ds_X6_isIn rfl KC_blind (fun U _ hW => (K0.at S).warm hW) hR hls rfl hro hdg kk
end
section
variable {p : Program} {l : Launch} {e : Env} {s : State} {m : MethodId} {args : Array Value} {below : List Frame} {meth : Method} {c : Code} {D : va_G} {cyI : ClassId} {ad : Nat → Nat}
def B_X6_isDirection  (x0 : Int32) : Int32 := (B_X6_isIn x0 0 14)
theorem nb_B_X6_isDirection  {x0 : Int32} : narrow .boolean (.int (B_X6_isDirection  x0)) = .int (B_X6_isDirection  x0) := by
  unfold B_X6_isDirection
  exact nb_B_X6_isIn
set_option maxHeartbeats 4000000 in
set_option maxRecDepth 100000 in
theorem w_X6_isDirection (E : EX p s m args meth c cX6_isDirection 1 RX6 (some .boolean)) (K0 : KC D cyI ad s s.heap)  {x0 : Int32} {out : Int32} (h : B_X6_isDirection  x0 = out) {ls : Array Slot} (hl : lv_has ls 1 [(0, .int x0)]) : W p l e (rmL 1) s m args below meth c s.heap [] 0 0 (MQ below (vp_Si (fun z => z = out)) args s 0 0 (fun _ => False)) (F0 m 0 ls []) := by
  unfold B_X6_isDirection at h
  refine lv_iload_n E.hx E.hb dX6_isDirection_0 rfl (lv_at hl 0 rfl) ?_
  refine lv_iconst (v := 0) E.hx E.hb dX6_isDirection_1 (by decide) ?_
  refine lv_bipush (v := 14) E.hx E.hb dX6_isDirection_2 (by decide) ?_
  refine iv_X6_56 E K0 va_S.rf (by decide) hl.1 (Nat.le_of_ble_eq_true rfl) dX6_isDirection_4 ?_
  exact W.zret E.hx E.hb E.hr (nb_B_X6_isIn) (fun t ht _ => ⟨_, rfl, h, ht⟩) (fun q hq => nomatch hq) dX6_isDirection_7 E.hk
theorem c_X6_isDirection (l : Launch) {H : Heap} {D : va_G} {cyI : ClassId} {ad : Nat → Nat} (x0 : Int32) : MRO l yX6_isDirection cX6_isDirection 1 (some .boolean) 1 [.int x0] H (KC D cyI ad) (B_X6_isDirection  x0) := by
  refine Mof (own := RX6) (by decide +kernel) rfl rfl ?_
  intro p e s m args below meth c ls E hH K0 hl
  subst hH
  exact w_X6_isDirection E K0  rfl hl
theorem ds_X6_isDirection : Dsc yX6_isDirection 1 := ⟨by decide +kernel, by decide +kernel, by decide +kernel⟩
end
section
variable {p : Program} {l : Launch} {e : Env} {s : State} {m : MethodId} {args : Array Value} {below : List Frame} {meth : Method} {c : Code} {D : va_G} {cyI : ClassId} {ad : Nat → Nat}
def B_X6_onFrom  (x0 x1 : Int32) : Int32 := (((((x1 - x0) + 7) + 15) - (((x1 - x0) + 7) + 15) / 15 * 15) - 7)
set_option maxHeartbeats 4000000 in
set_option maxRecDepth 100000 in
theorem w_X6_onFrom (E : EX p s m args meth c cX6_onFrom 2 RX6 (some .int)) (K0 : KC D cyI ad s s.heap)  {x0 x1 : Int32} {out : Int32} (h : B_X6_onFrom  x0 x1 = out) {ls : Array Slot} (hl : lv_has ls 2 [(0, .int x0), (1, .int x1)]) : W p l e (rmL 0) s m args below meth c s.heap [] 0 0 (MQ below (vp_Si (fun z => z = out)) args s 0 0 (fun _ => False)) (F0 m 0 ls []) := by
  unfold B_X6_onFrom at h
  refine lv_iload_n E.hx E.hb dX6_onFrom_0 rfl (lv_at hl 1 rfl) ?_
  refine lv_iload_n E.hx E.hb dX6_onFrom_1 rfl (lv_at hl 0 rfl) ?_
  refine lv_isub E.hx E.hb dX6_onFrom_2 ?_
  refine lv_bipush (v := 7) E.hx E.hb dX6_onFrom_3 (by decide) ?_
  refine lv_iadd E.hx E.hb dX6_onFrom_5 ?_
  refine lv_bipush (v := 15) E.hx E.hb dX6_onFrom_6 (by decide) ?_
  refine lv_iadd E.hx E.hb dX6_onFrom_8 ?_
  refine lv_bipush (v := 15) E.hx E.hb dX6_onFrom_9 (by decide) ?_
  refine lv_irem E.hx E.hb dX6_onFrom_11 (by decide) ?_
  refine lv_bipush (v := 7) E.hx E.hb dX6_onFrom_12 (by decide) ?_
  refine lv_isub E.hx E.hb dX6_onFrom_14 ?_
  exact W.iret E.hx E.hb E.hr (fun t ht _ => ⟨_, rfl, h, ht⟩) (fun q hq => nomatch hq) dX6_onFrom_15 E.hk
theorem c_X6_onFrom (l : Launch) {H : Heap} {D : va_G} {cyI : ClassId} {ad : Nat → Nat} (x0 x1 : Int32) : MRO l yX6_onFrom cX6_onFrom 2 (some .int) 0 [.int x0, .int x1] H (KC D cyI ad) (B_X6_onFrom  x0 x1) := by
  refine Mof (own := RX6) (by decide +kernel) rfl rfl ?_
  intro p e s m args below meth c ls E hH K0 hl
  subst hH
  exact w_X6_onFrom E K0  rfl hl
theorem ds_X6_onFrom : Dsc yX6_onFrom 2 := ⟨by decide +kernel, by decide +kernel, by decide +kernel⟩
end
section
variable {p : Program} {l : Launch} {e : Env} {R : Room} {s : State} {m : MethodId} {args : Array Value} {below : List Frame} {meth : Method} {c : Code} {H : Heap} {locs : List Loc} {cells slots : Nat} {Q : State → Prop} {cc : ByteArray} {nL pc : Nat} {ret : Option FieldType} {ls : Array Slot} {rest : List Value} {D : va_G} {cyI : ClassId} {ad : Nat → Nat} {I : Nat → Int32} {A : Nat → Nat → Int32}
theorem iv_X6_260 (E : EX p s m args meth c cc nL RX6 ret) (K0 : KC D cyI ad s s.heap) (S : va_S (InN 44 ad) s.heap H locs) {a0 a1 : Int32} (hR : RmOk R cells slots 0 2) (hls : ls.size = nL) (hro : (rest.map fun v => v.category).sum ≤ 8) (hdg : decode cc pc = .ok (.invokestatic 260, 3)) (kk : W p l e R s m args below meth c H locs cells slots Q (F0 m (pc + 3) ls (.int (B_X6_onFrom a0 a1) :: rest))) : W p l e R s m args below meth c H locs cells slots Q (F0 m pc ls (.int a1 :: .int a0 :: rest)) :=
  cs_ro E (c_X6_onFrom l (H := H) (D := D) (cyI := cyI) (ad := ad) a0 a1 ) (gS kML_X6_260 kST_X6_onFrom kIN_X6 kCO_X6_onFrom) rfl ds_X6_onFrom rfl KC_blind (fun U _ hW => (K0.at S).warm hW) hR hls rfl hro hdg kk
end
section
variable {p : Program} {l : Launch} {e : Env} {s : State} {m : MethodId} {args : Array Value} {below : List Frame} {meth : Method} {c : Code} {D : va_G} {cyI : ClassId} {ad : Nat → Nat}
def B_X6_squareApart  (x0 x1 : Int32) : Int32 := ((B_X6_onFrom x0 x1) * (B_X6_onFrom x0 x1))
set_option maxHeartbeats 4000000 in
set_option maxRecDepth 100000 in
theorem w_X6_squareApart (E : EX p s m args meth c cX6_squareApart 3 RX6 (some .int)) (K0 : KC D cyI ad s s.heap)  {x0 x1 : Int32} {out : Int32} (h : B_X6_squareApart  x0 x1 = out) {ls : Array Slot} (hl : lv_has ls 3 [(0, .int x0), (1, .int x1)]) : W p l e (rmL 1) s m args below meth c s.heap [] 0 0 (MQ below (vp_Si (fun z => z = out)) args s 0 0 (fun _ => False)) (F0 m 0 ls []) := by
  unfold B_X6_squareApart at h
  refine lv_iload_n E.hx E.hb dX6_squareApart_0 rfl (lv_at hl 0 rfl) ?_
  refine lv_iload_n E.hx E.hb dX6_squareApart_1 rfl (lv_at hl 1 rfl) ?_
  refine iv_X6_260 E K0 va_S.rf (by decide) hl.1 (Nat.le_of_ble_eq_true rfl) dX6_squareApart_2 ?_
  refine lv_istore_n (lv' := [(2, .int (B_X6_onFrom x0 x1)), (0, .int x0), (1, .int x1)]) E.hx E.hb dX6_squareApart_5 rfl hl (by decide) rfl (fun ls hl => ?_)
  refine lv_iload_n E.hx E.hb dX6_squareApart_6 rfl (lv_at hl 0 rfl) ?_
  refine lv_iload_n E.hx E.hb dX6_squareApart_7 rfl (lv_at hl 0 rfl) ?_
  refine lv_imul E.hx E.hb dX6_squareApart_8 ?_
  exact W.iret E.hx E.hb E.hr (fun t ht _ => ⟨_, rfl, h, ht⟩) (fun q hq => nomatch hq) dX6_squareApart_9 E.hk
theorem c_X6_squareApart (l : Launch) {H : Heap} {D : va_G} {cyI : ClassId} {ad : Nat → Nat} (x0 x1 : Int32) : MRO l yX6_squareApart cX6_squareApart 3 (some .int) 1 [.int x0, .int x1] H (KC D cyI ad) (B_X6_squareApart  x0 x1) := by
  refine Mof (own := RX6) (by decide +kernel) rfl rfl ?_
  intro p e s m args below meth c ls E hH K0 hl
  subst hH
  exact w_X6_squareApart E K0  rfl hl
theorem ds_X6_squareApart : Dsc yX6_squareApart 2 := ⟨by decide +kernel, by decide +kernel, by decide +kernel⟩
end
section
variable {p : Program} {l : Launch} {e : Env} {s : State} {m : MethodId} {args : Array Value} {below : List Frame} {meth : Method} {c : Code} {D : va_G} {cyI : ClassId} {ad : Nat → Nat}
def B_X6_numberOf  (x0 x1 : Int32) : Int32 := ((x1 * 12) + x0)
set_option maxHeartbeats 4000000 in
set_option maxRecDepth 100000 in
theorem w_X6_numberOf (E : EX p s m args meth c cX6_numberOf 2 RX6 (some .int)) (K0 : KC D cyI ad s s.heap)  {x0 x1 : Int32} {out : Int32} (h : B_X6_numberOf  x0 x1 = out) {ls : Array Slot} (hl : lv_has ls 2 [(0, .int x0), (1, .int x1)]) : W p l e (rmL 0) s m args below meth c s.heap [] 0 0 (MQ below (vp_Si (fun z => z = out)) args s 0 0 (fun _ => False)) (F0 m 0 ls []) := by
  unfold B_X6_numberOf at h
  refine lv_iload_n E.hx E.hb dX6_numberOf_0 rfl (lv_at hl 1 rfl) ?_
  refine lv_bipush (v := 12) E.hx E.hb dX6_numberOf_1 (by decide) ?_
  refine lv_imul E.hx E.hb dX6_numberOf_3 ?_
  refine lv_iload_n E.hx E.hb dX6_numberOf_4 rfl (lv_at hl 0 rfl) ?_
  refine lv_iadd E.hx E.hb dX6_numberOf_5 ?_
  exact W.iret E.hx E.hb E.hr (fun t ht _ => ⟨_, rfl, h, ht⟩) (fun q hq => nomatch hq) dX6_numberOf_6 E.hk
theorem c_X6_numberOf (l : Launch) {H : Heap} {D : va_G} {cyI : ClassId} {ad : Nat → Nat} (x0 x1 : Int32) : MRO l yX6_numberOf cX6_numberOf 2 (some .int) 0 [.int x0, .int x1] H (KC D cyI ad) (B_X6_numberOf  x0 x1) := by
  refine Mof (own := RX6) (by decide +kernel) rfl rfl ?_
  intro p e s m args below meth c ls E hH K0 hl
  subst hH
  exact w_X6_numberOf E K0  rfl hl
theorem ds_X6_numberOf : Dsc yX6_numberOf 2 := ⟨by decide +kernel, by decide +kernel, by decide +kernel⟩
end
section
variable {p : Program} {l : Launch} {e : Env} {s : State} {m : MethodId} {args : Array Value} {below : List Frame} {meth : Method} {c : Code} {D : va_G} {cyI : ClassId} {ad : Nat → Nat}
def B_J9_floorDiv_7cf53  (x0 x1 : Int32) : Option (Int32) := if x1 = 0 then none else if 0 ≤ (x0 ^^^ x1) then some ((x0 / x1)) else (if ((x0 / x1) * x1) = x0 then some ((x0 / x1)) else some (((x0 / x1) - 1)))
set_option maxHeartbeats 4000000 in
set_option maxRecDepth 100000 in
theorem w_J9_floorDiv_7cf53 (E : EX p s m args meth c cJ9_floorDiv_7cf53 3 RJ9 (some .int)) (K0 : KC D cyI ad s s.heap)  {x0 x1 : Int32} {out : Int32} (h : B_J9_floorDiv_7cf53  x0 x1 = some out) {ls : Array Slot} (hl : lv_has ls 3 [(0, .int x0), (1, .int x1)]) : W p l e (rmL 0) s m args below meth c s.heap [] 0 0 (MQ below (vp_Si (fun z => z = out)) args s 0 0 (fun _ => False)) (F0 m 0 ls []) := by
  unfold B_J9_floorDiv_7cf53 at h
  refine lv_iload_n E.hx E.hb dJ9_floorDiv_7cf53_0 rfl (lv_at hl 0 rfl) ?_
  refine lv_iload_n E.hx E.hb dJ9_floorDiv_7cf53_1 rfl (lv_at hl 1 rfl) ?_
  by_cases c_1 : x1 = 0
  · rw [if_pos c_1] at h; exact nomatch h
  rw [if_neg c_1] at h
  refine lv_idiv E.hx E.hb dJ9_floorDiv_7cf53_2 c_1 ?_
  refine lv_istore_n (lv' := [(2, .int (x0 / x1)), (0, .int x0), (1, .int x1)]) E.hx E.hb dJ9_floorDiv_7cf53_3 rfl hl (by decide) rfl (fun ls hl => ?_)
  refine lv_iload_n E.hx E.hb dJ9_floorDiv_7cf53_4 rfl (lv_at hl 1 rfl) ?_
  refine lv_iload_n E.hx E.hb dJ9_floorDiv_7cf53_5 rfl (lv_at hl 2 rfl) ?_
  refine lv_ixor E.hx E.hb dJ9_floorDiv_7cf53_6 ?_
  refine lv_if_ge (tgt := 21) E.hx E.hb dJ9_floorDiv_7cf53_7 (by decide) (fun c_2 => ?_) (fun c_2 => ?_)
  · rw [if_pos c_2] at h
    refine lv_iload_n E.hx E.hb dJ9_floorDiv_7cf53_21 rfl (lv_at hl 0 rfl) ?_
    exact W.iret E.hx E.hb E.hr (fun t ht _ => ⟨_, rfl, (Option.some.inj h), ht⟩) (fun q hq => nomatch hq) dJ9_floorDiv_7cf53_22 E.hk
  · rw [if_neg c_2] at h
    refine lv_iload_n E.hx E.hb dJ9_floorDiv_7cf53_10 rfl (lv_at hl 0 rfl) ?_
    refine lv_iload_n E.hx E.hb dJ9_floorDiv_7cf53_11 rfl (lv_at hl 2 rfl) ?_
    refine lv_imul E.hx E.hb dJ9_floorDiv_7cf53_12 ?_
    refine lv_iload_n E.hx E.hb dJ9_floorDiv_7cf53_13 rfl (lv_at hl 1 rfl) ?_
    refine lv_icmp_eq (tgt := 21) E.hx E.hb dJ9_floorDiv_7cf53_14 (by decide) (fun c_3 => ?_) (fun c_3 => ?_)
    · rw [if_pos c_3] at h
      refine lv_iload_n E.hx E.hb dJ9_floorDiv_7cf53_21 rfl (lv_at hl 0 rfl) ?_
      exact W.iret E.hx E.hb E.hr (fun t ht _ => ⟨_, rfl, (Option.some.inj h), ht⟩) (fun q hq => nomatch hq) dJ9_floorDiv_7cf53_22 E.hk
    · rw [if_neg c_3] at h
      refine lv_iload_n E.hx E.hb dJ9_floorDiv_7cf53_17 rfl (lv_at hl 0 rfl) ?_
      refine lv_iconst (v := 1) E.hx E.hb dJ9_floorDiv_7cf53_18 (by decide) ?_
      refine lv_isub E.hx E.hb dJ9_floorDiv_7cf53_19 ?_
      exact W.iret E.hx E.hb E.hr (fun t ht _ => ⟨_, rfl, (Option.some.inj h), ht⟩) (fun q hq => nomatch hq) dJ9_floorDiv_7cf53_20 E.hk
theorem c_J9_floorDiv_7cf53 (l : Launch) {H : Heap} {D : va_G} {cyI : ClassId} {ad : Nat → Nat} (x0 x1 : Int32) {out : Int32} (h : B_J9_floorDiv_7cf53  x0 x1 = some out) : MRO l yJ9_floorDiv_7cf53 cJ9_floorDiv_7cf53 3 (some .int) 0 [.int x0, .int x1] H (KC D cyI ad) out := by
  refine MofF (own := RJ9) (by decide +kernel) rfl rfl ?_
  intro p e s m args below meth c ls E hH K0 hl
  subst hH
  exact w_J9_floorDiv_7cf53 E K0  h hl
theorem ds_J9_floorDiv_7cf53 : Dsc yJ9_floorDiv_7cf53 2 := ⟨by decide +kernel, by decide +kernel, by decide +kernel⟩
end
section
variable {p : Program} {l : Launch} {e : Env} {s : State} {m : MethodId} {args : Array Value} {below : List Frame} {meth : Method} {c : Code} {D : va_G} {cyI : ClassId} {ad : Nat → Nat}
def B_J9_abs_0f7a4  (x0 : Int32) : Int32 := if 0 ≤ x0 then x0 else (-x0)
set_option maxHeartbeats 4000000 in
set_option maxRecDepth 100000 in
theorem w_J9_abs_0f7a4 (E : EX p s m args meth c cJ9_abs_0f7a4 1 RJ9 (some .int)) (K0 : KC D cyI ad s s.heap)  {x0 : Int32} {out : Int32} (h : B_J9_abs_0f7a4  x0 = out) {ls : Array Slot} (hl : lv_has ls 1 [(0, .int x0)]) : W p l e (rmL 0) s m args below meth c s.heap [] 0 0 (MQ below (vp_Si (fun z => z = out)) args s 0 0 (fun _ => False)) (F0 m 0 ls []) := by
  unfold B_J9_abs_0f7a4 at h
  refine lv_iload_n E.hx E.hb dJ9_abs_0f7a4_0 rfl (lv_at hl 0 rfl) ?_
  refine lv_if_ge (tgt := 9) E.hx E.hb dJ9_abs_0f7a4_1 (by decide) (fun c_1 => ?_) (fun c_1 => ?_)
  · rw [if_pos c_1] at h
    refine lv_iload_n E.hx E.hb dJ9_abs_0f7a4_9 rfl (lv_at hl 0 rfl) ?_
    exact W.iret E.hx E.hb E.hr (fun t ht _ => ⟨_, rfl, h, ht⟩) (fun q hq => nomatch hq) dJ9_abs_0f7a4_10 E.hk
  · rw [if_neg c_1] at h
    refine lv_iload_n E.hx E.hb dJ9_abs_0f7a4_4 rfl (lv_at hl 0 rfl) ?_
    refine lv_ineg E.hx E.hb dJ9_abs_0f7a4_5 ?_
    refine lv_goto (tgt := 10) E.hx E.hb dJ9_abs_0f7a4_6 (by decide) ?_
    exact W.iret E.hx E.hb E.hr (fun t ht _ => ⟨_, rfl, h, ht⟩) (fun q hq => nomatch hq) dJ9_abs_0f7a4_10 E.hk
theorem c_J9_abs_0f7a4 (l : Launch) {H : Heap} {D : va_G} {cyI : ClassId} {ad : Nat → Nat} (x0 : Int32) : MRO l yJ9_abs_0f7a4 cJ9_abs_0f7a4 1 (some .int) 0 [.int x0] H (KC D cyI ad) (B_J9_abs_0f7a4  x0) := by
  refine MofF (own := RJ9) (by decide +kernel) rfl rfl ?_
  intro p e s m args below meth c ls E hH K0 hl
  subst hH
  exact w_J9_abs_0f7a4 E K0  rfl hl
theorem ds_J9_abs_0f7a4 : Dsc yJ9_abs_0f7a4 1 := ⟨by decide +kernel, by decide +kernel, by decide +kernel⟩
end
section
variable {p : Program} {l : Launch} {e : Env} {s : State} {m : MethodId} {args : Array Value} {below : List Frame} {meth : Method} {c : Code} {D : va_G} {cyI : ClassId} {ad : Nat → Nat}
def B_J9_max_7cf53  (x0 x1 : Int32) : Int32 := if x0 < x1 then x1 else x0
set_option maxHeartbeats 4000000 in
set_option maxRecDepth 100000 in
theorem w_J9_max_7cf53 (E : EX p s m args meth c cJ9_max_7cf53 2 RJ9 (some .int)) (K0 : KC D cyI ad s s.heap)  {x0 x1 : Int32} {out : Int32} (h : B_J9_max_7cf53  x0 x1 = out) {ls : Array Slot} (hl : lv_has ls 2 [(0, .int x0), (1, .int x1)]) : W p l e (rmL 0) s m args below meth c s.heap [] 0 0 (MQ below (vp_Si (fun z => z = out)) args s 0 0 (fun _ => False)) (F0 m 0 ls []) := by
  unfold B_J9_max_7cf53 at h
  refine lv_iload_n E.hx E.hb dJ9_max_7cf53_0 rfl (lv_at hl 0 rfl) ?_
  refine lv_iload_n E.hx E.hb dJ9_max_7cf53_1 rfl (lv_at hl 1 rfl) ?_
  refine lv_icmp_lt (tgt := 9) E.hx E.hb dJ9_max_7cf53_2 (by decide) (fun c_1 => ?_) (fun c_1 => ?_)
  · rw [if_pos c_1] at h
    refine lv_iload_n E.hx E.hb dJ9_max_7cf53_9 rfl (lv_at hl 1 rfl) ?_
    exact W.iret E.hx E.hb E.hr (fun t ht _ => ⟨_, rfl, h, ht⟩) (fun q hq => nomatch hq) dJ9_max_7cf53_10 E.hk
  · rw [if_neg c_1] at h
    refine lv_iload_n E.hx E.hb dJ9_max_7cf53_5 rfl (lv_at hl 0 rfl) ?_
    refine lv_goto (tgt := 10) E.hx E.hb dJ9_max_7cf53_6 (by decide) ?_
    exact W.iret E.hx E.hb E.hr (fun t ht _ => ⟨_, rfl, h, ht⟩) (fun q hq => nomatch hq) dJ9_max_7cf53_10 E.hk
theorem c_J9_max_7cf53 (l : Launch) {H : Heap} {D : va_G} {cyI : ClassId} {ad : Nat → Nat} (x0 x1 : Int32) : MRO l yJ9_max_7cf53 cJ9_max_7cf53 2 (some .int) 0 [.int x0, .int x1] H (KC D cyI ad) (B_J9_max_7cf53  x0 x1) := by
  refine MofF (own := RJ9) (by decide +kernel) rfl rfl ?_
  intro p e s m args below meth c ls E hH K0 hl
  subst hH
  exact w_J9_max_7cf53 E K0  rfl hl
theorem ds_J9_max_7cf53 : Dsc yJ9_max_7cf53 2 := ⟨by decide +kernel, by decide +kernel, by decide +kernel⟩
end
section
variable {p : Program} {l : Launch} {e : Env} {s : State} {m : MethodId} {args : Array Value} {below : List Frame} {meth : Method} {c : Code} {D : va_G} {cyI : ClassId} {ad : Nat → Nat}
def B_J9_min_7cf53  (x0 x1 : Int32) : Int32 := if x1 < x0 then x1 else x0
set_option maxHeartbeats 4000000 in
set_option maxRecDepth 100000 in
theorem w_J9_min_7cf53 (E : EX p s m args meth c cJ9_min_7cf53 2 RJ9 (some .int)) (K0 : KC D cyI ad s s.heap)  {x0 x1 : Int32} {out : Int32} (h : B_J9_min_7cf53  x0 x1 = out) {ls : Array Slot} (hl : lv_has ls 2 [(0, .int x0), (1, .int x1)]) : W p l e (rmL 0) s m args below meth c s.heap [] 0 0 (MQ below (vp_Si (fun z => z = out)) args s 0 0 (fun _ => False)) (F0 m 0 ls []) := by
  unfold B_J9_min_7cf53 at h
  refine lv_iload_n E.hx E.hb dJ9_min_7cf53_0 rfl (lv_at hl 0 rfl) ?_
  refine lv_iload_n E.hx E.hb dJ9_min_7cf53_1 rfl (lv_at hl 1 rfl) ?_
  refine lv_icmp_gt (tgt := 9) E.hx E.hb dJ9_min_7cf53_2 (by decide) (fun c_1 => ?_) (fun c_1 => ?_)
  · rw [if_pos c_1] at h
    refine lv_iload_n E.hx E.hb dJ9_min_7cf53_9 rfl (lv_at hl 1 rfl) ?_
    exact W.iret E.hx E.hb E.hr (fun t ht _ => ⟨_, rfl, h, ht⟩) (fun q hq => nomatch hq) dJ9_min_7cf53_10 E.hk
  · rw [if_neg c_1] at h
    refine lv_iload_n E.hx E.hb dJ9_min_7cf53_5 rfl (lv_at hl 0 rfl) ?_
    refine lv_goto (tgt := 10) E.hx E.hb dJ9_min_7cf53_6 (by decide) ?_
    exact W.iret E.hx E.hb E.hr (fun t ht _ => ⟨_, rfl, h, ht⟩) (fun q hq => nomatch hq) dJ9_min_7cf53_10 E.hk
theorem c_J9_min_7cf53 (l : Launch) {H : Heap} {D : va_G} {cyI : ClassId} {ad : Nat → Nat} (x0 x1 : Int32) : MRO l yJ9_min_7cf53 cJ9_min_7cf53 2 (some .int) 0 [.int x0, .int x1] H (KC D cyI ad) (B_J9_min_7cf53  x0 x1) := by
  refine MofF (own := RJ9) (by decide +kernel) rfl rfl ?_
  intro p e s m args below meth c ls E hH K0 hl
  subst hH
  exact w_J9_min_7cf53 E K0  rfl hl
theorem ds_J9_min_7cf53 : Dsc yJ9_min_7cf53 2 := ⟨by decide +kernel, by decide +kernel, by decide +kernel⟩
end
section
variable {p : Program} {l : Launch} {e : Env} {s : State} {m : MethodId} {args : Array Value} {below : List Frame} {meth : Method} {c : Code} {D : va_G} {cyI : ClassId} {ad : Nat → Nat} {I : Nat → Int32} {A : Nat → Nat → Int32}
def B_X1_has (I : Nat → Int32) (A : Nat → Nat → Int32) (x1 x2 : Int32) : Int32 := if x1 < 0 then 0 else (if (I 5) ≤ x1 then 0 else (if x2 < 0 then 0 else (if (I 6) ≤ x2 then 0 else 1)))
set_option maxHeartbeats 4000000 in
set_option maxRecDepth 100000 in
theorem w_X1_has (E : EX p s m args meth c cX1_has 3 RX1 (some .boolean)) (K0 : KC D cyI ad s s.heap) (P : va_P D classes (cw cyI ad I A) s.heap)  {x1 x2 : Int32} {out : Int32} (h : B_X1_has I A x1 x2 = out) {ls : Array Slot} (hl : lv_has ls 3 [(0, .ref (ad 2)), (1, .int x1), (2, .int x2)]) : W p l e (rmL 0) s m args below meth c s.heap [] 0 0 (MQ below (vp_Si (fun z => z = out)) args s 0 0 (fun _ => False)) (F0 m 0 ls []) := by
  unfold B_X1_has at h
  refine lv_iload_n E.hx E.hb dX1_has_0 rfl (lv_at hl 1 rfl) ?_
  refine lv_if_lt (tgt := 28) E.hx E.hb dX1_has_1 (by decide) (fun c_1 => ?_) (fun c_1 => ?_)
  · rw [if_pos c_1] at h
    refine lv_iconst (v := 0) E.hx E.hb dX1_has_28 (by decide) ?_
    exact W.zret E.hx E.hb E.hr rfl (fun t ht _ => ⟨_, rfl, h, ht⟩) (fun q hq => nomatch hq) dX1_has_29 E.hk
  · rw [if_neg c_1] at h
    refine lv_iload_n E.hx E.hb dX1_has_4 rfl (lv_at hl 1 rfl) ?_
    refine lv_aload_n E.hx E.hb dX1_has_5 rfl (lv_at hl 0 rfl) ?_
    refine gf_X1_32 E K0 P dX1_has_6 ?_
    refine lv_icmp_ge (tgt := 28) E.hx E.hb dX1_has_9 (by decide) (fun c_2 => ?_) (fun c_2 => ?_)
    · rw [if_pos c_2] at h
      refine lv_iconst (v := 0) E.hx E.hb dX1_has_28 (by decide) ?_
      exact W.zret E.hx E.hb E.hr rfl (fun t ht _ => ⟨_, rfl, h, ht⟩) (fun q hq => nomatch hq) dX1_has_29 E.hk
    · rw [if_neg c_2] at h
      refine lv_iload_n E.hx E.hb dX1_has_12 rfl (lv_at hl 2 rfl) ?_
      refine lv_if_lt (tgt := 28) E.hx E.hb dX1_has_13 (by decide) (fun c_3 => ?_) (fun c_3 => ?_)
      · rw [if_pos c_3] at h
        refine lv_iconst (v := 0) E.hx E.hb dX1_has_28 (by decide) ?_
        exact W.zret E.hx E.hb E.hr rfl (fun t ht _ => ⟨_, rfl, h, ht⟩) (fun q hq => nomatch hq) dX1_has_29 E.hk
      · rw [if_neg c_3] at h
        refine lv_iload_n E.hx E.hb dX1_has_16 rfl (lv_at hl 2 rfl) ?_
        refine lv_aload_n E.hx E.hb dX1_has_17 rfl (lv_at hl 0 rfl) ?_
        refine gf_X1_36 E K0 P dX1_has_18 ?_
        refine lv_icmp_ge (tgt := 28) E.hx E.hb dX1_has_21 (by decide) (fun c_4 => ?_) (fun c_4 => ?_)
        · rw [if_pos c_4] at h
          refine lv_iconst (v := 0) E.hx E.hb dX1_has_28 (by decide) ?_
          exact W.zret E.hx E.hb E.hr rfl (fun t ht _ => ⟨_, rfl, h, ht⟩) (fun q hq => nomatch hq) dX1_has_29 E.hk
        · rw [if_neg c_4] at h
          refine lv_iconst (v := 1) E.hx E.hb dX1_has_24 (by decide) ?_
          refine lv_goto (tgt := 29) E.hx E.hb dX1_has_25 (by decide) ?_
          exact W.zret E.hx E.hb E.hr rfl (fun t ht _ => ⟨_, rfl, h, ht⟩) (fun q hq => nomatch hq) dX1_has_29 E.hk
theorem c_X1_has (l : Launch) {H : Heap} {D : va_G} {cyI : ClassId} {ad : Nat → Nat} {I : Nat → Int32} {A : Nat → Nat → Int32} (P : va_P D classes (cw cyI ad I A) H) (x1 x2 : Int32) : MRO l yX1_has cX1_has 3 (some .boolean) 0 [.ref (ad 2), .int x1, .int x2] H (KC D cyI ad) (B_X1_has I A x1 x2) := by
  refine Mof (own := RX1) (by decide +kernel) rfl rfl ?_
  intro p e s m args below meth c ls E hH K0 hl
  subst hH
  exact w_X1_has E K0 P rfl hl
theorem ds_X1_has : Dsc yX1_has 2 := ⟨by decide +kernel, by decide +kernel, by decide +kernel⟩
end
section
variable {p : Program} {l : Launch} {e : Env} {R : Room} {s : State} {m : MethodId} {args : Array Value} {below : List Frame} {meth : Method} {c : Code} {H : Heap} {locs : List Loc} {cells slots : Nat} {Q : State → Prop} {cc : ByteArray} {nL pc : Nat} {ret : Option FieldType} {ls : Array Slot} {rest : List Value} {D : va_G} {cyI : ClassId} {ad : Nat → Nat} {I : Nat → Int32} {A : Nat → Nat → Int32}
theorem iv_X1_55 (E : EX p s m args meth c cc nL RX1 ret) (K0 : KC D cyI ad s s.heap) (S : va_S (InN 44 ad) s.heap H locs) {a0 a1 : Int32} (hR : RmOk R cells slots 0 2) (hls : ls.size = nL) (hro : (rest.map fun v => v.category).sum ≤ 8) (hdg : decode cc pc = .ok (.invokestatic 55, 3)) (kk : W p l e R s m args below meth c H locs cells slots Q (F0 m (pc + 3) ls (.int (B_X6_numberOf a0 a1) :: rest))) : W p l e R s m args below meth c H locs cells slots Q (F0 m pc ls (.int a1 :: .int a0 :: rest)) :=
  cn_ro E (c_X6_numberOf l (H := H) (D := D) (cyI := cyI) (ad := ad) a0 a1 ) (K0.nm _ (List.mem_of_getElem? (i := 3) rfl)) kST_X6_numberOf kIN_X6 kCO_X6_numberOf ds_X6_numberOf rfl KC_blind (fun U _ hW => (K0.at S).warm hW) hR hls rfl hro hdg kk
end
section
variable {p : Program} {l : Launch} {e : Env} {R : Room} {s : State} {m : MethodId} {args : Array Value} {below : List Frame} {meth : Method} {c : Code} {H : Heap} {locs : List Loc} {cells slots : Nat} {Q : State → Prop} {cc : ByteArray} {nL pc : Nat} {ret : Option FieldType} {ls : Array Slot} {rest : List Value} {D : va_G} {cyI : ClassId} {ad : Nat → Nat} {I : Nat → Int32} {A : Nat → Nat → Int32}
theorem rat_X1_59 (E : EX p s m args meth c cc nL RX1 ret) (K0 : KC D cyI ad s s.heap) (P : va_P D classes (cw cyI ad I A) H) (S : va_S (InN 44 ad) s.heap H locs) {q0 q1 a b n : Nat} {f : Nat → Int32} (he : (cw cyI ad I A)[q0]? = some (b, .inr (4, [.ref a]))) (ha : (cw cyI ad I A)[q1]? = some (a, .inl (cyI, n, .inl f))) (hn : n < 2 ^ 31) {i : Int32} (hR : RmOk R cells slots 0 2) (hls : ls.size = nL) (hro : (rest.map fun v => v.category).sum ≤ 8) (hdg : decode cc pc = .ok (.invokevirtual 59, 3)) (kk : W p l e R s m args below meth c H locs cells slots Q (F0 m (pc + 3) ls (.int (rAt n f i) :: rest))) : W p l e R s m args below meth c H locs cells slots Q (F0 m pc ls (.int i :: .ref b :: rest)) :=
  cv_ro E (c_X4_at l (fun _ _ h => h.1) P q0 q1 he ha hn i) (gV kML_X1_59 kIM_X4_at kSE_X4_at kIN_X4 kCO_X4_at) rfl ds_X4_at rfl KC_blind (fun U _ hW => (K0.at S).warm hW) (va_recv K0.k P (show classes[4]? = some (RX4, TX4, 1) from rfl) he) hR hls rfl hro hdg kk
end
section
variable {p : Program} {l : Launch} {e : Env} {s : State} {m : MethodId} {args : Array Value} {below : List Frame} {meth : Method} {c : Code} {D : va_G} {cyI : ClassId} {ad : Nat → Nat} {I : Nat → Int32} {A : Nat → Nat → Int32}
def B_X1_directionAt (I : Nat → Int32) (A : Nat → Nat → Int32) (x1 x2 : Int32) : Int32 := (rAt 144 (A 8) ((B_X6_numberOf x1 x2)))
set_option maxHeartbeats 4000000 in
set_option maxRecDepth 100000 in
theorem w_X1_directionAt (E : EX p s m args meth c cX1_directionAt 3 RX1 (some .int)) (K0 : KC D cyI ad s s.heap) (P : va_P D classes (cw cyI ad I A) s.heap)  {x1 x2 : Int32} {out : Int32} (h : B_X1_directionAt I A x1 x2 = out) {ls : Array Slot} (hl : lv_has ls 3 [(0, .ref (ad 2)), (1, .int x1), (2, .int x2)]) : W p l e (rmL 1) s m args below meth c s.heap [] 0 0 (MQ below (vp_Si (fun z => z = out)) args s 0 0 (fun _ => False)) (F0 m 0 ls []) := by
  unfold B_X1_directionAt at h
  refine lv_aload_n E.hx E.hb dX1_directionAt_0 rfl (lv_at hl 0 rfl) ?_
  refine gf_X1_14 E K0 P dX1_directionAt_1 ?_
  refine lv_iload_n E.hx E.hb dX1_directionAt_4 rfl (lv_at hl 1 rfl) ?_
  refine lv_iload_n E.hx E.hb dX1_directionAt_5 rfl (lv_at hl 2 rfl) ?_
  refine iv_X1_55 E K0 va_S.rf (by decide) hl.1 (Nat.le_of_ble_eq_true rfl) dX1_directionAt_6 ?_
  refine rat_X1_59 E K0 P va_S.rf cw_r8 cw_a8 (by decide) (by decide) hl.1 (Nat.le_of_ble_eq_true rfl) dX1_directionAt_9 ?_
  exact W.iret E.hx E.hb E.hr (fun t ht _ => ⟨_, rfl, h, ht⟩) (fun q hq => nomatch hq) dX1_directionAt_12 E.hk
theorem c_X1_directionAt (l : Launch) {H : Heap} {D : va_G} {cyI : ClassId} {ad : Nat → Nat} {I : Nat → Int32} {A : Nat → Nat → Int32} (P : va_P D classes (cw cyI ad I A) H) (x1 x2 : Int32) : MRO l yX1_directionAt cX1_directionAt 3 (some .int) 1 [.ref (ad 2), .int x1, .int x2] H (KC D cyI ad) (B_X1_directionAt I A x1 x2) := by
  refine Mof (own := RX1) (by decide +kernel) rfl rfl ?_
  intro p e s m args below meth c ls E hH K0 hl
  subst hH
  exact w_X1_directionAt E K0 P rfl hl
theorem ds_X1_directionAt : Dsc yX1_directionAt 2 := ⟨by decide +kernel, by decide +kernel, by decide +kernel⟩
end
section
variable {p : Program} {l : Launch} {e : Env} {R : Room} {s : State} {m : MethodId} {args : Array Value} {below : List Frame} {meth : Method} {c : Code} {H : Heap} {locs : List Loc} {cells slots : Nat} {Q : State → Prop} {cc : ByteArray} {nL pc : Nat} {ret : Option FieldType} {ls : Array Slot} {rest : List Value} {D : va_G} {cyI : ClassId} {ad : Nat → Nat} {I : Nat → Int32} {A : Nat → Nat → Int32}
theorem rat_X3_49 (E : EX p s m args meth c cc nL RX3 ret) (K0 : KC D cyI ad s s.heap) (P : va_P D classes (cw cyI ad I A) H) (S : va_S (InN 44 ad) s.heap H locs) {q0 q1 a b n : Nat} {f : Nat → Int32} (he : (cw cyI ad I A)[q0]? = some (b, .inr (4, [.ref a]))) (ha : (cw cyI ad I A)[q1]? = some (a, .inl (cyI, n, .inl f))) (hn : n < 2 ^ 31) {i : Int32} (hR : RmOk R cells slots 0 2) (hls : ls.size = nL) (hro : (rest.map fun v => v.category).sum ≤ 8) (hdg : decode cc pc = .ok (.invokevirtual 49, 3)) (kk : W p l e R s m args below meth c H locs cells slots Q (F0 m (pc + 3) ls (.int (rAt n f i) :: rest))) : W p l e R s m args below meth c H locs cells slots Q (F0 m pc ls (.int i :: .ref b :: rest)) :=
  cv_ro E (c_X4_at l (fun _ _ h => h.1) P q0 q1 he ha hn i) (gV kML_X3_49 kIM_X4_at kSE_X4_at kIN_X4 kCO_X4_at) rfl ds_X4_at rfl KC_blind (fun U _ hW => (K0.at S).warm hW) (va_recv K0.k P (show classes[4]? = some (RX4, TX4, 1) from rfl) he) hR hls rfl hro hdg kk
end
section
variable {p : Program} {l : Launch} {e : Env} {s : State} {m : MethodId} {args : Array Value} {below : List Frame} {meth : Method} {c : Code} {D : va_G} {cyI : ClassId} {ad : Nat → Nat} {I : Nat → Int32} {A : Nat → Nat → Int32}
def B_X3_fieldStrength (I : Nat → Int32) (A : Nat → Nat → Int32) (x1 : Int32) : Int32 := (rAt 8 (A 5) x1)
set_option maxHeartbeats 4000000 in
set_option maxRecDepth 100000 in
theorem w_X3_fieldStrength (E : EX p s m args meth c cX3_fieldStrength 2 RX3 (some .int)) (K0 : KC D cyI ad s s.heap) (P : va_P D classes (cw cyI ad I A) s.heap)  {x1 : Int32} {out : Int32} (h : B_X3_fieldStrength I A x1 = out) {ls : Array Slot} (hl : lv_has ls 2 [(0, .ref (ad 1)), (1, .int x1)]) : W p l e (rmL 1) s m args below meth c s.heap [] 0 0 (MQ below (vp_Si (fun z => z = out)) args s 0 0 (fun _ => False)) (F0 m 0 ls []) := by
  unfold B_X3_fieldStrength at h
  refine lv_aload_n E.hx E.hb dX3_fieldStrength_0 rfl (lv_at hl 0 rfl) ?_
  refine gf_X3_32 E K0 P dX3_fieldStrength_1 ?_
  refine lv_iload_n E.hx E.hb dX3_fieldStrength_4 rfl (lv_at hl 1 rfl) ?_
  refine rat_X3_49 E K0 P va_S.rf cw_r5 cw_a5 (by decide) (by decide) hl.1 (Nat.le_of_ble_eq_true rfl) dX3_fieldStrength_5 ?_
  exact W.iret E.hx E.hb E.hr (fun t ht _ => ⟨_, rfl, h, ht⟩) (fun q hq => nomatch hq) dX3_fieldStrength_8 E.hk
theorem c_X3_fieldStrength (l : Launch) {H : Heap} {D : va_G} {cyI : ClassId} {ad : Nat → Nat} {I : Nat → Int32} {A : Nat → Nat → Int32} (P : va_P D classes (cw cyI ad I A) H) (x1 : Int32) : MRO l yX3_fieldStrength cX3_fieldStrength 2 (some .int) 1 [.ref (ad 1), .int x1] H (KC D cyI ad) (B_X3_fieldStrength I A x1) := by
  refine Mof (own := RX3) (by decide +kernel) rfl rfl ?_
  intro p e s m args below meth c ls E hH K0 hl
  subst hH
  exact w_X3_fieldStrength E K0 P rfl hl
theorem ds_X3_fieldStrength : Dsc yX3_fieldStrength 1 := ⟨by decide +kernel, by decide +kernel, by decide +kernel⟩
end
section
variable {p : Program} {l : Launch} {e : Env} {s : State} {m : MethodId} {args : Array Value} {below : List Frame} {meth : Method} {c : Code} {D : va_G} {cyI : ClassId} {ad : Nat → Nat} {I : Nat → Int32} {A : Nat → Nat → Int32}
def B_X3_fieldDirection (I : Nat → Int32) (A : Nat → Nat → Int32) (x1 : Int32) : Int32 := (rAt 8 (A 4) x1)
set_option maxHeartbeats 4000000 in
set_option maxRecDepth 100000 in
theorem w_X3_fieldDirection (E : EX p s m args meth c cX3_fieldDirection 2 RX3 (some .int)) (K0 : KC D cyI ad s s.heap) (P : va_P D classes (cw cyI ad I A) s.heap)  {x1 : Int32} {out : Int32} (h : B_X3_fieldDirection I A x1 = out) {ls : Array Slot} (hl : lv_has ls 2 [(0, .ref (ad 1)), (1, .int x1)]) : W p l e (rmL 1) s m args below meth c s.heap [] 0 0 (MQ below (vp_Si (fun z => z = out)) args s 0 0 (fun _ => False)) (F0 m 0 ls []) := by
  unfold B_X3_fieldDirection at h
  refine lv_aload_n E.hx E.hb dX3_fieldDirection_0 rfl (lv_at hl 0 rfl) ?_
  refine gf_X3_29 E K0 P dX3_fieldDirection_1 ?_
  refine lv_iload_n E.hx E.hb dX3_fieldDirection_4 rfl (lv_at hl 1 rfl) ?_
  refine rat_X3_49 E K0 P va_S.rf cw_r4 cw_a4 (by decide) (by decide) hl.1 (Nat.le_of_ble_eq_true rfl) dX3_fieldDirection_5 ?_
  exact W.iret E.hx E.hb E.hr (fun t ht _ => ⟨_, rfl, h, ht⟩) (fun q hq => nomatch hq) dX3_fieldDirection_8 E.hk
theorem c_X3_fieldDirection (l : Launch) {H : Heap} {D : va_G} {cyI : ClassId} {ad : Nat → Nat} {I : Nat → Int32} {A : Nat → Nat → Int32} (P : va_P D classes (cw cyI ad I A) H) (x1 : Int32) : MRO l yX3_fieldDirection cX3_fieldDirection 2 (some .int) 1 [.ref (ad 1), .int x1] H (KC D cyI ad) (B_X3_fieldDirection I A x1) := by
  refine Mof (own := RX3) (by decide +kernel) rfl rfl ?_
  intro p e s m args below meth c ls E hH K0 hl
  subst hH
  exact w_X3_fieldDirection E K0 P rfl hl
theorem ds_X3_fieldDirection : Dsc yX3_fieldDirection 1 := ⟨by decide +kernel, by decide +kernel, by decide +kernel⟩
end
section
variable {p : Program} {l : Launch} {e : Env} {R : Room} {s : State} {m : MethodId} {args : Array Value} {below : List Frame} {meth : Method} {c : Code} {H : Heap} {locs : List Loc} {cells slots : Nat} {Q : State → Prop} {cc : ByteArray} {nL pc : Nat} {ret : Option FieldType} {ls : Array Slot} {rest : List Value} {D : va_G} {cyI : ClassId} {ad : Nat → Nat} {I : Nat → Int32} {A : Nat → Nat → Int32}
theorem iv_X1_73 (E : EX p s m args meth c cc nL RX1 ret) (K0 : KC D cyI ad s s.heap) (P : va_P D classes (cw cyI ad I A) H) (S : va_S (InN 44 ad) s.heap H locs) {a0 : Int32} (hR : RmOk R cells slots 1 2) (hls : ls.size = nL) (hro : (rest.map fun v => v.category).sum ≤ 8) (hdg : decode cc pc = .ok (.invokevirtual 73, 3)) (kk : W p l e R s m args below meth c H locs cells slots Q (F0 m (pc + 3) ls (.int (B_X3_fieldStrength I A a0) :: rest))) : W p l e R s m args below meth c H locs cells slots Q (F0 m pc ls (.int a0 :: .ref (ad 1) :: rest)) :=
  cv_ro E (c_X3_fieldStrength l P a0 ) (gV kML_X1_73 kIM_X3_fieldStrength kSE_X3_fieldStrength kIN_X3 kCO_X3_fieldStrength) rfl ds_X3_fieldStrength rfl KC_blind (fun U _ hW => (K0.at S).warm hW) (va_recv K0.k P (show classes[3]? = some (RX3, TX3, 9) from rfl) cw_g1) hR hls rfl hro hdg kk
end
section
variable {p : Program} {l : Launch} {e : Env} {R : Room} {s : State} {m : MethodId} {args : Array Value} {below : List Frame} {meth : Method} {c : Code} {H : Heap} {locs : List Loc} {cells slots : Nat} {Q : State → Prop} {cc : ByteArray} {nL pc : Nat} {ret : Option FieldType} {ls : Array Slot} {rest : List Value} {D : va_G} {cyI : ClassId} {ad : Nat → Nat} {I : Nat → Int32} {A : Nat → Nat → Int32}
theorem iv_X1_78 (E : EX p s m args meth c cc nL RX1 ret) (K0 : KC D cyI ad s s.heap) (P : va_P D classes (cw cyI ad I A) H) (S : va_S (InN 44 ad) s.heap H locs) {a0 : Int32} (hR : RmOk R cells slots 1 2) (hls : ls.size = nL) (hro : (rest.map fun v => v.category).sum ≤ 8) (hdg : decode cc pc = .ok (.invokevirtual 78, 3)) (kk : W p l e R s m args below meth c H locs cells slots Q (F0 m (pc + 3) ls (.int (B_X3_fieldDirection I A a0) :: rest))) : W p l e R s m args below meth c H locs cells slots Q (F0 m pc ls (.int a0 :: .ref (ad 1) :: rest)) :=
  cv_ro E (c_X3_fieldDirection l P a0 ) (gV kML_X1_78 kIM_X3_fieldDirection kSE_X3_fieldDirection kIN_X3 kCO_X3_fieldDirection) rfl ds_X3_fieldDirection rfl KC_blind (fun U _ hW => (K0.at S).warm hW) (va_recv K0.k P (show classes[3]? = some (RX3, TX3, 9) from rfl) cw_g1) hR hls rfl hro hdg kk
end
section
variable {p : Program} {l : Launch} {e : Env} {R : Room} {s : State} {m : MethodId} {args : Array Value} {below : List Frame} {meth : Method} {c : Code} {H : Heap} {locs : List Loc} {cells slots : Nat} {Q : State → Prop} {cc : ByteArray} {nL pc : Nat} {ret : Option FieldType} {ls : Array Slot} {rest : List Value} {D : va_G} {cyI : ClassId} {ad : Nat → Nat} {I : Nat → Int32} {A : Nat → Nat → Int32}
theorem iv_X1_70 (E : EX p s m args meth c cc nL RX1 ret) (K0 : KC D cyI ad s s.heap) (S : va_S (InN 44 ad) s.heap H locs) {a0 a1 : Int32} (hR : RmOk R cells slots 1 3) (hls : ls.size = nL) (hro : (rest.map fun v => v.category).sum ≤ 8) (hdg : decode cc pc = .ok (.invokestatic 70, 3)) (kk : W p l e R s m args below meth c H locs cells slots Q (F0 m (pc + 3) ls (.int (B_X6_squareApart a0 a1) :: rest))) : W p l e R s m args below meth c H locs cells slots Q (F0 m pc ls (.int a1 :: .int a0 :: rest)) :=
  cn_ro E (c_X6_squareApart l (H := H) (D := D) (cyI := cyI) (ad := ad) a0 a1 ) (K0.nm _ (List.mem_of_getElem? (i := 4) rfl)) kST_X6_squareApart kIN_X6 kCO_X6_squareApart ds_X6_squareApart rfl KC_blind (fun U _ hW => (K0.at S).warm hW) hR hls rfl hro hdg kk
end
section
variable {p : Program} {l : Launch} {e : Env} {s : State} {m : MethodId} {args : Array Value} {below : List Frame} {meth : Method} {c : Code} {D : va_G} {cyI : ClassId} {ad : Nat → Nat} {I : Nat → Int32} {A : Nat → Nat → Int32}
def B_X1_heldWith_J38  (I : Nat → Int32) (A : Nat → Nat → Int32) (x1 x2 x3 : Int32) : Int32 := if (rAt 144 (A 12) x1) = (-1) then x3 else (x3 + ((B_X3_fieldStrength I A ((rAt 144 (A 12) x1))) * (B_X6_squareApart ((B_X3_fieldDirection I A ((rAt 144 (A 12) x1)))) x2)))
set_option maxHeartbeats 4000000 in
set_option maxRecDepth 100000 in
theorem w_X1_heldWith_J38 (E : EX p s m args meth c cX1_heldWith 5 RX1 (some .int)) (K0 : KC D cyI ad s s.heap) (P : va_P D classes (cw cyI ad I A) s.heap) {x1 x2 x3 : Int32} {out : Int32} (h : B_X1_heldWith_J38  I A x1 x2 x3 = out) {ls : Array Slot} (hl : lv_has ls 5 [(0, .ref (ad 2)), (1, .int x1), (2, .int x2), (3, .int x3)]) : W p l e (rmL 2) s m args below meth c s.heap [] 0 0 (MQ below (vp_Si (fun z => z = out)) args s 0 0 (fun _ => False)) (F0 m 38 ls []) := by
  unfold B_X1_heldWith_J38 at h
  refine lv_aload_n E.hx E.hb dX1_heldWith_38 rfl (lv_at hl 0 rfl) ?_
  refine gf_X1_29 E K0 P dX1_heldWith_39 ?_
  refine lv_iload_n E.hx E.hb dX1_heldWith_42 rfl (lv_at hl 1 rfl) ?_
  refine rat_X1_59 E K0 P va_S.rf cw_r12 cw_a12 (by decide) (by decide) hl.1 (Nat.le_of_ble_eq_true rfl) dX1_heldWith_43 ?_
  refine lv_istore (lv' := [(4, .int (rAt 144 (A 12) x1)), (0, .ref (ad 2)), (1, .int x1), (2, .int x2), (3, .int x3)]) E.hx E.hb dX1_heldWith_46 hl (by decide) rfl (fun ls hl => ?_)
  refine lv_iload E.hx E.hb dX1_heldWith_48 (lv_at hl 0 rfl) ?_
  refine lv_iconst (v := (-1)) E.hx E.hb dX1_heldWith_50 (by decide) ?_
  refine lv_icmp_eq (tgt := 80) E.hx E.hb dX1_heldWith_51 (by decide) (fun c_2 => ?_) (fun c_2 => ?_)
  · rw [if_pos c_2] at h
    refine lv_iload_n E.hx E.hb dX1_heldWith_80 rfl (lv_at hl 4 rfl) ?_
    exact W.iret E.hx E.hb E.hr (fun t ht _ => ⟨_, rfl, h, ht⟩) (fun q hq => nomatch hq) dX1_heldWith_81 E.hk
  · rw [if_neg c_2] at h
    refine lv_iload_n E.hx E.hb dX1_heldWith_54 rfl (lv_at hl 4 rfl) ?_
    refine lv_aload_n E.hx E.hb dX1_heldWith_55 rfl (lv_at hl 1 rfl) ?_
    refine gf_X1_45 E K0 P dX1_heldWith_56 ?_
    refine lv_iload E.hx E.hb dX1_heldWith_59 (lv_at hl 0 rfl) ?_
    refine iv_X1_73 E K0 P va_S.rf (by decide) hl.1 (Nat.le_of_ble_eq_true rfl) dX1_heldWith_61 ?_
    refine lv_aload_n E.hx E.hb dX1_heldWith_64 rfl (lv_at hl 1 rfl) ?_
    refine gf_X1_45 E K0 P dX1_heldWith_65 ?_
    refine lv_iload E.hx E.hb dX1_heldWith_68 (lv_at hl 0 rfl) ?_
    refine iv_X1_78 E K0 P va_S.rf (by decide) hl.1 (Nat.le_of_ble_eq_true rfl) dX1_heldWith_70 ?_
    refine lv_iload_n E.hx E.hb dX1_heldWith_73 rfl (lv_at hl 3 rfl) ?_
    refine iv_X1_70 E K0 va_S.rf (by decide) hl.1 (Nat.le_of_ble_eq_true rfl) dX1_heldWith_74 ?_
    refine lv_imul E.hx E.hb dX1_heldWith_77 ?_
    refine lv_iadd E.hx E.hb dX1_heldWith_78 ?_
    refine lv_istore_n (lv' := [(3, .int (x3 + ((B_X3_fieldStrength I A ((rAt 144 (A 12) x1))) * (B_X6_squareApart ((B_X3_fieldDirection I A ((rAt 144 (A 12) x1)))) x2)))), (4, .int (rAt 144 (A 12) x1)), (0, .ref (ad 2)), (1, .int x1), (2, .int x2)]) E.hx E.hb dX1_heldWith_79 rfl hl (by decide) rfl (fun ls hl => ?_)
    refine lv_iload_n E.hx E.hb dX1_heldWith_80 rfl (lv_at hl 0 rfl) ?_
    exact W.iret E.hx E.hb E.hr (fun t ht _ => ⟨_, rfl, h, ht⟩) (fun q hq => nomatch hq) dX1_heldWith_81 E.hk
def B_X1_heldWith (I : Nat → Int32) (A : Nat → Nat → Int32) (x1 x2 : Int32) : Int32 := if (rAt 144 (A 9) x1) = 2 then B_X1_heldWith_J38  I A x1 x2 ((0 + ((rAt 144 (A 11) x1) * (B_X6_squareApart ((rAt 144 (A 10) x1)) x2)))) else B_X1_heldWith_J38  I A x1 x2 0
set_option maxHeartbeats 4000000 in
set_option maxRecDepth 100000 in
theorem w_X1_heldWith (E : EX p s m args meth c cX1_heldWith 5 RX1 (some .int)) (K0 : KC D cyI ad s s.heap) (P : va_P D classes (cw cyI ad I A) s.heap)  {x1 x2 : Int32} {out : Int32} (h : B_X1_heldWith I A x1 x2 = out) {ls : Array Slot} (hl : lv_has ls 5 [(0, .ref (ad 2)), (1, .int x1), (2, .int x2)]) : W p l e (rmL 2) s m args below meth c s.heap [] 0 0 (MQ below (vp_Si (fun z => z = out)) args s 0 0 (fun _ => False)) (F0 m 0 ls []) := by
  unfold B_X1_heldWith at h
  refine lv_iconst (v := 0) E.hx E.hb dX1_heldWith_0 (by decide) ?_
  refine lv_istore_n (lv' := [(3, .int 0), (0, .ref (ad 2)), (1, .int x1), (2, .int x2)]) E.hx E.hb dX1_heldWith_1 rfl hl (by decide) rfl (fun ls hl => ?_)
  refine lv_aload_n E.hx E.hb dX1_heldWith_2 rfl (lv_at hl 1 rfl) ?_
  refine gf_X1_20 E K0 P dX1_heldWith_3 ?_
  refine lv_iload_n E.hx E.hb dX1_heldWith_6 rfl (lv_at hl 2 rfl) ?_
  refine rat_X1_59 E K0 P va_S.rf cw_r9 cw_a9 (by decide) (by decide) hl.1 (Nat.le_of_ble_eq_true rfl) dX1_heldWith_7 ?_
  refine lv_iconst (v := 2) E.hx E.hb dX1_heldWith_10 (by decide) ?_
  refine lv_icmp_ne (tgt := 38) E.hx E.hb dX1_heldWith_11 (by decide) (fun c_1 => ?_) (fun c_1 => ?_)
  · rw [if_neg c_1] at h
    exact w_X1_heldWith_J38 E K0 P h (lv_sub hl [1, 2, 3, 0] rfl)
  · rw [if_pos c_1] at h
    refine lv_iload_n E.hx E.hb dX1_heldWith_14 rfl (lv_at hl 0 rfl) ?_
    refine lv_aload_n E.hx E.hb dX1_heldWith_15 rfl (lv_at hl 1 rfl) ?_
    refine gf_X1_26 E K0 P dX1_heldWith_16 ?_
    refine lv_iload_n E.hx E.hb dX1_heldWith_19 rfl (lv_at hl 2 rfl) ?_
    refine rat_X1_59 E K0 P va_S.rf cw_r11 cw_a11 (by decide) (by decide) hl.1 (Nat.le_of_ble_eq_true rfl) dX1_heldWith_20 ?_
    refine lv_aload_n E.hx E.hb dX1_heldWith_23 rfl (lv_at hl 1 rfl) ?_
    refine gf_X1_23 E K0 P dX1_heldWith_24 ?_
    refine lv_iload_n E.hx E.hb dX1_heldWith_27 rfl (lv_at hl 2 rfl) ?_
    refine rat_X1_59 E K0 P va_S.rf cw_r10 cw_a10 (by decide) (by decide) hl.1 (Nat.le_of_ble_eq_true rfl) dX1_heldWith_28 ?_
    refine lv_iload_n E.hx E.hb dX1_heldWith_31 rfl (lv_at hl 3 rfl) ?_
    refine iv_X1_70 E K0 va_S.rf (by decide) hl.1 (Nat.le_of_ble_eq_true rfl) dX1_heldWith_32 ?_
    refine lv_imul E.hx E.hb dX1_heldWith_35 ?_
    refine lv_iadd E.hx E.hb dX1_heldWith_36 ?_
    refine lv_istore_n (lv' := [(3, .int (0 + ((rAt 144 (A 11) x1) * (B_X6_squareApart ((rAt 144 (A 10) x1)) x2)))), (0, .ref (ad 2)), (1, .int x1), (2, .int x2)]) E.hx E.hb dX1_heldWith_37 rfl hl (by decide) rfl (fun ls hl => ?_)
    exact w_X1_heldWith_J38 E K0 P h (lv_sub hl [1, 2, 3, 0] rfl)
theorem c_X1_heldWith (l : Launch) {H : Heap} {D : va_G} {cyI : ClassId} {ad : Nat → Nat} {I : Nat → Int32} {A : Nat → Nat → Int32} (P : va_P D classes (cw cyI ad I A) H) (x1 x2 : Int32) : MRO l yX1_heldWith cX1_heldWith 5 (some .int) 2 [.ref (ad 2), .int x1, .int x2] H (KC D cyI ad) (B_X1_heldWith I A x1 x2) := by
  refine Mof (own := RX1) (by decide +kernel) rfl rfl ?_
  intro p e s m args below meth c ls E hH K0 hl
  subst hH
  exact w_X1_heldWith E K0 P rfl hl
theorem ds_X1_heldWith : Dsc yX1_heldWith 2 := ⟨by decide +kernel, by decide +kernel, by decide +kernel⟩
end
section
variable {p : Program} {l : Launch} {e : Env} {R : Room} {s : State} {m : MethodId} {args : Array Value} {below : List Frame} {meth : Method} {c : Code} {H : Heap} {locs : List Loc} {cells slots : Nat} {Q : State → Prop} {cc : ByteArray} {nL pc : Nat} {ret : Option FieldType} {ls : Array Slot} {rest : List Value} {D : va_G} {cyI : ClassId} {ad : Nat → Nat} {I : Nat → Int32} {A : Nat → Nat → Int32}
theorem iv_X1_81 (E : EX p s m args meth c cc nL RX1 ret) (K0 : KC D cyI ad s s.heap) (P : va_P D classes (cw cyI ad I A) H) (S : va_S (InN 44 ad) s.heap H locs) {a0 a1 : Int32} (hR : RmOk R cells slots 2 5) (hls : ls.size = nL) (hro : (rest.map fun v => v.category).sum ≤ 8) (hdg : decode cc pc = .ok (.invokevirtual 81, 3)) (kk : W p l e R s m args below meth c H locs cells slots Q (F0 m (pc + 3) ls (.int (B_X1_heldWith I A a0 a1) :: rest))) : W p l e R s m args below meth c H locs cells slots Q (F0 m pc ls (.int a1 :: .int a0 :: .ref (ad 2) :: rest)) :=
  cv_ro E (c_X1_heldWith l P a0 a1 ) (gV kML_X1_81 kIM_X1_heldWith kSE_X1_heldWith kIN_X1 kCO_X1_heldWith) rfl ds_X1_heldWith rfl KC_blind (fun U _ hW => (K0.at S).warm hW) (va_recv K0.k P (show classes[1]? = some (RX1, TX1, 11) from rfl) cw_g2) hR hls rfl hro hdg kk
end
section
variable {p : Program} {l : Launch} {e : Env} {R : Room} {s : State} {m : MethodId} {args : Array Value} {below : List Frame} {meth : Method} {c : Code} {H : Heap} {locs : List Loc} {cells slots : Nat} {Q : State → Prop} {cc : ByteArray} {nL pc : Nat} {ret : Option FieldType} {ls : Array Slot} {rest : List Value} {D : va_G} {cyI : ClassId} {ad : Nat → Nat} {I : Nat → Int32} {A : Nat → Nat → Int32}
theorem iv_X1_84 (E : EX p s m args meth c cc nL RX1 ret) (K0 : KC D cyI ad s s.heap) (P : va_P D classes (cw cyI ad I A) H) (S : va_S (InN 44 ad) s.heap H locs) {a0 a1 : Int32} (hR : RmOk R cells slots 0 3) (hls : ls.size = nL) (hro : (rest.map fun v => v.category).sum ≤ 8) (hdg : decode cc pc = .ok (.invokevirtual 84, 3)) (kk : W p l e R s m args below meth c H locs cells slots Q (F0 m (pc + 3) ls (.int (B_X1_has I A a0 a1) :: rest))) : W p l e R s m args below meth c H locs cells slots Q (F0 m pc ls (.int a1 :: .int a0 :: .ref (ad 2) :: rest)) :=
  cv_ro E (c_X1_has l P a0 a1 ) (gV kML_X1_84 kIM_X1_has kSE_X1_has kIN_X1 kCO_X1_has) rfl ds_X1_has rfl KC_blind (fun U _ hW => (K0.at S).warm hW) (va_recv K0.k P (show classes[1]? = some (RX1, TX1, 11) from rfl) cw_g2) hR hls rfl hro hdg kk
end
section
variable {p : Program} {l : Launch} {e : Env} {R : Room} {s : State} {m : MethodId} {args : Array Value} {below : List Frame} {meth : Method} {c : Code} {H : Heap} {locs : List Loc} {cells slots : Nat} {Q : State → Prop} {cc : ByteArray} {nL pc : Nat} {ret : Option FieldType} {ls : Array Slot} {rest : List Value} {D : va_G} {cyI : ClassId} {ad : Nat → Nat} {I : Nat → Int32} {A : Nat → Nat → Int32}
theorem iv_X1_88 (E : EX p s m args meth c cc nL RX1 ret) (K0 : KC D cyI ad s s.heap) (P : va_P D classes (cw cyI ad I A) H) (S : va_S (InN 44 ad) s.heap H locs) {a0 a1 : Int32} (hR : RmOk R cells slots 1 3) (hls : ls.size = nL) (hro : (rest.map fun v => v.category).sum ≤ 8) (hdg : decode cc pc = .ok (.invokevirtual 88, 3)) (kk : W p l e R s m args below meth c H locs cells slots Q (F0 m (pc + 3) ls (.int (B_X1_directionAt I A a0 a1) :: rest))) : W p l e R s m args below meth c H locs cells slots Q (F0 m pc ls (.int a1 :: .int a0 :: .ref (ad 2) :: rest)) :=
  cv_ro E (c_X1_directionAt l P a0 a1 ) (gV kML_X1_88 kIM_X1_directionAt kSE_X1_directionAt kIN_X1 kCO_X1_directionAt) rfl ds_X1_directionAt rfl KC_blind (fun U _ hW => (K0.at S).warm hW) (va_recv K0.k P (show classes[1]? = some (RX1, TX1, 11) from rfl) cw_g2) hR hls rfl hro hdg kk
end
section
variable {p : Program} {l : Launch} {e : Env} {s : State} {m : MethodId} {args : Array Value} {below : List Frame} {meth : Method} {c : Code} {D : va_G} {cyI : ClassId} {ad : Nat → Nat} {I : Nat → Int32} {A : Nat → Nat → Int32}
def B_X1_energyWith_J111  (I : Nat → Int32) (A : Nat → Nat → Int32) (x1 x2 x3 x4 : Int32) : Int32 := if (B_X1_has I A x1 ((x2 + 1))) = 0 then x4 else (x4 + ((I 8) * (B_X6_squareApart ((B_X1_directionAt I A x1 ((x2 + 1)))) x3)))
set_option maxHeartbeats 4000000 in
set_option maxRecDepth 100000 in
theorem w_X1_energyWith_J111 (E : EX p s m args meth c cX1_energyWith 5 RX1 (some .int)) (K0 : KC D cyI ad s s.heap) (P : va_P D classes (cw cyI ad I A) s.heap) {x1 x2 x3 x4 : Int32} {out : Int32} (h : B_X1_energyWith_J111  I A x1 x2 x3 x4 = out) {ls : Array Slot} (hl : lv_has ls 5 [(0, .ref (ad 2)), (1, .int x1), (2, .int x2), (3, .int x3), (4, .int x4)]) : W p l e (rmL 3) s m args below meth c s.heap [] 0 0 (MQ below (vp_Si (fun z => z = out)) args s 0 0 (fun _ => False)) (F0 m 111 ls []) := by
  unfold B_X1_energyWith_J111 at h
  refine lv_aload_n E.hx E.hb dX1_energyWith_111 rfl (lv_at hl 0 rfl) ?_
  refine lv_iload_n E.hx E.hb dX1_energyWith_112 rfl (lv_at hl 1 rfl) ?_
  refine lv_iload_n E.hx E.hb dX1_energyWith_113 rfl (lv_at hl 2 rfl) ?_
  refine lv_iconst (v := 1) E.hx E.hb dX1_energyWith_114 (by decide) ?_
  refine lv_iadd E.hx E.hb dX1_energyWith_115 ?_
  refine iv_X1_84 E K0 P va_S.rf (by decide) hl.1 (Nat.le_of_ble_eq_true rfl) dX1_energyWith_116 ?_
  refine lv_if_eq (tgt := 144) E.hx E.hb dX1_energyWith_119 (by decide) (fun c_4 => ?_) (fun c_4 => ?_)
  · rw [if_pos c_4] at h
    refine lv_iload E.hx E.hb dX1_energyWith_144 (lv_at hl 4 rfl) ?_
    exact W.iret E.hx E.hb E.hr (fun t ht _ => ⟨_, rfl, h, ht⟩) (fun q hq => nomatch hq) dX1_energyWith_146 E.hk
  · rw [if_neg c_4] at h
    refine lv_iload E.hx E.hb dX1_energyWith_122 (lv_at hl 4 rfl) ?_
    refine lv_aload_n E.hx E.hb dX1_energyWith_124 rfl (lv_at hl 0 rfl) ?_
    refine gf_X1_42 E K0 P dX1_energyWith_125 ?_
    refine lv_aload_n E.hx E.hb dX1_energyWith_128 rfl (lv_at hl 0 rfl) ?_
    refine lv_iload_n E.hx E.hb dX1_energyWith_129 rfl (lv_at hl 1 rfl) ?_
    refine lv_iload_n E.hx E.hb dX1_energyWith_130 rfl (lv_at hl 2 rfl) ?_
    refine lv_iconst (v := 1) E.hx E.hb dX1_energyWith_131 (by decide) ?_
    refine lv_iadd E.hx E.hb dX1_energyWith_132 ?_
    refine iv_X1_88 E K0 P va_S.rf (by decide) hl.1 (Nat.le_of_ble_eq_true rfl) dX1_energyWith_133 ?_
    refine lv_iload_n E.hx E.hb dX1_energyWith_136 rfl (lv_at hl 3 rfl) ?_
    refine iv_X1_70 E K0 va_S.rf (by decide) hl.1 (Nat.le_of_ble_eq_true rfl) dX1_energyWith_137 ?_
    refine lv_imul E.hx E.hb dX1_energyWith_140 ?_
    refine lv_iadd E.hx E.hb dX1_energyWith_141 ?_
    refine lv_istore (lv' := [(4, .int (x4 + ((I 8) * (B_X6_squareApart ((B_X1_directionAt I A x1 ((x2 + 1)))) x3)))), (0, .ref (ad 2)), (1, .int x1), (2, .int x2), (3, .int x3)]) E.hx E.hb dX1_energyWith_142 hl (by decide) rfl (fun ls hl => ?_)
    refine lv_iload E.hx E.hb dX1_energyWith_144 (lv_at hl 0 rfl) ?_
    exact W.iret E.hx E.hb E.hr (fun t ht _ => ⟨_, rfl, h, ht⟩) (fun q hq => nomatch hq) dX1_energyWith_146 E.hk
def B_X1_energyWith_J78  (I : Nat → Int32) (A : Nat → Nat → Int32) (x1 x2 x3 x4 : Int32) : Int32 := if (B_X1_has I A x1 ((x2 - 1))) = 0 then B_X1_energyWith_J111  I A x1 x2 x3 x4 else B_X1_energyWith_J111  I A x1 x2 x3 ((x4 + ((I 8) * (B_X6_squareApart ((B_X1_directionAt I A x1 ((x2 - 1)))) x3))))
set_option maxHeartbeats 4000000 in
set_option maxRecDepth 100000 in
theorem w_X1_energyWith_J78 (E : EX p s m args meth c cX1_energyWith 5 RX1 (some .int)) (K0 : KC D cyI ad s s.heap) (P : va_P D classes (cw cyI ad I A) s.heap) {x1 x2 x3 x4 : Int32} {out : Int32} (h : B_X1_energyWith_J78  I A x1 x2 x3 x4 = out) {ls : Array Slot} (hl : lv_has ls 5 [(0, .ref (ad 2)), (1, .int x1), (2, .int x2), (3, .int x3), (4, .int x4)]) : W p l e (rmL 3) s m args below meth c s.heap [] 0 0 (MQ below (vp_Si (fun z => z = out)) args s 0 0 (fun _ => False)) (F0 m 78 ls []) := by
  unfold B_X1_energyWith_J78 at h
  refine lv_aload_n E.hx E.hb dX1_energyWith_78 rfl (lv_at hl 0 rfl) ?_
  refine lv_iload_n E.hx E.hb dX1_energyWith_79 rfl (lv_at hl 1 rfl) ?_
  refine lv_iload_n E.hx E.hb dX1_energyWith_80 rfl (lv_at hl 2 rfl) ?_
  refine lv_iconst (v := 1) E.hx E.hb dX1_energyWith_81 (by decide) ?_
  refine lv_isub E.hx E.hb dX1_energyWith_82 ?_
  refine iv_X1_84 E K0 P va_S.rf (by decide) hl.1 (Nat.le_of_ble_eq_true rfl) dX1_energyWith_83 ?_
  refine lv_if_eq (tgt := 111) E.hx E.hb dX1_energyWith_86 (by decide) (fun c_3 => ?_) (fun c_3 => ?_)
  · rw [if_pos c_3] at h
    exact w_X1_energyWith_J111 E K0 P h (lv_sub hl [0, 1, 2, 3, 4] rfl)
  · rw [if_neg c_3] at h
    refine lv_iload E.hx E.hb dX1_energyWith_89 (lv_at hl 4 rfl) ?_
    refine lv_aload_n E.hx E.hb dX1_energyWith_91 rfl (lv_at hl 0 rfl) ?_
    refine gf_X1_42 E K0 P dX1_energyWith_92 ?_
    refine lv_aload_n E.hx E.hb dX1_energyWith_95 rfl (lv_at hl 0 rfl) ?_
    refine lv_iload_n E.hx E.hb dX1_energyWith_96 rfl (lv_at hl 1 rfl) ?_
    refine lv_iload_n E.hx E.hb dX1_energyWith_97 rfl (lv_at hl 2 rfl) ?_
    refine lv_iconst (v := 1) E.hx E.hb dX1_energyWith_98 (by decide) ?_
    refine lv_isub E.hx E.hb dX1_energyWith_99 ?_
    refine iv_X1_88 E K0 P va_S.rf (by decide) hl.1 (Nat.le_of_ble_eq_true rfl) dX1_energyWith_100 ?_
    refine lv_iload_n E.hx E.hb dX1_energyWith_103 rfl (lv_at hl 3 rfl) ?_
    refine iv_X1_70 E K0 va_S.rf (by decide) hl.1 (Nat.le_of_ble_eq_true rfl) dX1_energyWith_104 ?_
    refine lv_imul E.hx E.hb dX1_energyWith_107 ?_
    refine lv_iadd E.hx E.hb dX1_energyWith_108 ?_
    refine lv_istore (lv' := [(4, .int (x4 + ((I 8) * (B_X6_squareApart ((B_X1_directionAt I A x1 ((x2 - 1)))) x3)))), (0, .ref (ad 2)), (1, .int x1), (2, .int x2), (3, .int x3)]) E.hx E.hb dX1_energyWith_109 hl (by decide) rfl (fun ls hl => ?_)
    exact w_X1_energyWith_J111 E K0 P h (lv_sub hl [1, 2, 3, 4, 0] rfl)
def B_X1_energyWith_J45  (I : Nat → Int32) (A : Nat → Nat → Int32) (x1 x2 x3 x4 : Int32) : Int32 := if (B_X1_has I A ((x1 + 1)) x2) = 0 then B_X1_energyWith_J78  I A x1 x2 x3 x4 else B_X1_energyWith_J78  I A x1 x2 x3 ((x4 + ((I 7) * (B_X6_squareApart ((B_X1_directionAt I A ((x1 + 1)) x2)) x3))))
set_option maxHeartbeats 4000000 in
set_option maxRecDepth 100000 in
theorem w_X1_energyWith_J45 (E : EX p s m args meth c cX1_energyWith 5 RX1 (some .int)) (K0 : KC D cyI ad s s.heap) (P : va_P D classes (cw cyI ad I A) s.heap) {x1 x2 x3 x4 : Int32} {out : Int32} (h : B_X1_energyWith_J45  I A x1 x2 x3 x4 = out) {ls : Array Slot} (hl : lv_has ls 5 [(0, .ref (ad 2)), (1, .int x1), (2, .int x2), (3, .int x3), (4, .int x4)]) : W p l e (rmL 3) s m args below meth c s.heap [] 0 0 (MQ below (vp_Si (fun z => z = out)) args s 0 0 (fun _ => False)) (F0 m 45 ls []) := by
  unfold B_X1_energyWith_J45 at h
  refine lv_aload_n E.hx E.hb dX1_energyWith_45 rfl (lv_at hl 0 rfl) ?_
  refine lv_iload_n E.hx E.hb dX1_energyWith_46 rfl (lv_at hl 1 rfl) ?_
  refine lv_iconst (v := 1) E.hx E.hb dX1_energyWith_47 (by decide) ?_
  refine lv_iadd E.hx E.hb dX1_energyWith_48 ?_
  refine lv_iload_n E.hx E.hb dX1_energyWith_49 rfl (lv_at hl 2 rfl) ?_
  refine iv_X1_84 E K0 P va_S.rf (by decide) hl.1 (Nat.le_of_ble_eq_true rfl) dX1_energyWith_50 ?_
  refine lv_if_eq (tgt := 78) E.hx E.hb dX1_energyWith_53 (by decide) (fun c_2 => ?_) (fun c_2 => ?_)
  · rw [if_pos c_2] at h
    exact w_X1_energyWith_J78 E K0 P h (lv_sub hl [0, 1, 2, 3, 4] rfl)
  · rw [if_neg c_2] at h
    refine lv_iload E.hx E.hb dX1_energyWith_56 (lv_at hl 4 rfl) ?_
    refine lv_aload_n E.hx E.hb dX1_energyWith_58 rfl (lv_at hl 0 rfl) ?_
    refine gf_X1_39 E K0 P dX1_energyWith_59 ?_
    refine lv_aload_n E.hx E.hb dX1_energyWith_62 rfl (lv_at hl 0 rfl) ?_
    refine lv_iload_n E.hx E.hb dX1_energyWith_63 rfl (lv_at hl 1 rfl) ?_
    refine lv_iconst (v := 1) E.hx E.hb dX1_energyWith_64 (by decide) ?_
    refine lv_iadd E.hx E.hb dX1_energyWith_65 ?_
    refine lv_iload_n E.hx E.hb dX1_energyWith_66 rfl (lv_at hl 2 rfl) ?_
    refine iv_X1_88 E K0 P va_S.rf (by decide) hl.1 (Nat.le_of_ble_eq_true rfl) dX1_energyWith_67 ?_
    refine lv_iload_n E.hx E.hb dX1_energyWith_70 rfl (lv_at hl 3 rfl) ?_
    refine iv_X1_70 E K0 va_S.rf (by decide) hl.1 (Nat.le_of_ble_eq_true rfl) dX1_energyWith_71 ?_
    refine lv_imul E.hx E.hb dX1_energyWith_74 ?_
    refine lv_iadd E.hx E.hb dX1_energyWith_75 ?_
    refine lv_istore (lv' := [(4, .int (x4 + ((I 7) * (B_X6_squareApart ((B_X1_directionAt I A ((x1 + 1)) x2)) x3)))), (0, .ref (ad 2)), (1, .int x1), (2, .int x2), (3, .int x3)]) E.hx E.hb dX1_energyWith_76 hl (by decide) rfl (fun ls hl => ?_)
    exact w_X1_energyWith_J78 E K0 P h (lv_sub hl [1, 2, 3, 4, 0] rfl)
def B_X1_energyWith (I : Nat → Int32) (A : Nat → Nat → Int32) (x1 x2 x3 : Int32) : Int32 := if (B_X1_has I A ((x1 - 1)) x2) = 0 then B_X1_energyWith_J45  I A x1 x2 x3 ((B_X1_heldWith I A ((B_X6_numberOf x1 x2)) x3)) else B_X1_energyWith_J45  I A x1 x2 x3 (((B_X1_heldWith I A ((B_X6_numberOf x1 x2)) x3) + ((I 7) * (B_X6_squareApart ((B_X1_directionAt I A ((x1 - 1)) x2)) x3))))
set_option maxHeartbeats 4000000 in
set_option maxRecDepth 100000 in
theorem w_X1_energyWith (E : EX p s m args meth c cX1_energyWith 5 RX1 (some .int)) (K0 : KC D cyI ad s s.heap) (P : va_P D classes (cw cyI ad I A) s.heap)  {x1 x2 x3 : Int32} {out : Int32} (h : B_X1_energyWith I A x1 x2 x3 = out) {ls : Array Slot} (hl : lv_has ls 5 [(0, .ref (ad 2)), (1, .int x1), (2, .int x2), (3, .int x3)]) : W p l e (rmL 3) s m args below meth c s.heap [] 0 0 (MQ below (vp_Si (fun z => z = out)) args s 0 0 (fun _ => False)) (F0 m 0 ls []) := by
  unfold B_X1_energyWith at h
  refine lv_aload_n E.hx E.hb dX1_energyWith_0 rfl (lv_at hl 0 rfl) ?_
  refine lv_iload_n E.hx E.hb dX1_energyWith_1 rfl (lv_at hl 1 rfl) ?_
  refine lv_iload_n E.hx E.hb dX1_energyWith_2 rfl (lv_at hl 2 rfl) ?_
  refine iv_X1_55 E K0 va_S.rf (by decide) hl.1 (Nat.le_of_ble_eq_true rfl) dX1_energyWith_3 ?_
  refine lv_iload_n E.hx E.hb dX1_energyWith_6 rfl (lv_at hl 3 rfl) ?_
  refine iv_X1_81 E K0 P va_S.rf (by decide) hl.1 (Nat.le_of_ble_eq_true rfl) dX1_energyWith_7 ?_
  refine lv_istore (lv' := [(4, .int (B_X1_heldWith I A ((B_X6_numberOf x1 x2)) x3)), (0, .ref (ad 2)), (1, .int x1), (2, .int x2), (3, .int x3)]) E.hx E.hb dX1_energyWith_10 hl (by decide) rfl (fun ls hl => ?_)
  refine lv_aload_n E.hx E.hb dX1_energyWith_12 rfl (lv_at hl 1 rfl) ?_
  refine lv_iload_n E.hx E.hb dX1_energyWith_13 rfl (lv_at hl 2 rfl) ?_
  refine lv_iconst (v := 1) E.hx E.hb dX1_energyWith_14 (by decide) ?_
  refine lv_isub E.hx E.hb dX1_energyWith_15 ?_
  refine lv_iload_n E.hx E.hb dX1_energyWith_16 rfl (lv_at hl 3 rfl) ?_
  refine iv_X1_84 E K0 P va_S.rf (by decide) hl.1 (Nat.le_of_ble_eq_true rfl) dX1_energyWith_17 ?_
  refine lv_if_eq (tgt := 45) E.hx E.hb dX1_energyWith_20 (by decide) (fun c_1 => ?_) (fun c_1 => ?_)
  · rw [if_pos c_1] at h
    exact w_X1_energyWith_J45 E K0 P h (lv_sub hl [1, 2, 3, 4, 0] rfl)
  · rw [if_neg c_1] at h
    refine lv_iload E.hx E.hb dX1_energyWith_23 (lv_at hl 0 rfl) ?_
    refine lv_aload_n E.hx E.hb dX1_energyWith_25 rfl (lv_at hl 1 rfl) ?_
    refine gf_X1_39 E K0 P dX1_energyWith_26 ?_
    refine lv_aload_n E.hx E.hb dX1_energyWith_29 rfl (lv_at hl 1 rfl) ?_
    refine lv_iload_n E.hx E.hb dX1_energyWith_30 rfl (lv_at hl 2 rfl) ?_
    refine lv_iconst (v := 1) E.hx E.hb dX1_energyWith_31 (by decide) ?_
    refine lv_isub E.hx E.hb dX1_energyWith_32 ?_
    refine lv_iload_n E.hx E.hb dX1_energyWith_33 rfl (lv_at hl 3 rfl) ?_
    refine iv_X1_88 E K0 P va_S.rf (by decide) hl.1 (Nat.le_of_ble_eq_true rfl) dX1_energyWith_34 ?_
    refine lv_iload_n E.hx E.hb dX1_energyWith_37 rfl (lv_at hl 4 rfl) ?_
    refine iv_X1_70 E K0 va_S.rf (by decide) hl.1 (Nat.le_of_ble_eq_true rfl) dX1_energyWith_38 ?_
    refine lv_imul E.hx E.hb dX1_energyWith_41 ?_
    refine lv_iadd E.hx E.hb dX1_energyWith_42 ?_
    refine lv_istore (lv' := [(4, .int ((B_X1_heldWith I A ((B_X6_numberOf x1 x2)) x3) + ((I 7) * (B_X6_squareApart ((B_X1_directionAt I A ((x1 - 1)) x2)) x3)))), (0, .ref (ad 2)), (1, .int x1), (2, .int x2), (3, .int x3)]) E.hx E.hb dX1_energyWith_43 hl (by decide) rfl (fun ls hl => ?_)
    exact w_X1_energyWith_J45 E K0 P h (lv_sub hl [1, 2, 3, 4, 0] rfl)
theorem c_X1_energyWith (l : Launch) {H : Heap} {D : va_G} {cyI : ClassId} {ad : Nat → Nat} {I : Nat → Int32} {A : Nat → Nat → Int32} (P : va_P D classes (cw cyI ad I A) H) (x1 x2 x3 : Int32) : MRO l yX1_energyWith cX1_energyWith 5 (some .int) 3 [.ref (ad 2), .int x1, .int x2, .int x3] H (KC D cyI ad) (B_X1_energyWith I A x1 x2 x3) := by
  refine Mof (own := RX1) (by decide +kernel) rfl rfl ?_
  intro p e s m args below meth c ls E hH K0 hl
  subst hH
  exact w_X1_energyWith E K0 P rfl hl
theorem ds_X1_energyWith : Dsc yX1_energyWith 3 := ⟨by decide +kernel, by decide +kernel, by decide +kernel⟩
end
section
variable {p : Program} {l : Launch} {e : Env} {s : State} {m : MethodId} {args : Array Value} {below : List Frame} {meth : Method} {c : Code} {D : va_G} {cyI : ClassId} {ad : Nat → Nat} {I : Nat → Int32} {A : Nat → Nat → Int32}
def B_X1_sum_J76 (k : Int32 → Int32 → Option (Int32)) (I : Nat → Int32) (A : Nat → Nat → Int32) (x1 x2 x3 x4 : Int32) : Option (Int32) := if (B_X1_has I A x3 ((x2 + 1))) = 0 then k x1 (x3 + 1) else k ((x1 + ((I 8) * (B_X6_squareApart x4 ((B_X1_directionAt I A x3 ((x2 + 1)))))))) (x3 + 1)
set_option maxHeartbeats 4000000 in
set_option maxRecDepth 100000 in
theorem w_X1_sum_J76 (E : EX p s m args meth c cX1_sum 5 RX1 (some .int)) (K0 : KC D cyI ad s s.heap) {x1 x2 x3 x4 : Int32} {k : Int32 → Int32 → Option (Int32)} {o : Int32} {out : Int32} (hk : ∀ {x1 x3 : Int32} (_ : k x1 x3 = some o) {ls : Array Slot}, lv_has ls 5 [(0, .ref (ad 2)), (1, .int x1), (2, .int x2), (3, .int x3)] → W p l e (rmL 3) s m args below meth c s.heap [] 0 0 (MQ below (vp_Si (fun z => z = out)) args s 0 0 (fun _ => False)) (F0 m 14 ls [])) (kx : ∀ {ls : Array Slot}, lv_has ls 5 [(0, .ref (ad 2)), (1, .int o), (2, .int x2)] → W p l e (rmL 3) s m args below meth c s.heap [] 0 0 (MQ below (vp_Si (fun z => z = out)) args s 0 0 (fun _ => False)) (F0 m 114 ls [])) (P : va_P D classes (cw cyI ad I A) s.heap) (h : B_X1_sum_J76 k I A x1 x2 x3 x4 = some o) {ls : Array Slot} (hl : lv_has ls 5 [(0, .ref (ad 2)), (1, .int x1), (2, .int x2), (3, .int x3), (4, .int x4)]) : W p l e (rmL 3) s m args below meth c s.heap [] 0 0 (MQ below (vp_Si (fun z => z = out)) args s 0 0 (fun _ => False)) (F0 m 76 ls []) := by
  unfold B_X1_sum_J76 at h
  refine lv_aload_n E.hx E.hb dX1_sum_76 rfl (lv_at hl 0 rfl) ?_
  refine lv_iload_n E.hx E.hb dX1_sum_77 rfl (lv_at hl 3 rfl) ?_
  refine lv_iload_n E.hx E.hb dX1_sum_78 rfl (lv_at hl 2 rfl) ?_
  refine lv_iconst (v := 1) E.hx E.hb dX1_sum_79 (by decide) ?_
  refine lv_iadd E.hx E.hb dX1_sum_80 ?_
  refine iv_X1_84 E K0 P va_S.rf (by decide) hl.1 (Nat.le_of_ble_eq_true rfl) dX1_sum_81 ?_
  refine lv_if_eq (tgt := 108) E.hx E.hb dX1_sum_84 (by decide) (fun c_4 => ?_) (fun c_4 => ?_)
  · rw [if_pos c_4] at h
    refine lv_iinc (v := x3 + 1) (lv' := [(3, .int (x3 + 1)), (0, .ref (ad 2)), (1, .int x1), (2, .int x2), (4, .int x4)]) E.hx E.hb dX1_sum_108 hl (k := 3) rfl rfl (by decide) rfl (fun ls hl => ?_)
    refine lv_goto (tgt := 14) E.hx E.hb dX1_sum_111 (by decide) ?_
    exact hk  h (lv_sub hl [1, 2, 3, 0] rfl)
  · rw [if_neg c_4] at h
    refine lv_iload_n E.hx E.hb dX1_sum_87 rfl (lv_at hl 1 rfl) ?_
    refine lv_aload_n E.hx E.hb dX1_sum_88 rfl (lv_at hl 0 rfl) ?_
    refine gf_X1_42 E K0 P dX1_sum_89 ?_
    refine lv_iload E.hx E.hb dX1_sum_92 (lv_at hl 4 rfl) ?_
    refine lv_aload_n E.hx E.hb dX1_sum_94 rfl (lv_at hl 0 rfl) ?_
    refine lv_iload_n E.hx E.hb dX1_sum_95 rfl (lv_at hl 3 rfl) ?_
    refine lv_iload_n E.hx E.hb dX1_sum_96 rfl (lv_at hl 2 rfl) ?_
    refine lv_iconst (v := 1) E.hx E.hb dX1_sum_97 (by decide) ?_
    refine lv_iadd E.hx E.hb dX1_sum_98 ?_
    refine iv_X1_88 E K0 P va_S.rf (by decide) hl.1 (Nat.le_of_ble_eq_true rfl) dX1_sum_99 ?_
    refine iv_X1_70 E K0 va_S.rf (by decide) hl.1 (Nat.le_of_ble_eq_true rfl) dX1_sum_102 ?_
    refine lv_imul E.hx E.hb dX1_sum_105 ?_
    refine lv_iadd E.hx E.hb dX1_sum_106 ?_
    refine lv_istore_n (lv' := [(1, .int (x1 + ((I 8) * (B_X6_squareApart x4 ((B_X1_directionAt I A x3 ((x2 + 1)))))))), (0, .ref (ad 2)), (2, .int x2), (3, .int x3), (4, .int x4)]) E.hx E.hb dX1_sum_107 rfl hl (by decide) rfl (fun ls hl => ?_)
    refine lv_iinc (v := x3 + 1) (lv' := [(3, .int (x3 + 1)), (1, .int (x1 + ((I 8) * (B_X6_squareApart x4 ((B_X1_directionAt I A x3 ((x2 + 1)))))))), (0, .ref (ad 2)), (2, .int x2), (4, .int x4)]) E.hx E.hb dX1_sum_108 hl (k := 3) rfl rfl (by decide) rfl (fun ls hl => ?_)
    refine lv_goto (tgt := 14) E.hx E.hb dX1_sum_111 (by decide) ?_
    exact hk  h (lv_sub hl [2, 1, 3, 0] rfl)
def B_X1_sum_L14 (I : Nat → Int32) (A : Nat → Nat → Int32) (x2 : Int32) : Nat → Int32 → Int32 → Option (Int32)
  | 0 => fun _ _ => none
  | n + 1 => fun x1 x3 => if (I 5) ≤ x3 then some (x1) else (if (B_X1_has I A ((x3 + 1)) x2) = 0 then B_X1_sum_J76 ((B_X1_sum_L14 I A x2 n)) I A ((x1 + (B_X1_heldWith I A ((B_X6_numberOf x3 x2)) ((B_X1_directionAt I A x3 x2))))) x2 x3 ((B_X1_directionAt I A x3 x2)) else B_X1_sum_J76 ((B_X1_sum_L14 I A x2 n)) I A (((x1 + (B_X1_heldWith I A ((B_X6_numberOf x3 x2)) ((B_X1_directionAt I A x3 x2)))) + ((I 7) * (B_X6_squareApart ((B_X1_directionAt I A x3 x2)) ((B_X1_directionAt I A ((x3 + 1)) x2)))))) x2 x3 ((B_X1_directionAt I A x3 x2)))
theorem B_X1_sum_L14_s (I : Nat → Int32) (A : Nat → Nat → Int32) (x2 x1 x3 : Int32) (n : Nat) : B_X1_sum_L14 I A x2 (n + 1) x1 x3 = if (I 5) ≤ x3 then some (x1) else (if (B_X1_has I A ((x3 + 1)) x2) = 0 then B_X1_sum_J76 ((B_X1_sum_L14 I A x2 n)) I A ((x1 + (B_X1_heldWith I A ((B_X6_numberOf x3 x2)) ((B_X1_directionAt I A x3 x2))))) x2 x3 ((B_X1_directionAt I A x3 x2)) else B_X1_sum_J76 ((B_X1_sum_L14 I A x2 n)) I A (((x1 + (B_X1_heldWith I A ((B_X6_numberOf x3 x2)) ((B_X1_directionAt I A x3 x2)))) + ((I 7) * (B_X6_squareApart ((B_X1_directionAt I A x3 x2)) ((B_X1_directionAt I A ((x3 + 1)) x2)))))) x2 x3 ((B_X1_directionAt I A x3 x2))) := rfl
set_option maxHeartbeats 4000000 in
set_option maxRecDepth 100000 in
theorem w_X1_sum_L14 (E : EX p s m args meth c cX1_sum 5 RX1 (some .int)) (K0 : KC D cyI ad s s.heap) (P : va_P D classes (cw cyI ad I A) s.heap) {x2 : Int32} {out : Int32} : ∀ (n : Nat) {x1 x3 : Int32} {o : Int32} (h : B_X1_sum_L14 I A x2 n x1 x3 = some o) {ls : Array Slot} (hl : lv_has ls 5 [(0, .ref (ad 2)), (1, .int x1), (2, .int x2), (3, .int x3)]) (kx : ∀ {ls : Array Slot}, lv_has ls 5 [(0, .ref (ad 2)), (1, .int o), (2, .int x2)] → W p l e (rmL 3) s m args below meth c s.heap [] 0 0 (MQ below (vp_Si (fun z => z = out)) args s 0 0 (fun _ => False)) (F0 m 114 ls [])), W p l e (rmL 3) s m args below meth c s.heap [] 0 0 (MQ below (vp_Si (fun z => z = out)) args s 0 0 (fun _ => False)) (F0 m 14 ls []) := by
  intro n
  induction n with
  | zero => intro x1 x3 o h ls hl kx; exact nomatch (show none = some o from h)
  | succ n ih =>
    intro x1 x3 o h ls hl kx
    rw [B_X1_sum_L14_s] at h
    refine lv_iload_n E.hx E.hb dX1_sum_14 rfl (lv_at hl 3 rfl) ?_
    refine lv_aload_n E.hx E.hb dX1_sum_15 rfl (lv_at hl 0 rfl) ?_
    refine gf_X1_32 E K0 P dX1_sum_16 ?_
    refine lv_icmp_ge (tgt := 114) E.hx E.hb dX1_sum_19 (by decide) (fun c_2 => ?_) (fun c_2 => ?_)
    · rw [if_pos c_2] at h
      cases h
      exact kx  (lv_sub hl [0, 1, 2] rfl)
    · rw [if_neg c_2] at h
      refine lv_aload_n E.hx E.hb dX1_sum_22 rfl (lv_at hl 0 rfl) ?_
      refine lv_iload_n E.hx E.hb dX1_sum_23 rfl (lv_at hl 3 rfl) ?_
      refine lv_iload_n E.hx E.hb dX1_sum_24 rfl (lv_at hl 2 rfl) ?_
      refine iv_X1_88 E K0 P va_S.rf (by decide) hl.1 (Nat.le_of_ble_eq_true rfl) dX1_sum_25 ?_
      refine lv_istore (lv' := [(4, .int (B_X1_directionAt I A x3 x2)), (0, .ref (ad 2)), (1, .int x1), (2, .int x2), (3, .int x3)]) E.hx E.hb dX1_sum_28 hl (by decide) rfl (fun ls hl => ?_)
      refine lv_iload_n E.hx E.hb dX1_sum_30 rfl (lv_at hl 2 rfl) ?_
      refine lv_aload_n E.hx E.hb dX1_sum_31 rfl (lv_at hl 1 rfl) ?_
      refine lv_iload_n E.hx E.hb dX1_sum_32 rfl (lv_at hl 4 rfl) ?_
      refine lv_iload_n E.hx E.hb dX1_sum_33 rfl (lv_at hl 3 rfl) ?_
      refine iv_X1_55 E K0 va_S.rf (by decide) hl.1 (Nat.le_of_ble_eq_true rfl) dX1_sum_34 ?_
      refine lv_iload E.hx E.hb dX1_sum_37 (lv_at hl 0 rfl) ?_
      refine iv_X1_81 E K0 P va_S.rf (by decide) hl.1 (Nat.le_of_ble_eq_true rfl) dX1_sum_39 ?_
      refine lv_iadd E.hx E.hb dX1_sum_42 ?_
      refine lv_istore_n (lv' := [(1, .int (x1 + (B_X1_heldWith I A ((B_X6_numberOf x3 x2)) ((B_X1_directionAt I A x3 x2))))), (4, .int (B_X1_directionAt I A x3 x2)), (0, .ref (ad 2)), (2, .int x2), (3, .int x3)]) E.hx E.hb dX1_sum_43 rfl hl (by decide) rfl (fun ls hl => ?_)
      refine lv_aload_n E.hx E.hb dX1_sum_44 rfl (lv_at hl 2 rfl) ?_
      refine lv_iload_n E.hx E.hb dX1_sum_45 rfl (lv_at hl 4 rfl) ?_
      refine lv_iconst (v := 1) E.hx E.hb dX1_sum_46 (by decide) ?_
      refine lv_iadd E.hx E.hb dX1_sum_47 ?_
      refine lv_iload_n E.hx E.hb dX1_sum_48 rfl (lv_at hl 3 rfl) ?_
      refine iv_X1_84 E K0 P va_S.rf (by decide) hl.1 (Nat.le_of_ble_eq_true rfl) dX1_sum_49 ?_
      refine lv_if_eq (tgt := 76) E.hx E.hb dX1_sum_52 (by decide) (fun c_3 => ?_) (fun c_3 => ?_)
      · rw [if_pos c_3] at h
        exact w_X1_sum_J76 E K0 (fun {_} {_}  h {ls} hl => ih  h hl kx) kx P h (lv_sub hl [2, 0, 3, 4, 1] rfl)
      · rw [if_neg c_3] at h
        refine lv_iload_n E.hx E.hb dX1_sum_55 rfl (lv_at hl 0 rfl) ?_
        refine lv_aload_n E.hx E.hb dX1_sum_56 rfl (lv_at hl 2 rfl) ?_
        refine gf_X1_39 E K0 P dX1_sum_57 ?_
        refine lv_iload E.hx E.hb dX1_sum_60 (lv_at hl 1 rfl) ?_
        refine lv_aload_n E.hx E.hb dX1_sum_62 rfl (lv_at hl 2 rfl) ?_
        refine lv_iload_n E.hx E.hb dX1_sum_63 rfl (lv_at hl 4 rfl) ?_
        refine lv_iconst (v := 1) E.hx E.hb dX1_sum_64 (by decide) ?_
        refine lv_iadd E.hx E.hb dX1_sum_65 ?_
        refine lv_iload_n E.hx E.hb dX1_sum_66 rfl (lv_at hl 3 rfl) ?_
        refine iv_X1_88 E K0 P va_S.rf (by decide) hl.1 (Nat.le_of_ble_eq_true rfl) dX1_sum_67 ?_
        refine iv_X1_70 E K0 va_S.rf (by decide) hl.1 (Nat.le_of_ble_eq_true rfl) dX1_sum_70 ?_
        refine lv_imul E.hx E.hb dX1_sum_73 ?_
        refine lv_iadd E.hx E.hb dX1_sum_74 ?_
        refine lv_istore_n (lv' := [(1, .int ((x1 + (B_X1_heldWith I A ((B_X6_numberOf x3 x2)) ((B_X1_directionAt I A x3 x2)))) + ((I 7) * (B_X6_squareApart ((B_X1_directionAt I A x3 x2)) ((B_X1_directionAt I A ((x3 + 1)) x2)))))), (4, .int (B_X1_directionAt I A x3 x2)), (0, .ref (ad 2)), (2, .int x2), (3, .int x3)]) E.hx E.hb dX1_sum_75 rfl hl (by decide) rfl (fun ls hl => ?_)
        exact w_X1_sum_J76 E K0 (fun {_} {_}  h {ls} hl => ih  h hl kx) kx P h (lv_sub hl [2, 0, 3, 4, 1] rfl)
def B_X1_sum_L4 (I : Nat → Int32) (A : Nat → Nat → Int32)  : Nat → Int32 → Int32 → Option (Int32)
  | 0 => fun _ _ => none
  | n + 1 => fun x1 x2 => if (I 6) ≤ x2 then some (x1) else ((B_X1_sum_L14 I A x2 FU x1 0).bind fun q_5 => (B_X1_sum_L4 I A n) q_5 (x2 + 1))
theorem B_X1_sum_L4_s (I : Nat → Int32) (A : Nat → Nat → Int32) (x1 x2 : Int32) (n : Nat) : B_X1_sum_L4 I A  (n + 1) x1 x2 = if (I 6) ≤ x2 then some (x1) else ((B_X1_sum_L14 I A x2 FU x1 0).bind fun q_5 => (B_X1_sum_L4 I A n) q_5 (x2 + 1)) := rfl
set_option maxHeartbeats 4000000 in
set_option maxRecDepth 100000 in
theorem w_X1_sum_L4 (E : EX p s m args meth c cX1_sum 5 RX1 (some .int)) (K0 : KC D cyI ad s s.heap) (P : va_P D classes (cw cyI ad I A) s.heap) {out : Int32} : ∀ (n : Nat) {x1 x2 : Int32} {o : Int32} (h : B_X1_sum_L4 I A  n x1 x2 = some o) {ls : Array Slot} (hl : lv_has ls 5 [(0, .ref (ad 2)), (1, .int x1), (2, .int x2)]) (kx : ∀ {ls : Array Slot}, lv_has ls 5 [(1, .int o)] → W p l e (rmL 3) s m args below meth c s.heap [] 0 0 (MQ below (vp_Si (fun z => z = out)) args s 0 0 (fun _ => False)) (F0 m 120 ls [])), W p l e (rmL 3) s m args below meth c s.heap [] 0 0 (MQ below (vp_Si (fun z => z = out)) args s 0 0 (fun _ => False)) (F0 m 4 ls []) := by
  intro n
  induction n with
  | zero => intro x1 x2 o h ls hl kx; exact nomatch (show none = some o from h)
  | succ n ih =>
    intro x1 x2 o h ls hl kx
    rw [B_X1_sum_L4_s] at h
    refine lv_iload_n E.hx E.hb dX1_sum_4 rfl (lv_at hl 2 rfl) ?_
    refine lv_aload_n E.hx E.hb dX1_sum_5 rfl (lv_at hl 0 rfl) ?_
    refine gf_X1_36 E K0 P dX1_sum_6 ?_
    refine lv_icmp_ge (tgt := 120) E.hx E.hb dX1_sum_9 (by decide) (fun c_1 => ?_) (fun c_1 => ?_)
    · rw [if_pos c_1] at h
      cases h
      exact kx  (lv_sub hl [1] rfl)
    · rw [if_neg c_1] at h
      refine lv_iconst (v := 0) E.hx E.hb dX1_sum_12 (by decide) ?_
      refine lv_istore_n (lv' := [(3, .int 0), (0, .ref (ad 2)), (1, .int x1), (2, .int x2)]) E.hx E.hb dX1_sum_13 rfl hl (by decide) rfl (fun ls hl => ?_)
      obtain ⟨q_5, e_6, h⟩ := obind h
      refine w_X1_sum_L14 E K0 P FU e_6 (lv_sub hl [1, 2, 3, 0] rfl) (fun {ls} hl => ?_)
      refine lv_iinc (v := x2 + 1) (lv' := [(2, .int (x2 + 1)), (0, .ref (ad 2)), (1, .int q_5)]) E.hx E.hb dX1_sum_114 hl (k := 2) rfl rfl (by decide) rfl (fun ls hl => ?_)
      refine lv_goto (tgt := 4) E.hx E.hb dX1_sum_117 (by decide) ?_
      exact ih  h (lv_sub hl [1, 2, 0] rfl) kx
def B_X1_sum (I : Nat → Int32) (A : Nat → Nat → Int32)  : Option (Int32) := (B_X1_sum_L4 I A  FU 0 0).bind fun q_7 => some q_7
set_option maxHeartbeats 4000000 in
set_option maxRecDepth 100000 in
theorem w_X1_sum (E : EX p s m args meth c cX1_sum 5 RX1 (some .int)) (K0 : KC D cyI ad s s.heap) (P : va_P D classes (cw cyI ad I A) s.heap)  {out : Int32} (h : B_X1_sum I A  = some out) {ls : Array Slot} (hl : lv_has ls 5 [(0, .ref (ad 2))]) : W p l e (rmL 3) s m args below meth c s.heap [] 0 0 (MQ below (vp_Si (fun z => z = out)) args s 0 0 (fun _ => False)) (F0 m 0 ls []) := by
  unfold B_X1_sum at h
  refine lv_iconst (v := 0) E.hx E.hb dX1_sum_0 (by decide) ?_
  refine lv_istore_n (lv' := [(1, .int 0), (0, .ref (ad 2))]) E.hx E.hb dX1_sum_1 rfl hl (by decide) rfl (fun ls hl => ?_)
  refine lv_iconst (v := 0) E.hx E.hb dX1_sum_2 (by decide) ?_
  refine lv_istore_n (lv' := [(2, .int 0), (1, .int 0), (0, .ref (ad 2))]) E.hx E.hb dX1_sum_3 rfl hl (by decide) rfl (fun ls hl => ?_)
  obtain ⟨q_7, e_8, h⟩ := obind h
  refine w_X1_sum_L4 E K0 P FU e_8 (lv_sub hl [2, 1, 0] rfl) (fun {ls} hl => ?_)
  refine lv_iload_n E.hx E.hb dX1_sum_120 rfl (lv_at hl 0 rfl) ?_
  exact W.iret E.hx E.hb E.hr (fun t ht _ => ⟨_, rfl, (Option.some.inj h), ht⟩) (fun q hq => nomatch hq) dX1_sum_121 E.hk
theorem c_X1_sum (l : Launch) {H : Heap} {D : va_G} {cyI : ClassId} {ad : Nat → Nat} {I : Nat → Int32} {A : Nat → Nat → Int32} (P : va_P D classes (cw cyI ad I A) H)  {out : Int32} (h : B_X1_sum I A  = some out) : MRO l yX1_sum cX1_sum 5 (some .int) 3 [.ref (ad 2)] H (KC D cyI ad) out := by
  refine Mof (own := RX1) (by decide +kernel) rfl rfl ?_
  intro p e s m args below meth c ls E hH K0 hl
  subst hH
  exact w_X1_sum E K0 P h hl
theorem ds_X1_sum : Dsc yX1_sum 0 := ⟨by decide +kernel, by decide +kernel, by decide +kernel⟩
end
section
variable {p : Program} {l : Launch} {e : Env} {s : State} {m : MethodId} {args : Array Value} {below : List Frame} {meth : Method} {c : Code} {D : va_G} {cyI : ClassId} {ad : Nat → Nat} {I : Nat → Int32} {A : Nat → Nat → Int32}
def B_X1_pixelAt (I : Nat → Int32) (A : Nat → Nat → Int32) (x1 x2 : Int32) : Int32 := (rAt 144 (A 12) ((B_X6_numberOf x1 x2)))
set_option maxHeartbeats 4000000 in
set_option maxRecDepth 100000 in
theorem w_X1_pixelAt (E : EX p s m args meth c cX1_pixelAt 3 RX1 (some .int)) (K0 : KC D cyI ad s s.heap) (P : va_P D classes (cw cyI ad I A) s.heap)  {x1 x2 : Int32} {out : Int32} (h : B_X1_pixelAt I A x1 x2 = out) {ls : Array Slot} (hl : lv_has ls 3 [(0, .ref (ad 2)), (1, .int x1), (2, .int x2)]) : W p l e (rmL 1) s m args below meth c s.heap [] 0 0 (MQ below (vp_Si (fun z => z = out)) args s 0 0 (fun _ => False)) (F0 m 0 ls []) := by
  unfold B_X1_pixelAt at h
  refine lv_aload_n E.hx E.hb dX1_pixelAt_0 rfl (lv_at hl 0 rfl) ?_
  refine gf_X1_29 E K0 P dX1_pixelAt_1 ?_
  refine lv_iload_n E.hx E.hb dX1_pixelAt_4 rfl (lv_at hl 1 rfl) ?_
  refine lv_iload_n E.hx E.hb dX1_pixelAt_5 rfl (lv_at hl 2 rfl) ?_
  refine iv_X1_55 E K0 va_S.rf (by decide) hl.1 (Nat.le_of_ble_eq_true rfl) dX1_pixelAt_6 ?_
  refine rat_X1_59 E K0 P va_S.rf cw_r12 cw_a12 (by decide) (by decide) hl.1 (Nat.le_of_ble_eq_true rfl) dX1_pixelAt_9 ?_
  exact W.iret E.hx E.hb E.hr (fun t ht _ => ⟨_, rfl, h, ht⟩) (fun q hq => nomatch hq) dX1_pixelAt_12 E.hk
theorem c_X1_pixelAt (l : Launch) {H : Heap} {D : va_G} {cyI : ClassId} {ad : Nat → Nat} {I : Nat → Int32} {A : Nat → Nat → Int32} (P : va_P D classes (cw cyI ad I A) H) (x1 x2 : Int32) : MRO l yX1_pixelAt cX1_pixelAt 3 (some .int) 1 [.ref (ad 2), .int x1, .int x2] H (KC D cyI ad) (B_X1_pixelAt I A x1 x2) := by
  refine Mof (own := RX1) (by decide +kernel) rfl rfl ?_
  intro p e s m args below meth c ls E hH K0 hl
  subst hH
  exact w_X1_pixelAt E K0 P rfl hl
theorem ds_X1_pixelAt : Dsc yX1_pixelAt 2 := ⟨by decide +kernel, by decide +kernel, by decide +kernel⟩
end
section
variable {p : Program} {l : Launch} {e : Env} {R : Room} {s : State} {m : MethodId} {args : Array Value} {below : List Frame} {meth : Method} {c : Code} {H : Heap} {locs : List Loc} {cells slots : Nat} {Q : State → Prop} {cc : ByteArray} {nL pc : Nat} {ret : Option FieldType} {ls : Array Slot} {rest : List Value} {D : va_G} {cyI : ClassId} {ad : Nat → Nat} {I : Nat → Int32} {A : Nat → Nat → Int32}
theorem iv_X1_63 (E : EX p s m args meth c cc nL RX1 ret) (K0 : KC D cyI ad s s.heap) (P : va_P D classes (cw cyI ad I A) H) (S : va_S (InN 44 ad) s.heap H locs) {a0 a1 : Int32} (hR : RmOk R cells slots 1 3) (hls : ls.size = nL) (hro : (rest.map fun v => v.category).sum ≤ 8) (hdg : decode cc pc = .ok (.invokevirtual 63, 3)) (kk : W p l e R s m args below meth c H locs cells slots Q (F0 m (pc + 3) ls (.int (B_X1_pixelAt I A a0 a1) :: rest))) : W p l e R s m args below meth c H locs cells slots Q (F0 m pc ls (.int a1 :: .int a0 :: .ref (ad 2) :: rest)) :=
  cv_ro E (c_X1_pixelAt l P a0 a1 ) (gV kML_X1_63 kIM_X1_pixelAt kSE_X1_pixelAt kIN_X1 kCO_X1_pixelAt) rfl ds_X1_pixelAt rfl KC_blind (fun U _ hW => (K0.at S).warm hW) (va_recv K0.k P (show classes[1]? = some (RX1, TX1, 11) from rfl) cw_g2) hR hls rfl hro hdg kk
end
section
variable {p : Program} {l : Launch} {e : Env} {s : State} {m : MethodId} {args : Array Value} {below : List Frame} {meth : Method} {c : Code} {D : va_G} {cyI : ClassId} {ad : Nat → Nat} {I : Nat → Int32} {A : Nat → Nat → Int32}
def B_X1_hasPixelIn_L15 (I : Nat → Int32) (A : Nat → Nat → Int32) (x1 x2 x3 x4 x5 : Int32) : Nat → Int32 → Option ((Unit) ⊕ Int32)
  | 0 => fun _ => none
  | n + 1 => fun x6 => if (x1 + x3) ≤ x6 then some (.inl ()) else (if (B_X1_pixelAt I A x6 x5) = (-1) then (B_X1_hasPixelIn_L15 I A x1 x2 x3 x4 x5 n) (x6 + 1) else some (.inr 1))
theorem B_X1_hasPixelIn_L15_s (I : Nat → Int32) (A : Nat → Nat → Int32) (x1 x2 x3 x4 x5 x6 : Int32) (n : Nat) : B_X1_hasPixelIn_L15 I A x1 x2 x3 x4 x5 (n + 1) x6 = if (x1 + x3) ≤ x6 then some (.inl ()) else (if (B_X1_pixelAt I A x6 x5) = (-1) then (B_X1_hasPixelIn_L15 I A x1 x2 x3 x4 x5 n) (x6 + 1) else some (.inr 1)) := rfl
set_option maxHeartbeats 4000000 in
set_option maxRecDepth 100000 in
theorem w_X1_hasPixelIn_L15 (E : EX p s m args meth c cX1_hasPixelIn 7 RX1 (some .boolean)) (K0 : KC D cyI ad s s.heap) (P : va_P D classes (cw cyI ad I A) s.heap) {x1 x2 x3 x4 x5 : Int32} {out : Int32} : ∀ (n : Nat) {x6 : Int32} {o : (Unit) ⊕ Int32} (h : B_X1_hasPixelIn_L15 I A x1 x2 x3 x4 x5 n x6 = some o) {ls : Array Slot} (hl : lv_has ls 7 [(0, .ref (ad 2)), (1, .int x1), (2, .int x2), (3, .int x3), (4, .int x4), (5, .int x5), (6, .int x6)]) (kx : ∀ {q : Unit}, o = .inl q → ∀ {ls : Array Slot}, lv_has ls 7 [(0, .ref (ad 2)), (1, .int x1), (2, .int x2), (3, .int x3), (4, .int x4), (5, .int x5)] → W p l e (rmL 2) s m args below meth c s.heap [] 0 0 (MQ below (vp_Si (fun z => z = out)) args s 0 0 (fun _ => False)) (F0 m 43 ls [])) (kr : ∀ r : Int32, o = .inr r → r = out), W p l e (rmL 2) s m args below meth c s.heap [] 0 0 (MQ below (vp_Si (fun z => z = out)) args s 0 0 (fun _ => False)) (F0 m 15 ls []) := by
  intro n
  induction n with
  | zero => intro x6 o h ls hl kx kr; exact nomatch (show none = some o from h)
  | succ n ih =>
    intro x6 o h ls hl kx kr
    rw [B_X1_hasPixelIn_L15_s] at h
    refine lv_iload E.hx E.hb dX1_hasPixelIn_15 (lv_at hl 6 rfl) ?_
    refine lv_iload_n E.hx E.hb dX1_hasPixelIn_17 rfl (lv_at hl 1 rfl) ?_
    refine lv_iload_n E.hx E.hb dX1_hasPixelIn_18 rfl (lv_at hl 3 rfl) ?_
    refine lv_iadd E.hx E.hb dX1_hasPixelIn_19 ?_
    refine lv_icmp_ge (tgt := 43) E.hx E.hb dX1_hasPixelIn_20 (by decide) (fun c_2 => ?_) (fun c_2 => ?_)
    · rw [if_pos c_2] at h
      cases h
      exact kx rfl  (lv_sub hl [0, 1, 2, 3, 4, 5] rfl)
    · rw [if_neg c_2] at h
      refine lv_aload_n E.hx E.hb dX1_hasPixelIn_23 rfl (lv_at hl 0 rfl) ?_
      refine lv_iload E.hx E.hb dX1_hasPixelIn_24 (lv_at hl 6 rfl) ?_
      refine lv_iload E.hx E.hb dX1_hasPixelIn_26 (lv_at hl 5 rfl) ?_
      refine iv_X1_63 E K0 P va_S.rf (by decide) hl.1 (Nat.le_of_ble_eq_true rfl) dX1_hasPixelIn_28 ?_
      refine lv_iconst (v := (-1)) E.hx E.hb dX1_hasPixelIn_31 (by decide) ?_
      refine lv_icmp_eq (tgt := 37) E.hx E.hb dX1_hasPixelIn_32 (by decide) (fun c_3 => ?_) (fun c_3 => ?_)
      · rw [if_pos c_3] at h
        refine lv_iinc (v := x6 + 1) (lv' := [(6, .int (x6 + 1)), (0, .ref (ad 2)), (1, .int x1), (2, .int x2), (3, .int x3), (4, .int x4), (5, .int x5)]) E.hx E.hb dX1_hasPixelIn_37 hl (k := 6) rfl rfl (by decide) rfl (fun ls hl => ?_)
        refine lv_goto (tgt := 15) E.hx E.hb dX1_hasPixelIn_40 (by decide) ?_
        exact ih  h (lv_sub hl [1, 2, 3, 4, 5, 6, 0] rfl) kx kr
      · rw [if_neg c_3] at h
        refine lv_iconst (v := 1) E.hx E.hb dX1_hasPixelIn_35 (by decide) ?_
        exact W.zret E.hx E.hb E.hr rfl (fun t ht _ => ⟨_, rfl, (kr _ (Option.some.inj h).symm), ht⟩) (fun q hq => nomatch hq) dX1_hasPixelIn_36 E.hk
def B_X1_hasPixelIn_L3 (I : Nat → Int32) (A : Nat → Nat → Int32) (x1 x2 x3 x4 : Int32) : Nat → Int32 → Option ((Unit) ⊕ Int32)
  | 0 => fun _ => none
  | n + 1 => fun x5 => if (x2 + x4) ≤ x5 then some (.inl ()) else ((B_X1_hasPixelIn_L15 I A x1 x2 x3 x4 x5 FU x1).bind fun q_4 => match q_4 with | .inr r => some (.inr r) | .inl q_4v => (B_X1_hasPixelIn_L3 I A x1 x2 x3 x4 n) (x5 + 1))
theorem B_X1_hasPixelIn_L3_s (I : Nat → Int32) (A : Nat → Nat → Int32) (x1 x2 x3 x4 x5 : Int32) (n : Nat) : B_X1_hasPixelIn_L3 I A x1 x2 x3 x4 (n + 1) x5 = if (x2 + x4) ≤ x5 then some (.inl ()) else ((B_X1_hasPixelIn_L15 I A x1 x2 x3 x4 x5 FU x1).bind fun q_4 => match q_4 with | .inr r => some (.inr r) | .inl q_4v => (B_X1_hasPixelIn_L3 I A x1 x2 x3 x4 n) (x5 + 1)) := rfl
set_option maxHeartbeats 4000000 in
set_option maxRecDepth 100000 in
theorem w_X1_hasPixelIn_L3 (E : EX p s m args meth c cX1_hasPixelIn 7 RX1 (some .boolean)) (K0 : KC D cyI ad s s.heap) (P : va_P D classes (cw cyI ad I A) s.heap) {x1 x2 x3 x4 : Int32} {out : Int32} : ∀ (n : Nat) {x5 : Int32} {o : (Unit) ⊕ Int32} (h : B_X1_hasPixelIn_L3 I A x1 x2 x3 x4 n x5 = some o) {ls : Array Slot} (hl : lv_has ls 7 [(0, .ref (ad 2)), (1, .int x1), (2, .int x2), (3, .int x3), (4, .int x4), (5, .int x5)]) (kx : ∀ {q : Unit}, o = .inl q → ∀ {ls : Array Slot}, lv_has ls 7 [] → W p l e (rmL 2) s m args below meth c s.heap [] 0 0 (MQ below (vp_Si (fun z => z = out)) args s 0 0 (fun _ => False)) (F0 m 49 ls [])) (kr : ∀ r : Int32, o = .inr r → r = out), W p l e (rmL 2) s m args below meth c s.heap [] 0 0 (MQ below (vp_Si (fun z => z = out)) args s 0 0 (fun _ => False)) (F0 m 3 ls []) := by
  intro n
  induction n with
  | zero => intro x5 o h ls hl kx kr; exact nomatch (show none = some o from h)
  | succ n ih =>
    intro x5 o h ls hl kx kr
    rw [B_X1_hasPixelIn_L3_s] at h
    refine lv_iload E.hx E.hb dX1_hasPixelIn_3 (lv_at hl 5 rfl) ?_
    refine lv_iload_n E.hx E.hb dX1_hasPixelIn_5 rfl (lv_at hl 2 rfl) ?_
    refine lv_iload E.hx E.hb dX1_hasPixelIn_6 (lv_at hl 4 rfl) ?_
    refine lv_iadd E.hx E.hb dX1_hasPixelIn_8 ?_
    refine lv_icmp_ge (tgt := 49) E.hx E.hb dX1_hasPixelIn_9 (by decide) (fun c_1 => ?_) (fun c_1 => ?_)
    · rw [if_pos c_1] at h
      cases h
      exact kx rfl  (lv_sub hl [] rfl)
    · rw [if_neg c_1] at h
      refine lv_iload_n E.hx E.hb dX1_hasPixelIn_12 rfl (lv_at hl 1 rfl) ?_
      refine lv_istore (lv' := [(6, .int x1), (0, .ref (ad 2)), (1, .int x1), (2, .int x2), (3, .int x3), (4, .int x4), (5, .int x5)]) E.hx E.hb dX1_hasPixelIn_13 hl (by decide) rfl (fun ls hl => ?_)
      obtain ⟨q_4, e_5, h⟩ := obind h
      refine w_X1_hasPixelIn_L15 E K0 P FU e_5 (lv_sub hl [1, 2, 3, 4, 5, 6, 0] rfl) (fun {q_4v} hq {ls} hl => ?_) (fun r hr => by subst hr; exact kr r (Option.some.inj h).symm)
      subst hq
      dsimp only at h
      refine lv_iinc (v := x5 + 1) (lv' := [(5, .int (x5 + 1)), (0, .ref (ad 2)), (1, .int x1), (2, .int x2), (3, .int x3), (4, .int x4)]) E.hx E.hb dX1_hasPixelIn_43 hl (k := 5) rfl rfl (by decide) rfl (fun ls hl => ?_)
      refine lv_goto (tgt := 3) E.hx E.hb dX1_hasPixelIn_46 (by decide) ?_
      exact ih  h (lv_sub hl [1, 2, 3, 4, 5, 0] rfl) kx kr
def B_X1_hasPixelIn (I : Nat → Int32) (A : Nat → Nat → Int32) (x1 x2 x3 x4 : Int32) : Option (Int32) := (B_X1_hasPixelIn_L3 I A x1 x2 x3 x4 FU x2).bind fun q_6 => match q_6 with | .inr r => some r | .inl q_6v => some 0
set_option maxHeartbeats 4000000 in
set_option maxRecDepth 100000 in
theorem w_X1_hasPixelIn (E : EX p s m args meth c cX1_hasPixelIn 7 RX1 (some .boolean)) (K0 : KC D cyI ad s s.heap) (P : va_P D classes (cw cyI ad I A) s.heap)  {x1 x2 x3 x4 : Int32} {out : Int32} (h : B_X1_hasPixelIn I A x1 x2 x3 x4 = some out) {ls : Array Slot} (hl : lv_has ls 7 [(0, .ref (ad 2)), (1, .int x1), (2, .int x2), (3, .int x3), (4, .int x4)]) : W p l e (rmL 2) s m args below meth c s.heap [] 0 0 (MQ below (vp_Si (fun z => z = out)) args s 0 0 (fun _ => False)) (F0 m 0 ls []) := by
  unfold B_X1_hasPixelIn at h
  refine lv_iload_n E.hx E.hb dX1_hasPixelIn_0 rfl (lv_at hl 2 rfl) ?_
  refine lv_istore (lv' := [(5, .int x2), (0, .ref (ad 2)), (1, .int x1), (2, .int x2), (3, .int x3), (4, .int x4)]) E.hx E.hb dX1_hasPixelIn_1 hl (by decide) rfl (fun ls hl => ?_)
  obtain ⟨q_6, e_7, h⟩ := obind h
  refine w_X1_hasPixelIn_L3 E K0 P FU e_7 (lv_sub hl [1, 2, 3, 4, 5, 0] rfl) (fun {q_6v} hq {ls} hl => ?_) (fun r hr => by subst hr; exact Option.some.inj h)
  subst hq
  dsimp only at h
  refine lv_iconst (v := 0) E.hx E.hb dX1_hasPixelIn_49 (by decide) ?_
  exact W.zret E.hx E.hb E.hr rfl (fun t ht _ => ⟨_, rfl, (Option.some.inj h), ht⟩) (fun q hq => nomatch hq) dX1_hasPixelIn_50 E.hk
theorem c_X1_hasPixelIn (l : Launch) {H : Heap} {D : va_G} {cyI : ClassId} {ad : Nat → Nat} {I : Nat → Int32} {A : Nat → Nat → Int32} (P : va_P D classes (cw cyI ad I A) H) (x1 x2 x3 x4 : Int32) {out : Int32} (h : B_X1_hasPixelIn I A x1 x2 x3 x4 = some out) : MRO l yX1_hasPixelIn cX1_hasPixelIn 7 (some .boolean) 2 [.ref (ad 2), .int x1, .int x2, .int x3, .int x4] H (KC D cyI ad) out := by
  refine Mof (own := RX1) (by decide +kernel) rfl rfl ?_
  intro p e s m args below meth c ls E hH K0 hl
  subst hH
  exact w_X1_hasPixelIn E K0 P h hl
theorem ds_X1_hasPixelIn : Dsc yX1_hasPixelIn 4 := ⟨by decide +kernel, by decide +kernel, by decide +kernel⟩
end
end WALK

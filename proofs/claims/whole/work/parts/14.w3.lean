section
section
variable {p : Program} {l : Launch} {e : Env} {R : Room} {s : State} {m : MethodId} {args : Array Value} {below : List Frame} {meth : Method} {c : Code} {H : Heap} {locs : List Loc} {cells slots : Nat} {Q : State → Prop} {cc : ByteArray} {nL pc : Nat} {ret : Option FieldType} {ls : Array Slot} {rest : List Value} {D : va_G} {cyI : ClassId} {ad : Nat → Nat} {I : Nat → Int32} {A : Nat → Nat → Int32}
theorem iv_X6_263 (E : EX p s m args meth c cc nL RX6 ret) (K0 : KC D cyI ad s s.heap) (S : va_S (InN 44 ad) s.heap H locs) {a0 : Int32} (hR : RmOk R cells slots 0 1) (hls : ls.size = nL) (hro : (rest.map fun v => v.category).sum ≤ 8) (hdg : decode cc pc = .ok (.invokestatic 263, 3)) (kk : W p l e R s m args below meth c H locs cells slots Q (F0 m (pc + 3) ls (.int (B_J9_abs_0f7a4 a0) :: rest))) : W p l e R s m args below meth c H locs cells slots Q (F0 m pc ls (.int a0 :: rest)) :=
  cq_ro E (c_J9_abs_0f7a4 l (H := H) (D := D) (cyI := cyI) (ad := ad) a0 ) kML_X6_263 kST_J9_abs_0f7a4 kIN_J9 kCO_J9_abs_0f7a4 ds_J9_abs_0f7a4 rfl KC_blind (fun U _ hW => (K0.at S).warm hW) hR hls rfl hro hdg kk
end
section
variable {p : Program} {l : Launch} {e : Env} {s : State} {m : MethodId} {args : Array Value} {below : List Frame} {meth : Method} {c : Code} {D : va_G} {cyI : ClassId} {ad : Nat → Nat}
def B_X6_greyOf (x0 x1 : Int32) : Int32 := if (B_J9_abs_0f7a4 (B_X6_onFrom x1 x0)) < 0 then 0 else (if 8 ≤ (B_J9_abs_0f7a4 (B_X6_onFrom x1 x0)) then 0 else greyV (B_J9_abs_0f7a4 (B_X6_onFrom x1 x0)).toNatClampNeg)
set_option maxHeartbeats 4000000 in
set_option maxRecDepth 100000 in
theorem w_X6_greyOf (E : EX p s m args meth c cX6_greyOf 3 RX6 (some .int)) (K0 : KC D cyI ad s s.heap) {x0 x1 : Int32} {out : Int32} (h : B_X6_greyOf x0 x1 = out) {ls : Array Slot} (hl : lv_has ls 3 [(0, .int x0), (1, .int x1)]) : W p l e (rmL 1) s m args below meth c s.heap [] 0 0 (MQ below (vp_Si (fun z => z = out)) args s 0 0 (fun _ => False)) (F0 m 0 ls []) := by
  obtain ⟨t, hZ, hT⟩ := K0.2.1
  have S : va_S (InN 44 ad) s.heap s.heap [] := va_S.rf
  unfold B_X6_greyOf at h
  refine lv_iload_n E.hx E.hb dX6_greyOf_0 rfl (lv_at hl 1 rfl) ?_
  refine lv_iload_n E.hx E.hb dX6_greyOf_1 rfl (lv_at hl 0 rfl) ?_
  refine iv_X6_260 E K0 S (by decide) hl.1 (Nat.le_of_ble_eq_true rfl) dX6_greyOf_2 ?_
  refine iv_X6_263 E K0 S (by decide) hl.1 (Nat.le_of_ble_eq_true rfl) dX6_greyOf_5 ?_
  generalize (B_J9_abs_0f7a4 (B_X6_onFrom x1 x0)) = v at h ⊢
  refine lv_istore_n (lv' := [(2, .int v), (0, .int x0), (1, .int x1)]) E.hx E.hb dX6_greyOf_8 rfl hl (by decide) rfl (fun ls hl => ?_)
  refine lv_iload_n E.hx E.hb dX6_greyOf_9 rfl (lv_at hl 0 rfl) ?_
  refine lv_if_lt (tgt := 29) E.hx E.hb dX6_greyOf_10 (by decide) (fun c_1 => ?_) (fun c_1 => ?_)
  · rw [if_pos c_1] at h
    refine lv_iconst (v := 0) E.hx E.hb dX6_greyOf_29 (by decide) ?_
    exact W.iret E.hx E.hb E.hr (fun t ht _ => ⟨_, rfl, h, ht⟩) (fun q hq => nomatch hq) dX6_greyOf_30 E.hk
  · rw [if_neg c_1] at h
    refine lv_iload_n E.hx E.hb dX6_greyOf_13 rfl (lv_at hl 0 rfl) ?_
    refine va_gets E.hx E.hb hZ S E.ho (E.ht _ kFL_X6_268) (fun _ h9 => h9) dX6_greyOf_14 ?_
    refine va_tlen (v := 8) E.hx E.hb hT S rfl dX6_greyOf_17 ?_
    refine lv_icmp_ge (tgt := 29) E.hx E.hb dX6_greyOf_18 (by decide) (fun c_2 => ?_) (fun c_2 => ?_)
    · rw [if_pos c_2] at h
      refine lv_iconst (v := 0) E.hx E.hb dX6_greyOf_29 (by decide) ?_
      exact W.iret E.hx E.hb E.hr (fun t ht _ => ⟨_, rfl, h, ht⟩) (fun q hq => nomatch hq) dX6_greyOf_30 E.hk
    · rw [if_neg c_2] at h
      refine va_gets E.hx E.hb hZ S E.ho (E.ht _ kFL_X6_268) (fun _ h9 => h9) dX6_greyOf_21 ?_
      refine lv_iload_n E.hx E.hb dX6_greyOf_24 rfl (lv_at hl 0 rfl) ?_
      refine va_ti E.hx E.hb hT S (rAt_in (n := 8) c_1 c_2 (by decide)) rfl dX6_greyOf_25 ?_
      refine lv_goto (tgt := 30) E.hx E.hb dX6_greyOf_26 (by decide) ?_
      exact W.iret E.hx E.hb E.hr (fun t ht _ => ⟨_, rfl, h, ht⟩) (fun q hq => nomatch hq) dX6_greyOf_30 E.hk
theorem c_X6_greyOf (l : Launch) {H : Heap} {D : va_G} {cyI : ClassId} {ad : Nat → Nat} (x0 x1 : Int32) : MRO l yX6_greyOf cX6_greyOf 3 (some .int) 1 [.int x0, .int x1] H (KC D cyI ad) (B_X6_greyOf x0 x1) := by
  refine Mof (own := RX6) (by decide +kernel) rfl rfl ?_
  intro p e s m args below meth c ls E hH K0 hl
  subst hH
  exact w_X6_greyOf E K0 rfl hl
theorem ds_X6_greyOf : Dsc yX6_greyOf 2 := ⟨by decide +kernel, by decide +kernel, by decide +kernel⟩
end
end
section WALK
section
variable {p : Program} {l : Launch} {e : Env} {R : Room} {s : State} {m : MethodId} {args : Array Value} {below : List Frame} {meth : Method} {c : Code} {H : Heap} {locs : List Loc} {cells slots : Nat} {Q : State → Prop} {cc : ByteArray} {nL pc : Nat} {ret : Option FieldType} {ls : Array Slot} {rest : List Value} {D : va_G} {cyI : ClassId} {ad : Nat → Nat} {I : Nat → Int32} {A : Nat → Nat → Int32}
theorem iv_X1_133 (E : EX p s m args meth c cc nL RX1 ret) (K0 : KC D cyI ad s s.heap) (S : va_S (InN 44 ad) s.heap H locs) {a0 a1 : Int32} (hR : RmOk R cells slots 1 3) (hls : ls.size = nL) (hro : (rest.map fun v => v.category).sum ≤ 8) (hdg : decode cc pc = .ok (.invokestatic 133, 3)) (kk : W p l e R s m args below meth c H locs cells slots Q (F0 m (pc + 3) ls (.int (B_X6_greyOf a0 a1) :: rest))) : W p l e R s m args below meth c H locs cells slots Q (F0 m pc ls (.int a1 :: .int a0 :: rest)) :=
  cn_ro E (c_X6_greyOf l (H := H) (D := D) (cyI := cyI) (ad := ad) a0 a1 ) (K0.nm _ (List.mem_of_getElem? (i := 6) rfl)) kST_X6_greyOf kIN_X6 kCO_X6_greyOf ds_X6_greyOf rfl KC_blind (fun U _ hW => (K0.at S).warm hW) hR hls rfl hro hdg kk
end
section
variable {p : Program} {l : Launch} {e : Env} {s : State} {m : MethodId} {args : Array Value} {below : List Frame} {meth : Method} {c : Code} {D : va_G} {cyI : ClassId} {ad : Nat → Nat} {I : Nat → Int32} {A : Nat → Nat → Int32}
def B_X1_greyOfPixel_L66 (I : Nat → Int32) (A : Nat → Nat → Int32) (x2 x5 x7 x8 x9 : Int32) : Nat → Int32 → Int32 → Int32 → Option (Int32 × Int32)
  | 0 => fun _ _ _ => none
  | n + 1 => fun x3 x4 x10 => if x7 ≤ x10 then some ((x3, x4)) else (B_X1_greyOfPixel_L66 I A x2 x5 x7 x8 x9 n) ((x3 + (B_X6_greyOf ((B_X1_directionAt I A x10 x9)) x2))) (x4 + 1) (x10 + 1)
theorem B_X1_greyOfPixel_L66_s (I : Nat → Int32) (A : Nat → Nat → Int32) (x2 x5 x7 x8 x9 x3 x4 x10 : Int32) (n : Nat) : B_X1_greyOfPixel_L66 I A x2 x5 x7 x8 x9 (n + 1) x3 x4 x10 = if x7 ≤ x10 then some ((x3, x4)) else (B_X1_greyOfPixel_L66 I A x2 x5 x7 x8 x9 n) ((x3 + (B_X6_greyOf ((B_X1_directionAt I A x10 x9)) x2))) (x4 + 1) (x10 + 1) := rfl
set_option maxHeartbeats 4000000 in
set_option maxRecDepth 100000 in
theorem w_X1_greyOfPixel_L66 (E : EX p s m args meth c cX1_greyOfPixel 11 RX1 (some .int)) (K0 : KC D cyI ad s s.heap) (P : va_P D classes (cw cyI ad I A) s.heap) {x2 x5 x7 x8 x9 : Int32} {out : Int32} : ∀ (n : Nat) {x3 x4 x10 : Int32} {o : Int32 × Int32} (h : B_X1_greyOfPixel_L66 I A x2 x5 x7 x8 x9 n x3 x4 x10 = some o) {ls : Array Slot} (hl : lv_has ls 11 [(0, .ref (ad 2)), (2, .int x2), (3, .int x3), (4, .int x4), (5, .int x5), (7, .int x7), (8, .int x8), (9, .int x9), (10, .int x10)]) (kx : ∀ {ls : Array Slot}, lv_has ls 11 [(0, .ref (ad 2)), (2, .int x2), (3, .int o.1), (4, .int o.2), (5, .int x5), (7, .int x7), (8, .int x8), (9, .int x9)] → W p l e (rmL 2) s m args below meth c s.heap [] 0 0 (MQ below (vp_Si (fun z => z = out)) args s 0 0 (fun _ => False)) (F0 m 97 ls [])), W p l e (rmL 2) s m args below meth c s.heap [] 0 0 (MQ below (vp_Si (fun z => z = out)) args s 0 0 (fun _ => False)) (F0 m 66 ls []) := by
  intro n
  induction n with
  | zero => intro x3 x4 x10 o h ls hl kx; exact nomatch (show none = some o from h)
  | succ n ih =>
    intro x3 x4 x10 o h ls hl kx
    rw [B_X1_greyOfPixel_L66_s] at h
    refine lv_iload E.hx E.hb dX1_greyOfPixel_66 (lv_at hl 8 rfl) ?_
    refine lv_iload E.hx E.hb dX1_greyOfPixel_68 (lv_at hl 5 rfl) ?_
    refine lv_icmp_ge (tgt := 97) E.hx E.hb dX1_greyOfPixel_70 (by decide) (fun c_2 => ?_) (fun c_2 => ?_)
    · rw [if_pos c_2] at h
      cases h
      exact kx  (lv_sub hl [0, 1, 2, 3, 4, 5, 6, 7] rfl)
    · rw [if_neg c_2] at h
      refine lv_iload_n E.hx E.hb dX1_greyOfPixel_73 rfl (lv_at hl 2 rfl) ?_
      refine lv_aload_n E.hx E.hb dX1_greyOfPixel_74 rfl (lv_at hl 0 rfl) ?_
      refine lv_iload E.hx E.hb dX1_greyOfPixel_75 (lv_at hl 8 rfl) ?_
      refine lv_iload E.hx E.hb dX1_greyOfPixel_77 (lv_at hl 7 rfl) ?_
      refine iv_X1_88 E K0 P va_S.rf (by decide) hl.1 (Nat.le_of_ble_eq_true rfl) dX1_greyOfPixel_79 ?_
      refine lv_iload_n E.hx E.hb dX1_greyOfPixel_82 rfl (lv_at hl 1 rfl) ?_
      refine iv_X1_133 E K0 va_S.rf (by decide) hl.1 (Nat.le_of_ble_eq_true rfl) dX1_greyOfPixel_83 ?_
      refine lv_iadd E.hx E.hb dX1_greyOfPixel_86 ?_
      refine lv_istore_n (lv' := [(3, .int (x3 + (B_X6_greyOf ((B_X1_directionAt I A x10 x9)) x2))), (0, .ref (ad 2)), (2, .int x2), (4, .int x4), (5, .int x5), (7, .int x7), (8, .int x8), (9, .int x9), (10, .int x10)]) E.hx E.hb dX1_greyOfPixel_87 rfl hl (by decide) rfl (fun ls hl => ?_)
      refine lv_iinc (v := x4 + 1) (lv' := [(4, .int (x4 + 1)), (3, .int (x3 + (B_X6_greyOf ((B_X1_directionAt I A x10 x9)) x2))), (0, .ref (ad 2)), (2, .int x2), (5, .int x5), (7, .int x7), (8, .int x8), (9, .int x9), (10, .int x10)]) E.hx E.hb dX1_greyOfPixel_88 hl (k := 3) rfl rfl (by decide) rfl (fun ls hl => ?_)
      refine lv_iinc (v := x10 + 1) (lv' := [(10, .int (x10 + 1)), (4, .int (x4 + 1)), (3, .int (x3 + (B_X6_greyOf ((B_X1_directionAt I A x10 x9)) x2))), (0, .ref (ad 2)), (2, .int x2), (5, .int x5), (7, .int x7), (8, .int x8), (9, .int x9)]) E.hx E.hb dX1_greyOfPixel_91 hl (k := 8) rfl rfl (by decide) rfl (fun ls hl => ?_)
      refine lv_goto (tgt := 66) E.hx E.hb dX1_greyOfPixel_94 (by decide) ?_
      exact ih  h (lv_sub hl [3, 4, 2, 1, 5, 6, 7, 8, 0] rfl) kx
def B_X1_greyOfPixel_L55 (I : Nat → Int32) (A : Nat → Nat → Int32) (x2 x5 x7 x8 : Int32) : Nat → Int32 → Int32 → Int32 → Option (Int32 × Int32)
  | 0 => fun _ _ _ => none
  | n + 1 => fun x3 x4 x9 => if x8 ≤ x9 then some ((x3, x4)) else ((B_X1_greyOfPixel_L66 I A x2 x5 x7 x8 x9 FU x3 x4 x5).bind fun q_3 => (B_X1_greyOfPixel_L55 I A x2 x5 x7 x8 n) q_3.1 q_3.2 (x9 + 1))
theorem B_X1_greyOfPixel_L55_s (I : Nat → Int32) (A : Nat → Nat → Int32) (x2 x5 x7 x8 x3 x4 x9 : Int32) (n : Nat) : B_X1_greyOfPixel_L55 I A x2 x5 x7 x8 (n + 1) x3 x4 x9 = if x8 ≤ x9 then some ((x3, x4)) else ((B_X1_greyOfPixel_L66 I A x2 x5 x7 x8 x9 FU x3 x4 x5).bind fun q_3 => (B_X1_greyOfPixel_L55 I A x2 x5 x7 x8 n) q_3.1 q_3.2 (x9 + 1)) := rfl
set_option maxHeartbeats 4000000 in
set_option maxRecDepth 100000 in
theorem w_X1_greyOfPixel_L55 (E : EX p s m args meth c cX1_greyOfPixel 11 RX1 (some .int)) (K0 : KC D cyI ad s s.heap) (P : va_P D classes (cw cyI ad I A) s.heap) {x2 x5 x7 x8 : Int32} {out : Int32} : ∀ (n : Nat) {x3 x4 x9 : Int32} {o : Int32 × Int32} (h : B_X1_greyOfPixel_L55 I A x2 x5 x7 x8 n x3 x4 x9 = some o) {ls : Array Slot} (hl : lv_has ls 11 [(0, .ref (ad 2)), (2, .int x2), (3, .int x3), (4, .int x4), (5, .int x5), (7, .int x7), (8, .int x8), (9, .int x9)]) (kx : ∀ {ls : Array Slot}, lv_has ls 11 [(3, .int o.1), (4, .int o.2)] → W p l e (rmL 2) s m args below meth c s.heap [] 0 0 (MQ below (vp_Si (fun z => z = out)) args s 0 0 (fun _ => False)) (F0 m 103 ls [])), W p l e (rmL 2) s m args below meth c s.heap [] 0 0 (MQ below (vp_Si (fun z => z = out)) args s 0 0 (fun _ => False)) (F0 m 55 ls []) := by
  intro n
  induction n with
  | zero => intro x3 x4 x9 o h ls hl kx; exact nomatch (show none = some o from h)
  | succ n ih =>
    intro x3 x4 x9 o h ls hl kx
    rw [B_X1_greyOfPixel_L55_s] at h
    refine lv_iload E.hx E.hb dX1_greyOfPixel_55 (lv_at hl 7 rfl) ?_
    refine lv_iload E.hx E.hb dX1_greyOfPixel_57 (lv_at hl 6 rfl) ?_
    refine lv_icmp_ge (tgt := 103) E.hx E.hb dX1_greyOfPixel_59 (by decide) (fun c_1 => ?_) (fun c_1 => ?_)
    · rw [if_pos c_1] at h
      cases h
      exact kx  (lv_sub hl [2, 3] rfl)
    · rw [if_neg c_1] at h
      refine lv_iload E.hx E.hb dX1_greyOfPixel_62 (lv_at hl 4 rfl) ?_
      refine lv_istore (lv' := [(10, .int x5), (0, .ref (ad 2)), (2, .int x2), (3, .int x3), (4, .int x4), (5, .int x5), (7, .int x7), (8, .int x8), (9, .int x9)]) E.hx E.hb dX1_greyOfPixel_64 hl (by decide) rfl (fun ls hl => ?_)
      obtain ⟨q_3, e_4, h⟩ := obind h
      refine w_X1_greyOfPixel_L66 E K0 P FU e_4 (lv_sub hl [1, 2, 3, 4, 5, 6, 7, 8, 0] rfl) (fun {ls} hl => ?_)
      refine lv_iinc (v := x9 + 1) (lv' := [(9, .int (x9 + 1)), (0, .ref (ad 2)), (2, .int x2), (3, .int q_3.1), (4, .int q_3.2), (5, .int x5), (7, .int x7), (8, .int x8)]) E.hx E.hb dX1_greyOfPixel_97 hl (k := 7) rfl rfl (by decide) rfl (fun ls hl => ?_)
      refine lv_goto (tgt := 55) E.hx E.hb dX1_greyOfPixel_100 (by decide) ?_
      exact ih  h (lv_sub hl [1, 2, 3, 4, 5, 6, 7, 0] rfl) kx
def B_X1_greyOfPixel (I : Nat → Int32) (A : Nat → Nat → Int32) (x1 x2 : Int32) : Option (Int32) := (B_X1_greyOfPixel_L55 I A x2 ((B_X3_left I A x1)) (((B_X3_left I A x1) + (B_X3_width I A x1))) (((B_X3_top I A x1) + (B_X3_height I A x1))) FU 0 0 ((B_X3_top I A x1))).bind fun q_5 => if q_5.2 ≤ 0 then some 0 else (if q_5.2 = 0 then none else some ((q_5.1 / q_5.2)))
set_option maxHeartbeats 4000000 in
set_option maxRecDepth 100000 in
theorem w_X1_greyOfPixel (E : EX p s m args meth c cX1_greyOfPixel 11 RX1 (some .int)) (K0 : KC D cyI ad s s.heap) (P : va_P D classes (cw cyI ad I A) s.heap)  {x1 x2 : Int32} {out : Int32} (h : B_X1_greyOfPixel I A x1 x2 = some out) {ls : Array Slot} (hl : lv_has ls 11 [(0, .ref (ad 2)), (1, .int x1), (2, .int x2)]) : W p l e (rmL 2) s m args below meth c s.heap [] 0 0 (MQ below (vp_Si (fun z => z = out)) args s 0 0 (fun _ => False)) (F0 m 0 ls []) := by
  unfold B_X1_greyOfPixel at h
  refine lv_iconst (v := 0) E.hx E.hb dX1_greyOfPixel_0 (by decide) ?_
  refine lv_istore_n (lv' := [(3, .int 0), (0, .ref (ad 2)), (1, .int x1), (2, .int x2)]) E.hx E.hb dX1_greyOfPixel_1 rfl hl (by decide) rfl (fun ls hl => ?_)
  refine lv_iconst (v := 0) E.hx E.hb dX1_greyOfPixel_2 (by decide) ?_
  refine lv_istore (lv' := [(4, .int 0), (3, .int 0), (0, .ref (ad 2)), (1, .int x1), (2, .int x2)]) E.hx E.hb dX1_greyOfPixel_3 hl (by decide) rfl (fun ls hl => ?_)
  refine lv_aload_n E.hx E.hb dX1_greyOfPixel_5 rfl (lv_at hl 2 rfl) ?_
  refine gf_X1_45 E K0 P dX1_greyOfPixel_6 ?_
  refine lv_iload_n E.hx E.hb dX1_greyOfPixel_9 rfl (lv_at hl 3 rfl) ?_
  refine iv_X1_112 E K0 P va_S.rf (by decide) hl.1 (Nat.le_of_ble_eq_true rfl) dX1_greyOfPixel_10 ?_
  refine lv_istore (lv' := [(5, .int (B_X3_left I A x1)), (4, .int 0), (3, .int 0), (0, .ref (ad 2)), (1, .int x1), (2, .int x2)]) E.hx E.hb dX1_greyOfPixel_13 hl (by decide) rfl (fun ls hl => ?_)
  refine lv_aload_n E.hx E.hb dX1_greyOfPixel_15 rfl (lv_at hl 3 rfl) ?_
  refine gf_X1_45 E K0 P dX1_greyOfPixel_16 ?_
  refine lv_iload_n E.hx E.hb dX1_greyOfPixel_19 rfl (lv_at hl 4 rfl) ?_
  refine iv_X1_115 E K0 P va_S.rf (by decide) hl.1 (Nat.le_of_ble_eq_true rfl) dX1_greyOfPixel_20 ?_
  refine lv_istore (lv' := [(6, .int (B_X3_top I A x1)), (5, .int (B_X3_left I A x1)), (4, .int 0), (3, .int 0), (0, .ref (ad 2)), (1, .int x1), (2, .int x2)]) E.hx E.hb dX1_greyOfPixel_23 hl (by decide) rfl (fun ls hl => ?_)
  refine lv_iload E.hx E.hb dX1_greyOfPixel_25 (lv_at hl 1 rfl) ?_
  refine lv_aload_n E.hx E.hb dX1_greyOfPixel_27 rfl (lv_at hl 4 rfl) ?_
  refine gf_X1_45 E K0 P dX1_greyOfPixel_28 ?_
  refine lv_iload_n E.hx E.hb dX1_greyOfPixel_31 rfl (lv_at hl 5 rfl) ?_
  refine iv_X1_118 E K0 P va_S.rf (by decide) hl.1 (Nat.le_of_ble_eq_true rfl) dX1_greyOfPixel_32 ?_
  refine lv_iadd E.hx E.hb dX1_greyOfPixel_35 ?_
  refine lv_istore (lv' := [(7, .int ((B_X3_left I A x1) + (B_X3_width I A x1))), (6, .int (B_X3_top I A x1)), (5, .int (B_X3_left I A x1)), (4, .int 0), (3, .int 0), (0, .ref (ad 2)), (1, .int x1), (2, .int x2)]) E.hx E.hb dX1_greyOfPixel_36 hl (by decide) rfl (fun ls hl => ?_)
  refine lv_iload E.hx E.hb dX1_greyOfPixel_38 (lv_at hl 1 rfl) ?_
  refine lv_aload_n E.hx E.hb dX1_greyOfPixel_40 rfl (lv_at hl 5 rfl) ?_
  refine gf_X1_45 E K0 P dX1_greyOfPixel_41 ?_
  refine lv_iload_n E.hx E.hb dX1_greyOfPixel_44 rfl (lv_at hl 6 rfl) ?_
  refine iv_X1_120 E K0 P va_S.rf (by decide) hl.1 (Nat.le_of_ble_eq_true rfl) dX1_greyOfPixel_45 ?_
  refine lv_iadd E.hx E.hb dX1_greyOfPixel_48 ?_
  refine lv_istore (lv' := [(8, .int ((B_X3_top I A x1) + (B_X3_height I A x1))), (7, .int ((B_X3_left I A x1) + (B_X3_width I A x1))), (6, .int (B_X3_top I A x1)), (5, .int (B_X3_left I A x1)), (4, .int 0), (3, .int 0), (0, .ref (ad 2)), (1, .int x1), (2, .int x2)]) E.hx E.hb dX1_greyOfPixel_49 hl (by decide) rfl (fun ls hl => ?_)
  refine lv_iload E.hx E.hb dX1_greyOfPixel_51 (lv_at hl 2 rfl) ?_
  refine lv_istore (lv' := [(9, .int (B_X3_top I A x1)), (8, .int ((B_X3_top I A x1) + (B_X3_height I A x1))), (7, .int ((B_X3_left I A x1) + (B_X3_width I A x1))), (6, .int (B_X3_top I A x1)), (5, .int (B_X3_left I A x1)), (4, .int 0), (3, .int 0), (0, .ref (ad 2)), (1, .int x1), (2, .int x2)]) E.hx E.hb dX1_greyOfPixel_53 hl (by decide) rfl (fun ls hl => ?_)
  obtain ⟨q_5, e_6, h⟩ := obind h
  refine w_X1_greyOfPixel_L55 E K0 P FU e_6 (lv_sub hl [7, 9, 6, 5, 4, 2, 1, 0] rfl) (fun {ls} hl => ?_)
  refine lv_iload E.hx E.hb dX1_greyOfPixel_103 (lv_at hl 1 rfl) ?_
  refine lv_if_le (tgt := 115) E.hx E.hb dX1_greyOfPixel_105 (by decide) (fun c_7 => ?_) (fun c_7 => ?_)
  · rw [if_pos c_7] at h
    refine lv_iconst (v := 0) E.hx E.hb dX1_greyOfPixel_115 (by decide) ?_
    exact W.iret E.hx E.hb E.hr (fun t ht _ => ⟨_, rfl, (Option.some.inj h), ht⟩) (fun q hq => nomatch hq) dX1_greyOfPixel_116 E.hk
  · rw [if_neg c_7] at h
    refine lv_iload_n E.hx E.hb dX1_greyOfPixel_108 rfl (lv_at hl 0 rfl) ?_
    refine lv_iload E.hx E.hb dX1_greyOfPixel_109 (lv_at hl 1 rfl) ?_
    by_cases c_8 : q_5.2 = 0
    · rw [if_pos c_8] at h; exact nomatch h
    rw [if_neg c_8] at h
    refine lv_idiv E.hx E.hb dX1_greyOfPixel_111 c_8 ?_
    refine lv_goto (tgt := 116) E.hx E.hb dX1_greyOfPixel_112 (by decide) ?_
    exact W.iret E.hx E.hb E.hr (fun t ht _ => ⟨_, rfl, (Option.some.inj h), ht⟩) (fun q hq => nomatch hq) dX1_greyOfPixel_116 E.hk
theorem c_X1_greyOfPixel (l : Launch) {H : Heap} {D : va_G} {cyI : ClassId} {ad : Nat → Nat} {I : Nat → Int32} {A : Nat → Nat → Int32} (P : va_P D classes (cw cyI ad I A) H) (x1 x2 : Int32) {out : Int32} (h : B_X1_greyOfPixel I A x1 x2 = some out) : MRO l yX1_greyOfPixel cX1_greyOfPixel 11 (some .int) 2 [.ref (ad 2), .int x1, .int x2] H (KC D cyI ad) out := by
  refine Mof (own := RX1) (by decide +kernel) rfl rfl ?_
  intro p e s m args below meth c ls E hH K0 hl
  subst hH
  exact w_X1_greyOfPixel E K0 P h hl
theorem ds_X1_greyOfPixel : Dsc yX1_greyOfPixel 2 := ⟨by decide +kernel, by decide +kernel, by decide +kernel⟩
end
section
variable {p : Program} {l : Launch} {e : Env} {R : Room} {s : State} {m : MethodId} {args : Array Value} {below : List Frame} {meth : Method} {c : Code} {H : Heap} {locs : List Loc} {cells slots : Nat} {Q : State → Prop} {cc : ByteArray} {nL pc : Nat} {ret : Option FieldType} {ls : Array Slot} {rest : List Value} {D : va_G} {cyI : ClassId} {ad : Nat → Nat} {I : Nat → Int32} {A : Nat → Nat → Int32}
theorem iv_X6_225 (E : EX p s m args meth c cc nL RX6 ret) (K0 : KC D cyI ad s s.heap) (P : va_P D classes (cw cyI ad I A) H) (S : va_S (InN 44 ad) s.heap H locs) {a0 a1 : Int32} {v : Int32} (hv : B_X1_greyOfPixel I A a0 a1 = some v) (hR : RmOk R cells slots 2 11) (hls : ls.size = nL) (hro : (rest.map fun v => v.category).sum ≤ 8) (hdg : decode cc pc = .ok (.invokevirtual 225, 3)) (kk : W p l e R s m args below meth c H locs cells slots Q (F0 m (pc + 3) ls (.int v :: rest))) : W p l e R s m args below meth c H locs cells slots Q (F0 m pc ls (.int a1 :: .int a0 :: .ref (ad 2) :: rest)) :=
  cv_ro E (c_X1_greyOfPixel l P a0 a1 hv) (gV kML_X6_225 kIM_X1_greyOfPixel kSE_X1_greyOfPixel kIN_X1 kCO_X1_greyOfPixel) rfl ds_X1_greyOfPixel rfl KC_blind (fun U _ hW => (K0.at S).warm hW) (va_recv K0.k P (show classes[1]? = some (RX1, TX1, 11) from rfl) cw_g2) hR hls rfl hro hdg kk
end
section
variable {p : Program} {l : Launch} {e : Env} {R : Room} {s : State} {m : MethodId} {args : Array Value} {below : List Frame} {meth : Method} {c : Code} {H : Heap} {locs : List Loc} {cells slots : Nat} {Q : State → Prop} {cc : ByteArray} {nL pc : Nat} {ret : Option FieldType} {ls : Array Slot} {rest : List Value} {D : va_G} {cyI : ClassId} {ad : Nat → Nat} {I : Nat → Int32} {A : Nat → Nat → Int32}
theorem iv_X6_257 (E : EX p s m args meth c cc nL RX6 ret) (N : AdN 44 ad) (K0 : KC D cyI ad s s.heap) (P : va_P D classes (cw cyI ad I A) H) (S : va_S (InN 44 ad) s.heap H locs) {a0 a1 : Int32} {v : (Nat → Int32) × (Nat → Nat → Int32)} (hv : B_X3_note I A a0 a1 = some v) (hR : RmOk R cells slots 1 4) (hls : ls.size = nL) (hro : (rest.map fun v => v.category).sum ≤ 8) (hdg : decode cc pc = .ok (.invokevirtual 257, 3)) (kk : ∀ (H1 : Heap) (locs1 : List Loc), va_P D classes (cw cyI ad v.1 v.2) H1 → va_S (InN 44 ad) s.heap H1 locs1 → W p l e R s m args below meth c H1 locs1 cells slots Q (F0 m (pc + 3) ls (rest))) : W p l e R s m args below meth c H locs cells slots Q (F0 m pc ls (.int a1 :: .int a0 :: .ref (ad 1) :: rest)) :=
  cv_rw E (c_X3_note l N P a0 a1 hv) (gV kML_X6_257 kIM_X3_note kSE_X3_note kIN_X3 kCO_X3_note) rfl ds_X3_note rfl KC_blind (fun U _ hW => (K0.at S).warm hW) S (va_recv K0.k P (show classes[3]? = some (RX3, TX3, 9) from rfl) cw_g1) hR hls rfl hro hdg kk
end
section
variable {p : Program} {l : Launch} {e : Env} {s : State} {m : MethodId} {args : Array Value} {below : List Frame} {meth : Method} {c : Code} {D : va_G} {cyI : ClassId} {ad : Nat → Nat} {I : Nat → Int32} {A : Nat → Nat → Int32}
def B_X6_noteGreys_L2   : Nat → Int32 → (Nat → Int32) → (Nat → Nat → Int32) → Option ((Nat → Int32) × (Nat → Nat → Int32))
  | 0 => fun _ _ _ => none
  | n + 1 => fun x1 I A => if (I 4) ≤ x1 then some ((I, A)) else ((B_X1_greyOfPixel I A x1 ((I 0))).bind fun r_2 => (B_X3_note I A x1 r_2).bind fun q_4 => (B_X6_noteGreys_L2 n) (x1 + 1) q_4.1 q_4.2)
theorem B_X6_noteGreys_L2_s (I : Nat → Int32) (A : Nat → Nat → Int32) (x1 : Int32) (n : Nat) : B_X6_noteGreys_L2   (n + 1) x1 I A = if (I 4) ≤ x1 then some ((I, A)) else ((B_X1_greyOfPixel I A x1 ((I 0))).bind fun r_2 => (B_X3_note I A x1 r_2).bind fun q_4 => (B_X6_noteGreys_L2 n) (x1 + 1) q_4.1 q_4.2) := rfl
set_option maxHeartbeats 4000000 in
set_option maxRecDepth 100000 in
theorem w_X6_noteGreys_L2 (E : EX p s m args meth c cX6_noteGreys 2 RX6 none) (K0 : KC D cyI ad s s.heap) (N : AdN 44 ad) {out : (Nat → Int32) × (Nat → Nat → Int32)} : ∀ (n : Nat) {x1 : Int32} {I : Nat → Int32} {A : Nat → Nat → Int32} {H : Heap} {locs : List Loc} (P : va_P D classes (cw cyI ad I A) H) (S : va_S (InN 44 ad) s.heap H locs) {o : (Nat → Int32) × (Nat → Nat → Int32)} (h : B_X6_noteGreys_L2   n x1 I A = some o) {ls : Array Slot} (hl : lv_has ls 2 [(0, .ref (ad 0)), (1, .int x1)]) (kx : ∀ {H : Heap} {locs : List Loc} (_ : va_P D classes (cw cyI ad o.1 o.2) H) (_ : va_S (InN 44 ad) s.heap H locs) {ls : Array Slot}, lv_has ls 2 [] → W p l e (rmL 3) s m args below meth c H locs 0 0 (MQ below (Qrw (InN 44 ad) (none) (fun H1 => va_P D classes (cw cyI ad out.1 out.2) H1)) args s 0 0 (InN 44 ad)) (F0 m 39 ls [])), W p l e (rmL 3) s m args below meth c H locs 0 0 (MQ below (Qrw (InN 44 ad) (none) (fun H1 => va_P D classes (cw cyI ad out.1 out.2) H1)) args s 0 0 (InN 44 ad)) (F0 m 2 ls []) := by
  intro n
  induction n with
  | zero => intro x1 I A H locs P S o h ls hl kx; exact nomatch (show none = some o from h)
  | succ n ih =>
    intro x1 I A H locs P S o h ls hl kx
    rw [B_X6_noteGreys_L2_s] at h
    refine lv_iload_n E.hx E.hb dX6_noteGreys_2 rfl (lv_at hl 1 rfl) ?_
    refine lv_aload_n E.hx E.hb dX6_noteGreys_3 rfl (lv_at hl 0 rfl) ?_
    refine gf_X6_12 E K0 P dX6_noteGreys_4 ?_
    refine gf_X6_114 E K0 P dX6_noteGreys_7 ?_
    refine lv_icmp_ge (tgt := 39) E.hx E.hb dX6_noteGreys_10 (by decide) (fun c_1 => ?_) (fun c_1 => ?_)
    · rw [if_pos c_1] at h
      cases h
      exact kx P S (lv_sub hl [] rfl)
    · rw [if_neg c_1] at h
      refine lv_aload_n E.hx E.hb dX6_noteGreys_13 rfl (lv_at hl 0 rfl) ?_
      refine gf_X6_12 E K0 P dX6_noteGreys_14 ?_
      refine lv_iload_n E.hx E.hb dX6_noteGreys_17 rfl (lv_at hl 1 rfl) ?_
      refine lv_aload_n E.hx E.hb dX6_noteGreys_18 rfl (lv_at hl 0 rfl) ?_
      refine gf_X6_21 E K0 P dX6_noteGreys_19 ?_
      refine lv_iload_n E.hx E.hb dX6_noteGreys_22 rfl (lv_at hl 1 rfl) ?_
      refine lv_aload_n E.hx E.hb dX6_noteGreys_23 rfl (lv_at hl 0 rfl) ?_
      refine gf_X6_48 E K0 P dX6_noteGreys_24 ?_
      obtain ⟨r_2, e_3, h⟩ := obind h
      refine iv_X6_225 E K0 P S e_3 (by decide) hl.1 (Nat.le_of_ble_eq_true rfl) dX6_noteGreys_27 ?_
      obtain ⟨q_4, e_5, h⟩ := obind h
      refine iv_X6_257 E N K0 P S e_5 (by decide) hl.1 (Nat.le_of_ble_eq_true rfl) dX6_noteGreys_30 (fun H locs P S => ?_)
      refine lv_iinc (v := x1 + 1) (lv' := [(1, .int (x1 + 1)), (0, .ref (ad 0))]) E.hx E.hb dX6_noteGreys_33 hl (k := 1) rfl rfl (by decide) rfl (fun ls hl => ?_)
      refine lv_goto (tgt := 2) E.hx E.hb dX6_noteGreys_36 (by decide) ?_
      exact ih P S h (lv_sub hl [1, 0] rfl) kx
def B_X6_noteGreys (I : Nat → Int32) (A : Nat → Nat → Int32)  : Option ((Nat → Int32) × (Nat → Nat → Int32)) := (B_X6_noteGreys_L2   FU 0 I A).bind fun q_6 => some (q_6.1, q_6.2)
set_option maxHeartbeats 4000000 in
set_option maxRecDepth 100000 in
theorem w_X6_noteGreys (E : EX p s m args meth c cX6_noteGreys 2 RX6 none) (K0 : KC D cyI ad s s.heap) (N : AdN 44 ad) {H : Heap} {locs : List Loc} (P : va_P D classes (cw cyI ad I A) H) (S : va_S (InN 44 ad) s.heap H locs)  {out : (Nat → Int32) × (Nat → Nat → Int32)} (h : B_X6_noteGreys I A  = some out) {ls : Array Slot} (hl : lv_has ls 2 [(0, .ref (ad 0))]) : W p l e (rmL 3) s m args below meth c H locs 0 0 (MQ below (Qrw (InN 44 ad) (none) (fun H1 => va_P D classes (cw cyI ad out.1 out.2) H1)) args s 0 0 (InN 44 ad)) (F0 m 0 ls []) := by
  unfold B_X6_noteGreys at h
  refine lv_iconst (v := 0) E.hx E.hb dX6_noteGreys_0 (by decide) ?_
  refine lv_istore_n (lv' := [(1, .int 0), (0, .ref (ad 0))]) E.hx E.hb dX6_noteGreys_1 rfl hl (by decide) rfl (fun ls hl => ?_)
  obtain ⟨q_6, e_7, h⟩ := obind h
  refine w_X6_noteGreys_L2 E K0 N FU P S e_7 (lv_sub hl [1, 0] rfl) (fun {H locs} P S {ls} hl => ?_)
  cases h
  exact W.vret E.hx E.hb E.hr (fun t ht _ => ⟨rfl, by rw [ht]; exact P, S.F ht⟩) S.2.2 dX6_noteGreys_39 E.hk
theorem c_X6_noteGreys (l : Launch) {H : Heap} {D : va_G} {cyI : ClassId} {ad : Nat → Nat} {I : Nat → Int32} {A : Nat → Nat → Int32} (N : AdN 44 ad) (P : va_P D classes (cw cyI ad I A) H)  {out : (Nat → Int32) × (Nat → Nat → Int32)} (h : B_X6_noteGreys I A  = some out) : MRW l yX6_noteGreys cX6_noteGreys 2 none 3 [.ref (ad 0)] H (KC D cyI ad) (InN 44 ad) none (fun H1 => va_P D classes (cw cyI ad out.1 out.2) H1) := by
  refine Mof (own := RX6) (by decide +kernel) rfl rfl ?_
  intro p e s m args below meth c ls E hH K0 hl
  subst hH
  exact w_X6_noteGreys E K0 N P va_S.rf h hl
theorem ds_X6_noteGreys : Dsc yX6_noteGreys 0 := ⟨by decide +kernel, by decide +kernel, by decide +kernel⟩
end
section
variable {p : Program} {l : Launch} {e : Env} {R : Room} {s : State} {m : MethodId} {args : Array Value} {below : List Frame} {meth : Method} {c : Code} {H : Heap} {locs : List Loc} {cells slots : Nat} {Q : State → Prop} {cc : ByteArray} {nL pc : Nat} {ret : Option FieldType} {ls : Array Slot} {rest : List Value} {D : va_G} {cyI : ClassId} {ad : Nat → Nat} {I : Nat → Int32} {A : Nat → Nat → Int32}
theorem rpt_X2_27 (E : EX p s m args meth c cc nL RX2 ret) (N : AdN 44 ad) (K0 : KC D cyI ad s s.heap) (P : va_P D classes (cw cyI ad I A) H) (S : va_S (InN 44 ad) s.heap H locs) {q0 q1 a b n : Nat} {f : Nat → Int32} (he : (cw cyI ad I A)[q0]? = some (b, .inr (4, [.ref a]))) (ha : (cw cyI ad I A)[q1]? = some (a, .inl (cyI, n, .inl f))) {k : Nat} (hs : ∀ g : Nat → Int32, (cw cyI ad I A).set q1 (a, .inl (cyI, n, .inl g)) = cw cyI ad I (va_up A k g)) (hn : n < 2 ^ 31) {i x : Int32} (hR : RmOk R cells slots 0 3) (hls : ls.size = nL) (hro : (rest.map fun v => v.category).sum ≤ 8) (hdg : decode cc pc = .ok (.invokevirtual 27, 3)) (kk : ∀ (H1 : Heap) (locs1 : List Loc), va_P D classes (cw cyI ad I (va_up A k (rPut n f i x))) H1 → va_S (InN 44 ad) s.heap H1 locs1 → W p l e R s m args below meth c H1 locs1 cells slots Q (F0 m (pc + 3) ls rest)) : W p l e R s m args below meth c H locs cells slots Q (F0 m pc ls (.int x :: .int i :: .ref b :: rest)) :=
  cv_rw E (c_X4_put l (fun _ _ h => h.1) P (cw_D N I A) q0 q1 he ha hn i x) (gV kML_X2_27 kIM_X4_put kSE_X4_put kIN_X4 kCO_X4_put) rfl ds_X4_put rfl KC_blind (fun U _ hW => (K0.at S).warm hW) S (va_recv K0.k P (show classes[4]? = some (RX4, TX4, 1) from rfl) he) hR hls rfl hro hdg (fun H1 l1 hP hS => kk H1 l1 (by rw [← hs]; exact hP) hS)
end
section
variable {p : Program} {l : Launch} {e : Env} {R : Room} {s : State} {m : MethodId} {args : Array Value} {below : List Frame} {meth : Method} {c : Code} {H : Heap} {locs : List Loc} {cells slots : Nat} {Q : State → Prop} {cc : ByteArray} {nL pc : Nat} {ret : Option FieldType} {ls : Array Slot} {rest : List Value} {D : va_G} {cyI : ClassId} {ad : Nat → Nat} {I : Nat → Int32} {A : Nat → Nat → Int32}
theorem iv_X2_43 (E : EX p s m args meth c cc nL RX2 ret) (K0 : KC D cyI ad s s.heap) (P : va_P D classes (cw cyI ad I A) H) (S : va_S (InN 44 ad) s.heap H locs) {a0 a1 : Int32} (hR : RmOk R cells slots 1 3) (hls : ls.size = nL) (hro : (rest.map fun v => v.category).sum ≤ 8) (hdg : decode cc pc = .ok (.invokevirtual 43, 3)) (kk : W p l e R s m args below meth c H locs cells slots Q (F0 m (pc + 3) ls (.int (B_X1_directionAt I A a0 a1) :: rest))) : W p l e R s m args below meth c H locs cells slots Q (F0 m pc ls (.int a1 :: .int a0 :: .ref (ad 2) :: rest)) :=
  cv_ro E (c_X1_directionAt l P a0 a1 ) (gV kML_X2_43 kIM_X1_directionAt kSE_X1_directionAt kIN_X1 kCO_X1_directionAt) rfl ds_X1_directionAt rfl KC_blind (fun U _ hW => (K0.at S).warm hW) (va_recv K0.k P (show classes[1]? = some (RX1, TX1, 11) from rfl) cw_g2) hR hls rfl hro hdg kk
end
section
variable {p : Program} {l : Launch} {e : Env} {R : Room} {s : State} {m : MethodId} {args : Array Value} {below : List Frame} {meth : Method} {c : Code} {H : Heap} {locs : List Loc} {cells slots : Nat} {Q : State → Prop} {cc : ByteArray} {nL pc : Nat} {ret : Option FieldType} {ls : Array Slot} {rest : List Value} {D : va_G} {cyI : ClassId} {ad : Nat → Nat} {I : Nat → Int32} {A : Nat → Nat → Int32}
theorem iv_X2_46 (E : EX p s m args meth c cc nL RX2 ret) (K0 : KC D cyI ad s s.heap) (S : va_S (InN 44 ad) s.heap H locs) {a0 a1 : Int32} (hR : RmOk R cells slots 1 3) (hls : ls.size = nL) (hro : (rest.map fun v => v.category).sum ≤ 8) (hdg : decode cc pc = .ok (.invokestatic 46, 3)) (kk : W p l e R s m args below meth c H locs cells slots Q (F0 m (pc + 3) ls (.int (B_X6_greyOf a0 a1) :: rest))) : W p l e R s m args below meth c H locs cells slots Q (F0 m pc ls (.int a1 :: .int a0 :: rest)) :=
  cn_ro E (c_X6_greyOf l (H := H) (D := D) (cyI := cyI) (ad := ad) a0 a1 ) (K0.nm _ (List.mem_of_getElem? (i := 8) rfl)) kST_X6_greyOf kIN_X6 kCO_X6_greyOf ds_X6_greyOf rfl KC_blind (fun U _ hW => (K0.at S).warm hW) hR hls rfl hro hdg kk
end
section
variable {p : Program} {l : Launch} {e : Env} {s : State} {m : MethodId} {args : Array Value} {below : List Frame} {meth : Method} {c : Code} {D : va_G} {cyI : ClassId} {ad : Nat → Nat} {I : Nat → Int32} {A : Nat → Nat → Int32}
def B_X2_take_L29  (x2 x3 x4 : Int32) : Nat → Int32 → (Nat → Int32) → (Nat → Nat → Int32) → Option ((Nat → Int32) × (Nat → Nat → Int32))
  | 0 => fun _ _ _ => none
  | n + 1 => fun x5 I A => if (I 5) ≤ x5 then some ((I, A)) else (B_X2_take_L29 x2 x3 x4 n) (x5 + 1) I ((va_up A 18 (rPut 1440 (A 18) (((x3 * 144) + (B_X6_numberOf x5 x4))) ((B_X6_greyOf ((B_X1_directionAt I A x5 x4)) x2)))))
theorem B_X2_take_L29_s (I : Nat → Int32) (A : Nat → Nat → Int32) (x2 x3 x4 x5 : Int32) (n : Nat) : B_X2_take_L29  x2 x3 x4 (n + 1) x5 I A = if (I 5) ≤ x5 then some ((I, A)) else (B_X2_take_L29 x2 x3 x4 n) (x5 + 1) I ((va_up A 18 (rPut 1440 (A 18) (((x3 * 144) + (B_X6_numberOf x5 x4))) ((B_X6_greyOf ((B_X1_directionAt I A x5 x4)) x2))))) := rfl
set_option maxHeartbeats 4000000 in
set_option maxRecDepth 100000 in
theorem w_X2_take_L29 (E : EX p s m args meth c cX2_take 6 RX2 (some .int)) (K0 : KC D cyI ad s s.heap) (N : AdN 44 ad) {x2 x3 x4 : Int32} {out : Int32 × (Nat → Int32) × (Nat → Nat → Int32)} : ∀ (n : Nat) {x5 : Int32} {I : Nat → Int32} {A : Nat → Nat → Int32} {H : Heap} {locs : List Loc} (P : va_P D classes (cw cyI ad I A) H) (S : va_S (InN 44 ad) s.heap H locs) {o : (Nat → Int32) × (Nat → Nat → Int32)} (h : B_X2_take_L29  x2 x3 x4 n x5 I A = some o) {ls : Array Slot} (hl : lv_has ls 6 [(0, .ref (ad 5)), (1, .ref (ad 2)), (2, .int x2), (3, .int x3), (4, .int x4), (5, .int x5)]) (kx : ∀ {H : Heap} {locs : List Loc} (_ : va_P D classes (cw cyI ad o.1 o.2) H) (_ : va_S (InN 44 ad) s.heap H locs) {ls : Array Slot}, lv_has ls 6 [(0, .ref (ad 5)), (1, .ref (ad 2)), (2, .int x2), (3, .int x3), (4, .int x4)] → W p l e (rmL 2) s m args below meth c H locs 0 0 (MQ below (Qrw (InN 44 ad) (some (.int out.1)) (fun H1 => va_P D classes (cw cyI ad out.2.1 out.2.2) H1)) args s 0 0 (InN 44 ad)) (F0 m 76 ls [])), W p l e (rmL 2) s m args below meth c H locs 0 0 (MQ below (Qrw (InN 44 ad) (some (.int out.1)) (fun H1 => va_P D classes (cw cyI ad out.2.1 out.2.2) H1)) args s 0 0 (InN 44 ad)) (F0 m 29 ls []) := by
  intro n
  induction n with
  | zero => intro x5 I A H locs P S o h ls hl kx; exact nomatch (show none = some o from h)
  | succ n ih =>
    intro x5 I A H locs P S o h ls hl kx
    rw [B_X2_take_L29_s] at h
    refine lv_iload E.hx E.hb dX2_take_29 (lv_at hl 5 rfl) ?_
    refine lv_aload_n E.hx E.hb dX2_take_31 rfl (lv_at hl 1 rfl) ?_
    refine gf_X2_36 E K0 P dX2_take_32 ?_
    refine lv_icmp_ge (tgt := 76) E.hx E.hb dX2_take_35 (by decide) (fun c_2 => ?_) (fun c_2 => ?_)
    · rw [if_pos c_2] at h
      cases h
      exact kx P S (lv_sub hl [0, 1, 2, 3, 4] rfl)
    · rw [if_neg c_2] at h
      refine lv_aload_n E.hx E.hb dX2_take_38 rfl (lv_at hl 0 rfl) ?_
      refine gf_X2_20 E K0 P dX2_take_39 ?_
      refine lv_iload_n E.hx E.hb dX2_take_42 rfl (lv_at hl 3 rfl) ?_
      refine lv_sipush (v := 144) E.hx E.hb dX2_take_43 (by decide) ?_
      refine lv_imul E.hx E.hb dX2_take_46 ?_
      refine lv_iload E.hx E.hb dX2_take_47 (lv_at hl 5 rfl) ?_
      refine lv_iload E.hx E.hb dX2_take_49 (lv_at hl 4 rfl) ?_
      refine iv_X2_39 E K0 S (by decide) hl.1 (Nat.le_of_ble_eq_true rfl) dX2_take_51 ?_
      refine lv_iadd E.hx E.hb dX2_take_54 ?_
      refine lv_aload_n E.hx E.hb dX2_take_55 rfl (lv_at hl 1 rfl) ?_
      refine lv_iload E.hx E.hb dX2_take_56 (lv_at hl 5 rfl) ?_
      refine lv_iload E.hx E.hb dX2_take_58 (lv_at hl 4 rfl) ?_
      refine iv_X2_43 E K0 P S (by decide) hl.1 (Nat.le_of_ble_eq_true rfl) dX2_take_60 ?_
      refine lv_iload_n E.hx E.hb dX2_take_63 rfl (lv_at hl 2 rfl) ?_
      refine iv_X2_46 E K0 S (by decide) hl.1 (Nat.le_of_ble_eq_true rfl) dX2_take_64 ?_
      refine rpt_X2_27 E N K0 P S cw_r18 cw_a18 cw_s18 (by decide) (by decide) hl.1 (Nat.le_of_ble_eq_true rfl) dX2_take_67 (fun H locs P S => ?_)
      refine lv_iinc (v := x5 + 1) (lv' := [(5, .int (x5 + 1)), (0, .ref (ad 5)), (1, .ref (ad 2)), (2, .int x2), (3, .int x3), (4, .int x4)]) E.hx E.hb dX2_take_70 hl (k := 5) rfl rfl (by decide) rfl (fun ls hl => ?_)
      refine lv_goto (tgt := 29) E.hx E.hb dX2_take_73 (by decide) ?_
      exact ih P S h (lv_sub hl [1, 2, 3, 4, 5, 0] rfl) kx
def B_X2_take_L17  (x2 x3 : Int32) : Nat → Int32 → (Nat → Int32) → (Nat → Nat → Int32) → Option ((Nat → Int32) × (Nat → Nat → Int32))
  | 0 => fun _ _ _ => none
  | n + 1 => fun x4 I A => if (I 6) ≤ x4 then some ((I, A)) else ((B_X2_take_L29  x2 x3 x4 FU 0 I A).bind fun q_3 => (B_X2_take_L17 x2 x3 n) (x4 + 1) q_3.1 q_3.2)
theorem B_X2_take_L17_s (I : Nat → Int32) (A : Nat → Nat → Int32) (x2 x3 x4 : Int32) (n : Nat) : B_X2_take_L17  x2 x3 (n + 1) x4 I A = if (I 6) ≤ x4 then some ((I, A)) else ((B_X2_take_L29  x2 x3 x4 FU 0 I A).bind fun q_3 => (B_X2_take_L17 x2 x3 n) (x4 + 1) q_3.1 q_3.2) := rfl
set_option maxHeartbeats 4000000 in
set_option maxRecDepth 100000 in
theorem w_X2_take_L17 (E : EX p s m args meth c cX2_take 6 RX2 (some .int)) (K0 : KC D cyI ad s s.heap) (N : AdN 44 ad) {x2 x3 : Int32} {out : Int32 × (Nat → Int32) × (Nat → Nat → Int32)} : ∀ (n : Nat) {x4 : Int32} {I : Nat → Int32} {A : Nat → Nat → Int32} {H : Heap} {locs : List Loc} (P : va_P D classes (cw cyI ad I A) H) (S : va_S (InN 44 ad) s.heap H locs) {o : (Nat → Int32) × (Nat → Nat → Int32)} (h : B_X2_take_L17  x2 x3 n x4 I A = some o) {ls : Array Slot} (hl : lv_has ls 6 [(0, .ref (ad 5)), (1, .ref (ad 2)), (2, .int x2), (3, .int x3), (4, .int x4)]) (kx : ∀ {H : Heap} {locs : List Loc} (_ : va_P D classes (cw cyI ad o.1 o.2) H) (_ : va_S (InN 44 ad) s.heap H locs) {ls : Array Slot}, lv_has ls 6 [(0, .ref (ad 5)), (3, .int x3)] → W p l e (rmL 2) s m args below meth c H locs 0 0 (MQ below (Qrw (InN 44 ad) (some (.int out.1)) (fun H1 => va_P D classes (cw cyI ad out.2.1 out.2.2) H1)) args s 0 0 (InN 44 ad)) (F0 m 82 ls [])), W p l e (rmL 2) s m args below meth c H locs 0 0 (MQ below (Qrw (InN 44 ad) (some (.int out.1)) (fun H1 => va_P D classes (cw cyI ad out.2.1 out.2.2) H1)) args s 0 0 (InN 44 ad)) (F0 m 17 ls []) := by
  intro n
  induction n with
  | zero => intro x4 I A H locs P S o h ls hl kx; exact nomatch (show none = some o from h)
  | succ n ih =>
    intro x4 I A H locs P S o h ls hl kx
    rw [B_X2_take_L17_s] at h
    refine lv_iload E.hx E.hb dX2_take_17 (lv_at hl 4 rfl) ?_
    refine lv_aload_n E.hx E.hb dX2_take_19 rfl (lv_at hl 1 rfl) ?_
    refine gf_X2_31 E K0 P dX2_take_20 ?_
    refine lv_icmp_ge (tgt := 82) E.hx E.hb dX2_take_23 (by decide) (fun c_1 => ?_) (fun c_1 => ?_)
    · rw [if_pos c_1] at h
      cases h
      exact kx P S (lv_sub hl [0, 3] rfl)
    · rw [if_neg c_1] at h
      refine lv_iconst (v := 0) E.hx E.hb dX2_take_26 (by decide) ?_
      refine lv_istore (lv' := [(5, .int 0), (0, .ref (ad 5)), (1, .ref (ad 2)), (2, .int x2), (3, .int x3), (4, .int x4)]) E.hx E.hb dX2_take_27 hl (by decide) rfl (fun ls hl => ?_)
      obtain ⟨q_3, e_4, h⟩ := obind h
      refine w_X2_take_L29 E K0 N FU P S e_4 (lv_sub hl [1, 2, 3, 4, 5, 0] rfl) (fun {H locs} P S {ls} hl => ?_)
      refine lv_iinc (v := x4 + 1) (lv' := [(4, .int (x4 + 1)), (0, .ref (ad 5)), (1, .ref (ad 2)), (2, .int x2), (3, .int x3)]) E.hx E.hb dX2_take_76 hl (k := 4) rfl rfl (by decide) rfl (fun ls hl => ?_)
      refine lv_goto (tgt := 17) E.hx E.hb dX2_take_79 (by decide) ?_
      exact ih P S h (lv_sub hl [1, 2, 3, 4, 0] rfl) kx
def B_X2_take (I : Nat → Int32) (A : Nat → Nat → Int32) (x2 : Int32) : Option (Int32 × (Nat → Int32) × (Nat → Nat → Int32)) := (B_X2_take_L17  x2 ((I 11)) FU 0 I ((va_up A 17 (rPut 10 (A 17) ((I 11)) x2)))).bind fun q_5 => some ((I 11), (va_up q_5.1 11 (((q_5.1 11) + 1))), q_5.2)
set_option maxHeartbeats 4000000 in
set_option maxRecDepth 100000 in
theorem w_X2_take (E : EX p s m args meth c cX2_take 6 RX2 (some .int)) (K0 : KC D cyI ad s s.heap) (N : AdN 44 ad) {H : Heap} {locs : List Loc} (P : va_P D classes (cw cyI ad I A) H) (S : va_S (InN 44 ad) s.heap H locs)  {x2 : Int32} {out : Int32 × (Nat → Int32) × (Nat → Nat → Int32)} (h : B_X2_take I A x2 = some out) {ls : Array Slot} (hl : lv_has ls 6 [(0, .ref (ad 5)), (1, .ref (ad 2)), (2, .int x2)]) : W p l e (rmL 2) s m args below meth c H locs 0 0 (MQ below (Qrw (InN 44 ad) (some (.int out.1)) (fun H1 => va_P D classes (cw cyI ad out.2.1 out.2.2) H1)) args s 0 0 (InN 44 ad)) (F0 m 0 ls []) := by
  unfold B_X2_take at h
  refine lv_aload_n E.hx E.hb dX2_take_0 rfl (lv_at hl 0 rfl) ?_
  refine gf_X2_23 E K0 P dX2_take_1 ?_
  refine lv_istore_n (lv' := [(3, .int (I 11)), (0, .ref (ad 5)), (1, .ref (ad 2)), (2, .int x2)]) E.hx E.hb dX2_take_4 rfl hl (by decide) rfl (fun ls hl => ?_)
  refine lv_aload_n E.hx E.hb dX2_take_5 rfl (lv_at hl 1 rfl) ?_
  refine gf_X2_14 E K0 P dX2_take_6 ?_
  refine lv_iload_n E.hx E.hb dX2_take_9 rfl (lv_at hl 0 rfl) ?_
  refine lv_iload_n E.hx E.hb dX2_take_10 rfl (lv_at hl 3 rfl) ?_
  refine rpt_X2_27 E N K0 P S cw_r17 cw_a17 cw_s17 (by decide) (by decide) hl.1 (Nat.le_of_ble_eq_true rfl) dX2_take_11 (fun H locs P S => ?_)
  refine lv_iconst (v := 0) E.hx E.hb dX2_take_14 (by decide) ?_
  refine lv_istore (lv' := [(4, .int 0), (3, .int (I 11)), (0, .ref (ad 5)), (1, .ref (ad 2)), (2, .int x2)]) E.hx E.hb dX2_take_15 hl (by decide) rfl (fun ls hl => ?_)
  obtain ⟨q_5, e_6, h⟩ := obind h
  refine w_X2_take_L17 E K0 N FU P S e_6 (lv_sub hl [2, 3, 4, 1, 0] rfl) (fun {H locs} P S {ls} hl => ?_)
  refine lv_aload_n E.hx E.hb dX2_take_82 rfl (lv_at hl 0 rfl) ?_
  refine lv_dup E.hx E.hb dX2_take_83 rfl ?_
  refine gf_X2_23 E K0 P dX2_take_84 ?_
  refine lv_iconst (v := 1) E.hx E.hb dX2_take_87 (by decide) ?_
  refine lv_iadd E.hx E.hb dX2_take_88 ?_
  refine pf_X2_23 E N K0 P S dX2_take_89 (fun H locs P S => ?_)
  refine lv_iload_n E.hx E.hb dX2_take_92 rfl (lv_at hl 1 rfl) ?_
  cases h
  exact W.iret E.hx E.hb E.hr (fun t ht _ => ⟨rfl, by rw [ht]; exact P, S.F ht⟩) S.2.2 dX2_take_93 E.hk
theorem c_X2_take (l : Launch) {H : Heap} {D : va_G} {cyI : ClassId} {ad : Nat → Nat} {I : Nat → Int32} {A : Nat → Nat → Int32} (N : AdN 44 ad) (P : va_P D classes (cw cyI ad I A) H) (x2 : Int32) {out : Int32 × (Nat → Int32) × (Nat → Nat → Int32)} (h : B_X2_take I A x2 = some out) : MRW l yX2_take cX2_take 6 (some .int) 2 [.ref (ad 5), .ref (ad 2), .int x2] H (KC D cyI ad) (InN 44 ad) (some (.int out.1)) (fun H1 => va_P D classes (cw cyI ad out.2.1 out.2.2) H1) := by
  refine Mof (own := RX2) (by decide +kernel) rfl rfl ?_
  intro p e s m args below meth c ls E hH K0 hl
  subst hH
  exact w_X2_take E K0 N P va_S.rf h hl
theorem ds_X2_take : Dsc yX2_take 2 := ⟨by decide +kernel, by decide +kernel, by decide +kernel⟩
end
section
variable {p : Program} {l : Launch} {e : Env} {R : Room} {s : State} {m : MethodId} {args : Array Value} {below : List Frame} {meth : Method} {c : Code} {H : Heap} {locs : List Loc} {cells slots : Nat} {Q : State → Prop} {cc : ByteArray} {nL pc : Nat} {ret : Option FieldType} {ls : Array Slot} {rest : List Value} {D : va_G} {cyI : ClassId} {ad : Nat → Nat} {I : Nat → Int32} {A : Nat → Nat → Int32}
theorem iv_X2_53 (E : EX p s m args meth c cc nL RX2 ret) (K0 : KC D cyI ad s s.heap) (P : va_P D classes (cw cyI ad I A) H) (S : va_S (InN 44 ad) s.heap H locs) {a0 a1 a2 : Int32} (hR : RmOk R cells slots 1 4) (hls : ls.size = nL) (hro : (rest.map fun v => v.category).sum ≤ 8) (hdg : decode cc pc = .ok (.invokevirtual 53, 3)) (kk : W p l e R s m args below meth c H locs cells slots Q (F0 m (pc + 3) ls (.int (B_X2_greyAt I A a0 a1 a2) :: rest))) : W p l e R s m args below meth c H locs cells slots Q (F0 m pc ls (.int a2 :: .int a1 :: .int a0 :: .ref (ad 5) :: rest)) :=
  cv_ro E (c_X2_greyAt l P a0 a1 a2 ) (gV kML_X2_53 kIM_X2_greyAt kSE_X2_greyAt kIN_X2 kCO_X2_greyAt) rfl ds_X2_greyAt rfl KC_blind (fun U _ hW => (K0.at S).warm hW) (va_recv K0.k P (show classes[2]? = some (RX2, TX2, 3) from rfl) cw_g5) hR hls rfl hro hdg kk
end
section
variable {p : Program} {l : Launch} {e : Env} {s : State} {m : MethodId} {args : Array Value} {below : List Frame} {meth : Method} {c : Code} {D : va_G} {cyI : ClassId} {ad : Nat → Nat} {I : Nat → Int32} {A : Nat → Nat → Int32}
def B_X2_changed_L17 (I : Nat → Int32) (A : Nat → Nat → Int32) (x1 x4 : Int32) : Nat → Int32 → Int32 → Option (Int32)
  | 0 => fun _ _ => none
  | n + 1 => fun x3 x5 => if (I 5) ≤ x5 then some (x3) else (if (B_X6_greyOf ((B_X1_directionAt I A x5 x4)) ((rAt 10 (A 17) x1))) = (B_X2_greyAt I A x1 x5 x4) then (B_X2_changed_L17 I A x1 x4 n) x3 (x5 + 1) else (B_X2_changed_L17 I A x1 x4 n) (x3 + 1) (x5 + 1))
theorem B_X2_changed_L17_s (I : Nat → Int32) (A : Nat → Nat → Int32) (x1 x4 x3 x5 : Int32) (n : Nat) : B_X2_changed_L17 I A x1 x4 (n + 1) x3 x5 = if (I 5) ≤ x5 then some (x3) else (if (B_X6_greyOf ((B_X1_directionAt I A x5 x4)) ((rAt 10 (A 17) x1))) = (B_X2_greyAt I A x1 x5 x4) then (B_X2_changed_L17 I A x1 x4 n) x3 (x5 + 1) else (B_X2_changed_L17 I A x1 x4 n) (x3 + 1) (x5 + 1)) := rfl
set_option maxHeartbeats 4000000 in
set_option maxRecDepth 100000 in
theorem w_X2_changed_L17 (E : EX p s m args meth c cX2_changed 6 RX2 (some .int)) (K0 : KC D cyI ad s s.heap) (P : va_P D classes (cw cyI ad I A) s.heap) {x1 x4 : Int32} {out : Int32} : ∀ (n : Nat) {x3 x5 : Int32} {o : Int32} (h : B_X2_changed_L17 I A x1 x4 n x3 x5 = some o) {ls : Array Slot} (hl : lv_has ls 6 [(0, .ref (ad 5)), (1, .int x1), (2, .ref (ad 2)), (3, .int x3), (4, .int x4), (5, .int x5)]) (kx : ∀ {ls : Array Slot}, lv_has ls 6 [(0, .ref (ad 5)), (1, .int x1), (2, .ref (ad 2)), (3, .int o), (4, .int x4)] → W p l e (rmL 2) s m args below meth c s.heap [] 0 0 (MQ below (vp_Si (fun z => z = out)) args s 0 0 (fun _ => False)) (F0 m 66 ls [])), W p l e (rmL 2) s m args below meth c s.heap [] 0 0 (MQ below (vp_Si (fun z => z = out)) args s 0 0 (fun _ => False)) (F0 m 17 ls []) := by
  intro n
  induction n with
  | zero => intro x3 x5 o h ls hl kx; exact nomatch (show none = some o from h)
  | succ n ih =>
    intro x3 x5 o h ls hl kx
    rw [B_X2_changed_L17_s] at h
    refine lv_iload E.hx E.hb dX2_changed_17 (lv_at hl 5 rfl) ?_
    refine lv_aload_n E.hx E.hb dX2_changed_19 rfl (lv_at hl 2 rfl) ?_
    refine gf_X2_36 E K0 P dX2_changed_20 ?_
    refine lv_icmp_ge (tgt := 66) E.hx E.hb dX2_changed_23 (by decide) (fun c_2 => ?_) (fun c_2 => ?_)
    · rw [if_pos c_2] at h
      cases h
      exact kx  (lv_sub hl [0, 1, 2, 3, 4] rfl)
    · rw [if_neg c_2] at h
      refine lv_aload_n E.hx E.hb dX2_changed_26 rfl (lv_at hl 2 rfl) ?_
      refine lv_iload E.hx E.hb dX2_changed_27 (lv_at hl 5 rfl) ?_
      refine lv_iload E.hx E.hb dX2_changed_29 (lv_at hl 4 rfl) ?_
      refine iv_X2_43 E K0 P va_S.rf (by decide) hl.1 (Nat.le_of_ble_eq_true rfl) dX2_changed_31 ?_
      refine lv_aload_n E.hx E.hb dX2_changed_34 rfl (lv_at hl 0 rfl) ?_
      refine gf_X2_14 E K0 P dX2_changed_35 ?_
      refine lv_iload_n E.hx E.hb dX2_changed_38 rfl (lv_at hl 1 rfl) ?_
      refine rat_X2_49 E K0 P va_S.rf cw_r17 cw_a17 (by decide) (by decide) hl.1 (Nat.le_of_ble_eq_true rfl) dX2_changed_39 ?_
      refine iv_X2_46 E K0 va_S.rf (by decide) hl.1 (Nat.le_of_ble_eq_true rfl) dX2_changed_42 ?_
      refine lv_aload_n E.hx E.hb dX2_changed_45 rfl (lv_at hl 0 rfl) ?_
      refine lv_iload_n E.hx E.hb dX2_changed_46 rfl (lv_at hl 1 rfl) ?_
      refine lv_iload E.hx E.hb dX2_changed_47 (lv_at hl 5 rfl) ?_
      refine lv_iload E.hx E.hb dX2_changed_49 (lv_at hl 4 rfl) ?_
      refine iv_X2_53 E K0 P va_S.rf (by decide) hl.1 (Nat.le_of_ble_eq_true rfl) dX2_changed_51 ?_
      refine lv_icmp_eq (tgt := 60) E.hx E.hb dX2_changed_54 (by decide) (fun c_3 => ?_) (fun c_3 => ?_)
      · rw [if_pos c_3] at h
        refine lv_iinc (v := x5 + 1) (lv' := [(5, .int (x5 + 1)), (0, .ref (ad 5)), (1, .int x1), (2, .ref (ad 2)), (3, .int x3), (4, .int x4)]) E.hx E.hb dX2_changed_60 hl (k := 5) rfl rfl (by decide) rfl (fun ls hl => ?_)
        refine lv_goto (tgt := 17) E.hx E.hb dX2_changed_63 (by decide) ?_
        exact ih  h (lv_sub hl [1, 2, 3, 4, 5, 0] rfl) kx
      · rw [if_neg c_3] at h
        refine lv_iinc (v := x3 + 1) (lv' := [(3, .int (x3 + 1)), (0, .ref (ad 5)), (1, .int x1), (2, .ref (ad 2)), (4, .int x4), (5, .int x5)]) E.hx E.hb dX2_changed_57 hl (k := 3) rfl rfl (by decide) rfl (fun ls hl => ?_)
        refine lv_iinc (v := x5 + 1) (lv' := [(5, .int (x5 + 1)), (3, .int (x3 + 1)), (0, .ref (ad 5)), (1, .int x1), (2, .ref (ad 2)), (4, .int x4)]) E.hx E.hb dX2_changed_60 hl (k := 5) rfl rfl (by decide) rfl (fun ls hl => ?_)
        refine lv_goto (tgt := 17) E.hx E.hb dX2_changed_63 (by decide) ?_
        exact ih  h (lv_sub hl [2, 3, 4, 1, 5, 0] rfl) kx
def B_X2_changed_L5 (I : Nat → Int32) (A : Nat → Nat → Int32) (x1 : Int32) : Nat → Int32 → Int32 → Option (Int32)
  | 0 => fun _ _ => none
  | n + 1 => fun x3 x4 => if (I 6) ≤ x4 then some (x3) else ((B_X2_changed_L17 I A x1 x4 FU x3 0).bind fun q_4 => (B_X2_changed_L5 I A x1 n) q_4 (x4 + 1))
theorem B_X2_changed_L5_s (I : Nat → Int32) (A : Nat → Nat → Int32) (x1 x3 x4 : Int32) (n : Nat) : B_X2_changed_L5 I A x1 (n + 1) x3 x4 = if (I 6) ≤ x4 then some (x3) else ((B_X2_changed_L17 I A x1 x4 FU x3 0).bind fun q_4 => (B_X2_changed_L5 I A x1 n) q_4 (x4 + 1)) := rfl
set_option maxHeartbeats 4000000 in
set_option maxRecDepth 100000 in
theorem w_X2_changed_L5 (E : EX p s m args meth c cX2_changed 6 RX2 (some .int)) (K0 : KC D cyI ad s s.heap) (P : va_P D classes (cw cyI ad I A) s.heap) {x1 : Int32} {out : Int32} : ∀ (n : Nat) {x3 x4 : Int32} {o : Int32} (h : B_X2_changed_L5 I A x1 n x3 x4 = some o) {ls : Array Slot} (hl : lv_has ls 6 [(0, .ref (ad 5)), (1, .int x1), (2, .ref (ad 2)), (3, .int x3), (4, .int x4)]) (kx : ∀ {ls : Array Slot}, lv_has ls 6 [(3, .int o)] → W p l e (rmL 2) s m args below meth c s.heap [] 0 0 (MQ below (vp_Si (fun z => z = out)) args s 0 0 (fun _ => False)) (F0 m 72 ls [])), W p l e (rmL 2) s m args below meth c s.heap [] 0 0 (MQ below (vp_Si (fun z => z = out)) args s 0 0 (fun _ => False)) (F0 m 5 ls []) := by
  intro n
  induction n with
  | zero => intro x3 x4 o h ls hl kx; exact nomatch (show none = some o from h)
  | succ n ih =>
    intro x3 x4 o h ls hl kx
    rw [B_X2_changed_L5_s] at h
    refine lv_iload E.hx E.hb dX2_changed_5 (lv_at hl 4 rfl) ?_
    refine lv_aload_n E.hx E.hb dX2_changed_7 rfl (lv_at hl 2 rfl) ?_
    refine gf_X2_31 E K0 P dX2_changed_8 ?_
    refine lv_icmp_ge (tgt := 72) E.hx E.hb dX2_changed_11 (by decide) (fun c_1 => ?_) (fun c_1 => ?_)
    · rw [if_pos c_1] at h
      cases h
      exact kx  (lv_sub hl [3] rfl)
    · rw [if_neg c_1] at h
      refine lv_iconst (v := 0) E.hx E.hb dX2_changed_14 (by decide) ?_
      refine lv_istore (lv' := [(5, .int 0), (0, .ref (ad 5)), (1, .int x1), (2, .ref (ad 2)), (3, .int x3), (4, .int x4)]) E.hx E.hb dX2_changed_15 hl (by decide) rfl (fun ls hl => ?_)
      obtain ⟨q_4, e_5, h⟩ := obind h
      refine w_X2_changed_L17 E K0 P FU e_5 (lv_sub hl [1, 2, 3, 4, 5, 0] rfl) (fun {ls} hl => ?_)
      refine lv_iinc (v := x4 + 1) (lv' := [(4, .int (x4 + 1)), (0, .ref (ad 5)), (1, .int x1), (2, .ref (ad 2)), (3, .int q_4)]) E.hx E.hb dX2_changed_66 hl (k := 4) rfl rfl (by decide) rfl (fun ls hl => ?_)
      refine lv_goto (tgt := 5) E.hx E.hb dX2_changed_69 (by decide) ?_
      exact ih  h (lv_sub hl [1, 2, 3, 4, 0] rfl) kx
def B_X2_changed (I : Nat → Int32) (A : Nat → Nat → Int32) (x1 : Int32) : Option (Int32) := (B_X2_changed_L5 I A x1 FU 0 0).bind fun q_6 => some q_6
set_option maxHeartbeats 4000000 in
set_option maxRecDepth 100000 in
theorem w_X2_changed (E : EX p s m args meth c cX2_changed 6 RX2 (some .int)) (K0 : KC D cyI ad s s.heap) (P : va_P D classes (cw cyI ad I A) s.heap)  {x1 : Int32} {out : Int32} (h : B_X2_changed I A x1 = some out) {ls : Array Slot} (hl : lv_has ls 6 [(0, .ref (ad 5)), (1, .int x1), (2, .ref (ad 2))]) : W p l e (rmL 2) s m args below meth c s.heap [] 0 0 (MQ below (vp_Si (fun z => z = out)) args s 0 0 (fun _ => False)) (F0 m 0 ls []) := by
  unfold B_X2_changed at h
  refine lv_iconst (v := 0) E.hx E.hb dX2_changed_0 (by decide) ?_
  refine lv_istore_n (lv' := [(3, .int 0), (0, .ref (ad 5)), (1, .int x1), (2, .ref (ad 2))]) E.hx E.hb dX2_changed_1 rfl hl (by decide) rfl (fun ls hl => ?_)
  refine lv_iconst (v := 0) E.hx E.hb dX2_changed_2 (by decide) ?_
  refine lv_istore (lv' := [(4, .int 0), (3, .int 0), (0, .ref (ad 5)), (1, .int x1), (2, .ref (ad 2))]) E.hx E.hb dX2_changed_3 hl (by decide) rfl (fun ls hl => ?_)
  obtain ⟨q_6, e_7, h⟩ := obind h
  refine w_X2_changed_L5 E K0 P FU e_7 (lv_sub hl [2, 3, 4, 1, 0] rfl) (fun {ls} hl => ?_)
  refine lv_iload_n E.hx E.hb dX2_changed_72 rfl (lv_at hl 0 rfl) ?_
  exact W.iret E.hx E.hb E.hr (fun t ht _ => ⟨_, rfl, (Option.some.inj h), ht⟩) (fun q hq => nomatch hq) dX2_changed_73 E.hk
theorem c_X2_changed (l : Launch) {H : Heap} {D : va_G} {cyI : ClassId} {ad : Nat → Nat} {I : Nat → Int32} {A : Nat → Nat → Int32} (P : va_P D classes (cw cyI ad I A) H) (x1 : Int32) {out : Int32} (h : B_X2_changed I A x1 = some out) : MRO l yX2_changed cX2_changed 6 (some .int) 2 [.ref (ad 5), .int x1, .ref (ad 2)] H (KC D cyI ad) out := by
  refine Mof (own := RX2) (by decide +kernel) rfl rfl ?_
  intro p e s m args below meth c ls E hH K0 hl
  subst hH
  exact w_X2_changed E K0 P h hl
theorem ds_X2_changed : Dsc yX2_changed 2 := ⟨by decide +kernel, by decide +kernel, by decide +kernel⟩
end
section
variable {p : Program} {l : Launch} {e : Env} {s : State} {m : MethodId} {args : Array Value} {below : List Frame} {meth : Method} {c : Code} {D : va_G} {cyI : ClassId} {ad : Nat → Nat} {I : Nat → Int32} {A : Nat → Nat → Int32}
def B_X2_fitting_L6 (I : Nat → Int32) (A : Nat → Nat → Int32) (x1 x2 x3 : Int32) : Nat → Int32 → Int32 → Option (Int32)
  | 0 => fun _ _ => none
  | n + 1 => fun x4 x5 => if 15 ≤ x5 then some (x4) else (if (B_X6_greyOf x5 ((rAt 10 (A 17) x1))) = (B_X2_greyAt I A x1 x2 x3) then (B_X2_fitting_L6 I A x1 x2 x3 n) (x4 + 1) (x5 + 1) else (B_X2_fitting_L6 I A x1 x2 x3 n) x4 (x5 + 1))
theorem B_X2_fitting_L6_s (I : Nat → Int32) (A : Nat → Nat → Int32) (x1 x2 x3 x4 x5 : Int32) (n : Nat) : B_X2_fitting_L6 I A x1 x2 x3 (n + 1) x4 x5 = if 15 ≤ x5 then some (x4) else (if (B_X6_greyOf x5 ((rAt 10 (A 17) x1))) = (B_X2_greyAt I A x1 x2 x3) then (B_X2_fitting_L6 I A x1 x2 x3 n) (x4 + 1) (x5 + 1) else (B_X2_fitting_L6 I A x1 x2 x3 n) x4 (x5 + 1)) := rfl
set_option maxHeartbeats 4000000 in
set_option maxRecDepth 100000 in
theorem w_X2_fitting_L6 (E : EX p s m args meth c cX2_fitting 6 RX2 (some .int)) (K0 : KC D cyI ad s s.heap) (P : va_P D classes (cw cyI ad I A) s.heap) {x1 x2 x3 : Int32} {out : Int32} : ∀ (n : Nat) {x4 x5 : Int32} {o : Int32} (h : B_X2_fitting_L6 I A x1 x2 x3 n x4 x5 = some o) {ls : Array Slot} (hl : lv_has ls 6 [(0, .ref (ad 5)), (1, .int x1), (2, .int x2), (3, .int x3), (4, .int x4), (5, .int x5)]) (kx : ∀ {ls : Array Slot}, lv_has ls 6 [(4, .int o)] → W p l e (rmL 2) s m args below meth c s.heap [] 0 0 (MQ below (vp_Si (fun z => z = out)) args s 0 0 (fun _ => False)) (F0 m 45 ls [])), W p l e (rmL 2) s m args below meth c s.heap [] 0 0 (MQ below (vp_Si (fun z => z = out)) args s 0 0 (fun _ => False)) (F0 m 6 ls []) := by
  intro n
  induction n with
  | zero => intro x4 x5 o h ls hl kx; exact nomatch (show none = some o from h)
  | succ n ih =>
    intro x4 x5 o h ls hl kx
    rw [B_X2_fitting_L6_s] at h
    refine lv_iload E.hx E.hb dX2_fitting_6 (lv_at hl 5 rfl) ?_
    refine lv_bipush (v := 15) E.hx E.hb dX2_fitting_8 (by decide) ?_
    refine lv_icmp_ge (tgt := 45) E.hx E.hb dX2_fitting_10 (by decide) (fun c_1 => ?_) (fun c_1 => ?_)
    · rw [if_pos c_1] at h
      cases h
      exact kx  (lv_sub hl [4] rfl)
    · rw [if_neg c_1] at h
      refine lv_iload E.hx E.hb dX2_fitting_13 (lv_at hl 5 rfl) ?_
      refine lv_aload_n E.hx E.hb dX2_fitting_15 rfl (lv_at hl 0 rfl) ?_
      refine gf_X2_14 E K0 P dX2_fitting_16 ?_
      refine lv_iload_n E.hx E.hb dX2_fitting_19 rfl (lv_at hl 1 rfl) ?_
      refine rat_X2_49 E K0 P va_S.rf cw_r17 cw_a17 (by decide) (by decide) hl.1 (Nat.le_of_ble_eq_true rfl) dX2_fitting_20 ?_
      refine iv_X2_46 E K0 va_S.rf (by decide) hl.1 (Nat.le_of_ble_eq_true rfl) dX2_fitting_23 ?_
      refine lv_aload_n E.hx E.hb dX2_fitting_26 rfl (lv_at hl 0 rfl) ?_
      refine lv_iload_n E.hx E.hb dX2_fitting_27 rfl (lv_at hl 1 rfl) ?_
      refine lv_iload_n E.hx E.hb dX2_fitting_28 rfl (lv_at hl 2 rfl) ?_
      refine lv_iload_n E.hx E.hb dX2_fitting_29 rfl (lv_at hl 3 rfl) ?_
      refine iv_X2_53 E K0 P va_S.rf (by decide) hl.1 (Nat.le_of_ble_eq_true rfl) dX2_fitting_30 ?_
      refine lv_icmp_ne (tgt := 39) E.hx E.hb dX2_fitting_33 (by decide) (fun c_2 => ?_) (fun c_2 => ?_)
      · rw [if_neg c_2] at h
        refine lv_iinc (v := x5 + 1) (lv' := [(5, .int (x5 + 1)), (0, .ref (ad 5)), (1, .int x1), (2, .int x2), (3, .int x3), (4, .int x4)]) E.hx E.hb dX2_fitting_39 hl (k := 5) rfl rfl (by decide) rfl (fun ls hl => ?_)
        refine lv_goto (tgt := 6) E.hx E.hb dX2_fitting_42 (by decide) ?_
        exact ih  h (lv_sub hl [1, 2, 3, 4, 5, 0] rfl) kx
      · rw [if_pos c_2] at h
        refine lv_iinc (v := x4 + 1) (lv' := [(4, .int (x4 + 1)), (0, .ref (ad 5)), (1, .int x1), (2, .int x2), (3, .int x3), (5, .int x5)]) E.hx E.hb dX2_fitting_36 hl (k := 4) rfl rfl (by decide) rfl (fun ls hl => ?_)
        refine lv_iinc (v := x5 + 1) (lv' := [(5, .int (x5 + 1)), (4, .int (x4 + 1)), (0, .ref (ad 5)), (1, .int x1), (2, .int x2), (3, .int x3)]) E.hx E.hb dX2_fitting_39 hl (k := 5) rfl rfl (by decide) rfl (fun ls hl => ?_)
        refine lv_goto (tgt := 6) E.hx E.hb dX2_fitting_42 (by decide) ?_
        exact ih  h (lv_sub hl [2, 3, 4, 5, 1, 0] rfl) kx
def B_X2_fitting (I : Nat → Int32) (A : Nat → Nat → Int32) (x1 x2 x3 : Int32) : Option (Int32) := (B_X2_fitting_L6 I A x1 x2 x3 FU 0 0).bind fun q_3 => some q_3
set_option maxHeartbeats 4000000 in
set_option maxRecDepth 100000 in
theorem w_X2_fitting (E : EX p s m args meth c cX2_fitting 6 RX2 (some .int)) (K0 : KC D cyI ad s s.heap) (P : va_P D classes (cw cyI ad I A) s.heap)  {x1 x2 x3 : Int32} {out : Int32} (h : B_X2_fitting I A x1 x2 x3 = some out) {ls : Array Slot} (hl : lv_has ls 6 [(0, .ref (ad 5)), (1, .int x1), (2, .int x2), (3, .int x3)]) : W p l e (rmL 2) s m args below meth c s.heap [] 0 0 (MQ below (vp_Si (fun z => z = out)) args s 0 0 (fun _ => False)) (F0 m 0 ls []) := by
  unfold B_X2_fitting at h
  refine lv_iconst (v := 0) E.hx E.hb dX2_fitting_0 (by decide) ?_
  refine lv_istore (lv' := [(4, .int 0), (0, .ref (ad 5)), (1, .int x1), (2, .int x2), (3, .int x3)]) E.hx E.hb dX2_fitting_1 hl (by decide) rfl (fun ls hl => ?_)
  refine lv_iconst (v := 0) E.hx E.hb dX2_fitting_3 (by decide) ?_
  refine lv_istore (lv' := [(5, .int 0), (4, .int 0), (0, .ref (ad 5)), (1, .int x1), (2, .int x2), (3, .int x3)]) E.hx E.hb dX2_fitting_4 hl (by decide) rfl (fun ls hl => ?_)
  obtain ⟨q_3, e_4, h⟩ := obind h
  refine w_X2_fitting_L6 E K0 P FU e_4 (lv_sub hl [2, 3, 4, 5, 1, 0] rfl) (fun {ls} hl => ?_)
  refine lv_iload E.hx E.hb dX2_fitting_45 (lv_at hl 0 rfl) ?_
  exact W.iret E.hx E.hb E.hr (fun t ht _ => ⟨_, rfl, (Option.some.inj h), ht⟩) (fun q hq => nomatch hq) dX2_fitting_47 E.hk
theorem c_X2_fitting (l : Launch) {H : Heap} {D : va_G} {cyI : ClassId} {ad : Nat → Nat} {I : Nat → Int32} {A : Nat → Nat → Int32} (P : va_P D classes (cw cyI ad I A) H) (x1 x2 x3 : Int32) {out : Int32} (h : B_X2_fitting I A x1 x2 x3 = some out) : MRO l yX2_fitting cX2_fitting 6 (some .int) 2 [.ref (ad 5), .int x1, .int x2, .int x3] H (KC D cyI ad) out := by
  refine Mof (own := RX2) (by decide +kernel) rfl rfl ?_
  intro p e s m args below meth c ls E hH K0 hl
  subst hH
  exact w_X2_fitting E K0 P h hl
theorem ds_X2_fitting : Dsc yX2_fitting 3 := ⟨by decide +kernel, by decide +kernel, by decide +kernel⟩
end
end WALK

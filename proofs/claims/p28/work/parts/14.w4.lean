section
section
variable {p : Program} {l : Launch} {e : Env} {R : Room} {s : State} {m : MethodId} {args : Array Value} {below : List Frame} {meth : Method} {c : Code} {H : Heap} {locs : List Loc} {cells slots : Nat} {Q : State → Prop} {cc : ByteArray} {nL pc : Nat} {ret : Option FieldType} {ls : Array Slot} {rest : List Value} {D : va_G} {cyI : ClassId} {ad : Nat → Nat} {I : Nat → Int32} {A : Nat → Nat → Int32}
theorem iv_X6_263 (E : EX p s m args meth c cc nL RX6 ret) (K0 : KC D cyI ad s s.heap) (S : va_S (InN 44 ad) s.heap H locs) {a0 : Int32} (hR : RmOk R cells slots 0 1) (hls : ls.size = nL) (hro : (rest.map fun v => v.category).sum ≤ 8) (hdg : decode cc pc = .ok (.invokestatic 263, 3)) (kk : W p l e R s m args below meth c H locs cells slots Q (F0 m (pc + 3) ls (.int (B_J9_abs_0f7a4 a0) :: rest))) : W p l e R s m args below meth c H locs cells slots Q (F0 m pc ls (.int a0 :: rest)) :=
  cq_ro E (c_J9_abs_0f7a4 l (H := H) (D := D) (cyI := cyI) (ad := ad) a0 ) kML_X6_263 kST_J9_abs_0f7a4 kIN_J9 kCO_J9_abs_0f7a4 ds_J9_abs_0f7a4 rfl KC_blind (fun U _ hW => (K0.at S).warm hW) hR hls rfl hro hdg kk
end
section
variable {p : Program} {l : Launch} {e : Env} {s : State} {m : MethodId} {args : Array Value} {below : List Frame} {meth : Method} {c : Code} {D : va_G} {cyI : ClassId} {ad : Nat → Nat}
def B_X6_greyOf (x0 x1 : Int32) : Int32 := if (B_J9_abs_0f7a4 (B_X6_onFrom x1 x0)) < 0 then 0 else (if 8 ≤ (B_J9_abs_0f7a4 (B_X6_onFrom x1 x0)) then 0 else greyV (B_J9_abs_0f7a4 (B_X6_onFrom x1 x0)).toNatClampNeg)
set_option maxHeartbeats 4000000 in
set_option maxRecDepth 100000 in
theorem w_X6_greyOf (E : EX p s m args meth c cX6_greyOf 3 RX6 (some .int)) (K0 : KC D cyI ad s s.heap) {x0 x1 : Int32} {out : Int32} (h : B_X6_greyOf x0 x1 = out) {ls : Array Slot} (hl : lv_has ls 3 [(0, .int x0), (1, .int x1)]) : W p l e (rmL 1) s m args below meth c s.heap [] 0 0 (MQ below (vp_Si (fun z => z = out)) args s 0 0 (fun _ => False)) (F0 m 0 ls []) := by
  obtain ⟨t, hZ, hT⟩ := K0.greys
  have S : va_S (InN 44 ad) s.heap s.heap [] := va_S.rf
  unfold B_X6_greyOf at h
  refine lv_iload_n E.hx E.hb dX6_greyOf_0 rfl (lv_at hl 1 rfl) ?_
  refine lv_iload_n E.hx E.hb dX6_greyOf_1 rfl (lv_at hl 0 rfl) ?_
  refine iv_X6_260 E K0 S (by decide) hl.1 (Nat.le_of_ble_eq_true rfl) dX6_greyOf_2 ?_
  refine iv_X6_263 E K0 S (by decide) hl.1 (Nat.le_of_ble_eq_true rfl) dX6_greyOf_5 ?_
  generalize (B_J9_abs_0f7a4 (B_X6_onFrom x1 x0)) = v at h ⊢
  refine lv_istore_n (lv' := [(2, .int v), (0, .int x0), (1, .int x1)]) E.hx E.hb dX6_greyOf_8 rfl hl (by decide) rfl (fun ls hl => ?_)
  refine lv_iload_n E.hx E.hb dX6_greyOf_9 rfl (lv_at hl 0 rfl) ?_
  refine lv_if_lt (tgt := 29) E.hx E.hb dX6_greyOf_10 (by decide) (fun c_1 => ?_) (fun c_1 => ?_)
  · rw [if_pos c_1] at h
    refine lv_iconst (v := 0) E.hx E.hb dX6_greyOf_29 (by decide) ?_
    exact W.iret E.hx E.hb E.hr (fun t ht _ => ⟨_, rfl, h, ht⟩) (fun q hq => nomatch hq) dX6_greyOf_30 E.hk
  · rw [if_neg c_1] at h
    refine lv_iload_n E.hx E.hb dX6_greyOf_13 rfl (lv_at hl 0 rfl) ?_
    refine va_gets E.hx E.hb hZ S E.ho (E.ht _ kFL_X6_268) (fun _ h9 => h9) dX6_greyOf_14 ?_
    refine va_tlen (v := 8) E.hx E.hb hT S rfl dX6_greyOf_17 ?_
    refine lv_icmp_ge (tgt := 29) E.hx E.hb dX6_greyOf_18 (by decide) (fun c_2 => ?_) (fun c_2 => ?_)
    · rw [if_pos c_2] at h
      refine lv_iconst (v := 0) E.hx E.hb dX6_greyOf_29 (by decide) ?_
      exact W.iret E.hx E.hb E.hr (fun t ht _ => ⟨_, rfl, h, ht⟩) (fun q hq => nomatch hq) dX6_greyOf_30 E.hk
    · rw [if_neg c_2] at h
      refine va_gets E.hx E.hb hZ S E.ho (E.ht _ kFL_X6_268) (fun _ h9 => h9) dX6_greyOf_21 ?_
      refine lv_iload_n E.hx E.hb dX6_greyOf_24 rfl (lv_at hl 0 rfl) ?_
      refine va_ti E.hx E.hb hT S (rAt_in (n := 8) c_1 c_2 (by decide)) rfl dX6_greyOf_25 ?_
      refine lv_goto (tgt := 30) E.hx E.hb dX6_greyOf_26 (by decide) ?_
      exact W.iret E.hx E.hb E.hr (fun t ht _ => ⟨_, rfl, h, ht⟩) (fun q hq => nomatch hq) dX6_greyOf_30 E.hk
theorem c_X6_greyOf (l : Launch) {H : Heap} {D : va_G} {cyI : ClassId} {ad : Nat → Nat} (x0 x1 : Int32) : MRO l yX6_greyOf cX6_greyOf 3 (some .int) 1 [.int x0, .int x1] H (KC D cyI ad) (B_X6_greyOf x0 x1) := by
  refine Mof (own := RX6) (by decide +kernel) rfl rfl ?_
  intro p e s m args below meth c ls E hH K0 hl
  subst hH
  exact w_X6_greyOf E K0 rfl hl
theorem ds_X6_greyOf : Dsc yX6_greyOf 2 := ⟨by decide +kernel, by decide +kernel, by decide +kernel⟩
end
end
section WALK
section
variable {p : Program} {l : Launch} {e : Env} {R : Room} {s : State} {m : MethodId} {args : Array Value} {below : List Frame} {meth : Method} {c : Code} {H : Heap} {locs : List Loc} {cells slots : Nat} {Q : State → Prop} {cc : ByteArray} {nL pc : Nat} {ret : Option FieldType} {ls : Array Slot} {rest : List Value} {D : va_G} {cyI : ClassId} {ad : Nat → Nat} {I : Nat → Int32} {A : Nat → Nat → Int32}
theorem iv_X1_133 (E : EX p s m args meth c cc nL RX1 ret) (K0 : KC D cyI ad s s.heap) (S : va_S (InN 44 ad) s.heap H locs) {a0 a1 : Int32} (hR : RmOk R cells slots 1 3) (hls : ls.size = nL) (hro : (rest.map fun v => v.category).sum ≤ 8) (hdg : decode cc pc = .ok (.invokestatic 133, 3)) (kk : W p l e R s m args below meth c H locs cells slots Q (F0 m (pc + 3) ls (.int (B_X6_greyOf a0 a1) :: rest))) : W p l e R s m args below meth c H locs cells slots Q (F0 m pc ls (.int a1 :: .int a0 :: rest)) :=
  cn_ro E (c_X6_greyOf l (H := H) (D := D) (cyI := cyI) (ad := ad) a0 a1 ) (K0.nm _ (List.mem_of_getElem? (i := 5) rfl)) kST_X6_greyOf kIN_X6 kCO_X6_greyOf ds_X6_greyOf rfl KC_blind (fun U _ hW => (K0.at S).warm hW) hR hls rfl hro hdg kk
end
section
variable {p : Program} {l : Launch} {e : Env} {s : State} {m : MethodId} {args : Array Value} {below : List Frame} {meth : Method} {c : Code} {D : va_G} {cyI : ClassId} {ad : Nat → Nat} {I : Nat → Int32} {A : Nat → Nat → Int32}
def B_X1_greyOfPixel_L66 (I : Nat → Int32) (A : Nat → Nat → Int32) (x2 x5 x7 x8 x9 : Int32) : Nat → Int32 → Int32 → Int32 → Option (Int32 × Int32)
  | 0 => fun _ _ _ => none
  | n + 1 => fun x3 x4 x10 => if x7 ≤ x10 then some ((x3, x4)) else (B_X1_greyOfPixel_L66 I A x2 x5 x7 x8 x9 n) ((x3 + (B_X6_greyOf ((B_X1_directionAt I A x10 x9)) x2))) (x4 + 1) (x10 + 1)
theorem B_X1_greyOfPixel_L66_s (I : Nat → Int32) (A : Nat → Nat → Int32) (x2 x5 x7 x8 x9 x3 x4 x10 : Int32) (n : Nat) : B_X1_greyOfPixel_L66 I A x2 x5 x7 x8 x9 (n + 1) x3 x4 x10 = if x7 ≤ x10 then some ((x3, x4)) else (B_X1_greyOfPixel_L66 I A x2 x5 x7 x8 x9 n) ((x3 + (B_X6_greyOf ((B_X1_directionAt I A x10 x9)) x2))) (x4 + 1) (x10 + 1) := rfl
set_option maxHeartbeats 4000000 in
set_option maxRecDepth 100000 in
theorem w_X1_greyOfPixel_L66 (E : EX p s m args meth c cX1_greyOfPixel 11 RX1 (some .int)) (K0 : KC D cyI ad s s.heap) (P : va_P D classes (cw cyI ad I A) s.heap) {x2 x5 x7 x8 x9 : Int32} {out : Int32} : ∀ (n : Nat) {x3 x4 x10 : Int32} {o : Int32 × Int32} (h : B_X1_greyOfPixel_L66 I A x2 x5 x7 x8 x9 n x3 x4 x10 = some o) {ls : Array Slot} (hl : lv_has ls 11 [(0, .ref (ad 2)), (2, .int x2), (3, .int x3), (4, .int x4), (5, .int x5), (7, .int x7), (8, .int x8), (9, .int x9), (10, .int x10)]) (kx : ∀ {ls : Array Slot}, lv_has ls 11 [(0, .ref (ad 2)), (2, .int x2), (3, .int o.1), (4, .int o.2), (5, .int x5), (7, .int x7), (8, .int x8), (9, .int x9)] → W p l e (rmL 2) s m args below meth c s.heap [] 0 0 (MQ below (vp_Si (fun z => z = out)) args s 0 0 (fun _ => False)) (F0 m 97 ls [])), W p l e (rmL 2) s m args below meth c s.heap [] 0 0 (MQ below (vp_Si (fun z => z = out)) args s 0 0 (fun _ => False)) (F0 m 66 ls []) := by
  intro n
  induction n with
  | zero => intro x3 x4 x10 o h ls hl kx; exact nomatch (show none = some o from h)
  | succ n ih =>
    intro x3 x4 x10 o h ls hl kx
    rw [B_X1_greyOfPixel_L66_s] at h
    refine lv_iload E.hx E.hb dX1_greyOfPixel_66 (lv_at hl 8 rfl) ?_
    refine lv_iload E.hx E.hb dX1_greyOfPixel_68 (lv_at hl 5 rfl) ?_
    refine lv_icmp_ge (tgt := 97) E.hx E.hb dX1_greyOfPixel_70 (by decide) (fun c_2 => ?_) (fun c_2 => ?_)
    · rw [if_pos c_2] at h
      cases h
      exact kx  (lv_sub hl [0, 1, 2, 3, 4, 5, 6, 7] rfl)
    · rw [if_neg c_2] at h
      refine lv_iload_n E.hx E.hb dX1_greyOfPixel_73 rfl (lv_at hl 2 rfl) ?_
      refine lv_aload_n E.hx E.hb dX1_greyOfPixel_74 rfl (lv_at hl 0 rfl) ?_
      refine lv_iload E.hx E.hb dX1_greyOfPixel_75 (lv_at hl 8 rfl) ?_
      refine lv_iload E.hx E.hb dX1_greyOfPixel_77 (lv_at hl 7 rfl) ?_
      refine iv_X1_88 E K0 P va_S.rf (by decide) hl.1 (Nat.le_of_ble_eq_true rfl) dX1_greyOfPixel_79 ?_
      refine lv_iload_n E.hx E.hb dX1_greyOfPixel_82 rfl (lv_at hl 1 rfl) ?_
      refine iv_X1_133 E K0 va_S.rf (by decide) hl.1 (Nat.le_of_ble_eq_true rfl) dX1_greyOfPixel_83 ?_
      refine lv_iadd E.hx E.hb dX1_greyOfPixel_86 ?_
      refine lv_istore_n (lv' := [(3, .int (x3 + (B_X6_greyOf ((B_X1_directionAt I A x10 x9)) x2))), (0, .ref (ad 2)), (2, .int x2), (4, .int x4), (5, .int x5), (7, .int x7), (8, .int x8), (9, .int x9), (10, .int x10)]) E.hx E.hb dX1_greyOfPixel_87 rfl hl (by decide) rfl (fun ls hl => ?_)
      refine lv_iinc (v := x4 + 1) (lv' := [(4, .int (x4 + 1)), (3, .int (x3 + (B_X6_greyOf ((B_X1_directionAt I A x10 x9)) x2))), (0, .ref (ad 2)), (2, .int x2), (5, .int x5), (7, .int x7), (8, .int x8), (9, .int x9), (10, .int x10)]) E.hx E.hb dX1_greyOfPixel_88 hl (k := 3) rfl rfl (by decide) rfl (fun ls hl => ?_)
      refine lv_iinc (v := x10 + 1) (lv' := [(10, .int (x10 + 1)), (4, .int (x4 + 1)), (3, .int (x3 + (B_X6_greyOf ((B_X1_directionAt I A x10 x9)) x2))), (0, .ref (ad 2)), (2, .int x2), (5, .int x5), (7, .int x7), (8, .int x8), (9, .int x9)]) E.hx E.hb dX1_greyOfPixel_91 hl (k := 8) rfl rfl (by decide) rfl (fun ls hl => ?_)
      refine lv_goto (tgt := 66) E.hx E.hb dX1_greyOfPixel_94 (by decide) ?_
      exact ih  h (lv_sub hl [3, 4, 2, 1, 5, 6, 7, 8, 0] rfl) kx
def B_X1_greyOfPixel_L55 (I : Nat → Int32) (A : Nat → Nat → Int32) (x2 x5 x7 x8 : Int32) : Nat → Int32 → Int32 → Int32 → Option (Int32 × Int32)
  | 0 => fun _ _ _ => none
  | n + 1 => fun x3 x4 x9 => if x8 ≤ x9 then some ((x3, x4)) else ((B_X1_greyOfPixel_L66 I A x2 x5 x7 x8 x9 FU x3 x4 x5).bind fun q_3 => (B_X1_greyOfPixel_L55 I A x2 x5 x7 x8 n) q_3.1 q_3.2 (x9 + 1))
theorem B_X1_greyOfPixel_L55_s (I : Nat → Int32) (A : Nat → Nat → Int32) (x2 x5 x7 x8 x3 x4 x9 : Int32) (n : Nat) : B_X1_greyOfPixel_L55 I A x2 x5 x7 x8 (n + 1) x3 x4 x9 = if x8 ≤ x9 then some ((x3, x4)) else ((B_X1_greyOfPixel_L66 I A x2 x5 x7 x8 x9 FU x3 x4 x5).bind fun q_3 => (B_X1_greyOfPixel_L55 I A x2 x5 x7 x8 n) q_3.1 q_3.2 (x9 + 1)) := rfl
set_option maxHeartbeats 4000000 in
set_option maxRecDepth 100000 in
theorem w_X1_greyOfPixel_L55 (E : EX p s m args meth c cX1_greyOfPixel 11 RX1 (some .int)) (K0 : KC D cyI ad s s.heap) (P : va_P D classes (cw cyI ad I A) s.heap) {x2 x5 x7 x8 : Int32} {out : Int32} : ∀ (n : Nat) {x3 x4 x9 : Int32} {o : Int32 × Int32} (h : B_X1_greyOfPixel_L55 I A x2 x5 x7 x8 n x3 x4 x9 = some o) {ls : Array Slot} (hl : lv_has ls 11 [(0, .ref (ad 2)), (2, .int x2), (3, .int x3), (4, .int x4), (5, .int x5), (7, .int x7), (8, .int x8), (9, .int x9)]) (kx : ∀ {ls : Array Slot}, lv_has ls 11 [(3, .int o.1), (4, .int o.2)] → W p l e (rmL 2) s m args below meth c s.heap [] 0 0 (MQ below (vp_Si (fun z => z = out)) args s 0 0 (fun _ => False)) (F0 m 103 ls [])), W p l e (rmL 2) s m args below meth c s.heap [] 0 0 (MQ below (vp_Si (fun z => z = out)) args s 0 0 (fun _ => False)) (F0 m 55 ls []) := by
  intro n
  induction n with
  | zero => intro x3 x4 x9 o h ls hl kx; exact nomatch (show none = some o from h)
  | succ n ih =>
    intro x3 x4 x9 o h ls hl kx
    rw [B_X1_greyOfPixel_L55_s] at h
    refine lv_iload E.hx E.hb dX1_greyOfPixel_55 (lv_at hl 7 rfl) ?_
    refine lv_iload E.hx E.hb dX1_greyOfPixel_57 (lv_at hl 6 rfl) ?_
    refine lv_icmp_ge (tgt := 103) E.hx E.hb dX1_greyOfPixel_59 (by decide) (fun c_1 => ?_) (fun c_1 => ?_)
    · rw [if_pos c_1] at h
      cases h
      exact kx  (lv_sub hl [2, 3] rfl)
    · rw [if_neg c_1] at h
      refine lv_iload E.hx E.hb dX1_greyOfPixel_62 (lv_at hl 4 rfl) ?_
      refine lv_istore (lv' := [(10, .int x5), (0, .ref (ad 2)), (2, .int x2), (3, .int x3), (4, .int x4), (5, .int x5), (7, .int x7), (8, .int x8), (9, .int x9)]) E.hx E.hb dX1_greyOfPixel_64 hl (by decide) rfl (fun ls hl => ?_)
      obtain ⟨q_3, e_4, h⟩ := obind h
      refine w_X1_greyOfPixel_L66 E K0 P FU e_4 (lv_sub hl [1, 2, 3, 4, 5, 6, 7, 8, 0] rfl) (fun {ls} hl => ?_)
      refine lv_iinc (v := x9 + 1) (lv' := [(9, .int (x9 + 1)), (0, .ref (ad 2)), (2, .int x2), (3, .int q_3.1), (4, .int q_3.2), (5, .int x5), (7, .int x7), (8, .int x8)]) E.hx E.hb dX1_greyOfPixel_97 hl (k := 7) rfl rfl (by decide) rfl (fun ls hl => ?_)
      refine lv_goto (tgt := 55) E.hx E.hb dX1_greyOfPixel_100 (by decide) ?_
      exact ih  h (lv_sub hl [1, 2, 3, 4, 5, 6, 7, 0] rfl) kx
def B_X1_greyOfPixel (I : Nat → Int32) (A : Nat → Nat → Int32) (x1 x2 : Int32) : Option (Int32) := (B_X1_greyOfPixel_L55 I A x2 ((B_X3_left I A x1)) (((B_X3_left I A x1) + (B_X3_width I A x1))) (((B_X3_top I A x1) + (B_X3_height I A x1))) FU 0 0 ((B_X3_top I A x1))).bind fun q_5 => if q_5.2 ≤ 0 then some 0 else (if q_5.2 = 0 then none else some ((q_5.1 / q_5.2)))
set_option maxHeartbeats 4000000 in
set_option maxRecDepth 100000 in
theorem w_X1_greyOfPixel (E : EX p s m args meth c cX1_greyOfPixel 11 RX1 (some .int)) (K0 : KC D cyI ad s s.heap) (P : va_P D classes (cw cyI ad I A) s.heap)  {x1 x2 : Int32} {out : Int32} (h : B_X1_greyOfPixel I A x1 x2 = some out) {ls : Array Slot} (hl : lv_has ls 11 [(0, .ref (ad 2)), (1, .int x1), (2, .int x2)]) : W p l e (rmL 2) s m args below meth c s.heap [] 0 0 (MQ below (vp_Si (fun z => z = out)) args s 0 0 (fun _ => False)) (F0 m 0 ls []) := by
  unfold B_X1_greyOfPixel at h
  refine lv_iconst (v := 0) E.hx E.hb dX1_greyOfPixel_0 (by decide) ?_
  refine lv_istore_n (lv' := [(3, .int 0), (0, .ref (ad 2)), (1, .int x1), (2, .int x2)]) E.hx E.hb dX1_greyOfPixel_1 rfl hl (by decide) rfl (fun ls hl => ?_)
  refine lv_iconst (v := 0) E.hx E.hb dX1_greyOfPixel_2 (by decide) ?_
  refine lv_istore (lv' := [(4, .int 0), (3, .int 0), (0, .ref (ad 2)), (1, .int x1), (2, .int x2)]) E.hx E.hb dX1_greyOfPixel_3 hl (by decide) rfl (fun ls hl => ?_)
  refine lv_aload_n E.hx E.hb dX1_greyOfPixel_5 rfl (lv_at hl 2 rfl) ?_
  refine gf_X1_45 E K0 P dX1_greyOfPixel_6 ?_
  refine lv_iload_n E.hx E.hb dX1_greyOfPixel_9 rfl (lv_at hl 3 rfl) ?_
  refine iv_X1_112 E K0 P va_S.rf (by decide) hl.1 (Nat.le_of_ble_eq_true rfl) dX1_greyOfPixel_10 ?_
  refine lv_istore (lv' := [(5, .int (B_X3_left I A x1)), (4, .int 0), (3, .int 0), (0, .ref (ad 2)), (1, .int x1), (2, .int x2)]) E.hx E.hb dX1_greyOfPixel_13 hl (by decide) rfl (fun ls hl => ?_)
  refine lv_aload_n E.hx E.hb dX1_greyOfPixel_15 rfl (lv_at hl 3 rfl) ?_
  refine gf_X1_45 E K0 P dX1_greyOfPixel_16 ?_
  refine lv_iload_n E.hx E.hb dX1_greyOfPixel_19 rfl (lv_at hl 4 rfl) ?_
  refine iv_X1_115 E K0 P va_S.rf (by decide) hl.1 (Nat.le_of_ble_eq_true rfl) dX1_greyOfPixel_20 ?_
  refine lv_istore (lv' := [(6, .int (B_X3_top I A x1)), (5, .int (B_X3_left I A x1)), (4, .int 0), (3, .int 0), (0, .ref (ad 2)), (1, .int x1), (2, .int x2)]) E.hx E.hb dX1_greyOfPixel_23 hl (by decide) rfl (fun ls hl => ?_)
  refine lv_iload E.hx E.hb dX1_greyOfPixel_25 (lv_at hl 1 rfl) ?_
  refine lv_aload_n E.hx E.hb dX1_greyOfPixel_27 rfl (lv_at hl 4 rfl) ?_
  refine gf_X1_45 E K0 P dX1_greyOfPixel_28 ?_
  refine lv_iload_n E.hx E.hb dX1_greyOfPixel_31 rfl (lv_at hl 5 rfl) ?_
  refine iv_X1_118 E K0 P va_S.rf (by decide) hl.1 (Nat.le_of_ble_eq_true rfl) dX1_greyOfPixel_32 ?_
  refine lv_iadd E.hx E.hb dX1_greyOfPixel_35 ?_
  refine lv_istore (lv' := [(7, .int ((B_X3_left I A x1) + (B_X3_width I A x1))), (6, .int (B_X3_top I A x1)), (5, .int (B_X3_left I A x1)), (4, .int 0), (3, .int 0), (0, .ref (ad 2)), (1, .int x1), (2, .int x2)]) E.hx E.hb dX1_greyOfPixel_36 hl (by decide) rfl (fun ls hl => ?_)
  refine lv_iload E.hx E.hb dX1_greyOfPixel_38 (lv_at hl 1 rfl) ?_
  refine lv_aload_n E.hx E.hb dX1_greyOfPixel_40 rfl (lv_at hl 5 rfl) ?_
  refine gf_X1_45 E K0 P dX1_greyOfPixel_41 ?_
  refine lv_iload_n E.hx E.hb dX1_greyOfPixel_44 rfl (lv_at hl 6 rfl) ?_
  refine iv_X1_120 E K0 P va_S.rf (by decide) hl.1 (Nat.le_of_ble_eq_true rfl) dX1_greyOfPixel_45 ?_
  refine lv_iadd E.hx E.hb dX1_greyOfPixel_48 ?_
  refine lv_istore (lv' := [(8, .int ((B_X3_top I A x1) + (B_X3_height I A x1))), (7, .int ((B_X3_left I A x1) + (B_X3_width I A x1))), (6, .int (B_X3_top I A x1)), (5, .int (B_X3_left I A x1)), (4, .int 0), (3, .int 0), (0, .ref (ad 2)), (1, .int x1), (2, .int x2)]) E.hx E.hb dX1_greyOfPixel_49 hl (by decide) rfl (fun ls hl => ?_)
  refine lv_iload E.hx E.hb dX1_greyOfPixel_51 (lv_at hl 2 rfl) ?_
  refine lv_istore (lv' := [(9, .int (B_X3_top I A x1)), (8, .int ((B_X3_top I A x1) + (B_X3_height I A x1))), (7, .int ((B_X3_left I A x1) + (B_X3_width I A x1))), (6, .int (B_X3_top I A x1)), (5, .int (B_X3_left I A x1)), (4, .int 0), (3, .int 0), (0, .ref (ad 2)), (1, .int x1), (2, .int x2)]) E.hx E.hb dX1_greyOfPixel_53 hl (by decide) rfl (fun ls hl => ?_)
  obtain ⟨q_5, e_6, h⟩ := obind h
  refine w_X1_greyOfPixel_L55 E K0 P FU e_6 (lv_sub hl [7, 9, 6, 5, 4, 2, 1, 0] rfl) (fun {ls} hl => ?_)
  refine lv_iload E.hx E.hb dX1_greyOfPixel_103 (lv_at hl 1 rfl) ?_
  refine lv_if_le (tgt := 115) E.hx E.hb dX1_greyOfPixel_105 (by decide) (fun c_7 => ?_) (fun c_7 => ?_)
  · rw [if_pos c_7] at h
    refine lv_iconst (v := 0) E.hx E.hb dX1_greyOfPixel_115 (by decide) ?_
    exact W.iret E.hx E.hb E.hr (fun t ht _ => ⟨_, rfl, (Option.some.inj h), ht⟩) (fun q hq => nomatch hq) dX1_greyOfPixel_116 E.hk
  · rw [if_neg c_7] at h
    refine lv_iload_n E.hx E.hb dX1_greyOfPixel_108 rfl (lv_at hl 0 rfl) ?_
    refine lv_iload E.hx E.hb dX1_greyOfPixel_109 (lv_at hl 1 rfl) ?_
    by_cases c_8 : q_5.2 = 0
    · rw [if_pos c_8] at h; exact nomatch h
    rw [if_neg c_8] at h
    refine lv_idiv E.hx E.hb dX1_greyOfPixel_111 c_8 ?_
    refine lv_goto (tgt := 116) E.hx E.hb dX1_greyOfPixel_112 (by decide) ?_
    exact W.iret E.hx E.hb E.hr (fun t ht _ => ⟨_, rfl, (Option.some.inj h), ht⟩) (fun q hq => nomatch hq) dX1_greyOfPixel_116 E.hk
theorem c_X1_greyOfPixel (l : Launch) {H : Heap} {D : va_G} {cyI : ClassId} {ad : Nat → Nat} {I : Nat → Int32} {A : Nat → Nat → Int32} (P : va_P D classes (cw cyI ad I A) H) (x1 x2 : Int32) {out : Int32} (h : B_X1_greyOfPixel I A x1 x2 = some out) : MRO l yX1_greyOfPixel cX1_greyOfPixel 11 (some .int) 2 [.ref (ad 2), .int x1, .int x2] H (KC D cyI ad) out := by
  refine Mof (own := RX1) (by decide +kernel) rfl rfl ?_
  intro p e s m args below meth c ls E hH K0 hl
  subst hH
  exact w_X1_greyOfPixel E K0 P h hl
theorem ds_X1_greyOfPixel : Dsc yX1_greyOfPixel 2 := ⟨by decide +kernel, by decide +kernel, by decide +kernel⟩
end
section
variable {p : Program} {l : Launch} {e : Env} {R : Room} {s : State} {m : MethodId} {args : Array Value} {below : List Frame} {meth : Method} {c : Code} {H : Heap} {locs : List Loc} {cells slots : Nat} {Q : State → Prop} {cc : ByteArray} {nL pc : Nat} {ret : Option FieldType} {ls : Array Slot} {rest : List Value} {D : va_G} {cyI : ClassId} {ad : Nat → Nat} {I : Nat → Int32} {A : Nat → Nat → Int32}
theorem iv_X6_225 (E : EX p s m args meth c cc nL RX6 ret) (K0 : KC D cyI ad s s.heap) (P : va_P D classes (cw cyI ad I A) H) (S : va_S (InN 44 ad) s.heap H locs) {a0 a1 : Int32} {v : Int32} (hv : B_X1_greyOfPixel I A a0 a1 = some v) (hR : RmOk R cells slots 2 11) (hls : ls.size = nL) (hro : (rest.map fun v => v.category).sum ≤ 8) (hdg : decode cc pc = .ok (.invokevirtual 225, 3)) (kk : W p l e R s m args below meth c H locs cells slots Q (F0 m (pc + 3) ls (.int v :: rest))) : W p l e R s m args below meth c H locs cells slots Q (F0 m pc ls (.int a1 :: .int a0 :: .ref (ad 2) :: rest)) :=
  cv_ro E (c_X1_greyOfPixel l P a0 a1 hv) (gV kML_X6_225 kIM_X1_greyOfPixel kSE_X1_greyOfPixel kIN_X1 kCO_X1_greyOfPixel) rfl ds_X1_greyOfPixel rfl KC_blind (fun U _ hW => (K0.at S).warm hW) (va_recv K0.k P (show classes[1]? = some (RX1, TX1, 11) from rfl) cw_g2) hR hls rfl hro hdg kk
end
section
variable {p : Program} {l : Launch} {e : Env} {R : Room} {s : State} {m : MethodId} {args : Array Value} {below : List Frame} {meth : Method} {c : Code} {H : Heap} {locs : List Loc} {cells slots : Nat} {Q : State → Prop} {cc : ByteArray} {nL pc : Nat} {ret : Option FieldType} {ls : Array Slot} {rest : List Value} {D : va_G} {cyI : ClassId} {ad : Nat → Nat} {I : Nat → Int32} {A : Nat → Nat → Int32}
theorem iv_X6_257 (E : EX p s m args meth c cc nL RX6 ret) (N : AdN 44 ad) (K0 : KC D cyI ad s s.heap) (P : va_P D classes (cw cyI ad I A) H) (S : va_S (InN 44 ad) s.heap H locs) {a0 a1 : Int32} {v : (Nat → Int32) × (Nat → Nat → Int32)} (hv : B_X3_note I A a0 a1 = some v) (hR : RmOk R cells slots 1 4) (hls : ls.size = nL) (hro : (rest.map fun v => v.category).sum ≤ 8) (hdg : decode cc pc = .ok (.invokevirtual 257, 3)) (kk : ∀ (H1 : Heap) (locs1 : List Loc), va_P D classes (cw cyI ad v.1 v.2) H1 → va_S (InN 44 ad) s.heap H1 locs1 → W p l e R s m args below meth c H1 locs1 cells slots Q (F0 m (pc + 3) ls (rest))) : W p l e R s m args below meth c H locs cells slots Q (F0 m pc ls (.int a1 :: .int a0 :: .ref (ad 1) :: rest)) :=
  cv_rw E (c_X3_note l N P a0 a1 hv) (gV kML_X6_257 kIM_X3_note kSE_X3_note kIN_X3 kCO_X3_note) rfl ds_X3_note rfl KC_blind (fun U _ hW => (K0.at S).warm hW) S (va_recv K0.k P (show classes[3]? = some (RX3, TX3, 9) from rfl) cw_g1) hR hls rfl hro hdg kk
end
section
variable {p : Program} {l : Launch} {e : Env} {s : State} {m : MethodId} {args : Array Value} {below : List Frame} {meth : Method} {c : Code} {D : va_G} {cyI : ClassId} {ad : Nat → Nat} {I : Nat → Int32} {A : Nat → Nat → Int32}
def B_X6_noteGreys_L2   : Nat → Int32 → (Nat → Int32) → (Nat → Nat → Int32) → Option ((Nat → Int32) × (Nat → Nat → Int32))
  | 0 => fun _ _ _ => none
  | n + 1 => fun x1 I A => if (I 4) ≤ x1 then some ((I, A)) else ((B_X1_greyOfPixel I A x1 ((I 0))).bind fun r_2 => (B_X3_note I A x1 r_2).bind fun q_4 => (B_X6_noteGreys_L2 n) (x1 + 1) q_4.1 q_4.2)
theorem B_X6_noteGreys_L2_s (I : Nat → Int32) (A : Nat → Nat → Int32) (x1 : Int32) (n : Nat) : B_X6_noteGreys_L2   (n + 1) x1 I A = if (I 4) ≤ x1 then some ((I, A)) else ((B_X1_greyOfPixel I A x1 ((I 0))).bind fun r_2 => (B_X3_note I A x1 r_2).bind fun q_4 => (B_X6_noteGreys_L2 n) (x1 + 1) q_4.1 q_4.2) := rfl
set_option maxHeartbeats 4000000 in
set_option maxRecDepth 100000 in
theorem w_X6_noteGreys_L2 (E : EX p s m args meth c cX6_noteGreys 2 RX6 none) (K0 : KC D cyI ad s s.heap) (N : AdN 44 ad) {out : (Nat → Int32) × (Nat → Nat → Int32)} : ∀ (n : Nat) {x1 : Int32} {I : Nat → Int32} {A : Nat → Nat → Int32} {H : Heap} {locs : List Loc} (P : va_P D classes (cw cyI ad I A) H) (S : va_S (InN 44 ad) s.heap H locs) {o : (Nat → Int32) × (Nat → Nat → Int32)} (h : B_X6_noteGreys_L2   n x1 I A = some o) {ls : Array Slot} (hl : lv_has ls 2 [(0, .ref (ad 0)), (1, .int x1)]) (kx : ∀ {H : Heap} {locs : List Loc} (_ : va_P D classes (cw cyI ad o.1 o.2) H) (_ : va_S (InN 44 ad) s.heap H locs) {ls : Array Slot}, lv_has ls 2 [] → W p l e (rmL 3) s m args below meth c H locs 0 0 (MQ below (Qrw (InN 44 ad) (none) (fun H1 => va_P D classes (cw cyI ad out.1 out.2) H1)) args s 0 0 (InN 44 ad)) (F0 m 39 ls [])), W p l e (rmL 3) s m args below meth c H locs 0 0 (MQ below (Qrw (InN 44 ad) (none) (fun H1 => va_P D classes (cw cyI ad out.1 out.2) H1)) args s 0 0 (InN 44 ad)) (F0 m 2 ls []) := by
  intro n
  induction n with
  | zero => intro x1 I A H locs P S o h ls hl kx; exact nomatch (show none = some o from h)
  | succ n ih =>
    intro x1 I A H locs P S o h ls hl kx
    rw [B_X6_noteGreys_L2_s] at h
    refine lv_iload_n E.hx E.hb dX6_noteGreys_2 rfl (lv_at hl 1 rfl) ?_
    refine lv_aload_n E.hx E.hb dX6_noteGreys_3 rfl (lv_at hl 0 rfl) ?_
    refine gf_X6_12 E K0 P dX6_noteGreys_4 ?_
    refine gf_X6_114 E K0 P dX6_noteGreys_7 ?_
    refine lv_icmp_ge (tgt := 39) E.hx E.hb dX6_noteGreys_10 (by decide) (fun c_1 => ?_) (fun c_1 => ?_)
    · rw [if_pos c_1] at h
      cases h
      exact kx P S (lv_sub hl [] rfl)
    · rw [if_neg c_1] at h
      refine lv_aload_n E.hx E.hb dX6_noteGreys_13 rfl (lv_at hl 0 rfl) ?_
      refine gf_X6_12 E K0 P dX6_noteGreys_14 ?_
      refine lv_iload_n E.hx E.hb dX6_noteGreys_17 rfl (lv_at hl 1 rfl) ?_
      refine lv_aload_n E.hx E.hb dX6_noteGreys_18 rfl (lv_at hl 0 rfl) ?_
      refine gf_X6_21 E K0 P dX6_noteGreys_19 ?_
      refine lv_iload_n E.hx E.hb dX6_noteGreys_22 rfl (lv_at hl 1 rfl) ?_
      refine lv_aload_n E.hx E.hb dX6_noteGreys_23 rfl (lv_at hl 0 rfl) ?_
      refine gf_X6_48 E K0 P dX6_noteGreys_24 ?_
      obtain ⟨r_2, e_3, h⟩ := obind h
      refine iv_X6_225 E K0 P S e_3 (by decide) hl.1 (Nat.le_of_ble_eq_true rfl) dX6_noteGreys_27 ?_
      obtain ⟨q_4, e_5, h⟩ := obind h
      refine iv_X6_257 E N K0 P S e_5 (by decide) hl.1 (Nat.le_of_ble_eq_true rfl) dX6_noteGreys_30 (fun H locs P S => ?_)
      refine lv_iinc (v := x1 + 1) (lv' := [(1, .int (x1 + 1)), (0, .ref (ad 0))]) E.hx E.hb dX6_noteGreys_33 hl (k := 1) rfl rfl (by decide) rfl (fun ls hl => ?_)
      refine lv_goto (tgt := 2) E.hx E.hb dX6_noteGreys_36 (by decide) ?_
      exact ih P S h (lv_sub hl [1, 0] rfl) kx
def B_X6_noteGreys (I : Nat → Int32) (A : Nat → Nat → Int32)  : Option ((Nat → Int32) × (Nat → Nat → Int32)) := (B_X6_noteGreys_L2   FU 0 I A).bind fun q_6 => some (q_6.1, q_6.2)
set_option maxHeartbeats 4000000 in
set_option maxRecDepth 100000 in
theorem w_X6_noteGreys (E : EX p s m args meth c cX6_noteGreys 2 RX6 none) (K0 : KC D cyI ad s s.heap) (N : AdN 44 ad) {H : Heap} {locs : List Loc} (P : va_P D classes (cw cyI ad I A) H) (S : va_S (InN 44 ad) s.heap H locs)  {out : (Nat → Int32) × (Nat → Nat → Int32)} (h : B_X6_noteGreys I A  = some out) {ls : Array Slot} (hl : lv_has ls 2 [(0, .ref (ad 0))]) : W p l e (rmL 3) s m args below meth c H locs 0 0 (MQ below (Qrw (InN 44 ad) (none) (fun H1 => va_P D classes (cw cyI ad out.1 out.2) H1)) args s 0 0 (InN 44 ad)) (F0 m 0 ls []) := by
  unfold B_X6_noteGreys at h
  refine lv_iconst (v := 0) E.hx E.hb dX6_noteGreys_0 (by decide) ?_
  refine lv_istore_n (lv' := [(1, .int 0), (0, .ref (ad 0))]) E.hx E.hb dX6_noteGreys_1 rfl hl (by decide) rfl (fun ls hl => ?_)
  obtain ⟨q_6, e_7, h⟩ := obind h
  refine w_X6_noteGreys_L2 E K0 N FU P S e_7 (lv_sub hl [1, 0] rfl) (fun {H locs} P S {ls} hl => ?_)
  cases h
  exact W.vret E.hx E.hb E.hr (fun t ht _ => ⟨rfl, by rw [ht]; exact P, S.F ht⟩) S.2.2 dX6_noteGreys_39 E.hk
theorem c_X6_noteGreys (l : Launch) {H : Heap} {D : va_G} {cyI : ClassId} {ad : Nat → Nat} {I : Nat → Int32} {A : Nat → Nat → Int32} (N : AdN 44 ad) (P : va_P D classes (cw cyI ad I A) H)  {out : (Nat → Int32) × (Nat → Nat → Int32)} (h : B_X6_noteGreys I A  = some out) : MRW l yX6_noteGreys cX6_noteGreys 2 none 3 [.ref (ad 0)] H (KC D cyI ad) (InN 44 ad) none (fun H1 => va_P D classes (cw cyI ad out.1 out.2) H1) := by
  refine Mof (own := RX6) (by decide +kernel) rfl rfl ?_
  intro p e s m args below meth c ls E hH K0 hl
  subst hH
  exact w_X6_noteGreys E K0 N P va_S.rf h hl
theorem ds_X6_noteGreys : Dsc yX6_noteGreys 0 := ⟨by decide +kernel, by decide +kernel, by decide +kernel⟩
end
section
variable {p : Program} {l : Launch} {e : Env} {R : Room} {s : State} {m : MethodId} {args : Array Value} {below : List Frame} {meth : Method} {c : Code} {H : Heap} {locs : List Loc} {cells slots : Nat} {Q : State → Prop} {cc : ByteArray} {nL pc : Nat} {ret : Option FieldType} {ls : Array Slot} {rest : List Value} {D : va_G} {cyI : ClassId} {ad : Nat → Nat} {I : Nat → Int32} {A : Nat → Nat → Int32}
theorem iv_X6_158 (E : EX p s m args meth c cc nL RX6 ret) (N : AdN 44 ad) (K0 : KC D cyI ad s s.heap) (P : va_P D classes (cw cyI ad I A) H) (S : va_S (InN 44 ad) s.heap H locs) {a0 : Int32} {v : Int32 × (Nat → Int32) × (Nat → Nat → Int32)} (hv : B_X0_comeAt I A a0 = some v) (hR : RmOk R cells slots 5 6) (hls : ls.size = nL) (hro : (rest.map fun v => v.category).sum ≤ 8) (hdg : decode cc pc = .ok (.invokevirtual 158, 3)) (kk : ∀ (H1 : Heap) (locs1 : List Loc), va_P D classes (cw cyI ad v.2.1 v.2.2) H1 → va_S (InN 44 ad) s.heap H1 locs1 → W p l e R s m args below meth c H1 locs1 cells slots Q (F0 m (pc + 3) ls (.int v.1 :: rest))) : W p l e R s m args below meth c H locs cells slots Q (F0 m pc ls (.ref (ad 2) :: .int a0 :: .ref (ad 4) :: rest)) :=
  cv_rw E (c_X0_comeAt l N P a0 hv) (gV kML_X6_158 kIM_X0_comeAt kSE_X0_comeAt kIN_X0 kCO_X0_comeAt) rfl ds_X0_comeAt rfl KC_blind (fun U _ hW => (K0.at S).warm hW) S (va_recv K0.k P (show classes[0]? = some (RX0, TX0, 5) from rfl) cw_g4) hR hls rfl hro hdg kk
end
section
variable {p : Program} {l : Launch} {e : Env} {R : Room} {s : State} {m : MethodId} {args : Array Value} {below : List Frame} {meth : Method} {c : Code} {H : Heap} {locs : List Loc} {cells slots : Nat} {Q : State → Prop} {cc : ByteArray} {nL pc : Nat} {ret : Option FieldType} {ls : Array Slot} {rest : List Value} {D : va_G} {cyI : ClassId} {ad : Nat → Nat} {I : Nat → Int32} {A : Nat → Nat → Int32}
theorem iv_X6_162 (E : EX p s m args meth c cc nL RX6 ret) (N : AdN 44 ad) (K0 : KC D cyI ad s s.heap) (P : va_P D classes (cw cyI ad I A) H) (S : va_S (InN 44 ad) s.heap H locs) {v : Int32 × (Nat → Int32) × (Nat → Nat → Int32)} (hv : B_X1_relax I A  = some v) (hR : RmOk R cells slots 5 4) (hls : ls.size = nL) (hro : (rest.map fun v => v.category).sum ≤ 8) (hdg : decode cc pc = .ok (.invokevirtual 162, 3)) (kk : ∀ (H1 : Heap) (locs1 : List Loc), va_P D classes (cw cyI ad v.2.1 v.2.2) H1 → va_S (InN 44 ad) s.heap H1 locs1 → W p l e R s m args below meth c H1 locs1 cells slots Q (F0 m (pc + 3) ls (.int v.1 :: rest))) : W p l e R s m args below meth c H locs cells slots Q (F0 m pc ls (.ref (ad 2) :: rest)) :=
  cv_rw E (c_X1_relax l N P  hv) (gV kML_X6_162 kIM_X1_relax kSE_X1_relax kIN_X1 kCO_X1_relax) rfl ds_X1_relax rfl KC_blind (fun U _ hW => (K0.at S).warm hW) S (va_recv K0.k P (show classes[1]? = some (RX1, TX1, 11) from rfl) cw_g2) hR hls rfl hro hdg kk
end
section
variable {p : Program} {l : Launch} {e : Env} {R : Room} {s : State} {m : MethodId} {args : Array Value} {below : List Frame} {meth : Method} {c : Code} {H : Heap} {locs : List Loc} {cells slots : Nat} {Q : State → Prop} {cc : ByteArray} {nL pc : Nat} {ret : Option FieldType} {ls : Array Slot} {rest : List Value} {D : va_G} {cyI : ClassId} {ad : Nat → Nat} {I : Nat → Int32} {A : Nat → Nat → Int32}
theorem iv_X6_166 (E : EX p s m args meth c cc nL RX6 ret) (N : AdN 44 ad) (K0 : KC D cyI ad s s.heap) (P : va_P D classes (cw cyI ad I A) H) (S : va_S (InN 44 ad) s.heap H locs) {v : (Nat → Int32) × (Nat → Nat → Int32)} (hv : B_X6_noteGreys I A  = some v) (hR : RmOk R cells slots 3 2) (hls : ls.size = nL) (hro : (rest.map fun v => v.category).sum ≤ 8) (hdg : decode cc pc = .ok (.invokevirtual 166, 3)) (kk : ∀ (H1 : Heap) (locs1 : List Loc), va_P D classes (cw cyI ad v.1 v.2) H1 → va_S (InN 44 ad) s.heap H1 locs1 → W p l e R s m args below meth c H1 locs1 cells slots Q (F0 m (pc + 3) ls (rest))) : W p l e R s m args below meth c H locs cells slots Q (F0 m pc ls (.ref (ad 0) :: rest)) :=
  cv_rw E (c_X6_noteGreys l N P  hv) (gV kML_X6_166 kIM_X6_noteGreys kSE_X6_noteGreys kIN_X6 kCO_X6_noteGreys) rfl ds_X6_noteGreys rfl KC_blind (fun U _ hW => (K0.at S).warm hW) S (va_recv K0.k P (show classes[6]? = some (RX6, TX6, 9) from rfl) cw_g0) hR hls rfl hro hdg kk
end
section
variable {p : Program} {l : Launch} {e : Env} {s : State} {m : MethodId} {args : Array Value} {below : List Frame} {meth : Method} {c : Code} {D : va_G} {cyI : ClassId} {ad : Nat → Nat} {I : Nat → Int32} {A : Nat → Nat → Int32}
def B_X6_tick_L49  (x1 x2 : Int32) : Nat → Int32 → (Nat → Int32) → (Nat → Nat → Int32) → Option ((Nat → Int32) × (Nat → Nat → Int32))
  | 0 => fun _ _ _ => none
  | n + 1 => fun x3 I A => if x1 ≤ x3 then some ((I, A)) else ((B_X0_comeAt ((va_up I 1 (((I 1) + 1)))) A ((((va_up I 1 (((I 1) + 1)))) 1))).bind fun q_4 => (B_X6_worked q_4.2.1 q_4.2.2 q_4.1).bind fun q_6 => (B_X1_relax q_6.2.1 q_6.2.2 ).bind fun q_8 => (B_X6_noteGreys ((va_up q_8.2.1 3 (((q_6.2.1 3) + q_8.1)))) q_8.2.2 ).bind fun q_10 => (B_X6_tick_L49 x1 x2 n) (x3 + 1) q_10.1 q_10.2)
theorem B_X6_tick_L49_s (I : Nat → Int32) (A : Nat → Nat → Int32) (x1 x2 x3 : Int32) (n : Nat) : B_X6_tick_L49  x1 x2 (n + 1) x3 I A = if x1 ≤ x3 then some ((I, A)) else ((B_X0_comeAt ((va_up I 1 (((I 1) + 1)))) A ((((va_up I 1 (((I 1) + 1)))) 1))).bind fun q_4 => (B_X6_worked q_4.2.1 q_4.2.2 q_4.1).bind fun q_6 => (B_X1_relax q_6.2.1 q_6.2.2 ).bind fun q_8 => (B_X6_noteGreys ((va_up q_8.2.1 3 (((q_6.2.1 3) + q_8.1)))) q_8.2.2 ).bind fun q_10 => (B_X6_tick_L49 x1 x2 n) (x3 + 1) q_10.1 q_10.2) := rfl
set_option maxHeartbeats 4000000 in
set_option maxRecDepth 100000 in
theorem w_X6_tick_L49 (E : EX p s m args meth c cX6_tick 4 RX6 (some .int)) (K0 : KC D cyI ad s s.heap) (N : AdN 44 ad) {x1 x2 : Int32} {out : Int32 × (Nat → Int32) × (Nat → Nat → Int32)} : ∀ (n : Nat) {x3 : Int32} {I : Nat → Int32} {A : Nat → Nat → Int32} {H : Heap} {locs : List Loc} (P : va_P D classes (cw cyI ad I A) H) (S : va_S (InN 44 ad) s.heap H locs) {o : (Nat → Int32) × (Nat → Nat → Int32)} (h : B_X6_tick_L49  x1 x2 n x3 I A = some o) {ls : Array Slot} (hl : lv_has ls 4 [(0, .ref (ad 0)), (1, .int x1), (2, .int x2), (3, .int x3)]) (kx : ∀ {H : Heap} {locs : List Loc} (_ : va_P D classes (cw cyI ad o.1 o.2) H) (_ : va_S (InN 44 ad) s.heap H locs) {ls : Array Slot}, lv_has ls 4 [(0, .ref (ad 0)), (2, .int x2)] → W p l e (rmL 6) s m args below meth c H locs 0 0 (MQ below (Qrw (InN 44 ad) (some (.int out.1)) (fun H1 => va_P D classes (cw cyI ad out.2.1 out.2.2) H1)) args s 0 0 (InN 44 ad)) (F0 m 110 ls [])), W p l e (rmL 6) s m args below meth c H locs 0 0 (MQ below (Qrw (InN 44 ad) (some (.int out.1)) (fun H1 => va_P D classes (cw cyI ad out.2.1 out.2.2) H1)) args s 0 0 (InN 44 ad)) (F0 m 49 ls []) := by
  intro n
  induction n with
  | zero => intro x3 I A H locs P S o h ls hl kx; exact nomatch (show none = some o from h)
  | succ n ih =>
    intro x3 I A H locs P S o h ls hl kx
    rw [B_X6_tick_L49_s] at h
    refine lv_iload_n E.hx E.hb dX6_tick_49 rfl (lv_at hl 3 rfl) ?_
    refine lv_iload_n E.hx E.hb dX6_tick_50 rfl (lv_at hl 1 rfl) ?_
    refine lv_icmp_ge (tgt := 110) E.hx E.hb dX6_tick_51 (by decide) (fun c_3 => ?_) (fun c_3 => ?_)
    · rw [if_pos c_3] at h
      cases h
      exact kx P S (lv_sub hl [0, 2] rfl)
    · rw [if_neg c_3] at h
      refine lv_aload_n E.hx E.hb dX6_tick_54 rfl (lv_at hl 0 rfl) ?_
      refine lv_dup E.hx E.hb dX6_tick_55 rfl ?_
      refine gf_X6_140 E K0 P dX6_tick_56 ?_
      refine lv_iconst (v := 1) E.hx E.hb dX6_tick_59 (by decide) ?_
      refine lv_iadd E.hx E.hb dX6_tick_60 ?_
      refine pf_X6_140 E N K0 P S dX6_tick_61 (fun H locs P S => ?_)
      refine lv_aload_n E.hx E.hb dX6_tick_64 rfl (lv_at hl 0 rfl) ?_
      refine lv_aload_n E.hx E.hb dX6_tick_65 rfl (lv_at hl 0 rfl) ?_
      refine gf_X6_37 E K0 P dX6_tick_66 ?_
      refine lv_aload_n E.hx E.hb dX6_tick_69 rfl (lv_at hl 0 rfl) ?_
      refine gf_X6_140 E K0 P dX6_tick_70 ?_
      refine lv_aload_n E.hx E.hb dX6_tick_73 rfl (lv_at hl 0 rfl) ?_
      refine gf_X6_21 E K0 P dX6_tick_74 ?_
      obtain ⟨q_4, e_5, h⟩ := obind h
      refine iv_X6_158 E N K0 P S e_5 (by decide) hl.1 (Nat.le_of_ble_eq_true rfl) dX6_tick_77 (fun H locs P S => ?_)
      obtain ⟨q_6, e_7, h⟩ := obind h
      refine iv_X6_73 E N K0 P S e_7 (by decide) hl.1 (Nat.le_of_ble_eq_true rfl) dX6_tick_80 (fun H locs P S => ?_)
      refine lv_pop E.hx E.hb dX6_tick_83 rfl ?_
      refine lv_aload_n E.hx E.hb dX6_tick_84 rfl (lv_at hl 0 rfl) ?_
      refine lv_dup E.hx E.hb dX6_tick_85 rfl ?_
      refine gf_X6_155 E K0 P dX6_tick_86 ?_
      refine lv_aload_n E.hx E.hb dX6_tick_89 rfl (lv_at hl 0 rfl) ?_
      refine gf_X6_21 E K0 P dX6_tick_90 ?_
      obtain ⟨q_8, e_9, h⟩ := obind h
      refine iv_X6_162 E N K0 P S e_9 (by decide) hl.1 (Nat.le_of_ble_eq_true rfl) dX6_tick_93 (fun H locs P S => ?_)
      refine lv_iadd E.hx E.hb dX6_tick_96 ?_
      refine pf_X6_155 E N K0 P S dX6_tick_97 (fun H locs P S => ?_)
      refine lv_aload_n E.hx E.hb dX6_tick_100 rfl (lv_at hl 0 rfl) ?_
      obtain ⟨q_10, e_11, h⟩ := obind h
      refine iv_X6_166 E N K0 P S e_11 (by decide) hl.1 (Nat.le_of_ble_eq_true rfl) dX6_tick_101 (fun H locs P S => ?_)
      refine lv_iinc (v := x3 + 1) (lv' := [(3, .int (x3 + 1)), (0, .ref (ad 0)), (1, .int x1), (2, .int x2)]) E.hx E.hb dX6_tick_104 hl (k := 3) rfl rfl (by decide) rfl (fun ls hl => ?_)
      refine lv_goto (tgt := 49) E.hx E.hb dX6_tick_107 (by decide) ?_
      exact ih P S h (lv_sub hl [1, 2, 3, 0] rfl) kx
def B_X6_tick (I : Nat → Int32) (A : Nat → Nat → Int32) (x1 : Int32) : Option (Int32 × (Nat → Int32) × (Nat → Nat → Int32)) := if (B_X6_isIn x1 1 50) = 0 then none else (if ((I 1) + x1) ≤ 2000 then ((B_X6_tick_L49  x1 ((I 3)) FU 0 I A).bind fun q_12 => some (((q_12.1 3) - (I 3)), q_12.1, q_12.2)) else none)
set_option maxHeartbeats 4000000 in
set_option maxRecDepth 100000 in
theorem w_X6_tick (E : EX p s m args meth c cX6_tick 4 RX6 (some .int)) (K0 : KC D cyI ad s s.heap) (N : AdN 44 ad) {H : Heap} {locs : List Loc} (P : va_P D classes (cw cyI ad I A) H) (S : va_S (InN 44 ad) s.heap H locs)  {x1 : Int32} {out : Int32 × (Nat → Int32) × (Nat → Nat → Int32)} (h : B_X6_tick I A x1 = some out) {ls : Array Slot} (hl : lv_has ls 4 [(0, .ref (ad 0)), (1, .int x1)]) : W p l e (rmL 6) s m args below meth c H locs 0 0 (MQ below (Qrw (InN 44 ad) (some (.int out.1)) (fun H1 => va_P D classes (cw cyI ad out.2.1 out.2.2) H1)) args s 0 0 (InN 44 ad)) (F0 m 0 ls []) := by
  unfold B_X6_tick at h
  refine lv_iload_n E.hx E.hb dX6_tick_0 rfl (lv_at hl 1 rfl) ?_
  refine lv_iconst (v := 1) E.hx E.hb dX6_tick_1 (by decide) ?_
  refine lv_bipush (v := 50) E.hx E.hb dX6_tick_2 (by decide) ?_
  refine iv_X6_56 E K0 S (by decide) hl.1 (Nat.le_of_ble_eq_true rfl) dX6_tick_4 ?_
  refine lv_if_ne (tgt := 20) E.hx E.hb dX6_tick_7 (by decide) (fun c_1 => ?_) (fun c_1 => ?_)
  · rw [if_neg c_1] at h
    refine lv_aload_n E.hx E.hb dX6_tick_20 rfl (lv_at hl 0 rfl) ?_
    refine gf_X6_140 E K0 P dX6_tick_21 ?_
    refine lv_iload_n E.hx E.hb dX6_tick_24 rfl (lv_at hl 1 rfl) ?_
    refine lv_iadd E.hx E.hb dX6_tick_25 ?_
    refine lv_sipush (v := 2000) E.hx E.hb dX6_tick_26 (by decide) ?_
    refine lv_icmp_le (tgt := 42) E.hx E.hb dX6_tick_29 (by decide) (fun c_2 => ?_) (fun c_2 => ?_)
    · rw [if_pos c_2] at h
      refine lv_aload_n E.hx E.hb dX6_tick_42 rfl (lv_at hl 0 rfl) ?_
      refine gf_X6_155 E K0 P dX6_tick_43 ?_
      refine lv_istore_n (lv' := [(2, .int (I 3)), (0, .ref (ad 0)), (1, .int x1)]) E.hx E.hb dX6_tick_46 rfl hl (by decide) rfl (fun ls hl => ?_)
      refine lv_iconst (v := 0) E.hx E.hb dX6_tick_47 (by decide) ?_
      refine lv_istore_n (lv' := [(3, .int 0), (2, .int (I 3)), (0, .ref (ad 0)), (1, .int x1)]) E.hx E.hb dX6_tick_48 rfl hl (by decide) rfl (fun ls hl => ?_)
      obtain ⟨q_12, e_13, h⟩ := obind h
      refine w_X6_tick_L49 E K0 N FU P S e_13 (lv_sub hl [2, 3, 1, 0] rfl) (fun {H locs} P S {ls} hl => ?_)
      refine lv_aload_n E.hx E.hb dX6_tick_110 rfl (lv_at hl 0 rfl) ?_
      refine gf_X6_155 E K0 P dX6_tick_111 ?_
      refine lv_iload_n E.hx E.hb dX6_tick_114 rfl (lv_at hl 1 rfl) ?_
      refine lv_isub E.hx E.hb dX6_tick_115 ?_
      cases h
      exact W.iret E.hx E.hb E.hr (fun t ht _ => ⟨rfl, by rw [ht]; exact P, S.F ht⟩) S.2.2 dX6_tick_116 E.hk
    · rw [if_neg c_2] at h
      exact nomatch h
  · rw [if_pos c_1] at h
    exact nomatch h
theorem c_X6_tick (l : Launch) {H : Heap} {D : va_G} {cyI : ClassId} {ad : Nat → Nat} {I : Nat → Int32} {A : Nat → Nat → Int32} (N : AdN 44 ad) (P : va_P D classes (cw cyI ad I A) H) (x1 : Int32) {out : Int32 × (Nat → Int32) × (Nat → Nat → Int32)} (h : B_X6_tick I A x1 = some out) : MRW l yX6_tick cX6_tick 4 (some .int) 6 [.ref (ad 0), .int x1] H (KC D cyI ad) (InN 44 ad) (some (.int out.1)) (fun H1 => va_P D classes (cw cyI ad out.2.1 out.2.2) H1) := by
  refine Mof (own := RX6) (by decide +kernel) rfl rfl ?_
  intro p e s m args below meth c ls E hH K0 hl
  subst hH
  exact w_X6_tick E K0 N P va_S.rf h hl
theorem ds_X6_tick : Dsc yX6_tick 1 := ⟨by decide +kernel, by decide +kernel, by decide +kernel⟩
end
section
variable {p : Program} {l : Launch} {e : Env} {R : Room} {s : State} {m : MethodId} {args : Array Value} {below : List Frame} {meth : Method} {c : Code} {H : Heap} {locs : List Loc} {cells slots : Nat} {Q : State → Prop} {cc : ByteArray} {nL pc : Nat} {ret : Option FieldType} {ls : Array Slot} {rest : List Value} {D : va_G} {cyI : ClassId} {ad : Nat → Nat} {I : Nat → Int32} {A : Nat → Nat → Int32}
theorem iv_X6_176 (E : EX p s m args meth c cc nL RX6 ret) (K0 : KC D cyI ad s s.heap) (P : va_P D classes (cw cyI ad I A) H) (S : va_S (InN 44 ad) s.heap H locs) {a0 a1 : Int32} (hR : RmOk R cells slots 1 3) (hls : ls.size = nL) (hro : (rest.map fun v => v.category).sum ≤ 8) (hdg : decode cc pc = .ok (.invokevirtual 176, 3)) (kk : W p l e R s m args below meth c H locs cells slots Q (F0 m (pc + 3) ls (.int (B_X1_directionAt I A a0 a1) :: rest))) : W p l e R s m args below meth c H locs cells slots Q (F0 m pc ls (.int a1 :: .int a0 :: .ref (ad 2) :: rest)) :=
  cv_ro E (c_X1_directionAt l P a0 a1 ) (gV kML_X6_176 kIM_X1_directionAt kSE_X1_directionAt kIN_X1 kCO_X1_directionAt) rfl ds_X1_directionAt rfl KC_blind (fun U _ hW => (K0.at S).warm hW) (va_recv K0.k P (show classes[1]? = some (RX1, TX1, 11) from rfl) cw_g2) hR hls rfl hro hdg kk
end
section
variable {p : Program} {l : Launch} {e : Env} {R : Room} {s : State} {m : MethodId} {args : Array Value} {below : List Frame} {meth : Method} {c : Code} {H : Heap} {locs : List Loc} {cells slots : Nat} {Q : State → Prop} {cc : ByteArray} {nL pc : Nat} {ret : Option FieldType} {ls : Array Slot} {rest : List Value} {D : va_G} {cyI : ClassId} {ad : Nat → Nat} {I : Nat → Int32} {A : Nat → Nat → Int32}
theorem iv_X6_179 (E : EX p s m args meth c cc nL RX6 ret) (K0 : KC D cyI ad s s.heap) (P : va_P D classes (cw cyI ad I A) H) (S : va_S (InN 44 ad) s.heap H locs) {a0 a1 : Int32} (hR : RmOk R cells slots 1 3) (hls : ls.size = nL) (hro : (rest.map fun v => v.category).sum ≤ 8) (hdg : decode cc pc = .ok (.invokevirtual 179, 3)) (kk : W p l e R s m args below meth c H locs cells slots Q (F0 m (pc + 3) ls (.int (B_X1_pixelAt I A a0 a1) :: rest))) : W p l e R s m args below meth c H locs cells slots Q (F0 m pc ls (.int a1 :: .int a0 :: .ref (ad 2) :: rest)) :=
  cv_ro E (c_X1_pixelAt l P a0 a1 ) (gV kML_X6_179 kIM_X1_pixelAt kSE_X1_pixelAt kIN_X1 kCO_X1_pixelAt) rfl ds_X1_pixelAt rfl KC_blind (fun U _ hW => (K0.at S).warm hW) (va_recv K0.k P (show classes[1]? = some (RX1, TX1, 11) from rfl) cw_g2) hR hls rfl hro hdg kk
end
section
variable {p : Program} {l : Launch} {e : Env} {R : Room} {s : State} {m : MethodId} {args : Array Value} {below : List Frame} {meth : Method} {c : Code} {H : Heap} {locs : List Loc} {cells slots : Nat} {Q : State → Prop} {cc : ByteArray} {nL pc : Nat} {ret : Option FieldType} {ls : Array Slot} {rest : List Value} {D : va_G} {cyI : ClassId} {ad : Nat → Nat} {I : Nat → Int32} {A : Nat → Nat → Int32}
theorem iv_X6_182 (E : EX p s m args meth c cc nL RX6 ret) (K0 : KC D cyI ad s s.heap) (S : va_S (InN 44 ad) s.heap H locs) {a0 a1 : Int32} (hR : RmOk R cells slots 1 3) (hls : ls.size = nL) (hro : (rest.map fun v => v.category).sum ≤ 8) (hdg : decode cc pc = .ok (.invokestatic 182, 3)) (kk : W p l e R s m args below meth c H locs cells slots Q (F0 m (pc + 3) ls (.int (B_X6_greyOf a0 a1) :: rest))) : W p l e R s m args below meth c H locs cells slots Q (F0 m pc ls (.int a1 :: .int a0 :: rest)) :=
  cs_ro E (c_X6_greyOf l (H := H) (D := D) (cyI := cyI) (ad := ad) a0 a1 ) (gS kML_X6_182 kST_X6_greyOf kIN_X6 kCO_X6_greyOf) rfl ds_X6_greyOf rfl KC_blind (fun U _ hW => (K0.at S).warm hW) hR hls rfl hro hdg kk
end
section
variable {p : Program} {l : Launch} {e : Env} {R : Room} {s : State} {m : MethodId} {args : Array Value} {below : List Frame} {meth : Method} {c : Code} {H : Heap} {locs : List Loc} {cells slots : Nat} {Q : State → Prop} {cc : ByteArray} {nL pc : Nat} {ret : Option FieldType} {ls : Array Slot} {rest : List Value} {D : va_G} {cyI : ClassId} {ad : Nat → Nat} {I : Nat → Int32} {A : Nat → Nat → Int32}
theorem iv_X6_185 (E : EX p s m args meth c cc nL RX6 ret) (K0 : KC D cyI ad s s.heap) (P : va_P D classes (cw cyI ad I A) H) (S : va_S (InN 44 ad) s.heap H locs) {a0 a1 : Int32} (hR : RmOk R cells slots 4 3) (hls : ls.size = nL) (hro : (rest.map fun v => v.category).sum ≤ 8) (hdg : decode cc pc = .ok (.invokevirtual 185, 3)) (kk : W p l e R s m args below meth c H locs cells slots Q (F0 m (pc + 3) ls (.int (B_X1_energyAt I A a0 a1) :: rest))) : W p l e R s m args below meth c H locs cells slots Q (F0 m pc ls (.int a1 :: .int a0 :: .ref (ad 2) :: rest)) :=
  cv_ro E (c_X1_energyAt l P a0 a1 ) (gV kML_X6_185 kIM_X1_energyAt kSE_X1_energyAt kIN_X1 kCO_X1_energyAt) rfl ds_X1_energyAt rfl KC_blind (fun U _ hW => (K0.at S).warm hW) (va_recv K0.k P (show classes[1]? = some (RX1, TX1, 11) from rfl) cw_g2) hR hls rfl hro hdg kk
end
section
variable {p : Program} {l : Launch} {e : Env} {s : State} {m : MethodId} {args : Array Value} {below : List Frame} {meth : Method} {c : Code} {D : va_G} {cyI : ClassId} {ad : Nat → Nat} {I : Nat → Int32} {A : Nat → Nat → Int32}
def B_X6_told (I : Nat → Int32) (A : Nat → Nat → Int32) (x1 x2 x3 : Int32) : Option (Int32) := if (B_X1_has I A x1 x2) = 0 then none else (if x3 = 0 then some ((B_X1_directionAt I A x1 x2)) else if x3 = 1 then some ((B_X1_kindAt I A x1 x2)) else if x3 = 2 then some ((B_X1_pixelAt I A x1 x2)) else if x3 = 3 then some ((B_X6_greyOf ((B_X1_directionAt I A x1 x2)) ((I 0)))) else if x3 = 4 then some ((B_X1_energyAt I A x1 x2)) else none)
set_option maxHeartbeats 4000000 in
set_option maxRecDepth 100000 in
theorem w_X6_told (E : EX p s m args meth c cX6_told 4 RX6 (some .int)) (K0 : KC D cyI ad s s.heap) (P : va_P D classes (cw cyI ad I A) s.heap)  {x1 x2 x3 : Int32} {out : Int32} (h : B_X6_told I A x1 x2 x3 = some out) {ls : Array Slot} (hl : lv_has ls 4 [(0, .ref (ad 0)), (1, .int x1), (2, .int x2), (3, .int x3)]) : W p l e (rmL 5) s m args below meth c s.heap [] 0 0 (MQ below (vp_Si (fun z => z = out)) args s 0 0 (fun _ => False)) (F0 m 0 ls []) := by
  unfold B_X6_told at h
  refine lv_aload_n E.hx E.hb dX6_told_0 rfl (lv_at hl 0 rfl) ?_
  refine gf_X6_21 E K0 P dX6_told_1 ?_
  refine lv_iload_n E.hx E.hb dX6_told_4 rfl (lv_at hl 1 rfl) ?_
  refine lv_iload_n E.hx E.hb dX6_told_5 rfl (lv_at hl 2 rfl) ?_
  refine iv_X6_77 E K0 P va_S.rf (by decide) hl.1 (Nat.le_of_ble_eq_true rfl) dX6_told_6 ?_
  refine lv_if_ne (tgt := 22) E.hx E.hb dX6_told_9 (by decide) (fun c_1 => ?_) (fun c_1 => ?_)
  · rw [if_neg c_1] at h
    refine lv_iload_n E.hx E.hb dX6_told_22 rfl (lv_at hl 3 rfl) ?_
    by_cases c_2 : x3 = 0
    · rw [if_pos c_2] at h
      refine lv_tableIn (off := 33) (tgt := 56) E.hx E.hb dX6_told_23 (by rw [c_2]; decide) (by rw [c_2]; decide) (by rw [c_2]; rfl) (by decide) ?_
      refine lv_aload_n E.hx E.hb dX6_told_56 rfl (lv_at hl 0 rfl) ?_
      refine gf_X6_21 E K0 P dX6_told_57 ?_
      refine lv_iload_n E.hx E.hb dX6_told_60 rfl (lv_at hl 1 rfl) ?_
      refine lv_iload_n E.hx E.hb dX6_told_61 rfl (lv_at hl 2 rfl) ?_
      refine iv_X6_176 E K0 P va_S.rf (by decide) hl.1 (Nat.le_of_ble_eq_true rfl) dX6_told_62 ?_
      exact W.iret E.hx E.hb E.hr (fun t ht _ => ⟨_, rfl, (Option.some.inj h), ht⟩) (fun q hq => nomatch hq) dX6_told_65 E.hk
    rw [if_neg c_2] at h
    by_cases c_3 : x3 = 1
    · rw [if_pos c_3] at h
      refine lv_tableIn (off := 43) (tgt := 66) E.hx E.hb dX6_told_23 (by rw [c_3]; decide) (by rw [c_3]; decide) (by rw [c_3]; rfl) (by decide) ?_
      refine lv_aload_n E.hx E.hb dX6_told_66 rfl (lv_at hl 0 rfl) ?_
      refine gf_X6_21 E K0 P dX6_told_67 ?_
      refine lv_iload_n E.hx E.hb dX6_told_70 rfl (lv_at hl 1 rfl) ?_
      refine lv_iload_n E.hx E.hb dX6_told_71 rfl (lv_at hl 2 rfl) ?_
      refine iv_X6_92 E K0 P va_S.rf (by decide) hl.1 (Nat.le_of_ble_eq_true rfl) dX6_told_72 ?_
      exact W.iret E.hx E.hb E.hr (fun t ht _ => ⟨_, rfl, (Option.some.inj h), ht⟩) (fun q hq => nomatch hq) dX6_told_75 E.hk
    rw [if_neg c_3] at h
    by_cases c_4 : x3 = 2
    · rw [if_pos c_4] at h
      refine lv_tableIn (off := 53) (tgt := 76) E.hx E.hb dX6_told_23 (by rw [c_4]; decide) (by rw [c_4]; decide) (by rw [c_4]; rfl) (by decide) ?_
      refine lv_aload_n E.hx E.hb dX6_told_76 rfl (lv_at hl 0 rfl) ?_
      refine gf_X6_21 E K0 P dX6_told_77 ?_
      refine lv_iload_n E.hx E.hb dX6_told_80 rfl (lv_at hl 1 rfl) ?_
      refine lv_iload_n E.hx E.hb dX6_told_81 rfl (lv_at hl 2 rfl) ?_
      refine iv_X6_179 E K0 P va_S.rf (by decide) hl.1 (Nat.le_of_ble_eq_true rfl) dX6_told_82 ?_
      exact W.iret E.hx E.hb E.hr (fun t ht _ => ⟨_, rfl, (Option.some.inj h), ht⟩) (fun q hq => nomatch hq) dX6_told_85 E.hk
    rw [if_neg c_4] at h
    by_cases c_5 : x3 = 3
    · rw [if_pos c_5] at h
      refine lv_tableIn (off := 63) (tgt := 86) E.hx E.hb dX6_told_23 (by rw [c_5]; decide) (by rw [c_5]; decide) (by rw [c_5]; rfl) (by decide) ?_
      refine lv_aload_n E.hx E.hb dX6_told_86 rfl (lv_at hl 0 rfl) ?_
      refine gf_X6_21 E K0 P dX6_told_87 ?_
      refine lv_iload_n E.hx E.hb dX6_told_90 rfl (lv_at hl 1 rfl) ?_
      refine lv_iload_n E.hx E.hb dX6_told_91 rfl (lv_at hl 2 rfl) ?_
      refine iv_X6_176 E K0 P va_S.rf (by decide) hl.1 (Nat.le_of_ble_eq_true rfl) dX6_told_92 ?_
      refine lv_aload_n E.hx E.hb dX6_told_95 rfl (lv_at hl 0 rfl) ?_
      refine gf_X6_48 E K0 P dX6_told_96 ?_
      refine iv_X6_182 E K0 va_S.rf (by decide) hl.1 (Nat.le_of_ble_eq_true rfl) dX6_told_99 ?_
      exact W.iret E.hx E.hb E.hr (fun t ht _ => ⟨_, rfl, (Option.some.inj h), ht⟩) (fun q hq => nomatch hq) dX6_told_102 E.hk
    rw [if_neg c_5] at h
    by_cases c_6 : x3 = 4
    · rw [if_pos c_6] at h
      refine lv_tableIn (off := 80) (tgt := 103) E.hx E.hb dX6_told_23 (by rw [c_6]; decide) (by rw [c_6]; decide) (by rw [c_6]; rfl) (by decide) ?_
      refine lv_aload_n E.hx E.hb dX6_told_103 rfl (lv_at hl 0 rfl) ?_
      refine gf_X6_21 E K0 P dX6_told_104 ?_
      refine lv_iload_n E.hx E.hb dX6_told_107 rfl (lv_at hl 1 rfl) ?_
      refine lv_iload_n E.hx E.hb dX6_told_108 rfl (lv_at hl 2 rfl) ?_
      refine iv_X6_185 E K0 P va_S.rf (by decide) hl.1 (Nat.le_of_ble_eq_true rfl) dX6_told_109 ?_
      exact W.iret E.hx E.hb E.hr (fun t ht _ => ⟨_, rfl, (Option.some.inj h), ht⟩) (fun q hq => nomatch hq) dX6_told_112 E.hk
    rw [if_neg c_6] at h
    refine lv_tableOut (tgt := 113) E.hx E.hb dX6_told_23 (swo 4 (by decide) (by intro j hj; rcases (show j = 0 ∨ j = 1 ∨ j = 2 ∨ j = 3 ∨ j = 4 by omega) with rfl | rfl | rfl | rfl | rfl <;> assumption)) (by decide) ?_
    exact nomatch h
  · rw [if_pos c_1] at h
    exact nomatch h
theorem c_X6_told (l : Launch) {H : Heap} {D : va_G} {cyI : ClassId} {ad : Nat → Nat} {I : Nat → Int32} {A : Nat → Nat → Int32} (P : va_P D classes (cw cyI ad I A) H) (x1 x2 x3 : Int32) {out : Int32} (h : B_X6_told I A x1 x2 x3 = some out) : MRO l yX6_told cX6_told 4 (some .int) 5 [.ref (ad 0), .int x1, .int x2, .int x3] H (KC D cyI ad) out := by
  refine Mof (own := RX6) (by decide +kernel) rfl rfl ?_
  intro p e s m args below meth c ls E hH K0 hl
  subst hH
  exact w_X6_told E K0 P h hl
theorem ds_X6_told : Dsc yX6_told 3 := ⟨by decide +kernel, by decide +kernel, by decide +kernel⟩
end
section
variable {p : Program} {l : Launch} {e : Env} {R : Room} {s : State} {m : MethodId} {args : Array Value} {below : List Frame} {meth : Method} {c : Code} {H : Heap} {locs : List Loc} {cells slots : Nat} {Q : State → Prop} {cc : ByteArray} {nL pc : Nat} {ret : Option FieldType} {ls : Array Slot} {rest : List Value} {D : va_G} {cyI : ClassId} {ad : Nat → Nat} {I : Nat → Int32} {A : Nat → Nat → Int32}
theorem iv_X6_228 (E : EX p s m args meth c cc nL RX6 ret) (K0 : KC D cyI ad s s.heap) (P : va_P D classes (cw cyI ad I A) H) (S : va_S (InN 44 ad) s.heap H locs) {a0 : Int32} {v : Int32} (hv : B_X3_flicker I A a0 = some v) (hR : RmOk R cells slots 1 8) (hls : ls.size = nL) (hro : (rest.map fun v => v.category).sum ≤ 8) (hdg : decode cc pc = .ok (.invokevirtual 228, 3)) (kk : W p l e R s m args below meth c H locs cells slots Q (F0 m (pc + 3) ls (.int v :: rest))) : W p l e R s m args below meth c H locs cells slots Q (F0 m pc ls (.int a0 :: .ref (ad 1) :: rest)) :=
  cv_ro E (c_X3_flicker l P a0 hv) (gV kML_X6_228 kIM_X3_flicker kSE_X3_flicker kIN_X3 kCO_X3_flicker) rfl ds_X3_flicker rfl KC_blind (fun U _ hW => (K0.at S).warm hW) (va_recv K0.k P (show classes[3]? = some (RX3, TX3, 9) from rfl) cw_g1) hR hls rfl hro hdg kk
end
section
variable {p : Program} {l : Launch} {e : Env} {R : Room} {s : State} {m : MethodId} {args : Array Value} {below : List Frame} {meth : Method} {c : Code} {H : Heap} {locs : List Loc} {cells slots : Nat} {Q : State → Prop} {cc : ByteArray} {nL pc : Nat} {ret : Option FieldType} {ls : Array Slot} {rest : List Value} {D : va_G} {cyI : ClassId} {ad : Nat → Nat} {I : Nat → Int32} {A : Nat → Nat → Int32}
theorem iv_X6_231 (E : EX p s m args meth c cc nL RX6 ret) (K0 : KC D cyI ad s s.heap) (P : va_P D classes (cw cyI ad I A) H) (S : va_S (InN 44 ad) s.heap H locs) {a0 : Int32} {v : Int32} (hv : B_X5_isGood I A a0 = some v) (hR : RmOk R cells slots 4 4) (hls : ls.size = nL) (hro : (rest.map fun v => v.category).sum ≤ 8) (hdg : decode cc pc = .ok (.invokevirtual 231, 3)) (kk : W p l e R s m args below meth c H locs cells slots Q (F0 m (pc + 3) ls (.int v :: rest))) : W p l e R s m args below meth c H locs cells slots Q (F0 m pc ls (.int a0 :: .ref (ad 3) :: rest)) :=
  cv_ro E (c_X5_isGood l P a0 hv) (gV kML_X6_231 kIM_X5_isGood kSE_X5_isGood kIN_X5 kCO_X5_isGood) rfl ds_X5_isGood rfl KC_blind (fun U _ hW => (K0.at S).warm hW) (va_recv K0.k P (show classes[5]? = some (RX5, TX5, 1) from rfl) cw_g3) hR hls rfl hro hdg kk
end
section
variable {p : Program} {l : Launch} {e : Env} {R : Room} {s : State} {m : MethodId} {args : Array Value} {below : List Frame} {meth : Method} {c : Code} {H : Heap} {locs : List Loc} {cells slots : Nat} {Q : State → Prop} {cc : ByteArray} {nL pc : Nat} {ret : Option FieldType} {ls : Array Slot} {rest : List Value} {D : va_G} {cyI : ClassId} {ad : Nat → Nat} {I : Nat → Int32} {A : Nat → Nat → Int32}
theorem iv_X6_234 (E : EX p s m args meth c cc nL RX6 ret) (K0 : KC D cyI ad s s.heap) (P : va_P D classes (cw cyI ad I A) H) (S : va_S (InN 44 ad) s.heap H locs) {a0 : Int32} (hR : RmOk R cells slots 1 2) (hls : ls.size = nL) (hro : (rest.map fun v => v.category).sum ≤ 8) (hdg : decode cc pc = .ok (.invokevirtual 234, 3)) (kk : W p l e R s m args below meth c H locs cells slots Q (F0 m (pc + 3) ls (.int (B_X3_fieldDirection I A a0) :: rest))) : W p l e R s m args below meth c H locs cells slots Q (F0 m pc ls (.int a0 :: .ref (ad 1) :: rest)) :=
  cv_ro E (c_X3_fieldDirection l P a0 ) (gV kML_X6_234 kIM_X3_fieldDirection kSE_X3_fieldDirection kIN_X3 kCO_X3_fieldDirection) rfl ds_X3_fieldDirection rfl KC_blind (fun U _ hW => (K0.at S).warm hW) (va_recv K0.k P (show classes[3]? = some (RX3, TX3, 9) from rfl) cw_g1) hR hls rfl hro hdg kk
end
section
variable {p : Program} {l : Launch} {e : Env} {R : Room} {s : State} {m : MethodId} {args : Array Value} {below : List Frame} {meth : Method} {c : Code} {H : Heap} {locs : List Loc} {cells slots : Nat} {Q : State → Prop} {cc : ByteArray} {nL pc : Nat} {ret : Option FieldType} {ls : Array Slot} {rest : List Value} {D : va_G} {cyI : ClassId} {ad : Nat → Nat} {I : Nat → Int32} {A : Nat → Nat → Int32}
theorem iv_X6_237 (E : EX p s m args meth c cc nL RX6 ret) (K0 : KC D cyI ad s s.heap) (P : va_P D classes (cw cyI ad I A) H) (S : va_S (InN 44 ad) s.heap H locs) {a0 : Int32} (hR : RmOk R cells slots 1 2) (hls : ls.size = nL) (hro : (rest.map fun v => v.category).sum ≤ 8) (hdg : decode cc pc = .ok (.invokevirtual 237, 3)) (kk : W p l e R s m args below meth c H locs cells slots Q (F0 m (pc + 3) ls (.int (B_X3_fieldStrength I A a0) :: rest))) : W p l e R s m args below meth c H locs cells slots Q (F0 m pc ls (.int a0 :: .ref (ad 1) :: rest)) :=
  cv_ro E (c_X3_fieldStrength l P a0 ) (gV kML_X6_237 kIM_X3_fieldStrength kSE_X3_fieldStrength kIN_X3 kCO_X3_fieldStrength) rfl ds_X3_fieldStrength rfl KC_blind (fun U _ hW => (K0.at S).warm hW) (va_recv K0.k P (show classes[3]? = some (RX3, TX3, 9) from rfl) cw_g1) hR hls rfl hro hdg kk
end
section
variable {p : Program} {l : Launch} {e : Env} {s : State} {m : MethodId} {args : Array Value} {below : List Frame} {meth : Method} {c : Code} {D : va_G} {cyI : ClassId} {ad : Nat → Nat} {I : Nat → Int32} {A : Nat → Nat → Int32}
def B_X6_ofPixel (I : Nat → Int32) (A : Nat → Nat → Int32) (x1 x2 : Int32) : Option (Int32) := if (B_X3_has I A x1) = 0 then none else (if x2 = 0 then ((B_X1_greyOfPixel I A x1 ((I 0))).bind fun r_3 => some r_3) else if x2 = 1 then ((B_X3_flicker I A x1).bind fun r_6 => some r_6) else if x2 = 2 then ((B_X5_isGood I A x1).bind fun r_9 => if r_9 = 0 then some 0 else some 1) else if x2 = 3 then some ((B_X3_fieldDirection I A x1)) else if x2 = 4 then some ((B_X3_fieldStrength I A x1)) else none)
set_option maxHeartbeats 4000000 in
set_option maxRecDepth 100000 in
theorem w_X6_ofPixel (E : EX p s m args meth c cX6_ofPixel 3 RX6 (some .int)) (K0 : KC D cyI ad s s.heap) (P : va_P D classes (cw cyI ad I A) s.heap)  {x1 x2 : Int32} {out : Int32} (h : B_X6_ofPixel I A x1 x2 = some out) {ls : Array Slot} (hl : lv_has ls 3 [(0, .ref (ad 0)), (1, .int x1), (2, .int x2)]) : W p l e (rmL 5) s m args below meth c s.heap [] 0 0 (MQ below (vp_Si (fun z => z = out)) args s 0 0 (fun _ => False)) (F0 m 0 ls []) := by
  unfold B_X6_ofPixel at h
  refine lv_aload_n E.hx E.hb dX6_ofPixel_0 rfl (lv_at hl 0 rfl) ?_
  refine gf_X6_12 E K0 P dX6_ofPixel_1 ?_
  refine lv_iload_n E.hx E.hb dX6_ofPixel_4 rfl (lv_at hl 1 rfl) ?_
  refine iv_X6_131 E K0 P va_S.rf (by decide) hl.1 (Nat.le_of_ble_eq_true rfl) dX6_ofPixel_5 ?_
  refine lv_if_ne (tgt := 21) E.hx E.hb dX6_ofPixel_8 (by decide) (fun c_1 => ?_) (fun c_1 => ?_)
  · rw [if_neg c_1] at h
    refine lv_iload_n E.hx E.hb dX6_ofPixel_21 rfl (lv_at hl 2 rfl) ?_
    by_cases c_2 : x2 = 0
    · rw [if_pos c_2] at h
      refine lv_tableIn (off := 34) (tgt := 56) E.hx E.hb dX6_ofPixel_22 (by rw [c_2]; decide) (by rw [c_2]; decide) (by rw [c_2]; rfl) (by decide) ?_
      refine lv_aload_n E.hx E.hb dX6_ofPixel_56 rfl (lv_at hl 0 rfl) ?_
      refine gf_X6_21 E K0 P dX6_ofPixel_57 ?_
      refine lv_iload_n E.hx E.hb dX6_ofPixel_60 rfl (lv_at hl 1 rfl) ?_
      refine lv_aload_n E.hx E.hb dX6_ofPixel_61 rfl (lv_at hl 0 rfl) ?_
      refine gf_X6_48 E K0 P dX6_ofPixel_62 ?_
      obtain ⟨r_3, e_4, h⟩ := obind h
      refine iv_X6_225 E K0 P va_S.rf e_4 (by decide) hl.1 (Nat.le_of_ble_eq_true rfl) dX6_ofPixel_65 ?_
      exact W.iret E.hx E.hb E.hr (fun t ht _ => ⟨_, rfl, (Option.some.inj h), ht⟩) (fun q hq => nomatch hq) dX6_ofPixel_68 E.hk
    rw [if_neg c_2] at h
    by_cases c_5 : x2 = 1
    · rw [if_pos c_5] at h
      refine lv_tableIn (off := 47) (tgt := 69) E.hx E.hb dX6_ofPixel_22 (by rw [c_5]; decide) (by rw [c_5]; decide) (by rw [c_5]; rfl) (by decide) ?_
      refine lv_aload_n E.hx E.hb dX6_ofPixel_69 rfl (lv_at hl 0 rfl) ?_
      refine gf_X6_12 E K0 P dX6_ofPixel_70 ?_
      refine lv_iload_n E.hx E.hb dX6_ofPixel_73 rfl (lv_at hl 1 rfl) ?_
      obtain ⟨r_6, e_7, h⟩ := obind h
      refine iv_X6_228 E K0 P va_S.rf e_7 (by decide) hl.1 (Nat.le_of_ble_eq_true rfl) dX6_ofPixel_74 ?_
      exact W.iret E.hx E.hb E.hr (fun t ht _ => ⟨_, rfl, (Option.some.inj h), ht⟩) (fun q hq => nomatch hq) dX6_ofPixel_77 E.hk
    rw [if_neg c_5] at h
    by_cases c_8 : x2 = 2
    · rw [if_pos c_8] at h
      refine lv_tableIn (off := 56) (tgt := 78) E.hx E.hb dX6_ofPixel_22 (by rw [c_8]; decide) (by rw [c_8]; decide) (by rw [c_8]; rfl) (by decide) ?_
      refine lv_aload_n E.hx E.hb dX6_ofPixel_78 rfl (lv_at hl 0 rfl) ?_
      refine gf_X6_30 E K0 P dX6_ofPixel_79 ?_
      refine lv_iload_n E.hx E.hb dX6_ofPixel_82 rfl (lv_at hl 1 rfl) ?_
      obtain ⟨r_9, e_10, h⟩ := obind h
      refine iv_X6_231 E K0 P va_S.rf e_10 (by decide) hl.1 (Nat.le_of_ble_eq_true rfl) dX6_ofPixel_83 ?_
      refine lv_if_eq (tgt := 93) E.hx E.hb dX6_ofPixel_86 (by decide) (fun c_11 => ?_) (fun c_11 => ?_)
      · rw [if_pos c_11] at h
        refine lv_iconst (v := 0) E.hx E.hb dX6_ofPixel_93 (by decide) ?_
        exact W.iret E.hx E.hb E.hr (fun t ht _ => ⟨_, rfl, (Option.some.inj h), ht⟩) (fun q hq => nomatch hq) dX6_ofPixel_94 E.hk
      · rw [if_neg c_11] at h
        refine lv_iconst (v := 1) E.hx E.hb dX6_ofPixel_89 (by decide) ?_
        refine lv_goto (tgt := 94) E.hx E.hb dX6_ofPixel_90 (by decide) ?_
        exact W.iret E.hx E.hb E.hr (fun t ht _ => ⟨_, rfl, (Option.some.inj h), ht⟩) (fun q hq => nomatch hq) dX6_ofPixel_94 E.hk
    rw [if_neg c_8] at h
    by_cases c_12 : x2 = 3
    · rw [if_pos c_12] at h
      refine lv_tableIn (off := 73) (tgt := 95) E.hx E.hb dX6_ofPixel_22 (by rw [c_12]; decide) (by rw [c_12]; decide) (by rw [c_12]; rfl) (by decide) ?_
      refine lv_aload_n E.hx E.hb dX6_ofPixel_95 rfl (lv_at hl 0 rfl) ?_
      refine gf_X6_12 E K0 P dX6_ofPixel_96 ?_
      refine lv_iload_n E.hx E.hb dX6_ofPixel_99 rfl (lv_at hl 1 rfl) ?_
      refine iv_X6_234 E K0 P va_S.rf (by decide) hl.1 (Nat.le_of_ble_eq_true rfl) dX6_ofPixel_100 ?_
      exact W.iret E.hx E.hb E.hr (fun t ht _ => ⟨_, rfl, (Option.some.inj h), ht⟩) (fun q hq => nomatch hq) dX6_ofPixel_103 E.hk
    rw [if_neg c_12] at h
    by_cases c_13 : x2 = 4
    · rw [if_pos c_13] at h
      refine lv_tableIn (off := 82) (tgt := 104) E.hx E.hb dX6_ofPixel_22 (by rw [c_13]; decide) (by rw [c_13]; decide) (by rw [c_13]; rfl) (by decide) ?_
      refine lv_aload_n E.hx E.hb dX6_ofPixel_104 rfl (lv_at hl 0 rfl) ?_
      refine gf_X6_12 E K0 P dX6_ofPixel_105 ?_
      refine lv_iload_n E.hx E.hb dX6_ofPixel_108 rfl (lv_at hl 1 rfl) ?_
      refine iv_X6_237 E K0 P va_S.rf (by decide) hl.1 (Nat.le_of_ble_eq_true rfl) dX6_ofPixel_109 ?_
      exact W.iret E.hx E.hb E.hr (fun t ht _ => ⟨_, rfl, (Option.some.inj h), ht⟩) (fun q hq => nomatch hq) dX6_ofPixel_112 E.hk
    rw [if_neg c_13] at h
    refine lv_tableOut (tgt := 113) E.hx E.hb dX6_ofPixel_22 (swo 4 (by decide) (by intro j hj; rcases (show j = 0 ∨ j = 1 ∨ j = 2 ∨ j = 3 ∨ j = 4 by omega) with rfl | rfl | rfl | rfl | rfl <;> assumption)) (by decide) ?_
    exact nomatch h
  · rw [if_pos c_1] at h
    exact nomatch h
theorem c_X6_ofPixel (l : Launch) {H : Heap} {D : va_G} {cyI : ClassId} {ad : Nat → Nat} {I : Nat → Int32} {A : Nat → Nat → Int32} (P : va_P D classes (cw cyI ad I A) H) (x1 x2 : Int32) {out : Int32} (h : B_X6_ofPixel I A x1 x2 = some out) : MRO l yX6_ofPixel cX6_ofPixel 3 (some .int) 5 [.ref (ad 0), .int x1, .int x2] H (KC D cyI ad) out := by
  refine Mof (own := RX6) (by decide +kernel) rfl rfl ?_
  intro p e s m args below meth c ls E hH K0 hl
  subst hH
  exact w_X6_ofPixel E K0 P h hl
theorem ds_X6_ofPixel : Dsc yX6_ofPixel 2 := ⟨by decide +kernel, by decide +kernel, by decide +kernel⟩
end
end WALK

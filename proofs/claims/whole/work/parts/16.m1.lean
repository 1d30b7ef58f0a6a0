section WALK
section
variable {p : Program} {l : Launch} {e : Env} {s : State} {m : MethodId} {args : Array Value} {below : List Frame} {meth : Method} {c : Code} {D : va_G} {cyI : ClassId} {ad : Nat → Nat} {I : Nat → Int32} {A : Nat → Nat → Int32}
def B_X7_begin_L2   : Nat → Int32 → (Nat → Int32) → (Nat → Nat → Int32) → Option ((Nat → Int32) × (Nat → Nat → Int32))
  | 0 => fun _ _ _ => none
  | n + 1 => fun x1 I A => if 144 ≤ x1 then some ((I, A)) else ((wr (A 0) 144 x1 0).bind fun g_2 => (wr (((va_up A 0 g_2)) 1) 144 x1 0).bind fun g_4 => (wr (((va_up ((va_up A 0 g_2)) 1 g_4)) 4) 144 x1 ((-1))).bind fun g_6 => (B_X7_begin_L2 n) (x1 + 1) I ((va_up ((va_up ((va_up A 0 g_2)) 1 g_4)) 4 g_6)))
theorem B_X7_begin_L2_s (I : Nat → Int32) (A : Nat → Nat → Int32) (x1 : Int32) (n : Nat) : B_X7_begin_L2   (n + 1) x1 I A = if 144 ≤ x1 then some ((I, A)) else ((wr (A 0) 144 x1 0).bind fun g_2 => (wr (((va_up A 0 g_2)) 1) 144 x1 0).bind fun g_4 => (wr (((va_up ((va_up A 0 g_2)) 1 g_4)) 4) 144 x1 ((-1))).bind fun g_6 => (B_X7_begin_L2 n) (x1 + 1) I ((va_up ((va_up ((va_up A 0 g_2)) 1 g_4)) 4 g_6))) := rfl
set_option maxHeartbeats 4000000 in
set_option maxRecDepth 100000 in
theorem w_X7_begin_L2 (E : EX p s m args meth c cX7_begin 2 RX7 none) (K0 : KM D cyI s s.heap) (N : AdN 16 ad) {out : (Nat → Int32) × (Nat → Nat → Int32)} : ∀ (n : Nat) {x1 : Int32} {I : Nat → Int32} {A : Nat → Nat → Int32} {H : Heap} {locs : List Loc} (P : va_P D classes (mw cyI ad I A) H) (S : va_S (InN 16 ad) s.heap H locs) {o : (Nat → Int32) × (Nat → Nat → Int32)} (h : B_X7_begin_L2   n x1 I A = some o) {ls : Array Slot} (hl : lv_has ls 2 [(0, .ref (ad 0)), (1, .int x1)]) (kx : ∀ {H : Heap} {locs : List Loc} (_ : va_P D classes (mw cyI ad o.1 o.2) H) (_ : va_S (InN 16 ad) s.heap H locs) {ls : Array Slot}, lv_has ls 2 [(0, .ref (ad 0))] → W p l e (rmL 0) s m args below meth c H locs 0 0 (MQ below (Qrw (InN 16 ad) (none) (fun H1 => va_P D classes (mw cyI ad out.1 out.2) H1)) args s 0 0 (InN 16 ad)) (F0 m 36 ls [])), W p l e (rmL 0) s m args below meth c H locs 0 0 (MQ below (Qrw (InN 16 ad) (none) (fun H1 => va_P D classes (mw cyI ad out.1 out.2) H1)) args s 0 0 (InN 16 ad)) (F0 m 2 ls []) := by
  intro n
  induction n with
  | zero => intro x1 I A H locs P S o h ls hl kx; exact nomatch (show none = some o from h)
  | succ n ih =>
    intro x1 I A H locs P S o h ls hl kx
    rw [B_X7_begin_L2_s] at h
    refine lv_iload_n E.hx E.hb dX7_begin_2 rfl (lv_at hl 1 rfl) ?_
    refine lv_sipush (v := 144) E.hx E.hb dX7_begin_3 (by decide) ?_
    refine lv_icmp_ge (tgt := 36) E.hx E.hb dX7_begin_6 (by decide) (fun c_1 => ?_) (fun c_1 => ?_)
    · rw [if_pos c_1] at h
      cases h
      exact kx P S (lv_sub hl [0] rfl)
    · rw [if_neg c_1] at h
      refine lv_aload_n E.hx E.hb dX7_begin_9 rfl (lv_at hl 0 rfl) ?_
      refine gf_X7_22 E K0 P dX7_begin_10 ?_
      refine lv_iload_n E.hx E.hb dX7_begin_13 rfl (lv_at hl 1 rfl) ?_
      refine lv_iconst (v := 0) E.hx E.hb dX7_begin_14 (by decide) ?_
      obtain ⟨g_2, e_3, h⟩ := obind h
      refine as_0 E N K0 P S e_3 dX7_begin_15 (fun H locs P S => ?_)
      refine lv_aload_n E.hx E.hb dX7_begin_16 rfl (lv_at hl 0 rfl) ?_
      refine gf_X7_26 E K0 P dX7_begin_17 ?_
      refine lv_iload_n E.hx E.hb dX7_begin_20 rfl (lv_at hl 1 rfl) ?_
      refine lv_iconst (v := 0) E.hx E.hb dX7_begin_21 (by decide) ?_
      obtain ⟨g_4, e_5, h⟩ := obind h
      refine as_1 E N K0 P S e_5 dX7_begin_22 (fun H locs P S => ?_)
      refine lv_aload_n E.hx E.hb dX7_begin_23 rfl (lv_at hl 0 rfl) ?_
      refine gf_X7_35 E K0 P dX7_begin_24 ?_
      refine lv_iload_n E.hx E.hb dX7_begin_27 rfl (lv_at hl 1 rfl) ?_
      refine lv_iconst (v := (-1)) E.hx E.hb dX7_begin_28 (by decide) ?_
      obtain ⟨g_6, e_7, h⟩ := obind h
      refine as_4 E N K0 P S e_7 dX7_begin_29 (fun H locs P S => ?_)
      refine lv_iinc (v := x1 + 1) (lv' := [(1, .int (x1 + 1)), (0, .ref (ad 0))]) E.hx E.hb dX7_begin_30 hl (k := 1) rfl rfl (by decide) rfl (fun ls hl => ?_)
      refine lv_goto (tgt := 2) E.hx E.hb dX7_begin_33 (by decide) ?_
      exact ih P S h (lv_sub hl [1, 0] rfl) kx
def B_X7_begin (I : Nat → Int32) (A : Nat → Nat → Int32)  : Option ((Nat → Int32) × (Nat → Nat → Int32)) := (B_X7_begin_L2   FU 0 I A).bind fun q_8 => some ((va_up ((va_up ((va_up ((va_up ((va_up ((va_up q_8.1 9 0)) 10 0)) 11 0)) 6 0)) 7 0)) 8 0), q_8.2)
set_option maxHeartbeats 4000000 in
set_option maxRecDepth 100000 in
theorem w_X7_begin (E : EX p s m args meth c cX7_begin 2 RX7 none) (K0 : KM D cyI s s.heap) (N : AdN 16 ad) {H : Heap} {locs : List Loc} (P : va_P D classes (mw cyI ad I A) H) (S : va_S (InN 16 ad) s.heap H locs)  {out : (Nat → Int32) × (Nat → Nat → Int32)} (h : B_X7_begin I A  = some out) {ls : Array Slot} (hl : lv_has ls 2 [(0, .ref (ad 0))]) : W p l e (rmL 0) s m args below meth c H locs 0 0 (MQ below (Qrw (InN 16 ad) (none) (fun H1 => va_P D classes (mw cyI ad out.1 out.2) H1)) args s 0 0 (InN 16 ad)) (F0 m 0 ls []) := by
  unfold B_X7_begin at h
  refine lv_iconst (v := 0) E.hx E.hb dX7_begin_0 (by decide) ?_
  refine lv_istore_n (lv' := [(1, .int 0), (0, .ref (ad 0))]) E.hx E.hb dX7_begin_1 rfl hl (by decide) rfl (fun ls hl => ?_)
  obtain ⟨q_8, e_9, h⟩ := obind h
  refine w_X7_begin_L2 E K0 N FU P S e_9 (lv_sub hl [1, 0] rfl) (fun {H locs} P S {ls} hl => ?_)
  refine lv_aload_n E.hx E.hb dX7_begin_36 rfl (lv_at hl 0 rfl) ?_
  refine lv_iconst (v := 0) E.hx E.hb dX7_begin_37 (by decide) ?_
  refine pf_X7_71 E N K0 P S dX7_begin_38 (fun H locs P S => ?_)
  refine lv_aload_n E.hx E.hb dX7_begin_41 rfl (lv_at hl 0 rfl) ?_
  refine lv_iconst (v := 0) E.hx E.hb dX7_begin_42 (by decide) ?_
  refine pf_X7_74 E N K0 P S dX7_begin_43 (fun H locs P S => ?_)
  refine lv_aload_n E.hx E.hb dX7_begin_46 rfl (lv_at hl 0 rfl) ?_
  refine lv_iconst (v := 0) E.hx E.hb dX7_begin_47 (by decide) ?_
  refine pf_X7_77 E N K0 P S dX7_begin_48 (fun H locs P S => ?_)
  refine lv_aload_n E.hx E.hb dX7_begin_51 rfl (lv_at hl 0 rfl) ?_
  refine lv_iconst (v := 0) E.hx E.hb dX7_begin_52 (by decide) ?_
  refine pf_X7_80 E N K0 P S dX7_begin_53 (fun H locs P S => ?_)
  refine lv_aload_n E.hx E.hb dX7_begin_56 rfl (lv_at hl 0 rfl) ?_
  refine lv_iconst (v := 0) E.hx E.hb dX7_begin_57 (by decide) ?_
  refine pf_X7_83 E N K0 P S dX7_begin_58 (fun H locs P S => ?_)
  refine lv_aload_n E.hx E.hb dX7_begin_61 rfl (lv_at hl 0 rfl) ?_
  refine lv_iconst (v := 0) E.hx E.hb dX7_begin_62 (by decide) ?_
  refine pf_X7_86 E N K0 P S dX7_begin_63 (fun H locs P S => ?_)
  cases h
  exact W.vret E.hx E.hb E.hr (fun t ht _ => ⟨rfl, by rw [ht]; exact P, S.F ht⟩) S.2.2 dX7_begin_66 E.hk
theorem c_X7_begin (l : Launch) {H : Heap} {D : va_G} {cyI : ClassId} {ad : Nat → Nat} {I : Nat → Int32} {A : Nat → Nat → Int32} (N : AdN 16 ad) (P : va_P D classes (mw cyI ad I A) H)  {out : (Nat → Int32) × (Nat → Nat → Int32)} (h : B_X7_begin I A  = some out) : MRW l yX7_begin cX7_begin 2 none 0 [.ref (ad 0)] H (KM D cyI) (InN 16 ad) none (fun H1 => va_P D classes (mw cyI ad out.1 out.2) H1) := by
  refine Mof (own := RX7) (by decide +kernel) rfl rfl ?_
  intro p e s m args below meth c ls E hH K0 hl
  subst hH
  exact w_X7_begin E K0 N P va_S.rf h hl
theorem ds_X7_begin : Dsc yX7_begin 0 := ⟨by decide +kernel, by decide +kernel, by decide +kernel⟩
end
section
variable {p : Program} {l : Launch} {e : Env} {s : State} {m : MethodId} {args : Array Value} {below : List Frame} {meth : Method} {c : Code} {D : va_G} {cyI : ClassId} {ad : Nat → Nat} {I : Nat → Int32} {A : Nat → Nat → Int32}
def B_X7_thrown (I : Nat → Int32) (A : Nat → Nat → Int32)  : Int32 := (I 0)
set_option maxHeartbeats 4000000 in
set_option maxRecDepth 100000 in
theorem w_X7_thrown (E : EX p s m args meth c cX7_thrown 1 RX7 (some .int)) (K0 : KM D cyI s s.heap) (P : va_P D classes (mw cyI ad I A) s.heap)  {out : Int32} (h : B_X7_thrown I A  = out) {ls : Array Slot} (hl : lv_has ls 1 [(0, .ref (ad 0))]) : W p l e (rmL 0) s m args below meth c s.heap [] 0 0 (MQ below (vp_Si (fun z => z = out)) args s 0 0 (fun _ => False)) (F0 m 0 ls []) := by
  unfold B_X7_thrown at h
  refine lv_aload_n E.hx E.hb dX7_thrown_0 rfl (lv_at hl 0 rfl) ?_
  refine gf_X7_89 E K0 P dX7_thrown_1 ?_
  exact W.iret E.hx E.hb E.hr (fun t ht _ => ⟨_, rfl, h, ht⟩) (fun q hq => nomatch hq) dX7_thrown_4 E.hk
theorem c_X7_thrown (l : Launch) {H : Heap} {D : va_G} {cyI : ClassId} {ad : Nat → Nat} {I : Nat → Int32} {A : Nat → Nat → Int32} (P : va_P D classes (mw cyI ad I A) H)  : MRO l yX7_thrown cX7_thrown 1 (some .int) 0 [.ref (ad 0)] H (KM D cyI) (B_X7_thrown I A ) := by
  refine Mof (own := RX7) (by decide +kernel) rfl rfl ?_
  intro p e s m args below meth c ls E hH K0 hl
  subst hH
  exact w_X7_thrown E K0 P rfl hl
theorem ds_X7_thrown : Dsc yX7_thrown 0 := ⟨by decide +kernel, by decide +kernel, by decide +kernel⟩
end
section
variable {p : Program} {l : Launch} {e : Env} {s : State} {m : MethodId} {args : Array Value} {below : List Frame} {meth : Method} {c : Code} {D : va_G} {cyI : ClassId} {ad : Nat → Nat} {I : Nat → Int32} {A : Nat → Nat → Int32}
def B_X7_stop (I : Nat → Int32) (A : Nat → Nat → Int32) (x1 : Int32) : Option (Int32 × (Nat → Int32) × (Nat → Nat → Int32)) := some (0, (va_up I 0 x1), A)
set_option maxHeartbeats 4000000 in
set_option maxRecDepth 100000 in
theorem w_X7_stop (E : EX p s m args meth c cX7_stop 2 RX7 (some .int)) (K0 : KM D cyI s s.heap) (N : AdN 16 ad) {H : Heap} {locs : List Loc} (P : va_P D classes (mw cyI ad I A) H) (S : va_S (InN 16 ad) s.heap H locs)  {x1 : Int32} {out : Int32 × (Nat → Int32) × (Nat → Nat → Int32)} (h : B_X7_stop I A x1 = some out) {ls : Array Slot} (hl : lv_has ls 2 [(0, .ref (ad 0)), (1, .int x1)]) : W p l e (rmL 0) s m args below meth c H locs 0 0 (MQ below (Qrw (InN 16 ad) (some (.int out.1)) (fun H1 => va_P D classes (mw cyI ad out.2.1 out.2.2) H1)) args s 0 0 (InN 16 ad)) (F0 m 0 ls []) := by
  unfold B_X7_stop at h
  refine lv_aload_n E.hx E.hb dX7_stop_0 rfl (lv_at hl 0 rfl) ?_
  refine lv_iload_n E.hx E.hb dX7_stop_1 rfl (lv_at hl 1 rfl) ?_
  refine pf_X7_89 E N K0 P S dX7_stop_2 (fun H locs P S => ?_)
  refine lv_iconst (v := 0) E.hx E.hb dX7_stop_5 (by decide) ?_
  cases h
  exact W.iret E.hx E.hb E.hr (fun t ht _ => ⟨rfl, by rw [ht]; exact P, S.F ht⟩) S.2.2 dX7_stop_6 E.hk
theorem c_X7_stop (l : Launch) {H : Heap} {D : va_G} {cyI : ClassId} {ad : Nat → Nat} {I : Nat → Int32} {A : Nat → Nat → Int32} (N : AdN 16 ad) (P : va_P D classes (mw cyI ad I A) H) (x1 : Int32) {out : Int32 × (Nat → Int32) × (Nat → Nat → Int32)} (h : B_X7_stop I A x1 = some out) : MRW l yX7_stop cX7_stop 2 (some .int) 0 [.ref (ad 0), .int x1] H (KM D cyI) (InN 16 ad) (some (.int out.1)) (fun H1 => va_P D classes (mw cyI ad out.2.1 out.2.2) H1) := by
  refine Mof (own := RX7) (by decide +kernel) rfl rfl ?_
  intro p e s m args below meth c ls E hH K0 hl
  subst hH
  exact w_X7_stop E K0 N P va_S.rf h hl
theorem ds_X7_stop : Dsc yX7_stop 1 := ⟨by decide +kernel, by decide +kernel, by decide +kernel⟩
end
section
variable {p : Program} {l : Launch} {e : Env} {s : State} {m : MethodId} {args : Array Value} {below : List Frame} {meth : Method} {c : Code} {D : va_G} {cyI : ClassId} {ad : Nat → Nat}
def B_X7_in  (x0 x1 x2 : Int32) : Int32 := if x0 < x1 then 0 else (if x2 < x0 then 0 else 1)
theorem nb_B_X7_in  {x0 x1 x2 : Int32} : narrow .boolean (.int (B_X7_in  x0 x1 x2)) = .int (B_X7_in  x0 x1 x2) := by
  unfold B_X7_in
  (repeat' split) <;> rfl
set_option maxHeartbeats 4000000 in
set_option maxRecDepth 100000 in
theorem w_X7_in (E : EX p s m args meth c cX7_in 3 RX7 (some .boolean)) (K0 : KM D cyI s s.heap)  {x0 x1 x2 : Int32} {out : Int32} (h : B_X7_in  x0 x1 x2 = out) {ls : Array Slot} (hl : lv_has ls 3 [(0, .int x0), (1, .int x1), (2, .int x2)]) : W p l e (rmL 0) s m args below meth c s.heap [] 0 0 (MQ below (vp_Si (fun z => z = out)) args s 0 0 (fun _ => False)) (F0 m 0 ls []) := by
  unfold B_X7_in at h
  refine lv_iload_n E.hx E.hb dX7_in_0 rfl (lv_at hl 0 rfl) ?_
  refine lv_iload_n E.hx E.hb dX7_in_1 rfl (lv_at hl 1 rfl) ?_
  refine lv_icmp_lt (tgt := 14) E.hx E.hb dX7_in_2 (by decide) (fun c_1 => ?_) (fun c_1 => ?_)
  · rw [if_pos c_1] at h
    refine lv_iconst (v := 0) E.hx E.hb dX7_in_14 (by decide) ?_
    exact W.zret E.hx E.hb E.hr rfl (fun t ht _ => ⟨_, rfl, h, ht⟩) (fun q hq => nomatch hq) dX7_in_15 E.hk
  · rw [if_neg c_1] at h
    refine lv_iload_n E.hx E.hb dX7_in_5 rfl (lv_at hl 0 rfl) ?_
    refine lv_iload_n E.hx E.hb dX7_in_6 rfl (lv_at hl 2 rfl) ?_
    refine lv_icmp_gt (tgt := 14) E.hx E.hb dX7_in_7 (by decide) (fun c_2 => ?_) (fun c_2 => ?_)
    · rw [if_pos c_2] at h
      refine lv_iconst (v := 0) E.hx E.hb dX7_in_14 (by decide) ?_
      exact W.zret E.hx E.hb E.hr rfl (fun t ht _ => ⟨_, rfl, h, ht⟩) (fun q hq => nomatch hq) dX7_in_15 E.hk
    · rw [if_neg c_2] at h
      refine lv_iconst (v := 1) E.hx E.hb dX7_in_10 (by decide) ?_
      refine lv_goto (tgt := 15) E.hx E.hb dX7_in_11 (by decide) ?_
      exact W.zret E.hx E.hb E.hr rfl (fun t ht _ => ⟨_, rfl, h, ht⟩) (fun q hq => nomatch hq) dX7_in_15 E.hk
theorem c_X7_in (l : Launch) {H : Heap} {D : va_G} {cyI : ClassId} {ad : Nat → Nat} (x0 x1 x2 : Int32) : MRO l yX7_in cX7_in 3 (some .boolean) 0 [.int x0, .int x1, .int x2] H (KM D cyI) (B_X7_in  x0 x1 x2) := by
  refine Mof (own := RX7) (by decide +kernel) rfl rfl ?_
  intro p e s m args below meth c ls E hH K0 hl
  subst hH
  exact w_X7_in E K0  rfl hl
theorem ds_X7_in : Dsc yX7_in 3 := ⟨by decide +kernel, by decide +kernel, by decide +kernel⟩
end
section
variable {p : Program} {l : Launch} {e : Env} {R : Room} {s : State} {m : MethodId} {args : Array Value} {below : List Frame} {meth : Method} {c : Code} {H : Heap} {locs : List Loc} {cells slots : Nat} {Q : State → Prop} {cc : ByteArray} {nL pc : Nat} {ret : Option FieldType} {ls : Array Slot} {rest : List Value} {D : va_G} {cyI : ClassId} {ad : Nat → Nat} {I : Nat → Int32} {A : Nat → Nat → Int32}
theorem iv_X7_92 (E : EX p s m args meth c cc nL RX7 ret) (K0 : KM D cyI s s.heap) (S : va_S (InN 16 ad) s.heap H locs) {a0 a1 a2 : Int32} (hR : RmOk R cells slots 0 3) (hls : ls.size = nL) (hro : (rest.map fun v => v.category).sum ≤ 8) (hdg : decode cc pc = .ok (.invokestatic 92, 3)) (kk : W p l e R s m args below meth c H locs cells slots Q (F0 m (pc + 3) ls (.int (B_X7_in a0 a1 a2) :: rest))) : W p l e R s m args below meth c H locs cells slots Q (F0 m pc ls (.int a2 :: .int a1 :: .int a0 :: rest)) :=
  cs_ro E (c_X7_in l (H := H) (D := D) (cyI := cyI) (ad := ad) a0 a1 a2 ) (gS kML_X7_92 kST_X7_in kIN_X7 kCO_X7_in) rfl ds_X7_in rfl KM_blind (fun U _ hW => KM.warm hW K0) hR hls rfl hro hdg kk
end
section
variable {p : Program} {l : Launch} {e : Env} {s : State} {m : MethodId} {args : Array Value} {below : List Frame} {meth : Method} {c : Code} {D : va_G} {cyI : ClassId} {ad : Nat → Nat} {I : Nat → Int32} {A : Nat → Nat → Int32}
def B_X7_isCell (I : Nat → Int32) (A : Nat → Nat → Int32) (x1 x2 : Int32) : Int32 := if (B_X7_in x1 0 (((I 1) - 1))) = 0 then 0 else (if (B_X7_in x2 0 (((I 2) - 1))) = 0 then 0 else 1)
set_option maxHeartbeats 4000000 in
set_option maxRecDepth 100000 in
theorem w_X7_isCell (E : EX p s m args meth c cX7_isCell 3 RX7 (some .boolean)) (K0 : KM D cyI s s.heap) (P : va_P D classes (mw cyI ad I A) s.heap)  {x1 x2 : Int32} {out : Int32} (h : B_X7_isCell I A x1 x2 = out) {ls : Array Slot} (hl : lv_has ls 3 [(0, .ref (ad 0)), (1, .int x1), (2, .int x2)]) : W p l e (rmL 1) s m args below meth c s.heap [] 0 0 (MQ below (vp_Si (fun z => z = out)) args s 0 0 (fun _ => False)) (F0 m 0 ls []) := by
  unfold B_X7_isCell at h
  refine lv_iload_n E.hx E.hb dX7_isCell_0 rfl (lv_at hl 1 rfl) ?_
  refine lv_iconst (v := 0) E.hx E.hb dX7_isCell_1 (by decide) ?_
  refine lv_aload_n E.hx E.hb dX7_isCell_2 rfl (lv_at hl 0 rfl) ?_
  refine gf_X7_7 E K0 P dX7_isCell_3 ?_
  refine lv_iconst (v := 1) E.hx E.hb dX7_isCell_6 (by decide) ?_
  refine lv_isub E.hx E.hb dX7_isCell_7 ?_
  refine iv_X7_92 (ad := ad) E K0 va_S.rf (by decide) hl.1 (Nat.le_of_ble_eq_true rfl) dX7_isCell_8 ?_
  refine lv_if_eq (tgt := 32) E.hx E.hb dX7_isCell_11 (by decide) (fun c_1 => ?_) (fun c_1 => ?_)
  · rw [if_pos c_1] at h
    refine lv_iconst (v := 0) E.hx E.hb dX7_isCell_32 (by decide) ?_
    exact W.zret E.hx E.hb E.hr rfl (fun t ht _ => ⟨_, rfl, h, ht⟩) (fun q hq => nomatch hq) dX7_isCell_33 E.hk
  · rw [if_neg c_1] at h
    refine lv_iload_n E.hx E.hb dX7_isCell_14 rfl (lv_at hl 2 rfl) ?_
    refine lv_iconst (v := 0) E.hx E.hb dX7_isCell_15 (by decide) ?_
    refine lv_aload_n E.hx E.hb dX7_isCell_16 rfl (lv_at hl 0 rfl) ?_
    refine gf_X7_13 E K0 P dX7_isCell_17 ?_
    refine lv_iconst (v := 1) E.hx E.hb dX7_isCell_20 (by decide) ?_
    refine lv_isub E.hx E.hb dX7_isCell_21 ?_
    refine iv_X7_92 (ad := ad) E K0 va_S.rf (by decide) hl.1 (Nat.le_of_ble_eq_true rfl) dX7_isCell_22 ?_
    refine lv_if_eq (tgt := 32) E.hx E.hb dX7_isCell_25 (by decide) (fun c_2 => ?_) (fun c_2 => ?_)
    · rw [if_pos c_2] at h
      refine lv_iconst (v := 0) E.hx E.hb dX7_isCell_32 (by decide) ?_
      exact W.zret E.hx E.hb E.hr rfl (fun t ht _ => ⟨_, rfl, h, ht⟩) (fun q hq => nomatch hq) dX7_isCell_33 E.hk
    · rw [if_neg c_2] at h
      refine lv_iconst (v := 1) E.hx E.hb dX7_isCell_28 (by decide) ?_
      refine lv_goto (tgt := 33) E.hx E.hb dX7_isCell_29 (by decide) ?_
      exact W.zret E.hx E.hb E.hr rfl (fun t ht _ => ⟨_, rfl, h, ht⟩) (fun q hq => nomatch hq) dX7_isCell_33 E.hk
theorem c_X7_isCell (l : Launch) {H : Heap} {D : va_G} {cyI : ClassId} {ad : Nat → Nat} {I : Nat → Int32} {A : Nat → Nat → Int32} (P : va_P D classes (mw cyI ad I A) H) (x1 x2 : Int32) : MRO l yX7_isCell cX7_isCell 3 (some .boolean) 1 [.ref (ad 0), .int x1, .int x2] H (KM D cyI) (B_X7_isCell I A x1 x2) := by
  refine Mof (own := RX7) (by decide +kernel) rfl rfl ?_
  intro p e s m args below meth c ls E hH K0 hl
  subst hH
  exact w_X7_isCell E K0 P rfl hl
theorem ds_X7_isCell : Dsc yX7_isCell 2 := ⟨by decide +kernel, by decide +kernel, by decide +kernel⟩
end
section
variable {p : Program} {l : Launch} {e : Env} {s : State} {m : MethodId} {args : Array Value} {below : List Frame} {meth : Method} {c : Code} {D : va_G} {cyI : ClassId} {ad : Nat → Nat}
def B_X7_cell  (x0 x1 : Int32) : Int32 := ((12 * x1) + x0)
set_option maxHeartbeats 4000000 in
set_option maxRecDepth 100000 in
theorem w_X7_cell (E : EX p s m args meth c cX7_cell 2 RX7 (some .int)) (K0 : KM D cyI s s.heap)  {x0 x1 : Int32} {out : Int32} (h : B_X7_cell  x0 x1 = out) {ls : Array Slot} (hl : lv_has ls 2 [(0, .int x0), (1, .int x1)]) : W p l e (rmL 0) s m args below meth c s.heap [] 0 0 (MQ below (vp_Si (fun z => z = out)) args s 0 0 (fun _ => False)) (F0 m 0 ls []) := by
  unfold B_X7_cell at h
  refine lv_bipush (v := 12) E.hx E.hb dX7_cell_0 (by decide) ?_
  refine lv_iload_n E.hx E.hb dX7_cell_2 rfl (lv_at hl 1 rfl) ?_
  refine lv_imul E.hx E.hb dX7_cell_3 ?_
  refine lv_iload_n E.hx E.hb dX7_cell_4 rfl (lv_at hl 0 rfl) ?_
  refine lv_iadd E.hx E.hb dX7_cell_5 ?_
  exact W.iret E.hx E.hb E.hr (fun t ht _ => ⟨_, rfl, h, ht⟩) (fun q hq => nomatch hq) dX7_cell_6 E.hk
theorem c_X7_cell (l : Launch) {H : Heap} {D : va_G} {cyI : ClassId} {ad : Nat → Nat} (x0 x1 : Int32) : MRO l yX7_cell cX7_cell 2 (some .int) 0 [.int x0, .int x1] H (KM D cyI) (B_X7_cell  x0 x1) := by
  refine Mof (own := RX7) (by decide +kernel) rfl rfl ?_
  intro p e s m args below meth c ls E hH K0 hl
  subst hH
  exact w_X7_cell E K0  rfl hl
theorem ds_X7_cell : Dsc yX7_cell 2 := ⟨by decide +kernel, by decide +kernel, by decide +kernel⟩
end
section
variable {p : Program} {l : Launch} {e : Env} {s : State} {m : MethodId} {args : Array Value} {below : List Frame} {meth : Method} {c : Code} {D : va_G} {cyI : ClassId} {ad : Nat → Nat}
def B_X7_on  (x0 x1 : Int32) : Int32 := (((((x1 - x0) + 15) + 7) - (((x1 - x0) + 15) + 7) / 15 * 15) - 7)
set_option maxHeartbeats 4000000 in
set_option maxRecDepth 100000 in
theorem w_X7_on (E : EX p s m args meth c cX7_on 2 RX7 (some .int)) (K0 : KM D cyI s s.heap)  {x0 x1 : Int32} {out : Int32} (h : B_X7_on  x0 x1 = out) {ls : Array Slot} (hl : lv_has ls 2 [(0, .int x0), (1, .int x1)]) : W p l e (rmL 0) s m args below meth c s.heap [] 0 0 (MQ below (vp_Si (fun z => z = out)) args s 0 0 (fun _ => False)) (F0 m 0 ls []) := by
  unfold B_X7_on at h
  refine lv_iload_n E.hx E.hb dX7_on_0 rfl (lv_at hl 1 rfl) ?_
  refine lv_iload_n E.hx E.hb dX7_on_1 rfl (lv_at hl 0 rfl) ?_
  refine lv_isub E.hx E.hb dX7_on_2 ?_
  refine lv_bipush (v := 15) E.hx E.hb dX7_on_3 (by decide) ?_
  refine lv_iadd E.hx E.hb dX7_on_5 ?_
  refine lv_bipush (v := 7) E.hx E.hb dX7_on_6 (by decide) ?_
  refine lv_iadd E.hx E.hb dX7_on_8 ?_
  refine lv_bipush (v := 15) E.hx E.hb dX7_on_9 (by decide) ?_
  refine lv_irem E.hx E.hb dX7_on_11 (by decide) ?_
  refine lv_bipush (v := 7) E.hx E.hb dX7_on_12 (by decide) ?_
  refine lv_isub E.hx E.hb dX7_on_14 ?_
  exact W.iret E.hx E.hb E.hr (fun t ht _ => ⟨_, rfl, h, ht⟩) (fun q hq => nomatch hq) dX7_on_15 E.hk
theorem c_X7_on (l : Launch) {H : Heap} {D : va_G} {cyI : ClassId} {ad : Nat → Nat} (x0 x1 : Int32) : MRO l yX7_on cX7_on 2 (some .int) 0 [.int x0, .int x1] H (KM D cyI) (B_X7_on  x0 x1) := by
  refine Mof (own := RX7) (by decide +kernel) rfl rfl ?_
  intro p e s m args below meth c ls E hH K0 hl
  subst hH
  exact w_X7_on E K0  rfl hl
theorem ds_X7_on : Dsc yX7_on 2 := ⟨by decide +kernel, by decide +kernel, by decide +kernel⟩
end
section
variable {p : Program} {l : Launch} {e : Env} {R : Room} {s : State} {m : MethodId} {args : Array Value} {below : List Frame} {meth : Method} {c : Code} {H : Heap} {locs : List Loc} {cells slots : Nat} {Q : State → Prop} {cc : ByteArray} {nL pc : Nat} {ret : Option FieldType} {ls : Array Slot} {rest : List Value} {D : va_G} {cyI : ClassId} {ad : Nat → Nat} {I : Nat → Int32} {A : Nat → Nat → Int32}
theorem iv_X7_96 (E : EX p s m args meth c cc nL RX7 ret) (K0 : KM D cyI s s.heap) (S : va_S (InN 16 ad) s.heap H locs) {a0 a1 : Int32} (hR : RmOk R cells slots 0 2) (hls : ls.size = nL) (hro : (rest.map fun v => v.category).sum ≤ 8) (hdg : decode cc pc = .ok (.invokestatic 96, 3)) (kk : W p l e R s m args below meth c H locs cells slots Q (F0 m (pc + 3) ls (.int (B_X7_on a0 a1) :: rest))) : W p l e R s m args below meth c H locs cells slots Q (F0 m pc ls (.int a1 :: .int a0 :: rest)) :=
  cs_ro E (c_X7_on l (H := H) (D := D) (cyI := cyI) (ad := ad) a0 a1 ) (gS kML_X7_96 kST_X7_on kIN_X7 kCO_X7_on) rfl ds_X7_on rfl KM_blind (fun U _ hW => KM.warm hW K0) hR hls rfl hro hdg kk
end
section
variable {p : Program} {l : Launch} {e : Env} {s : State} {m : MethodId} {args : Array Value} {below : List Frame} {meth : Method} {c : Code} {D : va_G} {cyI : ClassId} {ad : Nat → Nat}
def B_X7_apart  (x0 x1 : Int32) : Int32 := if 0 ≤ (B_X7_on x0 x1) then (B_X7_on x0 x1) else (-(B_X7_on x0 x1))
set_option maxHeartbeats 4000000 in
set_option maxRecDepth 100000 in
theorem w_X7_apart (E : EX p s m args meth c cX7_apart 3 RX7 (some .int)) (K0 : KM D cyI s s.heap)  {x0 x1 : Int32} {out : Int32} (h : B_X7_apart  x0 x1 = out) {ls : Array Slot} (hl : lv_has ls 3 [(0, .int x0), (1, .int x1)]) : W p l e (rmL 1) s m args below meth c s.heap [] 0 0 (MQ below (vp_Si (fun z => z = out)) args s 0 0 (fun _ => False)) (F0 m 0 ls []) := by
  unfold B_X7_apart at h
  refine lv_iload_n E.hx E.hb dX7_apart_0 rfl (lv_at hl 0 rfl) ?_
  refine lv_iload_n E.hx E.hb dX7_apart_1 rfl (lv_at hl 1 rfl) ?_
  refine iv_X7_96 (ad := fun i => i) E K0 va_S.rf (by decide) hl.1 (Nat.le_of_ble_eq_true rfl) dX7_apart_2 ?_
  refine lv_istore_n (lv' := [(2, .int (B_X7_on x0 x1)), (0, .int x0), (1, .int x1)]) E.hx E.hb dX7_apart_5 rfl hl (by decide) rfl (fun ls hl => ?_)
  refine lv_iload_n E.hx E.hb dX7_apart_6 rfl (lv_at hl 0 rfl) ?_
  refine lv_if_ge (tgt := 15) E.hx E.hb dX7_apart_7 (by decide) (fun c_1 => ?_) (fun c_1 => ?_)
  · rw [if_pos c_1] at h
    refine lv_iload_n E.hx E.hb dX7_apart_15 rfl (lv_at hl 0 rfl) ?_
    exact W.iret E.hx E.hb E.hr (fun t ht _ => ⟨_, rfl, h, ht⟩) (fun q hq => nomatch hq) dX7_apart_16 E.hk
  · rw [if_neg c_1] at h
    refine lv_iload_n E.hx E.hb dX7_apart_10 rfl (lv_at hl 0 rfl) ?_
    refine lv_ineg E.hx E.hb dX7_apart_11 ?_
    refine lv_goto (tgt := 16) E.hx E.hb dX7_apart_12 (by decide) ?_
    exact W.iret E.hx E.hb E.hr (fun t ht _ => ⟨_, rfl, h, ht⟩) (fun q hq => nomatch hq) dX7_apart_16 E.hk
theorem c_X7_apart (l : Launch) {H : Heap} {D : va_G} {cyI : ClassId} {ad : Nat → Nat} (x0 x1 : Int32) : MRO l yX7_apart cX7_apart 3 (some .int) 1 [.int x0, .int x1] H (KM D cyI) (B_X7_apart  x0 x1) := by
  refine Mof (own := RX7) (by decide +kernel) rfl rfl ?_
  intro p e s m args below meth c ls E hH K0 hl
  subst hH
  exact w_X7_apart E K0  rfl hl
theorem ds_X7_apart : Dsc yX7_apart 2 := ⟨by decide +kernel, by decide +kernel, by decide +kernel⟩
end
section
variable {p : Program} {l : Launch} {e : Env} {s : State} {m : MethodId} {args : Array Value} {below : List Frame} {meth : Method} {c : Code} {D : va_G} {cyI : ClassId} {ad : Nat → Nat}
def B_X7_square  (x0 x1 : Int32) : Int32 := ((B_X7_on x0 x1) * (B_X7_on x0 x1))
set_option maxHeartbeats 4000000 in
set_option maxRecDepth 100000 in
theorem w_X7_square (E : EX p s m args meth c cX7_square 3 RX7 (some .int)) (K0 : KM D cyI s s.heap)  {x0 x1 : Int32} {out : Int32} (h : B_X7_square  x0 x1 = out) {ls : Array Slot} (hl : lv_has ls 3 [(0, .int x0), (1, .int x1)]) : W p l e (rmL 1) s m args below meth c s.heap [] 0 0 (MQ below (vp_Si (fun z => z = out)) args s 0 0 (fun _ => False)) (F0 m 0 ls []) := by
  unfold B_X7_square at h
  refine lv_iload_n E.hx E.hb dX7_square_0 rfl (lv_at hl 0 rfl) ?_
  refine lv_iload_n E.hx E.hb dX7_square_1 rfl (lv_at hl 1 rfl) ?_
  refine iv_X7_96 (ad := fun i => i) E K0 va_S.rf (by decide) hl.1 (Nat.le_of_ble_eq_true rfl) dX7_square_2 ?_
  refine lv_istore_n (lv' := [(2, .int (B_X7_on x0 x1)), (0, .int x0), (1, .int x1)]) E.hx E.hb dX7_square_5 rfl hl (by decide) rfl (fun ls hl => ?_)
  refine lv_iload_n E.hx E.hb dX7_square_6 rfl (lv_at hl 0 rfl) ?_
  refine lv_iload_n E.hx E.hb dX7_square_7 rfl (lv_at hl 0 rfl) ?_
  refine lv_imul E.hx E.hb dX7_square_8 ?_
  exact W.iret E.hx E.hb E.hr (fun t ht _ => ⟨_, rfl, h, ht⟩) (fun q hq => nomatch hq) dX7_square_9 E.hk
theorem c_X7_square (l : Launch) {H : Heap} {D : va_G} {cyI : ClassId} {ad : Nat → Nat} (x0 x1 : Int32) : MRO l yX7_square cX7_square 3 (some .int) 1 [.int x0, .int x1] H (KM D cyI) (B_X7_square  x0 x1) := by
  refine Mof (own := RX7) (by decide +kernel) rfl rfl ?_
  intro p e s m args below meth c ls E hH K0 hl
  subst hH
  exact w_X7_square E K0  rfl hl
theorem ds_X7_square : Dsc yX7_square 2 := ⟨by decide +kernel, by decide +kernel, by decide +kernel⟩
end
section
variable {p : Program} {l : Launch} {e : Env} {R : Room} {s : State} {m : MethodId} {args : Array Value} {below : List Frame} {meth : Method} {c : Code} {H : Heap} {locs : List Loc} {cells slots : Nat} {Q : State → Prop} {cc : ByteArray} {nL pc : Nat} {ret : Option FieldType} {ls : Array Slot} {rest : List Value} {D : va_G} {cyI : ClassId} {ad : Nat → Nat} {I : Nat → Int32} {A : Nat → Nat → Int32}
theorem iv_X7_100 (E : EX p s m args meth c cc nL RX7 ret) (K0 : KM D cyI s s.heap) (S : va_S (InN 16 ad) s.heap H locs) {a0 a1 : Int32} (hR : RmOk R cells slots 0 2) (hls : ls.size = nL) (hro : (rest.map fun v => v.category).sum ≤ 8) (hdg : decode cc pc = .ok (.invokestatic 100, 3)) (kk : W p l e R s m args below meth c H locs cells slots Q (F0 m (pc + 3) ls (.int (B_X7_cell a0 a1) :: rest))) : W p l e R s m args below meth c H locs cells slots Q (F0 m pc ls (.int a1 :: .int a0 :: rest)) :=
  cs_ro E (c_X7_cell l (H := H) (D := D) (cyI := cyI) (ad := ad) a0 a1 ) (gS kML_X7_100 kST_X7_cell kIN_X7 kCO_X7_cell) rfl ds_X7_cell rfl KM_blind (fun U _ hW => KM.warm hW K0) hR hls rfl hro hdg kk
end
section
variable {p : Program} {l : Launch} {e : Env} {R : Room} {s : State} {m : MethodId} {args : Array Value} {below : List Frame} {meth : Method} {c : Code} {H : Heap} {locs : List Loc} {cells slots : Nat} {Q : State → Prop} {cc : ByteArray} {nL pc : Nat} {ret : Option FieldType} {ls : Array Slot} {rest : List Value} {D : va_G} {cyI : ClassId} {ad : Nat → Nat} {I : Nat → Int32} {A : Nat → Nat → Int32}
theorem iv_X7_103 (E : EX p s m args meth c cc nL RX7 ret) (K0 : KM D cyI s s.heap) (S : va_S (InN 16 ad) s.heap H locs) {a0 a1 : Int32} (hR : RmOk R cells slots 1 3) (hls : ls.size = nL) (hro : (rest.map fun v => v.category).sum ≤ 8) (hdg : decode cc pc = .ok (.invokestatic 103, 3)) (kk : W p l e R s m args below meth c H locs cells slots Q (F0 m (pc + 3) ls (.int (B_X7_square a0 a1) :: rest))) : W p l e R s m args below meth c H locs cells slots Q (F0 m pc ls (.int a1 :: .int a0 :: rest)) :=
  cs_ro E (c_X7_square l (H := H) (D := D) (cyI := cyI) (ad := ad) a0 a1 ) (gS kML_X7_103 kST_X7_square kIN_X7 kCO_X7_square) rfl ds_X7_square rfl KM_blind (fun U _ hW => KM.warm hW K0) hR hls rfl hro hdg kk
end
section
variable {p : Program} {l : Launch} {e : Env} {s : State} {m : MethodId} {args : Array Value} {below : List Frame} {meth : Method} {c : Code} {D : va_G} {cyI : ClassId} {ad : Nat → Nat} {I : Nat → Int32} {A : Nat → Nat → Int32}
def B_X7_own_J41  (I : Nat → Int32) (A : Nat → Nat → Int32) (x3 x4 t0 : Int32) : Option (Int32) := (rd (A 4) 144 x4).bind fun v_4 => if v_4 = (-1) then some t0 else ((rd (A 6) 8 v_4).bind fun v_7 => (rd (A 5) 8 v_4).bind fun v_9 => some ((t0 + (v_7 * (B_X7_square x3 v_9)))))
set_option maxHeartbeats 4000000 in
set_option maxRecDepth 100000 in
theorem w_X7_own_J41 (E : EX p s m args meth c cX7_own 7 RX7 (some .int)) (K0 : KM D cyI s s.heap) (P : va_P D classes (mw cyI ad I A) s.heap) {x3 x4 t0 : Int32} {out : Int32} (h : B_X7_own_J41  I A x3 x4 t0 = some out) {ls : Array Slot} (hl : lv_has ls 7 [(0, .ref (ad 0)), (3, .int x3), (4, .int x4)]) : W p l e (rmL 2) s m args below meth c s.heap [] 0 0 (MQ below (vp_Si (fun z => z = out)) args s 0 0 (fun _ => False)) (F0 m 41 ls [.int t0]) := by
  unfold B_X7_own_J41 at h
  refine lv_istore (lv' := [(5, .int t0), (0, .ref (ad 0)), (3, .int x3), (4, .int x4)]) E.hx E.hb dX7_own_41 hl (by decide) rfl (fun ls hl => ?_)
  refine lv_aload_n E.hx E.hb dX7_own_43 rfl (lv_at hl 1 rfl) ?_
  refine gf_X7_35 E K0 P dX7_own_44 ?_
  refine lv_iload E.hx E.hb dX7_own_47 (lv_at hl 3 rfl) ?_
  obtain ⟨v_4, e_5, h⟩ := obind h
  refine al_4 E K0 P e_5 dX7_own_49 ?_
  refine lv_istore (lv' := [(6, .int v_4), (5, .int t0), (0, .ref (ad 0)), (3, .int x3), (4, .int x4)]) E.hx E.hb dX7_own_50 hl (by decide) rfl (fun ls hl => ?_)
  refine lv_iload E.hx E.hb dX7_own_52 (lv_at hl 0 rfl) ?_
  refine lv_iconst (v := (-1)) E.hx E.hb dX7_own_54 (by decide) ?_
  refine lv_icmp_ne (tgt := 63) E.hx E.hb dX7_own_55 (by decide) (fun c_6 => ?_) (fun c_6 => ?_)
  · rw [if_neg c_6] at h
    refine lv_iload E.hx E.hb dX7_own_63 (lv_at hl 1 rfl) ?_
    refine lv_aload_n E.hx E.hb dX7_own_65 rfl (lv_at hl 2 rfl) ?_
    refine gf_X7_41 E K0 P dX7_own_66 ?_
    refine lv_iload E.hx E.hb dX7_own_69 (lv_at hl 0 rfl) ?_
    obtain ⟨v_7, e_8, h⟩ := obind h
    refine al_6 E K0 P e_8 dX7_own_71 ?_
    refine lv_iload_n E.hx E.hb dX7_own_72 rfl (lv_at hl 3 rfl) ?_
    refine lv_aload_n E.hx E.hb dX7_own_73 rfl (lv_at hl 2 rfl) ?_
    refine gf_X7_38 E K0 P dX7_own_74 ?_
    refine lv_iload E.hx E.hb dX7_own_77 (lv_at hl 0 rfl) ?_
    obtain ⟨v_9, e_10, h⟩ := obind h
    refine al_5 E K0 P e_10 dX7_own_79 ?_
    refine iv_X7_103 (ad := ad) E K0 va_S.rf (by decide) hl.1 (Nat.le_of_ble_eq_true rfl) dX7_own_80 ?_
    refine lv_imul E.hx E.hb dX7_own_83 ?_
    refine lv_iadd E.hx E.hb dX7_own_84 ?_
    exact W.iret E.hx E.hb E.hr (fun t ht _ => ⟨_, rfl, (Option.some.inj h), ht⟩) (fun q hq => nomatch hq) dX7_own_85 E.hk
  · rw [if_pos c_6] at h
    refine lv_iload E.hx E.hb dX7_own_58 (lv_at hl 1 rfl) ?_
    refine lv_goto (tgt := 85) E.hx E.hb dX7_own_60 (by decide) ?_
    exact W.iret E.hx E.hb E.hr (fun t ht _ => ⟨_, rfl, (Option.some.inj h), ht⟩) (fun q hq => nomatch hq) dX7_own_85 E.hk
def B_X7_own (I : Nat → Int32) (A : Nat → Nat → Int32) (x1 x2 x3 : Int32) : Option (Int32) := (rd (A 1) 144 ((B_X7_cell x1 x2))).bind fun v_1 => if v_1 = 2 then ((rd (A 3) 144 ((B_X7_cell x1 x2))).bind fun v_11 => (rd (A 2) 144 ((B_X7_cell x1 x2))).bind fun v_13 => B_X7_own_J41  I A x3 ((B_X7_cell x1 x2)) ((v_11 * (B_X7_square x3 v_13)))) else B_X7_own_J41  I A x3 ((B_X7_cell x1 x2)) 0
set_option maxHeartbeats 4000000 in
set_option maxRecDepth 100000 in
theorem w_X7_own (E : EX p s m args meth c cX7_own 7 RX7 (some .int)) (K0 : KM D cyI s s.heap) (P : va_P D classes (mw cyI ad I A) s.heap)  {x1 x2 x3 : Int32} {out : Int32} (h : B_X7_own I A x1 x2 x3 = some out) {ls : Array Slot} (hl : lv_has ls 7 [(0, .ref (ad 0)), (1, .int x1), (2, .int x2), (3, .int x3)]) : W p l e (rmL 2) s m args below meth c s.heap [] 0 0 (MQ below (vp_Si (fun z => z = out)) args s 0 0 (fun _ => False)) (F0 m 0 ls []) := by
  unfold B_X7_own at h
  refine lv_iload_n E.hx E.hb dX7_own_0 rfl (lv_at hl 1 rfl) ?_
  refine lv_iload_n E.hx E.hb dX7_own_1 rfl (lv_at hl 2 rfl) ?_
  refine iv_X7_100 (ad := ad) E K0 va_S.rf (by decide) hl.1 (Nat.le_of_ble_eq_true rfl) dX7_own_2 ?_
  refine lv_istore (lv' := [(4, .int (B_X7_cell x1 x2)), (0, .ref (ad 0)), (1, .int x1), (2, .int x2), (3, .int x3)]) E.hx E.hb dX7_own_5 hl (by decide) rfl (fun ls hl => ?_)
  refine lv_aload_n E.hx E.hb dX7_own_7 rfl (lv_at hl 1 rfl) ?_
  refine gf_X7_26 E K0 P dX7_own_8 ?_
  refine lv_iload E.hx E.hb dX7_own_11 (lv_at hl 0 rfl) ?_
  obtain ⟨v_1, e_2, h⟩ := obind h
  refine al_1 E K0 P e_2 dX7_own_13 ?_
  refine lv_iconst (v := 2) E.hx E.hb dX7_own_14 (by decide) ?_
  refine lv_icmp_ne (tgt := 40) E.hx E.hb dX7_own_15 (by decide) (fun c_3 => ?_) (fun c_3 => ?_)
  · rw [if_neg c_3] at h
    refine lv_iconst (v := 0) E.hx E.hb dX7_own_40 (by decide) ?_
    exact w_X7_own_J41 E K0 P h (lv_sub hl [1, 4, 0] rfl)
  · rw [if_pos c_3] at h
    refine lv_aload_n E.hx E.hb dX7_own_18 rfl (lv_at hl 1 rfl) ?_
    refine gf_X7_32 E K0 P dX7_own_19 ?_
    refine lv_iload E.hx E.hb dX7_own_22 (lv_at hl 0 rfl) ?_
    obtain ⟨v_11, e_12, h⟩ := obind h
    refine al_3 E K0 P e_12 dX7_own_24 ?_
    refine lv_iload_n E.hx E.hb dX7_own_25 rfl (lv_at hl 4 rfl) ?_
    refine lv_aload_n E.hx E.hb dX7_own_26 rfl (lv_at hl 1 rfl) ?_
    refine gf_X7_29 E K0 P dX7_own_27 ?_
    refine lv_iload E.hx E.hb dX7_own_30 (lv_at hl 0 rfl) ?_
    obtain ⟨v_13, e_14, h⟩ := obind h
    refine al_2 E K0 P e_14 dX7_own_32 ?_
    refine iv_X7_103 (ad := ad) E K0 va_S.rf (by decide) hl.1 (Nat.le_of_ble_eq_true rfl) dX7_own_33 ?_
    refine lv_imul E.hx E.hb dX7_own_36 ?_
    refine lv_goto (tgt := 41) E.hx E.hb dX7_own_37 (by decide) ?_
    exact w_X7_own_J41 E K0 P h (lv_sub hl [1, 4, 0] rfl)
theorem c_X7_own (l : Launch) {H : Heap} {D : va_G} {cyI : ClassId} {ad : Nat → Nat} {I : Nat → Int32} {A : Nat → Nat → Int32} (P : va_P D classes (mw cyI ad I A) H) (x1 x2 x3 : Int32) {out : Int32} (h : B_X7_own I A x1 x2 x3 = some out) : MRO l yX7_own cX7_own 7 (some .int) 2 [.ref (ad 0), .int x1, .int x2, .int x3] H (KM D cyI) out := by
  refine Mof (own := RX7) (by decide +kernel) rfl rfl ?_
  intro p e s m args below meth c ls E hH K0 hl
  subst hH
  exact w_X7_own E K0 P h hl
theorem ds_X7_own : Dsc yX7_own 3 := ⟨by decide +kernel, by decide +kernel, by decide +kernel⟩
end
section
variable {p : Program} {l : Launch} {e : Env} {R : Room} {s : State} {m : MethodId} {args : Array Value} {below : List Frame} {meth : Method} {c : Code} {H : Heap} {locs : List Loc} {cells slots : Nat} {Q : State → Prop} {cc : ByteArray} {nL pc : Nat} {ret : Option FieldType} {ls : Array Slot} {rest : List Value} {D : va_G} {cyI : ClassId} {ad : Nat → Nat} {I : Nat → Int32} {A : Nat → Nat → Int32}
theorem iv_X7_106 (E : EX p s m args meth c cc nL RX7 ret) (K0 : KM D cyI s s.heap) (P : va_P D classes (mw cyI ad I A) H) (S : va_S (InN 16 ad) s.heap H locs) {a0 a1 : Int32} (hR : RmOk R cells slots 1 3) (hls : ls.size = nL) (hro : (rest.map fun v => v.category).sum ≤ 8) (hdg : decode cc pc = .ok (.invokevirtual 106, 3)) (kk : W p l e R s m args below meth c H locs cells slots Q (F0 m (pc + 3) ls (.int (B_X7_isCell I A a0 a1) :: rest))) : W p l e R s m args below meth c H locs cells slots Q (F0 m pc ls (.int a1 :: .int a0 :: .ref (ad 0) :: rest)) :=
  cv_ro E (c_X7_isCell l P a0 a1 ) (gV kML_X7_106 kIM_X7_isCell kSE_X7_isCell kIN_X7 kCO_X7_isCell) rfl ds_X7_isCell rfl KM_blind (fun U _ hW => KM.warm hW K0) (va_recv K0.k P (show classes[7]? = some (RX7, TX7, 27) from rfl) mw_g0) hR hls rfl hro hdg kk
end
section
variable {p : Program} {l : Launch} {e : Env} {s : State} {m : MethodId} {args : Array Value} {below : List Frame} {meth : Method} {c : Code} {D : va_G} {cyI : ClassId} {ad : Nat → Nat} {I : Nat → Int32} {A : Nat → Nat → Int32}
def B_X7_pair_J33  (I : Nat → Int32) (A : Nat → Nat → Int32) (x1 x2 x3 x4 x5 t0 : Int32) : Option (Int32) := (rd (A 0) 144 ((B_X7_cell ((x1 + x4)) ((x2 + x5))))).bind fun v_3 => some ((t0 * (B_X7_square x3 v_3)))
set_option maxHeartbeats 4000000 in
set_option maxRecDepth 100000 in
theorem w_X7_pair_J33 (E : EX p s m args meth c cX7_pair 6 RX7 (some .int)) (K0 : KM D cyI s s.heap) (P : va_P D classes (mw cyI ad I A) s.heap) {x1 x2 x3 x4 x5 t0 : Int32} {out : Int32} (h : B_X7_pair_J33  I A x1 x2 x3 x4 x5 t0 = some out) {ls : Array Slot} (hl : lv_has ls 6 [(0, .ref (ad 0)), (1, .int x1), (2, .int x2), (3, .int x3), (4, .int x4), (5, .int x5)]) : W p l e (rmL 2) s m args below meth c s.heap [] 0 0 (MQ below (vp_Si (fun z => z = out)) args s 0 0 (fun _ => False)) (F0 m 33 ls [.int t0]) := by
  unfold B_X7_pair_J33 at h
  refine lv_iload_n E.hx E.hb dX7_pair_33 rfl (lv_at hl 3 rfl) ?_
  refine lv_aload_n E.hx E.hb dX7_pair_34 rfl (lv_at hl 0 rfl) ?_
  refine gf_X7_22 E K0 P dX7_pair_35 ?_
  refine lv_iload_n E.hx E.hb dX7_pair_38 rfl (lv_at hl 1 rfl) ?_
  refine lv_iload E.hx E.hb dX7_pair_39 (lv_at hl 4 rfl) ?_
  refine lv_iadd E.hx E.hb dX7_pair_41 ?_
  refine lv_iload_n E.hx E.hb dX7_pair_42 rfl (lv_at hl 2 rfl) ?_
  refine lv_iload E.hx E.hb dX7_pair_43 (lv_at hl 5 rfl) ?_
  refine lv_iadd E.hx E.hb dX7_pair_45 ?_
  refine iv_X7_100 (ad := ad) E K0 va_S.rf (by decide) hl.1 (Nat.le_of_ble_eq_true rfl) dX7_pair_46 ?_
  obtain ⟨v_3, e_4, h⟩ := obind h
  refine al_0 E K0 P e_4 dX7_pair_49 ?_
  refine iv_X7_103 (ad := ad) E K0 va_S.rf (by decide) hl.1 (Nat.le_of_ble_eq_true rfl) dX7_pair_50 ?_
  refine lv_imul E.hx E.hb dX7_pair_53 ?_
  exact W.iret E.hx E.hb E.hr (fun t ht _ => ⟨_, rfl, (Option.some.inj h), ht⟩) (fun q hq => nomatch hq) dX7_pair_54 E.hk
def B_X7_pair (I : Nat → Int32) (A : Nat → Nat → Int32) (x1 x2 x3 x4 x5 : Int32) : Option (Int32) := if (B_X7_isCell I A ((x1 + x4)) ((x2 + x5))) = 0 then some 0 else (if x4 = 0 then B_X7_pair_J33  I A x1 x2 x3 x4 x5 ((I 4)) else B_X7_pair_J33  I A x1 x2 x3 x4 x5 ((I 3)))
set_option maxHeartbeats 4000000 in
set_option maxRecDepth 100000 in
theorem w_X7_pair (E : EX p s m args meth c cX7_pair 6 RX7 (some .int)) (K0 : KM D cyI s s.heap) (P : va_P D classes (mw cyI ad I A) s.heap)  {x1 x2 x3 x4 x5 : Int32} {out : Int32} (h : B_X7_pair I A x1 x2 x3 x4 x5 = some out) {ls : Array Slot} (hl : lv_has ls 6 [(0, .ref (ad 0)), (1, .int x1), (2, .int x2), (3, .int x3), (4, .int x4), (5, .int x5)]) : W p l e (rmL 2) s m args below meth c s.heap [] 0 0 (MQ below (vp_Si (fun z => z = out)) args s 0 0 (fun _ => False)) (F0 m 0 ls []) := by
  unfold B_X7_pair at h
  refine lv_aload_n E.hx E.hb dX7_pair_0 rfl (lv_at hl 0 rfl) ?_
  refine lv_iload_n E.hx E.hb dX7_pair_1 rfl (lv_at hl 1 rfl) ?_
  refine lv_iload E.hx E.hb dX7_pair_2 (lv_at hl 4 rfl) ?_
  refine lv_iadd E.hx E.hb dX7_pair_4 ?_
  refine lv_iload_n E.hx E.hb dX7_pair_5 rfl (lv_at hl 2 rfl) ?_
  refine lv_iload E.hx E.hb dX7_pair_6 (lv_at hl 5 rfl) ?_
  refine lv_iadd E.hx E.hb dX7_pair_8 ?_
  refine iv_X7_106 (ad := ad) E K0 P va_S.rf (by decide) hl.1 (Nat.le_of_ble_eq_true rfl) dX7_pair_9 ?_
  refine lv_if_ne (tgt := 17) E.hx E.hb dX7_pair_12 (by decide) (fun c_1 => ?_) (fun c_1 => ?_)
  · rw [if_neg c_1] at h
    refine lv_iload E.hx E.hb dX7_pair_17 (lv_at hl 4 rfl) ?_
    refine lv_if_eq (tgt := 29) E.hx E.hb dX7_pair_19 (by decide) (fun c_2 => ?_) (fun c_2 => ?_)
    · rw [if_pos c_2] at h
      refine lv_aload_n E.hx E.hb dX7_pair_29 rfl (lv_at hl 0 rfl) ?_
      refine gf_X7_19 E K0 P dX7_pair_30 ?_
      exact w_X7_pair_J33 E K0 P h (lv_sub hl [0, 1, 2, 3, 4, 5] rfl)
    · rw [if_neg c_2] at h
      refine lv_aload_n E.hx E.hb dX7_pair_22 rfl (lv_at hl 0 rfl) ?_
      refine gf_X7_16 E K0 P dX7_pair_23 ?_
      refine lv_goto (tgt := 33) E.hx E.hb dX7_pair_26 (by decide) ?_
      exact w_X7_pair_J33 E K0 P h (lv_sub hl [0, 1, 2, 3, 4, 5] rfl)
  · rw [if_pos c_1] at h
    refine lv_iconst (v := 0) E.hx E.hb dX7_pair_15 (by decide) ?_
    exact W.iret E.hx E.hb E.hr (fun t ht _ => ⟨_, rfl, (Option.some.inj h), ht⟩) (fun q hq => nomatch hq) dX7_pair_16 E.hk
theorem c_X7_pair (l : Launch) {H : Heap} {D : va_G} {cyI : ClassId} {ad : Nat → Nat} {I : Nat → Int32} {A : Nat → Nat → Int32} (P : va_P D classes (mw cyI ad I A) H) (x1 x2 x3 x4 x5 : Int32) {out : Int32} (h : B_X7_pair I A x1 x2 x3 x4 x5 = some out) : MRO l yX7_pair cX7_pair 6 (some .int) 2 [.ref (ad 0), .int x1, .int x2, .int x3, .int x4, .int x5] H (KM D cyI) out := by
  refine Mof (own := RX7) (by decide +kernel) rfl rfl ?_
  intro p e s m args below meth c ls E hH K0 hl
  subst hH
  exact w_X7_pair E K0 P h hl
theorem ds_X7_pair : Dsc yX7_pair 5 := ⟨by decide +kernel, by decide +kernel, by decide +kernel⟩
end
section
variable {p : Program} {l : Launch} {e : Env} {R : Room} {s : State} {m : MethodId} {args : Array Value} {below : List Frame} {meth : Method} {c : Code} {H : Heap} {locs : List Loc} {cells slots : Nat} {Q : State → Prop} {cc : ByteArray} {nL pc : Nat} {ret : Option FieldType} {ls : Array Slot} {rest : List Value} {D : va_G} {cyI : ClassId} {ad : Nat → Nat} {I : Nat → Int32} {A : Nat → Nat → Int32}
theorem iv_X7_110 (E : EX p s m args meth c cc nL RX7 ret) (K0 : KM D cyI s s.heap) (P : va_P D classes (mw cyI ad I A) H) (S : va_S (InN 16 ad) s.heap H locs) {a0 a1 a2 : Int32} {v : Int32} (hv : B_X7_own I A a0 a1 a2 = some v) (hR : RmOk R cells slots 2 7) (hls : ls.size = nL) (hro : (rest.map fun v => v.category).sum ≤ 8) (hdg : decode cc pc = .ok (.invokevirtual 110, 3)) (kk : W p l e R s m args below meth c H locs cells slots Q (F0 m (pc + 3) ls (.int v :: rest))) : W p l e R s m args below meth c H locs cells slots Q (F0 m pc ls (.int a2 :: .int a1 :: .int a0 :: .ref (ad 0) :: rest)) :=
  cv_ro E (c_X7_own l P a0 a1 a2 hv) (gV kML_X7_110 kIM_X7_own kSE_X7_own kIN_X7 kCO_X7_own) rfl ds_X7_own rfl KM_blind (fun U _ hW => KM.warm hW K0) (va_recv K0.k P (show classes[7]? = some (RX7, TX7, 27) from rfl) mw_g0) hR hls rfl hro hdg kk
end
section
variable {p : Program} {l : Launch} {e : Env} {R : Room} {s : State} {m : MethodId} {args : Array Value} {below : List Frame} {meth : Method} {c : Code} {H : Heap} {locs : List Loc} {cells slots : Nat} {Q : State → Prop} {cc : ByteArray} {nL pc : Nat} {ret : Option FieldType} {ls : Array Slot} {rest : List Value} {D : va_G} {cyI : ClassId} {ad : Nat → Nat} {I : Nat → Int32} {A : Nat → Nat → Int32}
theorem iv_X7_114 (E : EX p s m args meth c cc nL RX7 ret) (K0 : KM D cyI s s.heap) (P : va_P D classes (mw cyI ad I A) H) (S : va_S (InN 16 ad) s.heap H locs) {a0 a1 a2 a3 a4 : Int32} {v : Int32} (hv : B_X7_pair I A a0 a1 a2 a3 a4 = some v) (hR : RmOk R cells slots 2 6) (hls : ls.size = nL) (hro : (rest.map fun v => v.category).sum ≤ 8) (hdg : decode cc pc = .ok (.invokevirtual 114, 3)) (kk : W p l e R s m args below meth c H locs cells slots Q (F0 m (pc + 3) ls (.int v :: rest))) : W p l e R s m args below meth c H locs cells slots Q (F0 m pc ls (.int a4 :: .int a3 :: .int a2 :: .int a1 :: .int a0 :: .ref (ad 0) :: rest)) :=
  cv_ro E (c_X7_pair l P a0 a1 a2 a3 a4 hv) (gV kML_X7_114 kIM_X7_pair kSE_X7_pair kIN_X7 kCO_X7_pair) rfl ds_X7_pair rfl KM_blind (fun U _ hW => KM.warm hW K0) (va_recv K0.k P (show classes[7]? = some (RX7, TX7, 27) from rfl) mw_g0) hR hls rfl hro hdg kk
end
section
variable {p : Program} {l : Launch} {e : Env} {s : State} {m : MethodId} {args : Array Value} {below : List Frame} {meth : Method} {c : Code} {D : va_G} {cyI : ClassId} {ad : Nat → Nat} {I : Nat → Int32} {A : Nat → Nat → Int32}
def B_X7_withAll (I : Nat → Int32) (A : Nat → Nat → Int32) (x1 x2 x3 : Int32) : Option (Int32) := (B_X7_own I A x1 x2 x3).bind fun r_1 => (B_X7_pair I A x1 x2 x3 1 0).bind fun r_3 => (B_X7_pair I A x1 x2 x3 ((-1)) 0).bind fun r_5 => (B_X7_pair I A x1 x2 x3 0 1).bind fun r_7 => (B_X7_pair I A x1 x2 x3 0 ((-1))).bind fun r_9 => some (((((r_1 + r_3) + r_5) + r_7) + r_9))
set_option maxHeartbeats 4000000 in
set_option maxRecDepth 100000 in
theorem w_X7_withAll (E : EX p s m args meth c cX7_withAll 4 RX7 (some .int)) (K0 : KM D cyI s s.heap) (P : va_P D classes (mw cyI ad I A) s.heap)  {x1 x2 x3 : Int32} {out : Int32} (h : B_X7_withAll I A x1 x2 x3 = some out) {ls : Array Slot} (hl : lv_has ls 4 [(0, .ref (ad 0)), (1, .int x1), (2, .int x2), (3, .int x3)]) : W p l e (rmL 3) s m args below meth c s.heap [] 0 0 (MQ below (vp_Si (fun z => z = out)) args s 0 0 (fun _ => False)) (F0 m 0 ls []) := by
  unfold B_X7_withAll at h
  refine lv_aload_n E.hx E.hb dX7_withAll_0 rfl (lv_at hl 0 rfl) ?_
  refine lv_iload_n E.hx E.hb dX7_withAll_1 rfl (lv_at hl 1 rfl) ?_
  refine lv_iload_n E.hx E.hb dX7_withAll_2 rfl (lv_at hl 2 rfl) ?_
  refine lv_iload_n E.hx E.hb dX7_withAll_3 rfl (lv_at hl 3 rfl) ?_
  obtain ⟨r_1, e_2, h⟩ := obind h
  refine iv_X7_110 (ad := ad) E K0 P va_S.rf e_2 (by decide) hl.1 (Nat.le_of_ble_eq_true rfl) dX7_withAll_4 ?_
  refine lv_aload_n E.hx E.hb dX7_withAll_7 rfl (lv_at hl 0 rfl) ?_
  refine lv_iload_n E.hx E.hb dX7_withAll_8 rfl (lv_at hl 1 rfl) ?_
  refine lv_iload_n E.hx E.hb dX7_withAll_9 rfl (lv_at hl 2 rfl) ?_
  refine lv_iload_n E.hx E.hb dX7_withAll_10 rfl (lv_at hl 3 rfl) ?_
  refine lv_iconst (v := 1) E.hx E.hb dX7_withAll_11 (by decide) ?_
  refine lv_iconst (v := 0) E.hx E.hb dX7_withAll_12 (by decide) ?_
  obtain ⟨r_3, e_4, h⟩ := obind h
  refine iv_X7_114 (ad := ad) E K0 P va_S.rf e_4 (by decide) hl.1 (Nat.le_of_ble_eq_true rfl) dX7_withAll_13 ?_
  refine lv_iadd E.hx E.hb dX7_withAll_16 ?_
  refine lv_aload_n E.hx E.hb dX7_withAll_17 rfl (lv_at hl 0 rfl) ?_
  refine lv_iload_n E.hx E.hb dX7_withAll_18 rfl (lv_at hl 1 rfl) ?_
  refine lv_iload_n E.hx E.hb dX7_withAll_19 rfl (lv_at hl 2 rfl) ?_
  refine lv_iload_n E.hx E.hb dX7_withAll_20 rfl (lv_at hl 3 rfl) ?_
  refine lv_iconst (v := (-1)) E.hx E.hb dX7_withAll_21 (by decide) ?_
  refine lv_iconst (v := 0) E.hx E.hb dX7_withAll_22 (by decide) ?_
  obtain ⟨r_5, e_6, h⟩ := obind h
  refine iv_X7_114 (ad := ad) E K0 P va_S.rf e_6 (by decide) hl.1 (Nat.le_of_ble_eq_true rfl) dX7_withAll_23 ?_
  refine lv_iadd E.hx E.hb dX7_withAll_26 ?_
  refine lv_aload_n E.hx E.hb dX7_withAll_27 rfl (lv_at hl 0 rfl) ?_
  refine lv_iload_n E.hx E.hb dX7_withAll_28 rfl (lv_at hl 1 rfl) ?_
  refine lv_iload_n E.hx E.hb dX7_withAll_29 rfl (lv_at hl 2 rfl) ?_
  refine lv_iload_n E.hx E.hb dX7_withAll_30 rfl (lv_at hl 3 rfl) ?_
  refine lv_iconst (v := 0) E.hx E.hb dX7_withAll_31 (by decide) ?_
  refine lv_iconst (v := 1) E.hx E.hb dX7_withAll_32 (by decide) ?_
  obtain ⟨r_7, e_8, h⟩ := obind h
  refine iv_X7_114 (ad := ad) E K0 P va_S.rf e_8 (by decide) hl.1 (Nat.le_of_ble_eq_true rfl) dX7_withAll_33 ?_
  refine lv_iadd E.hx E.hb dX7_withAll_36 ?_
  refine lv_aload_n E.hx E.hb dX7_withAll_37 rfl (lv_at hl 0 rfl) ?_
  refine lv_iload_n E.hx E.hb dX7_withAll_38 rfl (lv_at hl 1 rfl) ?_
  refine lv_iload_n E.hx E.hb dX7_withAll_39 rfl (lv_at hl 2 rfl) ?_
  refine lv_iload_n E.hx E.hb dX7_withAll_40 rfl (lv_at hl 3 rfl) ?_
  refine lv_iconst (v := 0) E.hx E.hb dX7_withAll_41 (by decide) ?_
  refine lv_iconst (v := (-1)) E.hx E.hb dX7_withAll_42 (by decide) ?_
  obtain ⟨r_9, e_10, h⟩ := obind h
  refine iv_X7_114 (ad := ad) E K0 P va_S.rf e_10 (by decide) hl.1 (Nat.le_of_ble_eq_true rfl) dX7_withAll_43 ?_
  refine lv_iadd E.hx E.hb dX7_withAll_46 ?_
  exact W.iret E.hx E.hb E.hr (fun t ht _ => ⟨_, rfl, (Option.some.inj h), ht⟩) (fun q hq => nomatch hq) dX7_withAll_47 E.hk
theorem c_X7_withAll (l : Launch) {H : Heap} {D : va_G} {cyI : ClassId} {ad : Nat → Nat} {I : Nat → Int32} {A : Nat → Nat → Int32} (P : va_P D classes (mw cyI ad I A) H) (x1 x2 x3 : Int32) {out : Int32} (h : B_X7_withAll I A x1 x2 x3 = some out) : MRO l yX7_withAll cX7_withAll 4 (some .int) 3 [.ref (ad 0), .int x1, .int x2, .int x3] H (KM D cyI) out := by
  refine Mof (own := RX7) (by decide +kernel) rfl rfl ?_
  intro p e s m args below meth c ls E hH K0 hl
  subst hH
  exact w_X7_withAll E K0 P h hl
theorem ds_X7_withAll : Dsc yX7_withAll 3 := ⟨by decide +kernel, by decide +kernel, by decide +kernel⟩
end
section
variable {p : Program} {l : Launch} {e : Env} {s : State} {m : MethodId} {args : Array Value} {below : List Frame} {meth : Method} {c : Code} {D : va_G} {cyI : ClassId} {ad : Nat → Nat} {I : Nat → Int32} {A : Nat → Nat → Int32}
def B_X7_all_L14 (I : Nat → Int32) (A : Nat → Nat → Int32) (x2 : Int32) : Nat → Int32 → Int32 → Option (Int32)
  | 0 => fun _ _ => none
  | n + 1 => fun x1 x3 => if (I 1) ≤ x3 then some (x1) else ((rd (A 0) 144 ((B_X7_cell x3 x2))).bind fun v_3 => (B_X7_own I A x3 x2 v_3).bind fun r_5 => (B_X7_pair I A x3 x2 v_3 1 0).bind fun r_7 => (B_X7_pair I A x3 x2 v_3 0 1).bind fun r_9 => (B_X7_all_L14 I A x2 n) ((x1 + ((r_5 + r_7) + r_9))) (x3 + 1))
theorem B_X7_all_L14_s (I : Nat → Int32) (A : Nat → Nat → Int32) (x2 x1 x3 : Int32) (n : Nat) : B_X7_all_L14 I A x2 (n + 1) x1 x3 = if (I 1) ≤ x3 then some (x1) else ((rd (A 0) 144 ((B_X7_cell x3 x2))).bind fun v_3 => (B_X7_own I A x3 x2 v_3).bind fun r_5 => (B_X7_pair I A x3 x2 v_3 1 0).bind fun r_7 => (B_X7_pair I A x3 x2 v_3 0 1).bind fun r_9 => (B_X7_all_L14 I A x2 n) ((x1 + ((r_5 + r_7) + r_9))) (x3 + 1)) := rfl
set_option maxHeartbeats 4000000 in
set_option maxRecDepth 100000 in
theorem w_X7_all_L14 (E : EX p s m args meth c cX7_all 5 RX7 (some .int)) (K0 : KM D cyI s s.heap) (P : va_P D classes (mw cyI ad I A) s.heap) {x2 : Int32} {out : Int32} : ∀ (n : Nat) {x1 x3 : Int32} {o : Int32} (h : B_X7_all_L14 I A x2 n x1 x3 = some o) {ls : Array Slot} (hl : lv_has ls 5 [(0, .ref (ad 0)), (1, .int x1), (2, .int x2), (3, .int x3)]) (kx : ∀ {ls : Array Slot}, lv_has ls 5 [(0, .ref (ad 0)), (1, .int o), (2, .int x2)] → W p l e (rmL 3) s m args below meth c s.heap [] 0 0 (MQ below (vp_Si (fun z => z = out)) args s 0 0 (fun _ => False)) (F0 m 73 ls [])), W p l e (rmL 3) s m args below meth c s.heap [] 0 0 (MQ below (vp_Si (fun z => z = out)) args s 0 0 (fun _ => False)) (F0 m 14 ls []) := by
  intro n
  induction n with
  | zero => intro x1 x3 o h ls hl kx; exact nomatch (show none = some o from h)
  | succ n ih =>
    intro x1 x3 o h ls hl kx
    rw [B_X7_all_L14_s] at h
    refine lv_iload_n E.hx E.hb dX7_all_14 rfl (lv_at hl 3 rfl) ?_
    refine lv_aload_n E.hx E.hb dX7_all_15 rfl (lv_at hl 0 rfl) ?_
    refine gf_X7_7 E K0 P dX7_all_16 ?_
    refine lv_icmp_ge (tgt := 73) E.hx E.hb dX7_all_19 (by decide) (fun c_2 => ?_) (fun c_2 => ?_)
    · rw [if_pos c_2] at h
      cases h
      exact kx  (lv_sub hl [0, 1, 2] rfl)
    · rw [if_neg c_2] at h
      refine lv_aload_n E.hx E.hb dX7_all_22 rfl (lv_at hl 0 rfl) ?_
      refine gf_X7_22 E K0 P dX7_all_23 ?_
      refine lv_iload_n E.hx E.hb dX7_all_26 rfl (lv_at hl 3 rfl) ?_
      refine lv_iload_n E.hx E.hb dX7_all_27 rfl (lv_at hl 2 rfl) ?_
      refine iv_X7_100 (ad := ad) E K0 va_S.rf (by decide) hl.1 (Nat.le_of_ble_eq_true rfl) dX7_all_28 ?_
      obtain ⟨v_3, e_4, h⟩ := obind h
      refine al_0 E K0 P e_4 dX7_all_31 ?_
      refine lv_istore (lv' := [(4, .int v_3), (0, .ref (ad 0)), (1, .int x1), (2, .int x2), (3, .int x3)]) E.hx E.hb dX7_all_32 hl (by decide) rfl (fun ls hl => ?_)
      refine lv_iload_n E.hx E.hb dX7_all_34 rfl (lv_at hl 2 rfl) ?_
      refine lv_aload_n E.hx E.hb dX7_all_35 rfl (lv_at hl 1 rfl) ?_
      refine lv_iload_n E.hx E.hb dX7_all_36 rfl (lv_at hl 4 rfl) ?_
      refine lv_iload_n E.hx E.hb dX7_all_37 rfl (lv_at hl 3 rfl) ?_
      refine lv_iload E.hx E.hb dX7_all_38 (lv_at hl 0 rfl) ?_
      obtain ⟨r_5, e_6, h⟩ := obind h
      refine iv_X7_110 (ad := ad) E K0 P va_S.rf e_6 (by decide) hl.1 (Nat.le_of_ble_eq_true rfl) dX7_all_40 ?_
      refine lv_aload_n E.hx E.hb dX7_all_43 rfl (lv_at hl 1 rfl) ?_
      refine lv_iload_n E.hx E.hb dX7_all_44 rfl (lv_at hl 4 rfl) ?_
      refine lv_iload_n E.hx E.hb dX7_all_45 rfl (lv_at hl 3 rfl) ?_
      refine lv_iload E.hx E.hb dX7_all_46 (lv_at hl 0 rfl) ?_
      refine lv_iconst (v := 1) E.hx E.hb dX7_all_48 (by decide) ?_
      refine lv_iconst (v := 0) E.hx E.hb dX7_all_49 (by decide) ?_
      obtain ⟨r_7, e_8, h⟩ := obind h
      refine iv_X7_114 (ad := ad) E K0 P va_S.rf e_8 (by decide) hl.1 (Nat.le_of_ble_eq_true rfl) dX7_all_50 ?_
      refine lv_iadd E.hx E.hb dX7_all_53 ?_
      refine lv_aload_n E.hx E.hb dX7_all_54 rfl (lv_at hl 1 rfl) ?_
      refine lv_iload_n E.hx E.hb dX7_all_55 rfl (lv_at hl 4 rfl) ?_
      refine lv_iload_n E.hx E.hb dX7_all_56 rfl (lv_at hl 3 rfl) ?_
      refine lv_iload E.hx E.hb dX7_all_57 (lv_at hl 0 rfl) ?_
      refine lv_iconst (v := 0) E.hx E.hb dX7_all_59 (by decide) ?_
      refine lv_iconst (v := 1) E.hx E.hb dX7_all_60 (by decide) ?_
      obtain ⟨r_9, e_10, h⟩ := obind h
      refine iv_X7_114 (ad := ad) E K0 P va_S.rf e_10 (by decide) hl.1 (Nat.le_of_ble_eq_true rfl) dX7_all_61 ?_
      refine lv_iadd E.hx E.hb dX7_all_64 ?_
      refine lv_iadd E.hx E.hb dX7_all_65 ?_
      refine lv_istore_n (lv' := [(1, .int (x1 + ((r_5 + r_7) + r_9))), (4, .int v_3), (0, .ref (ad 0)), (2, .int x2), (3, .int x3)]) E.hx E.hb dX7_all_66 rfl hl (by decide) rfl (fun ls hl => ?_)
      refine lv_iinc (v := x3 + 1) (lv' := [(3, .int (x3 + 1)), (1, .int (x1 + ((r_5 + r_7) + r_9))), (4, .int v_3), (0, .ref (ad 0)), (2, .int x2)]) E.hx E.hb dX7_all_67 hl (k := 4) rfl rfl (by decide) rfl (fun ls hl => ?_)
      refine lv_goto (tgt := 14) E.hx E.hb dX7_all_70 (by decide) ?_
      exact ih  h (lv_sub hl [3, 1, 4, 0] rfl) kx
def B_X7_all_L4 (I : Nat → Int32) (A : Nat → Nat → Int32)  : Nat → Int32 → Int32 → Option (Int32)
  | 0 => fun _ _ => none
  | n + 1 => fun x1 x2 => if (I 2) ≤ x2 then some (x1) else ((B_X7_all_L14 I A x2 FU x1 0).bind fun q_11 => (B_X7_all_L4 I A n) q_11 (x2 + 1))
theorem B_X7_all_L4_s (I : Nat → Int32) (A : Nat → Nat → Int32) (x1 x2 : Int32) (n : Nat) : B_X7_all_L4 I A  (n + 1) x1 x2 = if (I 2) ≤ x2 then some (x1) else ((B_X7_all_L14 I A x2 FU x1 0).bind fun q_11 => (B_X7_all_L4 I A n) q_11 (x2 + 1)) := rfl
set_option maxHeartbeats 4000000 in
set_option maxRecDepth 100000 in
theorem w_X7_all_L4 (E : EX p s m args meth c cX7_all 5 RX7 (some .int)) (K0 : KM D cyI s s.heap) (P : va_P D classes (mw cyI ad I A) s.heap) {out : Int32} : ∀ (n : Nat) {x1 x2 : Int32} {o : Int32} (h : B_X7_all_L4 I A  n x1 x2 = some o) {ls : Array Slot} (hl : lv_has ls 5 [(0, .ref (ad 0)), (1, .int x1), (2, .int x2)]) (kx : ∀ {ls : Array Slot}, lv_has ls 5 [(1, .int o)] → W p l e (rmL 3) s m args below meth c s.heap [] 0 0 (MQ below (vp_Si (fun z => z = out)) args s 0 0 (fun _ => False)) (F0 m 79 ls [])), W p l e (rmL 3) s m args below meth c s.heap [] 0 0 (MQ below (vp_Si (fun z => z = out)) args s 0 0 (fun _ => False)) (F0 m 4 ls []) := by
  intro n
  induction n with
  | zero => intro x1 x2 o h ls hl kx; exact nomatch (show none = some o from h)
  | succ n ih =>
    intro x1 x2 o h ls hl kx
    rw [B_X7_all_L4_s] at h
    refine lv_iload_n E.hx E.hb dX7_all_4 rfl (lv_at hl 2 rfl) ?_
    refine lv_aload_n E.hx E.hb dX7_all_5 rfl (lv_at hl 0 rfl) ?_
    refine gf_X7_13 E K0 P dX7_all_6 ?_
    refine lv_icmp_ge (tgt := 79) E.hx E.hb dX7_all_9 (by decide) (fun c_1 => ?_) (fun c_1 => ?_)
    · rw [if_pos c_1] at h
      cases h
      exact kx  (lv_sub hl [1] rfl)
    · rw [if_neg c_1] at h
      refine lv_iconst (v := 0) E.hx E.hb dX7_all_12 (by decide) ?_
      refine lv_istore_n (lv' := [(3, .int 0), (0, .ref (ad 0)), (1, .int x1), (2, .int x2)]) E.hx E.hb dX7_all_13 rfl hl (by decide) rfl (fun ls hl => ?_)
      obtain ⟨q_11, e_12, h⟩ := obind h
      refine w_X7_all_L14 E K0 P FU e_12 (lv_sub hl [1, 2, 3, 0] rfl) (fun {ls} hl => ?_)
      refine lv_iinc (v := x2 + 1) (lv' := [(2, .int (x2 + 1)), (0, .ref (ad 0)), (1, .int q_11)]) E.hx E.hb dX7_all_73 hl (k := 2) rfl rfl (by decide) rfl (fun ls hl => ?_)
      refine lv_goto (tgt := 4) E.hx E.hb dX7_all_76 (by decide) ?_
      exact ih  h (lv_sub hl [1, 2, 0] rfl) kx
def B_X7_all (I : Nat → Int32) (A : Nat → Nat → Int32)  : Option (Int32) := (B_X7_all_L4 I A  FU 0 0).bind fun q_13 => some q_13
set_option maxHeartbeats 4000000 in
set_option maxRecDepth 100000 in
theorem w_X7_all (E : EX p s m args meth c cX7_all 5 RX7 (some .int)) (K0 : KM D cyI s s.heap) (P : va_P D classes (mw cyI ad I A) s.heap)  {out : Int32} (h : B_X7_all I A  = some out) {ls : Array Slot} (hl : lv_has ls 5 [(0, .ref (ad 0))]) : W p l e (rmL 3) s m args below meth c s.heap [] 0 0 (MQ below (vp_Si (fun z => z = out)) args s 0 0 (fun _ => False)) (F0 m 0 ls []) := by
  unfold B_X7_all at h
  refine lv_iconst (v := 0) E.hx E.hb dX7_all_0 (by decide) ?_
  refine lv_istore_n (lv' := [(1, .int 0), (0, .ref (ad 0))]) E.hx E.hb dX7_all_1 rfl hl (by decide) rfl (fun ls hl => ?_)
  refine lv_iconst (v := 0) E.hx E.hb dX7_all_2 (by decide) ?_
  refine lv_istore_n (lv' := [(2, .int 0), (1, .int 0), (0, .ref (ad 0))]) E.hx E.hb dX7_all_3 rfl hl (by decide) rfl (fun ls hl => ?_)
  obtain ⟨q_13, e_14, h⟩ := obind h
  refine w_X7_all_L4 E K0 P FU e_14 (lv_sub hl [2, 1, 0] rfl) (fun {ls} hl => ?_)
  refine lv_iload_n E.hx E.hb dX7_all_79 rfl (lv_at hl 0 rfl) ?_
  exact W.iret E.hx E.hb E.hr (fun t ht _ => ⟨_, rfl, (Option.some.inj h), ht⟩) (fun q hq => nomatch hq) dX7_all_80 E.hk
theorem c_X7_all (l : Launch) {H : Heap} {D : va_G} {cyI : ClassId} {ad : Nat → Nat} {I : Nat → Int32} {A : Nat → Nat → Int32} (P : va_P D classes (mw cyI ad I A) H)  {out : Int32} (h : B_X7_all I A  = some out) : MRO l yX7_all cX7_all 5 (some .int) 3 [.ref (ad 0)] H (KM D cyI) out := by
  refine Mof (own := RX7) (by decide +kernel) rfl rfl ?_
  intro p e s m args below meth c ls E hH K0 hl
  subst hH
  exact w_X7_all E K0 P h hl
theorem ds_X7_all : Dsc yX7_all 0 := ⟨by decide +kernel, by decide +kernel, by decide +kernel⟩
end
section
variable {p : Program} {l : Launch} {e : Env} {R : Room} {s : State} {m : MethodId} {args : Array Value} {below : List Frame} {meth : Method} {c : Code} {H : Heap} {locs : List Loc} {cells slots : Nat} {Q : State → Prop} {cc : ByteArray} {nL pc : Nat} {ret : Option FieldType} {ls : Array Slot} {rest : List Value} {D : va_G} {cyI : ClassId} {ad : Nat → Nat} {I : Nat → Int32} {A : Nat → Nat → Int32}
theorem iv_X7_118 (E : EX p s m args meth c cc nL RX7 ret) (K0 : KM D cyI s s.heap) (P : va_P D classes (mw cyI ad I A) H) (S : va_S (InN 16 ad) s.heap H locs) {v : Int32} (hv : B_X7_all I A  = some v) (hR : RmOk R cells slots 3 5) (hls : ls.size = nL) (hro : (rest.map fun v => v.category).sum ≤ 8) (hdg : decode cc pc = .ok (.invokevirtual 118, 3)) (kk : W p l e R s m args below meth c H locs cells slots Q (F0 m (pc + 3) ls (.int v :: rest))) : W p l e R s m args below meth c H locs cells slots Q (F0 m pc ls (.ref (ad 0) :: rest)) :=
  cv_ro E (c_X7_all l P  hv) (gV kML_X7_118 kIM_X7_all kSE_X7_all kIN_X7 kCO_X7_all) rfl ds_X7_all rfl KM_blind (fun U _ hW => KM.warm hW K0) (va_recv K0.k P (show classes[7]? = some (RX7, TX7, 27) from rfl) mw_g0) hR hls rfl hro hdg kk
end
section
variable {p : Program} {l : Launch} {e : Env} {s : State} {m : MethodId} {args : Array Value} {below : List Frame} {meth : Method} {c : Code} {D : va_G} {cyI : ClassId} {ad : Nat → Nat} {I : Nat → Int32} {A : Nat → Nat → Int32}
def B_X7_worked (I : Nat → Int32) (A : Nat → Nat → Int32) (x1 : Int32) : Option (Int32 × (Nat → Int32) × (Nat → Nat → Int32)) := (B_X7_all I A ).bind fun r_1 => some ((r_1 - x1), (va_up I 7 (((I 7) + (r_1 - x1)))), A)
set_option maxHeartbeats 4000000 in
set_option maxRecDepth 100000 in
theorem w_X7_worked (E : EX p s m args meth c cX7_worked 3 RX7 (some .int)) (K0 : KM D cyI s s.heap) (N : AdN 16 ad) {H : Heap} {locs : List Loc} (P : va_P D classes (mw cyI ad I A) H) (S : va_S (InN 16 ad) s.heap H locs)  {x1 : Int32} {out : Int32 × (Nat → Int32) × (Nat → Nat → Int32)} (h : B_X7_worked I A x1 = some out) {ls : Array Slot} (hl : lv_has ls 3 [(0, .ref (ad 0)), (1, .int x1)]) : W p l e (rmL 4) s m args below meth c H locs 0 0 (MQ below (Qrw (InN 16 ad) (some (.int out.1)) (fun H1 => va_P D classes (mw cyI ad out.2.1 out.2.2) H1)) args s 0 0 (InN 16 ad)) (F0 m 0 ls []) := by
  unfold B_X7_worked at h
  refine lv_aload_n E.hx E.hb dX7_worked_0 rfl (lv_at hl 0 rfl) ?_
  obtain ⟨r_1, e_2, h⟩ := obind h
  refine iv_X7_118 (ad := ad) E K0 P S e_2 (by decide) hl.1 (Nat.le_of_ble_eq_true rfl) dX7_worked_1 ?_
  refine lv_iload_n E.hx E.hb dX7_worked_4 rfl (lv_at hl 1 rfl) ?_
  refine lv_isub E.hx E.hb dX7_worked_5 ?_
  refine lv_istore_n (lv' := [(2, .int (r_1 - x1)), (0, .ref (ad 0)), (1, .int x1)]) E.hx E.hb dX7_worked_6 rfl hl (by decide) rfl (fun ls hl => ?_)
  refine lv_aload_n E.hx E.hb dX7_worked_7 rfl (lv_at hl 1 rfl) ?_
  refine lv_dup E.hx E.hb dX7_worked_8 rfl ?_
  refine gf_X7_83 E K0 P dX7_worked_9 ?_
  refine lv_iload_n E.hx E.hb dX7_worked_12 rfl (lv_at hl 0 rfl) ?_
  refine lv_iadd E.hx E.hb dX7_worked_13 ?_
  refine pf_X7_83 E N K0 P S dX7_worked_14 (fun H locs P S => ?_)
  refine lv_iload_n E.hx E.hb dX7_worked_17 rfl (lv_at hl 0 rfl) ?_
  cases h
  exact W.iret E.hx E.hb E.hr (fun t ht _ => ⟨rfl, by rw [ht]; exact P, S.F ht⟩) S.2.2 dX7_worked_18 E.hk
theorem c_X7_worked (l : Launch) {H : Heap} {D : va_G} {cyI : ClassId} {ad : Nat → Nat} {I : Nat → Int32} {A : Nat → Nat → Int32} (N : AdN 16 ad) (P : va_P D classes (mw cyI ad I A) H) (x1 : Int32) {out : Int32 × (Nat → Int32) × (Nat → Nat → Int32)} (h : B_X7_worked I A x1 = some out) : MRW l yX7_worked cX7_worked 3 (some .int) 4 [.ref (ad 0), .int x1] H (KM D cyI) (InN 16 ad) (some (.int out.1)) (fun H1 => va_P D classes (mw cyI ad out.2.1 out.2.2) H1) := by
  refine Mof (own := RX7) (by decide +kernel) rfl rfl ?_
  intro p e s m args below meth c ls E hH K0 hl
  subst hH
  exact w_X7_worked E K0 N P va_S.rf h hl
theorem ds_X7_worked : Dsc yX7_worked 1 := ⟨by decide +kernel, by decide +kernel, by decide +kernel⟩
end
section
variable {p : Program} {l : Launch} {e : Env} {R : Room} {s : State} {m : MethodId} {args : Array Value} {below : List Frame} {meth : Method} {c : Code} {H : Heap} {locs : List Loc} {cells slots : Nat} {Q : State → Prop} {cc : ByteArray} {nL pc : Nat} {ret : Option FieldType} {ls : Array Slot} {rest : List Value} {D : va_G} {cyI : ClassId} {ad : Nat → Nat} {I : Nat → Int32} {A : Nat → Nat → Int32}
theorem iv_X7_122 (E : EX p s m args meth c cc nL RX7 ret) (N : AdN 16 ad) (K0 : KM D cyI s s.heap) (P : va_P D classes (mw cyI ad I A) H) (S : va_S (InN 16 ad) s.heap H locs) {a0 : Int32} {v : Int32 × (Nat → Int32) × (Nat → Nat → Int32)} (hv : B_X7_stop I A a0 = some v) (hR : RmOk R cells slots 0 2) (hls : ls.size = nL) (hro : (rest.map fun v => v.category).sum ≤ 8) (hdg : decode cc pc = .ok (.invokevirtual 122, 3)) (kk : ∀ (H1 : Heap) (locs1 : List Loc), va_P D classes (mw cyI ad v.2.1 v.2.2) H1 → va_S (InN 16 ad) s.heap H1 locs1 → W p l e R s m args below meth c H1 locs1 cells slots Q (F0 m (pc + 3) ls (.int v.1 :: rest))) : W p l e R s m args below meth c H locs cells slots Q (F0 m pc ls (.int a0 :: .ref (ad 0) :: rest)) :=
  cv_rw E (c_X7_stop l N P a0 hv) (gV kML_X7_122 kIM_X7_stop kSE_X7_stop kIN_X7 kCO_X7_stop) rfl ds_X7_stop rfl KM_blind (fun U _ hW => KM.warm hW K0) S (va_recv K0.k P (show classes[7]? = some (RX7, TX7, 27) from rfl) mw_g0) hR hls rfl hro hdg kk
end
section
variable {p : Program} {l : Launch} {e : Env} {R : Room} {s : State} {m : MethodId} {args : Array Value} {below : List Frame} {meth : Method} {c : Code} {H : Heap} {locs : List Loc} {cells slots : Nat} {Q : State → Prop} {cc : ByteArray} {nL pc : Nat} {ret : Option FieldType} {ls : Array Slot} {rest : List Value} {D : va_G} {cyI : ClassId} {ad : Nat → Nat} {I : Nat → Int32} {A : Nat → Nat → Int32}
theorem iv_X7_68 (E : EX p s m args meth c cc nL RX7 ret) (N : AdN 16 ad) (K0 : KM D cyI s s.heap) (P : va_P D classes (mw cyI ad I A) H) (S : va_S (InN 16 ad) s.heap H locs) {v : (Nat → Int32) × (Nat → Nat → Int32)} (hv : B_X7_begin I A  = some v) (hR : RmOk R cells slots 0 2) (hls : ls.size = nL) (hro : (rest.map fun v => v.category).sum ≤ 8) (hdg : decode cc pc = .ok (.invokevirtual 68, 3)) (kk : ∀ (H1 : Heap) (locs1 : List Loc), va_P D classes (mw cyI ad v.1 v.2) H1 → va_S (InN 16 ad) s.heap H1 locs1 → W p l e R s m args below meth c H1 locs1 cells slots Q (F0 m (pc + 3) ls (rest))) : W p l e R s m args below meth c H locs cells slots Q (F0 m pc ls (.ref (ad 0) :: rest)) :=
  cv_rw E (c_X7_begin l N P  hv) (gV kML_X7_68 kIM_X7_begin kSE_X7_begin kIN_X7 kCO_X7_begin) rfl ds_X7_begin rfl KM_blind (fun U _ hW => KM.warm hW K0) S (va_recv K0.k P (show classes[7]? = some (RX7, TX7, 27) from rfl) mw_g0) hR hls rfl hro hdg kk
end
section
variable {p : Program} {l : Launch} {e : Env} {s : State} {m : MethodId} {args : Array Value} {below : List Frame} {meth : Method} {c : Code} {D : va_G} {cyI : ClassId} {ad : Nat → Nat} {I : Nat → Int32} {A : Nat → Nat → Int32}
def B_X7_grid_J25  (I : Nat → Int32) (A : Nat → Nat → Int32)  : Option ((Nat → Int32) × (Nat → Nat → Int32)) := (B_X7_stop I A 1).bind fun q_2 => some (q_2.2.1, q_2.2.2)
set_option maxHeartbeats 4000000 in
set_option maxRecDepth 100000 in
theorem w_X7_grid_J25 (E : EX p s m args meth c cX7_grid 3 RX7 none) (K0 : KM D cyI s s.heap) (N : AdN 16 ad) {H : Heap} {locs : List Loc} (P : va_P D classes (mw cyI ad I A) H) (S : va_S (InN 16 ad) s.heap H locs) {out : (Nat → Int32) × (Nat → Nat → Int32)} (h : B_X7_grid_J25  I A  = some out) {ls : Array Slot} (hl : lv_has ls 3 [(0, .ref (ad 0))]) : W p l e (rmL 1) s m args below meth c H locs 0 0 (MQ below (Qrw (InN 16 ad) (none) (fun H1 => va_P D classes (mw cyI ad out.1 out.2) H1)) args s 0 0 (InN 16 ad)) (F0 m 25 ls []) := by
  unfold B_X7_grid_J25 at h
  refine lv_aload_n E.hx E.hb dX7_grid_25 rfl (lv_at hl 0 rfl) ?_
  refine lv_iconst (v := 1) E.hx E.hb dX7_grid_26 (by decide) ?_
  obtain ⟨q_2, e_3, h⟩ := obind h
  refine iv_X7_122 E N K0 P S e_3 (by decide) hl.1 (Nat.le_of_ble_eq_true rfl) dX7_grid_27 (fun H locs P S => ?_)
  refine lv_pop E.hx E.hb dX7_grid_30 rfl ?_
  cases h
  exact W.vret E.hx E.hb E.hr (fun t ht _ => ⟨rfl, by rw [ht]; exact P, S.F ht⟩) S.2.2 dX7_grid_31 E.hk
def B_X7_grid (I : Nat → Int32) (A : Nat → Nat → Int32) (x1 x2 : Int32) : Option ((Nat → Int32) × (Nat → Nat → Int32)) := if (B_X7_in x1 2 12) = 0 then B_X7_grid_J25  ((va_up I 0 0)) A  else (if (B_X7_in x2 2 12) = 0 then B_X7_grid_J25  ((va_up I 0 0)) A  else ((B_X7_begin ((va_up ((va_up ((va_up I 0 0)) 1 x1)) 2 x2)) A ).bind fun q_5 => some (q_5.1, q_5.2)))
set_option maxHeartbeats 4000000 in
set_option maxRecDepth 100000 in
theorem w_X7_grid (E : EX p s m args meth c cX7_grid 3 RX7 none) (K0 : KM D cyI s s.heap) (N : AdN 16 ad) {H : Heap} {locs : List Loc} (P : va_P D classes (mw cyI ad I A) H) (S : va_S (InN 16 ad) s.heap H locs)  {x1 x2 : Int32} {out : (Nat → Int32) × (Nat → Nat → Int32)} (h : B_X7_grid I A x1 x2 = some out) {ls : Array Slot} (hl : lv_has ls 3 [(0, .ref (ad 0)), (1, .int x1), (2, .int x2)]) : W p l e (rmL 1) s m args below meth c H locs 0 0 (MQ below (Qrw (InN 16 ad) (none) (fun H1 => va_P D classes (mw cyI ad out.1 out.2) H1)) args s 0 0 (InN 16 ad)) (F0 m 0 ls []) := by
  unfold B_X7_grid at h
  refine lv_aload_n E.hx E.hb dX7_grid_0 rfl (lv_at hl 0 rfl) ?_
  refine lv_iconst (v := 0) E.hx E.hb dX7_grid_1 (by decide) ?_
  refine pf_X7_89 E N K0 P S dX7_grid_2 (fun H locs P S => ?_)
  refine lv_iload_n E.hx E.hb dX7_grid_5 rfl (lv_at hl 1 rfl) ?_
  refine lv_iconst (v := 2) E.hx E.hb dX7_grid_6 (by decide) ?_
  refine lv_bipush (v := 12) E.hx E.hb dX7_grid_7 (by decide) ?_
  refine iv_X7_92 (ad := ad) E K0 S (by decide) hl.1 (Nat.le_of_ble_eq_true rfl) dX7_grid_9 ?_
  refine lv_if_eq (tgt := 25) E.hx E.hb dX7_grid_12 (by decide) (fun c_1 => ?_) (fun c_1 => ?_)
  · rw [if_pos c_1] at h
    exact w_X7_grid_J25 E K0 N P S h (lv_sub hl [0] rfl)
  · rw [if_neg c_1] at h
    refine lv_iload_n E.hx E.hb dX7_grid_15 rfl (lv_at hl 2 rfl) ?_
    refine lv_iconst (v := 2) E.hx E.hb dX7_grid_16 (by decide) ?_
    refine lv_bipush (v := 12) E.hx E.hb dX7_grid_17 (by decide) ?_
    refine iv_X7_92 (ad := ad) E K0 S (by decide) hl.1 (Nat.le_of_ble_eq_true rfl) dX7_grid_19 ?_
    refine lv_if_ne (tgt := 32) E.hx E.hb dX7_grid_22 (by decide) (fun c_4 => ?_) (fun c_4 => ?_)
    · rw [if_neg c_4] at h
      refine lv_aload_n E.hx E.hb dX7_grid_32 rfl (lv_at hl 0 rfl) ?_
      refine lv_iload_n E.hx E.hb dX7_grid_33 rfl (lv_at hl 1 rfl) ?_
      refine pf_X7_7 E N K0 P S dX7_grid_34 (fun H locs P S => ?_)
      refine lv_aload_n E.hx E.hb dX7_grid_37 rfl (lv_at hl 0 rfl) ?_
      refine lv_iload_n E.hx E.hb dX7_grid_38 rfl (lv_at hl 2 rfl) ?_
      refine pf_X7_13 E N K0 P S dX7_grid_39 (fun H locs P S => ?_)
      refine lv_aload_n E.hx E.hb dX7_grid_42 rfl (lv_at hl 0 rfl) ?_
      obtain ⟨q_5, e_6, h⟩ := obind h
      refine iv_X7_68 E N K0 P S e_6 (by decide) hl.1 (Nat.le_of_ble_eq_true rfl) dX7_grid_43 (fun H locs P S => ?_)
      cases h
      exact W.vret E.hx E.hb E.hr (fun t ht _ => ⟨rfl, by rw [ht]; exact P, S.F ht⟩) S.2.2 dX7_grid_46 E.hk
    · rw [if_pos c_4] at h
      exact w_X7_grid_J25 E K0 N P S h (lv_sub hl [0] rfl)
theorem c_X7_grid (l : Launch) {H : Heap} {D : va_G} {cyI : ClassId} {ad : Nat → Nat} {I : Nat → Int32} {A : Nat → Nat → Int32} (N : AdN 16 ad) (P : va_P D classes (mw cyI ad I A) H) (x1 x2 : Int32) {out : (Nat → Int32) × (Nat → Nat → Int32)} (h : B_X7_grid I A x1 x2 = some out) : MRW l yX7_grid cX7_grid 3 none 1 [.ref (ad 0), .int x1, .int x2] H (KM D cyI) (InN 16 ad) none (fun H1 => va_P D classes (mw cyI ad out.1 out.2) H1) := by
  refine Mof (own := RX7) (by decide +kernel) rfl rfl ?_
  intro p e s m args below meth c ls E hH K0 hl
  subst hH
  exact w_X7_grid E K0 N P va_S.rf h hl
theorem ds_X7_grid : Dsc yX7_grid 2 := ⟨by decide +kernel, by decide +kernel, by decide +kernel⟩
end
section
variable {p : Program} {l : Launch} {e : Env} {R : Room} {s : State} {m : MethodId} {args : Array Value} {below : List Frame} {meth : Method} {c : Code} {H : Heap} {locs : List Loc} {cells slots : Nat} {Q : State → Prop} {cc : ByteArray} {nL pc : Nat} {ret : Option FieldType} {ls : Array Slot} {rest : List Value} {D : va_G} {cyI : ClassId} {ad : Nat → Nat} {I : Nat → Int32} {A : Nat → Nat → Int32}
theorem iv_X7_126 (E : EX p s m args meth c cc nL RX7 ret) (N : AdN 16 ad) (K0 : KM D cyI s s.heap) (P : va_P D classes (mw cyI ad I A) H) (S : va_S (InN 16 ad) s.heap H locs) {a0 : Int32} {v : Int32 × (Nat → Int32) × (Nat → Nat → Int32)} (hv : B_X7_worked I A a0 = some v) (hR : RmOk R cells slots 4 3) (hls : ls.size = nL) (hro : (rest.map fun v => v.category).sum ≤ 8) (hdg : decode cc pc = .ok (.invokevirtual 126, 3)) (kk : ∀ (H1 : Heap) (locs1 : List Loc), va_P D classes (mw cyI ad v.2.1 v.2.2) H1 → va_S (InN 16 ad) s.heap H1 locs1 → W p l e R s m args below meth c H1 locs1 cells slots Q (F0 m (pc + 3) ls (.int v.1 :: rest))) : W p l e R s m args below meth c H locs cells slots Q (F0 m pc ls (.int a0 :: .ref (ad 0) :: rest)) :=
  cv_rw E (c_X7_worked l N P a0 hv) (gV kML_X7_126 kIM_X7_worked kSE_X7_worked kIN_X7 kCO_X7_worked) rfl ds_X7_worked rfl KM_blind (fun U _ hW => KM.warm hW K0) S (va_recv K0.k P (show classes[7]? = some (RX7, TX7, 27) from rfl) mw_g0) hR hls rfl hro hdg kk
end
section
variable {p : Program} {l : Launch} {e : Env} {s : State} {m : MethodId} {args : Array Value} {below : List Frame} {meth : Method} {c : Code} {D : va_G} {cyI : ClassId} {ad : Nat → Nat} {I : Nat → Int32} {A : Nat → Nat → Int32}
def B_X7_costs_J25  (I : Nat → Int32) (A : Nat → Nat → Int32)  : Option (Int32 × (Nat → Int32) × (Nat → Nat → Int32)) := (B_X7_stop I A 1).bind fun q_2 => some (q_2.1, q_2.2.1, q_2.2.2)
set_option maxHeartbeats 4000000 in
set_option maxRecDepth 100000 in
theorem w_X7_costs_J25 (E : EX p s m args meth c cX7_costs 4 RX7 (some .int)) (K0 : KM D cyI s s.heap) (N : AdN 16 ad) {H : Heap} {locs : List Loc} (P : va_P D classes (mw cyI ad I A) H) (S : va_S (InN 16 ad) s.heap H locs) {out : Int32 × (Nat → Int32) × (Nat → Nat → Int32)} (h : B_X7_costs_J25  I A  = some out) {ls : Array Slot} (hl : lv_has ls 4 [(0, .ref (ad 0))]) : W p l e (rmL 5) s m args below meth c H locs 0 0 (MQ below (Qrw (InN 16 ad) (some (.int out.1)) (fun H1 => va_P D classes (mw cyI ad out.2.1 out.2.2) H1)) args s 0 0 (InN 16 ad)) (F0 m 25 ls []) := by
  unfold B_X7_costs_J25 at h
  refine lv_aload_n E.hx E.hb dX7_costs_25 rfl (lv_at hl 0 rfl) ?_
  refine lv_iconst (v := 1) E.hx E.hb dX7_costs_26 (by decide) ?_
  obtain ⟨q_2, e_3, h⟩ := obind h
  refine iv_X7_122 E N K0 P S e_3 (by decide) hl.1 (Nat.le_of_ble_eq_true rfl) dX7_costs_27 (fun H locs P S => ?_)
  cases h
  exact W.iret E.hx E.hb E.hr (fun t ht _ => ⟨rfl, by rw [ht]; exact P, S.F ht⟩) S.2.2 dX7_costs_30 E.hk
def B_X7_costs (I : Nat → Int32) (A : Nat → Nat → Int32) (x1 x2 : Int32) : Option (Int32 × (Nat → Int32) × (Nat → Nat → Int32)) := if (B_X7_in x1 0 20) = 0 then B_X7_costs_J25  ((va_up I 0 0)) A  else (if (B_X7_in x2 0 20) = 0 then B_X7_costs_J25  ((va_up I 0 0)) A  else ((B_X7_all ((va_up I 0 0)) A ).bind fun r_5 => (B_X7_worked ((va_up ((va_up ((va_up I 0 0)) 3 x1)) 4 x2)) A r_5).bind fun q_7 => some (q_7.1, q_7.2.1, q_7.2.2)))
set_option maxHeartbeats 4000000 in
set_option maxRecDepth 100000 in
theorem w_X7_costs (E : EX p s m args meth c cX7_costs 4 RX7 (some .int)) (K0 : KM D cyI s s.heap) (N : AdN 16 ad) {H : Heap} {locs : List Loc} (P : va_P D classes (mw cyI ad I A) H) (S : va_S (InN 16 ad) s.heap H locs)  {x1 x2 : Int32} {out : Int32 × (Nat → Int32) × (Nat → Nat → Int32)} (h : B_X7_costs I A x1 x2 = some out) {ls : Array Slot} (hl : lv_has ls 4 [(0, .ref (ad 0)), (1, .int x1), (2, .int x2)]) : W p l e (rmL 5) s m args below meth c H locs 0 0 (MQ below (Qrw (InN 16 ad) (some (.int out.1)) (fun H1 => va_P D classes (mw cyI ad out.2.1 out.2.2) H1)) args s 0 0 (InN 16 ad)) (F0 m 0 ls []) := by
  unfold B_X7_costs at h
  refine lv_aload_n E.hx E.hb dX7_costs_0 rfl (lv_at hl 0 rfl) ?_
  refine lv_iconst (v := 0) E.hx E.hb dX7_costs_1 (by decide) ?_
  refine pf_X7_89 E N K0 P S dX7_costs_2 (fun H locs P S => ?_)
  refine lv_iload_n E.hx E.hb dX7_costs_5 rfl (lv_at hl 1 rfl) ?_
  refine lv_iconst (v := 0) E.hx E.hb dX7_costs_6 (by decide) ?_
  refine lv_bipush (v := 20) E.hx E.hb dX7_costs_7 (by decide) ?_
  refine iv_X7_92 (ad := ad) E K0 S (by decide) hl.1 (Nat.le_of_ble_eq_true rfl) dX7_costs_9 ?_
  refine lv_if_eq (tgt := 25) E.hx E.hb dX7_costs_12 (by decide) (fun c_1 => ?_) (fun c_1 => ?_)
  · rw [if_pos c_1] at h
    exact w_X7_costs_J25 E K0 N P S h (lv_sub hl [0] rfl)
  · rw [if_neg c_1] at h
    refine lv_iload_n E.hx E.hb dX7_costs_15 rfl (lv_at hl 2 rfl) ?_
    refine lv_iconst (v := 0) E.hx E.hb dX7_costs_16 (by decide) ?_
    refine lv_bipush (v := 20) E.hx E.hb dX7_costs_17 (by decide) ?_
    refine iv_X7_92 (ad := ad) E K0 S (by decide) hl.1 (Nat.le_of_ble_eq_true rfl) dX7_costs_19 ?_
    refine lv_if_ne (tgt := 31) E.hx E.hb dX7_costs_22 (by decide) (fun c_4 => ?_) (fun c_4 => ?_)
    · rw [if_neg c_4] at h
      refine lv_aload_n E.hx E.hb dX7_costs_31 rfl (lv_at hl 0 rfl) ?_
      obtain ⟨r_5, e_6, h⟩ := obind h
      refine iv_X7_118 (ad := ad) E K0 P S e_6 (by decide) hl.1 (Nat.le_of_ble_eq_true rfl) dX7_costs_32 ?_
      refine lv_istore_n (lv' := [(3, .int r_5), (0, .ref (ad 0)), (1, .int x1), (2, .int x2)]) E.hx E.hb dX7_costs_35 rfl hl (by decide) rfl (fun ls hl => ?_)
      refine lv_aload_n E.hx E.hb dX7_costs_36 rfl (lv_at hl 1 rfl) ?_
      refine lv_iload_n E.hx E.hb dX7_costs_37 rfl (lv_at hl 2 rfl) ?_
      refine pf_X7_16 E N K0 P S dX7_costs_38 (fun H locs P S => ?_)
      refine lv_aload_n E.hx E.hb dX7_costs_41 rfl (lv_at hl 1 rfl) ?_
      refine lv_iload_n E.hx E.hb dX7_costs_42 rfl (lv_at hl 3 rfl) ?_
      refine pf_X7_19 E N K0 P S dX7_costs_43 (fun H locs P S => ?_)
      refine lv_aload_n E.hx E.hb dX7_costs_46 rfl (lv_at hl 1 rfl) ?_
      refine lv_iload_n E.hx E.hb dX7_costs_47 rfl (lv_at hl 0 rfl) ?_
      obtain ⟨q_7, e_8, h⟩ := obind h
      refine iv_X7_126 E N K0 P S e_8 (by decide) hl.1 (Nat.le_of_ble_eq_true rfl) dX7_costs_48 (fun H locs P S => ?_)
      cases h
      exact W.iret E.hx E.hb E.hr (fun t ht _ => ⟨rfl, by rw [ht]; exact P, S.F ht⟩) S.2.2 dX7_costs_51 E.hk
    · rw [if_pos c_4] at h
      exact w_X7_costs_J25 E K0 N P S h (lv_sub hl [0] rfl)
theorem c_X7_costs (l : Launch) {H : Heap} {D : va_G} {cyI : ClassId} {ad : Nat → Nat} {I : Nat → Int32} {A : Nat → Nat → Int32} (N : AdN 16 ad) (P : va_P D classes (mw cyI ad I A) H) (x1 x2 : Int32) {out : Int32 × (Nat → Int32) × (Nat → Nat → Int32)} (h : B_X7_costs I A x1 x2 = some out) : MRW l yX7_costs cX7_costs 4 (some .int) 5 [.ref (ad 0), .int x1, .int x2] H (KM D cyI) (InN 16 ad) (some (.int out.1)) (fun H1 => va_P D classes (mw cyI ad out.2.1 out.2.2) H1) := by
  refine Mof (own := RX7) (by decide +kernel) rfl rfl ?_
  intro p e s m args below meth c ls E hH K0 hl
  subst hH
  exact w_X7_costs E K0 N P va_S.rf h hl
theorem ds_X7_costs : Dsc yX7_costs 2 := ⟨by decide +kernel, by decide +kernel, by decide +kernel⟩
end
section
variable {p : Program} {l : Launch} {e : Env} {s : State} {m : MethodId} {args : Array Value} {below : List Frame} {meth : Method} {c : Code} {D : va_G} {cyI : ClassId} {ad : Nat → Nat}
def B_X7_isDirection  (x0 : Int32) : Int32 := (B_X7_in x0 0 14)
theorem nb_B_X7_isDirection  {x0 : Int32} : narrow .boolean (.int (B_X7_isDirection  x0)) = .int (B_X7_isDirection  x0) := by
  unfold B_X7_isDirection
  exact nb_B_X7_in
set_option maxHeartbeats 4000000 in
set_option maxRecDepth 100000 in
theorem w_X7_isDirection (E : EX p s m args meth c cX7_isDirection 1 RX7 (some .boolean)) (K0 : KM D cyI s s.heap)  {x0 : Int32} {out : Int32} (h : B_X7_isDirection  x0 = out) {ls : Array Slot} (hl : lv_has ls 1 [(0, .int x0)]) : W p l e (rmL 1) s m args below meth c s.heap [] 0 0 (MQ below (vp_Si (fun z => z = out)) args s 0 0 (fun _ => False)) (F0 m 0 ls []) := by
  unfold B_X7_isDirection at h
  refine lv_iload_n E.hx E.hb dX7_isDirection_0 rfl (lv_at hl 0 rfl) ?_
  refine lv_iconst (v := 0) E.hx E.hb dX7_isDirection_1 (by decide) ?_
  refine lv_bipush (v := 14) E.hx E.hb dX7_isDirection_2 (by decide) ?_
  refine iv_X7_92 (ad := fun i => i) E K0 va_S.rf (by decide) hl.1 (Nat.le_of_ble_eq_true rfl) dX7_isDirection_4 ?_
  exact W.zret E.hx E.hb E.hr (nb_B_X7_in) (fun t ht _ => ⟨_, rfl, h, ht⟩) (fun q hq => nomatch hq) dX7_isDirection_7 E.hk
theorem c_X7_isDirection (l : Launch) {H : Heap} {D : va_G} {cyI : ClassId} {ad : Nat → Nat} (x0 : Int32) : MRO l yX7_isDirection cX7_isDirection 1 (some .boolean) 1 [.int x0] H (KM D cyI) (B_X7_isDirection  x0) := by
  refine Mof (own := RX7) (by decide +kernel) rfl rfl ?_
  intro p e s m args below meth c ls E hH K0 hl
  subst hH
  exact w_X7_isDirection E K0  rfl hl
theorem ds_X7_isDirection : Dsc yX7_isDirection 1 := ⟨by decide +kernel, by decide +kernel, by decide +kernel⟩
end
section
variable {p : Program} {l : Launch} {e : Env} {R : Room} {s : State} {m : MethodId} {args : Array Value} {below : List Frame} {meth : Method} {c : Code} {H : Heap} {locs : List Loc} {cells slots : Nat} {Q : State → Prop} {cc : ByteArray} {nL pc : Nat} {ret : Option FieldType} {ls : Array Slot} {rest : List Value} {D : va_G} {cyI : ClassId} {ad : Nat → Nat} {I : Nat → Int32} {A : Nat → Nat → Int32}
theorem iv_X7_129 (E : EX p s m args meth c cc nL RX7 ret) (K0 : KM D cyI s s.heap) (S : va_S (InN 16 ad) s.heap H locs) {a0 : Int32} (hR : RmOk R cells slots 1 1) (hls : ls.size = nL) (hro : (rest.map fun v => v.category).sum ≤ 8) (hdg : decode cc pc = .ok (.invokestatic 129, 3)) (kk : W p l e R s m args below meth c H locs cells slots Q (F0 m (pc + 3) ls (.int (B_X7_isDirection a0) :: rest))) : W p l e R s m args below meth c H locs cells slots Q (F0 m pc ls (.int a0 :: rest)) :=
  cs_ro E (c_X7_isDirection l (H := H) (D := D) (cyI := cyI) (ad := ad) a0 ) (gS kML_X7_129 kST_X7_isDirection kIN_X7 kCO_X7_isDirection) rfl ds_X7_isDirection rfl KM_blind (fun U _ hW => KM.warm hW K0) hR hls rfl hro hdg kk
end
section
variable {p : Program} {l : Launch} {e : Env} {s : State} {m : MethodId} {args : Array Value} {below : List Frame} {meth : Method} {c : Code} {D : va_G} {cyI : ClassId} {ad : Nat → Nat} {I : Nat → Int32} {A : Nat → Nat → Int32}
def B_X7_turn (I : Nat → Int32) (A : Nat → Nat → Int32) (x1 x2 x3 : Int32) : Option (Int32 × (Nat → Int32) × (Nat → Nat → Int32)) := if (B_X7_isCell ((va_up I 0 0)) A x1 x2) = 0 then ((B_X7_stop ((va_up I 0 0)) A 1).bind fun q_16 => some (q_16.1, q_16.2.1, q_16.2.2)) else (if (B_X7_isDirection x3) = 0 then ((B_X7_stop ((va_up I 0 0)) A 2).bind fun q_14 => some (q_14.1, q_14.2.1, q_14.2.2)) else ((rd (A 1) 144 ((B_X7_cell x1 x2))).bind fun v_3 => if v_3 = 1 then ((B_X7_stop ((va_up I 0 0)) A 3).bind fun q_12 => some (q_12.1, q_12.2.1, q_12.2.2)) else ((B_X7_all ((va_up I 0 0)) A ).bind fun r_6 => (wr (A 0) 144 ((B_X7_cell x1 x2)) x3).bind fun g_8 => (B_X7_worked ((va_up I 0 0)) ((va_up A 0 g_8)) r_6).bind fun q_10 => some (q_10.1, q_10.2.1, q_10.2.2))))
set_option maxHeartbeats 4000000 in
set_option maxRecDepth 100000 in
theorem w_X7_turn (E : EX p s m args meth c cX7_turn 5 RX7 (some .int)) (K0 : KM D cyI s s.heap) (N : AdN 16 ad) {H : Heap} {locs : List Loc} (P : va_P D classes (mw cyI ad I A) H) (S : va_S (InN 16 ad) s.heap H locs)  {x1 x2 x3 : Int32} {out : Int32 × (Nat → Int32) × (Nat → Nat → Int32)} (h : B_X7_turn I A x1 x2 x3 = some out) {ls : Array Slot} (hl : lv_has ls 5 [(0, .ref (ad 0)), (1, .int x1), (2, .int x2), (3, .int x3)]) : W p l e (rmL 5) s m args below meth c H locs 0 0 (MQ below (Qrw (InN 16 ad) (some (.int out.1)) (fun H1 => va_P D classes (mw cyI ad out.2.1 out.2.2) H1)) args s 0 0 (InN 16 ad)) (F0 m 0 ls []) := by
  unfold B_X7_turn at h
  refine lv_aload_n E.hx E.hb dX7_turn_0 rfl (lv_at hl 0 rfl) ?_
  refine lv_iconst (v := 0) E.hx E.hb dX7_turn_1 (by decide) ?_
  refine pf_X7_89 E N K0 P S dX7_turn_2 (fun H locs P S => ?_)
  refine lv_aload_n E.hx E.hb dX7_turn_5 rfl (lv_at hl 0 rfl) ?_
  refine lv_iload_n E.hx E.hb dX7_turn_6 rfl (lv_at hl 1 rfl) ?_
  refine lv_iload_n E.hx E.hb dX7_turn_7 rfl (lv_at hl 2 rfl) ?_
  refine iv_X7_106 (ad := ad) E K0 P S (by decide) hl.1 (Nat.le_of_ble_eq_true rfl) dX7_turn_8 ?_
  refine lv_if_ne (tgt := 20) E.hx E.hb dX7_turn_11 (by decide) (fun c_1 => ?_) (fun c_1 => ?_)
  · rw [if_neg c_1] at h
    refine lv_iload_n E.hx E.hb dX7_turn_20 rfl (lv_at hl 3 rfl) ?_
    refine iv_X7_129 (ad := ad) E K0 S (by decide) hl.1 (Nat.le_of_ble_eq_true rfl) dX7_turn_21 ?_
    refine lv_if_ne (tgt := 33) E.hx E.hb dX7_turn_24 (by decide) (fun c_2 => ?_) (fun c_2 => ?_)
    · rw [if_neg c_2] at h
      refine lv_aload_n E.hx E.hb dX7_turn_33 rfl (lv_at hl 0 rfl) ?_
      refine gf_X7_26 E K0 P dX7_turn_34 ?_
      refine lv_iload_n E.hx E.hb dX7_turn_37 rfl (lv_at hl 1 rfl) ?_
      refine lv_iload_n E.hx E.hb dX7_turn_38 rfl (lv_at hl 2 rfl) ?_
      refine iv_X7_100 (ad := ad) E K0 S (by decide) hl.1 (Nat.le_of_ble_eq_true rfl) dX7_turn_39 ?_
      obtain ⟨v_3, e_4, h⟩ := obind h
      refine al_1 E K0 P e_4 dX7_turn_42 ?_
      refine lv_iconst (v := 1) E.hx E.hb dX7_turn_43 (by decide) ?_
      refine lv_icmp_ne (tgt := 53) E.hx E.hb dX7_turn_44 (by decide) (fun c_5 => ?_) (fun c_5 => ?_)
      · rw [if_neg c_5] at h
        refine lv_aload_n E.hx E.hb dX7_turn_53 rfl (lv_at hl 0 rfl) ?_
        obtain ⟨r_6, e_7, h⟩ := obind h
        refine iv_X7_118 (ad := ad) E K0 P S e_7 (by decide) hl.1 (Nat.le_of_ble_eq_true rfl) dX7_turn_54 ?_
        refine lv_istore (lv' := [(4, .int r_6), (0, .ref (ad 0)), (1, .int x1), (2, .int x2), (3, .int x3)]) E.hx E.hb dX7_turn_57 hl (by decide) rfl (fun ls hl => ?_)
        refine lv_aload_n E.hx E.hb dX7_turn_59 rfl (lv_at hl 1 rfl) ?_
        refine gf_X7_22 E K0 P dX7_turn_60 ?_
        refine lv_iload_n E.hx E.hb dX7_turn_63 rfl (lv_at hl 2 rfl) ?_
        refine lv_iload_n E.hx E.hb dX7_turn_64 rfl (lv_at hl 3 rfl) ?_
        refine iv_X7_100 (ad := ad) E K0 S (by decide) hl.1 (Nat.le_of_ble_eq_true rfl) dX7_turn_65 ?_
        refine lv_iload_n E.hx E.hb dX7_turn_68 rfl (lv_at hl 4 rfl) ?_
        obtain ⟨g_8, e_9, h⟩ := obind h
        refine as_0 E N K0 P S e_9 dX7_turn_69 (fun H locs P S => ?_)
        refine lv_aload_n E.hx E.hb dX7_turn_70 rfl (lv_at hl 1 rfl) ?_
        refine lv_iload E.hx E.hb dX7_turn_71 (lv_at hl 0 rfl) ?_
        obtain ⟨q_10, e_11, h⟩ := obind h
        refine iv_X7_126 E N K0 P S e_11 (by decide) hl.1 (Nat.le_of_ble_eq_true rfl) dX7_turn_73 (fun H locs P S => ?_)
        cases h
        exact W.iret E.hx E.hb E.hr (fun t ht _ => ⟨rfl, by rw [ht]; exact P, S.F ht⟩) S.2.2 dX7_turn_76 E.hk
      · rw [if_pos c_5] at h
        refine lv_aload_n E.hx E.hb dX7_turn_47 rfl (lv_at hl 0 rfl) ?_
        refine lv_iconst (v := 3) E.hx E.hb dX7_turn_48 (by decide) ?_
        obtain ⟨q_12, e_13, h⟩ := obind h
        refine iv_X7_122 E N K0 P S e_13 (by decide) hl.1 (Nat.le_of_ble_eq_true rfl) dX7_turn_49 (fun H locs P S => ?_)
        cases h
        exact W.iret E.hx E.hb E.hr (fun t ht _ => ⟨rfl, by rw [ht]; exact P, S.F ht⟩) S.2.2 dX7_turn_52 E.hk
    · rw [if_pos c_2] at h
      refine lv_aload_n E.hx E.hb dX7_turn_27 rfl (lv_at hl 0 rfl) ?_
      refine lv_iconst (v := 2) E.hx E.hb dX7_turn_28 (by decide) ?_
      obtain ⟨q_14, e_15, h⟩ := obind h
      refine iv_X7_122 E N K0 P S e_15 (by decide) hl.1 (Nat.le_of_ble_eq_true rfl) dX7_turn_29 (fun H locs P S => ?_)
      cases h
      exact W.iret E.hx E.hb E.hr (fun t ht _ => ⟨rfl, by rw [ht]; exact P, S.F ht⟩) S.2.2 dX7_turn_32 E.hk
  · rw [if_pos c_1] at h
    refine lv_aload_n E.hx E.hb dX7_turn_14 rfl (lv_at hl 0 rfl) ?_
    refine lv_iconst (v := 1) E.hx E.hb dX7_turn_15 (by decide) ?_
    obtain ⟨q_16, e_17, h⟩ := obind h
    refine iv_X7_122 E N K0 P S e_17 (by decide) hl.1 (Nat.le_of_ble_eq_true rfl) dX7_turn_16 (fun H locs P S => ?_)
    cases h
    exact W.iret E.hx E.hb E.hr (fun t ht _ => ⟨rfl, by rw [ht]; exact P, S.F ht⟩) S.2.2 dX7_turn_19 E.hk
theorem c_X7_turn (l : Launch) {H : Heap} {D : va_G} {cyI : ClassId} {ad : Nat → Nat} {I : Nat → Int32} {A : Nat → Nat → Int32} (N : AdN 16 ad) (P : va_P D classes (mw cyI ad I A) H) (x1 x2 x3 : Int32) {out : Int32 × (Nat → Int32) × (Nat → Nat → Int32)} (h : B_X7_turn I A x1 x2 x3 = some out) : MRW l yX7_turn cX7_turn 5 (some .int) 5 [.ref (ad 0), .int x1, .int x2, .int x3] H (KM D cyI) (InN 16 ad) (some (.int out.1)) (fun H1 => va_P D classes (mw cyI ad out.2.1 out.2.2) H1) := by
  refine Mof (own := RX7) (by decide +kernel) rfl rfl ?_
  intro p e s m args below meth c ls E hH K0 hl
  subst hH
  exact w_X7_turn E K0 N P va_S.rf h hl
theorem ds_X7_turn : Dsc yX7_turn 3 := ⟨by decide +kernel, by decide +kernel, by decide +kernel⟩
end
section
variable {p : Program} {l : Launch} {e : Env} {s : State} {m : MethodId} {args : Array Value} {below : List Frame} {meth : Method} {c : Code} {D : va_G} {cyI : ClassId} {ad : Nat → Nat} {I : Nat → Int32} {A : Nat → Nat → Int32}
def B_X7_anchor_J48  (I : Nat → Int32) (A : Nat → Nat → Int32)  : Option (Int32 × (Nat → Int32) × (Nat → Nat → Int32)) := (B_X7_stop I A 2).bind fun q_3 => some (q_3.1, q_3.2.1, q_3.2.2)
set_option maxHeartbeats 4000000 in
set_option maxRecDepth 100000 in
theorem w_X7_anchor_J48 (E : EX p s m args meth c cX7_anchor 8 RX7 (some .int)) (K0 : KM D cyI s s.heap) (N : AdN 16 ad) {H : Heap} {locs : List Loc} (P : va_P D classes (mw cyI ad I A) H) (S : va_S (InN 16 ad) s.heap H locs) {out : Int32 × (Nat → Int32) × (Nat → Nat → Int32)} (h : B_X7_anchor_J48  I A  = some out) {ls : Array Slot} (hl : lv_has ls 8 [(0, .ref (ad 0))]) : W p l e (rmL 5) s m args below meth c H locs 0 0 (MQ below (Qrw (InN 16 ad) (some (.int out.1)) (fun H1 => va_P D classes (mw cyI ad out.2.1 out.2.2) H1)) args s 0 0 (InN 16 ad)) (F0 m 48 ls []) := by
  unfold B_X7_anchor_J48 at h
  refine lv_aload_n E.hx E.hb dX7_anchor_48 rfl (lv_at hl 0 rfl) ?_
  refine lv_iconst (v := 2) E.hx E.hb dX7_anchor_49 (by decide) ?_
  obtain ⟨q_3, e_4, h⟩ := obind h
  refine iv_X7_122 E N K0 P S e_4 (by decide) hl.1 (Nat.le_of_ble_eq_true rfl) dX7_anchor_50 (fun H locs P S => ?_)
  cases h
  exact W.iret E.hx E.hb E.hr (fun t ht _ => ⟨rfl, by rw [ht]; exact P, S.F ht⟩) S.2.2 dX7_anchor_53 E.hk
def B_X7_anchor_J116  (I : Nat → Int32) (A : Nat → Nat → Int32) (x6 t1 t2 : Int32) : Option (Int32 × (Nat → Int32) × (Nat → Nat → Int32)) := (wr (A 0) 144 t1 t2).bind fun g_18 => (B_X7_worked I ((va_up A 0 g_18)) x6).bind fun q_20 => some (q_20.1, q_20.2.1, q_20.2.2)
set_option maxHeartbeats 4000000 in
set_option maxRecDepth 100000 in
theorem w_X7_anchor_J116 (E : EX p s m args meth c cX7_anchor 8 RX7 (some .int)) (K0 : KM D cyI s s.heap) (N : AdN 16 ad) {H : Heap} {locs : List Loc} (P : va_P D classes (mw cyI ad I A) H) (S : va_S (InN 16 ad) s.heap H locs) {x6 t1 t2 : Int32} {out : Int32 × (Nat → Int32) × (Nat → Nat → Int32)} (h : B_X7_anchor_J116  I A x6 t1 t2 = some out) {ls : Array Slot} (hl : lv_has ls 8 [(0, .ref (ad 0)), (6, .int x6)]) : W p l e (rmL 5) s m args below meth c H locs 0 0 (MQ below (Qrw (InN 16 ad) (some (.int out.1)) (fun H1 => va_P D classes (mw cyI ad out.2.1 out.2.2) H1)) args s 0 0 (InN 16 ad)) (F0 m 116 ls [.int t2, .int t1, .ref (ad 1)]) := by
  unfold B_X7_anchor_J116 at h
  obtain ⟨g_18, e_19, h⟩ := obind h
  refine as_0 E N K0 P S e_19 dX7_anchor_116 (fun H locs P S => ?_)
  refine lv_aload_n E.hx E.hb dX7_anchor_117 rfl (lv_at hl 0 rfl) ?_
  refine lv_iload E.hx E.hb dX7_anchor_118 (lv_at hl 1 rfl) ?_
  obtain ⟨q_20, e_21, h⟩ := obind h
  refine iv_X7_126 E N K0 P S e_21 (by decide) hl.1 (Nat.le_of_ble_eq_true rfl) dX7_anchor_120 (fun H locs P S => ?_)
  cases h
  exact W.iret E.hx E.hb E.hr (fun t ht _ => ⟨rfl, by rw [ht]; exact P, S.F ht⟩) S.2.2 dX7_anchor_123 E.hk
def B_X7_anchor (I : Nat → Int32) (A : Nat → Nat → Int32) (x1 x2 x3 x4 x5 : Int32) : Option (Int32 × (Nat → Int32) × (Nat → Nat → Int32)) := if (B_X7_isCell ((va_up I 0 0)) A x1 x2) = 0 then ((B_X7_stop ((va_up I 0 0)) A 1).bind fun q_22 => some (q_22.1, q_22.2.1, q_22.2.2)) else (if (B_X7_in x3 0 2) = 0 then B_X7_anchor_J48  ((va_up I 0 0)) A  else (if (B_X7_isDirection x4) = 0 then B_X7_anchor_J48  ((va_up I 0 0)) A  else (if (B_X7_in x5 1 100) = 0 then B_X7_anchor_J48  ((va_up I 0 0)) A  else ((B_X7_all ((va_up I 0 0)) A ).bind fun r_7 => (wr (A 1) 144 ((B_X7_cell x1 x2)) x3).bind fun g_9 => (wr (((va_up A 1 g_9)) 2) 144 ((B_X7_cell x1 x2)) x4).bind fun g_11 => (wr (((va_up ((va_up A 1 g_9)) 2 g_11)) 3) 144 ((B_X7_cell x1 x2)) x5).bind fun g_13 => if x3 = 1 then B_X7_anchor_J116  ((va_up I 0 0)) ((va_up ((va_up ((va_up A 1 g_9)) 2 g_11)) 3 g_13)) r_7 ((B_X7_cell x1 x2)) x4 else ((rd (((va_up ((va_up ((va_up A 1 g_9)) 2 g_11)) 3 g_13)) 0) 144 ((B_X7_cell x1 x2))).bind fun v_16 => B_X7_anchor_J116  ((va_up I 0 0)) ((va_up ((va_up ((va_up A 1 g_9)) 2 g_11)) 3 g_13)) r_7 ((B_X7_cell x1 x2)) v_16)))))
set_option maxHeartbeats 4000000 in
set_option maxRecDepth 100000 in
theorem w_X7_anchor (E : EX p s m args meth c cX7_anchor 8 RX7 (some .int)) (K0 : KM D cyI s s.heap) (N : AdN 16 ad) {H : Heap} {locs : List Loc} (P : va_P D classes (mw cyI ad I A) H) (S : va_S (InN 16 ad) s.heap H locs)  {x1 x2 x3 x4 x5 : Int32} {out : Int32 × (Nat → Int32) × (Nat → Nat → Int32)} (h : B_X7_anchor I A x1 x2 x3 x4 x5 = some out) {ls : Array Slot} (hl : lv_has ls 8 [(0, .ref (ad 0)), (1, .int x1), (2, .int x2), (3, .int x3), (4, .int x4), (5, .int x5)]) : W p l e (rmL 5) s m args below meth c H locs 0 0 (MQ below (Qrw (InN 16 ad) (some (.int out.1)) (fun H1 => va_P D classes (mw cyI ad out.2.1 out.2.2) H1)) args s 0 0 (InN 16 ad)) (F0 m 0 ls []) := by
  unfold B_X7_anchor at h
  refine lv_aload_n E.hx E.hb dX7_anchor_0 rfl (lv_at hl 0 rfl) ?_
  refine lv_iconst (v := 0) E.hx E.hb dX7_anchor_1 (by decide) ?_
  refine pf_X7_89 E N K0 P S dX7_anchor_2 (fun H locs P S => ?_)
  refine lv_aload_n E.hx E.hb dX7_anchor_5 rfl (lv_at hl 0 rfl) ?_
  refine lv_iload_n E.hx E.hb dX7_anchor_6 rfl (lv_at hl 1 rfl) ?_
  refine lv_iload_n E.hx E.hb dX7_anchor_7 rfl (lv_at hl 2 rfl) ?_
  refine iv_X7_106 (ad := ad) E K0 P S (by decide) hl.1 (Nat.le_of_ble_eq_true rfl) dX7_anchor_8 ?_
  refine lv_if_ne (tgt := 20) E.hx E.hb dX7_anchor_11 (by decide) (fun c_1 => ?_) (fun c_1 => ?_)
  · rw [if_neg c_1] at h
    refine lv_iload_n E.hx E.hb dX7_anchor_20 rfl (lv_at hl 3 rfl) ?_
    refine lv_iconst (v := 0) E.hx E.hb dX7_anchor_21 (by decide) ?_
    refine lv_iconst (v := 2) E.hx E.hb dX7_anchor_22 (by decide) ?_
    refine iv_X7_92 (ad := ad) E K0 S (by decide) hl.1 (Nat.le_of_ble_eq_true rfl) dX7_anchor_23 ?_
    refine lv_if_eq (tgt := 48) E.hx E.hb dX7_anchor_26 (by decide) (fun c_2 => ?_) (fun c_2 => ?_)
    · rw [if_pos c_2] at h
      exact w_X7_anchor_J48 E K0 N P S h (lv_sub hl [0] rfl)
    · rw [if_neg c_2] at h
      refine lv_iload E.hx E.hb dX7_anchor_29 (lv_at hl 4 rfl) ?_
      refine iv_X7_129 (ad := ad) E K0 S (by decide) hl.1 (Nat.le_of_ble_eq_true rfl) dX7_anchor_31 ?_
      refine lv_if_eq (tgt := 48) E.hx E.hb dX7_anchor_34 (by decide) (fun c_5 => ?_) (fun c_5 => ?_)
      · rw [if_pos c_5] at h
        exact w_X7_anchor_J48 E K0 N P S h (lv_sub hl [0] rfl)
      · rw [if_neg c_5] at h
        refine lv_iload E.hx E.hb dX7_anchor_37 (lv_at hl 5 rfl) ?_
        refine lv_iconst (v := 1) E.hx E.hb dX7_anchor_39 (by decide) ?_
        refine lv_bipush (v := 100) E.hx E.hb dX7_anchor_40 (by decide) ?_
        refine iv_X7_92 (ad := ad) E K0 S (by decide) hl.1 (Nat.le_of_ble_eq_true rfl) dX7_anchor_42 ?_
        refine lv_if_ne (tgt := 54) E.hx E.hb dX7_anchor_45 (by decide) (fun c_6 => ?_) (fun c_6 => ?_)
        · rw [if_neg c_6] at h
          refine lv_aload_n E.hx E.hb dX7_anchor_54 rfl (lv_at hl 0 rfl) ?_
          obtain ⟨r_7, e_8, h⟩ := obind h
          refine iv_X7_118 (ad := ad) E K0 P S e_8 (by decide) hl.1 (Nat.le_of_ble_eq_true rfl) dX7_anchor_55 ?_
          refine lv_istore (lv' := [(6, .int r_7), (0, .ref (ad 0)), (1, .int x1), (2, .int x2), (3, .int x3), (4, .int x4), (5, .int x5)]) E.hx E.hb dX7_anchor_58 hl (by decide) rfl (fun ls hl => ?_)
          refine lv_iload_n E.hx E.hb dX7_anchor_60 rfl (lv_at hl 2 rfl) ?_
          refine lv_iload_n E.hx E.hb dX7_anchor_61 rfl (lv_at hl 3 rfl) ?_
          refine iv_X7_100 (ad := ad) E K0 S (by decide) hl.1 (Nat.le_of_ble_eq_true rfl) dX7_anchor_62 ?_
          refine lv_istore (lv' := [(7, .int (B_X7_cell x1 x2)), (6, .int r_7), (0, .ref (ad 0)), (1, .int x1), (2, .int x2), (3, .int x3), (4, .int x4), (5, .int x5)]) E.hx E.hb dX7_anchor_65 hl (by decide) rfl (fun ls hl => ?_)
          refine lv_aload_n E.hx E.hb dX7_anchor_67 rfl (lv_at hl 2 rfl) ?_
          refine gf_X7_26 E K0 P dX7_anchor_68 ?_
          refine lv_iload E.hx E.hb dX7_anchor_71 (lv_at hl 0 rfl) ?_
          refine lv_iload_n E.hx E.hb dX7_anchor_73 rfl (lv_at hl 5 rfl) ?_
          obtain ⟨g_9, e_10, h⟩ := obind h
          refine as_1 E N K0 P S e_10 dX7_anchor_74 (fun H locs P S => ?_)
          refine lv_aload_n E.hx E.hb dX7_anchor_75 rfl (lv_at hl 2 rfl) ?_
          refine gf_X7_29 E K0 P dX7_anchor_76 ?_
          refine lv_iload E.hx E.hb dX7_anchor_79 (lv_at hl 0 rfl) ?_
          refine lv_iload E.hx E.hb dX7_anchor_81 (lv_at hl 6 rfl) ?_
          obtain ⟨g_11, e_12, h⟩ := obind h
          refine as_2 E N K0 P S e_12 dX7_anchor_83 (fun H locs P S => ?_)
          refine lv_aload_n E.hx E.hb dX7_anchor_84 rfl (lv_at hl 2 rfl) ?_
          refine gf_X7_32 E K0 P dX7_anchor_85 ?_
          refine lv_iload E.hx E.hb dX7_anchor_88 (lv_at hl 0 rfl) ?_
          refine lv_iload E.hx E.hb dX7_anchor_90 (lv_at hl 7 rfl) ?_
          obtain ⟨g_13, e_14, h⟩ := obind h
          refine as_3 E N K0 P S e_14 dX7_anchor_92 (fun H locs P S => ?_)
          refine lv_aload_n E.hx E.hb dX7_anchor_93 rfl (lv_at hl 2 rfl) ?_
          refine gf_X7_22 E K0 P dX7_anchor_94 ?_
          refine lv_iload E.hx E.hb dX7_anchor_97 (lv_at hl 0 rfl) ?_
          refine lv_iload_n E.hx E.hb dX7_anchor_99 rfl (lv_at hl 5 rfl) ?_
          refine lv_iconst (v := 1) E.hx E.hb dX7_anchor_100 (by decide) ?_
          refine lv_icmp_ne (tgt := 109) E.hx E.hb dX7_anchor_101 (by decide) (fun c_15 => ?_) (fun c_15 => ?_)
          · rw [if_neg c_15] at h
            refine lv_aload_n E.hx E.hb dX7_anchor_109 rfl (lv_at hl 2 rfl) ?_
            refine gf_X7_22 E K0 P dX7_anchor_110 ?_
            refine lv_iload E.hx E.hb dX7_anchor_113 (lv_at hl 0 rfl) ?_
            obtain ⟨v_16, e_17, h⟩ := obind h
            refine al_0 E K0 P e_17 dX7_anchor_115 ?_
            exact w_X7_anchor_J116 E K0 N P S h (lv_sub hl [2, 1] rfl)
          · rw [if_pos c_15] at h
            refine lv_iload E.hx E.hb dX7_anchor_104 (lv_at hl 6 rfl) ?_
            refine lv_goto (tgt := 116) E.hx E.hb dX7_anchor_106 (by decide) ?_
            exact w_X7_anchor_J116 E K0 N P S h (lv_sub hl [2, 1] rfl)
        · rw [if_pos c_6] at h
          exact w_X7_anchor_J48 E K0 N P S h (lv_sub hl [0] rfl)
  · rw [if_pos c_1] at h
    refine lv_aload_n E.hx E.hb dX7_anchor_14 rfl (lv_at hl 0 rfl) ?_
    refine lv_iconst (v := 1) E.hx E.hb dX7_anchor_15 (by decide) ?_
    obtain ⟨q_22, e_23, h⟩ := obind h
    refine iv_X7_122 E N K0 P S e_23 (by decide) hl.1 (Nat.le_of_ble_eq_true rfl) dX7_anchor_16 (fun H locs P S => ?_)
    cases h
    exact W.iret E.hx E.hb E.hr (fun t ht _ => ⟨rfl, by rw [ht]; exact P, S.F ht⟩) S.2.2 dX7_anchor_19 E.hk
theorem c_X7_anchor (l : Launch) {H : Heap} {D : va_G} {cyI : ClassId} {ad : Nat → Nat} {I : Nat → Int32} {A : Nat → Nat → Int32} (N : AdN 16 ad) (P : va_P D classes (mw cyI ad I A) H) (x1 x2 x3 x4 x5 : Int32) {out : Int32 × (Nat → Int32) × (Nat → Nat → Int32)} (h : B_X7_anchor I A x1 x2 x3 x4 x5 = some out) : MRW l yX7_anchor cX7_anchor 8 (some .int) 5 [.ref (ad 0), .int x1, .int x2, .int x3, .int x4, .int x5] H (KM D cyI) (InN 16 ad) (some (.int out.1)) (fun H1 => va_P D classes (mw cyI ad out.2.1 out.2.2) H1) := by
  refine Mof (own := RX7) (by decide +kernel) rfl rfl ?_
  intro p e s m args below meth c ls E hH K0 hl
  subst hH
  exact w_X7_anchor E K0 N P va_S.rf h hl
theorem ds_X7_anchor : Dsc yX7_anchor 5 := ⟨by decide +kernel, by decide +kernel, by decide +kernel⟩
end
section
variable {p : Program} {l : Launch} {e : Env} {s : State} {m : MethodId} {args : Array Value} {below : List Frame} {meth : Method} {c : Code} {D : va_G} {cyI : ClassId} {ad : Nat → Nat} {I : Nat → Int32} {A : Nat → Nat → Int32}
def B_X7_pixel_J59  (I : Nat → Int32) (A : Nat → Nat → Int32)  : Option (Int32 × (Nat → Int32) × (Nat → Nat → Int32)) := (B_X7_stop I A 2).bind fun q_3 => some (q_3.1, q_3.2.1, q_3.2.2)
set_option maxHeartbeats 4000000 in
set_option maxRecDepth 100000 in
theorem w_X7_pixel_J59 (E : EX p s m args meth c cX7_pixel 7 RX7 (some .int)) (K0 : KM D cyI s s.heap) (N : AdN 16 ad) {H : Heap} {locs : List Loc} (P : va_P D classes (mw cyI ad I A) H) (S : va_S (InN 16 ad) s.heap H locs) {out : Int32 × (Nat → Int32) × (Nat → Nat → Int32)} (h : B_X7_pixel_J59  I A  = some out) {ls : Array Slot} (hl : lv_has ls 7 [(0, .ref (ad 0))]) : W p l e (rmL 2) s m args below meth c H locs 0 0 (MQ below (Qrw (InN 16 ad) (some (.int out.1)) (fun H1 => va_P D classes (mw cyI ad out.2.1 out.2.2) H1)) args s 0 0 (InN 16 ad)) (F0 m 59 ls []) := by
  unfold B_X7_pixel_J59 at h
  refine lv_aload_n E.hx E.hb dX7_pixel_59 rfl (lv_at hl 0 rfl) ?_
  refine lv_iconst (v := 2) E.hx E.hb dX7_pixel_60 (by decide) ?_
  obtain ⟨q_3, e_4, h⟩ := obind h
  refine iv_X7_122 E N K0 P S e_4 (by decide) hl.1 (Nat.le_of_ble_eq_true rfl) dX7_pixel_61 (fun H locs P S => ?_)
  cases h
  exact W.iret E.hx E.hb E.hr (fun t ht _ => ⟨rfl, by rw [ht]; exact P, S.F ht⟩) S.2.2 dX7_pixel_64 E.hk
def B_X7_pixel_L84  (x1 x2 x3 x4 : Int32) : Nat → Int32 → Int32 → (Nat → Int32) → (Nat → Nat → Int32) → Option (Int32 × (Nat → Int32) × (Nat → Nat → Int32))
  | 0 => fun _ _ _ _ => none
  | n + 1 => fun x5 x6 I A => if (x3 * x4) ≤ x6 then some ((x5, I, A)) else (if x5 = 0 then (B_X7_pixel_L84 x1 x2 x3 x4 n) 0 (x6 + 1) I A else (if x3 = 0 then none else if x3 = 0 then none else (rd (A 4) 144 ((B_X7_cell ((x1 + (x6 - x6 / x3 * x3))) ((x2 + (x6 / x3)))))).bind fun v_12 => if v_12 = (-1) then (B_X7_pixel_L84 x1 x2 x3 x4 n) 1 (x6 + 1) I A else (B_X7_pixel_L84 x1 x2 x3 x4 n) 0 (x6 + 1) I A))
theorem B_X7_pixel_L84_s (I : Nat → Int32) (A : Nat → Nat → Int32) (x1 x2 x3 x4 x5 x6 : Int32) (n : Nat) : B_X7_pixel_L84  x1 x2 x3 x4 (n + 1) x5 x6 I A = if (x3 * x4) ≤ x6 then some ((x5, I, A)) else (if x5 = 0 then (B_X7_pixel_L84 x1 x2 x3 x4 n) 0 (x6 + 1) I A else (if x3 = 0 then none else if x3 = 0 then none else (rd (A 4) 144 ((B_X7_cell ((x1 + (x6 - x6 / x3 * x3))) ((x2 + (x6 / x3)))))).bind fun v_12 => if v_12 = (-1) then (B_X7_pixel_L84 x1 x2 x3 x4 n) 1 (x6 + 1) I A else (B_X7_pixel_L84 x1 x2 x3 x4 n) 0 (x6 + 1) I A)) := rfl
set_option maxHeartbeats 4000000 in
set_option maxRecDepth 100000 in
theorem w_X7_pixel_L84 (E : EX p s m args meth c cX7_pixel 7 RX7 (some .int)) (K0 : KM D cyI s s.heap) (N : AdN 16 ad) {x1 x2 x3 x4 : Int32} {out : Int32 × (Nat → Int32) × (Nat → Nat → Int32)} : ∀ (n : Nat) {x5 x6 : Int32} {I : Nat → Int32} {A : Nat → Nat → Int32} {H : Heap} {locs : List Loc} (P : va_P D classes (mw cyI ad I A) H) (S : va_S (InN 16 ad) s.heap H locs) {o : Int32 × (Nat → Int32) × (Nat → Nat → Int32)} (h : B_X7_pixel_L84  x1 x2 x3 x4 n x5 x6 I A = some o) {ls : Array Slot} (hl : lv_has ls 7 [(0, .ref (ad 0)), (1, .int x1), (2, .int x2), (3, .int x3), (4, .int x4), (5, .int x5), (6, .int x6)]) (kx : ∀ {H : Heap} {locs : List Loc} (_ : va_P D classes (mw cyI ad o.2.1 o.2.2) H) (_ : va_S (InN 16 ad) s.heap H locs) {ls : Array Slot}, lv_has ls 7 [(0, .ref (ad 0)), (1, .int x1), (2, .int x2), (3, .int x3), (4, .int x4), (5, .int o.1)] → W p l e (rmL 2) s m args below meth c H locs 0 0 (MQ below (Qrw (InN 16 ad) (some (.int out.1)) (fun H1 => va_P D classes (mw cyI ad out.2.1 out.2.2) H1)) args s 0 0 (InN 16 ad)) (F0 m 135 ls [])), W p l e (rmL 2) s m args below meth c H locs 0 0 (MQ below (Qrw (InN 16 ad) (some (.int out.1)) (fun H1 => va_P D classes (mw cyI ad out.2.1 out.2.2) H1)) args s 0 0 (InN 16 ad)) (F0 m 84 ls []) := by
  intro n
  induction n with
  | zero => intro x5 x6 I A H locs P S o h ls hl kx; exact nomatch (show none = some o from h)
  | succ n ih =>
    intro x5 x6 I A H locs P S o h ls hl kx
    rw [B_X7_pixel_L84_s] at h
    refine lv_iload E.hx E.hb dX7_pixel_84 (lv_at hl 6 rfl) ?_
    refine lv_iload_n E.hx E.hb dX7_pixel_86 rfl (lv_at hl 3 rfl) ?_
    refine lv_iload E.hx E.hb dX7_pixel_87 (lv_at hl 4 rfl) ?_
    refine lv_imul E.hx E.hb dX7_pixel_89 ?_
    refine lv_icmp_ge (tgt := 135) E.hx E.hb dX7_pixel_90 (by decide) (fun c_8 => ?_) (fun c_8 => ?_)
    · rw [if_pos c_8] at h
      cases h
      exact kx P S (lv_sub hl [0, 1, 2, 3, 4, 5] rfl)
    · rw [if_neg c_8] at h
      refine lv_iload E.hx E.hb dX7_pixel_93 (lv_at hl 5 rfl) ?_
      refine lv_if_eq (tgt := 126) E.hx E.hb dX7_pixel_95 (by decide) (fun c_9 => ?_) (fun c_9 => ?_)
      · rw [if_pos c_9] at h
        refine lv_iconst (v := 0) E.hx E.hb dX7_pixel_126 (by decide) ?_
        refine lv_istore (lv' := [(5, .int 0), (0, .ref (ad 0)), (1, .int x1), (2, .int x2), (3, .int x3), (4, .int x4), (6, .int x6)]) E.hx E.hb dX7_pixel_127 hl (by decide) rfl (fun ls hl => ?_)
        refine lv_iinc (v := x6 + 1) (lv' := [(6, .int (x6 + 1)), (5, .int 0), (0, .ref (ad 0)), (1, .int x1), (2, .int x2), (3, .int x3), (4, .int x4)]) E.hx E.hb dX7_pixel_129 hl (k := 6) rfl rfl (by decide) rfl (fun ls hl => ?_)
        refine lv_goto (tgt := 84) E.hx E.hb dX7_pixel_132 (by decide) ?_
        exact ih P S h (lv_sub hl [2, 3, 4, 5, 6, 1, 0] rfl) kx
      · rw [if_neg c_9] at h
        refine lv_aload_n E.hx E.hb dX7_pixel_98 rfl (lv_at hl 0 rfl) ?_
        refine gf_X7_35 E K0 P dX7_pixel_99 ?_
        refine lv_iload_n E.hx E.hb dX7_pixel_102 rfl (lv_at hl 1 rfl) ?_
        refine lv_iload E.hx E.hb dX7_pixel_103 (lv_at hl 6 rfl) ?_
        refine lv_iload_n E.hx E.hb dX7_pixel_105 rfl (lv_at hl 3 rfl) ?_
        by_cases c_10 : x3 = 0
        · rw [if_pos c_10] at h; exact nomatch h
        rw [if_neg c_10] at h
        refine lv_irem E.hx E.hb dX7_pixel_106 c_10 ?_
        refine lv_iadd E.hx E.hb dX7_pixel_107 ?_
        refine lv_iload_n E.hx E.hb dX7_pixel_108 rfl (lv_at hl 2 rfl) ?_
        refine lv_iload E.hx E.hb dX7_pixel_109 (lv_at hl 6 rfl) ?_
        refine lv_iload_n E.hx E.hb dX7_pixel_111 rfl (lv_at hl 3 rfl) ?_
        by_cases c_11 : x3 = 0
        · rw [if_pos c_11] at h; exact nomatch h
        rw [if_neg c_11] at h
        refine lv_idiv E.hx E.hb dX7_pixel_112 c_11 ?_
        refine lv_iadd E.hx E.hb dX7_pixel_113 ?_
        refine iv_X7_100 (ad := ad) E K0 S (by decide) hl.1 (Nat.le_of_ble_eq_true rfl) dX7_pixel_114 ?_
        obtain ⟨v_12, e_13, h⟩ := obind h
        refine al_4 E K0 P e_13 dX7_pixel_117 ?_
        refine lv_iconst (v := (-1)) E.hx E.hb dX7_pixel_118 (by decide) ?_
        refine lv_icmp_ne (tgt := 126) E.hx E.hb dX7_pixel_119 (by decide) (fun c_14 => ?_) (fun c_14 => ?_)
        · rw [if_neg c_14] at h
          refine lv_iconst (v := 0) E.hx E.hb dX7_pixel_126 (by decide) ?_
          refine lv_istore (lv' := [(5, .int 0), (0, .ref (ad 0)), (1, .int x1), (2, .int x2), (3, .int x3), (4, .int x4), (6, .int x6)]) E.hx E.hb dX7_pixel_127 hl (by decide) rfl (fun ls hl => ?_)
          refine lv_iinc (v := x6 + 1) (lv' := [(6, .int (x6 + 1)), (5, .int 0), (0, .ref (ad 0)), (1, .int x1), (2, .int x2), (3, .int x3), (4, .int x4)]) E.hx E.hb dX7_pixel_129 hl (k := 6) rfl rfl (by decide) rfl (fun ls hl => ?_)
          refine lv_goto (tgt := 84) E.hx E.hb dX7_pixel_132 (by decide) ?_
          exact ih P S h (lv_sub hl [2, 3, 4, 5, 6, 1, 0] rfl) kx
        · rw [if_pos c_14] at h
          refine lv_iconst (v := 1) E.hx E.hb dX7_pixel_122 (by decide) ?_
          refine lv_goto (tgt := 127) E.hx E.hb dX7_pixel_123 (by decide) ?_
          refine lv_istore (lv' := [(5, .int 1), (0, .ref (ad 0)), (1, .int x1), (2, .int x2), (3, .int x3), (4, .int x4), (6, .int x6)]) E.hx E.hb dX7_pixel_127 hl (by decide) rfl (fun ls hl => ?_)
          refine lv_iinc (v := x6 + 1) (lv' := [(6, .int (x6 + 1)), (5, .int 1), (0, .ref (ad 0)), (1, .int x1), (2, .int x2), (3, .int x3), (4, .int x4)]) E.hx E.hb dX7_pixel_129 hl (k := 6) rfl rfl (by decide) rfl (fun ls hl => ?_)
          refine lv_goto (tgt := 84) E.hx E.hb dX7_pixel_132 (by decide) ?_
          exact ih P S h (lv_sub hl [2, 3, 4, 5, 6, 1, 0] rfl) kx
def B_X7_pixel_L149  (x1 x2 x3 x4 : Int32) : Nat → Int32 → (Nat → Int32) → (Nat → Nat → Int32) → Option ((Nat → Int32) × (Nat → Nat → Int32))
  | 0 => fun _ _ _ => none
  | n + 1 => fun x6 I A => if (x3 * x4) ≤ x6 then some ((I, A)) else (if x3 = 0 then none else if x3 = 0 then none else (wr (A 4) 144 ((B_X7_cell ((x1 + (x6 - x6 / x3 * x3))) ((x2 + (x6 / x3))))) ((I 9))).bind fun g_21 => (B_X7_pixel_L149 x1 x2 x3 x4 n) (x6 + 1) I ((va_up A 4 g_21)))
theorem B_X7_pixel_L149_s (I : Nat → Int32) (A : Nat → Nat → Int32) (x1 x2 x3 x4 x6 : Int32) (n : Nat) : B_X7_pixel_L149  x1 x2 x3 x4 (n + 1) x6 I A = if (x3 * x4) ≤ x6 then some ((I, A)) else (if x3 = 0 then none else if x3 = 0 then none else (wr (A 4) 144 ((B_X7_cell ((x1 + (x6 - x6 / x3 * x3))) ((x2 + (x6 / x3))))) ((I 9))).bind fun g_21 => (B_X7_pixel_L149 x1 x2 x3 x4 n) (x6 + 1) I ((va_up A 4 g_21))) := rfl
set_option maxHeartbeats 4000000 in
set_option maxRecDepth 100000 in
theorem w_X7_pixel_L149 (E : EX p s m args meth c cX7_pixel 7 RX7 (some .int)) (K0 : KM D cyI s s.heap) (N : AdN 16 ad) {x1 x2 x3 x4 : Int32} {out : Int32 × (Nat → Int32) × (Nat → Nat → Int32)} : ∀ (n : Nat) {x6 : Int32} {I : Nat → Int32} {A : Nat → Nat → Int32} {H : Heap} {locs : List Loc} (P : va_P D classes (mw cyI ad I A) H) (S : va_S (InN 16 ad) s.heap H locs) {o : (Nat → Int32) × (Nat → Nat → Int32)} (h : B_X7_pixel_L149  x1 x2 x3 x4 n x6 I A = some o) {ls : Array Slot} (hl : lv_has ls 7 [(0, .ref (ad 0)), (1, .int x1), (2, .int x2), (3, .int x3), (4, .int x4), (6, .int x6)]) (kx : ∀ {H : Heap} {locs : List Loc} (_ : va_P D classes (mw cyI ad o.1 o.2) H) (_ : va_S (InN 16 ad) s.heap H locs) {ls : Array Slot}, lv_has ls 7 [(0, .ref (ad 0))] → W p l e (rmL 2) s m args below meth c H locs 0 0 (MQ below (Qrw (InN 16 ad) (some (.int out.1)) (fun H1 => va_P D classes (mw cyI ad out.2.1 out.2.2) H1)) args s 0 0 (InN 16 ad)) (F0 m 188 ls [])), W p l e (rmL 2) s m args below meth c H locs 0 0 (MQ below (Qrw (InN 16 ad) (some (.int out.1)) (fun H1 => va_P D classes (mw cyI ad out.2.1 out.2.2) H1)) args s 0 0 (InN 16 ad)) (F0 m 149 ls []) := by
  intro n
  induction n with
  | zero => intro x6 I A H locs P S o h ls hl kx; exact nomatch (show none = some o from h)
  | succ n ih =>
    intro x6 I A H locs P S o h ls hl kx
    rw [B_X7_pixel_L149_s] at h
    refine lv_iload E.hx E.hb dX7_pixel_149 (lv_at hl 5 rfl) ?_
    refine lv_iload_n E.hx E.hb dX7_pixel_151 rfl (lv_at hl 3 rfl) ?_
    refine lv_iload E.hx E.hb dX7_pixel_152 (lv_at hl 4 rfl) ?_
    refine lv_imul E.hx E.hb dX7_pixel_154 ?_
    refine lv_icmp_ge (tgt := 188) E.hx E.hb dX7_pixel_155 (by decide) (fun c_18 => ?_) (fun c_18 => ?_)
    · rw [if_pos c_18] at h
      cases h
      exact kx P S (lv_sub hl [0] rfl)
    · rw [if_neg c_18] at h
      refine lv_aload_n E.hx E.hb dX7_pixel_158 rfl (lv_at hl 0 rfl) ?_
      refine gf_X7_35 E K0 P dX7_pixel_159 ?_
      refine lv_iload_n E.hx E.hb dX7_pixel_162 rfl (lv_at hl 1 rfl) ?_
      refine lv_iload E.hx E.hb dX7_pixel_163 (lv_at hl 5 rfl) ?_
      refine lv_iload_n E.hx E.hb dX7_pixel_165 rfl (lv_at hl 3 rfl) ?_
      by_cases c_19 : x3 = 0
      · rw [if_pos c_19] at h; exact nomatch h
      rw [if_neg c_19] at h
      refine lv_irem E.hx E.hb dX7_pixel_166 c_19 ?_
      refine lv_iadd E.hx E.hb dX7_pixel_167 ?_
      refine lv_iload_n E.hx E.hb dX7_pixel_168 rfl (lv_at hl 2 rfl) ?_
      refine lv_iload E.hx E.hb dX7_pixel_169 (lv_at hl 5 rfl) ?_
      refine lv_iload_n E.hx E.hb dX7_pixel_171 rfl (lv_at hl 3 rfl) ?_
      by_cases c_20 : x3 = 0
      · rw [if_pos c_20] at h; exact nomatch h
      rw [if_neg c_20] at h
      refine lv_idiv E.hx E.hb dX7_pixel_172 c_20 ?_
      refine lv_iadd E.hx E.hb dX7_pixel_173 ?_
      refine iv_X7_100 (ad := ad) E K0 S (by decide) hl.1 (Nat.le_of_ble_eq_true rfl) dX7_pixel_174 ?_
      refine lv_aload_n E.hx E.hb dX7_pixel_177 rfl (lv_at hl 0 rfl) ?_
      refine gf_X7_71 E K0 P dX7_pixel_178 ?_
      obtain ⟨g_21, e_22, h⟩ := obind h
      refine as_4 E N K0 P S e_22 dX7_pixel_181 (fun H locs P S => ?_)
      refine lv_iinc (v := x6 + 1) (lv' := [(6, .int (x6 + 1)), (0, .ref (ad 0)), (1, .int x1), (2, .int x2), (3, .int x3), (4, .int x4)]) E.hx E.hb dX7_pixel_182 hl (k := 5) rfl rfl (by decide) rfl (fun ls hl => ?_)
      refine lv_goto (tgt := 149) E.hx E.hb dX7_pixel_185 (by decide) ?_
      exact ih P S h (lv_sub hl [1, 2, 3, 4, 5, 0] rfl) kx
def B_X7_pixel_J79  (I : Nat → Int32) (A : Nat → Nat → Int32) (x1 x2 x3 x4 t0 : Int32) : Option (Int32 × (Nat → Int32) × (Nat → Nat → Int32)) := (B_X7_pixel_L84  x1 x2 x3 x4 FU t0 0 I A).bind fun q_15 => if q_15.1 = 0 then ((B_X7_stop q_15.2.1 q_15.2.2 3).bind fun q_31 => some (q_31.1, q_31.2.1, q_31.2.2)) else ((B_X7_pixel_L149  x1 x2 x3 x4 FU 0 q_15.2.1 q_15.2.2).bind fun q_23 => (wr (q_23.2 5) 8 ((q_23.1 9)) 0).bind fun g_25 => (wr (((va_up q_23.2 5 g_25)) 6) 8 ((q_23.1 9)) 0).bind fun g_27 => (wr (((va_up ((va_up q_23.2 5 g_25)) 6 g_27)) 8) 8 ((q_23.1 9)) 0).bind fun g_29 => some (((((va_up q_23.1 9 (((q_23.1 9) + 1)))) 9) - 1), (va_up q_23.1 9 (((q_23.1 9) + 1))), (va_up ((va_up ((va_up q_23.2 5 g_25)) 6 g_27)) 8 g_29)))
set_option maxHeartbeats 4000000 in
set_option maxRecDepth 100000 in
theorem w_X7_pixel_J79 (E : EX p s m args meth c cX7_pixel 7 RX7 (some .int)) (K0 : KM D cyI s s.heap) (N : AdN 16 ad) {H : Heap} {locs : List Loc} (P : va_P D classes (mw cyI ad I A) H) (S : va_S (InN 16 ad) s.heap H locs) {x1 x2 x3 x4 t0 : Int32} {out : Int32 × (Nat → Int32) × (Nat → Nat → Int32)} (h : B_X7_pixel_J79  I A x1 x2 x3 x4 t0 = some out) {ls : Array Slot} (hl : lv_has ls 7 [(0, .ref (ad 0)), (1, .int x1), (2, .int x2), (3, .int x3), (4, .int x4)]) : W p l e (rmL 2) s m args below meth c H locs 0 0 (MQ below (Qrw (InN 16 ad) (some (.int out.1)) (fun H1 => va_P D classes (mw cyI ad out.2.1 out.2.2) H1)) args s 0 0 (InN 16 ad)) (F0 m 79 ls [.int t0]) := by
  unfold B_X7_pixel_J79 at h
  refine lv_istore (lv' := [(5, .int t0), (0, .ref (ad 0)), (1, .int x1), (2, .int x2), (3, .int x3), (4, .int x4)]) E.hx E.hb dX7_pixel_79 hl (by decide) rfl (fun ls hl => ?_)
  refine lv_iconst (v := 0) E.hx E.hb dX7_pixel_81 (by decide) ?_
  refine lv_istore (lv' := [(6, .int 0), (5, .int t0), (0, .ref (ad 0)), (1, .int x1), (2, .int x2), (3, .int x3), (4, .int x4)]) E.hx E.hb dX7_pixel_82 hl (by decide) rfl (fun ls hl => ?_)
  obtain ⟨q_15, e_16, h⟩ := obind h
  refine w_X7_pixel_L84 E K0 N FU P S e_16 (lv_sub hl [2, 3, 4, 5, 6, 1, 0] rfl) (fun {H locs} P S {ls} hl => ?_)
  refine lv_iload E.hx E.hb dX7_pixel_135 (lv_at hl 5 rfl) ?_
  refine lv_if_ne (tgt := 146) E.hx E.hb dX7_pixel_137 (by decide) (fun c_17 => ?_) (fun c_17 => ?_)
  · rw [if_neg c_17] at h
    refine lv_iconst (v := 0) E.hx E.hb dX7_pixel_146 (by decide) ?_
    refine lv_istore (lv' := [(6, .int 0), (0, .ref (ad 0)), (1, .int x1), (2, .int x2), (3, .int x3), (4, .int x4), (5, .int q_15.1)]) E.hx E.hb dX7_pixel_147 hl (by decide) rfl (fun ls hl => ?_)
    obtain ⟨q_23, e_24, h⟩ := obind h
    refine w_X7_pixel_L149 E K0 N FU P S e_24 (lv_sub hl [1, 2, 3, 4, 5, 0] rfl) (fun {H locs} P S {ls} hl => ?_)
    refine lv_aload_n E.hx E.hb dX7_pixel_188 rfl (lv_at hl 0 rfl) ?_
    refine gf_X7_38 E K0 P dX7_pixel_189 ?_
    refine lv_aload_n E.hx E.hb dX7_pixel_192 rfl (lv_at hl 0 rfl) ?_
    refine gf_X7_71 E K0 P dX7_pixel_193 ?_
    refine lv_iconst (v := 0) E.hx E.hb dX7_pixel_196 (by decide) ?_
    obtain ⟨g_25, e_26, h⟩ := obind h
    refine as_5 E N K0 P S e_26 dX7_pixel_197 (fun H locs P S => ?_)
    refine lv_aload_n E.hx E.hb dX7_pixel_198 rfl (lv_at hl 0 rfl) ?_
    refine gf_X7_41 E K0 P dX7_pixel_199 ?_
    refine lv_aload_n E.hx E.hb dX7_pixel_202 rfl (lv_at hl 0 rfl) ?_
    refine gf_X7_71 E K0 P dX7_pixel_203 ?_
    refine lv_iconst (v := 0) E.hx E.hb dX7_pixel_206 (by decide) ?_
    obtain ⟨g_27, e_28, h⟩ := obind h
    refine as_6 E N K0 P S e_28 dX7_pixel_207 (fun H locs P S => ?_)
    refine lv_aload_n E.hx E.hb dX7_pixel_208 rfl (lv_at hl 0 rfl) ?_
    refine gf_X7_47 E K0 P dX7_pixel_209 ?_
    refine lv_aload_n E.hx E.hb dX7_pixel_212 rfl (lv_at hl 0 rfl) ?_
    refine gf_X7_71 E K0 P dX7_pixel_213 ?_
    refine lv_iconst (v := 0) E.hx E.hb dX7_pixel_216 (by decide) ?_
    obtain ⟨g_29, e_30, h⟩ := obind h
    refine as_8 E N K0 P S e_30 dX7_pixel_217 (fun H locs P S => ?_)
    refine lv_aload_n E.hx E.hb dX7_pixel_218 rfl (lv_at hl 0 rfl) ?_
    refine lv_dup E.hx E.hb dX7_pixel_219 rfl ?_
    refine gf_X7_71 E K0 P dX7_pixel_220 ?_
    refine lv_iconst (v := 1) E.hx E.hb dX7_pixel_223 (by decide) ?_
    refine lv_iadd E.hx E.hb dX7_pixel_224 ?_
    refine pf_X7_71 E N K0 P S dX7_pixel_225 (fun H locs P S => ?_)
    refine lv_aload_n E.hx E.hb dX7_pixel_228 rfl (lv_at hl 0 rfl) ?_
    refine gf_X7_71 E K0 P dX7_pixel_229 ?_
    refine lv_iconst (v := 1) E.hx E.hb dX7_pixel_232 (by decide) ?_
    refine lv_isub E.hx E.hb dX7_pixel_233 ?_
    cases h
    exact W.iret E.hx E.hb E.hr (fun t ht _ => ⟨rfl, by rw [ht]; exact P, S.F ht⟩) S.2.2 dX7_pixel_234 E.hk
  · rw [if_pos c_17] at h
    refine lv_aload_n E.hx E.hb dX7_pixel_140 rfl (lv_at hl 0 rfl) ?_
    refine lv_iconst (v := 3) E.hx E.hb dX7_pixel_141 (by decide) ?_
    obtain ⟨q_31, e_32, h⟩ := obind h
    refine iv_X7_122 E N K0 P S e_32 (by decide) hl.1 (Nat.le_of_ble_eq_true rfl) dX7_pixel_142 (fun H locs P S => ?_)
    cases h
    exact W.iret E.hx E.hb E.hr (fun t ht _ => ⟨rfl, by rw [ht]; exact P, S.F ht⟩) S.2.2 dX7_pixel_145 E.hk
def B_X7_pixel (I : Nat → Int32) (A : Nat → Nat → Int32) (x1 x2 x3 x4 : Int32) : Option (Int32 × (Nat → Int32) × (Nat → Nat → Int32)) := if (B_X7_isCell ((va_up I 0 0)) A x1 x2) = 0 then ((B_X7_stop ((va_up I 0 0)) A 1).bind fun q_33 => some (q_33.1, q_33.2.1, q_33.2.2)) else (if (B_X7_in x3 1 12) = 0 then B_X7_pixel_J59  ((va_up I 0 0)) A  else (if (B_X7_in x4 1 12) = 0 then B_X7_pixel_J59  ((va_up I 0 0)) A  else (if (B_X7_isCell ((va_up I 0 0)) A (((x1 + x3) - 1)) (((x2 + x4) - 1))) = 0 then B_X7_pixel_J59  ((va_up I 0 0)) A  else (if 8 ≤ (((va_up I 0 0)) 9) then B_X7_pixel_J79  ((va_up I 0 0)) A x1 x2 x3 x4 0 else B_X7_pixel_J79  ((va_up I 0 0)) A x1 x2 x3 x4 1))))
set_option maxHeartbeats 4000000 in
set_option maxRecDepth 100000 in
theorem w_X7_pixel (E : EX p s m args meth c cX7_pixel 7 RX7 (some .int)) (K0 : KM D cyI s s.heap) (N : AdN 16 ad) {H : Heap} {locs : List Loc} (P : va_P D classes (mw cyI ad I A) H) (S : va_S (InN 16 ad) s.heap H locs)  {x1 x2 x3 x4 : Int32} {out : Int32 × (Nat → Int32) × (Nat → Nat → Int32)} (h : B_X7_pixel I A x1 x2 x3 x4 = some out) {ls : Array Slot} (hl : lv_has ls 7 [(0, .ref (ad 0)), (1, .int x1), (2, .int x2), (3, .int x3), (4, .int x4)]) : W p l e (rmL 2) s m args below meth c H locs 0 0 (MQ below (Qrw (InN 16 ad) (some (.int out.1)) (fun H1 => va_P D classes (mw cyI ad out.2.1 out.2.2) H1)) args s 0 0 (InN 16 ad)) (F0 m 0 ls []) := by
  unfold B_X7_pixel at h
  refine lv_aload_n E.hx E.hb dX7_pixel_0 rfl (lv_at hl 0 rfl) ?_
  refine lv_iconst (v := 0) E.hx E.hb dX7_pixel_1 (by decide) ?_
  refine pf_X7_89 E N K0 P S dX7_pixel_2 (fun H locs P S => ?_)
  refine lv_aload_n E.hx E.hb dX7_pixel_5 rfl (lv_at hl 0 rfl) ?_
  refine lv_iload_n E.hx E.hb dX7_pixel_6 rfl (lv_at hl 1 rfl) ?_
  refine lv_iload_n E.hx E.hb dX7_pixel_7 rfl (lv_at hl 2 rfl) ?_
  refine iv_X7_106 (ad := ad) E K0 P S (by decide) hl.1 (Nat.le_of_ble_eq_true rfl) dX7_pixel_8 ?_
  refine lv_if_ne (tgt := 20) E.hx E.hb dX7_pixel_11 (by decide) (fun c_1 => ?_) (fun c_1 => ?_)
  · rw [if_neg c_1] at h
    refine lv_iload_n E.hx E.hb dX7_pixel_20 rfl (lv_at hl 3 rfl) ?_
    refine lv_iconst (v := 1) E.hx E.hb dX7_pixel_21 (by decide) ?_
    refine lv_bipush (v := 12) E.hx E.hb dX7_pixel_22 (by decide) ?_
    refine iv_X7_92 (ad := ad) E K0 S (by decide) hl.1 (Nat.le_of_ble_eq_true rfl) dX7_pixel_24 ?_
    refine lv_if_eq (tgt := 59) E.hx E.hb dX7_pixel_27 (by decide) (fun c_2 => ?_) (fun c_2 => ?_)
    · rw [if_pos c_2] at h
      exact w_X7_pixel_J59 E K0 N P S h (lv_sub hl [0] rfl)
    · rw [if_neg c_2] at h
      refine lv_iload E.hx E.hb dX7_pixel_30 (lv_at hl 4 rfl) ?_
      refine lv_iconst (v := 1) E.hx E.hb dX7_pixel_32 (by decide) ?_
      refine lv_bipush (v := 12) E.hx E.hb dX7_pixel_33 (by decide) ?_
      refine iv_X7_92 (ad := ad) E K0 S (by decide) hl.1 (Nat.le_of_ble_eq_true rfl) dX7_pixel_35 ?_
      refine lv_if_eq (tgt := 59) E.hx E.hb dX7_pixel_38 (by decide) (fun c_5 => ?_) (fun c_5 => ?_)
      · rw [if_pos c_5] at h
        exact w_X7_pixel_J59 E K0 N P S h (lv_sub hl [0] rfl)
      · rw [if_neg c_5] at h
        refine lv_aload_n E.hx E.hb dX7_pixel_41 rfl (lv_at hl 0 rfl) ?_
        refine lv_iload_n E.hx E.hb dX7_pixel_42 rfl (lv_at hl 1 rfl) ?_
        refine lv_iload_n E.hx E.hb dX7_pixel_43 rfl (lv_at hl 3 rfl) ?_
        refine lv_iadd E.hx E.hb dX7_pixel_44 ?_
        refine lv_iconst (v := 1) E.hx E.hb dX7_pixel_45 (by decide) ?_
        refine lv_isub E.hx E.hb dX7_pixel_46 ?_
        refine lv_iload_n E.hx E.hb dX7_pixel_47 rfl (lv_at hl 2 rfl) ?_
        refine lv_iload E.hx E.hb dX7_pixel_48 (lv_at hl 4 rfl) ?_
        refine lv_iadd E.hx E.hb dX7_pixel_50 ?_
        refine lv_iconst (v := 1) E.hx E.hb dX7_pixel_51 (by decide) ?_
        refine lv_isub E.hx E.hb dX7_pixel_52 ?_
        refine iv_X7_106 (ad := ad) E K0 P S (by decide) hl.1 (Nat.le_of_ble_eq_true rfl) dX7_pixel_53 ?_
        refine lv_if_ne (tgt := 65) E.hx E.hb dX7_pixel_56 (by decide) (fun c_6 => ?_) (fun c_6 => ?_)
        · rw [if_neg c_6] at h
          refine lv_aload_n E.hx E.hb dX7_pixel_65 rfl (lv_at hl 0 rfl) ?_
          refine gf_X7_71 E K0 P dX7_pixel_66 ?_
          refine lv_bipush (v := 8) E.hx E.hb dX7_pixel_69 (by decide) ?_
          refine lv_icmp_ge (tgt := 78) E.hx E.hb dX7_pixel_71 (by decide) (fun c_7 => ?_) (fun c_7 => ?_)
          · rw [if_pos c_7] at h
            refine lv_iconst (v := 0) E.hx E.hb dX7_pixel_78 (by decide) ?_
            exact w_X7_pixel_J79 E K0 N P S h (lv_sub hl [0, 1, 2, 3, 4] rfl)
          · rw [if_neg c_7] at h
            refine lv_iconst (v := 1) E.hx E.hb dX7_pixel_74 (by decide) ?_
            refine lv_goto (tgt := 79) E.hx E.hb dX7_pixel_75 (by decide) ?_
            exact w_X7_pixel_J79 E K0 N P S h (lv_sub hl [0, 1, 2, 3, 4] rfl)
        · rw [if_pos c_6] at h
          exact w_X7_pixel_J59 E K0 N P S h (lv_sub hl [0] rfl)
  · rw [if_pos c_1] at h
    refine lv_aload_n E.hx E.hb dX7_pixel_14 rfl (lv_at hl 0 rfl) ?_
    refine lv_iconst (v := 1) E.hx E.hb dX7_pixel_15 (by decide) ?_
    obtain ⟨q_33, e_34, h⟩ := obind h
    refine iv_X7_122 E N K0 P S e_34 (by decide) hl.1 (Nat.le_of_ble_eq_true rfl) dX7_pixel_16 (fun H locs P S => ?_)
    cases h
    exact W.iret E.hx E.hb E.hr (fun t ht _ => ⟨rfl, by rw [ht]; exact P, S.F ht⟩) S.2.2 dX7_pixel_19 E.hk
theorem c_X7_pixel (l : Launch) {H : Heap} {D : va_G} {cyI : ClassId} {ad : Nat → Nat} {I : Nat → Int32} {A : Nat → Nat → Int32} (N : AdN 16 ad) (P : va_P D classes (mw cyI ad I A) H) (x1 x2 x3 x4 : Int32) {out : Int32 × (Nat → Int32) × (Nat → Nat → Int32)} (h : B_X7_pixel I A x1 x2 x3 x4 = some out) : MRW l yX7_pixel cX7_pixel 7 (some .int) 2 [.ref (ad 0), .int x1, .int x2, .int x3, .int x4] H (KM D cyI) (InN 16 ad) (some (.int out.1)) (fun H1 => va_P D classes (mw cyI ad out.2.1 out.2.2) H1) := by
  refine Mof (own := RX7) (by decide +kernel) rfl rfl ?_
  intro p e s m args below meth c ls E hH K0 hl
  subst hH
  exact w_X7_pixel E K0 N P va_S.rf h hl
theorem ds_X7_pixel : Dsc yX7_pixel 4 := ⟨by decide +kernel, by decide +kernel, by decide +kernel⟩
end
section
variable {p : Program} {l : Launch} {e : Env} {s : State} {m : MethodId} {args : Array Value} {below : List Frame} {meth : Method} {c : Code} {D : va_G} {cyI : ClassId} {ad : Nat → Nat} {I : Nat → Int32} {A : Nat → Nat → Int32}
def B_X7_isPixel (I : Nat → Int32) (A : Nat → Nat → Int32) (x1 : Int32) : Int32 := (B_X7_in x1 0 (((I 9) - 1)))
theorem nb_B_X7_isPixel {I : Nat → Int32} {A : Nat → Nat → Int32} {x1 : Int32} : narrow .boolean (.int (B_X7_isPixel I A x1)) = .int (B_X7_isPixel I A x1) := by
  unfold B_X7_isPixel
  exact nb_B_X7_in
set_option maxHeartbeats 4000000 in
set_option maxRecDepth 100000 in
theorem w_X7_isPixel (E : EX p s m args meth c cX7_isPixel 2 RX7 (some .boolean)) (K0 : KM D cyI s s.heap) (P : va_P D classes (mw cyI ad I A) s.heap)  {x1 : Int32} {out : Int32} (h : B_X7_isPixel I A x1 = out) {ls : Array Slot} (hl : lv_has ls 2 [(0, .ref (ad 0)), (1, .int x1)]) : W p l e (rmL 1) s m args below meth c s.heap [] 0 0 (MQ below (vp_Si (fun z => z = out)) args s 0 0 (fun _ => False)) (F0 m 0 ls []) := by
  unfold B_X7_isPixel at h
  refine lv_iload_n E.hx E.hb dX7_isPixel_0 rfl (lv_at hl 1 rfl) ?_
  refine lv_iconst (v := 0) E.hx E.hb dX7_isPixel_1 (by decide) ?_
  refine lv_aload_n E.hx E.hb dX7_isPixel_2 rfl (lv_at hl 0 rfl) ?_
  refine gf_X7_71 E K0 P dX7_isPixel_3 ?_
  refine lv_iconst (v := 1) E.hx E.hb dX7_isPixel_6 (by decide) ?_
  refine lv_isub E.hx E.hb dX7_isPixel_7 ?_
  refine iv_X7_92 (ad := ad) E K0 va_S.rf (by decide) hl.1 (Nat.le_of_ble_eq_true rfl) dX7_isPixel_8 ?_
  exact W.zret E.hx E.hb E.hr (nb_B_X7_in) (fun t ht _ => ⟨_, rfl, h, ht⟩) (fun q hq => nomatch hq) dX7_isPixel_11 E.hk
theorem c_X7_isPixel (l : Launch) {H : Heap} {D : va_G} {cyI : ClassId} {ad : Nat → Nat} {I : Nat → Int32} {A : Nat → Nat → Int32} (P : va_P D classes (mw cyI ad I A) H) (x1 : Int32) : MRO l yX7_isPixel cX7_isPixel 2 (some .boolean) 1 [.ref (ad 0), .int x1] H (KM D cyI) (B_X7_isPixel I A x1) := by
  refine Mof (own := RX7) (by decide +kernel) rfl rfl ?_
  intro p e s m args below meth c ls E hH K0 hl
  subst hH
  exact w_X7_isPixel E K0 P rfl hl
theorem ds_X7_isPixel : Dsc yX7_isPixel 1 := ⟨by decide +kernel, by decide +kernel, by decide +kernel⟩
end
section
variable {p : Program} {l : Launch} {e : Env} {s : State} {m : MethodId} {args : Array Value} {below : List Frame} {meth : Method} {c : Code} {D : va_G} {cyI : ClassId} {ad : Nat → Nat} {I : Nat → Int32} {A : Nat → Nat → Int32}
def B_X7_driven (I : Nat → Int32) (A : Nat → Nat → Int32) (x1 x2 x3 : Int32) : Option (Int32 × (Nat → Int32) × (Nat → Nat → Int32)) := (B_X7_all I A ).bind fun r_1 => (wr (A 5) 8 x1 x2).bind fun g_3 => (wr (((va_up A 5 g_3)) 6) 8 x1 x3).bind fun g_5 => (B_X7_worked I ((va_up ((va_up A 5 g_3)) 6 g_5)) r_1).bind fun q_7 => some (q_7.1, q_7.2.1, q_7.2.2)
set_option maxHeartbeats 4000000 in
set_option maxRecDepth 100000 in
theorem w_X7_driven (E : EX p s m args meth c cX7_driven 5 RX7 (some .int)) (K0 : KM D cyI s s.heap) (N : AdN 16 ad) {H : Heap} {locs : List Loc} (P : va_P D classes (mw cyI ad I A) H) (S : va_S (InN 16 ad) s.heap H locs)  {x1 x2 x3 : Int32} {out : Int32 × (Nat → Int32) × (Nat → Nat → Int32)} (h : B_X7_driven I A x1 x2 x3 = some out) {ls : Array Slot} (hl : lv_has ls 5 [(0, .ref (ad 0)), (1, .int x1), (2, .int x2), (3, .int x3)]) : W p l e (rmL 5) s m args below meth c H locs 0 0 (MQ below (Qrw (InN 16 ad) (some (.int out.1)) (fun H1 => va_P D classes (mw cyI ad out.2.1 out.2.2) H1)) args s 0 0 (InN 16 ad)) (F0 m 0 ls []) := by
  unfold B_X7_driven at h
  refine lv_aload_n E.hx E.hb dX7_driven_0 rfl (lv_at hl 0 rfl) ?_
  obtain ⟨r_1, e_2, h⟩ := obind h
  refine iv_X7_118 (ad := ad) E K0 P S e_2 (by decide) hl.1 (Nat.le_of_ble_eq_true rfl) dX7_driven_1 ?_
  refine lv_istore (lv' := [(4, .int r_1), (0, .ref (ad 0)), (1, .int x1), (2, .int x2), (3, .int x3)]) E.hx E.hb dX7_driven_4 hl (by decide) rfl (fun ls hl => ?_)
  refine lv_aload_n E.hx E.hb dX7_driven_6 rfl (lv_at hl 1 rfl) ?_
  refine gf_X7_38 E K0 P dX7_driven_7 ?_
  refine lv_iload_n E.hx E.hb dX7_driven_10 rfl (lv_at hl 2 rfl) ?_
  refine lv_iload_n E.hx E.hb dX7_driven_11 rfl (lv_at hl 3 rfl) ?_
  obtain ⟨g_3, e_4, h⟩ := obind h
  refine as_5 E N K0 P S e_4 dX7_driven_12 (fun H locs P S => ?_)
  refine lv_aload_n E.hx E.hb dX7_driven_13 rfl (lv_at hl 1 rfl) ?_
  refine gf_X7_41 E K0 P dX7_driven_14 ?_
  refine lv_iload_n E.hx E.hb dX7_driven_17 rfl (lv_at hl 2 rfl) ?_
  refine lv_iload_n E.hx E.hb dX7_driven_18 rfl (lv_at hl 4 rfl) ?_
  obtain ⟨g_5, e_6, h⟩ := obind h
  refine as_6 E N K0 P S e_6 dX7_driven_19 (fun H locs P S => ?_)
  refine lv_aload_n E.hx E.hb dX7_driven_20 rfl (lv_at hl 1 rfl) ?_
  refine lv_iload E.hx E.hb dX7_driven_21 (lv_at hl 0 rfl) ?_
  obtain ⟨q_7, e_8, h⟩ := obind h
  refine iv_X7_126 E N K0 P S e_8 (by decide) hl.1 (Nat.le_of_ble_eq_true rfl) dX7_driven_23 (fun H locs P S => ?_)
  cases h
  exact W.iret E.hx E.hb E.hr (fun t ht _ => ⟨rfl, by rw [ht]; exact P, S.F ht⟩) S.2.2 dX7_driven_26 E.hk
theorem c_X7_driven (l : Launch) {H : Heap} {D : va_G} {cyI : ClassId} {ad : Nat → Nat} {I : Nat → Int32} {A : Nat → Nat → Int32} (N : AdN 16 ad) (P : va_P D classes (mw cyI ad I A) H) (x1 x2 x3 : Int32) {out : Int32 × (Nat → Int32) × (Nat → Nat → Int32)} (h : B_X7_driven I A x1 x2 x3 = some out) : MRW l yX7_driven cX7_driven 5 (some .int) 5 [.ref (ad 0), .int x1, .int x2, .int x3] H (KM D cyI) (InN 16 ad) (some (.int out.1)) (fun H1 => va_P D classes (mw cyI ad out.2.1 out.2.2) H1) := by
  refine Mof (own := RX7) (by decide +kernel) rfl rfl ?_
  intro p e s m args below meth c ls E hH K0 hl
  subst hH
  exact w_X7_driven E K0 N P va_S.rf h hl
theorem ds_X7_driven : Dsc yX7_driven 3 := ⟨by decide +kernel, by decide +kernel, by decide +kernel⟩
end
section
variable {p : Program} {l : Launch} {e : Env} {R : Room} {s : State} {m : MethodId} {args : Array Value} {below : List Frame} {meth : Method} {c : Code} {H : Heap} {locs : List Loc} {cells slots : Nat} {Q : State → Prop} {cc : ByteArray} {nL pc : Nat} {ret : Option FieldType} {ls : Array Slot} {rest : List Value} {D : va_G} {cyI : ClassId} {ad : Nat → Nat} {I : Nat → Int32} {A : Nat → Nat → Int32}
theorem iv_X7_133 (E : EX p s m args meth c cc nL RX7 ret) (K0 : KM D cyI s s.heap) (P : va_P D classes (mw cyI ad I A) H) (S : va_S (InN 16 ad) s.heap H locs) {a0 : Int32} (hR : RmOk R cells slots 1 2) (hls : ls.size = nL) (hro : (rest.map fun v => v.category).sum ≤ 8) (hdg : decode cc pc = .ok (.invokevirtual 133, 3)) (kk : W p l e R s m args below meth c H locs cells slots Q (F0 m (pc + 3) ls (.int (B_X7_isPixel I A a0) :: rest))) : W p l e R s m args below meth c H locs cells slots Q (F0 m pc ls (.int a0 :: .ref (ad 0) :: rest)) :=
  cv_ro E (c_X7_isPixel l P a0 ) (gV kML_X7_133 kIM_X7_isPixel kSE_X7_isPixel kIN_X7 kCO_X7_isPixel) rfl ds_X7_isPixel rfl KM_blind (fun U _ hW => KM.warm hW K0) (va_recv K0.k P (show classes[7]? = some (RX7, TX7, 27) from rfl) mw_g0) hR hls rfl hro hdg kk
end
section
variable {p : Program} {l : Launch} {e : Env} {R : Room} {s : State} {m : MethodId} {args : Array Value} {below : List Frame} {meth : Method} {c : Code} {H : Heap} {locs : List Loc} {cells slots : Nat} {Q : State → Prop} {cc : ByteArray} {nL pc : Nat} {ret : Option FieldType} {ls : Array Slot} {rest : List Value} {D : va_G} {cyI : ClassId} {ad : Nat → Nat} {I : Nat → Int32} {A : Nat → Nat → Int32}
theorem iv_X7_136 (E : EX p s m args meth c cc nL RX7 ret) (N : AdN 16 ad) (K0 : KM D cyI s s.heap) (P : va_P D classes (mw cyI ad I A) H) (S : va_S (InN 16 ad) s.heap H locs) {a0 a1 a2 : Int32} {v : Int32 × (Nat → Int32) × (Nat → Nat → Int32)} (hv : B_X7_driven I A a0 a1 a2 = some v) (hR : RmOk R cells slots 5 5) (hls : ls.size = nL) (hro : (rest.map fun v => v.category).sum ≤ 8) (hdg : decode cc pc = .ok (.invokevirtual 136, 3)) (kk : ∀ (H1 : Heap) (locs1 : List Loc), va_P D classes (mw cyI ad v.2.1 v.2.2) H1 → va_S (InN 16 ad) s.heap H1 locs1 → W p l e R s m args below meth c H1 locs1 cells slots Q (F0 m (pc + 3) ls (.int v.1 :: rest))) : W p l e R s m args below meth c H locs cells slots Q (F0 m pc ls (.int a2 :: .int a1 :: .int a0 :: .ref (ad 0) :: rest)) :=
  cv_rw E (c_X7_driven l N P a0 a1 a2 hv) (gV kML_X7_136 kIM_X7_driven kSE_X7_driven kIN_X7 kCO_X7_driven) rfl ds_X7_driven rfl KM_blind (fun U _ hW => KM.warm hW K0) S (va_recv K0.k P (show classes[7]? = some (RX7, TX7, 27) from rfl) mw_g0) hR hls rfl hro hdg kk
end
section
variable {p : Program} {l : Launch} {e : Env} {s : State} {m : MethodId} {args : Array Value} {below : List Frame} {meth : Method} {c : Code} {D : va_G} {cyI : ClassId} {ad : Nat → Nat} {I : Nat → Int32} {A : Nat → Nat → Int32}
def B_X7_drive_J36  (I : Nat → Int32) (A : Nat → Nat → Int32)  : Option (Int32 × (Nat → Int32) × (Nat → Nat → Int32)) := (B_X7_stop I A 2).bind fun q_3 => some (q_3.1, q_3.2.1, q_3.2.2)
set_option maxHeartbeats 4000000 in
set_option maxRecDepth 100000 in
theorem w_X7_drive_J36 (E : EX p s m args meth c cX7_drive 4 RX7 (some .int)) (K0 : KM D cyI s s.heap) (N : AdN 16 ad) {H : Heap} {locs : List Loc} (P : va_P D classes (mw cyI ad I A) H) (S : va_S (InN 16 ad) s.heap H locs) {out : Int32 × (Nat → Int32) × (Nat → Nat → Int32)} (h : B_X7_drive_J36  I A  = some out) {ls : Array Slot} (hl : lv_has ls 4 [(0, .ref (ad 0))]) : W p l e (rmL 6) s m args below meth c H locs 0 0 (MQ below (Qrw (InN 16 ad) (some (.int out.1)) (fun H1 => va_P D classes (mw cyI ad out.2.1 out.2.2) H1)) args s 0 0 (InN 16 ad)) (F0 m 36 ls []) := by
  unfold B_X7_drive_J36 at h
  refine lv_aload_n E.hx E.hb dX7_drive_36 rfl (lv_at hl 0 rfl) ?_
  refine lv_iconst (v := 2) E.hx E.hb dX7_drive_37 (by decide) ?_
  obtain ⟨q_3, e_4, h⟩ := obind h
  refine iv_X7_122 E N K0 P S e_4 (by decide) hl.1 (Nat.le_of_ble_eq_true rfl) dX7_drive_38 (fun H locs P S => ?_)
  cases h
  exact W.iret E.hx E.hb E.hr (fun t ht _ => ⟨rfl, by rw [ht]; exact P, S.F ht⟩) S.2.2 dX7_drive_41 E.hk
def B_X7_drive (I : Nat → Int32) (A : Nat → Nat → Int32) (x1 x2 x3 : Int32) : Option (Int32 × (Nat → Int32) × (Nat → Nat → Int32)) := if (B_X7_isPixel ((va_up I 0 0)) A x1) = 0 then ((B_X7_stop ((va_up I 0 0)) A 1).bind fun q_8 => some (q_8.1, q_8.2.1, q_8.2.2)) else (if (B_X7_isDirection x2) = 0 then B_X7_drive_J36  ((va_up I 0 0)) A  else (if (B_X7_in x3 0 100) = 0 then B_X7_drive_J36  ((va_up I 0 0)) A  else ((B_X7_driven ((va_up I 0 0)) A x1 x2 x3).bind fun q_6 => some (q_6.1, q_6.2.1, q_6.2.2))))
set_option maxHeartbeats 4000000 in
set_option maxRecDepth 100000 in
theorem w_X7_drive (E : EX p s m args meth c cX7_drive 4 RX7 (some .int)) (K0 : KM D cyI s s.heap) (N : AdN 16 ad) {H : Heap} {locs : List Loc} (P : va_P D classes (mw cyI ad I A) H) (S : va_S (InN 16 ad) s.heap H locs)  {x1 x2 x3 : Int32} {out : Int32 × (Nat → Int32) × (Nat → Nat → Int32)} (h : B_X7_drive I A x1 x2 x3 = some out) {ls : Array Slot} (hl : lv_has ls 4 [(0, .ref (ad 0)), (1, .int x1), (2, .int x2), (3, .int x3)]) : W p l e (rmL 6) s m args below meth c H locs 0 0 (MQ below (Qrw (InN 16 ad) (some (.int out.1)) (fun H1 => va_P D classes (mw cyI ad out.2.1 out.2.2) H1)) args s 0 0 (InN 16 ad)) (F0 m 0 ls []) := by
  unfold B_X7_drive at h
  refine lv_aload_n E.hx E.hb dX7_drive_0 rfl (lv_at hl 0 rfl) ?_
  refine lv_iconst (v := 0) E.hx E.hb dX7_drive_1 (by decide) ?_
  refine pf_X7_89 E N K0 P S dX7_drive_2 (fun H locs P S => ?_)
  refine lv_aload_n E.hx E.hb dX7_drive_5 rfl (lv_at hl 0 rfl) ?_
  refine lv_iload_n E.hx E.hb dX7_drive_6 rfl (lv_at hl 1 rfl) ?_
  refine iv_X7_133 (ad := ad) E K0 P S (by decide) hl.1 (Nat.le_of_ble_eq_true rfl) dX7_drive_7 ?_
  refine lv_if_ne (tgt := 19) E.hx E.hb dX7_drive_10 (by decide) (fun c_1 => ?_) (fun c_1 => ?_)
  · rw [if_neg c_1] at h
    refine lv_iload_n E.hx E.hb dX7_drive_19 rfl (lv_at hl 2 rfl) ?_
    refine iv_X7_129 (ad := ad) E K0 S (by decide) hl.1 (Nat.le_of_ble_eq_true rfl) dX7_drive_20 ?_
    refine lv_if_eq (tgt := 36) E.hx E.hb dX7_drive_23 (by decide) (fun c_2 => ?_) (fun c_2 => ?_)
    · rw [if_pos c_2] at h
      exact w_X7_drive_J36 E K0 N P S h (lv_sub hl [0] rfl)
    · rw [if_neg c_2] at h
      refine lv_iload_n E.hx E.hb dX7_drive_26 rfl (lv_at hl 3 rfl) ?_
      refine lv_iconst (v := 0) E.hx E.hb dX7_drive_27 (by decide) ?_
      refine lv_bipush (v := 100) E.hx E.hb dX7_drive_28 (by decide) ?_
      refine iv_X7_92 (ad := ad) E K0 S (by decide) hl.1 (Nat.le_of_ble_eq_true rfl) dX7_drive_30 ?_
      refine lv_if_ne (tgt := 42) E.hx E.hb dX7_drive_33 (by decide) (fun c_5 => ?_) (fun c_5 => ?_)
      · rw [if_neg c_5] at h
        refine lv_aload_n E.hx E.hb dX7_drive_42 rfl (lv_at hl 0 rfl) ?_
        refine lv_iload_n E.hx E.hb dX7_drive_43 rfl (lv_at hl 1 rfl) ?_
        refine lv_iload_n E.hx E.hb dX7_drive_44 rfl (lv_at hl 2 rfl) ?_
        refine lv_iload_n E.hx E.hb dX7_drive_45 rfl (lv_at hl 3 rfl) ?_
        obtain ⟨q_6, e_7, h⟩ := obind h
        refine iv_X7_136 E N K0 P S e_7 (by decide) hl.1 (Nat.le_of_ble_eq_true rfl) dX7_drive_46 (fun H locs P S => ?_)
        cases h
        exact W.iret E.hx E.hb E.hr (fun t ht _ => ⟨rfl, by rw [ht]; exact P, S.F ht⟩) S.2.2 dX7_drive_49 E.hk
      · rw [if_pos c_5] at h
        exact w_X7_drive_J36 E K0 N P S h (lv_sub hl [0] rfl)
  · rw [if_pos c_1] at h
    refine lv_aload_n E.hx E.hb dX7_drive_13 rfl (lv_at hl 0 rfl) ?_
    refine lv_iconst (v := 1) E.hx E.hb dX7_drive_14 (by decide) ?_
    obtain ⟨q_8, e_9, h⟩ := obind h
    refine iv_X7_122 E N K0 P S e_9 (by decide) hl.1 (Nat.le_of_ble_eq_true rfl) dX7_drive_15 (fun H locs P S => ?_)
    cases h
    exact W.iret E.hx E.hb E.hr (fun t ht _ => ⟨rfl, by rw [ht]; exact P, S.F ht⟩) S.2.2 dX7_drive_18 E.hk
theorem c_X7_drive (l : Launch) {H : Heap} {D : va_G} {cyI : ClassId} {ad : Nat → Nat} {I : Nat → Int32} {A : Nat → Nat → Int32} (N : AdN 16 ad) (P : va_P D classes (mw cyI ad I A) H) (x1 x2 x3 : Int32) {out : Int32 × (Nat → Int32) × (Nat → Nat → Int32)} (h : B_X7_drive I A x1 x2 x3 = some out) : MRW l yX7_drive cX7_drive 4 (some .int) 6 [.ref (ad 0), .int x1, .int x2, .int x3] H (KM D cyI) (InN 16 ad) (some (.int out.1)) (fun H1 => va_P D classes (mw cyI ad out.2.1 out.2.2) H1) := by
  refine Mof (own := RX7) (by decide +kernel) rfl rfl ?_
  intro p e s m args below meth c ls E hH K0 hl
  subst hH
  exact w_X7_drive E K0 N P va_S.rf h hl
theorem ds_X7_drive : Dsc yX7_drive 3 := ⟨by decide +kernel, by decide +kernel, by decide +kernel⟩
end
section
variable {p : Program} {l : Launch} {e : Env} {s : State} {m : MethodId} {args : Array Value} {below : List Frame} {meth : Method} {c : Code} {D : va_G} {cyI : ClassId} {ad : Nat → Nat} {I : Nat → Int32} {A : Nat → Nat → Int32}
def B_X7_program_J52  (I : Nat → Int32) (A : Nat → Nat → Int32)  : Option (Int32 × (Nat → Int32) × (Nat → Nat → Int32)) := (B_X7_stop I A 2).bind fun q_3 => some (q_3.1, q_3.2.1, q_3.2.2)
set_option maxHeartbeats 4000000 in
set_option maxRecDepth 100000 in
theorem w_X7_program_J52 (E : EX p s m args meth c cX7_program 5 RX7 (some .int)) (K0 : KM D cyI s s.heap) (N : AdN 16 ad) {H : Heap} {locs : List Loc} (P : va_P D classes (mw cyI ad I A) H) (S : va_S (InN 16 ad) s.heap H locs) {out : Int32 × (Nat → Int32) × (Nat → Nat → Int32)} (h : B_X7_program_J52  I A  = some out) {ls : Array Slot} (hl : lv_has ls 5 [(0, .ref (ad 0))]) : W p l e (rmL 2) s m args below meth c H locs 0 0 (MQ below (Qrw (InN 16 ad) (some (.int out.1)) (fun H1 => va_P D classes (mw cyI ad out.2.1 out.2.2) H1)) args s 0 0 (InN 16 ad)) (F0 m 52 ls []) := by
  unfold B_X7_program_J52 at h
  refine lv_aload_n E.hx E.hb dX7_program_52 rfl (lv_at hl 0 rfl) ?_
  refine lv_iconst (v := 2) E.hx E.hb dX7_program_53 (by decide) ?_
  obtain ⟨q_3, e_4, h⟩ := obind h
  refine iv_X7_122 E N K0 P S e_4 (by decide) hl.1 (Nat.le_of_ble_eq_true rfl) dX7_program_54 (fun H locs P S => ?_)
  cases h
  exact W.iret E.hx E.hb E.hr (fun t ht _ => ⟨rfl, by rw [ht]; exact P, S.F ht⟩) S.2.2 dX7_program_57 E.hk
def B_X7_program (I : Nat → Int32) (A : Nat → Nat → Int32) (x1 x2 x3 x4 : Int32) : Option (Int32 × (Nat → Int32) × (Nat → Nat → Int32)) := if (B_X7_isPixel ((va_up I 0 0)) A x1) = 0 then ((B_X7_stop ((va_up I 0 0)) A 1).bind fun q_19 => some (q_19.1, q_19.2.1, q_19.2.2)) else (if x2 ≤ (((va_up I 0 0)) 6) then B_X7_program_J52  ((va_up I 0 0)) A  else (if 2000 < x2 then B_X7_program_J52  ((va_up I 0 0)) A  else (if (B_X7_isDirection x3) = 0 then B_X7_program_J52  ((va_up I 0 0)) A  else (if (B_X7_in x4 0 100) = 0 then B_X7_program_J52  ((va_up I 0 0)) A  else (if (((va_up I 0 0)) 10) = 40 then ((B_X7_stop ((va_up I 0 0)) A 3).bind fun q_17 => some (q_17.1, q_17.2.1, q_17.2.2)) else ((wr (A 9) 40 ((((va_up I 0 0)) 10)) x1).bind fun g_9 => (wr (((va_up A 9 g_9)) 10) 40 ((((va_up I 0 0)) 10)) x2).bind fun g_11 => (wr (((va_up ((va_up A 9 g_9)) 10 g_11)) 11) 40 ((((va_up I 0 0)) 10)) x3).bind fun g_13 => (wr (((va_up ((va_up ((va_up A 9 g_9)) 10 g_11)) 11 g_13)) 12) 40 ((((va_up I 0 0)) 10)) x4).bind fun g_15 => some ((((va_up ((va_up I 0 0)) 10 (((((va_up I 0 0)) 10) + 1)))) 10), (va_up ((va_up I 0 0)) 10 (((((va_up I 0 0)) 10) + 1))), (va_up ((va_up ((va_up ((va_up A 9 g_9)) 10 g_11)) 11 g_13)) 12 g_15))))))))
set_option maxHeartbeats 4000000 in
set_option maxRecDepth 100000 in
theorem w_X7_program (E : EX p s m args meth c cX7_program 5 RX7 (some .int)) (K0 : KM D cyI s s.heap) (N : AdN 16 ad) {H : Heap} {locs : List Loc} (P : va_P D classes (mw cyI ad I A) H) (S : va_S (InN 16 ad) s.heap H locs)  {x1 x2 x3 x4 : Int32} {out : Int32 × (Nat → Int32) × (Nat → Nat → Int32)} (h : B_X7_program I A x1 x2 x3 x4 = some out) {ls : Array Slot} (hl : lv_has ls 5 [(0, .ref (ad 0)), (1, .int x1), (2, .int x2), (3, .int x3), (4, .int x4)]) : W p l e (rmL 2) s m args below meth c H locs 0 0 (MQ below (Qrw (InN 16 ad) (some (.int out.1)) (fun H1 => va_P D classes (mw cyI ad out.2.1 out.2.2) H1)) args s 0 0 (InN 16 ad)) (F0 m 0 ls []) := by
  unfold B_X7_program at h
  refine lv_aload_n E.hx E.hb dX7_program_0 rfl (lv_at hl 0 rfl) ?_
  refine lv_iconst (v := 0) E.hx E.hb dX7_program_1 (by decide) ?_
  refine pf_X7_89 E N K0 P S dX7_program_2 (fun H locs P S => ?_)
  refine lv_aload_n E.hx E.hb dX7_program_5 rfl (lv_at hl 0 rfl) ?_
  refine lv_iload_n E.hx E.hb dX7_program_6 rfl (lv_at hl 1 rfl) ?_
  refine iv_X7_133 (ad := ad) E K0 P S (by decide) hl.1 (Nat.le_of_ble_eq_true rfl) dX7_program_7 ?_
  refine lv_if_ne (tgt := 19) E.hx E.hb dX7_program_10 (by decide) (fun c_1 => ?_) (fun c_1 => ?_)
  · rw [if_neg c_1] at h
    refine lv_iload_n E.hx E.hb dX7_program_19 rfl (lv_at hl 2 rfl) ?_
    refine lv_aload_n E.hx E.hb dX7_program_20 rfl (lv_at hl 0 rfl) ?_
    refine gf_X7_80 E K0 P dX7_program_21 ?_
    refine lv_icmp_le (tgt := 52) E.hx E.hb dX7_program_24 (by decide) (fun c_2 => ?_) (fun c_2 => ?_)
    · rw [if_pos c_2] at h
      exact w_X7_program_J52 E K0 N P S h (lv_sub hl [0] rfl)
    · rw [if_neg c_2] at h
      refine lv_iload_n E.hx E.hb dX7_program_27 rfl (lv_at hl 2 rfl) ?_
      refine lv_sipush (v := 2000) E.hx E.hb dX7_program_28 (by decide) ?_
      refine lv_icmp_gt (tgt := 52) E.hx E.hb dX7_program_31 (by decide) (fun c_5 => ?_) (fun c_5 => ?_)
      · rw [if_pos c_5] at h
        exact w_X7_program_J52 E K0 N P S h (lv_sub hl [0] rfl)
      · rw [if_neg c_5] at h
        refine lv_iload_n E.hx E.hb dX7_program_34 rfl (lv_at hl 3 rfl) ?_
        refine iv_X7_129 (ad := ad) E K0 S (by decide) hl.1 (Nat.le_of_ble_eq_true rfl) dX7_program_35 ?_
        refine lv_if_eq (tgt := 52) E.hx E.hb dX7_program_38 (by decide) (fun c_6 => ?_) (fun c_6 => ?_)
        · rw [if_pos c_6] at h
          exact w_X7_program_J52 E K0 N P S h (lv_sub hl [0] rfl)
        · rw [if_neg c_6] at h
          refine lv_iload E.hx E.hb dX7_program_41 (lv_at hl 4 rfl) ?_
          refine lv_iconst (v := 0) E.hx E.hb dX7_program_43 (by decide) ?_
          refine lv_bipush (v := 100) E.hx E.hb dX7_program_44 (by decide) ?_
          refine iv_X7_92 (ad := ad) E K0 S (by decide) hl.1 (Nat.le_of_ble_eq_true rfl) dX7_program_46 ?_
          refine lv_if_ne (tgt := 58) E.hx E.hb dX7_program_49 (by decide) (fun c_7 => ?_) (fun c_7 => ?_)
          · rw [if_neg c_7] at h
            refine lv_aload_n E.hx E.hb dX7_program_58 rfl (lv_at hl 0 rfl) ?_
            refine gf_X7_74 E K0 P dX7_program_59 ?_
            refine lv_bipush (v := 40) E.hx E.hb dX7_program_62 (by decide) ?_
            refine lv_icmp_ne (tgt := 73) E.hx E.hb dX7_program_64 (by decide) (fun c_8 => ?_) (fun c_8 => ?_)
            · rw [if_neg c_8] at h
              refine lv_aload_n E.hx E.hb dX7_program_73 rfl (lv_at hl 0 rfl) ?_
              refine gf_X7_50 E K0 P dX7_program_74 ?_
              refine lv_aload_n E.hx E.hb dX7_program_77 rfl (lv_at hl 0 rfl) ?_
              refine gf_X7_74 E K0 P dX7_program_78 ?_
              refine lv_iload_n E.hx E.hb dX7_program_81 rfl (lv_at hl 1 rfl) ?_
              obtain ⟨g_9, e_10, h⟩ := obind h
              refine as_9 E N K0 P S e_10 dX7_program_82 (fun H locs P S => ?_)
              refine lv_aload_n E.hx E.hb dX7_program_83 rfl (lv_at hl 0 rfl) ?_
              refine gf_X7_53 E K0 P dX7_program_84 ?_
              refine lv_aload_n E.hx E.hb dX7_program_87 rfl (lv_at hl 0 rfl) ?_
              refine gf_X7_74 E K0 P dX7_program_88 ?_
              refine lv_iload_n E.hx E.hb dX7_program_91 rfl (lv_at hl 2 rfl) ?_
              obtain ⟨g_11, e_12, h⟩ := obind h
              refine as_10 E N K0 P S e_12 dX7_program_92 (fun H locs P S => ?_)
              refine lv_aload_n E.hx E.hb dX7_program_93 rfl (lv_at hl 0 rfl) ?_
              refine gf_X7_56 E K0 P dX7_program_94 ?_
              refine lv_aload_n E.hx E.hb dX7_program_97 rfl (lv_at hl 0 rfl) ?_
              refine gf_X7_74 E K0 P dX7_program_98 ?_
              refine lv_iload_n E.hx E.hb dX7_program_101 rfl (lv_at hl 3 rfl) ?_
              obtain ⟨g_13, e_14, h⟩ := obind h
              refine as_11 E N K0 P S e_14 dX7_program_102 (fun H locs P S => ?_)
              refine lv_aload_n E.hx E.hb dX7_program_103 rfl (lv_at hl 0 rfl) ?_
              refine gf_X7_59 E K0 P dX7_program_104 ?_
              refine lv_aload_n E.hx E.hb dX7_program_107 rfl (lv_at hl 0 rfl) ?_
              refine gf_X7_74 E K0 P dX7_program_108 ?_
              refine lv_iload E.hx E.hb dX7_program_111 (lv_at hl 4 rfl) ?_
              obtain ⟨g_15, e_16, h⟩ := obind h
              refine as_12 E N K0 P S e_16 dX7_program_113 (fun H locs P S => ?_)
              refine lv_aload_n E.hx E.hb dX7_program_114 rfl (lv_at hl 0 rfl) ?_
              refine lv_dup E.hx E.hb dX7_program_115 rfl ?_
              refine gf_X7_74 E K0 P dX7_program_116 ?_
              refine lv_iconst (v := 1) E.hx E.hb dX7_program_119 (by decide) ?_
              refine lv_iadd E.hx E.hb dX7_program_120 ?_
              refine pf_X7_74 E N K0 P S dX7_program_121 (fun H locs P S => ?_)
              refine lv_aload_n E.hx E.hb dX7_program_124 rfl (lv_at hl 0 rfl) ?_
              refine gf_X7_74 E K0 P dX7_program_125 ?_
              cases h
              exact W.iret E.hx E.hb E.hr (fun t ht _ => ⟨rfl, by rw [ht]; exact P, S.F ht⟩) S.2.2 dX7_program_128 E.hk
            · rw [if_pos c_8] at h
              refine lv_aload_n E.hx E.hb dX7_program_67 rfl (lv_at hl 0 rfl) ?_
              refine lv_iconst (v := 3) E.hx E.hb dX7_program_68 (by decide) ?_
              obtain ⟨q_17, e_18, h⟩ := obind h
              refine iv_X7_122 E N K0 P S e_18 (by decide) hl.1 (Nat.le_of_ble_eq_true rfl) dX7_program_69 (fun H locs P S => ?_)
              cases h
              exact W.iret E.hx E.hb E.hr (fun t ht _ => ⟨rfl, by rw [ht]; exact P, S.F ht⟩) S.2.2 dX7_program_72 E.hk
          · rw [if_pos c_7] at h
            exact w_X7_program_J52 E K0 N P S h (lv_sub hl [0] rfl)
  · rw [if_pos c_1] at h
    refine lv_aload_n E.hx E.hb dX7_program_13 rfl (lv_at hl 0 rfl) ?_
    refine lv_iconst (v := 1) E.hx E.hb dX7_program_14 (by decide) ?_
    obtain ⟨q_19, e_20, h⟩ := obind h
    refine iv_X7_122 E N K0 P S e_20 (by decide) hl.1 (Nat.le_of_ble_eq_true rfl) dX7_program_15 (fun H locs P S => ?_)
    cases h
    exact W.iret E.hx E.hb E.hr (fun t ht _ => ⟨rfl, by rw [ht]; exact P, S.F ht⟩) S.2.2 dX7_program_18 E.hk
theorem c_X7_program (l : Launch) {H : Heap} {D : va_G} {cyI : ClassId} {ad : Nat → Nat} {I : Nat → Int32} {A : Nat → Nat → Int32} (N : AdN 16 ad) (P : va_P D classes (mw cyI ad I A) H) (x1 x2 x3 x4 : Int32) {out : Int32 × (Nat → Int32) × (Nat → Nat → Int32)} (h : B_X7_program I A x1 x2 x3 x4 = some out) : MRW l yX7_program cX7_program 5 (some .int) 2 [.ref (ad 0), .int x1, .int x2, .int x3, .int x4] H (KM D cyI) (InN 16 ad) (some (.int out.1)) (fun H1 => va_P D classes (mw cyI ad out.2.1 out.2.2) H1) := by
  refine Mof (own := RX7) (by decide +kernel) rfl rfl ?_
  intro p e s m args below meth c ls E hH K0 hl
  subst hH
  exact w_X7_program E K0 N P va_S.rf h hl
theorem ds_X7_program : Dsc yX7_program 4 := ⟨by decide +kernel, by decide +kernel, by decide +kernel⟩
end
section
variable {p : Program} {l : Launch} {e : Env} {s : State} {m : MethodId} {args : Array Value} {below : List Frame} {meth : Method} {c : Code} {D : va_G} {cyI : ClassId} {ad : Nat → Nat} {I : Nat → Int32} {A : Nat → Nat → Int32}
def B_X7_driveAll_L4   : Nat → Int32 → Int32 → (Nat → Int32) → (Nat → Nat → Int32) → Option (Int32 × (Nat → Int32) × (Nat → Nat → Int32))
  | 0 => fun _ _ _ _ => none
  | n + 1 => fun x1 x2 I A => if (I 10) ≤ x2 then some ((x1, I, A)) else ((rd (A 10) 40 x2).bind fun v_2 => if v_2 = (I 6) then ((rd (A 9) 40 x2).bind fun v_21 => (rd (A 11) 40 x2).bind fun v_23 => (rd (A 12) 40 x2).bind fun v_25 => (B_X7_driven I A v_21 v_23 v_25).bind fun q_27 => (B_X7_driveAll_L4 n) x1 (x2 + 1) q_27.2.1 q_27.2.2) else ((rd (A 9) 40 x2).bind fun v_5 => (wr (A 9) 40 x1 v_5).bind fun g_7 => (rd (((va_up A 9 g_7)) 10) 40 x2).bind fun v_9 => (wr (((va_up A 9 g_7)) 10) 40 x1 v_9).bind fun g_11 => (rd (((va_up ((va_up A 9 g_7)) 10 g_11)) 11) 40 x2).bind fun v_13 => (wr (((va_up ((va_up A 9 g_7)) 10 g_11)) 11) 40 x1 v_13).bind fun g_15 => (rd (((va_up ((va_up ((va_up A 9 g_7)) 10 g_11)) 11 g_15)) 12) 40 x2).bind fun v_17 => (wr (((va_up ((va_up ((va_up A 9 g_7)) 10 g_11)) 11 g_15)) 12) 40 x1 v_17).bind fun g_19 => (B_X7_driveAll_L4 n) (x1 + 1) (x2 + 1) I ((va_up ((va_up ((va_up ((va_up A 9 g_7)) 10 g_11)) 11 g_15)) 12 g_19))))
theorem B_X7_driveAll_L4_s (I : Nat → Int32) (A : Nat → Nat → Int32) (x1 x2 : Int32) (n : Nat) : B_X7_driveAll_L4   (n + 1) x1 x2 I A = if (I 10) ≤ x2 then some ((x1, I, A)) else ((rd (A 10) 40 x2).bind fun v_2 => if v_2 = (I 6) then ((rd (A 9) 40 x2).bind fun v_21 => (rd (A 11) 40 x2).bind fun v_23 => (rd (A 12) 40 x2).bind fun v_25 => (B_X7_driven I A v_21 v_23 v_25).bind fun q_27 => (B_X7_driveAll_L4 n) x1 (x2 + 1) q_27.2.1 q_27.2.2) else ((rd (A 9) 40 x2).bind fun v_5 => (wr (A 9) 40 x1 v_5).bind fun g_7 => (rd (((va_up A 9 g_7)) 10) 40 x2).bind fun v_9 => (wr (((va_up A 9 g_7)) 10) 40 x1 v_9).bind fun g_11 => (rd (((va_up ((va_up A 9 g_7)) 10 g_11)) 11) 40 x2).bind fun v_13 => (wr (((va_up ((va_up A 9 g_7)) 10 g_11)) 11) 40 x1 v_13).bind fun g_15 => (rd (((va_up ((va_up ((va_up A 9 g_7)) 10 g_11)) 11 g_15)) 12) 40 x2).bind fun v_17 => (wr (((va_up ((va_up ((va_up A 9 g_7)) 10 g_11)) 11 g_15)) 12) 40 x1 v_17).bind fun g_19 => (B_X7_driveAll_L4 n) (x1 + 1) (x2 + 1) I ((va_up ((va_up ((va_up ((va_up A 9 g_7)) 10 g_11)) 11 g_15)) 12 g_19)))) := rfl
set_option maxHeartbeats 4000000 in
set_option maxRecDepth 100000 in
theorem w_X7_driveAll_L4 (E : EX p s m args meth c cX7_driveAll 3 RX7 none) (K0 : KM D cyI s s.heap) (N : AdN 16 ad) {out : (Nat → Int32) × (Nat → Nat → Int32)} : ∀ (n : Nat) {x1 x2 : Int32} {I : Nat → Int32} {A : Nat → Nat → Int32} {H : Heap} {locs : List Loc} (P : va_P D classes (mw cyI ad I A) H) (S : va_S (InN 16 ad) s.heap H locs) {o : Int32 × (Nat → Int32) × (Nat → Nat → Int32)} (h : B_X7_driveAll_L4   n x1 x2 I A = some o) {ls : Array Slot} (hl : lv_has ls 3 [(0, .ref (ad 0)), (1, .int x1), (2, .int x2)]) (kx : ∀ {H : Heap} {locs : List Loc} (_ : va_P D classes (mw cyI ad o.2.1 o.2.2) H) (_ : va_S (InN 16 ad) s.heap H locs) {ls : Array Slot}, lv_has ls 3 [(0, .ref (ad 0)), (1, .int o.1)] → W p l e (rmL 6) s m args below meth c H locs 0 0 (MQ below (Qrw (InN 16 ad) (none) (fun H1 => va_P D classes (mw cyI ad out.1 out.2) H1)) args s 0 0 (InN 16 ad)) (F0 m 108 ls [])), W p l e (rmL 6) s m args below meth c H locs 0 0 (MQ below (Qrw (InN 16 ad) (none) (fun H1 => va_P D classes (mw cyI ad out.1 out.2) H1)) args s 0 0 (InN 16 ad)) (F0 m 4 ls []) := by
  intro n
  induction n with
  | zero => intro x1 x2 I A H locs P S o h ls hl kx; exact nomatch (show none = some o from h)
  | succ n ih =>
    intro x1 x2 I A H locs P S o h ls hl kx
    rw [B_X7_driveAll_L4_s] at h
    refine lv_iload_n E.hx E.hb dX7_driveAll_4 rfl (lv_at hl 2 rfl) ?_
    refine lv_aload_n E.hx E.hb dX7_driveAll_5 rfl (lv_at hl 0 rfl) ?_
    refine gf_X7_74 E K0 P dX7_driveAll_6 ?_
    refine lv_icmp_ge (tgt := 108) E.hx E.hb dX7_driveAll_9 (by decide) (fun c_1 => ?_) (fun c_1 => ?_)
    · rw [if_pos c_1] at h
      cases h
      exact kx P S (lv_sub hl [0, 1] rfl)
    · rw [if_neg c_1] at h
      refine lv_aload_n E.hx E.hb dX7_driveAll_12 rfl (lv_at hl 0 rfl) ?_
      refine gf_X7_53 E K0 P dX7_driveAll_13 ?_
      refine lv_iload_n E.hx E.hb dX7_driveAll_16 rfl (lv_at hl 2 rfl) ?_
      obtain ⟨v_2, e_3, h⟩ := obind h
      refine al_10 E K0 P e_3 dX7_driveAll_17 ?_
      refine lv_aload_n E.hx E.hb dX7_driveAll_18 rfl (lv_at hl 0 rfl) ?_
      refine gf_X7_80 E K0 P dX7_driveAll_19 ?_
      refine lv_icmp_ne (tgt := 51) E.hx E.hb dX7_driveAll_22 (by decide) (fun c_4 => ?_) (fun c_4 => ?_)
      · rw [if_neg c_4] at h
        refine lv_aload_n E.hx E.hb dX7_driveAll_51 rfl (lv_at hl 0 rfl) ?_
        refine gf_X7_50 E K0 P dX7_driveAll_52 ?_
        refine lv_iload_n E.hx E.hb dX7_driveAll_55 rfl (lv_at hl 1 rfl) ?_
        refine lv_aload_n E.hx E.hb dX7_driveAll_56 rfl (lv_at hl 0 rfl) ?_
        refine gf_X7_50 E K0 P dX7_driveAll_57 ?_
        refine lv_iload_n E.hx E.hb dX7_driveAll_60 rfl (lv_at hl 2 rfl) ?_
        obtain ⟨v_5, e_6, h⟩ := obind h
        refine al_9 E K0 P e_6 dX7_driveAll_61 ?_
        obtain ⟨g_7, e_8, h⟩ := obind h
        refine as_9 E N K0 P S e_8 dX7_driveAll_62 (fun H locs P S => ?_)
        refine lv_aload_n E.hx E.hb dX7_driveAll_63 rfl (lv_at hl 0 rfl) ?_
        refine gf_X7_53 E K0 P dX7_driveAll_64 ?_
        refine lv_iload_n E.hx E.hb dX7_driveAll_67 rfl (lv_at hl 1 rfl) ?_
        refine lv_aload_n E.hx E.hb dX7_driveAll_68 rfl (lv_at hl 0 rfl) ?_
        refine gf_X7_53 E K0 P dX7_driveAll_69 ?_
        refine lv_iload_n E.hx E.hb dX7_driveAll_72 rfl (lv_at hl 2 rfl) ?_
        obtain ⟨v_9, e_10, h⟩ := obind h
        refine al_10 E K0 P e_10 dX7_driveAll_73 ?_
        obtain ⟨g_11, e_12, h⟩ := obind h
        refine as_10 E N K0 P S e_12 dX7_driveAll_74 (fun H locs P S => ?_)
        refine lv_aload_n E.hx E.hb dX7_driveAll_75 rfl (lv_at hl 0 rfl) ?_
        refine gf_X7_56 E K0 P dX7_driveAll_76 ?_
        refine lv_iload_n E.hx E.hb dX7_driveAll_79 rfl (lv_at hl 1 rfl) ?_
        refine lv_aload_n E.hx E.hb dX7_driveAll_80 rfl (lv_at hl 0 rfl) ?_
        refine gf_X7_56 E K0 P dX7_driveAll_81 ?_
        refine lv_iload_n E.hx E.hb dX7_driveAll_84 rfl (lv_at hl 2 rfl) ?_
        obtain ⟨v_13, e_14, h⟩ := obind h
        refine al_11 E K0 P e_14 dX7_driveAll_85 ?_
        obtain ⟨g_15, e_16, h⟩ := obind h
        refine as_11 E N K0 P S e_16 dX7_driveAll_86 (fun H locs P S => ?_)
        refine lv_aload_n E.hx E.hb dX7_driveAll_87 rfl (lv_at hl 0 rfl) ?_
        refine gf_X7_59 E K0 P dX7_driveAll_88 ?_
        refine lv_iload_n E.hx E.hb dX7_driveAll_91 rfl (lv_at hl 1 rfl) ?_
        refine lv_aload_n E.hx E.hb dX7_driveAll_92 rfl (lv_at hl 0 rfl) ?_
        refine gf_X7_59 E K0 P dX7_driveAll_93 ?_
        refine lv_iload_n E.hx E.hb dX7_driveAll_96 rfl (lv_at hl 2 rfl) ?_
        obtain ⟨v_17, e_18, h⟩ := obind h
        refine al_12 E K0 P e_18 dX7_driveAll_97 ?_
        obtain ⟨g_19, e_20, h⟩ := obind h
        refine as_12 E N K0 P S e_20 dX7_driveAll_98 (fun H locs P S => ?_)
        refine lv_iinc (v := x1 + 1) (lv' := [(1, .int (x1 + 1)), (0, .ref (ad 0)), (2, .int x2)]) E.hx E.hb dX7_driveAll_99 hl (k := 1) rfl rfl (by decide) rfl (fun ls hl => ?_)
        refine lv_iinc (v := x2 + 1) (lv' := [(2, .int (x2 + 1)), (1, .int (x1 + 1)), (0, .ref (ad 0))]) E.hx E.hb dX7_driveAll_102 hl (k := 2) rfl rfl (by decide) rfl (fun ls hl => ?_)
        refine lv_goto (tgt := 4) E.hx E.hb dX7_driveAll_105 (by decide) ?_
        exact ih P S h (lv_sub hl [2, 1, 0] rfl) kx
      · rw [if_pos c_4] at h
        refine lv_aload_n E.hx E.hb dX7_driveAll_25 rfl (lv_at hl 0 rfl) ?_
        refine lv_aload_n E.hx E.hb dX7_driveAll_26 rfl (lv_at hl 0 rfl) ?_
        refine gf_X7_50 E K0 P dX7_driveAll_27 ?_
        refine lv_iload_n E.hx E.hb dX7_driveAll_30 rfl (lv_at hl 2 rfl) ?_
        obtain ⟨v_21, e_22, h⟩ := obind h
        refine al_9 E K0 P e_22 dX7_driveAll_31 ?_
        refine lv_aload_n E.hx E.hb dX7_driveAll_32 rfl (lv_at hl 0 rfl) ?_
        refine gf_X7_56 E K0 P dX7_driveAll_33 ?_
        refine lv_iload_n E.hx E.hb dX7_driveAll_36 rfl (lv_at hl 2 rfl) ?_
        obtain ⟨v_23, e_24, h⟩ := obind h
        refine al_11 E K0 P e_24 dX7_driveAll_37 ?_
        refine lv_aload_n E.hx E.hb dX7_driveAll_38 rfl (lv_at hl 0 rfl) ?_
        refine gf_X7_59 E K0 P dX7_driveAll_39 ?_
        refine lv_iload_n E.hx E.hb dX7_driveAll_42 rfl (lv_at hl 2 rfl) ?_
        obtain ⟨v_25, e_26, h⟩ := obind h
        refine al_12 E K0 P e_26 dX7_driveAll_43 ?_
        obtain ⟨q_27, e_28, h⟩ := obind h
        refine iv_X7_136 E N K0 P S e_28 (by decide) hl.1 (Nat.le_of_ble_eq_true rfl) dX7_driveAll_44 (fun H locs P S => ?_)
        refine lv_pop E.hx E.hb dX7_driveAll_47 rfl ?_
        refine lv_goto (tgt := 102) E.hx E.hb dX7_driveAll_48 (by decide) ?_
        refine lv_iinc (v := x2 + 1) (lv' := [(2, .int (x2 + 1)), (0, .ref (ad 0)), (1, .int x1)]) E.hx E.hb dX7_driveAll_102 hl (k := 2) rfl rfl (by decide) rfl (fun ls hl => ?_)
        refine lv_goto (tgt := 4) E.hx E.hb dX7_driveAll_105 (by decide) ?_
        exact ih P S h (lv_sub hl [1, 2, 0] rfl) kx
def B_X7_driveAll (I : Nat → Int32) (A : Nat → Nat → Int32)  : Option ((Nat → Int32) × (Nat → Nat → Int32)) := (B_X7_driveAll_L4   FU 0 0 I A).bind fun q_29 => some ((va_up q_29.2.1 10 q_29.1), q_29.2.2)
set_option maxHeartbeats 4000000 in
set_option maxRecDepth 100000 in
theorem w_X7_driveAll (E : EX p s m args meth c cX7_driveAll 3 RX7 none) (K0 : KM D cyI s s.heap) (N : AdN 16 ad) {H : Heap} {locs : List Loc} (P : va_P D classes (mw cyI ad I A) H) (S : va_S (InN 16 ad) s.heap H locs)  {out : (Nat → Int32) × (Nat → Nat → Int32)} (h : B_X7_driveAll I A  = some out) {ls : Array Slot} (hl : lv_has ls 3 [(0, .ref (ad 0))]) : W p l e (rmL 6) s m args below meth c H locs 0 0 (MQ below (Qrw (InN 16 ad) (none) (fun H1 => va_P D classes (mw cyI ad out.1 out.2) H1)) args s 0 0 (InN 16 ad)) (F0 m 0 ls []) := by
  unfold B_X7_driveAll at h
  refine lv_iconst (v := 0) E.hx E.hb dX7_driveAll_0 (by decide) ?_
  refine lv_istore_n (lv' := [(1, .int 0), (0, .ref (ad 0))]) E.hx E.hb dX7_driveAll_1 rfl hl (by decide) rfl (fun ls hl => ?_)
  refine lv_iconst (v := 0) E.hx E.hb dX7_driveAll_2 (by decide) ?_
  refine lv_istore_n (lv' := [(2, .int 0), (1, .int 0), (0, .ref (ad 0))]) E.hx E.hb dX7_driveAll_3 rfl hl (by decide) rfl (fun ls hl => ?_)
  obtain ⟨q_29, e_30, h⟩ := obind h
  refine w_X7_driveAll_L4 E K0 N FU P S e_30 (lv_sub hl [2, 1, 0] rfl) (fun {H locs} P S {ls} hl => ?_)
  refine lv_aload_n E.hx E.hb dX7_driveAll_108 rfl (lv_at hl 0 rfl) ?_
  refine lv_iload_n E.hx E.hb dX7_driveAll_109 rfl (lv_at hl 1 rfl) ?_
  refine pf_X7_74 E N K0 P S dX7_driveAll_110 (fun H locs P S => ?_)
  cases h
  exact W.vret E.hx E.hb E.hr (fun t ht _ => ⟨rfl, by rw [ht]; exact P, S.F ht⟩) S.2.2 dX7_driveAll_113 E.hk
theorem c_X7_driveAll (l : Launch) {H : Heap} {D : va_G} {cyI : ClassId} {ad : Nat → Nat} {I : Nat → Int32} {A : Nat → Nat → Int32} (N : AdN 16 ad) (P : va_P D classes (mw cyI ad I A) H)  {out : (Nat → Int32) × (Nat → Nat → Int32)} (h : B_X7_driveAll I A  = some out) : MRW l yX7_driveAll cX7_driveAll 3 none 6 [.ref (ad 0)] H (KM D cyI) (InN 16 ad) none (fun H1 => va_P D classes (mw cyI ad out.1 out.2) H1) := by
  refine Mof (own := RX7) (by decide +kernel) rfl rfl ?_
  intro p e s m args below meth c ls E hH K0 hl
  subst hH
  exact w_X7_driveAll E K0 N P va_S.rf h hl
theorem ds_X7_driveAll : Dsc yX7_driveAll 0 := ⟨by decide +kernel, by decide +kernel, by decide +kernel⟩
end
section
variable {p : Program} {l : Launch} {e : Env} {R : Room} {s : State} {m : MethodId} {args : Array Value} {below : List Frame} {meth : Method} {c : Code} {H : Heap} {locs : List Loc} {cells slots : Nat} {Q : State → Prop} {cc : ByteArray} {nL pc : Nat} {ret : Option FieldType} {ls : Array Slot} {rest : List Value} {D : va_G} {cyI : ClassId} {ad : Nat → Nat} {I : Nat → Int32} {A : Nat → Nat → Int32}
theorem iv_X7_139 (E : EX p s m args meth c cc nL RX7 ret) (K0 : KM D cyI s s.heap) (P : va_P D classes (mw cyI ad I A) H) (S : va_S (InN 16 ad) s.heap H locs) {a0 a1 a2 : Int32} {v : Int32} (hv : B_X7_withAll I A a0 a1 a2 = some v) (hR : RmOk R cells slots 3 4) (hls : ls.size = nL) (hro : (rest.map fun v => v.category).sum ≤ 8) (hdg : decode cc pc = .ok (.invokevirtual 139, 3)) (kk : W p l e R s m args below meth c H locs cells slots Q (F0 m (pc + 3) ls (.int v :: rest))) : W p l e R s m args below meth c H locs cells slots Q (F0 m pc ls (.int a2 :: .int a1 :: .int a0 :: .ref (ad 0) :: rest)) :=
  cv_ro E (c_X7_withAll l P a0 a1 a2 hv) (gV kML_X7_139 kIM_X7_withAll kSE_X7_withAll kIN_X7 kCO_X7_withAll) rfl ds_X7_withAll rfl KM_blind (fun U _ hW => KM.warm hW K0) (va_recv K0.k P (show classes[7]? = some (RX7, TX7, 27) from rfl) mw_g0) hR hls rfl hro hdg kk
end
section
variable {p : Program} {l : Launch} {e : Env} {s : State} {m : MethodId} {args : Array Value} {below : List Frame} {meth : Method} {c : Code} {D : va_G} {cyI : ClassId} {ad : Nat → Nat} {I : Nat → Int32} {A : Nat → Nat → Int32}
def B_X7_relax_J127  (I : Nat → Int32) (A : Nat → Nat → Int32) (x3 x4 x7 x8 : Int32) : Option (Int32 × (Nat → Int32) × (Nat → Nat → Int32)) := (wr (A 0) 144 x3 x8).bind fun g_20 => some ((x4 - x7), I, (va_up A 0 g_20))
set_option maxHeartbeats 4000000 in
set_option maxRecDepth 100000 in
theorem w_X7_relax_J127 (E : EX p s m args meth c cX7_relax 9 RX7 (some .int)) (K0 : KM D cyI s s.heap) (N : AdN 16 ad) {H : Heap} {locs : List Loc} (P : va_P D classes (mw cyI ad I A) H) (S : va_S (InN 16 ad) s.heap H locs) {x3 x4 x7 x8 : Int32} {out : Int32 × (Nat → Int32) × (Nat → Nat → Int32)} (h : B_X7_relax_J127  I A x3 x4 x7 x8 = some out) {ls : Array Slot} (hl : lv_has ls 9 [(0, .ref (ad 0)), (3, .int x3), (4, .int x4), (7, .int x7), (8, .int x8)]) : W p l e (rmL 4) s m args below meth c H locs 0 0 (MQ below (Qrw (InN 16 ad) (some (.int out.1)) (fun H1 => va_P D classes (mw cyI ad out.2.1 out.2.2) H1)) args s 0 0 (InN 16 ad)) (F0 m 127 ls []) := by
  unfold B_X7_relax_J127 at h
  refine lv_aload_n E.hx E.hb dX7_relax_127 rfl (lv_at hl 0 rfl) ?_
  refine gf_X7_22 E K0 P dX7_relax_128 ?_
  refine lv_iload_n E.hx E.hb dX7_relax_131 rfl (lv_at hl 1 rfl) ?_
  refine lv_iload E.hx E.hb dX7_relax_132 (lv_at hl 4 rfl) ?_
  obtain ⟨g_20, e_21, h⟩ := obind h
  refine as_0 E N K0 P S e_21 dX7_relax_134 (fun H locs P S => ?_)
  refine lv_iload E.hx E.hb dX7_relax_135 (lv_at hl 2 rfl) ?_
  refine lv_iload E.hx E.hb dX7_relax_137 (lv_at hl 3 rfl) ?_
  refine lv_isub E.hx E.hb dX7_relax_139 ?_
  cases h
  exact W.iret E.hx E.hb E.hr (fun t ht _ => ⟨rfl, by rw [ht]; exact P, S.F ht⟩) S.2.2 dX7_relax_140 E.hk
def B_X7_relax_J100  (I : Nat → Int32) (A : Nat → Nat → Int32) (x1 x2 x3 x4 x6 x7 x8 : Int32) : Option (Int32 × (Nat → Int32) × (Nat → Nat → Int32)) := (B_X7_withAll I A x1 x2 x6).bind fun r_17 => if x7 ≤ r_17 then B_X7_relax_J127  I A x3 x4 x7 x8 else ((B_X7_withAll I A x1 x2 x6).bind fun r_22 => B_X7_relax_J127  I A x3 x4 r_22 x6)
set_option maxHeartbeats 4000000 in
set_option maxRecDepth 100000 in
theorem w_X7_relax_J100 (E : EX p s m args meth c cX7_relax 9 RX7 (some .int)) (K0 : KM D cyI s s.heap) (N : AdN 16 ad) {H : Heap} {locs : List Loc} (P : va_P D classes (mw cyI ad I A) H) (S : va_S (InN 16 ad) s.heap H locs) {x1 x2 x3 x4 x6 x7 x8 : Int32} {out : Int32 × (Nat → Int32) × (Nat → Nat → Int32)} (h : B_X7_relax_J100  I A x1 x2 x3 x4 x6 x7 x8 = some out) {ls : Array Slot} (hl : lv_has ls 9 [(0, .ref (ad 0)), (1, .int x1), (2, .int x2), (3, .int x3), (4, .int x4), (6, .int x6), (7, .int x7), (8, .int x8)]) : W p l e (rmL 4) s m args below meth c H locs 0 0 (MQ below (Qrw (InN 16 ad) (some (.int out.1)) (fun H1 => va_P D classes (mw cyI ad out.2.1 out.2.2) H1)) args s 0 0 (InN 16 ad)) (F0 m 100 ls []) := by
  unfold B_X7_relax_J100 at h
  refine lv_aload_n E.hx E.hb dX7_relax_100 rfl (lv_at hl 0 rfl) ?_
  refine lv_iload_n E.hx E.hb dX7_relax_101 rfl (lv_at hl 1 rfl) ?_
  refine lv_iload_n E.hx E.hb dX7_relax_102 rfl (lv_at hl 2 rfl) ?_
  refine lv_iload E.hx E.hb dX7_relax_103 (lv_at hl 5 rfl) ?_
  obtain ⟨r_17, e_18, h⟩ := obind h
  refine iv_X7_139 (ad := ad) E K0 P S e_18 (by decide) hl.1 (Nat.le_of_ble_eq_true rfl) dX7_relax_105 ?_
  refine lv_iload E.hx E.hb dX7_relax_108 (lv_at hl 6 rfl) ?_
  refine lv_icmp_ge (tgt := 127) E.hx E.hb dX7_relax_110 (by decide) (fun c_19 => ?_) (fun c_19 => ?_)
  · rw [if_pos c_19] at h
    exact w_X7_relax_J127 E K0 N P S h (lv_sub hl [0, 3, 4, 6, 7] rfl)
  · rw [if_neg c_19] at h
    refine lv_aload_n E.hx E.hb dX7_relax_113 rfl (lv_at hl 0 rfl) ?_
    refine lv_iload_n E.hx E.hb dX7_relax_114 rfl (lv_at hl 1 rfl) ?_
    refine lv_iload_n E.hx E.hb dX7_relax_115 rfl (lv_at hl 2 rfl) ?_
    refine lv_iload E.hx E.hb dX7_relax_116 (lv_at hl 5 rfl) ?_
    obtain ⟨r_22, e_23, h⟩ := obind h
    refine iv_X7_139 (ad := ad) E K0 P S e_23 (by decide) hl.1 (Nat.le_of_ble_eq_true rfl) dX7_relax_118 ?_
    refine lv_istore (lv' := [(7, .int r_22), (0, .ref (ad 0)), (1, .int x1), (2, .int x2), (3, .int x3), (4, .int x4), (6, .int x6), (8, .int x8)]) E.hx E.hb dX7_relax_121 hl (by decide) rfl (fun ls hl => ?_)
    refine lv_iload E.hx E.hb dX7_relax_123 (lv_at hl 6 rfl) ?_
    refine lv_istore (lv' := [(8, .int x6), (7, .int r_22), (0, .ref (ad 0)), (1, .int x1), (2, .int x2), (3, .int x3), (4, .int x4), (6, .int x6)]) E.hx E.hb dX7_relax_125 hl (by decide) rfl (fun ls hl => ?_)
    exact w_X7_relax_J127 E K0 N P S h (lv_sub hl [2, 5, 6, 1, 0] rfl)
def B_X7_relax (I : Nat → Int32) (A : Nat → Nat → Int32) (x1 x2 : Int32) : Option (Int32 × (Nat → Int32) × (Nat → Nat → Int32)) := (rd (A 1) 144 ((B_X7_cell x1 x2))).bind fun v_1 => if v_1 = 1 then some (0, I, A) else ((rd (A 0) 144 ((B_X7_cell x1 x2))).bind fun v_4 => (B_X7_withAll I A x1 x2 v_4).bind fun r_6 => (rd (A 0) 144 ((B_X7_cell x1 x2))).bind fun v_8 => (rd (A 0) 144 ((B_X7_cell x1 x2))).bind fun v_10 => (rd (A 0) 144 ((B_X7_cell x1 x2))).bind fun v_12 => (B_X7_withAll I A x1 x2 ((((v_8 + 15) - 1) - ((v_8 + 15) - 1) / 15 * 15))).bind fun r_14 => if r_6 ≤ r_14 then B_X7_relax_J100  I A x1 x2 ((B_X7_cell x1 x2)) r_6 (((v_10 + 1) - (v_10 + 1) / 15 * 15)) r_6 v_12 else ((B_X7_withAll I A x1 x2 ((((v_8 + 15) - 1) - ((v_8 + 15) - 1) / 15 * 15))).bind fun r_24 => B_X7_relax_J100  I A x1 x2 ((B_X7_cell x1 x2)) r_6 (((v_10 + 1) - (v_10 + 1) / 15 * 15)) r_24 ((((v_8 + 15) - 1) - ((v_8 + 15) - 1) / 15 * 15))))
set_option maxHeartbeats 4000000 in
set_option maxRecDepth 100000 in
theorem w_X7_relax (E : EX p s m args meth c cX7_relax 9 RX7 (some .int)) (K0 : KM D cyI s s.heap) (N : AdN 16 ad) {H : Heap} {locs : List Loc} (P : va_P D classes (mw cyI ad I A) H) (S : va_S (InN 16 ad) s.heap H locs)  {x1 x2 : Int32} {out : Int32 × (Nat → Int32) × (Nat → Nat → Int32)} (h : B_X7_relax I A x1 x2 = some out) {ls : Array Slot} (hl : lv_has ls 9 [(0, .ref (ad 0)), (1, .int x1), (2, .int x2)]) : W p l e (rmL 4) s m args below meth c H locs 0 0 (MQ below (Qrw (InN 16 ad) (some (.int out.1)) (fun H1 => va_P D classes (mw cyI ad out.2.1 out.2.2) H1)) args s 0 0 (InN 16 ad)) (F0 m 0 ls []) := by
  unfold B_X7_relax at h
  refine lv_iload_n E.hx E.hb dX7_relax_0 rfl (lv_at hl 1 rfl) ?_
  refine lv_iload_n E.hx E.hb dX7_relax_1 rfl (lv_at hl 2 rfl) ?_
  refine iv_X7_100 (ad := ad) E K0 S (by decide) hl.1 (Nat.le_of_ble_eq_true rfl) dX7_relax_2 ?_
  refine lv_istore_n (lv' := [(3, .int (B_X7_cell x1 x2)), (0, .ref (ad 0)), (1, .int x1), (2, .int x2)]) E.hx E.hb dX7_relax_5 rfl hl (by decide) rfl (fun ls hl => ?_)
  refine lv_aload_n E.hx E.hb dX7_relax_6 rfl (lv_at hl 1 rfl) ?_
  refine gf_X7_26 E K0 P dX7_relax_7 ?_
  refine lv_iload_n E.hx E.hb dX7_relax_10 rfl (lv_at hl 0 rfl) ?_
  obtain ⟨v_1, e_2, h⟩ := obind h
  refine al_1 E K0 P e_2 dX7_relax_11 ?_
  refine lv_iconst (v := 1) E.hx E.hb dX7_relax_12 (by decide) ?_
  refine lv_icmp_ne (tgt := 18) E.hx E.hb dX7_relax_13 (by decide) (fun c_3 => ?_) (fun c_3 => ?_)
  · rw [if_neg c_3] at h
    refine lv_aload_n E.hx E.hb dX7_relax_18 rfl (lv_at hl 1 rfl) ?_
    refine lv_iload_n E.hx E.hb dX7_relax_19 rfl (lv_at hl 2 rfl) ?_
    refine lv_iload_n E.hx E.hb dX7_relax_20 rfl (lv_at hl 3 rfl) ?_
    refine lv_aload_n E.hx E.hb dX7_relax_21 rfl (lv_at hl 1 rfl) ?_
    refine gf_X7_22 E K0 P dX7_relax_22 ?_
    refine lv_iload_n E.hx E.hb dX7_relax_25 rfl (lv_at hl 0 rfl) ?_
    obtain ⟨v_4, e_5, h⟩ := obind h
    refine al_0 E K0 P e_5 dX7_relax_26 ?_
    obtain ⟨r_6, e_7, h⟩ := obind h
    refine iv_X7_139 (ad := ad) E K0 P S e_7 (by decide) hl.1 (Nat.le_of_ble_eq_true rfl) dX7_relax_27 ?_
    refine lv_istore (lv' := [(4, .int r_6), (3, .int (B_X7_cell x1 x2)), (0, .ref (ad 0)), (1, .int x1), (2, .int x2)]) E.hx E.hb dX7_relax_30 hl (by decide) rfl (fun ls hl => ?_)
    refine lv_aload_n E.hx E.hb dX7_relax_32 rfl (lv_at hl 2 rfl) ?_
    refine gf_X7_22 E K0 P dX7_relax_33 ?_
    refine lv_iload_n E.hx E.hb dX7_relax_36 rfl (lv_at hl 1 rfl) ?_
    obtain ⟨v_8, e_9, h⟩ := obind h
    refine al_0 E K0 P e_9 dX7_relax_37 ?_
    refine lv_bipush (v := 15) E.hx E.hb dX7_relax_38 (by decide) ?_
    refine lv_iadd E.hx E.hb dX7_relax_40 ?_
    refine lv_iconst (v := 1) E.hx E.hb dX7_relax_41 (by decide) ?_
    refine lv_isub E.hx E.hb dX7_relax_42 ?_
    refine lv_bipush (v := 15) E.hx E.hb dX7_relax_43 (by decide) ?_
    refine lv_irem E.hx E.hb dX7_relax_45 (by decide) ?_
    refine lv_istore (lv' := [(5, .int (((v_8 + 15) - 1) - ((v_8 + 15) - 1) / 15 * 15)), (4, .int r_6), (3, .int (B_X7_cell x1 x2)), (0, .ref (ad 0)), (1, .int x1), (2, .int x2)]) E.hx E.hb dX7_relax_46 hl (by decide) rfl (fun ls hl => ?_)
    refine lv_aload_n E.hx E.hb dX7_relax_48 rfl (lv_at hl 3 rfl) ?_
    refine gf_X7_22 E K0 P dX7_relax_49 ?_
    refine lv_iload_n E.hx E.hb dX7_relax_52 rfl (lv_at hl 2 rfl) ?_
    obtain ⟨v_10, e_11, h⟩ := obind h
    refine al_0 E K0 P e_11 dX7_relax_53 ?_
    refine lv_iconst (v := 1) E.hx E.hb dX7_relax_54 (by decide) ?_
    refine lv_iadd E.hx E.hb dX7_relax_55 ?_
    refine lv_bipush (v := 15) E.hx E.hb dX7_relax_56 (by decide) ?_
    refine lv_irem E.hx E.hb dX7_relax_58 (by decide) ?_
    refine lv_istore (lv' := [(6, .int ((v_10 + 1) - (v_10 + 1) / 15 * 15)), (5, .int (((v_8 + 15) - 1) - ((v_8 + 15) - 1) / 15 * 15)), (4, .int r_6), (3, .int (B_X7_cell x1 x2)), (0, .ref (ad 0)), (1, .int x1), (2, .int x2)]) E.hx E.hb dX7_relax_59 hl (by decide) rfl (fun ls hl => ?_)
    refine lv_iload E.hx E.hb dX7_relax_61 (lv_at hl 2 rfl) ?_
    refine lv_istore (lv' := [(7, .int r_6), (6, .int ((v_10 + 1) - (v_10 + 1) / 15 * 15)), (5, .int (((v_8 + 15) - 1) - ((v_8 + 15) - 1) / 15 * 15)), (4, .int r_6), (3, .int (B_X7_cell x1 x2)), (0, .ref (ad 0)), (1, .int x1), (2, .int x2)]) E.hx E.hb dX7_relax_63 hl (by decide) rfl (fun ls hl => ?_)
    refine lv_aload_n E.hx E.hb dX7_relax_65 rfl (lv_at hl 5 rfl) ?_
    refine gf_X7_22 E K0 P dX7_relax_66 ?_
    refine lv_iload_n E.hx E.hb dX7_relax_69 rfl (lv_at hl 4 rfl) ?_
    obtain ⟨v_12, e_13, h⟩ := obind h
    refine al_0 E K0 P e_13 dX7_relax_70 ?_
    refine lv_istore (lv' := [(8, .int v_12), (7, .int r_6), (6, .int ((v_10 + 1) - (v_10 + 1) / 15 * 15)), (5, .int (((v_8 + 15) - 1) - ((v_8 + 15) - 1) / 15 * 15)), (4, .int r_6), (3, .int (B_X7_cell x1 x2)), (0, .ref (ad 0)), (1, .int x1), (2, .int x2)]) E.hx E.hb dX7_relax_71 hl (by decide) rfl (fun ls hl => ?_)
    refine lv_aload_n E.hx E.hb dX7_relax_73 rfl (lv_at hl 6 rfl) ?_
    refine lv_iload_n E.hx E.hb dX7_relax_74 rfl (lv_at hl 7 rfl) ?_
    refine lv_iload_n E.hx E.hb dX7_relax_75 rfl (lv_at hl 8 rfl) ?_
    refine lv_iload E.hx E.hb dX7_relax_76 (lv_at hl 3 rfl) ?_
    obtain ⟨r_14, e_15, h⟩ := obind h
    refine iv_X7_139 (ad := ad) E K0 P S e_15 (by decide) hl.1 (Nat.le_of_ble_eq_true rfl) dX7_relax_78 ?_
    refine lv_iload E.hx E.hb dX7_relax_81 (lv_at hl 1 rfl) ?_
    refine lv_icmp_ge (tgt := 100) E.hx E.hb dX7_relax_83 (by decide) (fun c_16 => ?_) (fun c_16 => ?_)
    · rw [if_pos c_16] at h
      exact w_X7_relax_J100 E K0 N P S h (lv_sub hl [6, 7, 8, 5, 4, 2, 1, 0] rfl)
    · rw [if_neg c_16] at h
      refine lv_aload_n E.hx E.hb dX7_relax_86 rfl (lv_at hl 6 rfl) ?_
      refine lv_iload_n E.hx E.hb dX7_relax_87 rfl (lv_at hl 7 rfl) ?_
      refine lv_iload_n E.hx E.hb dX7_relax_88 rfl (lv_at hl 8 rfl) ?_
      refine lv_iload E.hx E.hb dX7_relax_89 (lv_at hl 3 rfl) ?_
      obtain ⟨r_24, e_25, h⟩ := obind h
      refine iv_X7_139 (ad := ad) E K0 P S e_25 (by decide) hl.1 (Nat.le_of_ble_eq_true rfl) dX7_relax_91 ?_
      refine lv_istore (lv' := [(7, .int r_24), (8, .int v_12), (6, .int ((v_10 + 1) - (v_10 + 1) / 15 * 15)), (5, .int (((v_8 + 15) - 1) - ((v_8 + 15) - 1) / 15 * 15)), (4, .int r_6), (3, .int (B_X7_cell x1 x2)), (0, .ref (ad 0)), (1, .int x1), (2, .int x2)]) E.hx E.hb dX7_relax_94 hl (by decide) rfl (fun ls hl => ?_)
      refine lv_iload E.hx E.hb dX7_relax_96 (lv_at hl 3 rfl) ?_
      refine lv_istore (lv' := [(8, .int (((v_8 + 15) - 1) - ((v_8 + 15) - 1) / 15 * 15)), (7, .int r_24), (6, .int ((v_10 + 1) - (v_10 + 1) / 15 * 15)), (5, .int (((v_8 + 15) - 1) - ((v_8 + 15) - 1) / 15 * 15)), (4, .int r_6), (3, .int (B_X7_cell x1 x2)), (0, .ref (ad 0)), (1, .int x1), (2, .int x2)]) E.hx E.hb dX7_relax_98 hl (by decide) rfl (fun ls hl => ?_)
      exact w_X7_relax_J100 E K0 N P S h (lv_sub hl [6, 7, 8, 5, 4, 2, 1, 0] rfl)
  · rw [if_pos c_3] at h
    refine lv_iconst (v := 0) E.hx E.hb dX7_relax_16 (by decide) ?_
    cases h
    exact W.iret E.hx E.hb E.hr (fun t ht _ => ⟨rfl, by rw [ht]; exact P, S.F ht⟩) S.2.2 dX7_relax_17 E.hk
theorem c_X7_relax (l : Launch) {H : Heap} {D : va_G} {cyI : ClassId} {ad : Nat → Nat} {I : Nat → Int32} {A : Nat → Nat → Int32} (N : AdN 16 ad) (P : va_P D classes (mw cyI ad I A) H) (x1 x2 : Int32) {out : Int32 × (Nat → Int32) × (Nat → Nat → Int32)} (h : B_X7_relax I A x1 x2 = some out) : MRW l yX7_relax cX7_relax 9 (some .int) 4 [.ref (ad 0), .int x1, .int x2] H (KM D cyI) (InN 16 ad) (some (.int out.1)) (fun H1 => va_P D classes (mw cyI ad out.2.1 out.2.2) H1) := by
  refine Mof (own := RX7) (by decide +kernel) rfl rfl ?_
  intro p e s m args below meth c ls E hH K0 hl
  subst hH
  exact w_X7_relax E K0 N P va_S.rf h hl
theorem ds_X7_relax : Dsc yX7_relax 2 := ⟨by decide +kernel, by decide +kernel, by decide +kernel⟩
end
section
variable {p : Program} {l : Launch} {e : Env} {s : State} {m : MethodId} {args : Array Value} {below : List Frame} {meth : Method} {c : Code} {D : va_G} {cyI : ClassId} {ad : Nat → Nat}
def B_X7_greyOf  (x0 : Int32) : Int32 := if x0 = 0 then 0 else if x0 = 1 then 17 else if x0 = 2 then 55 else if x0 = 3 then 90 else if x0 = 4 then 99 else if x0 = 5 then 75 else if x0 = 6 then 35 else 4
set_option maxHeartbeats 4000000 in
set_option maxRecDepth 100000 in
theorem w_X7_greyOf (E : EX p s m args meth c cX7_greyOf 1 RX7 (some .int)) (K0 : KM D cyI s s.heap)  {x0 : Int32} {out : Int32} (h : B_X7_greyOf  x0 = out) {ls : Array Slot} (hl : lv_has ls 1 [(0, .int x0)]) : W p l e (rmL 0) s m args below meth c s.heap [] 0 0 (MQ below (vp_Si (fun z => z = out)) args s 0 0 (fun _ => False)) (F0 m 0 ls []) := by
  unfold B_X7_greyOf at h
  refine lv_iload_n E.hx E.hb dX7_greyOf_0 rfl (lv_at hl 0 rfl) ?_
  by_cases c_1 : x0 = 0
  · rw [if_pos c_1] at h
    refine lv_tableIn (off := 43) (tgt := 44) E.hx E.hb dX7_greyOf_1 (by rw [c_1]; decide) (by rw [c_1]; decide) (by rw [c_1]; rfl) (by decide) ?_
    refine lv_iconst (v := 0) E.hx E.hb dX7_greyOf_44 (by decide) ?_
    exact W.iret E.hx E.hb E.hr (fun t ht _ => ⟨_, rfl, h, ht⟩) (fun q hq => nomatch hq) dX7_greyOf_45 E.hk
  rw [if_neg c_1] at h
  by_cases c_2 : x0 = 1
  · rw [if_pos c_2] at h
    refine lv_tableIn (off := 45) (tgt := 46) E.hx E.hb dX7_greyOf_1 (by rw [c_2]; decide) (by rw [c_2]; decide) (by rw [c_2]; rfl) (by decide) ?_
    refine lv_bipush (v := 17) E.hx E.hb dX7_greyOf_46 (by decide) ?_
    exact W.iret E.hx E.hb E.hr (fun t ht _ => ⟨_, rfl, h, ht⟩) (fun q hq => nomatch hq) dX7_greyOf_48 E.hk
  rw [if_neg c_2] at h
  by_cases c_3 : x0 = 2
  · rw [if_pos c_3] at h
    refine lv_tableIn (off := 48) (tgt := 49) E.hx E.hb dX7_greyOf_1 (by rw [c_3]; decide) (by rw [c_3]; decide) (by rw [c_3]; rfl) (by decide) ?_
    refine lv_bipush (v := 55) E.hx E.hb dX7_greyOf_49 (by decide) ?_
    exact W.iret E.hx E.hb E.hr (fun t ht _ => ⟨_, rfl, h, ht⟩) (fun q hq => nomatch hq) dX7_greyOf_51 E.hk
  rw [if_neg c_3] at h
  by_cases c_4 : x0 = 3
  · rw [if_pos c_4] at h
    refine lv_tableIn (off := 51) (tgt := 52) E.hx E.hb dX7_greyOf_1 (by rw [c_4]; decide) (by rw [c_4]; decide) (by rw [c_4]; rfl) (by decide) ?_
    refine lv_bipush (v := 90) E.hx E.hb dX7_greyOf_52 (by decide) ?_
    exact W.iret E.hx E.hb E.hr (fun t ht _ => ⟨_, rfl, h, ht⟩) (fun q hq => nomatch hq) dX7_greyOf_54 E.hk
  rw [if_neg c_4] at h
  by_cases c_5 : x0 = 4
  · rw [if_pos c_5] at h
    refine lv_tableIn (off := 54) (tgt := 55) E.hx E.hb dX7_greyOf_1 (by rw [c_5]; decide) (by rw [c_5]; decide) (by rw [c_5]; rfl) (by decide) ?_
    refine lv_bipush (v := 99) E.hx E.hb dX7_greyOf_55 (by decide) ?_
    exact W.iret E.hx E.hb E.hr (fun t ht _ => ⟨_, rfl, h, ht⟩) (fun q hq => nomatch hq) dX7_greyOf_57 E.hk
  rw [if_neg c_5] at h
  by_cases c_6 : x0 = 5
  · rw [if_pos c_6] at h
    refine lv_tableIn (off := 57) (tgt := 58) E.hx E.hb dX7_greyOf_1 (by rw [c_6]; decide) (by rw [c_6]; decide) (by rw [c_6]; rfl) (by decide) ?_
    refine lv_bipush (v := 75) E.hx E.hb dX7_greyOf_58 (by decide) ?_
    exact W.iret E.hx E.hb E.hr (fun t ht _ => ⟨_, rfl, h, ht⟩) (fun q hq => nomatch hq) dX7_greyOf_60 E.hk
  rw [if_neg c_6] at h
  by_cases c_7 : x0 = 6
  · rw [if_pos c_7] at h
    refine lv_tableIn (off := 60) (tgt := 61) E.hx E.hb dX7_greyOf_1 (by rw [c_7]; decide) (by rw [c_7]; decide) (by rw [c_7]; rfl) (by decide) ?_
    refine lv_bipush (v := 35) E.hx E.hb dX7_greyOf_61 (by decide) ?_
    exact W.iret E.hx E.hb E.hr (fun t ht _ => ⟨_, rfl, h, ht⟩) (fun q hq => nomatch hq) dX7_greyOf_63 E.hk
  rw [if_neg c_7] at h
  refine lv_tableOut (tgt := 64) E.hx E.hb dX7_greyOf_1 (swo 6 (by decide) (by intro j hj; rcases (show j = 0 ∨ j = 1 ∨ j = 2 ∨ j = 3 ∨ j = 4 ∨ j = 5 ∨ j = 6 by omega) with rfl | rfl | rfl | rfl | rfl | rfl | rfl <;> assumption)) (by decide) ?_
  refine lv_iconst (v := 4) E.hx E.hb dX7_greyOf_64 (by decide) ?_
  exact W.iret E.hx E.hb E.hr (fun t ht _ => ⟨_, rfl, h, ht⟩) (fun q hq => nomatch hq) dX7_greyOf_65 E.hk
theorem c_X7_greyOf (l : Launch) {H : Heap} {D : va_G} {cyI : ClassId} {ad : Nat → Nat} (x0 : Int32) : MRO l yX7_greyOf cX7_greyOf 1 (some .int) 0 [.int x0] H (KM D cyI) (B_X7_greyOf  x0) := by
  refine Mof (own := RX7) (by decide +kernel) rfl rfl ?_
  intro p e s m args below meth c ls E hH K0 hl
  subst hH
  exact w_X7_greyOf E K0  rfl hl
theorem ds_X7_greyOf : Dsc yX7_greyOf 1 := ⟨by decide +kernel, by decide +kernel, by decide +kernel⟩
end
section
variable {p : Program} {l : Launch} {e : Env} {R : Room} {s : State} {m : MethodId} {args : Array Value} {below : List Frame} {meth : Method} {c : Code} {H : Heap} {locs : List Loc} {cells slots : Nat} {Q : State → Prop} {cc : ByteArray} {nL pc : Nat} {ret : Option FieldType} {ls : Array Slot} {rest : List Value} {D : va_G} {cyI : ClassId} {ad : Nat → Nat} {I : Nat → Int32} {A : Nat → Nat → Int32}
theorem iv_X7_142 (E : EX p s m args meth c cc nL RX7 ret) (K0 : KM D cyI s s.heap) (S : va_S (InN 16 ad) s.heap H locs) {a0 a1 : Int32} (hR : RmOk R cells slots 1 3) (hls : ls.size = nL) (hro : (rest.map fun v => v.category).sum ≤ 8) (hdg : decode cc pc = .ok (.invokestatic 142, 3)) (kk : W p l e R s m args below meth c H locs cells slots Q (F0 m (pc + 3) ls (.int (B_X7_apart a0 a1) :: rest))) : W p l e R s m args below meth c H locs cells slots Q (F0 m pc ls (.int a1 :: .int a0 :: rest)) :=
  cs_ro E (c_X7_apart l (H := H) (D := D) (cyI := cyI) (ad := ad) a0 a1 ) (gS kML_X7_142 kST_X7_apart kIN_X7 kCO_X7_apart) rfl ds_X7_apart rfl KM_blind (fun U _ hW => KM.warm hW K0) hR hls rfl hro hdg kk
end
section
variable {p : Program} {l : Launch} {e : Env} {R : Room} {s : State} {m : MethodId} {args : Array Value} {below : List Frame} {meth : Method} {c : Code} {H : Heap} {locs : List Loc} {cells slots : Nat} {Q : State → Prop} {cc : ByteArray} {nL pc : Nat} {ret : Option FieldType} {ls : Array Slot} {rest : List Value} {D : va_G} {cyI : ClassId} {ad : Nat → Nat} {I : Nat → Int32} {A : Nat → Nat → Int32}
theorem iv_X7_145 (E : EX p s m args meth c cc nL RX7 ret) (K0 : KM D cyI s s.heap) (S : va_S (InN 16 ad) s.heap H locs) {a0 : Int32} (hR : RmOk R cells slots 0 1) (hls : ls.size = nL) (hro : (rest.map fun v => v.category).sum ≤ 8) (hdg : decode cc pc = .ok (.invokestatic 145, 3)) (kk : W p l e R s m args below meth c H locs cells slots Q (F0 m (pc + 3) ls (.int (B_X7_greyOf a0) :: rest))) : W p l e R s m args below meth c H locs cells slots Q (F0 m pc ls (.int a0 :: rest)) :=
  cs_ro E (c_X7_greyOf l (H := H) (D := D) (cyI := cyI) (ad := ad) a0 ) (gS kML_X7_145 kST_X7_greyOf kIN_X7 kCO_X7_greyOf) rfl ds_X7_greyOf rfl KM_blind (fun U _ hW => KM.warm hW K0) hR hls rfl hro hdg kk
end
section
variable {p : Program} {l : Launch} {e : Env} {s : State} {m : MethodId} {args : Array Value} {below : List Frame} {meth : Method} {c : Code} {D : va_G} {cyI : ClassId} {ad : Nat → Nat} {I : Nat → Int32} {A : Nat → Nat → Int32}
def B_X7_greyAt (I : Nat → Int32) (A : Nat → Nat → Int32) (x1 x2 x3 : Int32) : Option (Int32) := (rd (A 0) 144 ((B_X7_cell x1 x2))).bind fun v_1 => some ((B_X7_greyOf ((B_X7_apart v_1 x3))))
set_option maxHeartbeats 4000000 in
set_option maxRecDepth 100000 in
theorem w_X7_greyAt (E : EX p s m args meth c cX7_greyAt 4 RX7 (some .int)) (K0 : KM D cyI s s.heap) (P : va_P D classes (mw cyI ad I A) s.heap)  {x1 x2 x3 : Int32} {out : Int32} (h : B_X7_greyAt I A x1 x2 x3 = some out) {ls : Array Slot} (hl : lv_has ls 4 [(0, .ref (ad 0)), (1, .int x1), (2, .int x2), (3, .int x3)]) : W p l e (rmL 2) s m args below meth c s.heap [] 0 0 (MQ below (vp_Si (fun z => z = out)) args s 0 0 (fun _ => False)) (F0 m 0 ls []) := by
  unfold B_X7_greyAt at h
  refine lv_aload_n E.hx E.hb dX7_greyAt_0 rfl (lv_at hl 0 rfl) ?_
  refine gf_X7_22 E K0 P dX7_greyAt_1 ?_
  refine lv_iload_n E.hx E.hb dX7_greyAt_4 rfl (lv_at hl 1 rfl) ?_
  refine lv_iload_n E.hx E.hb dX7_greyAt_5 rfl (lv_at hl 2 rfl) ?_
  refine iv_X7_100 (ad := ad) E K0 va_S.rf (by decide) hl.1 (Nat.le_of_ble_eq_true rfl) dX7_greyAt_6 ?_
  obtain ⟨v_1, e_2, h⟩ := obind h
  refine al_0 E K0 P e_2 dX7_greyAt_9 ?_
  refine lv_iload_n E.hx E.hb dX7_greyAt_10 rfl (lv_at hl 3 rfl) ?_
  refine iv_X7_142 (ad := ad) E K0 va_S.rf (by decide) hl.1 (Nat.le_of_ble_eq_true rfl) dX7_greyAt_11 ?_
  refine iv_X7_145 (ad := ad) E K0 va_S.rf (by decide) hl.1 (Nat.le_of_ble_eq_true rfl) dX7_greyAt_14 ?_
  exact W.iret E.hx E.hb E.hr (fun t ht _ => ⟨_, rfl, (Option.some.inj h), ht⟩) (fun q hq => nomatch hq) dX7_greyAt_17 E.hk
theorem c_X7_greyAt (l : Launch) {H : Heap} {D : va_G} {cyI : ClassId} {ad : Nat → Nat} {I : Nat → Int32} {A : Nat → Nat → Int32} (P : va_P D classes (mw cyI ad I A) H) (x1 x2 x3 : Int32) {out : Int32} (h : B_X7_greyAt I A x1 x2 x3 = some out) : MRO l yX7_greyAt cX7_greyAt 4 (some .int) 2 [.ref (ad 0), .int x1, .int x2, .int x3] H (KM D cyI) out := by
  refine Mof (own := RX7) (by decide +kernel) rfl rfl ?_
  intro p e s m args below meth c ls E hH K0 hl
  subst hH
  exact w_X7_greyAt E K0 P h hl
theorem ds_X7_greyAt : Dsc yX7_greyAt 3 := ⟨by decide +kernel, by decide +kernel, by decide +kernel⟩
end
section
variable {p : Program} {l : Launch} {e : Env} {R : Room} {s : State} {m : MethodId} {args : Array Value} {below : List Frame} {meth : Method} {c : Code} {H : Heap} {locs : List Loc} {cells slots : Nat} {Q : State → Prop} {cc : ByteArray} {nL pc : Nat} {ret : Option FieldType} {ls : Array Slot} {rest : List Value} {D : va_G} {cyI : ClassId} {ad : Nat → Nat} {I : Nat → Int32} {A : Nat → Nat → Int32}
theorem iv_X7_151 (E : EX p s m args meth c cc nL RX7 ret) (K0 : KM D cyI s s.heap) (P : va_P D classes (mw cyI ad I A) H) (S : va_S (InN 16 ad) s.heap H locs) {a0 a1 a2 : Int32} {v : Int32} (hv : B_X7_greyAt I A a0 a1 a2 = some v) (hR : RmOk R cells slots 2 4) (hls : ls.size = nL) (hro : (rest.map fun v => v.category).sum ≤ 8) (hdg : decode cc pc = .ok (.invokevirtual 151, 3)) (kk : W p l e R s m args below meth c H locs cells slots Q (F0 m (pc + 3) ls (.int v :: rest))) : W p l e R s m args below meth c H locs cells slots Q (F0 m pc ls (.int a2 :: .int a1 :: .int a0 :: .ref (ad 0) :: rest)) :=
  cv_ro E (c_X7_greyAt l P a0 a1 a2 hv) (gV kML_X7_151 kIM_X7_greyAt kSE_X7_greyAt kIN_X7 kCO_X7_greyAt) rfl ds_X7_greyAt rfl KM_blind (fun U _ hW => KM.warm hW K0) (va_recv K0.k P (show classes[7]? = some (RX7, TX7, 27) from rfl) mw_g0) hR hls rfl hro hdg kk
end
section
variable {p : Program} {l : Launch} {e : Env} {s : State} {m : MethodId} {args : Array Value} {below : List Frame} {meth : Method} {c : Code} {D : va_G} {cyI : ClassId} {ad : Nat → Nat} {I : Nat → Int32} {A : Nat → Nat → Int32}
def B_X7_greyOfPixel_L19 (I : Nat → Int32) (A : Nat → Nat → Int32) (x1 x4 : Int32) : Nat → Int32 → Int32 → Int32 → Option (Int32 × Int32)
  | 0 => fun _ _ _ => none
  | n + 1 => fun x2 x3 x5 => if (I 1) ≤ x5 then some ((x2, x3)) else ((rd (A 4) 144 ((B_X7_cell x5 x4))).bind fun v_3 => if v_3 = x1 then ((B_X7_greyAt I A x5 x4 ((I 5))).bind fun r_6 => (B_X7_greyOfPixel_L19 I A x1 x4 n) ((x2 + r_6)) (x3 + 1) (x5 + 1)) else (B_X7_greyOfPixel_L19 I A x1 x4 n) x2 x3 (x5 + 1))
theorem B_X7_greyOfPixel_L19_s (I : Nat → Int32) (A : Nat → Nat → Int32) (x1 x4 x2 x3 x5 : Int32) (n : Nat) : B_X7_greyOfPixel_L19 I A x1 x4 (n + 1) x2 x3 x5 = if (I 1) ≤ x5 then some ((x2, x3)) else ((rd (A 4) 144 ((B_X7_cell x5 x4))).bind fun v_3 => if v_3 = x1 then ((B_X7_greyAt I A x5 x4 ((I 5))).bind fun r_6 => (B_X7_greyOfPixel_L19 I A x1 x4 n) ((x2 + r_6)) (x3 + 1) (x5 + 1)) else (B_X7_greyOfPixel_L19 I A x1 x4 n) x2 x3 (x5 + 1)) := rfl
set_option maxHeartbeats 4000000 in
set_option maxRecDepth 100000 in
theorem w_X7_greyOfPixel_L19 (E : EX p s m args meth c cX7_greyOfPixel 6 RX7 (some .int)) (K0 : KM D cyI s s.heap) (P : va_P D classes (mw cyI ad I A) s.heap) {x1 x4 : Int32} {out : Int32} : ∀ (n : Nat) {x2 x3 x5 : Int32} {o : Int32 × Int32} (h : B_X7_greyOfPixel_L19 I A x1 x4 n x2 x3 x5 = some o) {ls : Array Slot} (hl : lv_has ls 6 [(0, .ref (ad 0)), (1, .int x1), (2, .int x2), (3, .int x3), (4, .int x4), (5, .int x5)]) (kx : ∀ {ls : Array Slot}, lv_has ls 6 [(0, .ref (ad 0)), (1, .int x1), (2, .int o.1), (3, .int o.2), (4, .int x4)] → W p l e (rmL 3) s m args below meth c s.heap [] 0 0 (MQ below (vp_Si (fun z => z = out)) args s 0 0 (fun _ => False)) (F0 m 68 ls [])), W p l e (rmL 3) s m args below meth c s.heap [] 0 0 (MQ below (vp_Si (fun z => z = out)) args s 0 0 (fun _ => False)) (F0 m 19 ls []) := by
  intro n
  induction n with
  | zero => intro x2 x3 x5 o h ls hl kx; exact nomatch (show none = some o from h)
  | succ n ih =>
    intro x2 x3 x5 o h ls hl kx
    rw [B_X7_greyOfPixel_L19_s] at h
    refine lv_iload E.hx E.hb dX7_greyOfPixel_19 (lv_at hl 5 rfl) ?_
    refine lv_aload_n E.hx E.hb dX7_greyOfPixel_21 rfl (lv_at hl 0 rfl) ?_
    refine gf_X7_7 E K0 P dX7_greyOfPixel_22 ?_
    refine lv_icmp_ge (tgt := 68) E.hx E.hb dX7_greyOfPixel_25 (by decide) (fun c_2 => ?_) (fun c_2 => ?_)
    · rw [if_pos c_2] at h
      cases h
      exact kx  (lv_sub hl [0, 1, 2, 3, 4] rfl)
    · rw [if_neg c_2] at h
      refine lv_aload_n E.hx E.hb dX7_greyOfPixel_28 rfl (lv_at hl 0 rfl) ?_
      refine gf_X7_35 E K0 P dX7_greyOfPixel_29 ?_
      refine lv_iload E.hx E.hb dX7_greyOfPixel_32 (lv_at hl 5 rfl) ?_
      refine lv_iload E.hx E.hb dX7_greyOfPixel_34 (lv_at hl 4 rfl) ?_
      refine iv_X7_100 (ad := ad) E K0 va_S.rf (by decide) hl.1 (Nat.le_of_ble_eq_true rfl) dX7_greyOfPixel_36 ?_
      obtain ⟨v_3, e_4, h⟩ := obind h
      refine al_4 E K0 P e_4 dX7_greyOfPixel_39 ?_
      refine lv_iload_n E.hx E.hb dX7_greyOfPixel_40 rfl (lv_at hl 1 rfl) ?_
      refine lv_icmp_ne (tgt := 62) E.hx E.hb dX7_greyOfPixel_41 (by decide) (fun c_5 => ?_) (fun c_5 => ?_)
      · rw [if_neg c_5] at h
        refine lv_iinc (v := x5 + 1) (lv' := [(5, .int (x5 + 1)), (0, .ref (ad 0)), (1, .int x1), (2, .int x2), (3, .int x3), (4, .int x4)]) E.hx E.hb dX7_greyOfPixel_62 hl (k := 5) rfl rfl (by decide) rfl (fun ls hl => ?_)
        refine lv_goto (tgt := 19) E.hx E.hb dX7_greyOfPixel_65 (by decide) ?_
        exact ih  h (lv_sub hl [1, 2, 3, 4, 5, 0] rfl) kx
      · rw [if_pos c_5] at h
        refine lv_iload_n E.hx E.hb dX7_greyOfPixel_44 rfl (lv_at hl 2 rfl) ?_
        refine lv_aload_n E.hx E.hb dX7_greyOfPixel_45 rfl (lv_at hl 0 rfl) ?_
        refine lv_iload E.hx E.hb dX7_greyOfPixel_46 (lv_at hl 5 rfl) ?_
        refine lv_iload E.hx E.hb dX7_greyOfPixel_48 (lv_at hl 4 rfl) ?_
        refine lv_aload_n E.hx E.hb dX7_greyOfPixel_50 rfl (lv_at hl 0 rfl) ?_
        refine gf_X7_148 E K0 P dX7_greyOfPixel_51 ?_
        obtain ⟨r_6, e_7, h⟩ := obind h
        refine iv_X7_151 (ad := ad) E K0 P va_S.rf e_7 (by decide) hl.1 (Nat.le_of_ble_eq_true rfl) dX7_greyOfPixel_54 ?_
        refine lv_iadd E.hx E.hb dX7_greyOfPixel_57 ?_
        refine lv_istore_n (lv' := [(2, .int (x2 + r_6)), (0, .ref (ad 0)), (1, .int x1), (3, .int x3), (4, .int x4), (5, .int x5)]) E.hx E.hb dX7_greyOfPixel_58 rfl hl (by decide) rfl (fun ls hl => ?_)
        refine lv_iinc (v := x3 + 1) (lv' := [(3, .int (x3 + 1)), (2, .int (x2 + r_6)), (0, .ref (ad 0)), (1, .int x1), (4, .int x4), (5, .int x5)]) E.hx E.hb dX7_greyOfPixel_59 hl (k := 3) rfl rfl (by decide) rfl (fun ls hl => ?_)
        refine lv_iinc (v := x5 + 1) (lv' := [(5, .int (x5 + 1)), (3, .int (x3 + 1)), (2, .int (x2 + r_6)), (0, .ref (ad 0)), (1, .int x1), (4, .int x4)]) E.hx E.hb dX7_greyOfPixel_62 hl (k := 5) rfl rfl (by decide) rfl (fun ls hl => ?_)
        refine lv_goto (tgt := 19) E.hx E.hb dX7_greyOfPixel_65 (by decide) ?_
        exact ih  h (lv_sub hl [3, 4, 2, 1, 5, 0] rfl) kx
def B_X7_greyOfPixel_L7 (I : Nat → Int32) (A : Nat → Nat → Int32) (x1 : Int32) : Nat → Int32 → Int32 → Int32 → Option (Int32 × Int32)
  | 0 => fun _ _ _ => none
  | n + 1 => fun x2 x3 x4 => if (I 2) ≤ x4 then some ((x2, x3)) else ((B_X7_greyOfPixel_L19 I A x1 x4 FU x2 x3 0).bind fun q_8 => (B_X7_greyOfPixel_L7 I A x1 n) q_8.1 q_8.2 (x4 + 1))
theorem B_X7_greyOfPixel_L7_s (I : Nat → Int32) (A : Nat → Nat → Int32) (x1 x2 x3 x4 : Int32) (n : Nat) : B_X7_greyOfPixel_L7 I A x1 (n + 1) x2 x3 x4 = if (I 2) ≤ x4 then some ((x2, x3)) else ((B_X7_greyOfPixel_L19 I A x1 x4 FU x2 x3 0).bind fun q_8 => (B_X7_greyOfPixel_L7 I A x1 n) q_8.1 q_8.2 (x4 + 1)) := rfl
set_option maxHeartbeats 4000000 in
set_option maxRecDepth 100000 in
theorem w_X7_greyOfPixel_L7 (E : EX p s m args meth c cX7_greyOfPixel 6 RX7 (some .int)) (K0 : KM D cyI s s.heap) (P : va_P D classes (mw cyI ad I A) s.heap) {x1 : Int32} {out : Int32} : ∀ (n : Nat) {x2 x3 x4 : Int32} {o : Int32 × Int32} (h : B_X7_greyOfPixel_L7 I A x1 n x2 x3 x4 = some o) {ls : Array Slot} (hl : lv_has ls 6 [(0, .ref (ad 0)), (1, .int x1), (2, .int x2), (3, .int x3), (4, .int x4)]) (kx : ∀ {ls : Array Slot}, lv_has ls 6 [(2, .int o.1), (3, .int o.2)] → W p l e (rmL 3) s m args below meth c s.heap [] 0 0 (MQ below (vp_Si (fun z => z = out)) args s 0 0 (fun _ => False)) (F0 m 74 ls [])), W p l e (rmL 3) s m args below meth c s.heap [] 0 0 (MQ below (vp_Si (fun z => z = out)) args s 0 0 (fun _ => False)) (F0 m 7 ls []) := by
  intro n
  induction n with
  | zero => intro x2 x3 x4 o h ls hl kx; exact nomatch (show none = some o from h)
  | succ n ih =>
    intro x2 x3 x4 o h ls hl kx
    rw [B_X7_greyOfPixel_L7_s] at h
    refine lv_iload E.hx E.hb dX7_greyOfPixel_7 (lv_at hl 4 rfl) ?_
    refine lv_aload_n E.hx E.hb dX7_greyOfPixel_9 rfl (lv_at hl 0 rfl) ?_
    refine gf_X7_13 E K0 P dX7_greyOfPixel_10 ?_
    refine lv_icmp_ge (tgt := 74) E.hx E.hb dX7_greyOfPixel_13 (by decide) (fun c_1 => ?_) (fun c_1 => ?_)
    · rw [if_pos c_1] at h
      cases h
      exact kx  (lv_sub hl [2, 3] rfl)
    · rw [if_neg c_1] at h
      refine lv_iconst (v := 0) E.hx E.hb dX7_greyOfPixel_16 (by decide) ?_
      refine lv_istore (lv' := [(5, .int 0), (0, .ref (ad 0)), (1, .int x1), (2, .int x2), (3, .int x3), (4, .int x4)]) E.hx E.hb dX7_greyOfPixel_17 hl (by decide) rfl (fun ls hl => ?_)
      obtain ⟨q_8, e_9, h⟩ := obind h
      refine w_X7_greyOfPixel_L19 E K0 P FU e_9 (lv_sub hl [1, 2, 3, 4, 5, 0] rfl) (fun {ls} hl => ?_)
      refine lv_iinc (v := x4 + 1) (lv' := [(4, .int (x4 + 1)), (0, .ref (ad 0)), (1, .int x1), (2, .int q_8.1), (3, .int q_8.2)]) E.hx E.hb dX7_greyOfPixel_68 hl (k := 4) rfl rfl (by decide) rfl (fun ls hl => ?_)
      refine lv_goto (tgt := 7) E.hx E.hb dX7_greyOfPixel_71 (by decide) ?_
      exact ih  h (lv_sub hl [1, 2, 3, 4, 0] rfl) kx
def B_X7_greyOfPixel (I : Nat → Int32) (A : Nat → Nat → Int32) (x1 : Int32) : Option (Int32) := (B_X7_greyOfPixel_L7 I A x1 FU 0 0 0).bind fun q_10 => if q_10.2 = 0 then none else some ((q_10.1 / q_10.2))
set_option maxHeartbeats 4000000 in
set_option maxRecDepth 100000 in
theorem w_X7_greyOfPixel (E : EX p s m args meth c cX7_greyOfPixel 6 RX7 (some .int)) (K0 : KM D cyI s s.heap) (P : va_P D classes (mw cyI ad I A) s.heap)  {x1 : Int32} {out : Int32} (h : B_X7_greyOfPixel I A x1 = some out) {ls : Array Slot} (hl : lv_has ls 6 [(0, .ref (ad 0)), (1, .int x1)]) : W p l e (rmL 3) s m args below meth c s.heap [] 0 0 (MQ below (vp_Si (fun z => z = out)) args s 0 0 (fun _ => False)) (F0 m 0 ls []) := by
  unfold B_X7_greyOfPixel at h
  refine lv_iconst (v := 0) E.hx E.hb dX7_greyOfPixel_0 (by decide) ?_
  refine lv_istore_n (lv' := [(2, .int 0), (0, .ref (ad 0)), (1, .int x1)]) E.hx E.hb dX7_greyOfPixel_1 rfl hl (by decide) rfl (fun ls hl => ?_)
  refine lv_iconst (v := 0) E.hx E.hb dX7_greyOfPixel_2 (by decide) ?_
  refine lv_istore_n (lv' := [(3, .int 0), (2, .int 0), (0, .ref (ad 0)), (1, .int x1)]) E.hx E.hb dX7_greyOfPixel_3 rfl hl (by decide) rfl (fun ls hl => ?_)
  refine lv_iconst (v := 0) E.hx E.hb dX7_greyOfPixel_4 (by decide) ?_
  refine lv_istore (lv' := [(4, .int 0), (3, .int 0), (2, .int 0), (0, .ref (ad 0)), (1, .int x1)]) E.hx E.hb dX7_greyOfPixel_5 hl (by decide) rfl (fun ls hl => ?_)
  obtain ⟨q_10, e_11, h⟩ := obind h
  refine w_X7_greyOfPixel_L7 E K0 P FU e_11 (lv_sub hl [3, 4, 2, 1, 0] rfl) (fun {ls} hl => ?_)
  refine lv_iload_n E.hx E.hb dX7_greyOfPixel_74 rfl (lv_at hl 0 rfl) ?_
  refine lv_iload_n E.hx E.hb dX7_greyOfPixel_75 rfl (lv_at hl 1 rfl) ?_
  by_cases c_12 : q_10.2 = 0
  · rw [if_pos c_12] at h; exact nomatch h
  rw [if_neg c_12] at h
  refine lv_idiv E.hx E.hb dX7_greyOfPixel_76 c_12 ?_
  exact W.iret E.hx E.hb E.hr (fun t ht _ => ⟨_, rfl, (Option.some.inj h), ht⟩) (fun q hq => nomatch hq) dX7_greyOfPixel_77 E.hk
theorem c_X7_greyOfPixel (l : Launch) {H : Heap} {D : va_G} {cyI : ClassId} {ad : Nat → Nat} {I : Nat → Int32} {A : Nat → Nat → Int32} (P : va_P D classes (mw cyI ad I A) H) (x1 : Int32) {out : Int32} (h : B_X7_greyOfPixel I A x1 = some out) : MRO l yX7_greyOfPixel cX7_greyOfPixel 6 (some .int) 3 [.ref (ad 0), .int x1] H (KM D cyI) out := by
  refine Mof (own := RX7) (by decide +kernel) rfl rfl ?_
  intro p e s m args below meth c ls E hH K0 hl
  subst hH
  exact w_X7_greyOfPixel E K0 P h hl
theorem ds_X7_greyOfPixel : Dsc yX7_greyOfPixel 1 := ⟨by decide +kernel, by decide +kernel, by decide +kernel⟩
end
section
variable {p : Program} {l : Launch} {e : Env} {R : Room} {s : State} {m : MethodId} {args : Array Value} {below : List Frame} {meth : Method} {c : Code} {H : Heap} {locs : List Loc} {cells slots : Nat} {Q : State → Prop} {cc : ByteArray} {nL pc : Nat} {ret : Option FieldType} {ls : Array Slot} {rest : List Value} {D : va_G} {cyI : ClassId} {ad : Nat → Nat} {I : Nat → Int32} {A : Nat → Nat → Int32}
theorem iv_X7_154 (E : EX p s m args meth c cc nL RX7 ret) (N : AdN 16 ad) (K0 : KM D cyI s s.heap) (P : va_P D classes (mw cyI ad I A) H) (S : va_S (InN 16 ad) s.heap H locs) {v : (Nat → Int32) × (Nat → Nat → Int32)} (hv : B_X7_driveAll I A  = some v) (hR : RmOk R cells slots 6 3) (hls : ls.size = nL) (hro : (rest.map fun v => v.category).sum ≤ 8) (hdg : decode cc pc = .ok (.invokevirtual 154, 3)) (kk : ∀ (H1 : Heap) (locs1 : List Loc), va_P D classes (mw cyI ad v.1 v.2) H1 → va_S (InN 16 ad) s.heap H1 locs1 → W p l e R s m args below meth c H1 locs1 cells slots Q (F0 m (pc + 3) ls (rest))) : W p l e R s m args below meth c H locs cells slots Q (F0 m pc ls (.ref (ad 0) :: rest)) :=
  cv_rw E (c_X7_driveAll l N P  hv) (gV kML_X7_154 kIM_X7_driveAll kSE_X7_driveAll kIN_X7 kCO_X7_driveAll) rfl ds_X7_driveAll rfl KM_blind (fun U _ hW => KM.warm hW K0) S (va_recv K0.k P (show classes[7]? = some (RX7, TX7, 27) from rfl) mw_g0) hR hls rfl hro hdg kk
end
section
variable {p : Program} {l : Launch} {e : Env} {R : Room} {s : State} {m : MethodId} {args : Array Value} {below : List Frame} {meth : Method} {c : Code} {H : Heap} {locs : List Loc} {cells slots : Nat} {Q : State → Prop} {cc : ByteArray} {nL pc : Nat} {ret : Option FieldType} {ls : Array Slot} {rest : List Value} {D : va_G} {cyI : ClassId} {ad : Nat → Nat} {I : Nat → Int32} {A : Nat → Nat → Int32}
theorem iv_X7_157 (E : EX p s m args meth c cc nL RX7 ret) (N : AdN 16 ad) (K0 : KM D cyI s s.heap) (P : va_P D classes (mw cyI ad I A) H) (S : va_S (InN 16 ad) s.heap H locs) {a0 a1 : Int32} {v : Int32 × (Nat → Int32) × (Nat → Nat → Int32)} (hv : B_X7_relax I A a0 a1 = some v) (hR : RmOk R cells slots 4 9) (hls : ls.size = nL) (hro : (rest.map fun v => v.category).sum ≤ 8) (hdg : decode cc pc = .ok (.invokevirtual 157, 3)) (kk : ∀ (H1 : Heap) (locs1 : List Loc), va_P D classes (mw cyI ad v.2.1 v.2.2) H1 → va_S (InN 16 ad) s.heap H1 locs1 → W p l e R s m args below meth c H1 locs1 cells slots Q (F0 m (pc + 3) ls (.int v.1 :: rest))) : W p l e R s m args below meth c H locs cells slots Q (F0 m pc ls (.int a1 :: .int a0 :: .ref (ad 0) :: rest)) :=
  cv_rw E (c_X7_relax l N P a0 a1 hv) (gV kML_X7_157 kIM_X7_relax kSE_X7_relax kIN_X7 kCO_X7_relax) rfl ds_X7_relax rfl KM_blind (fun U _ hW => KM.warm hW K0) S (va_recv K0.k P (show classes[7]? = some (RX7, TX7, 27) from rfl) mw_g0) hR hls rfl hro hdg kk
end
section
variable {p : Program} {l : Launch} {e : Env} {R : Room} {s : State} {m : MethodId} {args : Array Value} {below : List Frame} {meth : Method} {c : Code} {H : Heap} {locs : List Loc} {cells slots : Nat} {Q : State → Prop} {cc : ByteArray} {nL pc : Nat} {ret : Option FieldType} {ls : Array Slot} {rest : List Value} {D : va_G} {cyI : ClassId} {ad : Nat → Nat} {I : Nat → Int32} {A : Nat → Nat → Int32}
theorem iv_X7_160 (E : EX p s m args meth c cc nL RX7 ret) (K0 : KM D cyI s s.heap) (P : va_P D classes (mw cyI ad I A) H) (S : va_S (InN 16 ad) s.heap H locs) {a0 : Int32} {v : Int32} (hv : B_X7_greyOfPixel I A a0 = some v) (hR : RmOk R cells slots 3 6) (hls : ls.size = nL) (hro : (rest.map fun v => v.category).sum ≤ 8) (hdg : decode cc pc = .ok (.invokevirtual 160, 3)) (kk : W p l e R s m args below meth c H locs cells slots Q (F0 m (pc + 3) ls (.int v :: rest))) : W p l e R s m args below meth c H locs cells slots Q (F0 m pc ls (.int a0 :: .ref (ad 0) :: rest)) :=
  cv_ro E (c_X7_greyOfPixel l P a0 hv) (gV kML_X7_160 kIM_X7_greyOfPixel kSE_X7_greyOfPixel kIN_X7 kCO_X7_greyOfPixel) rfl ds_X7_greyOfPixel rfl KM_blind (fun U _ hW => KM.warm hW K0) (va_recv K0.k P (show classes[7]? = some (RX7, TX7, 27) from rfl) mw_g0) hR hls rfl hro hdg kk
end
section
variable {p : Program} {l : Launch} {e : Env} {s : State} {m : MethodId} {args : Array Value} {below : List Frame} {meth : Method} {c : Code} {D : va_G} {cyI : ClassId} {ad : Nat → Nat} {I : Nat → Int32} {A : Nat → Nat → Int32}
def B_X7_tick_L77  (x1 x3 x4 : Int32) : Nat → Int32 → Int32 → (Nat → Int32) → (Nat → Nat → Int32) → Option (Int32 × (Nat → Int32) × (Nat → Nat → Int32))
  | 0 => fun _ _ _ _ => none
  | n + 1 => fun x2 x5 I A => if (I 1) ≤ x5 then some ((x2, I, A)) else ((B_X7_relax I A x5 x4).bind fun q_8 => (B_X7_tick_L77 x1 x3 x4 n) ((x2 + q_8.1)) (x5 + 1) q_8.2.1 q_8.2.2)
theorem B_X7_tick_L77_s (I : Nat → Int32) (A : Nat → Nat → Int32) (x1 x3 x4 x2 x5 : Int32) (n : Nat) : B_X7_tick_L77  x1 x3 x4 (n + 1) x2 x5 I A = if (I 1) ≤ x5 then some ((x2, I, A)) else ((B_X7_relax I A x5 x4).bind fun q_8 => (B_X7_tick_L77 x1 x3 x4 n) ((x2 + q_8.1)) (x5 + 1) q_8.2.1 q_8.2.2) := rfl
set_option maxHeartbeats 4000000 in
set_option maxRecDepth 100000 in
theorem w_X7_tick_L77 (E : EX p s m args meth c cX7_tick 6 RX7 (some .int)) (K0 : KM D cyI s s.heap) (N : AdN 16 ad) {x1 x3 x4 : Int32} {out : Int32 × (Nat → Int32) × (Nat → Nat → Int32)} : ∀ (n : Nat) {x2 x5 : Int32} {I : Nat → Int32} {A : Nat → Nat → Int32} {H : Heap} {locs : List Loc} (P : va_P D classes (mw cyI ad I A) H) (S : va_S (InN 16 ad) s.heap H locs) {o : Int32 × (Nat → Int32) × (Nat → Nat → Int32)} (h : B_X7_tick_L77  x1 x3 x4 n x2 x5 I A = some o) {ls : Array Slot} (hl : lv_has ls 6 [(0, .ref (ad 0)), (1, .int x1), (2, .int x2), (3, .int x3), (4, .int x4), (5, .int x5)]) (kx : ∀ {H : Heap} {locs : List Loc} (_ : va_P D classes (mw cyI ad o.2.1 o.2.2) H) (_ : va_S (InN 16 ad) s.heap H locs) {ls : Array Slot}, lv_has ls 6 [(0, .ref (ad 0)), (1, .int x1), (2, .int o.1), (3, .int x3), (4, .int x4)] → W p l e (rmL 7) s m args below meth c H locs 0 0 (MQ below (Qrw (InN 16 ad) (some (.int out.1)) (fun H1 => va_P D classes (mw cyI ad out.2.1 out.2.2) H1)) args s 0 0 (InN 16 ad)) (F0 m 103 ls [])), W p l e (rmL 7) s m args below meth c H locs 0 0 (MQ below (Qrw (InN 16 ad) (some (.int out.1)) (fun H1 => va_P D classes (mw cyI ad out.2.1 out.2.2) H1)) args s 0 0 (InN 16 ad)) (F0 m 77 ls []) := by
  intro n
  induction n with
  | zero => intro x2 x5 I A H locs P S o h ls hl kx; exact nomatch (show none = some o from h)
  | succ n ih =>
    intro x2 x5 I A H locs P S o h ls hl kx
    rw [B_X7_tick_L77_s] at h
    refine lv_iload E.hx E.hb dX7_tick_77 (lv_at hl 5 rfl) ?_
    refine lv_aload_n E.hx E.hb dX7_tick_79 rfl (lv_at hl 0 rfl) ?_
    refine gf_X7_7 E K0 P dX7_tick_80 ?_
    refine lv_icmp_ge (tgt := 103) E.hx E.hb dX7_tick_83 (by decide) (fun c_7 => ?_) (fun c_7 => ?_)
    · rw [if_pos c_7] at h
      cases h
      exact kx P S (lv_sub hl [0, 1, 2, 3, 4] rfl)
    · rw [if_neg c_7] at h
      refine lv_iload_n E.hx E.hb dX7_tick_86 rfl (lv_at hl 2 rfl) ?_
      refine lv_aload_n E.hx E.hb dX7_tick_87 rfl (lv_at hl 0 rfl) ?_
      refine lv_iload E.hx E.hb dX7_tick_88 (lv_at hl 5 rfl) ?_
      refine lv_iload E.hx E.hb dX7_tick_90 (lv_at hl 4 rfl) ?_
      obtain ⟨q_8, e_9, h⟩ := obind h
      refine iv_X7_157 E N K0 P S e_9 (by decide) hl.1 (Nat.le_of_ble_eq_true rfl) dX7_tick_92 (fun H locs P S => ?_)
      refine lv_iadd E.hx E.hb dX7_tick_95 ?_
      refine lv_istore_n (lv' := [(2, .int (x2 + q_8.1)), (0, .ref (ad 0)), (1, .int x1), (3, .int x3), (4, .int x4), (5, .int x5)]) E.hx E.hb dX7_tick_96 rfl hl (by decide) rfl (fun ls hl => ?_)
      refine lv_iinc (v := x5 + 1) (lv' := [(5, .int (x5 + 1)), (2, .int (x2 + q_8.1)), (0, .ref (ad 0)), (1, .int x1), (3, .int x3), (4, .int x4)]) E.hx E.hb dX7_tick_97 hl (k := 5) rfl rfl (by decide) rfl (fun ls hl => ?_)
      refine lv_goto (tgt := 77) E.hx E.hb dX7_tick_100 (by decide) ?_
      exact ih P S h (lv_sub hl [2, 3, 1, 4, 5, 0] rfl) kx
def B_X7_tick_L65  (x1 x3 : Int32) : Nat → Int32 → Int32 → (Nat → Int32) → (Nat → Nat → Int32) → Option (Int32 × (Nat → Int32) × (Nat → Nat → Int32))
  | 0 => fun _ _ _ _ => none
  | n + 1 => fun x2 x4 I A => if (I 2) ≤ x4 then some ((x2, I, A)) else ((B_X7_tick_L77  x1 x3 x4 FU x2 0 I A).bind fun q_10 => (B_X7_tick_L65 x1 x3 n) q_10.1 (x4 + 1) q_10.2.1 q_10.2.2)
theorem B_X7_tick_L65_s (I : Nat → Int32) (A : Nat → Nat → Int32) (x1 x3 x2 x4 : Int32) (n : Nat) : B_X7_tick_L65  x1 x3 (n + 1) x2 x4 I A = if (I 2) ≤ x4 then some ((x2, I, A)) else ((B_X7_tick_L77  x1 x3 x4 FU x2 0 I A).bind fun q_10 => (B_X7_tick_L65 x1 x3 n) q_10.1 (x4 + 1) q_10.2.1 q_10.2.2) := rfl
set_option maxHeartbeats 4000000 in
set_option maxRecDepth 100000 in
theorem w_X7_tick_L65 (E : EX p s m args meth c cX7_tick 6 RX7 (some .int)) (K0 : KM D cyI s s.heap) (N : AdN 16 ad) {x1 x3 : Int32} {out : Int32 × (Nat → Int32) × (Nat → Nat → Int32)} : ∀ (n : Nat) {x2 x4 : Int32} {I : Nat → Int32} {A : Nat → Nat → Int32} {H : Heap} {locs : List Loc} (P : va_P D classes (mw cyI ad I A) H) (S : va_S (InN 16 ad) s.heap H locs) {o : Int32 × (Nat → Int32) × (Nat → Nat → Int32)} (h : B_X7_tick_L65  x1 x3 n x2 x4 I A = some o) {ls : Array Slot} (hl : lv_has ls 6 [(0, .ref (ad 0)), (1, .int x1), (2, .int x2), (3, .int x3), (4, .int x4)]) (kx : ∀ {H : Heap} {locs : List Loc} (_ : va_P D classes (mw cyI ad o.2.1 o.2.2) H) (_ : va_S (InN 16 ad) s.heap H locs) {ls : Array Slot}, lv_has ls 6 [(0, .ref (ad 0)), (1, .int x1), (2, .int o.1), (3, .int x3)] → W p l e (rmL 7) s m args below meth c H locs 0 0 (MQ below (Qrw (InN 16 ad) (some (.int out.1)) (fun H1 => va_P D classes (mw cyI ad out.2.1 out.2.2) H1)) args s 0 0 (InN 16 ad)) (F0 m 109 ls [])), W p l e (rmL 7) s m args below meth c H locs 0 0 (MQ below (Qrw (InN 16 ad) (some (.int out.1)) (fun H1 => va_P D classes (mw cyI ad out.2.1 out.2.2) H1)) args s 0 0 (InN 16 ad)) (F0 m 65 ls []) := by
  intro n
  induction n with
  | zero => intro x2 x4 I A H locs P S o h ls hl kx; exact nomatch (show none = some o from h)
  | succ n ih =>
    intro x2 x4 I A H locs P S o h ls hl kx
    rw [B_X7_tick_L65_s] at h
    refine lv_iload E.hx E.hb dX7_tick_65 (lv_at hl 4 rfl) ?_
    refine lv_aload_n E.hx E.hb dX7_tick_67 rfl (lv_at hl 0 rfl) ?_
    refine gf_X7_13 E K0 P dX7_tick_68 ?_
    refine lv_icmp_ge (tgt := 109) E.hx E.hb dX7_tick_71 (by decide) (fun c_6 => ?_) (fun c_6 => ?_)
    · rw [if_pos c_6] at h
      cases h
      exact kx P S (lv_sub hl [0, 1, 2, 3] rfl)
    · rw [if_neg c_6] at h
      refine lv_iconst (v := 0) E.hx E.hb dX7_tick_74 (by decide) ?_
      refine lv_istore (lv' := [(5, .int 0), (0, .ref (ad 0)), (1, .int x1), (2, .int x2), (3, .int x3), (4, .int x4)]) E.hx E.hb dX7_tick_75 hl (by decide) rfl (fun ls hl => ?_)
      obtain ⟨q_10, e_11, h⟩ := obind h
      refine w_X7_tick_L77 E K0 N FU P S e_11 (lv_sub hl [1, 2, 3, 4, 5, 0] rfl) (fun {H locs} P S {ls} hl => ?_)
      refine lv_iinc (v := x4 + 1) (lv' := [(4, .int (x4 + 1)), (0, .ref (ad 0)), (1, .int x1), (2, .int q_10.1), (3, .int x3)]) E.hx E.hb dX7_tick_103 hl (k := 4) rfl rfl (by decide) rfl (fun ls hl => ?_)
      refine lv_goto (tgt := 65) E.hx E.hb dX7_tick_106 (by decide) ?_
      exact ih P S h (lv_sub hl [1, 2, 3, 4, 0] rfl) kx
def B_X7_tick_L112  (x1 x2 x3 : Int32) : Nat → Int32 → (Nat → Int32) → (Nat → Nat → Int32) → Option ((Nat → Int32) × (Nat → Nat → Int32))
  | 0 => fun _ _ _ => none
  | n + 1 => fun x4 I A => if (I 9) ≤ x4 then some ((I, A)) else ((rd (A 8) 8 x4).bind fun v_15 => (B_X7_greyOfPixel I A x4).bind fun r_17 => (wr (A 7) 64 (((8 * x4) + (v_15 - v_15 / 8 * 8))) r_17).bind fun g_19 => (rd (((va_up A 7 g_19)) 8) 8 x4).bind fun v_21 => (wr (((va_up A 7 g_19)) 8) 8 x4 ((v_21 + 1))).bind fun g_23 => (B_X7_tick_L112 x1 x2 x3 n) (x4 + 1) I ((va_up ((va_up A 7 g_19)) 8 g_23)))
theorem B_X7_tick_L112_s (I : Nat → Int32) (A : Nat → Nat → Int32) (x1 x2 x3 x4 : Int32) (n : Nat) : B_X7_tick_L112  x1 x2 x3 (n + 1) x4 I A = if (I 9) ≤ x4 then some ((I, A)) else ((rd (A 8) 8 x4).bind fun v_15 => (B_X7_greyOfPixel I A x4).bind fun r_17 => (wr (A 7) 64 (((8 * x4) + (v_15 - v_15 / 8 * 8))) r_17).bind fun g_19 => (rd (((va_up A 7 g_19)) 8) 8 x4).bind fun v_21 => (wr (((va_up A 7 g_19)) 8) 8 x4 ((v_21 + 1))).bind fun g_23 => (B_X7_tick_L112 x1 x2 x3 n) (x4 + 1) I ((va_up ((va_up A 7 g_19)) 8 g_23))) := rfl
set_option maxHeartbeats 4000000 in
set_option maxRecDepth 100000 in
theorem w_X7_tick_L112 (E : EX p s m args meth c cX7_tick 6 RX7 (some .int)) (K0 : KM D cyI s s.heap) (N : AdN 16 ad) {x1 x2 x3 : Int32} {out : Int32 × (Nat → Int32) × (Nat → Nat → Int32)} : ∀ (n : Nat) {x4 : Int32} {I : Nat → Int32} {A : Nat → Nat → Int32} {H : Heap} {locs : List Loc} (P : va_P D classes (mw cyI ad I A) H) (S : va_S (InN 16 ad) s.heap H locs) {o : (Nat → Int32) × (Nat → Nat → Int32)} (h : B_X7_tick_L112  x1 x2 x3 n x4 I A = some o) {ls : Array Slot} (hl : lv_has ls 6 [(0, .ref (ad 0)), (1, .int x1), (2, .int x2), (3, .int x3), (4, .int x4)]) (kx : ∀ {H : Heap} {locs : List Loc} (_ : va_P D classes (mw cyI ad o.1 o.2) H) (_ : va_S (InN 16 ad) s.heap H locs) {ls : Array Slot}, lv_has ls 6 [(0, .ref (ad 0)), (1, .int x1), (2, .int x2), (3, .int x3)] → W p l e (rmL 7) s m args below meth c H locs 0 0 (MQ below (Qrw (InN 16 ad) (some (.int out.1)) (fun H1 => va_P D classes (mw cyI ad out.2.1 out.2.2) H1)) args s 0 0 (InN 16 ad)) (F0 m 165 ls [])), W p l e (rmL 7) s m args below meth c H locs 0 0 (MQ below (Qrw (InN 16 ad) (some (.int out.1)) (fun H1 => va_P D classes (mw cyI ad out.2.1 out.2.2) H1)) args s 0 0 (InN 16 ad)) (F0 m 112 ls []) := by
  intro n
  induction n with
  | zero => intro x4 I A H locs P S o h ls hl kx; exact nomatch (show none = some o from h)
  | succ n ih =>
    intro x4 I A H locs P S o h ls hl kx
    rw [B_X7_tick_L112_s] at h
    refine lv_iload E.hx E.hb dX7_tick_112 (lv_at hl 4 rfl) ?_
    refine lv_aload_n E.hx E.hb dX7_tick_114 rfl (lv_at hl 0 rfl) ?_
    refine gf_X7_71 E K0 P dX7_tick_115 ?_
    refine lv_icmp_ge (tgt := 165) E.hx E.hb dX7_tick_118 (by decide) (fun c_14 => ?_) (fun c_14 => ?_)
    · rw [if_pos c_14] at h
      cases h
      exact kx P S (lv_sub hl [0, 1, 2, 3] rfl)
    · rw [if_neg c_14] at h
      refine lv_aload_n E.hx E.hb dX7_tick_121 rfl (lv_at hl 0 rfl) ?_
      refine gf_X7_44 E K0 P dX7_tick_122 ?_
      refine lv_bipush (v := 8) E.hx E.hb dX7_tick_125 (by decide) ?_
      refine lv_iload E.hx E.hb dX7_tick_127 (lv_at hl 4 rfl) ?_
      refine lv_imul E.hx E.hb dX7_tick_129 ?_
      refine lv_aload_n E.hx E.hb dX7_tick_130 rfl (lv_at hl 0 rfl) ?_
      refine gf_X7_47 E K0 P dX7_tick_131 ?_
      refine lv_iload E.hx E.hb dX7_tick_134 (lv_at hl 4 rfl) ?_
      obtain ⟨v_15, e_16, h⟩ := obind h
      refine al_8 E K0 P e_16 dX7_tick_136 ?_
      refine lv_bipush (v := 8) E.hx E.hb dX7_tick_137 (by decide) ?_
      refine lv_irem E.hx E.hb dX7_tick_139 (by decide) ?_
      refine lv_iadd E.hx E.hb dX7_tick_140 ?_
      refine lv_aload_n E.hx E.hb dX7_tick_141 rfl (lv_at hl 0 rfl) ?_
      refine lv_iload E.hx E.hb dX7_tick_142 (lv_at hl 4 rfl) ?_
      obtain ⟨r_17, e_18, h⟩ := obind h
      refine iv_X7_160 (ad := ad) E K0 P S e_18 (by decide) hl.1 (Nat.le_of_ble_eq_true rfl) dX7_tick_144 ?_
      obtain ⟨g_19, e_20, h⟩ := obind h
      refine as_7 E N K0 P S e_20 dX7_tick_147 (fun H locs P S => ?_)
      refine lv_aload_n E.hx E.hb dX7_tick_148 rfl (lv_at hl 0 rfl) ?_
      refine gf_X7_47 E K0 P dX7_tick_149 ?_
      refine lv_iload E.hx E.hb dX7_tick_152 (lv_at hl 4 rfl) ?_
      refine lv_dup2_11 E.hx E.hb dX7_tick_154 rfl rfl ?_
      obtain ⟨v_21, e_22, h⟩ := obind h
      refine al_8 E K0 P e_22 dX7_tick_155 ?_
      refine lv_iconst (v := 1) E.hx E.hb dX7_tick_156 (by decide) ?_
      refine lv_iadd E.hx E.hb dX7_tick_157 ?_
      obtain ⟨g_23, e_24, h⟩ := obind h
      refine as_8 E N K0 P S e_24 dX7_tick_158 (fun H locs P S => ?_)
      refine lv_iinc (v := x4 + 1) (lv' := [(4, .int (x4 + 1)), (0, .ref (ad 0)), (1, .int x1), (2, .int x2), (3, .int x3)]) E.hx E.hb dX7_tick_159 hl (k := 4) rfl rfl (by decide) rfl (fun ls hl => ?_)
      refine lv_goto (tgt := 112) E.hx E.hb dX7_tick_162 (by decide) ?_
      exact ih P S h (lv_sub hl [1, 2, 3, 4, 0] rfl) kx
def B_X7_tick_L43  (x1 : Int32) : Nat → Int32 → Int32 → (Nat → Int32) → (Nat → Nat → Int32) → Option (Int32 × (Nat → Int32) × (Nat → Nat → Int32))
  | 0 => fun _ _ _ _ => none
  | n + 1 => fun x2 x3 I A => if x1 ≤ x3 then some ((x2, I, A)) else ((B_X7_driveAll ((va_up I 6 (((I 6) + 1)))) A ).bind fun q_4 => (B_X7_tick_L65  x1 x3 FU x2 0 q_4.1 q_4.2).bind fun q_12 => (B_X7_tick_L112  x1 q_12.1 x3 FU 0 q_12.2.1 q_12.2.2).bind fun q_25 => (B_X7_tick_L43 x1 n) q_12.1 (x3 + 1) q_25.1 q_25.2)
theorem B_X7_tick_L43_s (I : Nat → Int32) (A : Nat → Nat → Int32) (x1 x2 x3 : Int32) (n : Nat) : B_X7_tick_L43  x1 (n + 1) x2 x3 I A = if x1 ≤ x3 then some ((x2, I, A)) else ((B_X7_driveAll ((va_up I 6 (((I 6) + 1)))) A ).bind fun q_4 => (B_X7_tick_L65  x1 x3 FU x2 0 q_4.1 q_4.2).bind fun q_12 => (B_X7_tick_L112  x1 q_12.1 x3 FU 0 q_12.2.1 q_12.2.2).bind fun q_25 => (B_X7_tick_L43 x1 n) q_12.1 (x3 + 1) q_25.1 q_25.2) := rfl
set_option maxHeartbeats 4000000 in
set_option maxRecDepth 100000 in
theorem w_X7_tick_L43 (E : EX p s m args meth c cX7_tick 6 RX7 (some .int)) (K0 : KM D cyI s s.heap) (N : AdN 16 ad) {x1 : Int32} {out : Int32 × (Nat → Int32) × (Nat → Nat → Int32)} : ∀ (n : Nat) {x2 x3 : Int32} {I : Nat → Int32} {A : Nat → Nat → Int32} {H : Heap} {locs : List Loc} (P : va_P D classes (mw cyI ad I A) H) (S : va_S (InN 16 ad) s.heap H locs) {o : Int32 × (Nat → Int32) × (Nat → Nat → Int32)} (h : B_X7_tick_L43  x1 n x2 x3 I A = some o) {ls : Array Slot} (hl : lv_has ls 6 [(0, .ref (ad 0)), (1, .int x1), (2, .int x2), (3, .int x3)]) (kx : ∀ {H : Heap} {locs : List Loc} (_ : va_P D classes (mw cyI ad o.2.1 o.2.2) H) (_ : va_S (InN 16 ad) s.heap H locs) {ls : Array Slot}, lv_has ls 6 [(0, .ref (ad 0)), (2, .int o.1)] → W p l e (rmL 7) s m args below meth c H locs 0 0 (MQ below (Qrw (InN 16 ad) (some (.int out.1)) (fun H1 => va_P D classes (mw cyI ad out.2.1 out.2.2) H1)) args s 0 0 (InN 16 ad)) (F0 m 171 ls [])), W p l e (rmL 7) s m args below meth c H locs 0 0 (MQ below (Qrw (InN 16 ad) (some (.int out.1)) (fun H1 => va_P D classes (mw cyI ad out.2.1 out.2.2) H1)) args s 0 0 (InN 16 ad)) (F0 m 43 ls []) := by
  intro n
  induction n with
  | zero => intro x2 x3 I A H locs P S o h ls hl kx; exact nomatch (show none = some o from h)
  | succ n ih =>
    intro x2 x3 I A H locs P S o h ls hl kx
    rw [B_X7_tick_L43_s] at h
    refine lv_iload_n E.hx E.hb dX7_tick_43 rfl (lv_at hl 3 rfl) ?_
    refine lv_iload_n E.hx E.hb dX7_tick_44 rfl (lv_at hl 1 rfl) ?_
    refine lv_icmp_ge (tgt := 171) E.hx E.hb dX7_tick_45 (by decide) (fun c_3 => ?_) (fun c_3 => ?_)
    · rw [if_pos c_3] at h
      cases h
      exact kx P S (lv_sub hl [0, 2] rfl)
    · rw [if_neg c_3] at h
      refine lv_aload_n E.hx E.hb dX7_tick_48 rfl (lv_at hl 0 rfl) ?_
      refine lv_dup E.hx E.hb dX7_tick_49 rfl ?_
      refine gf_X7_80 E K0 P dX7_tick_50 ?_
      refine lv_iconst (v := 1) E.hx E.hb dX7_tick_53 (by decide) ?_
      refine lv_iadd E.hx E.hb dX7_tick_54 ?_
      refine pf_X7_80 E N K0 P S dX7_tick_55 (fun H locs P S => ?_)
      refine lv_aload_n E.hx E.hb dX7_tick_58 rfl (lv_at hl 0 rfl) ?_
      obtain ⟨q_4, e_5, h⟩ := obind h
      refine iv_X7_154 E N K0 P S e_5 (by decide) hl.1 (Nat.le_of_ble_eq_true rfl) dX7_tick_59 (fun H locs P S => ?_)
      refine lv_iconst (v := 0) E.hx E.hb dX7_tick_62 (by decide) ?_
      refine lv_istore (lv' := [(4, .int 0), (0, .ref (ad 0)), (1, .int x1), (2, .int x2), (3, .int x3)]) E.hx E.hb dX7_tick_63 hl (by decide) rfl (fun ls hl => ?_)
      obtain ⟨q_12, e_13, h⟩ := obind h
      refine w_X7_tick_L65 E K0 N FU P S e_13 (lv_sub hl [1, 2, 3, 4, 0] rfl) (fun {H locs} P S {ls} hl => ?_)
      refine lv_iconst (v := 0) E.hx E.hb dX7_tick_109 (by decide) ?_
      refine lv_istore (lv' := [(4, .int 0), (0, .ref (ad 0)), (1, .int x1), (2, .int q_12.1), (3, .int x3)]) E.hx E.hb dX7_tick_110 hl (by decide) rfl (fun ls hl => ?_)
      obtain ⟨q_25, e_26, h⟩ := obind h
      refine w_X7_tick_L112 E K0 N FU P S e_26 (lv_sub hl [1, 2, 3, 4, 0] rfl) (fun {H locs} P S {ls} hl => ?_)
      refine lv_iinc (v := x3 + 1) (lv' := [(3, .int (x3 + 1)), (0, .ref (ad 0)), (1, .int x1), (2, .int q_12.1)]) E.hx E.hb dX7_tick_165 hl (k := 3) rfl rfl (by decide) rfl (fun ls hl => ?_)
      refine lv_goto (tgt := 43) E.hx E.hb dX7_tick_168 (by decide) ?_
      exact ih P S h (lv_sub hl [1, 2, 3, 0] rfl) kx
def B_X7_tick (I : Nat → Int32) (A : Nat → Nat → Int32) (x1 : Int32) : Option (Int32 × (Nat → Int32) × (Nat → Nat → Int32)) := if (B_X7_in x1 1 50) = 0 then ((B_X7_stop ((va_up I 0 0)) A 1).bind fun q_31 => some (q_31.1, q_31.2.1, q_31.2.2)) else (if ((((va_up I 0 0)) 6) + x1) ≤ 2000 then ((B_X7_tick_L43  x1 FU 0 0 ((va_up I 0 0)) A).bind fun q_27 => some (q_27.1, (va_up q_27.2.1 8 (((q_27.2.1 8) + q_27.1))), q_27.2.2)) else ((B_X7_stop ((va_up I 0 0)) A 2).bind fun q_29 => some (q_29.1, q_29.2.1, q_29.2.2)))
set_option maxHeartbeats 4000000 in
set_option maxRecDepth 100000 in
theorem w_X7_tick (E : EX p s m args meth c cX7_tick 6 RX7 (some .int)) (K0 : KM D cyI s s.heap) (N : AdN 16 ad) {H : Heap} {locs : List Loc} (P : va_P D classes (mw cyI ad I A) H) (S : va_S (InN 16 ad) s.heap H locs)  {x1 : Int32} {out : Int32 × (Nat → Int32) × (Nat → Nat → Int32)} (h : B_X7_tick I A x1 = some out) {ls : Array Slot} (hl : lv_has ls 6 [(0, .ref (ad 0)), (1, .int x1)]) : W p l e (rmL 7) s m args below meth c H locs 0 0 (MQ below (Qrw (InN 16 ad) (some (.int out.1)) (fun H1 => va_P D classes (mw cyI ad out.2.1 out.2.2) H1)) args s 0 0 (InN 16 ad)) (F0 m 0 ls []) := by
  unfold B_X7_tick at h
  refine lv_aload_n E.hx E.hb dX7_tick_0 rfl (lv_at hl 0 rfl) ?_
  refine lv_iconst (v := 0) E.hx E.hb dX7_tick_1 (by decide) ?_
  refine pf_X7_89 E N K0 P S dX7_tick_2 (fun H locs P S => ?_)
  refine lv_iload_n E.hx E.hb dX7_tick_5 rfl (lv_at hl 1 rfl) ?_
  refine lv_iconst (v := 1) E.hx E.hb dX7_tick_6 (by decide) ?_
  refine lv_bipush (v := 50) E.hx E.hb dX7_tick_7 (by decide) ?_
  refine iv_X7_92 (ad := ad) E K0 S (by decide) hl.1 (Nat.le_of_ble_eq_true rfl) dX7_tick_9 ?_
  refine lv_if_ne (tgt := 21) E.hx E.hb dX7_tick_12 (by decide) (fun c_1 => ?_) (fun c_1 => ?_)
  · rw [if_neg c_1] at h
    refine lv_aload_n E.hx E.hb dX7_tick_21 rfl (lv_at hl 0 rfl) ?_
    refine gf_X7_80 E K0 P dX7_tick_22 ?_
    refine lv_iload_n E.hx E.hb dX7_tick_25 rfl (lv_at hl 1 rfl) ?_
    refine lv_iadd E.hx E.hb dX7_tick_26 ?_
    refine lv_sipush (v := 2000) E.hx E.hb dX7_tick_27 (by decide) ?_
    refine lv_icmp_le (tgt := 39) E.hx E.hb dX7_tick_30 (by decide) (fun c_2 => ?_) (fun c_2 => ?_)
    · rw [if_pos c_2] at h
      refine lv_iconst (v := 0) E.hx E.hb dX7_tick_39 (by decide) ?_
      refine lv_istore_n (lv' := [(2, .int 0), (0, .ref (ad 0)), (1, .int x1)]) E.hx E.hb dX7_tick_40 rfl hl (by decide) rfl (fun ls hl => ?_)
      refine lv_iconst (v := 0) E.hx E.hb dX7_tick_41 (by decide) ?_
      refine lv_istore_n (lv' := [(3, .int 0), (2, .int 0), (0, .ref (ad 0)), (1, .int x1)]) E.hx E.hb dX7_tick_42 rfl hl (by decide) rfl (fun ls hl => ?_)
      obtain ⟨q_27, e_28, h⟩ := obind h
      refine w_X7_tick_L43 E K0 N FU P S e_28 (lv_sub hl [2, 3, 1, 0] rfl) (fun {H locs} P S {ls} hl => ?_)
      refine lv_aload_n E.hx E.hb dX7_tick_171 rfl (lv_at hl 0 rfl) ?_
      refine lv_dup E.hx E.hb dX7_tick_172 rfl ?_
      refine gf_X7_86 E K0 P dX7_tick_173 ?_
      refine lv_iload_n E.hx E.hb dX7_tick_176 rfl (lv_at hl 1 rfl) ?_
      refine lv_iadd E.hx E.hb dX7_tick_177 ?_
      refine pf_X7_86 E N K0 P S dX7_tick_178 (fun H locs P S => ?_)
      refine lv_iload_n E.hx E.hb dX7_tick_181 rfl (lv_at hl 1 rfl) ?_
      cases h
      exact W.iret E.hx E.hb E.hr (fun t ht _ => ⟨rfl, by rw [ht]; exact P, S.F ht⟩) S.2.2 dX7_tick_182 E.hk
    · rw [if_neg c_2] at h
      refine lv_aload_n E.hx E.hb dX7_tick_33 rfl (lv_at hl 0 rfl) ?_
      refine lv_iconst (v := 2) E.hx E.hb dX7_tick_34 (by decide) ?_
      obtain ⟨q_29, e_30, h⟩ := obind h
      refine iv_X7_122 E N K0 P S e_30 (by decide) hl.1 (Nat.le_of_ble_eq_true rfl) dX7_tick_35 (fun H locs P S => ?_)
      cases h
      exact W.iret E.hx E.hb E.hr (fun t ht _ => ⟨rfl, by rw [ht]; exact P, S.F ht⟩) S.2.2 dX7_tick_38 E.hk
  · rw [if_pos c_1] at h
    refine lv_aload_n E.hx E.hb dX7_tick_15 rfl (lv_at hl 0 rfl) ?_
    refine lv_iconst (v := 1) E.hx E.hb dX7_tick_16 (by decide) ?_
    obtain ⟨q_31, e_32, h⟩ := obind h
    refine iv_X7_122 E N K0 P S e_32 (by decide) hl.1 (Nat.le_of_ble_eq_true rfl) dX7_tick_17 (fun H locs P S => ?_)
    cases h
    exact W.iret E.hx E.hb E.hr (fun t ht _ => ⟨rfl, by rw [ht]; exact P, S.F ht⟩) S.2.2 dX7_tick_20 E.hk
theorem c_X7_tick (l : Launch) {H : Heap} {D : va_G} {cyI : ClassId} {ad : Nat → Nat} {I : Nat → Int32} {A : Nat → Nat → Int32} (N : AdN 16 ad) (P : va_P D classes (mw cyI ad I A) H) (x1 : Int32) {out : Int32 × (Nat → Int32) × (Nat → Nat → Int32)} (h : B_X7_tick I A x1 = some out) : MRW l yX7_tick cX7_tick 6 (some .int) 7 [.ref (ad 0), .int x1] H (KM D cyI) (InN 16 ad) (some (.int out.1)) (fun H1 => va_P D classes (mw cyI ad out.2.1 out.2.2) H1) := by
  refine Mof (own := RX7) (by decide +kernel) rfl rfl ?_
  intro p e s m args below meth c ls E hH K0 hl
  subst hH
  exact w_X7_tick E K0 N P va_S.rf h hl
theorem ds_X7_tick : Dsc yX7_tick 1 := ⟨by decide +kernel, by decide +kernel, by decide +kernel⟩
end
section
variable {p : Program} {l : Launch} {e : Env} {s : State} {m : MethodId} {args : Array Value} {below : List Frame} {meth : Method} {c : Code} {D : va_G} {cyI : ClassId} {ad : Nat → Nat} {I : Nat → Int32} {A : Nat → Nat → Int32}
def B_X7_plates (I : Nat → Int32) (A : Nat → Nat → Int32) (x1 : Int32) : Option (Int32 × (Nat → Int32) × (Nat → Nat → Int32)) := if (B_X7_isDirection x1) = 0 then ((B_X7_stop ((va_up I 0 0)) A 1).bind fun q_2 => some (q_2.1, q_2.2.1, q_2.2.2)) else some ((((va_up I 0 0)) 5), (va_up ((va_up I 0 0)) 5 x1), A)
set_option maxHeartbeats 4000000 in
set_option maxRecDepth 100000 in
theorem w_X7_plates (E : EX p s m args meth c cX7_plates 3 RX7 (some .int)) (K0 : KM D cyI s s.heap) (N : AdN 16 ad) {H : Heap} {locs : List Loc} (P : va_P D classes (mw cyI ad I A) H) (S : va_S (InN 16 ad) s.heap H locs)  {x1 : Int32} {out : Int32 × (Nat → Int32) × (Nat → Nat → Int32)} (h : B_X7_plates I A x1 = some out) {ls : Array Slot} (hl : lv_has ls 3 [(0, .ref (ad 0)), (1, .int x1)]) : W p l e (rmL 2) s m args below meth c H locs 0 0 (MQ below (Qrw (InN 16 ad) (some (.int out.1)) (fun H1 => va_P D classes (mw cyI ad out.2.1 out.2.2) H1)) args s 0 0 (InN 16 ad)) (F0 m 0 ls []) := by
  unfold B_X7_plates at h
  refine lv_aload_n E.hx E.hb dX7_plates_0 rfl (lv_at hl 0 rfl) ?_
  refine lv_iconst (v := 0) E.hx E.hb dX7_plates_1 (by decide) ?_
  refine pf_X7_89 E N K0 P S dX7_plates_2 (fun H locs P S => ?_)
  refine lv_iload_n E.hx E.hb dX7_plates_5 rfl (lv_at hl 1 rfl) ?_
  refine iv_X7_129 (ad := ad) E K0 S (by decide) hl.1 (Nat.le_of_ble_eq_true rfl) dX7_plates_6 ?_
  refine lv_if_ne (tgt := 18) E.hx E.hb dX7_plates_9 (by decide) (fun c_1 => ?_) (fun c_1 => ?_)
  · rw [if_neg c_1] at h
    refine lv_aload_n E.hx E.hb dX7_plates_18 rfl (lv_at hl 0 rfl) ?_
    refine gf_X7_148 E K0 P dX7_plates_19 ?_
    refine lv_istore_n (lv' := [(2, .int (((va_up I 0 0)) 5)), (0, .ref (ad 0)), (1, .int x1)]) E.hx E.hb dX7_plates_22 rfl hl (by decide) rfl (fun ls hl => ?_)
    refine lv_aload_n E.hx E.hb dX7_plates_23 rfl (lv_at hl 1 rfl) ?_
    refine lv_iload_n E.hx E.hb dX7_plates_24 rfl (lv_at hl 2 rfl) ?_
    refine pf_X7_148 E N K0 P S dX7_plates_25 (fun H locs P S => ?_)
    refine lv_iload_n E.hx E.hb dX7_plates_28 rfl (lv_at hl 0 rfl) ?_
    cases h
    exact W.iret E.hx E.hb E.hr (fun t ht _ => ⟨rfl, by rw [ht]; exact P, S.F ht⟩) S.2.2 dX7_plates_29 E.hk
  · rw [if_pos c_1] at h
    refine lv_aload_n E.hx E.hb dX7_plates_12 rfl (lv_at hl 0 rfl) ?_
    refine lv_iconst (v := 1) E.hx E.hb dX7_plates_13 (by decide) ?_
    obtain ⟨q_2, e_3, h⟩ := obind h
    refine iv_X7_122 E N K0 P S e_3 (by decide) hl.1 (Nat.le_of_ble_eq_true rfl) dX7_plates_14 (fun H locs P S => ?_)
    cases h
    exact W.iret E.hx E.hb E.hr (fun t ht _ => ⟨rfl, by rw [ht]; exact P, S.F ht⟩) S.2.2 dX7_plates_17 E.hk
theorem c_X7_plates (l : Launch) {H : Heap} {D : va_G} {cyI : ClassId} {ad : Nat → Nat} {I : Nat → Int32} {A : Nat → Nat → Int32} (N : AdN 16 ad) (P : va_P D classes (mw cyI ad I A) H) (x1 : Int32) {out : Int32 × (Nat → Int32) × (Nat → Nat → Int32)} (h : B_X7_plates I A x1 = some out) : MRW l yX7_plates cX7_plates 3 (some .int) 2 [.ref (ad 0), .int x1] H (KM D cyI) (InN 16 ad) (some (.int out.1)) (fun H1 => va_P D classes (mw cyI ad out.2.1 out.2.2) H1) := by
  refine Mof (own := RX7) (by decide +kernel) rfl rfl ?_
  intro p e s m args below meth c ls E hH K0 hl
  subst hH
  exact w_X7_plates E K0 N P va_S.rf h hl
theorem ds_X7_plates : Dsc yX7_plates 1 := ⟨by decide +kernel, by decide +kernel, by decide +kernel⟩
end
section
variable {p : Program} {l : Launch} {e : Env} {s : State} {m : MethodId} {args : Array Value} {below : List Frame} {meth : Method} {c : Code} {D : va_G} {cyI : ClassId} {ad : Nat → Nat} {I : Nat → Int32} {A : Nat → Nat → Int32}
def B_X7_picture_L45  (x1 : Int32) : Nat → Int32 → (Nat → Int32) → (Nat → Nat → Int32) → Option ((Nat → Int32) × (Nat → Nat → Int32))
  | 0 => fun _ _ _ => none
  | n + 1 => fun x2 I A => if (I 1) ≤ x2 then some ((I, A)) else ((B_X7_greyAt I A x2 x1 ((I 5))).bind fun r_6 => (wr (A 14) 1440 (((144 * (I 11)) + (B_X7_cell x2 x1))) r_6).bind fun g_8 => (B_X7_picture_L45 x1 n) (x2 + 1) I ((va_up A 14 g_8)))
theorem B_X7_picture_L45_s (I : Nat → Int32) (A : Nat → Nat → Int32) (x1 x2 : Int32) (n : Nat) : B_X7_picture_L45  x1 (n + 1) x2 I A = if (I 1) ≤ x2 then some ((I, A)) else ((B_X7_greyAt I A x2 x1 ((I 5))).bind fun r_6 => (wr (A 14) 1440 (((144 * (I 11)) + (B_X7_cell x2 x1))) r_6).bind fun g_8 => (B_X7_picture_L45 x1 n) (x2 + 1) I ((va_up A 14 g_8))) := rfl
set_option maxHeartbeats 4000000 in
set_option maxRecDepth 100000 in
theorem w_X7_picture_L45 (E : EX p s m args meth c cX7_picture 3 RX7 (some .int)) (K0 : KM D cyI s s.heap) (N : AdN 16 ad) {x1 : Int32} {out : Int32 × (Nat → Int32) × (Nat → Nat → Int32)} : ∀ (n : Nat) {x2 : Int32} {I : Nat → Int32} {A : Nat → Nat → Int32} {H : Heap} {locs : List Loc} (P : va_P D classes (mw cyI ad I A) H) (S : va_S (InN 16 ad) s.heap H locs) {o : (Nat → Int32) × (Nat → Nat → Int32)} (h : B_X7_picture_L45  x1 n x2 I A = some o) {ls : Array Slot} (hl : lv_has ls 3 [(0, .ref (ad 0)), (1, .int x1), (2, .int x2)]) (kx : ∀ {H : Heap} {locs : List Loc} (_ : va_P D classes (mw cyI ad o.1 o.2) H) (_ : va_S (InN 16 ad) s.heap H locs) {ls : Array Slot}, lv_has ls 3 [(0, .ref (ad 0)), (1, .int x1)] → W p l e (rmL 3) s m args below meth c H locs 0 0 (MQ below (Qrw (InN 16 ad) (some (.int out.1)) (fun H1 => va_P D classes (mw cyI ad out.2.1 out.2.2) H1)) args s 0 0 (InN 16 ad)) (F0 m 88 ls [])), W p l e (rmL 3) s m args below meth c H locs 0 0 (MQ below (Qrw (InN 16 ad) (some (.int out.1)) (fun H1 => va_P D classes (mw cyI ad out.2.1 out.2.2) H1)) args s 0 0 (InN 16 ad)) (F0 m 45 ls []) := by
  intro n
  induction n with
  | zero => intro x2 I A H locs P S o h ls hl kx; exact nomatch (show none = some o from h)
  | succ n ih =>
    intro x2 I A H locs P S o h ls hl kx
    rw [B_X7_picture_L45_s] at h
    refine lv_iload_n E.hx E.hb dX7_picture_45 rfl (lv_at hl 2 rfl) ?_
    refine lv_aload_n E.hx E.hb dX7_picture_46 rfl (lv_at hl 0 rfl) ?_
    refine gf_X7_7 E K0 P dX7_picture_47 ?_
    refine lv_icmp_ge (tgt := 88) E.hx E.hb dX7_picture_50 (by decide) (fun c_5 => ?_) (fun c_5 => ?_)
    · rw [if_pos c_5] at h
      cases h
      exact kx P S (lv_sub hl [0, 1] rfl)
    · rw [if_neg c_5] at h
      refine lv_aload_n E.hx E.hb dX7_picture_53 rfl (lv_at hl 0 rfl) ?_
      refine gf_X7_65 E K0 P dX7_picture_54 ?_
      refine lv_sipush (v := 144) E.hx E.hb dX7_picture_57 (by decide) ?_
      refine lv_aload_n E.hx E.hb dX7_picture_60 rfl (lv_at hl 0 rfl) ?_
      refine gf_X7_77 E K0 P dX7_picture_61 ?_
      refine lv_imul E.hx E.hb dX7_picture_64 ?_
      refine lv_iload_n E.hx E.hb dX7_picture_65 rfl (lv_at hl 2 rfl) ?_
      refine lv_iload_n E.hx E.hb dX7_picture_66 rfl (lv_at hl 1 rfl) ?_
      refine iv_X7_100 (ad := ad) E K0 S (by decide) hl.1 (Nat.le_of_ble_eq_true rfl) dX7_picture_67 ?_
      refine lv_iadd E.hx E.hb dX7_picture_70 ?_
      refine lv_aload_n E.hx E.hb dX7_picture_71 rfl (lv_at hl 0 rfl) ?_
      refine lv_iload_n E.hx E.hb dX7_picture_72 rfl (lv_at hl 2 rfl) ?_
      refine lv_iload_n E.hx E.hb dX7_picture_73 rfl (lv_at hl 1 rfl) ?_
      refine lv_aload_n E.hx E.hb dX7_picture_74 rfl (lv_at hl 0 rfl) ?_
      refine gf_X7_148 E K0 P dX7_picture_75 ?_
      obtain ⟨r_6, e_7, h⟩ := obind h
      refine iv_X7_151 (ad := ad) E K0 P S e_7 (by decide) hl.1 (Nat.le_of_ble_eq_true rfl) dX7_picture_78 ?_
      obtain ⟨g_8, e_9, h⟩ := obind h
      refine as_14 E N K0 P S e_9 dX7_picture_81 (fun H locs P S => ?_)
      refine lv_iinc (v := x2 + 1) (lv' := [(2, .int (x2 + 1)), (0, .ref (ad 0)), (1, .int x1)]) E.hx E.hb dX7_picture_82 hl (k := 2) rfl rfl (by decide) rfl (fun ls hl => ?_)
      refine lv_goto (tgt := 45) E.hx E.hb dX7_picture_85 (by decide) ?_
      exact ih P S h (lv_sub hl [1, 2, 0] rfl) kx
def B_X7_picture_L35   : Nat → Int32 → (Nat → Int32) → (Nat → Nat → Int32) → Option ((Nat → Int32) × (Nat → Nat → Int32))
  | 0 => fun _ _ _ => none
  | n + 1 => fun x1 I A => if (I 2) ≤ x1 then some ((I, A)) else ((B_X7_picture_L45  x1 FU 0 I A).bind fun q_10 => (B_X7_picture_L35 n) (x1 + 1) q_10.1 q_10.2)
theorem B_X7_picture_L35_s (I : Nat → Int32) (A : Nat → Nat → Int32) (x1 : Int32) (n : Nat) : B_X7_picture_L35   (n + 1) x1 I A = if (I 2) ≤ x1 then some ((I, A)) else ((B_X7_picture_L45  x1 FU 0 I A).bind fun q_10 => (B_X7_picture_L35 n) (x1 + 1) q_10.1 q_10.2) := rfl
set_option maxHeartbeats 4000000 in
set_option maxRecDepth 100000 in
theorem w_X7_picture_L35 (E : EX p s m args meth c cX7_picture 3 RX7 (some .int)) (K0 : KM D cyI s s.heap) (N : AdN 16 ad) {out : Int32 × (Nat → Int32) × (Nat → Nat → Int32)} : ∀ (n : Nat) {x1 : Int32} {I : Nat → Int32} {A : Nat → Nat → Int32} {H : Heap} {locs : List Loc} (P : va_P D classes (mw cyI ad I A) H) (S : va_S (InN 16 ad) s.heap H locs) {o : (Nat → Int32) × (Nat → Nat → Int32)} (h : B_X7_picture_L35   n x1 I A = some o) {ls : Array Slot} (hl : lv_has ls 3 [(0, .ref (ad 0)), (1, .int x1)]) (kx : ∀ {H : Heap} {locs : List Loc} (_ : va_P D classes (mw cyI ad o.1 o.2) H) (_ : va_S (InN 16 ad) s.heap H locs) {ls : Array Slot}, lv_has ls 3 [(0, .ref (ad 0))] → W p l e (rmL 3) s m args below meth c H locs 0 0 (MQ below (Qrw (InN 16 ad) (some (.int out.1)) (fun H1 => va_P D classes (mw cyI ad out.2.1 out.2.2) H1)) args s 0 0 (InN 16 ad)) (F0 m 94 ls [])), W p l e (rmL 3) s m args below meth c H locs 0 0 (MQ below (Qrw (InN 16 ad) (some (.int out.1)) (fun H1 => va_P D classes (mw cyI ad out.2.1 out.2.2) H1)) args s 0 0 (InN 16 ad)) (F0 m 35 ls []) := by
  intro n
  induction n with
  | zero => intro x1 I A H locs P S o h ls hl kx; exact nomatch (show none = some o from h)
  | succ n ih =>
    intro x1 I A H locs P S o h ls hl kx
    rw [B_X7_picture_L35_s] at h
    refine lv_iload_n E.hx E.hb dX7_picture_35 rfl (lv_at hl 1 rfl) ?_
    refine lv_aload_n E.hx E.hb dX7_picture_36 rfl (lv_at hl 0 rfl) ?_
    refine gf_X7_13 E K0 P dX7_picture_37 ?_
    refine lv_icmp_ge (tgt := 94) E.hx E.hb dX7_picture_40 (by decide) (fun c_4 => ?_) (fun c_4 => ?_)
    · rw [if_pos c_4] at h
      cases h
      exact kx P S (lv_sub hl [0] rfl)
    · rw [if_neg c_4] at h
      refine lv_iconst (v := 0) E.hx E.hb dX7_picture_43 (by decide) ?_
      refine lv_istore_n (lv' := [(2, .int 0), (0, .ref (ad 0)), (1, .int x1)]) E.hx E.hb dX7_picture_44 rfl hl (by decide) rfl (fun ls hl => ?_)
      obtain ⟨q_10, e_11, h⟩ := obind h
      refine w_X7_picture_L45 E K0 N FU P S e_11 (lv_sub hl [1, 2, 0] rfl) (fun {H locs} P S {ls} hl => ?_)
      refine lv_iinc (v := x1 + 1) (lv' := [(1, .int (x1 + 1)), (0, .ref (ad 0))]) E.hx E.hb dX7_picture_88 hl (k := 1) rfl rfl (by decide) rfl (fun ls hl => ?_)
      refine lv_goto (tgt := 35) E.hx E.hb dX7_picture_91 (by decide) ?_
      exact ih P S h (lv_sub hl [1, 0] rfl) kx
def B_X7_picture (I : Nat → Int32) (A : Nat → Nat → Int32)  : Option (Int32 × (Nat → Int32) × (Nat → Nat → Int32)) := if (((va_up I 0 0)) 11) = 10 then ((B_X7_stop ((va_up I 0 0)) A 1).bind fun q_14 => some (q_14.1, q_14.2.1, q_14.2.2)) else ((wr (A 13) 10 ((((va_up I 0 0)) 11)) ((((va_up I 0 0)) 5))).bind fun g_2 => (B_X7_picture_L35   FU 0 ((va_up I 0 0)) ((va_up A 13 g_2))).bind fun q_12 => some (((((va_up q_12.1 11 (((q_12.1 11) + 1)))) 11) - 1), (va_up q_12.1 11 (((q_12.1 11) + 1))), q_12.2))
set_option maxHeartbeats 4000000 in
set_option maxRecDepth 100000 in
theorem w_X7_picture (E : EX p s m args meth c cX7_picture 3 RX7 (some .int)) (K0 : KM D cyI s s.heap) (N : AdN 16 ad) {H : Heap} {locs : List Loc} (P : va_P D classes (mw cyI ad I A) H) (S : va_S (InN 16 ad) s.heap H locs)  {out : Int32 × (Nat → Int32) × (Nat → Nat → Int32)} (h : B_X7_picture I A  = some out) {ls : Array Slot} (hl : lv_has ls 3 [(0, .ref (ad 0))]) : W p l e (rmL 3) s m args below meth c H locs 0 0 (MQ below (Qrw (InN 16 ad) (some (.int out.1)) (fun H1 => va_P D classes (mw cyI ad out.2.1 out.2.2) H1)) args s 0 0 (InN 16 ad)) (F0 m 0 ls []) := by
  unfold B_X7_picture at h
  refine lv_aload_n E.hx E.hb dX7_picture_0 rfl (lv_at hl 0 rfl) ?_
  refine lv_iconst (v := 0) E.hx E.hb dX7_picture_1 (by decide) ?_
  refine pf_X7_89 E N K0 P S dX7_picture_2 (fun H locs P S => ?_)
  refine lv_aload_n E.hx E.hb dX7_picture_5 rfl (lv_at hl 0 rfl) ?_
  refine gf_X7_77 E K0 P dX7_picture_6 ?_
  refine lv_bipush (v := 10) E.hx E.hb dX7_picture_9 (by decide) ?_
  refine lv_icmp_ne (tgt := 20) E.hx E.hb dX7_picture_11 (by decide) (fun c_1 => ?_) (fun c_1 => ?_)
  · rw [if_neg c_1] at h
    refine lv_aload_n E.hx E.hb dX7_picture_20 rfl (lv_at hl 0 rfl) ?_
    refine gf_X7_62 E K0 P dX7_picture_21 ?_
    refine lv_aload_n E.hx E.hb dX7_picture_24 rfl (lv_at hl 0 rfl) ?_
    refine gf_X7_77 E K0 P dX7_picture_25 ?_
    refine lv_aload_n E.hx E.hb dX7_picture_28 rfl (lv_at hl 0 rfl) ?_
    refine gf_X7_148 E K0 P dX7_picture_29 ?_
    obtain ⟨g_2, e_3, h⟩ := obind h
    refine as_13 E N K0 P S e_3 dX7_picture_32 (fun H locs P S => ?_)
    refine lv_iconst (v := 0) E.hx E.hb dX7_picture_33 (by decide) ?_
    refine lv_istore_n (lv' := [(1, .int 0), (0, .ref (ad 0))]) E.hx E.hb dX7_picture_34 rfl hl (by decide) rfl (fun ls hl => ?_)
    obtain ⟨q_12, e_13, h⟩ := obind h
    refine w_X7_picture_L35 E K0 N FU P S e_13 (lv_sub hl [1, 0] rfl) (fun {H locs} P S {ls} hl => ?_)
    refine lv_aload_n E.hx E.hb dX7_picture_94 rfl (lv_at hl 0 rfl) ?_
    refine lv_dup E.hx E.hb dX7_picture_95 rfl ?_
    refine gf_X7_77 E K0 P dX7_picture_96 ?_
    refine lv_iconst (v := 1) E.hx E.hb dX7_picture_99 (by decide) ?_
    refine lv_iadd E.hx E.hb dX7_picture_100 ?_
    refine pf_X7_77 E N K0 P S dX7_picture_101 (fun H locs P S => ?_)
    refine lv_aload_n E.hx E.hb dX7_picture_104 rfl (lv_at hl 0 rfl) ?_
    refine gf_X7_77 E K0 P dX7_picture_105 ?_
    refine lv_iconst (v := 1) E.hx E.hb dX7_picture_108 (by decide) ?_
    refine lv_isub E.hx E.hb dX7_picture_109 ?_
    cases h
    exact W.iret E.hx E.hb E.hr (fun t ht _ => ⟨rfl, by rw [ht]; exact P, S.F ht⟩) S.2.2 dX7_picture_110 E.hk
  · rw [if_pos c_1] at h
    refine lv_aload_n E.hx E.hb dX7_picture_14 rfl (lv_at hl 0 rfl) ?_
    refine lv_iconst (v := 1) E.hx E.hb dX7_picture_15 (by decide) ?_
    obtain ⟨q_14, e_15, h⟩ := obind h
    refine iv_X7_122 E N K0 P S e_15 (by decide) hl.1 (Nat.le_of_ble_eq_true rfl) dX7_picture_16 (fun H locs P S => ?_)
    cases h
    exact W.iret E.hx E.hb E.hr (fun t ht _ => ⟨rfl, by rw [ht]; exact P, S.F ht⟩) S.2.2 dX7_picture_19 E.hk
theorem c_X7_picture (l : Launch) {H : Heap} {D : va_G} {cyI : ClassId} {ad : Nat → Nat} {I : Nat → Int32} {A : Nat → Nat → Int32} (N : AdN 16 ad) (P : va_P D classes (mw cyI ad I A) H)  {out : Int32 × (Nat → Int32) × (Nat → Nat → Int32)} (h : B_X7_picture I A  = some out) : MRW l yX7_picture cX7_picture 3 (some .int) 3 [.ref (ad 0)] H (KM D cyI) (InN 16 ad) (some (.int out.1)) (fun H1 => va_P D classes (mw cyI ad out.2.1 out.2.2) H1) := by
  refine Mof (own := RX7) (by decide +kernel) rfl rfl ?_
  intro p e s m args below meth c ls E hH K0 hl
  subst hH
  exact w_X7_picture E K0 N P va_S.rf h hl
theorem ds_X7_picture : Dsc yX7_picture 0 := ⟨by decide +kernel, by decide +kernel, by decide +kernel⟩
end
section
variable {p : Program} {l : Launch} {e : Env} {s : State} {m : MethodId} {args : Array Value} {below : List Frame} {meth : Method} {c : Code} {D : va_G} {cyI : ClassId} {ad : Nat → Nat} {I : Nat → Int32} {A : Nat → Nat → Int32}
def B_X7_now (I : Nat → Int32) (A : Nat → Nat → Int32)  : Option (Int32 × (Nat → Int32) × (Nat → Nat → Int32)) := some ((((va_up I 0 0)) 6), (va_up I 0 0), A)
set_option maxHeartbeats 4000000 in
set_option maxRecDepth 100000 in
theorem w_X7_now (E : EX p s m args meth c cX7_now 1 RX7 (some .int)) (K0 : KM D cyI s s.heap) (N : AdN 16 ad) {H : Heap} {locs : List Loc} (P : va_P D classes (mw cyI ad I A) H) (S : va_S (InN 16 ad) s.heap H locs)  {out : Int32 × (Nat → Int32) × (Nat → Nat → Int32)} (h : B_X7_now I A  = some out) {ls : Array Slot} (hl : lv_has ls 1 [(0, .ref (ad 0))]) : W p l e (rmL 0) s m args below meth c H locs 0 0 (MQ below (Qrw (InN 16 ad) (some (.int out.1)) (fun H1 => va_P D classes (mw cyI ad out.2.1 out.2.2) H1)) args s 0 0 (InN 16 ad)) (F0 m 0 ls []) := by
  unfold B_X7_now at h
  refine lv_aload_n E.hx E.hb dX7_now_0 rfl (lv_at hl 0 rfl) ?_
  refine lv_iconst (v := 0) E.hx E.hb dX7_now_1 (by decide) ?_
  refine pf_X7_89 E N K0 P S dX7_now_2 (fun H locs P S => ?_)
  refine lv_aload_n E.hx E.hb dX7_now_5 rfl (lv_at hl 0 rfl) ?_
  refine gf_X7_80 E K0 P dX7_now_6 ?_
  cases h
  exact W.iret E.hx E.hb E.hr (fun t ht _ => ⟨rfl, by rw [ht]; exact P, S.F ht⟩) S.2.2 dX7_now_9 E.hk
theorem c_X7_now (l : Launch) {H : Heap} {D : va_G} {cyI : ClassId} {ad : Nat → Nat} {I : Nat → Int32} {A : Nat → Nat → Int32} (N : AdN 16 ad) (P : va_P D classes (mw cyI ad I A) H)  {out : Int32 × (Nat → Int32) × (Nat → Nat → Int32)} (h : B_X7_now I A  = some out) : MRW l yX7_now cX7_now 1 (some .int) 0 [.ref (ad 0)] H (KM D cyI) (InN 16 ad) (some (.int out.1)) (fun H1 => va_P D classes (mw cyI ad out.2.1 out.2.2) H1) := by
  refine Mof (own := RX7) (by decide +kernel) rfl rfl ?_
  intro p e s m args below meth c ls E hH K0 hl
  subst hH
  exact w_X7_now E K0 N P va_S.rf h hl
theorem ds_X7_now : Dsc yX7_now 0 := ⟨by decide +kernel, by decide +kernel, by decide +kernel⟩
end
section
variable {p : Program} {l : Launch} {e : Env} {s : State} {m : MethodId} {args : Array Value} {below : List Frame} {meth : Method} {c : Code} {D : va_G} {cyI : ClassId} {ad : Nat → Nat} {I : Nat → Int32} {A : Nat → Nat → Int32}
def B_X7_told (I : Nat → Int32) (A : Nat → Nat → Int32) (x1 x2 x3 : Int32) : Option (Int32 × (Nat → Int32) × (Nat → Nat → Int32)) := if (B_X7_isCell ((va_up I 0 0)) A x1 x2) = 0 then ((B_X7_stop ((va_up I 0 0)) A 1).bind fun q_21 => some (q_21.1, q_21.2.1, q_21.2.2)) else (if (B_X7_in x3 0 4) = 0 then ((B_X7_stop ((va_up I 0 0)) A 2).bind fun q_19 => some (q_19.1, q_19.2.1, q_19.2.2)) else (if x3 = 0 then ((rd (A 0) 144 ((B_X7_cell x1 x2))).bind fun v_4 => some (v_4, (va_up I 0 0), A)) else if x3 = 1 then ((rd (A 1) 144 ((B_X7_cell x1 x2))).bind fun v_7 => some (v_7, (va_up I 0 0), A)) else if x3 = 2 then ((rd (A 4) 144 ((B_X7_cell x1 x2))).bind fun v_10 => some (v_10, (va_up I 0 0), A)) else if x3 = 3 then ((B_X7_greyAt ((va_up I 0 0)) A x1 x2 ((((va_up I 0 0)) 5))).bind fun r_13 => some (r_13, (va_up I 0 0), A)) else (rd (A 0) 144 ((B_X7_cell x1 x2))).bind fun v_15 => (B_X7_withAll ((va_up I 0 0)) A x1 x2 v_15).bind fun r_17 => some (r_17, (va_up I 0 0), A)))
set_option maxHeartbeats 4000000 in
set_option maxRecDepth 100000 in
theorem w_X7_told (E : EX p s m args meth c cX7_told 5 RX7 (some .int)) (K0 : KM D cyI s s.heap) (N : AdN 16 ad) {H : Heap} {locs : List Loc} (P : va_P D classes (mw cyI ad I A) H) (S : va_S (InN 16 ad) s.heap H locs)  {x1 x2 x3 : Int32} {out : Int32 × (Nat → Int32) × (Nat → Nat → Int32)} (h : B_X7_told I A x1 x2 x3 = some out) {ls : Array Slot} (hl : lv_has ls 5 [(0, .ref (ad 0)), (1, .int x1), (2, .int x2), (3, .int x3)]) : W p l e (rmL 4) s m args below meth c H locs 0 0 (MQ below (Qrw (InN 16 ad) (some (.int out.1)) (fun H1 => va_P D classes (mw cyI ad out.2.1 out.2.2) H1)) args s 0 0 (InN 16 ad)) (F0 m 0 ls []) := by
  unfold B_X7_told at h
  refine lv_aload_n E.hx E.hb dX7_told_0 rfl (lv_at hl 0 rfl) ?_
  refine lv_iconst (v := 0) E.hx E.hb dX7_told_1 (by decide) ?_
  refine pf_X7_89 E N K0 P S dX7_told_2 (fun H locs P S => ?_)
  refine lv_aload_n E.hx E.hb dX7_told_5 rfl (lv_at hl 0 rfl) ?_
  refine lv_iload_n E.hx E.hb dX7_told_6 rfl (lv_at hl 1 rfl) ?_
  refine lv_iload_n E.hx E.hb dX7_told_7 rfl (lv_at hl 2 rfl) ?_
  refine iv_X7_106 (ad := ad) E K0 P S (by decide) hl.1 (Nat.le_of_ble_eq_true rfl) dX7_told_8 ?_
  refine lv_if_ne (tgt := 20) E.hx E.hb dX7_told_11 (by decide) (fun c_1 => ?_) (fun c_1 => ?_)
  · rw [if_neg c_1] at h
    refine lv_iload_n E.hx E.hb dX7_told_20 rfl (lv_at hl 3 rfl) ?_
    refine lv_iconst (v := 0) E.hx E.hb dX7_told_21 (by decide) ?_
    refine lv_iconst (v := 4) E.hx E.hb dX7_told_22 (by decide) ?_
    refine iv_X7_92 (ad := ad) E K0 S (by decide) hl.1 (Nat.le_of_ble_eq_true rfl) dX7_told_23 ?_
    refine lv_if_ne (tgt := 35) E.hx E.hb dX7_told_26 (by decide) (fun c_2 => ?_) (fun c_2 => ?_)
    · rw [if_neg c_2] at h
      refine lv_iload_n E.hx E.hb dX7_told_35 rfl (lv_at hl 1 rfl) ?_
      refine lv_iload_n E.hx E.hb dX7_told_36 rfl (lv_at hl 2 rfl) ?_
      refine iv_X7_100 (ad := ad) E K0 S (by decide) hl.1 (Nat.le_of_ble_eq_true rfl) dX7_told_37 ?_
      refine lv_istore (lv' := [(4, .int (B_X7_cell x1 x2)), (0, .ref (ad 0)), (1, .int x1), (2, .int x2), (3, .int x3)]) E.hx E.hb dX7_told_40 hl (by decide) rfl (fun ls hl => ?_)
      refine lv_iload_n E.hx E.hb dX7_told_42 rfl (lv_at hl 4 rfl) ?_
      by_cases c_3 : x3 = 0
      · rw [if_pos c_3] at h
        refine lv_tableIn (off := 29) (tgt := 72) E.hx E.hb dX7_told_43 (by rw [c_3]; decide) (by rw [c_3]; decide) (by rw [c_3]; rfl) (by decide) ?_
        refine lv_aload_n E.hx E.hb dX7_told_72 rfl (lv_at hl 1 rfl) ?_
        refine gf_X7_22 E K0 P dX7_told_73 ?_
        refine lv_iload E.hx E.hb dX7_told_76 (lv_at hl 0 rfl) ?_
        obtain ⟨v_4, e_5, h⟩ := obind h
        refine al_0 E K0 P e_5 dX7_told_78 ?_
        cases h
        exact W.iret E.hx E.hb E.hr (fun t ht _ => ⟨rfl, by rw [ht]; exact P, S.F ht⟩) S.2.2 dX7_told_79 E.hk
      rw [if_neg c_3] at h
      by_cases c_6 : x3 = 1
      · rw [if_pos c_6] at h
        refine lv_tableIn (off := 37) (tgt := 80) E.hx E.hb dX7_told_43 (by rw [c_6]; decide) (by rw [c_6]; decide) (by rw [c_6]; rfl) (by decide) ?_
        refine lv_aload_n E.hx E.hb dX7_told_80 rfl (lv_at hl 1 rfl) ?_
        refine gf_X7_26 E K0 P dX7_told_81 ?_
        refine lv_iload E.hx E.hb dX7_told_84 (lv_at hl 0 rfl) ?_
        obtain ⟨v_7, e_8, h⟩ := obind h
        refine al_1 E K0 P e_8 dX7_told_86 ?_
        cases h
        exact W.iret E.hx E.hb E.hr (fun t ht _ => ⟨rfl, by rw [ht]; exact P, S.F ht⟩) S.2.2 dX7_told_87 E.hk
      rw [if_neg c_6] at h
      by_cases c_9 : x3 = 2
      · rw [if_pos c_9] at h
        refine lv_tableIn (off := 45) (tgt := 88) E.hx E.hb dX7_told_43 (by rw [c_9]; decide) (by rw [c_9]; decide) (by rw [c_9]; rfl) (by decide) ?_
        refine lv_aload_n E.hx E.hb dX7_told_88 rfl (lv_at hl 1 rfl) ?_
        refine gf_X7_35 E K0 P dX7_told_89 ?_
        refine lv_iload E.hx E.hb dX7_told_92 (lv_at hl 0 rfl) ?_
        obtain ⟨v_10, e_11, h⟩ := obind h
        refine al_4 E K0 P e_11 dX7_told_94 ?_
        cases h
        exact W.iret E.hx E.hb E.hr (fun t ht _ => ⟨rfl, by rw [ht]; exact P, S.F ht⟩) S.2.2 dX7_told_95 E.hk
      rw [if_neg c_9] at h
      by_cases c_12 : x3 = 3
      · rw [if_pos c_12] at h
        refine lv_tableIn (off := 53) (tgt := 96) E.hx E.hb dX7_told_43 (by rw [c_12]; decide) (by rw [c_12]; decide) (by rw [c_12]; rfl) (by decide) ?_
        refine lv_aload_n E.hx E.hb dX7_told_96 rfl (lv_at hl 1 rfl) ?_
        refine lv_iload_n E.hx E.hb dX7_told_97 rfl (lv_at hl 2 rfl) ?_
        refine lv_iload_n E.hx E.hb dX7_told_98 rfl (lv_at hl 3 rfl) ?_
        refine lv_aload_n E.hx E.hb dX7_told_99 rfl (lv_at hl 1 rfl) ?_
        refine gf_X7_148 E K0 P dX7_told_100 ?_
        obtain ⟨r_13, e_14, h⟩ := obind h
        refine iv_X7_151 (ad := ad) E K0 P S e_14 (by decide) hl.1 (Nat.le_of_ble_eq_true rfl) dX7_told_103 ?_
        cases h
        exact W.iret E.hx E.hb E.hr (fun t ht _ => ⟨rfl, by rw [ht]; exact P, S.F ht⟩) S.2.2 dX7_told_106 E.hk
      rw [if_neg c_12] at h
      refine lv_tableOut (tgt := 107) E.hx E.hb dX7_told_43 (swo 3 (by decide) (by intro j hj; rcases (show j = 0 ∨ j = 1 ∨ j = 2 ∨ j = 3 by omega) with rfl | rfl | rfl | rfl <;> assumption)) (by decide) ?_
      refine lv_aload_n E.hx E.hb dX7_told_107 rfl (lv_at hl 1 rfl) ?_
      refine lv_iload_n E.hx E.hb dX7_told_108 rfl (lv_at hl 2 rfl) ?_
      refine lv_iload_n E.hx E.hb dX7_told_109 rfl (lv_at hl 3 rfl) ?_
      refine lv_aload_n E.hx E.hb dX7_told_110 rfl (lv_at hl 1 rfl) ?_
      refine gf_X7_22 E K0 P dX7_told_111 ?_
      refine lv_iload E.hx E.hb dX7_told_114 (lv_at hl 0 rfl) ?_
      obtain ⟨v_15, e_16, h⟩ := obind h
      refine al_0 E K0 P e_16 dX7_told_116 ?_
      obtain ⟨r_17, e_18, h⟩ := obind h
      refine iv_X7_139 (ad := ad) E K0 P S e_18 (by decide) hl.1 (Nat.le_of_ble_eq_true rfl) dX7_told_117 ?_
      cases h
      exact W.iret E.hx E.hb E.hr (fun t ht _ => ⟨rfl, by rw [ht]; exact P, S.F ht⟩) S.2.2 dX7_told_120 E.hk
    · rw [if_pos c_2] at h
      refine lv_aload_n E.hx E.hb dX7_told_29 rfl (lv_at hl 0 rfl) ?_
      refine lv_iconst (v := 2) E.hx E.hb dX7_told_30 (by decide) ?_
      obtain ⟨q_19, e_20, h⟩ := obind h
      refine iv_X7_122 E N K0 P S e_20 (by decide) hl.1 (Nat.le_of_ble_eq_true rfl) dX7_told_31 (fun H locs P S => ?_)
      cases h
      exact W.iret E.hx E.hb E.hr (fun t ht _ => ⟨rfl, by rw [ht]; exact P, S.F ht⟩) S.2.2 dX7_told_34 E.hk
  · rw [if_pos c_1] at h
    refine lv_aload_n E.hx E.hb dX7_told_14 rfl (lv_at hl 0 rfl) ?_
    refine lv_iconst (v := 1) E.hx E.hb dX7_told_15 (by decide) ?_
    obtain ⟨q_21, e_22, h⟩ := obind h
    refine iv_X7_122 E N K0 P S e_22 (by decide) hl.1 (Nat.le_of_ble_eq_true rfl) dX7_told_16 (fun H locs P S => ?_)
    cases h
    exact W.iret E.hx E.hb E.hr (fun t ht _ => ⟨rfl, by rw [ht]; exact P, S.F ht⟩) S.2.2 dX7_told_19 E.hk
theorem c_X7_told (l : Launch) {H : Heap} {D : va_G} {cyI : ClassId} {ad : Nat → Nat} {I : Nat → Int32} {A : Nat → Nat → Int32} (N : AdN 16 ad) (P : va_P D classes (mw cyI ad I A) H) (x1 x2 x3 : Int32) {out : Int32 × (Nat → Int32) × (Nat → Nat → Int32)} (h : B_X7_told I A x1 x2 x3 = some out) : MRW l yX7_told cX7_told 5 (some .int) 4 [.ref (ad 0), .int x1, .int x2, .int x3] H (KM D cyI) (InN 16 ad) (some (.int out.1)) (fun H1 => va_P D classes (mw cyI ad out.2.1 out.2.2) H1) := by
  refine Mof (own := RX7) (by decide +kernel) rfl rfl ?_
  intro p e s m args below meth c ls E hH K0 hl
  subst hH
  exact w_X7_told E K0 N P va_S.rf h hl
theorem ds_X7_told : Dsc yX7_told 3 := ⟨by decide +kernel, by decide +kernel, by decide +kernel⟩
end
section
variable {p : Program} {l : Launch} {e : Env} {s : State} {m : MethodId} {args : Array Value} {below : List Frame} {meth : Method} {c : Code} {D : va_G} {cyI : ClassId} {ad : Nat → Nat} {I : Nat → Int32} {A : Nat → Nat → Int32}
def B_X7_energy (I : Nat → Int32) (A : Nat → Nat → Int32)  : Option (Int32 × (Nat → Int32) × (Nat → Nat → Int32)) := (B_X7_all ((va_up I 0 0)) A ).bind fun r_1 => some (r_1, (va_up I 0 0), A)
set_option maxHeartbeats 4000000 in
set_option maxRecDepth 100000 in
theorem w_X7_energy (E : EX p s m args meth c cX7_energy 1 RX7 (some .int)) (K0 : KM D cyI s s.heap) (N : AdN 16 ad) {H : Heap} {locs : List Loc} (P : va_P D classes (mw cyI ad I A) H) (S : va_S (InN 16 ad) s.heap H locs)  {out : Int32 × (Nat → Int32) × (Nat → Nat → Int32)} (h : B_X7_energy I A  = some out) {ls : Array Slot} (hl : lv_has ls 1 [(0, .ref (ad 0))]) : W p l e (rmL 4) s m args below meth c H locs 0 0 (MQ below (Qrw (InN 16 ad) (some (.int out.1)) (fun H1 => va_P D classes (mw cyI ad out.2.1 out.2.2) H1)) args s 0 0 (InN 16 ad)) (F0 m 0 ls []) := by
  unfold B_X7_energy at h
  refine lv_aload_n E.hx E.hb dX7_energy_0 rfl (lv_at hl 0 rfl) ?_
  refine lv_iconst (v := 0) E.hx E.hb dX7_energy_1 (by decide) ?_
  refine pf_X7_89 E N K0 P S dX7_energy_2 (fun H locs P S => ?_)
  refine lv_aload_n E.hx E.hb dX7_energy_5 rfl (lv_at hl 0 rfl) ?_
  obtain ⟨r_1, e_2, h⟩ := obind h
  refine iv_X7_118 (ad := ad) E K0 P S e_2 (by decide) hl.1 (Nat.le_of_ble_eq_true rfl) dX7_energy_6 ?_
  cases h
  exact W.iret E.hx E.hb E.hr (fun t ht _ => ⟨rfl, by rw [ht]; exact P, S.F ht⟩) S.2.2 dX7_energy_9 E.hk
theorem c_X7_energy (l : Launch) {H : Heap} {D : va_G} {cyI : ClassId} {ad : Nat → Nat} {I : Nat → Int32} {A : Nat → Nat → Int32} (N : AdN 16 ad) (P : va_P D classes (mw cyI ad I A) H)  {out : Int32 × (Nat → Int32) × (Nat → Nat → Int32)} (h : B_X7_energy I A  = some out) : MRW l yX7_energy cX7_energy 1 (some .int) 4 [.ref (ad 0)] H (KM D cyI) (InN 16 ad) (some (.int out.1)) (fun H1 => va_P D classes (mw cyI ad out.2.1 out.2.2) H1) := by
  refine Mof (own := RX7) (by decide +kernel) rfl rfl ?_
  intro p e s m args below meth c ls E hH K0 hl
  subst hH
  exact w_X7_energy E K0 N P va_S.rf h hl
theorem ds_X7_energy : Dsc yX7_energy 0 := ⟨by decide +kernel, by decide +kernel, by decide +kernel⟩
end
section
variable {p : Program} {l : Launch} {e : Env} {s : State} {m : MethodId} {args : Array Value} {below : List Frame} {meth : Method} {c : Code} {D : va_G} {cyI : ClassId} {ad : Nat → Nat} {I : Nat → Int32} {A : Nat → Nat → Int32}
def B_X7_energyAnew (I : Nat → Int32) (A : Nat → Nat → Int32)  : Option (Int32 × (Nat → Int32) × (Nat → Nat → Int32)) := (B_X7_all ((va_up I 0 0)) A ).bind fun r_1 => some (r_1, (va_up I 0 0), A)
set_option maxHeartbeats 4000000 in
set_option maxRecDepth 100000 in
theorem w_X7_energyAnew (E : EX p s m args meth c cX7_energyAnew 1 RX7 (some .int)) (K0 : KM D cyI s s.heap) (N : AdN 16 ad) {H : Heap} {locs : List Loc} (P : va_P D classes (mw cyI ad I A) H) (S : va_S (InN 16 ad) s.heap H locs)  {out : Int32 × (Nat → Int32) × (Nat → Nat → Int32)} (h : B_X7_energyAnew I A  = some out) {ls : Array Slot} (hl : lv_has ls 1 [(0, .ref (ad 0))]) : W p l e (rmL 4) s m args below meth c H locs 0 0 (MQ below (Qrw (InN 16 ad) (some (.int out.1)) (fun H1 => va_P D classes (mw cyI ad out.2.1 out.2.2) H1)) args s 0 0 (InN 16 ad)) (F0 m 0 ls []) := by
  unfold B_X7_energyAnew at h
  refine lv_aload_n E.hx E.hb dX7_energyAnew_0 rfl (lv_at hl 0 rfl) ?_
  refine lv_iconst (v := 0) E.hx E.hb dX7_energyAnew_1 (by decide) ?_
  refine pf_X7_89 E N K0 P S dX7_energyAnew_2 (fun H locs P S => ?_)
  refine lv_aload_n E.hx E.hb dX7_energyAnew_5 rfl (lv_at hl 0 rfl) ?_
  obtain ⟨r_1, e_2, h⟩ := obind h
  refine iv_X7_118 (ad := ad) E K0 P S e_2 (by decide) hl.1 (Nat.le_of_ble_eq_true rfl) dX7_energyAnew_6 ?_
  cases h
  exact W.iret E.hx E.hb E.hr (fun t ht _ => ⟨rfl, by rw [ht]; exact P, S.F ht⟩) S.2.2 dX7_energyAnew_9 E.hk
theorem c_X7_energyAnew (l : Launch) {H : Heap} {D : va_G} {cyI : ClassId} {ad : Nat → Nat} {I : Nat → Int32} {A : Nat → Nat → Int32} (N : AdN 16 ad) (P : va_P D classes (mw cyI ad I A) H)  {out : Int32 × (Nat → Int32) × (Nat → Nat → Int32)} (h : B_X7_energyAnew I A  = some out) : MRW l yX7_energyAnew cX7_energyAnew 1 (some .int) 4 [.ref (ad 0)] H (KM D cyI) (InN 16 ad) (some (.int out.1)) (fun H1 => va_P D classes (mw cyI ad out.2.1 out.2.2) H1) := by
  refine Mof (own := RX7) (by decide +kernel) rfl rfl ?_
  intro p e s m args below meth c ls E hH K0 hl
  subst hH
  exact w_X7_energyAnew E K0 N P va_S.rf h hl
theorem ds_X7_energyAnew : Dsc yX7_energyAnew 0 := ⟨by decide +kernel, by decide +kernel, by decide +kernel⟩
end
section
variable {p : Program} {l : Launch} {e : Env} {s : State} {m : MethodId} {args : Array Value} {below : List Frame} {meth : Method} {c : Code} {D : va_G} {cyI : ClassId} {ad : Nat → Nat} {I : Nat → Int32} {A : Nat → Nat → Int32}
def B_X7_spent (I : Nat → Int32) (A : Nat → Nat → Int32) (x1 : Int32) : Option (Int32 × (Nat → Int32) × (Nat → Nat → Int32)) := if x1 = 0 then some ((((va_up I 0 0)) 7), (va_up I 0 0), A) else some ((((va_up I 0 0)) 8), (va_up I 0 0), A)
set_option maxHeartbeats 4000000 in
set_option maxRecDepth 100000 in
theorem w_X7_spent (E : EX p s m args meth c cX7_spent 2 RX7 (some .int)) (K0 : KM D cyI s s.heap) (N : AdN 16 ad) {H : Heap} {locs : List Loc} (P : va_P D classes (mw cyI ad I A) H) (S : va_S (InN 16 ad) s.heap H locs)  {x1 : Int32} {out : Int32 × (Nat → Int32) × (Nat → Nat → Int32)} (h : B_X7_spent I A x1 = some out) {ls : Array Slot} (hl : lv_has ls 2 [(0, .ref (ad 0)), (1, .int x1)]) : W p l e (rmL 0) s m args below meth c H locs 0 0 (MQ below (Qrw (InN 16 ad) (some (.int out.1)) (fun H1 => va_P D classes (mw cyI ad out.2.1 out.2.2) H1)) args s 0 0 (InN 16 ad)) (F0 m 0 ls []) := by
  unfold B_X7_spent at h
  refine lv_aload_n E.hx E.hb dX7_spent_0 rfl (lv_at hl 0 rfl) ?_
  refine lv_iconst (v := 0) E.hx E.hb dX7_spent_1 (by decide) ?_
  refine pf_X7_89 E N K0 P S dX7_spent_2 (fun H locs P S => ?_)
  refine lv_iload_n E.hx E.hb dX7_spent_5 rfl (lv_at hl 1 rfl) ?_
  refine lv_if_eq (tgt := 16) E.hx E.hb dX7_spent_6 (by decide) (fun c_1 => ?_) (fun c_1 => ?_)
  · rw [if_pos c_1] at h
    refine lv_aload_n E.hx E.hb dX7_spent_16 rfl (lv_at hl 0 rfl) ?_
    refine gf_X7_83 E K0 P dX7_spent_17 ?_
    cases h
    exact W.iret E.hx E.hb E.hr (fun t ht _ => ⟨rfl, by rw [ht]; exact P, S.F ht⟩) S.2.2 dX7_spent_20 E.hk
  · rw [if_neg c_1] at h
    refine lv_aload_n E.hx E.hb dX7_spent_9 rfl (lv_at hl 0 rfl) ?_
    refine gf_X7_86 E K0 P dX7_spent_10 ?_
    refine lv_goto (tgt := 20) E.hx E.hb dX7_spent_13 (by decide) ?_
    cases h
    exact W.iret E.hx E.hb E.hr (fun t ht _ => ⟨rfl, by rw [ht]; exact P, S.F ht⟩) S.2.2 dX7_spent_20 E.hk
theorem c_X7_spent (l : Launch) {H : Heap} {D : va_G} {cyI : ClassId} {ad : Nat → Nat} {I : Nat → Int32} {A : Nat → Nat → Int32} (N : AdN 16 ad) (P : va_P D classes (mw cyI ad I A) H) (x1 : Int32) {out : Int32 × (Nat → Int32) × (Nat → Nat → Int32)} (h : B_X7_spent I A x1 = some out) : MRW l yX7_spent cX7_spent 2 (some .int) 0 [.ref (ad 0), .int x1] H (KM D cyI) (InN 16 ad) (some (.int out.1)) (fun H1 => va_P D classes (mw cyI ad out.2.1 out.2.2) H1) := by
  refine Mof (own := RX7) (by decide +kernel) rfl rfl ?_
  intro p e s m args below meth c ls E hH K0 hl
  subst hH
  exact w_X7_spent E K0 N P va_S.rf h hl
theorem ds_X7_spent : Dsc yX7_spent 1 := ⟨by decide +kernel, by decide +kernel, by decide +kernel⟩
end
section
variable {p : Program} {l : Launch} {e : Env} {s : State} {m : MethodId} {args : Array Value} {below : List Frame} {meth : Method} {c : Code} {D : va_G} {cyI : ClassId} {ad : Nat → Nat} {I : Nat → Int32} {A : Nat → Nat → Int32}
def B_X7_least_J51  (I : Nat → Int32) (A : Nat → Nat → Int32)  : Option (Int32 × (Nat → Int32) × (Nat → Nat → Int32)) := (B_X7_stop I A 1).bind fun q_4 => some (q_4.1, q_4.2.1, q_4.2.2)
set_option maxHeartbeats 4000000 in
set_option maxRecDepth 100000 in
theorem w_X7_least_J51 (E : EX p s m args meth c cX7_least 16 RX7 (some .int)) (K0 : KM D cyI s s.heap) (N : AdN 16 ad) {H : Heap} {locs : List Loc} (P : va_P D classes (mw cyI ad I A) H) (S : va_S (InN 16 ad) s.heap H locs) {out : Int32 × (Nat → Int32) × (Nat → Nat → Int32)} (h : B_X7_least_J51  I A  = some out) {ls : Array Slot} (hl : lv_has ls 16 [(0, .ref (ad 0))]) : W p l e (rmL 4) s m args below meth c H locs 0 0 (MQ below (Qrw (InN 16 ad) (some (.int out.1)) (fun H1 => va_P D classes (mw cyI ad out.2.1 out.2.2) H1)) args s 0 0 (InN 16 ad)) (F0 m 51 ls []) := by
  unfold B_X7_least_J51 at h
  refine lv_aload_n E.hx E.hb dX7_least_51 rfl (lv_at hl 0 rfl) ?_
  refine lv_iconst (v := 1) E.hx E.hb dX7_least_52 (by decide) ?_
  obtain ⟨q_4, e_5, h⟩ := obind h
  refine iv_X7_122 E N K0 P S e_5 (by decide) hl.1 (Nat.le_of_ble_eq_true rfl) dX7_least_53 (fun H locs P S => ?_)
  cases h
  exact W.iret E.hx E.hb E.hr (fun t ht _ => ⟨rfl, by rw [ht]; exact P, S.F ht⟩) S.2.2 dX7_least_56 E.hk
def B_X7_least_J161 (k : Int32 → Int32 → (Nat → Int32) → (Nat → Nat → Int32) → Option (Int32 × (Nat → Int32) × (Nat → Nat → Int32))) (I : Nat → Int32) (A : Nat → Nat → Int32) (x1 x2 x4 x5 x6 x7 x8 x9 x10 x11 x12 x13 t0 : Int32) : Option (Int32 × (Nat → Int32) × (Nat → Nat → Int32)) := if t0 = 0 then k x10 (x11 + 1) I A else ((wr (A 0) 144 x6 x12).bind fun g_19 => (wr (((va_up A 0 g_19)) 0) 144 x7 x13).bind fun g_21 => (B_X7_withAll I ((va_up ((va_up A 0 g_19)) 0 g_21)) x1 x2 x12).bind fun r_23 => (B_X7_withAll I ((va_up ((va_up A 0 g_19)) 0 g_21)) x4 x5 x13).bind fun r_25 => (B_X7_pair I ((va_up ((va_up A 0 g_19)) 0 g_21)) x1 x2 x12 ((x4 - x1)) ((x5 - x2))).bind fun r_27 => if x10 ≤ ((r_23 + r_25) - r_27) then k x10 (x11 + 1) I ((va_up ((va_up A 0 g_19)) 0 g_21)) else k (((r_23 + r_25) - r_27)) (x11 + 1) I ((va_up ((va_up A 0 g_19)) 0 g_21)))
set_option maxHeartbeats 4000000 in
set_option maxRecDepth 100000 in
theorem w_X7_least_J161 (E : EX p s m args meth c cX7_least 16 RX7 (some .int)) (K0 : KM D cyI s s.heap) (N : AdN 16 ad) {x1 x2 x4 x5 x6 x7 x8 x9 x10 x11 x12 x13 t0 : Int32} {k : Int32 → Int32 → (Nat → Int32) → (Nat → Nat → Int32) → Option (Int32 × (Nat → Int32) × (Nat → Nat → Int32))} {o : Int32 × (Nat → Int32) × (Nat → Nat → Int32)} {out : Int32 × (Nat → Int32) × (Nat → Nat → Int32)} (hk : ∀ {x10 x11 : Int32} {I : Nat → Int32} {A : Nat → Nat → Int32} {H : Heap} {locs : List Loc} (_ : va_P D classes (mw cyI ad I A) H) (_ : va_S (InN 16 ad) s.heap H locs) (_ : k x10 x11 I A = some o) {ls : Array Slot}, lv_has ls 16 [(0, .ref (ad 0)), (1, .int x1), (2, .int x2), (4, .int x4), (5, .int x5), (6, .int x6), (7, .int x7), (8, .int x8), (9, .int x9), (10, .int x10), (11, .int x11)] → W p l e (rmL 4) s m args below meth c H locs 0 0 (MQ below (Qrw (InN 16 ad) (some (.int out.1)) (fun H1 => va_P D classes (mw cyI ad out.2.1 out.2.2) H1)) args s 0 0 (InN 16 ad)) (F0 m 98 ls [])) (kx : ∀ {H : Heap} {locs : List Loc} (_ : va_P D classes (mw cyI ad o.2.1 o.2.2) H) (_ : va_S (InN 16 ad) s.heap H locs) {ls : Array Slot}, lv_has ls 16 [(0, .ref (ad 0)), (6, .int x6), (7, .int x7), (8, .int x8), (9, .int x9), (10, .int o.1)] → W p l e (rmL 4) s m args below meth c H locs 0 0 (MQ below (Qrw (InN 16 ad) (some (.int out.1)) (fun H1 => va_P D classes (mw cyI ad out.2.1 out.2.2) H1)) args s 0 0 (InN 16 ad)) (F0 m 246 ls [])) {H : Heap} {locs : List Loc} (P : va_P D classes (mw cyI ad I A) H) (S : va_S (InN 16 ad) s.heap H locs) (h : B_X7_least_J161 k I A x1 x2 x4 x5 x6 x7 x8 x9 x10 x11 x12 x13 t0 = some o) {ls : Array Slot} (hl : lv_has ls 16 [(0, .ref (ad 0)), (1, .int x1), (2, .int x2), (4, .int x4), (5, .int x5), (6, .int x6), (7, .int x7), (8, .int x8), (9, .int x9), (10, .int x10), (11, .int x11), (12, .int x12), (13, .int x13)]) : W p l e (rmL 4) s m args below meth c H locs 0 0 (MQ below (Qrw (InN 16 ad) (some (.int out.1)) (fun H1 => va_P D classes (mw cyI ad out.2.1 out.2.2) H1)) args s 0 0 (InN 16 ad)) (F0 m 161 ls [.int t0]) := by
  unfold B_X7_least_J161 at h
  refine lv_istore (lv' := [(14, .int t0), (0, .ref (ad 0)), (1, .int x1), (2, .int x2), (4, .int x4), (5, .int x5), (6, .int x6), (7, .int x7), (8, .int x8), (9, .int x9), (10, .int x10), (11, .int x11), (12, .int x12), (13, .int x13)]) E.hx E.hb dX7_least_161 hl (by decide) rfl (fun ls hl => ?_)
  refine lv_iload E.hx E.hb dX7_least_163 (lv_at hl 0 rfl) ?_
  refine lv_if_eq (tgt := 240) E.hx E.hb dX7_least_165 (by decide) (fun c_18 => ?_) (fun c_18 => ?_)
  · rw [if_pos c_18] at h
    refine lv_iinc (v := x11 + 1) (lv' := [(11, .int (x11 + 1)), (14, .int t0), (0, .ref (ad 0)), (1, .int x1), (2, .int x2), (4, .int x4), (5, .int x5), (6, .int x6), (7, .int x7), (8, .int x8), (9, .int x9), (10, .int x10), (12, .int x12), (13, .int x13)]) E.hx E.hb dX7_least_240 hl (k := 11) rfl rfl (by decide) rfl (fun ls hl => ?_)
    refine lv_goto (tgt := 98) E.hx E.hb dX7_least_243 (by decide) ?_
    exact hk P S h (lv_sub hl [2, 3, 4, 5, 6, 7, 8, 9, 10, 11, 0] rfl)
  · rw [if_neg c_18] at h
    refine lv_aload_n E.hx E.hb dX7_least_168 rfl (lv_at hl 1 rfl) ?_
    refine gf_X7_22 E K0 P dX7_least_169 ?_
    refine lv_iload E.hx E.hb dX7_least_172 (lv_at hl 6 rfl) ?_
    refine lv_iload E.hx E.hb dX7_least_174 (lv_at hl 12 rfl) ?_
    obtain ⟨g_19, e_20, h⟩ := obind h
    refine as_0 E N K0 P S e_20 dX7_least_176 (fun H locs P S => ?_)
    refine lv_aload_n E.hx E.hb dX7_least_177 rfl (lv_at hl 1 rfl) ?_
    refine gf_X7_22 E K0 P dX7_least_178 ?_
    refine lv_iload E.hx E.hb dX7_least_181 (lv_at hl 7 rfl) ?_
    refine lv_iload E.hx E.hb dX7_least_183 (lv_at hl 13 rfl) ?_
    obtain ⟨g_21, e_22, h⟩ := obind h
    refine as_0 E N K0 P S e_22 dX7_least_185 (fun H locs P S => ?_)
    refine lv_aload_n E.hx E.hb dX7_least_186 rfl (lv_at hl 1 rfl) ?_
    refine lv_iload_n E.hx E.hb dX7_least_187 rfl (lv_at hl 2 rfl) ?_
    refine lv_iload_n E.hx E.hb dX7_least_188 rfl (lv_at hl 3 rfl) ?_
    refine lv_iload E.hx E.hb dX7_least_189 (lv_at hl 12 rfl) ?_
    obtain ⟨r_23, e_24, h⟩ := obind h
    refine iv_X7_139 (ad := ad) E K0 P S e_24 (by decide) hl.1 (Nat.le_of_ble_eq_true rfl) dX7_least_191 ?_
    refine lv_aload_n E.hx E.hb dX7_least_194 rfl (lv_at hl 1 rfl) ?_
    refine lv_iload E.hx E.hb dX7_least_195 (lv_at hl 4 rfl) ?_
    refine lv_iload E.hx E.hb dX7_least_197 (lv_at hl 5 rfl) ?_
    refine lv_iload E.hx E.hb dX7_least_199 (lv_at hl 13 rfl) ?_
    obtain ⟨r_25, e_26, h⟩ := obind h
    refine iv_X7_139 (ad := ad) E K0 P S e_26 (by decide) hl.1 (Nat.le_of_ble_eq_true rfl) dX7_least_201 ?_
    refine lv_iadd E.hx E.hb dX7_least_204 ?_
    refine lv_aload_n E.hx E.hb dX7_least_205 rfl (lv_at hl 1 rfl) ?_
    refine lv_iload_n E.hx E.hb dX7_least_206 rfl (lv_at hl 2 rfl) ?_
    refine lv_iload_n E.hx E.hb dX7_least_207 rfl (lv_at hl 3 rfl) ?_
    refine lv_iload E.hx E.hb dX7_least_208 (lv_at hl 12 rfl) ?_
    refine lv_iload E.hx E.hb dX7_least_210 (lv_at hl 4 rfl) ?_
    refine lv_iload_n E.hx E.hb dX7_least_212 rfl (lv_at hl 2 rfl) ?_
    refine lv_isub E.hx E.hb dX7_least_213 ?_
    refine lv_iload E.hx E.hb dX7_least_214 (lv_at hl 5 rfl) ?_
    refine lv_iload_n E.hx E.hb dX7_least_216 rfl (lv_at hl 3 rfl) ?_
    refine lv_isub E.hx E.hb dX7_least_217 ?_
    obtain ⟨r_27, e_28, h⟩ := obind h
    refine iv_X7_114 (ad := ad) E K0 P S e_28 (by decide) hl.1 (Nat.le_of_ble_eq_true rfl) dX7_least_218 ?_
    refine lv_isub E.hx E.hb dX7_least_221 ?_
    refine lv_istore (lv' := [(15, .int ((r_23 + r_25) - r_27)), (14, .int t0), (0, .ref (ad 0)), (1, .int x1), (2, .int x2), (4, .int x4), (5, .int x5), (6, .int x6), (7, .int x7), (8, .int x8), (9, .int x9), (10, .int x10), (11, .int x11), (12, .int x12), (13, .int x13)]) E.hx E.hb dX7_least_222 hl (by decide) rfl (fun ls hl => ?_)
    refine lv_iload E.hx E.hb dX7_least_224 (lv_at hl 0 rfl) ?_
    refine lv_iload E.hx E.hb dX7_least_226 (lv_at hl 11 rfl) ?_
    refine lv_icmp_ge (tgt := 236) E.hx E.hb dX7_least_228 (by decide) (fun c_29 => ?_) (fun c_29 => ?_)
    · rw [if_pos c_29] at h
      refine lv_iload E.hx E.hb dX7_least_236 (lv_at hl 11 rfl) ?_
      refine lv_istore (lv' := [(10, .int x10), (15, .int ((r_23 + r_25) - r_27)), (14, .int t0), (0, .ref (ad 0)), (1, .int x1), (2, .int x2), (4, .int x4), (5, .int x5), (6, .int x6), (7, .int x7), (8, .int x8), (9, .int x9), (11, .int x11), (12, .int x12), (13, .int x13)]) E.hx E.hb dX7_least_238 hl (by decide) rfl (fun ls hl => ?_)
      refine lv_iinc (v := x11 + 1) (lv' := [(11, .int (x11 + 1)), (10, .int x10), (15, .int ((r_23 + r_25) - r_27)), (14, .int t0), (0, .ref (ad 0)), (1, .int x1), (2, .int x2), (4, .int x4), (5, .int x5), (6, .int x6), (7, .int x7), (8, .int x8), (9, .int x9), (12, .int x12), (13, .int x13)]) E.hx E.hb dX7_least_240 hl (k := 12) rfl rfl (by decide) rfl (fun ls hl => ?_)
      refine lv_goto (tgt := 98) E.hx E.hb dX7_least_243 (by decide) ?_
      exact hk P S h (lv_sub hl [4, 5, 6, 7, 8, 9, 10, 11, 12, 1, 0] rfl)
    · rw [if_neg c_29] at h
      refine lv_iload E.hx E.hb dX7_least_231 (lv_at hl 0 rfl) ?_
      refine lv_goto (tgt := 238) E.hx E.hb dX7_least_233 (by decide) ?_
      refine lv_istore (lv' := [(10, .int ((r_23 + r_25) - r_27)), (15, .int ((r_23 + r_25) - r_27)), (14, .int t0), (0, .ref (ad 0)), (1, .int x1), (2, .int x2), (4, .int x4), (5, .int x5), (6, .int x6), (7, .int x7), (8, .int x8), (9, .int x9), (11, .int x11), (12, .int x12), (13, .int x13)]) E.hx E.hb dX7_least_238 hl (by decide) rfl (fun ls hl => ?_)
      refine lv_iinc (v := x11 + 1) (lv' := [(11, .int (x11 + 1)), (10, .int ((r_23 + r_25) - r_27)), (15, .int ((r_23 + r_25) - r_27)), (14, .int t0), (0, .ref (ad 0)), (1, .int x1), (2, .int x2), (4, .int x4), (5, .int x5), (6, .int x6), (7, .int x7), (8, .int x8), (9, .int x9), (12, .int x12), (13, .int x13)]) E.hx E.hb dX7_least_240 hl (k := 12) rfl rfl (by decide) rfl (fun ls hl => ?_)
      refine lv_goto (tgt := 98) E.hx E.hb dX7_least_243 (by decide) ?_
      exact hk P S h (lv_sub hl [4, 5, 6, 7, 8, 9, 10, 11, 12, 1, 0] rfl)
def B_X7_least_J156 (k : Int32 → Int32 → (Nat → Int32) → (Nat → Nat → Int32) → Option (Int32 × (Nat → Int32) × (Nat → Nat → Int32))) (I : Nat → Int32) (A : Nat → Nat → Int32) (x1 x2 x4 x5 x6 x7 x8 x9 x10 x11 x12 x13 : Int32) : Option (Int32 × (Nat → Int32) × (Nat → Nat → Int32)) := B_X7_least_J161 k I A x1 x2 x4 x5 x6 x7 x8 x9 x10 x11 x12 x13 1
set_option maxHeartbeats 4000000 in
set_option maxRecDepth 100000 in
theorem w_X7_least_J156 (E : EX p s m args meth c cX7_least 16 RX7 (some .int)) (K0 : KM D cyI s s.heap) (N : AdN 16 ad) {x1 x2 x4 x5 x6 x7 x8 x9 x10 x11 x12 x13 : Int32} {k : Int32 → Int32 → (Nat → Int32) → (Nat → Nat → Int32) → Option (Int32 × (Nat → Int32) × (Nat → Nat → Int32))} {o : Int32 × (Nat → Int32) × (Nat → Nat → Int32)} {out : Int32 × (Nat → Int32) × (Nat → Nat → Int32)} (hk : ∀ {x10 x11 : Int32} {I : Nat → Int32} {A : Nat → Nat → Int32} {H : Heap} {locs : List Loc} (_ : va_P D classes (mw cyI ad I A) H) (_ : va_S (InN 16 ad) s.heap H locs) (_ : k x10 x11 I A = some o) {ls : Array Slot}, lv_has ls 16 [(0, .ref (ad 0)), (1, .int x1), (2, .int x2), (4, .int x4), (5, .int x5), (6, .int x6), (7, .int x7), (8, .int x8), (9, .int x9), (10, .int x10), (11, .int x11)] → W p l e (rmL 4) s m args below meth c H locs 0 0 (MQ below (Qrw (InN 16 ad) (some (.int out.1)) (fun H1 => va_P D classes (mw cyI ad out.2.1 out.2.2) H1)) args s 0 0 (InN 16 ad)) (F0 m 98 ls [])) (kx : ∀ {H : Heap} {locs : List Loc} (_ : va_P D classes (mw cyI ad o.2.1 o.2.2) H) (_ : va_S (InN 16 ad) s.heap H locs) {ls : Array Slot}, lv_has ls 16 [(0, .ref (ad 0)), (6, .int x6), (7, .int x7), (8, .int x8), (9, .int x9), (10, .int o.1)] → W p l e (rmL 4) s m args below meth c H locs 0 0 (MQ below (Qrw (InN 16 ad) (some (.int out.1)) (fun H1 => va_P D classes (mw cyI ad out.2.1 out.2.2) H1)) args s 0 0 (InN 16 ad)) (F0 m 246 ls [])) {H : Heap} {locs : List Loc} (P : va_P D classes (mw cyI ad I A) H) (S : va_S (InN 16 ad) s.heap H locs) (h : B_X7_least_J156 k I A x1 x2 x4 x5 x6 x7 x8 x9 x10 x11 x12 x13 = some o) {ls : Array Slot} (hl : lv_has ls 16 [(0, .ref (ad 0)), (1, .int x1), (2, .int x2), (4, .int x4), (5, .int x5), (6, .int x6), (7, .int x7), (8, .int x8), (9, .int x9), (10, .int x10), (11, .int x11), (12, .int x12), (13, .int x13)]) : W p l e (rmL 4) s m args below meth c H locs 0 0 (MQ below (Qrw (InN 16 ad) (some (.int out.1)) (fun H1 => va_P D classes (mw cyI ad out.2.1 out.2.2) H1)) args s 0 0 (InN 16 ad)) (F0 m 156 ls []) := by
  unfold B_X7_least_J156 at h
  refine lv_iconst (v := 1) E.hx E.hb dX7_least_156 (by decide) ?_
  refine lv_goto (tgt := 161) E.hx E.hb dX7_least_157 (by decide) ?_
  exact w_X7_least_J161 E K0 N hk kx P S h (lv_sub hl [0, 1, 2, 3, 4, 5, 6, 7, 8, 9, 10, 11, 12] rfl)
def B_X7_least_J160 (k : Int32 → Int32 → (Nat → Int32) → (Nat → Nat → Int32) → Option (Int32 × (Nat → Int32) × (Nat → Nat → Int32))) (I : Nat → Int32) (A : Nat → Nat → Int32) (x1 x2 x4 x5 x6 x7 x8 x9 x10 x11 x12 x13 : Int32) : Option (Int32 × (Nat → Int32) × (Nat → Nat → Int32)) := B_X7_least_J161 k I A x1 x2 x4 x5 x6 x7 x8 x9 x10 x11 x12 x13 0
set_option maxHeartbeats 4000000 in
set_option maxRecDepth 100000 in
theorem w_X7_least_J160 (E : EX p s m args meth c cX7_least 16 RX7 (some .int)) (K0 : KM D cyI s s.heap) (N : AdN 16 ad) {x1 x2 x4 x5 x6 x7 x8 x9 x10 x11 x12 x13 : Int32} {k : Int32 → Int32 → (Nat → Int32) → (Nat → Nat → Int32) → Option (Int32 × (Nat → Int32) × (Nat → Nat → Int32))} {o : Int32 × (Nat → Int32) × (Nat → Nat → Int32)} {out : Int32 × (Nat → Int32) × (Nat → Nat → Int32)} (hk : ∀ {x10 x11 : Int32} {I : Nat → Int32} {A : Nat → Nat → Int32} {H : Heap} {locs : List Loc} (_ : va_P D classes (mw cyI ad I A) H) (_ : va_S (InN 16 ad) s.heap H locs) (_ : k x10 x11 I A = some o) {ls : Array Slot}, lv_has ls 16 [(0, .ref (ad 0)), (1, .int x1), (2, .int x2), (4, .int x4), (5, .int x5), (6, .int x6), (7, .int x7), (8, .int x8), (9, .int x9), (10, .int x10), (11, .int x11)] → W p l e (rmL 4) s m args below meth c H locs 0 0 (MQ below (Qrw (InN 16 ad) (some (.int out.1)) (fun H1 => va_P D classes (mw cyI ad out.2.1 out.2.2) H1)) args s 0 0 (InN 16 ad)) (F0 m 98 ls [])) (kx : ∀ {H : Heap} {locs : List Loc} (_ : va_P D classes (mw cyI ad o.2.1 o.2.2) H) (_ : va_S (InN 16 ad) s.heap H locs) {ls : Array Slot}, lv_has ls 16 [(0, .ref (ad 0)), (6, .int x6), (7, .int x7), (8, .int x8), (9, .int x9), (10, .int o.1)] → W p l e (rmL 4) s m args below meth c H locs 0 0 (MQ below (Qrw (InN 16 ad) (some (.int out.1)) (fun H1 => va_P D classes (mw cyI ad out.2.1 out.2.2) H1)) args s 0 0 (InN 16 ad)) (F0 m 246 ls [])) {H : Heap} {locs : List Loc} (P : va_P D classes (mw cyI ad I A) H) (S : va_S (InN 16 ad) s.heap H locs) (h : B_X7_least_J160 k I A x1 x2 x4 x5 x6 x7 x8 x9 x10 x11 x12 x13 = some o) {ls : Array Slot} (hl : lv_has ls 16 [(0, .ref (ad 0)), (1, .int x1), (2, .int x2), (4, .int x4), (5, .int x5), (6, .int x6), (7, .int x7), (8, .int x8), (9, .int x9), (10, .int x10), (11, .int x11), (12, .int x12), (13, .int x13)]) : W p l e (rmL 4) s m args below meth c H locs 0 0 (MQ below (Qrw (InN 16 ad) (some (.int out.1)) (fun H1 => va_P D classes (mw cyI ad out.2.1 out.2.2) H1)) args s 0 0 (InN 16 ad)) (F0 m 160 ls []) := by
  unfold B_X7_least_J160 at h
  refine lv_iconst (v := 0) E.hx E.hb dX7_least_160 (by decide) ?_
  exact w_X7_least_J161 E K0 N hk kx P S h (lv_sub hl [0, 1, 2, 3, 4, 5, 6, 7, 8, 9, 10, 11, 12] rfl)
def B_X7_least_J138 (k : Int32 → Int32 → (Nat → Int32) → (Nat → Nat → Int32) → Option (Int32 × (Nat → Int32) × (Nat → Nat → Int32))) (I : Nat → Int32) (A : Nat → Nat → Int32) (x1 x2 x4 x5 x6 x7 x8 x9 x10 x11 x12 x13 : Int32) : Option (Int32 × (Nat → Int32) × (Nat → Nat → Int32)) := (rd (A 1) 144 x7).bind fun v_15 => if v_15 = 1 then (if x13 = x9 then B_X7_least_J156 k I A x1 x2 x4 x5 x6 x7 x8 x9 x10 x11 x12 x13 else B_X7_least_J160 k I A x1 x2 x4 x5 x6 x7 x8 x9 x10 x11 x12 x13) else B_X7_least_J156 k I A x1 x2 x4 x5 x6 x7 x8 x9 x10 x11 x12 x13
set_option maxHeartbeats 4000000 in
set_option maxRecDepth 100000 in
theorem w_X7_least_J138 (E : EX p s m args meth c cX7_least 16 RX7 (some .int)) (K0 : KM D cyI s s.heap) (N : AdN 16 ad) {x1 x2 x4 x5 x6 x7 x8 x9 x10 x11 x12 x13 : Int32} {k : Int32 → Int32 → (Nat → Int32) → (Nat → Nat → Int32) → Option (Int32 × (Nat → Int32) × (Nat → Nat → Int32))} {o : Int32 × (Nat → Int32) × (Nat → Nat → Int32)} {out : Int32 × (Nat → Int32) × (Nat → Nat → Int32)} (hk : ∀ {x10 x11 : Int32} {I : Nat → Int32} {A : Nat → Nat → Int32} {H : Heap} {locs : List Loc} (_ : va_P D classes (mw cyI ad I A) H) (_ : va_S (InN 16 ad) s.heap H locs) (_ : k x10 x11 I A = some o) {ls : Array Slot}, lv_has ls 16 [(0, .ref (ad 0)), (1, .int x1), (2, .int x2), (4, .int x4), (5, .int x5), (6, .int x6), (7, .int x7), (8, .int x8), (9, .int x9), (10, .int x10), (11, .int x11)] → W p l e (rmL 4) s m args below meth c H locs 0 0 (MQ below (Qrw (InN 16 ad) (some (.int out.1)) (fun H1 => va_P D classes (mw cyI ad out.2.1 out.2.2) H1)) args s 0 0 (InN 16 ad)) (F0 m 98 ls [])) (kx : ∀ {H : Heap} {locs : List Loc} (_ : va_P D classes (mw cyI ad o.2.1 o.2.2) H) (_ : va_S (InN 16 ad) s.heap H locs) {ls : Array Slot}, lv_has ls 16 [(0, .ref (ad 0)), (6, .int x6), (7, .int x7), (8, .int x8), (9, .int x9), (10, .int o.1)] → W p l e (rmL 4) s m args below meth c H locs 0 0 (MQ below (Qrw (InN 16 ad) (some (.int out.1)) (fun H1 => va_P D classes (mw cyI ad out.2.1 out.2.2) H1)) args s 0 0 (InN 16 ad)) (F0 m 246 ls [])) {H : Heap} {locs : List Loc} (P : va_P D classes (mw cyI ad I A) H) (S : va_S (InN 16 ad) s.heap H locs) (h : B_X7_least_J138 k I A x1 x2 x4 x5 x6 x7 x8 x9 x10 x11 x12 x13 = some o) {ls : Array Slot} (hl : lv_has ls 16 [(0, .ref (ad 0)), (1, .int x1), (2, .int x2), (4, .int x4), (5, .int x5), (6, .int x6), (7, .int x7), (8, .int x8), (9, .int x9), (10, .int x10), (11, .int x11), (12, .int x12), (13, .int x13)]) : W p l e (rmL 4) s m args below meth c H locs 0 0 (MQ below (Qrw (InN 16 ad) (some (.int out.1)) (fun H1 => va_P D classes (mw cyI ad out.2.1 out.2.2) H1)) args s 0 0 (InN 16 ad)) (F0 m 138 ls []) := by
  unfold B_X7_least_J138 at h
  refine lv_aload_n E.hx E.hb dX7_least_138 rfl (lv_at hl 0 rfl) ?_
  refine gf_X7_26 E K0 P dX7_least_139 ?_
  refine lv_iload E.hx E.hb dX7_least_142 (lv_at hl 6 rfl) ?_
  obtain ⟨v_15, e_16, h⟩ := obind h
  refine al_1 E K0 P e_16 dX7_least_144 ?_
  refine lv_iconst (v := 1) E.hx E.hb dX7_least_145 (by decide) ?_
  refine lv_icmp_ne (tgt := 156) E.hx E.hb dX7_least_146 (by decide) (fun c_17 => ?_) (fun c_17 => ?_)
  · rw [if_neg c_17] at h
    exact w_X7_least_J156 E K0 N hk kx P S h (lv_sub hl [0, 1, 2, 3, 4, 5, 6, 7, 8, 9, 10, 11, 12] rfl)
  · rw [if_pos c_17] at h
    refine lv_iload E.hx E.hb dX7_least_149 (lv_at hl 12 rfl) ?_
    refine lv_iload E.hx E.hb dX7_least_151 (lv_at hl 8 rfl) ?_
    refine lv_icmp_ne (tgt := 160) E.hx E.hb dX7_least_153 (by decide) (fun c_30 => ?_) (fun c_30 => ?_)
    · rw [if_neg c_30] at h
      exact w_X7_least_J160 E K0 N hk kx P S h (lv_sub hl [0, 1, 2, 3, 4, 5, 6, 7, 8, 9, 10, 11, 12] rfl)
    · rw [if_pos c_30] at h
      exact w_X7_least_J156 E K0 N hk kx P S h (lv_sub hl [0, 1, 2, 3, 4, 5, 6, 7, 8, 9, 10, 11, 12] rfl)
def B_X7_least_L98  (x1 x2 x4 x5 x6 x7 x8 x9 : Int32) : Nat → Int32 → Int32 → (Nat → Int32) → (Nat → Nat → Int32) → Option (Int32 × (Nat → Int32) × (Nat → Nat → Int32))
  | 0 => fun _ _ _ _ => none
  | n + 1 => fun x10 x11 I A => if 225 ≤ x11 then some ((x10, I, A)) else ((rd (A 1) 144 x6).bind fun v_12 => if v_12 = 1 then (if (x11 / 15) = x8 then B_X7_least_J138 ((B_X7_least_L98 x1 x2 x4 x5 x6 x7 x8 x9 n)) I A x1 x2 x4 x5 x6 x7 x8 x9 x10 x11 ((x11 / 15)) ((x11 - x11 / 15 * 15)) else B_X7_least_J160 ((B_X7_least_L98 x1 x2 x4 x5 x6 x7 x8 x9 n)) I A x1 x2 x4 x5 x6 x7 x8 x9 x10 x11 ((x11 / 15)) ((x11 - x11 / 15 * 15))) else B_X7_least_J138 ((B_X7_least_L98 x1 x2 x4 x5 x6 x7 x8 x9 n)) I A x1 x2 x4 x5 x6 x7 x8 x9 x10 x11 ((x11 / 15)) ((x11 - x11 / 15 * 15)))
theorem B_X7_least_L98_s (I : Nat → Int32) (A : Nat → Nat → Int32) (x1 x2 x4 x5 x6 x7 x8 x9 x10 x11 : Int32) (n : Nat) : B_X7_least_L98  x1 x2 x4 x5 x6 x7 x8 x9 (n + 1) x10 x11 I A = if 225 ≤ x11 then some ((x10, I, A)) else ((rd (A 1) 144 x6).bind fun v_12 => if v_12 = 1 then (if (x11 / 15) = x8 then B_X7_least_J138 ((B_X7_least_L98 x1 x2 x4 x5 x6 x7 x8 x9 n)) I A x1 x2 x4 x5 x6 x7 x8 x9 x10 x11 ((x11 / 15)) ((x11 - x11 / 15 * 15)) else B_X7_least_J160 ((B_X7_least_L98 x1 x2 x4 x5 x6 x7 x8 x9 n)) I A x1 x2 x4 x5 x6 x7 x8 x9 x10 x11 ((x11 / 15)) ((x11 - x11 / 15 * 15))) else B_X7_least_J138 ((B_X7_least_L98 x1 x2 x4 x5 x6 x7 x8 x9 n)) I A x1 x2 x4 x5 x6 x7 x8 x9 x10 x11 ((x11 / 15)) ((x11 - x11 / 15 * 15))) := rfl
set_option maxHeartbeats 4000000 in
set_option maxRecDepth 100000 in
theorem w_X7_least_L98 (E : EX p s m args meth c cX7_least 16 RX7 (some .int)) (K0 : KM D cyI s s.heap) (N : AdN 16 ad) {x1 x2 x4 x5 x6 x7 x8 x9 : Int32} {out : Int32 × (Nat → Int32) × (Nat → Nat → Int32)} : ∀ (n : Nat) {x10 x11 : Int32} {I : Nat → Int32} {A : Nat → Nat → Int32} {H : Heap} {locs : List Loc} (P : va_P D classes (mw cyI ad I A) H) (S : va_S (InN 16 ad) s.heap H locs) {o : Int32 × (Nat → Int32) × (Nat → Nat → Int32)} (h : B_X7_least_L98  x1 x2 x4 x5 x6 x7 x8 x9 n x10 x11 I A = some o) {ls : Array Slot} (hl : lv_has ls 16 [(0, .ref (ad 0)), (1, .int x1), (2, .int x2), (4, .int x4), (5, .int x5), (6, .int x6), (7, .int x7), (8, .int x8), (9, .int x9), (10, .int x10), (11, .int x11)]) (kx : ∀ {H : Heap} {locs : List Loc} (_ : va_P D classes (mw cyI ad o.2.1 o.2.2) H) (_ : va_S (InN 16 ad) s.heap H locs) {ls : Array Slot}, lv_has ls 16 [(0, .ref (ad 0)), (6, .int x6), (7, .int x7), (8, .int x8), (9, .int x9), (10, .int o.1)] → W p l e (rmL 4) s m args below meth c H locs 0 0 (MQ below (Qrw (InN 16 ad) (some (.int out.1)) (fun H1 => va_P D classes (mw cyI ad out.2.1 out.2.2) H1)) args s 0 0 (InN 16 ad)) (F0 m 246 ls [])), W p l e (rmL 4) s m args below meth c H locs 0 0 (MQ below (Qrw (InN 16 ad) (some (.int out.1)) (fun H1 => va_P D classes (mw cyI ad out.2.1 out.2.2) H1)) args s 0 0 (InN 16 ad)) (F0 m 98 ls []) := by
  intro n
  induction n with
  | zero => intro x10 x11 I A H locs P S o h ls hl kx; exact nomatch (show none = some o from h)
  | succ n ih =>
    intro x10 x11 I A H locs P S o h ls hl kx
    rw [B_X7_least_L98_s] at h
    refine lv_iload E.hx E.hb dX7_least_98 (lv_at hl 10 rfl) ?_
    refine lv_sipush (v := 225) E.hx E.hb dX7_least_100 (by decide) ?_
    refine lv_icmp_ge (tgt := 246) E.hx E.hb dX7_least_103 (by decide) (fun c_11 => ?_) (fun c_11 => ?_)
    · rw [if_pos c_11] at h
      cases h
      exact kx P S (lv_sub hl [0, 5, 6, 7, 8, 9] rfl)
    · rw [if_neg c_11] at h
      refine lv_iload E.hx E.hb dX7_least_106 (lv_at hl 10 rfl) ?_
      refine lv_bipush (v := 15) E.hx E.hb dX7_least_108 (by decide) ?_
      refine lv_idiv E.hx E.hb dX7_least_110 (by decide) ?_
      refine lv_istore (lv' := [(12, .int (x11 / 15)), (0, .ref (ad 0)), (1, .int x1), (2, .int x2), (4, .int x4), (5, .int x5), (6, .int x6), (7, .int x7), (8, .int x8), (9, .int x9), (10, .int x10), (11, .int x11)]) E.hx E.hb dX7_least_111 hl (by decide) rfl (fun ls hl => ?_)
      refine lv_iload E.hx E.hb dX7_least_113 (lv_at hl 11 rfl) ?_
      refine lv_bipush (v := 15) E.hx E.hb dX7_least_115 (by decide) ?_
      refine lv_irem E.hx E.hb dX7_least_117 (by decide) ?_
      refine lv_istore (lv' := [(13, .int (x11 - x11 / 15 * 15)), (12, .int (x11 / 15)), (0, .ref (ad 0)), (1, .int x1), (2, .int x2), (4, .int x4), (5, .int x5), (6, .int x6), (7, .int x7), (8, .int x8), (9, .int x9), (10, .int x10), (11, .int x11)]) E.hx E.hb dX7_least_118 hl (by decide) rfl (fun ls hl => ?_)
      refine lv_aload_n E.hx E.hb dX7_least_120 rfl (lv_at hl 2 rfl) ?_
      refine gf_X7_26 E K0 P dX7_least_121 ?_
      refine lv_iload E.hx E.hb dX7_least_124 (lv_at hl 7 rfl) ?_
      obtain ⟨v_12, e_13, h⟩ := obind h
      refine al_1 E K0 P e_13 dX7_least_126 ?_
      refine lv_iconst (v := 1) E.hx E.hb dX7_least_127 (by decide) ?_
      refine lv_icmp_ne (tgt := 138) E.hx E.hb dX7_least_128 (by decide) (fun c_14 => ?_) (fun c_14 => ?_)
      · rw [if_neg c_14] at h
        exact w_X7_least_J138 E K0 N (fun {_} {_} {_} {_} {_} {_} P S h {ls} hl => ih P S h hl kx) kx P S h (lv_sub hl [2, 3, 4, 5, 6, 7, 8, 9, 10, 11, 12, 1, 0] rfl)
      · rw [if_pos c_14] at h
        refine lv_iload E.hx E.hb dX7_least_131 (lv_at hl 1 rfl) ?_
        refine lv_iload E.hx E.hb dX7_least_133 (lv_at hl 9 rfl) ?_
        refine lv_icmp_ne (tgt := 160) E.hx E.hb dX7_least_135 (by decide) (fun c_31 => ?_) (fun c_31 => ?_)
        · rw [if_neg c_31] at h
          exact w_X7_least_J160 E K0 N (fun {_} {_} {_} {_} {_} {_} P S h {ls} hl => ih P S h hl kx) kx P S h (lv_sub hl [2, 3, 4, 5, 6, 7, 8, 9, 10, 11, 12, 1, 0] rfl)
        · rw [if_pos c_31] at h
          exact w_X7_least_J138 E K0 N (fun {_} {_} {_} {_} {_} {_} P S h {ls} hl => ih P S h hl kx) kx P S h (lv_sub hl [2, 3, 4, 5, 6, 7, 8, 9, 10, 11, 12, 1, 0] rfl)
def B_X7_least_J29  (I : Nat → Int32) (A : Nat → Nat → Int32) (x1 x2 x4 t0 : Int32) : Option (Int32 × (Nat → Int32) × (Nat → Nat → Int32)) := if (B_X7_isCell I A x1 x2) = 0 then B_X7_least_J51  I A  else (if (B_X7_isCell I A x4 t0) = 0 then B_X7_least_J51  I A  else ((rd (A 0) 144 ((B_X7_cell x1 x2))).bind fun v_7 => (rd (A 0) 144 ((B_X7_cell x4 t0))).bind fun v_9 => (B_X7_least_L98  x1 x2 x4 t0 ((B_X7_cell x1 x2)) ((B_X7_cell x4 t0)) v_7 v_9 FU 1000000000 0 I A).bind fun q_32 => (wr (q_32.2.2 0) 144 ((B_X7_cell x1 x2)) v_7).bind fun g_34 => (wr (((va_up q_32.2.2 0 g_34)) 0) 144 ((B_X7_cell x4 t0)) v_9).bind fun g_36 => some (q_32.1, q_32.2.1, (va_up ((va_up q_32.2.2 0 g_34)) 0 g_36))))
set_option maxHeartbeats 4000000 in
set_option maxRecDepth 100000 in
theorem w_X7_least_J29 (E : EX p s m args meth c cX7_least 16 RX7 (some .int)) (K0 : KM D cyI s s.heap) (N : AdN 16 ad) {H : Heap} {locs : List Loc} (P : va_P D classes (mw cyI ad I A) H) (S : va_S (InN 16 ad) s.heap H locs) {x1 x2 x4 t0 : Int32} {out : Int32 × (Nat → Int32) × (Nat → Nat → Int32)} (h : B_X7_least_J29  I A x1 x2 x4 t0 = some out) {ls : Array Slot} (hl : lv_has ls 16 [(0, .ref (ad 0)), (1, .int x1), (2, .int x2), (4, .int x4)]) : W p l e (rmL 4) s m args below meth c H locs 0 0 (MQ below (Qrw (InN 16 ad) (some (.int out.1)) (fun H1 => va_P D classes (mw cyI ad out.2.1 out.2.2) H1)) args s 0 0 (InN 16 ad)) (F0 m 29 ls [.int t0]) := by
  unfold B_X7_least_J29 at h
  refine lv_istore (lv' := [(5, .int t0), (0, .ref (ad 0)), (1, .int x1), (2, .int x2), (4, .int x4)]) E.hx E.hb dX7_least_29 hl (by decide) rfl (fun ls hl => ?_)
  refine lv_aload_n E.hx E.hb dX7_least_31 rfl (lv_at hl 1 rfl) ?_
  refine lv_iload_n E.hx E.hb dX7_least_32 rfl (lv_at hl 2 rfl) ?_
  refine lv_iload_n E.hx E.hb dX7_least_33 rfl (lv_at hl 3 rfl) ?_
  refine iv_X7_106 (ad := ad) E K0 P S (by decide) hl.1 (Nat.le_of_ble_eq_true rfl) dX7_least_34 ?_
  refine lv_if_eq (tgt := 51) E.hx E.hb dX7_least_37 (by decide) (fun c_3 => ?_) (fun c_3 => ?_)
  · rw [if_pos c_3] at h
    exact w_X7_least_J51 E K0 N P S h (lv_sub hl [1] rfl)
  · rw [if_neg c_3] at h
    refine lv_aload_n E.hx E.hb dX7_least_40 rfl (lv_at hl 1 rfl) ?_
    refine lv_iload E.hx E.hb dX7_least_41 (lv_at hl 4 rfl) ?_
    refine lv_iload E.hx E.hb dX7_least_43 (lv_at hl 0 rfl) ?_
    refine iv_X7_106 (ad := ad) E K0 P S (by decide) hl.1 (Nat.le_of_ble_eq_true rfl) dX7_least_45 ?_
    refine lv_if_ne (tgt := 57) E.hx E.hb dX7_least_48 (by decide) (fun c_6 => ?_) (fun c_6 => ?_)
    · rw [if_neg c_6] at h
      refine lv_iload_n E.hx E.hb dX7_least_57 rfl (lv_at hl 2 rfl) ?_
      refine lv_iload_n E.hx E.hb dX7_least_58 rfl (lv_at hl 3 rfl) ?_
      refine iv_X7_100 (ad := ad) E K0 S (by decide) hl.1 (Nat.le_of_ble_eq_true rfl) dX7_least_59 ?_
      refine lv_istore (lv' := [(6, .int (B_X7_cell x1 x2)), (5, .int t0), (0, .ref (ad 0)), (1, .int x1), (2, .int x2), (4, .int x4)]) E.hx E.hb dX7_least_62 hl (by decide) rfl (fun ls hl => ?_)
      refine lv_iload E.hx E.hb dX7_least_64 (lv_at hl 5 rfl) ?_
      refine lv_iload E.hx E.hb dX7_least_66 (lv_at hl 1 rfl) ?_
      refine iv_X7_100 (ad := ad) E K0 S (by decide) hl.1 (Nat.le_of_ble_eq_true rfl) dX7_least_68 ?_
      refine lv_istore (lv' := [(7, .int (B_X7_cell x4 t0)), (6, .int (B_X7_cell x1 x2)), (5, .int t0), (0, .ref (ad 0)), (1, .int x1), (2, .int x2), (4, .int x4)]) E.hx E.hb dX7_least_71 hl (by decide) rfl (fun ls hl => ?_)
      refine lv_aload_n E.hx E.hb dX7_least_73 rfl (lv_at hl 3 rfl) ?_
      refine gf_X7_22 E K0 P dX7_least_74 ?_
      refine lv_iload E.hx E.hb dX7_least_77 (lv_at hl 1 rfl) ?_
      obtain ⟨v_7, e_8, h⟩ := obind h
      refine al_0 E K0 P e_8 dX7_least_79 ?_
      refine lv_istore (lv' := [(8, .int v_7), (7, .int (B_X7_cell x4 t0)), (6, .int (B_X7_cell x1 x2)), (5, .int t0), (0, .ref (ad 0)), (1, .int x1), (2, .int x2), (4, .int x4)]) E.hx E.hb dX7_least_80 hl (by decide) rfl (fun ls hl => ?_)
      refine lv_aload_n E.hx E.hb dX7_least_82 rfl (lv_at hl 4 rfl) ?_
      refine gf_X7_22 E K0 P dX7_least_83 ?_
      refine lv_iload E.hx E.hb dX7_least_86 (lv_at hl 1 rfl) ?_
      obtain ⟨v_9, e_10, h⟩ := obind h
      refine al_0 E K0 P e_10 dX7_least_88 ?_
      refine lv_istore (lv' := [(9, .int v_9), (8, .int v_7), (7, .int (B_X7_cell x4 t0)), (6, .int (B_X7_cell x1 x2)), (5, .int t0), (0, .ref (ad 0)), (1, .int x1), (2, .int x2), (4, .int x4)]) E.hx E.hb dX7_least_89 hl (by decide) rfl (fun ls hl => ?_)
      refine lv_ldc (v := 1000000000) E.hx E.hb E.ho (E.ht _ kCN_X7_163) dX7_least_91 ?_
      refine lv_istore (lv' := [(10, .int 1000000000), (9, .int v_9), (8, .int v_7), (7, .int (B_X7_cell x4 t0)), (6, .int (B_X7_cell x1 x2)), (5, .int t0), (0, .ref (ad 0)), (1, .int x1), (2, .int x2), (4, .int x4)]) E.hx E.hb dX7_least_93 hl (by decide) rfl (fun ls hl => ?_)
      refine lv_iconst (v := 0) E.hx E.hb dX7_least_95 (by decide) ?_
      refine lv_istore (lv' := [(11, .int 0), (10, .int 1000000000), (9, .int v_9), (8, .int v_7), (7, .int (B_X7_cell x4 t0)), (6, .int (B_X7_cell x1 x2)), (5, .int t0), (0, .ref (ad 0)), (1, .int x1), (2, .int x2), (4, .int x4)]) E.hx E.hb dX7_least_96 hl (by decide) rfl (fun ls hl => ?_)
      obtain ⟨q_32, e_33, h⟩ := obind h
      refine w_X7_least_L98 E K0 N FU P S e_33 (lv_sub hl [7, 8, 9, 10, 6, 5, 4, 3, 2, 1, 0] rfl) (fun {H locs} P S {ls} hl => ?_)
      refine lv_aload_n E.hx E.hb dX7_least_246 rfl (lv_at hl 0 rfl) ?_
      refine gf_X7_22 E K0 P dX7_least_247 ?_
      refine lv_iload E.hx E.hb dX7_least_250 (lv_at hl 1 rfl) ?_
      refine lv_iload E.hx E.hb dX7_least_252 (lv_at hl 3 rfl) ?_
      obtain ⟨g_34, e_35, h⟩ := obind h
      refine as_0 E N K0 P S e_35 dX7_least_254 (fun H locs P S => ?_)
      refine lv_aload_n E.hx E.hb dX7_least_255 rfl (lv_at hl 0 rfl) ?_
      refine gf_X7_22 E K0 P dX7_least_256 ?_
      refine lv_iload E.hx E.hb dX7_least_259 (lv_at hl 2 rfl) ?_
      refine lv_iload E.hx E.hb dX7_least_261 (lv_at hl 4 rfl) ?_
      obtain ⟨g_36, e_37, h⟩ := obind h
      refine as_0 E N K0 P S e_37 dX7_least_263 (fun H locs P S => ?_)
      refine lv_iload E.hx E.hb dX7_least_264 (lv_at hl 5 rfl) ?_
      cases h
      exact W.iret E.hx E.hb E.hr (fun t ht _ => ⟨rfl, by rw [ht]; exact P, S.F ht⟩) S.2.2 dX7_least_266 E.hk
    · rw [if_pos c_6] at h
      exact w_X7_least_J51 E K0 N P S h (lv_sub hl [1] rfl)
def B_X7_least_J16  (I : Nat → Int32) (A : Nat → Nat → Int32) (x1 x2 x3 t0 : Int32) : Option (Int32 × (Nat → Int32) × (Nat → Nat → Int32)) := if x3 = 0 then B_X7_least_J29  I A x1 x2 t0 ((x2 + 1)) else B_X7_least_J29  I A x1 x2 t0 x2
set_option maxHeartbeats 4000000 in
set_option maxRecDepth 100000 in
theorem w_X7_least_J16 (E : EX p s m args meth c cX7_least 16 RX7 (some .int)) (K0 : KM D cyI s s.heap) (N : AdN 16 ad) {H : Heap} {locs : List Loc} (P : va_P D classes (mw cyI ad I A) H) (S : va_S (InN 16 ad) s.heap H locs) {x1 x2 x3 t0 : Int32} {out : Int32 × (Nat → Int32) × (Nat → Nat → Int32)} (h : B_X7_least_J16  I A x1 x2 x3 t0 = some out) {ls : Array Slot} (hl : lv_has ls 16 [(0, .ref (ad 0)), (1, .int x1), (2, .int x2), (3, .int x3)]) : W p l e (rmL 4) s m args below meth c H locs 0 0 (MQ below (Qrw (InN 16 ad) (some (.int out.1)) (fun H1 => va_P D classes (mw cyI ad out.2.1 out.2.2) H1)) args s 0 0 (InN 16 ad)) (F0 m 16 ls [.int t0]) := by
  unfold B_X7_least_J16 at h
  refine lv_istore (lv' := [(4, .int t0), (0, .ref (ad 0)), (1, .int x1), (2, .int x2), (3, .int x3)]) E.hx E.hb dX7_least_16 hl (by decide) rfl (fun ls hl => ?_)
  refine lv_iload_n E.hx E.hb dX7_least_18 rfl (lv_at hl 4 rfl) ?_
  refine lv_if_eq (tgt := 26) E.hx E.hb dX7_least_19 (by decide) (fun c_2 => ?_) (fun c_2 => ?_)
  · rw [if_pos c_2] at h
    refine lv_iload_n E.hx E.hb dX7_least_26 rfl (lv_at hl 3 rfl) ?_
    refine lv_iconst (v := 1) E.hx E.hb dX7_least_27 (by decide) ?_
    refine lv_iadd E.hx E.hb dX7_least_28 ?_
    exact w_X7_least_J29 E K0 N P S h (lv_sub hl [1, 2, 3, 0] rfl)
  · rw [if_neg c_2] at h
    refine lv_iload_n E.hx E.hb dX7_least_22 rfl (lv_at hl 3 rfl) ?_
    refine lv_goto (tgt := 29) E.hx E.hb dX7_least_23 (by decide) ?_
    exact w_X7_least_J29 E K0 N P S h (lv_sub hl [1, 2, 3, 0] rfl)
def B_X7_least (I : Nat → Int32) (A : Nat → Nat → Int32) (x1 x2 x3 : Int32) : Option (Int32 × (Nat → Int32) × (Nat → Nat → Int32)) := if x3 = 0 then B_X7_least_J16  ((va_up I 0 0)) A x1 x2 x3 x1 else B_X7_least_J16  ((va_up I 0 0)) A x1 x2 x3 ((x1 + 1))
set_option maxHeartbeats 4000000 in
set_option maxRecDepth 100000 in
theorem w_X7_least (E : EX p s m args meth c cX7_least 16 RX7 (some .int)) (K0 : KM D cyI s s.heap) (N : AdN 16 ad) {H : Heap} {locs : List Loc} (P : va_P D classes (mw cyI ad I A) H) (S : va_S (InN 16 ad) s.heap H locs)  {x1 x2 x3 : Int32} {out : Int32 × (Nat → Int32) × (Nat → Nat → Int32)} (h : B_X7_least I A x1 x2 x3 = some out) {ls : Array Slot} (hl : lv_has ls 16 [(0, .ref (ad 0)), (1, .int x1), (2, .int x2), (3, .int x3)]) : W p l e (rmL 4) s m args below meth c H locs 0 0 (MQ below (Qrw (InN 16 ad) (some (.int out.1)) (fun H1 => va_P D classes (mw cyI ad out.2.1 out.2.2) H1)) args s 0 0 (InN 16 ad)) (F0 m 0 ls []) := by
  unfold B_X7_least at h
  refine lv_aload_n E.hx E.hb dX7_least_0 rfl (lv_at hl 0 rfl) ?_
  refine lv_iconst (v := 0) E.hx E.hb dX7_least_1 (by decide) ?_
  refine pf_X7_89 E N K0 P S dX7_least_2 (fun H locs P S => ?_)
  refine lv_iload_n E.hx E.hb dX7_least_5 rfl (lv_at hl 3 rfl) ?_
  refine lv_if_eq (tgt := 15) E.hx E.hb dX7_least_6 (by decide) (fun c_1 => ?_) (fun c_1 => ?_)
  · rw [if_pos c_1] at h
    refine lv_iload_n E.hx E.hb dX7_least_15 rfl (lv_at hl 1 rfl) ?_
    exact w_X7_least_J16 E K0 N P S h (lv_sub hl [0, 1, 2, 3] rfl)
  · rw [if_neg c_1] at h
    refine lv_iload_n E.hx E.hb dX7_least_9 rfl (lv_at hl 1 rfl) ?_
    refine lv_iconst (v := 1) E.hx E.hb dX7_least_10 (by decide) ?_
    refine lv_iadd E.hx E.hb dX7_least_11 ?_
    refine lv_goto (tgt := 16) E.hx E.hb dX7_least_12 (by decide) ?_
    exact w_X7_least_J16 E K0 N P S h (lv_sub hl [0, 1, 2, 3] rfl)
theorem c_X7_least (l : Launch) {H : Heap} {D : va_G} {cyI : ClassId} {ad : Nat → Nat} {I : Nat → Int32} {A : Nat → Nat → Int32} (N : AdN 16 ad) (P : va_P D classes (mw cyI ad I A) H) (x1 x2 x3 : Int32) {out : Int32 × (Nat → Int32) × (Nat → Nat → Int32)} (h : B_X7_least I A x1 x2 x3 = some out) : MRW l yX7_least cX7_least 16 (some .int) 4 [.ref (ad 0), .int x1, .int x2, .int x3] H (KM D cyI) (InN 16 ad) (some (.int out.1)) (fun H1 => va_P D classes (mw cyI ad out.2.1 out.2.2) H1) := by
  refine Mof (own := RX7) (by decide +kernel) rfl rfl ?_
  intro p e s m args below meth c ls E hH K0 hl
  subst hH
  exact w_X7_least E K0 N P va_S.rf h hl
theorem ds_X7_least : Dsc yX7_least 3 := ⟨by decide +kernel, by decide +kernel, by decide +kernel⟩
end
section
variable {p : Program} {l : Launch} {e : Env} {s : State} {m : MethodId} {args : Array Value} {below : List Frame} {meth : Method} {c : Code} {D : va_G} {cyI : ClassId} {ad : Nat → Nat} {I : Nat → Int32} {A : Nat → Nat → Int32}
def B_X7_directionAt (I : Nat → Int32) (A : Nat → Nat → Int32) (x1 x2 : Int32) : Option (Int32) := (rd (A 0) 144 ((B_X7_cell x1 x2))).bind fun v_1 => some v_1
set_option maxHeartbeats 4000000 in
set_option maxRecDepth 100000 in
theorem w_X7_directionAt (E : EX p s m args meth c cX7_directionAt 3 RX7 (some .int)) (K0 : KM D cyI s s.heap) (P : va_P D classes (mw cyI ad I A) s.heap)  {x1 x2 : Int32} {out : Int32} (h : B_X7_directionAt I A x1 x2 = some out) {ls : Array Slot} (hl : lv_has ls 3 [(0, .ref (ad 0)), (1, .int x1), (2, .int x2)]) : W p l e (rmL 1) s m args below meth c s.heap [] 0 0 (MQ below (vp_Si (fun z => z = out)) args s 0 0 (fun _ => False)) (F0 m 0 ls []) := by
  unfold B_X7_directionAt at h
  refine lv_aload_n E.hx E.hb dX7_directionAt_0 rfl (lv_at hl 0 rfl) ?_
  refine gf_X7_22 E K0 P dX7_directionAt_1 ?_
  refine lv_iload_n E.hx E.hb dX7_directionAt_4 rfl (lv_at hl 1 rfl) ?_
  refine lv_iload_n E.hx E.hb dX7_directionAt_5 rfl (lv_at hl 2 rfl) ?_
  refine iv_X7_100 (ad := ad) E K0 va_S.rf (by decide) hl.1 (Nat.le_of_ble_eq_true rfl) dX7_directionAt_6 ?_
  obtain ⟨v_1, e_2, h⟩ := obind h
  refine al_0 E K0 P e_2 dX7_directionAt_9 ?_
  exact W.iret E.hx E.hb E.hr (fun t ht _ => ⟨_, rfl, (Option.some.inj h), ht⟩) (fun q hq => nomatch hq) dX7_directionAt_10 E.hk
theorem c_X7_directionAt (l : Launch) {H : Heap} {D : va_G} {cyI : ClassId} {ad : Nat → Nat} {I : Nat → Int32} {A : Nat → Nat → Int32} (P : va_P D classes (mw cyI ad I A) H) (x1 x2 : Int32) {out : Int32} (h : B_X7_directionAt I A x1 x2 = some out) : MRO l yX7_directionAt cX7_directionAt 3 (some .int) 1 [.ref (ad 0), .int x1, .int x2] H (KM D cyI) out := by
  refine Mof (own := RX7) (by decide +kernel) rfl rfl ?_
  intro p e s m args below meth c ls E hH K0 hl
  subst hH
  exact w_X7_directionAt E K0 P h hl
theorem ds_X7_directionAt : Dsc yX7_directionAt 2 := ⟨by decide +kernel, by decide +kernel, by decide +kernel⟩
end
section
variable {p : Program} {l : Launch} {e : Env} {R : Room} {s : State} {m : MethodId} {args : Array Value} {below : List Frame} {meth : Method} {c : Code} {H : Heap} {locs : List Loc} {cells slots : Nat} {Q : State → Prop} {cc : ByteArray} {nL pc : Nat} {ret : Option FieldType} {ls : Array Slot} {rest : List Value} {D : va_G} {cyI : ClassId} {ad : Nat → Nat} {I : Nat → Int32} {A : Nat → Nat → Int32}
theorem iv_X7_164 (E : EX p s m args meth c cc nL RX7 ret) (K0 : KM D cyI s s.heap) (P : va_P D classes (mw cyI ad I A) H) (S : va_S (InN 16 ad) s.heap H locs) {a0 a1 : Int32} {v : Int32} (hv : B_X7_directionAt I A a0 a1 = some v) (hR : RmOk R cells slots 1 3) (hls : ls.size = nL) (hro : (rest.map fun v => v.category).sum ≤ 8) (hdg : decode cc pc = .ok (.invokevirtual 164, 3)) (kk : W p l e R s m args below meth c H locs cells slots Q (F0 m (pc + 3) ls (.int v :: rest))) : W p l e R s m args below meth c H locs cells slots Q (F0 m pc ls (.int a1 :: .int a0 :: .ref (ad 0) :: rest)) :=
  cv_ro E (c_X7_directionAt l P a0 a1 hv) (gV kML_X7_164 kIM_X7_directionAt kSE_X7_directionAt kIN_X7 kCO_X7_directionAt) rfl ds_X7_directionAt rfl KM_blind (fun U _ hW => KM.warm hW K0) (va_recv K0.k P (show classes[7]? = some (RX7, TX7, 27) from rfl) mw_g0) hR hls rfl hro hdg kk
end
section
variable {p : Program} {l : Launch} {e : Env} {s : State} {m : MethodId} {args : Array Value} {below : List Frame} {meth : Method} {c : Code} {D : va_G} {cyI : ClassId} {ad : Nat → Nat} {I : Nat → Int32} {A : Nat → Nat → Int32}
def B_X7_windingAt (I : Nat → Int32) (A : Nat → Nat → Int32) (x1 x2 : Int32) : Option (Int32) := (B_X7_directionAt I A x1 x2).bind fun r_1 => (B_X7_directionAt I A ((x1 + 1)) x2).bind fun r_3 => (B_X7_directionAt I A ((x1 + 1)) ((x2 + 1))).bind fun r_5 => (B_X7_directionAt I A x1 ((x2 + 1))).bind fun r_7 => some ((((((B_X7_on r_7 r_1) + (B_X7_on r_1 r_3)) + (B_X7_on r_3 r_5)) + (B_X7_on r_5 r_7)) / 15))
set_option maxHeartbeats 4000000 in
set_option maxRecDepth 100000 in
theorem w_X7_windingAt (E : EX p s m args meth c cX7_windingAt 7 RX7 (some .int)) (K0 : KM D cyI s s.heap) (P : va_P D classes (mw cyI ad I A) s.heap)  {x1 x2 : Int32} {out : Int32} (h : B_X7_windingAt I A x1 x2 = some out) {ls : Array Slot} (hl : lv_has ls 7 [(0, .ref (ad 0)), (1, .int x1), (2, .int x2)]) : W p l e (rmL 2) s m args below meth c s.heap [] 0 0 (MQ below (vp_Si (fun z => z = out)) args s 0 0 (fun _ => False)) (F0 m 0 ls []) := by
  unfold B_X7_windingAt at h
  refine lv_aload_n E.hx E.hb dX7_windingAt_0 rfl (lv_at hl 0 rfl) ?_
  refine lv_iload_n E.hx E.hb dX7_windingAt_1 rfl (lv_at hl 1 rfl) ?_
  refine lv_iload_n E.hx E.hb dX7_windingAt_2 rfl (lv_at hl 2 rfl) ?_
  obtain ⟨r_1, e_2, h⟩ := obind h
  refine iv_X7_164 (ad := ad) E K0 P va_S.rf e_2 (by decide) hl.1 (Nat.le_of_ble_eq_true rfl) dX7_windingAt_3 ?_
  refine lv_istore_n (lv' := [(3, .int r_1), (0, .ref (ad 0)), (1, .int x1), (2, .int x2)]) E.hx E.hb dX7_windingAt_6 rfl hl (by decide) rfl (fun ls hl => ?_)
  refine lv_aload_n E.hx E.hb dX7_windingAt_7 rfl (lv_at hl 1 rfl) ?_
  refine lv_iload_n E.hx E.hb dX7_windingAt_8 rfl (lv_at hl 2 rfl) ?_
  refine lv_iconst (v := 1) E.hx E.hb dX7_windingAt_9 (by decide) ?_
  refine lv_iadd E.hx E.hb dX7_windingAt_10 ?_
  refine lv_iload_n E.hx E.hb dX7_windingAt_11 rfl (lv_at hl 3 rfl) ?_
  obtain ⟨r_3, e_4, h⟩ := obind h
  refine iv_X7_164 (ad := ad) E K0 P va_S.rf e_4 (by decide) hl.1 (Nat.le_of_ble_eq_true rfl) dX7_windingAt_12 ?_
  refine lv_istore (lv' := [(4, .int r_3), (3, .int r_1), (0, .ref (ad 0)), (1, .int x1), (2, .int x2)]) E.hx E.hb dX7_windingAt_15 hl (by decide) rfl (fun ls hl => ?_)
  refine lv_aload_n E.hx E.hb dX7_windingAt_17 rfl (lv_at hl 2 rfl) ?_
  refine lv_iload_n E.hx E.hb dX7_windingAt_18 rfl (lv_at hl 3 rfl) ?_
  refine lv_iconst (v := 1) E.hx E.hb dX7_windingAt_19 (by decide) ?_
  refine lv_iadd E.hx E.hb dX7_windingAt_20 ?_
  refine lv_iload_n E.hx E.hb dX7_windingAt_21 rfl (lv_at hl 4 rfl) ?_
  refine lv_iconst (v := 1) E.hx E.hb dX7_windingAt_22 (by decide) ?_
  refine lv_iadd E.hx E.hb dX7_windingAt_23 ?_
  obtain ⟨r_5, e_6, h⟩ := obind h
  refine iv_X7_164 (ad := ad) E K0 P va_S.rf e_6 (by decide) hl.1 (Nat.le_of_ble_eq_true rfl) dX7_windingAt_24 ?_
  refine lv_istore (lv' := [(5, .int r_5), (4, .int r_3), (3, .int r_1), (0, .ref (ad 0)), (1, .int x1), (2, .int x2)]) E.hx E.hb dX7_windingAt_27 hl (by decide) rfl (fun ls hl => ?_)
  refine lv_aload_n E.hx E.hb dX7_windingAt_29 rfl (lv_at hl 3 rfl) ?_
  refine lv_iload_n E.hx E.hb dX7_windingAt_30 rfl (lv_at hl 4 rfl) ?_
  refine lv_iload_n E.hx E.hb dX7_windingAt_31 rfl (lv_at hl 5 rfl) ?_
  refine lv_iconst (v := 1) E.hx E.hb dX7_windingAt_32 (by decide) ?_
  refine lv_iadd E.hx E.hb dX7_windingAt_33 ?_
  obtain ⟨r_7, e_8, h⟩ := obind h
  refine iv_X7_164 (ad := ad) E K0 P va_S.rf e_8 (by decide) hl.1 (Nat.le_of_ble_eq_true rfl) dX7_windingAt_34 ?_
  refine lv_istore (lv' := [(6, .int r_7), (5, .int r_5), (4, .int r_3), (3, .int r_1), (0, .ref (ad 0)), (1, .int x1), (2, .int x2)]) E.hx E.hb dX7_windingAt_37 hl (by decide) rfl (fun ls hl => ?_)
  refine lv_iload E.hx E.hb dX7_windingAt_39 (lv_at hl 0 rfl) ?_
  refine lv_iload_n E.hx E.hb dX7_windingAt_41 rfl (lv_at hl 3 rfl) ?_
  refine iv_X7_96 (ad := ad) E K0 va_S.rf (by decide) hl.1 (Nat.le_of_ble_eq_true rfl) dX7_windingAt_42 ?_
  refine lv_iload_n E.hx E.hb dX7_windingAt_45 rfl (lv_at hl 3 rfl) ?_
  refine lv_iload E.hx E.hb dX7_windingAt_46 (lv_at hl 2 rfl) ?_
  refine iv_X7_96 (ad := ad) E K0 va_S.rf (by decide) hl.1 (Nat.le_of_ble_eq_true rfl) dX7_windingAt_48 ?_
  refine lv_iadd E.hx E.hb dX7_windingAt_51 ?_
  refine lv_iload E.hx E.hb dX7_windingAt_52 (lv_at hl 2 rfl) ?_
  refine lv_iload E.hx E.hb dX7_windingAt_54 (lv_at hl 1 rfl) ?_
  refine iv_X7_96 (ad := ad) E K0 va_S.rf (by decide) hl.1 (Nat.le_of_ble_eq_true rfl) dX7_windingAt_56 ?_
  refine lv_iadd E.hx E.hb dX7_windingAt_59 ?_
  refine lv_iload E.hx E.hb dX7_windingAt_60 (lv_at hl 1 rfl) ?_
  refine lv_iload E.hx E.hb dX7_windingAt_62 (lv_at hl 0 rfl) ?_
  refine iv_X7_96 (ad := ad) E K0 va_S.rf (by decide) hl.1 (Nat.le_of_ble_eq_true rfl) dX7_windingAt_64 ?_
  refine lv_iadd E.hx E.hb dX7_windingAt_67 ?_
  refine lv_bipush (v := 15) E.hx E.hb dX7_windingAt_68 (by decide) ?_
  refine lv_idiv E.hx E.hb dX7_windingAt_70 (by decide) ?_
  exact W.iret E.hx E.hb E.hr (fun t ht _ => ⟨_, rfl, (Option.some.inj h), ht⟩) (fun q hq => nomatch hq) dX7_windingAt_71 E.hk
theorem c_X7_windingAt (l : Launch) {H : Heap} {D : va_G} {cyI : ClassId} {ad : Nat → Nat} {I : Nat → Int32} {A : Nat → Nat → Int32} (P : va_P D classes (mw cyI ad I A) H) (x1 x2 : Int32) {out : Int32} (h : B_X7_windingAt I A x1 x2 = some out) : MRO l yX7_windingAt cX7_windingAt 7 (some .int) 2 [.ref (ad 0), .int x1, .int x2] H (KM D cyI) out := by
  refine Mof (own := RX7) (by decide +kernel) rfl rfl ?_
  intro p e s m args below meth c ls E hH K0 hl
  subst hH
  exact w_X7_windingAt E K0 P h hl
theorem ds_X7_windingAt : Dsc yX7_windingAt 2 := ⟨by decide +kernel, by decide +kernel, by decide +kernel⟩
end
section
variable {p : Program} {l : Launch} {e : Env} {R : Room} {s : State} {m : MethodId} {args : Array Value} {below : List Frame} {meth : Method} {c : Code} {H : Heap} {locs : List Loc} {cells slots : Nat} {Q : State → Prop} {cc : ByteArray} {nL pc : Nat} {ret : Option FieldType} {ls : Array Slot} {rest : List Value} {D : va_G} {cyI : ClassId} {ad : Nat → Nat} {I : Nat → Int32} {A : Nat → Nat → Int32}
theorem iv_X7_167 (E : EX p s m args meth c cc nL RX7 ret) (K0 : KM D cyI s s.heap) (P : va_P D classes (mw cyI ad I A) H) (S : va_S (InN 16 ad) s.heap H locs) {a0 a1 : Int32} {v : Int32} (hv : B_X7_windingAt I A a0 a1 = some v) (hR : RmOk R cells slots 2 7) (hls : ls.size = nL) (hro : (rest.map fun v => v.category).sum ≤ 8) (hdg : decode cc pc = .ok (.invokevirtual 167, 3)) (kk : W p l e R s m args below meth c H locs cells slots Q (F0 m (pc + 3) ls (.int v :: rest))) : W p l e R s m args below meth c H locs cells slots Q (F0 m pc ls (.int a1 :: .int a0 :: .ref (ad 0) :: rest)) :=
  cv_ro E (c_X7_windingAt l P a0 a1 hv) (gV kML_X7_167 kIM_X7_windingAt kSE_X7_windingAt kIN_X7 kCO_X7_windingAt) rfl ds_X7_windingAt rfl KM_blind (fun U _ hW => KM.warm hW K0) (va_recv K0.k P (show classes[7]? = some (RX7, TX7, 27) from rfl) mw_g0) hR hls rfl hro hdg kk
end
section
variable {p : Program} {l : Launch} {e : Env} {s : State} {m : MethodId} {args : Array Value} {below : List Frame} {meth : Method} {c : Code} {D : va_G} {cyI : ClassId} {ad : Nat → Nat} {I : Nat → Int32} {A : Nat → Nat → Int32}
def B_X7_winding_J33  (I : Nat → Int32) (A : Nat → Nat → Int32)  : Option (Int32 × (Nat → Int32) × (Nat → Nat → Int32)) := (B_X7_stop I A 1).bind fun q_2 => some (q_2.1, q_2.2.1, q_2.2.2)
set_option maxHeartbeats 4000000 in
set_option maxRecDepth 100000 in
theorem w_X7_winding_J33 (E : EX p s m args meth c cX7_winding 3 RX7 (some .int)) (K0 : KM D cyI s s.heap) (N : AdN 16 ad) {H : Heap} {locs : List Loc} (P : va_P D classes (mw cyI ad I A) H) (S : va_S (InN 16 ad) s.heap H locs) {out : Int32 × (Nat → Int32) × (Nat → Nat → Int32)} (h : B_X7_winding_J33  I A  = some out) {ls : Array Slot} (hl : lv_has ls 3 [(0, .ref (ad 0))]) : W p l e (rmL 3) s m args below meth c H locs 0 0 (MQ below (Qrw (InN 16 ad) (some (.int out.1)) (fun H1 => va_P D classes (mw cyI ad out.2.1 out.2.2) H1)) args s 0 0 (InN 16 ad)) (F0 m 33 ls []) := by
  unfold B_X7_winding_J33 at h
  refine lv_aload_n E.hx E.hb dX7_winding_33 rfl (lv_at hl 0 rfl) ?_
  refine lv_iconst (v := 1) E.hx E.hb dX7_winding_34 (by decide) ?_
  obtain ⟨q_2, e_3, h⟩ := obind h
  refine iv_X7_122 E N K0 P S e_3 (by decide) hl.1 (Nat.le_of_ble_eq_true rfl) dX7_winding_35 (fun H locs P S => ?_)
  cases h
  exact W.iret E.hx E.hb E.hr (fun t ht _ => ⟨rfl, by rw [ht]; exact P, S.F ht⟩) S.2.2 dX7_winding_38 E.hk
def B_X7_winding (I : Nat → Int32) (A : Nat → Nat → Int32) (x1 x2 : Int32) : Option (Int32 × (Nat → Int32) × (Nat → Nat → Int32)) := if (B_X7_in x1 0 (((((va_up I 0 0)) 1) - 2))) = 0 then B_X7_winding_J33  ((va_up I 0 0)) A  else (if (B_X7_in x2 0 (((((va_up I 0 0)) 2) - 2))) = 0 then B_X7_winding_J33  ((va_up I 0 0)) A  else ((B_X7_windingAt ((va_up I 0 0)) A x1 x2).bind fun r_5 => some (r_5, (va_up I 0 0), A)))
set_option maxHeartbeats 4000000 in
set_option maxRecDepth 100000 in
theorem w_X7_winding (E : EX p s m args meth c cX7_winding 3 RX7 (some .int)) (K0 : KM D cyI s s.heap) (N : AdN 16 ad) {H : Heap} {locs : List Loc} (P : va_P D classes (mw cyI ad I A) H) (S : va_S (InN 16 ad) s.heap H locs)  {x1 x2 : Int32} {out : Int32 × (Nat → Int32) × (Nat → Nat → Int32)} (h : B_X7_winding I A x1 x2 = some out) {ls : Array Slot} (hl : lv_has ls 3 [(0, .ref (ad 0)), (1, .int x1), (2, .int x2)]) : W p l e (rmL 3) s m args below meth c H locs 0 0 (MQ below (Qrw (InN 16 ad) (some (.int out.1)) (fun H1 => va_P D classes (mw cyI ad out.2.1 out.2.2) H1)) args s 0 0 (InN 16 ad)) (F0 m 0 ls []) := by
  unfold B_X7_winding at h
  refine lv_aload_n E.hx E.hb dX7_winding_0 rfl (lv_at hl 0 rfl) ?_
  refine lv_iconst (v := 0) E.hx E.hb dX7_winding_1 (by decide) ?_
  refine pf_X7_89 E N K0 P S dX7_winding_2 (fun H locs P S => ?_)
  refine lv_iload_n E.hx E.hb dX7_winding_5 rfl (lv_at hl 1 rfl) ?_
  refine lv_iconst (v := 0) E.hx E.hb dX7_winding_6 (by decide) ?_
  refine lv_aload_n E.hx E.hb dX7_winding_7 rfl (lv_at hl 0 rfl) ?_
  refine gf_X7_7 E K0 P dX7_winding_8 ?_
  refine lv_iconst (v := 2) E.hx E.hb dX7_winding_11 (by decide) ?_
  refine lv_isub E.hx E.hb dX7_winding_12 ?_
  refine iv_X7_92 (ad := ad) E K0 S (by decide) hl.1 (Nat.le_of_ble_eq_true rfl) dX7_winding_13 ?_
  refine lv_if_eq (tgt := 33) E.hx E.hb dX7_winding_16 (by decide) (fun c_1 => ?_) (fun c_1 => ?_)
  · rw [if_pos c_1] at h
    exact w_X7_winding_J33 E K0 N P S h (lv_sub hl [0] rfl)
  · rw [if_neg c_1] at h
    refine lv_iload_n E.hx E.hb dX7_winding_19 rfl (lv_at hl 2 rfl) ?_
    refine lv_iconst (v := 0) E.hx E.hb dX7_winding_20 (by decide) ?_
    refine lv_aload_n E.hx E.hb dX7_winding_21 rfl (lv_at hl 0 rfl) ?_
    refine gf_X7_13 E K0 P dX7_winding_22 ?_
    refine lv_iconst (v := 2) E.hx E.hb dX7_winding_25 (by decide) ?_
    refine lv_isub E.hx E.hb dX7_winding_26 ?_
    refine iv_X7_92 (ad := ad) E K0 S (by decide) hl.1 (Nat.le_of_ble_eq_true rfl) dX7_winding_27 ?_
    refine lv_if_ne (tgt := 39) E.hx E.hb dX7_winding_30 (by decide) (fun c_4 => ?_) (fun c_4 => ?_)
    · rw [if_neg c_4] at h
      refine lv_aload_n E.hx E.hb dX7_winding_39 rfl (lv_at hl 0 rfl) ?_
      refine lv_iload_n E.hx E.hb dX7_winding_40 rfl (lv_at hl 1 rfl) ?_
      refine lv_iload_n E.hx E.hb dX7_winding_41 rfl (lv_at hl 2 rfl) ?_
      obtain ⟨r_5, e_6, h⟩ := obind h
      refine iv_X7_167 (ad := ad) E K0 P S e_6 (by decide) hl.1 (Nat.le_of_ble_eq_true rfl) dX7_winding_42 ?_
      cases h
      exact W.iret E.hx E.hb E.hr (fun t ht _ => ⟨rfl, by rw [ht]; exact P, S.F ht⟩) S.2.2 dX7_winding_45 E.hk
    · rw [if_pos c_4] at h
      exact w_X7_winding_J33 E K0 N P S h (lv_sub hl [0] rfl)
theorem c_X7_winding (l : Launch) {H : Heap} {D : va_G} {cyI : ClassId} {ad : Nat → Nat} {I : Nat → Int32} {A : Nat → Nat → Int32} (N : AdN 16 ad) (P : va_P D classes (mw cyI ad I A) H) (x1 x2 : Int32) {out : Int32 × (Nat → Int32) × (Nat → Nat → Int32)} (h : B_X7_winding I A x1 x2 = some out) : MRW l yX7_winding cX7_winding 3 (some .int) 3 [.ref (ad 0), .int x1, .int x2] H (KM D cyI) (InN 16 ad) (some (.int out.1)) (fun H1 => va_P D classes (mw cyI ad out.2.1 out.2.2) H1) := by
  refine Mof (own := RX7) (by decide +kernel) rfl rfl ?_
  intro p e s m args below meth c ls E hH K0 hl
  subst hH
  exact w_X7_winding E K0 N P va_S.rf h hl
theorem ds_X7_winding : Dsc yX7_winding 2 := ⟨by decide +kernel, by decide +kernel, by decide +kernel⟩
end
section
variable {p : Program} {l : Launch} {e : Env} {s : State} {m : MethodId} {args : Array Value} {below : List Frame} {meth : Method} {c : Code} {D : va_G} {cyI : ClassId} {ad : Nat → Nat} {I : Nat → Int32} {A : Nat → Nat → Int32}
def B_X7_isRefused_J40  (I : Nat → Int32) (A : Nat → Nat → Int32) (t1 : Int32) : Option (Int32 × (Nat → Int32) × (Nat → Nat → Int32)) := if (((va_up I 0 t1)) 0) ≤ 0 then some (0, (va_up I 0 t1), A) else some (1, (va_up I 0 t1), A)
set_option maxHeartbeats 4000000 in
set_option maxRecDepth 100000 in
theorem w_X7_isRefused_J40 (E : EX p s m args meth c cX7_isRefused 5 RX7 (some .boolean)) (K0 : KM D cyI s s.heap) (N : AdN 16 ad) {H : Heap} {locs : List Loc} (P : va_P D classes (mw cyI ad I A) H) (S : va_S (InN 16 ad) s.heap H locs) {t1 : Int32} {out : Int32 × (Nat → Int32) × (Nat → Nat → Int32)} (h : B_X7_isRefused_J40  I A t1 = some out) {ls : Array Slot} (hl : lv_has ls 5 [(0, .ref (ad 0))]) : W p l e (rmL 2) s m args below meth c H locs 0 0 (MQ below (Qrw (InN 16 ad) (some (.int out.1)) (fun H1 => va_P D classes (mw cyI ad out.2.1 out.2.2) H1)) args s 0 0 (InN 16 ad)) (F0 m 40 ls [.int t1, .ref (ad 0)]) := by
  unfold B_X7_isRefused_J40 at h
  refine pf_X7_89 E N K0 P S dX7_isRefused_40 (fun H locs P S => ?_)
  refine lv_aload_n E.hx E.hb dX7_isRefused_43 rfl (lv_at hl 0 rfl) ?_
  refine gf_X7_89 E K0 P dX7_isRefused_44 ?_
  refine lv_if_le (tgt := 54) E.hx E.hb dX7_isRefused_47 (by decide) (fun c_2 => ?_) (fun c_2 => ?_)
  · rw [if_pos c_2] at h
    refine lv_iconst (v := 0) E.hx E.hb dX7_isRefused_54 (by decide) ?_
    cases h
    exact W.zret E.hx E.hb E.hr rfl (fun t ht _ => ⟨rfl, by rw [ht]; exact P, S.F ht⟩) S.2.2 dX7_isRefused_55 E.hk
  · rw [if_neg c_2] at h
    refine lv_iconst (v := 1) E.hx E.hb dX7_isRefused_50 (by decide) ?_
    refine lv_goto (tgt := 55) E.hx E.hb dX7_isRefused_51 (by decide) ?_
    cases h
    exact W.zret E.hx E.hb E.hr rfl (fun t ht _ => ⟨rfl, by rw [ht]; exact P, S.F ht⟩) S.2.2 dX7_isRefused_55 E.hk
def B_X7_isRefused_J20  (I : Nat → Int32) (A : Nat → Nat → Int32)  : Option (Int32 × (Nat → Int32) × (Nat → Nat → Int32)) := B_X7_isRefused_J40  I A 1
set_option maxHeartbeats 4000000 in
set_option maxRecDepth 100000 in
theorem w_X7_isRefused_J20 (E : EX p s m args meth c cX7_isRefused 5 RX7 (some .boolean)) (K0 : KM D cyI s s.heap) (N : AdN 16 ad) {H : Heap} {locs : List Loc} (P : va_P D classes (mw cyI ad I A) H) (S : va_S (InN 16 ad) s.heap H locs) {out : Int32 × (Nat → Int32) × (Nat → Nat → Int32)} (h : B_X7_isRefused_J20  I A  = some out) {ls : Array Slot} (hl : lv_has ls 5 [(0, .ref (ad 0))]) : W p l e (rmL 2) s m args below meth c H locs 0 0 (MQ below (Qrw (InN 16 ad) (some (.int out.1)) (fun H1 => va_P D classes (mw cyI ad out.2.1 out.2.2) H1)) args s 0 0 (InN 16 ad)) (F0 m 20 ls [.ref (ad 0)]) := by
  unfold B_X7_isRefused_J20 at h
  refine lv_iconst (v := 1) E.hx E.hb dX7_isRefused_20 (by decide) ?_
  refine lv_goto (tgt := 40) E.hx E.hb dX7_isRefused_21 (by decide) ?_
  exact w_X7_isRefused_J40 E K0 N P S h (lv_sub hl [0] rfl)
def B_X7_isRefused_J35  (I : Nat → Int32) (A : Nat → Nat → Int32)  : Option (Int32 × (Nat → Int32) × (Nat → Nat → Int32)) := B_X7_isRefused_J40  I A 2
set_option maxHeartbeats 4000000 in
set_option maxRecDepth 100000 in
theorem w_X7_isRefused_J35 (E : EX p s m args meth c cX7_isRefused 5 RX7 (some .boolean)) (K0 : KM D cyI s s.heap) (N : AdN 16 ad) {H : Heap} {locs : List Loc} (P : va_P D classes (mw cyI ad I A) H) (S : va_S (InN 16 ad) s.heap H locs) {out : Int32 × (Nat → Int32) × (Nat → Nat → Int32)} (h : B_X7_isRefused_J35  I A  = some out) {ls : Array Slot} (hl : lv_has ls 5 [(0, .ref (ad 0))]) : W p l e (rmL 2) s m args below meth c H locs 0 0 (MQ below (Qrw (InN 16 ad) (some (.int out.1)) (fun H1 => va_P D classes (mw cyI ad out.2.1 out.2.2) H1)) args s 0 0 (InN 16 ad)) (F0 m 35 ls [.ref (ad 0)]) := by
  unfold B_X7_isRefused_J35 at h
  refine lv_iconst (v := 2) E.hx E.hb dX7_isRefused_35 (by decide) ?_
  refine lv_goto (tgt := 40) E.hx E.hb dX7_isRefused_36 (by decide) ?_
  exact w_X7_isRefused_J40 E K0 N P S h (lv_sub hl [0] rfl)
def B_X7_isRefused (I : Nat → Int32) (A : Nat → Nat → Int32) (x1 x2 x3 x4 : Int32) : Option (Int32 × (Nat → Int32) × (Nat → Nat → Int32)) := if (B_X7_isCell I A x1 x2) = 0 then B_X7_isRefused_J20  I A  else (if (B_X7_isCell I A x3 x4) = 0 then B_X7_isRefused_J20  I A  else (if x3 ≤ x1 then B_X7_isRefused_J35  I A  else (if x2 < x4 then B_X7_isRefused_J40  I A 0 else B_X7_isRefused_J35  I A )))
set_option maxHeartbeats 4000000 in
set_option maxRecDepth 100000 in
theorem w_X7_isRefused (E : EX p s m args meth c cX7_isRefused 5 RX7 (some .boolean)) (K0 : KM D cyI s s.heap) (N : AdN 16 ad) {H : Heap} {locs : List Loc} (P : va_P D classes (mw cyI ad I A) H) (S : va_S (InN 16 ad) s.heap H locs)  {x1 x2 x3 x4 : Int32} {out : Int32 × (Nat → Int32) × (Nat → Nat → Int32)} (h : B_X7_isRefused I A x1 x2 x3 x4 = some out) {ls : Array Slot} (hl : lv_has ls 5 [(0, .ref (ad 0)), (1, .int x1), (2, .int x2), (3, .int x3), (4, .int x4)]) : W p l e (rmL 2) s m args below meth c H locs 0 0 (MQ below (Qrw (InN 16 ad) (some (.int out.1)) (fun H1 => va_P D classes (mw cyI ad out.2.1 out.2.2) H1)) args s 0 0 (InN 16 ad)) (F0 m 0 ls []) := by
  unfold B_X7_isRefused at h
  refine lv_aload_n E.hx E.hb dX7_isRefused_0 rfl (lv_at hl 0 rfl) ?_
  refine lv_aload_n E.hx E.hb dX7_isRefused_1 rfl (lv_at hl 0 rfl) ?_
  refine lv_iload_n E.hx E.hb dX7_isRefused_2 rfl (lv_at hl 1 rfl) ?_
  refine lv_iload_n E.hx E.hb dX7_isRefused_3 rfl (lv_at hl 2 rfl) ?_
  refine iv_X7_106 (ad := ad) E K0 P S (by decide) hl.1 (Nat.le_of_ble_eq_true rfl) dX7_isRefused_4 ?_
  refine lv_if_eq (tgt := 20) E.hx E.hb dX7_isRefused_7 (by decide) (fun c_1 => ?_) (fun c_1 => ?_)
  · rw [if_pos c_1] at h
    exact w_X7_isRefused_J20 E K0 N P S h (lv_sub hl [0] rfl)
  · rw [if_neg c_1] at h
    refine lv_aload_n E.hx E.hb dX7_isRefused_10 rfl (lv_at hl 0 rfl) ?_
    refine lv_iload_n E.hx E.hb dX7_isRefused_11 rfl (lv_at hl 3 rfl) ?_
    refine lv_iload E.hx E.hb dX7_isRefused_12 (lv_at hl 4 rfl) ?_
    refine iv_X7_106 (ad := ad) E K0 P S (by decide) hl.1 (Nat.le_of_ble_eq_true rfl) dX7_isRefused_14 ?_
    refine lv_if_ne (tgt := 24) E.hx E.hb dX7_isRefused_17 (by decide) (fun c_3 => ?_) (fun c_3 => ?_)
    · rw [if_neg c_3] at h
      refine lv_iload_n E.hx E.hb dX7_isRefused_24 rfl (lv_at hl 3 rfl) ?_
      refine lv_iload_n E.hx E.hb dX7_isRefused_25 rfl (lv_at hl 1 rfl) ?_
      refine lv_icmp_le (tgt := 35) E.hx E.hb dX7_isRefused_26 (by decide) (fun c_4 => ?_) (fun c_4 => ?_)
      · rw [if_pos c_4] at h
        exact w_X7_isRefused_J35 E K0 N P S h (lv_sub hl [0] rfl)
      · rw [if_neg c_4] at h
        refine lv_iload E.hx E.hb dX7_isRefused_29 (lv_at hl 4 rfl) ?_
        refine lv_iload_n E.hx E.hb dX7_isRefused_31 rfl (lv_at hl 2 rfl) ?_
        refine lv_icmp_gt (tgt := 39) E.hx E.hb dX7_isRefused_32 (by decide) (fun c_5 => ?_) (fun c_5 => ?_)
        · rw [if_pos c_5] at h
          refine lv_iconst (v := 0) E.hx E.hb dX7_isRefused_39 (by decide) ?_
          exact w_X7_isRefused_J40 E K0 N P S h (lv_sub hl [0] rfl)
        · rw [if_neg c_5] at h
          exact w_X7_isRefused_J35 E K0 N P S h (lv_sub hl [0] rfl)
    · rw [if_pos c_3] at h
      exact w_X7_isRefused_J20 E K0 N P S h (lv_sub hl [0] rfl)
theorem c_X7_isRefused (l : Launch) {H : Heap} {D : va_G} {cyI : ClassId} {ad : Nat → Nat} {I : Nat → Int32} {A : Nat → Nat → Int32} (N : AdN 16 ad) (P : va_P D classes (mw cyI ad I A) H) (x1 x2 x3 x4 : Int32) {out : Int32 × (Nat → Int32) × (Nat → Nat → Int32)} (h : B_X7_isRefused I A x1 x2 x3 x4 = some out) : MRW l yX7_isRefused cX7_isRefused 5 (some .boolean) 2 [.ref (ad 0), .int x1, .int x2, .int x3, .int x4] H (KM D cyI) (InN 16 ad) (some (.int out.1)) (fun H1 => va_P D classes (mw cyI ad out.2.1 out.2.2) H1) := by
  refine Mof (own := RX7) (by decide +kernel) rfl rfl ?_
  intro p e s m args below meth c ls E hH K0 hl
  subst hH
  exact w_X7_isRefused E K0 N P va_S.rf h hl
theorem ds_X7_isRefused : Dsc yX7_isRefused 4 := ⟨by decide +kernel, by decide +kernel, by decide +kernel⟩
end
section
variable {p : Program} {l : Launch} {e : Env} {R : Room} {s : State} {m : MethodId} {args : Array Value} {below : List Frame} {meth : Method} {c : Code} {H : Heap} {locs : List Loc} {cells slots : Nat} {Q : State → Prop} {cc : ByteArray} {nL pc : Nat} {ret : Option FieldType} {ls : Array Slot} {rest : List Value} {D : va_G} {cyI : ClassId} {ad : Nat → Nat} {I : Nat → Int32} {A : Nat → Nat → Int32}
theorem iv_X7_170 (E : EX p s m args meth c cc nL RX7 ret) (N : AdN 16 ad) (K0 : KM D cyI s s.heap) (P : va_P D classes (mw cyI ad I A) H) (S : va_S (InN 16 ad) s.heap H locs) {a0 a1 a2 a3 : Int32} {v : Int32 × (Nat → Int32) × (Nat → Nat → Int32)} (hv : B_X7_isRefused I A a0 a1 a2 a3 = some v) (hR : RmOk R cells slots 2 5) (hls : ls.size = nL) (hro : (rest.map fun v => v.category).sum ≤ 8) (hdg : decode cc pc = .ok (.invokevirtual 170, 3)) (kk : ∀ (H1 : Heap) (locs1 : List Loc), va_P D classes (mw cyI ad v.2.1 v.2.2) H1 → va_S (InN 16 ad) s.heap H1 locs1 → W p l e R s m args below meth c H1 locs1 cells slots Q (F0 m (pc + 3) ls (.int v.1 :: rest))) : W p l e R s m args below meth c H locs cells slots Q (F0 m pc ls (.int a3 :: .int a2 :: .int a1 :: .int a0 :: .ref (ad 0) :: rest)) :=
  cv_rw E (c_X7_isRefused l N P a0 a1 a2 a3 hv) (gV kML_X7_170 kIM_X7_isRefused kSE_X7_isRefused kIN_X7 kCO_X7_isRefused) rfl ds_X7_isRefused rfl KM_blind (fun U _ hW => KM.warm hW K0) S (va_recv K0.k P (show classes[7]? = some (RX7, TX7, 27) from rfl) mw_g0) hR hls rfl hro hdg kk
end
section
variable {p : Program} {l : Launch} {e : Env} {s : State} {m : MethodId} {args : Array Value} {below : List Frame} {meth : Method} {c : Code} {D : va_G} {cyI : ClassId} {ad : Nat → Nat} {I : Nat → Int32} {A : Nat → Nat → Int32}
def B_X7_within_L30  (x1 x3 x4 x6 : Int32) : Nat → Int32 → Int32 → (Nat → Int32) → (Nat → Nat → Int32) → Option (Int32 × (Nat → Int32) × (Nat → Nat → Int32))
  | 0 => fun _ _ _ _ => none
  | n + 1 => fun x5 x7 I A => if x3 ≤ x7 then some ((x5, I, A)) else ((B_X7_windingAt I A x7 x6).bind fun r_6 => (B_X7_within_L30 x1 x3 x4 x6 n) ((x5 + r_6)) (x7 + 1) I A)
theorem B_X7_within_L30_s (I : Nat → Int32) (A : Nat → Nat → Int32) (x1 x3 x4 x6 x5 x7 : Int32) (n : Nat) : B_X7_within_L30  x1 x3 x4 x6 (n + 1) x5 x7 I A = if x3 ≤ x7 then some ((x5, I, A)) else ((B_X7_windingAt I A x7 x6).bind fun r_6 => (B_X7_within_L30 x1 x3 x4 x6 n) ((x5 + r_6)) (x7 + 1) I A) := rfl
set_option maxHeartbeats 4000000 in
set_option maxRecDepth 100000 in
theorem w_X7_within_L30 (E : EX p s m args meth c cX7_within 8 RX7 (some .int)) (K0 : KM D cyI s s.heap) (N : AdN 16 ad) {x1 x3 x4 x6 : Int32} {out : Int32 × (Nat → Int32) × (Nat → Nat → Int32)} : ∀ (n : Nat) {x5 x7 : Int32} {I : Nat → Int32} {A : Nat → Nat → Int32} {H : Heap} {locs : List Loc} (P : va_P D classes (mw cyI ad I A) H) (S : va_S (InN 16 ad) s.heap H locs) {o : Int32 × (Nat → Int32) × (Nat → Nat → Int32)} (h : B_X7_within_L30  x1 x3 x4 x6 n x5 x7 I A = some o) {ls : Array Slot} (hl : lv_has ls 8 [(0, .ref (ad 0)), (1, .int x1), (3, .int x3), (4, .int x4), (5, .int x5), (6, .int x6), (7, .int x7)]) (kx : ∀ {H : Heap} {locs : List Loc} (_ : va_P D classes (mw cyI ad o.2.1 o.2.2) H) (_ : va_S (InN 16 ad) s.heap H locs) {ls : Array Slot}, lv_has ls 8 [(0, .ref (ad 0)), (1, .int x1), (3, .int x3), (4, .int x4), (5, .int o.1), (6, .int x6)] → W p l e (rmL 3) s m args below meth c H locs 0 0 (MQ below (Qrw (InN 16 ad) (some (.int out.1)) (fun H1 => va_P D classes (mw cyI ad out.2.1 out.2.2) H1)) args s 0 0 (InN 16 ad)) (F0 m 55 ls [])), W p l e (rmL 3) s m args below meth c H locs 0 0 (MQ below (Qrw (InN 16 ad) (some (.int out.1)) (fun H1 => va_P D classes (mw cyI ad out.2.1 out.2.2) H1)) args s 0 0 (InN 16 ad)) (F0 m 30 ls []) := by
  intro n
  induction n with
  | zero => intro x5 x7 I A H locs P S o h ls hl kx; exact nomatch (show none = some o from h)
  | succ n ih =>
    intro x5 x7 I A H locs P S o h ls hl kx
    rw [B_X7_within_L30_s] at h
    refine lv_iload E.hx E.hb dX7_within_30 (lv_at hl 6 rfl) ?_
    refine lv_iload_n E.hx E.hb dX7_within_32 rfl (lv_at hl 2 rfl) ?_
    refine lv_icmp_ge (tgt := 55) E.hx E.hb dX7_within_33 (by decide) (fun c_5 => ?_) (fun c_5 => ?_)
    · rw [if_pos c_5] at h
      cases h
      exact kx P S (lv_sub hl [0, 1, 2, 3, 4, 5] rfl)
    · rw [if_neg c_5] at h
      refine lv_iload E.hx E.hb dX7_within_36 (lv_at hl 4 rfl) ?_
      refine lv_aload_n E.hx E.hb dX7_within_38 rfl (lv_at hl 0 rfl) ?_
      refine lv_iload E.hx E.hb dX7_within_39 (lv_at hl 6 rfl) ?_
      refine lv_iload E.hx E.hb dX7_within_41 (lv_at hl 5 rfl) ?_
      obtain ⟨r_6, e_7, h⟩ := obind h
      refine iv_X7_167 (ad := ad) E K0 P S e_7 (by decide) hl.1 (Nat.le_of_ble_eq_true rfl) dX7_within_43 ?_
      refine lv_iadd E.hx E.hb dX7_within_46 ?_
      refine lv_istore (lv' := [(5, .int (x5 + r_6)), (0, .ref (ad 0)), (1, .int x1), (3, .int x3), (4, .int x4), (6, .int x6), (7, .int x7)]) E.hx E.hb dX7_within_47 hl (by decide) rfl (fun ls hl => ?_)
      refine lv_iinc (v := x7 + 1) (lv' := [(7, .int (x7 + 1)), (5, .int (x5 + r_6)), (0, .ref (ad 0)), (1, .int x1), (3, .int x3), (4, .int x4), (6, .int x6)]) E.hx E.hb dX7_within_49 hl (k := 6) rfl rfl (by decide) rfl (fun ls hl => ?_)
      refine lv_goto (tgt := 30) E.hx E.hb dX7_within_52 (by decide) ?_
      exact ih P S h (lv_sub hl [2, 3, 4, 5, 1, 6, 0] rfl) kx
def B_X7_within_L20  (x1 x3 x4 : Int32) : Nat → Int32 → Int32 → (Nat → Int32) → (Nat → Nat → Int32) → Option (Int32 × (Nat → Int32) × (Nat → Nat → Int32))
  | 0 => fun _ _ _ _ => none
  | n + 1 => fun x5 x6 I A => if x4 ≤ x6 then some ((x5, I, A)) else ((B_X7_within_L30  x1 x3 x4 x6 FU x5 x1 I A).bind fun q_8 => (B_X7_within_L20 x1 x3 x4 n) q_8.1 (x6 + 1) q_8.2.1 q_8.2.2)
theorem B_X7_within_L20_s (I : Nat → Int32) (A : Nat → Nat → Int32) (x1 x3 x4 x5 x6 : Int32) (n : Nat) : B_X7_within_L20  x1 x3 x4 (n + 1) x5 x6 I A = if x4 ≤ x6 then some ((x5, I, A)) else ((B_X7_within_L30  x1 x3 x4 x6 FU x5 x1 I A).bind fun q_8 => (B_X7_within_L20 x1 x3 x4 n) q_8.1 (x6 + 1) q_8.2.1 q_8.2.2) := rfl
set_option maxHeartbeats 4000000 in
set_option maxRecDepth 100000 in
theorem w_X7_within_L20 (E : EX p s m args meth c cX7_within 8 RX7 (some .int)) (K0 : KM D cyI s s.heap) (N : AdN 16 ad) {x1 x3 x4 : Int32} {out : Int32 × (Nat → Int32) × (Nat → Nat → Int32)} : ∀ (n : Nat) {x5 x6 : Int32} {I : Nat → Int32} {A : Nat → Nat → Int32} {H : Heap} {locs : List Loc} (P : va_P D classes (mw cyI ad I A) H) (S : va_S (InN 16 ad) s.heap H locs) {o : Int32 × (Nat → Int32) × (Nat → Nat → Int32)} (h : B_X7_within_L20  x1 x3 x4 n x5 x6 I A = some o) {ls : Array Slot} (hl : lv_has ls 8 [(0, .ref (ad 0)), (1, .int x1), (3, .int x3), (4, .int x4), (5, .int x5), (6, .int x6)]) (kx : ∀ {H : Heap} {locs : List Loc} (_ : va_P D classes (mw cyI ad o.2.1 o.2.2) H) (_ : va_S (InN 16 ad) s.heap H locs) {ls : Array Slot}, lv_has ls 8 [(5, .int o.1)] → W p l e (rmL 3) s m args below meth c H locs 0 0 (MQ below (Qrw (InN 16 ad) (some (.int out.1)) (fun H1 => va_P D classes (mw cyI ad out.2.1 out.2.2) H1)) args s 0 0 (InN 16 ad)) (F0 m 61 ls [])), W p l e (rmL 3) s m args below meth c H locs 0 0 (MQ below (Qrw (InN 16 ad) (some (.int out.1)) (fun H1 => va_P D classes (mw cyI ad out.2.1 out.2.2) H1)) args s 0 0 (InN 16 ad)) (F0 m 20 ls []) := by
  intro n
  induction n with
  | zero => intro x5 x6 I A H locs P S o h ls hl kx; exact nomatch (show none = some o from h)
  | succ n ih =>
    intro x5 x6 I A H locs P S o h ls hl kx
    rw [B_X7_within_L20_s] at h
    refine lv_iload E.hx E.hb dX7_within_20 (lv_at hl 5 rfl) ?_
    refine lv_iload E.hx E.hb dX7_within_22 (lv_at hl 3 rfl) ?_
    refine lv_icmp_ge (tgt := 61) E.hx E.hb dX7_within_24 (by decide) (fun c_4 => ?_) (fun c_4 => ?_)
    · rw [if_pos c_4] at h
      cases h
      exact kx P S (lv_sub hl [4] rfl)
    · rw [if_neg c_4] at h
      refine lv_iload_n E.hx E.hb dX7_within_27 rfl (lv_at hl 1 rfl) ?_
      refine lv_istore (lv' := [(7, .int x1), (0, .ref (ad 0)), (1, .int x1), (3, .int x3), (4, .int x4), (5, .int x5), (6, .int x6)]) E.hx E.hb dX7_within_28 hl (by decide) rfl (fun ls hl => ?_)
      obtain ⟨q_8, e_9, h⟩ := obind h
      refine w_X7_within_L30 E K0 N FU P S e_9 (lv_sub hl [1, 2, 3, 4, 5, 6, 0] rfl) (fun {H locs} P S {ls} hl => ?_)
      refine lv_iinc (v := x6 + 1) (lv' := [(6, .int (x6 + 1)), (0, .ref (ad 0)), (1, .int x1), (3, .int x3), (4, .int x4), (5, .int q_8.1)]) E.hx E.hb dX7_within_55 hl (k := 5) rfl rfl (by decide) rfl (fun ls hl => ?_)
      refine lv_goto (tgt := 20) E.hx E.hb dX7_within_58 (by decide) ?_
      exact ih P S h (lv_sub hl [1, 2, 3, 4, 5, 0] rfl) kx
def B_X7_within (I : Nat → Int32) (A : Nat → Nat → Int32) (x1 x2 x3 x4 : Int32) : Option (Int32 × (Nat → Int32) × (Nat → Nat → Int32)) := (B_X7_isRefused I A x1 x2 x3 x4).bind fun q_1 => if q_1.1 = 0 then ((B_X7_within_L20  x1 x3 x4 FU 0 x2 q_1.2.1 q_1.2.2).bind fun q_10 => some (q_10.1, q_10.2.1, q_10.2.2)) else some (0, q_1.2.1, q_1.2.2)
set_option maxHeartbeats 4000000 in
set_option maxRecDepth 100000 in
theorem w_X7_within (E : EX p s m args meth c cX7_within 8 RX7 (some .int)) (K0 : KM D cyI s s.heap) (N : AdN 16 ad) {H : Heap} {locs : List Loc} (P : va_P D classes (mw cyI ad I A) H) (S : va_S (InN 16 ad) s.heap H locs)  {x1 x2 x3 x4 : Int32} {out : Int32 × (Nat → Int32) × (Nat → Nat → Int32)} (h : B_X7_within I A x1 x2 x3 x4 = some out) {ls : Array Slot} (hl : lv_has ls 8 [(0, .ref (ad 0)), (1, .int x1), (2, .int x2), (3, .int x3), (4, .int x4)]) : W p l e (rmL 3) s m args below meth c H locs 0 0 (MQ below (Qrw (InN 16 ad) (some (.int out.1)) (fun H1 => va_P D classes (mw cyI ad out.2.1 out.2.2) H1)) args s 0 0 (InN 16 ad)) (F0 m 0 ls []) := by
  unfold B_X7_within at h
  refine lv_aload_n E.hx E.hb dX7_within_0 rfl (lv_at hl 0 rfl) ?_
  refine lv_iload_n E.hx E.hb dX7_within_1 rfl (lv_at hl 1 rfl) ?_
  refine lv_iload_n E.hx E.hb dX7_within_2 rfl (lv_at hl 2 rfl) ?_
  refine lv_iload_n E.hx E.hb dX7_within_3 rfl (lv_at hl 3 rfl) ?_
  refine lv_iload E.hx E.hb dX7_within_4 (lv_at hl 4 rfl) ?_
  obtain ⟨q_1, e_2, h⟩ := obind h
  refine iv_X7_170 E N K0 P S e_2 (by decide) hl.1 (Nat.le_of_ble_eq_true rfl) dX7_within_6 (fun H locs P S => ?_)
  refine lv_if_eq (tgt := 14) E.hx E.hb dX7_within_9 (by decide) (fun c_3 => ?_) (fun c_3 => ?_)
  · rw [if_pos c_3] at h
    refine lv_iconst (v := 0) E.hx E.hb dX7_within_14 (by decide) ?_
    refine lv_istore (lv' := [(5, .int 0), (0, .ref (ad 0)), (1, .int x1), (2, .int x2), (3, .int x3), (4, .int x4)]) E.hx E.hb dX7_within_15 hl (by decide) rfl (fun ls hl => ?_)
    refine lv_iload_n E.hx E.hb dX7_within_17 rfl (lv_at hl 3 rfl) ?_
    refine lv_istore (lv' := [(6, .int x2), (5, .int 0), (0, .ref (ad 0)), (1, .int x1), (2, .int x2), (3, .int x3), (4, .int x4)]) E.hx E.hb dX7_within_18 hl (by decide) rfl (fun ls hl => ?_)
    obtain ⟨q_10, e_11, h⟩ := obind h
    refine w_X7_within_L20 E K0 N FU P S e_11 (lv_sub hl [2, 3, 5, 6, 1, 0] rfl) (fun {H locs} P S {ls} hl => ?_)
    refine lv_iload E.hx E.hb dX7_within_61 (lv_at hl 0 rfl) ?_
    cases h
    exact W.iret E.hx E.hb E.hr (fun t ht _ => ⟨rfl, by rw [ht]; exact P, S.F ht⟩) S.2.2 dX7_within_63 E.hk
  · rw [if_neg c_3] at h
    refine lv_iconst (v := 0) E.hx E.hb dX7_within_12 (by decide) ?_
    cases h
    exact W.iret E.hx E.hb E.hr (fun t ht _ => ⟨rfl, by rw [ht]; exact P, S.F ht⟩) S.2.2 dX7_within_13 E.hk
theorem c_X7_within (l : Launch) {H : Heap} {D : va_G} {cyI : ClassId} {ad : Nat → Nat} {I : Nat → Int32} {A : Nat → Nat → Int32} (N : AdN 16 ad) (P : va_P D classes (mw cyI ad I A) H) (x1 x2 x3 x4 : Int32) {out : Int32 × (Nat → Int32) × (Nat → Nat → Int32)} (h : B_X7_within I A x1 x2 x3 x4 = some out) : MRW l yX7_within cX7_within 8 (some .int) 3 [.ref (ad 0), .int x1, .int x2, .int x3, .int x4] H (KM D cyI) (InN 16 ad) (some (.int out.1)) (fun H1 => va_P D classes (mw cyI ad out.2.1 out.2.2) H1) := by
  refine Mof (own := RX7) (by decide +kernel) rfl rfl ?_
  intro p e s m args below meth c ls E hH K0 hl
  subst hH
  exact w_X7_within E K0 N P va_S.rf h hl
theorem ds_X7_within : Dsc yX7_within 4 := ⟨by decide +kernel, by decide +kernel, by decide +kernel⟩
end
section
variable {p : Program} {l : Launch} {e : Env} {s : State} {m : MethodId} {args : Array Value} {below : List Frame} {meth : Method} {c : Code} {D : va_G} {cyI : ClassId} {ad : Nat → Nat} {I : Nat → Int32} {A : Nat → Nat → Int32}
def B_X7_border_L20  (x1 x2 x3 x4 : Int32) : Nat → Int32 → Int32 → (Nat → Int32) → (Nat → Nat → Int32) → Option (Int32 × (Nat → Int32) × (Nat → Nat → Int32))
  | 0 => fun _ _ _ _ => none
  | n + 1 => fun x5 x6 I A => if x3 ≤ x6 then some ((x5, I, A)) else ((B_X7_directionAt I A x6 x2).bind fun r_5 => (B_X7_directionAt I A ((x6 + 1)) x2).bind fun r_7 => (B_X7_directionAt I A ((x6 + 1)) x4).bind fun r_9 => (B_X7_directionAt I A x6 x4).bind fun r_11 => (B_X7_border_L20 x1 x2 x3 x4 n) (((x5 + (B_X7_on r_5 r_7)) + (B_X7_on r_9 r_11))) (x6 + 1) I A)
theorem B_X7_border_L20_s (I : Nat → Int32) (A : Nat → Nat → Int32) (x1 x2 x3 x4 x5 x6 : Int32) (n : Nat) : B_X7_border_L20  x1 x2 x3 x4 (n + 1) x5 x6 I A = if x3 ≤ x6 then some ((x5, I, A)) else ((B_X7_directionAt I A x6 x2).bind fun r_5 => (B_X7_directionAt I A ((x6 + 1)) x2).bind fun r_7 => (B_X7_directionAt I A ((x6 + 1)) x4).bind fun r_9 => (B_X7_directionAt I A x6 x4).bind fun r_11 => (B_X7_border_L20 x1 x2 x3 x4 n) (((x5 + (B_X7_on r_5 r_7)) + (B_X7_on r_9 r_11))) (x6 + 1) I A) := rfl
set_option maxHeartbeats 4000000 in
set_option maxRecDepth 100000 in
theorem w_X7_border_L20 (E : EX p s m args meth c cX7_border 7 RX7 (some .int)) (K0 : KM D cyI s s.heap) (N : AdN 16 ad) {x1 x2 x3 x4 : Int32} {out : Int32 × (Nat → Int32) × (Nat → Nat → Int32)} : ∀ (n : Nat) {x5 x6 : Int32} {I : Nat → Int32} {A : Nat → Nat → Int32} {H : Heap} {locs : List Loc} (P : va_P D classes (mw cyI ad I A) H) (S : va_S (InN 16 ad) s.heap H locs) {o : Int32 × (Nat → Int32) × (Nat → Nat → Int32)} (h : B_X7_border_L20  x1 x2 x3 x4 n x5 x6 I A = some o) {ls : Array Slot} (hl : lv_has ls 7 [(0, .ref (ad 0)), (1, .int x1), (2, .int x2), (3, .int x3), (4, .int x4), (5, .int x5), (6, .int x6)]) (kx : ∀ {H : Heap} {locs : List Loc} (_ : va_P D classes (mw cyI ad o.2.1 o.2.2) H) (_ : va_S (InN 16 ad) s.heap H locs) {ls : Array Slot}, lv_has ls 7 [(0, .ref (ad 0)), (1, .int x1), (2, .int x2), (3, .int x3), (4, .int x4), (5, .int o.1)] → W p l e (rmL 3) s m args below meth c H locs 0 0 (MQ below (Qrw (InN 16 ad) (some (.int out.1)) (fun H1 => va_P D classes (mw cyI ad out.2.1 out.2.2) H1)) args s 0 0 (InN 16 ad)) (F0 m 82 ls [])), W p l e (rmL 3) s m args below meth c H locs 0 0 (MQ below (Qrw (InN 16 ad) (some (.int out.1)) (fun H1 => va_P D classes (mw cyI ad out.2.1 out.2.2) H1)) args s 0 0 (InN 16 ad)) (F0 m 20 ls []) := by
  intro n
  induction n with
  | zero => intro x5 x6 I A H locs P S o h ls hl kx; exact nomatch (show none = some o from h)
  | succ n ih =>
    intro x5 x6 I A H locs P S o h ls hl kx
    rw [B_X7_border_L20_s] at h
    refine lv_iload E.hx E.hb dX7_border_20 (lv_at hl 6 rfl) ?_
    refine lv_iload_n E.hx E.hb dX7_border_22 rfl (lv_at hl 3 rfl) ?_
    refine lv_icmp_ge (tgt := 82) E.hx E.hb dX7_border_23 (by decide) (fun c_4 => ?_) (fun c_4 => ?_)
    · rw [if_pos c_4] at h
      cases h
      exact kx P S (lv_sub hl [0, 1, 2, 3, 4, 5] rfl)
    · rw [if_neg c_4] at h
      refine lv_iload E.hx E.hb dX7_border_26 (lv_at hl 5 rfl) ?_
      refine lv_aload_n E.hx E.hb dX7_border_28 rfl (lv_at hl 0 rfl) ?_
      refine lv_iload E.hx E.hb dX7_border_29 (lv_at hl 6 rfl) ?_
      refine lv_iload_n E.hx E.hb dX7_border_31 rfl (lv_at hl 2 rfl) ?_
      obtain ⟨r_5, e_6, h⟩ := obind h
      refine iv_X7_164 (ad := ad) E K0 P S e_6 (by decide) hl.1 (Nat.le_of_ble_eq_true rfl) dX7_border_32 ?_
      refine lv_aload_n E.hx E.hb dX7_border_35 rfl (lv_at hl 0 rfl) ?_
      refine lv_iload E.hx E.hb dX7_border_36 (lv_at hl 6 rfl) ?_
      refine lv_iconst (v := 1) E.hx E.hb dX7_border_38 (by decide) ?_
      refine lv_iadd E.hx E.hb dX7_border_39 ?_
      refine lv_iload_n E.hx E.hb dX7_border_40 rfl (lv_at hl 2 rfl) ?_
      obtain ⟨r_7, e_8, h⟩ := obind h
      refine iv_X7_164 (ad := ad) E K0 P S e_8 (by decide) hl.1 (Nat.le_of_ble_eq_true rfl) dX7_border_41 ?_
      refine iv_X7_96 (ad := ad) E K0 S (by decide) hl.1 (Nat.le_of_ble_eq_true rfl) dX7_border_44 ?_
      refine lv_iadd E.hx E.hb dX7_border_47 ?_
      refine lv_istore (lv' := [(5, .int (x5 + (B_X7_on r_5 r_7))), (0, .ref (ad 0)), (1, .int x1), (2, .int x2), (3, .int x3), (4, .int x4), (6, .int x6)]) E.hx E.hb dX7_border_48 hl (by decide) rfl (fun ls hl => ?_)
      refine lv_iload E.hx E.hb dX7_border_50 (lv_at hl 0 rfl) ?_
      refine lv_aload_n E.hx E.hb dX7_border_52 rfl (lv_at hl 1 rfl) ?_
      refine lv_iload E.hx E.hb dX7_border_53 (lv_at hl 6 rfl) ?_
      refine lv_iconst (v := 1) E.hx E.hb dX7_border_55 (by decide) ?_
      refine lv_iadd E.hx E.hb dX7_border_56 ?_
      refine lv_iload E.hx E.hb dX7_border_57 (lv_at hl 5 rfl) ?_
      obtain ⟨r_9, e_10, h⟩ := obind h
      refine iv_X7_164 (ad := ad) E K0 P S e_10 (by decide) hl.1 (Nat.le_of_ble_eq_true rfl) dX7_border_59 ?_
      refine lv_aload_n E.hx E.hb dX7_border_62 rfl (lv_at hl 1 rfl) ?_
      refine lv_iload E.hx E.hb dX7_border_63 (lv_at hl 6 rfl) ?_
      refine lv_iload E.hx E.hb dX7_border_65 (lv_at hl 5 rfl) ?_
      obtain ⟨r_11, e_12, h⟩ := obind h
      refine iv_X7_164 (ad := ad) E K0 P S e_12 (by decide) hl.1 (Nat.le_of_ble_eq_true rfl) dX7_border_67 ?_
      refine iv_X7_96 (ad := ad) E K0 S (by decide) hl.1 (Nat.le_of_ble_eq_true rfl) dX7_border_70 ?_
      refine lv_iadd E.hx E.hb dX7_border_73 ?_
      refine lv_istore (lv' := [(5, .int ((x5 + (B_X7_on r_5 r_7)) + (B_X7_on r_9 r_11))), (0, .ref (ad 0)), (1, .int x1), (2, .int x2), (3, .int x3), (4, .int x4), (6, .int x6)]) E.hx E.hb dX7_border_74 hl (by decide) rfl (fun ls hl => ?_)
      refine lv_iinc (v := x6 + 1) (lv' := [(6, .int (x6 + 1)), (5, .int ((x5 + (B_X7_on r_5 r_7)) + (B_X7_on r_9 r_11))), (0, .ref (ad 0)), (1, .int x1), (2, .int x2), (3, .int x3), (4, .int x4)]) E.hx E.hb dX7_border_76 hl (k := 6) rfl rfl (by decide) rfl (fun ls hl => ?_)
      refine lv_goto (tgt := 20) E.hx E.hb dX7_border_79 (by decide) ?_
      exact ih P S h (lv_sub hl [2, 3, 4, 5, 6, 1, 0] rfl) kx
def B_X7_border_L85  (x1 x3 x4 : Int32) : Nat → Int32 → Int32 → (Nat → Int32) → (Nat → Nat → Int32) → Option (Int32 × (Nat → Int32) × (Nat → Nat → Int32))
  | 0 => fun _ _ _ _ => none
  | n + 1 => fun x5 x6 I A => if x4 ≤ x6 then some ((x5, I, A)) else ((B_X7_directionAt I A x3 x6).bind fun r_16 => (B_X7_directionAt I A x3 ((x6 + 1))).bind fun r_18 => (B_X7_directionAt I A x1 ((x6 + 1))).bind fun r_20 => (B_X7_directionAt I A x1 x6).bind fun r_22 => (B_X7_border_L85 x1 x3 x4 n) (((x5 + (B_X7_on r_16 r_18)) + (B_X7_on r_20 r_22))) (x6 + 1) I A)
theorem B_X7_border_L85_s (I : Nat → Int32) (A : Nat → Nat → Int32) (x1 x3 x4 x5 x6 : Int32) (n : Nat) : B_X7_border_L85  x1 x3 x4 (n + 1) x5 x6 I A = if x4 ≤ x6 then some ((x5, I, A)) else ((B_X7_directionAt I A x3 x6).bind fun r_16 => (B_X7_directionAt I A x3 ((x6 + 1))).bind fun r_18 => (B_X7_directionAt I A x1 ((x6 + 1))).bind fun r_20 => (B_X7_directionAt I A x1 x6).bind fun r_22 => (B_X7_border_L85 x1 x3 x4 n) (((x5 + (B_X7_on r_16 r_18)) + (B_X7_on r_20 r_22))) (x6 + 1) I A) := rfl
set_option maxHeartbeats 4000000 in
set_option maxRecDepth 100000 in
theorem w_X7_border_L85 (E : EX p s m args meth c cX7_border 7 RX7 (some .int)) (K0 : KM D cyI s s.heap) (N : AdN 16 ad) {x1 x3 x4 : Int32} {out : Int32 × (Nat → Int32) × (Nat → Nat → Int32)} : ∀ (n : Nat) {x5 x6 : Int32} {I : Nat → Int32} {A : Nat → Nat → Int32} {H : Heap} {locs : List Loc} (P : va_P D classes (mw cyI ad I A) H) (S : va_S (InN 16 ad) s.heap H locs) {o : Int32 × (Nat → Int32) × (Nat → Nat → Int32)} (h : B_X7_border_L85  x1 x3 x4 n x5 x6 I A = some o) {ls : Array Slot} (hl : lv_has ls 7 [(0, .ref (ad 0)), (1, .int x1), (3, .int x3), (4, .int x4), (5, .int x5), (6, .int x6)]) (kx : ∀ {H : Heap} {locs : List Loc} (_ : va_P D classes (mw cyI ad o.2.1 o.2.2) H) (_ : va_S (InN 16 ad) s.heap H locs) {ls : Array Slot}, lv_has ls 7 [(5, .int o.1)] → W p l e (rmL 3) s m args below meth c H locs 0 0 (MQ below (Qrw (InN 16 ad) (some (.int out.1)) (fun H1 => va_P D classes (mw cyI ad out.2.1 out.2.2) H1)) args s 0 0 (InN 16 ad)) (F0 m 146 ls [])), W p l e (rmL 3) s m args below meth c H locs 0 0 (MQ below (Qrw (InN 16 ad) (some (.int out.1)) (fun H1 => va_P D classes (mw cyI ad out.2.1 out.2.2) H1)) args s 0 0 (InN 16 ad)) (F0 m 85 ls []) := by
  intro n
  induction n with
  | zero => intro x5 x6 I A H locs P S o h ls hl kx; exact nomatch (show none = some o from h)
  | succ n ih =>
    intro x5 x6 I A H locs P S o h ls hl kx
    rw [B_X7_border_L85_s] at h
    refine lv_iload E.hx E.hb dX7_border_85 (lv_at hl 5 rfl) ?_
    refine lv_iload E.hx E.hb dX7_border_87 (lv_at hl 3 rfl) ?_
    refine lv_icmp_ge (tgt := 146) E.hx E.hb dX7_border_89 (by decide) (fun c_15 => ?_) (fun c_15 => ?_)
    · rw [if_pos c_15] at h
      cases h
      exact kx P S (lv_sub hl [4] rfl)
    · rw [if_neg c_15] at h
      refine lv_iload E.hx E.hb dX7_border_92 (lv_at hl 4 rfl) ?_
      refine lv_aload_n E.hx E.hb dX7_border_94 rfl (lv_at hl 0 rfl) ?_
      refine lv_iload_n E.hx E.hb dX7_border_95 rfl (lv_at hl 2 rfl) ?_
      refine lv_iload E.hx E.hb dX7_border_96 (lv_at hl 5 rfl) ?_
      obtain ⟨r_16, e_17, h⟩ := obind h
      refine iv_X7_164 (ad := ad) E K0 P S e_17 (by decide) hl.1 (Nat.le_of_ble_eq_true rfl) dX7_border_98 ?_
      refine lv_aload_n E.hx E.hb dX7_border_101 rfl (lv_at hl 0 rfl) ?_
      refine lv_iload_n E.hx E.hb dX7_border_102 rfl (lv_at hl 2 rfl) ?_
      refine lv_iload E.hx E.hb dX7_border_103 (lv_at hl 5 rfl) ?_
      refine lv_iconst (v := 1) E.hx E.hb dX7_border_105 (by decide) ?_
      refine lv_iadd E.hx E.hb dX7_border_106 ?_
      obtain ⟨r_18, e_19, h⟩ := obind h
      refine iv_X7_164 (ad := ad) E K0 P S e_19 (by decide) hl.1 (Nat.le_of_ble_eq_true rfl) dX7_border_107 ?_
      refine iv_X7_96 (ad := ad) E K0 S (by decide) hl.1 (Nat.le_of_ble_eq_true rfl) dX7_border_110 ?_
      refine lv_iadd E.hx E.hb dX7_border_113 ?_
      refine lv_istore (lv' := [(5, .int (x5 + (B_X7_on r_16 r_18))), (0, .ref (ad 0)), (1, .int x1), (3, .int x3), (4, .int x4), (6, .int x6)]) E.hx E.hb dX7_border_114 hl (by decide) rfl (fun ls hl => ?_)
      refine lv_iload E.hx E.hb dX7_border_116 (lv_at hl 0 rfl) ?_
      refine lv_aload_n E.hx E.hb dX7_border_118 rfl (lv_at hl 1 rfl) ?_
      refine lv_iload_n E.hx E.hb dX7_border_119 rfl (lv_at hl 2 rfl) ?_
      refine lv_iload E.hx E.hb dX7_border_120 (lv_at hl 5 rfl) ?_
      refine lv_iconst (v := 1) E.hx E.hb dX7_border_122 (by decide) ?_
      refine lv_iadd E.hx E.hb dX7_border_123 ?_
      obtain ⟨r_20, e_21, h⟩ := obind h
      refine iv_X7_164 (ad := ad) E K0 P S e_21 (by decide) hl.1 (Nat.le_of_ble_eq_true rfl) dX7_border_124 ?_
      refine lv_aload_n E.hx E.hb dX7_border_127 rfl (lv_at hl 1 rfl) ?_
      refine lv_iload_n E.hx E.hb dX7_border_128 rfl (lv_at hl 2 rfl) ?_
      refine lv_iload E.hx E.hb dX7_border_129 (lv_at hl 5 rfl) ?_
      obtain ⟨r_22, e_23, h⟩ := obind h
      refine iv_X7_164 (ad := ad) E K0 P S e_23 (by decide) hl.1 (Nat.le_of_ble_eq_true rfl) dX7_border_131 ?_
      refine iv_X7_96 (ad := ad) E K0 S (by decide) hl.1 (Nat.le_of_ble_eq_true rfl) dX7_border_134 ?_
      refine lv_iadd E.hx E.hb dX7_border_137 ?_
      refine lv_istore (lv' := [(5, .int ((x5 + (B_X7_on r_16 r_18)) + (B_X7_on r_20 r_22))), (0, .ref (ad 0)), (1, .int x1), (3, .int x3), (4, .int x4), (6, .int x6)]) E.hx E.hb dX7_border_138 hl (by decide) rfl (fun ls hl => ?_)
      refine lv_iinc (v := x6 + 1) (lv' := [(6, .int (x6 + 1)), (5, .int ((x5 + (B_X7_on r_16 r_18)) + (B_X7_on r_20 r_22))), (0, .ref (ad 0)), (1, .int x1), (3, .int x3), (4, .int x4)]) E.hx E.hb dX7_border_140 hl (k := 5) rfl rfl (by decide) rfl (fun ls hl => ?_)
      refine lv_goto (tgt := 85) E.hx E.hb dX7_border_143 (by decide) ?_
      exact ih P S h (lv_sub hl [2, 3, 4, 5, 1, 0] rfl) kx
def B_X7_border (I : Nat → Int32) (A : Nat → Nat → Int32) (x1 x2 x3 x4 : Int32) : Option (Int32 × (Nat → Int32) × (Nat → Nat → Int32)) := (B_X7_isRefused I A x1 x2 x3 x4).bind fun q_1 => if q_1.1 = 0 then ((B_X7_border_L20  x1 x2 x3 x4 FU 0 x1 q_1.2.1 q_1.2.2).bind fun q_13 => (B_X7_border_L85  x1 x3 x4 FU q_13.1 x2 q_13.2.1 q_13.2.2).bind fun q_24 => some ((q_24.1 / 15), q_24.2.1, q_24.2.2)) else some (0, q_1.2.1, q_1.2.2)
set_option maxHeartbeats 4000000 in
set_option maxRecDepth 100000 in
theorem w_X7_border (E : EX p s m args meth c cX7_border 7 RX7 (some .int)) (K0 : KM D cyI s s.heap) (N : AdN 16 ad) {H : Heap} {locs : List Loc} (P : va_P D classes (mw cyI ad I A) H) (S : va_S (InN 16 ad) s.heap H locs)  {x1 x2 x3 x4 : Int32} {out : Int32 × (Nat → Int32) × (Nat → Nat → Int32)} (h : B_X7_border I A x1 x2 x3 x4 = some out) {ls : Array Slot} (hl : lv_has ls 7 [(0, .ref (ad 0)), (1, .int x1), (2, .int x2), (3, .int x3), (4, .int x4)]) : W p l e (rmL 3) s m args below meth c H locs 0 0 (MQ below (Qrw (InN 16 ad) (some (.int out.1)) (fun H1 => va_P D classes (mw cyI ad out.2.1 out.2.2) H1)) args s 0 0 (InN 16 ad)) (F0 m 0 ls []) := by
  unfold B_X7_border at h
  refine lv_aload_n E.hx E.hb dX7_border_0 rfl (lv_at hl 0 rfl) ?_
  refine lv_iload_n E.hx E.hb dX7_border_1 rfl (lv_at hl 1 rfl) ?_
  refine lv_iload_n E.hx E.hb dX7_border_2 rfl (lv_at hl 2 rfl) ?_
  refine lv_iload_n E.hx E.hb dX7_border_3 rfl (lv_at hl 3 rfl) ?_
  refine lv_iload E.hx E.hb dX7_border_4 (lv_at hl 4 rfl) ?_
  obtain ⟨q_1, e_2, h⟩ := obind h
  refine iv_X7_170 E N K0 P S e_2 (by decide) hl.1 (Nat.le_of_ble_eq_true rfl) dX7_border_6 (fun H locs P S => ?_)
  refine lv_if_eq (tgt := 14) E.hx E.hb dX7_border_9 (by decide) (fun c_3 => ?_) (fun c_3 => ?_)
  · rw [if_pos c_3] at h
    refine lv_iconst (v := 0) E.hx E.hb dX7_border_14 (by decide) ?_
    refine lv_istore (lv' := [(5, .int 0), (0, .ref (ad 0)), (1, .int x1), (2, .int x2), (3, .int x3), (4, .int x4)]) E.hx E.hb dX7_border_15 hl (by decide) rfl (fun ls hl => ?_)
    refine lv_iload_n E.hx E.hb dX7_border_17 rfl (lv_at hl 2 rfl) ?_
    refine lv_istore (lv' := [(6, .int x1), (5, .int 0), (0, .ref (ad 0)), (1, .int x1), (2, .int x2), (3, .int x3), (4, .int x4)]) E.hx E.hb dX7_border_18 hl (by decide) rfl (fun ls hl => ?_)
    obtain ⟨q_13, e_14, h⟩ := obind h
    refine w_X7_border_L20 E K0 N FU P S e_14 (lv_sub hl [2, 3, 4, 5, 6, 1, 0] rfl) (fun {H locs} P S {ls} hl => ?_)
    refine lv_iload_n E.hx E.hb dX7_border_82 rfl (lv_at hl 2 rfl) ?_
    refine lv_istore (lv' := [(6, .int x2), (0, .ref (ad 0)), (1, .int x1), (2, .int x2), (3, .int x3), (4, .int x4), (5, .int q_13.1)]) E.hx E.hb dX7_border_83 hl (by decide) rfl (fun ls hl => ?_)
    obtain ⟨q_24, e_25, h⟩ := obind h
    refine w_X7_border_L85 E K0 N FU P S e_25 (lv_sub hl [1, 2, 4, 5, 6, 0] rfl) (fun {H locs} P S {ls} hl => ?_)
    refine lv_iload E.hx E.hb dX7_border_146 (lv_at hl 0 rfl) ?_
    refine lv_bipush (v := 15) E.hx E.hb dX7_border_148 (by decide) ?_
    refine lv_idiv E.hx E.hb dX7_border_150 (by decide) ?_
    cases h
    exact W.iret E.hx E.hb E.hr (fun t ht _ => ⟨rfl, by rw [ht]; exact P, S.F ht⟩) S.2.2 dX7_border_151 E.hk
  · rw [if_neg c_3] at h
    refine lv_iconst (v := 0) E.hx E.hb dX7_border_12 (by decide) ?_
    cases h
    exact W.iret E.hx E.hb E.hr (fun t ht _ => ⟨rfl, by rw [ht]; exact P, S.F ht⟩) S.2.2 dX7_border_13 E.hk
theorem c_X7_border (l : Launch) {H : Heap} {D : va_G} {cyI : ClassId} {ad : Nat → Nat} {I : Nat → Int32} {A : Nat → Nat → Int32} (N : AdN 16 ad) (P : va_P D classes (mw cyI ad I A) H) (x1 x2 x3 x4 : Int32) {out : Int32 × (Nat → Int32) × (Nat → Nat → Int32)} (h : B_X7_border I A x1 x2 x3 x4 = some out) : MRW l yX7_border cX7_border 7 (some .int) 3 [.ref (ad 0), .int x1, .int x2, .int x3, .int x4] H (KM D cyI) (InN 16 ad) (some (.int out.1)) (fun H1 => va_P D classes (mw cyI ad out.2.1 out.2.2) H1) := by
  refine Mof (own := RX7) (by decide +kernel) rfl rfl ?_
  intro p e s m args below meth c ls E hH K0 hl
  subst hH
  exact w_X7_border E K0 N P va_S.rf h hl
theorem ds_X7_border : Dsc yX7_border 4 := ⟨by decide +kernel, by decide +kernel, by decide +kernel⟩
end
section
variable {p : Program} {l : Launch} {e : Env} {s : State} {m : MethodId} {args : Array Value} {below : List Frame} {meth : Method} {c : Code} {D : va_G} {cyI : ClassId} {ad : Nat → Nat} {I : Nat → Int32} {A : Nat → Nat → Int32}
def B_X7_defects_L21  (x2 : Int32) : Nat → Int32 → Int32 → (Nat → Int32) → (Nat → Nat → Int32) → Option (Int32 × (Nat → Int32) × (Nat → Nat → Int32))
  | 0 => fun _ _ _ _ => none
  | n + 1 => fun x1 x3 I A => if ((I 1) - 1) ≤ x3 then some ((x1, I, A)) else ((B_X7_windingAt I A x3 x2).bind fun r_3 => if r_3 = 0 then (B_X7_defects_L21 x2 n) ((x1 + 0)) (x3 + 1) I A else (B_X7_defects_L21 x2 n) ((x1 + 1)) (x3 + 1) I A)
theorem B_X7_defects_L21_s (I : Nat → Int32) (A : Nat → Nat → Int32) (x2 x1 x3 : Int32) (n : Nat) : B_X7_defects_L21  x2 (n + 1) x1 x3 I A = if ((I 1) - 1) ≤ x3 then some ((x1, I, A)) else ((B_X7_windingAt I A x3 x2).bind fun r_3 => if r_3 = 0 then (B_X7_defects_L21 x2 n) ((x1 + 0)) (x3 + 1) I A else (B_X7_defects_L21 x2 n) ((x1 + 1)) (x3 + 1) I A) := rfl
set_option maxHeartbeats 4000000 in
set_option maxRecDepth 100000 in
theorem w_X7_defects_L21 (E : EX p s m args meth c cX7_defects 4 RX7 (some .int)) (K0 : KM D cyI s s.heap) (N : AdN 16 ad) {x2 : Int32} {out : Int32 × (Nat → Int32) × (Nat → Nat → Int32)} : ∀ (n : Nat) {x1 x3 : Int32} {I : Nat → Int32} {A : Nat → Nat → Int32} {H : Heap} {locs : List Loc} (P : va_P D classes (mw cyI ad I A) H) (S : va_S (InN 16 ad) s.heap H locs) {o : Int32 × (Nat → Int32) × (Nat → Nat → Int32)} (h : B_X7_defects_L21  x2 n x1 x3 I A = some o) {ls : Array Slot} (hl : lv_has ls 4 [(0, .ref (ad 0)), (1, .int x1), (2, .int x2), (3, .int x3)]) (kx : ∀ {H : Heap} {locs : List Loc} (_ : va_P D classes (mw cyI ad o.2.1 o.2.2) H) (_ : va_S (InN 16 ad) s.heap H locs) {ls : Array Slot}, lv_has ls 4 [(0, .ref (ad 0)), (1, .int o.1), (2, .int x2)] → W p l e (rmL 3) s m args below meth c H locs 0 0 (MQ below (Qrw (InN 16 ad) (some (.int out.1)) (fun H1 => va_P D classes (mw cyI ad out.2.1 out.2.2) H1)) args s 0 0 (InN 16 ad)) (F0 m 54 ls [])), W p l e (rmL 3) s m args below meth c H locs 0 0 (MQ below (Qrw (InN 16 ad) (some (.int out.1)) (fun H1 => va_P D classes (mw cyI ad out.2.1 out.2.2) H1)) args s 0 0 (InN 16 ad)) (F0 m 21 ls []) := by
  intro n
  induction n with
  | zero => intro x1 x3 I A H locs P S o h ls hl kx; exact nomatch (show none = some o from h)
  | succ n ih =>
    intro x1 x3 I A H locs P S o h ls hl kx
    rw [B_X7_defects_L21_s] at h
    refine lv_iload_n E.hx E.hb dX7_defects_21 rfl (lv_at hl 3 rfl) ?_
    refine lv_aload_n E.hx E.hb dX7_defects_22 rfl (lv_at hl 0 rfl) ?_
    refine gf_X7_7 E K0 P dX7_defects_23 ?_
    refine lv_iconst (v := 1) E.hx E.hb dX7_defects_26 (by decide) ?_
    refine lv_isub E.hx E.hb dX7_defects_27 ?_
    refine lv_icmp_ge (tgt := 54) E.hx E.hb dX7_defects_28 (by decide) (fun c_2 => ?_) (fun c_2 => ?_)
    · rw [if_pos c_2] at h
      cases h
      exact kx P S (lv_sub hl [0, 1, 2] rfl)
    · rw [if_neg c_2] at h
      refine lv_iload_n E.hx E.hb dX7_defects_31 rfl (lv_at hl 1 rfl) ?_
      refine lv_aload_n E.hx E.hb dX7_defects_32 rfl (lv_at hl 0 rfl) ?_
      refine lv_iload_n E.hx E.hb dX7_defects_33 rfl (lv_at hl 3 rfl) ?_
      refine lv_iload_n E.hx E.hb dX7_defects_34 rfl (lv_at hl 2 rfl) ?_
      obtain ⟨r_3, e_4, h⟩ := obind h
      refine iv_X7_167 (ad := ad) E K0 P S e_4 (by decide) hl.1 (Nat.le_of_ble_eq_true rfl) dX7_defects_35 ?_
      refine lv_if_eq (tgt := 45) E.hx E.hb dX7_defects_38 (by decide) (fun c_5 => ?_) (fun c_5 => ?_)
      · rw [if_pos c_5] at h
        refine lv_iconst (v := 0) E.hx E.hb dX7_defects_45 (by decide) ?_
        refine lv_iadd E.hx E.hb dX7_defects_46 ?_
        refine lv_istore_n (lv' := [(1, .int (x1 + 0)), (0, .ref (ad 0)), (2, .int x2), (3, .int x3)]) E.hx E.hb dX7_defects_47 rfl hl (by decide) rfl (fun ls hl => ?_)
        refine lv_iinc (v := x3 + 1) (lv' := [(3, .int (x3 + 1)), (1, .int (x1 + 0)), (0, .ref (ad 0)), (2, .int x2)]) E.hx E.hb dX7_defects_48 hl (k := 3) rfl rfl (by decide) rfl (fun ls hl => ?_)
        refine lv_goto (tgt := 21) E.hx E.hb dX7_defects_51 (by decide) ?_
        exact ih P S h (lv_sub hl [2, 1, 3, 0] rfl) kx
      · rw [if_neg c_5] at h
        refine lv_iconst (v := 1) E.hx E.hb dX7_defects_41 (by decide) ?_
        refine lv_goto (tgt := 46) E.hx E.hb dX7_defects_42 (by decide) ?_
        refine lv_iadd E.hx E.hb dX7_defects_46 ?_
        refine lv_istore_n (lv' := [(1, .int (x1 + 1)), (0, .ref (ad 0)), (2, .int x2), (3, .int x3)]) E.hx E.hb dX7_defects_47 rfl hl (by decide) rfl (fun ls hl => ?_)
        refine lv_iinc (v := x3 + 1) (lv' := [(3, .int (x3 + 1)), (1, .int (x1 + 1)), (0, .ref (ad 0)), (2, .int x2)]) E.hx E.hb dX7_defects_48 hl (k := 3) rfl rfl (by decide) rfl (fun ls hl => ?_)
        refine lv_goto (tgt := 21) E.hx E.hb dX7_defects_51 (by decide) ?_
        exact ih P S h (lv_sub hl [2, 1, 3, 0] rfl) kx
def B_X7_defects_L9   : Nat → Int32 → Int32 → (Nat → Int32) → (Nat → Nat → Int32) → Option (Int32 × (Nat → Int32) × (Nat → Nat → Int32))
  | 0 => fun _ _ _ _ => none
  | n + 1 => fun x1 x2 I A => if ((I 2) - 1) ≤ x2 then some ((x1, I, A)) else ((B_X7_defects_L21  x2 FU x1 0 I A).bind fun q_6 => (B_X7_defects_L9 n) q_6.1 (x2 + 1) q_6.2.1 q_6.2.2)
theorem B_X7_defects_L9_s (I : Nat → Int32) (A : Nat → Nat → Int32) (x1 x2 : Int32) (n : Nat) : B_X7_defects_L9   (n + 1) x1 x2 I A = if ((I 2) - 1) ≤ x2 then some ((x1, I, A)) else ((B_X7_defects_L21  x2 FU x1 0 I A).bind fun q_6 => (B_X7_defects_L9 n) q_6.1 (x2 + 1) q_6.2.1 q_6.2.2) := rfl
set_option maxHeartbeats 4000000 in
set_option maxRecDepth 100000 in
theorem w_X7_defects_L9 (E : EX p s m args meth c cX7_defects 4 RX7 (some .int)) (K0 : KM D cyI s s.heap) (N : AdN 16 ad) {out : Int32 × (Nat → Int32) × (Nat → Nat → Int32)} : ∀ (n : Nat) {x1 x2 : Int32} {I : Nat → Int32} {A : Nat → Nat → Int32} {H : Heap} {locs : List Loc} (P : va_P D classes (mw cyI ad I A) H) (S : va_S (InN 16 ad) s.heap H locs) {o : Int32 × (Nat → Int32) × (Nat → Nat → Int32)} (h : B_X7_defects_L9   n x1 x2 I A = some o) {ls : Array Slot} (hl : lv_has ls 4 [(0, .ref (ad 0)), (1, .int x1), (2, .int x2)]) (kx : ∀ {H : Heap} {locs : List Loc} (_ : va_P D classes (mw cyI ad o.2.1 o.2.2) H) (_ : va_S (InN 16 ad) s.heap H locs) {ls : Array Slot}, lv_has ls 4 [(1, .int o.1)] → W p l e (rmL 3) s m args below meth c H locs 0 0 (MQ below (Qrw (InN 16 ad) (some (.int out.1)) (fun H1 => va_P D classes (mw cyI ad out.2.1 out.2.2) H1)) args s 0 0 (InN 16 ad)) (F0 m 60 ls [])), W p l e (rmL 3) s m args below meth c H locs 0 0 (MQ below (Qrw (InN 16 ad) (some (.int out.1)) (fun H1 => va_P D classes (mw cyI ad out.2.1 out.2.2) H1)) args s 0 0 (InN 16 ad)) (F0 m 9 ls []) := by
  intro n
  induction n with
  | zero => intro x1 x2 I A H locs P S o h ls hl kx; exact nomatch (show none = some o from h)
  | succ n ih =>
    intro x1 x2 I A H locs P S o h ls hl kx
    rw [B_X7_defects_L9_s] at h
    refine lv_iload_n E.hx E.hb dX7_defects_9 rfl (lv_at hl 2 rfl) ?_
    refine lv_aload_n E.hx E.hb dX7_defects_10 rfl (lv_at hl 0 rfl) ?_
    refine gf_X7_13 E K0 P dX7_defects_11 ?_
    refine lv_iconst (v := 1) E.hx E.hb dX7_defects_14 (by decide) ?_
    refine lv_isub E.hx E.hb dX7_defects_15 ?_
    refine lv_icmp_ge (tgt := 60) E.hx E.hb dX7_defects_16 (by decide) (fun c_1 => ?_) (fun c_1 => ?_)
    · rw [if_pos c_1] at h
      cases h
      exact kx P S (lv_sub hl [1] rfl)
    · rw [if_neg c_1] at h
      refine lv_iconst (v := 0) E.hx E.hb dX7_defects_19 (by decide) ?_
      refine lv_istore_n (lv' := [(3, .int 0), (0, .ref (ad 0)), (1, .int x1), (2, .int x2)]) E.hx E.hb dX7_defects_20 rfl hl (by decide) rfl (fun ls hl => ?_)
      obtain ⟨q_6, e_7, h⟩ := obind h
      refine w_X7_defects_L21 E K0 N FU P S e_7 (lv_sub hl [1, 2, 3, 0] rfl) (fun {H locs} P S {ls} hl => ?_)
      refine lv_iinc (v := x2 + 1) (lv' := [(2, .int (x2 + 1)), (0, .ref (ad 0)), (1, .int q_6.1)]) E.hx E.hb dX7_defects_54 hl (k := 2) rfl rfl (by decide) rfl (fun ls hl => ?_)
      refine lv_goto (tgt := 9) E.hx E.hb dX7_defects_57 (by decide) ?_
      exact ih P S h (lv_sub hl [1, 2, 0] rfl) kx
def B_X7_defects (I : Nat → Int32) (A : Nat → Nat → Int32)  : Option (Int32 × (Nat → Int32) × (Nat → Nat → Int32)) := (B_X7_defects_L9   FU 0 0 ((va_up I 0 0)) A).bind fun q_8 => some (q_8.1, q_8.2.1, q_8.2.2)
set_option maxHeartbeats 4000000 in
set_option maxRecDepth 100000 in
theorem w_X7_defects (E : EX p s m args meth c cX7_defects 4 RX7 (some .int)) (K0 : KM D cyI s s.heap) (N : AdN 16 ad) {H : Heap} {locs : List Loc} (P : va_P D classes (mw cyI ad I A) H) (S : va_S (InN 16 ad) s.heap H locs)  {out : Int32 × (Nat → Int32) × (Nat → Nat → Int32)} (h : B_X7_defects I A  = some out) {ls : Array Slot} (hl : lv_has ls 4 [(0, .ref (ad 0))]) : W p l e (rmL 3) s m args below meth c H locs 0 0 (MQ below (Qrw (InN 16 ad) (some (.int out.1)) (fun H1 => va_P D classes (mw cyI ad out.2.1 out.2.2) H1)) args s 0 0 (InN 16 ad)) (F0 m 0 ls []) := by
  unfold B_X7_defects at h
  refine lv_aload_n E.hx E.hb dX7_defects_0 rfl (lv_at hl 0 rfl) ?_
  refine lv_iconst (v := 0) E.hx E.hb dX7_defects_1 (by decide) ?_
  refine pf_X7_89 E N K0 P S dX7_defects_2 (fun H locs P S => ?_)
  refine lv_iconst (v := 0) E.hx E.hb dX7_defects_5 (by decide) ?_
  refine lv_istore_n (lv' := [(1, .int 0), (0, .ref (ad 0))]) E.hx E.hb dX7_defects_6 rfl hl (by decide) rfl (fun ls hl => ?_)
  refine lv_iconst (v := 0) E.hx E.hb dX7_defects_7 (by decide) ?_
  refine lv_istore_n (lv' := [(2, .int 0), (1, .int 0), (0, .ref (ad 0))]) E.hx E.hb dX7_defects_8 rfl hl (by decide) rfl (fun ls hl => ?_)
  obtain ⟨q_8, e_9, h⟩ := obind h
  refine w_X7_defects_L9 E K0 N FU P S e_9 (lv_sub hl [2, 1, 0] rfl) (fun {H locs} P S {ls} hl => ?_)
  refine lv_iload_n E.hx E.hb dX7_defects_60 rfl (lv_at hl 0 rfl) ?_
  cases h
  exact W.iret E.hx E.hb E.hr (fun t ht _ => ⟨rfl, by rw [ht]; exact P, S.F ht⟩) S.2.2 dX7_defects_61 E.hk
theorem c_X7_defects (l : Launch) {H : Heap} {D : va_G} {cyI : ClassId} {ad : Nat → Nat} {I : Nat → Int32} {A : Nat → Nat → Int32} (N : AdN 16 ad) (P : va_P D classes (mw cyI ad I A) H)  {out : Int32 × (Nat → Int32) × (Nat → Nat → Int32)} (h : B_X7_defects I A  = some out) : MRW l yX7_defects cX7_defects 4 (some .int) 3 [.ref (ad 0)] H (KM D cyI) (InN 16 ad) (some (.int out.1)) (fun H1 => va_P D classes (mw cyI ad out.2.1 out.2.2) H1) := by
  refine Mof (own := RX7) (by decide +kernel) rfl rfl ?_
  intro p e s m args below meth c ls E hH K0 hl
  subst hH
  exact w_X7_defects E K0 N P va_S.rf h hl
theorem ds_X7_defects : Dsc yX7_defects 0 := ⟨by decide +kernel, by decide +kernel, by decide +kernel⟩
end
section
variable {p : Program} {l : Launch} {e : Env} {s : State} {m : MethodId} {args : Array Value} {below : List Frame} {meth : Method} {c : Code} {D : va_G} {cyI : ClassId} {ad : Nat → Nat} {I : Nat → Int32} {A : Nat → Nat → Int32}
def B_X7_defect_J71 (k : Int32 → Int32 → Int32 → Int32 → (Nat → Int32) → (Nat → Nat → Int32) → Option (Int32 × Int32 × Int32 × (Nat → Int32) × (Nat → Nat → Int32))) (I : Nat → Int32) (A : Nat → Nat → Int32) (x2 x3 x5 x6 x7 t0 : Int32) : Option (Int32 × Int32 × Int32 × (Nat → Int32) × (Nat → Nat → Int32)) := if x3 = 0 then k (x3 + (-1)) t0 x6 (x7 + 1) I A else k (x3 + (-1)) t0 x5 (x7 + 1) I A
set_option maxHeartbeats 4000000 in
set_option maxRecDepth 100000 in
theorem w_X7_defect_J71 (E : EX p s m args meth c cX7_defect 8 RX7 (some .int)) (K0 : KM D cyI s s.heap) (N : AdN 16 ad) {x2 x3 x5 x6 x7 t0 : Int32} {k : Int32 → Int32 → Int32 → Int32 → (Nat → Int32) → (Nat → Nat → Int32) → Option (Int32 × Int32 × Int32 × (Nat → Int32) × (Nat → Nat → Int32))} {o : Int32 × Int32 × Int32 × (Nat → Int32) × (Nat → Nat → Int32)} {out : Int32 × (Nat → Int32) × (Nat → Nat → Int32)} (hk : ∀ {x3 x4 x5 x7 : Int32} {I : Nat → Int32} {A : Nat → Nat → Int32} {H : Heap} {locs : List Loc} (_ : va_P D classes (mw cyI ad I A) H) (_ : va_S (InN 16 ad) s.heap H locs) (_ : k x3 x4 x5 x7 I A = some o) {ls : Array Slot}, lv_has ls 8 [(0, .ref (ad 0)), (2, .int x2), (3, .int x3), (4, .int x4), (5, .int x5), (6, .int x6), (7, .int x7)] → W p l e (rmL 3) s m args below meth c H locs 0 0 (MQ below (Qrw (InN 16 ad) (some (.int out.1)) (fun H1 => va_P D classes (mw cyI ad out.2.1 out.2.2) H1)) args s 0 0 (InN 16 ad)) (F0 m 34 ls [])) (kx : ∀ {H : Heap} {locs : List Loc} (_ : va_P D classes (mw cyI ad o.2.2.2.1 o.2.2.2.2) H) (_ : va_S (InN 16 ad) s.heap H locs) {ls : Array Slot}, lv_has ls 8 [(0, .ref (ad 0)), (2, .int x2), (3, .int o.1), (4, .int o.2.1), (5, .int o.2.2.1), (6, .int x6)] → W p l e (rmL 3) s m args below meth c H locs 0 0 (MQ below (Qrw (InN 16 ad) (some (.int out.1)) (fun H1 => va_P D classes (mw cyI ad out.2.1 out.2.2) H1)) args s 0 0 (InN 16 ad)) (F0 m 95 ls [])) {H : Heap} {locs : List Loc} (P : va_P D classes (mw cyI ad I A) H) (S : va_S (InN 16 ad) s.heap H locs) (h : B_X7_defect_J71 k I A x2 x3 x5 x6 x7 t0 = some o) {ls : Array Slot} (hl : lv_has ls 8 [(0, .ref (ad 0)), (2, .int x2), (3, .int x3), (5, .int x5), (6, .int x6), (7, .int x7)]) : W p l e (rmL 3) s m args below meth c H locs 0 0 (MQ below (Qrw (InN 16 ad) (some (.int out.1)) (fun H1 => va_P D classes (mw cyI ad out.2.1 out.2.2) H1)) args s 0 0 (InN 16 ad)) (F0 m 71 ls [.int t0]) := by
  unfold B_X7_defect_J71 at h
  refine lv_istore (lv' := [(4, .int t0), (0, .ref (ad 0)), (2, .int x2), (3, .int x3), (5, .int x5), (6, .int x6), (7, .int x7)]) E.hx E.hb dX7_defect_71 hl (by decide) rfl (fun ls hl => ?_)
  refine lv_iload_n E.hx E.hb dX7_defect_73 rfl (lv_at hl 3 rfl) ?_
  refine lv_if_ne (tgt := 82) E.hx E.hb dX7_defect_74 (by decide) (fun c_9 => ?_) (fun c_9 => ?_)
  · rw [if_neg c_9] at h
    refine lv_iload E.hx E.hb dX7_defect_82 (lv_at hl 4 rfl) ?_
    refine lv_istore (lv' := [(5, .int x5), (4, .int t0), (0, .ref (ad 0)), (2, .int x2), (3, .int x3), (6, .int x6), (7, .int x7)]) E.hx E.hb dX7_defect_84 hl (by decide) rfl (fun ls hl => ?_)
    refine lv_iinc (v := x3 + (-1)) (lv' := [(3, .int (x3 + (-1))), (5, .int x5), (4, .int t0), (0, .ref (ad 0)), (2, .int x2), (6, .int x6), (7, .int x7)]) E.hx E.hb dX7_defect_86 hl (k := 4) rfl rfl (by decide) rfl (fun ls hl => ?_)
    refine lv_iinc (v := x7 + 1) (lv' := [(7, .int (x7 + 1)), (3, .int (x3 + (-1))), (5, .int x5), (4, .int t0), (0, .ref (ad 0)), (2, .int x2), (6, .int x6)]) E.hx E.hb dX7_defect_89 hl (k := 6) rfl rfl (by decide) rfl (fun ls hl => ?_)
    refine lv_goto (tgt := 34) E.hx E.hb dX7_defect_92 (by decide) ?_
    exact hk P S h (lv_sub hl [4, 5, 1, 3, 2, 6, 0] rfl)
  · rw [if_pos c_9] at h
    refine lv_iload E.hx E.hb dX7_defect_77 (lv_at hl 5 rfl) ?_
    refine lv_goto (tgt := 84) E.hx E.hb dX7_defect_79 (by decide) ?_
    refine lv_istore (lv' := [(5, .int x6), (4, .int t0), (0, .ref (ad 0)), (2, .int x2), (3, .int x3), (6, .int x6), (7, .int x7)]) E.hx E.hb dX7_defect_84 hl (by decide) rfl (fun ls hl => ?_)
    refine lv_iinc (v := x3 + (-1)) (lv' := [(3, .int (x3 + (-1))), (5, .int x6), (4, .int t0), (0, .ref (ad 0)), (2, .int x2), (6, .int x6), (7, .int x7)]) E.hx E.hb dX7_defect_86 hl (k := 4) rfl rfl (by decide) rfl (fun ls hl => ?_)
    refine lv_iinc (v := x7 + 1) (lv' := [(7, .int (x7 + 1)), (3, .int (x3 + (-1))), (5, .int x6), (4, .int t0), (0, .ref (ad 0)), (2, .int x2), (6, .int x6)]) E.hx E.hb dX7_defect_89 hl (k := 6) rfl rfl (by decide) rfl (fun ls hl => ?_)
    refine lv_goto (tgt := 34) E.hx E.hb dX7_defect_92 (by decide) ?_
    exact hk P S h (lv_sub hl [4, 5, 1, 3, 2, 6, 0] rfl)
def B_X7_defect_L34  (x2 x6 : Int32) : Nat → Int32 → Int32 → Int32 → Int32 → (Nat → Int32) → (Nat → Nat → Int32) → Option (Int32 × Int32 × Int32 × (Nat → Int32) × (Nat → Nat → Int32))
  | 0 => fun _ _ _ _ _ _ => none
  | n + 1 => fun x3 x4 x5 x7 I A => if ((I 1) - 1) ≤ x7 then some ((x3, x4, x5, I, A)) else (if x3 < 0 then some ((x3, x4, x5, I, A)) else ((B_X7_windingAt I A x7 x6).bind fun r_5 => if r_5 = 0 then (B_X7_defect_L34 x2 x6 n) x3 x4 x5 (x7 + 1) I A else (if x3 = 0 then B_X7_defect_J71 ((B_X7_defect_L34 x2 x6 n)) I A x2 x3 x5 x6 x7 x7 else B_X7_defect_J71 ((B_X7_defect_L34 x2 x6 n)) I A x2 x3 x5 x6 x7 x4)))
theorem B_X7_defect_L34_s (I : Nat → Int32) (A : Nat → Nat → Int32) (x2 x6 x3 x4 x5 x7 : Int32) (n : Nat) : B_X7_defect_L34  x2 x6 (n + 1) x3 x4 x5 x7 I A = if ((I 1) - 1) ≤ x7 then some ((x3, x4, x5, I, A)) else (if x3 < 0 then some ((x3, x4, x5, I, A)) else ((B_X7_windingAt I A x7 x6).bind fun r_5 => if r_5 = 0 then (B_X7_defect_L34 x2 x6 n) x3 x4 x5 (x7 + 1) I A else (if x3 = 0 then B_X7_defect_J71 ((B_X7_defect_L34 x2 x6 n)) I A x2 x3 x5 x6 x7 x7 else B_X7_defect_J71 ((B_X7_defect_L34 x2 x6 n)) I A x2 x3 x5 x6 x7 x4))) := rfl
set_option maxHeartbeats 4000000 in
set_option maxRecDepth 100000 in
theorem w_X7_defect_L34 (E : EX p s m args meth c cX7_defect 8 RX7 (some .int)) (K0 : KM D cyI s s.heap) (N : AdN 16 ad) {x2 x6 : Int32} {out : Int32 × (Nat → Int32) × (Nat → Nat → Int32)} : ∀ (n : Nat) {x3 x4 x5 x7 : Int32} {I : Nat → Int32} {A : Nat → Nat → Int32} {H : Heap} {locs : List Loc} (P : va_P D classes (mw cyI ad I A) H) (S : va_S (InN 16 ad) s.heap H locs) {o : Int32 × Int32 × Int32 × (Nat → Int32) × (Nat → Nat → Int32)} (h : B_X7_defect_L34  x2 x6 n x3 x4 x5 x7 I A = some o) {ls : Array Slot} (hl : lv_has ls 8 [(0, .ref (ad 0)), (2, .int x2), (3, .int x3), (4, .int x4), (5, .int x5), (6, .int x6), (7, .int x7)]) (kx : ∀ {H : Heap} {locs : List Loc} (_ : va_P D classes (mw cyI ad o.2.2.2.1 o.2.2.2.2) H) (_ : va_S (InN 16 ad) s.heap H locs) {ls : Array Slot}, lv_has ls 8 [(0, .ref (ad 0)), (2, .int x2), (3, .int o.1), (4, .int o.2.1), (5, .int o.2.2.1), (6, .int x6)] → W p l e (rmL 3) s m args below meth c H locs 0 0 (MQ below (Qrw (InN 16 ad) (some (.int out.1)) (fun H1 => va_P D classes (mw cyI ad out.2.1 out.2.2) H1)) args s 0 0 (InN 16 ad)) (F0 m 95 ls [])), W p l e (rmL 3) s m args below meth c H locs 0 0 (MQ below (Qrw (InN 16 ad) (some (.int out.1)) (fun H1 => va_P D classes (mw cyI ad out.2.1 out.2.2) H1)) args s 0 0 (InN 16 ad)) (F0 m 34 ls []) := by
  intro n
  induction n with
  | zero => intro x3 x4 x5 x7 I A H locs P S o h ls hl kx; exact nomatch (show none = some o from h)
  | succ n ih =>
    intro x3 x4 x5 x7 I A H locs P S o h ls hl kx
    rw [B_X7_defect_L34_s] at h
    refine lv_iload E.hx E.hb dX7_defect_34 (lv_at hl 6 rfl) ?_
    refine lv_aload_n E.hx E.hb dX7_defect_36 rfl (lv_at hl 0 rfl) ?_
    refine gf_X7_7 E K0 P dX7_defect_37 ?_
    refine lv_iconst (v := 1) E.hx E.hb dX7_defect_40 (by decide) ?_
    refine lv_isub E.hx E.hb dX7_defect_41 ?_
    refine lv_icmp_ge (tgt := 95) E.hx E.hb dX7_defect_42 (by decide) (fun c_3 => ?_) (fun c_3 => ?_)
    · rw [if_pos c_3] at h
      cases h
      exact kx P S (lv_sub hl [0, 1, 2, 3, 4, 5] rfl)
    · rw [if_neg c_3] at h
      refine lv_iload_n E.hx E.hb dX7_defect_45 rfl (lv_at hl 2 rfl) ?_
      refine lv_if_lt (tgt := 95) E.hx E.hb dX7_defect_46 (by decide) (fun c_4 => ?_) (fun c_4 => ?_)
      · rw [if_pos c_4] at h
        cases h
        exact kx P S (lv_sub hl [0, 1, 2, 3, 4, 5] rfl)
      · rw [if_neg c_4] at h
        refine lv_aload_n E.hx E.hb dX7_defect_49 rfl (lv_at hl 0 rfl) ?_
        refine lv_iload E.hx E.hb dX7_defect_50 (lv_at hl 6 rfl) ?_
        refine lv_iload E.hx E.hb dX7_defect_52 (lv_at hl 5 rfl) ?_
        obtain ⟨r_5, e_6, h⟩ := obind h
        refine iv_X7_167 (ad := ad) E K0 P S e_6 (by decide) hl.1 (Nat.le_of_ble_eq_true rfl) dX7_defect_54 ?_
        refine lv_if_eq (tgt := 89) E.hx E.hb dX7_defect_57 (by decide) (fun c_7 => ?_) (fun c_7 => ?_)
        · rw [if_pos c_7] at h
          refine lv_iinc (v := x7 + 1) (lv' := [(7, .int (x7 + 1)), (0, .ref (ad 0)), (2, .int x2), (3, .int x3), (4, .int x4), (5, .int x5), (6, .int x6)]) E.hx E.hb dX7_defect_89 hl (k := 6) rfl rfl (by decide) rfl (fun ls hl => ?_)
          refine lv_goto (tgt := 34) E.hx E.hb dX7_defect_92 (by decide) ?_
          exact ih P S h (lv_sub hl [1, 2, 3, 4, 5, 6, 0] rfl) kx
        · rw [if_neg c_7] at h
          refine lv_iload_n E.hx E.hb dX7_defect_60 rfl (lv_at hl 2 rfl) ?_
          refine lv_if_ne (tgt := 69) E.hx E.hb dX7_defect_61 (by decide) (fun c_8 => ?_) (fun c_8 => ?_)
          · rw [if_neg c_8] at h
            refine lv_iload E.hx E.hb dX7_defect_69 (lv_at hl 3 rfl) ?_
            exact w_X7_defect_J71 E K0 N (fun {_} {_} {_} {_} {_} {_} {_} {_} P S h {ls} hl => ih P S h hl kx) kx P S h (lv_sub hl [0, 1, 2, 4, 5, 6] rfl)
          · rw [if_pos c_8] at h
            refine lv_iload E.hx E.hb dX7_defect_64 (lv_at hl 6 rfl) ?_
            refine lv_goto (tgt := 71) E.hx E.hb dX7_defect_66 (by decide) ?_
            exact w_X7_defect_J71 E K0 N (fun {_} {_} {_} {_} {_} {_} {_} {_} P S h {ls} hl => ih P S h hl kx) kx P S h (lv_sub hl [0, 1, 2, 4, 5, 6] rfl)
def B_X7_defect_L16  (x2 : Int32) : Nat → Int32 → Int32 → Int32 → Int32 → (Nat → Int32) → (Nat → Nat → Int32) → Option (Int32 × Int32 × (Nat → Int32) × (Nat → Nat → Int32))
  | 0 => fun _ _ _ _ _ _ => none
  | n + 1 => fun x3 x4 x5 x6 I A => if ((I 2) - 1) ≤ x6 then some ((x4, x5, I, A)) else (if x3 < 0 then some ((x4, x5, I, A)) else ((B_X7_defect_L34  x2 x6 FU x3 x4 x5 0 I A).bind fun q_10 => (B_X7_defect_L16 x2 n) q_10.1 q_10.2.1 q_10.2.2.1 (x6 + 1) q_10.2.2.2.1 q_10.2.2.2.2))
theorem B_X7_defect_L16_s (I : Nat → Int32) (A : Nat → Nat → Int32) (x2 x3 x4 x5 x6 : Int32) (n : Nat) : B_X7_defect_L16  x2 (n + 1) x3 x4 x5 x6 I A = if ((I 2) - 1) ≤ x6 then some ((x4, x5, I, A)) else (if x3 < 0 then some ((x4, x5, I, A)) else ((B_X7_defect_L34  x2 x6 FU x3 x4 x5 0 I A).bind fun q_10 => (B_X7_defect_L16 x2 n) q_10.1 q_10.2.1 q_10.2.2.1 (x6 + 1) q_10.2.2.2.1 q_10.2.2.2.2)) := rfl
set_option maxHeartbeats 4000000 in
set_option maxRecDepth 100000 in
theorem w_X7_defect_L16 (E : EX p s m args meth c cX7_defect 8 RX7 (some .int)) (K0 : KM D cyI s s.heap) (N : AdN 16 ad) {x2 : Int32} {out : Int32 × (Nat → Int32) × (Nat → Nat → Int32)} : ∀ (n : Nat) {x3 x4 x5 x6 : Int32} {I : Nat → Int32} {A : Nat → Nat → Int32} {H : Heap} {locs : List Loc} (P : va_P D classes (mw cyI ad I A) H) (S : va_S (InN 16 ad) s.heap H locs) {o : Int32 × Int32 × (Nat → Int32) × (Nat → Nat → Int32)} (h : B_X7_defect_L16  x2 n x3 x4 x5 x6 I A = some o) {ls : Array Slot} (hl : lv_has ls 8 [(0, .ref (ad 0)), (2, .int x2), (3, .int x3), (4, .int x4), (5, .int x5), (6, .int x6)]) (kx : ∀ {H : Heap} {locs : List Loc} (_ : va_P D classes (mw cyI ad o.2.2.1 o.2.2.2) H) (_ : va_S (InN 16 ad) s.heap H locs) {ls : Array Slot}, lv_has ls 8 [(0, .ref (ad 0)), (2, .int x2), (4, .int o.1), (5, .int o.2.1)] → W p l e (rmL 3) s m args below meth c H locs 0 0 (MQ below (Qrw (InN 16 ad) (some (.int out.1)) (fun H1 => va_P D classes (mw cyI ad out.2.1 out.2.2) H1)) args s 0 0 (InN 16 ad)) (F0 m 101 ls [])), W p l e (rmL 3) s m args below meth c H locs 0 0 (MQ below (Qrw (InN 16 ad) (some (.int out.1)) (fun H1 => va_P D classes (mw cyI ad out.2.1 out.2.2) H1)) args s 0 0 (InN 16 ad)) (F0 m 16 ls []) := by
  intro n
  induction n with
  | zero => intro x3 x4 x5 x6 I A H locs P S o h ls hl kx; exact nomatch (show none = some o from h)
  | succ n ih =>
    intro x3 x4 x5 x6 I A H locs P S o h ls hl kx
    rw [B_X7_defect_L16_s] at h
    refine lv_iload E.hx E.hb dX7_defect_16 (lv_at hl 5 rfl) ?_
    refine lv_aload_n E.hx E.hb dX7_defect_18 rfl (lv_at hl 0 rfl) ?_
    refine gf_X7_13 E K0 P dX7_defect_19 ?_
    refine lv_iconst (v := 1) E.hx E.hb dX7_defect_22 (by decide) ?_
    refine lv_isub E.hx E.hb dX7_defect_23 ?_
    refine lv_icmp_ge (tgt := 101) E.hx E.hb dX7_defect_24 (by decide) (fun c_1 => ?_) (fun c_1 => ?_)
    · rw [if_pos c_1] at h
      cases h
      exact kx P S (lv_sub hl [0, 1, 3, 4] rfl)
    · rw [if_neg c_1] at h
      refine lv_iload_n E.hx E.hb dX7_defect_27 rfl (lv_at hl 2 rfl) ?_
      refine lv_if_lt (tgt := 101) E.hx E.hb dX7_defect_28 (by decide) (fun c_2 => ?_) (fun c_2 => ?_)
      · rw [if_pos c_2] at h
        cases h
        exact kx P S (lv_sub hl [0, 1, 3, 4] rfl)
      · rw [if_neg c_2] at h
        refine lv_iconst (v := 0) E.hx E.hb dX7_defect_31 (by decide) ?_
        refine lv_istore (lv' := [(7, .int 0), (0, .ref (ad 0)), (2, .int x2), (3, .int x3), (4, .int x4), (5, .int x5), (6, .int x6)]) E.hx E.hb dX7_defect_32 hl (by decide) rfl (fun ls hl => ?_)
        obtain ⟨q_10, e_11, h⟩ := obind h
        refine w_X7_defect_L34 E K0 N FU P S e_11 (lv_sub hl [1, 2, 3, 4, 5, 6, 0] rfl) (fun {H locs} P S {ls} hl => ?_)
        refine lv_iinc (v := x6 + 1) (lv' := [(6, .int (x6 + 1)), (0, .ref (ad 0)), (2, .int x2), (3, .int q_10.1), (4, .int q_10.2.1), (5, .int q_10.2.2.1)]) E.hx E.hb dX7_defect_95 hl (k := 5) rfl rfl (by decide) rfl (fun ls hl => ?_)
        refine lv_goto (tgt := 16) E.hx E.hb dX7_defect_98 (by decide) ?_
        exact ih P S h (lv_sub hl [1, 2, 3, 4, 5, 0] rfl) kx
def B_X7_defect_J101  (I : Nat → Int32) (A : Nat → Nat → Int32) (x2 x4 x5 : Int32) : Option (Int32 × (Nat → Int32) × (Nat → Nat → Int32)) := if x4 = (-1) then ((B_X7_stop I A 1).bind fun q_22 => some (q_22.1, q_22.2.1, q_22.2.2)) else (if (B_X7_in x2 0 2) = 0 then ((B_X7_stop I A 2).bind fun q_20 => some (q_20.1, q_20.2.1, q_20.2.2)) else (if x2 = 0 then some (x4, I, A) else (if x2 = 1 then some (x5, I, A) else ((B_X7_windingAt I A x4 x5).bind fun r_18 => some (r_18, I, A)))))
set_option maxHeartbeats 4000000 in
set_option maxRecDepth 100000 in
theorem w_X7_defect_J101 (E : EX p s m args meth c cX7_defect 8 RX7 (some .int)) (K0 : KM D cyI s s.heap) (N : AdN 16 ad) {H : Heap} {locs : List Loc} (P : va_P D classes (mw cyI ad I A) H) (S : va_S (InN 16 ad) s.heap H locs) {x2 x4 x5 : Int32} {out : Int32 × (Nat → Int32) × (Nat → Nat → Int32)} (h : B_X7_defect_J101  I A x2 x4 x5 = some out) {ls : Array Slot} (hl : lv_has ls 8 [(0, .ref (ad 0)), (2, .int x2), (4, .int x4), (5, .int x5)]) : W p l e (rmL 3) s m args below meth c H locs 0 0 (MQ below (Qrw (InN 16 ad) (some (.int out.1)) (fun H1 => va_P D classes (mw cyI ad out.2.1 out.2.2) H1)) args s 0 0 (InN 16 ad)) (F0 m 101 ls []) := by
  unfold B_X7_defect_J101 at h
  refine lv_iload E.hx E.hb dX7_defect_101 (lv_at hl 2 rfl) ?_
  refine lv_iconst (v := (-1)) E.hx E.hb dX7_defect_103 (by decide) ?_
  refine lv_icmp_ne (tgt := 113) E.hx E.hb dX7_defect_104 (by decide) (fun c_14 => ?_) (fun c_14 => ?_)
  · rw [if_neg c_14] at h
    refine lv_iload_n E.hx E.hb dX7_defect_113 rfl (lv_at hl 1 rfl) ?_
    refine lv_iconst (v := 0) E.hx E.hb dX7_defect_114 (by decide) ?_
    refine lv_iconst (v := 2) E.hx E.hb dX7_defect_115 (by decide) ?_
    refine iv_X7_92 (ad := ad) E K0 S (by decide) hl.1 (Nat.le_of_ble_eq_true rfl) dX7_defect_116 ?_
    refine lv_if_ne (tgt := 128) E.hx E.hb dX7_defect_119 (by decide) (fun c_15 => ?_) (fun c_15 => ?_)
    · rw [if_neg c_15] at h
      refine lv_iload_n E.hx E.hb dX7_defect_128 rfl (lv_at hl 1 rfl) ?_
      refine lv_if_ne (tgt := 137) E.hx E.hb dX7_defect_129 (by decide) (fun c_16 => ?_) (fun c_16 => ?_)
      · rw [if_neg c_16] at h
        refine lv_iload_n E.hx E.hb dX7_defect_137 rfl (lv_at hl 1 rfl) ?_
        refine lv_iconst (v := 1) E.hx E.hb dX7_defect_138 (by decide) ?_
        refine lv_icmp_ne (tgt := 147) E.hx E.hb dX7_defect_139 (by decide) (fun c_17 => ?_) (fun c_17 => ?_)
        · rw [if_neg c_17] at h
          refine lv_aload_n E.hx E.hb dX7_defect_147 rfl (lv_at hl 0 rfl) ?_
          refine lv_iload E.hx E.hb dX7_defect_148 (lv_at hl 2 rfl) ?_
          refine lv_iload E.hx E.hb dX7_defect_150 (lv_at hl 3 rfl) ?_
          obtain ⟨r_18, e_19, h⟩ := obind h
          refine iv_X7_167 (ad := ad) E K0 P S e_19 (by decide) hl.1 (Nat.le_of_ble_eq_true rfl) dX7_defect_152 ?_
          cases h
          exact W.iret E.hx E.hb E.hr (fun t ht _ => ⟨rfl, by rw [ht]; exact P, S.F ht⟩) S.2.2 dX7_defect_155 E.hk
        · rw [if_pos c_17] at h
          refine lv_iload E.hx E.hb dX7_defect_142 (lv_at hl 3 rfl) ?_
          refine lv_goto (tgt := 155) E.hx E.hb dX7_defect_144 (by decide) ?_
          cases h
          exact W.iret E.hx E.hb E.hr (fun t ht _ => ⟨rfl, by rw [ht]; exact P, S.F ht⟩) S.2.2 dX7_defect_155 E.hk
      · rw [if_pos c_16] at h
        refine lv_iload E.hx E.hb dX7_defect_132 (lv_at hl 2 rfl) ?_
        refine lv_goto (tgt := 155) E.hx E.hb dX7_defect_134 (by decide) ?_
        cases h
        exact W.iret E.hx E.hb E.hr (fun t ht _ => ⟨rfl, by rw [ht]; exact P, S.F ht⟩) S.2.2 dX7_defect_155 E.hk
    · rw [if_pos c_15] at h
      refine lv_aload_n E.hx E.hb dX7_defect_122 rfl (lv_at hl 0 rfl) ?_
      refine lv_iconst (v := 2) E.hx E.hb dX7_defect_123 (by decide) ?_
      obtain ⟨q_20, e_21, h⟩ := obind h
      refine iv_X7_122 E N K0 P S e_21 (by decide) hl.1 (Nat.le_of_ble_eq_true rfl) dX7_defect_124 (fun H locs P S => ?_)
      cases h
      exact W.iret E.hx E.hb E.hr (fun t ht _ => ⟨rfl, by rw [ht]; exact P, S.F ht⟩) S.2.2 dX7_defect_127 E.hk
  · rw [if_pos c_14] at h
    refine lv_aload_n E.hx E.hb dX7_defect_107 rfl (lv_at hl 0 rfl) ?_
    refine lv_iconst (v := 1) E.hx E.hb dX7_defect_108 (by decide) ?_
    obtain ⟨q_22, e_23, h⟩ := obind h
    refine iv_X7_122 E N K0 P S e_23 (by decide) hl.1 (Nat.le_of_ble_eq_true rfl) dX7_defect_109 (fun H locs P S => ?_)
    cases h
    exact W.iret E.hx E.hb E.hr (fun t ht _ => ⟨rfl, by rw [ht]; exact P, S.F ht⟩) S.2.2 dX7_defect_112 E.hk
def B_X7_defect (I : Nat → Int32) (A : Nat → Nat → Int32) (x1 x2 : Int32) : Option (Int32 × (Nat → Int32) × (Nat → Nat → Int32)) := (B_X7_defect_L16  x2 FU x1 ((-1)) ((-1)) 0 ((va_up I 0 0)) A).bind fun q_12 => B_X7_defect_J101  q_12.2.2.1 q_12.2.2.2 x2 q_12.1 q_12.2.1
set_option maxHeartbeats 4000000 in
set_option maxRecDepth 100000 in
theorem w_X7_defect (E : EX p s m args meth c cX7_defect 8 RX7 (some .int)) (K0 : KM D cyI s s.heap) (N : AdN 16 ad) {H : Heap} {locs : List Loc} (P : va_P D classes (mw cyI ad I A) H) (S : va_S (InN 16 ad) s.heap H locs)  {x1 x2 : Int32} {out : Int32 × (Nat → Int32) × (Nat → Nat → Int32)} (h : B_X7_defect I A x1 x2 = some out) {ls : Array Slot} (hl : lv_has ls 8 [(0, .ref (ad 0)), (1, .int x1), (2, .int x2)]) : W p l e (rmL 3) s m args below meth c H locs 0 0 (MQ below (Qrw (InN 16 ad) (some (.int out.1)) (fun H1 => va_P D classes (mw cyI ad out.2.1 out.2.2) H1)) args s 0 0 (InN 16 ad)) (F0 m 0 ls []) := by
  unfold B_X7_defect at h
  refine lv_aload_n E.hx E.hb dX7_defect_0 rfl (lv_at hl 0 rfl) ?_
  refine lv_iconst (v := 0) E.hx E.hb dX7_defect_1 (by decide) ?_
  refine pf_X7_89 E N K0 P S dX7_defect_2 (fun H locs P S => ?_)
  refine lv_iload_n E.hx E.hb dX7_defect_5 rfl (lv_at hl 1 rfl) ?_
  refine lv_istore_n (lv' := [(3, .int x1), (0, .ref (ad 0)), (1, .int x1), (2, .int x2)]) E.hx E.hb dX7_defect_6 rfl hl (by decide) rfl (fun ls hl => ?_)
  refine lv_iconst (v := (-1)) E.hx E.hb dX7_defect_7 (by decide) ?_
  refine lv_istore (lv' := [(4, .int (-1)), (3, .int x1), (0, .ref (ad 0)), (1, .int x1), (2, .int x2)]) E.hx E.hb dX7_defect_8 hl (by decide) rfl (fun ls hl => ?_)
  refine lv_iconst (v := (-1)) E.hx E.hb dX7_defect_10 (by decide) ?_
  refine lv_istore (lv' := [(5, .int (-1)), (4, .int (-1)), (3, .int x1), (0, .ref (ad 0)), (1, .int x1), (2, .int x2)]) E.hx E.hb dX7_defect_11 hl (by decide) rfl (fun ls hl => ?_)
  refine lv_iconst (v := 0) E.hx E.hb dX7_defect_13 (by decide) ?_
  refine lv_istore (lv' := [(6, .int 0), (5, .int (-1)), (4, .int (-1)), (3, .int x1), (0, .ref (ad 0)), (1, .int x1), (2, .int x2)]) E.hx E.hb dX7_defect_14 hl (by decide) rfl (fun ls hl => ?_)
  obtain ⟨q_12, e_13, h⟩ := obind h
  refine w_X7_defect_L16 E K0 N FU P S e_13 (lv_sub hl [4, 6, 3, 2, 1, 0] rfl) (fun {H locs} P S {ls} hl => ?_)
  exact w_X7_defect_J101 E K0 N P S h (lv_sub hl [0, 1, 2, 3] rfl)
theorem c_X7_defect (l : Launch) {H : Heap} {D : va_G} {cyI : ClassId} {ad : Nat → Nat} {I : Nat → Int32} {A : Nat → Nat → Int32} (N : AdN 16 ad) (P : va_P D classes (mw cyI ad I A) H) (x1 x2 : Int32) {out : Int32 × (Nat → Int32) × (Nat → Nat → Int32)} (h : B_X7_defect I A x1 x2 = some out) : MRW l yX7_defect cX7_defect 8 (some .int) 3 [.ref (ad 0), .int x1, .int x2] H (KM D cyI) (InN 16 ad) (some (.int out.1)) (fun H1 => va_P D classes (mw cyI ad out.2.1 out.2.2) H1) := by
  refine Mof (own := RX7) (by decide +kernel) rfl rfl ?_
  intro p e s m args below meth c ls E hH K0 hl
  subst hH
  exact w_X7_defect E K0 N P va_S.rf h hl
theorem ds_X7_defect : Dsc yX7_defect 2 := ⟨by decide +kernel, by decide +kernel, by decide +kernel⟩
end
section
variable {p : Program} {l : Launch} {e : Env} {s : State} {m : MethodId} {args : Array Value} {below : List Frame} {meth : Method} {c : Code} {D : va_G} {cyI : ClassId} {ad : Nat → Nat} {I : Nat → Int32} {A : Nat → Nat → Int32}
def B_X7_flickers_J64 (k : Int32 → Int32 → Int32 → Option (Int32 × Int32)) (I : Nat → Int32) (A : Nat → Nat → Int32) (x1 x2 x4 x5 x6 t0 : Int32) : Option (Int32 × Int32) := if x6 ≤ x4 then k t0 x4 (x5 + 1) else k t0 x6 (x5 + 1)
set_option maxHeartbeats 4000000 in
set_option maxRecDepth 100000 in
theorem w_X7_flickers_J64 (E : EX p s m args meth c cX7_flickers 7 RX7 (some .int)) (K0 : KM D cyI s s.heap) {x1 x2 x4 x5 x6 t0 : Int32} {k : Int32 → Int32 → Int32 → Option (Int32 × Int32)} {o : Int32 × Int32} {out : Int32} (hk : ∀ {x3 x4 x5 : Int32} (_ : k x3 x4 x5 = some o) {ls : Array Slot}, lv_has ls 7 [(0, .ref (ad 0)), (1, .int x1), (2, .int x2), (3, .int x3), (4, .int x4), (5, .int x5)] → W p l e (rmL 0) s m args below meth c s.heap [] 0 0 (MQ below (vp_Si (fun z => z = out)) args s 0 0 (fun _ => False)) (F0 m 32 ls [])) (kx : ∀ {ls : Array Slot}, lv_has ls 7 [(2, .int x2), (3, .int o.1), (4, .int o.2)] → W p l e (rmL 0) s m args below meth c s.heap [] 0 0 (MQ below (vp_Si (fun z => z = out)) args s 0 0 (fun _ => False)) (F0 m 87 ls [])) (P : va_P D classes (mw cyI ad I A) s.heap) (h : B_X7_flickers_J64 k I A x1 x2 x4 x5 x6 t0 = some o) {ls : Array Slot} (hl : lv_has ls 7 [(0, .ref (ad 0)), (1, .int x1), (2, .int x2), (4, .int x4), (5, .int x5), (6, .int x6)]) : W p l e (rmL 0) s m args below meth c s.heap [] 0 0 (MQ below (vp_Si (fun z => z = out)) args s 0 0 (fun _ => False)) (F0 m 64 ls [.int t0]) := by
  unfold B_X7_flickers_J64 at h
  refine lv_istore_n (lv' := [(3, .int t0), (0, .ref (ad 0)), (1, .int x1), (2, .int x2), (4, .int x4), (5, .int x5), (6, .int x6)]) E.hx E.hb dX7_flickers_64 rfl hl (by decide) rfl (fun ls hl => ?_)
  refine lv_iload E.hx E.hb dX7_flickers_65 (lv_at hl 6 rfl) ?_
  refine lv_iload E.hx E.hb dX7_flickers_67 (lv_at hl 4 rfl) ?_
  refine lv_icmp_le (tgt := 77) E.hx E.hb dX7_flickers_69 (by decide) (fun c_8 => ?_) (fun c_8 => ?_)
  · rw [if_pos c_8] at h
    refine lv_iload E.hx E.hb dX7_flickers_77 (lv_at hl 4 rfl) ?_
    refine lv_istore (lv' := [(4, .int x4), (3, .int t0), (0, .ref (ad 0)), (1, .int x1), (2, .int x2), (5, .int x5), (6, .int x6)]) E.hx E.hb dX7_flickers_79 hl (by decide) rfl (fun ls hl => ?_)
    refine lv_iinc (v := x5 + 1) (lv' := [(5, .int (x5 + 1)), (4, .int x4), (3, .int t0), (0, .ref (ad 0)), (1, .int x1), (2, .int x2), (6, .int x6)]) E.hx E.hb dX7_flickers_81 hl (k := 5) rfl rfl (by decide) rfl (fun ls hl => ?_)
    refine lv_goto (tgt := 32) E.hx E.hb dX7_flickers_84 (by decide) ?_
    exact hk  h (lv_sub hl [3, 4, 5, 2, 1, 0] rfl)
  · rw [if_neg c_8] at h
    refine lv_iload E.hx E.hb dX7_flickers_72 (lv_at hl 6 rfl) ?_
    refine lv_goto (tgt := 79) E.hx E.hb dX7_flickers_74 (by decide) ?_
    refine lv_istore (lv' := [(4, .int x6), (3, .int t0), (0, .ref (ad 0)), (1, .int x1), (2, .int x2), (5, .int x5), (6, .int x6)]) E.hx E.hb dX7_flickers_79 hl (by decide) rfl (fun ls hl => ?_)
    refine lv_iinc (v := x5 + 1) (lv' := [(5, .int (x5 + 1)), (4, .int x6), (3, .int t0), (0, .ref (ad 0)), (1, .int x1), (2, .int x2), (6, .int x6)]) E.hx E.hb dX7_flickers_81 hl (k := 5) rfl rfl (by decide) rfl (fun ls hl => ?_)
    refine lv_goto (tgt := 32) E.hx E.hb dX7_flickers_84 (by decide) ?_
    exact hk  h (lv_sub hl [3, 4, 5, 2, 1, 0] rfl)
def B_X7_flickers_L32 (I : Nat → Int32) (A : Nat → Nat → Int32) (x1 x2 : Int32) : Nat → Int32 → Int32 → Int32 → Option (Int32 × Int32)
  | 0 => fun _ _ _ => none
  | n + 1 => fun x3 x4 x5 => if x2 ≤ x5 then some ((x3, x4)) else ((rd (A 7) 64 (((8 * x1) + x5))).bind fun v_5 => if x3 ≤ v_5 then B_X7_flickers_J64 ((B_X7_flickers_L32 I A x1 x2 n)) I A x1 x2 x4 x5 v_5 x3 else B_X7_flickers_J64 ((B_X7_flickers_L32 I A x1 x2 n)) I A x1 x2 x4 x5 v_5 v_5)
theorem B_X7_flickers_L32_s (I : Nat → Int32) (A : Nat → Nat → Int32) (x1 x2 x3 x4 x5 : Int32) (n : Nat) : B_X7_flickers_L32 I A x1 x2 (n + 1) x3 x4 x5 = if x2 ≤ x5 then some ((x3, x4)) else ((rd (A 7) 64 (((8 * x1) + x5))).bind fun v_5 => if x3 ≤ v_5 then B_X7_flickers_J64 ((B_X7_flickers_L32 I A x1 x2 n)) I A x1 x2 x4 x5 v_5 x3 else B_X7_flickers_J64 ((B_X7_flickers_L32 I A x1 x2 n)) I A x1 x2 x4 x5 v_5 v_5) := rfl
set_option maxHeartbeats 4000000 in
set_option maxRecDepth 100000 in
theorem w_X7_flickers_L32 (E : EX p s m args meth c cX7_flickers 7 RX7 (some .int)) (K0 : KM D cyI s s.heap) (P : va_P D classes (mw cyI ad I A) s.heap) {x1 x2 : Int32} {out : Int32} : ∀ (n : Nat) {x3 x4 x5 : Int32} {o : Int32 × Int32} (h : B_X7_flickers_L32 I A x1 x2 n x3 x4 x5 = some o) {ls : Array Slot} (hl : lv_has ls 7 [(0, .ref (ad 0)), (1, .int x1), (2, .int x2), (3, .int x3), (4, .int x4), (5, .int x5)]) (kx : ∀ {ls : Array Slot}, lv_has ls 7 [(2, .int x2), (3, .int o.1), (4, .int o.2)] → W p l e (rmL 0) s m args below meth c s.heap [] 0 0 (MQ below (vp_Si (fun z => z = out)) args s 0 0 (fun _ => False)) (F0 m 87 ls [])), W p l e (rmL 0) s m args below meth c s.heap [] 0 0 (MQ below (vp_Si (fun z => z = out)) args s 0 0 (fun _ => False)) (F0 m 32 ls []) := by
  intro n
  induction n with
  | zero => intro x3 x4 x5 o h ls hl kx; exact nomatch (show none = some o from h)
  | succ n ih =>
    intro x3 x4 x5 o h ls hl kx
    rw [B_X7_flickers_L32_s] at h
    refine lv_iload E.hx E.hb dX7_flickers_32 (lv_at hl 5 rfl) ?_
    refine lv_iload_n E.hx E.hb dX7_flickers_34 rfl (lv_at hl 2 rfl) ?_
    refine lv_icmp_ge (tgt := 87) E.hx E.hb dX7_flickers_35 (by decide) (fun c_4 => ?_) (fun c_4 => ?_)
    · rw [if_pos c_4] at h
      cases h
      exact kx  (lv_sub hl [2, 3, 4] rfl)
    · rw [if_neg c_4] at h
      refine lv_aload_n E.hx E.hb dX7_flickers_38 rfl (lv_at hl 0 rfl) ?_
      refine gf_X7_44 E K0 P dX7_flickers_39 ?_
      refine lv_bipush (v := 8) E.hx E.hb dX7_flickers_42 (by decide) ?_
      refine lv_iload_n E.hx E.hb dX7_flickers_44 rfl (lv_at hl 1 rfl) ?_
      refine lv_imul E.hx E.hb dX7_flickers_45 ?_
      refine lv_iload E.hx E.hb dX7_flickers_46 (lv_at hl 5 rfl) ?_
      refine lv_iadd E.hx E.hb dX7_flickers_48 ?_
      obtain ⟨v_5, e_6, h⟩ := obind h
      refine al_7 E K0 P e_6 dX7_flickers_49 ?_
      refine lv_istore (lv' := [(6, .int v_5), (0, .ref (ad 0)), (1, .int x1), (2, .int x2), (3, .int x3), (4, .int x4), (5, .int x5)]) E.hx E.hb dX7_flickers_50 hl (by decide) rfl (fun ls hl => ?_)
      refine lv_iload E.hx E.hb dX7_flickers_52 (lv_at hl 0 rfl) ?_
      refine lv_iload_n E.hx E.hb dX7_flickers_54 rfl (lv_at hl 4 rfl) ?_
      refine lv_icmp_ge (tgt := 63) E.hx E.hb dX7_flickers_55 (by decide) (fun c_7 => ?_) (fun c_7 => ?_)
      · rw [if_pos c_7] at h
        refine lv_iload_n E.hx E.hb dX7_flickers_63 rfl (lv_at hl 4 rfl) ?_
        exact w_X7_flickers_J64 E K0 (fun {_} {_} {_}  h {ls} hl => ih  h hl kx) kx P h (lv_sub hl [1, 2, 3, 5, 6, 0] rfl)
      · rw [if_neg c_7] at h
        refine lv_iload E.hx E.hb dX7_flickers_58 (lv_at hl 0 rfl) ?_
        refine lv_goto (tgt := 64) E.hx E.hb dX7_flickers_60 (by decide) ?_
        exact w_X7_flickers_J64 E K0 (fun {_} {_} {_}  h {ls} hl => ih  h hl kx) kx P h (lv_sub hl [1, 2, 3, 5, 6, 0] rfl)
def B_X7_flickers_J22  (I : Nat → Int32) (A : Nat → Nat → Int32) (x1 t0 : Int32) : Option (Int32) := (B_X7_flickers_L32 I A x1 t0 FU 100 0 0).bind fun q_9 => if t0 = 0 then some 0 else some ((q_9.2 - q_9.1))
set_option maxHeartbeats 4000000 in
set_option maxRecDepth 100000 in
theorem w_X7_flickers_J22 (E : EX p s m args meth c cX7_flickers 7 RX7 (some .int)) (K0 : KM D cyI s s.heap) (P : va_P D classes (mw cyI ad I A) s.heap) {x1 t0 : Int32} {out : Int32} (h : B_X7_flickers_J22  I A x1 t0 = some out) {ls : Array Slot} (hl : lv_has ls 7 [(0, .ref (ad 0)), (1, .int x1)]) : W p l e (rmL 0) s m args below meth c s.heap [] 0 0 (MQ below (vp_Si (fun z => z = out)) args s 0 0 (fun _ => False)) (F0 m 22 ls [.int t0]) := by
  unfold B_X7_flickers_J22 at h
  refine lv_istore_n (lv' := [(2, .int t0), (0, .ref (ad 0)), (1, .int x1)]) E.hx E.hb dX7_flickers_22 rfl hl (by decide) rfl (fun ls hl => ?_)
  refine lv_bipush (v := 100) E.hx E.hb dX7_flickers_23 (by decide) ?_
  refine lv_istore_n (lv' := [(3, .int 100), (2, .int t0), (0, .ref (ad 0)), (1, .int x1)]) E.hx E.hb dX7_flickers_25 rfl hl (by decide) rfl (fun ls hl => ?_)
  refine lv_iconst (v := 0) E.hx E.hb dX7_flickers_26 (by decide) ?_
  refine lv_istore (lv' := [(4, .int 0), (3, .int 100), (2, .int t0), (0, .ref (ad 0)), (1, .int x1)]) E.hx E.hb dX7_flickers_27 hl (by decide) rfl (fun ls hl => ?_)
  refine lv_iconst (v := 0) E.hx E.hb dX7_flickers_29 (by decide) ?_
  refine lv_istore (lv' := [(5, .int 0), (4, .int 0), (3, .int 100), (2, .int t0), (0, .ref (ad 0)), (1, .int x1)]) E.hx E.hb dX7_flickers_30 hl (by decide) rfl (fun ls hl => ?_)
  obtain ⟨q_9, e_10, h⟩ := obind h
  refine w_X7_flickers_L32 E K0 P FU e_10 (lv_sub hl [4, 5, 3, 2, 1, 0] rfl) (fun {ls} hl => ?_)
  refine lv_iload_n E.hx E.hb dX7_flickers_87 rfl (lv_at hl 0 rfl) ?_
  refine lv_if_ne (tgt := 95) E.hx E.hb dX7_flickers_88 (by decide) (fun c_11 => ?_) (fun c_11 => ?_)
  · rw [if_neg c_11] at h
    refine lv_iload E.hx E.hb dX7_flickers_95 (lv_at hl 2 rfl) ?_
    refine lv_iload_n E.hx E.hb dX7_flickers_97 rfl (lv_at hl 1 rfl) ?_
    refine lv_isub E.hx E.hb dX7_flickers_98 ?_
    exact W.iret E.hx E.hb E.hr (fun t ht _ => ⟨_, rfl, (Option.some.inj h), ht⟩) (fun q hq => nomatch hq) dX7_flickers_99 E.hk
  · rw [if_pos c_11] at h
    refine lv_iconst (v := 0) E.hx E.hb dX7_flickers_91 (by decide) ?_
    refine lv_goto (tgt := 99) E.hx E.hb dX7_flickers_92 (by decide) ?_
    exact W.iret E.hx E.hb E.hr (fun t ht _ => ⟨_, rfl, (Option.some.inj h), ht⟩) (fun q hq => nomatch hq) dX7_flickers_99 E.hk
def B_X7_flickers (I : Nat → Int32) (A : Nat → Nat → Int32) (x1 : Int32) : Option (Int32) := (rd (A 8) 8 x1).bind fun v_1 => if 8 ≤ v_1 then B_X7_flickers_J22  I A x1 8 else ((rd (A 8) 8 x1).bind fun v_12 => B_X7_flickers_J22  I A x1 v_12)
set_option maxHeartbeats 4000000 in
set_option maxRecDepth 100000 in
theorem w_X7_flickers (E : EX p s m args meth c cX7_flickers 7 RX7 (some .int)) (K0 : KM D cyI s s.heap) (P : va_P D classes (mw cyI ad I A) s.heap)  {x1 : Int32} {out : Int32} (h : B_X7_flickers I A x1 = some out) {ls : Array Slot} (hl : lv_has ls 7 [(0, .ref (ad 0)), (1, .int x1)]) : W p l e (rmL 0) s m args below meth c s.heap [] 0 0 (MQ below (vp_Si (fun z => z = out)) args s 0 0 (fun _ => False)) (F0 m 0 ls []) := by
  unfold B_X7_flickers at h
  refine lv_aload_n E.hx E.hb dX7_flickers_0 rfl (lv_at hl 0 rfl) ?_
  refine gf_X7_47 E K0 P dX7_flickers_1 ?_
  refine lv_iload_n E.hx E.hb dX7_flickers_4 rfl (lv_at hl 1 rfl) ?_
  obtain ⟨v_1, e_2, h⟩ := obind h
  refine al_8 E K0 P e_2 dX7_flickers_5 ?_
  refine lv_bipush (v := 8) E.hx E.hb dX7_flickers_6 (by decide) ?_
  refine lv_icmp_ge (tgt := 20) E.hx E.hb dX7_flickers_8 (by decide) (fun c_3 => ?_) (fun c_3 => ?_)
  · rw [if_pos c_3] at h
    refine lv_bipush (v := 8) E.hx E.hb dX7_flickers_20 (by decide) ?_
    exact w_X7_flickers_J22 E K0 P h (lv_sub hl [0, 1] rfl)
  · rw [if_neg c_3] at h
    refine lv_aload_n E.hx E.hb dX7_flickers_11 rfl (lv_at hl 0 rfl) ?_
    refine gf_X7_47 E K0 P dX7_flickers_12 ?_
    refine lv_iload_n E.hx E.hb dX7_flickers_15 rfl (lv_at hl 1 rfl) ?_
    obtain ⟨v_12, e_13, h⟩ := obind h
    refine al_8 E K0 P e_13 dX7_flickers_16 ?_
    refine lv_goto (tgt := 22) E.hx E.hb dX7_flickers_17 (by decide) ?_
    exact w_X7_flickers_J22 E K0 P h (lv_sub hl [0, 1] rfl)
theorem c_X7_flickers (l : Launch) {H : Heap} {D : va_G} {cyI : ClassId} {ad : Nat → Nat} {I : Nat → Int32} {A : Nat → Nat → Int32} (P : va_P D classes (mw cyI ad I A) H) (x1 : Int32) {out : Int32} (h : B_X7_flickers I A x1 = some out) : MRO l yX7_flickers cX7_flickers 7 (some .int) 0 [.ref (ad 0), .int x1] H (KM D cyI) out := by
  refine Mof (own := RX7) (by decide +kernel) rfl rfl ?_
  intro p e s m args below meth c ls E hH K0 hl
  subst hH
  exact w_X7_flickers E K0 P h hl
theorem ds_X7_flickers : Dsc yX7_flickers 1 := ⟨by decide +kernel, by decide +kernel, by decide +kernel⟩
end
section
variable {p : Program} {l : Launch} {e : Env} {s : State} {m : MethodId} {args : Array Value} {below : List Frame} {meth : Method} {c : Code} {D : va_G} {cyI : ClassId} {ad : Nat → Nat} {I : Nat → Int32} {A : Nat → Nat → Int32}
def B_X7_isGood_J93 (k : Int32 → Option ((Unit) ⊕ Int32)) (I : Nat → Int32) (A : Nat → Nat → Int32) (x1 x2 x3 t0 : Int32) : Option ((Unit) ⊕ Int32) := if t0 = 0 then k (x3 + 1) else ((B_X7_windingAt I A x3 x2).bind fun r_7 => if r_7 = 0 then k (x3 + 1) else some (.inr 0))
set_option maxHeartbeats 4000000 in
set_option maxRecDepth 100000 in
theorem w_X7_isGood_J93 (E : EX p s m args meth c cX7_isGood 5 RX7 (some .boolean)) (K0 : KM D cyI s s.heap) {x1 x2 x3 t0 : Int32} {k : Int32 → Option ((Unit) ⊕ Int32)} {o : (Unit) ⊕ Int32} {out : Int32} (hk : ∀ {x3 : Int32} (_ : k x3 = some o) {ls : Array Slot}, lv_has ls 5 [(0, .ref (ad 0)), (1, .int x1), (2, .int x2), (3, .int x3)] → W p l e (rmL 3) s m args below meth c s.heap [] 0 0 (MQ below (vp_Si (fun z => z = out)) args s 0 0 (fun _ => False)) (F0 m 14 ls [])) (kx : ∀ {q : Unit}, o = .inl q → ∀ {ls : Array Slot}, lv_has ls 5 [(0, .ref (ad 0)), (1, .int x1), (2, .int x2)] → W p l e (rmL 3) s m args below meth c s.heap [] 0 0 (MQ below (vp_Si (fun z => z = out)) args s 0 0 (fun _ => False)) (F0 m 117 ls [])) (kr : ∀ r : Int32, o = .inr r → r = out) (P : va_P D classes (mw cyI ad I A) s.heap) (h : B_X7_isGood_J93 k I A x1 x2 x3 t0 = some o) {ls : Array Slot} (hl : lv_has ls 5 [(0, .ref (ad 0)), (1, .int x1), (2, .int x2), (3, .int x3)]) : W p l e (rmL 3) s m args below meth c s.heap [] 0 0 (MQ below (vp_Si (fun z => z = out)) args s 0 0 (fun _ => False)) (F0 m 93 ls [.int t0]) := by
  unfold B_X7_isGood_J93 at h
  refine lv_istore (lv' := [(4, .int t0), (0, .ref (ad 0)), (1, .int x1), (2, .int x2), (3, .int x3)]) E.hx E.hb dX7_isGood_93 hl (by decide) rfl (fun ls hl => ?_)
  refine lv_iload E.hx E.hb dX7_isGood_95 (lv_at hl 0 rfl) ?_
  refine lv_if_eq (tgt := 111) E.hx E.hb dX7_isGood_97 (by decide) (fun c_6 => ?_) (fun c_6 => ?_)
  · rw [if_pos c_6] at h
    refine lv_iinc (v := x3 + 1) (lv' := [(3, .int (x3 + 1)), (4, .int t0), (0, .ref (ad 0)), (1, .int x1), (2, .int x2)]) E.hx E.hb dX7_isGood_111 hl (k := 4) rfl rfl (by decide) rfl (fun ls hl => ?_)
    refine lv_goto (tgt := 14) E.hx E.hb dX7_isGood_114 (by decide) ?_
    exact hk  h (lv_sub hl [2, 3, 4, 0] rfl)
  · rw [if_neg c_6] at h
    refine lv_aload_n E.hx E.hb dX7_isGood_100 rfl (lv_at hl 1 rfl) ?_
    refine lv_iload_n E.hx E.hb dX7_isGood_101 rfl (lv_at hl 4 rfl) ?_
    refine lv_iload_n E.hx E.hb dX7_isGood_102 rfl (lv_at hl 3 rfl) ?_
    obtain ⟨r_7, e_8, h⟩ := obind h
    refine iv_X7_167 (ad := ad) E K0 P va_S.rf e_8 (by decide) hl.1 (Nat.le_of_ble_eq_true rfl) dX7_isGood_103 ?_
    refine lv_if_eq (tgt := 111) E.hx E.hb dX7_isGood_106 (by decide) (fun c_9 => ?_) (fun c_9 => ?_)
    · rw [if_pos c_9] at h
      refine lv_iinc (v := x3 + 1) (lv' := [(3, .int (x3 + 1)), (4, .int t0), (0, .ref (ad 0)), (1, .int x1), (2, .int x2)]) E.hx E.hb dX7_isGood_111 hl (k := 4) rfl rfl (by decide) rfl (fun ls hl => ?_)
      refine lv_goto (tgt := 14) E.hx E.hb dX7_isGood_114 (by decide) ?_
      exact hk  h (lv_sub hl [2, 3, 4, 0] rfl)
    · rw [if_neg c_9] at h
      refine lv_iconst (v := 0) E.hx E.hb dX7_isGood_109 (by decide) ?_
      exact W.zret E.hx E.hb E.hr rfl (fun t ht _ => ⟨_, rfl, (kr _ (Option.some.inj h).symm), ht⟩) (fun q hq => nomatch hq) dX7_isGood_110 E.hk
def B_X7_isGood_J88 (k : Int32 → Option ((Unit) ⊕ Int32)) (I : Nat → Int32) (A : Nat → Nat → Int32) (x1 x2 x3 : Int32) : Option ((Unit) ⊕ Int32) := B_X7_isGood_J93 k I A x1 x2 x3 1
set_option maxHeartbeats 4000000 in
set_option maxRecDepth 100000 in
theorem w_X7_isGood_J88 (E : EX p s m args meth c cX7_isGood 5 RX7 (some .boolean)) (K0 : KM D cyI s s.heap) {x1 x2 x3 : Int32} {k : Int32 → Option ((Unit) ⊕ Int32)} {o : (Unit) ⊕ Int32} {out : Int32} (hk : ∀ {x3 : Int32} (_ : k x3 = some o) {ls : Array Slot}, lv_has ls 5 [(0, .ref (ad 0)), (1, .int x1), (2, .int x2), (3, .int x3)] → W p l e (rmL 3) s m args below meth c s.heap [] 0 0 (MQ below (vp_Si (fun z => z = out)) args s 0 0 (fun _ => False)) (F0 m 14 ls [])) (kx : ∀ {q : Unit}, o = .inl q → ∀ {ls : Array Slot}, lv_has ls 5 [(0, .ref (ad 0)), (1, .int x1), (2, .int x2)] → W p l e (rmL 3) s m args below meth c s.heap [] 0 0 (MQ below (vp_Si (fun z => z = out)) args s 0 0 (fun _ => False)) (F0 m 117 ls [])) (kr : ∀ r : Int32, o = .inr r → r = out) (P : va_P D classes (mw cyI ad I A) s.heap) (h : B_X7_isGood_J88 k I A x1 x2 x3 = some o) {ls : Array Slot} (hl : lv_has ls 5 [(0, .ref (ad 0)), (1, .int x1), (2, .int x2), (3, .int x3)]) : W p l e (rmL 3) s m args below meth c s.heap [] 0 0 (MQ below (vp_Si (fun z => z = out)) args s 0 0 (fun _ => False)) (F0 m 88 ls []) := by
  unfold B_X7_isGood_J88 at h
  refine lv_iconst (v := 1) E.hx E.hb dX7_isGood_88 (by decide) ?_
  refine lv_goto (tgt := 93) E.hx E.hb dX7_isGood_89 (by decide) ?_
  exact w_X7_isGood_J93 E K0 hk kx kr P h (lv_sub hl [0, 1, 2, 3] rfl)
def B_X7_isGood_L14 (I : Nat → Int32) (A : Nat → Nat → Int32) (x1 x2 : Int32) : Nat → Int32 → Option ((Unit) ⊕ Int32)
  | 0 => fun _ => none
  | n + 1 => fun x3 => if ((I 1) - 1) ≤ x3 then some (.inl ()) else ((rd (A 4) 144 ((B_X7_cell x3 x2))).bind fun v_3 => if v_3 = x1 then B_X7_isGood_J88 ((B_X7_isGood_L14 I A x1 x2 n)) I A x1 x2 x3 else ((rd (A 4) 144 ((B_X7_cell ((x3 + 1)) x2))).bind fun v_10 => if v_10 = x1 then B_X7_isGood_J88 ((B_X7_isGood_L14 I A x1 x2 n)) I A x1 x2 x3 else ((rd (A 4) 144 ((B_X7_cell x3 ((x2 + 1))))).bind fun v_13 => if v_13 = x1 then B_X7_isGood_J88 ((B_X7_isGood_L14 I A x1 x2 n)) I A x1 x2 x3 else ((rd (A 4) 144 ((B_X7_cell ((x3 + 1)) ((x2 + 1))))).bind fun v_16 => if v_16 = x1 then B_X7_isGood_J88 ((B_X7_isGood_L14 I A x1 x2 n)) I A x1 x2 x3 else B_X7_isGood_J93 ((B_X7_isGood_L14 I A x1 x2 n)) I A x1 x2 x3 0))))
theorem B_X7_isGood_L14_s (I : Nat → Int32) (A : Nat → Nat → Int32) (x1 x2 x3 : Int32) (n : Nat) : B_X7_isGood_L14 I A x1 x2 (n + 1) x3 = if ((I 1) - 1) ≤ x3 then some (.inl ()) else ((rd (A 4) 144 ((B_X7_cell x3 x2))).bind fun v_3 => if v_3 = x1 then B_X7_isGood_J88 ((B_X7_isGood_L14 I A x1 x2 n)) I A x1 x2 x3 else ((rd (A 4) 144 ((B_X7_cell ((x3 + 1)) x2))).bind fun v_10 => if v_10 = x1 then B_X7_isGood_J88 ((B_X7_isGood_L14 I A x1 x2 n)) I A x1 x2 x3 else ((rd (A 4) 144 ((B_X7_cell x3 ((x2 + 1))))).bind fun v_13 => if v_13 = x1 then B_X7_isGood_J88 ((B_X7_isGood_L14 I A x1 x2 n)) I A x1 x2 x3 else ((rd (A 4) 144 ((B_X7_cell ((x3 + 1)) ((x2 + 1))))).bind fun v_16 => if v_16 = x1 then B_X7_isGood_J88 ((B_X7_isGood_L14 I A x1 x2 n)) I A x1 x2 x3 else B_X7_isGood_J93 ((B_X7_isGood_L14 I A x1 x2 n)) I A x1 x2 x3 0)))) := rfl
set_option maxHeartbeats 4000000 in
set_option maxRecDepth 100000 in
theorem w_X7_isGood_L14 (E : EX p s m args meth c cX7_isGood 5 RX7 (some .boolean)) (K0 : KM D cyI s s.heap) (P : va_P D classes (mw cyI ad I A) s.heap) {x1 x2 : Int32} {out : Int32} : ∀ (n : Nat) {x3 : Int32} {o : (Unit) ⊕ Int32} (h : B_X7_isGood_L14 I A x1 x2 n x3 = some o) {ls : Array Slot} (hl : lv_has ls 5 [(0, .ref (ad 0)), (1, .int x1), (2, .int x2), (3, .int x3)]) (kx : ∀ {q : Unit}, o = .inl q → ∀ {ls : Array Slot}, lv_has ls 5 [(0, .ref (ad 0)), (1, .int x1), (2, .int x2)] → W p l e (rmL 3) s m args below meth c s.heap [] 0 0 (MQ below (vp_Si (fun z => z = out)) args s 0 0 (fun _ => False)) (F0 m 117 ls [])) (kr : ∀ r : Int32, o = .inr r → r = out), W p l e (rmL 3) s m args below meth c s.heap [] 0 0 (MQ below (vp_Si (fun z => z = out)) args s 0 0 (fun _ => False)) (F0 m 14 ls []) := by
  intro n
  induction n with
  | zero => intro x3 o h ls hl kx kr; exact nomatch (show none = some o from h)
  | succ n ih =>
    intro x3 o h ls hl kx kr
    rw [B_X7_isGood_L14_s] at h
    refine lv_iload_n E.hx E.hb dX7_isGood_14 rfl (lv_at hl 3 rfl) ?_
    refine lv_aload_n E.hx E.hb dX7_isGood_15 rfl (lv_at hl 0 rfl) ?_
    refine gf_X7_7 E K0 P dX7_isGood_16 ?_
    refine lv_iconst (v := 1) E.hx E.hb dX7_isGood_19 (by decide) ?_
    refine lv_isub E.hx E.hb dX7_isGood_20 ?_
    refine lv_icmp_ge (tgt := 117) E.hx E.hb dX7_isGood_21 (by decide) (fun c_2 => ?_) (fun c_2 => ?_)
    · rw [if_pos c_2] at h
      cases h
      exact kx rfl  (lv_sub hl [0, 1, 2] rfl)
    · rw [if_neg c_2] at h
      refine lv_aload_n E.hx E.hb dX7_isGood_24 rfl (lv_at hl 0 rfl) ?_
      refine gf_X7_35 E K0 P dX7_isGood_25 ?_
      refine lv_iload_n E.hx E.hb dX7_isGood_28 rfl (lv_at hl 3 rfl) ?_
      refine lv_iload_n E.hx E.hb dX7_isGood_29 rfl (lv_at hl 2 rfl) ?_
      refine iv_X7_100 (ad := ad) E K0 va_S.rf (by decide) hl.1 (Nat.le_of_ble_eq_true rfl) dX7_isGood_30 ?_
      obtain ⟨v_3, e_4, h⟩ := obind h
      refine al_4 E K0 P e_4 dX7_isGood_33 ?_
      refine lv_iload_n E.hx E.hb dX7_isGood_34 rfl (lv_at hl 1 rfl) ?_
      refine lv_icmp_eq (tgt := 88) E.hx E.hb dX7_isGood_35 (by decide) (fun c_5 => ?_) (fun c_5 => ?_)
      · rw [if_pos c_5] at h
        exact w_X7_isGood_J88 E K0 (fun {_}  h {ls} hl => ih  h hl kx kr) kx kr P h (lv_sub hl [0, 1, 2, 3] rfl)
      · rw [if_neg c_5] at h
        refine lv_aload_n E.hx E.hb dX7_isGood_38 rfl (lv_at hl 0 rfl) ?_
        refine gf_X7_35 E K0 P dX7_isGood_39 ?_
        refine lv_iload_n E.hx E.hb dX7_isGood_42 rfl (lv_at hl 3 rfl) ?_
        refine lv_iconst (v := 1) E.hx E.hb dX7_isGood_43 (by decide) ?_
        refine lv_iadd E.hx E.hb dX7_isGood_44 ?_
        refine lv_iload_n E.hx E.hb dX7_isGood_45 rfl (lv_at hl 2 rfl) ?_
        refine iv_X7_100 (ad := ad) E K0 va_S.rf (by decide) hl.1 (Nat.le_of_ble_eq_true rfl) dX7_isGood_46 ?_
        obtain ⟨v_10, e_11, h⟩ := obind h
        refine al_4 E K0 P e_11 dX7_isGood_49 ?_
        refine lv_iload_n E.hx E.hb dX7_isGood_50 rfl (lv_at hl 1 rfl) ?_
        refine lv_icmp_eq (tgt := 88) E.hx E.hb dX7_isGood_51 (by decide) (fun c_12 => ?_) (fun c_12 => ?_)
        · rw [if_pos c_12] at h
          exact w_X7_isGood_J88 E K0 (fun {_}  h {ls} hl => ih  h hl kx kr) kx kr P h (lv_sub hl [0, 1, 2, 3] rfl)
        · rw [if_neg c_12] at h
          refine lv_aload_n E.hx E.hb dX7_isGood_54 rfl (lv_at hl 0 rfl) ?_
          refine gf_X7_35 E K0 P dX7_isGood_55 ?_
          refine lv_iload_n E.hx E.hb dX7_isGood_58 rfl (lv_at hl 3 rfl) ?_
          refine lv_iload_n E.hx E.hb dX7_isGood_59 rfl (lv_at hl 2 rfl) ?_
          refine lv_iconst (v := 1) E.hx E.hb dX7_isGood_60 (by decide) ?_
          refine lv_iadd E.hx E.hb dX7_isGood_61 ?_
          refine iv_X7_100 (ad := ad) E K0 va_S.rf (by decide) hl.1 (Nat.le_of_ble_eq_true rfl) dX7_isGood_62 ?_
          obtain ⟨v_13, e_14, h⟩ := obind h
          refine al_4 E K0 P e_14 dX7_isGood_65 ?_
          refine lv_iload_n E.hx E.hb dX7_isGood_66 rfl (lv_at hl 1 rfl) ?_
          refine lv_icmp_eq (tgt := 88) E.hx E.hb dX7_isGood_67 (by decide) (fun c_15 => ?_) (fun c_15 => ?_)
          · rw [if_pos c_15] at h
            exact w_X7_isGood_J88 E K0 (fun {_}  h {ls} hl => ih  h hl kx kr) kx kr P h (lv_sub hl [0, 1, 2, 3] rfl)
          · rw [if_neg c_15] at h
            refine lv_aload_n E.hx E.hb dX7_isGood_70 rfl (lv_at hl 0 rfl) ?_
            refine gf_X7_35 E K0 P dX7_isGood_71 ?_
            refine lv_iload_n E.hx E.hb dX7_isGood_74 rfl (lv_at hl 3 rfl) ?_
            refine lv_iconst (v := 1) E.hx E.hb dX7_isGood_75 (by decide) ?_
            refine lv_iadd E.hx E.hb dX7_isGood_76 ?_
            refine lv_iload_n E.hx E.hb dX7_isGood_77 rfl (lv_at hl 2 rfl) ?_
            refine lv_iconst (v := 1) E.hx E.hb dX7_isGood_78 (by decide) ?_
            refine lv_iadd E.hx E.hb dX7_isGood_79 ?_
            refine iv_X7_100 (ad := ad) E K0 va_S.rf (by decide) hl.1 (Nat.le_of_ble_eq_true rfl) dX7_isGood_80 ?_
            obtain ⟨v_16, e_17, h⟩ := obind h
            refine al_4 E K0 P e_17 dX7_isGood_83 ?_
            refine lv_iload_n E.hx E.hb dX7_isGood_84 rfl (lv_at hl 1 rfl) ?_
            refine lv_icmp_ne (tgt := 92) E.hx E.hb dX7_isGood_85 (by decide) (fun c_18 => ?_) (fun c_18 => ?_)
            · rw [if_neg c_18] at h
              refine lv_iconst (v := 0) E.hx E.hb dX7_isGood_92 (by decide) ?_
              exact w_X7_isGood_J93 E K0 (fun {_}  h {ls} hl => ih  h hl kx kr) kx kr P h (lv_sub hl [0, 1, 2, 3] rfl)
            · rw [if_pos c_18] at h
              exact w_X7_isGood_J88 E K0 (fun {_}  h {ls} hl => ih  h hl kx kr) kx kr P h (lv_sub hl [0, 1, 2, 3] rfl)
def B_X7_isGood_L2 (I : Nat → Int32) (A : Nat → Nat → Int32) (x1 : Int32) : Nat → Int32 → Option ((Unit) ⊕ Int32)
  | 0 => fun _ => none
  | n + 1 => fun x2 => if ((I 2) - 1) ≤ x2 then some (.inl ()) else ((B_X7_isGood_L14 I A x1 x2 FU 0).bind fun q_19 => match q_19 with | .inr r => some (.inr r) | .inl q_19v => (B_X7_isGood_L2 I A x1 n) (x2 + 1))
theorem B_X7_isGood_L2_s (I : Nat → Int32) (A : Nat → Nat → Int32) (x1 x2 : Int32) (n : Nat) : B_X7_isGood_L2 I A x1 (n + 1) x2 = if ((I 2) - 1) ≤ x2 then some (.inl ()) else ((B_X7_isGood_L14 I A x1 x2 FU 0).bind fun q_19 => match q_19 with | .inr r => some (.inr r) | .inl q_19v => (B_X7_isGood_L2 I A x1 n) (x2 + 1)) := rfl
set_option maxHeartbeats 4000000 in
set_option maxRecDepth 100000 in
theorem w_X7_isGood_L2 (E : EX p s m args meth c cX7_isGood 5 RX7 (some .boolean)) (K0 : KM D cyI s s.heap) (P : va_P D classes (mw cyI ad I A) s.heap) {x1 : Int32} {out : Int32} : ∀ (n : Nat) {x2 : Int32} {o : (Unit) ⊕ Int32} (h : B_X7_isGood_L2 I A x1 n x2 = some o) {ls : Array Slot} (hl : lv_has ls 5 [(0, .ref (ad 0)), (1, .int x1), (2, .int x2)]) (kx : ∀ {q : Unit}, o = .inl q → ∀ {ls : Array Slot}, lv_has ls 5 [] → W p l e (rmL 3) s m args below meth c s.heap [] 0 0 (MQ below (vp_Si (fun z => z = out)) args s 0 0 (fun _ => False)) (F0 m 123 ls [])) (kr : ∀ r : Int32, o = .inr r → r = out), W p l e (rmL 3) s m args below meth c s.heap [] 0 0 (MQ below (vp_Si (fun z => z = out)) args s 0 0 (fun _ => False)) (F0 m 2 ls []) := by
  intro n
  induction n with
  | zero => intro x2 o h ls hl kx kr; exact nomatch (show none = some o from h)
  | succ n ih =>
    intro x2 o h ls hl kx kr
    rw [B_X7_isGood_L2_s] at h
    refine lv_iload_n E.hx E.hb dX7_isGood_2 rfl (lv_at hl 2 rfl) ?_
    refine lv_aload_n E.hx E.hb dX7_isGood_3 rfl (lv_at hl 0 rfl) ?_
    refine gf_X7_13 E K0 P dX7_isGood_4 ?_
    refine lv_iconst (v := 1) E.hx E.hb dX7_isGood_7 (by decide) ?_
    refine lv_isub E.hx E.hb dX7_isGood_8 ?_
    refine lv_icmp_ge (tgt := 123) E.hx E.hb dX7_isGood_9 (by decide) (fun c_1 => ?_) (fun c_1 => ?_)
    · rw [if_pos c_1] at h
      cases h
      exact kx rfl  (lv_sub hl [] rfl)
    · rw [if_neg c_1] at h
      refine lv_iconst (v := 0) E.hx E.hb dX7_isGood_12 (by decide) ?_
      refine lv_istore_n (lv' := [(3, .int 0), (0, .ref (ad 0)), (1, .int x1), (2, .int x2)]) E.hx E.hb dX7_isGood_13 rfl hl (by decide) rfl (fun ls hl => ?_)
      obtain ⟨q_19, e_20, h⟩ := obind h
      refine w_X7_isGood_L14 E K0 P FU e_20 (lv_sub hl [1, 2, 3, 0] rfl) (fun {q_19v} hq {ls} hl => ?_) (fun r hr => by subst hr; exact kr r (Option.some.inj h).symm)
      subst hq
      dsimp only at h
      refine lv_iinc (v := x2 + 1) (lv' := [(2, .int (x2 + 1)), (0, .ref (ad 0)), (1, .int x1)]) E.hx E.hb dX7_isGood_117 hl (k := 2) rfl rfl (by decide) rfl (fun ls hl => ?_)
      refine lv_goto (tgt := 2) E.hx E.hb dX7_isGood_120 (by decide) ?_
      exact ih  h (lv_sub hl [1, 2, 0] rfl) kx kr
def B_X7_isGood (I : Nat → Int32) (A : Nat → Nat → Int32) (x1 : Int32) : Option (Int32) := (B_X7_isGood_L2 I A x1 FU 0).bind fun q_21 => match q_21 with | .inr r => some r | .inl q_21v => some 1
set_option maxHeartbeats 4000000 in
set_option maxRecDepth 100000 in
theorem w_X7_isGood (E : EX p s m args meth c cX7_isGood 5 RX7 (some .boolean)) (K0 : KM D cyI s s.heap) (P : va_P D classes (mw cyI ad I A) s.heap)  {x1 : Int32} {out : Int32} (h : B_X7_isGood I A x1 = some out) {ls : Array Slot} (hl : lv_has ls 5 [(0, .ref (ad 0)), (1, .int x1)]) : W p l e (rmL 3) s m args below meth c s.heap [] 0 0 (MQ below (vp_Si (fun z => z = out)) args s 0 0 (fun _ => False)) (F0 m 0 ls []) := by
  unfold B_X7_isGood at h
  refine lv_iconst (v := 0) E.hx E.hb dX7_isGood_0 (by decide) ?_
  refine lv_istore_n (lv' := [(2, .int 0), (0, .ref (ad 0)), (1, .int x1)]) E.hx E.hb dX7_isGood_1 rfl hl (by decide) rfl (fun ls hl => ?_)
  obtain ⟨q_21, e_22, h⟩ := obind h
  refine w_X7_isGood_L2 E K0 P FU e_22 (lv_sub hl [1, 2, 0] rfl) (fun {q_21v} hq {ls} hl => ?_) (fun r hr => by subst hr; exact Option.some.inj h)
  subst hq
  dsimp only at h
  refine lv_iconst (v := 1) E.hx E.hb dX7_isGood_123 (by decide) ?_
  exact W.zret E.hx E.hb E.hr rfl (fun t ht _ => ⟨_, rfl, (Option.some.inj h), ht⟩) (fun q hq => nomatch hq) dX7_isGood_124 E.hk
theorem c_X7_isGood (l : Launch) {H : Heap} {D : va_G} {cyI : ClassId} {ad : Nat → Nat} {I : Nat → Int32} {A : Nat → Nat → Int32} (P : va_P D classes (mw cyI ad I A) H) (x1 : Int32) {out : Int32} (h : B_X7_isGood I A x1 = some out) : MRO l yX7_isGood cX7_isGood 5 (some .boolean) 3 [.ref (ad 0), .int x1] H (KM D cyI) out := by
  refine Mof (own := RX7) (by decide +kernel) rfl rfl ?_
  intro p e s m args below meth c ls E hH K0 hl
  subst hH
  exact w_X7_isGood E K0 P h hl
theorem ds_X7_isGood : Dsc yX7_isGood 1 := ⟨by decide +kernel, by decide +kernel, by decide +kernel⟩
end
section
variable {p : Program} {l : Launch} {e : Env} {R : Room} {s : State} {m : MethodId} {args : Array Value} {below : List Frame} {meth : Method} {c : Code} {H : Heap} {locs : List Loc} {cells slots : Nat} {Q : State → Prop} {cc : ByteArray} {nL pc : Nat} {ret : Option FieldType} {ls : Array Slot} {rest : List Value} {D : va_G} {cyI : ClassId} {ad : Nat → Nat} {I : Nat → Int32} {A : Nat → Nat → Int32}
theorem iv_X7_174 (E : EX p s m args meth c cc nL RX7 ret) (K0 : KM D cyI s s.heap) (P : va_P D classes (mw cyI ad I A) H) (S : va_S (InN 16 ad) s.heap H locs) {a0 : Int32} {v : Int32} (hv : B_X7_flickers I A a0 = some v) (hR : RmOk R cells slots 0 7) (hls : ls.size = nL) (hro : (rest.map fun v => v.category).sum ≤ 8) (hdg : decode cc pc = .ok (.invokevirtual 174, 3)) (kk : W p l e R s m args below meth c H locs cells slots Q (F0 m (pc + 3) ls (.int v :: rest))) : W p l e R s m args below meth c H locs cells slots Q (F0 m pc ls (.int a0 :: .ref (ad 0) :: rest)) :=
  cv_ro E (c_X7_flickers l P a0 hv) (gV kML_X7_174 kIM_X7_flickers kSE_X7_flickers kIN_X7 kCO_X7_flickers) rfl ds_X7_flickers rfl KM_blind (fun U _ hW => KM.warm hW K0) (va_recv K0.k P (show classes[7]? = some (RX7, TX7, 27) from rfl) mw_g0) hR hls rfl hro hdg kk
end
section
variable {p : Program} {l : Launch} {e : Env} {R : Room} {s : State} {m : MethodId} {args : Array Value} {below : List Frame} {meth : Method} {c : Code} {H : Heap} {locs : List Loc} {cells slots : Nat} {Q : State → Prop} {cc : ByteArray} {nL pc : Nat} {ret : Option FieldType} {ls : Array Slot} {rest : List Value} {D : va_G} {cyI : ClassId} {ad : Nat → Nat} {I : Nat → Int32} {A : Nat → Nat → Int32}
theorem iv_X7_177 (E : EX p s m args meth c cc nL RX7 ret) (K0 : KM D cyI s s.heap) (P : va_P D classes (mw cyI ad I A) H) (S : va_S (InN 16 ad) s.heap H locs) {a0 : Int32} {v : Int32} (hv : B_X7_isGood I A a0 = some v) (hR : RmOk R cells slots 3 5) (hls : ls.size = nL) (hro : (rest.map fun v => v.category).sum ≤ 8) (hdg : decode cc pc = .ok (.invokevirtual 177, 3)) (kk : W p l e R s m args below meth c H locs cells slots Q (F0 m (pc + 3) ls (.int v :: rest))) : W p l e R s m args below meth c H locs cells slots Q (F0 m pc ls (.int a0 :: .ref (ad 0) :: rest)) :=
  cv_ro E (c_X7_isGood l P a0 hv) (gV kML_X7_177 kIM_X7_isGood kSE_X7_isGood kIN_X7 kCO_X7_isGood) rfl ds_X7_isGood rfl KM_blind (fun U _ hW => KM.warm hW K0) (va_recv K0.k P (show classes[7]? = some (RX7, TX7, 27) from rfl) mw_g0) hR hls rfl hro hdg kk
end
section
variable {p : Program} {l : Launch} {e : Env} {s : State} {m : MethodId} {args : Array Value} {below : List Frame} {meth : Method} {c : Code} {D : va_G} {cyI : ClassId} {ad : Nat → Nat} {I : Nat → Int32} {A : Nat → Nat → Int32}
def B_X7_ofPixel (I : Nat → Int32) (A : Nat → Nat → Int32) (x1 x2 : Int32) : Option (Int32 × (Nat → Int32) × (Nat → Nat → Int32)) := if (B_X7_isPixel ((va_up I 0 0)) A x1) = 0 then ((B_X7_stop ((va_up I 0 0)) A 1).bind fun q_20 => some (q_20.1, q_20.2.1, q_20.2.2)) else (if (B_X7_in x2 0 4) = 0 then ((B_X7_stop ((va_up I 0 0)) A 2).bind fun q_18 => some (q_18.1, q_18.2.1, q_18.2.2)) else (if x2 = 0 then ((B_X7_greyOfPixel ((va_up I 0 0)) A x1).bind fun r_4 => some (r_4, (va_up I 0 0), A)) else if x2 = 1 then ((B_X7_flickers ((va_up I 0 0)) A x1).bind fun r_7 => some (r_7, (va_up I 0 0), A)) else if x2 = 2 then ((B_X7_isGood ((va_up I 0 0)) A x1).bind fun r_10 => if r_10 = 0 then some (0, (va_up I 0 0), A) else some (1, (va_up I 0 0), A)) else if x2 = 3 then ((rd (A 5) 8 x1).bind fun v_14 => some (v_14, (va_up I 0 0), A)) else (rd (A 6) 8 x1).bind fun v_16 => some (v_16, (va_up I 0 0), A)))
set_option maxHeartbeats 4000000 in
set_option maxRecDepth 100000 in
theorem w_X7_ofPixel (E : EX p s m args meth c cX7_ofPixel 3 RX7 (some .int)) (K0 : KM D cyI s s.heap) (N : AdN 16 ad) {H : Heap} {locs : List Loc} (P : va_P D classes (mw cyI ad I A) H) (S : va_S (InN 16 ad) s.heap H locs)  {x1 x2 : Int32} {out : Int32 × (Nat → Int32) × (Nat → Nat → Int32)} (h : B_X7_ofPixel I A x1 x2 = some out) {ls : Array Slot} (hl : lv_has ls 3 [(0, .ref (ad 0)), (1, .int x1), (2, .int x2)]) : W p l e (rmL 4) s m args below meth c H locs 0 0 (MQ below (Qrw (InN 16 ad) (some (.int out.1)) (fun H1 => va_P D classes (mw cyI ad out.2.1 out.2.2) H1)) args s 0 0 (InN 16 ad)) (F0 m 0 ls []) := by
  unfold B_X7_ofPixel at h
  refine lv_aload_n E.hx E.hb dX7_ofPixel_0 rfl (lv_at hl 0 rfl) ?_
  refine lv_iconst (v := 0) E.hx E.hb dX7_ofPixel_1 (by decide) ?_
  refine pf_X7_89 E N K0 P S dX7_ofPixel_2 (fun H locs P S => ?_)
  refine lv_aload_n E.hx E.hb dX7_ofPixel_5 rfl (lv_at hl 0 rfl) ?_
  refine lv_iload_n E.hx E.hb dX7_ofPixel_6 rfl (lv_at hl 1 rfl) ?_
  refine iv_X7_133 (ad := ad) E K0 P S (by decide) hl.1 (Nat.le_of_ble_eq_true rfl) dX7_ofPixel_7 ?_
  refine lv_if_ne (tgt := 19) E.hx E.hb dX7_ofPixel_10 (by decide) (fun c_1 => ?_) (fun c_1 => ?_)
  · rw [if_neg c_1] at h
    refine lv_iload_n E.hx E.hb dX7_ofPixel_19 rfl (lv_at hl 2 rfl) ?_
    refine lv_iconst (v := 0) E.hx E.hb dX7_ofPixel_20 (by decide) ?_
    refine lv_iconst (v := 4) E.hx E.hb dX7_ofPixel_21 (by decide) ?_
    refine iv_X7_92 (ad := ad) E K0 S (by decide) hl.1 (Nat.le_of_ble_eq_true rfl) dX7_ofPixel_22 ?_
    refine lv_if_ne (tgt := 34) E.hx E.hb dX7_ofPixel_25 (by decide) (fun c_2 => ?_) (fun c_2 => ?_)
    · rw [if_neg c_2] at h
      refine lv_iload_n E.hx E.hb dX7_ofPixel_34 rfl (lv_at hl 2 rfl) ?_
      by_cases c_3 : x2 = 0
      · rw [if_pos c_3] at h
        refine lv_tableIn (off := 29) (tgt := 64) E.hx E.hb dX7_ofPixel_35 (by rw [c_3]; decide) (by rw [c_3]; decide) (by rw [c_3]; rfl) (by decide) ?_
        refine lv_aload_n E.hx E.hb dX7_ofPixel_64 rfl (lv_at hl 0 rfl) ?_
        refine lv_iload_n E.hx E.hb dX7_ofPixel_65 rfl (lv_at hl 1 rfl) ?_
        obtain ⟨r_4, e_5, h⟩ := obind h
        refine iv_X7_160 (ad := ad) E K0 P S e_5 (by decide) hl.1 (Nat.le_of_ble_eq_true rfl) dX7_ofPixel_66 ?_
        cases h
        exact W.iret E.hx E.hb E.hr (fun t ht _ => ⟨rfl, by rw [ht]; exact P, S.F ht⟩) S.2.2 dX7_ofPixel_69 E.hk
      rw [if_neg c_3] at h
      by_cases c_6 : x2 = 1
      · rw [if_pos c_6] at h
        refine lv_tableIn (off := 35) (tgt := 70) E.hx E.hb dX7_ofPixel_35 (by rw [c_6]; decide) (by rw [c_6]; decide) (by rw [c_6]; rfl) (by decide) ?_
        refine lv_aload_n E.hx E.hb dX7_ofPixel_70 rfl (lv_at hl 0 rfl) ?_
        refine lv_iload_n E.hx E.hb dX7_ofPixel_71 rfl (lv_at hl 1 rfl) ?_
        obtain ⟨r_7, e_8, h⟩ := obind h
        refine iv_X7_174 (ad := ad) E K0 P S e_8 (by decide) hl.1 (Nat.le_of_ble_eq_true rfl) dX7_ofPixel_72 ?_
        cases h
        exact W.iret E.hx E.hb E.hr (fun t ht _ => ⟨rfl, by rw [ht]; exact P, S.F ht⟩) S.2.2 dX7_ofPixel_75 E.hk
      rw [if_neg c_6] at h
      by_cases c_9 : x2 = 2
      · rw [if_pos c_9] at h
        refine lv_tableIn (off := 41) (tgt := 76) E.hx E.hb dX7_ofPixel_35 (by rw [c_9]; decide) (by rw [c_9]; decide) (by rw [c_9]; rfl) (by decide) ?_
        refine lv_aload_n E.hx E.hb dX7_ofPixel_76 rfl (lv_at hl 0 rfl) ?_
        refine lv_iload_n E.hx E.hb dX7_ofPixel_77 rfl (lv_at hl 1 rfl) ?_
        obtain ⟨r_10, e_11, h⟩ := obind h
        refine iv_X7_177 (ad := ad) E K0 P S e_11 (by decide) hl.1 (Nat.le_of_ble_eq_true rfl) dX7_ofPixel_78 ?_
        refine lv_if_eq (tgt := 88) E.hx E.hb dX7_ofPixel_81 (by decide) (fun c_12 => ?_) (fun c_12 => ?_)
        · rw [if_pos c_12] at h
          refine lv_iconst (v := 0) E.hx E.hb dX7_ofPixel_88 (by decide) ?_
          cases h
          exact W.iret E.hx E.hb E.hr (fun t ht _ => ⟨rfl, by rw [ht]; exact P, S.F ht⟩) S.2.2 dX7_ofPixel_89 E.hk
        · rw [if_neg c_12] at h
          refine lv_iconst (v := 1) E.hx E.hb dX7_ofPixel_84 (by decide) ?_
          refine lv_goto (tgt := 89) E.hx E.hb dX7_ofPixel_85 (by decide) ?_
          cases h
          exact W.iret E.hx E.hb E.hr (fun t ht _ => ⟨rfl, by rw [ht]; exact P, S.F ht⟩) S.2.2 dX7_ofPixel_89 E.hk
      rw [if_neg c_9] at h
      by_cases c_13 : x2 = 3
      · rw [if_pos c_13] at h
        refine lv_tableIn (off := 55) (tgt := 90) E.hx E.hb dX7_ofPixel_35 (by rw [c_13]; decide) (by rw [c_13]; decide) (by rw [c_13]; rfl) (by decide) ?_
        refine lv_aload_n E.hx E.hb dX7_ofPixel_90 rfl (lv_at hl 0 rfl) ?_
        refine gf_X7_38 E K0 P dX7_ofPixel_91 ?_
        refine lv_iload_n E.hx E.hb dX7_ofPixel_94 rfl (lv_at hl 1 rfl) ?_
        obtain ⟨v_14, e_15, h⟩ := obind h
        refine al_5 E K0 P e_15 dX7_ofPixel_95 ?_
        cases h
        exact W.iret E.hx E.hb E.hr (fun t ht _ => ⟨rfl, by rw [ht]; exact P, S.F ht⟩) S.2.2 dX7_ofPixel_96 E.hk
      rw [if_neg c_13] at h
      refine lv_tableOut (tgt := 97) E.hx E.hb dX7_ofPixel_35 (swo 3 (by decide) (by intro j hj; rcases (show j = 0 ∨ j = 1 ∨ j = 2 ∨ j = 3 by omega) with rfl | rfl | rfl | rfl <;> assumption)) (by decide) ?_
      refine lv_aload_n E.hx E.hb dX7_ofPixel_97 rfl (lv_at hl 0 rfl) ?_
      refine gf_X7_41 E K0 P dX7_ofPixel_98 ?_
      refine lv_iload_n E.hx E.hb dX7_ofPixel_101 rfl (lv_at hl 1 rfl) ?_
      obtain ⟨v_16, e_17, h⟩ := obind h
      refine al_6 E K0 P e_17 dX7_ofPixel_102 ?_
      cases h
      exact W.iret E.hx E.hb E.hr (fun t ht _ => ⟨rfl, by rw [ht]; exact P, S.F ht⟩) S.2.2 dX7_ofPixel_103 E.hk
    · rw [if_pos c_2] at h
      refine lv_aload_n E.hx E.hb dX7_ofPixel_28 rfl (lv_at hl 0 rfl) ?_
      refine lv_iconst (v := 2) E.hx E.hb dX7_ofPixel_29 (by decide) ?_
      obtain ⟨q_18, e_19, h⟩ := obind h
      refine iv_X7_122 E N K0 P S e_19 (by decide) hl.1 (Nat.le_of_ble_eq_true rfl) dX7_ofPixel_30 (fun H locs P S => ?_)
      cases h
      exact W.iret E.hx E.hb E.hr (fun t ht _ => ⟨rfl, by rw [ht]; exact P, S.F ht⟩) S.2.2 dX7_ofPixel_33 E.hk
  · rw [if_pos c_1] at h
    refine lv_aload_n E.hx E.hb dX7_ofPixel_13 rfl (lv_at hl 0 rfl) ?_
    refine lv_iconst (v := 1) E.hx E.hb dX7_ofPixel_14 (by decide) ?_
    obtain ⟨q_20, e_21, h⟩ := obind h
    refine iv_X7_122 E N K0 P S e_21 (by decide) hl.1 (Nat.le_of_ble_eq_true rfl) dX7_ofPixel_15 (fun H locs P S => ?_)
    cases h
    exact W.iret E.hx E.hb E.hr (fun t ht _ => ⟨rfl, by rw [ht]; exact P, S.F ht⟩) S.2.2 dX7_ofPixel_18 E.hk
theorem c_X7_ofPixel (l : Launch) {H : Heap} {D : va_G} {cyI : ClassId} {ad : Nat → Nat} {I : Nat → Int32} {A : Nat → Nat → Int32} (N : AdN 16 ad) (P : va_P D classes (mw cyI ad I A) H) (x1 x2 : Int32) {out : Int32 × (Nat → Int32) × (Nat → Nat → Int32)} (h : B_X7_ofPixel I A x1 x2 = some out) : MRW l yX7_ofPixel cX7_ofPixel 3 (some .int) 4 [.ref (ad 0), .int x1, .int x2] H (KM D cyI) (InN 16 ad) (some (.int out.1)) (fun H1 => va_P D classes (mw cyI ad out.2.1 out.2.2) H1) := by
  refine Mof (own := RX7) (by decide +kernel) rfl rfl ?_
  intro p e s m args below meth c ls E hH K0 hl
  subst hH
  exact w_X7_ofPixel E K0 N P va_S.rf h hl
theorem ds_X7_ofPixel : Dsc yX7_ofPixel 2 := ⟨by decide +kernel, by decide +kernel, by decide +kernel⟩
end
section
variable {p : Program} {l : Launch} {e : Env} {s : State} {m : MethodId} {args : Array Value} {below : List Frame} {meth : Method} {c : Code} {D : va_G} {cyI : ClassId} {ad : Nat → Nat} {I : Nat → Int32} {A : Nat → Nat → Int32}
def B_X7_pictured_J28  (I : Nat → Int32) (A : Nat → Nat → Int32)  : Option (Int32 × (Nat → Int32) × (Nat → Nat → Int32)) := (B_X7_stop I A 1).bind fun q_2 => some (q_2.1, q_2.2.1, q_2.2.2)
set_option maxHeartbeats 4000000 in
set_option maxRecDepth 100000 in
theorem w_X7_pictured_J28 (E : EX p s m args meth c cX7_pictured 4 RX7 (some .int)) (K0 : KM D cyI s s.heap) (N : AdN 16 ad) {H : Heap} {locs : List Loc} (P : va_P D classes (mw cyI ad I A) H) (S : va_S (InN 16 ad) s.heap H locs) {out : Int32 × (Nat → Int32) × (Nat → Nat → Int32)} (h : B_X7_pictured_J28  I A  = some out) {ls : Array Slot} (hl : lv_has ls 4 [(0, .ref (ad 0))]) : W p l e (rmL 2) s m args below meth c H locs 0 0 (MQ below (Qrw (InN 16 ad) (some (.int out.1)) (fun H1 => va_P D classes (mw cyI ad out.2.1 out.2.2) H1)) args s 0 0 (InN 16 ad)) (F0 m 28 ls []) := by
  unfold B_X7_pictured_J28 at h
  refine lv_aload_n E.hx E.hb dX7_pictured_28 rfl (lv_at hl 0 rfl) ?_
  refine lv_iconst (v := 1) E.hx E.hb dX7_pictured_29 (by decide) ?_
  obtain ⟨q_2, e_3, h⟩ := obind h
  refine iv_X7_122 E N K0 P S e_3 (by decide) hl.1 (Nat.le_of_ble_eq_true rfl) dX7_pictured_30 (fun H locs P S => ?_)
  cases h
  exact W.iret E.hx E.hb E.hr (fun t ht _ => ⟨rfl, by rw [ht]; exact P, S.F ht⟩) S.2.2 dX7_pictured_33 E.hk
def B_X7_pictured (I : Nat → Int32) (A : Nat → Nat → Int32) (x1 x2 x3 : Int32) : Option (Int32 × (Nat → Int32) × (Nat → Nat → Int32)) := if (B_X7_in x1 0 (((((va_up I 0 0)) 11) - 1))) = 0 then B_X7_pictured_J28  ((va_up I 0 0)) A  else (if (B_X7_isCell ((va_up I 0 0)) A x2 x3) = 0 then B_X7_pictured_J28  ((va_up I 0 0)) A  else ((rd (A 14) 1440 (((144 * x1) + (B_X7_cell x2 x3)))).bind fun v_5 => some (v_5, (va_up I 0 0), A)))
set_option maxHeartbeats 4000000 in
set_option maxRecDepth 100000 in
theorem w_X7_pictured (E : EX p s m args meth c cX7_pictured 4 RX7 (some .int)) (K0 : KM D cyI s s.heap) (N : AdN 16 ad) {H : Heap} {locs : List Loc} (P : va_P D classes (mw cyI ad I A) H) (S : va_S (InN 16 ad) s.heap H locs)  {x1 x2 x3 : Int32} {out : Int32 × (Nat → Int32) × (Nat → Nat → Int32)} (h : B_X7_pictured I A x1 x2 x3 = some out) {ls : Array Slot} (hl : lv_has ls 4 [(0, .ref (ad 0)), (1, .int x1), (2, .int x2), (3, .int x3)]) : W p l e (rmL 2) s m args below meth c H locs 0 0 (MQ below (Qrw (InN 16 ad) (some (.int out.1)) (fun H1 => va_P D classes (mw cyI ad out.2.1 out.2.2) H1)) args s 0 0 (InN 16 ad)) (F0 m 0 ls []) := by
  unfold B_X7_pictured at h
  refine lv_aload_n E.hx E.hb dX7_pictured_0 rfl (lv_at hl 0 rfl) ?_
  refine lv_iconst (v := 0) E.hx E.hb dX7_pictured_1 (by decide) ?_
  refine pf_X7_89 E N K0 P S dX7_pictured_2 (fun H locs P S => ?_)
  refine lv_iload_n E.hx E.hb dX7_pictured_5 rfl (lv_at hl 1 rfl) ?_
  refine lv_iconst (v := 0) E.hx E.hb dX7_pictured_6 (by decide) ?_
  refine lv_aload_n E.hx E.hb dX7_pictured_7 rfl (lv_at hl 0 rfl) ?_
  refine gf_X7_77 E K0 P dX7_pictured_8 ?_
  refine lv_iconst (v := 1) E.hx E.hb dX7_pictured_11 (by decide) ?_
  refine lv_isub E.hx E.hb dX7_pictured_12 ?_
  refine iv_X7_92 (ad := ad) E K0 S (by decide) hl.1 (Nat.le_of_ble_eq_true rfl) dX7_pictured_13 ?_
  refine lv_if_eq (tgt := 28) E.hx E.hb dX7_pictured_16 (by decide) (fun c_1 => ?_) (fun c_1 => ?_)
  · rw [if_pos c_1] at h
    exact w_X7_pictured_J28 E K0 N P S h (lv_sub hl [0] rfl)
  · rw [if_neg c_1] at h
    refine lv_aload_n E.hx E.hb dX7_pictured_19 rfl (lv_at hl 0 rfl) ?_
    refine lv_iload_n E.hx E.hb dX7_pictured_20 rfl (lv_at hl 2 rfl) ?_
    refine lv_iload_n E.hx E.hb dX7_pictured_21 rfl (lv_at hl 3 rfl) ?_
    refine iv_X7_106 (ad := ad) E K0 P S (by decide) hl.1 (Nat.le_of_ble_eq_true rfl) dX7_pictured_22 ?_
    refine lv_if_ne (tgt := 34) E.hx E.hb dX7_pictured_25 (by decide) (fun c_4 => ?_) (fun c_4 => ?_)
    · rw [if_neg c_4] at h
      refine lv_aload_n E.hx E.hb dX7_pictured_34 rfl (lv_at hl 0 rfl) ?_
      refine gf_X7_65 E K0 P dX7_pictured_35 ?_
      refine lv_sipush (v := 144) E.hx E.hb dX7_pictured_38 (by decide) ?_
      refine lv_iload_n E.hx E.hb dX7_pictured_41 rfl (lv_at hl 1 rfl) ?_
      refine lv_imul E.hx E.hb dX7_pictured_42 ?_
      refine lv_iload_n E.hx E.hb dX7_pictured_43 rfl (lv_at hl 2 rfl) ?_
      refine lv_iload_n E.hx E.hb dX7_pictured_44 rfl (lv_at hl 3 rfl) ?_
      refine iv_X7_100 (ad := ad) E K0 S (by decide) hl.1 (Nat.le_of_ble_eq_true rfl) dX7_pictured_45 ?_
      refine lv_iadd E.hx E.hb dX7_pictured_48 ?_
      obtain ⟨v_5, e_6, h⟩ := obind h
      refine al_14 E K0 P e_6 dX7_pictured_49 ?_
      cases h
      exact W.iret E.hx E.hb E.hr (fun t ht _ => ⟨rfl, by rw [ht]; exact P, S.F ht⟩) S.2.2 dX7_pictured_50 E.hk
    · rw [if_pos c_4] at h
      exact w_X7_pictured_J28 E K0 N P S h (lv_sub hl [0] rfl)
theorem c_X7_pictured (l : Launch) {H : Heap} {D : va_G} {cyI : ClassId} {ad : Nat → Nat} {I : Nat → Int32} {A : Nat → Nat → Int32} (N : AdN 16 ad) (P : va_P D classes (mw cyI ad I A) H) (x1 x2 x3 : Int32) {out : Int32 × (Nat → Int32) × (Nat → Nat → Int32)} (h : B_X7_pictured I A x1 x2 x3 = some out) : MRW l yX7_pictured cX7_pictured 4 (some .int) 2 [.ref (ad 0), .int x1, .int x2, .int x3] H (KM D cyI) (InN 16 ad) (some (.int out.1)) (fun H1 => va_P D classes (mw cyI ad out.2.1 out.2.2) H1) := by
  refine Mof (own := RX7) (by decide +kernel) rfl rfl ?_
  intro p e s m args below meth c ls E hH K0 hl
  subst hH
  exact w_X7_pictured E K0 N P va_S.rf h hl
theorem ds_X7_pictured : Dsc yX7_pictured 3 := ⟨by decide +kernel, by decide +kernel, by decide +kernel⟩
end
section
variable {p : Program} {l : Launch} {e : Env} {s : State} {m : MethodId} {args : Array Value} {below : List Frame} {meth : Method} {c : Code} {D : va_G} {cyI : ClassId} {ad : Nat → Nat} {I : Nat → Int32} {A : Nat → Nat → Int32}
def B_X7_ghosts_L40  (x1 x3 : Int32) : Nat → Int32 → Int32 → (Nat → Int32) → (Nat → Nat → Int32) → Option (Int32 × (Nat → Int32) × (Nat → Nat → Int32))
  | 0 => fun _ _ _ _ => none
  | n + 1 => fun x2 x4 I A => if (I 1) ≤ x4 then some ((x2, I, A)) else ((rd (A 13) 10 x1).bind fun v_4 => (B_X7_greyAt I A x4 x3 v_4).bind fun r_6 => (rd (A 14) 1440 (((144 * x1) + (B_X7_cell x4 x3)))).bind fun v_8 => if r_6 = v_8 then (B_X7_ghosts_L40 x1 x3 n) ((x2 + 0)) (x4 + 1) I A else (B_X7_ghosts_L40 x1 x3 n) ((x2 + 1)) (x4 + 1) I A)
theorem B_X7_ghosts_L40_s (I : Nat → Int32) (A : Nat → Nat → Int32) (x1 x3 x2 x4 : Int32) (n : Nat) : B_X7_ghosts_L40  x1 x3 (n + 1) x2 x4 I A = if (I 1) ≤ x4 then some ((x2, I, A)) else ((rd (A 13) 10 x1).bind fun v_4 => (B_X7_greyAt I A x4 x3 v_4).bind fun r_6 => (rd (A 14) 1440 (((144 * x1) + (B_X7_cell x4 x3)))).bind fun v_8 => if r_6 = v_8 then (B_X7_ghosts_L40 x1 x3 n) ((x2 + 0)) (x4 + 1) I A else (B_X7_ghosts_L40 x1 x3 n) ((x2 + 1)) (x4 + 1) I A) := rfl
set_option maxHeartbeats 4000000 in
set_option maxRecDepth 100000 in
theorem w_X7_ghosts_L40 (E : EX p s m args meth c cX7_ghosts 5 RX7 (some .int)) (K0 : KM D cyI s s.heap) (N : AdN 16 ad) {x1 x3 : Int32} {out : Int32 × (Nat → Int32) × (Nat → Nat → Int32)} : ∀ (n : Nat) {x2 x4 : Int32} {I : Nat → Int32} {A : Nat → Nat → Int32} {H : Heap} {locs : List Loc} (P : va_P D classes (mw cyI ad I A) H) (S : va_S (InN 16 ad) s.heap H locs) {o : Int32 × (Nat → Int32) × (Nat → Nat → Int32)} (h : B_X7_ghosts_L40  x1 x3 n x2 x4 I A = some o) {ls : Array Slot} (hl : lv_has ls 5 [(0, .ref (ad 0)), (1, .int x1), (2, .int x2), (3, .int x3), (4, .int x4)]) (kx : ∀ {H : Heap} {locs : List Loc} (_ : va_P D classes (mw cyI ad o.2.1 o.2.2) H) (_ : va_S (InN 16 ad) s.heap H locs) {ls : Array Slot}, lv_has ls 5 [(0, .ref (ad 0)), (1, .int x1), (2, .int o.1), (3, .int x3)] → W p l e (rmL 3) s m args below meth c H locs 0 0 (MQ below (Qrw (InN 16 ad) (some (.int out.1)) (fun H1 => va_P D classes (mw cyI ad out.2.1 out.2.2) H1)) args s 0 0 (InN 16 ad)) (F0 m 96 ls [])), W p l e (rmL 3) s m args below meth c H locs 0 0 (MQ below (Qrw (InN 16 ad) (some (.int out.1)) (fun H1 => va_P D classes (mw cyI ad out.2.1 out.2.2) H1)) args s 0 0 (InN 16 ad)) (F0 m 40 ls []) := by
  intro n
  induction n with
  | zero => intro x2 x4 I A H locs P S o h ls hl kx; exact nomatch (show none = some o from h)
  | succ n ih =>
    intro x2 x4 I A H locs P S o h ls hl kx
    rw [B_X7_ghosts_L40_s] at h
    refine lv_iload E.hx E.hb dX7_ghosts_40 (lv_at hl 4 rfl) ?_
    refine lv_aload_n E.hx E.hb dX7_ghosts_42 rfl (lv_at hl 0 rfl) ?_
    refine gf_X7_7 E K0 P dX7_ghosts_43 ?_
    refine lv_icmp_ge (tgt := 96) E.hx E.hb dX7_ghosts_46 (by decide) (fun c_3 => ?_) (fun c_3 => ?_)
    · rw [if_pos c_3] at h
      cases h
      exact kx P S (lv_sub hl [0, 1, 2, 3] rfl)
    · rw [if_neg c_3] at h
      refine lv_iload_n E.hx E.hb dX7_ghosts_49 rfl (lv_at hl 2 rfl) ?_
      refine lv_aload_n E.hx E.hb dX7_ghosts_50 rfl (lv_at hl 0 rfl) ?_
      refine lv_iload E.hx E.hb dX7_ghosts_51 (lv_at hl 4 rfl) ?_
      refine lv_iload_n E.hx E.hb dX7_ghosts_53 rfl (lv_at hl 3 rfl) ?_
      refine lv_aload_n E.hx E.hb dX7_ghosts_54 rfl (lv_at hl 0 rfl) ?_
      refine gf_X7_62 E K0 P dX7_ghosts_55 ?_
      refine lv_iload_n E.hx E.hb dX7_ghosts_58 rfl (lv_at hl 1 rfl) ?_
      obtain ⟨v_4, e_5, h⟩ := obind h
      refine al_13 E K0 P e_5 dX7_ghosts_59 ?_
      obtain ⟨r_6, e_7, h⟩ := obind h
      refine iv_X7_151 (ad := ad) E K0 P S e_7 (by decide) hl.1 (Nat.le_of_ble_eq_true rfl) dX7_ghosts_60 ?_
      refine lv_aload_n E.hx E.hb dX7_ghosts_63 rfl (lv_at hl 0 rfl) ?_
      refine gf_X7_65 E K0 P dX7_ghosts_64 ?_
      refine lv_sipush (v := 144) E.hx E.hb dX7_ghosts_67 (by decide) ?_
      refine lv_iload_n E.hx E.hb dX7_ghosts_70 rfl (lv_at hl 1 rfl) ?_
      refine lv_imul E.hx E.hb dX7_ghosts_71 ?_
      refine lv_iload E.hx E.hb dX7_ghosts_72 (lv_at hl 4 rfl) ?_
      refine lv_iload_n E.hx E.hb dX7_ghosts_74 rfl (lv_at hl 3 rfl) ?_
      refine iv_X7_100 (ad := ad) E K0 S (by decide) hl.1 (Nat.le_of_ble_eq_true rfl) dX7_ghosts_75 ?_
      refine lv_iadd E.hx E.hb dX7_ghosts_78 ?_
      obtain ⟨v_8, e_9, h⟩ := obind h
      refine al_14 E K0 P e_9 dX7_ghosts_79 ?_
      refine lv_icmp_eq (tgt := 87) E.hx E.hb dX7_ghosts_80 (by decide) (fun c_10 => ?_) (fun c_10 => ?_)
      · rw [if_pos c_10] at h
        refine lv_iconst (v := 0) E.hx E.hb dX7_ghosts_87 (by decide) ?_
        refine lv_iadd E.hx E.hb dX7_ghosts_88 ?_
        refine lv_istore_n (lv' := [(2, .int (x2 + 0)), (0, .ref (ad 0)), (1, .int x1), (3, .int x3), (4, .int x4)]) E.hx E.hb dX7_ghosts_89 rfl hl (by decide) rfl (fun ls hl => ?_)
        refine lv_iinc (v := x4 + 1) (lv' := [(4, .int (x4 + 1)), (2, .int (x2 + 0)), (0, .ref (ad 0)), (1, .int x1), (3, .int x3)]) E.hx E.hb dX7_ghosts_90 hl (k := 4) rfl rfl (by decide) rfl (fun ls hl => ?_)
        refine lv_goto (tgt := 40) E.hx E.hb dX7_ghosts_93 (by decide) ?_
        exact ih P S h (lv_sub hl [2, 3, 1, 4, 0] rfl) kx
      · rw [if_neg c_10] at h
        refine lv_iconst (v := 1) E.hx E.hb dX7_ghosts_83 (by decide) ?_
        refine lv_goto (tgt := 88) E.hx E.hb dX7_ghosts_84 (by decide) ?_
        refine lv_iadd E.hx E.hb dX7_ghosts_88 ?_
        refine lv_istore_n (lv' := [(2, .int (x2 + 1)), (0, .ref (ad 0)), (1, .int x1), (3, .int x3), (4, .int x4)]) E.hx E.hb dX7_ghosts_89 rfl hl (by decide) rfl (fun ls hl => ?_)
        refine lv_iinc (v := x4 + 1) (lv' := [(4, .int (x4 + 1)), (2, .int (x2 + 1)), (0, .ref (ad 0)), (1, .int x1), (3, .int x3)]) E.hx E.hb dX7_ghosts_90 hl (k := 4) rfl rfl (by decide) rfl (fun ls hl => ?_)
        refine lv_goto (tgt := 40) E.hx E.hb dX7_ghosts_93 (by decide) ?_
        exact ih P S h (lv_sub hl [2, 3, 1, 4, 0] rfl) kx
def B_X7_ghosts_L29  (x1 : Int32) : Nat → Int32 → Int32 → (Nat → Int32) → (Nat → Nat → Int32) → Option (Int32 × (Nat → Int32) × (Nat → Nat → Int32))
  | 0 => fun _ _ _ _ => none
  | n + 1 => fun x2 x3 I A => if (I 2) ≤ x3 then some ((x2, I, A)) else ((B_X7_ghosts_L40  x1 x3 FU x2 0 I A).bind fun q_11 => (B_X7_ghosts_L29 x1 n) q_11.1 (x3 + 1) q_11.2.1 q_11.2.2)
theorem B_X7_ghosts_L29_s (I : Nat → Int32) (A : Nat → Nat → Int32) (x1 x2 x3 : Int32) (n : Nat) : B_X7_ghosts_L29  x1 (n + 1) x2 x3 I A = if (I 2) ≤ x3 then some ((x2, I, A)) else ((B_X7_ghosts_L40  x1 x3 FU x2 0 I A).bind fun q_11 => (B_X7_ghosts_L29 x1 n) q_11.1 (x3 + 1) q_11.2.1 q_11.2.2) := rfl
set_option maxHeartbeats 4000000 in
set_option maxRecDepth 100000 in
theorem w_X7_ghosts_L29 (E : EX p s m args meth c cX7_ghosts 5 RX7 (some .int)) (K0 : KM D cyI s s.heap) (N : AdN 16 ad) {x1 : Int32} {out : Int32 × (Nat → Int32) × (Nat → Nat → Int32)} : ∀ (n : Nat) {x2 x3 : Int32} {I : Nat → Int32} {A : Nat → Nat → Int32} {H : Heap} {locs : List Loc} (P : va_P D classes (mw cyI ad I A) H) (S : va_S (InN 16 ad) s.heap H locs) {o : Int32 × (Nat → Int32) × (Nat → Nat → Int32)} (h : B_X7_ghosts_L29  x1 n x2 x3 I A = some o) {ls : Array Slot} (hl : lv_has ls 5 [(0, .ref (ad 0)), (1, .int x1), (2, .int x2), (3, .int x3)]) (kx : ∀ {H : Heap} {locs : List Loc} (_ : va_P D classes (mw cyI ad o.2.1 o.2.2) H) (_ : va_S (InN 16 ad) s.heap H locs) {ls : Array Slot}, lv_has ls 5 [(2, .int o.1)] → W p l e (rmL 3) s m args below meth c H locs 0 0 (MQ below (Qrw (InN 16 ad) (some (.int out.1)) (fun H1 => va_P D classes (mw cyI ad out.2.1 out.2.2) H1)) args s 0 0 (InN 16 ad)) (F0 m 102 ls [])), W p l e (rmL 3) s m args below meth c H locs 0 0 (MQ below (Qrw (InN 16 ad) (some (.int out.1)) (fun H1 => va_P D classes (mw cyI ad out.2.1 out.2.2) H1)) args s 0 0 (InN 16 ad)) (F0 m 29 ls []) := by
  intro n
  induction n with
  | zero => intro x2 x3 I A H locs P S o h ls hl kx; exact nomatch (show none = some o from h)
  | succ n ih =>
    intro x2 x3 I A H locs P S o h ls hl kx
    rw [B_X7_ghosts_L29_s] at h
    refine lv_iload_n E.hx E.hb dX7_ghosts_29 rfl (lv_at hl 3 rfl) ?_
    refine lv_aload_n E.hx E.hb dX7_ghosts_30 rfl (lv_at hl 0 rfl) ?_
    refine gf_X7_13 E K0 P dX7_ghosts_31 ?_
    refine lv_icmp_ge (tgt := 102) E.hx E.hb dX7_ghosts_34 (by decide) (fun c_2 => ?_) (fun c_2 => ?_)
    · rw [if_pos c_2] at h
      cases h
      exact kx P S (lv_sub hl [2] rfl)
    · rw [if_neg c_2] at h
      refine lv_iconst (v := 0) E.hx E.hb dX7_ghosts_37 (by decide) ?_
      refine lv_istore (lv' := [(4, .int 0), (0, .ref (ad 0)), (1, .int x1), (2, .int x2), (3, .int x3)]) E.hx E.hb dX7_ghosts_38 hl (by decide) rfl (fun ls hl => ?_)
      obtain ⟨q_11, e_12, h⟩ := obind h
      refine w_X7_ghosts_L40 E K0 N FU P S e_12 (lv_sub hl [1, 2, 3, 4, 0] rfl) (fun {H locs} P S {ls} hl => ?_)
      refine lv_iinc (v := x3 + 1) (lv' := [(3, .int (x3 + 1)), (0, .ref (ad 0)), (1, .int x1), (2, .int q_11.1)]) E.hx E.hb dX7_ghosts_96 hl (k := 3) rfl rfl (by decide) rfl (fun ls hl => ?_)
      refine lv_goto (tgt := 29) E.hx E.hb dX7_ghosts_99 (by decide) ?_
      exact ih P S h (lv_sub hl [1, 2, 3, 0] rfl) kx
def B_X7_ghosts (I : Nat → Int32) (A : Nat → Nat → Int32) (x1 : Int32) : Option (Int32 × (Nat → Int32) × (Nat → Nat → Int32)) := if (B_X7_in x1 0 (((((va_up I 0 0)) 11) - 1))) = 0 then ((B_X7_stop ((va_up I 0 0)) A 1).bind fun q_15 => some (q_15.1, q_15.2.1, q_15.2.2)) else ((B_X7_ghosts_L29  x1 FU 0 0 ((va_up I 0 0)) A).bind fun q_13 => some (q_13.1, q_13.2.1, q_13.2.2))
set_option maxHeartbeats 4000000 in
set_option maxRecDepth 100000 in
theorem w_X7_ghosts (E : EX p s m args meth c cX7_ghosts 5 RX7 (some .int)) (K0 : KM D cyI s s.heap) (N : AdN 16 ad) {H : Heap} {locs : List Loc} (P : va_P D classes (mw cyI ad I A) H) (S : va_S (InN 16 ad) s.heap H locs)  {x1 : Int32} {out : Int32 × (Nat → Int32) × (Nat → Nat → Int32)} (h : B_X7_ghosts I A x1 = some out) {ls : Array Slot} (hl : lv_has ls 5 [(0, .ref (ad 0)), (1, .int x1)]) : W p l e (rmL 3) s m args below meth c H locs 0 0 (MQ below (Qrw (InN 16 ad) (some (.int out.1)) (fun H1 => va_P D classes (mw cyI ad out.2.1 out.2.2) H1)) args s 0 0 (InN 16 ad)) (F0 m 0 ls []) := by
  unfold B_X7_ghosts at h
  refine lv_aload_n E.hx E.hb dX7_ghosts_0 rfl (lv_at hl 0 rfl) ?_
  refine lv_iconst (v := 0) E.hx E.hb dX7_ghosts_1 (by decide) ?_
  refine pf_X7_89 E N K0 P S dX7_ghosts_2 (fun H locs P S => ?_)
  refine lv_iload_n E.hx E.hb dX7_ghosts_5 rfl (lv_at hl 1 rfl) ?_
  refine lv_iconst (v := 0) E.hx E.hb dX7_ghosts_6 (by decide) ?_
  refine lv_aload_n E.hx E.hb dX7_ghosts_7 rfl (lv_at hl 0 rfl) ?_
  refine gf_X7_77 E K0 P dX7_ghosts_8 ?_
  refine lv_iconst (v := 1) E.hx E.hb dX7_ghosts_11 (by decide) ?_
  refine lv_isub E.hx E.hb dX7_ghosts_12 ?_
  refine iv_X7_92 (ad := ad) E K0 S (by decide) hl.1 (Nat.le_of_ble_eq_true rfl) dX7_ghosts_13 ?_
  refine lv_if_ne (tgt := 25) E.hx E.hb dX7_ghosts_16 (by decide) (fun c_1 => ?_) (fun c_1 => ?_)
  · rw [if_neg c_1] at h
    refine lv_iconst (v := 0) E.hx E.hb dX7_ghosts_25 (by decide) ?_
    refine lv_istore_n (lv' := [(2, .int 0), (0, .ref (ad 0)), (1, .int x1)]) E.hx E.hb dX7_ghosts_26 rfl hl (by decide) rfl (fun ls hl => ?_)
    refine lv_iconst (v := 0) E.hx E.hb dX7_ghosts_27 (by decide) ?_
    refine lv_istore_n (lv' := [(3, .int 0), (2, .int 0), (0, .ref (ad 0)), (1, .int x1)]) E.hx E.hb dX7_ghosts_28 rfl hl (by decide) rfl (fun ls hl => ?_)
    obtain ⟨q_13, e_14, h⟩ := obind h
    refine w_X7_ghosts_L29 E K0 N FU P S e_14 (lv_sub hl [2, 3, 1, 0] rfl) (fun {H locs} P S {ls} hl => ?_)
    refine lv_iload_n E.hx E.hb dX7_ghosts_102 rfl (lv_at hl 0 rfl) ?_
    cases h
    exact W.iret E.hx E.hb E.hr (fun t ht _ => ⟨rfl, by rw [ht]; exact P, S.F ht⟩) S.2.2 dX7_ghosts_103 E.hk
  · rw [if_pos c_1] at h
    refine lv_aload_n E.hx E.hb dX7_ghosts_19 rfl (lv_at hl 0 rfl) ?_
    refine lv_iconst (v := 1) E.hx E.hb dX7_ghosts_20 (by decide) ?_
    obtain ⟨q_15, e_16, h⟩ := obind h
    refine iv_X7_122 E N K0 P S e_16 (by decide) hl.1 (Nat.le_of_ble_eq_true rfl) dX7_ghosts_21 (fun H locs P S => ?_)
    cases h
    exact W.iret E.hx E.hb E.hr (fun t ht _ => ⟨rfl, by rw [ht]; exact P, S.F ht⟩) S.2.2 dX7_ghosts_24 E.hk
theorem c_X7_ghosts (l : Launch) {H : Heap} {D : va_G} {cyI : ClassId} {ad : Nat → Nat} {I : Nat → Int32} {A : Nat → Nat → Int32} (N : AdN 16 ad) (P : va_P D classes (mw cyI ad I A) H) (x1 : Int32) {out : Int32 × (Nat → Int32) × (Nat → Nat → Int32)} (h : B_X7_ghosts I A x1 = some out) : MRW l yX7_ghosts cX7_ghosts 5 (some .int) 3 [.ref (ad 0), .int x1] H (KM D cyI) (InN 16 ad) (some (.int out.1)) (fun H1 => va_P D classes (mw cyI ad out.2.1 out.2.2) H1) := by
  refine Mof (own := RX7) (by decide +kernel) rfl rfl ?_
  intro p e s m args below meth c ls E hH K0 hl
  subst hH
  exact w_X7_ghosts E K0 N P va_S.rf h hl
theorem ds_X7_ghosts : Dsc yX7_ghosts 1 := ⟨by decide +kernel, by decide +kernel, by decide +kernel⟩
end
section
variable {p : Program} {l : Launch} {e : Env} {s : State} {m : MethodId} {args : Array Value} {below : List Frame} {meth : Method} {c : Code} {D : va_G} {cyI : ClassId} {ad : Nat → Nat} {I : Nat → Int32} {A : Nat → Nat → Int32}
def B_X7_guesses_J28  (I : Nat → Int32) (A : Nat → Nat → Int32)  : Option (Int32 × (Nat → Int32) × (Nat → Nat → Int32)) := (B_X7_stop I A 1).bind fun q_2 => some (q_2.1, q_2.2.1, q_2.2.2)
set_option maxHeartbeats 4000000 in
set_option maxRecDepth 100000 in
theorem w_X7_guesses_J28 (E : EX p s m args meth c cX7_guesses 6 RX7 (some .int)) (K0 : KM D cyI s s.heap) (N : AdN 16 ad) {H : Heap} {locs : List Loc} (P : va_P D classes (mw cyI ad I A) H) (S : va_S (InN 16 ad) s.heap H locs) {out : Int32 × (Nat → Int32) × (Nat → Nat → Int32)} (h : B_X7_guesses_J28  I A  = some out) {ls : Array Slot} (hl : lv_has ls 6 [(0, .ref (ad 0))]) : W p l e (rmL 2) s m args below meth c H locs 0 0 (MQ below (Qrw (InN 16 ad) (some (.int out.1)) (fun H1 => va_P D classes (mw cyI ad out.2.1 out.2.2) H1)) args s 0 0 (InN 16 ad)) (F0 m 28 ls []) := by
  unfold B_X7_guesses_J28 at h
  refine lv_aload_n E.hx E.hb dX7_guesses_28 rfl (lv_at hl 0 rfl) ?_
  refine lv_iconst (v := 1) E.hx E.hb dX7_guesses_29 (by decide) ?_
  obtain ⟨q_2, e_3, h⟩ := obind h
  refine iv_X7_122 E N K0 P S e_3 (by decide) hl.1 (Nat.le_of_ble_eq_true rfl) dX7_guesses_30 (fun H locs P S => ?_)
  cases h
  exact W.iret E.hx E.hb E.hr (fun t ht _ => ⟨rfl, by rw [ht]; exact P, S.F ht⟩) S.2.2 dX7_guesses_33 E.hk
def B_X7_guesses_L40  (x1 x2 x3 : Int32) : Nat → Int32 → Int32 → (Nat → Int32) → (Nat → Nat → Int32) → Option (Int32 × (Nat → Int32) × (Nat → Nat → Int32))
  | 0 => fun _ _ _ _ => none
  | n + 1 => fun x4 x5 I A => if 15 ≤ x5 then some ((x4, I, A)) else ((rd (A 13) 10 x1).bind fun v_6 => (rd (A 14) 1440 (((144 * x1) + (B_X7_cell x2 x3)))).bind fun v_8 => if (B_X7_greyOf ((B_X7_apart x5 v_6))) = v_8 then (B_X7_guesses_L40 x1 x2 x3 n) ((x4 + 1)) (x5 + 1) I A else (B_X7_guesses_L40 x1 x2 x3 n) ((x4 + 0)) (x5 + 1) I A)
theorem B_X7_guesses_L40_s (I : Nat → Int32) (A : Nat → Nat → Int32) (x1 x2 x3 x4 x5 : Int32) (n : Nat) : B_X7_guesses_L40  x1 x2 x3 (n + 1) x4 x5 I A = if 15 ≤ x5 then some ((x4, I, A)) else ((rd (A 13) 10 x1).bind fun v_6 => (rd (A 14) 1440 (((144 * x1) + (B_X7_cell x2 x3)))).bind fun v_8 => if (B_X7_greyOf ((B_X7_apart x5 v_6))) = v_8 then (B_X7_guesses_L40 x1 x2 x3 n) ((x4 + 1)) (x5 + 1) I A else (B_X7_guesses_L40 x1 x2 x3 n) ((x4 + 0)) (x5 + 1) I A) := rfl
set_option maxHeartbeats 4000000 in
set_option maxRecDepth 100000 in
theorem w_X7_guesses_L40 (E : EX p s m args meth c cX7_guesses 6 RX7 (some .int)) (K0 : KM D cyI s s.heap) (N : AdN 16 ad) {x1 x2 x3 : Int32} {out : Int32 × (Nat → Int32) × (Nat → Nat → Int32)} : ∀ (n : Nat) {x4 x5 : Int32} {I : Nat → Int32} {A : Nat → Nat → Int32} {H : Heap} {locs : List Loc} (P : va_P D classes (mw cyI ad I A) H) (S : va_S (InN 16 ad) s.heap H locs) {o : Int32 × (Nat → Int32) × (Nat → Nat → Int32)} (h : B_X7_guesses_L40  x1 x2 x3 n x4 x5 I A = some o) {ls : Array Slot} (hl : lv_has ls 6 [(0, .ref (ad 0)), (1, .int x1), (2, .int x2), (3, .int x3), (4, .int x4), (5, .int x5)]) (kx : ∀ {H : Heap} {locs : List Loc} (_ : va_P D classes (mw cyI ad o.2.1 o.2.2) H) (_ : va_S (InN 16 ad) s.heap H locs) {ls : Array Slot}, lv_has ls 6 [(4, .int o.1)] → W p l e (rmL 2) s m args below meth c H locs 0 0 (MQ below (Qrw (InN 16 ad) (some (.int out.1)) (fun H1 => va_P D classes (mw cyI ad out.2.1 out.2.2) H1)) args s 0 0 (InN 16 ad)) (F0 m 96 ls [])), W p l e (rmL 2) s m args below meth c H locs 0 0 (MQ below (Qrw (InN 16 ad) (some (.int out.1)) (fun H1 => va_P D classes (mw cyI ad out.2.1 out.2.2) H1)) args s 0 0 (InN 16 ad)) (F0 m 40 ls []) := by
  intro n
  induction n with
  | zero => intro x4 x5 I A H locs P S o h ls hl kx; exact nomatch (show none = some o from h)
  | succ n ih =>
    intro x4 x5 I A H locs P S o h ls hl kx
    rw [B_X7_guesses_L40_s] at h
    refine lv_iload E.hx E.hb dX7_guesses_40 (lv_at hl 5 rfl) ?_
    refine lv_bipush (v := 15) E.hx E.hb dX7_guesses_42 (by decide) ?_
    refine lv_icmp_ge (tgt := 96) E.hx E.hb dX7_guesses_44 (by decide) (fun c_5 => ?_) (fun c_5 => ?_)
    · rw [if_pos c_5] at h
      cases h
      exact kx P S (lv_sub hl [4] rfl)
    · rw [if_neg c_5] at h
      refine lv_iload E.hx E.hb dX7_guesses_47 (lv_at hl 4 rfl) ?_
      refine lv_iload E.hx E.hb dX7_guesses_49 (lv_at hl 5 rfl) ?_
      refine lv_aload_n E.hx E.hb dX7_guesses_51 rfl (lv_at hl 0 rfl) ?_
      refine gf_X7_62 E K0 P dX7_guesses_52 ?_
      refine lv_iload_n E.hx E.hb dX7_guesses_55 rfl (lv_at hl 1 rfl) ?_
      obtain ⟨v_6, e_7, h⟩ := obind h
      refine al_13 E K0 P e_7 dX7_guesses_56 ?_
      refine iv_X7_142 (ad := ad) E K0 S (by decide) hl.1 (Nat.le_of_ble_eq_true rfl) dX7_guesses_57 ?_
      refine iv_X7_145 (ad := ad) E K0 S (by decide) hl.1 (Nat.le_of_ble_eq_true rfl) dX7_guesses_60 ?_
      refine lv_aload_n E.hx E.hb dX7_guesses_63 rfl (lv_at hl 0 rfl) ?_
      refine gf_X7_65 E K0 P dX7_guesses_64 ?_
      refine lv_sipush (v := 144) E.hx E.hb dX7_guesses_67 (by decide) ?_
      refine lv_iload_n E.hx E.hb dX7_guesses_70 rfl (lv_at hl 1 rfl) ?_
      refine lv_imul E.hx E.hb dX7_guesses_71 ?_
      refine lv_iload_n E.hx E.hb dX7_guesses_72 rfl (lv_at hl 2 rfl) ?_
      refine lv_iload_n E.hx E.hb dX7_guesses_73 rfl (lv_at hl 3 rfl) ?_
      refine iv_X7_100 (ad := ad) E K0 S (by decide) hl.1 (Nat.le_of_ble_eq_true rfl) dX7_guesses_74 ?_
      refine lv_iadd E.hx E.hb dX7_guesses_77 ?_
      obtain ⟨v_8, e_9, h⟩ := obind h
      refine al_14 E K0 P e_9 dX7_guesses_78 ?_
      refine lv_icmp_ne (tgt := 86) E.hx E.hb dX7_guesses_79 (by decide) (fun c_10 => ?_) (fun c_10 => ?_)
      · rw [if_neg c_10] at h
        refine lv_iconst (v := 0) E.hx E.hb dX7_guesses_86 (by decide) ?_
        refine lv_iadd E.hx E.hb dX7_guesses_87 ?_
        refine lv_istore (lv' := [(4, .int (x4 + 0)), (0, .ref (ad 0)), (1, .int x1), (2, .int x2), (3, .int x3), (5, .int x5)]) E.hx E.hb dX7_guesses_88 hl (by decide) rfl (fun ls hl => ?_)
        refine lv_iinc (v := x5 + 1) (lv' := [(5, .int (x5 + 1)), (4, .int (x4 + 0)), (0, .ref (ad 0)), (1, .int x1), (2, .int x2), (3, .int x3)]) E.hx E.hb dX7_guesses_90 hl (k := 5) rfl rfl (by decide) rfl (fun ls hl => ?_)
        refine lv_goto (tgt := 40) E.hx E.hb dX7_guesses_93 (by decide) ?_
        exact ih P S h (lv_sub hl [2, 3, 4, 5, 1, 0] rfl) kx
      · rw [if_pos c_10] at h
        refine lv_iconst (v := 1) E.hx E.hb dX7_guesses_82 (by decide) ?_
        refine lv_goto (tgt := 87) E.hx E.hb dX7_guesses_83 (by decide) ?_
        refine lv_iadd E.hx E.hb dX7_guesses_87 ?_
        refine lv_istore (lv' := [(4, .int (x4 + 1)), (0, .ref (ad 0)), (1, .int x1), (2, .int x2), (3, .int x3), (5, .int x5)]) E.hx E.hb dX7_guesses_88 hl (by decide) rfl (fun ls hl => ?_)
        refine lv_iinc (v := x5 + 1) (lv' := [(5, .int (x5 + 1)), (4, .int (x4 + 1)), (0, .ref (ad 0)), (1, .int x1), (2, .int x2), (3, .int x3)]) E.hx E.hb dX7_guesses_90 hl (k := 5) rfl rfl (by decide) rfl (fun ls hl => ?_)
        refine lv_goto (tgt := 40) E.hx E.hb dX7_guesses_93 (by decide) ?_
        exact ih P S h (lv_sub hl [2, 3, 4, 5, 1, 0] rfl) kx
def B_X7_guesses (I : Nat → Int32) (A : Nat → Nat → Int32) (x1 x2 x3 : Int32) : Option (Int32 × (Nat → Int32) × (Nat → Nat → Int32)) := if (B_X7_in x1 0 (((((va_up I 0 0)) 11) - 1))) = 0 then B_X7_guesses_J28  ((va_up I 0 0)) A  else (if (B_X7_isCell ((va_up I 0 0)) A x2 x3) = 0 then B_X7_guesses_J28  ((va_up I 0 0)) A  else ((B_X7_guesses_L40  x1 x2 x3 FU 0 0 ((va_up I 0 0)) A).bind fun q_11 => some (q_11.1, q_11.2.1, q_11.2.2)))
set_option maxHeartbeats 4000000 in
set_option maxRecDepth 100000 in
theorem w_X7_guesses (E : EX p s m args meth c cX7_guesses 6 RX7 (some .int)) (K0 : KM D cyI s s.heap) (N : AdN 16 ad) {H : Heap} {locs : List Loc} (P : va_P D classes (mw cyI ad I A) H) (S : va_S (InN 16 ad) s.heap H locs)  {x1 x2 x3 : Int32} {out : Int32 × (Nat → Int32) × (Nat → Nat → Int32)} (h : B_X7_guesses I A x1 x2 x3 = some out) {ls : Array Slot} (hl : lv_has ls 6 [(0, .ref (ad 0)), (1, .int x1), (2, .int x2), (3, .int x3)]) : W p l e (rmL 2) s m args below meth c H locs 0 0 (MQ below (Qrw (InN 16 ad) (some (.int out.1)) (fun H1 => va_P D classes (mw cyI ad out.2.1 out.2.2) H1)) args s 0 0 (InN 16 ad)) (F0 m 0 ls []) := by
  unfold B_X7_guesses at h
  refine lv_aload_n E.hx E.hb dX7_guesses_0 rfl (lv_at hl 0 rfl) ?_
  refine lv_iconst (v := 0) E.hx E.hb dX7_guesses_1 (by decide) ?_
  refine pf_X7_89 E N K0 P S dX7_guesses_2 (fun H locs P S => ?_)
  refine lv_iload_n E.hx E.hb dX7_guesses_5 rfl (lv_at hl 1 rfl) ?_
  refine lv_iconst (v := 0) E.hx E.hb dX7_guesses_6 (by decide) ?_
  refine lv_aload_n E.hx E.hb dX7_guesses_7 rfl (lv_at hl 0 rfl) ?_
  refine gf_X7_77 E K0 P dX7_guesses_8 ?_
  refine lv_iconst (v := 1) E.hx E.hb dX7_guesses_11 (by decide) ?_
  refine lv_isub E.hx E.hb dX7_guesses_12 ?_
  refine iv_X7_92 (ad := ad) E K0 S (by decide) hl.1 (Nat.le_of_ble_eq_true rfl) dX7_guesses_13 ?_
  refine lv_if_eq (tgt := 28) E.hx E.hb dX7_guesses_16 (by decide) (fun c_1 => ?_) (fun c_1 => ?_)
  · rw [if_pos c_1] at h
    exact w_X7_guesses_J28 E K0 N P S h (lv_sub hl [0] rfl)
  · rw [if_neg c_1] at h
    refine lv_aload_n E.hx E.hb dX7_guesses_19 rfl (lv_at hl 0 rfl) ?_
    refine lv_iload_n E.hx E.hb dX7_guesses_20 rfl (lv_at hl 2 rfl) ?_
    refine lv_iload_n E.hx E.hb dX7_guesses_21 rfl (lv_at hl 3 rfl) ?_
    refine iv_X7_106 (ad := ad) E K0 P S (by decide) hl.1 (Nat.le_of_ble_eq_true rfl) dX7_guesses_22 ?_
    refine lv_if_ne (tgt := 34) E.hx E.hb dX7_guesses_25 (by decide) (fun c_4 => ?_) (fun c_4 => ?_)
    · rw [if_neg c_4] at h
      refine lv_iconst (v := 0) E.hx E.hb dX7_guesses_34 (by decide) ?_
      refine lv_istore (lv' := [(4, .int 0), (0, .ref (ad 0)), (1, .int x1), (2, .int x2), (3, .int x3)]) E.hx E.hb dX7_guesses_35 hl (by decide) rfl (fun ls hl => ?_)
      refine lv_iconst (v := 0) E.hx E.hb dX7_guesses_37 (by decide) ?_
      refine lv_istore (lv' := [(5, .int 0), (4, .int 0), (0, .ref (ad 0)), (1, .int x1), (2, .int x2), (3, .int x3)]) E.hx E.hb dX7_guesses_38 hl (by decide) rfl (fun ls hl => ?_)
      obtain ⟨q_11, e_12, h⟩ := obind h
      refine w_X7_guesses_L40 E K0 N FU P S e_12 (lv_sub hl [2, 3, 4, 5, 1, 0] rfl) (fun {H locs} P S {ls} hl => ?_)
      refine lv_iload E.hx E.hb dX7_guesses_96 (lv_at hl 0 rfl) ?_
      cases h
      exact W.iret E.hx E.hb E.hr (fun t ht _ => ⟨rfl, by rw [ht]; exact P, S.F ht⟩) S.2.2 dX7_guesses_98 E.hk
    · rw [if_pos c_4] at h
      exact w_X7_guesses_J28 E K0 N P S h (lv_sub hl [0] rfl)
theorem c_X7_guesses (l : Launch) {H : Heap} {D : va_G} {cyI : ClassId} {ad : Nat → Nat} {I : Nat → Int32} {A : Nat → Nat → Int32} (N : AdN 16 ad) (P : va_P D classes (mw cyI ad I A) H) (x1 x2 x3 : Int32) {out : Int32 × (Nat → Int32) × (Nat → Nat → Int32)} (h : B_X7_guesses I A x1 x2 x3 = some out) : MRW l yX7_guesses cX7_guesses 6 (some .int) 2 [.ref (ad 0), .int x1, .int x2, .int x3] H (KM D cyI) (InN 16 ad) (some (.int out.1)) (fun H1 => va_P D classes (mw cyI ad out.2.1 out.2.2) H1) := by
  refine Mof (own := RX7) (by decide +kernel) rfl rfl ?_
  intro p e s m args below meth c ls E hH K0 hl
  subst hH
  exact w_X7_guesses E K0 N P va_S.rf h hl
theorem ds_X7_guesses : Dsc yX7_guesses 3 := ⟨by decide +kernel, by decide +kernel, by decide +kernel⟩
end
end WALK

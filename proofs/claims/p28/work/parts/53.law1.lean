def R_law : String := "NemaGridLaw"
def lw_P (b : Addr) (xs : List Int32) (args : Array Value) (s : State) : Prop := args = #[.ref b] ∧ s.IntsAt b xs ∧ xs.length ≤ 260 ∧ (Jvm.Cond.and given_1 narrow_1).before args s = true
def lw_Q (_ : Array Value) (s : State) (o : Outcome) (t : State) : Prop := o = .returned (some (.int 1)) ∧ Framed s o t [] 600086 7301441
def lw_Z (below : List Frame) (a : Array Value) (s : State) : State → Prop := fun t => ∃ o, t.status = .running ∧ Ended t below o ∧ lw_Q a s o t
/-- the law's own end, with 1 on the stack, nothing written that was there before, its room as the claim has it -/
theorem lw_ret {p : Program} {l : Launch} {e : Env} {s : State} {m : MethodId} {below : List Frame} {meth : Method} {c : Code} {b : Nat} (hx : p.tables.exec = Jvm.exec) (hb : c.code = code) (hr : meth.sig.returnType = ret) (hlocks : meth.locks = false) {pc : Nat} {H : Heap} {ls : Array Slot} (hdg : decode code pc = .ok (.ireturn, 1)) : W p l e room_1 s m #[Value.ref b] below meth c H [] 600086 7301441 (lw_Z below #[Value.ref b] s) (F0 m pc ls [.int 1]) := by
  intro T hT X
  obtain ⟨fs, hret, hrun, hended, hW, hframe⟩ := X.leave (v := some (.int 1)) (hlocks := hlocks) (fun h => by rw [hr] at h; cases h)
  have hmeth' : T.vm.method? m = some meth := X.method'
  refine ⟨T.setFrames fs, ?_, .returned (some (.int 1)), hrun, hended, rfl, ⟨_, rfl⟩, hW, hframe⟩
  jvm_step X.here [X.here.top, hx, hb, hdg, hmeth', hr, ret, narrow_b1]
  (try refine ⟨rfl, ?_⟩); (try refine ⟨rfl, ?_⟩)
  first | (intro acts; rw [hret _ acts rfl rfl rfl]) | rw [hret _ _ rfl rfl rfl]
  exact Steps.refl _
/-- what holds at the law's entry: the machine, the code, the tables' words (any of lw_tbl by 'hts w (by decide +kernel)'), the script of L ints xs at the cell b, what the Statement gives of the start (any of its parts by flat_of_before) -/
def lw_At (p : Program) (s : State) (m : MethodId) (meth : Method) (c : Code) (b L : Nat) (xs : Nat → Int32) : Prop :=
  p.tables.exec = Jvm.exec ∧ c.code = code ∧ meth.sig.returnType = ret ∧ c.maxLocals = 28 ∧ s.vm.findClass R_law = some m.cls ∧ (∀ w ∈ lw_tbl, w.before #[Value.ref b] s = true) ∧ va_X b L xs s s.heap ∧ b < s.heap.size ∧ meth.locks = false ∧ (Jvm.Cond.and given_1 narrow_1).before #[Value.ref b] s = true
section LAWC
/-- the law's four arrays -/
def aw (cyI : ClassId) (ad : Nat → Nat) (B : Nat → Nat → Int32) : va_W := [(ad 44, .inl (cyI, 8, .inl (B 0))), (ad 45, .inl (cyI, 8, .inl (B 1))), (ad 46, .inl (cyI, 8, .inl (B 2))), (ad 47, .inl (cyI, 8, .inl (B 3)))]
/-- the class's cells and the law's -/
def lwd (cyI : ClassId) (ad : Nat → Nat) (I : Nat → Int32) (A B : Nat → Nat → Int32) : va_W := cw cyI ad I A ++ aw cyI ad B
theorem lwd_D {cyI : ClassId} {ad : Nat → Nat} (N : AdN 48 ad) (I : Nat → Int32) (A B : Nat → Nat → Int32) : va_D (InN 48 ad) (lwd cyI ad I A B) := wD_of rfl N
theorem aw_in {cyI : ClassId} {ad : Nat → Nat} {B : Nat → Nat → Int32} {k : Nat} {q : Nat × va_E} (h : (aw cyI ad B)[k]? = some q) : ∃ i, 44 ≤ i ∧ i < 48 ∧ q.1 = ad i := by
  match k with
  | 0 => cases h; exact ⟨44, by omega, by omega, rfl⟩
  | 1 => cases h; exact ⟨45, by omega, by omega, rfl⟩
  | 2 => cases h; exact ⟨46, by omega, by omega, rfl⟩
  | 3 => cases h; exact ⟨47, by omega, by omega, rfl⟩
  | k + 4 => cases h
theorem aw_s0 {cyI : ClassId} {ad : Nat → Nat} {I : Nat → Int32} {A B : Nat → Nat → Int32} (g : Nat → Int32) : (lwd cyI ad I A B).set 44 (ad 44, .inl (cyI, 8, .inl g)) = lwd cyI ad I A (va_up B 0 g) := rfl
theorem aw_s1 {cyI : ClassId} {ad : Nat → Nat} {I : Nat → Int32} {A B : Nat → Nat → Int32} (g : Nat → Int32) : (lwd cyI ad I A B).set 45 (ad 45, .inl (cyI, 8, .inl g)) = lwd cyI ad I A (va_up B 1 g) := rfl
theorem aw_s2 {cyI : ClassId} {ad : Nat → Nat} {I : Nat → Int32} {A B : Nat → Nat → Int32} (g : Nat → Int32) : (lwd cyI ad I A B).set 46 (ad 46, .inl (cyI, 8, .inl g)) = lwd cyI ad I A (va_up B 2 g) := rfl
theorem aw_s3 {cyI : ClassId} {ad : Nat → Nat} {I : Nat → Int32} {A B : Nat → Nat → Int32} (g : Nat → Int32) : (lwd cyI ad I A B).set 47 (ad 47, .inl (cyI, 8, .inl g)) = lwd cyI ad I A (va_up B 3 g) := rfl
/-- what stays as it is, in the law -/
def LW (p : Program) (l : Launch) (s : State) (m : MethodId) (args : Array Value) (meth : Method) (c : Code) (D : va_G) (cyI : ClassId) (ad : Nat → Nat) (b L : Nat) (xs : Nat → Int32) : Prop :=
  EX p s m args meth c code 28 RL ret ∧ va_X b L xs s s.heap ∧ b < s.heap.size ∧ AdN 48 ad ∧ (∀ q, InN 48 ad q → s.heap.size ≤ q) ∧ KCg D cyI (fun q => s.heap.size ≤ q) s s.heap ∧ L ≤ 260
/-- where things stand, in the law -/
def LT (s : State) (D : va_G) (cyI : ClassId) (ad : Nat → Nat) (I : Nat → Int32) (A B : Nat → Nat → Int32) (H : Heap) (locs : List Loc) : Prop :=
  va_P D classes (lwd cyI ad I A B) H ∧ va_S (fun q => s.heap.size ≤ q) s.heap H locs
section
variable {p : Program} {l : Launch} {e : Env} {R : Room} {s : State} {m : MethodId} {args : Array Value} {below : List Frame} {meth : Method} {c : Code} {D : va_G} {cyI : ClassId} {ad : Nat → Nat} {b L : Nat} {xs : Nat → Int32} {I : Nat → Int32} {A B : Nat → Nat → Int32} {H : Heap} {locs : List Loc}
theorem LW.E (C : LW p l s m args meth c D cyI ad b L xs) : EX p s m args meth c code 28 RL ret := C.1
theorem LW.n48 (C : LW p l s m args meth c D cyI ad b L xs) : AdN 48 ad := C.2.2.2.1
theorem LW.n44 (C : LW p l s m args meth c D cyI ad b L xs) : AdN 44 ad := fun i j hi hj e => C.2.2.2.1 i j (by omega) (by omega) e
theorem LW.r48 (C : LW p l s m args meth c D cyI ad b L xs) : ∀ q, InN 48 ad q → s.heap.size ≤ q := C.2.2.2.2.1
theorem LW.r44 (C : LW p l s m args meth c D cyI ad b L xs) : ∀ q, InN 44 ad q → s.heap.size ≤ q := fun q ⟨i, hi, e⟩ => C.r48 q ⟨i, by omega, e⟩
theorem LW.kg (C : LW p l s m args meth c D cyI ad b L xs) : KCg D cyI (fun q => s.heap.size ≤ q) s s.heap := C.2.2.2.2.2.1
theorem LW.hL (C : LW p l s m args meth c D cyI ad b L xs) : L < 2 ^ 31 := by have := C.2.2.2.2.2.2; omega
theorem LW.hX (C : LW p l s m args meth c D cyI ad b L xs) : va_X b L xs s s.heap := C.2.1
theorem LW.hb (C : LW p l s m args meth c D cyI ad b L xs) : b < s.heap.size := C.2.2.1
theorem LT.pc (T : LT s D cyI ad I A B H locs) : va_P D classes (cw cyI ad I A) H := P_left T.1
theorem LT.pa (T : LT s D cyI ad I A B H locs) : va_P D classes (aw cyI ad B) H := P_right T.1
theorem LT.sS (T : LT s D cyI ad I A B H locs) : va_S (fun q => s.heap.size ≤ q) s.heap H locs := T.2
/-- behind a call of the class -/
theorem LT.next {I' : Nat → Int32} {A' : Nat → Nat → Int32} {H1 : Heap} {locs1 : List Loc} (T : LT s D cyI ad I A B H locs) (C : LW p l s m args meth c D cyI ad b L xs) (P : va_P D classes (cw cyI ad I' A') H1) (hk : ∀ q : Nat, q < H.size → ¬ InN 44 ad q → H1[q]? = H[q]?) (S : va_S (fun q => s.heap.size ≤ q) s.heap H1 locs1) : LT s D cyI ad I' A' B H1 locs1 := by
  refine ⟨P_app P (P_keep T.pa hk fun k q hq => ?_), S⟩
  obtain ⟨i, h1, h2, e⟩ := aw_in hq
  rintro ⟨j, hj, e2⟩
  have := C.n48 i j h2 (by omega) (e.symm.trans e2)
  omega
theorem LW.xH (C : LW p l s m args meth c D cyI ad b L xs) (T : LT s D cyI ad I A B H locs) : va_X b L xs s H := C.hX.kept (T.sS.2.1 b C.hb (Nat.not_le.mpr C.hb))
end
/-! the law's own methods -/
def KX1 (b L : Nat) (xs : Nat → Int32) : Ctx := fun U H => va_X b L xs U H
theorem KX1_blind {b L : Nat} {xs : Nat → Int32} : Blind (KX1 b L xs) := fun _ _ _ hv h => va_X.moved (alike_eq hv) h
def KT1 : Ctx := fun _ _ => True
theorem KT1_blind : Blind KT1 := fun _ _ _ _ _ => trivial
def B_L_cell (L : Nat) (xs : Nat → Int32) (x1 : Int32) : Option Int32 := if nI L ≤ x1 then some (1799596469 * (x1 + 1)) else (if x1 < 0 then none else some (xs x1.toNatClampNeg))
def ush (x : Int32) : Int32 := (x.toUInt32 >>> ((1 : Int32).toUInt32 &&& Int32.toUInt32 31)).toInt32
def B_L_at (x0 x1 : Int32) : Option Int32 := if x1 = 0 then none else some (ush x0 - ush x0 / x1 * x1)
set_option maxHeartbeats 4000000 in
theorem c_L_cell (l : Launch) {H : Heap} {b L : Nat} {xs : Nat → Int32} (hL : L < 2 ^ 31) (x1 : Int32) {out : Int32} (h : B_L_cell L xs x1 = some out) : MRO l yL_cell cL_cell 2 (some .int) 0 [.ref b, .int x1] H (KX1 b L xs) out := by
  refine Mof (own := RL) (by decide +kernel) rfl rfl ?_
  intro p e s m args below meth c ls E hH K0 hl
  subst hH
  have hl : lv_has ls 2 [(0, .ref b), (1, .int x1)] := hl
  have hX : va_X b L xs s s.heap := K0
  have hbl : b < s.heap.size := by
    obtain ⟨scr, h1, -⟩ := hX
    exact (Array.getElem?_eq_some_iff.mp h1).1
  have S : va_S (fun _ => False) s.heap s.heap [] := va_S.rf
  unfold B_L_cell at h
  refine lv_iload_n E.hx E.hb dL_cell_0 rfl (lv_at hl 1 rfl) ?_
  refine lv_aload_n E.hx E.hb dL_cell_1 rfl (lv_at hl 0 rfl) ?_
  refine va_slen E.hx E.hb hX hbl (fun h => h) S dL_cell_2 ?_
  refine lv_icmp_ge (tgt := 12) E.hx E.hb dL_cell_3 (by decide) (fun c_1 => ?_) (fun c_1 => ?_)
  · rw [if_pos (show nI L ≤ x1 from c_1)] at h
    refine lv_ldc (v := 1799596469) E.hx E.hb E.ho (E.ht _ kCN_L_7) dL_cell_12 ?_
    refine lv_iload_n E.hx E.hb dL_cell_14 rfl (lv_at hl 1 rfl) ?_
    refine lv_iconst (v := 1) E.hx E.hb dL_cell_15 (by decide) ?_
    refine lv_iadd E.hx E.hb dL_cell_16 ?_
    refine lv_imul E.hx E.hb dL_cell_17 ?_
    exact W.iret E.hx E.hb E.hr (fun t ht _ => ⟨_, rfl, Option.some.inj h, ht⟩) (fun q hq => nomatch hq) dL_cell_18 E.hk
  · rw [if_neg (show ¬ nI L ≤ x1 from c_1)] at h
    by_cases c_2 : x1 < 0
    · rw [if_pos c_2] at h
      exact nomatch h
    rw [if_neg c_2] at h
    have hin : vp_in x1 L := by
      obtain ⟨k, hk, rfl⟩ := nI_of c_2
      have c_1 : ¬ nI L ≤ nI k := c_1
      rw [nI_leI hL hk] at c_1
      exact vp_in_nI (by omega) hL
    refine lv_aload_n E.hx E.hb dL_cell_6 rfl (lv_at hl 0 rfl) ?_
    refine lv_iload_n E.hx E.hb dL_cell_7 rfl (lv_at hl 1 rfl) ?_
    refine va_sld E.hx E.hb hX hbl (fun h => h) S hin dL_cell_8 ?_
    refine lv_goto (tgt := 18) E.hx E.hb dL_cell_9 (by decide) ?_
    exact W.iret E.hx E.hb E.hr (fun t ht _ => ⟨_, rfl, Option.some.inj h, ht⟩) (fun q hq => nomatch hq) dL_cell_18 E.hk
theorem ds_L_cell : Dsc yL_cell 2 := ⟨by decide +kernel, by decide +kernel, by decide +kernel⟩
set_option maxHeartbeats 4000000 in
theorem c_L_at (l : Launch) {H : Heap} (x0 x1 : Int32) {out : Int32} (h : B_L_at x0 x1 = some out) : MRO l yL_at cL_at 2 (some .int) 0 [.int x0, .int x1] H KT1 out := by
  refine Mof (own := RL) (by decide +kernel) rfl rfl ?_
  intro p e s m args below meth c ls E hH K0 hl
  subst hH
  have hl : lv_has ls 2 [(0, .int x0), (1, .int x1)] := hl
  unfold B_L_at at h
  by_cases c_1 : x1 = 0
  · rw [if_pos c_1] at h
    exact nomatch h
  rw [if_neg c_1] at h
  refine lv_iload_n E.hx E.hb dL_at_0 rfl (lv_at hl 0 rfl) ?_
  refine lv_iconst (v := 1) E.hx E.hb dL_at_1 (by decide) ?_
  refine lv_iushr (v := ush x0) E.hx E.hb dL_at_2 rfl ?_
  refine lv_iload_n E.hx E.hb dL_at_3 rfl (lv_at hl 1 rfl) ?_
  refine lv_irem E.hx E.hb dL_at_4 c_1 ?_
  exact W.iret E.hx E.hb E.hr (fun t ht _ => ⟨_, rfl, Option.some.inj h, ht⟩) (fun q hq => nomatch hq) dL_at_5 E.hk
theorem ds_L_at : Dsc yL_at 2 := ⟨by decide +kernel, by decide +kernel, by decide +kernel⟩
section
variable {p : Program} {l : Launch} {e : Env} {R : Room} {s : State} {m : MethodId} {args : Array Value} {below : List Frame} {meth : Method} {c : Code} {D : va_G} {cyI : ClassId} {ad : Nat → Nat} {b L pc : Nat} {xs : Nat → Int32} {I : Nat → Int32} {A B : Nat → Nat → Int32} {H : Heap} {locs : List Loc} {cells slots : Nat} {Q : State → Prop} {ls : Array Slot} {rest : List Value}
theorem lr_cell {S0 : Nat → Prop} (E : EX p s m args meth c code 28 RL ret) (hL : L < 2 ^ 31) (hX : va_X b L xs s H) {a0 v : Int32} (hv : B_L_cell L xs a0 = some v) (hR : RmOk R cells slots 0 2) (hls : ls.size = 28) (hro : (rest.map fun v => v.category).sum ≤ 8) (hdg : decode code pc = .ok (.invokestatic 11, 3)) (kk : W p l e R s m args below meth c H locs cells slots Q (F0 m (pc + 3) ls (.int v :: rest))) : W p l e R s m args below meth c H locs cells slots Q (F0 m pc ls (.int a0 :: .ref b :: rest)) :=
  cs_ro E (c_L_cell l hL a0 hv) (gS kML_L_11 kST_L_cell kIN_L kCO_L_cell) rfl ds_L_cell rfl KX1_blind (fun U _ hW => va_X.moved hW.alike hX) hR hls rfl hro hdg kk
theorem lr_at (E : EX p s m args meth c code 28 RL ret) {a0 a1 v : Int32} (hv : B_L_at a0 a1 = some v) (hR : RmOk R cells slots 0 2) (hls : ls.size = 28) (hro : (rest.map fun v => v.category).sum ≤ 8) (hdg : decode code pc = .ok (.invokestatic 18, 3)) (kk : W p l e R s m args below meth c H locs cells slots Q (F0 m (pc + 3) ls (.int v :: rest))) : W p l e R s m args below meth c H locs cells slots Q (F0 m pc ls (.int a1 :: .int a0 :: rest)) :=
  cs_ro E (c_L_at l a0 a1 hv) (gS kML_L_18 kST_L_at kIN_L kCO_L_at) rfl ds_L_at rfl KT1_blind (fun U _ _ => trivial) hR hls rfl hro hdg kk
theorem lc_cell (C : LW p l s m #[Value.ref b] meth c D cyI ad b L xs) (T : LT s D cyI ad I A B H locs) {a0 v : Int32} (hv : B_L_cell L xs a0 = some v) (hls : ls.size = 28) (hro : (rest.map fun v => v.category).sum ≤ 8) (hdg : decode code pc = .ok (.invokestatic 11, 3)) (kk : W p l e room_1 s m #[Value.ref b] below meth c H locs 48 2539 Q (F0 m (pc + 3) ls (.int v :: rest))) : W p l e room_1 s m #[Value.ref b] below meth c H locs 48 2539 Q (F0 m pc ls (.int a0 :: .ref b :: rest)) :=
  lr_cell (S0 := fun _ => False) C.E C.hL (C.xH T) hv ⟨Nat.le_of_ble_eq_true rfl, Nat.le_of_ble_eq_true rfl, Nat.le_of_ble_eq_true rfl, Nat.le_of_ble_eq_true rfl⟩ hls hro hdg kk
theorem lc_at (C : LW p l s m #[Value.ref b] meth c D cyI ad b L xs) {a0 a1 v : Int32} (hv : B_L_at a0 a1 = some v) (hls : ls.size = 28) (hro : (rest.map fun v => v.category).sum ≤ 8) (hdg : decode code pc = .ok (.invokestatic 18, 3)) (kk : W p l e room_1 s m #[Value.ref b] below meth c H locs 48 2539 Q (F0 m (pc + 3) ls (.int v :: rest))) : W p l e room_1 s m #[Value.ref b] below meth c H locs 48 2539 Q (F0 m pc ls (.int a1 :: .int a0 :: rest)) :=
  lr_at C.E hv ⟨Nat.le_of_ble_eq_true rfl, Nat.le_of_ble_eq_true rfl, Nat.le_of_ble_eq_true rfl, Nat.le_of_ble_eq_true rfl⟩ hls hro hdg kk
theorem la_0 (C : LW p l s m args meth c D cyI ad b L xs) (T : LT s D cyI ad I A B H locs) {i v : Int32} (h : rd (B 0) 8 i = some v) (hdg : decode code pc = .ok (.iaload, 1)) (kk : W p l e R s m args below meth c H locs cells slots Q (F0 m (pc + 1) ls (.int v :: rest))) : W p l e R s m args below meth c H locs cells slots Q (F0 m pc ls (.int i :: .ref (ad 44) :: rest)) := by
  obtain ⟨h1, rfl⟩ := rd_some h
  exact va_iald C.E.hx C.E.hb C.kg.k T.pa 0 0 rfl rfl h1 hdg kk
theorem ls_0 (C : LW p l s m args meth c D cyI ad b L xs) (T : LT s D cyI ad I A B H locs) {i v : Int32} {g : Nat → Int32} (h : wr (B 0) 8 i v = some g) (hdg : decode code pc = .ok (.iastore, 1)) (kk : ∀ (H1 : Heap) (locs1 : List Loc), LT s D cyI ad I A (va_up B 0 g) H1 locs1 → W p l e R s m args below meth c H1 locs1 cells slots Q (F0 m (pc + 1) ls rest)) : W p l e R s m args below meth c H locs cells slots Q (F0 m pc ls (.int v :: .int i :: .ref (ad 44) :: rest)) := by
  obtain ⟨h1, rfl⟩ := wr_some h
  exact va_iast C.E.hx C.E.hb C.kg.k T.1 (D_mono (lwd_D C.n48 I A B) C.r48) T.sS 44 0 rfl rfl h1 hdg (fun H1 l1 hP _ hS => kk H1 l1 ⟨by rw [← aw_s0]; exact hP, hS⟩)
theorem la_1 (C : LW p l s m args meth c D cyI ad b L xs) (T : LT s D cyI ad I A B H locs) {i v : Int32} (h : rd (B 1) 8 i = some v) (hdg : decode code pc = .ok (.iaload, 1)) (kk : W p l e R s m args below meth c H locs cells slots Q (F0 m (pc + 1) ls (.int v :: rest))) : W p l e R s m args below meth c H locs cells slots Q (F0 m pc ls (.int i :: .ref (ad 45) :: rest)) := by
  obtain ⟨h1, rfl⟩ := rd_some h
  exact va_iald C.E.hx C.E.hb C.kg.k T.pa 1 0 rfl rfl h1 hdg kk
theorem ls_1 (C : LW p l s m args meth c D cyI ad b L xs) (T : LT s D cyI ad I A B H locs) {i v : Int32} {g : Nat → Int32} (h : wr (B 1) 8 i v = some g) (hdg : decode code pc = .ok (.iastore, 1)) (kk : ∀ (H1 : Heap) (locs1 : List Loc), LT s D cyI ad I A (va_up B 1 g) H1 locs1 → W p l e R s m args below meth c H1 locs1 cells slots Q (F0 m (pc + 1) ls rest)) : W p l e R s m args below meth c H locs cells slots Q (F0 m pc ls (.int v :: .int i :: .ref (ad 45) :: rest)) := by
  obtain ⟨h1, rfl⟩ := wr_some h
  exact va_iast C.E.hx C.E.hb C.kg.k T.1 (D_mono (lwd_D C.n48 I A B) C.r48) T.sS 45 0 rfl rfl h1 hdg (fun H1 l1 hP _ hS => kk H1 l1 ⟨by rw [← aw_s1]; exact hP, hS⟩)
theorem la_2 (C : LW p l s m args meth c D cyI ad b L xs) (T : LT s D cyI ad I A B H locs) {i v : Int32} (h : rd (B 2) 8 i = some v) (hdg : decode code pc = .ok (.iaload, 1)) (kk : W p l e R s m args below meth c H locs cells slots Q (F0 m (pc + 1) ls (.int v :: rest))) : W p l e R s m args below meth c H locs cells slots Q (F0 m pc ls (.int i :: .ref (ad 46) :: rest)) := by
  obtain ⟨h1, rfl⟩ := rd_some h
  exact va_iald C.E.hx C.E.hb C.kg.k T.pa 2 0 rfl rfl h1 hdg kk
theorem ls_2 (C : LW p l s m args meth c D cyI ad b L xs) (T : LT s D cyI ad I A B H locs) {i v : Int32} {g : Nat → Int32} (h : wr (B 2) 8 i v = some g) (hdg : decode code pc = .ok (.iastore, 1)) (kk : ∀ (H1 : Heap) (locs1 : List Loc), LT s D cyI ad I A (va_up B 2 g) H1 locs1 → W p l e R s m args below meth c H1 locs1 cells slots Q (F0 m (pc + 1) ls rest)) : W p l e R s m args below meth c H locs cells slots Q (F0 m pc ls (.int v :: .int i :: .ref (ad 46) :: rest)) := by
  obtain ⟨h1, rfl⟩ := wr_some h
  exact va_iast C.E.hx C.E.hb C.kg.k T.1 (D_mono (lwd_D C.n48 I A B) C.r48) T.sS 46 0 rfl rfl h1 hdg (fun H1 l1 hP _ hS => kk H1 l1 ⟨by rw [← aw_s2]; exact hP, hS⟩)
theorem la_3 (C : LW p l s m args meth c D cyI ad b L xs) (T : LT s D cyI ad I A B H locs) {i v : Int32} (h : rd (B 3) 8 i = some v) (hdg : decode code pc = .ok (.iaload, 1)) (kk : W p l e R s m args below meth c H locs cells slots Q (F0 m (pc + 1) ls (.int v :: rest))) : W p l e R s m args below meth c H locs cells slots Q (F0 m pc ls (.int i :: .ref (ad 47) :: rest)) := by
  obtain ⟨h1, rfl⟩ := rd_some h
  exact va_iald C.E.hx C.E.hb C.kg.k T.pa 3 0 rfl rfl h1 hdg kk
theorem ls_3 (C : LW p l s m args meth c D cyI ad b L xs) (T : LT s D cyI ad I A B H locs) {i v : Int32} {g : Nat → Int32} (h : wr (B 3) 8 i v = some g) (hdg : decode code pc = .ok (.iastore, 1)) (kk : ∀ (H1 : Heap) (locs1 : List Loc), LT s D cyI ad I A (va_up B 3 g) H1 locs1 → W p l e R s m args below meth c H1 locs1 cells slots Q (F0 m (pc + 1) ls rest)) : W p l e R s m args below meth c H locs cells slots Q (F0 m pc ls (.int v :: .int i :: .ref (ad 47) :: rest)) := by
  obtain ⟨h1, rfl⟩ := wr_some h
  exact va_iast C.E.hx C.E.hb C.kg.k T.1 (D_mono (lwd_D C.n48 I A B) C.r48) T.sS 47 0 rfl rfl h1 hdg (fun H1 l1 hP _ hS => kk H1 l1 ⟨by rw [← aw_s3]; exact hP, hS⟩)
end
end LAWC

section BASE
/-! the words that every method may use: the good ones of the tables -/
def TA : List Cond := lw_tbl.filter goodWord
theorem ta {w : Cond} (i : Nat) (h : lw_tbl[i]? = some w) (g : goodWord w = true) : w ∈ TA := List.mem_filter.mpr ⟨List.mem_of_getElem? h, g⟩
theorem ta_in {w : Cond} (h : w ∈ TA) : w ∈ lw_tbl := (List.mem_filter.mp h).1
theorem ta_good {w : Cond} (h : w ∈ TA) : goodWord w = true := (List.mem_filter.mp h).2
theorem gi_ta : GoodIn TA TA := fun _ h => ⟨h, good_of_word (ta_good h)⟩
theorem gi_c {big ws : List Cond} {w : Cond} (h : w ∈ big ∧ goodWord w = true) (t : GoodIn big ws) : GoodIn big (w :: ws) := fun x hx => (List.mem_cons.mp hx).elim (fun e => by rw [e]; exact ⟨h.1, good_of_word h.2⟩) (t x)
theorem ta2 {w : Cond} (h : w ∈ TA) : w ∈ TA ∧ goodWord w = true := ⟨h, ta_good h⟩
theorem gV {own C : String} {idx n : Nat} {y : MethodName} {b : ByteArray} {r : Option FieldType} (h1 : Cond.methodLink own idx y ∈ TA) (h2 : Cond.instanceMethod y ∈ TA) (h3 : Cond.selects C y y ∈ TA) (h4 : Cond.initialized C ∈ TA) (h5 : Cond.code y b n r ∈ TA) : GoodIn TA (wsV own idx C y (.code y b n r :: TA)) :=
  gi_c (ta2 h1) (gi_c (ta2 h2) (gi_c (ta2 h3) (gi_c (ta2 h4) (gi_c (ta2 h5) gi_ta))))
theorem gS {own : String} {idx n : Nat} {y : MethodName} {b : ByteArray} {r : Option FieldType} (h1 : Cond.methodLink own idx y ∈ TA) (h2 : Cond.static y ∈ TA) (h4 : Cond.initialized own ∈ TA) (h5 : Cond.code y b n r ∈ TA) : GoodIn TA (wsS own idx y (.code y b n r :: TA)) :=
  gi_c (ta2 h1) (gi_c (ta2 h2) (gi_c (ta2 h4) (gi_c (ta2 h5) gi_ta)))
theorem gC {n : Nat} {y : MethodName} {b : ByteArray} {r : Option FieldType} (h5 : Cond.code y b n r ∈ TA) : GoodIn TA (.code y b n r :: TA) := gi_c (ta2 h5) gi_ta

/-! a body's surroundings -/
def EX (p : Program) (s : State) (m : MethodId) (args : Array Value) (meth : Method) (c : Code) (cc : ByteArray) (nL : Nat) (own : String) (ret : Option FieldType) : Prop :=
  p.tables.exec = Jvm.exec ∧ c.code = cc ∧ c.maxLocals = nL ∧ s.vm.findClass own = some m.cls ∧ (∀ w ∈ TA, w.before args s = true) ∧ meth.sig.returnType = ret ∧ meth.locks = false
theorem EX.hx {p : Program} {s : State} {m : MethodId} {args : Array Value} {meth : Method} {c : Code} {cc : ByteArray} {nL : Nat} {own : String} {ret : Option FieldType} (E : EX p s m args meth c cc nL own ret) : p.tables.exec = Jvm.exec := E.1
theorem EX.hb {p : Program} {s : State} {m : MethodId} {args : Array Value} {meth : Method} {c : Code} {cc : ByteArray} {nL : Nat} {own : String} {ret : Option FieldType} (E : EX p s m args meth c cc nL own ret) : c.code = cc := E.2.1
theorem EX.hm {p : Program} {s : State} {m : MethodId} {args : Array Value} {meth : Method} {c : Code} {cc : ByteArray} {nL : Nat} {own : String} {ret : Option FieldType} (E : EX p s m args meth c cc nL own ret) : c.maxLocals = nL := E.2.2.1
theorem EX.ho {p : Program} {s : State} {m : MethodId} {args : Array Value} {meth : Method} {c : Code} {cc : ByteArray} {nL : Nat} {own : String} {ret : Option FieldType} (E : EX p s m args meth c cc nL own ret) : s.vm.findClass own = some m.cls := E.2.2.2.1
theorem EX.ht {p : Program} {s : State} {m : MethodId} {args : Array Value} {meth : Method} {c : Code} {cc : ByteArray} {nL : Nat} {own : String} {ret : Option FieldType} (E : EX p s m args meth c cc nL own ret) : ∀ w ∈ TA, w.before args s = true := E.2.2.2.2.1
theorem EX.hr {p : Program} {s : State} {m : MethodId} {args : Array Value} {meth : Method} {c : Code} {cc : ByteArray} {nL : Nat} {own : String} {ret : Option FieldType} (E : EX p s m args meth c cc nL own ret) : meth.sig.returnType = ret := E.2.2.2.2.2.1
theorem EX.hk {p : Program} {s : State} {m : MethodId} {args : Array Value} {meth : Method} {c : Code} {cc : ByteArray} {nL : Nat} {own : String} {ret : Option FieldType} (E : EX p s m args meth c cc nL own ret) : meth.locks = false := E.2.2.2.2.2.2
theorem EX.fix {p : Program} {s : State} {m : MethodId} {args : Array Value} {meth : Method} {c : Code} {cc : ByteArray} {nL : Nat} {own : String} {ret : Option FieldType} (E : EX p s m args meth c cc nL own ret) : CallFix p m c cc nL s args TA own := ⟨E.hx, E.hb, E.hm, E.ho, E.ht⟩
abbrev rmL (k : Nat) : Room := { frames := k, cells := 0, slots := 0, locals := 40 * k }
abbrev rmX (k : Nat) : Room := { frames := k, cells := 1, slots := 6, locals := 40 * k }

/-! arrays and options -/
def rd (f : Nat → Int32) (n : Nat) (i : Int32) : Option Int32 := if i < 0 ∨ n ≤ i.toNatClampNeg then none else some (f i.toNatClampNeg)
def wr (f : Nat → Int32) (n : Nat) (i v : Int32) : Option (Nat → Int32) := if i < 0 ∨ n ≤ i.toNatClampNeg then none else some (upd f i.toNatClampNeg v)
theorem rd_some {f : Nat → Int32} {n : Nat} {i v : Int32} (h : rd f n i = some v) : vp_in i n ∧ f i.toNatClampNeg = v := by
  unfold rd at h
  by_cases c : i < 0 ∨ n ≤ i.toNatClampNeg
  · rw [if_pos c] at h; cases h
  · rw [if_neg c] at h; exact ⟨c, Option.some.inj h⟩
theorem wr_some {f g : Nat → Int32} {n : Nat} {i v : Int32} (h : wr f n i v = some g) : vp_in i n ∧ upd f i.toNatClampNeg v = g := by
  unfold wr at h
  by_cases c : i < 0 ∨ n ≤ i.toNatClampNeg
  · rw [if_pos c] at h; cases h
  · rw [if_neg c] at h; exact ⟨c, Option.some.inj h⟩
theorem obind {α β : Type} {x : Option α} {f : α → Option β} {b : β} (h : x.bind f = some b) : ∃ a, x = some a ∧ f a = some b := by
  cases x with
  | none => cases h
  | some a => exact ⟨a, rfl, h⟩
/-- how many turns a loop may take -/
def FU : Nat := 2000
/-- a cell of a row that looks at its index -/
def rAt (n : Nat) (f : Nat → Int32) (i : Int32) : Int32 := if i < 0 then 0 else if Int32.ofNat n ≤ i then 0 else f i.toNatClampNeg
def rPut (n : Nat) (f : Nat → Int32) (i v : Int32) : Nat → Int32 := if i < 0 then f else if Int32.ofNat n ≤ i then f else upd f i.toNatClampNeg v
def rFill (n : Nat) (f : Nat → Int32) (v : Int32) : Nat → Int32 := fun j => if j < n then v else f j

/-! contracts -/
abbrev Ctx : Type := State → Heap → Prop
def PX (As : List Value) (H : Heap) (KX : Ctx) : Array Value → State → Prop := va_Pc As (fun U => U.heap = H ∧ KX U H)
def Blind (KX : Ctx) : Prop := ∀ (u U : State) (H : Heap), U.vm = u.vm → KX u H → KX U H
theorem PX_blind {As : List Value} {H : Heap} {KX : Ctx} (hK : Blind KX) : FrameBlind (PX As H KX) := fun a U g mk h => ⟨h.1, h.2.1, hK U _ H rfl h.2.2⟩
abbrev MRO (l : Launch) (y : MethodName) (b : ByteArray) (n : Nat) (r : Option FieldType) (k : Nat) (As : List Value) (H : Heap) (KX : Ctx) (v : Int32) : Prop :=
  Met l y (.code y b n r :: TA) (rmL k) (PX As H KX) (vp_Si (fun z => z = v)) 0 0 (fun _ => False)
def Qrw (A : Nat → Prop) (v : Option Value) (P1 : Heap → Prop) : Array Value → State → Outcome → State → Prop := fun _ st o t => o = .returned v ∧ P1 t.heap ∧ va_F A st t
abbrev MRW (l : Launch) (y : MethodName) (b : ByteArray) (n : Nat) (r : Option FieldType) (k : Nat) (As : List Value) (H : Heap) (KX : Ctx) (A : Nat → Prop) (v : Option Value) (P1 : Heap → Prop) : Prop :=
  Met l y (.code y b n r :: TA) (rmL k) (PX As H KX) (Qrw A v P1) 0 0 A
/-- the room that a call of level k leaves -/
abbrev RmOk (R : Room) (cells slots k n : Nat) : Prop := k + 1 ≤ R.frames ∧ 8 + (n + 11) + 40 * k ≤ R.locals ∧ cells ≤ R.cells ∧ slots ≤ R.slots
section
variable {p : Program} {l : Launch} {e : Env} {R : Room} {s : State} {m : MethodId} {args : Array Value} {below : List Frame} {meth : Method} {c : Code} {H : Heap} {locs : List Loc} {cells slots : Nat} {Q : State → Prop}
variable {cc : ByteArray} {nL pc : Nat} {own : String} {ret : Option FieldType} {ls : Array Slot} {rest st0 : List Value}
theorem ro_calli {v : Int32} {a : Array Value} (hr : va_Run p l e R s m args below meth c H locs cells slots 0 0 (F0 m pc ls st0) rest (vp_Si (fun z => z = v) a) (fun _ => False))
    (kk : W p l e R s m args below meth c H locs cells slots Q (F0 m (pc + 3) ls (.int v :: rest))) : W p l e R s m args below meth c H locs cells slots Q (F0 m pc ls st0) := by
  intro T hT X
  obtain ⟨v1, st₀, t, T', L, h0, X', hL, e1, e2, ⟨r, hv, hp, hh⟩, st⟩ := hr T hT X
  cases hv
  have hp' : r = v := hp
  subst hp'
  obtain ⟨t2, a1, b1⟩ := kk T' (by rw [e1, hh, h0]) (Stand.forget X' (fun q h => (hL q h).elim))
  exact ⟨t2, st t2 a1, b1⟩
theorem rw_call {A : Nat → Prop} {v : Option Value} {P1 : Heap → Prop} {H0 : Heap} {a : Array Value} (hr : va_Run p l e R s m args below meth c H locs cells slots 0 0 (F0 m pc ls st0) rest (Qrw A v P1 a) A) (hS : va_S A H0 H locs)
    (kk : ∀ (H1 : Heap) (locs1 : List Loc), P1 H1 → va_S A H0 H1 locs1 → W p l e R s m args below meth c H1 locs1 cells slots Q (F0 m (pc + 3) ls (v.toList ++ rest))) : W p l e R s m args below meth c H locs cells slots Q (F0 m pc ls st0) := by
  intro T hT X
  obtain ⟨v1, st₀, t, T', L, h0, X', hL, e1, e2, ⟨hv, hp, hz, hk⟩, st⟩ := hr T hT X
  cases hv
  rw [h0] at hz hk
  obtain ⟨t2, a1, b1⟩ := kk T'.heap (locs ++ L) (by rw [e1]; exact hp)
    ⟨Nat.le_trans hS.1 (by rw [e1]; exact hz), fun q h1 h2 => by rw [e1, hk q (Nat.lt_of_lt_of_le h1 hS.1) h2]; exact hS.2.1 q h1 h2, fun q hq => by
      rcases List.mem_append.mp hq with h | h
      · exact hS.2.2 q h
      · exact hL q h⟩ T' rfl X'
  exact ⟨t2, st t2 a1, b1⟩
variable {y : MethodName} {b : ByteArray} {n k idx N o : Nat} {r : Option FieldType} {As : List Value} {KX : Ctx} {C host : String} {v : Int32}
abbrev Recv (s : State) (H : Heap) (o : Nat) (C : String) : Prop := ∃ cell : Cell, H[o]? = some cell ∧ cell.vm.isStatics = false ∧ s.vm.findClass C = some cell.cls
abbrev Dsc (y : MethodName) (N : Nat) : Prop := y.cls ≠ "java/lang/invoke/MethodHandle" ∧ y.cls ≠ "java/lang/invoke/VarHandle" ∧ (parseMethodDescriptor y.desc).map (fun d => d.parameters.length) = some N
theorem cv_ro (E : EX p s m args meth c cc nL own ret) (hM : MRO l y b n r k (.ref o :: As) H KX v) (g : GoodIn TA (wsV own idx C y (.code y b n r :: TA))) (hC : y.cls = C) (hd : Dsc y N) (hN : As.length = N) (hB : Blind KX) (hW : ∀ U : State, U.heap = H → s.WarmedH U.vm → KX U H)
    (hrec : Recv s H o C) (hR : RmOk R cells slots k n) (hls : ls.size = nL) (hst : st0 = As.reverse ++ .ref o :: rest) (hro : (rest.map fun v => v.category).sum ≤ 8) (hdg : decode cc pc = .ok (.invokevirtual idx, 3))
    (kk : W p l e R s m args below meth c H locs cells slots Q (F0 m (pc + 3) ls (.int v :: rest))) : W p l e R s m args below meth c H locs cells slots Q (F0 m pc ls st0) := by
  subst hst
  exact ro_calli (va_runV (As := As) (rest := rest) E.fix hM (cwV N E.ht g rfl rfl rfl ⟨hC, hd⟩ ⟨hR.1, hR.2.1⟩) ⟨PX_blind hB, hrec, fun U hU hW9 => ⟨rfl, hU, hW U hU hW9⟩⟩ rfl hN hls rfl (lv_room hro) hdg ⟨hR.2.2.1, hR.2.2.2⟩) kk
theorem cv_rw {A : Nat → Prop} {v : Option Value} {P1 : Heap → Prop} {H0 : Heap} (E : EX p s m args meth c cc nL own ret) (hM : MRW l y b n r k (.ref o :: As) H KX A v P1) (g : GoodIn TA (wsV own idx C y (.code y b n r :: TA))) (hC : y.cls = C) (hd : Dsc y N) (hN : As.length = N) (hB : Blind KX) (hW : ∀ U : State, U.heap = H → s.WarmedH U.vm → KX U H)
    (hS : va_S A H0 H locs) (hrec : Recv s H o C) (hR : RmOk R cells slots k n) (hls : ls.size = nL) (hst : st0 = As.reverse ++ .ref o :: rest) (hro : (rest.map fun v => v.category).sum ≤ 8) (hdg : decode cc pc = .ok (.invokevirtual idx, 3))
    (kk : ∀ (H1 : Heap) (locs1 : List Loc), P1 H1 → va_S A H0 H1 locs1 → W p l e R s m args below meth c H1 locs1 cells slots Q (F0 m (pc + 3) ls (v.toList ++ rest))) : W p l e R s m args below meth c H locs cells slots Q (F0 m pc ls st0) := by
  subst hst
  exact rw_call (va_runV (As := As) (rest := rest) E.fix hM (cwV N E.ht g rfl rfl rfl ⟨hC, hd⟩ ⟨hR.1, hR.2.1⟩) ⟨PX_blind hB, hrec, fun U hU hW9 => ⟨rfl, hU, hW U hU hW9⟩⟩ rfl hN hls rfl (lv_room hro) hdg ⟨hR.2.2.1, hR.2.2.2⟩) hS kk
theorem cs_ro (E : EX p s m args meth c cc nL own ret) (hM : MRO l y b n r k As H KX v) (g : GoodIn TA (wsS own idx y (.code y b n r :: TA))) (hC : y.cls = own) (hd : Dsc y N) (hN : As.length = N) (hB : Blind KX) (hW : ∀ U : State, U.heap = H → s.WarmedH U.vm → KX U H)
    (hR : RmOk R cells slots k n) (hls : ls.size = nL) (hst : st0 = As.reverse ++ rest) (hro : (rest.map fun v => v.category).sum ≤ 8) (hdg : decode cc pc = .ok (.invokestatic idx, 3))
    (kk : W p l e R s m args below meth c H locs cells slots Q (F0 m (pc + 3) ls (.int v :: rest))) : W p l e R s m args below meth c H locs cells slots Q (F0 m pc ls st0) := by
  subst hst
  exact ro_calli (va_runS (As := As) (rest := rest) E.fix hM (cwS N E.ht g rfl rfl rfl ⟨hC, hd⟩ ⟨hR.1, hR.2.1⟩) ⟨PX_blind hB, fun U hU hW9 => ⟨rfl, hU, hW U hU hW9⟩⟩ rfl hN hls rfl (lv_room hro) hdg ⟨hR.2.2.1, hR.2.2.2⟩) kk
/-- a static method of another class, public -/
theorem cq_ro (E : EX p s m args meth c cc nL own ret) (hM : MRO l y b n r k As H KX v) (h1 : Cond.methodLink own idx y ∈ TA) (h2 : Cond.static y ∈ TA) (h4 : Cond.initialized y.cls ∈ TA) (h5 : Cond.code y b n r ∈ TA) (hd : Dsc y N) (hN : As.length = N) (hB : Blind KX) (hW : ∀ U : State, U.heap = H → s.WarmedH U.vm → KX U H)
    (hR : RmOk R cells slots k n) (hls : ls.size = nL) (hst : st0 = As.reverse ++ rest) (hro : (rest.map fun v => v.category).sum ≤ 8) (hdg : decode cc pc = .ok (.invokestatic idx, 3))
    (kk : W p l e R s m args below meth c H locs cells slots Q (F0 m (pc + 3) ls (.int v :: rest))) : W p l e R s m args below meth c H locs cells slots Q (F0 m pc ls st0) := by
  subst hst
  exact ro_calli (va_runS (As := As) (rest := rest) E.fix hM ⟨callB_of N E.ht (gC h5) rfl rfl rfl (E.ht _ h4) (E.ht _ h1) hd ⟨hR.1, hR.2.1⟩, E.ht _ h2⟩ ⟨PX_blind hB, fun U hU hW9 => ⟨rfl, hU, hW U hU hW9⟩⟩ rfl hN hls rfl (lv_room hro) hdg ⟨hR.2.2.1, hR.2.2.2⟩) kk
/-- a static method of a nest mate, private -/
theorem cn_ro (E : EX p s m args meth c cc nL own ret) (hM : MRO l y b n r k As H KX v) (h1 : va_Nw (.methodLinkNest own idx y host) s) (h2 : Cond.static y ∈ TA) (h4 : Cond.initialized y.cls ∈ TA) (h5 : Cond.code y b n r ∈ TA) (hd : Dsc y N) (hN : As.length = N) (hB : Blind KX) (hW : ∀ U : State, U.heap = H → s.WarmedH U.vm → KX U H)
    (hR : RmOk R cells slots k n) (hls : ls.size = nL) (hst : st0 = As.reverse ++ rest) (hro : (rest.map fun v => v.category).sum ≤ 8) (hdg : decode cc pc = .ok (.invokestatic idx, 3))
    (kk : W p l e R s m args below meth c H locs cells slots Q (F0 m (pc + 3) ls (.int v :: rest))) : W p l e R s m args below meth c H locs cells slots Q (F0 m pc ls st0) := by
  subst hst
  exact ro_calli (va_runSN (As := As) (rest := rest) E.fix hM ⟨va_cnB N E.ht (gC h5) rfl rfl rfl h1 (E.ht _ h4) hd ⟨hR.1, hR.2.1⟩, E.ht _ h2, trivial⟩ ⟨PX_blind hB, fun U hU hW9 => ⟨rfl, hU, hW U hU hW9⟩⟩ rfl hN hls rfl (lv_room hro) hdg ⟨hR.2.2.1, hR.2.2.2⟩) kk
end
/-! a method's proof out of the walk of its body -/
theorem Mof {l : Launch} {y : MethodName} {b : ByteArray} {n : Nat} {r : Option FieldType} {rm : Room} {As : List Value} {H : Heap} {KX : Ctx} {Qc : Array Value → State → Outcome → State → Prop} {mc ms : Nat} {free : Addr → Prop} {own : String} (hy : plainName y.cls = true) (ho : y.cls = own) (hn : Nat.ble (lg_sl As).length n = true)
    (body : ∀ (p : Program) (e : Env) (s : State) (m : MethodId) (args : Array Value) (below : List Frame) (meth : Method) (c : Code) (ls : Array Slot), EX p s m args meth c b n own r → s.heap = H → KX s s.heap → lv_has ls n (lv_args 0 As) → W p l e rm s m args below meth c s.heap [] 0 0 (MQ below Qc args s mc ms free) (F0 m 0 ls [])) :
    Met l y (.code y b n r :: TA) rm (PX As H KX) Qc mc ms free := by
  refine Met.ofW (cc := b) (maxL := n) (ret := r) hy rfl ?_
  intro p e s m args below meth c s₁ B hml hv
  obtain ⟨rfl, hH, hK⟩ := hv
  have hts : ∀ w ∈ (.code y b n r :: TA : List Cond), w.before As.toArray s = true := atoms_spec (ws := (.code y b n r :: TA : List Cond)) B.pre
  have hown : s.vm.findClass own = some m.cls := by rw [← ho]; exact findClass_of_methodNamed B.named
  have hl := lv_entry As (n := n) (Nat.le_of_ble_eq_true hn)
  rw [lg_entry_eq]
  generalize (lg_sl As ++ List.replicate (n - (lg_sl As).length) Slot.unset).toArray = ls at hl ⊢
  exact body p e s m _ below meth c ls ⟨B.exec, B.bytes, hml, hown, fun w hw => hts w (List.mem_cons_of_mem _ hw), B.returns, B.notSynchronized⟩ hH (by rw [hH]; exact hK) hl
end BASE

section
-- ===== PART A: goes FIRST, ahead of the names: the tables' words, and 'selects' of the private methods out of them =====
/-- a private method of a class that the tables say can be made, by its rows of tables_1 -/
def lw_okq (q : MethodName × Nat) : Prop := (q.1.cls ≠ "java/lang/invoke/MethodHandle" ∧ q.1.cls ≠ "java/lang/invoke/VarHandle") ∧ Cond.instantiable q.1.cls q.2 ∈ tables_1 ∧ Cond.privateMethod q.1 ∈ tables_1 ∧ Cond.instanceMethod q.1 ∈ tables_1
theorem lw_p0 : lw_okq (⟨"NemaGrid", "beginAnew", "(II)V"⟩, 9) := ⟨⟨by decide +kernel, by decide +kernel⟩, List.mem_of_getElem? (i := 16) (by decide +kernel), List.mem_of_getElem? (i := 168) (by decide +kernel), List.mem_of_getElem? (i := 169) (by decide +kernel)⟩
theorem lw_p1 : lw_okq (⟨"java/lang/Throwable", "fillInStackTrace", "(I)Ljava/lang/Throwable;"⟩, 6) := ⟨⟨by decide +kernel, by decide +kernel⟩, List.mem_of_getElem? (i := 253) (by decide +kernel), List.mem_of_getElem? (i := 251) (by decide +kernel), List.mem_of_getElem? (i := 252) (by decide +kernel)⟩
theorem lw_p2 : lw_okq (⟨"NemaGrid$Matter", "heldWith", "(II)I"⟩, 11) := ⟨⟨by decide +kernel, by decide +kernel⟩, List.mem_of_getElem? (i := 70) (by decide +kernel), List.mem_of_getElem? (i := 354) (by decide +kernel), List.mem_of_getElem? (i := 355) (by decide +kernel)⟩
theorem lw_p3 : lw_okq (⟨"NemaGrid$Matter", "grown", "(I)I"⟩, 11) := ⟨⟨by decide +kernel, by decide +kernel⟩, List.mem_of_getElem? (i := 70) (by decide +kernel), List.mem_of_getElem? (i := 378) (by decide +kernel), List.mem_of_getElem? (i := 379) (by decide +kernel)⟩
theorem lw_p4 : lw_okq (⟨"NemaGrid", "worked", "(I)I"⟩, 9) := ⟨⟨by decide +kernel, by decide +kernel⟩, List.mem_of_getElem? (i := 16) (by decide +kernel), List.mem_of_getElem? (i := 382) (by decide +kernel), List.mem_of_getElem? (i := 383) (by decide +kernel)⟩
theorem lw_p5 : lw_okq (⟨"NemaGrid$Matter", "heldInPixel", "(I)I"⟩, 11) := ⟨⟨by decide +kernel, by decide +kernel⟩, List.mem_of_getElem? (i := 70) (by decide +kernel), List.mem_of_getElem? (i := 433) (by decide +kernel), List.mem_of_getElem? (i := 434) (by decide +kernel)⟩
theorem lw_p6 : lw_okq (⟨"NemaGrid$Drives", "put", "(IIIII)V"⟩, 5) := ⟨⟨by decide +kernel, by decide +kernel⟩, List.mem_of_getElem? (i := 125) (by decide +kernel), List.mem_of_getElem? (i := 467) (by decide +kernel), List.mem_of_getElem? (i := 468) (by decide +kernel)⟩
theorem lw_p7 : lw_okq (⟨"NemaGrid$Matter", "settle", "(II)V"⟩, 11) := ⟨⟨by decide +kernel, by decide +kernel⟩, List.mem_of_getElem? (i := 70) (by decide +kernel), List.mem_of_getElem? (i := 489) (by decide +kernel), List.mem_of_getElem? (i := 490) (by decide +kernel)⟩
theorem lw_p8 : lw_okq (⟨"NemaGrid", "noteGreys", "()V"⟩, 9) := ⟨⟨by decide +kernel, by decide +kernel⟩, List.mem_of_getElem? (i := 16) (by decide +kernel), List.mem_of_getElem? (i := 493) (by decide +kernel), List.mem_of_getElem? (i := 494) (by decide +kernel)⟩
theorem lw_p9 : lw_okq (⟨"NemaGrid$Windings", "touches", "(III)Z"⟩, 1) := ⟨⟨by decide +kernel, by decide +kernel⟩, List.mem_of_getElem? (i := 115) (by decide +kernel), List.mem_of_getElem? (i := 617) (by decide +kernel), List.mem_of_getElem? (i := 618) (by decide +kernel)⟩
def lw_privs_1 : List (MethodName × Nat) := [(⟨"NemaGrid", "beginAnew", "(II)V"⟩, 9), (⟨"java/lang/Throwable", "fillInStackTrace", "(I)Ljava/lang/Throwable;"⟩, 6), (⟨"NemaGrid$Matter", "heldWith", "(II)I"⟩, 11), (⟨"NemaGrid$Matter", "grown", "(I)I"⟩, 11), (⟨"NemaGrid", "worked", "(I)I"⟩, 9), (⟨"NemaGrid$Matter", "heldInPixel", "(I)I"⟩, 11), (⟨"NemaGrid$Drives", "put", "(IIIII)V"⟩, 5), (⟨"NemaGrid$Matter", "settle", "(II)V"⟩, 11), (⟨"NemaGrid", "noteGreys", "()V"⟩, 9), (⟨"NemaGrid$Windings", "touches", "(III)Z"⟩, 1)]
theorem lw_r1 : ∀ q ∈ lw_privs_1, lw_okq q := List.forall_mem_cons.mpr ⟨lw_p0, List.forall_mem_cons.mpr ⟨lw_p1, List.forall_mem_cons.mpr ⟨lw_p2, List.forall_mem_cons.mpr ⟨lw_p3, List.forall_mem_cons.mpr ⟨lw_p4, List.forall_mem_cons.mpr ⟨lw_p5, List.forall_mem_cons.mpr ⟨lw_p6, List.forall_mem_cons.mpr ⟨lw_p7, List.forall_mem_cons.mpr ⟨lw_p8, List.forall_mem_cons.mpr ⟨lw_p9, fun _ h => absurd h List.not_mem_nil⟩⟩⟩⟩⟩⟩⟩⟩⟩⟩
def lw_privs : List (MethodName × Nat) := lw_privs_1
def lw_tbl : List Cond := k2_sels lw_privs ++ tables_1
theorem lw_privs_ok : ∀ q ∈ lw_privs, lw_okq q := lw_r1

/-! ===== BEGIN words of one list among another's, by their places ===== -/
theorem goodIn_r {big : List Cond} (ws : List Cond) (ps : List Nat) (hp : ws = ps.filterMap (fun i => big[i]?)) (h : ws.all goodWord = true) : GoodIn big ws := by
  intro w hw
  have h1 := List.all_eq_true.mp h w hw
  rw [hp] at hw
  obtain ⟨i, -, hi⟩ := List.mem_filterMap.mp hw
  have hm : w ∈ big := by first | exact List.mem_of_getElem? hi | exact List.getElem?_mem hi
  exact ⟨hm, good_of_word h1⟩
theorem goodIn_app {big a b : List Cond} (ha : GoodIn big a) (hb : GoodIn big b) : GoodIn big (a ++ b) := fun w h => (List.mem_append.mp h).elim (ha w) (hb w)
theorem goodIn_ca {big a b : List Cond} {c : Cond} (ha : GoodIn big (c :: a)) (hb : GoodIn big b) : GoodIn big (c :: (a ++ b)) := fun w h => (List.mem_cons.mp h).elim (fun e => ha w (List.mem_cons.mpr (Or.inl e))) (fun h => (List.mem_append.mp h).elim (fun h => ha w (List.mem_cons.mpr (Or.inr h))) (hb w))
theorem goodIn_sub {big ws : List Cond} (hm : ∀ w ∈ ws, w ∈ big) (h : ws.all goodWord = true) : GoodIn big ws := fun w hw => ⟨hm w hw, good_of_word (List.all_eq_true.mp h w hw)⟩
/-! ===== END ===== -/

/-! ===== BEGIN exceptions that leave a method, and their catching by the caller (launches without stack traces) ===== -/
section VXA
/-! The laws vx_back, vx_callV, vx_callS, vx_callSW, vx_throw0, vx_throwS follow proofs of the library, with one case more: JvmDerived/Free/Laws.lean (Back.of_free), Shelf42/LK1.lean (callV, callS), Shelf/KitTraced.lean (throwNew0V, throwNewS). -/
/-- where a method has thrown q: the class by its name, the cell, what was written, the world -/
def vx_T (XC : String → State → State → Prop) (st : State) (q : Addr) (t : State) (mc ms : Nat) (free : Addr → Prop) : Prop :=
  ∃ (E : String) (ce : Cell) (L : List Loc), XC E st t ∧ t.heap[q]? = some ce ∧ ce.vm = .none ∧ st.vm.findClass E = some ce.cls ∧ st.WarmedH t.vm ∧ st.sameButNew ({ t with vm := st.vm } : State) L mc ms ∧ ∀ z ∈ L, free z.base
def vx_Q (Qc : Array Value → State → Outcome → State → Prop) (XC : String → State → State → Prop) (mc ms : Nat) (free : Addr → Prop) : Array Value → State → Outcome → State → Prop := fun a st o t =>
  (Qc a st o t ∧ ∃ L, FrameEnd st o t L mc ms ∧ ∀ q ∈ L, free q.base) ∨ ∃ q, o = .threw q ∧ vx_T XC st q t mc ms free
/-- a callee that returns or throws -/
def vx_Met (l : Launch) (y : MethodName) (ws : List Cond) (rm : Room) (Pc : Array Value → State → Prop) (Qc : Array Value → State → Outcome → State → Prop) (XC : String → State → State → Prop) (mc ms : Nat) (free : Addr → Prop) : Prop :=
  MetFree l y (headSpec ws rm) Pc (fun _ _ _ _ _ => True) (vx_Q Qc XC mc ms free)
def vx_Post (XC : String → State → State → Prop) (mc ms : Nat) (free : Addr → Prop) : Pt → Array Value → Addr → Pt → Prop := fun A a q B =>
  ∃ (g : JFrame) (mk : MethodId) (t : State) (L : List Loc) (E : String) (ce : Cell), B.U.heap = t.heap ∧ B.U.vm = t.vm ∧ XC E (A.U.calling g mk a) t ∧ t.heap[q]? = some ce ∧ ce.vm = .none ∧ A.U.vm.findClass E = some ce.cls ∧ B.locs = A.locs ++ L ∧ (∀ z ∈ L, free z.base) ∧ B.cells = A.cells + mc ∧ B.slots = A.slots + ms
def vx_Back (l : Launch) (R : Room) (p : Program) (e : Env) (below : List Frame) (s : State) (sargs : Array Value) (y : MethodName) (len W9 : Nat)
    (Pre : Pt → Array Value → Prop) (Post : Pt → Array Value → Option Value → Pt → Prop) (PostX : Pt → Array Value → Addr → Pt → Prop) : Prop :=
  ∀ (m : MethodId) (meth : Method) (c : Code) (A : Pt) (g : JFrame) (ig : Instr) (mk : MethodId) (a : Array Value),
    Stand p l e R s m sargs below meth c A.U A.locs A.cells A.slots → g.method = m → g.locals.size = c.maxLocals → decode c.code g.pc = .ok (ig, len) →
    2 * g.monitorRoom + (g.stack.map fun v => v.category).sum ≤ W9 → A.U.methodNamed? y = some mk → Pre A a →
    (∃ (v : Option Value) (B : Pt), Stand p l e R s m sargs below meth c B.U B.locs B.cells B.slots ∧ Post A a v B ∧
      Steps p.tables e below (doInvoke e (A.U.setTop g) [] mk a).1 (B.U.setTop { g with pc := g.pc + len, stack := v.toList ++ g.stack })) ∨
    (∃ (q : Addr) (B : Pt), Stand p l e R s m sargs below meth c B.U B.locs B.cells B.slots ∧ PostX A a q B ∧
      Steps p.tables e below (doInvoke e (A.U.setTop g) [] mk a).1 ((B.U.setTop g).pushFrame (.throwing q)))
section Payer
variable {l : Launch} {R : Room} {p : Program} {e : Env} {below : List Frame} {s : State} {sargs : Array Value} {y : MethodName} {len W9 : Nat}
theorem vx_back {ws : List Cond} {rm : Room} {Pc : Array Value → State → Prop} {Qc : Array Value → State → Outcome → State → Prop} {XC : String → State → State → Prop} {mc ms : Nat} {free : Addr → Prop} {bytes : ByteArray} {maxL : Nat} {ret : Option FieldType}
    (hM : vx_Met l y ws rm Pc Qc XC mc ms free) (hblind : FrameBlind Pc) (hrc : rm.cells = mc) (hrs : rm.slots = ms)
    (hframes : rm.frames + 1 ≤ R.frames) (hlocals : W9 + (maxL + 11) + rm.locals ≤ R.locals)
    (hws : ∀ w ∈ ws, ∀ a' U, s.WarmedH U.vm → w.before a' U = true) (hcode : Cond.code y bytes maxL ret ∈ ws) (hinit : ∀ a' U, s.WarmedH U.vm → (Cond.initialized y.cls).before a' U = true) :
    vx_Back l R p e below s sargs y len W9 (PreOf R mc ms Pc) (PostOf Qc mc ms free) (vx_Post XC mc ms free) := by
  intro m meth c A g ig mk a X hg hsize hdg hW hn hp
  have h1 : (headSpec ws rm).pre.before a A.U = true := atoms_intro fun w hw => hws w hw _ _ X.warmed
  have h2 : (Cond.code y bytes maxL ret).before a A.U = true := hws _ hcode _ _ X.warmed
  have h3 : (Cond.initialized y.cls).before a A.U = true := hinit _ _ X.warmed
  have h4 : A.cells + (headSpec ws rm).room.cells ≤ R.cells := by rw [show (headSpec ws rm).room.cells = mc from hrc]; exact hp.1
  have h5 : A.slots + (headSpec ws rm).room.slots ≤ R.slots := by rw [show (headSpec ws rm).room.slots = ms from hrs]; exact hp.2.1
  have hPc : Pc a (A.U.calling g mk a) := hblind _ _ _ _ hp.2.2
  obtain ⟨U, Ls, c0, s0⟩ := A
  dsimp only [Pt.U, Pt.locs, Pt.cells, Pt.slots] at h1 h2 h3 h4 h5 X hn hPc ⊢
  obtain ⟨methY, cY, hmY, hcY, -, hlY, -, -, -, -⟩ := Cond.code_spec hn h2
  obtain ⟨kY, hkY, -⟩ := className_of_methodNamed hn
  have hinitY : kY.init = .initialized := Cond.initialized_spec (findClass_of_methodNamed hn) hkY h3
  have h : At U g.method c below := by rw [hg]; exact X.here
  have hlocals9 : W9 + (maxL + 11) + (headSpec ws rm).room.locals ≤ R.locals := hlocals
  have happ : (headSpec ws rm).appliesLoose y e.platform (U.calling g mk a) = true :=
    Spec.appliesLoose_calling (g := g) h hdg hn hkY hinitY
      (X.room_calling (g := g) (R' := (headSpec ws rm).room) hsize hmY hcY hframes (by rw [hlY]; omega) h4 h5) h1
  obtain ⟨mid, hmid⟩ := h.above
  have hfr : (U.setTop g).frames = (.java g :: mid) ++ below := by rw [State.frames_setTop' g h.top, hmid]; rfl
  obtain ⟨o, s₂, hsteps, -, hend, hq⟩ := Steps.callFree hM p X.admits X.cas X.clock (acts := []) hfr happ hPc trivial
  have hq' : vx_Q Qc XC mc ms free a (U.calling g mk a) o s₂ := hq
  rw [State.frames_setTop' g h.top] at hend
  obtain ⟨g₀, hg0⟩ := Option.isSome_iff_exists.mp h.top
  obtain ⟨r, hr⟩ := State.topJava?_eq_some.mp hg0
  have hr' : (({ U with heap := s₂.heap, slotsUsed := s₂.slotsUsed } : State).setVm s₂.vm).frames = .java g₀ :: r := hr
  rcases hq' with ⟨hqc, L, hfe, hL⟩ | ⟨q, rfl, E, ce, L, hx, hce, hcv, hcl, hW₂, hsm, hL⟩
  · obtain ⟨⟨v, rfl⟩, hW₂, e2, q2, q3, q4, q5, q6⟩ := id hfe
    have e3 : s₂ = ({ (U.calling g mk a).setFrames s₂.frames with heap := s₂.heap, slotsUsed := s₂.slotsUsed } : State).setVm s₂.vm := by
      have : s₂ = ({ s₂ with vm := (U.calling g mk a).vm } : State).setVm s₂.vm := rfl
      rw [e2] at this
      exact this
    obtain ⟨c₂, i₂, len₂, hc₂, hd₂, hf₂⟩ := hend
    have hW' : U.WarmedH s₂.vm := hW₂
    have hcc : c₂ = c := by
      have h1 : s₂.code? g.method = U.code? g.method := by
        rw [State.code?_eq, State.code?_eq, hW'.alike.method?]
      exact Option.some.inj (hc₂.symm.trans (h1.trans h.code))
    subst hcc
    have hlen : len₂ = len := by rw [hdg] at hd₂; cases hd₂; rfl
    subst hlen
    have hs₂ : s₂ = (({ U with heap := s₂.heap, slotsUsed := s₂.slotsUsed } : State).setVm s₂.vm).setTop { g with pc := g.pc + len₂, stack := v.toList ++ g.stack } := by
      refine e3.trans ?_
      rw [hf₂, State.calling_eq h.top, State.setFrames_setFrames, State.setTop_of_frames _ hr', hr]
      rfl
    have hsame : U.sameButNew ({ U with heap := s₂.heap, slotsUsed := s₂.slotsUsed } : State) L mc ms := by
      refine ⟨?_, q2, q3, q4, q5, q6⟩
      obtain ⟨t, ht, -⟩ := State.frames_cons hr
      show ({ U with heap := s₂.heap, slotsUsed := s₂.slotsUsed } : State) = { U.setFrames U.frames with heap := s₂.heap, slotsUsed := s₂.slotsUsed }
      rw [State.setFrames_self ht]
    subst hg
    refine Or.inl ⟨v, ⟨(({ U with heap := s₂.heap, slotsUsed := s₂.slotsUsed } : State).setVm s₂.vm), Ls ++ L, c0 + mc, s0 + ms⟩,
      ⟨X.admits, X.cas, X.clock, X.frames, X.room, X.hears, X.method, X.code, (X.here.setHeapUsed s₂.heap s₂.slotsUsed).setVm hW'.alike, X.tail, State.WarmedH.trans X.warmed hW', X.limits, X.bytes, X.same.trans (hsame.setVm s.vm)⟩,
      ⟨g, mk, s₂, L, rfl, rfl, hqc, rfl, hL, rfl, rfl⟩, ?_⟩
    show Steps p.tables e below _ ((({ U with heap := s₂.heap, slotsUsed := s₂.slotsUsed } : State).setVm s₂.vm).setTop { g with pc := g.pc + len₂, stack := v.toList ++ g.stack })
    rw [← hs₂]
    exact hsteps
  · obtain ⟨e2, q2, q3, q4, q5, q6⟩ := id hsm
    have e3 : s₂ = ({ (U.calling g mk a).setFrames s₂.frames with heap := s₂.heap, slotsUsed := s₂.slotsUsed } : State).setVm s₂.vm := by
      have : s₂ = ({ s₂ with vm := (U.calling g mk a).vm } : State).setVm s₂.vm := rfl
      rw [e2] at this
      exact this
    have hf₂ : s₂.frames = .throwing q :: .java g :: U.frames.tail := hend
    have hW' : U.WarmedH s₂.vm := hW₂
    have hs₂ : s₂ = ((({ U with heap := s₂.heap, slotsUsed := s₂.slotsUsed } : State).setVm s₂.vm).setTop g).pushFrame (.throwing q) := by
      refine e3.trans ?_
      rw [hf₂, State.calling_eq h.top, State.setFrames_setFrames, State.pushFrame, State.frames_setTop _ hr', State.setTop_of_frames _ hr', State.setFrames_setFrames, hr]
      rfl
    have hsame : U.sameButNew ({ U with heap := s₂.heap, slotsUsed := s₂.slotsUsed } : State) L mc ms := by
      refine ⟨?_, q2, q3, q4, q5, q6⟩
      obtain ⟨t, ht, -⟩ := State.frames_cons hr
      show ({ U with heap := s₂.heap, slotsUsed := s₂.slotsUsed } : State) = { U.setFrames U.frames with heap := s₂.heap, slotsUsed := s₂.slotsUsed }
      rw [State.setFrames_self ht]
    subst hg
    refine Or.inr ⟨q, ⟨(({ U with heap := s₂.heap, slotsUsed := s₂.slotsUsed } : State).setVm s₂.vm), Ls ++ L, c0 + mc, s0 + ms⟩,
      ⟨X.admits, X.cas, X.clock, X.frames, X.room, X.hears, X.method, X.code, (X.here.setHeapUsed s₂.heap s₂.slotsUsed).setVm hW'.alike, X.tail, State.WarmedH.trans X.warmed hW', X.limits, X.bytes, X.same.trans (hsame.setVm s.vm)⟩,
      ⟨g, mk, s₂, L, E, ce, rfl, rfl, hx, hce, hcv, hcl, rfl, hL, rfl, rfl⟩, ?_⟩
    show Steps p.tables e below _ (((({ U with heap := s₂.heap, slotsUsed := s₂.slotsUsed } : State).setVm s₂.vm).setTop g).pushFrame (.throwing q))
    rw [← hs₂]
    exact hsteps
end Payer
section Calls
variable {p : Program} {l : Launch} {e : Env} {R : Room} {s : State} {m : MethodId} {args : Array Value} {below : List Frame} {meth : Method} {c : Code} {T : State} {locs : List Loc} {cells slots : Nat}
theorem vx_callV (X : Stand p l e R s m args below meth c T locs cells slots) (hexec : p.tables.exec = Jvm.exec) {own C : String} {index : Nat} {y : MethodName} {bytes : ByteArray} {maxL : Nat} {ret : Option FieldType}
    (hown : s.vm.findClass own = some m.cls) (hlink : (Cond.methodLink own index y).before args s = true) (hinst : (Cond.instanceMethod y).before args s = true) (hsel : (Cond.selects C y y).before args s = true)
    (hcode : (Cond.code y bytes maxL ret).before args s = true) (hy : y.cls ≠ "java/lang/invoke/MethodHandle" ∧ y.cls ≠ "java/lang/invoke/VarHandle")
    {W9 : Nat} {Pre : Pt → Array Value → Prop} {Post : Pt → Array Value → Option Value → Pt → Prop} {PostX : Pt → Array Value → Addr → Pt → Prop} (hK : vx_Back l R p e below s args y 3 W9 Pre Post PostX)
    {b : Addr} {cellB : Cell} (hcell : T.heap[b]? = some cellB) (hobj : cellB.vm.isStatics = false) (hcls : s.vm.findClass C = some cellB.cls)
    {g : JFrame} (hg : g.method = m) (hsize : g.locals.size = c.maxLocals) {argsL rest : List Value} (hlen : ∀ sig, parseMethodDescriptor y.desc = some sig → argsL.length = sig.parameters.length)
    (hstack : g.stack = argsL.reverse ++ .ref b :: rest) (hW : 2 * g.monitorRoom + (rest.map fun v => v.category).sum ≤ W9) (hdg : decode c.code g.pc = .ok (.invokevirtual index, 3))
    (hpre : ∀ vm₁, s.WarmedH vm₁ → Pre ⟨T.setVm vm₁, locs, cells, slots⟩ (Value.ref b :: argsL).toArray) :
    (∃ (v : Option Value) (vm₁ : Vm) (B : Pt), s.WarmedH vm₁ ∧ Stand p l e R s m args below meth c B.U B.locs B.cells B.slots ∧ Post ⟨T.setVm vm₁, locs, cells, slots⟩ (Value.ref b :: argsL).toArray v B ∧
      ∀ target, Steps p.tables e below (B.U.setTop { g with pc := g.pc + 3, stack := v.toList ++ rest }) target → Steps p.tables e below (T.setTop g) target) ∨
    (∃ (q : Addr) (vm₁ : Vm) (B : Pt), s.WarmedH vm₁ ∧ Stand p l e R s m args below meth c B.U B.locs B.cells B.slots ∧ PostX ⟨T.setVm vm₁, locs, cells, slots⟩ (Value.ref b :: argsL).toArray q B ∧
      Steps p.tables e below (T.setTop g) ((B.U.setTop { g with stack := rest }).pushFrame (.throwing q))) := by
  obtain ⟨mk, methM, hnamed, hmethM, hstM, habM⟩ := Cond.instanceMethod_spec hinst
  obtain ⟨methM', cM, hmethM', -, -, -, -, -, -, hsigM⟩ := Cond.code_spec hnamed hcode
  cases hmethM.symm.trans hmethM'
  obtain ⟨c2, r2, m2, q1, q2, q3, q4, kP, hkP, hkPi⟩ := Cond.selects_spec hsel
  cases hcls.symm.trans q1
  cases (State.methodFound?_of_named hnamed hy).symm.trans q2
  cases hnamed.symm.trans q3
  have hselP : selectMethod e.platform s.vm cellB.cls mk = .method mk := by rw [Launch.admits_selectMethod X.admits]; exact q4
  obtain ⟨vm₁, X₁, hstep₁⟩ := X.invokevirtual hexec hown hlink hnamed hmethM hstM hkP hkPi hy (a := b) (cell := cellB) hcell
    (fun z h => by rw [h] at hobj; cases hobj) hselP hmethM habM hkP hkPi (g := g) hg (argsL := argsL) (rest := rest) (hlen _ hsigM) hstack hdg
  rcases hK m meth c ⟨T.setVm vm₁, locs, cells, slots⟩ { g with stack := rest } (.invokevirtual index) mk (Value.ref b :: argsL).toArray X₁ hg hsize hdg hW (X₁.named hnamed) (hpre vm₁ X₁.warmed) with ⟨v, B, X', hpost, hsteps⟩ | ⟨q, B, X', hpost, hsteps⟩
  · exact Or.inl ⟨v, vm₁, B, X₁.warmed, X', hpost, fun target h => hstep₁ _ fun acts => by rw [doInvoke_state]; exact hsteps.trans h⟩
  · exact Or.inr ⟨q, vm₁, B, X₁.warmed, X', hpost, hstep₁ _ fun acts => by rw [doInvoke_state]; exact hsteps⟩
theorem vx_callS (X : Stand p l e R s m args below meth c T locs cells slots) (hexec : p.tables.exec = Jvm.exec) {own : String} {index : Nat} {y : MethodName} {bytes : ByteArray} {maxL : Nat} {ret : Option FieldType}
    (hown : s.vm.findClass own = some m.cls) (hlink : (Cond.methodLink own index y).before args s = true) (hstat : (Cond.static y).before args s = true) (hinit : (Cond.initialized y.cls).before args s = true)
    (hcode : (Cond.code y bytes maxL ret).before args s = true) (hy : y.cls ≠ "java/lang/invoke/MethodHandle" ∧ y.cls ≠ "java/lang/invoke/VarHandle")
    {W9 : Nat} {Pre : Pt → Array Value → Prop} {Post : Pt → Array Value → Option Value → Pt → Prop} {PostX : Pt → Array Value → Addr → Pt → Prop} (hK : vx_Back l R p e below s args y 3 W9 Pre Post PostX)
    {g : JFrame} (hg : g.method = m) (hsize : g.locals.size = c.maxLocals) {argsL rest : List Value} (hlen : ∀ sig, parseMethodDescriptor y.desc = some sig → argsL.length = sig.parameters.length)
    (hstack : g.stack = argsL.reverse ++ rest) (hW : 2 * g.monitorRoom + (rest.map fun v => v.category).sum ≤ W9) (hdg : decode c.code g.pc = .ok (.invokestatic index, 3))
    (hpre : ∀ vm₁, s.WarmedH vm₁ → Pre ⟨T.setVm vm₁, locs, cells, slots⟩ argsL.toArray) :
    (∃ (v : Option Value) (vm₁ : Vm) (B : Pt), s.WarmedH vm₁ ∧ Stand p l e R s m args below meth c B.U B.locs B.cells B.slots ∧ Post ⟨T.setVm vm₁, locs, cells, slots⟩ argsL.toArray v B ∧
      ∀ target, Steps p.tables e below (B.U.setTop { g with pc := g.pc + 3, stack := v.toList ++ rest }) target → Steps p.tables e below (T.setTop g) target) ∨
    (∃ (q : Addr) (vm₁ : Vm) (B : Pt), s.WarmedH vm₁ ∧ Stand p l e R s m args below meth c B.U B.locs B.cells B.slots ∧ PostX ⟨T.setVm vm₁, locs, cells, slots⟩ argsL.toArray q B ∧
      Steps p.tables e below (T.setTop g) ((B.U.setTop { g with stack := rest }).pushFrame (.throwing q))) := by
  obtain ⟨mk, hnamed⟩ := Cond.code_named hcode
  obtain ⟨methM, cM, hmethM, -, -, -, -, -, -, hsigM⟩ := Cond.code_spec hnamed hcode
  have hstatic : methM.isStatic = true := Cond.static_spec hnamed hmethM hstat
  obtain ⟨kP, hkP, -⟩ := className_of_methodNamed hnamed
  have hinitP : kP.init = .initialized := Cond.initialized_spec (findClass_of_methodNamed hnamed) hkP hinit
  obtain ⟨vm₁, X₁, hstep₁⟩ := X.invokestatic hexec hown hlink hnamed hmethM hstatic hkP hinitP hy (g := g) hg (argsL := argsL) (rest := rest) (hlen _ hsigM) hstack hdg
  rcases hK m meth c ⟨T.setVm vm₁, locs, cells, slots⟩ { g with stack := rest } (.invokestatic index) mk argsL.toArray X₁ hg hsize hdg hW (X₁.named hnamed) (hpre vm₁ X₁.warmed) with ⟨v, B, X', hpost, hsteps⟩ | ⟨q, B, X', hpost, hsteps⟩
  · exact Or.inl ⟨v, vm₁, B, X₁.warmed, X', hpost, fun target h => hstep₁ _ fun acts => by rw [doInvoke_state]; exact hsteps.trans h⟩
  · exact Or.inr ⟨q, vm₁, B, X₁.warmed, X', hpost, hstep₁ _ fun acts => by rw [doInvoke_state]; exact hsteps⟩
end Calls
theorem vx_cls {s : State} {T : State} {vm₁ : Vm} {E : String} {k : ClassId} (hW : s.WarmedH vm₁) (h : (T.setVm vm₁).vm.findClass E = some k) : s.vm.findClass E = some k := by
  have h1 : vm₁.findClass E = some k := h
  rw [hW.alike.findClass] at h1
  exact h1
/-- the method's frame g, with q thrown over it -/
def vx_W (p : Program) (l : Launch) (e : Env) (R : Room) (s : State) (m : MethodId) (args : Array Value) (below : List Frame) (meth : Method) (c : Code) (H : Heap) (locs : List Loc) (cells slots : Nat) (Q : State → Prop) (g : JFrame) (q : Addr) : Prop :=
  ∀ T : State, T.heap = H → Stand p l e R s m args below meth c T locs cells slots → ∃ t, Steps p.tables e below ((T.setTop g).pushFrame (.throwing q)) t ∧ Q t
def vx_Run (p : Program) (l : Launch) (e : Env) (R : Room) (s : State) (m : MethodId) (args : Array Value) (below : List Frame) (meth : Method) (c : Code) (H : Heap) (locs : List Loc) (cells slots mc ms : Nat) (g : JFrame) (rest : List Value) (Qa : State → Outcome → State → Prop) (XC : String → State → State → Prop) (free : Addr → Prop) : Prop :=
  ∀ T : State, T.heap = H → Stand p l e R s m args below meth c T locs cells slots →
    (∃ (v : Option Value) (st₀ t T' : State) (L : List Loc), st₀.heap = H ∧ Stand p l e R s m args below meth c T' (locs ++ L) (cells + mc) (slots + ms) ∧ (∀ q ∈ L, free q.base) ∧ T'.heap = t.heap ∧ T'.vm = t.vm ∧ Qa st₀ (.returned v) t ∧
      Goes p e below T g T' { g with pc := g.pc + 3, stack := v.toList ++ rest }) ∨
    (∃ (q : Addr) (st₀ t T' : State) (L : List Loc) (E : String) (ce : Cell), st₀.heap = H ∧ Stand p l e R s m args below meth c T' (locs ++ L) (cells + mc) (slots + ms) ∧ (∀ z ∈ L, free z.base) ∧ T'.heap = t.heap ∧ T'.vm = t.vm ∧ XC E st₀ t ∧ t.heap[q]? = some ce ∧ ce.vm = .none ∧ s.vm.findClass E = some ce.cls ∧
      Steps p.tables e below (T.setTop g) ((T'.setTop { g with stack := rest }).pushFrame (.throwing q)))
def vx_X {S : Type} (px : S → Prop) (B : String → S → State → Prop) (A : Nat → Prop) : String → State → State → Prop := fun E st t => ∃ u : S, px u ∧ B E u t ∧ va_F A st t
section Runs
variable {p : Program} {l : Launch} {e : Env} {R : Room} {s : State} {m : MethodId} {args : Array Value} {below : List Frame} {meth : Method} {c : Code} {H : Heap} {locs : List Loc} {cells slots : Nat}
variable {y : MethodName} {bytes cc : ByteArray} {maxL nL mc ms n index : Nat} {ret : Option FieldType} {ws : List Cond} {rm : Room} {Pc : Array Value → State → Prop} {Qc : Array Value → State → Outcome → State → Prop} {XC : String → State → State → Prop} {free : Addr → Prop} {Ts : List Cond} {own C : String} {b : Addr} {As rest : List Value} {g : JFrame}
theorem vx_callBack (cb : CallB R s args own index y bytes maxL ret ws rm mc ms n) (hM : vx_Met l y ws rm Pc Qc XC mc ms free) (hbl : FrameBlind Pc) : vx_Back l R p e below s args y 3 8 (PreOf R mc ms Pc) (PostOf Qc mc ms free) (vx_Post XC mc ms free) := by
  obtain ⟨hrc, hrs, hfr, hlo, hws, hcw, -, hini, -⟩ := cb
  exact vx_back (bytes := bytes) (maxL := maxL) (ret := ret) hM hbl hrc hrs hfr hlo hws hcw (fun a' U hW => word_at hW (Or.inl (by first | rfl | simp [Cond.onTables, Cond.keeps, Cond.steady])) hini)
theorem vx_runV (S : CallFix p m c cc nL s args Ts own) (hM : vx_Met l y ws rm Pc Qc XC mc ms free) (cw : CallW R s args own C index y bytes maxL ret ws rm mc ms n) (hp : PreV s H C b Pc As)
    (hg : g.method = m) (hn : As.length = n) (hsize : g.locals.size = nL) (hstack : g.stack = As.reverse ++ .ref b :: rest) (hW : 2 * g.monitorRoom + (rest.map fun v => v.category).sum ≤ 8) (hdg : decode cc g.pc = .ok (.invokevirtual index, 3)) (hf : cells + mc ≤ R.cells ∧ slots + ms ≤ R.slots) :
    vx_Run p l e R s m args below meth c H locs cells slots mc ms g rest (Qc (Value.ref b :: As).toArray) XC free := by
  have hK : vx_Back l R p e below s args y 3 8 (PreOf R mc ms Pc) (PostOf Qc mc ms free) (vx_Post XC mc ms free) := vx_callBack cw.1 hM hp.1
  obtain ⟨⟨-, -, -, -, -, -, hcode, -, hy, hlen, hl⟩, hin, hse⟩ := cw
  obtain ⟨hx, hb, hml, ho, -⟩ := S
  obtain ⟨-, ⟨cellB, hcB, hoB, hclB⟩, hPc⟩ := hp
  intro T hT X
  rcases vx_callV X hx (C := C) (bytes := bytes) (maxL := maxL) (ret := ret) ho hl hin hse hcode hy hK (by rw [hT]; exact hcB) hoB hclB hg (hsize.trans hml.symm) (argsL := As) (rest := rest) (fun sig h => hn.trans (hlen sig h)) hstack hW (by rw [hb]; exact hdg)
    (fun vm₁ hW₁ => ⟨hf.1, hf.2, hPc (T.setVm vm₁) hT hW₁⟩) with ⟨v, vm₁, ⟨U', l2, c2, s2⟩, hW₁, X', ⟨g', mk, t, L, e1, e2, hq, h1, hL, h2, h3⟩, st⟩ | ⟨q, vm₁, ⟨U', l2, c2, s2⟩, hW₁, X', ⟨g', mk, t, L, E, ce, e1, e2, hq, hce, hcv, hcl, h1, hL, h2, h3⟩, st⟩
  · dsimp only [Pt.U, Pt.locs, Pt.cells, Pt.slots] at X' e1 e2 h1 h2 h3 st
    subst h1; subst h2; subst h3
    exact Or.inl ⟨v, (T.setVm vm₁).calling g' mk (Value.ref b :: As).toArray, t, U', L, hT, X', hL, e1, e2, hq, st⟩
  · dsimp only [Pt.U, Pt.locs, Pt.cells, Pt.slots] at X' e1 e2 h1 h2 h3 st hcl
    subst h1; subst h2; subst h3
    exact Or.inr ⟨q, (T.setVm vm₁).calling g' mk (Value.ref b :: As).toArray, t, U', L, E, ce, hT, X', hL, e1, e2, hq, hce, hcv, vx_cls hW₁ hcl, st⟩
theorem vx_runS (S : CallFix p m c cc nL s args Ts own) (hM : vx_Met l y ws rm Pc Qc XC mc ms free) (cw : CallB R s args own index y bytes maxL ret ws rm mc ms n ∧ (Cond.static y).before args s = true) (hp : PreS s H Pc As)
    (hg : g.method = m) (hn : As.length = n) (hsize : g.locals.size = nL) (hstack : g.stack = As.reverse ++ rest) (hW : 2 * g.monitorRoom + (rest.map fun v => v.category).sum ≤ 8) (hdg : decode cc g.pc = .ok (.invokestatic index, 3)) (hf : cells + mc ≤ R.cells ∧ slots + ms ≤ R.slots) :
    vx_Run p l e R s m args below meth c H locs cells slots mc ms g rest (Qc As.toArray) XC free := by
  have hK : vx_Back l R p e below s args y 3 8 (PreOf R mc ms Pc) (PostOf Qc mc ms free) (vx_Post XC mc ms free) := vx_callBack cw.1 hM hp.1
  obtain ⟨⟨-, -, -, -, -, -, hcode, hini, hy, hlen, hl⟩, hstt⟩ := cw
  obtain ⟨hx, hb, hml, ho, -⟩ := S
  intro T hT X
  rcases vx_callS X hx (bytes := bytes) (maxL := maxL) (ret := ret) ho hl hstt hini hcode hy hK hg (hsize.trans hml.symm) (argsL := As) (rest := rest) (fun sig h => hn.trans (hlen sig h)) hstack hW (by rw [hb]; exact hdg)
    (fun vm₁ hW₁ => ⟨hf.1, hf.2, hp.2 (T.setVm vm₁) hT hW₁⟩) with ⟨v, vm₁, ⟨U', l2, c2, s2⟩, hW₁, X', ⟨g', mk, t, L, e1, e2, hq, h1, hL, h2, h3⟩, st⟩ | ⟨q, vm₁, ⟨U', l2, c2, s2⟩, hW₁, X', ⟨g', mk, t, L, E, ce, e1, e2, hq, hce, hcv, hcl, h1, hL, h2, h3⟩, st⟩
  · dsimp only [Pt.U, Pt.locs, Pt.cells, Pt.slots] at X' e1 e2 h1 h2 h3 st
    subst h1; subst h2; subst h3
    exact Or.inl ⟨v, (T.setVm vm₁).calling g' mk As.toArray, t, U', L, hT, X', hL, e1, e2, hq, st⟩
  · dsimp only [Pt.U, Pt.locs, Pt.cells, Pt.slots] at X' e1 e2 h1 h2 h3 st hcl
    subst h1; subst h2; subst h3
    exact Or.inr ⟨q, (T.setVm vm₁).calling g' mk As.toArray, t, U', L, E, ce, hT, X', hL, e1, e2, hq, hce, hcv, vx_cls hW₁ hcl, st⟩
end Runs
section Rows
variable {p : Program} {l : Launch} {e : Env} {R : Room} {s : State} {m : MethodId} {args : Array Value} {below : List Frame} {meth : Method} {c : Code} {H : Heap} {locs : List Loc} {cells slots : Nat} {Q : State → Prop}
variable {mc ms : Nat} {free : Addr → Prop} {A0 A1 : Nat → Prop} {H0 : Heap} {a : Array Value} {pc : Nat} {ls : Array Slot} {st0 rest : List Value}
theorem vx_keep {st₀ t T' : State} {L : List Loc} (h0 : st₀.heap = H) (e1 : T'.heap = t.heap) (hS : va_S A0 H0 H locs) (hA : ∀ q, q < H.size → A1 q → A0 q) (hf : ∀ q, free q → A0 q) (hL : ∀ q ∈ L, free q.base) (hF : va_F A1 st₀ t) :
    H.size ≤ T'.heap.size ∧ (∀ q : Nat, q < H.size → ¬ A1 q → T'.heap[q]? = H[q]?) ∧ va_S A0 H0 T'.heap (locs ++ L) := by
  obtain ⟨hz, hk⟩ := hF
  rw [h0] at hz hk
  exact ⟨by rw [e1]; exact hz, fun q h1 h2 => by rw [e1]; exact hk q h1 h2,
    ⟨Nat.le_trans hS.1 (by rw [e1]; exact hz), fun q h1 h2 => by rw [e1, hk q (Nat.lt_of_lt_of_le h1 hS.1) (fun z => h2 (hA q (Nat.lt_of_lt_of_le h1 hS.1) z))]; exact hS.2.1 q h1 h2, fun q hq => by
      rcases List.mem_append.mp hq with h | h
      · exact hS.2.2 q h
      · exact hf _ (hL q h)⟩⟩
theorem vx_calli {S SX : Type} {post : Int32 → S → Prop} {px : SX → Prop} {B : S → State → Prop} {BX : String → SX → State → Prop} {AX : Nat → Prop} (hr : vx_Run p l e R s m args below meth c H locs cells slots mc ms (F0 m pc ls st0) rest (va_Qi post B A1 a) (vx_X px BX AX) free) (hS : va_S A0 H0 H locs) (hA : ∀ q, q < H.size → A1 q → A0 q) (hf : ∀ q, free q → A0 q) (hAX : ∀ q, q < H.size → AX q → A0 q)
    (kx : ∀ (E : String) (ce : Cell) (q9 : Addr) (u : SX) (t : State) (H1 : Heap) (locs1 : List Loc), t.heap = H1 → s.vm.Alike t.vm → px u → BX E u t → H.size ≤ H1.size → (∀ q : Nat, q < H.size → ¬ AX q → H1[q]? = H[q]?) → va_S A0 H0 H1 locs1 → H1[q9]? = some ce → ce.vm = .none → s.vm.findClass E = some ce.cls → vx_W p l e R s m args below meth c H1 locs1 (cells + mc) (slots + ms) Q (F0 m pc ls rest) q9)
    (kk : ∀ (r : Int32) (u : S) (t : State) (H1 : Heap) (locs1 : List Loc), t.heap = H1 → s.vm.Alike t.vm → post r u → B u t → H.size ≤ H1.size → (∀ q : Nat, q < H.size → ¬ A1 q → H1[q]? = H[q]?) → va_S A0 H0 H1 locs1 → W p l e R s m args below meth c H1 locs1 (cells + mc) (slots + ms) Q (F0 m (pc + 3) ls (.int r :: rest))) : W p l e R s m args below meth c H locs cells slots Q (F0 m pc ls st0) := by
  intro T hT X
  rcases hr T hT X with ⟨v, st₀, t, T', L, h0, X', hL, e1, e2, ⟨⟨r, u, hv, hp, hb⟩, hF⟩, st⟩ | ⟨q, st₀, t, T', L, E, ce, h0, X', hL, e1, e2, ⟨u, hp, hb, hF⟩, hce, hcv, hcl, st⟩
  · cases hv
    obtain ⟨k1, k2, k3⟩ := vx_keep h0 e1 hS hA hf hL hF
    obtain ⟨t2, a1, b1⟩ := kk r u t T'.heap (locs ++ L) e1.symm (by rw [← e2]; exact X'.warmed.alike) hp hb k1 k2 k3 T' rfl X'
    exact ⟨t2, st t2 a1, b1⟩
  · obtain ⟨k1, k2, k3⟩ := vx_keep h0 e1 hS hAX hf hL hF
    obtain ⟨t2, a1, b1⟩ := kx E ce q u t T'.heap (locs ++ L) e1.symm (by rw [← e2]; exact X'.warmed.alike) hp hb k1 k2 k3 (by rw [e1]; exact hce) hcv hcl T' rfl X'
    exact ⟨t2, st.trans a1, b1⟩
theorem vx_calll {S SX : Type} {post : Int64 → S → Prop} {px : SX → Prop} {B : S → State → Prop} {BX : String → SX → State → Prop} {AX : Nat → Prop} (hr : vx_Run p l e R s m args below meth c H locs cells slots mc ms (F0 m pc ls st0) rest (va_Ql post B A1 a) (vx_X px BX AX) free) (hS : va_S A0 H0 H locs) (hA : ∀ q, q < H.size → A1 q → A0 q) (hf : ∀ q, free q → A0 q) (hAX : ∀ q, q < H.size → AX q → A0 q)
    (kx : ∀ (E : String) (ce : Cell) (q9 : Addr) (u : SX) (t : State) (H1 : Heap) (locs1 : List Loc), t.heap = H1 → s.vm.Alike t.vm → px u → BX E u t → H.size ≤ H1.size → (∀ q : Nat, q < H.size → ¬ AX q → H1[q]? = H[q]?) → va_S A0 H0 H1 locs1 → H1[q9]? = some ce → ce.vm = .none → s.vm.findClass E = some ce.cls → vx_W p l e R s m args below meth c H1 locs1 (cells + mc) (slots + ms) Q (F0 m pc ls rest) q9)
    (kk : ∀ (r : Int64) (u : S) (t : State) (H1 : Heap) (locs1 : List Loc), t.heap = H1 → s.vm.Alike t.vm → post r u → B u t → H.size ≤ H1.size → (∀ q : Nat, q < H.size → ¬ A1 q → H1[q]? = H[q]?) → va_S A0 H0 H1 locs1 → W p l e R s m args below meth c H1 locs1 (cells + mc) (slots + ms) Q (F0 m (pc + 3) ls (.long r :: rest))) : W p l e R s m args below meth c H locs cells slots Q (F0 m pc ls st0) := by
  intro T hT X
  rcases hr T hT X with ⟨v, st₀, t, T', L, h0, X', hL, e1, e2, ⟨⟨r, u, hv, hp, hb⟩, hF⟩, st⟩ | ⟨q, st₀, t, T', L, E, ce, h0, X', hL, e1, e2, ⟨u, hp, hb, hF⟩, hce, hcv, hcl, st⟩
  · cases hv
    obtain ⟨k1, k2, k3⟩ := vx_keep h0 e1 hS hA hf hL hF
    obtain ⟨t2, a1, b1⟩ := kk r u t T'.heap (locs ++ L) e1.symm (by rw [← e2]; exact X'.warmed.alike) hp hb k1 k2 k3 T' rfl X'
    exact ⟨t2, st t2 a1, b1⟩
  · obtain ⟨k1, k2, k3⟩ := vx_keep h0 e1 hS hAX hf hL hF
    obtain ⟨t2, a1, b1⟩ := kx E ce q u t T'.heap (locs ++ L) e1.symm (by rw [← e2]; exact X'.warmed.alike) hp hb k1 k2 k3 (by rw [e1]; exact hce) hcv hcl T' rfl X'
    exact ⟨t2, st.trans a1, b1⟩
theorem vx_callf {S SX : Type} {post : UInt32 → S → Prop} {px : SX → Prop} {B : S → State → Prop} {BX : String → SX → State → Prop} {AX : Nat → Prop} (hr : vx_Run p l e R s m args below meth c H locs cells slots mc ms (F0 m pc ls st0) rest (va_Qf post B A1 a) (vx_X px BX AX) free) (hS : va_S A0 H0 H locs) (hA : ∀ q, q < H.size → A1 q → A0 q) (hf : ∀ q, free q → A0 q) (hAX : ∀ q, q < H.size → AX q → A0 q)
    (kx : ∀ (E : String) (ce : Cell) (q9 : Addr) (u : SX) (t : State) (H1 : Heap) (locs1 : List Loc), t.heap = H1 → s.vm.Alike t.vm → px u → BX E u t → H.size ≤ H1.size → (∀ q : Nat, q < H.size → ¬ AX q → H1[q]? = H[q]?) → va_S A0 H0 H1 locs1 → H1[q9]? = some ce → ce.vm = .none → s.vm.findClass E = some ce.cls → vx_W p l e R s m args below meth c H1 locs1 (cells + mc) (slots + ms) Q (F0 m pc ls rest) q9)
    (kk : ∀ (r : UInt32) (u : S) (t : State) (H1 : Heap) (locs1 : List Loc), t.heap = H1 → s.vm.Alike t.vm → post r u → B u t → H.size ≤ H1.size → (∀ q : Nat, q < H.size → ¬ A1 q → H1[q]? = H[q]?) → va_S A0 H0 H1 locs1 → W p l e R s m args below meth c H1 locs1 (cells + mc) (slots + ms) Q (F0 m (pc + 3) ls (.float r :: rest))) : W p l e R s m args below meth c H locs cells slots Q (F0 m pc ls st0) := by
  intro T hT X
  rcases hr T hT X with ⟨v, st₀, t, T', L, h0, X', hL, e1, e2, ⟨⟨r, u, hv, hp, hb⟩, hF⟩, st⟩ | ⟨q, st₀, t, T', L, E, ce, h0, X', hL, e1, e2, ⟨u, hp, hb, hF⟩, hce, hcv, hcl, st⟩
  · cases hv
    obtain ⟨k1, k2, k3⟩ := vx_keep h0 e1 hS hA hf hL hF
    obtain ⟨t2, a1, b1⟩ := kk r u t T'.heap (locs ++ L) e1.symm (by rw [← e2]; exact X'.warmed.alike) hp hb k1 k2 k3 T' rfl X'
    exact ⟨t2, st t2 a1, b1⟩
  · obtain ⟨k1, k2, k3⟩ := vx_keep h0 e1 hS hAX hf hL hF
    obtain ⟨t2, a1, b1⟩ := kx E ce q u t T'.heap (locs ++ L) e1.symm (by rw [← e2]; exact X'.warmed.alike) hp hb k1 k2 k3 (by rw [e1]; exact hce) hcv hcl T' rfl X'
    exact ⟨t2, st.trans a1, b1⟩
theorem vx_calld {S SX : Type} {post : UInt64 → S → Prop} {px : SX → Prop} {B : S → State → Prop} {BX : String → SX → State → Prop} {AX : Nat → Prop} (hr : vx_Run p l e R s m args below meth c H locs cells slots mc ms (F0 m pc ls st0) rest (va_Qd post B A1 a) (vx_X px BX AX) free) (hS : va_S A0 H0 H locs) (hA : ∀ q, q < H.size → A1 q → A0 q) (hf : ∀ q, free q → A0 q) (hAX : ∀ q, q < H.size → AX q → A0 q)
    (kx : ∀ (E : String) (ce : Cell) (q9 : Addr) (u : SX) (t : State) (H1 : Heap) (locs1 : List Loc), t.heap = H1 → s.vm.Alike t.vm → px u → BX E u t → H.size ≤ H1.size → (∀ q : Nat, q < H.size → ¬ AX q → H1[q]? = H[q]?) → va_S A0 H0 H1 locs1 → H1[q9]? = some ce → ce.vm = .none → s.vm.findClass E = some ce.cls → vx_W p l e R s m args below meth c H1 locs1 (cells + mc) (slots + ms) Q (F0 m pc ls rest) q9)
    (kk : ∀ (r : UInt64) (u : S) (t : State) (H1 : Heap) (locs1 : List Loc), t.heap = H1 → s.vm.Alike t.vm → post r u → B u t → H.size ≤ H1.size → (∀ q : Nat, q < H.size → ¬ A1 q → H1[q]? = H[q]?) → va_S A0 H0 H1 locs1 → W p l e R s m args below meth c H1 locs1 (cells + mc) (slots + ms) Q (F0 m (pc + 3) ls (.double r :: rest))) : W p l e R s m args below meth c H locs cells slots Q (F0 m pc ls st0) := by
  intro T hT X
  rcases hr T hT X with ⟨v, st₀, t, T', L, h0, X', hL, e1, e2, ⟨⟨r, u, hv, hp, hb⟩, hF⟩, st⟩ | ⟨q, st₀, t, T', L, E, ce, h0, X', hL, e1, e2, ⟨u, hp, hb, hF⟩, hce, hcv, hcl, st⟩
  · cases hv
    obtain ⟨k1, k2, k3⟩ := vx_keep h0 e1 hS hA hf hL hF
    obtain ⟨t2, a1, b1⟩ := kk r u t T'.heap (locs ++ L) e1.symm (by rw [← e2]; exact X'.warmed.alike) hp hb k1 k2 k3 T' rfl X'
    exact ⟨t2, st t2 a1, b1⟩
  · obtain ⟨k1, k2, k3⟩ := vx_keep h0 e1 hS hAX hf hL hF
    obtain ⟨t2, a1, b1⟩ := kx E ce q u t T'.heap (locs ++ L) e1.symm (by rw [← e2]; exact X'.warmed.alike) hp hb k1 k2 k3 (by rw [e1]; exact hce) hcv hcl T' rfl X'
    exact ⟨t2, st.trans a1, b1⟩
theorem vx_callv {S SX : Type} {post : S → Prop} {px : SX → Prop} {B : S → State → Prop} {BX : String → SX → State → Prop} {AX : Nat → Prop} (hr : vx_Run p l e R s m args below meth c H locs cells slots mc ms (F0 m pc ls st0) rest (va_Qv post B A1 a) (vx_X px BX AX) free) (hS : va_S A0 H0 H locs) (hA : ∀ q, q < H.size → A1 q → A0 q) (hf : ∀ q, free q → A0 q) (hAX : ∀ q, q < H.size → AX q → A0 q)
    (kx : ∀ (E : String) (ce : Cell) (q9 : Addr) (u : SX) (t : State) (H1 : Heap) (locs1 : List Loc), t.heap = H1 → s.vm.Alike t.vm → px u → BX E u t → H.size ≤ H1.size → (∀ q : Nat, q < H.size → ¬ AX q → H1[q]? = H[q]?) → va_S A0 H0 H1 locs1 → H1[q9]? = some ce → ce.vm = .none → s.vm.findClass E = some ce.cls → vx_W p l e R s m args below meth c H1 locs1 (cells + mc) (slots + ms) Q (F0 m pc ls rest) q9)
    (kk : ∀ (u : S) (t : State) (H1 : Heap) (locs1 : List Loc), t.heap = H1 → s.vm.Alike t.vm → post u → B u t → H.size ≤ H1.size → (∀ q : Nat, q < H.size → ¬ A1 q → H1[q]? = H[q]?) → va_S A0 H0 H1 locs1 → W p l e R s m args below meth c H1 locs1 (cells + mc) (slots + ms) Q (F0 m (pc + 3) ls (rest))) : W p l e R s m args below meth c H locs cells slots Q (F0 m pc ls st0) := by
  intro T hT X
  rcases hr T hT X with ⟨v, st₀, t, T', L, h0, X', hL, e1, e2, ⟨⟨u, hv, hp, hb⟩, hF⟩, st⟩ | ⟨q, st₀, t, T', L, E, ce, h0, X', hL, e1, e2, ⟨u, hp, hb, hF⟩, hce, hcv, hcl, st⟩
  · cases hv
    obtain ⟨k1, k2, k3⟩ := vx_keep h0 e1 hS hA hf hL hF
    obtain ⟨t2, a1, b1⟩ := kk u t T'.heap (locs ++ L) e1.symm (by rw [← e2]; exact X'.warmed.alike) hp hb k1 k2 k3 T' rfl X'
    exact ⟨t2, st t2 a1, b1⟩
  · obtain ⟨k1, k2, k3⟩ := vx_keep h0 e1 hS hAX hf hL hF
    obtain ⟨t2, a1, b1⟩ := kx E ce q u t T'.heap (locs ++ L) e1.symm (by rw [← e2]; exact X'.warmed.alike) hp hb k1 k2 k3 (by rw [e1]; exact hce) hcv hcl T' rfl X'
    exact ⟨t2, st.trans a1, b1⟩
/-- caught by the row x of this method's table; the rows ahead don't take it -/
theorem vx_catch {own name : String} {E : String} {ce : Cell} {q : Addr} (hown : s.vm.findClass own = some m.cls) (pre : List ExceptionTableEntry) (x : ExceptionTableEntry) (suf : List ExceptionTableEntry) (hsplit : c.exceptionTable.toList = pre ++ x :: suf)
    (hpass : ∀ z ∈ pre, covers z pc = false ∨ (z.catchType ≠ 0 ∧ ∃ nm : String, (Cond.classLink own z.catchType nm).before args s = true ∧ va_Nc E nm s)) (hx : covers x pc = true) (h0 : x.catchType ≠ 0)
    (hlink : (Cond.classLink own x.catchType name).before args s = true) (hcast : (Cond.castable E name).before args s = true) (hcell : H[q]? = some ce) (hv : ce.vm = .none) (hcl : s.vm.findClass E = some ce.cls)
    (kk : W p l e R s m args below meth c H locs cells slots Q (F0 m x.handlerPc ls [.ref q])) : vx_W p l e R s m args below meth c H locs cells slots Q (F0 m pc ls rest) q := by
  intro T hT X
  have hpl : e.platform.magicAccessors = ({} : Platform).magicAccessors := by rw [X.admits.platform]
  obtain ⟨c3, c4, hc3, hc4, hasg⟩ := Cond.castable_spec hcast
  cases Option.some.inj (hc3.symm.trans hcl)
  obtain ⟨c5, hc5, hcl5⟩ := Cond.classLink_spec hown hlink e.platform hpl
  cases Option.some.inj (hc4.symm.trans hc5)
  obtain ⟨vm', X', st⟩ := X.thenCaughtThrough q (g := F0 m pc ls rest) rfl (Steps.refl _) (by rw [hT]; exact hcell) (by rw [hv]; rfl) (by obtain ⟨k9, h9, -⟩ := Vm.findClass_spec hcl; exact ⟨k9, h9⟩) pre x suf hsplit
    (fun z hz => by
      rcases hpass z hz with h | ⟨hz0, nm, hl1, hn1⟩
      · exact Or.inl h
      · obtain ⟨c6, hc6, hcl6⟩ := Cond.classLink_spec hown hl1 e.platform hpl
        obtain ⟨a8, b8, h1, h2, h3⟩ := hn1
        cases Option.some.inj (h1.symm.trans hcl)
        cases Option.some.inj (h2.symm.trans hc6)
        exact Or.inr ⟨hz0, _, hcl6, h3⟩) hx (Or.inr ⟨h0, c4, hcl5, hasg⟩)
  obtain ⟨t, a1, b1⟩ := kk (T.setVm vm') hT X'
  exact ⟨t, st.trans a1, b1⟩
end Rows
section Ends
variable {p : Program} {l : Launch} {e : Env} {R : Room} {s : State} {m : MethodId} {args : Array Value} {below : List Frame} {meth : Method} {c : Code} {H : Heap} {locs : List Loc} {cells slots : Nat} {Q : State → Prop}
variable {mc ms : Nat} {free : Addr → Prop} {A0 A1 : Nat → Prop} {H0 : Heap} {a : Array Value} {ls : Array Slot} {st0 rest : List Value}
variable {Qc : Array Value → State → Outcome → State → Prop} {XC : String → State → State → Prop}
/-- what a body that may throw owes at its end -/
def vx_MQ (below : List Frame) (Qc : Array Value → State → Outcome → State → Prop) (XC : String → State → State → Prop) (a : Array Value) (s : State) (mc ms : Nat) (free : Addr → Prop) : State → Prop := fun t =>
  ∃ o, t.status = .running ∧ Ended t below o ∧ vx_Q Qc XC mc ms free a s o t
theorem vx_ret {g : JFrame} {mc ms : Nat} (k : W p l e R s m args below meth c H locs cells slots (MQ below Qc args s mc ms free) g) : W p l e R s m args below meth c H locs cells slots (vx_MQ below Qc XC args s mc ms free) g := by
  intro T hT X
  obtain ⟨t, a1, o, b1, b2, b3, b4⟩ := k T hT X
  exact ⟨t, a1, o, b1, b2, Or.inl ⟨b3, b4⟩⟩
/-- not caught here: it goes on to the caller -/
theorem vx_widen {g : JFrame} {q : Addr} {k n : Nat} (h1 : cells ≤ k) (h2 : slots ≤ n) (kk : vx_W p l e R s m args below meth c H locs k n Q g q) : vx_W p l e R s m args below meth c H locs cells slots Q g q := fun T hT X => kk T hT (stand_widen X h1 h2)
theorem vx_out {pc : Nat} {E : String} {ce : Cell} {q : Addr} {mc ms : Nat} (hout : ∀ x ∈ c.exceptionTable.toList, covers x pc = false) (hlocks : meth.locks = false) (hcell : H[q]? = some ce) (hv : ce.vm = .none) (hcl : s.vm.findClass E = some ce.cls)
    (hx : ∀ t : State, t.heap = H → s.vm.Alike t.vm → XC E s t) (hf : ∀ z ∈ locs, free z.base) (hc : cells ≤ mc) (hs : slots ≤ ms) :
    vx_W p l e R s m args below meth c H locs cells slots (vx_MQ below Qc XC args s mc ms free) (F0 m pc ls rest) q := by
  intro T hT X
  obtain ⟨st1, hrun, hend, hW, hsm⟩ := X.leaveThrown q (g := F0 m pc ls rest) rfl rfl rfl hout hlocks
  have hcell9 : (T.setFrames (.throwing q :: below)).heap[q]? = some ce := by
    show T.heap[q]? = some ce
    rw [hT]; exact hcell
  exact ⟨_, st1, .threw q, hrun, hend, Or.inr ⟨q, rfl, E, ce, locs, hx _ hT hW.alike, hcell9, hv, hcl, hW, hsm.mono hc hs, hf⟩⟩
theorem vx_frame {U : State} {k n : Nat} (h : s.sameButNew ({ U with vm := s.vm } : State) locs k n) : s.heap.size ≤ U.heap.size ∧ ∀ q : Nat, q < s.heap.size → (∀ z ∈ locs, z.base ≠ q) → U.heap[q]? = s.heap[q]? := by
  obtain ⟨-, h2, -, -, -, h6⟩ := h
  refine ⟨h2, fun q hq hz => ?_⟩
  obtain ⟨c9, e1, e2, e3, e4⟩ := h6 q _ (Array.getElem?_eq_getElem hq)
  have hs : c9.slots = (s.heap[q]).slots := Array.ext_getElem? fun i => e4 i fun hm => hz _ hm rfl
  have h9 : c9 = s.heap[q] := by
    rw [hs] at e2
    exact e2
  have e5 : U.heap[q]? = some c9 := e1
  rw [e5, h9, Array.getElem?_eq_getElem hq]
/-- the words of a throw but the four that speak of the heap -/
def vx_no (w : Cond) : Bool := decide (w ≠ .isRef (.static Bundle.tN "UNASSIGNED_STACK" Bundle.steD)) && decide (w ≠ .isRef (.static Bundle.tN "SUPPRESSED_SENTINEL" Bundle.listD)) && decide (w ≠ .laysStatic Bundle.tN "UNASSIGNED_STACK" Bundle.steD) && decide (w ≠ .laysStatic Bundle.tN "SUPPRESSED_SENTINEL" Bundle.listD)
def vx_at0 (own : String) (ic : Nat) (X : String) (names : List String) : List Cond := (Bundle.ownAtoms0 own ic X names).filter vx_no
def vx_atS (own : String) (ic : Nat) (X : String) (names : List String) : List Cond := (Bundle.ownAtoms own ic X names).filter vx_no
/-- a word that the tables alone decide, or a good one -/
def vx_ot (w : Cond) : Bool := w.onTables || goodWord w
theorem vx_ot_at {args a' : Array Value} {s U : State} {w : Cond} (hW : s.WarmedH U.vm) (hvm : s.vm = U.vm) (hg : vx_ot w = true) (h : w.before args s = true) : w.before a' U = true := by
  simp only [vx_ot, Bool.or_eq_true] at hg
  rcases hg with hg | hg
  · exact va_tabs hg hvm h
  · exact word_at hW (good_of_word hg) h
/-- a list's words: the good ones out of the method's own list, the others by premises of their own -/
theorem vx_hat {args : Array Value} {s : State} {L B : List Cond} (h1 : ∀ w ∈ L.filter goodWord, w.before args s = true) (h2 : ∀ w ∈ L.filter (fun w => !goodWord w), w ∈ B) (h3 : ∀ w ∈ B, w.before args s = true) : ∀ w ∈ L, w.before args s = true := by
  intro w hw
  by_cases g : goodWord w = true
  · exact h1 w (List.mem_filter.mpr ⟨hw, g⟩)
  · refine h3 w (h2 w (List.mem_filter.mpr ⟨hw, ?_⟩))
    show (!goodWord w) = true
    cases hgw : goodWord w
    · rfl
    · exact absurd hgw g
theorem vx_c {args : Array Value} {s : State} {w : Cond} {B : List Cond} (h : w.before args s = true) (t : ∀ w ∈ B, w.before args s = true) : ∀ w' ∈ w :: B, w'.before args s = true := fun w' h' => (List.mem_cons.mp h').elim (fun e => by rw [e]; exact h) (t w')
theorem vx_n {args : Array Value} {s : State} : ∀ w ∈ ([] : List Cond), w.before args s = true := fun _ h => nomatch h
theorem vx_own {args : Array Value} {s : State} {L : List Cond} (h1 : ∀ w ∈ L.filter vx_no, w.before args s = true)
    (hU : (Cond.isRef (.static Bundle.tN "UNASSIGNED_STACK" Bundle.steD)).before args s = true) (hN : (Cond.isRef (.static Bundle.tN "SUPPRESSED_SENTINEL" Bundle.listD)).before args s = true)
    (lU : (Cond.laysStatic Bundle.tN "UNASSIGNED_STACK" Bundle.steD).before args s = true) (lN : (Cond.laysStatic Bundle.tN "SUPPRESSED_SENTINEL" Bundle.listD).before args s = true) : ∀ w ∈ L, w.before args s = true := by
  intro w hw
  by_cases e1 : w = .isRef (.static Bundle.tN "UNASSIGNED_STACK" Bundle.steD)
  · rw [e1]; exact hU
  · by_cases e2 : w = .isRef (.static Bundle.tN "SUPPRESSED_SENTINEL" Bundle.listD)
    · rw [e2]; exact hN
    · by_cases e3 : w = .laysStatic Bundle.tN "UNASSIGNED_STACK" Bundle.steD
      · rw [e3]; exact lU
      · by_cases e4 : w = .laysStatic Bundle.tN "SUPPRESSED_SENTINEL" Bundle.listD
        · rw [e4]; exact lN
        · exact h1 w (List.mem_filter.mpr ⟨hw, by unfold vx_no; rw [decide_eq_true e1, decide_eq_true e2, decide_eq_true e3, decide_eq_true e4]; rfl⟩)
/-- where a static field lies, its class's statics cell in H -/
def vx_L (C n d : String) (A : Nat → Prop) (U : State) (H : Heap) : Prop := ∃ (c : ClassId) (k : Class) (i : Nat) (f : Field) (a : Nat) (cell : Cell), U.vm.findClass C = some c ∧ U.fieldFound? C n d = some (c, k, i, f) ∧ f.isStatic = true ∧ k.statics = some a ∧ H[a]? = some cell ∧ cell.vm.isStatics = true ∧ cell.cls = c ∧ f.slot < cell.slots.size ∧ k.staticTypes[f.slot]? = some f.type ∧ ¬ A a
theorem vx_L.moved {C n d : String} {A : Nat → Prop} {u U : State} {H : Heap} (hvm : u.vm.Alike U.vm) (h : vx_L C n d A u H) : vx_L C n d A U H := by
  obtain ⟨c, k, i, f, a, cell, h1, h2, h3, h4, h5, h6, h7, h8, h9, h10⟩ := h
  obtain ⟨k', hi', he⟩ := State.fieldFound?_setVm hvm h2
  exact ⟨c, k', i, f, a, cell, by rw [hvm.findClass]; exact h1, hi', h3, by rw [he]; exact h4, h5, h6, h7, h8, by rw [he]; exact h9, h10⟩
theorem vx_L.kept {C n d : String} {A : Nat → Prop} {U : State} {H H1 : Heap} (h : vx_L C n d A U H) (hq : ∀ a : Nat, a < H.size → ¬ A a → H1[a]? = H[a]?) : vx_L C n d A U H1 := by
  obtain ⟨c, k, i, f, a, cell, h1, h2, h3, h4, h5, h6, h7, h8, h9, h10⟩ := h
  exact ⟨c, k, i, f, a, cell, h1, h2, h3, h4, by rw [hq a (Array.getElem?_eq_some_iff.mp h5).1 h10]; exact h5, h6, h7, h8, h9, h10⟩
theorem vx_L.narrow {C n d : String} {A B : Nat → Prop} {U : State} {H : Heap} (h : vx_L C n d A U H) (hAB : ∀ q, B q → A q) : vx_L C n d B U H := by
  obtain ⟨c, k, i, f, a, cell, h1, h2, h3, h4, h5, h6, h7, h8, h9, h10⟩ := h
  exact ⟨c, k, i, f, a, cell, h1, h2, h3, h4, h5, h6, h7, h8, h9, fun z => h10 (hAB _ z)⟩
theorem vx_L.word {C n d : String} {A : Nat → Prop} {s : State} {args : Array Value} (h : vx_L C n d A s s.heap) : (Cond.laysStatic C n d).before args s = true := by
  obtain ⟨c, k, i, f, a, cell, h1, h2, h3, h4, h5, h6, h7, h8, h9, -⟩ := h
  show (Cond.laysStatic C n d).holds args s none s [] = true
  exact Cond.laysStatic_of h1 h2 h3 h4 h5 h6 h7 h8 h9
/-- .. and what it holds: null or some reference -/
def vx_Zq (C n d : String) (A : Nat → Prop) (U : State) (H : Heap) : Prop := va_Zq C n d A U H ∧ vx_L C n d A U H
theorem vx_Zq.moved {C n d : String} {A : Nat → Prop} {u U : State} {H : Heap} (hvm : u.vm.Alike U.vm) (h : vx_Zq C n d A u H) : vx_Zq C n d A U H := ⟨va_Zq.moved hvm h.1, vx_L.moved hvm h.2⟩
theorem vx_Zq.kept {C n d : String} {A : Nat → Prop} {U : State} {H H1 : Heap} (h : vx_Zq C n d A U H) (hq : ∀ a : Nat, a < H.size → ¬ A a → H1[a]? = H[a]?) : vx_Zq C n d A U H1 := ⟨va_Zq.kept h.1 hq, vx_L.kept h.2 hq⟩
theorem vx_Zq.narrow {C n d : String} {A B : Nat → Prop} {U : State} {H : Heap} (h : vx_Zq C n d A U H) (hAB : ∀ q, B q → A q) : vx_Zq C n d B U H := ⟨va_Zq.narrow h.1 hAB, vx_L.narrow h.2 hAB⟩
theorem vx_Zqof {args : Array Value} {s : State} {C n d : String} {A : Nat → Prop} (hl : (Cond.laysStatic C n d).before args s = true) (hini : (Cond.initialized C).before args s = true) (h : (Cond.isRef (.static C n d)).before args s = true) (hA : ∀ a : Nat, a < s.heap.size → ¬ A a) : vx_Zq C n d A s s.heap := by
  refine ⟨va_Zqof hl hini h hA, ?_⟩
  obtain ⟨c, k, i, f, a, cell, h1, h2, h3, h4, h5, h6, h7, h8, h9⟩ := Cond.laysStatic_spec hl
  exact ⟨c, k, i, f, a, cell, h1, h2, h3, h4, h5, h6, h7, h8, h9, hA a (Array.getElem?_eq_some_iff.mp h5).1⟩
theorem vx_isRef {C n d : String} {v : Value} {A : Nat → Prop} {s : State} {args : Array Value} (h : va_Z C n d v A s s.heap) (hv : v.isRef = true) : (Cond.isRef (.static C n d)).before args s = true := by
  obtain ⟨cf, kf, fi, f, a, cell, h1, h2, h3, h4, h5, h6, h7, -⟩ := h
  have he : (Term.static C n d).eval args s none [] s = some v := by
    simp [Term.eval, State.fieldNamed?, h1, h2, h4, h5, h6, h7]
  simp only [Cond.before, Cond.holds, Cond.value, he]
  cases v <;> simp_all [Value.isRef]
theorem vx_isRefq {C n d : String} {A : Nat → Prop} {s : State} {args : Array Value} (h : va_Zq C n d A s s.heap) : (Cond.isRef (.static C n d)).before args s = true := by
  rcases h with h | ⟨t, h⟩
  · exact vx_isRef h rfl
  · exact vx_isRef h rfl
/-- the same frame, seen from here: as if the method were called anew in this heap -/
theorem vx_rebase {T : State} (X : Stand p l e R s m args below meth c T locs cells slots) {R' : Room} (hf : R'.frames ≤ R.frames) (hl : R'.locals ≤ R.locals) (hc : cells + R'.cells ≤ R.cells) (hs : slots + R'.slots ≤ R.slots) :
    Stand p l e R' ((T.setVm s.vm).setFrames (.invoking m args :: below)) m args below meth c T [] 0 0 := by
  have htop : (T.setVm s.vm).topJava?.isSome := X.here.top
  have hF : ((T.setVm s.vm).setFrames (.invoking m args :: below)).frames = .invoking m args :: below := State.frames_setFrames _ (State.cur_lt_of_top htop)
  obtain ⟨g₀, hg0⟩ := Option.isSome_iff_exists.mp htop
  obtain ⟨r, hr⟩ := State.topJava?_eq_some.mp hg0
  have hl9 : e.platform.stackLimits (T.setVm s.vm).me = e.platform.stackLimits s.me := X.limits
  have hb9 : (T.setVm s.vm).me.stackBytes = s.me.stackBytes := X.bytes
  refine ⟨X.admits, X.cas, X.clock, hF, ?_, X.hears, X.method, X.code, X.here, X.tail, X.warmed, ?_, ?_, ?_⟩
  · have h := X.room
    have hU : ((T.setVm s.vm).setFrames (.invoking m args :: below)).localsInUse = s.localsInUse := by
      rw [State.localsInUse_invoking hF (meth := meth) (c := c) X.method X.code, State.localsInUse_invoking X.frames X.method X.code]
    simp only [State.hasRoom, Bool.and_eq_true, decide_eq_true_eq] at h ⊢
    obtain ⟨⟨⟨⟨h1, h2, h3, h4, h5, h6⟩, h7⟩, h8⟩, h9⟩ := h
    rw [X.frames, List.length_cons] at h2 h3
    have q1 := X.heapSize
    have q2 := X.used
    simp only [hF, hU, List.length_cons, State.stackLimits_setFrames, State.stackBytes_setFrames, hl9, hb9]
    refine ⟨⟨⟨⟨by omega, by omega, by omega, by omega, by omega, h6⟩, ?_⟩, ?_⟩, X.book⟩
    · show T.heap.size + R'.cells ≤ e.platform.maxCells
      omega
    · show T.slotsUsed + R'.slots ≤ e.platform.maxSlots
      omega
  · rw [State.stackLimits_setFrames]; rfl
  · rw [State.stackBytes_setFrames]; rfl
  · refine ⟨?_, Nat.le_refl _, Nat.le_refl _, ?_, ?_, fun a c9 h9 => ⟨c9, h9, rfl, rfl, fun _ _ => rfl⟩⟩
    · obtain ⟨t, ht, -⟩ := State.frames_cons hr
      show T.setVm s.vm = { ((T.setVm s.vm).setFrames (.invoking m args :: below)).setFrames (T.setVm s.vm).frames with heap := T.heap, slotsUsed := T.slotsUsed }
      rw [State.setFrames_setFrames, State.setFrames_self ht]
      rfl
    · show T.slotsUsed = T.slotsUsed + ((T.heap.toList.drop T.heap.size).map (·.slots.size)).sum
      rw [List.drop_eq_nil_of_le (Nat.le_of_eq Array.length_toList)]
      rfl
    · show ((T.heap.toList.drop T.heap.size).map (·.slots.size)).sum ≤ 0
      rw [List.drop_eq_nil_of_le (Nat.le_of_eq Array.length_toList)]
      exact Nat.le_refl _
/-- 'throw new E()': new; dup; invokespecial; athrow -/
theorem vx_throw0 {cc : ByteArray} {pc : Nat} (hexec : p.tables.exec = Jvm.exec) (hb : c.code = cc) (hl : l.stackTraces = false) {own cls : String} {names : List String} {ik ic mc ms : Nat} {A : Nat → Prop}
    (hown : s.vm.findClass own = some m.cls) (hcls : Bundle.fit cls = true) (hnames : ∀ n ∈ names, Bundle.fit n = true)
    (hk : (Cond.classLink own ik cls).before args s = true) (hini : (Cond.initialized cls).before args s = true) (hat : ∀ w ∈ vx_at0 own ic cls names, w.before args s = true)
    (hgood : ∀ w ∈ Cond.classLink own ik cls :: Cond.initialized cls :: vx_at0 own ic cls names, vx_ot w = true)
    (hU : vx_Zq Bundle.tN "UNASSIGNED_STACK" Bundle.steD A s s.heap) (hN : vx_Zq Bundle.tN "SUPPRESSED_SENTINEL" Bundle.listD A s s.heap) (hS : va_S A s.heap H locs) (hsize : ls.size = c.maxLocals)
    (d0 : decode cc pc = .ok (.new ik, 3)) (d3 : decode cc (pc + 3) = .ok (.dup, 1)) (d4 : decode cc (pc + 4) = .ok (.invokespecial ic, 3)) (d7 : decode cc (pc + 7) = .ok (.athrow, 1))
    (hout : ∀ x ∈ c.exceptionTable.toList, covers x (pc + 7) = false)
    (hRframes : names.length + 3 < R.frames) (hRlocals : (rest.map fun v => v.category).sum + (13 * (names.length + 1) + 42) ≤ R.locals) (hRcells : cells + 1 ≤ R.cells) (hRslots : slots + 6 ≤ R.slots) (hlocks : meth.locks = false)
    (hx : ∀ t : State, s.vm.Alike t.vm → H.size ≤ t.heap.size → (∀ q : Nat, q < H.size → t.heap[q]? = H[q]?) → XC cls s t)
    (hf : ∀ z ∈ locs, free z.base) (hc : cells + 1 ≤ mc) (hs : slots + 6 ≤ ms) :
    W p l e R s m args below meth c H locs cells slots (vx_MQ below Qc XC args s mc ms free) (F0 m pc ls rest) := by
  intro T hT X
  have htr : e.platform.stackTraces = false := (show e.platform.stackTraces = l.stackTraces by rw [X.admits.platform]).trans hl
  have Y := vx_rebase X (R' := { frames := R.frames, locals := R.locals, cells := 1, slots := 6 }) (Nat.le_refl _) (Nat.le_refl _) hRcells hRslots
  obtain ⟨s', hA⟩ : ∃ z, z = (T.setVm s.vm).setFrames (.invoking m args :: below) := ⟨_, rfl⟩
  rw [← hA] at Y
  have hvm : s'.vm = s.vm := by rw [hA]; rfl
  have hhp : s'.heap = H := by rw [hA]; exact hT
  have hW0 : s.WarmedH s'.vm := by rw [hvm]; exact State.WarmedH.refl s
  have hat' : ∀ w ∈ vx_at0 own ic cls names, w.before args s' = true := fun w hw => vx_ot_at hW0 hvm.symm (hgood w (List.mem_cons_of_mem _ (List.mem_cons_of_mem _ hw))) (hat w hw)
  have hk' : (Cond.classLink own ik cls).before args s' = true := vx_ot_at hW0 hvm.symm (hgood _ List.mem_cons_self) hk
  have hini' : (Cond.initialized cls).before args s' = true := vx_ot_at hW0 hvm.symm (hgood _ (List.mem_cons_of_mem _ List.mem_cons_self)) hini
  have hU' : vx_Zq Bundle.tN "UNASSIGNED_STACK" Bundle.steD A s' s'.heap := by rw [hhp]; exact vx_Zq.moved hW0.alike (hU.kept hS.2.1)
  have hN' : vx_Zq Bundle.tN "SUPPRESSED_SENTINEL" Bundle.listD A s' s'.heap := by rw [hhp]; exact vx_Zq.moved hW0.alike (hN.kept hS.2.1)
  have h : ∀ w ∈ Bundle.ownAtoms0 own ic cls names, w.before args s' = true := vx_own hat' (vx_isRefq hU'.1) (vx_isRefq hN'.1) hU'.2.word hN'.2.word
  have hown' : s'.vm.findClass own = some m.cls := by rw [hvm]; exact hown
  have hins : (Cond.instantiable cls 6).before args s' = true := h _ (by simp [Bundle.ownAtoms0])
  obtain ⟨vm₁, cX, kX, hfX, hkX, -, -, X₁, st1⟩ := Y.newCold hexec (own := own) (C := cls) (index := ik) (n := 6) hown' hk' hins hini'
    (g := F0 m pc ls rest) rfl (by rw [hb]; exact d0) (Nat.le_refl _) (Nat.le_refl _)
  generalize hT1 : (T.setVm vm₁).pushCell { cls := cX, slots := kX.instanceTypes.map defaultValue, vm := .none } = T1 at X₁ st1
  have hcat : (Value.ref T.heap.size).category = 1 := rfl
  have hcellA : T1.heap[T.heap.size]? = some (freshCell cX kX) := by rw [← hT1]; exact State.heap_pushCell_size _ _
  have d3' : decode c.code (pc + 3) = .ok (.dup, 1) := by rw [hb]; exact d3
  obtain ⟨U, hsteps, hrun, hend, hW, hsame, ce, hce, hO⟩ := X₁.ctorThrow0 hexec htr (own := own) (cls := cls) (names := names) (ic := ic) hown' hcls hnames h (fun x hx => nomatch hx) hfX hkX hcellA (by rw [hhp, hT]; exact Nat.le_refl _)
    (g := { method := m, pc := pc + 4, locals := ls, stack := .ref T.heap.size :: .ref T.heap.size :: rest, locked := none }) rfl hsize rfl rfl (rest := rest) rfl
    (by rw [hb]; exact d4) (by rw [hb]; exact d7) hout hRframes (by simp only [List.map_cons, List.sum_cons, hcat]; omega) hlocks
  obtain ⟨f1, f2⟩ := vx_frame hsame
  rw [hhp] at f1 f2
  have hWs : s.WarmedH U.vm := State.WarmedH.trans hW0 hW
  have hcl : s.vm.findClass cls = some ce.cls := by
    have h9 := hO.cls
    rw [hvm] at h9
    exact h9
  have hall : s.sameButNew ({ U with vm := s.vm } : State) locs mc ms := by
    subst hA
    obtain ⟨e1, e2⟩ := hsame
    rw [State.setFrames_setFrames] at e1
    have h2 : (T.setVm s.vm).sameButNew ({ U with vm := s.vm } : State) [] (0 + 1) (0 + 6) := ⟨e1, e2⟩
    have h3 := X.same.trans h2
    rw [List.append_nil] at h3
    exact h3.mono hc hs
  refine ⟨U, ?_, .threw T.heap.size, hrun, hend, Or.inr ⟨T.heap.size, rfl, cls, ce, locs, hx U hWs.alike f1 (fun q hq => f2 q hq (fun z hz => nomatch hz)), hce, hO.vm, hcl, hWs, hall, hf⟩⟩
  refine st1 _ ?_
  show Steps p.tables e below (T1.setTop { method := m, pc := pc + 3, locals := ls, stack := .ref T.heap.size :: rest, locked := none }) _
  jvm_step X₁.here [X₁.here.top, hexec, d3', Value.category]
  exact hsteps
/-- 'throw new E("text")': new; dup; ldc; invokespecial; athrow -/
theorem vx_throwS {cc : ByteArray} {pc : Nat} (hexec : p.tables.exec = Jvm.exec) (hb : c.code = cc) (hl : l.stackTraces = false) {own cls text : String} {names : List String} {ik is ic mc ms sa : Nat} {A : Nat → Prop}
    (hown : s.vm.findClass own = some m.cls) (hcls : Bundle.fit cls = true) (hnames : ∀ n ∈ names, Bundle.fit n = true)
    (hk : (Cond.classLink own ik cls).before args s = true) (hini : (Cond.initialized cls).before args s = true) (hstr : vk_R own is text sa s) (hat : ∀ w ∈ vx_atS own ic cls names, w.before args s = true)
    (hgood : ∀ w ∈ Cond.classLink own ik cls :: Cond.initialized cls :: vx_atS own ic cls names, vx_ot w = true)
    (hU : vx_Zq Bundle.tN "UNASSIGNED_STACK" Bundle.steD A s s.heap) (hN : vx_Zq Bundle.tN "SUPPRESSED_SENTINEL" Bundle.listD A s s.heap) (hS : va_S A s.heap H locs) (hsize : ls.size = c.maxLocals)
    (d0 : decode cc pc = .ok (.new ik, 3)) (d3 : decode cc (pc + 3) = .ok (.dup, 1)) (d4 : decode cc (pc + 4) = .ok (.ldc is, 2)) (d6 : decode cc (pc + 6) = .ok (.invokespecial ic, 3)) (d9 : decode cc (pc + 9) = .ok (.athrow, 1))
    (hout : ∀ x ∈ c.exceptionTable.toList, covers x (pc + 9) = false)
    (hRframes : names.length + 3 < R.frames) (hRlocals : (rest.map fun v => v.category).sum + (13 * (names.length + 1) + 43) ≤ R.locals) (hRcells : cells + 1 ≤ R.cells) (hRslots : slots + 6 ≤ R.slots) (hlocks : meth.locks = false)
    (hx : ∀ t : State, s.vm.Alike t.vm → H.size ≤ t.heap.size → (∀ q : Nat, q < H.size → t.heap[q]? = H[q]?) → XC cls s t)
    (hf : ∀ z ∈ locs, free z.base) (hc : cells + 1 ≤ mc) (hs : slots + 6 ≤ ms) :
    W p l e R s m args below meth c H locs cells slots (vx_MQ below Qc XC args s mc ms free) (F0 m pc ls rest) := by
  intro T hT X
  have htr : e.platform.stackTraces = false := (show e.platform.stackTraces = l.stackTraces by rw [X.admits.platform]).trans hl
  have Y := vx_rebase X (R' := { frames := R.frames, locals := R.locals, cells := 1, slots := 6 }) (Nat.le_refl _) (Nat.le_refl _) hRcells hRslots
  obtain ⟨s', hA⟩ : ∃ z, z = (T.setVm s.vm).setFrames (.invoking m args :: below) := ⟨_, rfl⟩
  rw [← hA] at Y
  have hvm : s'.vm = s.vm := by rw [hA]; rfl
  have hhp : s'.heap = H := by rw [hA]; exact hT
  have hW0 : s.WarmedH s'.vm := by rw [hvm]; exact State.WarmedH.refl s
  have hat' : ∀ w ∈ vx_atS own ic cls names, w.before args s' = true := fun w hw => vx_ot_at hW0 hvm.symm (hgood w (List.mem_cons_of_mem _ (List.mem_cons_of_mem _ hw))) (hat w hw)
  have hk' : (Cond.classLink own ik cls).before args s' = true := vx_ot_at hW0 hvm.symm (hgood _ List.mem_cons_self) hk
  have hini' : (Cond.initialized cls).before args s' = true := vx_ot_at hW0 hvm.symm (hgood _ (List.mem_cons_of_mem _ List.mem_cons_self)) hini
  have hU' : vx_Zq Bundle.tN "UNASSIGNED_STACK" Bundle.steD A s' s'.heap := by rw [hhp]; exact vx_Zq.moved hW0.alike (hU.kept hS.2.1)
  have hN' : vx_Zq Bundle.tN "SUPPRESSED_SENTINEL" Bundle.listD A s' s'.heap := by rw [hhp]; exact vx_Zq.moved hW0.alike (hN.kept hS.2.1)
  have h : ∀ w ∈ Bundle.ownAtoms own ic cls names, w.before args s' = true := vx_own hat' (vx_isRefq hU'.1) (vx_isRefq hN'.1) hU'.2.word hN'.2.word
  have hown' : s'.vm.findClass own = some m.cls := by rw [hvm]; exact hown
  have hins : (Cond.instantiable cls 6).before args s' = true := h _ (by simp [Bundle.ownAtoms])
  obtain ⟨vm₁, cX, kX, hfX, hkX, -, -, X₁, st1⟩ := Y.newCold hexec (own := own) (C := cls) (index := ik) (n := 6) hown' hk' hins hini'
    (g := F0 m pc ls rest) rfl (by rw [hb]; exact d0) (Nat.le_refl _) (Nat.le_refl _)
  generalize hT1 : (T.setVm vm₁).pushCell { cls := cX, slots := kX.instanceTypes.map defaultValue, vm := .none } = T1 at X₁ st1
  have hcat : (Value.ref T.heap.size).category = 1 := rfl
  have hcellA : T1.heap[T.heap.size]? = some (freshCell cX kX) := by rw [← hT1]; exact State.heap_pushCell_size _ _
  have d3' : decode c.code (pc + 3) = .ok (.dup, 1) := by rw [hb]; exact d3
  have d4' : decode c.code (pc + 4) = .ok (.ldc is, 2) := by rw [hb]; exact d4
  have hstr' : vk_R own is text sa s' := vk_R.warm hW0 hstr
  obtain ⟨U, hsteps, hrun, hend, hW, hsame, ce, hce, hO⟩ := X₁.ctorThrowS hexec htr (own := own) (cls := cls) (names := names) (ic := ic) hown' hcls hnames h (fun x hx => nomatch hx) hfX hkX hcellA (by rw [hhp, hT]; exact Nat.le_refl _) (msg := .ref sa) rfl
    (g := { method := m, pc := pc + 6, locals := ls, stack := .ref sa :: .ref T.heap.size :: .ref T.heap.size :: rest, locked := none }) rfl hsize rfl rfl (rest := rest) rfl
    (by rw [hb]; exact d6) (by rw [hb]; exact d9) hout hRframes (by simp only [List.map_cons, List.sum_cons, hcat]; omega) hlocks
  obtain ⟨f1, f2⟩ := vx_frame hsame
  rw [hhp] at f1 f2
  have hWs : s.WarmedH U.vm := State.WarmedH.trans hW0 hW
  have hcl : s.vm.findClass cls = some ce.cls := by
    have h9 := hO.cls
    rw [hvm] at h9
    exact h9
  have hall : s.sameButNew ({ U with vm := s.vm } : State) locs mc ms := by
    subst hA
    obtain ⟨e1, e2⟩ := hsame
    rw [State.setFrames_setFrames] at e1
    have h2 : (T.setVm s.vm).sameButNew ({ U with vm := s.vm } : State) [] (0 + 1) (0 + 6) := ⟨e1, e2⟩
    have h3 := X.same.trans h2
    rw [List.append_nil] at h3
    exact h3.mono hc hs
  refine ⟨U, ?_, .threw T.heap.size, hrun, hend, Or.inr ⟨T.heap.size, rfl, cls, ce, locs, hx U hWs.alike f1 (fun q hq => f2 q hq (fun z hz => nomatch hz)), hce, hO.vm, hcl, hWs, hall, hf⟩⟩
  refine st1 _ ?_
  show Steps p.tables e below (T1.setTop { method := m, pc := pc + 3, locals := ls, stack := .ref T.heap.size :: rest, locked := none }) _
  jvm_step X₁.here [X₁.here.top, hexec, d3', Value.category]
  exact X₁.ldcString hexec (own := own) (text := text) (index := is) (a := sa) hown' hstr'.1 hstr'.2
    (g := { method := m, pc := pc + 4, locals := ls, stack := .ref T.heap.size :: .ref T.heap.size :: rest, locked := none }) rfl d4' _ hsteps
/-- 'throw new E("text")', the text by a wide index -/
theorem vx_throwSW {cc : ByteArray} {pc : Nat} (hexec : p.tables.exec = Jvm.exec) (hb : c.code = cc) (hl : l.stackTraces = false) {own cls text : String} {names : List String} {ik is ic mc ms sa : Nat} {A : Nat → Prop}
    (hown : s.vm.findClass own = some m.cls) (hcls : Bundle.fit cls = true) (hnames : ∀ n ∈ names, Bundle.fit n = true)
    (hk : (Cond.classLink own ik cls).before args s = true) (hini : (Cond.initialized cls).before args s = true) (hstr : vk_R own is text sa s) (hat : ∀ w ∈ vx_atS own ic cls names, w.before args s = true)
    (hgood : ∀ w ∈ Cond.classLink own ik cls :: Cond.initialized cls :: vx_atS own ic cls names, vx_ot w = true)
    (hU : vx_Zq Bundle.tN "UNASSIGNED_STACK" Bundle.steD A s s.heap) (hN : vx_Zq Bundle.tN "SUPPRESSED_SENTINEL" Bundle.listD A s s.heap) (hS : va_S A s.heap H locs) (hsize : ls.size = c.maxLocals)
    (d0 : decode cc pc = .ok (.new ik, 3)) (d3 : decode cc (pc + 3) = .ok (.dup, 1)) (d4 : decode cc (pc + 4) = .ok (.ldc_w is, 3)) (d7 : decode cc (pc + 7) = .ok (.invokespecial ic, 3)) (d10 : decode cc (pc + 10) = .ok (.athrow, 1))
    (hout : ∀ x ∈ c.exceptionTable.toList, covers x (pc + 10) = false)
    (hRframes : names.length + 3 < R.frames) (hRlocals : (rest.map fun v => v.category).sum + (13 * (names.length + 1) + 43) ≤ R.locals) (hRcells : cells + 1 ≤ R.cells) (hRslots : slots + 6 ≤ R.slots) (hlocks : meth.locks = false)
    (hx : ∀ t : State, s.vm.Alike t.vm → H.size ≤ t.heap.size → (∀ q : Nat, q < H.size → t.heap[q]? = H[q]?) → XC cls s t)
    (hf : ∀ z ∈ locs, free z.base) (hc : cells + 1 ≤ mc) (hs : slots + 6 ≤ ms) :
    W p l e R s m args below meth c H locs cells slots (vx_MQ below Qc XC args s mc ms free) (F0 m pc ls rest) := by
  intro T hT X
  have htr : e.platform.stackTraces = false := (show e.platform.stackTraces = l.stackTraces by rw [X.admits.platform]).trans hl
  have Y := vx_rebase X (R' := { frames := R.frames, locals := R.locals, cells := 1, slots := 6 }) (Nat.le_refl _) (Nat.le_refl _) hRcells hRslots
  obtain ⟨s', hA⟩ : ∃ z, z = (T.setVm s.vm).setFrames (.invoking m args :: below) := ⟨_, rfl⟩
  rw [← hA] at Y
  have hvm : s'.vm = s.vm := by rw [hA]; rfl
  have hhp : s'.heap = H := by rw [hA]; exact hT
  have hW0 : s.WarmedH s'.vm := by rw [hvm]; exact State.WarmedH.refl s
  have hat' : ∀ w ∈ vx_atS own ic cls names, w.before args s' = true := fun w hw => vx_ot_at hW0 hvm.symm (hgood w (List.mem_cons_of_mem _ (List.mem_cons_of_mem _ hw))) (hat w hw)
  have hk' : (Cond.classLink own ik cls).before args s' = true := vx_ot_at hW0 hvm.symm (hgood _ List.mem_cons_self) hk
  have hini' : (Cond.initialized cls).before args s' = true := vx_ot_at hW0 hvm.symm (hgood _ (List.mem_cons_of_mem _ List.mem_cons_self)) hini
  have hU' : vx_Zq Bundle.tN "UNASSIGNED_STACK" Bundle.steD A s' s'.heap := by rw [hhp]; exact vx_Zq.moved hW0.alike (hU.kept hS.2.1)
  have hN' : vx_Zq Bundle.tN "SUPPRESSED_SENTINEL" Bundle.listD A s' s'.heap := by rw [hhp]; exact vx_Zq.moved hW0.alike (hN.kept hS.2.1)
  have h : ∀ w ∈ Bundle.ownAtoms own ic cls names, w.before args s' = true := vx_own hat' (vx_isRefq hU'.1) (vx_isRefq hN'.1) hU'.2.word hN'.2.word
  have hown' : s'.vm.findClass own = some m.cls := by rw [hvm]; exact hown
  have hins : (Cond.instantiable cls 6).before args s' = true := h _ (by simp [Bundle.ownAtoms])
  obtain ⟨vm₁, cX, kX, hfX, hkX, -, -, X₁, st1⟩ := Y.newCold hexec (own := own) (C := cls) (index := ik) (n := 6) hown' hk' hins hini'
    (g := F0 m pc ls rest) rfl (by rw [hb]; exact d0) (Nat.le_refl _) (Nat.le_refl _)
  generalize hT1 : (T.setVm vm₁).pushCell { cls := cX, slots := kX.instanceTypes.map defaultValue, vm := .none } = T1 at X₁ st1
  have hcat : (Value.ref T.heap.size).category = 1 := rfl
  have hcellA : T1.heap[T.heap.size]? = some (freshCell cX kX) := by rw [← hT1]; exact State.heap_pushCell_size _ _
  have d3' : decode c.code (pc + 3) = .ok (.dup, 1) := by rw [hb]; exact d3
  have d4' : decode c.code (pc + 4) = .ok (.ldc_w is, 3) := by rw [hb]; exact d4
  have hstr' : vk_R own is text sa s' := vk_R.warm hW0 hstr
  obtain ⟨U, hsteps, hrun, hend, hW, hsame, ce, hce, hO⟩ := X₁.ctorThrowS hexec htr (own := own) (cls := cls) (names := names) (ic := ic) hown' hcls hnames h (fun x hx => nomatch hx) hfX hkX hcellA (by rw [hhp, hT]; exact Nat.le_refl _) (msg := .ref sa) rfl
    (g := { method := m, pc := pc + 7, locals := ls, stack := .ref sa :: .ref T.heap.size :: .ref T.heap.size :: rest, locked := none }) rfl hsize rfl rfl (rest := rest) rfl
    (by rw [hb]; exact d7) (by rw [hb]; exact d10) hout hRframes (by simp only [List.map_cons, List.sum_cons, hcat]; omega) hlocks
  obtain ⟨f1, f2⟩ := vx_frame hsame
  rw [hhp] at f1 f2
  have hWs : s.WarmedH U.vm := State.WarmedH.trans hW0 hW
  have hcl : s.vm.findClass cls = some ce.cls := by
    have h9 := hO.cls
    rw [hvm] at h9
    exact h9
  have hall : s.sameButNew ({ U with vm := s.vm } : State) locs mc ms := by
    subst hA
    obtain ⟨e1, e2⟩ := hsame
    rw [State.setFrames_setFrames] at e1
    have h2 : (T.setVm s.vm).sameButNew ({ U with vm := s.vm } : State) [] (0 + 1) (0 + 6) := ⟨e1, e2⟩
    have h3 := X.same.trans h2
    rw [List.append_nil] at h3
    exact h3.mono hc hs
  refine ⟨U, ?_, .threw T.heap.size, hrun, hend, Or.inr ⟨T.heap.size, rfl, cls, ce, locs, hx U hWs.alike f1 (fun q hq => f2 q hq (fun z hz => nomatch hz)), hce, hO.vm, hcl, hWs, hall, hf⟩⟩
  refine st1 _ ?_
  show Steps p.tables e below (T1.setTop { method := m, pc := pc + 3, locals := ls, stack := .ref T.heap.size :: rest, locked := none }) _
  jvm_step X₁.here [X₁.here.top, hexec, d3', Value.category]
  exact X₁.ldcStringW hexec (own := own) (text := text) (index := is) (a := sa) hown' hstr'.1 hstr'.2
    (g := { method := m, pc := pc + 4, locals := ls, stack := .ref T.heap.size :: .ref T.heap.size :: rest, locked := none }) rfl d4' _ hsteps
end Ends
section Bodies
variable {l : Launch}
theorem vx_ofW {y : MethodName} {ws ws' : List Cond} {rm : Room} {Pc : Array Value → State → Prop} {Qc : Array Value → State → Outcome → State → Prop} {XC : String → State → State → Prop} {mc ms : Nat} {free : Addr → Prop} {cc : ByteArray} {maxL : Nat} {ret : Option FieldType}
    (hy : plainName y.cls = true) (hw : ws = Cond.code y cc maxL ret :: ws')
    (body : ∀ p e s m args below meth c s₁, BodyLoose p l y (headSpec ws rm) cc maxL ret e s m args below meth c s₁ → c.maxLocals = maxL → (∀ x ∈ c.exceptionTable.toList, False) → Pc args s →
      W p l e (headSpec ws rm).room s m args below meth c s.heap [] 0 0 (vx_MQ below Qc XC args s mc ms free) (entryFrame m args maxL)) : vx_Met l y ws rm Pc Qc XC mc ms free := by
  refine MetFree.of_bodyS (code := cc) (maxLocals := maxL) (ret := ret) hy ?_ ?_
  · intro args s m h hn
    obtain ⟨meth, c, h1, h2, h3, h4, h5, h6, -, -⟩ := Cond.code_spec hn (atoms_spec (ws := ws) h _ (by rw [hw]; exact List.mem_cons_self))
    exact ⟨meth, c, h1, h2, h3, h4, h5, h6⟩
  · intro p e s m args below meth c s₁ B hml hP _
    have hh0 : s₁.heap = s.heap := by rw [B.state]; rfl
    have ht : ∀ x ∈ c.exceptionTable.toList, False := by
      obtain ⟨meth9, c9, h1, h2, -, -, -, -, h7, -⟩ := Cond.code_spec B.named (atoms_spec (ws := ws) B.pre _ (by rw [hw]; exact List.mem_cons_self))
      cases Option.some.inj (h1.symm.trans B.method)
      cases Option.some.inj (h2.symm.trans (Stand.of_body B).code)
      intro x hx
      rw [Array.isEmpty_iff.mp h7] at hx
      cases hx
    obtain ⟨t, a1, o, b1, b2, b3⟩ := body p e s m args below meth c s₁ B hml ht hP s₁ hh0 (Stand.of_body B)
    exact ⟨t, o, a1, b1, b2, b3⟩
/-- the table of a body with handlers -/
theorem vx_table {p : Program} {x y : MethodName} {S : Spec} {cc bytes : ByteArray} {maxL maxL' : Nat} {ret ret' : Option FieldType} {e : Env} {s s₁ : State} {m : MethodId} {args : Array Value} {below : List Frame} {meth : Method} {c : Code} {hh : List (Nat × Nat × Nat × Nat)}
    (B : BodyLoose p l y S cc maxL ret e s m args below meth c s₁) (h : (Cond.codeWith y bytes maxL' ret' hh).before args s = true) : c.exceptionTable.toList = tableOf hh := by
  obtain ⟨m9, meth9, c9, hn9, h1, h2, -, -, h6, -⟩ := Cond.codeWith_spec h
  cases Option.some.inj (hn9.symm.trans B.named)
  cases Option.some.inj (h1.symm.trans B.method)
  cases Option.some.inj (h2.symm.trans (Stand.of_body B).code)
  rw [← h6, table_eq]
end Bodies
end VXA
/-! ===== END ===== -/
/-! ===== BEGIN a static call of a method with an exception table ===== -/
section VXS
variable {p : Program} {l : Launch} {e : Env} {R : Room} {s : State} {m : MethodId} {args : Array Value} {below : List Frame} {meth : Method} {c : Code} {T : State} {H : Heap} {locs : List Loc} {cells slots : Nat}
abbrev vx_CSW (R : Room) (s : State) (args : Array Value) (own : String) (index : Nat) (y : MethodName) (bytes : ByteArray) (maxL : Nat) (ret : Option FieldType) (hh : List (Nat × Nat × Nat × Nat)) (ws : List Cond) (rm : Room) (mc ms n : Nat) : Prop :=
  (rm.cells = mc ∧ rm.slots = ms ∧ rm.frames + 1 ≤ R.frames ∧ 8 + (maxL + 11) + rm.locals ≤ R.locals ∧ (∀ w ∈ ws, ∀ (a' : Array Value) (U : State), s.WarmedH U.vm → w.before a' U = true) ∧ Cond.codeWith y bytes maxL ret hh ∈ ws) ∧
  (Cond.codeWith y bytes maxL ret hh).before args s = true ∧ (Cond.initialized y.cls).before args s = true ∧ (y.cls ≠ "java/lang/invoke/MethodHandle" ∧ y.cls ≠ "java/lang/invoke/VarHandle") ∧
  (∀ sig, parseMethodDescriptor y.desc = some sig → n = sig.parameters.length) ∧ (Cond.methodLink own index y).before args s = true ∧ (Cond.static y).before args s = true
theorem vx_cwSW {own : String} {index maxL mc ms : Nat} {y : MethodName} {bytes : ByteArray} {ret : Option FieldType} {hh : List (Nat × Nat × Nat × Nat)} {Ts ws ws' : List Cond} {rm : Room} (n : Nat) (ht : ∀ w ∈ Ts, w.before args s = true) (hT : GoodIn Ts (va_wsS own index y ws)) (hw : ws = Cond.codeWith y bytes maxL ret hh :: ws') (hrc : rm.cells = mc) (hrs : rm.slots = ms)
    (hd : y.cls ≠ "java/lang/invoke/MethodHandle" ∧ y.cls ≠ "java/lang/invoke/VarHandle" ∧ (parseMethodDescriptor y.desc).map (fun d => d.parameters.length) = some n) (hR : rm.frames + 1 ≤ R.frames ∧ 8 + (maxL + 11) + rm.locals ≤ R.locals) :
    vx_CSW R s args own index y bytes maxL ret hh ws rm mc ms n := by
  have ok : ∀ w ∈ va_wsS own index y ws, w.before args s = true := fun w h => ht w (hT w h).1
  have hG : GoodIn Ts ws := fun w h => hT w (by unfold va_wsS; exact List.mem_append_right _ h)
  have hc : Cond.codeWith y bytes maxL ret hh ∈ ws := by rw [hw]; exact List.mem_cons_self
  refine ⟨⟨hrc, hrs, hR.1, hR.2, pay_in ht hG, hc⟩, ht _ (hG _ hc).1, ok _ (by simp [va_wsS]), ⟨hd.1, hd.2.1⟩, fun sig h => ?_, ok _ (by simp [va_wsS]), ok _ (by simp [va_wsS])⟩
  have h2 := hd.2.2
  rw [h] at h2
  exact (Option.some.inj h2).symm
theorem vx_callSW (X : Stand p l e R s m args below meth c T locs cells slots) (hexec : p.tables.exec = Jvm.exec) {own : String} {index : Nat} {y : MethodName} {bytes : ByteArray} {maxL : Nat} {ret : Option FieldType} {hh : List (Nat × Nat × Nat × Nat)}
    (hown : s.vm.findClass own = some m.cls) (hlink : (Cond.methodLink own index y).before args s = true) (hstat : (Cond.static y).before args s = true) (hinit : (Cond.initialized y.cls).before args s = true)
    (hcode : (Cond.codeWith y bytes maxL ret hh).before args s = true) (hy : y.cls ≠ "java/lang/invoke/MethodHandle" ∧ y.cls ≠ "java/lang/invoke/VarHandle")
    {W9 : Nat} {Pre : Pt → Array Value → Prop} {Post : Pt → Array Value → Option Value → Pt → Prop} (hK : Back l R p e below s args y 3 W9 Pre Post)
    {g : JFrame} (hg : g.method = m) (hsize : g.locals.size = c.maxLocals) {argsL rest : List Value} (hlen : ∀ sig, parseMethodDescriptor y.desc = some sig → argsL.length = sig.parameters.length)
    (hstack : g.stack = argsL.reverse ++ rest) (hW : 2 * g.monitorRoom + (rest.map fun v => v.category).sum ≤ W9) (hdg : decode c.code g.pc = .ok (.invokestatic index, 3))
    (hpre : ∀ vm₁, s.WarmedH vm₁ → Pre ⟨T.setVm vm₁, locs, cells, slots⟩ argsL.toArray) :
    ∃ (v : Option Value) (vm₁ : Vm) (B : Pt), s.WarmedH vm₁ ∧ Stand p l e R s m args below meth c B.U B.locs B.cells B.slots ∧ Post ⟨T.setVm vm₁, locs, cells, slots⟩ argsL.toArray v B ∧
      ∀ target, Steps p.tables e below (B.U.setTop { g with pc := g.pc + 3, stack := v.toList ++ rest }) target → Steps p.tables e below (T.setTop g) target := by
  obtain ⟨mk, methM, cM, hnamed, hmethM, -, -, -, -, -, -, hsigM⟩ := Cond.codeWith_spec hcode
  have hstatic : methM.isStatic = true := Cond.static_spec hnamed hmethM hstat
  obtain ⟨kP, hkP, -⟩ := className_of_methodNamed hnamed
  have hinitP : kP.init = .initialized := Cond.initialized_spec (findClass_of_methodNamed hnamed) hkP hinit
  obtain ⟨vm₁, X₁, hstep₁⟩ := X.invokestatic hexec hown hlink hnamed hmethM hstatic hkP hinitP hy (g := g) hg (argsL := argsL) (rest := rest) (hlen _ hsigM) hstack hdg
  obtain ⟨v, B, X', hpost, hsteps⟩ := hK m meth c ⟨T.setVm vm₁, locs, cells, slots⟩ { g with stack := rest } (.invokestatic index) mk argsL.toArray X₁ hg hsize hdg hW (X₁.named hnamed) (hpre vm₁ X₁.warmed)
  exact ⟨v, vm₁, B, X₁.warmed, X', hpost, fun target h => hstep₁ _ fun acts => by rw [doInvoke_state]; exact hsteps.trans h⟩
theorem vx_runSW {y : MethodName} {bytes cc : ByteArray} {maxL nL mc ms n index : Nat} {ret : Option FieldType} {hh : List (Nat × Nat × Nat × Nat)} {ws : List Cond} {rm : Room} {Pc : Array Value → State → Prop} {Qc : Array Value → State → Outcome → State → Prop} {free : Addr → Prop} {Ts : List Cond} {own : String} {As rest : List Value} {g : JFrame}
    (S : CallFix p m c cc nL s args Ts own) (hM : Met l y ws rm Pc Qc mc ms free) (cw : vx_CSW R s args own index y bytes maxL ret hh ws rm mc ms n) (hp : PreS s H Pc As)
    (hg : g.method = m) (hn : As.length = n) (hsize : g.locals.size = nL) (hstack : g.stack = As.reverse ++ rest) (hW : 2 * g.monitorRoom + (rest.map fun v => v.category).sum ≤ 8) (hdg : decode cc g.pc = .ok (.invokestatic index, 3)) (hf : cells + mc ≤ R.cells ∧ slots + ms ≤ R.slots) :
    va_Run p l e R s m args below meth c H locs cells slots mc ms g rest (Qc As.toArray) (free) := by
  obtain ⟨⟨hrc, hrs, hfr, hlo, hws, hcw⟩, hcode, hini, hy, hlen, hl, hstt⟩ := cw
  have hK : Back l R p e below s args y 3 8 (PreOf R mc ms Pc) (PostOf Qc mc ms free) := va_backW (hh := hh) (bytes := bytes) (maxL := maxL) (ret := ret) hM hp.1 hrc hrs hfr hlo hws hcw (fun a' U hW => word_at hW (Or.inl (by first | rfl | simp [Cond.onTables, Cond.keeps, Cond.steady])) hini)
  obtain ⟨hx, hb, hml, ho, -⟩ := S
  intro T hT X
  obtain ⟨v, vm₁, ⟨U', l2, c2, s2⟩, hW₁, X', ⟨g', mk, t, L, e1, e2, hq, h1, hL, h2, h3⟩, st⟩ := vx_callSW X hx (hh := hh) (bytes := bytes) (maxL := maxL) (ret := ret) ho hl hstt hini hcode hy hK hg (hsize.trans hml.symm) (argsL := As) (rest := rest) (fun sig h => hn.trans (hlen sig h)) hstack hW (by rw [hb]; exact hdg)
    (fun vm₁ hW₁ => ⟨hf.1, hf.2, hp.2 (T.setVm vm₁) hT hW₁⟩)
  dsimp only [Pt.U, Pt.locs, Pt.cells, Pt.slots] at X' e1 e2 h1 h2 h3 st
  subst h1; subst h2; subst h3
  exact ⟨v, (T.setVm vm₁).calling g' mk As.toArray, t, U', L, hT, X', hL, e1, e2, hq, st⟩
/-- not caught here, past rows that name other classes: it goes on to the caller -/
theorem vx_outP {p : Program} {l : Launch} {e : Env} {R : Room} {s : State} {m : MethodId} {args : Array Value} {below : List Frame} {meth : Method} {c : Code} {H : Heap} {locs : List Loc} {cells slots : Nat} {free : Addr → Prop} {ls : Array Slot} {rest : List Value} {Qc : Array Value → State → Outcome → State → Prop} {XC : String → State → State → Prop}
    {pc : Nat} {own E : String} {ce : Cell} {q : Addr} {mc ms : Nat} (hown : s.vm.findClass own = some m.cls) (hlocks : meth.locks = false)
    (hpass : ∀ z ∈ c.exceptionTable.toList, covers z pc = false ∨ (z.catchType ≠ 0 ∧ ∃ nm : String, (Cond.classLink own z.catchType nm).before args s = true ∧ va_Nc E nm s)) (hcell : H[q]? = some ce) (hv : ce.vm = .none) (hcl : s.vm.findClass E = some ce.cls)
    (hx : ∀ t : State, t.heap = H → s.vm.Alike t.vm → XC E s t) (hf : ∀ z ∈ locs, free z.base) (hc : cells ≤ mc) (hs : slots ≤ ms) :
    vx_W p l e R s m args below meth c H locs cells slots (vx_MQ below Qc XC args s mc ms free) (F0 m pc ls rest) q := by
  intro T hT X
  have hpl : e.platform.magicAccessors = ({} : Platform).magicAccessors := by rw [X.admits.platform]
  obtain ⟨vm', hW', X', st⟩ := X.outThrough hlocks q (g := F0 m pc ls rest) rfl rfl rfl (cell := ce) (by rw [hT]; exact hcell) (by rw [hv]; rfl)
    (by obtain ⟨k9, h9, -⟩ := Vm.findClass_spec hcl; exact ⟨k9, h9⟩) (fun z hz => by
      rcases hpass z hz with h | ⟨hz0, nm, hl1, hn1⟩
      · exact Or.inl h
      · obtain ⟨c6, hc6, hcl6⟩ := Cond.classLink_spec hown hl1 e.platform hpl
        obtain ⟨a8, b8, h1, h2, h3⟩ := hn1
        cases Option.some.inj (h1.symm.trans hcl)
        cases Option.some.inj (h2.symm.trans hc6)
        exact Or.inr ⟨hz0, _, hcl6, h3⟩)
  obtain ⟨g₀, hfr⟩ := X'.frames_eq
  have hcell9 : ((T.setVm vm').setFrames (.throwing q :: below)).heap[q]? = some ce := by
    show T.heap[q]? = some ce
    rw [hT]; exact hcell
  have hend : Ended ((T.setVm vm').setFrames (.throwing q :: below)) below (.threw q) := State.frames_setFrames _ (State.cur_lt_of_frames hfr)
  refine ⟨(T.setVm vm').setFrames (.throwing q :: below), ?_, .threw q, X'.here.running, hend, Or.inr ⟨q, rfl, E, ce, locs, hx _ hT (X'.ends _).1.alike, hcell9, hv, hcl, (X'.ends _).1, (X'.ends _).2.mono hc hs, hf⟩⟩
  rw [X.pushThrowing_eq]
  exact st
/-- a thing of a world lies in the heap -/
theorem vx_lt {D : va_G} {cl : List vw_C} {ws : va_W} {H1 : Heap} (h : va_P D cl ws H1) {k : Nat} {q : Nat × va_E} (hk : ws[k]? = some q) : q.1 < H1.size := (h k q hk).lt
end VXS
/-! ===== END ===== -/
/-! ===== BEGIN methods with a table of their own: called by a name, returning or throwing ===== -/
section VXH
/-! vx_backW, vx_callVX, vx_callSX, vx_callVW, vx_runVW, vx_runVX, vx_runSX, vx_ofWH follow the same proofs as their sisters above (Free/Laws.lean, Shelf42/LK1.lean); vx_outP calls Shelf42/NT130.lean (outThrough). -/
section
variable {l : Launch} {R : Room} {p : Program} {e : Env} {below : List Frame} {s : State} {sargs : Array Value} {y : MethodName} {len W9 : Nat}
theorem vx_backW {ws : List Cond} {rm : Room} {Pc : Array Value → State → Prop} {Qc : Array Value → State → Outcome → State → Prop} {XC : String → State → State → Prop} {mc ms : Nat} {free : Addr → Prop} {bytes : ByteArray} {maxL : Nat} {ret : Option FieldType} {hh : List (Nat × Nat × Nat × Nat)}
    (hM : vx_Met l y ws rm Pc Qc XC mc ms free) (hblind : FrameBlind Pc) (hrc : rm.cells = mc) (hrs : rm.slots = ms)
    (hframes : rm.frames + 1 ≤ R.frames) (hlocals : W9 + (maxL + 11) + rm.locals ≤ R.locals)
    (hws : ∀ w ∈ ws, ∀ a' U, s.WarmedH U.vm → w.before a' U = true) (hcode : Cond.codeWith y bytes maxL ret hh ∈ ws) (hinit : ∀ a' U, s.WarmedH U.vm → (Cond.initialized y.cls).before a' U = true) :
    vx_Back l R p e below s sargs y len W9 (PreOf R mc ms Pc) (PostOf Qc mc ms free) (vx_Post XC mc ms free) := by
  intro m meth c A g ig mk a X hg hsize hdg hW hn hp
  have h1 : (headSpec ws rm).pre.before a A.U = true := atoms_intro fun w hw => hws w hw _ _ X.warmed
  have h2 : (Cond.codeWith y bytes maxL ret hh).before a A.U = true := hws _ hcode _ _ X.warmed
  have h3 : (Cond.initialized y.cls).before a A.U = true := hinit _ _ X.warmed
  have h4 : A.cells + (headSpec ws rm).room.cells ≤ R.cells := by rw [show (headSpec ws rm).room.cells = mc from hrc]; exact hp.1
  have h5 : A.slots + (headSpec ws rm).room.slots ≤ R.slots := by rw [show (headSpec ws rm).room.slots = ms from hrs]; exact hp.2.1
  have hPc : Pc a (A.U.calling g mk a) := hblind _ _ _ _ hp.2.2
  obtain ⟨U, Ls, c0, s0⟩ := A
  dsimp only [Pt.U, Pt.locs, Pt.cells, Pt.slots] at h1 h2 h3 h4 h5 X hn hPc ⊢
  obtain ⟨m9, methY, cY, hn9, hmY, hcY, -, hlY, -⟩ := Cond.codeWith_spec h2
  cases Option.some.inj (hn9.symm.trans hn)
  obtain ⟨kY, hkY, -⟩ := className_of_methodNamed hn
  have hinitY : kY.init = .initialized := Cond.initialized_spec (findClass_of_methodNamed hn) hkY h3
  have h : At U g.method c below := by rw [hg]; exact X.here
  have hlocals9 : W9 + (maxL + 11) + (headSpec ws rm).room.locals ≤ R.locals := hlocals
  have happ : (headSpec ws rm).appliesLoose y e.platform (U.calling g mk a) = true :=
    Spec.appliesLoose_calling (g := g) h hdg hn hkY hinitY
      (X.room_calling (g := g) (R' := (headSpec ws rm).room) hsize hmY hcY hframes (by rw [hlY]; omega) h4 h5) h1
  obtain ⟨mid, hmid⟩ := h.above
  have hfr : (U.setTop g).frames = (.java g :: mid) ++ below := by rw [State.frames_setTop' g h.top, hmid]; rfl
  obtain ⟨o, s₂, hsteps, -, hend, hq⟩ := Steps.callFree hM p X.admits X.cas X.clock (acts := []) hfr happ hPc trivial
  have hq' : vx_Q Qc XC mc ms free a (U.calling g mk a) o s₂ := hq
  rw [State.frames_setTop' g h.top] at hend
  obtain ⟨g₀, hg0⟩ := Option.isSome_iff_exists.mp h.top
  obtain ⟨r, hr⟩ := State.topJava?_eq_some.mp hg0
  have hr' : (({ U with heap := s₂.heap, slotsUsed := s₂.slotsUsed } : State).setVm s₂.vm).frames = .java g₀ :: r := hr
  rcases hq' with ⟨hqc, L, hfe, hL⟩ | ⟨q, rfl, E, ce, L, hx, hce, hcv, hcl, hW₂, hsm, hL⟩
  · obtain ⟨⟨v, rfl⟩, hW₂, e2, q2, q3, q4, q5, q6⟩ := id hfe
    have e3 : s₂ = ({ (U.calling g mk a).setFrames s₂.frames with heap := s₂.heap, slotsUsed := s₂.slotsUsed } : State).setVm s₂.vm := by
      have : s₂ = ({ s₂ with vm := (U.calling g mk a).vm } : State).setVm s₂.vm := rfl
      rw [e2] at this
      exact this
    obtain ⟨c₂, i₂, len₂, hc₂, hd₂, hf₂⟩ := hend
    have hW' : U.WarmedH s₂.vm := hW₂
    have hcc : c₂ = c := by
      have h1 : s₂.code? g.method = U.code? g.method := by
        rw [State.code?_eq, State.code?_eq, hW'.alike.method?]
      exact Option.some.inj (hc₂.symm.trans (h1.trans h.code))
    subst hcc
    have hlen : len₂ = len := by rw [hdg] at hd₂; cases hd₂; rfl
    subst hlen
    have hs₂ : s₂ = (({ U with heap := s₂.heap, slotsUsed := s₂.slotsUsed } : State).setVm s₂.vm).setTop { g with pc := g.pc + len₂, stack := v.toList ++ g.stack } := by
      refine e3.trans ?_
      rw [hf₂, State.calling_eq h.top, State.setFrames_setFrames, State.setTop_of_frames _ hr', hr]
      rfl
    have hsame : U.sameButNew ({ U with heap := s₂.heap, slotsUsed := s₂.slotsUsed } : State) L mc ms := by
      refine ⟨?_, q2, q3, q4, q5, q6⟩
      obtain ⟨t, ht, -⟩ := State.frames_cons hr
      show ({ U with heap := s₂.heap, slotsUsed := s₂.slotsUsed } : State) = { U.setFrames U.frames with heap := s₂.heap, slotsUsed := s₂.slotsUsed }
      rw [State.setFrames_self ht]
    subst hg
    refine Or.inl ⟨v, ⟨(({ U with heap := s₂.heap, slotsUsed := s₂.slotsUsed } : State).setVm s₂.vm), Ls ++ L, c0 + mc, s0 + ms⟩,
      ⟨X.admits, X.cas, X.clock, X.frames, X.room, X.hears, X.method, X.code, (X.here.setHeapUsed s₂.heap s₂.slotsUsed).setVm hW'.alike, X.tail, State.WarmedH.trans X.warmed hW', X.limits, X.bytes, X.same.trans (hsame.setVm s.vm)⟩,
      ⟨g, mk, s₂, L, rfl, rfl, hqc, rfl, hL, rfl, rfl⟩, ?_⟩
    show Steps p.tables e below _ ((({ U with heap := s₂.heap, slotsUsed := s₂.slotsUsed } : State).setVm s₂.vm).setTop { g with pc := g.pc + len₂, stack := v.toList ++ g.stack })
    rw [← hs₂]
    exact hsteps
  · obtain ⟨e2, q2, q3, q4, q5, q6⟩ := id hsm
    have e3 : s₂ = ({ (U.calling g mk a).setFrames s₂.frames with heap := s₂.heap, slotsUsed := s₂.slotsUsed } : State).setVm s₂.vm := by
      have : s₂ = ({ s₂ with vm := (U.calling g mk a).vm } : State).setVm s₂.vm := rfl
      rw [e2] at this
      exact this
    have hf₂ : s₂.frames = .throwing q :: .java g :: U.frames.tail := hend
    have hW' : U.WarmedH s₂.vm := hW₂
    have hs₂ : s₂ = ((({ U with heap := s₂.heap, slotsUsed := s₂.slotsUsed } : State).setVm s₂.vm).setTop g).pushFrame (.throwing q) := by
      refine e3.trans ?_
      rw [hf₂, State.calling_eq h.top, State.setFrames_setFrames, State.pushFrame, State.frames_setTop _ hr', State.setTop_of_frames _ hr', State.setFrames_setFrames, hr]
      rfl
    have hsame : U.sameButNew ({ U with heap := s₂.heap, slotsUsed := s₂.slotsUsed } : State) L mc ms := by
      refine ⟨?_, q2, q3, q4, q5, q6⟩
      obtain ⟨t, ht, -⟩ := State.frames_cons hr
      show ({ U with heap := s₂.heap, slotsUsed := s₂.slotsUsed } : State) = { U.setFrames U.frames with heap := s₂.heap, slotsUsed := s₂.slotsUsed }
      rw [State.setFrames_self ht]
    subst hg
    refine Or.inr ⟨q, ⟨(({ U with heap := s₂.heap, slotsUsed := s₂.slotsUsed } : State).setVm s₂.vm), Ls ++ L, c0 + mc, s0 + ms⟩,
      ⟨X.admits, X.cas, X.clock, X.frames, X.room, X.hears, X.method, X.code, (X.here.setHeapUsed s₂.heap s₂.slotsUsed).setVm hW'.alike, X.tail, State.WarmedH.trans X.warmed hW', X.limits, X.bytes, X.same.trans (hsame.setVm s.vm)⟩,
      ⟨g, mk, s₂, L, E, ce, rfl, rfl, hx, hce, hcv, hcl, rfl, hL, rfl, rfl⟩, ?_⟩
    show Steps p.tables e below _ (((({ U with heap := s₂.heap, slotsUsed := s₂.slotsUsed } : State).setVm s₂.vm).setTop g).pushFrame (.throwing q))
    rw [← hs₂]
    exact hsteps
end
variable {p : Program} {l : Launch} {e : Env} {R : Room} {s : State} {m : MethodId} {args : Array Value} {below : List Frame} {meth : Method} {c : Code} {T : State} {H : Heap} {locs : List Loc} {cells slots : Nat}
theorem vx_callVX (X : Stand p l e R s m args below meth c T locs cells slots) (hexec : p.tables.exec = Jvm.exec) {own C : String} {index : Nat} {y : MethodName} {bytes : ByteArray} {maxL : Nat} {ret : Option FieldType} {hh : List (Nat × Nat × Nat × Nat)}
    (hown : s.vm.findClass own = some m.cls) (hlink : (Cond.methodLink own index y).before args s = true) (hinst : (Cond.instanceMethod y).before args s = true) (hsel : (Cond.selects C y y).before args s = true)
    (hcode : (Cond.codeWith y bytes maxL ret hh).before args s = true) (hy : y.cls ≠ "java/lang/invoke/MethodHandle" ∧ y.cls ≠ "java/lang/invoke/VarHandle")
    {W9 : Nat} {Pre : Pt → Array Value → Prop} {Post : Pt → Array Value → Option Value → Pt → Prop} {PostX : Pt → Array Value → Addr → Pt → Prop} (hK : vx_Back l R p e below s args y 3 W9 Pre Post PostX)
    {b : Addr} {cellB : Cell} (hcell : T.heap[b]? = some cellB) (hobj : cellB.vm.isStatics = false) (hcls : s.vm.findClass C = some cellB.cls)
    {g : JFrame} (hg : g.method = m) (hsize : g.locals.size = c.maxLocals) {argsL rest : List Value} (hlen : ∀ sig, parseMethodDescriptor y.desc = some sig → argsL.length = sig.parameters.length)
    (hstack : g.stack = argsL.reverse ++ .ref b :: rest) (hW : 2 * g.monitorRoom + (rest.map fun v => v.category).sum ≤ W9) (hdg : decode c.code g.pc = .ok (.invokevirtual index, 3))
    (hpre : ∀ vm₁, s.WarmedH vm₁ → Pre ⟨T.setVm vm₁, locs, cells, slots⟩ (Value.ref b :: argsL).toArray) :
    (∃ (v : Option Value) (vm₁ : Vm) (B : Pt), s.WarmedH vm₁ ∧ Stand p l e R s m args below meth c B.U B.locs B.cells B.slots ∧ Post ⟨T.setVm vm₁, locs, cells, slots⟩ (Value.ref b :: argsL).toArray v B ∧
      ∀ target, Steps p.tables e below (B.U.setTop { g with pc := g.pc + 3, stack := v.toList ++ rest }) target → Steps p.tables e below (T.setTop g) target) ∨
    (∃ (q : Addr) (vm₁ : Vm) (B : Pt), s.WarmedH vm₁ ∧ Stand p l e R s m args below meth c B.U B.locs B.cells B.slots ∧ PostX ⟨T.setVm vm₁, locs, cells, slots⟩ (Value.ref b :: argsL).toArray q B ∧
      Steps p.tables e below (T.setTop g) ((B.U.setTop { g with stack := rest }).pushFrame (.throwing q))) := by
  obtain ⟨mk, methM, hnamed, hmethM, hstM, habM⟩ := Cond.instanceMethod_spec hinst
  obtain ⟨m8, methM', cM, hn8, hmethM', -, -, -, -, -, -, hsigM⟩ := Cond.codeWith_spec hcode
  cases Option.some.inj (hn8.symm.trans hnamed)
  cases hmethM.symm.trans hmethM'
  obtain ⟨c2, r2, m2, q1, q2, q3, q4, kP, hkP, hkPi⟩ := Cond.selects_spec hsel
  cases hcls.symm.trans q1
  cases (State.methodFound?_of_named hnamed hy).symm.trans q2
  cases hnamed.symm.trans q3
  have hselP : selectMethod e.platform s.vm cellB.cls mk = .method mk := by rw [Launch.admits_selectMethod X.admits]; exact q4
  obtain ⟨vm₁, X₁, hstep₁⟩ := X.invokevirtual hexec hown hlink hnamed hmethM hstM hkP hkPi hy (a := b) (cell := cellB) hcell
    (fun z h => by rw [h] at hobj; cases hobj) hselP hmethM habM hkP hkPi (g := g) hg (argsL := argsL) (rest := rest) (hlen _ hsigM) hstack hdg
  rcases hK m meth c ⟨T.setVm vm₁, locs, cells, slots⟩ { g with stack := rest } (.invokevirtual index) mk (Value.ref b :: argsL).toArray X₁ hg hsize hdg hW (X₁.named hnamed) (hpre vm₁ X₁.warmed) with ⟨v, B, X', hpost, hsteps⟩ | ⟨q, B, X', hpost, hsteps⟩
  · exact Or.inl ⟨v, vm₁, B, X₁.warmed, X', hpost, fun target h => hstep₁ _ fun acts => by rw [doInvoke_state]; exact hsteps.trans h⟩
  · exact Or.inr ⟨q, vm₁, B, X₁.warmed, X', hpost, hstep₁ _ fun acts => by rw [doInvoke_state]; exact hsteps⟩
theorem vx_callSX (X : Stand p l e R s m args below meth c T locs cells slots) (hexec : p.tables.exec = Jvm.exec) {own : String} {index : Nat} {y : MethodName} {bytes : ByteArray} {maxL : Nat} {ret : Option FieldType} {hh : List (Nat × Nat × Nat × Nat)}
    (hown : s.vm.findClass own = some m.cls) (hlink : (Cond.methodLink own index y).before args s = true) (hstat : (Cond.static y).before args s = true) (hinit : (Cond.initialized y.cls).before args s = true)
    (hcode : (Cond.codeWith y bytes maxL ret hh).before args s = true) (hy : y.cls ≠ "java/lang/invoke/MethodHandle" ∧ y.cls ≠ "java/lang/invoke/VarHandle")
    {W9 : Nat} {Pre : Pt → Array Value → Prop} {Post : Pt → Array Value → Option Value → Pt → Prop} {PostX : Pt → Array Value → Addr → Pt → Prop} (hK : vx_Back l R p e below s args y 3 W9 Pre Post PostX)
    {g : JFrame} (hg : g.method = m) (hsize : g.locals.size = c.maxLocals) {argsL rest : List Value} (hlen : ∀ sig, parseMethodDescriptor y.desc = some sig → argsL.length = sig.parameters.length)
    (hstack : g.stack = argsL.reverse ++ rest) (hW : 2 * g.monitorRoom + (rest.map fun v => v.category).sum ≤ W9) (hdg : decode c.code g.pc = .ok (.invokestatic index, 3))
    (hpre : ∀ vm₁, s.WarmedH vm₁ → Pre ⟨T.setVm vm₁, locs, cells, slots⟩ argsL.toArray) :
    (∃ (v : Option Value) (vm₁ : Vm) (B : Pt), s.WarmedH vm₁ ∧ Stand p l e R s m args below meth c B.U B.locs B.cells B.slots ∧ Post ⟨T.setVm vm₁, locs, cells, slots⟩ argsL.toArray v B ∧
      ∀ target, Steps p.tables e below (B.U.setTop { g with pc := g.pc + 3, stack := v.toList ++ rest }) target → Steps p.tables e below (T.setTop g) target) ∨
    (∃ (q : Addr) (vm₁ : Vm) (B : Pt), s.WarmedH vm₁ ∧ Stand p l e R s m args below meth c B.U B.locs B.cells B.slots ∧ PostX ⟨T.setVm vm₁, locs, cells, slots⟩ argsL.toArray q B ∧
      Steps p.tables e below (T.setTop g) ((B.U.setTop { g with stack := rest }).pushFrame (.throwing q))) := by
  obtain ⟨mk, methM, cM, hnamed, hmethM, -, -, -, -, -, -, hsigM⟩ := Cond.codeWith_spec hcode
  have hstatic : methM.isStatic = true := Cond.static_spec hnamed hmethM hstat
  obtain ⟨kP, hkP, -⟩ := className_of_methodNamed hnamed
  have hinitP : kP.init = .initialized := Cond.initialized_spec (findClass_of_methodNamed hnamed) hkP hinit
  obtain ⟨vm₁, X₁, hstep₁⟩ := X.invokestatic hexec hown hlink hnamed hmethM hstatic hkP hinitP hy (g := g) hg (argsL := argsL) (rest := rest) (hlen _ hsigM) hstack hdg
  rcases hK m meth c ⟨T.setVm vm₁, locs, cells, slots⟩ { g with stack := rest } (.invokestatic index) mk argsL.toArray X₁ hg hsize hdg hW (X₁.named hnamed) (hpre vm₁ X₁.warmed) with ⟨v, B, X', hpost, hsteps⟩ | ⟨q, B, X', hpost, hsteps⟩
  · exact Or.inl ⟨v, vm₁, B, X₁.warmed, X', hpost, fun target h => hstep₁ _ fun acts => by rw [doInvoke_state]; exact hsteps.trans h⟩
  · exact Or.inr ⟨q, vm₁, B, X₁.warmed, X', hpost, hstep₁ _ fun acts => by rw [doInvoke_state]; exact hsteps⟩
theorem vx_callVW (X : Stand p l e R s m args below meth c T locs cells slots) (hexec : p.tables.exec = Jvm.exec) {own C : String} {index : Nat} {y : MethodName} {bytes : ByteArray} {maxL : Nat} {ret : Option FieldType} {hh : List (Nat × Nat × Nat × Nat)}
    (hown : s.vm.findClass own = some m.cls) (hlink : (Cond.methodLink own index y).before args s = true) (hinst : (Cond.instanceMethod y).before args s = true) (hsel : (Cond.selects C y y).before args s = true)
    (hcode : (Cond.codeWith y bytes maxL ret hh).before args s = true) (hy : y.cls ≠ "java/lang/invoke/MethodHandle" ∧ y.cls ≠ "java/lang/invoke/VarHandle")
    {W9 : Nat} {Pre : Pt → Array Value → Prop} {Post : Pt → Array Value → Option Value → Pt → Prop} (hK : Back l R p e below s args y 3 W9 Pre Post)
    {b : Addr} {cellB : Cell} (hcell : T.heap[b]? = some cellB) (hobj : cellB.vm.isStatics = false) (hcls : s.vm.findClass C = some cellB.cls)
    {g : JFrame} (hg : g.method = m) (hsize : g.locals.size = c.maxLocals) {argsL rest : List Value} (hlen : ∀ sig, parseMethodDescriptor y.desc = some sig → argsL.length = sig.parameters.length)
    (hstack : g.stack = argsL.reverse ++ .ref b :: rest) (hW : 2 * g.monitorRoom + (rest.map fun v => v.category).sum ≤ W9) (hdg : decode c.code g.pc = .ok (.invokevirtual index, 3))
    (hpre : ∀ vm₁, s.WarmedH vm₁ → Pre ⟨T.setVm vm₁, locs, cells, slots⟩ (Value.ref b :: argsL).toArray) :
    ∃ (v : Option Value) (vm₁ : Vm) (B : Pt), s.WarmedH vm₁ ∧ Stand p l e R s m args below meth c B.U B.locs B.cells B.slots ∧ Post ⟨T.setVm vm₁, locs, cells, slots⟩ (Value.ref b :: argsL).toArray v B ∧
      ∀ target, Steps p.tables e below (B.U.setTop { g with pc := g.pc + 3, stack := v.toList ++ rest }) target → Steps p.tables e below (T.setTop g) target := by
  obtain ⟨mk, methM, hnamed, hmethM, hstM, habM⟩ := Cond.instanceMethod_spec hinst
  obtain ⟨m8, methM', cM, hn8, hmethM', -, -, -, -, -, -, hsigM⟩ := Cond.codeWith_spec hcode
  cases Option.some.inj (hn8.symm.trans hnamed)
  cases hmethM.symm.trans hmethM'
  obtain ⟨c2, r2, m2, q1, q2, q3, q4, kP, hkP, hkPi⟩ := Cond.selects_spec hsel
  cases hcls.symm.trans q1
  cases (State.methodFound?_of_named hnamed hy).symm.trans q2
  cases hnamed.symm.trans q3
  have hselP : selectMethod e.platform s.vm cellB.cls mk = .method mk := by rw [Launch.admits_selectMethod X.admits]; exact q4
  obtain ⟨vm₁, X₁, hstep₁⟩ := X.invokevirtual hexec hown hlink hnamed hmethM hstM hkP hkPi hy (a := b) (cell := cellB) hcell
    (fun z h => by rw [h] at hobj; cases hobj) hselP hmethM habM hkP hkPi (g := g) hg (argsL := argsL) (rest := rest) (hlen _ hsigM) hstack hdg
  obtain ⟨v, B, X', hpost, hsteps⟩ := hK m meth c ⟨T.setVm vm₁, locs, cells, slots⟩ { g with stack := rest } (.invokevirtual index) mk (Value.ref b :: argsL).toArray X₁ hg hsize hdg hW (X₁.named hnamed) (hpre vm₁ X₁.warmed)
  exact ⟨v, vm₁, B, X₁.warmed, X', hpost, fun target h => hstep₁ _ fun acts => by rw [doInvoke_state]; exact hsteps.trans h⟩
abbrev vx_CVW (R : Room) (s : State) (args : Array Value) (own C : String) (index : Nat) (y : MethodName) (bytes : ByteArray) (maxL : Nat) (ret : Option FieldType) (hh : List (Nat × Nat × Nat × Nat)) (ws : List Cond) (rm : Room) (mc ms n : Nat) : Prop :=
  (rm.cells = mc ∧ rm.slots = ms ∧ rm.frames + 1 ≤ R.frames ∧ 8 + (maxL + 11) + rm.locals ≤ R.locals ∧ (∀ w ∈ ws, ∀ (a' : Array Value) (U : State), s.WarmedH U.vm → w.before a' U = true) ∧ Cond.codeWith y bytes maxL ret hh ∈ ws) ∧
  (Cond.codeWith y bytes maxL ret hh).before args s = true ∧ (Cond.initialized y.cls).before args s = true ∧ (y.cls ≠ "java/lang/invoke/MethodHandle" ∧ y.cls ≠ "java/lang/invoke/VarHandle") ∧
  (∀ sig, parseMethodDescriptor y.desc = some sig → n = sig.parameters.length) ∧ (Cond.methodLink own index y).before args s = true ∧ (Cond.instanceMethod y).before args s = true ∧ (Cond.selects C y y).before args s = true
theorem vx_cwVW {own C : String} {index maxL mc ms : Nat} {y : MethodName} {bytes : ByteArray} {ret : Option FieldType} {hh : List (Nat × Nat × Nat × Nat)} {Ts ws ws' : List Cond} {rm : Room} (n : Nat) (ht : ∀ w ∈ Ts, w.before args s = true) (hT : GoodIn Ts (wsV own index C y ws)) (hw : ws = Cond.codeWith y bytes maxL ret hh :: ws') (hrc : rm.cells = mc) (hrs : rm.slots = ms)
    (hd : y.cls = C ∧ y.cls ≠ "java/lang/invoke/MethodHandle" ∧ y.cls ≠ "java/lang/invoke/VarHandle" ∧ (parseMethodDescriptor y.desc).map (fun d => d.parameters.length) = some n) (hR : rm.frames + 1 ≤ R.frames ∧ 8 + (maxL + 11) + rm.locals ≤ R.locals) :
    vx_CVW R s args own C index y bytes maxL ret hh ws rm mc ms n := by
  obtain ⟨hC, hd⟩ := hd
  subst hC
  have ok : ∀ w ∈ wsV own index y.cls y ws, w.before args s = true := fun w h => ht w (hT w h).1
  have hG : GoodIn Ts ws := fun w h => hT w (by unfold wsV; exact List.mem_append_right _ h)
  have hc : Cond.codeWith y bytes maxL ret hh ∈ ws := by rw [hw]; exact List.mem_cons_self
  refine ⟨⟨hrc, hrs, hR.1, hR.2, pay_in ht hG, hc⟩, ht _ (hG _ hc).1, ok _ (by simp [wsV]), ⟨hd.1, hd.2.1⟩, fun sig h => ?_, ok _ (by simp [wsV]), ok _ (by simp [wsV]), ok _ (by simp [wsV])⟩
  have h2 := hd.2.2
  rw [h] at h2
  exact (Option.some.inj h2).symm
theorem vx_runVW {y : MethodName} {bytes cc : ByteArray} {maxL nL mc ms n index : Nat} {ret : Option FieldType} {hh : List (Nat × Nat × Nat × Nat)} {ws : List Cond} {rm : Room} {Pc : Array Value → State → Prop} {Qc : Array Value → State → Outcome → State → Prop} {free : Addr → Prop} {Ts : List Cond} {own C : String} {b : Addr} {As rest : List Value} {g : JFrame}
    (S : CallFix p m c cc nL s args Ts own) (hM : Met l y ws rm Pc Qc mc ms free) (cw : vx_CVW R s args own C index y bytes maxL ret hh ws rm mc ms n) (hp : PreV s H C b Pc As)
    (hg : g.method = m) (hn : As.length = n) (hsize : g.locals.size = nL) (hstack : g.stack = As.reverse ++ .ref b :: rest) (hW : 2 * g.monitorRoom + (rest.map fun v => v.category).sum ≤ 8) (hdg : decode cc g.pc = .ok (.invokevirtual index, 3)) (hf : cells + mc ≤ R.cells ∧ slots + ms ≤ R.slots) :
    va_Run p l e R s m args below meth c H locs cells slots mc ms g rest (Qc (Value.ref b :: As).toArray) free := by
  obtain ⟨⟨hrc, hrs, hfr, hlo, hws, hcw⟩, hcode, hini, hy, hlen, hl, hin, hse⟩ := cw
  have hK : Back l R p e below s args y 3 8 (PreOf R mc ms Pc) (PostOf Qc mc ms free) := va_backW (hh := hh) (bytes := bytes) (maxL := maxL) (ret := ret) hM hp.1 hrc hrs hfr hlo hws hcw (fun a' U hW => word_at hW (Or.inl (by first | rfl | simp [Cond.onTables, Cond.keeps, Cond.steady])) hini)
  obtain ⟨hx, hb, hml, ho, -⟩ := S
  obtain ⟨-, ⟨cellB, hcB, hoB, hclB⟩, hPc⟩ := hp
  intro T hT X
  obtain ⟨v, vm₁, ⟨U', l2, c2, s2⟩, hW₁, X', ⟨g', mk, t, L, e1, e2, hq, h1, hL, h2, h3⟩, st⟩ := vx_callVW X hx (C := C) (hh := hh) (bytes := bytes) (maxL := maxL) (ret := ret) ho hl hin hse hcode hy hK (by rw [hT]; exact hcB) hoB hclB hg (hsize.trans hml.symm) (argsL := As) (rest := rest) (fun sig h => hn.trans (hlen sig h)) hstack hW (by rw [hb]; exact hdg)
    (fun vm₁ hW₁ => ⟨hf.1, hf.2, hPc (T.setVm vm₁) hT hW₁⟩)
  dsimp only [Pt.U, Pt.locs, Pt.cells, Pt.slots] at X' e1 e2 h1 h2 h3 st
  subst h1; subst h2; subst h3
  exact ⟨v, (T.setVm vm₁).calling g' mk (Value.ref b :: As).toArray, t, U', L, hT, X', hL, e1, e2, hq, st⟩
section
variable {y : MethodName} {bytes cc : ByteArray} {maxL nL mc ms n index : Nat} {ret : Option FieldType} {ws : List Cond} {rm : Room} {Pc : Array Value → State → Prop} {Qc : Array Value → State → Outcome → State → Prop} {XC : String → State → State → Prop} {free : Addr → Prop} {Ts : List Cond} {own C : String} {b : Addr} {As rest : List Value} {g : JFrame}
theorem vx_runVX {hh : List (Nat × Nat × Nat × Nat)} (S : CallFix p m c cc nL s args Ts own) (hM : vx_Met l y ws rm Pc Qc XC mc ms free) (cw : vx_CVW R s args own C index y bytes maxL ret hh ws rm mc ms n) (hp : PreV s H C b Pc As)
    (hg : g.method = m) (hn : As.length = n) (hsize : g.locals.size = nL) (hstack : g.stack = As.reverse ++ .ref b :: rest) (hW : 2 * g.monitorRoom + (rest.map fun v => v.category).sum ≤ 8) (hdg : decode cc g.pc = .ok (.invokevirtual index, 3)) (hf : cells + mc ≤ R.cells ∧ slots + ms ≤ R.slots) :
    vx_Run p l e R s m args below meth c H locs cells slots mc ms g rest (Qc (Value.ref b :: As).toArray) XC free := by
  obtain ⟨⟨hrc, hrs, hfr, hlo, hws, hcw⟩, hcode, hini, hy, hlen, hl, hin, hse⟩ := cw
  have hK : vx_Back l R p e below s args y 3 8 (PreOf R mc ms Pc) (PostOf Qc mc ms free) (vx_Post XC mc ms free) := vx_backW (hh := hh) (bytes := bytes) (maxL := maxL) (ret := ret) hM hp.1 hrc hrs hfr hlo hws hcw (fun a' U hW => word_at hW (Or.inl (by first | rfl | simp [Cond.onTables, Cond.keeps, Cond.steady])) hini)
  obtain ⟨hx, hb, hml, ho, -⟩ := S
  obtain ⟨-, ⟨cellB, hcB, hoB, hclB⟩, hPc⟩ := hp
  intro T hT X
  rcases vx_callVX X hx (C := C) (hh := hh) (bytes := bytes) (maxL := maxL) (ret := ret) ho hl hin hse hcode hy hK (by rw [hT]; exact hcB) hoB hclB hg (hsize.trans hml.symm) (argsL := As) (rest := rest) (fun sig h => hn.trans (hlen sig h)) hstack hW (by rw [hb]; exact hdg)
    (fun vm₁ hW₁ => ⟨hf.1, hf.2, hPc (T.setVm vm₁) hT hW₁⟩) with ⟨v, vm₁, ⟨U', l2, c2, s2⟩, hW₁, X', ⟨g', mk, t, L, e1, e2, hq, h1, hL, h2, h3⟩, st⟩ | ⟨q, vm₁, ⟨U', l2, c2, s2⟩, hW₁, X', ⟨g', mk, t, L, E, ce, e1, e2, hq, hce, hcv, hcl, h1, hL, h2, h3⟩, st⟩
  · dsimp only [Pt.U, Pt.locs, Pt.cells, Pt.slots] at X' e1 e2 h1 h2 h3 st
    subst h1; subst h2; subst h3
    exact Or.inl ⟨v, (T.setVm vm₁).calling g' mk (Value.ref b :: As).toArray, t, U', L, hT, X', hL, e1, e2, hq, st⟩
  · dsimp only [Pt.U, Pt.locs, Pt.cells, Pt.slots] at X' e1 e2 h1 h2 h3 st hcl
    subst h1; subst h2; subst h3
    exact Or.inr ⟨q, (T.setVm vm₁).calling g' mk (Value.ref b :: As).toArray, t, U', L, E, ce, hT, X', hL, e1, e2, hq, hce, hcv, vx_cls hW₁ hcl, st⟩
theorem vx_runSX {hh : List (Nat × Nat × Nat × Nat)} (S : CallFix p m c cc nL s args Ts own) (hM : vx_Met l y ws rm Pc Qc XC mc ms free) (cw : vx_CSW R s args own index y bytes maxL ret hh ws rm mc ms n) (hp : PreS s H Pc As)
    (hg : g.method = m) (hn : As.length = n) (hsize : g.locals.size = nL) (hstack : g.stack = As.reverse ++ rest) (hW : 2 * g.monitorRoom + (rest.map fun v => v.category).sum ≤ 8) (hdg : decode cc g.pc = .ok (.invokestatic index, 3)) (hf : cells + mc ≤ R.cells ∧ slots + ms ≤ R.slots) :
    vx_Run p l e R s m args below meth c H locs cells slots mc ms g rest (Qc As.toArray) XC free := by
  obtain ⟨⟨hrc, hrs, hfr, hlo, hws, hcw⟩, hcode, hini, hy, hlen, hl, hstt⟩ := cw
  have hK : vx_Back l R p e below s args y 3 8 (PreOf R mc ms Pc) (PostOf Qc mc ms free) (vx_Post XC mc ms free) := vx_backW (hh := hh) (bytes := bytes) (maxL := maxL) (ret := ret) hM hp.1 hrc hrs hfr hlo hws hcw (fun a' U hW => word_at hW (Or.inl (by first | rfl | simp [Cond.onTables, Cond.keeps, Cond.steady])) hini)
  obtain ⟨hx, hb, hml, ho, -⟩ := S
  intro T hT X
  rcases vx_callSX X hx (hh := hh) (bytes := bytes) (maxL := maxL) (ret := ret) ho hl hstt hini hcode hy hK hg (hsize.trans hml.symm) (argsL := As) (rest := rest) (fun sig h => hn.trans (hlen sig h)) hstack hW (by rw [hb]; exact hdg)
    (fun vm₁ hW₁ => ⟨hf.1, hf.2, hp.2 (T.setVm vm₁) hT hW₁⟩) with ⟨v, vm₁, ⟨U', l2, c2, s2⟩, hW₁, X', ⟨g', mk, t, L, e1, e2, hq, h1, hL, h2, h3⟩, st⟩ | ⟨q, vm₁, ⟨U', l2, c2, s2⟩, hW₁, X', ⟨g', mk, t, L, E, ce, e1, e2, hq, hce, hcv, hcl, h1, hL, h2, h3⟩, st⟩
  · dsimp only [Pt.U, Pt.locs, Pt.cells, Pt.slots] at X' e1 e2 h1 h2 h3 st
    subst h1; subst h2; subst h3
    exact Or.inl ⟨v, (T.setVm vm₁).calling g' mk As.toArray, t, U', L, hT, X', hL, e1, e2, hq, st⟩
  · dsimp only [Pt.U, Pt.locs, Pt.cells, Pt.slots] at X' e1 e2 h1 h2 h3 st hcl
    subst h1; subst h2; subst h3
    exact Or.inr ⟨q, (T.setVm vm₁).calling g' mk As.toArray, t, U', L, E, ce, hT, X', hL, e1, e2, hq, hce, hcv, vx_cls hW₁ hcl, st⟩
end
end VXH
theorem vx_ofWH {l : Launch} {y : MethodName} {ws ws' : List Cond} {rm : Room} {Pc : Array Value → State → Prop} {Qc : Array Value → State → Outcome → State → Prop} {XC : String → State → State → Prop} {mc ms : Nat} {free : Addr → Prop} {cc : ByteArray} {maxL : Nat} {ret : Option FieldType} {hh : List (Nat × Nat × Nat × Nat)}
    (hy : plainName y.cls = true) (hw : ws = Cond.codeWith y cc maxL ret hh :: ws')
    (body : ∀ p e s m args below meth c s₁, BodyLoose p l y (headSpec ws rm) cc maxL ret e s m args below meth c s₁ → c.maxLocals = maxL → Pc args s →
      W p l e (headSpec ws rm).room s m args below meth c s.heap [] 0 0 (vx_MQ below Qc XC args s mc ms free) (entryFrame m args maxL)) : vx_Met l y ws rm Pc Qc XC mc ms free := by
  refine MetFree.of_bodyS (code := cc) (maxLocals := maxL) (ret := ret) hy ?_ ?_
  · intro args s m h hn
    obtain ⟨m9, meth, c, hn9, h1, h2, h3, h4, -, h5, h6, -⟩ := Cond.codeWith_spec (atoms_spec (ws := ws) h _ (by rw [hw]; exact List.mem_cons_self))
    cases hn.symm.trans hn9
    exact ⟨meth, c, h1, h2, h3, h4, h5, h6⟩
  · intro p e s m args below meth c s₁ B hml hP _
    have hh0 : s₁.heap = s.heap := by rw [B.state]; rfl
    obtain ⟨t, a1, o, b1, b2, b3⟩ := body p e s m args below meth c s₁ B hml hP s₁ hh0 (Stand.of_body B)
    exact ⟨t, o, a1, b1, b2, b3⟩
/-! ===== END ===== -/
end
section
def RX0 : String := "NemaGrid$Drives"
def TX0 : u_T := fun k => match k with
  | 0 => ("NemaGrid$Drives", "pixelNumbers", "LNemaGrid$Row;", true)
  | 1 => ("NemaGrid$Drives", "ticks", "LNemaGrid$Row;", true)
  | 2 => ("NemaGrid$Drives", "directions", "LNemaGrid$Row;", true)
  | 3 => ("NemaGrid$Drives", "strengths", "LNemaGrid$Row;", true)
  | _ => ("NemaGrid$Drives", "count", "I", false)
def tyX0 : Nat → FieldType := fun k => match k with
  | 0 => .object "NemaGrid$Row"
  | 1 => .object "NemaGrid$Row"
  | 2 => .object "NemaGrid$Row"
  | 3 => .object "NemaGrid$Row"
  | _ => .int
abbrev wsX00 : List Cond := u_ws RX0 TX0 5
theorem nmX0 : ∀ a, a < 5 → ∀ b, b < 5 → a ≠ b → (TX0 a).2.1 ≠ (TX0 b).2.1 := by decide +kernel
theorem tyX0_ok : ∀ k, k < 5 → parseFieldDescriptor (TX0 k).2.2.1 = some (tyX0 k) := by decide +kernel
abbrev cX0_init : ByteArray := prog_2_method_1_code
def yX0_init : MethodName := ⟨RX0, "<init>", "()V"⟩
abbrev cX0_add : ByteArray := prog_2_method_2_code
def yX0_add : MethodName := ⟨RX0, "add", "(IIII)I"⟩
abbrev cX0_put : ByteArray := prog_2_method_3_code
def yX0_put : MethodName := ⟨RX0, "put", "(IIIII)V"⟩
abbrev cX0_comeAt : ByteArray := prog_2_method_4_code
def yX0_comeAt : MethodName := ⟨RX0, "comeAt", "(ILNemaGrid$Matter;)I"⟩
def RX1 : String := "NemaGrid$Matter"
def TX1 : u_T := fun k => match k with
  | 0 => ("NemaGrid$Matter", "directions", "LNemaGrid$Row;", true)
  | 1 => ("NemaGrid$Matter", "kinds", "LNemaGrid$Row;", true)
  | 2 => ("NemaGrid$Matter", "weakDirections", "LNemaGrid$Row;", true)
  | 3 => ("NemaGrid$Matter", "weakStrengths", "LNemaGrid$Row;", true)
  | 4 => ("NemaGrid$Matter", "pixelNumbers", "LNemaGrid$Row;", true)
  | 5 => ("NemaGrid$Matter", "pixels", "LNemaGrid$Pixels;", true)
  | 6 => ("NemaGrid$Matter", "width", "I", false)
  | 7 => ("NemaGrid$Matter", "height", "I", false)
  | 8 => ("NemaGrid$Matter", "costAcross", "I", false)
  | 9 => ("NemaGrid$Matter", "costDown", "I", false)
  | _ => ("NemaGrid$Matter", "energyKept", "I", false)
def tyX1 : Nat → FieldType := fun k => match k with
  | 0 => .object "NemaGrid$Row"
  | 1 => .object "NemaGrid$Row"
  | 2 => .object "NemaGrid$Row"
  | 3 => .object "NemaGrid$Row"
  | 4 => .object "NemaGrid$Row"
  | 5 => .object "NemaGrid$Pixels"
  | 6 => .int
  | 7 => .int
  | 8 => .int
  | 9 => .int
  | _ => .int
abbrev wsX10 : List Cond := u_ws RX1 TX1 11
theorem nmX1 : ∀ a, a < 11 → ∀ b, b < 11 → a ≠ b → (TX1 a).2.1 ≠ (TX1 b).2.1 := by decide +kernel
theorem tyX1_ok : ∀ k, k < 11 → parseFieldDescriptor (TX1 k).2.2.1 = some (tyX1 k) := by decide +kernel
abbrev cX1_init : ByteArray := prog_3_method_1_code
def yX1_init : MethodName := ⟨RX1, "<init>", "(LNemaGrid$Pixels;)V"⟩
abbrev cX1_begin : ByteArray := prog_3_method_2_code
def yX1_begin : MethodName := ⟨RX1, "begin", "(II)V"⟩
abbrev cX1_has : ByteArray := prog_3_method_3_code
def yX1_has : MethodName := ⟨RX1, "has", "(II)Z"⟩
abbrev cX1_directionAt : ByteArray := prog_3_method_4_code
def yX1_directionAt : MethodName := ⟨RX1, "directionAt", "(II)I"⟩
abbrev cX1_kindAt : ByteArray := prog_3_method_5_code
def yX1_kindAt : MethodName := ⟨RX1, "kindAt", "(II)I"⟩
abbrev cX1_pixelAt : ByteArray := prog_3_method_6_code
def yX1_pixelAt : MethodName := ⟨RX1, "pixelAt", "(II)I"⟩
abbrev cX1_hasPixelIn : ByteArray := prog_3_method_7_code
def yX1_hasPixelIn : MethodName := ⟨RX1, "hasPixelIn", "(IIII)Z"⟩
abbrev cX1_mark : ByteArray := prog_3_method_8_code
def yX1_mark : MethodName := ⟨RX1, "mark", "(IIIII)V"⟩
abbrev cX1_heldWith : ByteArray := prog_3_method_9_code
def yX1_heldWith : MethodName := ⟨RX1, "heldWith", "(II)I"⟩
abbrev cX1_energyWith : ByteArray := prog_3_method_10_code
def yX1_energyWith : MethodName := ⟨RX1, "energyWith", "(III)I"⟩
abbrev cX1_energyAt : ByteArray := prog_3_method_11_code
def yX1_energyAt : MethodName := ⟨RX1, "energyAt", "(II)I"⟩
abbrev cX1_sum : ByteArray := prog_3_method_12_code
def yX1_sum : MethodName := ⟨RX1, "sum", "()I"⟩
abbrev cX1_grown : ByteArray := prog_3_method_13_code
def yX1_grown : MethodName := ⟨RX1, "grown", "(I)I"⟩
abbrev cX1_turnTo : ByteArray := prog_3_method_15_code
def yX1_turnTo : MethodName := ⟨RX1, "turnTo", "(III)I"⟩
abbrev cX1_hold : ByteArray := prog_3_method_16_code
def yX1_hold : MethodName := ⟨RX1, "hold", "(IIIII)I"⟩
abbrev cX1_setField : ByteArray := prog_3_method_17_code
def yX1_setField : MethodName := ⟨RX1, "setField", "(III)I"⟩
abbrev cX1_heldInPixel : ByteArray := prog_3_method_18_code
def yX1_heldInPixel : MethodName := ⟨RX1, "heldInPixel", "(I)I"⟩
abbrev cX1_relax : ByteArray := prog_3_method_19_code
def yX1_relax : MethodName := ⟨RX1, "relax", "()I"⟩
abbrev cX1_settle : ByteArray := prog_3_method_20_code
def yX1_settle : MethodName := ⟨RX1, "settle", "(II)V"⟩
abbrev cX1_greyOfPixel : ByteArray := prog_3_method_22_code
def yX1_greyOfPixel : MethodName := ⟨RX1, "greyOfPixel", "(II)I"⟩
def RX2 : String := "NemaGrid$Pictures"
def TX2 : u_T := fun k => match k with
  | 0 => ("NemaGrid$Pictures", "plates", "LNemaGrid$Row;", true)
  | 1 => ("NemaGrid$Pictures", "greys", "LNemaGrid$Row;", true)
  | _ => ("NemaGrid$Pictures", "count", "I", false)
def tyX2 : Nat → FieldType := fun k => match k with
  | 0 => .object "NemaGrid$Row"
  | 1 => .object "NemaGrid$Row"
  | _ => .int
abbrev wsX20 : List Cond := u_ws RX2 TX2 3
theorem nmX2 : ∀ a, a < 3 → ∀ b, b < 3 → a ≠ b → (TX2 a).2.1 ≠ (TX2 b).2.1 := by decide +kernel
theorem tyX2_ok : ∀ k, k < 3 → parseFieldDescriptor (TX2 k).2.2.1 = some (tyX2 k) := by decide +kernel
abbrev cX2_init : ByteArray := prog_4_method_1_code
def yX2_init : MethodName := ⟨RX2, "<init>", "()V"⟩
def RX3 : String := "NemaGrid$Pixels"
def TX3 : u_T := fun k => match k with
  | 0 => ("NemaGrid$Pixels", "lefts", "LNemaGrid$Row;", true)
  | 1 => ("NemaGrid$Pixels", "tops", "LNemaGrid$Row;", true)
  | 2 => ("NemaGrid$Pixels", "widths", "LNemaGrid$Row;", true)
  | 3 => ("NemaGrid$Pixels", "heights", "LNemaGrid$Row;", true)
  | 4 => ("NemaGrid$Pixels", "directions", "LNemaGrid$Row;", true)
  | 5 => ("NemaGrid$Pixels", "strengths", "LNemaGrid$Row;", true)
  | 6 => ("NemaGrid$Pixels", "noted", "LNemaGrid$Row;", true)
  | 7 => ("NemaGrid$Pixels", "notes", "LNemaGrid$Row;", true)
  | _ => ("NemaGrid$Pixels", "count", "I", false)
def tyX3 : Nat → FieldType := fun k => match k with
  | 0 => .object "NemaGrid$Row"
  | 1 => .object "NemaGrid$Row"
  | 2 => .object "NemaGrid$Row"
  | 3 => .object "NemaGrid$Row"
  | 4 => .object "NemaGrid$Row"
  | 5 => .object "NemaGrid$Row"
  | 6 => .object "NemaGrid$Row"
  | 7 => .object "NemaGrid$Row"
  | _ => .int
abbrev wsX30 : List Cond := u_ws RX3 TX3 9
theorem nmX3 : ∀ a, a < 9 → ∀ b, b < 9 → a ≠ b → (TX3 a).2.1 ≠ (TX3 b).2.1 := by decide +kernel
theorem tyX3_ok : ∀ k, k < 9 → parseFieldDescriptor (TX3 k).2.2.1 = some (tyX3 k) := by decide +kernel
abbrev cX3_init : ByteArray := prog_5_method_1_code
def yX3_init : MethodName := ⟨RX3, "<init>", "()V"⟩
abbrev cX3_has : ByteArray := prog_5_method_2_code
def yX3_has : MethodName := ⟨RX3, "has", "(I)Z"⟩
abbrev cX3_make : ByteArray := prog_5_method_3_code
def yX3_make : MethodName := ⟨RX3, "make", "(IIII)I"⟩
abbrev cX3_left : ByteArray := prog_5_method_4_code
def yX3_left : MethodName := ⟨RX3, "left", "(I)I"⟩
abbrev cX3_top : ByteArray := prog_5_method_5_code
def yX3_top : MethodName := ⟨RX3, "top", "(I)I"⟩
abbrev cX3_width : ByteArray := prog_5_method_6_code
def yX3_width : MethodName := ⟨RX3, "width", "(I)I"⟩
abbrev cX3_height : ByteArray := prog_5_method_7_code
def yX3_height : MethodName := ⟨RX3, "height", "(I)I"⟩
abbrev cX3_fieldDirection : ByteArray := prog_5_method_8_code
def yX3_fieldDirection : MethodName := ⟨RX3, "fieldDirection", "(I)I"⟩
abbrev cX3_fieldStrength : ByteArray := prog_5_method_9_code
def yX3_fieldStrength : MethodName := ⟨RX3, "fieldStrength", "(I)I"⟩
abbrev cX3_setField : ByteArray := prog_5_method_10_code
def yX3_setField : MethodName := ⟨RX3, "setField", "(III)V"⟩
abbrev cX3_note : ByteArray := prog_5_method_11_code
def yX3_note : MethodName := ⟨RX3, "note", "(II)V"⟩
abbrev cX3_flicker : ByteArray := prog_5_method_12_code
def yX3_flicker : MethodName := ⟨RX3, "flicker", "(I)I"⟩
def RX4 : String := "NemaGrid$Row"
def TX4 : u_T := fun k => match k with
  | _ => ("NemaGrid$Row", "numbers", "[I", true)
def tyX4 : Nat → FieldType := fun k => match k with
  | _ => .array .int
abbrev wsX40 : List Cond := u_ws RX4 TX4 1
theorem nmX4 : ∀ a, a < 1 → ∀ b, b < 1 → a ≠ b → (TX4 a).2.1 ≠ (TX4 b).2.1 := by decide +kernel
theorem tyX4_ok : ∀ k, k < 1 → parseFieldDescriptor (TX4 k).2.2.1 = some (tyX4 k) := by decide +kernel
abbrev cX4_init : ByteArray := prog_6_method_1_code
def yX4_init : MethodName := ⟨RX4, "<init>", "(I)V"⟩
abbrev cX4_at : ByteArray := prog_6_method_2_code
def yX4_at : MethodName := ⟨RX4, "at", "(I)I"⟩
abbrev cX4_put : ByteArray := prog_6_method_3_code
def yX4_put : MethodName := ⟨RX4, "put", "(II)V"⟩
abbrev cX4_fill : ByteArray := prog_6_method_4_code
def yX4_fill : MethodName := ⟨RX4, "fill", "(I)V"⟩
def RX5 : String := "NemaGrid$Windings"
def TX5 : u_T := fun k => match k with
  | _ => ("NemaGrid$Windings", "matter", "LNemaGrid$Matter;", true)
def tyX5 : Nat → FieldType := fun k => match k with
  | _ => .object "NemaGrid$Matter"
abbrev wsX50 : List Cond := u_ws RX5 TX5 1
theorem nmX5 : ∀ a, a < 1 → ∀ b, b < 1 → a ≠ b → (TX5 a).2.1 ≠ (TX5 b).2.1 := by decide +kernel
theorem tyX5_ok : ∀ k, k < 1 → parseFieldDescriptor (TX5 k).2.2.1 = some (tyX5 k) := by decide +kernel
abbrev cX5_init : ByteArray := prog_7_method_1_code
def yX5_init : MethodName := ⟨RX5, "<init>", "(LNemaGrid$Matter;)V"⟩
abbrev cX5_has : ByteArray := prog_7_method_2_code
def yX5_has : MethodName := ⟨RX5, "has", "(II)Z"⟩
abbrev cX5_at : ByteArray := prog_7_method_3_code
def yX5_at : MethodName := ⟨RX5, "at", "(II)I"⟩
abbrev cX5_sum : ByteArray := prog_7_method_4_code
def yX5_sum : MethodName := ⟨RX5, "sum", "(IIII)I"⟩
abbrev cX5_around : ByteArray := prog_7_method_5_code
def yX5_around : MethodName := ⟨RX5, "around", "(IIII)I"⟩
abbrev cX5_count : ByteArray := prog_7_method_6_code
def yX5_count : MethodName := ⟨RX5, "count", "()I"⟩
abbrev cX5_find : ByteArray := prog_7_method_7_code
def yX5_find : MethodName := ⟨RX5, "find", "(I)I"⟩
abbrev cX5_isGood : ByteArray := prog_7_method_8_code
def yX5_isGood : MethodName := ⟨RX5, "isGood", "(I)Z"⟩
abbrev cX5_touches : ByteArray := prog_7_method_9_code
def yX5_touches : MethodName := ⟨RX5, "touches", "(III)Z"⟩
def RX6 : String := "NemaGrid"
def TX6 : u_T := fun k => match k with
  | 0 => ("NemaGrid", "pixels", "LNemaGrid$Pixels;", true)
  | 1 => ("NemaGrid", "matter", "LNemaGrid$Matter;", true)
  | 2 => ("NemaGrid", "windings", "LNemaGrid$Windings;", true)
  | 3 => ("NemaGrid", "drives", "LNemaGrid$Drives;", true)
  | 4 => ("NemaGrid", "pictures", "LNemaGrid$Pictures;", true)
  | 5 => ("NemaGrid", "plateDirection", "I", false)
  | 6 => ("NemaGrid", "tickNow", "I", false)
  | 7 => ("NemaGrid", "work", "I", false)
  | _ => ("NemaGrid", "heat", "I", false)
def tyX6 : Nat → FieldType := fun k => match k with
  | 0 => .object "NemaGrid$Pixels"
  | 1 => .object "NemaGrid$Matter"
  | 2 => .object "NemaGrid$Windings"
  | 3 => .object "NemaGrid$Drives"
  | 4 => .object "NemaGrid$Pictures"
  | 5 => .int
  | 6 => .int
  | 7 => .int
  | _ => .int
abbrev wsX60 : List Cond := u_ws RX6 TX6 9
theorem nmX6 : ∀ a, a < 9 → ∀ b, b < 9 → a ≠ b → (TX6 a).2.1 ≠ (TX6 b).2.1 := by decide +kernel
theorem tyX6_ok : ∀ k, k < 9 → parseFieldDescriptor (TX6 k).2.2.1 = some (tyX6 k) := by decide +kernel
abbrev cX6_init : ByteArray := prog_1_method_1_code
def yX6_init : MethodName := ⟨RX6, "<init>", "()V"⟩
abbrev cX6_grid : ByteArray := prog_1_method_2_code
def yX6_grid : MethodName := ⟨RX6, "grid", "(II)V"⟩
abbrev cX6_turn : ByteArray := prog_1_method_4_code
def yX6_turn : MethodName := ⟨RX6, "turn", "(III)I"⟩
abbrev cX6_anchor : ByteArray := prog_1_method_5_code
def yX6_anchor : MethodName := ⟨RX6, "anchor", "(IIIII)I"⟩
abbrev cX6_pixel : ByteArray := prog_1_method_6_code
def yX6_pixel : MethodName := ⟨RX6, "pixel", "(IIII)I"⟩
abbrev cX6_drive : ByteArray := prog_1_method_7_code
def yX6_drive : MethodName := ⟨RX6, "drive", "(III)I"⟩
abbrev cX6_program : ByteArray := prog_1_method_8_code
def yX6_program : MethodName := ⟨RX6, "program", "(IIII)I"⟩
abbrev cX6_tick : ByteArray := prog_1_method_9_code
def yX6_tick : MethodName := ⟨RX6, "tick", "(I)I"⟩
abbrev cX6_now : ByteArray := prog_1_method_12_code
def yX6_now : MethodName := ⟨RX6, "now", "()I"⟩
abbrev cX6_told : ByteArray := prog_1_method_13_code
def yX6_told : MethodName := ⟨RX6, "told", "(III)I"⟩
abbrev cX6_energy : ByteArray := prog_1_method_14_code
def yX6_energy : MethodName := ⟨RX6, "energy", "()I"⟩
abbrev cX6_energyAnew : ByteArray := prog_1_method_15_code
def yX6_energyAnew : MethodName := ⟨RX6, "energyAnew", "()I"⟩
abbrev cX6_spent : ByteArray := prog_1_method_16_code
def yX6_spent : MethodName := ⟨RX6, "spent", "(Z)I"⟩
abbrev cX6_winding : ByteArray := prog_1_method_18_code
def yX6_winding : MethodName := ⟨RX6, "winding", "(II)I"⟩
abbrev cX6_within : ByteArray := prog_1_method_19_code
def yX6_within : MethodName := ⟨RX6, "within", "(IIII)I"⟩
abbrev cX6_border : ByteArray := prog_1_method_20_code
def yX6_border : MethodName := ⟨RX6, "border", "(IIII)I"⟩
abbrev cX6_defects : ByteArray := prog_1_method_21_code
def yX6_defects : MethodName := ⟨RX6, "defects", "()I"⟩
abbrev cX6_defect : ByteArray := prog_1_method_22_code
def yX6_defect : MethodName := ⟨RX6, "defect", "(II)I"⟩
abbrev cX6_ofPixel : ByteArray := prog_1_method_23_code
def yX6_ofPixel : MethodName := ⟨RX6, "ofPixel", "(II)I"⟩
abbrev cX6_beginAnew : ByteArray := prog_1_method_27_code
def yX6_beginAnew : MethodName := ⟨RX6, "beginAnew", "(II)V"⟩
abbrev cX6_worked : ByteArray := prog_1_method_28_code
def yX6_worked : MethodName := ⟨RX6, "worked", "(I)I"⟩
abbrev cX6_noteGreys : ByteArray := prog_1_method_29_code
def yX6_noteGreys : MethodName := ⟨RX6, "noteGreys", "()V"⟩
abbrev cX6_isIn : ByteArray := prog_1_method_30_code
def yX6_isIn : MethodName := ⟨RX6, "isIn", "(III)Z"⟩
abbrev cX6_isDirection : ByteArray := prog_1_method_31_code
def yX6_isDirection : MethodName := ⟨RX6, "isDirection", "(I)Z"⟩
abbrev cX6_onFrom : ByteArray := prog_1_method_32_code
def yX6_onFrom : MethodName := ⟨RX6, "onFrom", "(II)I"⟩
abbrev cX6_squareApart : ByteArray := prog_1_method_33_code
def yX6_squareApart : MethodName := ⟨RX6, "squareApart", "(II)I"⟩
abbrev cX6_greyOf : ByteArray := prog_1_method_34_code
def yX6_greyOf : MethodName := ⟨RX6, "greyOf", "(II)I"⟩
abbrev cX6_numberOf : ByteArray := prog_1_method_35_code
def yX6_numberOf : MethodName := ⟨RX6, "numberOf", "(II)I"⟩
def RX7 : String := "NemaGridModel"
def TX7 : u_T := fun k => match k with
  | _ => ("", "", "", false)
def tyX7 : Nat → FieldType := fun k => match k with
  | _ => .int
abbrev wsX70 : List Cond := u_ws RX7 TX7 0
theorem nmX7 : ∀ a, a < 0 → ∀ b, b < 0 → a ≠ b → (TX7 a).2.1 ≠ (TX7 b).2.1 := by decide +kernel
theorem tyX7_ok : ∀ k, k < 0 → parseFieldDescriptor (TX7 k).2.2.1 = some (tyX7 k) := by decide +kernel
def RJ9 : String := "java/lang/Math"
def TJ9 : u_T := fun k => match k with
  | _ => ("", "", "", false)
def tyJ9 : Nat → FieldType := fun k => match k with
  | _ => .int
abbrev wsJ90 : List Cond := u_ws RJ9 TJ9 0
theorem nmJ9 : ∀ a, a < 0 → ∀ b, b < 0 → a ≠ b → (TJ9 a).2.1 ≠ (TJ9 b).2.1 := by decide +kernel
theorem tyJ9_ok : ∀ k, k < 0 → parseFieldDescriptor (TJ9 k).2.2.1 = some (tyJ9 k) := by decide +kernel
abbrev cJ9_floorDiv_7cf53 : ByteArray := prog_14_method_47_code
def yJ9_floorDiv_7cf53 : MethodName := ⟨RJ9, "floorDiv", "(II)I"⟩
abbrev cJ9_abs_0f7a4 : ByteArray := prog_14_method_59_code
def yJ9_abs_0f7a4 : MethodName := ⟨RJ9, "abs", "(I)I"⟩
abbrev cJ9_max_7cf53 : ByteArray := prog_14_method_65_code
def yJ9_max_7cf53 : MethodName := ⟨RJ9, "max", "(II)I"⟩
abbrev cJ9_min_7cf53 : ByteArray := prog_14_method_69_code
def yJ9_min_7cf53 : MethodName := ⟨RJ9, "min", "(II)I"⟩
def RJ0 : String := "java/lang/String"
def TJ0 : u_T := fun k => match k with
  | _ => ("", "", "", false)
def tyJ0 : Nat → FieldType := fun k => match k with
  | _ => .int
abbrev wsJ00 : List Cond := u_ws RJ0 TJ0 0
theorem nmJ0 : ∀ a, a < 0 → ∀ b, b < 0 → a ≠ b → (TJ0 a).2.1 ≠ (TJ0 b).2.1 := by decide +kernel
theorem tyJ0_ok : ∀ k, k < 0 → parseFieldDescriptor (TJ0 k).2.2.1 = some (tyJ0 k) := by decide +kernel
def RL : String := "NemaGridLaw"
abbrev cL_cell : ByteArray := method_2_code
def yL_cell : MethodName := ⟨RL, "cell", "([II)I"⟩
abbrev cL_at : ByteArray := method_3_code
def yL_at : MethodName := ⟨RL, "at", "(II)I"⟩
abbrev cL_law : ByteArray := code
def yL_law : MethodName := ⟨RL, "law", "([I)Z"⟩
end
section
theorem dX0_init_0 : decode cX0_init 0 = .ok (.aload_n 0, 1) := by decide +kernel
theorem dX0_init_1 : decode cX0_init 1 = .ok (.invokespecial 3, 3) := by decide +kernel
theorem dX0_init_4 : decode cX0_init 4 = .ok (.aload_n 0, 1) := by decide +kernel
theorem dX0_init_5 : decode cX0_init 5 = .ok (.new 9, 3) := by decide +kernel
theorem dX0_init_8 : decode cX0_init 8 = .ok (.dup, 1) := by decide +kernel
theorem dX0_init_9 : decode cX0_init 9 = .ok (.bipush 40, 2) := by decide +kernel
theorem dX0_init_11 : decode cX0_init 11 = .ok (.invokespecial 11, 3) := by decide +kernel
theorem dX0_init_14 : decode cX0_init 14 = .ok (.putfield 14, 3) := by decide +kernel
theorem dX0_init_17 : decode cX0_init 17 = .ok (.aload_n 0, 1) := by decide +kernel
theorem dX0_init_18 : decode cX0_init 18 = .ok (.new 9, 3) := by decide +kernel
theorem dX0_init_21 : decode cX0_init 21 = .ok (.dup, 1) := by decide +kernel
theorem dX0_init_22 : decode cX0_init 22 = .ok (.bipush 40, 2) := by decide +kernel
theorem dX0_init_24 : decode cX0_init 24 = .ok (.invokespecial 11, 3) := by decide +kernel
theorem dX0_init_27 : decode cX0_init 27 = .ok (.putfield 20, 3) := by decide +kernel
theorem dX0_init_30 : decode cX0_init 30 = .ok (.aload_n 0, 1) := by decide +kernel
theorem dX0_init_31 : decode cX0_init 31 = .ok (.new 9, 3) := by decide +kernel
theorem dX0_init_34 : decode cX0_init 34 = .ok (.dup, 1) := by decide +kernel
theorem dX0_init_35 : decode cX0_init 35 = .ok (.bipush 40, 2) := by decide +kernel
theorem dX0_init_37 : decode cX0_init 37 = .ok (.invokespecial 11, 3) := by decide +kernel
theorem dX0_init_40 : decode cX0_init 40 = .ok (.putfield 23, 3) := by decide +kernel
theorem dX0_init_43 : decode cX0_init 43 = .ok (.aload_n 0, 1) := by decide +kernel
theorem dX0_init_44 : decode cX0_init 44 = .ok (.new 9, 3) := by decide +kernel
theorem dX0_init_47 : decode cX0_init 47 = .ok (.dup, 1) := by decide +kernel
theorem dX0_init_48 : decode cX0_init 48 = .ok (.bipush 40, 2) := by decide +kernel
theorem dX0_init_50 : decode cX0_init 50 = .ok (.invokespecial 11, 3) := by decide +kernel
theorem dX0_init_53 : decode cX0_init 53 = .ok (.putfield 26, 3) := by decide +kernel
theorem dX0_init_56 : decode cX0_init 56 = .ok (.return_, 1) := by decide +kernel
theorem dX0_add_0 : decode cX0_add 0 = .ok (.aload_n 0, 1) := by decide +kernel
theorem dX0_add_1 : decode cX0_add 1 = .ok (.aload_n 0, 1) := by decide +kernel
theorem dX0_add_2 : decode cX0_add 2 = .ok (.getfield 29, 3) := by decide +kernel
theorem dX0_add_5 : decode cX0_add 5 = .ok (.iload_n 1, 1) := by decide +kernel
theorem dX0_add_6 : decode cX0_add 6 = .ok (.iload_n 2, 1) := by decide +kernel
theorem dX0_add_7 : decode cX0_add 7 = .ok (.iload_n 3, 1) := by decide +kernel
theorem dX0_add_8 : decode cX0_add 8 = .ok (.iload 4, 2) := by decide +kernel
theorem dX0_add_10 : decode cX0_add 10 = .ok (.invokevirtual 33, 3) := by decide +kernel
theorem dX0_add_13 : decode cX0_add 13 = .ok (.aload_n 0, 1) := by decide +kernel
theorem dX0_add_14 : decode cX0_add 14 = .ok (.dup, 1) := by decide +kernel
theorem dX0_add_15 : decode cX0_add 15 = .ok (.getfield 29, 3) := by decide +kernel
theorem dX0_add_18 : decode cX0_add 18 = .ok (.iconst 1, 1) := by decide +kernel
theorem dX0_add_19 : decode cX0_add 19 = .ok (.iadd, 1) := by decide +kernel
theorem dX0_add_20 : decode cX0_add 20 = .ok (.putfield 29, 3) := by decide +kernel
theorem dX0_add_23 : decode cX0_add 23 = .ok (.aload_n 0, 1) := by decide +kernel
theorem dX0_add_24 : decode cX0_add 24 = .ok (.getfield 29, 3) := by decide +kernel
theorem dX0_add_27 : decode cX0_add 27 = .ok (.ireturn, 1) := by decide +kernel
theorem dX0_put_0 : decode cX0_put 0 = .ok (.aload_n 0, 1) := by decide +kernel
theorem dX0_put_1 : decode cX0_put 1 = .ok (.getfield 14, 3) := by decide +kernel
theorem dX0_put_4 : decode cX0_put 4 = .ok (.iload_n 1, 1) := by decide +kernel
theorem dX0_put_5 : decode cX0_put 5 = .ok (.iload_n 2, 1) := by decide +kernel
theorem dX0_put_6 : decode cX0_put 6 = .ok (.invokevirtual 37, 3) := by decide +kernel
theorem dX0_put_9 : decode cX0_put 9 = .ok (.aload_n 0, 1) := by decide +kernel
theorem dX0_put_10 : decode cX0_put 10 = .ok (.getfield 20, 3) := by decide +kernel
theorem dX0_put_13 : decode cX0_put 13 = .ok (.iload_n 1, 1) := by decide +kernel
theorem dX0_put_14 : decode cX0_put 14 = .ok (.iload_n 3, 1) := by decide +kernel
theorem dX0_put_15 : decode cX0_put 15 = .ok (.invokevirtual 37, 3) := by decide +kernel
theorem dX0_put_18 : decode cX0_put 18 = .ok (.aload_n 0, 1) := by decide +kernel
theorem dX0_put_19 : decode cX0_put 19 = .ok (.getfield 23, 3) := by decide +kernel
theorem dX0_put_22 : decode cX0_put 22 = .ok (.iload_n 1, 1) := by decide +kernel
theorem dX0_put_23 : decode cX0_put 23 = .ok (.iload 4, 2) := by decide +kernel
theorem dX0_put_25 : decode cX0_put 25 = .ok (.invokevirtual 37, 3) := by decide +kernel
theorem dX0_put_28 : decode cX0_put 28 = .ok (.aload_n 0, 1) := by decide +kernel
theorem dX0_put_29 : decode cX0_put 29 = .ok (.getfield 26, 3) := by decide +kernel
theorem dX0_put_32 : decode cX0_put 32 = .ok (.iload_n 1, 1) := by decide +kernel
theorem dX0_put_33 : decode cX0_put 33 = .ok (.iload 5, 2) := by decide +kernel
theorem dX0_put_35 : decode cX0_put 35 = .ok (.invokevirtual 37, 3) := by decide +kernel
theorem dX0_put_38 : decode cX0_put 38 = .ok (.return_, 1) := by decide +kernel
theorem dX0_comeAt_0 : decode cX0_comeAt 0 = .ok (.iconst 0, 1) := by decide +kernel
theorem dX0_comeAt_1 : decode cX0_comeAt 1 = .ok (.istore_n 3, 1) := by decide +kernel
theorem dX0_comeAt_2 : decode cX0_comeAt 2 = .ok (.iconst 0, 1) := by decide +kernel
theorem dX0_comeAt_3 : decode cX0_comeAt 3 = .ok (.istore 4, 2) := by decide +kernel
theorem dX0_comeAt_5 : decode cX0_comeAt 5 = .ok (.iconst 0, 1) := by decide +kernel
theorem dX0_comeAt_6 : decode cX0_comeAt 6 = .ok (.istore 5, 2) := by decide +kernel
theorem dX0_comeAt_8 : decode cX0_comeAt 8 = .ok (.iload 5, 2) := by decide +kernel
theorem dX0_comeAt_10 : decode cX0_comeAt 10 = .ok (.aload_n 0, 1) := by decide +kernel
theorem dX0_comeAt_11 : decode cX0_comeAt 11 = .ok (.getfield 29, 3) := by decide +kernel
theorem dX0_comeAt_14 : decode cX0_comeAt 14 = .ok (.if_icmp .ge 104, 3) := by decide +kernel
theorem dX0_comeAt_17 : decode cX0_comeAt 17 = .ok (.aload_n 0, 1) := by decide +kernel
theorem dX0_comeAt_18 : decode cX0_comeAt 18 = .ok (.getfield 20, 3) := by decide +kernel
theorem dX0_comeAt_21 : decode cX0_comeAt 21 = .ok (.iload 5, 2) := by decide +kernel
theorem dX0_comeAt_23 : decode cX0_comeAt 23 = .ok (.invokevirtual 40, 3) := by decide +kernel
theorem dX0_comeAt_26 : decode cX0_comeAt 26 = .ok (.iload_n 1, 1) := by decide +kernel
theorem dX0_comeAt_27 : decode cX0_comeAt 27 = .ok (.if_icmp .ne 40, 3) := by decide +kernel
theorem dX0_comeAt_30 : decode cX0_comeAt 30 = .ok (.iload_n 3, 1) := by decide +kernel
theorem dX0_comeAt_31 : decode cX0_comeAt 31 = .ok (.aload_n 2, 1) := by decide +kernel
theorem dX0_comeAt_32 : decode cX0_comeAt 32 = .ok (.aload_n 0, 1) := by decide +kernel
theorem dX0_comeAt_33 : decode cX0_comeAt 33 = .ok (.getfield 14, 3) := by decide +kernel
theorem dX0_comeAt_36 : decode cX0_comeAt 36 = .ok (.iload 5, 2) := by decide +kernel
theorem dX0_comeAt_38 : decode cX0_comeAt 38 = .ok (.invokevirtual 40, 3) := by decide +kernel
theorem dX0_comeAt_41 : decode cX0_comeAt 41 = .ok (.aload_n 0, 1) := by decide +kernel
theorem dX0_comeAt_42 : decode cX0_comeAt 42 = .ok (.getfield 23, 3) := by decide +kernel
theorem dX0_comeAt_45 : decode cX0_comeAt 45 = .ok (.iload 5, 2) := by decide +kernel
theorem dX0_comeAt_47 : decode cX0_comeAt 47 = .ok (.invokevirtual 40, 3) := by decide +kernel
theorem dX0_comeAt_50 : decode cX0_comeAt 50 = .ok (.aload_n 0, 1) := by decide +kernel
theorem dX0_comeAt_51 : decode cX0_comeAt 51 = .ok (.getfield 26, 3) := by decide +kernel
theorem dX0_comeAt_54 : decode cX0_comeAt 54 = .ok (.iload 5, 2) := by decide +kernel
theorem dX0_comeAt_56 : decode cX0_comeAt 56 = .ok (.invokevirtual 40, 3) := by decide +kernel
theorem dX0_comeAt_59 : decode cX0_comeAt 59 = .ok (.invokevirtual 44, 3) := by decide +kernel
theorem dX0_comeAt_62 : decode cX0_comeAt 62 = .ok (.iadd, 1) := by decide +kernel
theorem dX0_comeAt_63 : decode cX0_comeAt 63 = .ok (.istore_n 3, 1) := by decide +kernel
theorem dX0_comeAt_64 : decode cX0_comeAt 64 = .ok (.goto 48, 3) := by decide +kernel
theorem dX0_comeAt_67 : decode cX0_comeAt 67 = .ok (.aload_n 0, 1) := by decide +kernel
theorem dX0_comeAt_68 : decode cX0_comeAt 68 = .ok (.iload 4, 2) := by decide +kernel
theorem dX0_comeAt_70 : decode cX0_comeAt 70 = .ok (.aload_n 0, 1) := by decide +kernel
theorem dX0_comeAt_71 : decode cX0_comeAt 71 = .ok (.getfield 14, 3) := by decide +kernel
theorem dX0_comeAt_74 : decode cX0_comeAt 74 = .ok (.iload 5, 2) := by decide +kernel
theorem dX0_comeAt_76 : decode cX0_comeAt 76 = .ok (.invokevirtual 40, 3) := by decide +kernel
theorem dX0_comeAt_79 : decode cX0_comeAt 79 = .ok (.aload_n 0, 1) := by decide +kernel
theorem dX0_comeAt_80 : decode cX0_comeAt 80 = .ok (.getfield 20, 3) := by decide +kernel
theorem dX0_comeAt_83 : decode cX0_comeAt 83 = .ok (.iload 5, 2) := by decide +kernel
theorem dX0_comeAt_85 : decode cX0_comeAt 85 = .ok (.invokevirtual 40, 3) := by decide +kernel
theorem dX0_comeAt_88 : decode cX0_comeAt 88 = .ok (.aload_n 0, 1) := by decide +kernel
theorem dX0_comeAt_89 : decode cX0_comeAt 89 = .ok (.getfield 23, 3) := by decide +kernel
theorem dX0_comeAt_92 : decode cX0_comeAt 92 = .ok (.iload 5, 2) := by decide +kernel
theorem dX0_comeAt_94 : decode cX0_comeAt 94 = .ok (.invokevirtual 40, 3) := by decide +kernel
theorem dX0_comeAt_97 : decode cX0_comeAt 97 = .ok (.aload_n 0, 1) := by decide +kernel
theorem dX0_comeAt_98 : decode cX0_comeAt 98 = .ok (.getfield 26, 3) := by decide +kernel
theorem dX0_comeAt_101 : decode cX0_comeAt 101 = .ok (.iload 5, 2) := by decide +kernel
theorem dX0_comeAt_103 : decode cX0_comeAt 103 = .ok (.invokevirtual 40, 3) := by decide +kernel
theorem dX0_comeAt_106 : decode cX0_comeAt 106 = .ok (.invokevirtual 33, 3) := by decide +kernel
theorem dX0_comeAt_109 : decode cX0_comeAt 109 = .ok (.iinc 4 1, 3) := by decide +kernel
theorem dX0_comeAt_112 : decode cX0_comeAt 112 = .ok (.iinc 5 1, 3) := by decide +kernel
theorem dX0_comeAt_115 : decode cX0_comeAt 115 = .ok (.goto (-107), 3) := by decide +kernel
theorem dX0_comeAt_118 : decode cX0_comeAt 118 = .ok (.aload_n 0, 1) := by decide +kernel
theorem dX0_comeAt_119 : decode cX0_comeAt 119 = .ok (.iload 4, 2) := by decide +kernel
theorem dX0_comeAt_121 : decode cX0_comeAt 121 = .ok (.putfield 29, 3) := by decide +kernel
theorem dX0_comeAt_124 : decode cX0_comeAt 124 = .ok (.iload_n 3, 1) := by decide +kernel
theorem dX0_comeAt_125 : decode cX0_comeAt 125 = .ok (.ireturn, 1) := by decide +kernel
theorem dX1_init_0 : decode cX1_init 0 = .ok (.aload_n 0, 1) := by decide +kernel
theorem dX1_init_1 : decode cX1_init 1 = .ok (.invokespecial 3, 3) := by decide +kernel
theorem dX1_init_4 : decode cX1_init 4 = .ok (.aload_n 0, 1) := by decide +kernel
theorem dX1_init_5 : decode cX1_init 5 = .ok (.new 9, 3) := by decide +kernel
theorem dX1_init_8 : decode cX1_init 8 = .ok (.dup, 1) := by decide +kernel
theorem dX1_init_9 : decode cX1_init 9 = .ok (.sipush 144, 3) := by decide +kernel
theorem dX1_init_12 : decode cX1_init 12 = .ok (.invokespecial 11, 3) := by decide +kernel
theorem dX1_init_15 : decode cX1_init 15 = .ok (.putfield 14, 3) := by decide +kernel
theorem dX1_init_18 : decode cX1_init 18 = .ok (.aload_n 0, 1) := by decide +kernel
theorem dX1_init_19 : decode cX1_init 19 = .ok (.new 9, 3) := by decide +kernel
theorem dX1_init_22 : decode cX1_init 22 = .ok (.dup, 1) := by decide +kernel
theorem dX1_init_23 : decode cX1_init 23 = .ok (.sipush 144, 3) := by decide +kernel
theorem dX1_init_26 : decode cX1_init 26 = .ok (.invokespecial 11, 3) := by decide +kernel
theorem dX1_init_29 : decode cX1_init 29 = .ok (.putfield 20, 3) := by decide +kernel
theorem dX1_init_32 : decode cX1_init 32 = .ok (.aload_n 0, 1) := by decide +kernel
theorem dX1_init_33 : decode cX1_init 33 = .ok (.new 9, 3) := by decide +kernel
theorem dX1_init_36 : decode cX1_init 36 = .ok (.dup, 1) := by decide +kernel
theorem dX1_init_37 : decode cX1_init 37 = .ok (.sipush 144, 3) := by decide +kernel
theorem dX1_init_40 : decode cX1_init 40 = .ok (.invokespecial 11, 3) := by decide +kernel
theorem dX1_init_43 : decode cX1_init 43 = .ok (.putfield 23, 3) := by decide +kernel
theorem dX1_init_46 : decode cX1_init 46 = .ok (.aload_n 0, 1) := by decide +kernel
theorem dX1_init_47 : decode cX1_init 47 = .ok (.new 9, 3) := by decide +kernel
theorem dX1_init_50 : decode cX1_init 50 = .ok (.dup, 1) := by decide +kernel
theorem dX1_init_51 : decode cX1_init 51 = .ok (.sipush 144, 3) := by decide +kernel
theorem dX1_init_54 : decode cX1_init 54 = .ok (.invokespecial 11, 3) := by decide +kernel
theorem dX1_init_57 : decode cX1_init 57 = .ok (.putfield 26, 3) := by decide +kernel
theorem dX1_init_60 : decode cX1_init 60 = .ok (.aload_n 0, 1) := by decide +kernel
theorem dX1_init_61 : decode cX1_init 61 = .ok (.new 9, 3) := by decide +kernel
theorem dX1_init_64 : decode cX1_init 64 = .ok (.dup, 1) := by decide +kernel
theorem dX1_init_65 : decode cX1_init 65 = .ok (.sipush 144, 3) := by decide +kernel
theorem dX1_init_68 : decode cX1_init 68 = .ok (.invokespecial 11, 3) := by decide +kernel
theorem dX1_init_71 : decode cX1_init 71 = .ok (.putfield 29, 3) := by decide +kernel
theorem dX1_init_74 : decode cX1_init 74 = .ok (.aload_n 0, 1) := by decide +kernel
theorem dX1_init_75 : decode cX1_init 75 = .ok (.iconst 4, 1) := by decide +kernel
theorem dX1_init_76 : decode cX1_init 76 = .ok (.putfield 32, 3) := by decide +kernel
theorem dX1_init_79 : decode cX1_init 79 = .ok (.aload_n 0, 1) := by decide +kernel
theorem dX1_init_80 : decode cX1_init 80 = .ok (.iconst 4, 1) := by decide +kernel
theorem dX1_init_81 : decode cX1_init 81 = .ok (.putfield 36, 3) := by decide +kernel
theorem dX1_init_84 : decode cX1_init 84 = .ok (.aload_n 0, 1) := by decide +kernel
theorem dX1_init_85 : decode cX1_init 85 = .ok (.iconst 1, 1) := by decide +kernel
theorem dX1_init_86 : decode cX1_init 86 = .ok (.putfield 39, 3) := by decide +kernel
theorem dX1_init_89 : decode cX1_init 89 = .ok (.aload_n 0, 1) := by decide +kernel
theorem dX1_init_90 : decode cX1_init 90 = .ok (.iconst 1, 1) := by decide +kernel
theorem dX1_init_91 : decode cX1_init 91 = .ok (.putfield 42, 3) := by decide +kernel
theorem dX1_init_94 : decode cX1_init 94 = .ok (.aload_n 0, 1) := by decide +kernel
theorem dX1_init_95 : decode cX1_init 95 = .ok (.aload_n 1, 1) := by decide +kernel
theorem dX1_init_96 : decode cX1_init 96 = .ok (.putfield 45, 3) := by decide +kernel
theorem dX1_init_99 : decode cX1_init 99 = .ok (.return_, 1) := by decide +kernel
theorem dX1_begin_0 : decode cX1_begin 0 = .ok (.aload_n 0, 1) := by decide +kernel
theorem dX1_begin_1 : decode cX1_begin 1 = .ok (.iload_n 1, 1) := by decide +kernel
theorem dX1_begin_2 : decode cX1_begin 2 = .ok (.putfield 32, 3) := by decide +kernel
theorem dX1_begin_5 : decode cX1_begin 5 = .ok (.aload_n 0, 1) := by decide +kernel
theorem dX1_begin_6 : decode cX1_begin 6 = .ok (.iload_n 2, 1) := by decide +kernel
theorem dX1_begin_7 : decode cX1_begin 7 = .ok (.putfield 36, 3) := by decide +kernel
theorem dX1_begin_10 : decode cX1_begin 10 = .ok (.aload_n 0, 1) := by decide +kernel
theorem dX1_begin_11 : decode cX1_begin 11 = .ok (.getfield 14, 3) := by decide +kernel
theorem dX1_begin_14 : decode cX1_begin 14 = .ok (.iconst 0, 1) := by decide +kernel
theorem dX1_begin_15 : decode cX1_begin 15 = .ok (.invokevirtual 49, 3) := by decide +kernel
theorem dX1_begin_18 : decode cX1_begin 18 = .ok (.aload_n 0, 1) := by decide +kernel
theorem dX1_begin_19 : decode cX1_begin 19 = .ok (.getfield 20, 3) := by decide +kernel
theorem dX1_begin_22 : decode cX1_begin 22 = .ok (.iconst 0, 1) := by decide +kernel
theorem dX1_begin_23 : decode cX1_begin 23 = .ok (.invokevirtual 49, 3) := by decide +kernel
theorem dX1_begin_26 : decode cX1_begin 26 = .ok (.aload_n 0, 1) := by decide +kernel
theorem dX1_begin_27 : decode cX1_begin 27 = .ok (.getfield 29, 3) := by decide +kernel
theorem dX1_begin_30 : decode cX1_begin 30 = .ok (.iconst (-1), 1) := by decide +kernel
theorem dX1_begin_31 : decode cX1_begin 31 = .ok (.invokevirtual 49, 3) := by decide +kernel
theorem dX1_begin_34 : decode cX1_begin 34 = .ok (.aload_n 0, 1) := by decide +kernel
theorem dX1_begin_35 : decode cX1_begin 35 = .ok (.iconst 0, 1) := by decide +kernel
theorem dX1_begin_36 : decode cX1_begin 36 = .ok (.putfield 52, 3) := by decide +kernel
theorem dX1_begin_39 : decode cX1_begin 39 = .ok (.return_, 1) := by decide +kernel
theorem dX1_has_0 : decode cX1_has 0 = .ok (.iload_n 1, 1) := by decide +kernel
theorem dX1_has_1 : decode cX1_has 1 = .ok (.ifCond .lt 27, 3) := by decide +kernel
theorem dX1_has_4 : decode cX1_has 4 = .ok (.iload_n 1, 1) := by decide +kernel
theorem dX1_has_5 : decode cX1_has 5 = .ok (.aload_n 0, 1) := by decide +kernel
theorem dX1_has_6 : decode cX1_has 6 = .ok (.getfield 32, 3) := by decide +kernel
theorem dX1_has_9 : decode cX1_has 9 = .ok (.if_icmp .ge 19, 3) := by decide +kernel
theorem dX1_has_12 : decode cX1_has 12 = .ok (.iload_n 2, 1) := by decide +kernel
theorem dX1_has_13 : decode cX1_has 13 = .ok (.ifCond .lt 15, 3) := by decide +kernel
theorem dX1_has_16 : decode cX1_has 16 = .ok (.iload_n 2, 1) := by decide +kernel
theorem dX1_has_17 : decode cX1_has 17 = .ok (.aload_n 0, 1) := by decide +kernel
theorem dX1_has_18 : decode cX1_has 18 = .ok (.getfield 36, 3) := by decide +kernel
theorem dX1_has_21 : decode cX1_has 21 = .ok (.if_icmp .ge 7, 3) := by decide +kernel
theorem dX1_has_24 : decode cX1_has 24 = .ok (.iconst 1, 1) := by decide +kernel
theorem dX1_has_25 : decode cX1_has 25 = .ok (.goto 4, 3) := by decide +kernel
theorem dX1_has_28 : decode cX1_has 28 = .ok (.iconst 0, 1) := by decide +kernel
theorem dX1_has_29 : decode cX1_has 29 = .ok (.ireturn, 1) := by decide +kernel
theorem dX1_directionAt_0 : decode cX1_directionAt 0 = .ok (.aload_n 0, 1) := by decide +kernel
theorem dX1_directionAt_1 : decode cX1_directionAt 1 = .ok (.getfield 14, 3) := by decide +kernel
theorem dX1_directionAt_4 : decode cX1_directionAt 4 = .ok (.iload_n 1, 1) := by decide +kernel
theorem dX1_directionAt_5 : decode cX1_directionAt 5 = .ok (.iload_n 2, 1) := by decide +kernel
theorem dX1_directionAt_6 : decode cX1_directionAt 6 = .ok (.invokestatic 55, 3) := by decide +kernel
theorem dX1_directionAt_9 : decode cX1_directionAt 9 = .ok (.invokevirtual 59, 3) := by decide +kernel
theorem dX1_directionAt_12 : decode cX1_directionAt 12 = .ok (.ireturn, 1) := by decide +kernel
theorem dX1_kindAt_0 : decode cX1_kindAt 0 = .ok (.aload_n 0, 1) := by decide +kernel
theorem dX1_kindAt_1 : decode cX1_kindAt 1 = .ok (.getfield 20, 3) := by decide +kernel
theorem dX1_kindAt_4 : decode cX1_kindAt 4 = .ok (.iload_n 1, 1) := by decide +kernel
theorem dX1_kindAt_5 : decode cX1_kindAt 5 = .ok (.iload_n 2, 1) := by decide +kernel
theorem dX1_kindAt_6 : decode cX1_kindAt 6 = .ok (.invokestatic 55, 3) := by decide +kernel
theorem dX1_kindAt_9 : decode cX1_kindAt 9 = .ok (.invokevirtual 59, 3) := by decide +kernel
theorem dX1_kindAt_12 : decode cX1_kindAt 12 = .ok (.ireturn, 1) := by decide +kernel
theorem dX1_pixelAt_0 : decode cX1_pixelAt 0 = .ok (.aload_n 0, 1) := by decide +kernel
theorem dX1_pixelAt_1 : decode cX1_pixelAt 1 = .ok (.getfield 29, 3) := by decide +kernel
theorem dX1_pixelAt_4 : decode cX1_pixelAt 4 = .ok (.iload_n 1, 1) := by decide +kernel
theorem dX1_pixelAt_5 : decode cX1_pixelAt 5 = .ok (.iload_n 2, 1) := by decide +kernel
theorem dX1_pixelAt_6 : decode cX1_pixelAt 6 = .ok (.invokestatic 55, 3) := by decide +kernel
theorem dX1_pixelAt_9 : decode cX1_pixelAt 9 = .ok (.invokevirtual 59, 3) := by decide +kernel
theorem dX1_pixelAt_12 : decode cX1_pixelAt 12 = .ok (.ireturn, 1) := by decide +kernel
theorem dX1_hasPixelIn_0 : decode cX1_hasPixelIn 0 = .ok (.iload_n 2, 1) := by decide +kernel
theorem dX1_hasPixelIn_1 : decode cX1_hasPixelIn 1 = .ok (.istore 5, 2) := by decide +kernel
theorem dX1_hasPixelIn_3 : decode cX1_hasPixelIn 3 = .ok (.iload 5, 2) := by decide +kernel
theorem dX1_hasPixelIn_5 : decode cX1_hasPixelIn 5 = .ok (.iload_n 2, 1) := by decide +kernel
theorem dX1_hasPixelIn_6 : decode cX1_hasPixelIn 6 = .ok (.iload 4, 2) := by decide +kernel
theorem dX1_hasPixelIn_8 : decode cX1_hasPixelIn 8 = .ok (.iadd, 1) := by decide +kernel
theorem dX1_hasPixelIn_9 : decode cX1_hasPixelIn 9 = .ok (.if_icmp .ge 40, 3) := by decide +kernel
theorem dX1_hasPixelIn_12 : decode cX1_hasPixelIn 12 = .ok (.iload_n 1, 1) := by decide +kernel
theorem dX1_hasPixelIn_13 : decode cX1_hasPixelIn 13 = .ok (.istore 6, 2) := by decide +kernel
theorem dX1_hasPixelIn_15 : decode cX1_hasPixelIn 15 = .ok (.iload 6, 2) := by decide +kernel
theorem dX1_hasPixelIn_17 : decode cX1_hasPixelIn 17 = .ok (.iload_n 1, 1) := by decide +kernel
theorem dX1_hasPixelIn_18 : decode cX1_hasPixelIn 18 = .ok (.iload_n 3, 1) := by decide +kernel
theorem dX1_hasPixelIn_19 : decode cX1_hasPixelIn 19 = .ok (.iadd, 1) := by decide +kernel
theorem dX1_hasPixelIn_20 : decode cX1_hasPixelIn 20 = .ok (.if_icmp .ge 23, 3) := by decide +kernel
theorem dX1_hasPixelIn_23 : decode cX1_hasPixelIn 23 = .ok (.aload_n 0, 1) := by decide +kernel
theorem dX1_hasPixelIn_24 : decode cX1_hasPixelIn 24 = .ok (.iload 6, 2) := by decide +kernel
theorem dX1_hasPixelIn_26 : decode cX1_hasPixelIn 26 = .ok (.iload 5, 2) := by decide +kernel
theorem dX1_hasPixelIn_28 : decode cX1_hasPixelIn 28 = .ok (.invokevirtual 63, 3) := by decide +kernel
theorem dX1_hasPixelIn_31 : decode cX1_hasPixelIn 31 = .ok (.iconst (-1), 1) := by decide +kernel
theorem dX1_hasPixelIn_32 : decode cX1_hasPixelIn 32 = .ok (.if_icmp .eq 5, 3) := by decide +kernel
theorem dX1_hasPixelIn_35 : decode cX1_hasPixelIn 35 = .ok (.iconst 1, 1) := by decide +kernel
theorem dX1_hasPixelIn_36 : decode cX1_hasPixelIn 36 = .ok (.ireturn, 1) := by decide +kernel
theorem dX1_hasPixelIn_37 : decode cX1_hasPixelIn 37 = .ok (.iinc 6 1, 3) := by decide +kernel
theorem dX1_hasPixelIn_40 : decode cX1_hasPixelIn 40 = .ok (.goto (-25), 3) := by decide +kernel
theorem dX1_hasPixelIn_43 : decode cX1_hasPixelIn 43 = .ok (.iinc 5 1, 3) := by decide +kernel
theorem dX1_hasPixelIn_46 : decode cX1_hasPixelIn 46 = .ok (.goto (-43), 3) := by decide +kernel
theorem dX1_hasPixelIn_49 : decode cX1_hasPixelIn 49 = .ok (.iconst 0, 1) := by decide +kernel
theorem dX1_hasPixelIn_50 : decode cX1_hasPixelIn 50 = .ok (.ireturn, 1) := by decide +kernel
theorem dX1_mark_0 : decode cX1_mark 0 = .ok (.iload_n 2, 1) := by decide +kernel
theorem dX1_mark_1 : decode cX1_mark 1 = .ok (.istore 6, 2) := by decide +kernel
theorem dX1_mark_3 : decode cX1_mark 3 = .ok (.iload 6, 2) := by decide +kernel
theorem dX1_mark_5 : decode cX1_mark 5 = .ok (.iload_n 2, 1) := by decide +kernel
theorem dX1_mark_6 : decode cX1_mark 6 = .ok (.iload 4, 2) := by decide +kernel
theorem dX1_mark_8 : decode cX1_mark 8 = .ok (.iadd, 1) := by decide +kernel
theorem dX1_mark_9 : decode cX1_mark 9 = .ok (.if_icmp .ge 42, 3) := by decide +kernel
theorem dX1_mark_12 : decode cX1_mark 12 = .ok (.iload_n 1, 1) := by decide +kernel
theorem dX1_mark_13 : decode cX1_mark 13 = .ok (.istore 7, 2) := by decide +kernel
theorem dX1_mark_15 : decode cX1_mark 15 = .ok (.iload 7, 2) := by decide +kernel
theorem dX1_mark_17 : decode cX1_mark 17 = .ok (.iload_n 1, 1) := by decide +kernel
theorem dX1_mark_18 : decode cX1_mark 18 = .ok (.iload_n 3, 1) := by decide +kernel
theorem dX1_mark_19 : decode cX1_mark 19 = .ok (.iadd, 1) := by decide +kernel
theorem dX1_mark_20 : decode cX1_mark 20 = .ok (.if_icmp .ge 25, 3) := by decide +kernel
theorem dX1_mark_23 : decode cX1_mark 23 = .ok (.aload_n 0, 1) := by decide +kernel
theorem dX1_mark_24 : decode cX1_mark 24 = .ok (.getfield 29, 3) := by decide +kernel
theorem dX1_mark_27 : decode cX1_mark 27 = .ok (.iload 7, 2) := by decide +kernel
theorem dX1_mark_29 : decode cX1_mark 29 = .ok (.iload 6, 2) := by decide +kernel
theorem dX1_mark_31 : decode cX1_mark 31 = .ok (.invokestatic 55, 3) := by decide +kernel
theorem dX1_mark_34 : decode cX1_mark 34 = .ok (.iload 5, 2) := by decide +kernel
theorem dX1_mark_36 : decode cX1_mark 36 = .ok (.invokevirtual 66, 3) := by decide +kernel
theorem dX1_mark_39 : decode cX1_mark 39 = .ok (.iinc 7 1, 3) := by decide +kernel
theorem dX1_mark_42 : decode cX1_mark 42 = .ok (.goto (-27), 3) := by decide +kernel
theorem dX1_mark_45 : decode cX1_mark 45 = .ok (.iinc 6 1, 3) := by decide +kernel
theorem dX1_mark_48 : decode cX1_mark 48 = .ok (.goto (-45), 3) := by decide +kernel
theorem dX1_mark_51 : decode cX1_mark 51 = .ok (.return_, 1) := by decide +kernel
theorem dX1_heldWith_0 : decode cX1_heldWith 0 = .ok (.iconst 0, 1) := by decide +kernel
theorem dX1_heldWith_1 : decode cX1_heldWith 1 = .ok (.istore_n 3, 1) := by decide +kernel
theorem dX1_heldWith_2 : decode cX1_heldWith 2 = .ok (.aload_n 0, 1) := by decide +kernel
theorem dX1_heldWith_3 : decode cX1_heldWith 3 = .ok (.getfield 20, 3) := by decide +kernel
theorem dX1_heldWith_6 : decode cX1_heldWith 6 = .ok (.iload_n 1, 1) := by decide +kernel
theorem dX1_heldWith_7 : decode cX1_heldWith 7 = .ok (.invokevirtual 59, 3) := by decide +kernel
theorem dX1_heldWith_10 : decode cX1_heldWith 10 = .ok (.iconst 2, 1) := by decide +kernel
theorem dX1_heldWith_11 : decode cX1_heldWith 11 = .ok (.if_icmp .ne 27, 3) := by decide +kernel
theorem dX1_heldWith_14 : decode cX1_heldWith 14 = .ok (.iload_n 3, 1) := by decide +kernel
theorem dX1_heldWith_15 : decode cX1_heldWith 15 = .ok (.aload_n 0, 1) := by decide +kernel
theorem dX1_heldWith_16 : decode cX1_heldWith 16 = .ok (.getfield 26, 3) := by decide +kernel
theorem dX1_heldWith_19 : decode cX1_heldWith 19 = .ok (.iload_n 1, 1) := by decide +kernel
theorem dX1_heldWith_20 : decode cX1_heldWith 20 = .ok (.invokevirtual 59, 3) := by decide +kernel
theorem dX1_heldWith_23 : decode cX1_heldWith 23 = .ok (.aload_n 0, 1) := by decide +kernel
theorem dX1_heldWith_24 : decode cX1_heldWith 24 = .ok (.getfield 23, 3) := by decide +kernel
theorem dX1_heldWith_27 : decode cX1_heldWith 27 = .ok (.iload_n 1, 1) := by decide +kernel
theorem dX1_heldWith_28 : decode cX1_heldWith 28 = .ok (.invokevirtual 59, 3) := by decide +kernel
theorem dX1_heldWith_31 : decode cX1_heldWith 31 = .ok (.iload_n 2, 1) := by decide +kernel
theorem dX1_heldWith_32 : decode cX1_heldWith 32 = .ok (.invokestatic 70, 3) := by decide +kernel
theorem dX1_heldWith_35 : decode cX1_heldWith 35 = .ok (.imul, 1) := by decide +kernel
theorem dX1_heldWith_36 : decode cX1_heldWith 36 = .ok (.iadd, 1) := by decide +kernel
theorem dX1_heldWith_37 : decode cX1_heldWith 37 = .ok (.istore_n 3, 1) := by decide +kernel
theorem dX1_heldWith_38 : decode cX1_heldWith 38 = .ok (.aload_n 0, 1) := by decide +kernel
theorem dX1_heldWith_39 : decode cX1_heldWith 39 = .ok (.getfield 29, 3) := by decide +kernel
theorem dX1_heldWith_42 : decode cX1_heldWith 42 = .ok (.iload_n 1, 1) := by decide +kernel
theorem dX1_heldWith_43 : decode cX1_heldWith 43 = .ok (.invokevirtual 59, 3) := by decide +kernel
theorem dX1_heldWith_46 : decode cX1_heldWith 46 = .ok (.istore 4, 2) := by decide +kernel
theorem dX1_heldWith_48 : decode cX1_heldWith 48 = .ok (.iload 4, 2) := by decide +kernel
theorem dX1_heldWith_50 : decode cX1_heldWith 50 = .ok (.iconst (-1), 1) := by decide +kernel
theorem dX1_heldWith_51 : decode cX1_heldWith 51 = .ok (.if_icmp .eq 29, 3) := by decide +kernel
theorem dX1_heldWith_54 : decode cX1_heldWith 54 = .ok (.iload_n 3, 1) := by decide +kernel
theorem dX1_heldWith_55 : decode cX1_heldWith 55 = .ok (.aload_n 0, 1) := by decide +kernel
theorem dX1_heldWith_56 : decode cX1_heldWith 56 = .ok (.getfield 45, 3) := by decide +kernel
theorem dX1_heldWith_59 : decode cX1_heldWith 59 = .ok (.iload 4, 2) := by decide +kernel
theorem dX1_heldWith_61 : decode cX1_heldWith 61 = .ok (.invokevirtual 73, 3) := by decide +kernel
theorem dX1_heldWith_64 : decode cX1_heldWith 64 = .ok (.aload_n 0, 1) := by decide +kernel
theorem dX1_heldWith_65 : decode cX1_heldWith 65 = .ok (.getfield 45, 3) := by decide +kernel
theorem dX1_heldWith_68 : decode cX1_heldWith 68 = .ok (.iload 4, 2) := by decide +kernel
theorem dX1_heldWith_70 : decode cX1_heldWith 70 = .ok (.invokevirtual 78, 3) := by decide +kernel
theorem dX1_heldWith_73 : decode cX1_heldWith 73 = .ok (.iload_n 2, 1) := by decide +kernel
theorem dX1_heldWith_74 : decode cX1_heldWith 74 = .ok (.invokestatic 70, 3) := by decide +kernel
theorem dX1_heldWith_77 : decode cX1_heldWith 77 = .ok (.imul, 1) := by decide +kernel
theorem dX1_heldWith_78 : decode cX1_heldWith 78 = .ok (.iadd, 1) := by decide +kernel
theorem dX1_heldWith_79 : decode cX1_heldWith 79 = .ok (.istore_n 3, 1) := by decide +kernel
theorem dX1_heldWith_80 : decode cX1_heldWith 80 = .ok (.iload_n 3, 1) := by decide +kernel
theorem dX1_heldWith_81 : decode cX1_heldWith 81 = .ok (.ireturn, 1) := by decide +kernel
theorem dX1_energyWith_0 : decode cX1_energyWith 0 = .ok (.aload_n 0, 1) := by decide +kernel
theorem dX1_energyWith_1 : decode cX1_energyWith 1 = .ok (.iload_n 1, 1) := by decide +kernel
theorem dX1_energyWith_2 : decode cX1_energyWith 2 = .ok (.iload_n 2, 1) := by decide +kernel
theorem dX1_energyWith_3 : decode cX1_energyWith 3 = .ok (.invokestatic 55, 3) := by decide +kernel
theorem dX1_energyWith_6 : decode cX1_energyWith 6 = .ok (.iload_n 3, 1) := by decide +kernel
theorem dX1_energyWith_7 : decode cX1_energyWith 7 = .ok (.invokevirtual 81, 3) := by decide +kernel
theorem dX1_energyWith_10 : decode cX1_energyWith 10 = .ok (.istore 4, 2) := by decide +kernel
theorem dX1_energyWith_12 : decode cX1_energyWith 12 = .ok (.aload_n 0, 1) := by decide +kernel
theorem dX1_energyWith_13 : decode cX1_energyWith 13 = .ok (.iload_n 1, 1) := by decide +kernel
theorem dX1_energyWith_14 : decode cX1_energyWith 14 = .ok (.iconst 1, 1) := by decide +kernel
theorem dX1_energyWith_15 : decode cX1_energyWith 15 = .ok (.isub, 1) := by decide +kernel
theorem dX1_energyWith_16 : decode cX1_energyWith 16 = .ok (.iload_n 2, 1) := by decide +kernel
theorem dX1_energyWith_17 : decode cX1_energyWith 17 = .ok (.invokevirtual 84, 3) := by decide +kernel
theorem dX1_energyWith_20 : decode cX1_energyWith 20 = .ok (.ifCond .eq 25, 3) := by decide +kernel
theorem dX1_energyWith_23 : decode cX1_energyWith 23 = .ok (.iload 4, 2) := by decide +kernel
theorem dX1_energyWith_25 : decode cX1_energyWith 25 = .ok (.aload_n 0, 1) := by decide +kernel
theorem dX1_energyWith_26 : decode cX1_energyWith 26 = .ok (.getfield 39, 3) := by decide +kernel
theorem dX1_energyWith_29 : decode cX1_energyWith 29 = .ok (.aload_n 0, 1) := by decide +kernel
theorem dX1_energyWith_30 : decode cX1_energyWith 30 = .ok (.iload_n 1, 1) := by decide +kernel
theorem dX1_energyWith_31 : decode cX1_energyWith 31 = .ok (.iconst 1, 1) := by decide +kernel
theorem dX1_energyWith_32 : decode cX1_energyWith 32 = .ok (.isub, 1) := by decide +kernel
theorem dX1_energyWith_33 : decode cX1_energyWith 33 = .ok (.iload_n 2, 1) := by decide +kernel
theorem dX1_energyWith_34 : decode cX1_energyWith 34 = .ok (.invokevirtual 88, 3) := by decide +kernel
theorem dX1_energyWith_37 : decode cX1_energyWith 37 = .ok (.iload_n 3, 1) := by decide +kernel
theorem dX1_energyWith_38 : decode cX1_energyWith 38 = .ok (.invokestatic 70, 3) := by decide +kernel
theorem dX1_energyWith_41 : decode cX1_energyWith 41 = .ok (.imul, 1) := by decide +kernel
theorem dX1_energyWith_42 : decode cX1_energyWith 42 = .ok (.iadd, 1) := by decide +kernel
theorem dX1_energyWith_43 : decode cX1_energyWith 43 = .ok (.istore 4, 2) := by decide +kernel
theorem dX1_energyWith_45 : decode cX1_energyWith 45 = .ok (.aload_n 0, 1) := by decide +kernel
theorem dX1_energyWith_46 : decode cX1_energyWith 46 = .ok (.iload_n 1, 1) := by decide +kernel
theorem dX1_energyWith_47 : decode cX1_energyWith 47 = .ok (.iconst 1, 1) := by decide +kernel
theorem dX1_energyWith_48 : decode cX1_energyWith 48 = .ok (.iadd, 1) := by decide +kernel
theorem dX1_energyWith_49 : decode cX1_energyWith 49 = .ok (.iload_n 2, 1) := by decide +kernel
theorem dX1_energyWith_50 : decode cX1_energyWith 50 = .ok (.invokevirtual 84, 3) := by decide +kernel
theorem dX1_energyWith_53 : decode cX1_energyWith 53 = .ok (.ifCond .eq 25, 3) := by decide +kernel
theorem dX1_energyWith_56 : decode cX1_energyWith 56 = .ok (.iload 4, 2) := by decide +kernel
theorem dX1_energyWith_58 : decode cX1_energyWith 58 = .ok (.aload_n 0, 1) := by decide +kernel
theorem dX1_energyWith_59 : decode cX1_energyWith 59 = .ok (.getfield 39, 3) := by decide +kernel
theorem dX1_energyWith_62 : decode cX1_energyWith 62 = .ok (.aload_n 0, 1) := by decide +kernel
theorem dX1_energyWith_63 : decode cX1_energyWith 63 = .ok (.iload_n 1, 1) := by decide +kernel
theorem dX1_energyWith_64 : decode cX1_energyWith 64 = .ok (.iconst 1, 1) := by decide +kernel
theorem dX1_energyWith_65 : decode cX1_energyWith 65 = .ok (.iadd, 1) := by decide +kernel
theorem dX1_energyWith_66 : decode cX1_energyWith 66 = .ok (.iload_n 2, 1) := by decide +kernel
theorem dX1_energyWith_67 : decode cX1_energyWith 67 = .ok (.invokevirtual 88, 3) := by decide +kernel
theorem dX1_energyWith_70 : decode cX1_energyWith 70 = .ok (.iload_n 3, 1) := by decide +kernel
theorem dX1_energyWith_71 : decode cX1_energyWith 71 = .ok (.invokestatic 70, 3) := by decide +kernel
theorem dX1_energyWith_74 : decode cX1_energyWith 74 = .ok (.imul, 1) := by decide +kernel
theorem dX1_energyWith_75 : decode cX1_energyWith 75 = .ok (.iadd, 1) := by decide +kernel
theorem dX1_energyWith_76 : decode cX1_energyWith 76 = .ok (.istore 4, 2) := by decide +kernel
theorem dX1_energyWith_78 : decode cX1_energyWith 78 = .ok (.aload_n 0, 1) := by decide +kernel
theorem dX1_energyWith_79 : decode cX1_energyWith 79 = .ok (.iload_n 1, 1) := by decide +kernel
theorem dX1_energyWith_80 : decode cX1_energyWith 80 = .ok (.iload_n 2, 1) := by decide +kernel
theorem dX1_energyWith_81 : decode cX1_energyWith 81 = .ok (.iconst 1, 1) := by decide +kernel
theorem dX1_energyWith_82 : decode cX1_energyWith 82 = .ok (.isub, 1) := by decide +kernel
theorem dX1_energyWith_83 : decode cX1_energyWith 83 = .ok (.invokevirtual 84, 3) := by decide +kernel
theorem dX1_energyWith_86 : decode cX1_energyWith 86 = .ok (.ifCond .eq 25, 3) := by decide +kernel
theorem dX1_energyWith_89 : decode cX1_energyWith 89 = .ok (.iload 4, 2) := by decide +kernel
theorem dX1_energyWith_91 : decode cX1_energyWith 91 = .ok (.aload_n 0, 1) := by decide +kernel
theorem dX1_energyWith_92 : decode cX1_energyWith 92 = .ok (.getfield 42, 3) := by decide +kernel
theorem dX1_energyWith_95 : decode cX1_energyWith 95 = .ok (.aload_n 0, 1) := by decide +kernel
theorem dX1_energyWith_96 : decode cX1_energyWith 96 = .ok (.iload_n 1, 1) := by decide +kernel
theorem dX1_energyWith_97 : decode cX1_energyWith 97 = .ok (.iload_n 2, 1) := by decide +kernel
theorem dX1_energyWith_98 : decode cX1_energyWith 98 = .ok (.iconst 1, 1) := by decide +kernel
theorem dX1_energyWith_99 : decode cX1_energyWith 99 = .ok (.isub, 1) := by decide +kernel
theorem dX1_energyWith_100 : decode cX1_energyWith 100 = .ok (.invokevirtual 88, 3) := by decide +kernel
theorem dX1_energyWith_103 : decode cX1_energyWith 103 = .ok (.iload_n 3, 1) := by decide +kernel
theorem dX1_energyWith_104 : decode cX1_energyWith 104 = .ok (.invokestatic 70, 3) := by decide +kernel
theorem dX1_energyWith_107 : decode cX1_energyWith 107 = .ok (.imul, 1) := by decide +kernel
theorem dX1_energyWith_108 : decode cX1_energyWith 108 = .ok (.iadd, 1) := by decide +kernel
theorem dX1_energyWith_109 : decode cX1_energyWith 109 = .ok (.istore 4, 2) := by decide +kernel
theorem dX1_energyWith_111 : decode cX1_energyWith 111 = .ok (.aload_n 0, 1) := by decide +kernel
theorem dX1_energyWith_112 : decode cX1_energyWith 112 = .ok (.iload_n 1, 1) := by decide +kernel
theorem dX1_energyWith_113 : decode cX1_energyWith 113 = .ok (.iload_n 2, 1) := by decide +kernel
theorem dX1_energyWith_114 : decode cX1_energyWith 114 = .ok (.iconst 1, 1) := by decide +kernel
theorem dX1_energyWith_115 : decode cX1_energyWith 115 = .ok (.iadd, 1) := by decide +kernel
theorem dX1_energyWith_116 : decode cX1_energyWith 116 = .ok (.invokevirtual 84, 3) := by decide +kernel
theorem dX1_energyWith_119 : decode cX1_energyWith 119 = .ok (.ifCond .eq 25, 3) := by decide +kernel
theorem dX1_energyWith_122 : decode cX1_energyWith 122 = .ok (.iload 4, 2) := by decide +kernel
theorem dX1_energyWith_124 : decode cX1_energyWith 124 = .ok (.aload_n 0, 1) := by decide +kernel
theorem dX1_energyWith_125 : decode cX1_energyWith 125 = .ok (.getfield 42, 3) := by decide +kernel
theorem dX1_energyWith_128 : decode cX1_energyWith 128 = .ok (.aload_n 0, 1) := by decide +kernel
theorem dX1_energyWith_129 : decode cX1_energyWith 129 = .ok (.iload_n 1, 1) := by decide +kernel
theorem dX1_energyWith_130 : decode cX1_energyWith 130 = .ok (.iload_n 2, 1) := by decide +kernel
theorem dX1_energyWith_131 : decode cX1_energyWith 131 = .ok (.iconst 1, 1) := by decide +kernel
theorem dX1_energyWith_132 : decode cX1_energyWith 132 = .ok (.iadd, 1) := by decide +kernel
theorem dX1_energyWith_133 : decode cX1_energyWith 133 = .ok (.invokevirtual 88, 3) := by decide +kernel
theorem dX1_energyWith_136 : decode cX1_energyWith 136 = .ok (.iload_n 3, 1) := by decide +kernel
theorem dX1_energyWith_137 : decode cX1_energyWith 137 = .ok (.invokestatic 70, 3) := by decide +kernel
theorem dX1_energyWith_140 : decode cX1_energyWith 140 = .ok (.imul, 1) := by decide +kernel
theorem dX1_energyWith_141 : decode cX1_energyWith 141 = .ok (.iadd, 1) := by decide +kernel
theorem dX1_energyWith_142 : decode cX1_energyWith 142 = .ok (.istore 4, 2) := by decide +kernel
theorem dX1_energyWith_144 : decode cX1_energyWith 144 = .ok (.iload 4, 2) := by decide +kernel
theorem dX1_energyWith_146 : decode cX1_energyWith 146 = .ok (.ireturn, 1) := by decide +kernel
theorem dX1_energyAt_0 : decode cX1_energyAt 0 = .ok (.aload_n 0, 1) := by decide +kernel
theorem dX1_energyAt_1 : decode cX1_energyAt 1 = .ok (.iload_n 1, 1) := by decide +kernel
theorem dX1_energyAt_2 : decode cX1_energyAt 2 = .ok (.iload_n 2, 1) := by decide +kernel
theorem dX1_energyAt_3 : decode cX1_energyAt 3 = .ok (.aload_n 0, 1) := by decide +kernel
theorem dX1_energyAt_4 : decode cX1_energyAt 4 = .ok (.iload_n 1, 1) := by decide +kernel
theorem dX1_energyAt_5 : decode cX1_energyAt 5 = .ok (.iload_n 2, 1) := by decide +kernel
theorem dX1_energyAt_6 : decode cX1_energyAt 6 = .ok (.invokevirtual 88, 3) := by decide +kernel
theorem dX1_energyAt_9 : decode cX1_energyAt 9 = .ok (.invokevirtual 91, 3) := by decide +kernel
theorem dX1_energyAt_12 : decode cX1_energyAt 12 = .ok (.ireturn, 1) := by decide +kernel
theorem dX1_sum_0 : decode cX1_sum 0 = .ok (.iconst 0, 1) := by decide +kernel
theorem dX1_sum_1 : decode cX1_sum 1 = .ok (.istore_n 1, 1) := by decide +kernel
theorem dX1_sum_2 : decode cX1_sum 2 = .ok (.iconst 0, 1) := by decide +kernel
theorem dX1_sum_3 : decode cX1_sum 3 = .ok (.istore_n 2, 1) := by decide +kernel
theorem dX1_sum_4 : decode cX1_sum 4 = .ok (.iload_n 2, 1) := by decide +kernel
theorem dX1_sum_5 : decode cX1_sum 5 = .ok (.aload_n 0, 1) := by decide +kernel
theorem dX1_sum_6 : decode cX1_sum 6 = .ok (.getfield 36, 3) := by decide +kernel
theorem dX1_sum_9 : decode cX1_sum 9 = .ok (.if_icmp .ge 111, 3) := by decide +kernel
theorem dX1_sum_12 : decode cX1_sum 12 = .ok (.iconst 0, 1) := by decide +kernel
theorem dX1_sum_13 : decode cX1_sum 13 = .ok (.istore_n 3, 1) := by decide +kernel
theorem dX1_sum_14 : decode cX1_sum 14 = .ok (.iload_n 3, 1) := by decide +kernel
theorem dX1_sum_15 : decode cX1_sum 15 = .ok (.aload_n 0, 1) := by decide +kernel
theorem dX1_sum_16 : decode cX1_sum 16 = .ok (.getfield 32, 3) := by decide +kernel
theorem dX1_sum_19 : decode cX1_sum 19 = .ok (.if_icmp .ge 95, 3) := by decide +kernel
theorem dX1_sum_22 : decode cX1_sum 22 = .ok (.aload_n 0, 1) := by decide +kernel
theorem dX1_sum_23 : decode cX1_sum 23 = .ok (.iload_n 3, 1) := by decide +kernel
theorem dX1_sum_24 : decode cX1_sum 24 = .ok (.iload_n 2, 1) := by decide +kernel
theorem dX1_sum_25 : decode cX1_sum 25 = .ok (.invokevirtual 88, 3) := by decide +kernel
theorem dX1_sum_28 : decode cX1_sum 28 = .ok (.istore 4, 2) := by decide +kernel
theorem dX1_sum_30 : decode cX1_sum 30 = .ok (.iload_n 1, 1) := by decide +kernel
theorem dX1_sum_31 : decode cX1_sum 31 = .ok (.aload_n 0, 1) := by decide +kernel
theorem dX1_sum_32 : decode cX1_sum 32 = .ok (.iload_n 3, 1) := by decide +kernel
theorem dX1_sum_33 : decode cX1_sum 33 = .ok (.iload_n 2, 1) := by decide +kernel
theorem dX1_sum_34 : decode cX1_sum 34 = .ok (.invokestatic 55, 3) := by decide +kernel
theorem dX1_sum_37 : decode cX1_sum 37 = .ok (.iload 4, 2) := by decide +kernel
theorem dX1_sum_39 : decode cX1_sum 39 = .ok (.invokevirtual 81, 3) := by decide +kernel
theorem dX1_sum_42 : decode cX1_sum 42 = .ok (.iadd, 1) := by decide +kernel
theorem dX1_sum_43 : decode cX1_sum 43 = .ok (.istore_n 1, 1) := by decide +kernel
theorem dX1_sum_44 : decode cX1_sum 44 = .ok (.aload_n 0, 1) := by decide +kernel
theorem dX1_sum_45 : decode cX1_sum 45 = .ok (.iload_n 3, 1) := by decide +kernel
theorem dX1_sum_46 : decode cX1_sum 46 = .ok (.iconst 1, 1) := by decide +kernel
theorem dX1_sum_47 : decode cX1_sum 47 = .ok (.iadd, 1) := by decide +kernel
theorem dX1_sum_48 : decode cX1_sum 48 = .ok (.iload_n 2, 1) := by decide +kernel
theorem dX1_sum_49 : decode cX1_sum 49 = .ok (.invokevirtual 84, 3) := by decide +kernel
theorem dX1_sum_52 : decode cX1_sum 52 = .ok (.ifCond .eq 24, 3) := by decide +kernel
theorem dX1_sum_55 : decode cX1_sum 55 = .ok (.iload_n 1, 1) := by decide +kernel
theorem dX1_sum_56 : decode cX1_sum 56 = .ok (.aload_n 0, 1) := by decide +kernel
theorem dX1_sum_57 : decode cX1_sum 57 = .ok (.getfield 39, 3) := by decide +kernel
theorem dX1_sum_60 : decode cX1_sum 60 = .ok (.iload 4, 2) := by decide +kernel
theorem dX1_sum_62 : decode cX1_sum 62 = .ok (.aload_n 0, 1) := by decide +kernel
theorem dX1_sum_63 : decode cX1_sum 63 = .ok (.iload_n 3, 1) := by decide +kernel
theorem dX1_sum_64 : decode cX1_sum 64 = .ok (.iconst 1, 1) := by decide +kernel
theorem dX1_sum_65 : decode cX1_sum 65 = .ok (.iadd, 1) := by decide +kernel
theorem dX1_sum_66 : decode cX1_sum 66 = .ok (.iload_n 2, 1) := by decide +kernel
theorem dX1_sum_67 : decode cX1_sum 67 = .ok (.invokevirtual 88, 3) := by decide +kernel
theorem dX1_sum_70 : decode cX1_sum 70 = .ok (.invokestatic 70, 3) := by decide +kernel
theorem dX1_sum_73 : decode cX1_sum 73 = .ok (.imul, 1) := by decide +kernel
theorem dX1_sum_74 : decode cX1_sum 74 = .ok (.iadd, 1) := by decide +kernel
theorem dX1_sum_75 : decode cX1_sum 75 = .ok (.istore_n 1, 1) := by decide +kernel
theorem dX1_sum_76 : decode cX1_sum 76 = .ok (.aload_n 0, 1) := by decide +kernel
theorem dX1_sum_77 : decode cX1_sum 77 = .ok (.iload_n 3, 1) := by decide +kernel
theorem dX1_sum_78 : decode cX1_sum 78 = .ok (.iload_n 2, 1) := by decide +kernel
theorem dX1_sum_79 : decode cX1_sum 79 = .ok (.iconst 1, 1) := by decide +kernel
theorem dX1_sum_80 : decode cX1_sum 80 = .ok (.iadd, 1) := by decide +kernel
theorem dX1_sum_81 : decode cX1_sum 81 = .ok (.invokevirtual 84, 3) := by decide +kernel
theorem dX1_sum_84 : decode cX1_sum 84 = .ok (.ifCond .eq 24, 3) := by decide +kernel
theorem dX1_sum_87 : decode cX1_sum 87 = .ok (.iload_n 1, 1) := by decide +kernel
theorem dX1_sum_88 : decode cX1_sum 88 = .ok (.aload_n 0, 1) := by decide +kernel
theorem dX1_sum_89 : decode cX1_sum 89 = .ok (.getfield 42, 3) := by decide +kernel
theorem dX1_sum_92 : decode cX1_sum 92 = .ok (.iload 4, 2) := by decide +kernel
theorem dX1_sum_94 : decode cX1_sum 94 = .ok (.aload_n 0, 1) := by decide +kernel
theorem dX1_sum_95 : decode cX1_sum 95 = .ok (.iload_n 3, 1) := by decide +kernel
theorem dX1_sum_96 : decode cX1_sum 96 = .ok (.iload_n 2, 1) := by decide +kernel
theorem dX1_sum_97 : decode cX1_sum 97 = .ok (.iconst 1, 1) := by decide +kernel
theorem dX1_sum_98 : decode cX1_sum 98 = .ok (.iadd, 1) := by decide +kernel
theorem dX1_sum_99 : decode cX1_sum 99 = .ok (.invokevirtual 88, 3) := by decide +kernel
theorem dX1_sum_102 : decode cX1_sum 102 = .ok (.invokestatic 70, 3) := by decide +kernel
theorem dX1_sum_105 : decode cX1_sum 105 = .ok (.imul, 1) := by decide +kernel
theorem dX1_sum_106 : decode cX1_sum 106 = .ok (.iadd, 1) := by decide +kernel
theorem dX1_sum_107 : decode cX1_sum 107 = .ok (.istore_n 1, 1) := by decide +kernel
theorem dX1_sum_108 : decode cX1_sum 108 = .ok (.iinc 3 1, 3) := by decide +kernel
theorem dX1_sum_111 : decode cX1_sum 111 = .ok (.goto (-97), 3) := by decide +kernel
theorem dX1_sum_114 : decode cX1_sum 114 = .ok (.iinc 2 1, 3) := by decide +kernel
theorem dX1_sum_117 : decode cX1_sum 117 = .ok (.goto (-113), 3) := by decide +kernel
theorem dX1_sum_120 : decode cX1_sum 120 = .ok (.iload_n 1, 1) := by decide +kernel
theorem dX1_sum_121 : decode cX1_sum 121 = .ok (.ireturn, 1) := by decide +kernel
theorem dX1_grown_0 : decode cX1_grown 0 = .ok (.aload_n 0, 1) := by decide +kernel
theorem dX1_grown_1 : decode cX1_grown 1 = .ok (.dup, 1) := by decide +kernel
theorem dX1_grown_2 : decode cX1_grown 2 = .ok (.getfield 52, 3) := by decide +kernel
theorem dX1_grown_5 : decode cX1_grown 5 = .ok (.iload_n 1, 1) := by decide +kernel
theorem dX1_grown_6 : decode cX1_grown 6 = .ok (.iadd, 1) := by decide +kernel
theorem dX1_grown_7 : decode cX1_grown 7 = .ok (.putfield 52, 3) := by decide +kernel
theorem dX1_grown_10 : decode cX1_grown 10 = .ok (.iload_n 1, 1) := by decide +kernel
theorem dX1_grown_11 : decode cX1_grown 11 = .ok (.ireturn, 1) := by decide +kernel
theorem dX1_turnTo_0 : decode cX1_turnTo 0 = .ok (.aload_n 0, 1) := by decide +kernel
theorem dX1_turnTo_1 : decode cX1_turnTo 1 = .ok (.iload_n 1, 1) := by decide +kernel
theorem dX1_turnTo_2 : decode cX1_turnTo 2 = .ok (.iload_n 2, 1) := by decide +kernel
theorem dX1_turnTo_3 : decode cX1_turnTo 3 = .ok (.invokevirtual 102, 3) := by decide +kernel
theorem dX1_turnTo_6 : decode cX1_turnTo 6 = .ok (.istore 4, 2) := by decide +kernel
theorem dX1_turnTo_8 : decode cX1_turnTo 8 = .ok (.aload_n 0, 1) := by decide +kernel
theorem dX1_turnTo_9 : decode cX1_turnTo 9 = .ok (.getfield 14, 3) := by decide +kernel
theorem dX1_turnTo_12 : decode cX1_turnTo 12 = .ok (.iload_n 1, 1) := by decide +kernel
theorem dX1_turnTo_13 : decode cX1_turnTo 13 = .ok (.iload_n 2, 1) := by decide +kernel
theorem dX1_turnTo_14 : decode cX1_turnTo 14 = .ok (.invokestatic 55, 3) := by decide +kernel
theorem dX1_turnTo_17 : decode cX1_turnTo 17 = .ok (.iload_n 3, 1) := by decide +kernel
theorem dX1_turnTo_18 : decode cX1_turnTo 18 = .ok (.invokevirtual 66, 3) := by decide +kernel
theorem dX1_turnTo_21 : decode cX1_turnTo 21 = .ok (.aload_n 0, 1) := by decide +kernel
theorem dX1_turnTo_22 : decode cX1_turnTo 22 = .ok (.aload_n 0, 1) := by decide +kernel
theorem dX1_turnTo_23 : decode cX1_turnTo 23 = .ok (.iload_n 1, 1) := by decide +kernel
theorem dX1_turnTo_24 : decode cX1_turnTo 24 = .ok (.iload_n 2, 1) := by decide +kernel
theorem dX1_turnTo_25 : decode cX1_turnTo 25 = .ok (.invokevirtual 102, 3) := by decide +kernel
theorem dX1_turnTo_28 : decode cX1_turnTo 28 = .ok (.iload 4, 2) := by decide +kernel
theorem dX1_turnTo_30 : decode cX1_turnTo 30 = .ok (.isub, 1) := by decide +kernel
theorem dX1_turnTo_31 : decode cX1_turnTo 31 = .ok (.invokevirtual 99, 3) := by decide +kernel
theorem dX1_turnTo_34 : decode cX1_turnTo 34 = .ok (.ireturn, 1) := by decide +kernel
theorem dX1_hold_0 : decode cX1_hold 0 = .ok (.aload_n 0, 1) := by decide +kernel
theorem dX1_hold_1 : decode cX1_hold 1 = .ok (.iload_n 1, 1) := by decide +kernel
theorem dX1_hold_2 : decode cX1_hold 2 = .ok (.iload_n 2, 1) := by decide +kernel
theorem dX1_hold_3 : decode cX1_hold 3 = .ok (.invokevirtual 102, 3) := by decide +kernel
theorem dX1_hold_6 : decode cX1_hold 6 = .ok (.istore 6, 2) := by decide +kernel
theorem dX1_hold_8 : decode cX1_hold 8 = .ok (.iload_n 1, 1) := by decide +kernel
theorem dX1_hold_9 : decode cX1_hold 9 = .ok (.iload_n 2, 1) := by decide +kernel
theorem dX1_hold_10 : decode cX1_hold 10 = .ok (.invokestatic 55, 3) := by decide +kernel
theorem dX1_hold_13 : decode cX1_hold 13 = .ok (.istore 7, 2) := by decide +kernel
theorem dX1_hold_15 : decode cX1_hold 15 = .ok (.aload_n 0, 1) := by decide +kernel
theorem dX1_hold_16 : decode cX1_hold 16 = .ok (.getfield 20, 3) := by decide +kernel
theorem dX1_hold_19 : decode cX1_hold 19 = .ok (.iload 7, 2) := by decide +kernel
theorem dX1_hold_21 : decode cX1_hold 21 = .ok (.iload_n 3, 1) := by decide +kernel
theorem dX1_hold_22 : decode cX1_hold 22 = .ok (.invokevirtual 66, 3) := by decide +kernel
theorem dX1_hold_25 : decode cX1_hold 25 = .ok (.iload_n 3, 1) := by decide +kernel
theorem dX1_hold_26 : decode cX1_hold 26 = .ok (.iconst 2, 1) := by decide +kernel
theorem dX1_hold_27 : decode cX1_hold 27 = .ok (.if_icmp .ne 25, 3) := by decide +kernel
theorem dX1_hold_30 : decode cX1_hold 30 = .ok (.aload_n 0, 1) := by decide +kernel
theorem dX1_hold_31 : decode cX1_hold 31 = .ok (.getfield 23, 3) := by decide +kernel
theorem dX1_hold_34 : decode cX1_hold 34 = .ok (.iload 7, 2) := by decide +kernel
theorem dX1_hold_36 : decode cX1_hold 36 = .ok (.iload 4, 2) := by decide +kernel
theorem dX1_hold_38 : decode cX1_hold 38 = .ok (.invokevirtual 66, 3) := by decide +kernel
theorem dX1_hold_41 : decode cX1_hold 41 = .ok (.aload_n 0, 1) := by decide +kernel
theorem dX1_hold_42 : decode cX1_hold 42 = .ok (.getfield 26, 3) := by decide +kernel
theorem dX1_hold_45 : decode cX1_hold 45 = .ok (.iload 7, 2) := by decide +kernel
theorem dX1_hold_47 : decode cX1_hold 47 = .ok (.iload 5, 2) := by decide +kernel
theorem dX1_hold_49 : decode cX1_hold 49 = .ok (.invokevirtual 66, 3) := by decide +kernel
theorem dX1_hold_52 : decode cX1_hold 52 = .ok (.iload_n 3, 1) := by decide +kernel
theorem dX1_hold_53 : decode cX1_hold 53 = .ok (.iconst 1, 1) := by decide +kernel
theorem dX1_hold_54 : decode cX1_hold 54 = .ok (.if_icmp .ne 14, 3) := by decide +kernel
theorem dX1_hold_57 : decode cX1_hold 57 = .ok (.aload_n 0, 1) := by decide +kernel
theorem dX1_hold_58 : decode cX1_hold 58 = .ok (.getfield 14, 3) := by decide +kernel
theorem dX1_hold_61 : decode cX1_hold 61 = .ok (.iload 7, 2) := by decide +kernel
theorem dX1_hold_63 : decode cX1_hold 63 = .ok (.iload 4, 2) := by decide +kernel
theorem dX1_hold_65 : decode cX1_hold 65 = .ok (.invokevirtual 66, 3) := by decide +kernel
theorem dX1_hold_68 : decode cX1_hold 68 = .ok (.aload_n 0, 1) := by decide +kernel
theorem dX1_hold_69 : decode cX1_hold 69 = .ok (.aload_n 0, 1) := by decide +kernel
theorem dX1_hold_70 : decode cX1_hold 70 = .ok (.iload_n 1, 1) := by decide +kernel
theorem dX1_hold_71 : decode cX1_hold 71 = .ok (.iload_n 2, 1) := by decide +kernel
theorem dX1_hold_72 : decode cX1_hold 72 = .ok (.invokevirtual 102, 3) := by decide +kernel
theorem dX1_hold_75 : decode cX1_hold 75 = .ok (.iload 6, 2) := by decide +kernel
theorem dX1_hold_77 : decode cX1_hold 77 = .ok (.isub, 1) := by decide +kernel
theorem dX1_hold_78 : decode cX1_hold 78 = .ok (.invokevirtual 99, 3) := by decide +kernel
theorem dX1_hold_81 : decode cX1_hold 81 = .ok (.ireturn, 1) := by decide +kernel
theorem dX1_setField_0 : decode cX1_setField 0 = .ok (.aload_n 0, 1) := by decide +kernel
theorem dX1_setField_1 : decode cX1_setField 1 = .ok (.iload_n 1, 1) := by decide +kernel
theorem dX1_setField_2 : decode cX1_setField 2 = .ok (.invokevirtual 105, 3) := by decide +kernel
theorem dX1_setField_5 : decode cX1_setField 5 = .ok (.istore 4, 2) := by decide +kernel
theorem dX1_setField_7 : decode cX1_setField 7 = .ok (.aload_n 0, 1) := by decide +kernel
theorem dX1_setField_8 : decode cX1_setField 8 = .ok (.getfield 45, 3) := by decide +kernel
theorem dX1_setField_11 : decode cX1_setField 11 = .ok (.iload_n 1, 1) := by decide +kernel
theorem dX1_setField_12 : decode cX1_setField 12 = .ok (.iload_n 2, 1) := by decide +kernel
theorem dX1_setField_13 : decode cX1_setField 13 = .ok (.iload_n 3, 1) := by decide +kernel
theorem dX1_setField_14 : decode cX1_setField 14 = .ok (.invokevirtual 108, 3) := by decide +kernel
theorem dX1_setField_17 : decode cX1_setField 17 = .ok (.aload_n 0, 1) := by decide +kernel
theorem dX1_setField_18 : decode cX1_setField 18 = .ok (.aload_n 0, 1) := by decide +kernel
theorem dX1_setField_19 : decode cX1_setField 19 = .ok (.iload_n 1, 1) := by decide +kernel
theorem dX1_setField_20 : decode cX1_setField 20 = .ok (.invokevirtual 105, 3) := by decide +kernel
theorem dX1_setField_23 : decode cX1_setField 23 = .ok (.iload 4, 2) := by decide +kernel
theorem dX1_setField_25 : decode cX1_setField 25 = .ok (.isub, 1) := by decide +kernel
theorem dX1_setField_26 : decode cX1_setField 26 = .ok (.invokevirtual 99, 3) := by decide +kernel
theorem dX1_setField_29 : decode cX1_setField 29 = .ok (.ireturn, 1) := by decide +kernel
theorem dX1_heldInPixel_0 : decode cX1_heldInPixel 0 = .ok (.iconst 0, 1) := by decide +kernel
theorem dX1_heldInPixel_1 : decode cX1_heldInPixel 1 = .ok (.istore_n 2, 1) := by decide +kernel
theorem dX1_heldInPixel_2 : decode cX1_heldInPixel 2 = .ok (.aload_n 0, 1) := by decide +kernel
theorem dX1_heldInPixel_3 : decode cX1_heldInPixel 3 = .ok (.getfield 45, 3) := by decide +kernel
theorem dX1_heldInPixel_6 : decode cX1_heldInPixel 6 = .ok (.iload_n 1, 1) := by decide +kernel
theorem dX1_heldInPixel_7 : decode cX1_heldInPixel 7 = .ok (.invokevirtual 112, 3) := by decide +kernel
theorem dX1_heldInPixel_10 : decode cX1_heldInPixel 10 = .ok (.istore_n 3, 1) := by decide +kernel
theorem dX1_heldInPixel_11 : decode cX1_heldInPixel 11 = .ok (.aload_n 0, 1) := by decide +kernel
theorem dX1_heldInPixel_12 : decode cX1_heldInPixel 12 = .ok (.getfield 45, 3) := by decide +kernel
theorem dX1_heldInPixel_15 : decode cX1_heldInPixel 15 = .ok (.iload_n 1, 1) := by decide +kernel
theorem dX1_heldInPixel_16 : decode cX1_heldInPixel 16 = .ok (.invokevirtual 115, 3) := by decide +kernel
theorem dX1_heldInPixel_19 : decode cX1_heldInPixel 19 = .ok (.istore 4, 2) := by decide +kernel
theorem dX1_heldInPixel_21 : decode cX1_heldInPixel 21 = .ok (.iload_n 3, 1) := by decide +kernel
theorem dX1_heldInPixel_22 : decode cX1_heldInPixel 22 = .ok (.aload_n 0, 1) := by decide +kernel
theorem dX1_heldInPixel_23 : decode cX1_heldInPixel 23 = .ok (.getfield 45, 3) := by decide +kernel
theorem dX1_heldInPixel_26 : decode cX1_heldInPixel 26 = .ok (.iload_n 1, 1) := by decide +kernel
theorem dX1_heldInPixel_27 : decode cX1_heldInPixel 27 = .ok (.invokevirtual 118, 3) := by decide +kernel
theorem dX1_heldInPixel_30 : decode cX1_heldInPixel 30 = .ok (.iadd, 1) := by decide +kernel
theorem dX1_heldInPixel_31 : decode cX1_heldInPixel 31 = .ok (.istore 5, 2) := by decide +kernel
theorem dX1_heldInPixel_33 : decode cX1_heldInPixel 33 = .ok (.iload 4, 2) := by decide +kernel
theorem dX1_heldInPixel_35 : decode cX1_heldInPixel 35 = .ok (.aload_n 0, 1) := by decide +kernel
theorem dX1_heldInPixel_36 : decode cX1_heldInPixel 36 = .ok (.getfield 45, 3) := by decide +kernel
theorem dX1_heldInPixel_39 : decode cX1_heldInPixel 39 = .ok (.iload_n 1, 1) := by decide +kernel
theorem dX1_heldInPixel_40 : decode cX1_heldInPixel 40 = .ok (.invokevirtual 120, 3) := by decide +kernel
theorem dX1_heldInPixel_43 : decode cX1_heldInPixel 43 = .ok (.iadd, 1) := by decide +kernel
theorem dX1_heldInPixel_44 : decode cX1_heldInPixel 44 = .ok (.istore 6, 2) := by decide +kernel
theorem dX1_heldInPixel_46 : decode cX1_heldInPixel 46 = .ok (.iload 4, 2) := by decide +kernel
theorem dX1_heldInPixel_48 : decode cX1_heldInPixel 48 = .ok (.istore 7, 2) := by decide +kernel
theorem dX1_heldInPixel_50 : decode cX1_heldInPixel 50 = .ok (.iload 7, 2) := by decide +kernel
theorem dX1_heldInPixel_52 : decode cX1_heldInPixel 52 = .ok (.iload 6, 2) := by decide +kernel
theorem dX1_heldInPixel_54 : decode cX1_heldInPixel 54 = .ok (.if_icmp .ge 47, 3) := by decide +kernel
theorem dX1_heldInPixel_57 : decode cX1_heldInPixel 57 = .ok (.iload_n 3, 1) := by decide +kernel
theorem dX1_heldInPixel_58 : decode cX1_heldInPixel 58 = .ok (.istore 8, 2) := by decide +kernel
theorem dX1_heldInPixel_60 : decode cX1_heldInPixel 60 = .ok (.iload 8, 2) := by decide +kernel
theorem dX1_heldInPixel_62 : decode cX1_heldInPixel 62 = .ok (.iload 5, 2) := by decide +kernel
theorem dX1_heldInPixel_64 : decode cX1_heldInPixel 64 = .ok (.if_icmp .ge 31, 3) := by decide +kernel
theorem dX1_heldInPixel_67 : decode cX1_heldInPixel 67 = .ok (.iload_n 2, 1) := by decide +kernel
theorem dX1_heldInPixel_68 : decode cX1_heldInPixel 68 = .ok (.aload_n 0, 1) := by decide +kernel
theorem dX1_heldInPixel_69 : decode cX1_heldInPixel 69 = .ok (.iload 8, 2) := by decide +kernel
theorem dX1_heldInPixel_71 : decode cX1_heldInPixel 71 = .ok (.iload 7, 2) := by decide +kernel
theorem dX1_heldInPixel_73 : decode cX1_heldInPixel 73 = .ok (.invokestatic 55, 3) := by decide +kernel
theorem dX1_heldInPixel_76 : decode cX1_heldInPixel 76 = .ok (.aload_n 0, 1) := by decide +kernel
theorem dX1_heldInPixel_77 : decode cX1_heldInPixel 77 = .ok (.iload 8, 2) := by decide +kernel
theorem dX1_heldInPixel_79 : decode cX1_heldInPixel 79 = .ok (.iload 7, 2) := by decide +kernel
theorem dX1_heldInPixel_81 : decode cX1_heldInPixel 81 = .ok (.invokevirtual 88, 3) := by decide +kernel
theorem dX1_heldInPixel_84 : decode cX1_heldInPixel 84 = .ok (.invokevirtual 81, 3) := by decide +kernel
theorem dX1_heldInPixel_87 : decode cX1_heldInPixel 87 = .ok (.iadd, 1) := by decide +kernel
theorem dX1_heldInPixel_88 : decode cX1_heldInPixel 88 = .ok (.istore_n 2, 1) := by decide +kernel
theorem dX1_heldInPixel_89 : decode cX1_heldInPixel 89 = .ok (.iinc 8 1, 3) := by decide +kernel
theorem dX1_heldInPixel_92 : decode cX1_heldInPixel 92 = .ok (.goto (-32), 3) := by decide +kernel
theorem dX1_heldInPixel_95 : decode cX1_heldInPixel 95 = .ok (.iinc 7 1, 3) := by decide +kernel
theorem dX1_heldInPixel_98 : decode cX1_heldInPixel 98 = .ok (.goto (-48), 3) := by decide +kernel
theorem dX1_heldInPixel_101 : decode cX1_heldInPixel 101 = .ok (.iload_n 2, 1) := by decide +kernel
theorem dX1_heldInPixel_102 : decode cX1_heldInPixel 102 = .ok (.ireturn, 1) := by decide +kernel
theorem dX1_relax_0 : decode cX1_relax 0 = .ok (.aload_n 0, 1) := by decide +kernel
theorem dX1_relax_1 : decode cX1_relax 1 = .ok (.getfield 52, 3) := by decide +kernel
theorem dX1_relax_4 : decode cX1_relax 4 = .ok (.istore_n 1, 1) := by decide +kernel
theorem dX1_relax_5 : decode cX1_relax 5 = .ok (.iconst 0, 1) := by decide +kernel
theorem dX1_relax_6 : decode cX1_relax 6 = .ok (.istore_n 2, 1) := by decide +kernel
theorem dX1_relax_7 : decode cX1_relax 7 = .ok (.iload_n 2, 1) := by decide +kernel
theorem dX1_relax_8 : decode cX1_relax 8 = .ok (.aload_n 0, 1) := by decide +kernel
theorem dX1_relax_9 : decode cX1_relax 9 = .ok (.getfield 36, 3) := by decide +kernel
theorem dX1_relax_12 : decode cX1_relax 12 = .ok (.if_icmp .ge 41, 3) := by decide +kernel
theorem dX1_relax_15 : decode cX1_relax 15 = .ok (.iconst 0, 1) := by decide +kernel
theorem dX1_relax_16 : decode cX1_relax 16 = .ok (.istore_n 3, 1) := by decide +kernel
theorem dX1_relax_17 : decode cX1_relax 17 = .ok (.iload_n 3, 1) := by decide +kernel
theorem dX1_relax_18 : decode cX1_relax 18 = .ok (.aload_n 0, 1) := by decide +kernel
theorem dX1_relax_19 : decode cX1_relax 19 = .ok (.getfield 32, 3) := by decide +kernel
theorem dX1_relax_22 : decode cX1_relax 22 = .ok (.if_icmp .ge 25, 3) := by decide +kernel
theorem dX1_relax_25 : decode cX1_relax 25 = .ok (.aload_n 0, 1) := by decide +kernel
theorem dX1_relax_26 : decode cX1_relax 26 = .ok (.iload_n 3, 1) := by decide +kernel
theorem dX1_relax_27 : decode cX1_relax 27 = .ok (.iload_n 2, 1) := by decide +kernel
theorem dX1_relax_28 : decode cX1_relax 28 = .ok (.invokevirtual 122, 3) := by decide +kernel
theorem dX1_relax_31 : decode cX1_relax 31 = .ok (.iconst 1, 1) := by decide +kernel
theorem dX1_relax_32 : decode cX1_relax 32 = .ok (.if_icmp .eq 9, 3) := by decide +kernel
theorem dX1_relax_35 : decode cX1_relax 35 = .ok (.aload_n 0, 1) := by decide +kernel
theorem dX1_relax_36 : decode cX1_relax 36 = .ok (.iload_n 3, 1) := by decide +kernel
theorem dX1_relax_37 : decode cX1_relax 37 = .ok (.iload_n 2, 1) := by decide +kernel
theorem dX1_relax_38 : decode cX1_relax 38 = .ok (.invokevirtual 125, 3) := by decide +kernel
theorem dX1_relax_41 : decode cX1_relax 41 = .ok (.iinc 3 1, 3) := by decide +kernel
theorem dX1_relax_44 : decode cX1_relax 44 = .ok (.goto (-27), 3) := by decide +kernel
theorem dX1_relax_47 : decode cX1_relax 47 = .ok (.iinc 2 1, 3) := by decide +kernel
theorem dX1_relax_50 : decode cX1_relax 50 = .ok (.goto (-43), 3) := by decide +kernel
theorem dX1_relax_53 : decode cX1_relax 53 = .ok (.iload_n 1, 1) := by decide +kernel
theorem dX1_relax_54 : decode cX1_relax 54 = .ok (.aload_n 0, 1) := by decide +kernel
theorem dX1_relax_55 : decode cX1_relax 55 = .ok (.getfield 52, 3) := by decide +kernel
theorem dX1_relax_58 : decode cX1_relax 58 = .ok (.isub, 1) := by decide +kernel
theorem dX1_relax_59 : decode cX1_relax 59 = .ok (.ireturn, 1) := by decide +kernel
theorem dX1_settle_0 : decode cX1_settle 0 = .ok (.aload_n 0, 1) := by decide +kernel
theorem dX1_settle_1 : decode cX1_settle 1 = .ok (.iload_n 1, 1) := by decide +kernel
theorem dX1_settle_2 : decode cX1_settle 2 = .ok (.iload_n 2, 1) := by decide +kernel
theorem dX1_settle_3 : decode cX1_settle 3 = .ok (.invokevirtual 88, 3) := by decide +kernel
theorem dX1_settle_6 : decode cX1_settle 6 = .ok (.istore_n 3, 1) := by decide +kernel
theorem dX1_settle_7 : decode cX1_settle 7 = .ok (.iload_n 3, 1) := by decide +kernel
theorem dX1_settle_8 : decode cX1_settle 8 = .ok (.ifCond .ne 8, 3) := by decide +kernel
theorem dX1_settle_11 : decode cX1_settle 11 = .ok (.bipush 14, 2) := by decide +kernel
theorem dX1_settle_13 : decode cX1_settle 13 = .ok (.goto 6, 3) := by decide +kernel
theorem dX1_settle_16 : decode cX1_settle 16 = .ok (.iload_n 3, 1) := by decide +kernel
theorem dX1_settle_17 : decode cX1_settle 17 = .ok (.iconst 1, 1) := by decide +kernel
theorem dX1_settle_18 : decode cX1_settle 18 = .ok (.isub, 1) := by decide +kernel
theorem dX1_settle_19 : decode cX1_settle 19 = .ok (.istore 4, 2) := by decide +kernel
theorem dX1_settle_21 : decode cX1_settle 21 = .ok (.iload_n 3, 1) := by decide +kernel
theorem dX1_settle_22 : decode cX1_settle 22 = .ok (.bipush 14, 2) := by decide +kernel
theorem dX1_settle_24 : decode cX1_settle 24 = .ok (.if_icmp .ne 7, 3) := by decide +kernel
theorem dX1_settle_27 : decode cX1_settle 27 = .ok (.iconst 0, 1) := by decide +kernel
theorem dX1_settle_28 : decode cX1_settle 28 = .ok (.goto 6, 3) := by decide +kernel
theorem dX1_settle_31 : decode cX1_settle 31 = .ok (.iload_n 3, 1) := by decide +kernel
theorem dX1_settle_32 : decode cX1_settle 32 = .ok (.iconst 1, 1) := by decide +kernel
theorem dX1_settle_33 : decode cX1_settle 33 = .ok (.iadd, 1) := by decide +kernel
theorem dX1_settle_34 : decode cX1_settle 34 = .ok (.istore 5, 2) := by decide +kernel
theorem dX1_settle_36 : decode cX1_settle 36 = .ok (.aload_n 0, 1) := by decide +kernel
theorem dX1_settle_37 : decode cX1_settle 37 = .ok (.iload_n 1, 1) := by decide +kernel
theorem dX1_settle_38 : decode cX1_settle 38 = .ok (.iload_n 2, 1) := by decide +kernel
theorem dX1_settle_39 : decode cX1_settle 39 = .ok (.iload_n 3, 1) := by decide +kernel
theorem dX1_settle_40 : decode cX1_settle 40 = .ok (.invokevirtual 91, 3) := by decide +kernel
theorem dX1_settle_43 : decode cX1_settle 43 = .ok (.istore 6, 2) := by decide +kernel
theorem dX1_settle_45 : decode cX1_settle 45 = .ok (.aload_n 0, 1) := by decide +kernel
theorem dX1_settle_46 : decode cX1_settle 46 = .ok (.iload_n 1, 1) := by decide +kernel
theorem dX1_settle_47 : decode cX1_settle 47 = .ok (.iload_n 2, 1) := by decide +kernel
theorem dX1_settle_48 : decode cX1_settle 48 = .ok (.iload 4, 2) := by decide +kernel
theorem dX1_settle_50 : decode cX1_settle 50 = .ok (.invokevirtual 91, 3) := by decide +kernel
theorem dX1_settle_53 : decode cX1_settle 53 = .ok (.istore 7, 2) := by decide +kernel
theorem dX1_settle_55 : decode cX1_settle 55 = .ok (.aload_n 0, 1) := by decide +kernel
theorem dX1_settle_56 : decode cX1_settle 56 = .ok (.iload_n 1, 1) := by decide +kernel
theorem dX1_settle_57 : decode cX1_settle 57 = .ok (.iload_n 2, 1) := by decide +kernel
theorem dX1_settle_58 : decode cX1_settle 58 = .ok (.iload 5, 2) := by decide +kernel
theorem dX1_settle_60 : decode cX1_settle 60 = .ok (.invokevirtual 91, 3) := by decide +kernel
theorem dX1_settle_63 : decode cX1_settle 63 = .ok (.istore 8, 2) := by decide +kernel
theorem dX1_settle_65 : decode cX1_settle 65 = .ok (.iload_n 3, 1) := by decide +kernel
theorem dX1_settle_66 : decode cX1_settle 66 = .ok (.istore 9, 2) := by decide +kernel
theorem dX1_settle_68 : decode cX1_settle 68 = .ok (.iload 6, 2) := by decide +kernel
theorem dX1_settle_70 : decode cX1_settle 70 = .ok (.istore 10, 2) := by decide +kernel
theorem dX1_settle_72 : decode cX1_settle 72 = .ok (.iload 7, 2) := by decide +kernel
theorem dX1_settle_74 : decode cX1_settle 74 = .ok (.iload 10, 2) := by decide +kernel
theorem dX1_settle_76 : decode cX1_settle 76 = .ok (.if_icmp .ge 11, 3) := by decide +kernel
theorem dX1_settle_79 : decode cX1_settle 79 = .ok (.iload 4, 2) := by decide +kernel
theorem dX1_settle_81 : decode cX1_settle 81 = .ok (.istore 9, 2) := by decide +kernel
theorem dX1_settle_83 : decode cX1_settle 83 = .ok (.iload 7, 2) := by decide +kernel
theorem dX1_settle_85 : decode cX1_settle 85 = .ok (.istore 10, 2) := by decide +kernel
theorem dX1_settle_87 : decode cX1_settle 87 = .ok (.iload 8, 2) := by decide +kernel
theorem dX1_settle_89 : decode cX1_settle 89 = .ok (.iload 10, 2) := by decide +kernel
theorem dX1_settle_91 : decode cX1_settle 91 = .ok (.if_icmp .ge 11, 3) := by decide +kernel
theorem dX1_settle_94 : decode cX1_settle 94 = .ok (.iload 5, 2) := by decide +kernel
theorem dX1_settle_96 : decode cX1_settle 96 = .ok (.istore 9, 2) := by decide +kernel
theorem dX1_settle_98 : decode cX1_settle 98 = .ok (.iload 8, 2) := by decide +kernel
theorem dX1_settle_100 : decode cX1_settle 100 = .ok (.istore 10, 2) := by decide +kernel
theorem dX1_settle_102 : decode cX1_settle 102 = .ok (.aload_n 0, 1) := by decide +kernel
theorem dX1_settle_103 : decode cX1_settle 103 = .ok (.getfield 14, 3) := by decide +kernel
theorem dX1_settle_106 : decode cX1_settle 106 = .ok (.iload_n 1, 1) := by decide +kernel
theorem dX1_settle_107 : decode cX1_settle 107 = .ok (.iload_n 2, 1) := by decide +kernel
theorem dX1_settle_108 : decode cX1_settle 108 = .ok (.invokestatic 55, 3) := by decide +kernel
theorem dX1_settle_111 : decode cX1_settle 111 = .ok (.iload 9, 2) := by decide +kernel
theorem dX1_settle_113 : decode cX1_settle 113 = .ok (.invokevirtual 66, 3) := by decide +kernel
theorem dX1_settle_116 : decode cX1_settle 116 = .ok (.aload_n 0, 1) := by decide +kernel
theorem dX1_settle_117 : decode cX1_settle 117 = .ok (.iload 10, 2) := by decide +kernel
theorem dX1_settle_119 : decode cX1_settle 119 = .ok (.iload 6, 2) := by decide +kernel
theorem dX1_settle_121 : decode cX1_settle 121 = .ok (.isub, 1) := by decide +kernel
theorem dX1_settle_122 : decode cX1_settle 122 = .ok (.invokevirtual 99, 3) := by decide +kernel
theorem dX1_settle_125 : decode cX1_settle 125 = .ok (.pop, 1) := by decide +kernel
theorem dX1_settle_126 : decode cX1_settle 126 = .ok (.return_, 1) := by decide +kernel
theorem dX1_greyOfPixel_0 : decode cX1_greyOfPixel 0 = .ok (.iconst 0, 1) := by decide +kernel
theorem dX1_greyOfPixel_1 : decode cX1_greyOfPixel 1 = .ok (.istore_n 3, 1) := by decide +kernel
theorem dX1_greyOfPixel_2 : decode cX1_greyOfPixel 2 = .ok (.iconst 0, 1) := by decide +kernel
theorem dX1_greyOfPixel_3 : decode cX1_greyOfPixel 3 = .ok (.istore 4, 2) := by decide +kernel
theorem dX1_greyOfPixel_5 : decode cX1_greyOfPixel 5 = .ok (.aload_n 0, 1) := by decide +kernel
theorem dX1_greyOfPixel_6 : decode cX1_greyOfPixel 6 = .ok (.getfield 45, 3) := by decide +kernel
theorem dX1_greyOfPixel_9 : decode cX1_greyOfPixel 9 = .ok (.iload_n 1, 1) := by decide +kernel
theorem dX1_greyOfPixel_10 : decode cX1_greyOfPixel 10 = .ok (.invokevirtual 112, 3) := by decide +kernel
theorem dX1_greyOfPixel_13 : decode cX1_greyOfPixel 13 = .ok (.istore 5, 2) := by decide +kernel
theorem dX1_greyOfPixel_15 : decode cX1_greyOfPixel 15 = .ok (.aload_n 0, 1) := by decide +kernel
theorem dX1_greyOfPixel_16 : decode cX1_greyOfPixel 16 = .ok (.getfield 45, 3) := by decide +kernel
theorem dX1_greyOfPixel_19 : decode cX1_greyOfPixel 19 = .ok (.iload_n 1, 1) := by decide +kernel
theorem dX1_greyOfPixel_20 : decode cX1_greyOfPixel 20 = .ok (.invokevirtual 115, 3) := by decide +kernel
theorem dX1_greyOfPixel_23 : decode cX1_greyOfPixel 23 = .ok (.istore 6, 2) := by decide +kernel
theorem dX1_greyOfPixel_25 : decode cX1_greyOfPixel 25 = .ok (.iload 5, 2) := by decide +kernel
theorem dX1_greyOfPixel_27 : decode cX1_greyOfPixel 27 = .ok (.aload_n 0, 1) := by decide +kernel
theorem dX1_greyOfPixel_28 : decode cX1_greyOfPixel 28 = .ok (.getfield 45, 3) := by decide +kernel
theorem dX1_greyOfPixel_31 : decode cX1_greyOfPixel 31 = .ok (.iload_n 1, 1) := by decide +kernel
theorem dX1_greyOfPixel_32 : decode cX1_greyOfPixel 32 = .ok (.invokevirtual 118, 3) := by decide +kernel
theorem dX1_greyOfPixel_35 : decode cX1_greyOfPixel 35 = .ok (.iadd, 1) := by decide +kernel
theorem dX1_greyOfPixel_36 : decode cX1_greyOfPixel 36 = .ok (.istore 7, 2) := by decide +kernel
theorem dX1_greyOfPixel_38 : decode cX1_greyOfPixel 38 = .ok (.iload 6, 2) := by decide +kernel
theorem dX1_greyOfPixel_40 : decode cX1_greyOfPixel 40 = .ok (.aload_n 0, 1) := by decide +kernel
theorem dX1_greyOfPixel_41 : decode cX1_greyOfPixel 41 = .ok (.getfield 45, 3) := by decide +kernel
theorem dX1_greyOfPixel_44 : decode cX1_greyOfPixel 44 = .ok (.iload_n 1, 1) := by decide +kernel
theorem dX1_greyOfPixel_45 : decode cX1_greyOfPixel 45 = .ok (.invokevirtual 120, 3) := by decide +kernel
theorem dX1_greyOfPixel_48 : decode cX1_greyOfPixel 48 = .ok (.iadd, 1) := by decide +kernel
theorem dX1_greyOfPixel_49 : decode cX1_greyOfPixel 49 = .ok (.istore 8, 2) := by decide +kernel
theorem dX1_greyOfPixel_51 : decode cX1_greyOfPixel 51 = .ok (.iload 6, 2) := by decide +kernel
theorem dX1_greyOfPixel_53 : decode cX1_greyOfPixel 53 = .ok (.istore 9, 2) := by decide +kernel
theorem dX1_greyOfPixel_55 : decode cX1_greyOfPixel 55 = .ok (.iload 9, 2) := by decide +kernel
theorem dX1_greyOfPixel_57 : decode cX1_greyOfPixel 57 = .ok (.iload 8, 2) := by decide +kernel
theorem dX1_greyOfPixel_59 : decode cX1_greyOfPixel 59 = .ok (.if_icmp .ge 44, 3) := by decide +kernel
theorem dX1_greyOfPixel_62 : decode cX1_greyOfPixel 62 = .ok (.iload 5, 2) := by decide +kernel
theorem dX1_greyOfPixel_64 : decode cX1_greyOfPixel 64 = .ok (.istore 10, 2) := by decide +kernel
theorem dX1_greyOfPixel_66 : decode cX1_greyOfPixel 66 = .ok (.iload 10, 2) := by decide +kernel
theorem dX1_greyOfPixel_68 : decode cX1_greyOfPixel 68 = .ok (.iload 7, 2) := by decide +kernel
theorem dX1_greyOfPixel_70 : decode cX1_greyOfPixel 70 = .ok (.if_icmp .ge 27, 3) := by decide +kernel
theorem dX1_greyOfPixel_73 : decode cX1_greyOfPixel 73 = .ok (.iload_n 3, 1) := by decide +kernel
theorem dX1_greyOfPixel_74 : decode cX1_greyOfPixel 74 = .ok (.aload_n 0, 1) := by decide +kernel
theorem dX1_greyOfPixel_75 : decode cX1_greyOfPixel 75 = .ok (.iload 10, 2) := by decide +kernel
theorem dX1_greyOfPixel_77 : decode cX1_greyOfPixel 77 = .ok (.iload 9, 2) := by decide +kernel
theorem dX1_greyOfPixel_79 : decode cX1_greyOfPixel 79 = .ok (.invokevirtual 88, 3) := by decide +kernel
theorem dX1_greyOfPixel_82 : decode cX1_greyOfPixel 82 = .ok (.iload_n 2, 1) := by decide +kernel
theorem dX1_greyOfPixel_83 : decode cX1_greyOfPixel 83 = .ok (.invokestatic 133, 3) := by decide +kernel
theorem dX1_greyOfPixel_86 : decode cX1_greyOfPixel 86 = .ok (.iadd, 1) := by decide +kernel
theorem dX1_greyOfPixel_87 : decode cX1_greyOfPixel 87 = .ok (.istore_n 3, 1) := by decide +kernel
theorem dX1_greyOfPixel_88 : decode cX1_greyOfPixel 88 = .ok (.iinc 4 1, 3) := by decide +kernel
theorem dX1_greyOfPixel_91 : decode cX1_greyOfPixel 91 = .ok (.iinc 10 1, 3) := by decide +kernel
theorem dX1_greyOfPixel_94 : decode cX1_greyOfPixel 94 = .ok (.goto (-28), 3) := by decide +kernel
theorem dX1_greyOfPixel_97 : decode cX1_greyOfPixel 97 = .ok (.iinc 9 1, 3) := by decide +kernel
theorem dX1_greyOfPixel_100 : decode cX1_greyOfPixel 100 = .ok (.goto (-45), 3) := by decide +kernel
theorem dX1_greyOfPixel_103 : decode cX1_greyOfPixel 103 = .ok (.iload 4, 2) := by decide +kernel
theorem dX1_greyOfPixel_105 : decode cX1_greyOfPixel 105 = .ok (.ifCond .le 10, 3) := by decide +kernel
theorem dX1_greyOfPixel_108 : decode cX1_greyOfPixel 108 = .ok (.iload_n 3, 1) := by decide +kernel
theorem dX1_greyOfPixel_109 : decode cX1_greyOfPixel 109 = .ok (.iload 4, 2) := by decide +kernel
theorem dX1_greyOfPixel_111 : decode cX1_greyOfPixel 111 = .ok (.idiv, 1) := by decide +kernel
theorem dX1_greyOfPixel_112 : decode cX1_greyOfPixel 112 = .ok (.goto 4, 3) := by decide +kernel
theorem dX1_greyOfPixel_115 : decode cX1_greyOfPixel 115 = .ok (.iconst 0, 1) := by decide +kernel
theorem dX1_greyOfPixel_116 : decode cX1_greyOfPixel 116 = .ok (.ireturn, 1) := by decide +kernel
theorem dX2_init_0 : decode cX2_init 0 = .ok (.aload_n 0, 1) := by decide +kernel
theorem dX2_init_1 : decode cX2_init 1 = .ok (.invokespecial 3, 3) := by decide +kernel
theorem dX2_init_4 : decode cX2_init 4 = .ok (.aload_n 0, 1) := by decide +kernel
theorem dX2_init_5 : decode cX2_init 5 = .ok (.new 9, 3) := by decide +kernel
theorem dX2_init_8 : decode cX2_init 8 = .ok (.dup, 1) := by decide +kernel
theorem dX2_init_9 : decode cX2_init 9 = .ok (.bipush 10, 2) := by decide +kernel
theorem dX2_init_11 : decode cX2_init 11 = .ok (.invokespecial 11, 3) := by decide +kernel
theorem dX2_init_14 : decode cX2_init 14 = .ok (.putfield 14, 3) := by decide +kernel
theorem dX2_init_17 : decode cX2_init 17 = .ok (.aload_n 0, 1) := by decide +kernel
theorem dX2_init_18 : decode cX2_init 18 = .ok (.new 9, 3) := by decide +kernel
theorem dX2_init_21 : decode cX2_init 21 = .ok (.dup, 1) := by decide +kernel
theorem dX2_init_22 : decode cX2_init 22 = .ok (.sipush 1440, 3) := by decide +kernel
theorem dX2_init_25 : decode cX2_init 25 = .ok (.invokespecial 11, 3) := by decide +kernel
theorem dX2_init_28 : decode cX2_init 28 = .ok (.putfield 20, 3) := by decide +kernel
theorem dX2_init_31 : decode cX2_init 31 = .ok (.return_, 1) := by decide +kernel
theorem dX3_init_0 : decode cX3_init 0 = .ok (.aload_n 0, 1) := by decide +kernel
theorem dX3_init_1 : decode cX3_init 1 = .ok (.invokespecial 3, 3) := by decide +kernel
theorem dX3_init_4 : decode cX3_init 4 = .ok (.aload_n 0, 1) := by decide +kernel
theorem dX3_init_5 : decode cX3_init 5 = .ok (.new 9, 3) := by decide +kernel
theorem dX3_init_8 : decode cX3_init 8 = .ok (.dup, 1) := by decide +kernel
theorem dX3_init_9 : decode cX3_init 9 = .ok (.bipush 8, 2) := by decide +kernel
theorem dX3_init_11 : decode cX3_init 11 = .ok (.invokespecial 11, 3) := by decide +kernel
theorem dX3_init_14 : decode cX3_init 14 = .ok (.putfield 14, 3) := by decide +kernel
theorem dX3_init_17 : decode cX3_init 17 = .ok (.aload_n 0, 1) := by decide +kernel
theorem dX3_init_18 : decode cX3_init 18 = .ok (.new 9, 3) := by decide +kernel
theorem dX3_init_21 : decode cX3_init 21 = .ok (.dup, 1) := by decide +kernel
theorem dX3_init_22 : decode cX3_init 22 = .ok (.bipush 8, 2) := by decide +kernel
theorem dX3_init_24 : decode cX3_init 24 = .ok (.invokespecial 11, 3) := by decide +kernel
theorem dX3_init_27 : decode cX3_init 27 = .ok (.putfield 20, 3) := by decide +kernel
theorem dX3_init_30 : decode cX3_init 30 = .ok (.aload_n 0, 1) := by decide +kernel
theorem dX3_init_31 : decode cX3_init 31 = .ok (.new 9, 3) := by decide +kernel
theorem dX3_init_34 : decode cX3_init 34 = .ok (.dup, 1) := by decide +kernel
theorem dX3_init_35 : decode cX3_init 35 = .ok (.bipush 8, 2) := by decide +kernel
theorem dX3_init_37 : decode cX3_init 37 = .ok (.invokespecial 11, 3) := by decide +kernel
theorem dX3_init_40 : decode cX3_init 40 = .ok (.putfield 23, 3) := by decide +kernel
theorem dX3_init_43 : decode cX3_init 43 = .ok (.aload_n 0, 1) := by decide +kernel
theorem dX3_init_44 : decode cX3_init 44 = .ok (.new 9, 3) := by decide +kernel
theorem dX3_init_47 : decode cX3_init 47 = .ok (.dup, 1) := by decide +kernel
theorem dX3_init_48 : decode cX3_init 48 = .ok (.bipush 8, 2) := by decide +kernel
theorem dX3_init_50 : decode cX3_init 50 = .ok (.invokespecial 11, 3) := by decide +kernel
theorem dX3_init_53 : decode cX3_init 53 = .ok (.putfield 26, 3) := by decide +kernel
theorem dX3_init_56 : decode cX3_init 56 = .ok (.aload_n 0, 1) := by decide +kernel
theorem dX3_init_57 : decode cX3_init 57 = .ok (.new 9, 3) := by decide +kernel
theorem dX3_init_60 : decode cX3_init 60 = .ok (.dup, 1) := by decide +kernel
theorem dX3_init_61 : decode cX3_init 61 = .ok (.bipush 8, 2) := by decide +kernel
theorem dX3_init_63 : decode cX3_init 63 = .ok (.invokespecial 11, 3) := by decide +kernel
theorem dX3_init_66 : decode cX3_init 66 = .ok (.putfield 29, 3) := by decide +kernel
theorem dX3_init_69 : decode cX3_init 69 = .ok (.aload_n 0, 1) := by decide +kernel
theorem dX3_init_70 : decode cX3_init 70 = .ok (.new 9, 3) := by decide +kernel
theorem dX3_init_73 : decode cX3_init 73 = .ok (.dup, 1) := by decide +kernel
theorem dX3_init_74 : decode cX3_init 74 = .ok (.bipush 8, 2) := by decide +kernel
theorem dX3_init_76 : decode cX3_init 76 = .ok (.invokespecial 11, 3) := by decide +kernel
theorem dX3_init_79 : decode cX3_init 79 = .ok (.putfield 32, 3) := by decide +kernel
theorem dX3_init_82 : decode cX3_init 82 = .ok (.aload_n 0, 1) := by decide +kernel
theorem dX3_init_83 : decode cX3_init 83 = .ok (.new 9, 3) := by decide +kernel
theorem dX3_init_86 : decode cX3_init 86 = .ok (.dup, 1) := by decide +kernel
theorem dX3_init_87 : decode cX3_init 87 = .ok (.bipush 8, 2) := by decide +kernel
theorem dX3_init_89 : decode cX3_init 89 = .ok (.invokespecial 11, 3) := by decide +kernel
theorem dX3_init_92 : decode cX3_init 92 = .ok (.putfield 35, 3) := by decide +kernel
theorem dX3_init_95 : decode cX3_init 95 = .ok (.aload_n 0, 1) := by decide +kernel
theorem dX3_init_96 : decode cX3_init 96 = .ok (.new 9, 3) := by decide +kernel
theorem dX3_init_99 : decode cX3_init 99 = .ok (.dup, 1) := by decide +kernel
theorem dX3_init_100 : decode cX3_init 100 = .ok (.bipush 64, 2) := by decide +kernel
theorem dX3_init_102 : decode cX3_init 102 = .ok (.invokespecial 11, 3) := by decide +kernel
theorem dX3_init_105 : decode cX3_init 105 = .ok (.putfield 38, 3) := by decide +kernel
theorem dX3_init_108 : decode cX3_init 108 = .ok (.return_, 1) := by decide +kernel
theorem dX3_has_0 : decode cX3_has 0 = .ok (.iload_n 1, 1) := by decide +kernel
theorem dX3_has_1 : decode cX3_has 1 = .ok (.ifCond .lt 15, 3) := by decide +kernel
theorem dX3_has_4 : decode cX3_has 4 = .ok (.iload_n 1, 1) := by decide +kernel
theorem dX3_has_5 : decode cX3_has 5 = .ok (.aload_n 0, 1) := by decide +kernel
theorem dX3_has_6 : decode cX3_has 6 = .ok (.getfield 41, 3) := by decide +kernel
theorem dX3_has_9 : decode cX3_has 9 = .ok (.if_icmp .ge 7, 3) := by decide +kernel
theorem dX3_has_12 : decode cX3_has 12 = .ok (.iconst 1, 1) := by decide +kernel
theorem dX3_has_13 : decode cX3_has 13 = .ok (.goto 4, 3) := by decide +kernel
theorem dX3_has_16 : decode cX3_has 16 = .ok (.iconst 0, 1) := by decide +kernel
theorem dX3_has_17 : decode cX3_has 17 = .ok (.ireturn, 1) := by decide +kernel
theorem dX3_make_0 : decode cX3_make 0 = .ok (.aload_n 0, 1) := by decide +kernel
theorem dX3_make_1 : decode cX3_make 1 = .ok (.getfield 41, 3) := by decide +kernel
theorem dX3_make_4 : decode cX3_make 4 = .ok (.istore 5, 2) := by decide +kernel
theorem dX3_make_6 : decode cX3_make 6 = .ok (.aload_n 0, 1) := by decide +kernel
theorem dX3_make_7 : decode cX3_make 7 = .ok (.getfield 14, 3) := by decide +kernel
theorem dX3_make_10 : decode cX3_make 10 = .ok (.iload 5, 2) := by decide +kernel
theorem dX3_make_12 : decode cX3_make 12 = .ok (.iload_n 1, 1) := by decide +kernel
theorem dX3_make_13 : decode cX3_make 13 = .ok (.invokevirtual 45, 3) := by decide +kernel
theorem dX3_make_16 : decode cX3_make 16 = .ok (.aload_n 0, 1) := by decide +kernel
theorem dX3_make_17 : decode cX3_make 17 = .ok (.getfield 20, 3) := by decide +kernel
theorem dX3_make_20 : decode cX3_make 20 = .ok (.iload 5, 2) := by decide +kernel
theorem dX3_make_22 : decode cX3_make 22 = .ok (.iload_n 2, 1) := by decide +kernel
theorem dX3_make_23 : decode cX3_make 23 = .ok (.invokevirtual 45, 3) := by decide +kernel
theorem dX3_make_26 : decode cX3_make 26 = .ok (.aload_n 0, 1) := by decide +kernel
theorem dX3_make_27 : decode cX3_make 27 = .ok (.getfield 23, 3) := by decide +kernel
theorem dX3_make_30 : decode cX3_make 30 = .ok (.iload 5, 2) := by decide +kernel
theorem dX3_make_32 : decode cX3_make 32 = .ok (.iload_n 3, 1) := by decide +kernel
theorem dX3_make_33 : decode cX3_make 33 = .ok (.invokevirtual 45, 3) := by decide +kernel
theorem dX3_make_36 : decode cX3_make 36 = .ok (.aload_n 0, 1) := by decide +kernel
theorem dX3_make_37 : decode cX3_make 37 = .ok (.getfield 26, 3) := by decide +kernel
theorem dX3_make_40 : decode cX3_make 40 = .ok (.iload 5, 2) := by decide +kernel
theorem dX3_make_42 : decode cX3_make 42 = .ok (.iload 4, 2) := by decide +kernel
theorem dX3_make_44 : decode cX3_make 44 = .ok (.invokevirtual 45, 3) := by decide +kernel
theorem dX3_make_47 : decode cX3_make 47 = .ok (.aload_n 0, 1) := by decide +kernel
theorem dX3_make_48 : decode cX3_make 48 = .ok (.getfield 29, 3) := by decide +kernel
theorem dX3_make_51 : decode cX3_make 51 = .ok (.iload 5, 2) := by decide +kernel
theorem dX3_make_53 : decode cX3_make 53 = .ok (.iconst 0, 1) := by decide +kernel
theorem dX3_make_54 : decode cX3_make 54 = .ok (.invokevirtual 45, 3) := by decide +kernel
theorem dX3_make_57 : decode cX3_make 57 = .ok (.aload_n 0, 1) := by decide +kernel
theorem dX3_make_58 : decode cX3_make 58 = .ok (.getfield 32, 3) := by decide +kernel
theorem dX3_make_61 : decode cX3_make 61 = .ok (.iload 5, 2) := by decide +kernel
theorem dX3_make_63 : decode cX3_make 63 = .ok (.iconst 0, 1) := by decide +kernel
theorem dX3_make_64 : decode cX3_make 64 = .ok (.invokevirtual 45, 3) := by decide +kernel
theorem dX3_make_67 : decode cX3_make 67 = .ok (.aload_n 0, 1) := by decide +kernel
theorem dX3_make_68 : decode cX3_make 68 = .ok (.getfield 35, 3) := by decide +kernel
theorem dX3_make_71 : decode cX3_make 71 = .ok (.iload 5, 2) := by decide +kernel
theorem dX3_make_73 : decode cX3_make 73 = .ok (.iconst 0, 1) := by decide +kernel
theorem dX3_make_74 : decode cX3_make 74 = .ok (.invokevirtual 45, 3) := by decide +kernel
theorem dX3_make_77 : decode cX3_make 77 = .ok (.aload_n 0, 1) := by decide +kernel
theorem dX3_make_78 : decode cX3_make 78 = .ok (.dup, 1) := by decide +kernel
theorem dX3_make_79 : decode cX3_make 79 = .ok (.getfield 41, 3) := by decide +kernel
theorem dX3_make_82 : decode cX3_make 82 = .ok (.iconst 1, 1) := by decide +kernel
theorem dX3_make_83 : decode cX3_make 83 = .ok (.iadd, 1) := by decide +kernel
theorem dX3_make_84 : decode cX3_make 84 = .ok (.putfield 41, 3) := by decide +kernel
theorem dX3_make_87 : decode cX3_make 87 = .ok (.iload 5, 2) := by decide +kernel
theorem dX3_make_89 : decode cX3_make 89 = .ok (.ireturn, 1) := by decide +kernel
theorem dX3_left_0 : decode cX3_left 0 = .ok (.aload_n 0, 1) := by decide +kernel
theorem dX3_left_1 : decode cX3_left 1 = .ok (.getfield 14, 3) := by decide +kernel
theorem dX3_left_4 : decode cX3_left 4 = .ok (.iload_n 1, 1) := by decide +kernel
theorem dX3_left_5 : decode cX3_left 5 = .ok (.invokevirtual 49, 3) := by decide +kernel
theorem dX3_left_8 : decode cX3_left 8 = .ok (.ireturn, 1) := by decide +kernel
theorem dX3_top_0 : decode cX3_top 0 = .ok (.aload_n 0, 1) := by decide +kernel
theorem dX3_top_1 : decode cX3_top 1 = .ok (.getfield 20, 3) := by decide +kernel
theorem dX3_top_4 : decode cX3_top 4 = .ok (.iload_n 1, 1) := by decide +kernel
theorem dX3_top_5 : decode cX3_top 5 = .ok (.invokevirtual 49, 3) := by decide +kernel
theorem dX3_top_8 : decode cX3_top 8 = .ok (.ireturn, 1) := by decide +kernel
theorem dX3_width_0 : decode cX3_width 0 = .ok (.aload_n 0, 1) := by decide +kernel
theorem dX3_width_1 : decode cX3_width 1 = .ok (.getfield 23, 3) := by decide +kernel
theorem dX3_width_4 : decode cX3_width 4 = .ok (.iload_n 1, 1) := by decide +kernel
theorem dX3_width_5 : decode cX3_width 5 = .ok (.invokevirtual 49, 3) := by decide +kernel
theorem dX3_width_8 : decode cX3_width 8 = .ok (.ireturn, 1) := by decide +kernel
theorem dX3_height_0 : decode cX3_height 0 = .ok (.aload_n 0, 1) := by decide +kernel
theorem dX3_height_1 : decode cX3_height 1 = .ok (.getfield 26, 3) := by decide +kernel
theorem dX3_height_4 : decode cX3_height 4 = .ok (.iload_n 1, 1) := by decide +kernel
theorem dX3_height_5 : decode cX3_height 5 = .ok (.invokevirtual 49, 3) := by decide +kernel
theorem dX3_height_8 : decode cX3_height 8 = .ok (.ireturn, 1) := by decide +kernel
theorem dX3_fieldDirection_0 : decode cX3_fieldDirection 0 = .ok (.aload_n 0, 1) := by decide +kernel
theorem dX3_fieldDirection_1 : decode cX3_fieldDirection 1 = .ok (.getfield 29, 3) := by decide +kernel
theorem dX3_fieldDirection_4 : decode cX3_fieldDirection 4 = .ok (.iload_n 1, 1) := by decide +kernel
theorem dX3_fieldDirection_5 : decode cX3_fieldDirection 5 = .ok (.invokevirtual 49, 3) := by decide +kernel
theorem dX3_fieldDirection_8 : decode cX3_fieldDirection 8 = .ok (.ireturn, 1) := by decide +kernel
theorem dX3_fieldStrength_0 : decode cX3_fieldStrength 0 = .ok (.aload_n 0, 1) := by decide +kernel
theorem dX3_fieldStrength_1 : decode cX3_fieldStrength 1 = .ok (.getfield 32, 3) := by decide +kernel
theorem dX3_fieldStrength_4 : decode cX3_fieldStrength 4 = .ok (.iload_n 1, 1) := by decide +kernel
theorem dX3_fieldStrength_5 : decode cX3_fieldStrength 5 = .ok (.invokevirtual 49, 3) := by decide +kernel
theorem dX3_fieldStrength_8 : decode cX3_fieldStrength 8 = .ok (.ireturn, 1) := by decide +kernel
theorem dX3_setField_0 : decode cX3_setField 0 = .ok (.aload_n 0, 1) := by decide +kernel
theorem dX3_setField_1 : decode cX3_setField 1 = .ok (.getfield 29, 3) := by decide +kernel
theorem dX3_setField_4 : decode cX3_setField 4 = .ok (.iload_n 1, 1) := by decide +kernel
theorem dX3_setField_5 : decode cX3_setField 5 = .ok (.iload_n 2, 1) := by decide +kernel
theorem dX3_setField_6 : decode cX3_setField 6 = .ok (.invokevirtual 45, 3) := by decide +kernel
theorem dX3_setField_9 : decode cX3_setField 9 = .ok (.aload_n 0, 1) := by decide +kernel
theorem dX3_setField_10 : decode cX3_setField 10 = .ok (.getfield 32, 3) := by decide +kernel
theorem dX3_setField_13 : decode cX3_setField 13 = .ok (.iload_n 1, 1) := by decide +kernel
theorem dX3_setField_14 : decode cX3_setField 14 = .ok (.iload_n 3, 1) := by decide +kernel
theorem dX3_setField_15 : decode cX3_setField 15 = .ok (.invokevirtual 45, 3) := by decide +kernel
theorem dX3_setField_18 : decode cX3_setField 18 = .ok (.return_, 1) := by decide +kernel
theorem dX3_note_0 : decode cX3_note 0 = .ok (.aload_n 0, 1) := by decide +kernel
theorem dX3_note_1 : decode cX3_note 1 = .ok (.getfield 35, 3) := by decide +kernel
theorem dX3_note_4 : decode cX3_note 4 = .ok (.iload_n 1, 1) := by decide +kernel
theorem dX3_note_5 : decode cX3_note 5 = .ok (.invokevirtual 49, 3) := by decide +kernel
theorem dX3_note_8 : decode cX3_note 8 = .ok (.istore_n 3, 1) := by decide +kernel
theorem dX3_note_9 : decode cX3_note 9 = .ok (.aload_n 0, 1) := by decide +kernel
theorem dX3_note_10 : decode cX3_note 10 = .ok (.getfield 38, 3) := by decide +kernel
theorem dX3_note_13 : decode cX3_note 13 = .ok (.iload_n 1, 1) := by decide +kernel
theorem dX3_note_14 : decode cX3_note 14 = .ok (.bipush 8, 2) := by decide +kernel
theorem dX3_note_16 : decode cX3_note 16 = .ok (.imul, 1) := by decide +kernel
theorem dX3_note_17 : decode cX3_note 17 = .ok (.iload_n 3, 1) := by decide +kernel
theorem dX3_note_18 : decode cX3_note 18 = .ok (.bipush 8, 2) := by decide +kernel
theorem dX3_note_20 : decode cX3_note 20 = .ok (.irem, 1) := by decide +kernel
theorem dX3_note_21 : decode cX3_note 21 = .ok (.iadd, 1) := by decide +kernel
theorem dX3_note_22 : decode cX3_note 22 = .ok (.iload_n 2, 1) := by decide +kernel
theorem dX3_note_23 : decode cX3_note 23 = .ok (.invokevirtual 45, 3) := by decide +kernel
theorem dX3_note_26 : decode cX3_note 26 = .ok (.aload_n 0, 1) := by decide +kernel
theorem dX3_note_27 : decode cX3_note 27 = .ok (.getfield 35, 3) := by decide +kernel
theorem dX3_note_30 : decode cX3_note 30 = .ok (.iload_n 1, 1) := by decide +kernel
theorem dX3_note_31 : decode cX3_note 31 = .ok (.iload_n 3, 1) := by decide +kernel
theorem dX3_note_32 : decode cX3_note 32 = .ok (.iconst 1, 1) := by decide +kernel
theorem dX3_note_33 : decode cX3_note 33 = .ok (.iadd, 1) := by decide +kernel
theorem dX3_note_34 : decode cX3_note 34 = .ok (.invokevirtual 45, 3) := by decide +kernel
theorem dX3_note_37 : decode cX3_note 37 = .ok (.return_, 1) := by decide +kernel
theorem dX3_flicker_0 : decode cX3_flicker 0 = .ok (.iload_n 1, 1) := by decide +kernel
theorem dX3_flicker_1 : decode cX3_flicker 1 = .ok (.bipush 8, 2) := by decide +kernel
theorem dX3_flicker_3 : decode cX3_flicker 3 = .ok (.imul, 1) := by decide +kernel
theorem dX3_flicker_4 : decode cX3_flicker 4 = .ok (.istore_n 2, 1) := by decide +kernel
theorem dX3_flicker_5 : decode cX3_flicker 5 = .ok (.aload_n 0, 1) := by decide +kernel
theorem dX3_flicker_6 : decode cX3_flicker 6 = .ok (.getfield 35, 3) := by decide +kernel
theorem dX3_flicker_9 : decode cX3_flicker 9 = .ok (.iload_n 1, 1) := by decide +kernel
theorem dX3_flicker_10 : decode cX3_flicker 10 = .ok (.invokevirtual 49, 3) := by decide +kernel
theorem dX3_flicker_13 : decode cX3_flicker 13 = .ok (.bipush 8, 2) := by decide +kernel
theorem dX3_flicker_15 : decode cX3_flicker 15 = .ok (.invokestatic 53, 3) := by decide +kernel
theorem dX3_flicker_18 : decode cX3_flicker 18 = .ok (.istore_n 3, 1) := by decide +kernel
theorem dX3_flicker_19 : decode cX3_flicker 19 = .ok (.aload_n 0, 1) := by decide +kernel
theorem dX3_flicker_20 : decode cX3_flicker 20 = .ok (.getfield 38, 3) := by decide +kernel
theorem dX3_flicker_23 : decode cX3_flicker 23 = .ok (.iload_n 2, 1) := by decide +kernel
theorem dX3_flicker_24 : decode cX3_flicker 24 = .ok (.invokevirtual 49, 3) := by decide +kernel
theorem dX3_flicker_27 : decode cX3_flicker 27 = .ok (.istore 4, 2) := by decide +kernel
theorem dX3_flicker_29 : decode cX3_flicker 29 = .ok (.iload 4, 2) := by decide +kernel
theorem dX3_flicker_31 : decode cX3_flicker 31 = .ok (.istore 5, 2) := by decide +kernel
theorem dX3_flicker_33 : decode cX3_flicker 33 = .ok (.iconst 1, 1) := by decide +kernel
theorem dX3_flicker_34 : decode cX3_flicker 34 = .ok (.istore 6, 2) := by decide +kernel
theorem dX3_flicker_36 : decode cX3_flicker 36 = .ok (.iload 6, 2) := by decide +kernel
theorem dX3_flicker_38 : decode cX3_flicker 38 = .ok (.iload_n 3, 1) := by decide +kernel
theorem dX3_flicker_39 : decode cX3_flicker 39 = .ok (.if_icmp .ge 40, 3) := by decide +kernel
theorem dX3_flicker_42 : decode cX3_flicker 42 = .ok (.aload_n 0, 1) := by decide +kernel
theorem dX3_flicker_43 : decode cX3_flicker 43 = .ok (.getfield 38, 3) := by decide +kernel
theorem dX3_flicker_46 : decode cX3_flicker 46 = .ok (.iload_n 2, 1) := by decide +kernel
theorem dX3_flicker_47 : decode cX3_flicker 47 = .ok (.iload 6, 2) := by decide +kernel
theorem dX3_flicker_49 : decode cX3_flicker 49 = .ok (.iadd, 1) := by decide +kernel
theorem dX3_flicker_50 : decode cX3_flicker 50 = .ok (.invokevirtual 49, 3) := by decide +kernel
theorem dX3_flicker_53 : decode cX3_flicker 53 = .ok (.istore 7, 2) := by decide +kernel
theorem dX3_flicker_55 : decode cX3_flicker 55 = .ok (.iload 4, 2) := by decide +kernel
theorem dX3_flicker_57 : decode cX3_flicker 57 = .ok (.iload 7, 2) := by decide +kernel
theorem dX3_flicker_59 : decode cX3_flicker 59 = .ok (.invokestatic 59, 3) := by decide +kernel
theorem dX3_flicker_62 : decode cX3_flicker 62 = .ok (.istore 4, 2) := by decide +kernel
theorem dX3_flicker_64 : decode cX3_flicker 64 = .ok (.iload 5, 2) := by decide +kernel
theorem dX3_flicker_66 : decode cX3_flicker 66 = .ok (.iload 7, 2) := by decide +kernel
theorem dX3_flicker_68 : decode cX3_flicker 68 = .ok (.invokestatic 53, 3) := by decide +kernel
theorem dX3_flicker_71 : decode cX3_flicker 71 = .ok (.istore 5, 2) := by decide +kernel
theorem dX3_flicker_73 : decode cX3_flicker 73 = .ok (.iinc 6 1, 3) := by decide +kernel
theorem dX3_flicker_76 : decode cX3_flicker 76 = .ok (.goto (-40), 3) := by decide +kernel
theorem dX3_flicker_79 : decode cX3_flicker 79 = .ok (.iload_n 3, 1) := by decide +kernel
theorem dX3_flicker_80 : decode cX3_flicker 80 = .ok (.ifCond .le 11, 3) := by decide +kernel
theorem dX3_flicker_83 : decode cX3_flicker 83 = .ok (.iload 4, 2) := by decide +kernel
theorem dX3_flicker_85 : decode cX3_flicker 85 = .ok (.iload 5, 2) := by decide +kernel
theorem dX3_flicker_87 : decode cX3_flicker 87 = .ok (.isub, 1) := by decide +kernel
theorem dX3_flicker_88 : decode cX3_flicker 88 = .ok (.goto 4, 3) := by decide +kernel
theorem dX3_flicker_91 : decode cX3_flicker 91 = .ok (.iconst 0, 1) := by decide +kernel
theorem dX3_flicker_92 : decode cX3_flicker 92 = .ok (.ireturn, 1) := by decide +kernel
theorem dX4_init_0 : decode cX4_init 0 = .ok (.aload_n 0, 1) := by decide +kernel
theorem dX4_init_1 : decode cX4_init 1 = .ok (.invokespecial 1, 3) := by decide +kernel
theorem dX4_init_4 : decode cX4_init 4 = .ok (.aload_n 0, 1) := by decide +kernel
theorem dX4_init_5 : decode cX4_init 5 = .ok (.iload_n 1, 1) := by decide +kernel
theorem dX4_init_6 : decode cX4_init 6 = .ok (.ifCond .ge 7, 3) := by decide +kernel
theorem dX4_init_9 : decode cX4_init 9 = .ok (.iconst 0, 1) := by decide +kernel
theorem dX4_init_10 : decode cX4_init 10 = .ok (.goto 4, 3) := by decide +kernel
theorem dX4_init_13 : decode cX4_init 13 = .ok (.iload_n 1, 1) := by decide +kernel
theorem dX4_init_14 : decode cX4_init 14 = .ok (.newarray .int, 2) := by decide +kernel
theorem dX4_init_16 : decode cX4_init 16 = .ok (.putfield 7, 3) := by decide +kernel
theorem dX4_init_19 : decode cX4_init 19 = .ok (.return_, 1) := by decide +kernel
theorem dX4_at_0 : decode cX4_at 0 = .ok (.iload_n 1, 1) := by decide +kernel
theorem dX4_at_1 : decode cX4_at 1 = .ok (.ifCond .lt 21, 3) := by decide +kernel
theorem dX4_at_4 : decode cX4_at 4 = .ok (.iload_n 1, 1) := by decide +kernel
theorem dX4_at_5 : decode cX4_at 5 = .ok (.aload_n 0, 1) := by decide +kernel
theorem dX4_at_6 : decode cX4_at 6 = .ok (.getfield 7, 3) := by decide +kernel
theorem dX4_at_9 : decode cX4_at 9 = .ok (.arraylength, 1) := by decide +kernel
theorem dX4_at_10 : decode cX4_at 10 = .ok (.if_icmp .ge 12, 3) := by decide +kernel
theorem dX4_at_13 : decode cX4_at 13 = .ok (.aload_n 0, 1) := by decide +kernel
theorem dX4_at_14 : decode cX4_at 14 = .ok (.getfield 7, 3) := by decide +kernel
theorem dX4_at_17 : decode cX4_at 17 = .ok (.iload_n 1, 1) := by decide +kernel
theorem dX4_at_18 : decode cX4_at 18 = .ok (.iaload, 1) := by decide +kernel
theorem dX4_at_19 : decode cX4_at 19 = .ok (.goto 4, 3) := by decide +kernel
theorem dX4_at_22 : decode cX4_at 22 = .ok (.iconst 0, 1) := by decide +kernel
theorem dX4_at_23 : decode cX4_at 23 = .ok (.ireturn, 1) := by decide +kernel
theorem dX4_put_0 : decode cX4_put 0 = .ok (.iload_n 1, 1) := by decide +kernel
theorem dX4_put_1 : decode cX4_put 1 = .ok (.ifCond .lt 19, 3) := by decide +kernel
theorem dX4_put_4 : decode cX4_put 4 = .ok (.iload_n 1, 1) := by decide +kernel
theorem dX4_put_5 : decode cX4_put 5 = .ok (.aload_n 0, 1) := by decide +kernel
theorem dX4_put_6 : decode cX4_put 6 = .ok (.getfield 7, 3) := by decide +kernel
theorem dX4_put_9 : decode cX4_put 9 = .ok (.arraylength, 1) := by decide +kernel
theorem dX4_put_10 : decode cX4_put 10 = .ok (.if_icmp .ge 10, 3) := by decide +kernel
theorem dX4_put_13 : decode cX4_put 13 = .ok (.aload_n 0, 1) := by decide +kernel
theorem dX4_put_14 : decode cX4_put 14 = .ok (.getfield 7, 3) := by decide +kernel
theorem dX4_put_17 : decode cX4_put 17 = .ok (.iload_n 1, 1) := by decide +kernel
theorem dX4_put_18 : decode cX4_put 18 = .ok (.iload_n 2, 1) := by decide +kernel
theorem dX4_put_19 : decode cX4_put 19 = .ok (.iastore, 1) := by decide +kernel
theorem dX4_put_20 : decode cX4_put 20 = .ok (.return_, 1) := by decide +kernel
theorem dX4_fill_0 : decode cX4_fill 0 = .ok (.iconst 0, 1) := by decide +kernel
theorem dX4_fill_1 : decode cX4_fill 1 = .ok (.istore_n 2, 1) := by decide +kernel
theorem dX4_fill_2 : decode cX4_fill 2 = .ok (.iload_n 2, 1) := by decide +kernel
theorem dX4_fill_3 : decode cX4_fill 3 = .ok (.aload_n 0, 1) := by decide +kernel
theorem dX4_fill_4 : decode cX4_fill 4 = .ok (.getfield 7, 3) := by decide +kernel
theorem dX4_fill_7 : decode cX4_fill 7 = .ok (.arraylength, 1) := by decide +kernel
theorem dX4_fill_8 : decode cX4_fill 8 = .ok (.if_icmp .ge 16, 3) := by decide +kernel
theorem dX4_fill_11 : decode cX4_fill 11 = .ok (.aload_n 0, 1) := by decide +kernel
theorem dX4_fill_12 : decode cX4_fill 12 = .ok (.getfield 7, 3) := by decide +kernel
theorem dX4_fill_15 : decode cX4_fill 15 = .ok (.iload_n 2, 1) := by decide +kernel
theorem dX4_fill_16 : decode cX4_fill 16 = .ok (.iload_n 1, 1) := by decide +kernel
theorem dX4_fill_17 : decode cX4_fill 17 = .ok (.iastore, 1) := by decide +kernel
theorem dX4_fill_18 : decode cX4_fill 18 = .ok (.iinc 2 1, 3) := by decide +kernel
theorem dX4_fill_21 : decode cX4_fill 21 = .ok (.goto (-19), 3) := by decide +kernel
theorem dX4_fill_24 : decode cX4_fill 24 = .ok (.return_, 1) := by decide +kernel
theorem dX5_init_0 : decode cX5_init 0 = .ok (.aload_n 0, 1) := by decide +kernel
theorem dX5_init_1 : decode cX5_init 1 = .ok (.invokespecial 3, 3) := by decide +kernel
theorem dX5_init_4 : decode cX5_init 4 = .ok (.aload_n 0, 1) := by decide +kernel
theorem dX5_init_5 : decode cX5_init 5 = .ok (.aload_n 1, 1) := by decide +kernel
theorem dX5_init_6 : decode cX5_init 6 = .ok (.putfield 9, 3) := by decide +kernel
theorem dX5_init_9 : decode cX5_init 9 = .ok (.return_, 1) := by decide +kernel
theorem dX5_has_0 : decode cX5_has 0 = .ok (.aload_n 0, 1) := by decide +kernel
theorem dX5_has_1 : decode cX5_has 1 = .ok (.getfield 9, 3) := by decide +kernel
theorem dX5_has_4 : decode cX5_has 4 = .ok (.iload_n 1, 1) := by decide +kernel
theorem dX5_has_5 : decode cX5_has 5 = .ok (.iload_n 2, 1) := by decide +kernel
theorem dX5_has_6 : decode cX5_has 6 = .ok (.invokevirtual 15, 3) := by decide +kernel
theorem dX5_has_9 : decode cX5_has 9 = .ok (.ifCond .eq 23, 3) := by decide +kernel
theorem dX5_has_12 : decode cX5_has 12 = .ok (.aload_n 0, 1) := by decide +kernel
theorem dX5_has_13 : decode cX5_has 13 = .ok (.getfield 9, 3) := by decide +kernel
theorem dX5_has_16 : decode cX5_has 16 = .ok (.iload_n 1, 1) := by decide +kernel
theorem dX5_has_17 : decode cX5_has 17 = .ok (.iconst 1, 1) := by decide +kernel
theorem dX5_has_18 : decode cX5_has 18 = .ok (.iadd, 1) := by decide +kernel
theorem dX5_has_19 : decode cX5_has 19 = .ok (.iload_n 2, 1) := by decide +kernel
theorem dX5_has_20 : decode cX5_has 20 = .ok (.iconst 1, 1) := by decide +kernel
theorem dX5_has_21 : decode cX5_has 21 = .ok (.iadd, 1) := by decide +kernel
theorem dX5_has_22 : decode cX5_has 22 = .ok (.invokevirtual 15, 3) := by decide +kernel
theorem dX5_has_25 : decode cX5_has 25 = .ok (.ifCond .eq 7, 3) := by decide +kernel
theorem dX5_has_28 : decode cX5_has 28 = .ok (.iconst 1, 1) := by decide +kernel
theorem dX5_has_29 : decode cX5_has 29 = .ok (.goto 4, 3) := by decide +kernel
theorem dX5_has_32 : decode cX5_has 32 = .ok (.iconst 0, 1) := by decide +kernel
theorem dX5_has_33 : decode cX5_has 33 = .ok (.ireturn, 1) := by decide +kernel
theorem dX5_at_0 : decode cX5_at 0 = .ok (.aload_n 0, 1) := by decide +kernel
theorem dX5_at_1 : decode cX5_at 1 = .ok (.iload_n 1, 1) := by decide +kernel
theorem dX5_at_2 : decode cX5_at 2 = .ok (.iload_n 2, 1) := by decide +kernel
theorem dX5_at_3 : decode cX5_at 3 = .ok (.iload_n 1, 1) := by decide +kernel
theorem dX5_at_4 : decode cX5_at 4 = .ok (.iconst 1, 1) := by decide +kernel
theorem dX5_at_5 : decode cX5_at 5 = .ok (.iadd, 1) := by decide +kernel
theorem dX5_at_6 : decode cX5_at 6 = .ok (.iload_n 2, 1) := by decide +kernel
theorem dX5_at_7 : decode cX5_at 7 = .ok (.iconst 1, 1) := by decide +kernel
theorem dX5_at_8 : decode cX5_at 8 = .ok (.iadd, 1) := by decide +kernel
theorem dX5_at_9 : decode cX5_at 9 = .ok (.invokevirtual 21, 3) := by decide +kernel
theorem dX5_at_12 : decode cX5_at 12 = .ok (.ireturn, 1) := by decide +kernel
theorem dX5_sum_0 : decode cX5_sum 0 = .ok (.iconst 0, 1) := by decide +kernel
theorem dX5_sum_1 : decode cX5_sum 1 = .ok (.istore 5, 2) := by decide +kernel
theorem dX5_sum_3 : decode cX5_sum 3 = .ok (.iload_n 2, 1) := by decide +kernel
theorem dX5_sum_4 : decode cX5_sum 4 = .ok (.istore 6, 2) := by decide +kernel
theorem dX5_sum_6 : decode cX5_sum 6 = .ok (.iload 6, 2) := by decide +kernel
theorem dX5_sum_8 : decode cX5_sum 8 = .ok (.iload 4, 2) := by decide +kernel
theorem dX5_sum_10 : decode cX5_sum 10 = .ok (.if_icmp .ge 37, 3) := by decide +kernel
theorem dX5_sum_13 : decode cX5_sum 13 = .ok (.iload_n 1, 1) := by decide +kernel
theorem dX5_sum_14 : decode cX5_sum 14 = .ok (.istore 7, 2) := by decide +kernel
theorem dX5_sum_16 : decode cX5_sum 16 = .ok (.iload 7, 2) := by decide +kernel
theorem dX5_sum_18 : decode cX5_sum 18 = .ok (.iload_n 3, 1) := by decide +kernel
theorem dX5_sum_19 : decode cX5_sum 19 = .ok (.if_icmp .ge 22, 3) := by decide +kernel
theorem dX5_sum_22 : decode cX5_sum 22 = .ok (.iload 5, 2) := by decide +kernel
theorem dX5_sum_24 : decode cX5_sum 24 = .ok (.aload_n 0, 1) := by decide +kernel
theorem dX5_sum_25 : decode cX5_sum 25 = .ok (.iload 7, 2) := by decide +kernel
theorem dX5_sum_27 : decode cX5_sum 27 = .ok (.iload 6, 2) := by decide +kernel
theorem dX5_sum_29 : decode cX5_sum 29 = .ok (.invokevirtual 25, 3) := by decide +kernel
theorem dX5_sum_32 : decode cX5_sum 32 = .ok (.iadd, 1) := by decide +kernel
theorem dX5_sum_33 : decode cX5_sum 33 = .ok (.istore 5, 2) := by decide +kernel
theorem dX5_sum_35 : decode cX5_sum 35 = .ok (.iinc 7 1, 3) := by decide +kernel
theorem dX5_sum_38 : decode cX5_sum 38 = .ok (.goto (-22), 3) := by decide +kernel
theorem dX5_sum_41 : decode cX5_sum 41 = .ok (.iinc 6 1, 3) := by decide +kernel
theorem dX5_sum_44 : decode cX5_sum 44 = .ok (.goto (-38), 3) := by decide +kernel
theorem dX5_sum_47 : decode cX5_sum 47 = .ok (.iload 5, 2) := by decide +kernel
theorem dX5_sum_49 : decode cX5_sum 49 = .ok (.ireturn, 1) := by decide +kernel
theorem dX5_around_0 : decode cX5_around 0 = .ok (.iconst 0, 1) := by decide +kernel
theorem dX5_around_1 : decode cX5_around 1 = .ok (.istore 5, 2) := by decide +kernel
theorem dX5_around_3 : decode cX5_around 3 = .ok (.iload_n 1, 1) := by decide +kernel
theorem dX5_around_4 : decode cX5_around 4 = .ok (.istore 6, 2) := by decide +kernel
theorem dX5_around_6 : decode cX5_around 6 = .ok (.iload 6, 2) := by decide +kernel
theorem dX5_around_8 : decode cX5_around 8 = .ok (.iload_n 3, 1) := by decide +kernel
theorem dX5_around_9 : decode cX5_around 9 = .ok (.if_icmp .ge 71, 3) := by decide +kernel
theorem dX5_around_12 : decode cX5_around 12 = .ok (.iload 5, 2) := by decide +kernel
theorem dX5_around_14 : decode cX5_around 14 = .ok (.aload_n 0, 1) := by decide +kernel
theorem dX5_around_15 : decode cX5_around 15 = .ok (.getfield 9, 3) := by decide +kernel
theorem dX5_around_18 : decode cX5_around 18 = .ok (.iload 6, 2) := by decide +kernel
theorem dX5_around_20 : decode cX5_around 20 = .ok (.iload_n 2, 1) := by decide +kernel
theorem dX5_around_21 : decode cX5_around 21 = .ok (.invokevirtual 29, 3) := by decide +kernel
theorem dX5_around_24 : decode cX5_around 24 = .ok (.aload_n 0, 1) := by decide +kernel
theorem dX5_around_25 : decode cX5_around 25 = .ok (.getfield 9, 3) := by decide +kernel
theorem dX5_around_28 : decode cX5_around 28 = .ok (.iload 6, 2) := by decide +kernel
theorem dX5_around_30 : decode cX5_around 30 = .ok (.iconst 1, 1) := by decide +kernel
theorem dX5_around_31 : decode cX5_around 31 = .ok (.iadd, 1) := by decide +kernel
theorem dX5_around_32 : decode cX5_around 32 = .ok (.iload_n 2, 1) := by decide +kernel
theorem dX5_around_33 : decode cX5_around 33 = .ok (.invokevirtual 29, 3) := by decide +kernel
theorem dX5_around_36 : decode cX5_around 36 = .ok (.invokestatic 32, 3) := by decide +kernel
theorem dX5_around_39 : decode cX5_around 39 = .ok (.iadd, 1) := by decide +kernel
theorem dX5_around_40 : decode cX5_around 40 = .ok (.istore 5, 2) := by decide +kernel
theorem dX5_around_42 : decode cX5_around 42 = .ok (.iload 5, 2) := by decide +kernel
theorem dX5_around_44 : decode cX5_around 44 = .ok (.aload_n 0, 1) := by decide +kernel
theorem dX5_around_45 : decode cX5_around 45 = .ok (.getfield 9, 3) := by decide +kernel
theorem dX5_around_48 : decode cX5_around 48 = .ok (.iload 6, 2) := by decide +kernel
theorem dX5_around_50 : decode cX5_around 50 = .ok (.iconst 1, 1) := by decide +kernel
theorem dX5_around_51 : decode cX5_around 51 = .ok (.iadd, 1) := by decide +kernel
theorem dX5_around_52 : decode cX5_around 52 = .ok (.iload 4, 2) := by decide +kernel
theorem dX5_around_54 : decode cX5_around 54 = .ok (.invokevirtual 29, 3) := by decide +kernel
theorem dX5_around_57 : decode cX5_around 57 = .ok (.aload_n 0, 1) := by decide +kernel
theorem dX5_around_58 : decode cX5_around 58 = .ok (.getfield 9, 3) := by decide +kernel
theorem dX5_around_61 : decode cX5_around 61 = .ok (.iload 6, 2) := by decide +kernel
theorem dX5_around_63 : decode cX5_around 63 = .ok (.iload 4, 2) := by decide +kernel
theorem dX5_around_65 : decode cX5_around 65 = .ok (.invokevirtual 29, 3) := by decide +kernel
theorem dX5_around_68 : decode cX5_around 68 = .ok (.invokestatic 32, 3) := by decide +kernel
theorem dX5_around_71 : decode cX5_around 71 = .ok (.iadd, 1) := by decide +kernel
theorem dX5_around_72 : decode cX5_around 72 = .ok (.istore 5, 2) := by decide +kernel
theorem dX5_around_74 : decode cX5_around 74 = .ok (.iinc 6 1, 3) := by decide +kernel
theorem dX5_around_77 : decode cX5_around 77 = .ok (.goto (-71), 3) := by decide +kernel
theorem dX5_around_80 : decode cX5_around 80 = .ok (.iload_n 2, 1) := by decide +kernel
theorem dX5_around_81 : decode cX5_around 81 = .ok (.istore 6, 2) := by decide +kernel
theorem dX5_around_83 : decode cX5_around 83 = .ok (.iload 6, 2) := by decide +kernel
theorem dX5_around_85 : decode cX5_around 85 = .ok (.iload 4, 2) := by decide +kernel
theorem dX5_around_87 : decode cX5_around 87 = .ok (.if_icmp .ge 69, 3) := by decide +kernel
theorem dX5_around_90 : decode cX5_around 90 = .ok (.iload 5, 2) := by decide +kernel
theorem dX5_around_92 : decode cX5_around 92 = .ok (.aload_n 0, 1) := by decide +kernel
theorem dX5_around_93 : decode cX5_around 93 = .ok (.getfield 9, 3) := by decide +kernel
theorem dX5_around_96 : decode cX5_around 96 = .ok (.iload_n 3, 1) := by decide +kernel
theorem dX5_around_97 : decode cX5_around 97 = .ok (.iload 6, 2) := by decide +kernel
theorem dX5_around_99 : decode cX5_around 99 = .ok (.invokevirtual 29, 3) := by decide +kernel
theorem dX5_around_102 : decode cX5_around 102 = .ok (.aload_n 0, 1) := by decide +kernel
theorem dX5_around_103 : decode cX5_around 103 = .ok (.getfield 9, 3) := by decide +kernel
theorem dX5_around_106 : decode cX5_around 106 = .ok (.iload_n 3, 1) := by decide +kernel
theorem dX5_around_107 : decode cX5_around 107 = .ok (.iload 6, 2) := by decide +kernel
theorem dX5_around_109 : decode cX5_around 109 = .ok (.iconst 1, 1) := by decide +kernel
theorem dX5_around_110 : decode cX5_around 110 = .ok (.iadd, 1) := by decide +kernel
theorem dX5_around_111 : decode cX5_around 111 = .ok (.invokevirtual 29, 3) := by decide +kernel
theorem dX5_around_114 : decode cX5_around 114 = .ok (.invokestatic 32, 3) := by decide +kernel
theorem dX5_around_117 : decode cX5_around 117 = .ok (.iadd, 1) := by decide +kernel
theorem dX5_around_118 : decode cX5_around 118 = .ok (.istore 5, 2) := by decide +kernel
theorem dX5_around_120 : decode cX5_around 120 = .ok (.iload 5, 2) := by decide +kernel
theorem dX5_around_122 : decode cX5_around 122 = .ok (.aload_n 0, 1) := by decide +kernel
theorem dX5_around_123 : decode cX5_around 123 = .ok (.getfield 9, 3) := by decide +kernel
theorem dX5_around_126 : decode cX5_around 126 = .ok (.iload_n 1, 1) := by decide +kernel
theorem dX5_around_127 : decode cX5_around 127 = .ok (.iload 6, 2) := by decide +kernel
theorem dX5_around_129 : decode cX5_around 129 = .ok (.iconst 1, 1) := by decide +kernel
theorem dX5_around_130 : decode cX5_around 130 = .ok (.iadd, 1) := by decide +kernel
theorem dX5_around_131 : decode cX5_around 131 = .ok (.invokevirtual 29, 3) := by decide +kernel
theorem dX5_around_134 : decode cX5_around 134 = .ok (.aload_n 0, 1) := by decide +kernel
theorem dX5_around_135 : decode cX5_around 135 = .ok (.getfield 9, 3) := by decide +kernel
theorem dX5_around_138 : decode cX5_around 138 = .ok (.iload_n 1, 1) := by decide +kernel
theorem dX5_around_139 : decode cX5_around 139 = .ok (.iload 6, 2) := by decide +kernel
theorem dX5_around_141 : decode cX5_around 141 = .ok (.invokevirtual 29, 3) := by decide +kernel
theorem dX5_around_144 : decode cX5_around 144 = .ok (.invokestatic 32, 3) := by decide +kernel
theorem dX5_around_147 : decode cX5_around 147 = .ok (.iadd, 1) := by decide +kernel
theorem dX5_around_148 : decode cX5_around 148 = .ok (.istore 5, 2) := by decide +kernel
theorem dX5_around_150 : decode cX5_around 150 = .ok (.iinc 6 1, 3) := by decide +kernel
theorem dX5_around_153 : decode cX5_around 153 = .ok (.goto (-70), 3) := by decide +kernel
theorem dX5_around_156 : decode cX5_around 156 = .ok (.iload 5, 2) := by decide +kernel
theorem dX5_around_158 : decode cX5_around 158 = .ok (.bipush 15, 2) := by decide +kernel
theorem dX5_around_160 : decode cX5_around 160 = .ok (.invokestatic 35, 3) := by decide +kernel
theorem dX5_around_163 : decode cX5_around 163 = .ok (.ireturn, 1) := by decide +kernel
theorem dX5_count_0 : decode cX5_count 0 = .ok (.iconst 0, 1) := by decide +kernel
theorem dX5_count_1 : decode cX5_count 1 = .ok (.istore_n 1, 1) := by decide +kernel
theorem dX5_count_2 : decode cX5_count 2 = .ok (.iconst 0, 1) := by decide +kernel
theorem dX5_count_3 : decode cX5_count 3 = .ok (.istore_n 2, 1) := by decide +kernel
theorem dX5_count_4 : decode cX5_count 4 = .ok (.iload_n 2, 1) := by decide +kernel
theorem dX5_count_5 : decode cX5_count 5 = .ok (.aload_n 0, 1) := by decide +kernel
theorem dX5_count_6 : decode cX5_count 6 = .ok (.getfield 9, 3) := by decide +kernel
theorem dX5_count_9 : decode cX5_count 9 = .ok (.getfield 40, 3) := by decide +kernel
theorem dX5_count_12 : decode cX5_count 12 = .ok (.iconst 1, 1) := by decide +kernel
theorem dX5_count_13 : decode cX5_count 13 = .ok (.isub, 1) := by decide +kernel
theorem dX5_count_14 : decode cX5_count 14 = .ok (.if_icmp .ge 42, 3) := by decide +kernel
theorem dX5_count_17 : decode cX5_count 17 = .ok (.iconst 0, 1) := by decide +kernel
theorem dX5_count_18 : decode cX5_count 18 = .ok (.istore_n 3, 1) := by decide +kernel
theorem dX5_count_19 : decode cX5_count 19 = .ok (.iload_n 3, 1) := by decide +kernel
theorem dX5_count_20 : decode cX5_count 20 = .ok (.aload_n 0, 1) := by decide +kernel
theorem dX5_count_21 : decode cX5_count 21 = .ok (.getfield 9, 3) := by decide +kernel
theorem dX5_count_24 : decode cX5_count 24 = .ok (.getfield 44, 3) := by decide +kernel
theorem dX5_count_27 : decode cX5_count 27 = .ok (.iconst 1, 1) := by decide +kernel
theorem dX5_count_28 : decode cX5_count 28 = .ok (.isub, 1) := by decide +kernel
theorem dX5_count_29 : decode cX5_count 29 = .ok (.if_icmp .ge 21, 3) := by decide +kernel
theorem dX5_count_32 : decode cX5_count 32 = .ok (.aload_n 0, 1) := by decide +kernel
theorem dX5_count_33 : decode cX5_count 33 = .ok (.iload_n 3, 1) := by decide +kernel
theorem dX5_count_34 : decode cX5_count 34 = .ok (.iload_n 2, 1) := by decide +kernel
theorem dX5_count_35 : decode cX5_count 35 = .ok (.invokevirtual 25, 3) := by decide +kernel
theorem dX5_count_38 : decode cX5_count 38 = .ok (.ifCond .eq 6, 3) := by decide +kernel
theorem dX5_count_41 : decode cX5_count 41 = .ok (.iinc 1 1, 3) := by decide +kernel
theorem dX5_count_44 : decode cX5_count 44 = .ok (.iinc 3 1, 3) := by decide +kernel
theorem dX5_count_47 : decode cX5_count 47 = .ok (.goto (-28), 3) := by decide +kernel
theorem dX5_count_50 : decode cX5_count 50 = .ok (.iinc 2 1, 3) := by decide +kernel
theorem dX5_count_53 : decode cX5_count 53 = .ok (.goto (-49), 3) := by decide +kernel
theorem dX5_count_56 : decode cX5_count 56 = .ok (.iload_n 1, 1) := by decide +kernel
theorem dX5_count_57 : decode cX5_count 57 = .ok (.ireturn, 1) := by decide +kernel
theorem dX5_find_0 : decode cX5_find 0 = .ok (.iconst 0, 1) := by decide +kernel
theorem dX5_find_1 : decode cX5_find 1 = .ok (.istore_n 2, 1) := by decide +kernel
theorem dX5_find_2 : decode cX5_find 2 = .ok (.iconst 0, 1) := by decide +kernel
theorem dX5_find_3 : decode cX5_find 3 = .ok (.istore_n 3, 1) := by decide +kernel
theorem dX5_find_4 : decode cX5_find 4 = .ok (.iload_n 3, 1) := by decide +kernel
theorem dX5_find_5 : decode cX5_find 5 = .ok (.aload_n 0, 1) := by decide +kernel
theorem dX5_find_6 : decode cX5_find 6 = .ok (.getfield 9, 3) := by decide +kernel
theorem dX5_find_9 : decode cX5_find 9 = .ok (.getfield 40, 3) := by decide +kernel
theorem dX5_find_12 : decode cX5_find 12 = .ok (.iconst 1, 1) := by decide +kernel
theorem dX5_find_13 : decode cX5_find 13 = .ok (.isub, 1) := by decide +kernel
theorem dX5_find_14 : decode cX5_find 14 = .ok (.if_icmp .ge 57, 3) := by decide +kernel
theorem dX5_find_17 : decode cX5_find 17 = .ok (.iconst 0, 1) := by decide +kernel
theorem dX5_find_18 : decode cX5_find 18 = .ok (.istore 4, 2) := by decide +kernel
theorem dX5_find_20 : decode cX5_find 20 = .ok (.iload 4, 2) := by decide +kernel
theorem dX5_find_22 : decode cX5_find 22 = .ok (.aload_n 0, 1) := by decide +kernel
theorem dX5_find_23 : decode cX5_find 23 = .ok (.getfield 9, 3) := by decide +kernel
theorem dX5_find_26 : decode cX5_find 26 = .ok (.getfield 44, 3) := by decide +kernel
theorem dX5_find_29 : decode cX5_find 29 = .ok (.iconst 1, 1) := by decide +kernel
theorem dX5_find_30 : decode cX5_find 30 = .ok (.isub, 1) := by decide +kernel
theorem dX5_find_31 : decode cX5_find 31 = .ok (.if_icmp .ge 34, 3) := by decide +kernel
theorem dX5_find_34 : decode cX5_find 34 = .ok (.aload_n 0, 1) := by decide +kernel
theorem dX5_find_35 : decode cX5_find 35 = .ok (.iload 4, 2) := by decide +kernel
theorem dX5_find_37 : decode cX5_find 37 = .ok (.iload_n 3, 1) := by decide +kernel
theorem dX5_find_38 : decode cX5_find 38 = .ok (.invokevirtual 25, 3) := by decide +kernel
theorem dX5_find_41 : decode cX5_find 41 = .ok (.ifCond .eq 18, 3) := by decide +kernel
theorem dX5_find_44 : decode cX5_find 44 = .ok (.iload_n 2, 1) := by decide +kernel
theorem dX5_find_45 : decode cX5_find 45 = .ok (.iload_n 1, 1) := by decide +kernel
theorem dX5_find_46 : decode cX5_find 46 = .ok (.if_icmp .ne 10, 3) := by decide +kernel
theorem dX5_find_49 : decode cX5_find 49 = .ok (.iload 4, 2) := by decide +kernel
theorem dX5_find_51 : decode cX5_find 51 = .ok (.iload_n 3, 1) := by decide +kernel
theorem dX5_find_52 : decode cX5_find 52 = .ok (.invokestatic 47, 3) := by decide +kernel
theorem dX5_find_55 : decode cX5_find 55 = .ok (.ireturn, 1) := by decide +kernel
theorem dX5_find_56 : decode cX5_find 56 = .ok (.iinc 2 1, 3) := by decide +kernel
theorem dX5_find_59 : decode cX5_find 59 = .ok (.iinc 4 1, 3) := by decide +kernel
theorem dX5_find_62 : decode cX5_find 62 = .ok (.goto (-42), 3) := by decide +kernel
theorem dX5_find_65 : decode cX5_find 65 = .ok (.iinc 3 1, 3) := by decide +kernel
theorem dX5_find_68 : decode cX5_find 68 = .ok (.goto (-64), 3) := by decide +kernel
theorem dX5_find_71 : decode cX5_find 71 = .ok (.iconst (-1), 1) := by decide +kernel
theorem dX5_find_72 : decode cX5_find 72 = .ok (.ireturn, 1) := by decide +kernel
theorem dX5_isGood_0 : decode cX5_isGood 0 = .ok (.iconst 0, 1) := by decide +kernel
theorem dX5_isGood_1 : decode cX5_isGood 1 = .ok (.istore_n 2, 1) := by decide +kernel
theorem dX5_isGood_2 : decode cX5_isGood 2 = .ok (.iload_n 2, 1) := by decide +kernel
theorem dX5_isGood_3 : decode cX5_isGood 3 = .ok (.aload_n 0, 1) := by decide +kernel
theorem dX5_isGood_4 : decode cX5_isGood 4 = .ok (.getfield 9, 3) := by decide +kernel
theorem dX5_isGood_7 : decode cX5_isGood 7 = .ok (.getfield 40, 3) := by decide +kernel
theorem dX5_isGood_10 : decode cX5_isGood 10 = .ok (.iconst 1, 1) := by decide +kernel
theorem dX5_isGood_11 : decode cX5_isGood 11 = .ok (.isub, 1) := by decide +kernel
theorem dX5_isGood_12 : decode cX5_isGood 12 = .ok (.if_icmp .ge 51, 3) := by decide +kernel
theorem dX5_isGood_15 : decode cX5_isGood 15 = .ok (.iconst 0, 1) := by decide +kernel
theorem dX5_isGood_16 : decode cX5_isGood 16 = .ok (.istore_n 3, 1) := by decide +kernel
theorem dX5_isGood_17 : decode cX5_isGood 17 = .ok (.iload_n 3, 1) := by decide +kernel
theorem dX5_isGood_18 : decode cX5_isGood 18 = .ok (.aload_n 0, 1) := by decide +kernel
theorem dX5_isGood_19 : decode cX5_isGood 19 = .ok (.getfield 9, 3) := by decide +kernel
theorem dX5_isGood_22 : decode cX5_isGood 22 = .ok (.getfield 44, 3) := by decide +kernel
theorem dX5_isGood_25 : decode cX5_isGood 25 = .ok (.iconst 1, 1) := by decide +kernel
theorem dX5_isGood_26 : decode cX5_isGood 26 = .ok (.isub, 1) := by decide +kernel
theorem dX5_isGood_27 : decode cX5_isGood 27 = .ok (.if_icmp .ge 30, 3) := by decide +kernel
theorem dX5_isGood_30 : decode cX5_isGood 30 = .ok (.aload_n 0, 1) := by decide +kernel
theorem dX5_isGood_31 : decode cX5_isGood 31 = .ok (.iload_n 3, 1) := by decide +kernel
theorem dX5_isGood_32 : decode cX5_isGood 32 = .ok (.iload_n 2, 1) := by decide +kernel
theorem dX5_isGood_33 : decode cX5_isGood 33 = .ok (.iload_n 1, 1) := by decide +kernel
theorem dX5_isGood_34 : decode cX5_isGood 34 = .ok (.invokevirtual 50, 3) := by decide +kernel
theorem dX5_isGood_37 : decode cX5_isGood 37 = .ok (.ifCond .eq 14, 3) := by decide +kernel
theorem dX5_isGood_40 : decode cX5_isGood 40 = .ok (.aload_n 0, 1) := by decide +kernel
theorem dX5_isGood_41 : decode cX5_isGood 41 = .ok (.iload_n 3, 1) := by decide +kernel
theorem dX5_isGood_42 : decode cX5_isGood 42 = .ok (.iload_n 2, 1) := by decide +kernel
theorem dX5_isGood_43 : decode cX5_isGood 43 = .ok (.invokevirtual 25, 3) := by decide +kernel
theorem dX5_isGood_46 : decode cX5_isGood 46 = .ok (.ifCond .eq 5, 3) := by decide +kernel
theorem dX5_isGood_49 : decode cX5_isGood 49 = .ok (.iconst 0, 1) := by decide +kernel
theorem dX5_isGood_50 : decode cX5_isGood 50 = .ok (.ireturn, 1) := by decide +kernel
theorem dX5_isGood_51 : decode cX5_isGood 51 = .ok (.iinc 3 1, 3) := by decide +kernel
theorem dX5_isGood_54 : decode cX5_isGood 54 = .ok (.goto (-37), 3) := by decide +kernel
theorem dX5_isGood_57 : decode cX5_isGood 57 = .ok (.iinc 2 1, 3) := by decide +kernel
theorem dX5_isGood_60 : decode cX5_isGood 60 = .ok (.goto (-58), 3) := by decide +kernel
theorem dX5_isGood_63 : decode cX5_isGood 63 = .ok (.iconst 1, 1) := by decide +kernel
theorem dX5_isGood_64 : decode cX5_isGood 64 = .ok (.ireturn, 1) := by decide +kernel
theorem dX5_touches_0 : decode cX5_touches 0 = .ok (.aload_n 0, 1) := by decide +kernel
theorem dX5_touches_1 : decode cX5_touches 1 = .ok (.getfield 9, 3) := by decide +kernel
theorem dX5_touches_4 : decode cX5_touches 4 = .ok (.iload_n 1, 1) := by decide +kernel
theorem dX5_touches_5 : decode cX5_touches 5 = .ok (.iload_n 2, 1) := by decide +kernel
theorem dX5_touches_6 : decode cX5_touches 6 = .ok (.invokevirtual 54, 3) := by decide +kernel
theorem dX5_touches_9 : decode cX5_touches 9 = .ok (.iload_n 3, 1) := by decide +kernel
theorem dX5_touches_10 : decode cX5_touches 10 = .ok (.if_icmp .eq 50, 3) := by decide +kernel
theorem dX5_touches_13 : decode cX5_touches 13 = .ok (.aload_n 0, 1) := by decide +kernel
theorem dX5_touches_14 : decode cX5_touches 14 = .ok (.getfield 9, 3) := by decide +kernel
theorem dX5_touches_17 : decode cX5_touches 17 = .ok (.iload_n 1, 1) := by decide +kernel
theorem dX5_touches_18 : decode cX5_touches 18 = .ok (.iconst 1, 1) := by decide +kernel
theorem dX5_touches_19 : decode cX5_touches 19 = .ok (.iadd, 1) := by decide +kernel
theorem dX5_touches_20 : decode cX5_touches 20 = .ok (.iload_n 2, 1) := by decide +kernel
theorem dX5_touches_21 : decode cX5_touches 21 = .ok (.invokevirtual 54, 3) := by decide +kernel
theorem dX5_touches_24 : decode cX5_touches 24 = .ok (.iload_n 3, 1) := by decide +kernel
theorem dX5_touches_25 : decode cX5_touches 25 = .ok (.if_icmp .eq 35, 3) := by decide +kernel
theorem dX5_touches_28 : decode cX5_touches 28 = .ok (.aload_n 0, 1) := by decide +kernel
theorem dX5_touches_29 : decode cX5_touches 29 = .ok (.getfield 9, 3) := by decide +kernel
theorem dX5_touches_32 : decode cX5_touches 32 = .ok (.iload_n 1, 1) := by decide +kernel
theorem dX5_touches_33 : decode cX5_touches 33 = .ok (.iload_n 2, 1) := by decide +kernel
theorem dX5_touches_34 : decode cX5_touches 34 = .ok (.iconst 1, 1) := by decide +kernel
theorem dX5_touches_35 : decode cX5_touches 35 = .ok (.iadd, 1) := by decide +kernel
theorem dX5_touches_36 : decode cX5_touches 36 = .ok (.invokevirtual 54, 3) := by decide +kernel
theorem dX5_touches_39 : decode cX5_touches 39 = .ok (.iload_n 3, 1) := by decide +kernel
theorem dX5_touches_40 : decode cX5_touches 40 = .ok (.if_icmp .eq 20, 3) := by decide +kernel
theorem dX5_touches_43 : decode cX5_touches 43 = .ok (.aload_n 0, 1) := by decide +kernel
theorem dX5_touches_44 : decode cX5_touches 44 = .ok (.getfield 9, 3) := by decide +kernel
theorem dX5_touches_47 : decode cX5_touches 47 = .ok (.iload_n 1, 1) := by decide +kernel
theorem dX5_touches_48 : decode cX5_touches 48 = .ok (.iconst 1, 1) := by decide +kernel
theorem dX5_touches_49 : decode cX5_touches 49 = .ok (.iadd, 1) := by decide +kernel
theorem dX5_touches_50 : decode cX5_touches 50 = .ok (.iload_n 2, 1) := by decide +kernel
theorem dX5_touches_51 : decode cX5_touches 51 = .ok (.iconst 1, 1) := by decide +kernel
theorem dX5_touches_52 : decode cX5_touches 52 = .ok (.iadd, 1) := by decide +kernel
theorem dX5_touches_53 : decode cX5_touches 53 = .ok (.invokevirtual 54, 3) := by decide +kernel
theorem dX5_touches_56 : decode cX5_touches 56 = .ok (.iload_n 3, 1) := by decide +kernel
theorem dX5_touches_57 : decode cX5_touches 57 = .ok (.if_icmp .ne 7, 3) := by decide +kernel
theorem dX5_touches_60 : decode cX5_touches 60 = .ok (.iconst 1, 1) := by decide +kernel
theorem dX5_touches_61 : decode cX5_touches 61 = .ok (.goto 4, 3) := by decide +kernel
theorem dX5_touches_64 : decode cX5_touches 64 = .ok (.iconst 0, 1) := by decide +kernel
theorem dX5_touches_65 : decode cX5_touches 65 = .ok (.ireturn, 1) := by decide +kernel
end
section
theorem dX6_init_0 : decode cX6_init 0 = .ok (.aload_n 0, 1) := by decide +kernel
theorem dX6_init_1 : decode cX6_init 1 = .ok (.invokespecial 3, 3) := by decide +kernel
theorem dX6_init_4 : decode cX6_init 4 = .ok (.aload_n 0, 1) := by decide +kernel
theorem dX6_init_5 : decode cX6_init 5 = .ok (.new 9, 3) := by decide +kernel
theorem dX6_init_8 : decode cX6_init 8 = .ok (.dup, 1) := by decide +kernel
theorem dX6_init_9 : decode cX6_init 9 = .ok (.invokespecial 11, 3) := by decide +kernel
theorem dX6_init_12 : decode cX6_init 12 = .ok (.putfield 12, 3) := by decide +kernel
theorem dX6_init_15 : decode cX6_init 15 = .ok (.aload_n 0, 1) := by decide +kernel
theorem dX6_init_16 : decode cX6_init 16 = .ok (.new 16, 3) := by decide +kernel
theorem dX6_init_19 : decode cX6_init 19 = .ok (.dup, 1) := by decide +kernel
theorem dX6_init_20 : decode cX6_init 20 = .ok (.aload_n 0, 1) := by decide +kernel
theorem dX6_init_21 : decode cX6_init 21 = .ok (.getfield 12, 3) := by decide +kernel
theorem dX6_init_24 : decode cX6_init 24 = .ok (.invokespecial 18, 3) := by decide +kernel
theorem dX6_init_27 : decode cX6_init 27 = .ok (.putfield 21, 3) := by decide +kernel
theorem dX6_init_30 : decode cX6_init 30 = .ok (.aload_n 0, 1) := by decide +kernel
theorem dX6_init_31 : decode cX6_init 31 = .ok (.new 25, 3) := by decide +kernel
theorem dX6_init_34 : decode cX6_init 34 = .ok (.dup, 1) := by decide +kernel
theorem dX6_init_35 : decode cX6_init 35 = .ok (.aload_n 0, 1) := by decide +kernel
theorem dX6_init_36 : decode cX6_init 36 = .ok (.getfield 21, 3) := by decide +kernel
theorem dX6_init_39 : decode cX6_init 39 = .ok (.invokespecial 27, 3) := by decide +kernel
theorem dX6_init_42 : decode cX6_init 42 = .ok (.putfield 30, 3) := by decide +kernel
theorem dX6_init_45 : decode cX6_init 45 = .ok (.aload_n 0, 1) := by decide +kernel
theorem dX6_init_46 : decode cX6_init 46 = .ok (.new 34, 3) := by decide +kernel
theorem dX6_init_49 : decode cX6_init 49 = .ok (.dup, 1) := by decide +kernel
theorem dX6_init_50 : decode cX6_init 50 = .ok (.invokespecial 36, 3) := by decide +kernel
theorem dX6_init_53 : decode cX6_init 53 = .ok (.putfield 37, 3) := by decide +kernel
theorem dX6_init_56 : decode cX6_init 56 = .ok (.aload_n 0, 1) := by decide +kernel
theorem dX6_init_57 : decode cX6_init 57 = .ok (.new 41, 3) := by decide +kernel
theorem dX6_init_60 : decode cX6_init 60 = .ok (.dup, 1) := by decide +kernel
theorem dX6_init_61 : decode cX6_init 61 = .ok (.invokespecial 43, 3) := by decide +kernel
theorem dX6_init_64 : decode cX6_init 64 = .ok (.putfield 44, 3) := by decide +kernel
theorem dX6_init_67 : decode cX6_init 67 = .ok (.aload_n 0, 1) := by decide +kernel
theorem dX6_init_68 : decode cX6_init 68 = .ok (.iconst 0, 1) := by decide +kernel
theorem dX6_init_69 : decode cX6_init 69 = .ok (.putfield 48, 3) := by decide +kernel
theorem dX6_init_72 : decode cX6_init 72 = .ok (.aload_n 0, 1) := by decide +kernel
theorem dX6_init_73 : decode cX6_init 73 = .ok (.iconst 4, 1) := by decide +kernel
theorem dX6_init_74 : decode cX6_init 74 = .ok (.iconst 4, 1) := by decide +kernel
theorem dX6_init_75 : decode cX6_init 75 = .ok (.invokevirtual 52, 3) := by decide +kernel
theorem dX6_init_78 : decode cX6_init 78 = .ok (.return_, 1) := by decide +kernel
theorem dX6_grid_0 : decode cX6_grid 0 = .ok (.iload_n 1, 1) := by decide +kernel
theorem dX6_grid_1 : decode cX6_grid 1 = .ok (.iconst 2, 1) := by decide +kernel
theorem dX6_grid_2 : decode cX6_grid 2 = .ok (.bipush 12, 2) := by decide +kernel
theorem dX6_grid_4 : decode cX6_grid 4 = .ok (.invokestatic 56, 3) := by decide +kernel
theorem dX6_grid_7 : decode cX6_grid 7 = .ok (.ifCond .eq 13, 3) := by decide +kernel
theorem dX6_grid_10 : decode cX6_grid 10 = .ok (.iload_n 2, 1) := by decide +kernel
theorem dX6_grid_11 : decode cX6_grid 11 = .ok (.iconst 2, 1) := by decide +kernel
theorem dX6_grid_12 : decode cX6_grid 12 = .ok (.bipush 12, 2) := by decide +kernel
theorem dX6_grid_14 : decode cX6_grid 14 = .ok (.invokestatic 56, 3) := by decide +kernel
theorem dX6_grid_17 : decode cX6_grid 17 = .ok (.ifCond .ne 13, 3) := by decide +kernel
theorem dX6_grid_20 : decode cX6_grid 20 = .ok (.new 60, 3) := by decide +kernel
theorem dX6_grid_23 : decode cX6_grid 23 = .ok (.dup, 1) := by decide +kernel
theorem dX6_grid_24 : decode cX6_grid 24 = .ok (.ldc 62, 2) := by decide +kernel
theorem dX6_grid_26 : decode cX6_grid 26 = .ok (.invokespecial 64, 3) := by decide +kernel
theorem dX6_grid_29 : decode cX6_grid 29 = .ok (.athrow, 1) := by decide +kernel
theorem dX6_grid_30 : decode cX6_grid 30 = .ok (.aload_n 0, 1) := by decide +kernel
theorem dX6_grid_31 : decode cX6_grid 31 = .ok (.iload_n 1, 1) := by decide +kernel
theorem dX6_grid_32 : decode cX6_grid 32 = .ok (.iload_n 2, 1) := by decide +kernel
theorem dX6_grid_33 : decode cX6_grid 33 = .ok (.invokevirtual 52, 3) := by decide +kernel
theorem dX6_grid_36 : decode cX6_grid 36 = .ok (.return_, 1) := by decide +kernel
theorem dX6_turn_0 : decode cX6_turn 0 = .ok (.aload_n 0, 1) := by decide +kernel
theorem dX6_turn_1 : decode cX6_turn 1 = .ok (.getfield 21, 3) := by decide +kernel
theorem dX6_turn_4 : decode cX6_turn 4 = .ok (.iload_n 1, 1) := by decide +kernel
theorem dX6_turn_5 : decode cX6_turn 5 = .ok (.iload_n 2, 1) := by decide +kernel
theorem dX6_turn_6 : decode cX6_turn 6 = .ok (.invokevirtual 77, 3) := by decide +kernel
theorem dX6_turn_9 : decode cX6_turn 9 = .ok (.ifCond .ne 13, 3) := by decide +kernel
theorem dX6_turn_12 : decode cX6_turn 12 = .ok (.new 81, 3) := by decide +kernel
theorem dX6_turn_15 : decode cX6_turn 15 = .ok (.dup, 1) := by decide +kernel
theorem dX6_turn_16 : decode cX6_turn 16 = .ok (.ldc 83, 2) := by decide +kernel
theorem dX6_turn_18 : decode cX6_turn 18 = .ok (.invokespecial 85, 3) := by decide +kernel
theorem dX6_turn_21 : decode cX6_turn 21 = .ok (.athrow, 1) := by decide +kernel
theorem dX6_turn_22 : decode cX6_turn 22 = .ok (.iload_n 3, 1) := by decide +kernel
theorem dX6_turn_23 : decode cX6_turn 23 = .ok (.invokestatic 86, 3) := by decide +kernel
theorem dX6_turn_26 : decode cX6_turn 26 = .ok (.ifCond .ne 13, 3) := by decide +kernel
theorem dX6_turn_29 : decode cX6_turn 29 = .ok (.new 60, 3) := by decide +kernel
theorem dX6_turn_32 : decode cX6_turn 32 = .ok (.dup, 1) := by decide +kernel
theorem dX6_turn_33 : decode cX6_turn 33 = .ok (.ldc 90, 2) := by decide +kernel
theorem dX6_turn_35 : decode cX6_turn 35 = .ok (.invokespecial 64, 3) := by decide +kernel
theorem dX6_turn_38 : decode cX6_turn 38 = .ok (.athrow, 1) := by decide +kernel
theorem dX6_turn_39 : decode cX6_turn 39 = .ok (.aload_n 0, 1) := by decide +kernel
theorem dX6_turn_40 : decode cX6_turn 40 = .ok (.getfield 21, 3) := by decide +kernel
theorem dX6_turn_43 : decode cX6_turn 43 = .ok (.iload_n 1, 1) := by decide +kernel
theorem dX6_turn_44 : decode cX6_turn 44 = .ok (.iload_n 2, 1) := by decide +kernel
theorem dX6_turn_45 : decode cX6_turn 45 = .ok (.invokevirtual 92, 3) := by decide +kernel
theorem dX6_turn_48 : decode cX6_turn 48 = .ok (.iconst 1, 1) := by decide +kernel
theorem dX6_turn_49 : decode cX6_turn 49 = .ok (.if_icmp .ne 13, 3) := by decide +kernel
theorem dX6_turn_52 : decode cX6_turn 52 = .ok (.new 95, 3) := by decide +kernel
theorem dX6_turn_55 : decode cX6_turn 55 = .ok (.dup, 1) := by decide +kernel
theorem dX6_turn_56 : decode cX6_turn 56 = .ok (.ldc 97, 2) := by decide +kernel
theorem dX6_turn_58 : decode cX6_turn 58 = .ok (.invokespecial 99, 3) := by decide +kernel
theorem dX6_turn_61 : decode cX6_turn 61 = .ok (.athrow, 1) := by decide +kernel
theorem dX6_turn_62 : decode cX6_turn 62 = .ok (.aload_n 0, 1) := by decide +kernel
theorem dX6_turn_63 : decode cX6_turn 63 = .ok (.aload_n 0, 1) := by decide +kernel
theorem dX6_turn_64 : decode cX6_turn 64 = .ok (.getfield 21, 3) := by decide +kernel
theorem dX6_turn_67 : decode cX6_turn 67 = .ok (.iload_n 1, 1) := by decide +kernel
theorem dX6_turn_68 : decode cX6_turn 68 = .ok (.iload_n 2, 1) := by decide +kernel
theorem dX6_turn_69 : decode cX6_turn 69 = .ok (.iload_n 3, 1) := by decide +kernel
theorem dX6_turn_70 : decode cX6_turn 70 = .ok (.invokevirtual 100, 3) := by decide +kernel
theorem dX6_turn_73 : decode cX6_turn 73 = .ok (.invokevirtual 73, 3) := by decide +kernel
theorem dX6_turn_76 : decode cX6_turn 76 = .ok (.ireturn, 1) := by decide +kernel
theorem dX6_anchor_0 : decode cX6_anchor 0 = .ok (.aload_n 0, 1) := by decide +kernel
theorem dX6_anchor_1 : decode cX6_anchor 1 = .ok (.getfield 21, 3) := by decide +kernel
theorem dX6_anchor_4 : decode cX6_anchor 4 = .ok (.iload_n 1, 1) := by decide +kernel
theorem dX6_anchor_5 : decode cX6_anchor 5 = .ok (.iload_n 2, 1) := by decide +kernel
theorem dX6_anchor_6 : decode cX6_anchor 6 = .ok (.invokevirtual 77, 3) := by decide +kernel
theorem dX6_anchor_9 : decode cX6_anchor 9 = .ok (.ifCond .ne 13, 3) := by decide +kernel
theorem dX6_anchor_12 : decode cX6_anchor 12 = .ok (.new 81, 3) := by decide +kernel
theorem dX6_anchor_15 : decode cX6_anchor 15 = .ok (.dup, 1) := by decide +kernel
theorem dX6_anchor_16 : decode cX6_anchor 16 = .ok (.ldc 83, 2) := by decide +kernel
theorem dX6_anchor_18 : decode cX6_anchor 18 = .ok (.invokespecial 85, 3) := by decide +kernel
theorem dX6_anchor_21 : decode cX6_anchor 21 = .ok (.athrow, 1) := by decide +kernel
theorem dX6_anchor_22 : decode cX6_anchor 22 = .ok (.iload_n 3, 1) := by decide +kernel
theorem dX6_anchor_23 : decode cX6_anchor 23 = .ok (.iconst 0, 1) := by decide +kernel
theorem dX6_anchor_24 : decode cX6_anchor 24 = .ok (.iconst 2, 1) := by decide +kernel
theorem dX6_anchor_25 : decode cX6_anchor 25 = .ok (.invokestatic 56, 3) := by decide +kernel
theorem dX6_anchor_28 : decode cX6_anchor 28 = .ok (.ifCond .eq 22, 3) := by decide +kernel
theorem dX6_anchor_31 : decode cX6_anchor 31 = .ok (.iload 4, 2) := by decide +kernel
theorem dX6_anchor_33 : decode cX6_anchor 33 = .ok (.invokestatic 86, 3) := by decide +kernel
theorem dX6_anchor_36 : decode cX6_anchor 36 = .ok (.ifCond .eq 14, 3) := by decide +kernel
theorem dX6_anchor_39 : decode cX6_anchor 39 = .ok (.iload 5, 2) := by decide +kernel
theorem dX6_anchor_41 : decode cX6_anchor 41 = .ok (.iconst 1, 1) := by decide +kernel
theorem dX6_anchor_42 : decode cX6_anchor 42 = .ok (.bipush 100, 2) := by decide +kernel
theorem dX6_anchor_44 : decode cX6_anchor 44 = .ok (.invokestatic 56, 3) := by decide +kernel
theorem dX6_anchor_47 : decode cX6_anchor 47 = .ok (.ifCond .ne 13, 3) := by decide +kernel
theorem dX6_anchor_50 : decode cX6_anchor 50 = .ok (.new 60, 3) := by decide +kernel
theorem dX6_anchor_53 : decode cX6_anchor 53 = .ok (.dup, 1) := by decide +kernel
theorem dX6_anchor_54 : decode cX6_anchor 54 = .ok (.ldc 104, 2) := by decide +kernel
theorem dX6_anchor_56 : decode cX6_anchor 56 = .ok (.invokespecial 64, 3) := by decide +kernel
theorem dX6_anchor_59 : decode cX6_anchor 59 = .ok (.athrow, 1) := by decide +kernel
theorem dX6_anchor_60 : decode cX6_anchor 60 = .ok (.aload_n 0, 1) := by decide +kernel
theorem dX6_anchor_61 : decode cX6_anchor 61 = .ok (.aload_n 0, 1) := by decide +kernel
theorem dX6_anchor_62 : decode cX6_anchor 62 = .ok (.getfield 21, 3) := by decide +kernel
theorem dX6_anchor_65 : decode cX6_anchor 65 = .ok (.iload_n 1, 1) := by decide +kernel
theorem dX6_anchor_66 : decode cX6_anchor 66 = .ok (.iload_n 2, 1) := by decide +kernel
theorem dX6_anchor_67 : decode cX6_anchor 67 = .ok (.iload_n 3, 1) := by decide +kernel
theorem dX6_anchor_68 : decode cX6_anchor 68 = .ok (.iload 4, 2) := by decide +kernel
theorem dX6_anchor_70 : decode cX6_anchor 70 = .ok (.iload 5, 2) := by decide +kernel
theorem dX6_anchor_72 : decode cX6_anchor 72 = .ok (.invokevirtual 106, 3) := by decide +kernel
theorem dX6_anchor_75 : decode cX6_anchor 75 = .ok (.invokevirtual 73, 3) := by decide +kernel
theorem dX6_anchor_78 : decode cX6_anchor 78 = .ok (.ireturn, 1) := by decide +kernel
theorem dX6_pixel_0 : decode cX6_pixel 0 = .ok (.aload_n 0, 1) := by decide +kernel
theorem dX6_pixel_1 : decode cX6_pixel 1 = .ok (.getfield 21, 3) := by decide +kernel
theorem dX6_pixel_4 : decode cX6_pixel 4 = .ok (.iload_n 1, 1) := by decide +kernel
theorem dX6_pixel_5 : decode cX6_pixel 5 = .ok (.iload_n 2, 1) := by decide +kernel
theorem dX6_pixel_6 : decode cX6_pixel 6 = .ok (.invokevirtual 77, 3) := by decide +kernel
theorem dX6_pixel_9 : decode cX6_pixel 9 = .ok (.ifCond .ne 13, 3) := by decide +kernel
theorem dX6_pixel_12 : decode cX6_pixel 12 = .ok (.new 81, 3) := by decide +kernel
theorem dX6_pixel_15 : decode cX6_pixel 15 = .ok (.dup, 1) := by decide +kernel
theorem dX6_pixel_16 : decode cX6_pixel 16 = .ok (.ldc 83, 2) := by decide +kernel
theorem dX6_pixel_18 : decode cX6_pixel 18 = .ok (.invokespecial 85, 3) := by decide +kernel
theorem dX6_pixel_21 : decode cX6_pixel 21 = .ok (.athrow, 1) := by decide +kernel
theorem dX6_pixel_22 : decode cX6_pixel 22 = .ok (.iload_n 3, 1) := by decide +kernel
theorem dX6_pixel_23 : decode cX6_pixel 23 = .ok (.iconst 1, 1) := by decide +kernel
theorem dX6_pixel_24 : decode cX6_pixel 24 = .ok (.bipush 12, 2) := by decide +kernel
theorem dX6_pixel_26 : decode cX6_pixel 26 = .ok (.invokestatic 56, 3) := by decide +kernel
theorem dX6_pixel_29 : decode cX6_pixel 29 = .ok (.ifCond .eq 14, 3) := by decide +kernel
theorem dX6_pixel_32 : decode cX6_pixel 32 = .ok (.iload 4, 2) := by decide +kernel
theorem dX6_pixel_34 : decode cX6_pixel 34 = .ok (.iconst 1, 1) := by decide +kernel
theorem dX6_pixel_35 : decode cX6_pixel 35 = .ok (.bipush 12, 2) := by decide +kernel
theorem dX6_pixel_37 : decode cX6_pixel 37 = .ok (.invokestatic 56, 3) := by decide +kernel
theorem dX6_pixel_40 : decode cX6_pixel 40 = .ok (.ifCond .ne 13, 3) := by decide +kernel
theorem dX6_pixel_43 : decode cX6_pixel 43 = .ok (.new 60, 3) := by decide +kernel
theorem dX6_pixel_46 : decode cX6_pixel 46 = .ok (.dup, 1) := by decide +kernel
theorem dX6_pixel_47 : decode cX6_pixel 47 = .ok (.ldc 110, 2) := by decide +kernel
theorem dX6_pixel_49 : decode cX6_pixel 49 = .ok (.invokespecial 64, 3) := by decide +kernel
theorem dX6_pixel_52 : decode cX6_pixel 52 = .ok (.athrow, 1) := by decide +kernel
theorem dX6_pixel_53 : decode cX6_pixel 53 = .ok (.aload_n 0, 1) := by decide +kernel
theorem dX6_pixel_54 : decode cX6_pixel 54 = .ok (.getfield 21, 3) := by decide +kernel
theorem dX6_pixel_57 : decode cX6_pixel 57 = .ok (.iload_n 1, 1) := by decide +kernel
theorem dX6_pixel_58 : decode cX6_pixel 58 = .ok (.iload_n 3, 1) := by decide +kernel
theorem dX6_pixel_59 : decode cX6_pixel 59 = .ok (.iadd, 1) := by decide +kernel
theorem dX6_pixel_60 : decode cX6_pixel 60 = .ok (.iconst 1, 1) := by decide +kernel
theorem dX6_pixel_61 : decode cX6_pixel 61 = .ok (.isub, 1) := by decide +kernel
theorem dX6_pixel_62 : decode cX6_pixel 62 = .ok (.iload_n 2, 1) := by decide +kernel
theorem dX6_pixel_63 : decode cX6_pixel 63 = .ok (.iload 4, 2) := by decide +kernel
theorem dX6_pixel_65 : decode cX6_pixel 65 = .ok (.iadd, 1) := by decide +kernel
theorem dX6_pixel_66 : decode cX6_pixel 66 = .ok (.iconst 1, 1) := by decide +kernel
theorem dX6_pixel_67 : decode cX6_pixel 67 = .ok (.isub, 1) := by decide +kernel
theorem dX6_pixel_68 : decode cX6_pixel 68 = .ok (.invokevirtual 77, 3) := by decide +kernel
theorem dX6_pixel_71 : decode cX6_pixel 71 = .ok (.ifCond .ne 13, 3) := by decide +kernel
theorem dX6_pixel_74 : decode cX6_pixel 74 = .ok (.new 60, 3) := by decide +kernel
theorem dX6_pixel_77 : decode cX6_pixel 77 = .ok (.dup, 1) := by decide +kernel
theorem dX6_pixel_78 : decode cX6_pixel 78 = .ok (.ldc 112, 2) := by decide +kernel
theorem dX6_pixel_80 : decode cX6_pixel 80 = .ok (.invokespecial 64, 3) := by decide +kernel
theorem dX6_pixel_83 : decode cX6_pixel 83 = .ok (.athrow, 1) := by decide +kernel
theorem dX6_pixel_84 : decode cX6_pixel 84 = .ok (.aload_n 0, 1) := by decide +kernel
theorem dX6_pixel_85 : decode cX6_pixel 85 = .ok (.getfield 12, 3) := by decide +kernel
theorem dX6_pixel_88 : decode cX6_pixel 88 = .ok (.getfield 114, 3) := by decide +kernel
theorem dX6_pixel_91 : decode cX6_pixel 91 = .ok (.bipush 8, 2) := by decide +kernel
theorem dX6_pixel_93 : decode cX6_pixel 93 = .ok (.if_icmp .ge 18, 3) := by decide +kernel
theorem dX6_pixel_96 : decode cX6_pixel 96 = .ok (.aload_n 0, 1) := by decide +kernel
theorem dX6_pixel_97 : decode cX6_pixel 97 = .ok (.getfield 21, 3) := by decide +kernel
theorem dX6_pixel_100 : decode cX6_pixel 100 = .ok (.iload_n 1, 1) := by decide +kernel
theorem dX6_pixel_101 : decode cX6_pixel 101 = .ok (.iload_n 2, 1) := by decide +kernel
theorem dX6_pixel_102 : decode cX6_pixel 102 = .ok (.iload_n 3, 1) := by decide +kernel
theorem dX6_pixel_103 : decode cX6_pixel 103 = .ok (.iload 4, 2) := by decide +kernel
theorem dX6_pixel_105 : decode cX6_pixel 105 = .ok (.invokevirtual 117, 3) := by decide +kernel
theorem dX6_pixel_108 : decode cX6_pixel 108 = .ok (.ifCond .eq 13, 3) := by decide +kernel
theorem dX6_pixel_111 : decode cX6_pixel 111 = .ok (.new 95, 3) := by decide +kernel
theorem dX6_pixel_114 : decode cX6_pixel 114 = .ok (.dup, 1) := by decide +kernel
theorem dX6_pixel_115 : decode cX6_pixel 115 = .ok (.ldc 121, 2) := by decide +kernel
theorem dX6_pixel_117 : decode cX6_pixel 117 = .ok (.invokespecial 99, 3) := by decide +kernel
theorem dX6_pixel_120 : decode cX6_pixel 120 = .ok (.athrow, 1) := by decide +kernel
theorem dX6_pixel_121 : decode cX6_pixel 121 = .ok (.aload_n 0, 1) := by decide +kernel
theorem dX6_pixel_122 : decode cX6_pixel 122 = .ok (.getfield 12, 3) := by decide +kernel
theorem dX6_pixel_125 : decode cX6_pixel 125 = .ok (.iload_n 1, 1) := by decide +kernel
theorem dX6_pixel_126 : decode cX6_pixel 126 = .ok (.iload_n 2, 1) := by decide +kernel
theorem dX6_pixel_127 : decode cX6_pixel 127 = .ok (.iload_n 3, 1) := by decide +kernel
theorem dX6_pixel_128 : decode cX6_pixel 128 = .ok (.iload 4, 2) := by decide +kernel
theorem dX6_pixel_130 : decode cX6_pixel 130 = .ok (.invokevirtual 123, 3) := by decide +kernel
theorem dX6_pixel_133 : decode cX6_pixel 133 = .ok (.istore 5, 2) := by decide +kernel
theorem dX6_pixel_135 : decode cX6_pixel 135 = .ok (.aload_n 0, 1) := by decide +kernel
theorem dX6_pixel_136 : decode cX6_pixel 136 = .ok (.getfield 21, 3) := by decide +kernel
theorem dX6_pixel_139 : decode cX6_pixel 139 = .ok (.iload_n 1, 1) := by decide +kernel
theorem dX6_pixel_140 : decode cX6_pixel 140 = .ok (.iload_n 2, 1) := by decide +kernel
theorem dX6_pixel_141 : decode cX6_pixel 141 = .ok (.iload_n 3, 1) := by decide +kernel
theorem dX6_pixel_142 : decode cX6_pixel 142 = .ok (.iload 4, 2) := by decide +kernel
theorem dX6_pixel_144 : decode cX6_pixel 144 = .ok (.iload 5, 2) := by decide +kernel
theorem dX6_pixel_146 : decode cX6_pixel 146 = .ok (.invokevirtual 127, 3) := by decide +kernel
theorem dX6_pixel_149 : decode cX6_pixel 149 = .ok (.iload 5, 2) := by decide +kernel
theorem dX6_pixel_151 : decode cX6_pixel 151 = .ok (.ireturn, 1) := by decide +kernel
theorem dX6_drive_0 : decode cX6_drive 0 = .ok (.aload_n 0, 1) := by decide +kernel
theorem dX6_drive_1 : decode cX6_drive 1 = .ok (.getfield 12, 3) := by decide +kernel
theorem dX6_drive_4 : decode cX6_drive 4 = .ok (.iload_n 1, 1) := by decide +kernel
theorem dX6_drive_5 : decode cX6_drive 5 = .ok (.invokevirtual 131, 3) := by decide +kernel
theorem dX6_drive_8 : decode cX6_drive 8 = .ok (.ifCond .ne 13, 3) := by decide +kernel
theorem dX6_drive_11 : decode cX6_drive 11 = .ok (.new 81, 3) := by decide +kernel
theorem dX6_drive_14 : decode cX6_drive 14 = .ok (.dup, 1) := by decide +kernel
theorem dX6_drive_15 : decode cX6_drive 15 = .ok (.ldc 133, 2) := by decide +kernel
theorem dX6_drive_17 : decode cX6_drive 17 = .ok (.invokespecial 85, 3) := by decide +kernel
theorem dX6_drive_20 : decode cX6_drive 20 = .ok (.athrow, 1) := by decide +kernel
theorem dX6_drive_21 : decode cX6_drive 21 = .ok (.iload_n 2, 1) := by decide +kernel
theorem dX6_drive_22 : decode cX6_drive 22 = .ok (.invokestatic 86, 3) := by decide +kernel
theorem dX6_drive_25 : decode cX6_drive 25 = .ok (.ifCond .eq 13, 3) := by decide +kernel
theorem dX6_drive_28 : decode cX6_drive 28 = .ok (.iload_n 3, 1) := by decide +kernel
theorem dX6_drive_29 : decode cX6_drive 29 = .ok (.iconst 0, 1) := by decide +kernel
theorem dX6_drive_30 : decode cX6_drive 30 = .ok (.bipush 100, 2) := by decide +kernel
theorem dX6_drive_32 : decode cX6_drive 32 = .ok (.invokestatic 56, 3) := by decide +kernel
theorem dX6_drive_35 : decode cX6_drive 35 = .ok (.ifCond .ne 13, 3) := by decide +kernel
theorem dX6_drive_38 : decode cX6_drive 38 = .ok (.new 60, 3) := by decide +kernel
theorem dX6_drive_41 : decode cX6_drive 41 = .ok (.dup, 1) := by decide +kernel
theorem dX6_drive_42 : decode cX6_drive 42 = .ok (.ldc 135, 2) := by decide +kernel
theorem dX6_drive_44 : decode cX6_drive 44 = .ok (.invokespecial 64, 3) := by decide +kernel
theorem dX6_drive_47 : decode cX6_drive 47 = .ok (.athrow, 1) := by decide +kernel
theorem dX6_drive_48 : decode cX6_drive 48 = .ok (.aload_n 0, 1) := by decide +kernel
theorem dX6_drive_49 : decode cX6_drive 49 = .ok (.aload_n 0, 1) := by decide +kernel
theorem dX6_drive_50 : decode cX6_drive 50 = .ok (.getfield 21, 3) := by decide +kernel
theorem dX6_drive_53 : decode cX6_drive 53 = .ok (.iload_n 1, 1) := by decide +kernel
theorem dX6_drive_54 : decode cX6_drive 54 = .ok (.iload_n 2, 1) := by decide +kernel
theorem dX6_drive_55 : decode cX6_drive 55 = .ok (.iload_n 3, 1) := by decide +kernel
theorem dX6_drive_56 : decode cX6_drive 56 = .ok (.invokevirtual 137, 3) := by decide +kernel
theorem dX6_drive_59 : decode cX6_drive 59 = .ok (.invokevirtual 73, 3) := by decide +kernel
theorem dX6_drive_62 : decode cX6_drive 62 = .ok (.ireturn, 1) := by decide +kernel
theorem dX6_program_0 : decode cX6_program 0 = .ok (.aload_n 0, 1) := by decide +kernel
theorem dX6_program_1 : decode cX6_program 1 = .ok (.getfield 12, 3) := by decide +kernel
theorem dX6_program_4 : decode cX6_program 4 = .ok (.iload_n 1, 1) := by decide +kernel
theorem dX6_program_5 : decode cX6_program 5 = .ok (.invokevirtual 131, 3) := by decide +kernel
theorem dX6_program_8 : decode cX6_program 8 = .ok (.ifCond .ne 13, 3) := by decide +kernel
theorem dX6_program_11 : decode cX6_program 11 = .ok (.new 81, 3) := by decide +kernel
theorem dX6_program_14 : decode cX6_program 14 = .ok (.dup, 1) := by decide +kernel
theorem dX6_program_15 : decode cX6_program 15 = .ok (.ldc 133, 2) := by decide +kernel
theorem dX6_program_17 : decode cX6_program 17 = .ok (.invokespecial 85, 3) := by decide +kernel
theorem dX6_program_20 : decode cX6_program 20 = .ok (.athrow, 1) := by decide +kernel
theorem dX6_program_21 : decode cX6_program 21 = .ok (.iload_n 2, 1) := by decide +kernel
theorem dX6_program_22 : decode cX6_program 22 = .ok (.aload_n 0, 1) := by decide +kernel
theorem dX6_program_23 : decode cX6_program 23 = .ok (.getfield 140, 3) := by decide +kernel
theorem dX6_program_26 : decode cX6_program 26 = .ok (.if_icmp .le 10, 3) := by decide +kernel
theorem dX6_program_29 : decode cX6_program 29 = .ok (.iload_n 2, 1) := by decide +kernel
theorem dX6_program_30 : decode cX6_program 30 = .ok (.sipush 2000, 3) := by decide +kernel
theorem dX6_program_33 : decode cX6_program 33 = .ok (.if_icmp .le 13, 3) := by decide +kernel
theorem dX6_program_36 : decode cX6_program 36 = .ok (.new 60, 3) := by decide +kernel
theorem dX6_program_39 : decode cX6_program 39 = .ok (.dup, 1) := by decide +kernel
theorem dX6_program_40 : decode cX6_program 40 = .ok (.ldc 143, 2) := by decide +kernel
theorem dX6_program_42 : decode cX6_program 42 = .ok (.invokespecial 64, 3) := by decide +kernel
theorem dX6_program_45 : decode cX6_program 45 = .ok (.athrow, 1) := by decide +kernel
theorem dX6_program_46 : decode cX6_program 46 = .ok (.iload_n 3, 1) := by decide +kernel
theorem dX6_program_47 : decode cX6_program 47 = .ok (.invokestatic 86, 3) := by decide +kernel
theorem dX6_program_50 : decode cX6_program 50 = .ok (.ifCond .eq 14, 3) := by decide +kernel
theorem dX6_program_53 : decode cX6_program 53 = .ok (.iload 4, 2) := by decide +kernel
theorem dX6_program_55 : decode cX6_program 55 = .ok (.iconst 0, 1) := by decide +kernel
theorem dX6_program_56 : decode cX6_program 56 = .ok (.bipush 100, 2) := by decide +kernel
theorem dX6_program_58 : decode cX6_program 58 = .ok (.invokestatic 56, 3) := by decide +kernel
theorem dX6_program_61 : decode cX6_program 61 = .ok (.ifCond .ne 13, 3) := by decide +kernel
theorem dX6_program_64 : decode cX6_program 64 = .ok (.new 60, 3) := by decide +kernel
theorem dX6_program_67 : decode cX6_program 67 = .ok (.dup, 1) := by decide +kernel
theorem dX6_program_68 : decode cX6_program 68 = .ok (.ldc 135, 2) := by decide +kernel
theorem dX6_program_70 : decode cX6_program 70 = .ok (.invokespecial 64, 3) := by decide +kernel
theorem dX6_program_73 : decode cX6_program 73 = .ok (.athrow, 1) := by decide +kernel
theorem dX6_program_74 : decode cX6_program 74 = .ok (.aload_n 0, 1) := by decide +kernel
theorem dX6_program_75 : decode cX6_program 75 = .ok (.getfield 37, 3) := by decide +kernel
theorem dX6_program_78 : decode cX6_program 78 = .ok (.getfield 145, 3) := by decide +kernel
theorem dX6_program_81 : decode cX6_program 81 = .ok (.bipush 40, 2) := by decide +kernel
theorem dX6_program_83 : decode cX6_program 83 = .ok (.if_icmp .lt 13, 3) := by decide +kernel
theorem dX6_program_86 : decode cX6_program 86 = .ok (.new 95, 3) := by decide +kernel
theorem dX6_program_89 : decode cX6_program 89 = .ok (.dup, 1) := by decide +kernel
theorem dX6_program_90 : decode cX6_program 90 = .ok (.ldc 146, 2) := by decide +kernel
theorem dX6_program_92 : decode cX6_program 92 = .ok (.invokespecial 99, 3) := by decide +kernel
theorem dX6_program_95 : decode cX6_program 95 = .ok (.athrow, 1) := by decide +kernel
theorem dX6_program_96 : decode cX6_program 96 = .ok (.aload_n 0, 1) := by decide +kernel
theorem dX6_program_97 : decode cX6_program 97 = .ok (.getfield 37, 3) := by decide +kernel
theorem dX6_program_100 : decode cX6_program 100 = .ok (.iload_n 1, 1) := by decide +kernel
theorem dX6_program_101 : decode cX6_program 101 = .ok (.iload_n 2, 1) := by decide +kernel
theorem dX6_program_102 : decode cX6_program 102 = .ok (.iload_n 3, 1) := by decide +kernel
theorem dX6_program_103 : decode cX6_program 103 = .ok (.iload 4, 2) := by decide +kernel
theorem dX6_program_105 : decode cX6_program 105 = .ok (.invokevirtual 148, 3) := by decide +kernel
theorem dX6_program_108 : decode cX6_program 108 = .ok (.ireturn, 1) := by decide +kernel
theorem dX6_tick_0 : decode cX6_tick 0 = .ok (.iload_n 1, 1) := by decide +kernel
theorem dX6_tick_1 : decode cX6_tick 1 = .ok (.iconst 1, 1) := by decide +kernel
theorem dX6_tick_2 : decode cX6_tick 2 = .ok (.bipush 50, 2) := by decide +kernel
theorem dX6_tick_4 : decode cX6_tick 4 = .ok (.invokestatic 56, 3) := by decide +kernel
theorem dX6_tick_7 : decode cX6_tick 7 = .ok (.ifCond .ne 13, 3) := by decide +kernel
theorem dX6_tick_10 : decode cX6_tick 10 = .ok (.new 60, 3) := by decide +kernel
theorem dX6_tick_13 : decode cX6_tick 13 = .ok (.dup, 1) := by decide +kernel
theorem dX6_tick_14 : decode cX6_tick 14 = .ok (.ldc 151, 2) := by decide +kernel
theorem dX6_tick_16 : decode cX6_tick 16 = .ok (.invokespecial 64, 3) := by decide +kernel
theorem dX6_tick_19 : decode cX6_tick 19 = .ok (.athrow, 1) := by decide +kernel
theorem dX6_tick_20 : decode cX6_tick 20 = .ok (.aload_n 0, 1) := by decide +kernel
theorem dX6_tick_21 : decode cX6_tick 21 = .ok (.getfield 140, 3) := by decide +kernel
theorem dX6_tick_24 : decode cX6_tick 24 = .ok (.iload_n 1, 1) := by decide +kernel
theorem dX6_tick_25 : decode cX6_tick 25 = .ok (.iadd, 1) := by decide +kernel
theorem dX6_tick_26 : decode cX6_tick 26 = .ok (.sipush 2000, 3) := by decide +kernel
theorem dX6_tick_29 : decode cX6_tick 29 = .ok (.if_icmp .le 13, 3) := by decide +kernel
theorem dX6_tick_32 : decode cX6_tick 32 = .ok (.new 95, 3) := by decide +kernel
theorem dX6_tick_35 : decode cX6_tick 35 = .ok (.dup, 1) := by decide +kernel
theorem dX6_tick_36 : decode cX6_tick 36 = .ok (.ldc 153, 2) := by decide +kernel
theorem dX6_tick_38 : decode cX6_tick 38 = .ok (.invokespecial 99, 3) := by decide +kernel
theorem dX6_tick_41 : decode cX6_tick 41 = .ok (.athrow, 1) := by decide +kernel
theorem dX6_tick_42 : decode cX6_tick 42 = .ok (.aload_n 0, 1) := by decide +kernel
theorem dX6_tick_43 : decode cX6_tick 43 = .ok (.getfield 155, 3) := by decide +kernel
theorem dX6_tick_46 : decode cX6_tick 46 = .ok (.istore_n 2, 1) := by decide +kernel
theorem dX6_tick_47 : decode cX6_tick 47 = .ok (.iconst 0, 1) := by decide +kernel
theorem dX6_tick_48 : decode cX6_tick 48 = .ok (.istore_n 3, 1) := by decide +kernel
theorem dX6_tick_49 : decode cX6_tick 49 = .ok (.iload_n 3, 1) := by decide +kernel
theorem dX6_tick_50 : decode cX6_tick 50 = .ok (.iload_n 1, 1) := by decide +kernel
theorem dX6_tick_51 : decode cX6_tick 51 = .ok (.if_icmp .ge 59, 3) := by decide +kernel
theorem dX6_tick_54 : decode cX6_tick 54 = .ok (.aload_n 0, 1) := by decide +kernel
theorem dX6_tick_55 : decode cX6_tick 55 = .ok (.dup, 1) := by decide +kernel
theorem dX6_tick_56 : decode cX6_tick 56 = .ok (.getfield 140, 3) := by decide +kernel
theorem dX6_tick_59 : decode cX6_tick 59 = .ok (.iconst 1, 1) := by decide +kernel
theorem dX6_tick_60 : decode cX6_tick 60 = .ok (.iadd, 1) := by decide +kernel
theorem dX6_tick_61 : decode cX6_tick 61 = .ok (.putfield 140, 3) := by decide +kernel
theorem dX6_tick_64 : decode cX6_tick 64 = .ok (.aload_n 0, 1) := by decide +kernel
theorem dX6_tick_65 : decode cX6_tick 65 = .ok (.aload_n 0, 1) := by decide +kernel
theorem dX6_tick_66 : decode cX6_tick 66 = .ok (.getfield 37, 3) := by decide +kernel
theorem dX6_tick_69 : decode cX6_tick 69 = .ok (.aload_n 0, 1) := by decide +kernel
theorem dX6_tick_70 : decode cX6_tick 70 = .ok (.getfield 140, 3) := by decide +kernel
theorem dX6_tick_73 : decode cX6_tick 73 = .ok (.aload_n 0, 1) := by decide +kernel
theorem dX6_tick_74 : decode cX6_tick 74 = .ok (.getfield 21, 3) := by decide +kernel
theorem dX6_tick_77 : decode cX6_tick 77 = .ok (.invokevirtual 158, 3) := by decide +kernel
theorem dX6_tick_80 : decode cX6_tick 80 = .ok (.invokevirtual 73, 3) := by decide +kernel
theorem dX6_tick_83 : decode cX6_tick 83 = .ok (.pop, 1) := by decide +kernel
theorem dX6_tick_84 : decode cX6_tick 84 = .ok (.aload_n 0, 1) := by decide +kernel
theorem dX6_tick_85 : decode cX6_tick 85 = .ok (.dup, 1) := by decide +kernel
theorem dX6_tick_86 : decode cX6_tick 86 = .ok (.getfield 155, 3) := by decide +kernel
theorem dX6_tick_89 : decode cX6_tick 89 = .ok (.aload_n 0, 1) := by decide +kernel
theorem dX6_tick_90 : decode cX6_tick 90 = .ok (.getfield 21, 3) := by decide +kernel
theorem dX6_tick_93 : decode cX6_tick 93 = .ok (.invokevirtual 162, 3) := by decide +kernel
theorem dX6_tick_96 : decode cX6_tick 96 = .ok (.iadd, 1) := by decide +kernel
theorem dX6_tick_97 : decode cX6_tick 97 = .ok (.putfield 155, 3) := by decide +kernel
theorem dX6_tick_100 : decode cX6_tick 100 = .ok (.aload_n 0, 1) := by decide +kernel
theorem dX6_tick_101 : decode cX6_tick 101 = .ok (.invokevirtual 166, 3) := by decide +kernel
theorem dX6_tick_104 : decode cX6_tick 104 = .ok (.iinc 3 1, 3) := by decide +kernel
theorem dX6_tick_107 : decode cX6_tick 107 = .ok (.goto (-58), 3) := by decide +kernel
theorem dX6_tick_110 : decode cX6_tick 110 = .ok (.aload_n 0, 1) := by decide +kernel
theorem dX6_tick_111 : decode cX6_tick 111 = .ok (.getfield 155, 3) := by decide +kernel
theorem dX6_tick_114 : decode cX6_tick 114 = .ok (.iload_n 2, 1) := by decide +kernel
theorem dX6_tick_115 : decode cX6_tick 115 = .ok (.isub, 1) := by decide +kernel
theorem dX6_tick_116 : decode cX6_tick 116 = .ok (.ireturn, 1) := by decide +kernel
theorem dX6_now_0 : decode cX6_now 0 = .ok (.aload_n 0, 1) := by decide +kernel
theorem dX6_now_1 : decode cX6_now 1 = .ok (.getfield 140, 3) := by decide +kernel
theorem dX6_now_4 : decode cX6_now 4 = .ok (.ireturn, 1) := by decide +kernel
theorem dX6_told_0 : decode cX6_told 0 = .ok (.aload_n 0, 1) := by decide +kernel
theorem dX6_told_1 : decode cX6_told 1 = .ok (.getfield 21, 3) := by decide +kernel
theorem dX6_told_4 : decode cX6_told 4 = .ok (.iload_n 1, 1) := by decide +kernel
theorem dX6_told_5 : decode cX6_told 5 = .ok (.iload_n 2, 1) := by decide +kernel
theorem dX6_told_6 : decode cX6_told 6 = .ok (.invokevirtual 77, 3) := by decide +kernel
theorem dX6_told_9 : decode cX6_told 9 = .ok (.ifCond .ne 13, 3) := by decide +kernel
theorem dX6_told_12 : decode cX6_told 12 = .ok (.new 81, 3) := by decide +kernel
theorem dX6_told_15 : decode cX6_told 15 = .ok (.dup, 1) := by decide +kernel
theorem dX6_told_16 : decode cX6_told 16 = .ok (.ldc 83, 2) := by decide +kernel
theorem dX6_told_18 : decode cX6_told 18 = .ok (.invokespecial 85, 3) := by decide +kernel
theorem dX6_told_21 : decode cX6_told 21 = .ok (.athrow, 1) := by decide +kernel
theorem dX6_told_22 : decode cX6_told 22 = .ok (.iload_n 3, 1) := by decide +kernel
theorem dX6_told_23 : decode cX6_told 23 = .ok (.tableswitch 90 0 4 #[33, 43, 53, 63, 80], 33) := by decide +kernel
theorem dX6_told_56 : decode cX6_told 56 = .ok (.aload_n 0, 1) := by decide +kernel
theorem dX6_told_57 : decode cX6_told 57 = .ok (.getfield 21, 3) := by decide +kernel
theorem dX6_told_60 : decode cX6_told 60 = .ok (.iload_n 1, 1) := by decide +kernel
theorem dX6_told_61 : decode cX6_told 61 = .ok (.iload_n 2, 1) := by decide +kernel
theorem dX6_told_62 : decode cX6_told 62 = .ok (.invokevirtual 176, 3) := by decide +kernel
theorem dX6_told_65 : decode cX6_told 65 = .ok (.ireturn, 1) := by decide +kernel
theorem dX6_told_66 : decode cX6_told 66 = .ok (.aload_n 0, 1) := by decide +kernel
theorem dX6_told_67 : decode cX6_told 67 = .ok (.getfield 21, 3) := by decide +kernel
theorem dX6_told_70 : decode cX6_told 70 = .ok (.iload_n 1, 1) := by decide +kernel
theorem dX6_told_71 : decode cX6_told 71 = .ok (.iload_n 2, 1) := by decide +kernel
theorem dX6_told_72 : decode cX6_told 72 = .ok (.invokevirtual 92, 3) := by decide +kernel
theorem dX6_told_75 : decode cX6_told 75 = .ok (.ireturn, 1) := by decide +kernel
theorem dX6_told_76 : decode cX6_told 76 = .ok (.aload_n 0, 1) := by decide +kernel
theorem dX6_told_77 : decode cX6_told 77 = .ok (.getfield 21, 3) := by decide +kernel
theorem dX6_told_80 : decode cX6_told 80 = .ok (.iload_n 1, 1) := by decide +kernel
theorem dX6_told_81 : decode cX6_told 81 = .ok (.iload_n 2, 1) := by decide +kernel
theorem dX6_told_82 : decode cX6_told 82 = .ok (.invokevirtual 179, 3) := by decide +kernel
theorem dX6_told_85 : decode cX6_told 85 = .ok (.ireturn, 1) := by decide +kernel
theorem dX6_told_86 : decode cX6_told 86 = .ok (.aload_n 0, 1) := by decide +kernel
theorem dX6_told_87 : decode cX6_told 87 = .ok (.getfield 21, 3) := by decide +kernel
theorem dX6_told_90 : decode cX6_told 90 = .ok (.iload_n 1, 1) := by decide +kernel
theorem dX6_told_91 : decode cX6_told 91 = .ok (.iload_n 2, 1) := by decide +kernel
theorem dX6_told_92 : decode cX6_told 92 = .ok (.invokevirtual 176, 3) := by decide +kernel
theorem dX6_told_95 : decode cX6_told 95 = .ok (.aload_n 0, 1) := by decide +kernel
theorem dX6_told_96 : decode cX6_told 96 = .ok (.getfield 48, 3) := by decide +kernel
theorem dX6_told_99 : decode cX6_told 99 = .ok (.invokestatic 182, 3) := by decide +kernel
theorem dX6_told_102 : decode cX6_told 102 = .ok (.ireturn, 1) := by decide +kernel
theorem dX6_told_103 : decode cX6_told 103 = .ok (.aload_n 0, 1) := by decide +kernel
theorem dX6_told_104 : decode cX6_told 104 = .ok (.getfield 21, 3) := by decide +kernel
theorem dX6_told_107 : decode cX6_told 107 = .ok (.iload_n 1, 1) := by decide +kernel
theorem dX6_told_108 : decode cX6_told 108 = .ok (.iload_n 2, 1) := by decide +kernel
theorem dX6_told_109 : decode cX6_told 109 = .ok (.invokevirtual 185, 3) := by decide +kernel
theorem dX6_told_112 : decode cX6_told 112 = .ok (.ireturn, 1) := by decide +kernel
theorem dX6_told_113 : decode cX6_told 113 = .ok (.new 60, 3) := by decide +kernel
theorem dX6_told_116 : decode cX6_told 116 = .ok (.dup, 1) := by decide +kernel
theorem dX6_told_117 : decode cX6_told 117 = .ok (.ldc 188, 2) := by decide +kernel
theorem dX6_told_119 : decode cX6_told 119 = .ok (.invokespecial 64, 3) := by decide +kernel
theorem dX6_told_122 : decode cX6_told 122 = .ok (.athrow, 1) := by decide +kernel
theorem dX6_energy_0 : decode cX6_energy 0 = .ok (.aload_n 0, 1) := by decide +kernel
theorem dX6_energy_1 : decode cX6_energy 1 = .ok (.getfield 21, 3) := by decide +kernel
theorem dX6_energy_4 : decode cX6_energy 4 = .ok (.getfield 190, 3) := by decide +kernel
theorem dX6_energy_7 : decode cX6_energy 7 = .ok (.ireturn, 1) := by decide +kernel
theorem dX6_energyAnew_0 : decode cX6_energyAnew 0 = .ok (.aload_n 0, 1) := by decide +kernel
theorem dX6_energyAnew_1 : decode cX6_energyAnew 1 = .ok (.getfield 21, 3) := by decide +kernel
theorem dX6_energyAnew_4 : decode cX6_energyAnew 4 = .ok (.invokevirtual 193, 3) := by decide +kernel
theorem dX6_energyAnew_7 : decode cX6_energyAnew 7 = .ok (.ireturn, 1) := by decide +kernel
theorem dX6_spent_0 : decode cX6_spent 0 = .ok (.iload_n 1, 1) := by decide +kernel
theorem dX6_spent_1 : decode cX6_spent 1 = .ok (.ifCond .eq 10, 3) := by decide +kernel
theorem dX6_spent_4 : decode cX6_spent 4 = .ok (.aload_n 0, 1) := by decide +kernel
theorem dX6_spent_5 : decode cX6_spent 5 = .ok (.getfield 155, 3) := by decide +kernel
theorem dX6_spent_8 : decode cX6_spent 8 = .ok (.goto 7, 3) := by decide +kernel
theorem dX6_spent_11 : decode cX6_spent 11 = .ok (.aload_n 0, 1) := by decide +kernel
theorem dX6_spent_12 : decode cX6_spent 12 = .ok (.getfield 196, 3) := by decide +kernel
theorem dX6_spent_15 : decode cX6_spent 15 = .ok (.ireturn, 1) := by decide +kernel
theorem dX6_winding_0 : decode cX6_winding 0 = .ok (.aload_n 0, 1) := by decide +kernel
theorem dX6_winding_1 : decode cX6_winding 1 = .ok (.getfield 30, 3) := by decide +kernel
theorem dX6_winding_4 : decode cX6_winding 4 = .ok (.iload_n 1, 1) := by decide +kernel
theorem dX6_winding_5 : decode cX6_winding 5 = .ok (.iload_n 2, 1) := by decide +kernel
theorem dX6_winding_6 : decode cX6_winding 6 = .ok (.invokevirtual 203, 3) := by decide +kernel
theorem dX6_winding_9 : decode cX6_winding 9 = .ok (.ifCond .ne 13, 3) := by decide +kernel
theorem dX6_winding_12 : decode cX6_winding 12 = .ok (.new 81, 3) := by decide +kernel
theorem dX6_winding_15 : decode cX6_winding 15 = .ok (.dup, 1) := by decide +kernel
theorem dX6_winding_16 : decode cX6_winding 16 = .ok (.ldc 204, 2) := by decide +kernel
theorem dX6_winding_18 : decode cX6_winding 18 = .ok (.invokespecial 85, 3) := by decide +kernel
theorem dX6_winding_21 : decode cX6_winding 21 = .ok (.athrow, 1) := by decide +kernel
theorem dX6_winding_22 : decode cX6_winding 22 = .ok (.aload_n 0, 1) := by decide +kernel
theorem dX6_winding_23 : decode cX6_winding 23 = .ok (.getfield 30, 3) := by decide +kernel
theorem dX6_winding_26 : decode cX6_winding 26 = .ok (.iload_n 1, 1) := by decide +kernel
theorem dX6_winding_27 : decode cX6_winding 27 = .ok (.iload_n 2, 1) := by decide +kernel
theorem dX6_winding_28 : decode cX6_winding 28 = .ok (.invokevirtual 206, 3) := by decide +kernel
theorem dX6_winding_31 : decode cX6_winding 31 = .ok (.ireturn, 1) := by decide +kernel
theorem dX6_within_0 : decode cX6_within 0 = .ok (.aload_n 0, 1) := by decide +kernel
theorem dX6_within_1 : decode cX6_within 1 = .ok (.getfield 21, 3) := by decide +kernel
theorem dX6_within_4 : decode cX6_within 4 = .ok (.iload_n 1, 1) := by decide +kernel
theorem dX6_within_5 : decode cX6_within 5 = .ok (.iload_n 2, 1) := by decide +kernel
theorem dX6_within_6 : decode cX6_within 6 = .ok (.invokevirtual 77, 3) := by decide +kernel
theorem dX6_within_9 : decode cX6_within 9 = .ok (.ifCond .eq 16, 3) := by decide +kernel
theorem dX6_within_12 : decode cX6_within 12 = .ok (.aload_n 0, 1) := by decide +kernel
theorem dX6_within_13 : decode cX6_within 13 = .ok (.getfield 21, 3) := by decide +kernel
theorem dX6_within_16 : decode cX6_within 16 = .ok (.iload_n 3, 1) := by decide +kernel
theorem dX6_within_17 : decode cX6_within 17 = .ok (.iload 4, 2) := by decide +kernel
theorem dX6_within_19 : decode cX6_within 19 = .ok (.invokevirtual 77, 3) := by decide +kernel
theorem dX6_within_22 : decode cX6_within 22 = .ok (.ifCond .ne 13, 3) := by decide +kernel
theorem dX6_within_25 : decode cX6_within 25 = .ok (.new 81, 3) := by decide +kernel
theorem dX6_within_28 : decode cX6_within 28 = .ok (.dup, 1) := by decide +kernel
theorem dX6_within_29 : decode cX6_within 29 = .ok (.ldc 83, 2) := by decide +kernel
theorem dX6_within_31 : decode cX6_within 31 = .ok (.invokespecial 85, 3) := by decide +kernel
theorem dX6_within_34 : decode cX6_within 34 = .ok (.athrow, 1) := by decide +kernel
theorem dX6_within_35 : decode cX6_within 35 = .ok (.iload_n 3, 1) := by decide +kernel
theorem dX6_within_36 : decode cX6_within 36 = .ok (.iload_n 1, 1) := by decide +kernel
theorem dX6_within_37 : decode cX6_within 37 = .ok (.if_icmp .le 9, 3) := by decide +kernel
theorem dX6_within_40 : decode cX6_within 40 = .ok (.iload 4, 2) := by decide +kernel
theorem dX6_within_42 : decode cX6_within 42 = .ok (.iload_n 2, 1) := by decide +kernel
theorem dX6_within_43 : decode cX6_within 43 = .ok (.if_icmp .gt 13, 3) := by decide +kernel
theorem dX6_within_46 : decode cX6_within 46 = .ok (.new 60, 3) := by decide +kernel
theorem dX6_within_49 : decode cX6_within 49 = .ok (.dup, 1) := by decide +kernel
theorem dX6_within_50 : decode cX6_within 50 = .ok (.ldc 209, 2) := by decide +kernel
theorem dX6_within_52 : decode cX6_within 52 = .ok (.invokespecial 64, 3) := by decide +kernel
theorem dX6_within_55 : decode cX6_within 55 = .ok (.athrow, 1) := by decide +kernel
theorem dX6_within_56 : decode cX6_within 56 = .ok (.aload_n 0, 1) := by decide +kernel
theorem dX6_within_57 : decode cX6_within 57 = .ok (.getfield 30, 3) := by decide +kernel
theorem dX6_within_60 : decode cX6_within 60 = .ok (.iload_n 1, 1) := by decide +kernel
theorem dX6_within_61 : decode cX6_within 61 = .ok (.iload_n 2, 1) := by decide +kernel
theorem dX6_within_62 : decode cX6_within 62 = .ok (.iload_n 3, 1) := by decide +kernel
theorem dX6_within_63 : decode cX6_within 63 = .ok (.iload 4, 2) := by decide +kernel
theorem dX6_within_65 : decode cX6_within 65 = .ok (.invokevirtual 211, 3) := by decide +kernel
theorem dX6_within_68 : decode cX6_within 68 = .ok (.ireturn, 1) := by decide +kernel
theorem dX6_border_0 : decode cX6_border 0 = .ok (.aload_n 0, 1) := by decide +kernel
theorem dX6_border_1 : decode cX6_border 1 = .ok (.getfield 21, 3) := by decide +kernel
theorem dX6_border_4 : decode cX6_border 4 = .ok (.iload_n 1, 1) := by decide +kernel
theorem dX6_border_5 : decode cX6_border 5 = .ok (.iload_n 2, 1) := by decide +kernel
theorem dX6_border_6 : decode cX6_border 6 = .ok (.invokevirtual 77, 3) := by decide +kernel
theorem dX6_border_9 : decode cX6_border 9 = .ok (.ifCond .eq 16, 3) := by decide +kernel
theorem dX6_border_12 : decode cX6_border 12 = .ok (.aload_n 0, 1) := by decide +kernel
theorem dX6_border_13 : decode cX6_border 13 = .ok (.getfield 21, 3) := by decide +kernel
theorem dX6_border_16 : decode cX6_border 16 = .ok (.iload_n 3, 1) := by decide +kernel
theorem dX6_border_17 : decode cX6_border 17 = .ok (.iload 4, 2) := by decide +kernel
theorem dX6_border_19 : decode cX6_border 19 = .ok (.invokevirtual 77, 3) := by decide +kernel
theorem dX6_border_22 : decode cX6_border 22 = .ok (.ifCond .ne 13, 3) := by decide +kernel
theorem dX6_border_25 : decode cX6_border 25 = .ok (.new 81, 3) := by decide +kernel
theorem dX6_border_28 : decode cX6_border 28 = .ok (.dup, 1) := by decide +kernel
theorem dX6_border_29 : decode cX6_border 29 = .ok (.ldc 83, 2) := by decide +kernel
theorem dX6_border_31 : decode cX6_border 31 = .ok (.invokespecial 85, 3) := by decide +kernel
theorem dX6_border_34 : decode cX6_border 34 = .ok (.athrow, 1) := by decide +kernel
theorem dX6_border_35 : decode cX6_border 35 = .ok (.iload_n 3, 1) := by decide +kernel
theorem dX6_border_36 : decode cX6_border 36 = .ok (.iload_n 1, 1) := by decide +kernel
theorem dX6_border_37 : decode cX6_border 37 = .ok (.if_icmp .le 9, 3) := by decide +kernel
theorem dX6_border_40 : decode cX6_border 40 = .ok (.iload 4, 2) := by decide +kernel
theorem dX6_border_42 : decode cX6_border 42 = .ok (.iload_n 2, 1) := by decide +kernel
theorem dX6_border_43 : decode cX6_border 43 = .ok (.if_icmp .gt 13, 3) := by decide +kernel
theorem dX6_border_46 : decode cX6_border 46 = .ok (.new 60, 3) := by decide +kernel
theorem dX6_border_49 : decode cX6_border 49 = .ok (.dup, 1) := by decide +kernel
theorem dX6_border_50 : decode cX6_border 50 = .ok (.ldc 209, 2) := by decide +kernel
theorem dX6_border_52 : decode cX6_border 52 = .ok (.invokespecial 64, 3) := by decide +kernel
theorem dX6_border_55 : decode cX6_border 55 = .ok (.athrow, 1) := by decide +kernel
theorem dX6_border_56 : decode cX6_border 56 = .ok (.aload_n 0, 1) := by decide +kernel
theorem dX6_border_57 : decode cX6_border 57 = .ok (.getfield 30, 3) := by decide +kernel
theorem dX6_border_60 : decode cX6_border 60 = .ok (.iload_n 1, 1) := by decide +kernel
theorem dX6_border_61 : decode cX6_border 61 = .ok (.iload_n 2, 1) := by decide +kernel
theorem dX6_border_62 : decode cX6_border 62 = .ok (.iload_n 3, 1) := by decide +kernel
theorem dX6_border_63 : decode cX6_border 63 = .ok (.iload 4, 2) := by decide +kernel
theorem dX6_border_65 : decode cX6_border 65 = .ok (.invokevirtual 213, 3) := by decide +kernel
theorem dX6_border_68 : decode cX6_border 68 = .ok (.ireturn, 1) := by decide +kernel
theorem dX6_defects_0 : decode cX6_defects 0 = .ok (.aload_n 0, 1) := by decide +kernel
theorem dX6_defects_1 : decode cX6_defects 1 = .ok (.getfield 30, 3) := by decide +kernel
theorem dX6_defects_4 : decode cX6_defects 4 = .ok (.invokevirtual 216, 3) := by decide +kernel
theorem dX6_defects_7 : decode cX6_defects 7 = .ok (.ireturn, 1) := by decide +kernel
theorem dX6_defect_0 : decode cX6_defect 0 = .ok (.aload_n 0, 1) := by decide +kernel
theorem dX6_defect_1 : decode cX6_defect 1 = .ok (.getfield 30, 3) := by decide +kernel
theorem dX6_defect_4 : decode cX6_defect 4 = .ok (.iload_n 1, 1) := by decide +kernel
theorem dX6_defect_5 : decode cX6_defect 5 = .ok (.invokevirtual 218, 3) := by decide +kernel
theorem dX6_defect_8 : decode cX6_defect 8 = .ok (.istore_n 3, 1) := by decide +kernel
theorem dX6_defect_9 : decode cX6_defect 9 = .ok (.iload_n 3, 1) := by decide +kernel
theorem dX6_defect_10 : decode cX6_defect 10 = .ok (.iconst (-1), 1) := by decide +kernel
theorem dX6_defect_11 : decode cX6_defect 11 = .ok (.if_icmp .ne 13, 3) := by decide +kernel
theorem dX6_defect_14 : decode cX6_defect 14 = .ok (.new 81, 3) := by decide +kernel
theorem dX6_defect_17 : decode cX6_defect 17 = .ok (.dup, 1) := by decide +kernel
theorem dX6_defect_18 : decode cX6_defect 18 = .ok (.ldc 221, 2) := by decide +kernel
theorem dX6_defect_20 : decode cX6_defect 20 = .ok (.invokespecial 85, 3) := by decide +kernel
theorem dX6_defect_23 : decode cX6_defect 23 = .ok (.athrow, 1) := by decide +kernel
theorem dX6_defect_24 : decode cX6_defect 24 = .ok (.iload_n 3, 1) := by decide +kernel
theorem dX6_defect_25 : decode cX6_defect 25 = .ok (.bipush 12, 2) := by decide +kernel
theorem dX6_defect_27 : decode cX6_defect 27 = .ok (.irem, 1) := by decide +kernel
theorem dX6_defect_28 : decode cX6_defect 28 = .ok (.istore 4, 2) := by decide +kernel
theorem dX6_defect_30 : decode cX6_defect 30 = .ok (.iload_n 3, 1) := by decide +kernel
theorem dX6_defect_31 : decode cX6_defect 31 = .ok (.bipush 12, 2) := by decide +kernel
theorem dX6_defect_33 : decode cX6_defect 33 = .ok (.idiv, 1) := by decide +kernel
theorem dX6_defect_34 : decode cX6_defect 34 = .ok (.istore 5, 2) := by decide +kernel
theorem dX6_defect_36 : decode cX6_defect 36 = .ok (.iload_n 2, 1) := by decide +kernel
theorem dX6_defect_37 : decode cX6_defect 37 = .ok (.tableswitch 45 0 2 #[27, 30, 33], 27) := by decide +kernel
theorem dX6_defect_64 : decode cX6_defect 64 = .ok (.iload 4, 2) := by decide +kernel
theorem dX6_defect_66 : decode cX6_defect 66 = .ok (.ireturn, 1) := by decide +kernel
theorem dX6_defect_67 : decode cX6_defect 67 = .ok (.iload 5, 2) := by decide +kernel
theorem dX6_defect_69 : decode cX6_defect 69 = .ok (.ireturn, 1) := by decide +kernel
theorem dX6_defect_70 : decode cX6_defect 70 = .ok (.aload_n 0, 1) := by decide +kernel
theorem dX6_defect_71 : decode cX6_defect 71 = .ok (.getfield 30, 3) := by decide +kernel
theorem dX6_defect_74 : decode cX6_defect 74 = .ok (.iload 4, 2) := by decide +kernel
theorem dX6_defect_76 : decode cX6_defect 76 = .ok (.iload 5, 2) := by decide +kernel
theorem dX6_defect_78 : decode cX6_defect 78 = .ok (.invokevirtual 206, 3) := by decide +kernel
theorem dX6_defect_81 : decode cX6_defect 81 = .ok (.ireturn, 1) := by decide +kernel
theorem dX6_defect_82 : decode cX6_defect 82 = .ok (.new 60, 3) := by decide +kernel
theorem dX6_defect_85 : decode cX6_defect 85 = .ok (.dup, 1) := by decide +kernel
theorem dX6_defect_86 : decode cX6_defect 86 = .ok (.ldc 223, 2) := by decide +kernel
theorem dX6_defect_88 : decode cX6_defect 88 = .ok (.invokespecial 64, 3) := by decide +kernel
theorem dX6_defect_91 : decode cX6_defect 91 = .ok (.athrow, 1) := by decide +kernel
theorem dX6_ofPixel_0 : decode cX6_ofPixel 0 = .ok (.aload_n 0, 1) := by decide +kernel
theorem dX6_ofPixel_1 : decode cX6_ofPixel 1 = .ok (.getfield 12, 3) := by decide +kernel
theorem dX6_ofPixel_4 : decode cX6_ofPixel 4 = .ok (.iload_n 1, 1) := by decide +kernel
theorem dX6_ofPixel_5 : decode cX6_ofPixel 5 = .ok (.invokevirtual 131, 3) := by decide +kernel
theorem dX6_ofPixel_8 : decode cX6_ofPixel 8 = .ok (.ifCond .ne 13, 3) := by decide +kernel
theorem dX6_ofPixel_11 : decode cX6_ofPixel 11 = .ok (.new 81, 3) := by decide +kernel
theorem dX6_ofPixel_14 : decode cX6_ofPixel 14 = .ok (.dup, 1) := by decide +kernel
theorem dX6_ofPixel_15 : decode cX6_ofPixel 15 = .ok (.ldc 133, 2) := by decide +kernel
theorem dX6_ofPixel_17 : decode cX6_ofPixel 17 = .ok (.invokespecial 85, 3) := by decide +kernel
theorem dX6_ofPixel_20 : decode cX6_ofPixel 20 = .ok (.athrow, 1) := by decide +kernel
theorem dX6_ofPixel_21 : decode cX6_ofPixel 21 = .ok (.iload_n 2, 1) := by decide +kernel
theorem dX6_ofPixel_22 : decode cX6_ofPixel 22 = .ok (.tableswitch 91 0 4 #[34, 47, 56, 73, 82], 34) := by decide +kernel
theorem dX6_ofPixel_56 : decode cX6_ofPixel 56 = .ok (.aload_n 0, 1) := by decide +kernel
theorem dX6_ofPixel_57 : decode cX6_ofPixel 57 = .ok (.getfield 21, 3) := by decide +kernel
theorem dX6_ofPixel_60 : decode cX6_ofPixel 60 = .ok (.iload_n 1, 1) := by decide +kernel
theorem dX6_ofPixel_61 : decode cX6_ofPixel 61 = .ok (.aload_n 0, 1) := by decide +kernel
theorem dX6_ofPixel_62 : decode cX6_ofPixel 62 = .ok (.getfield 48, 3) := by decide +kernel
theorem dX6_ofPixel_65 : decode cX6_ofPixel 65 = .ok (.invokevirtual 225, 3) := by decide +kernel
theorem dX6_ofPixel_68 : decode cX6_ofPixel 68 = .ok (.ireturn, 1) := by decide +kernel
theorem dX6_ofPixel_69 : decode cX6_ofPixel 69 = .ok (.aload_n 0, 1) := by decide +kernel
theorem dX6_ofPixel_70 : decode cX6_ofPixel 70 = .ok (.getfield 12, 3) := by decide +kernel
theorem dX6_ofPixel_73 : decode cX6_ofPixel 73 = .ok (.iload_n 1, 1) := by decide +kernel
theorem dX6_ofPixel_74 : decode cX6_ofPixel 74 = .ok (.invokevirtual 228, 3) := by decide +kernel
theorem dX6_ofPixel_77 : decode cX6_ofPixel 77 = .ok (.ireturn, 1) := by decide +kernel
theorem dX6_ofPixel_78 : decode cX6_ofPixel 78 = .ok (.aload_n 0, 1) := by decide +kernel
theorem dX6_ofPixel_79 : decode cX6_ofPixel 79 = .ok (.getfield 30, 3) := by decide +kernel
theorem dX6_ofPixel_82 : decode cX6_ofPixel 82 = .ok (.iload_n 1, 1) := by decide +kernel
theorem dX6_ofPixel_83 : decode cX6_ofPixel 83 = .ok (.invokevirtual 231, 3) := by decide +kernel
theorem dX6_ofPixel_86 : decode cX6_ofPixel 86 = .ok (.ifCond .eq 7, 3) := by decide +kernel
theorem dX6_ofPixel_89 : decode cX6_ofPixel 89 = .ok (.iconst 1, 1) := by decide +kernel
theorem dX6_ofPixel_90 : decode cX6_ofPixel 90 = .ok (.goto 4, 3) := by decide +kernel
theorem dX6_ofPixel_93 : decode cX6_ofPixel 93 = .ok (.iconst 0, 1) := by decide +kernel
theorem dX6_ofPixel_94 : decode cX6_ofPixel 94 = .ok (.ireturn, 1) := by decide +kernel
theorem dX6_ofPixel_95 : decode cX6_ofPixel 95 = .ok (.aload_n 0, 1) := by decide +kernel
theorem dX6_ofPixel_96 : decode cX6_ofPixel 96 = .ok (.getfield 12, 3) := by decide +kernel
theorem dX6_ofPixel_99 : decode cX6_ofPixel 99 = .ok (.iload_n 1, 1) := by decide +kernel
theorem dX6_ofPixel_100 : decode cX6_ofPixel 100 = .ok (.invokevirtual 234, 3) := by decide +kernel
theorem dX6_ofPixel_103 : decode cX6_ofPixel 103 = .ok (.ireturn, 1) := by decide +kernel
theorem dX6_ofPixel_104 : decode cX6_ofPixel 104 = .ok (.aload_n 0, 1) := by decide +kernel
theorem dX6_ofPixel_105 : decode cX6_ofPixel 105 = .ok (.getfield 12, 3) := by decide +kernel
theorem dX6_ofPixel_108 : decode cX6_ofPixel 108 = .ok (.iload_n 1, 1) := by decide +kernel
theorem dX6_ofPixel_109 : decode cX6_ofPixel 109 = .ok (.invokevirtual 237, 3) := by decide +kernel
theorem dX6_ofPixel_112 : decode cX6_ofPixel 112 = .ok (.ireturn, 1) := by decide +kernel
theorem dX6_ofPixel_113 : decode cX6_ofPixel 113 = .ok (.new 60, 3) := by decide +kernel
theorem dX6_ofPixel_116 : decode cX6_ofPixel 116 = .ok (.dup, 1) := by decide +kernel
theorem dX6_ofPixel_117 : decode cX6_ofPixel 117 = .ok (.ldc 188, 2) := by decide +kernel
theorem dX6_ofPixel_119 : decode cX6_ofPixel 119 = .ok (.invokespecial 64, 3) := by decide +kernel
theorem dX6_ofPixel_122 : decode cX6_ofPixel 122 = .ok (.athrow, 1) := by decide +kernel
theorem dX6_beginAnew_0 : decode cX6_beginAnew 0 = .ok (.aload_n 0, 1) := by decide +kernel
theorem dX6_beginAnew_1 : decode cX6_beginAnew 1 = .ok (.getfield 21, 3) := by decide +kernel
theorem dX6_beginAnew_4 : decode cX6_beginAnew 4 = .ok (.iload_n 1, 1) := by decide +kernel
theorem dX6_beginAnew_5 : decode cX6_beginAnew 5 = .ok (.iload_n 2, 1) := by decide +kernel
theorem dX6_beginAnew_6 : decode cX6_beginAnew 6 = .ok (.invokevirtual 254, 3) := by decide +kernel
theorem dX6_beginAnew_9 : decode cX6_beginAnew 9 = .ok (.aload_n 0, 1) := by decide +kernel
theorem dX6_beginAnew_10 : decode cX6_beginAnew 10 = .ok (.getfield 12, 3) := by decide +kernel
theorem dX6_beginAnew_13 : decode cX6_beginAnew 13 = .ok (.iconst 0, 1) := by decide +kernel
theorem dX6_beginAnew_14 : decode cX6_beginAnew 14 = .ok (.putfield 114, 3) := by decide +kernel
theorem dX6_beginAnew_17 : decode cX6_beginAnew 17 = .ok (.aload_n 0, 1) := by decide +kernel
theorem dX6_beginAnew_18 : decode cX6_beginAnew 18 = .ok (.getfield 37, 3) := by decide +kernel
theorem dX6_beginAnew_21 : decode cX6_beginAnew 21 = .ok (.iconst 0, 1) := by decide +kernel
theorem dX6_beginAnew_22 : decode cX6_beginAnew 22 = .ok (.putfield 145, 3) := by decide +kernel
theorem dX6_beginAnew_25 : decode cX6_beginAnew 25 = .ok (.aload_n 0, 1) := by decide +kernel
theorem dX6_beginAnew_26 : decode cX6_beginAnew 26 = .ok (.getfield 44, 3) := by decide +kernel
theorem dX6_beginAnew_29 : decode cX6_beginAnew 29 = .ok (.iconst 0, 1) := by decide +kernel
theorem dX6_beginAnew_30 : decode cX6_beginAnew 30 = .ok (.putfield 169, 3) := by decide +kernel
theorem dX6_beginAnew_33 : decode cX6_beginAnew 33 = .ok (.aload_n 0, 1) := by decide +kernel
theorem dX6_beginAnew_34 : decode cX6_beginAnew 34 = .ok (.iconst 0, 1) := by decide +kernel
theorem dX6_beginAnew_35 : decode cX6_beginAnew 35 = .ok (.putfield 140, 3) := by decide +kernel
theorem dX6_beginAnew_38 : decode cX6_beginAnew 38 = .ok (.aload_n 0, 1) := by decide +kernel
theorem dX6_beginAnew_39 : decode cX6_beginAnew 39 = .ok (.iconst 0, 1) := by decide +kernel
theorem dX6_beginAnew_40 : decode cX6_beginAnew 40 = .ok (.putfield 196, 3) := by decide +kernel
theorem dX6_beginAnew_43 : decode cX6_beginAnew 43 = .ok (.aload_n 0, 1) := by decide +kernel
theorem dX6_beginAnew_44 : decode cX6_beginAnew 44 = .ok (.iconst 0, 1) := by decide +kernel
theorem dX6_beginAnew_45 : decode cX6_beginAnew 45 = .ok (.putfield 155, 3) := by decide +kernel
theorem dX6_beginAnew_48 : decode cX6_beginAnew 48 = .ok (.return_, 1) := by decide +kernel
theorem dX6_worked_0 : decode cX6_worked 0 = .ok (.aload_n 0, 1) := by decide +kernel
theorem dX6_worked_1 : decode cX6_worked 1 = .ok (.dup, 1) := by decide +kernel
theorem dX6_worked_2 : decode cX6_worked 2 = .ok (.getfield 196, 3) := by decide +kernel
theorem dX6_worked_5 : decode cX6_worked 5 = .ok (.iload_n 1, 1) := by decide +kernel
theorem dX6_worked_6 : decode cX6_worked 6 = .ok (.iadd, 1) := by decide +kernel
theorem dX6_worked_7 : decode cX6_worked 7 = .ok (.putfield 196, 3) := by decide +kernel
theorem dX6_worked_10 : decode cX6_worked 10 = .ok (.iload_n 1, 1) := by decide +kernel
theorem dX6_worked_11 : decode cX6_worked 11 = .ok (.ireturn, 1) := by decide +kernel
theorem dX6_noteGreys_0 : decode cX6_noteGreys 0 = .ok (.iconst 0, 1) := by decide +kernel
theorem dX6_noteGreys_1 : decode cX6_noteGreys 1 = .ok (.istore_n 1, 1) := by decide +kernel
theorem dX6_noteGreys_2 : decode cX6_noteGreys 2 = .ok (.iload_n 1, 1) := by decide +kernel
theorem dX6_noteGreys_3 : decode cX6_noteGreys 3 = .ok (.aload_n 0, 1) := by decide +kernel
theorem dX6_noteGreys_4 : decode cX6_noteGreys 4 = .ok (.getfield 12, 3) := by decide +kernel
theorem dX6_noteGreys_7 : decode cX6_noteGreys 7 = .ok (.getfield 114, 3) := by decide +kernel
theorem dX6_noteGreys_10 : decode cX6_noteGreys 10 = .ok (.if_icmp .ge 29, 3) := by decide +kernel
theorem dX6_noteGreys_13 : decode cX6_noteGreys 13 = .ok (.aload_n 0, 1) := by decide +kernel
theorem dX6_noteGreys_14 : decode cX6_noteGreys 14 = .ok (.getfield 12, 3) := by decide +kernel
theorem dX6_noteGreys_17 : decode cX6_noteGreys 17 = .ok (.iload_n 1, 1) := by decide +kernel
theorem dX6_noteGreys_18 : decode cX6_noteGreys 18 = .ok (.aload_n 0, 1) := by decide +kernel
theorem dX6_noteGreys_19 : decode cX6_noteGreys 19 = .ok (.getfield 21, 3) := by decide +kernel
theorem dX6_noteGreys_22 : decode cX6_noteGreys 22 = .ok (.iload_n 1, 1) := by decide +kernel
theorem dX6_noteGreys_23 : decode cX6_noteGreys 23 = .ok (.aload_n 0, 1) := by decide +kernel
theorem dX6_noteGreys_24 : decode cX6_noteGreys 24 = .ok (.getfield 48, 3) := by decide +kernel
theorem dX6_noteGreys_27 : decode cX6_noteGreys 27 = .ok (.invokevirtual 225, 3) := by decide +kernel
theorem dX6_noteGreys_30 : decode cX6_noteGreys 30 = .ok (.invokevirtual 257, 3) := by decide +kernel
theorem dX6_noteGreys_33 : decode cX6_noteGreys 33 = .ok (.iinc 1 1, 3) := by decide +kernel
theorem dX6_noteGreys_36 : decode cX6_noteGreys 36 = .ok (.goto (-34), 3) := by decide +kernel
theorem dX6_noteGreys_39 : decode cX6_noteGreys 39 = .ok (.return_, 1) := by decide +kernel
theorem dX6_isIn_0 : decode cX6_isIn 0 = .ok (.iload_n 0, 1) := by decide +kernel
theorem dX6_isIn_1 : decode cX6_isIn 1 = .ok (.iload_n 1, 1) := by decide +kernel
theorem dX6_isIn_2 : decode cX6_isIn 2 = .ok (.if_icmp .lt 12, 3) := by decide +kernel
theorem dX6_isIn_5 : decode cX6_isIn 5 = .ok (.iload_n 0, 1) := by decide +kernel
theorem dX6_isIn_6 : decode cX6_isIn 6 = .ok (.iload_n 2, 1) := by decide +kernel
theorem dX6_isIn_7 : decode cX6_isIn 7 = .ok (.if_icmp .gt 7, 3) := by decide +kernel
theorem dX6_isIn_10 : decode cX6_isIn 10 = .ok (.iconst 1, 1) := by decide +kernel
theorem dX6_isIn_11 : decode cX6_isIn 11 = .ok (.goto 4, 3) := by decide +kernel
theorem dX6_isIn_14 : decode cX6_isIn 14 = .ok (.iconst 0, 1) := by decide +kernel
theorem dX6_isIn_15 : decode cX6_isIn 15 = .ok (.ireturn, 1) := by decide +kernel
theorem dX6_isDirection_0 : decode cX6_isDirection 0 = .ok (.iload_n 0, 1) := by decide +kernel
theorem dX6_isDirection_1 : decode cX6_isDirection 1 = .ok (.iconst 0, 1) := by decide +kernel
theorem dX6_isDirection_2 : decode cX6_isDirection 2 = .ok (.bipush 14, 2) := by decide +kernel
theorem dX6_isDirection_4 : decode cX6_isDirection 4 = .ok (.invokestatic 56, 3) := by decide +kernel
theorem dX6_isDirection_7 : decode cX6_isDirection 7 = .ok (.ireturn, 1) := by decide +kernel
theorem dX6_onFrom_0 : decode cX6_onFrom 0 = .ok (.iload_n 1, 1) := by decide +kernel
theorem dX6_onFrom_1 : decode cX6_onFrom 1 = .ok (.iload_n 0, 1) := by decide +kernel
theorem dX6_onFrom_2 : decode cX6_onFrom 2 = .ok (.isub, 1) := by decide +kernel
theorem dX6_onFrom_3 : decode cX6_onFrom 3 = .ok (.bipush 7, 2) := by decide +kernel
theorem dX6_onFrom_5 : decode cX6_onFrom 5 = .ok (.iadd, 1) := by decide +kernel
theorem dX6_onFrom_6 : decode cX6_onFrom 6 = .ok (.bipush 15, 2) := by decide +kernel
theorem dX6_onFrom_8 : decode cX6_onFrom 8 = .ok (.iadd, 1) := by decide +kernel
theorem dX6_onFrom_9 : decode cX6_onFrom 9 = .ok (.bipush 15, 2) := by decide +kernel
theorem dX6_onFrom_11 : decode cX6_onFrom 11 = .ok (.irem, 1) := by decide +kernel
theorem dX6_onFrom_12 : decode cX6_onFrom 12 = .ok (.bipush 7, 2) := by decide +kernel
theorem dX6_onFrom_14 : decode cX6_onFrom 14 = .ok (.isub, 1) := by decide +kernel
theorem dX6_onFrom_15 : decode cX6_onFrom 15 = .ok (.ireturn, 1) := by decide +kernel
theorem dX6_squareApart_0 : decode cX6_squareApart 0 = .ok (.iload_n 0, 1) := by decide +kernel
theorem dX6_squareApart_1 : decode cX6_squareApart 1 = .ok (.iload_n 1, 1) := by decide +kernel
theorem dX6_squareApart_2 : decode cX6_squareApart 2 = .ok (.invokestatic 260, 3) := by decide +kernel
theorem dX6_squareApart_5 : decode cX6_squareApart 5 = .ok (.istore_n 2, 1) := by decide +kernel
theorem dX6_squareApart_6 : decode cX6_squareApart 6 = .ok (.iload_n 2, 1) := by decide +kernel
theorem dX6_squareApart_7 : decode cX6_squareApart 7 = .ok (.iload_n 2, 1) := by decide +kernel
theorem dX6_squareApart_8 : decode cX6_squareApart 8 = .ok (.imul, 1) := by decide +kernel
theorem dX6_squareApart_9 : decode cX6_squareApart 9 = .ok (.ireturn, 1) := by decide +kernel
theorem dX6_greyOf_0 : decode cX6_greyOf 0 = .ok (.iload_n 1, 1) := by decide +kernel
theorem dX6_greyOf_1 : decode cX6_greyOf 1 = .ok (.iload_n 0, 1) := by decide +kernel
theorem dX6_greyOf_2 : decode cX6_greyOf 2 = .ok (.invokestatic 260, 3) := by decide +kernel
theorem dX6_greyOf_5 : decode cX6_greyOf 5 = .ok (.invokestatic 263, 3) := by decide +kernel
theorem dX6_greyOf_8 : decode cX6_greyOf 8 = .ok (.istore_n 2, 1) := by decide +kernel
theorem dX6_greyOf_9 : decode cX6_greyOf 9 = .ok (.iload_n 2, 1) := by decide +kernel
theorem dX6_greyOf_10 : decode cX6_greyOf 10 = .ok (.ifCond .lt 19, 3) := by decide +kernel
theorem dX6_greyOf_13 : decode cX6_greyOf 13 = .ok (.iload_n 2, 1) := by decide +kernel
theorem dX6_greyOf_14 : decode cX6_greyOf 14 = .ok (.getstatic 268, 3) := by decide +kernel
theorem dX6_greyOf_17 : decode cX6_greyOf 17 = .ok (.arraylength, 1) := by decide +kernel
theorem dX6_greyOf_18 : decode cX6_greyOf 18 = .ok (.if_icmp .ge 11, 3) := by decide +kernel
theorem dX6_greyOf_21 : decode cX6_greyOf 21 = .ok (.getstatic 268, 3) := by decide +kernel
theorem dX6_greyOf_24 : decode cX6_greyOf 24 = .ok (.iload_n 2, 1) := by decide +kernel
theorem dX6_greyOf_25 : decode cX6_greyOf 25 = .ok (.iaload, 1) := by decide +kernel
theorem dX6_greyOf_26 : decode cX6_greyOf 26 = .ok (.goto 4, 3) := by decide +kernel
theorem dX6_greyOf_29 : decode cX6_greyOf 29 = .ok (.iconst 0, 1) := by decide +kernel
theorem dX6_greyOf_30 : decode cX6_greyOf 30 = .ok (.ireturn, 1) := by decide +kernel
theorem dX6_numberOf_0 : decode cX6_numberOf 0 = .ok (.iload_n 1, 1) := by decide +kernel
theorem dX6_numberOf_1 : decode cX6_numberOf 1 = .ok (.bipush 12, 2) := by decide +kernel
theorem dX6_numberOf_3 : decode cX6_numberOf 3 = .ok (.imul, 1) := by decide +kernel
theorem dX6_numberOf_4 : decode cX6_numberOf 4 = .ok (.iload_n 0, 1) := by decide +kernel
theorem dX6_numberOf_5 : decode cX6_numberOf 5 = .ok (.iadd, 1) := by decide +kernel
theorem dX6_numberOf_6 : decode cX6_numberOf 6 = .ok (.ireturn, 1) := by decide +kernel
end
section
theorem dL_cell_0 : decode cL_cell 0 = .ok (.iload_n 1, 1) := by decide +kernel
theorem dL_cell_1 : decode cL_cell 1 = .ok (.aload_n 0, 1) := by decide +kernel
theorem dL_cell_2 : decode cL_cell 2 = .ok (.arraylength, 1) := by decide +kernel
theorem dL_cell_3 : decode cL_cell 3 = .ok (.if_icmp .ge 9, 3) := by decide +kernel
theorem dL_cell_6 : decode cL_cell 6 = .ok (.aload_n 0, 1) := by decide +kernel
theorem dL_cell_7 : decode cL_cell 7 = .ok (.iload_n 1, 1) := by decide +kernel
theorem dL_cell_8 : decode cL_cell 8 = .ok (.iaload, 1) := by decide +kernel
theorem dL_cell_9 : decode cL_cell 9 = .ok (.goto 9, 3) := by decide +kernel
theorem dL_cell_12 : decode cL_cell 12 = .ok (.ldc 7, 2) := by decide +kernel
theorem dL_cell_14 : decode cL_cell 14 = .ok (.iload_n 1, 1) := by decide +kernel
theorem dL_cell_15 : decode cL_cell 15 = .ok (.iconst 1, 1) := by decide +kernel
theorem dL_cell_16 : decode cL_cell 16 = .ok (.iadd, 1) := by decide +kernel
theorem dL_cell_17 : decode cL_cell 17 = .ok (.imul, 1) := by decide +kernel
theorem dL_cell_18 : decode cL_cell 18 = .ok (.ireturn, 1) := by decide +kernel
theorem dL_at_0 : decode cL_at 0 = .ok (.iload_n 0, 1) := by decide +kernel
theorem dL_at_1 : decode cL_at 1 = .ok (.iconst 1, 1) := by decide +kernel
theorem dL_at_2 : decode cL_at 2 = .ok (.iushr, 1) := by decide +kernel
theorem dL_at_3 : decode cL_at 3 = .ok (.iload_n 1, 1) := by decide +kernel
theorem dL_at_4 : decode cL_at 4 = .ok (.irem, 1) := by decide +kernel
theorem dL_at_5 : decode cL_at 5 = .ok (.ireturn, 1) := by decide +kernel
theorem dL_law_0 : decode cL_law 0 = .ok (.new 8, 3) := by decide +kernel
theorem dL_law_3 : decode cL_law 3 = .ok (.dup, 1) := by decide +kernel
theorem dL_law_4 : decode cL_law 4 = .ok (.invokespecial 10, 3) := by decide +kernel
theorem dL_law_7 : decode cL_law 7 = .ok (.astore_n 1, 1) := by decide +kernel
theorem dL_law_8 : decode cL_law 8 = .ok (.aload_n 0, 1) := by decide +kernel
theorem dL_law_9 : decode cL_law 9 = .ok (.iconst 0, 1) := by decide +kernel
theorem dL_law_10 : decode cL_law 10 = .ok (.invokestatic 11, 3) := by decide +kernel
theorem dL_law_13 : decode cL_law 13 = .ok (.ldc 17, 2) := by decide +kernel
theorem dL_law_15 : decode cL_law 15 = .ok (.iand, 1) := by decide +kernel
theorem dL_law_16 : decode cL_law 16 = .ok (.istore_n 2, 1) := by decide +kernel
theorem dL_law_17 : decode cL_law 17 = .ok (.iconst 3, 1) := by decide +kernel
theorem dL_law_18 : decode cL_law 18 = .ok (.iload_n 2, 1) := by decide +kernel
theorem dL_law_19 : decode cL_law 19 = .ok (.bipush 6, 2) := by decide +kernel
theorem dL_law_21 : decode cL_law 21 = .ok (.invokestatic 18, 3) := by decide +kernel
theorem dL_law_24 : decode cL_law 24 = .ok (.iadd, 1) := by decide +kernel
theorem dL_law_25 : decode cL_law 25 = .ok (.istore_n 3, 1) := by decide +kernel
theorem dL_law_26 : decode cL_law 26 = .ok (.iconst 3, 1) := by decide +kernel
theorem dL_law_27 : decode cL_law 27 = .ok (.iload_n 2, 1) := by decide +kernel
theorem dL_law_28 : decode cL_law 28 = .ok (.iconst 4, 1) := by decide +kernel
theorem dL_law_29 : decode cL_law 29 = .ok (.ishr, 1) := by decide +kernel
theorem dL_law_30 : decode cL_law 30 = .ok (.bipush 6, 2) := by decide +kernel
theorem dL_law_32 : decode cL_law 32 = .ok (.invokestatic 18, 3) := by decide +kernel
theorem dL_law_35 : decode cL_law 35 = .ok (.iadd, 1) := by decide +kernel
theorem dL_law_36 : decode cL_law 36 = .ok (.istore 4, 2) := by decide +kernel
theorem dL_law_38 : decode cL_law 38 = .ok (.aload_n 1, 1) := by decide +kernel
theorem dL_law_39 : decode cL_law 39 = .ok (.iload_n 3, 1) := by decide +kernel
theorem dL_law_40 : decode cL_law 40 = .ok (.iload 4, 2) := by decide +kernel
theorem dL_law_42 : decode cL_law 42 = .ok (.invokevirtual 22, 3) := by decide +kernel
theorem dL_law_45 : decode cL_law 45 = .ok (.iconst 0, 1) := by decide +kernel
theorem dL_law_46 : decode cL_law 46 = .ok (.istore 5, 2) := by decide +kernel
theorem dL_law_48 : decode cL_law 48 = .ok (.iconst 0, 1) := by decide +kernel
theorem dL_law_49 : decode cL_law 49 = .ok (.istore 6, 2) := by decide +kernel
theorem dL_law_51 : decode cL_law 51 = .ok (.iconst 0, 1) := by decide +kernel
theorem dL_law_52 : decode cL_law 52 = .ok (.istore 7, 2) := by decide +kernel
theorem dL_law_54 : decode cL_law 54 = .ok (.bipush 8, 2) := by decide +kernel
theorem dL_law_56 : decode cL_law 56 = .ok (.newarray .int, 2) := by decide +kernel
theorem dL_law_58 : decode cL_law 58 = .ok (.astore 8, 2) := by decide +kernel
theorem dL_law_60 : decode cL_law 60 = .ok (.bipush 8, 2) := by decide +kernel
theorem dL_law_62 : decode cL_law 62 = .ok (.newarray .int, 2) := by decide +kernel
theorem dL_law_64 : decode cL_law 64 = .ok (.astore 9, 2) := by decide +kernel
theorem dL_law_66 : decode cL_law 66 = .ok (.bipush 8, 2) := by decide +kernel
theorem dL_law_68 : decode cL_law 68 = .ok (.newarray .int, 2) := by decide +kernel
theorem dL_law_70 : decode cL_law 70 = .ok (.astore 10, 2) := by decide +kernel
theorem dL_law_72 : decode cL_law 72 = .ok (.bipush 8, 2) := by decide +kernel
theorem dL_law_74 : decode cL_law 74 = .ok (.newarray .int, 2) := by decide +kernel
theorem dL_law_76 : decode cL_law 76 = .ok (.astore 11, 2) := by decide +kernel
theorem dL_law_78 : decode cL_law 78 = .ok (.iconst 0, 1) := by decide +kernel
theorem dL_law_79 : decode cL_law 79 = .ok (.istore 12, 2) := by decide +kernel
theorem dL_law_81 : decode cL_law 81 = .ok (.iload 12, 2) := by decide +kernel
theorem dL_law_83 : decode cL_law 83 = .ok (.bipush 50, 2) := by decide +kernel
theorem dL_law_85 : decode cL_law 85 = .ok (.if_icmp .ge 886, 3) := by decide +kernel
theorem dL_law_88 : decode cL_law 88 = .ok (.aload_n 0, 1) := by decide +kernel
theorem dL_law_89 : decode cL_law 89 = .ok (.iconst 1, 1) := by decide +kernel
theorem dL_law_90 : decode cL_law 90 = .ok (.iload 12, 2) := by decide +kernel
theorem dL_law_92 : decode cL_law 92 = .ok (.iadd, 1) := by decide +kernel
theorem dL_law_93 : decode cL_law 93 = .ok (.invokestatic 11, 3) := by decide +kernel
theorem dL_law_96 : decode cL_law 96 = .ok (.ldc 17, 2) := by decide +kernel
theorem dL_law_98 : decode cL_law 98 = .ok (.iand, 1) := by decide +kernel
theorem dL_law_99 : decode cL_law 99 = .ok (.istore_n 2, 1) := by decide +kernel
theorem dL_law_100 : decode cL_law 100 = .ok (.iload_n 2, 1) := by decide +kernel
theorem dL_law_101 : decode cL_law 101 = .ok (.bipush 9, 2) := by decide +kernel
theorem dL_law_103 : decode cL_law 103 = .ok (.invokestatic 18, 3) := by decide +kernel
theorem dL_law_106 : decode cL_law 106 = .ok (.istore 13, 2) := by decide +kernel
theorem dL_law_108 : decode cL_law 108 = .ok (.iload_n 2, 1) := by decide +kernel
theorem dL_law_109 : decode cL_law 109 = .ok (.iconst 4, 1) := by decide +kernel
theorem dL_law_110 : decode cL_law 110 = .ok (.ishr, 1) := by decide +kernel
theorem dL_law_111 : decode cL_law 111 = .ok (.iload_n 3, 1) := by decide +kernel
theorem dL_law_112 : decode cL_law 112 = .ok (.invokestatic 18, 3) := by decide +kernel
theorem dL_law_115 : decode cL_law 115 = .ok (.istore 14, 2) := by decide +kernel
theorem dL_law_117 : decode cL_law 117 = .ok (.iload_n 2, 1) := by decide +kernel
theorem dL_law_118 : decode cL_law 118 = .ok (.bipush 8, 2) := by decide +kernel
theorem dL_law_120 : decode cL_law 120 = .ok (.ishr, 1) := by decide +kernel
theorem dL_law_121 : decode cL_law 121 = .ok (.iload 4, 2) := by decide +kernel
theorem dL_law_123 : decode cL_law 123 = .ok (.invokestatic 18, 3) := by decide +kernel
theorem dL_law_126 : decode cL_law 126 = .ok (.istore 15, 2) := by decide +kernel
theorem dL_law_128 : decode cL_law 128 = .ok (.iload_n 2, 1) := by decide +kernel
theorem dL_law_129 : decode cL_law 129 = .ok (.bipush 12, 2) := by decide +kernel
theorem dL_law_131 : decode cL_law 131 = .ok (.ishr, 1) := by decide +kernel
theorem dL_law_132 : decode cL_law 132 = .ok (.bipush 15, 2) := by decide +kernel
theorem dL_law_134 : decode cL_law 134 = .ok (.invokestatic 18, 3) := by decide +kernel
theorem dL_law_137 : decode cL_law 137 = .ok (.istore 16, 2) := by decide +kernel
theorem dL_law_139 : decode cL_law 139 = .ok (.aload_n 1, 1) := by decide +kernel
theorem dL_law_140 : decode cL_law 140 = .ok (.invokevirtual 26, 3) := by decide +kernel
theorem dL_law_143 : decode cL_law 143 = .ok (.istore 17, 2) := by decide +kernel
theorem dL_law_145 : decode cL_law 145 = .ok (.aload_n 1, 1) := by decide +kernel
theorem dL_law_146 : decode cL_law 146 = .ok (.iconst 0, 1) := by decide +kernel
theorem dL_law_147 : decode cL_law 147 = .ok (.invokevirtual 30, 3) := by decide +kernel
theorem dL_law_150 : decode cL_law 150 = .ok (.istore 18, 2) := by decide +kernel
theorem dL_law_152 : decode cL_law 152 = .ok (.aload_n 1, 1) := by decide +kernel
theorem dL_law_153 : decode cL_law 153 = .ok (.iconst 1, 1) := by decide +kernel
theorem dL_law_154 : decode cL_law 154 = .ok (.invokevirtual 30, 3) := by decide +kernel
theorem dL_law_157 : decode cL_law 157 = .ok (.istore 19, 2) := by decide +kernel
theorem dL_law_159 : decode cL_law 159 = .ok (.iload 13, 2) := by decide +kernel
theorem dL_law_161 : decode cL_law 161 = .ok (.iconst 3, 1) := by decide +kernel
theorem dL_law_162 : decode cL_law 162 = .ok (.if_icmp .ge 38, 3) := by decide +kernel
theorem dL_law_165 : decode cL_law 165 = .ok (.aload_n 1, 1) := by decide +kernel
theorem dL_law_166 : decode cL_law 166 = .ok (.iload 14, 2) := by decide +kernel
theorem dL_law_168 : decode cL_law 168 = .ok (.iload 15, 2) := by decide +kernel
theorem dL_law_170 : decode cL_law 170 = .ok (.iconst 1, 1) := by decide +kernel
theorem dL_law_171 : decode cL_law 171 = .ok (.invokevirtual 34, 3) := by decide +kernel
theorem dL_law_174 : decode cL_law 174 = .ok (.iconst 1, 1) := by decide +kernel
theorem dL_law_175 : decode cL_law 175 = .ok (.if_icmp .eq 25, 3) := by decide +kernel
theorem dL_law_178 : decode cL_law 178 = .ok (.aload_n 1, 1) := by decide +kernel
theorem dL_law_179 : decode cL_law 179 = .ok (.iload 14, 2) := by decide +kernel
theorem dL_law_181 : decode cL_law 181 = .ok (.iload 15, 2) := by decide +kernel
theorem dL_law_183 : decode cL_law 183 = .ok (.iload 16, 2) := by decide +kernel
theorem dL_law_185 : decode cL_law 185 = .ok (.invokevirtual 38, 3) := by decide +kernel
theorem dL_law_188 : decode cL_law 188 = .ok (.aload_n 1, 1) := by decide +kernel
theorem dL_law_189 : decode cL_law 189 = .ok (.invokevirtual 26, 3) := by decide +kernel
theorem dL_law_192 : decode cL_law 192 = .ok (.iload 17, 2) := by decide +kernel
theorem dL_law_194 : decode cL_law 194 = .ok (.isub, 1) := by decide +kernel
theorem dL_law_195 : decode cL_law 195 = .ok (.if_icmp .eq 403, 3) := by decide +kernel
theorem dL_law_198 : decode cL_law 198 = .ok (.iconst 0, 1) := by decide +kernel
theorem dL_law_199 : decode cL_law 199 = .ok (.ireturn, 1) := by decide +kernel
theorem dL_law_200 : decode cL_law 200 = .ok (.iload 13, 2) := by decide +kernel
theorem dL_law_202 : decode cL_law 202 = .ok (.iconst 3, 1) := by decide +kernel
theorem dL_law_203 : decode cL_law 203 = .ok (.if_icmp .ne 44, 3) := by decide +kernel
theorem dL_law_206 : decode cL_law 206 = .ok (.aload_n 1, 1) := by decide +kernel
theorem dL_law_207 : decode cL_law 207 = .ok (.iload 14, 2) := by decide +kernel
theorem dL_law_209 : decode cL_law 209 = .ok (.iload 15, 2) := by decide +kernel
theorem dL_law_211 : decode cL_law 211 = .ok (.iload_n 2, 1) := by decide +kernel
theorem dL_law_212 : decode cL_law 212 = .ok (.bipush 20, 2) := by decide +kernel
theorem dL_law_214 : decode cL_law 214 = .ok (.ishr, 1) := by decide +kernel
theorem dL_law_215 : decode cL_law 215 = .ok (.iconst 3, 1) := by decide +kernel
theorem dL_law_216 : decode cL_law 216 = .ok (.invokestatic 18, 3) := by decide +kernel
theorem dL_law_219 : decode cL_law 219 = .ok (.iload 16, 2) := by decide +kernel
theorem dL_law_221 : decode cL_law 221 = .ok (.iconst 1, 1) := by decide +kernel
theorem dL_law_222 : decode cL_law 222 = .ok (.iload_n 2, 1) := by decide +kernel
theorem dL_law_223 : decode cL_law 223 = .ok (.bipush 16, 2) := by decide +kernel
theorem dL_law_225 : decode cL_law 225 = .ok (.ishr, 1) := by decide +kernel
theorem dL_law_226 : decode cL_law 226 = .ok (.bipush 100, 2) := by decide +kernel
theorem dL_law_228 : decode cL_law 228 = .ok (.invokestatic 18, 3) := by decide +kernel
theorem dL_law_231 : decode cL_law 231 = .ok (.iadd, 1) := by decide +kernel
theorem dL_law_232 : decode cL_law 232 = .ok (.invokevirtual 41, 3) := by decide +kernel
theorem dL_law_235 : decode cL_law 235 = .ok (.aload_n 1, 1) := by decide +kernel
theorem dL_law_236 : decode cL_law 236 = .ok (.invokevirtual 26, 3) := by decide +kernel
theorem dL_law_239 : decode cL_law 239 = .ok (.iload 17, 2) := by decide +kernel
theorem dL_law_241 : decode cL_law 241 = .ok (.isub, 1) := by decide +kernel
theorem dL_law_242 : decode cL_law 242 = .ok (.if_icmp .eq 356, 3) := by decide +kernel
theorem dL_law_245 : decode cL_law 245 = .ok (.iconst 0, 1) := by decide +kernel
theorem dL_law_246 : decode cL_law 246 = .ok (.ireturn, 1) := by decide +kernel
theorem dL_law_247 : decode cL_law 247 = .ok (.iload 13, 2) := by decide +kernel
theorem dL_law_249 : decode cL_law 249 = .ok (.iconst 4, 1) := by decide +kernel
theorem dL_law_250 : decode cL_law 250 = .ok (.if_icmp .ne 177, 3) := by decide +kernel
theorem dL_law_253 : decode cL_law 253 = .ok (.iload 5, 2) := by decide +kernel
theorem dL_law_255 : decode cL_law 255 = .ok (.bipush 8, 2) := by decide +kernel
theorem dL_law_257 : decode cL_law 257 = .ok (.if_icmp .ge 170, 3) := by decide +kernel
theorem dL_law_260 : decode cL_law 260 = .ok (.iconst 1, 1) := by decide +kernel
theorem dL_law_261 : decode cL_law 261 = .ok (.istore 20, 2) := by decide +kernel
theorem dL_law_263 : decode cL_law 263 = .ok (.iload 14, 2) := by decide +kernel
theorem dL_law_265 : decode cL_law 265 = .ok (.iconst 2, 1) := by decide +kernel
theorem dL_law_266 : decode cL_law 266 = .ok (.iadd, 1) := by decide +kernel
theorem dL_law_267 : decode cL_law 267 = .ok (.iload_n 3, 1) := by decide +kernel
theorem dL_law_268 : decode cL_law 268 = .ok (.if_icmp .ge 10, 3) := by decide +kernel
theorem dL_law_271 : decode cL_law 271 = .ok (.iload 14, 2) := by decide +kernel
theorem dL_law_273 : decode cL_law 273 = .ok (.iconst 2, 1) := by decide +kernel
theorem dL_law_274 : decode cL_law 274 = .ok (.iadd, 1) := by decide +kernel
theorem dL_law_275 : decode cL_law 275 = .ok (.goto 4, 3) := by decide +kernel
theorem dL_law_278 : decode cL_law 278 = .ok (.iload_n 3, 1) := by decide +kernel
theorem dL_law_279 : decode cL_law 279 = .ok (.istore 21, 2) := by decide +kernel
theorem dL_law_281 : decode cL_law 281 = .ok (.iload 15, 2) := by decide +kernel
theorem dL_law_283 : decode cL_law 283 = .ok (.iconst 2, 1) := by decide +kernel
theorem dL_law_284 : decode cL_law 284 = .ok (.iadd, 1) := by decide +kernel
theorem dL_law_285 : decode cL_law 285 = .ok (.iload 4, 2) := by decide +kernel
theorem dL_law_287 : decode cL_law 287 = .ok (.if_icmp .ge 10, 3) := by decide +kernel
theorem dL_law_290 : decode cL_law 290 = .ok (.iload 15, 2) := by decide +kernel
theorem dL_law_292 : decode cL_law 292 = .ok (.iconst 2, 1) := by decide +kernel
theorem dL_law_293 : decode cL_law 293 = .ok (.iadd, 1) := by decide +kernel
theorem dL_law_294 : decode cL_law 294 = .ok (.goto 5, 3) := by decide +kernel
theorem dL_law_297 : decode cL_law 297 = .ok (.iload 4, 2) := by decide +kernel
theorem dL_law_299 : decode cL_law 299 = .ok (.istore 22, 2) := by decide +kernel
theorem dL_law_301 : decode cL_law 301 = .ok (.iload 15, 2) := by decide +kernel
theorem dL_law_303 : decode cL_law 303 = .ok (.istore 23, 2) := by decide +kernel
theorem dL_law_305 : decode cL_law 305 = .ok (.iload 23, 2) := by decide +kernel
theorem dL_law_307 : decode cL_law 307 = .ok (.iload 22, 2) := by decide +kernel
theorem dL_law_309 : decode cL_law 309 = .ok (.if_icmp .ge 48, 3) := by decide +kernel
theorem dL_law_312 : decode cL_law 312 = .ok (.iload 14, 2) := by decide +kernel
theorem dL_law_314 : decode cL_law 314 = .ok (.istore 24, 2) := by decide +kernel
theorem dL_law_316 : decode cL_law 316 = .ok (.iload 24, 2) := by decide +kernel
theorem dL_law_318 : decode cL_law 318 = .ok (.iload 21, 2) := by decide +kernel
theorem dL_law_320 : decode cL_law 320 = .ok (.if_icmp .ge 31, 3) := by decide +kernel
theorem dL_law_323 : decode cL_law 323 = .ok (.iload 20, 2) := by decide +kernel
theorem dL_law_325 : decode cL_law 325 = .ok (.aload_n 1, 1) := by decide +kernel
theorem dL_law_326 : decode cL_law 326 = .ok (.iload 24, 2) := by decide +kernel
theorem dL_law_328 : decode cL_law 328 = .ok (.iload 23, 2) := by decide +kernel
theorem dL_law_330 : decode cL_law 330 = .ok (.iconst 2, 1) := by decide +kernel
theorem dL_law_331 : decode cL_law 331 = .ok (.invokevirtual 34, 3) := by decide +kernel
theorem dL_law_334 : decode cL_law 334 = .ok (.ifCond .ge 7, 3) := by decide +kernel
theorem dL_law_337 : decode cL_law 337 = .ok (.iconst 1, 1) := by decide +kernel
theorem dL_law_338 : decode cL_law 338 = .ok (.goto 4, 3) := by decide +kernel
theorem dL_law_341 : decode cL_law 341 = .ok (.iconst 0, 1) := by decide +kernel
theorem dL_law_342 : decode cL_law 342 = .ok (.iand, 1) := by decide +kernel
theorem dL_law_343 : decode cL_law 343 = .ok (.istore 20, 2) := by decide +kernel
theorem dL_law_345 : decode cL_law 345 = .ok (.iinc 24 1, 3) := by decide +kernel
theorem dL_law_348 : decode cL_law 348 = .ok (.goto (-32), 3) := by decide +kernel
theorem dL_law_351 : decode cL_law 351 = .ok (.iinc 23 1, 3) := by decide +kernel
theorem dL_law_354 : decode cL_law 354 = .ok (.goto (-49), 3) := by decide +kernel
theorem dL_law_357 : decode cL_law 357 = .ok (.iload 20, 2) := by decide +kernel
theorem dL_law_359 : decode cL_law 359 = .ok (.ifCond .eq 65, 3) := by decide +kernel
theorem dL_law_362 : decode cL_law 362 = .ok (.aload_n 1, 1) := by decide +kernel
theorem dL_law_363 : decode cL_law 363 = .ok (.iload 14, 2) := by decide +kernel
theorem dL_law_365 : decode cL_law 365 = .ok (.iload 15, 2) := by decide +kernel
theorem dL_law_367 : decode cL_law 367 = .ok (.iload 21, 2) := by decide +kernel
theorem dL_law_369 : decode cL_law 369 = .ok (.iload 14, 2) := by decide +kernel
theorem dL_law_371 : decode cL_law 371 = .ok (.isub, 1) := by decide +kernel
theorem dL_law_372 : decode cL_law 372 = .ok (.iload 22, 2) := by decide +kernel
theorem dL_law_374 : decode cL_law 374 = .ok (.iload 15, 2) := by decide +kernel
theorem dL_law_376 : decode cL_law 376 = .ok (.isub, 1) := by decide +kernel
theorem dL_law_377 : decode cL_law 377 = .ok (.invokevirtual 45, 3) := by decide +kernel
theorem dL_law_380 : decode cL_law 380 = .ok (.iload 5, 2) := by decide +kernel
theorem dL_law_382 : decode cL_law 382 = .ok (.if_icmp .eq 5, 3) := by decide +kernel
theorem dL_law_385 : decode cL_law 385 = .ok (.iconst 0, 1) := by decide +kernel
theorem dL_law_386 : decode cL_law 386 = .ok (.ireturn, 1) := by decide +kernel
theorem dL_law_387 : decode cL_law 387 = .ok (.aload 8, 2) := by decide +kernel
theorem dL_law_389 : decode cL_law 389 = .ok (.iload 5, 2) := by decide +kernel
theorem dL_law_391 : decode cL_law 391 = .ok (.iload 14, 2) := by decide +kernel
theorem dL_law_393 : decode cL_law 393 = .ok (.iastore, 1) := by decide +kernel
theorem dL_law_394 : decode cL_law 394 = .ok (.aload 9, 2) := by decide +kernel
theorem dL_law_396 : decode cL_law 396 = .ok (.iload 5, 2) := by decide +kernel
theorem dL_law_398 : decode cL_law 398 = .ok (.iload 15, 2) := by decide +kernel
theorem dL_law_400 : decode cL_law 400 = .ok (.iastore, 1) := by decide +kernel
theorem dL_law_401 : decode cL_law 401 = .ok (.aload 10, 2) := by decide +kernel
theorem dL_law_403 : decode cL_law 403 = .ok (.iload 5, 2) := by decide +kernel
theorem dL_law_405 : decode cL_law 405 = .ok (.iload 21, 2) := by decide +kernel
theorem dL_law_407 : decode cL_law 407 = .ok (.iload 14, 2) := by decide +kernel
theorem dL_law_409 : decode cL_law 409 = .ok (.isub, 1) := by decide +kernel
theorem dL_law_410 : decode cL_law 410 = .ok (.iastore, 1) := by decide +kernel
theorem dL_law_411 : decode cL_law 411 = .ok (.aload 11, 2) := by decide +kernel
theorem dL_law_413 : decode cL_law 413 = .ok (.iload 5, 2) := by decide +kernel
theorem dL_law_415 : decode cL_law 415 = .ok (.iload 22, 2) := by decide +kernel
theorem dL_law_417 : decode cL_law 417 = .ok (.iload 15, 2) := by decide +kernel
theorem dL_law_419 : decode cL_law 419 = .ok (.isub, 1) := by decide +kernel
theorem dL_law_420 : decode cL_law 420 = .ok (.iastore, 1) := by decide +kernel
theorem dL_law_421 : decode cL_law 421 = .ok (.iinc 5 1, 3) := by decide +kernel
theorem dL_law_424 : decode cL_law 424 = .ok (.goto 174, 3) := by decide +kernel
theorem dL_law_427 : decode cL_law 427 = .ok (.iload 13, 2) := by decide +kernel
theorem dL_law_429 : decode cL_law 429 = .ok (.iconst 5, 1) := by decide +kernel
theorem dL_law_430 : decode cL_law 430 = .ok (.if_icmp .ne 43, 3) := by decide +kernel
theorem dL_law_433 : decode cL_law 433 = .ok (.iload 5, 2) := by decide +kernel
theorem dL_law_435 : decode cL_law 435 = .ok (.ifCond .le 38, 3) := by decide +kernel
theorem dL_law_438 : decode cL_law 438 = .ok (.aload_n 1, 1) := by decide +kernel
theorem dL_law_439 : decode cL_law 439 = .ok (.iload_n 2, 1) := by decide +kernel
theorem dL_law_440 : decode cL_law 440 = .ok (.bipush 16, 2) := by decide +kernel
theorem dL_law_442 : decode cL_law 442 = .ok (.ishr, 1) := by decide +kernel
theorem dL_law_443 : decode cL_law 443 = .ok (.iload 5, 2) := by decide +kernel
theorem dL_law_445 : decode cL_law 445 = .ok (.invokestatic 18, 3) := by decide +kernel
theorem dL_law_448 : decode cL_law 448 = .ok (.iload 16, 2) := by decide +kernel
theorem dL_law_450 : decode cL_law 450 = .ok (.iload_n 2, 1) := by decide +kernel
theorem dL_law_451 : decode cL_law 451 = .ok (.iconst 4, 1) := by decide +kernel
theorem dL_law_452 : decode cL_law 452 = .ok (.ishr, 1) := by decide +kernel
theorem dL_law_453 : decode cL_law 453 = .ok (.bipush 101, 2) := by decide +kernel
theorem dL_law_455 : decode cL_law 455 = .ok (.invokestatic 18, 3) := by decide +kernel
theorem dL_law_458 : decode cL_law 458 = .ok (.invokevirtual 49, 3) := by decide +kernel
theorem dL_law_461 : decode cL_law 461 = .ok (.aload_n 1, 1) := by decide +kernel
theorem dL_law_462 : decode cL_law 462 = .ok (.invokevirtual 26, 3) := by decide +kernel
theorem dL_law_465 : decode cL_law 465 = .ok (.iload 17, 2) := by decide +kernel
theorem dL_law_467 : decode cL_law 467 = .ok (.isub, 1) := by decide +kernel
theorem dL_law_468 : decode cL_law 468 = .ok (.if_icmp .eq 130, 3) := by decide +kernel
theorem dL_law_471 : decode cL_law 471 = .ok (.iconst 0, 1) := by decide +kernel
theorem dL_law_472 : decode cL_law 472 = .ok (.ireturn, 1) := by decide +kernel
theorem dL_law_473 : decode cL_law 473 = .ok (.iload 13, 2) := by decide +kernel
theorem dL_law_475 : decode cL_law 475 = .ok (.bipush 6, 2) := by decide +kernel
theorem dL_law_477 : decode cL_law 477 = .ok (.if_icmp .ne 58, 3) := by decide +kernel
theorem dL_law_480 : decode cL_law 480 = .ok (.iload 5, 2) := by decide +kernel
theorem dL_law_482 : decode cL_law 482 = .ok (.ifCond .le 53, 3) := by decide +kernel
theorem dL_law_485 : decode cL_law 485 = .ok (.iload 6, 2) := by decide +kernel
theorem dL_law_487 : decode cL_law 487 = .ok (.bipush 35, 2) := by decide +kernel
theorem dL_law_489 : decode cL_law 489 = .ok (.if_icmp .ge 46, 3) := by decide +kernel
theorem dL_law_492 : decode cL_law 492 = .ok (.iinc 6 1, 3) := by decide +kernel
theorem dL_law_495 : decode cL_law 495 = .ok (.aload_n 1, 1) := by decide +kernel
theorem dL_law_496 : decode cL_law 496 = .ok (.iload_n 2, 1) := by decide +kernel
theorem dL_law_497 : decode cL_law 497 = .ok (.bipush 16, 2) := by decide +kernel
theorem dL_law_499 : decode cL_law 499 = .ok (.ishr, 1) := by decide +kernel
theorem dL_law_500 : decode cL_law 500 = .ok (.iload 5, 2) := by decide +kernel
theorem dL_law_502 : decode cL_law 502 = .ok (.invokestatic 18, 3) := by decide +kernel
theorem dL_law_505 : decode cL_law 505 = .ok (.iload 7, 2) := by decide +kernel
theorem dL_law_507 : decode cL_law 507 = .ok (.iconst 1, 1) := by decide +kernel
theorem dL_law_508 : decode cL_law 508 = .ok (.iadd, 1) := by decide +kernel
theorem dL_law_509 : decode cL_law 509 = .ok (.iload_n 2, 1) := by decide +kernel
theorem dL_law_510 : decode cL_law 510 = .ok (.bipush 20, 2) := by decide +kernel
theorem dL_law_512 : decode cL_law 512 = .ok (.ishr, 1) := by decide +kernel
theorem dL_law_513 : decode cL_law 513 = .ok (.iconst 3, 1) := by decide +kernel
theorem dL_law_514 : decode cL_law 514 = .ok (.invokestatic 18, 3) := by decide +kernel
theorem dL_law_517 : decode cL_law 517 = .ok (.iadd, 1) := by decide +kernel
theorem dL_law_518 : decode cL_law 518 = .ok (.iload 16, 2) := by decide +kernel
theorem dL_law_520 : decode cL_law 520 = .ok (.iload_n 2, 1) := by decide +kernel
theorem dL_law_521 : decode cL_law 521 = .ok (.iconst 4, 1) := by decide +kernel
theorem dL_law_522 : decode cL_law 522 = .ok (.ishr, 1) := by decide +kernel
theorem dL_law_523 : decode cL_law 523 = .ok (.bipush 101, 2) := by decide +kernel
theorem dL_law_525 : decode cL_law 525 = .ok (.invokestatic 18, 3) := by decide +kernel
theorem dL_law_528 : decode cL_law 528 = .ok (.invokevirtual 52, 3) := by decide +kernel
theorem dL_law_531 : decode cL_law 531 = .ok (.pop, 1) := by decide +kernel
theorem dL_law_532 : decode cL_law 532 = .ok (.goto 66, 3) := by decide +kernel
theorem dL_law_535 : decode cL_law 535 = .ok (.iload 13, 2) := by decide +kernel
theorem dL_law_537 : decode cL_law 537 = .ok (.bipush 6, 2) := by decide +kernel
theorem dL_law_539 : decode cL_law 539 = .ok (.if_icmp .le 59, 3) := by decide +kernel
theorem dL_law_542 : decode cL_law 542 = .ok (.iconst 1, 1) := by decide +kernel
theorem dL_law_543 : decode cL_law 543 = .ok (.iload_n 2, 1) := by decide +kernel
theorem dL_law_544 : decode cL_law 544 = .ok (.bipush 16, 2) := by decide +kernel
theorem dL_law_546 : decode cL_law 546 = .ok (.ishr, 1) := by decide +kernel
theorem dL_law_547 : decode cL_law 547 = .ok (.iconst 3, 1) := by decide +kernel
theorem dL_law_548 : decode cL_law 548 = .ok (.invokestatic 18, 3) := by decide +kernel
theorem dL_law_551 : decode cL_law 551 = .ok (.iadd, 1) := by decide +kernel
theorem dL_law_552 : decode cL_law 552 = .ok (.istore 20, 2) := by decide +kernel
theorem dL_law_554 : decode cL_law 554 = .ok (.iload 7, 2) := by decide +kernel
theorem dL_law_556 : decode cL_law 556 = .ok (.iload 20, 2) := by decide +kernel
theorem dL_law_558 : decode cL_law 558 = .ok (.iadd, 1) := by decide +kernel
theorem dL_law_559 : decode cL_law 559 = .ok (.istore 7, 2) := by decide +kernel
theorem dL_law_561 : decode cL_law 561 = .ok (.aload_n 1, 1) := by decide +kernel
theorem dL_law_562 : decode cL_law 562 = .ok (.iload 20, 2) := by decide +kernel
theorem dL_law_564 : decode cL_law 564 = .ok (.invokevirtual 55, 3) := by decide +kernel
theorem dL_law_567 : decode cL_law 567 = .ok (.istore 21, 2) := by decide +kernel
theorem dL_law_569 : decode cL_law 569 = .ok (.iload 21, 2) := by decide +kernel
theorem dL_law_571 : decode cL_law 571 = .ok (.ifCond .lt 25, 3) := by decide +kernel
theorem dL_law_574 : decode cL_law 574 = .ok (.aload_n 1, 1) := by decide +kernel
theorem dL_law_575 : decode cL_law 575 = .ok (.iconst 1, 1) := by decide +kernel
theorem dL_law_576 : decode cL_law 576 = .ok (.invokevirtual 30, 3) := by decide +kernel
theorem dL_law_579 : decode cL_law 579 = .ok (.iload 19, 2) := by decide +kernel
theorem dL_law_581 : decode cL_law 581 = .ok (.iload 21, 2) := by decide +kernel
theorem dL_law_583 : decode cL_law 583 = .ok (.iadd, 1) := by decide +kernel
theorem dL_law_584 : decode cL_law 584 = .ok (.if_icmp .ne 12, 3) := by decide +kernel
theorem dL_law_587 : decode cL_law 587 = .ok (.aload_n 1, 1) := by decide +kernel
theorem dL_law_588 : decode cL_law 588 = .ok (.invokevirtual 59, 3) := by decide +kernel
theorem dL_law_591 : decode cL_law 591 = .ok (.iload 7, 2) := by decide +kernel
theorem dL_law_593 : decode cL_law 593 = .ok (.if_icmp .eq 5, 3) := by decide +kernel
theorem dL_law_596 : decode cL_law 596 = .ok (.iconst 0, 1) := by decide +kernel
theorem dL_law_597 : decode cL_law 597 = .ok (.ireturn, 1) := by decide +kernel
theorem dL_law_598 : decode cL_law 598 = .ok (.aload_n 1, 1) := by decide +kernel
theorem dL_law_599 : decode cL_law 599 = .ok (.invokevirtual 26, 3) := by decide +kernel
theorem dL_law_602 : decode cL_law 602 = .ok (.aload_n 1, 1) := by decide +kernel
theorem dL_law_603 : decode cL_law 603 = .ok (.iconst 0, 1) := by decide +kernel
theorem dL_law_604 : decode cL_law 604 = .ok (.invokevirtual 30, 3) := by decide +kernel
theorem dL_law_607 : decode cL_law 607 = .ok (.aload_n 1, 1) := by decide +kernel
theorem dL_law_608 : decode cL_law 608 = .ok (.iconst 1, 1) := by decide +kernel
theorem dL_law_609 : decode cL_law 609 = .ok (.invokevirtual 30, 3) := by decide +kernel
theorem dL_law_612 : decode cL_law 612 = .ok (.isub, 1) := by decide +kernel
theorem dL_law_613 : decode cL_law 613 = .ok (.if_icmp .ne 21, 3) := by decide +kernel
theorem dL_law_616 : decode cL_law 616 = .ok (.aload_n 1, 1) := by decide +kernel
theorem dL_law_617 : decode cL_law 617 = .ok (.invokevirtual 62, 3) := by decide +kernel
theorem dL_law_620 : decode cL_law 620 = .ok (.aload_n 1, 1) := by decide +kernel
theorem dL_law_621 : decode cL_law 621 = .ok (.invokevirtual 26, 3) := by decide +kernel
theorem dL_law_624 : decode cL_law 624 = .ok (.if_icmp .ne 10, 3) := by decide +kernel
theorem dL_law_627 : decode cL_law 627 = .ok (.aload_n 1, 1) := by decide +kernel
theorem dL_law_628 : decode cL_law 628 = .ok (.invokevirtual 26, 3) := by decide +kernel
theorem dL_law_631 : decode cL_law 631 = .ok (.ifCond .ge 5, 3) := by decide +kernel
theorem dL_law_634 : decode cL_law 634 = .ok (.iconst 0, 1) := by decide +kernel
theorem dL_law_635 : decode cL_law 635 = .ok (.ireturn, 1) := by decide +kernel
theorem dL_law_636 : decode cL_law 636 = .ok (.iload 13, 2) := by decide +kernel
theorem dL_law_638 : decode cL_law 638 = .ok (.bipush 7, 2) := by decide +kernel
theorem dL_law_640 : decode cL_law 640 = .ok (.if_icmp .ge 13, 3) := by decide +kernel
theorem dL_law_643 : decode cL_law 643 = .ok (.aload_n 1, 1) := by decide +kernel
theorem dL_law_644 : decode cL_law 644 = .ok (.iconst 1, 1) := by decide +kernel
theorem dL_law_645 : decode cL_law 645 = .ok (.invokevirtual 30, 3) := by decide +kernel
theorem dL_law_648 : decode cL_law 648 = .ok (.iload 19, 2) := by decide +kernel
theorem dL_law_650 : decode cL_law 650 = .ok (.if_icmp .ne 28, 3) := by decide +kernel
theorem dL_law_653 : decode cL_law 653 = .ok (.iload 13, 2) := by decide +kernel
theorem dL_law_655 : decode cL_law 655 = .ok (.bipush 7, 2) := by decide +kernel
theorem dL_law_657 : decode cL_law 657 = .ok (.if_icmp .ge 23, 3) := by decide +kernel
theorem dL_law_660 : decode cL_law 660 = .ok (.aload_n 1, 1) := by decide +kernel
theorem dL_law_661 : decode cL_law 661 = .ok (.iconst 0, 1) := by decide +kernel
theorem dL_law_662 : decode cL_law 662 = .ok (.invokevirtual 30, 3) := by decide +kernel
theorem dL_law_665 : decode cL_law 665 = .ok (.iload 18, 2) := by decide +kernel
theorem dL_law_667 : decode cL_law 667 = .ok (.aload_n 1, 1) := by decide +kernel
theorem dL_law_668 : decode cL_law 668 = .ok (.invokevirtual 26, 3) := by decide +kernel
theorem dL_law_671 : decode cL_law 671 = .ok (.iadd, 1) := by decide +kernel
theorem dL_law_672 : decode cL_law 672 = .ok (.iload 17, 2) := by decide +kernel
theorem dL_law_674 : decode cL_law 674 = .ok (.isub, 1) := by decide +kernel
theorem dL_law_675 : decode cL_law 675 = .ok (.if_icmp .eq 5, 3) := by decide +kernel
theorem dL_law_678 : decode cL_law 678 = .ok (.iconst 0, 1) := by decide +kernel
theorem dL_law_679 : decode cL_law 679 = .ok (.ireturn, 1) := by decide +kernel
theorem dL_law_680 : decode cL_law 680 = .ok (.iload 14, 2) := by decide +kernel
theorem dL_law_682 : decode cL_law 682 = .ok (.iconst 1, 1) := by decide +kernel
theorem dL_law_683 : decode cL_law 683 = .ok (.iadd, 1) := by decide +kernel
theorem dL_law_684 : decode cL_law 684 = .ok (.iload_n 2, 1) := by decide +kernel
theorem dL_law_685 : decode cL_law 685 = .ok (.iconst 2, 1) := by decide +kernel
theorem dL_law_686 : decode cL_law 686 = .ok (.ishr, 1) := by decide +kernel
theorem dL_law_687 : decode cL_law 687 = .ok (.iload_n 3, 1) := by decide +kernel
theorem dL_law_688 : decode cL_law 688 = .ok (.invokestatic 18, 3) := by decide +kernel
theorem dL_law_691 : decode cL_law 691 = .ok (.iadd, 1) := by decide +kernel
theorem dL_law_692 : decode cL_law 692 = .ok (.istore 20, 2) := by decide +kernel
theorem dL_law_694 : decode cL_law 694 = .ok (.iload 15, 2) := by decide +kernel
theorem dL_law_696 : decode cL_law 696 = .ok (.iconst 1, 1) := by decide +kernel
theorem dL_law_697 : decode cL_law 697 = .ok (.iadd, 1) := by decide +kernel
theorem dL_law_698 : decode cL_law 698 = .ok (.iload_n 2, 1) := by decide +kernel
theorem dL_law_699 : decode cL_law 699 = .ok (.bipush 6, 2) := by decide +kernel
theorem dL_law_701 : decode cL_law 701 = .ok (.ishr, 1) := by decide +kernel
theorem dL_law_702 : decode cL_law 702 = .ok (.iload 4, 2) := by decide +kernel
theorem dL_law_704 : decode cL_law 704 = .ok (.invokestatic 18, 3) := by decide +kernel
theorem dL_law_707 : decode cL_law 707 = .ok (.iadd, 1) := by decide +kernel
theorem dL_law_708 : decode cL_law 708 = .ok (.istore 21, 2) := by decide +kernel
theorem dL_law_710 : decode cL_law 710 = .ok (.iload 20, 2) := by decide +kernel
theorem dL_law_712 : decode cL_law 712 = .ok (.iload_n 3, 1) := by decide +kernel
theorem dL_law_713 : decode cL_law 713 = .ok (.if_icmp .ge 96, 3) := by decide +kernel
theorem dL_law_716 : decode cL_law 716 = .ok (.iload 21, 2) := by decide +kernel
theorem dL_law_718 : decode cL_law 718 = .ok (.iload 4, 2) := by decide +kernel
theorem dL_law_720 : decode cL_law 720 = .ok (.if_icmp .ge 89, 3) := by decide +kernel
theorem dL_law_723 : decode cL_law 723 = .ok (.iconst 0, 1) := by decide +kernel
theorem dL_law_724 : decode cL_law 724 = .ok (.istore 22, 2) := by decide +kernel
theorem dL_law_726 : decode cL_law 726 = .ok (.iload 15, 2) := by decide +kernel
theorem dL_law_728 : decode cL_law 728 = .ok (.istore 23, 2) := by decide +kernel
theorem dL_law_730 : decode cL_law 730 = .ok (.iload 23, 2) := by decide +kernel
theorem dL_law_732 : decode cL_law 732 = .ok (.iload 21, 2) := by decide +kernel
theorem dL_law_734 : decode cL_law 734 = .ok (.if_icmp .ge 39, 3) := by decide +kernel
theorem dL_law_737 : decode cL_law 737 = .ok (.iload 14, 2) := by decide +kernel
theorem dL_law_739 : decode cL_law 739 = .ok (.istore 24, 2) := by decide +kernel
theorem dL_law_741 : decode cL_law 741 = .ok (.iload 24, 2) := by decide +kernel
theorem dL_law_743 : decode cL_law 743 = .ok (.iload 20, 2) := by decide +kernel
theorem dL_law_745 : decode cL_law 745 = .ok (.if_icmp .ge 22, 3) := by decide +kernel
theorem dL_law_748 : decode cL_law 748 = .ok (.iload 22, 2) := by decide +kernel
theorem dL_law_750 : decode cL_law 750 = .ok (.aload_n 1, 1) := by decide +kernel
theorem dL_law_751 : decode cL_law 751 = .ok (.iload 24, 2) := by decide +kernel
theorem dL_law_753 : decode cL_law 753 = .ok (.iload 23, 2) := by decide +kernel
theorem dL_law_755 : decode cL_law 755 = .ok (.invokevirtual 65, 3) := by decide +kernel
theorem dL_law_758 : decode cL_law 758 = .ok (.iadd, 1) := by decide +kernel
theorem dL_law_759 : decode cL_law 759 = .ok (.istore 22, 2) := by decide +kernel
theorem dL_law_761 : decode cL_law 761 = .ok (.iinc 24 1, 3) := by decide +kernel
theorem dL_law_764 : decode cL_law 764 = .ok (.goto (-23), 3) := by decide +kernel
theorem dL_law_767 : decode cL_law 767 = .ok (.iinc 23 1, 3) := by decide +kernel
theorem dL_law_770 : decode cL_law 770 = .ok (.goto (-40), 3) := by decide +kernel
theorem dL_law_773 : decode cL_law 773 = .ok (.aload_n 1, 1) := by decide +kernel
theorem dL_law_774 : decode cL_law 774 = .ok (.iload 14, 2) := by decide +kernel
theorem dL_law_776 : decode cL_law 776 = .ok (.iload 15, 2) := by decide +kernel
theorem dL_law_778 : decode cL_law 778 = .ok (.iload 20, 2) := by decide +kernel
theorem dL_law_780 : decode cL_law 780 = .ok (.iload 21, 2) := by decide +kernel
theorem dL_law_782 : decode cL_law 782 = .ok (.invokevirtual 68, 3) := by decide +kernel
theorem dL_law_785 : decode cL_law 785 = .ok (.iload 22, 2) := by decide +kernel
theorem dL_law_787 : decode cL_law 787 = .ok (.if_icmp .ne 20, 3) := by decide +kernel
theorem dL_law_790 : decode cL_law 790 = .ok (.aload_n 1, 1) := by decide +kernel
theorem dL_law_791 : decode cL_law 791 = .ok (.iload 14, 2) := by decide +kernel
theorem dL_law_793 : decode cL_law 793 = .ok (.iload 15, 2) := by decide +kernel
theorem dL_law_795 : decode cL_law 795 = .ok (.iload 20, 2) := by decide +kernel
theorem dL_law_797 : decode cL_law 797 = .ok (.iload 21, 2) := by decide +kernel
theorem dL_law_799 : decode cL_law 799 = .ok (.invokevirtual 71, 3) := by decide +kernel
theorem dL_law_802 : decode cL_law 802 = .ok (.iload 22, 2) := by decide +kernel
theorem dL_law_804 : decode cL_law 804 = .ok (.if_icmp .eq 5, 3) := by decide +kernel
theorem dL_law_807 : decode cL_law 807 = .ok (.iconst 0, 1) := by decide +kernel
theorem dL_law_808 : decode cL_law 808 = .ok (.ireturn, 1) := by decide +kernel
theorem dL_law_809 : decode cL_law 809 = .ok (.aload_n 1, 1) := by decide +kernel
theorem dL_law_810 : decode cL_law 810 = .ok (.invokevirtual 74, 3) := by decide +kernel
theorem dL_law_813 : decode cL_law 813 = .ok (.istore 22, 2) := by decide +kernel
theorem dL_law_815 : decode cL_law 815 = .ok (.iconst 0, 1) := by decide +kernel
theorem dL_law_816 : decode cL_law 816 = .ok (.istore 23, 2) := by decide +kernel
theorem dL_law_818 : decode cL_law 818 = .ok (.iload 23, 2) := by decide +kernel
theorem dL_law_820 : decode cL_law 820 = .ok (.iload 5, 2) := by decide +kernel
theorem dL_law_822 : decode cL_law 822 = .ok (.if_icmp .ge 143, 3) := by decide +kernel
theorem dL_law_825 : decode cL_law 825 = .ok (.iconst 1, 1) := by decide +kernel
theorem dL_law_826 : decode cL_law 826 = .ok (.istore 24, 2) := by decide +kernel
theorem dL_law_828 : decode cL_law 828 = .ok (.iconst 0, 1) := by decide +kernel
theorem dL_law_829 : decode cL_law 829 = .ok (.istore 25, 2) := by decide +kernel
theorem dL_law_831 : decode cL_law 831 = .ok (.iload 25, 2) := by decide +kernel
theorem dL_law_833 : decode cL_law 833 = .ok (.iload 22, 2) := by decide +kernel
theorem dL_law_835 : decode cL_law 835 = .ok (.if_icmp .ge 81, 3) := by decide +kernel
theorem dL_law_838 : decode cL_law 838 = .ok (.aload_n 1, 1) := by decide +kernel
theorem dL_law_839 : decode cL_law 839 = .ok (.iload 25, 2) := by decide +kernel
theorem dL_law_841 : decode cL_law 841 = .ok (.iconst 0, 1) := by decide +kernel
theorem dL_law_842 : decode cL_law 842 = .ok (.invokevirtual 77, 3) := by decide +kernel
theorem dL_law_845 : decode cL_law 845 = .ok (.aload 8, 2) := by decide +kernel
theorem dL_law_847 : decode cL_law 847 = .ok (.iload 23, 2) := by decide +kernel
theorem dL_law_849 : decode cL_law 849 = .ok (.iaload, 1) := by decide +kernel
theorem dL_law_850 : decode cL_law 850 = .ok (.isub, 1) := by decide +kernel
theorem dL_law_851 : decode cL_law 851 = .ok (.istore 26, 2) := by decide +kernel
theorem dL_law_853 : decode cL_law 853 = .ok (.aload_n 1, 1) := by decide +kernel
theorem dL_law_854 : decode cL_law 854 = .ok (.iload 25, 2) := by decide +kernel
theorem dL_law_856 : decode cL_law 856 = .ok (.iconst 1, 1) := by decide +kernel
theorem dL_law_857 : decode cL_law 857 = .ok (.invokevirtual 77, 3) := by decide +kernel
theorem dL_law_860 : decode cL_law 860 = .ok (.aload 9, 2) := by decide +kernel
theorem dL_law_862 : decode cL_law 862 = .ok (.iload 23, 2) := by decide +kernel
theorem dL_law_864 : decode cL_law 864 = .ok (.iaload, 1) := by decide +kernel
theorem dL_law_865 : decode cL_law 865 = .ok (.isub, 1) := by decide +kernel
theorem dL_law_866 : decode cL_law 866 = .ok (.istore 27, 2) := by decide +kernel
theorem dL_law_868 : decode cL_law 868 = .ok (.iload 24, 2) := by decide +kernel
theorem dL_law_870 : decode cL_law 870 = .ok (.iload 26, 2) := by decide +kernel
theorem dL_law_872 : decode cL_law 872 = .ok (.iconst (-1), 1) := by decide +kernel
theorem dL_law_873 : decode cL_law 873 = .ok (.if_icmp .lt 29, 3) := by decide +kernel
theorem dL_law_876 : decode cL_law 876 = .ok (.iload 26, 2) := by decide +kernel
theorem dL_law_878 : decode cL_law 878 = .ok (.aload 10, 2) := by decide +kernel
theorem dL_law_880 : decode cL_law 880 = .ok (.iload 23, 2) := by decide +kernel
theorem dL_law_882 : decode cL_law 882 = .ok (.iaload, 1) := by decide +kernel
theorem dL_law_883 : decode cL_law 883 = .ok (.if_icmp .ge 19, 3) := by decide +kernel
theorem dL_law_886 : decode cL_law 886 = .ok (.iload 27, 2) := by decide +kernel
theorem dL_law_888 : decode cL_law 888 = .ok (.iconst (-1), 1) := by decide +kernel
theorem dL_law_889 : decode cL_law 889 = .ok (.if_icmp .lt 13, 3) := by decide +kernel
theorem dL_law_892 : decode cL_law 892 = .ok (.iload 27, 2) := by decide +kernel
theorem dL_law_894 : decode cL_law 894 = .ok (.aload 11, 2) := by decide +kernel
theorem dL_law_896 : decode cL_law 896 = .ok (.iload 23, 2) := by decide +kernel
theorem dL_law_898 : decode cL_law 898 = .ok (.iaload, 1) := by decide +kernel
theorem dL_law_899 : decode cL_law 899 = .ok (.if_icmp .lt 7, 3) := by decide +kernel
theorem dL_law_902 : decode cL_law 902 = .ok (.iconst 1, 1) := by decide +kernel
theorem dL_law_903 : decode cL_law 903 = .ok (.goto 4, 3) := by decide +kernel
theorem dL_law_906 : decode cL_law 906 = .ok (.iconst 0, 1) := by decide +kernel
theorem dL_law_907 : decode cL_law 907 = .ok (.iand, 1) := by decide +kernel
theorem dL_law_908 : decode cL_law 908 = .ok (.istore 24, 2) := by decide +kernel
theorem dL_law_910 : decode cL_law 910 = .ok (.iinc 25 1, 3) := by decide +kernel
theorem dL_law_913 : decode cL_law 913 = .ok (.goto (-82), 3) := by decide +kernel
theorem dL_law_916 : decode cL_law 916 = .ok (.aload_n 1, 1) := by decide +kernel
theorem dL_law_917 : decode cL_law 917 = .ok (.iload 23, 2) := by decide +kernel
theorem dL_law_919 : decode cL_law 919 = .ok (.iconst 1, 1) := by decide +kernel
theorem dL_law_920 : decode cL_law 920 = .ok (.invokevirtual 80, 3) := by decide +kernel
theorem dL_law_923 : decode cL_law 923 = .ok (.istore 25, 2) := by decide +kernel
theorem dL_law_925 : decode cL_law 925 = .ok (.aload_n 1, 1) := by decide +kernel
theorem dL_law_926 : decode cL_law 926 = .ok (.iload 23, 2) := by decide +kernel
theorem dL_law_928 : decode cL_law 928 = .ok (.iconst 2, 1) := by decide +kernel
theorem dL_law_929 : decode cL_law 929 = .ok (.invokevirtual 80, 3) := by decide +kernel
theorem dL_law_932 : decode cL_law 932 = .ok (.iload 24, 2) := by decide +kernel
theorem dL_law_934 : decode cL_law 934 = .ok (.ifCond .eq 7, 3) := by decide +kernel
theorem dL_law_937 : decode cL_law 937 = .ok (.iconst 1, 1) := by decide +kernel
theorem dL_law_938 : decode cL_law 938 = .ok (.goto 4, 3) := by decide +kernel
theorem dL_law_941 : decode cL_law 941 = .ok (.iconst 0, 1) := by decide +kernel
theorem dL_law_942 : decode cL_law 942 = .ok (.if_icmp .ne 15, 3) := by decide +kernel
theorem dL_law_945 : decode cL_law 945 = .ok (.iload 25, 2) := by decide +kernel
theorem dL_law_947 : decode cL_law 947 = .ok (.ifCond .lt 10, 3) := by decide +kernel
theorem dL_law_950 : decode cL_law 950 = .ok (.iload 25, 2) := by decide +kernel
theorem dL_law_952 : decode cL_law 952 = .ok (.bipush 99, 2) := by decide +kernel
theorem dL_law_954 : decode cL_law 954 = .ok (.if_icmp .le 5, 3) := by decide +kernel
theorem dL_law_957 : decode cL_law 957 = .ok (.iconst 0, 1) := by decide +kernel
theorem dL_law_958 : decode cL_law 958 = .ok (.ireturn, 1) := by decide +kernel
theorem dL_law_959 : decode cL_law 959 = .ok (.iinc 23 1, 3) := by decide +kernel
theorem dL_law_962 : decode cL_law 962 = .ok (.goto (-144), 3) := by decide +kernel
theorem dL_law_965 : decode cL_law 965 = .ok (.iinc 12 1, 3) := by decide +kernel
theorem dL_law_968 : decode cL_law 968 = .ok (.goto (-887), 3) := by decide +kernel
theorem dL_law_971 : decode cL_law 971 = .ok (.iconst 1, 1) := by decide +kernel
theorem dL_law_972 : decode cL_law 972 = .ok (.ireturn, 1) := by decide +kernel
theorem dJ9_floorDiv_7cf53_0 : decode cJ9_floorDiv_7cf53 0 = .ok (.iload_n 0, 1) := by decide +kernel
theorem dJ9_floorDiv_7cf53_1 : decode cJ9_floorDiv_7cf53 1 = .ok (.iload_n 1, 1) := by decide +kernel
theorem dJ9_floorDiv_7cf53_2 : decode cJ9_floorDiv_7cf53 2 = .ok (.idiv, 1) := by decide +kernel
theorem dJ9_floorDiv_7cf53_3 : decode cJ9_floorDiv_7cf53 3 = .ok (.istore_n 2, 1) := by decide +kernel
theorem dJ9_floorDiv_7cf53_4 : decode cJ9_floorDiv_7cf53 4 = .ok (.iload_n 0, 1) := by decide +kernel
theorem dJ9_floorDiv_7cf53_5 : decode cJ9_floorDiv_7cf53 5 = .ok (.iload_n 1, 1) := by decide +kernel
theorem dJ9_floorDiv_7cf53_6 : decode cJ9_floorDiv_7cf53 6 = .ok (.ixor, 1) := by decide +kernel
theorem dJ9_floorDiv_7cf53_7 : decode cJ9_floorDiv_7cf53 7 = .ok (.ifCond .ge 14, 3) := by decide +kernel
theorem dJ9_floorDiv_7cf53_10 : decode cJ9_floorDiv_7cf53 10 = .ok (.iload_n 2, 1) := by decide +kernel
theorem dJ9_floorDiv_7cf53_11 : decode cJ9_floorDiv_7cf53 11 = .ok (.iload_n 1, 1) := by decide +kernel
theorem dJ9_floorDiv_7cf53_12 : decode cJ9_floorDiv_7cf53 12 = .ok (.imul, 1) := by decide +kernel
theorem dJ9_floorDiv_7cf53_13 : decode cJ9_floorDiv_7cf53 13 = .ok (.iload_n 0, 1) := by decide +kernel
theorem dJ9_floorDiv_7cf53_14 : decode cJ9_floorDiv_7cf53 14 = .ok (.if_icmp .eq 7, 3) := by decide +kernel
theorem dJ9_floorDiv_7cf53_17 : decode cJ9_floorDiv_7cf53 17 = .ok (.iload_n 2, 1) := by decide +kernel
theorem dJ9_floorDiv_7cf53_18 : decode cJ9_floorDiv_7cf53 18 = .ok (.iconst 1, 1) := by decide +kernel
theorem dJ9_floorDiv_7cf53_19 : decode cJ9_floorDiv_7cf53 19 = .ok (.isub, 1) := by decide +kernel
theorem dJ9_floorDiv_7cf53_20 : decode cJ9_floorDiv_7cf53 20 = .ok (.ireturn, 1) := by decide +kernel
theorem dJ9_floorDiv_7cf53_21 : decode cJ9_floorDiv_7cf53 21 = .ok (.iload_n 2, 1) := by decide +kernel
theorem dJ9_floorDiv_7cf53_22 : decode cJ9_floorDiv_7cf53 22 = .ok (.ireturn, 1) := by decide +kernel
theorem dJ9_abs_0f7a4_0 : decode cJ9_abs_0f7a4 0 = .ok (.iload_n 0, 1) := by decide +kernel
theorem dJ9_abs_0f7a4_1 : decode cJ9_abs_0f7a4 1 = .ok (.ifCond .ge 8, 3) := by decide +kernel
theorem dJ9_abs_0f7a4_4 : decode cJ9_abs_0f7a4 4 = .ok (.iload_n 0, 1) := by decide +kernel
theorem dJ9_abs_0f7a4_5 : decode cJ9_abs_0f7a4 5 = .ok (.ineg, 1) := by decide +kernel
theorem dJ9_abs_0f7a4_6 : decode cJ9_abs_0f7a4 6 = .ok (.goto 4, 3) := by decide +kernel
theorem dJ9_abs_0f7a4_9 : decode cJ9_abs_0f7a4 9 = .ok (.iload_n 0, 1) := by decide +kernel
theorem dJ9_abs_0f7a4_10 : decode cJ9_abs_0f7a4 10 = .ok (.ireturn, 1) := by decide +kernel
theorem dJ9_max_7cf53_0 : decode cJ9_max_7cf53 0 = .ok (.iload_n 0, 1) := by decide +kernel
theorem dJ9_max_7cf53_1 : decode cJ9_max_7cf53 1 = .ok (.iload_n 1, 1) := by decide +kernel
theorem dJ9_max_7cf53_2 : decode cJ9_max_7cf53 2 = .ok (.if_icmp .lt 7, 3) := by decide +kernel
theorem dJ9_max_7cf53_5 : decode cJ9_max_7cf53 5 = .ok (.iload_n 0, 1) := by decide +kernel
theorem dJ9_max_7cf53_6 : decode cJ9_max_7cf53 6 = .ok (.goto 4, 3) := by decide +kernel
theorem dJ9_max_7cf53_9 : decode cJ9_max_7cf53 9 = .ok (.iload_n 1, 1) := by decide +kernel
theorem dJ9_max_7cf53_10 : decode cJ9_max_7cf53 10 = .ok (.ireturn, 1) := by decide +kernel
theorem dJ9_min_7cf53_0 : decode cJ9_min_7cf53 0 = .ok (.iload_n 0, 1) := by decide +kernel
theorem dJ9_min_7cf53_1 : decode cJ9_min_7cf53 1 = .ok (.iload_n 1, 1) := by decide +kernel
theorem dJ9_min_7cf53_2 : decode cJ9_min_7cf53 2 = .ok (.if_icmp .gt 7, 3) := by decide +kernel
theorem dJ9_min_7cf53_5 : decode cJ9_min_7cf53 5 = .ok (.iload_n 0, 1) := by decide +kernel
theorem dJ9_min_7cf53_6 : decode cJ9_min_7cf53 6 = .ok (.goto 4, 3) := by decide +kernel
theorem dJ9_min_7cf53_9 : decode cJ9_min_7cf53 9 = .ok (.iload_n 1, 1) := by decide +kernel
theorem dJ9_min_7cf53_10 : decode cJ9_min_7cf53 10 = .ok (.ireturn, 1) := by decide +kernel
end
section
section BASE
/-! the words that every method may use: the good ones of the tables -/
def TA : List Cond := lw_tbl.filter goodWord
theorem ta {w : Cond} (i : Nat) (h : lw_tbl[i]? = some w) (g : goodWord w = true) : w ∈ TA := List.mem_filter.mpr ⟨List.mem_of_getElem? h, g⟩
theorem ta_in {w : Cond} (h : w ∈ TA) : w ∈ lw_tbl := (List.mem_filter.mp h).1
theorem ta_good {w : Cond} (h : w ∈ TA) : goodWord w = true := (List.mem_filter.mp h).2
theorem gi_ta : GoodIn TA TA := fun _ h => ⟨h, good_of_word (ta_good h)⟩
theorem gi_c {big ws : List Cond} {w : Cond} (h : w ∈ big ∧ goodWord w = true) (t : GoodIn big ws) : GoodIn big (w :: ws) := fun x hx => (List.mem_cons.mp hx).elim (fun e => by rw [e]; exact ⟨h.1, good_of_word h.2⟩) (t x)
theorem ta2 {w : Cond} (h : w ∈ TA) : w ∈ TA ∧ goodWord w = true := ⟨h, ta_good h⟩
theorem gV {own C : String} {idx n : Nat} {y : MethodName} {b : ByteArray} {r : Option FieldType} (h1 : Cond.methodLink own idx y ∈ TA) (h2 : Cond.instanceMethod y ∈ TA) (h3 : Cond.selects C y y ∈ TA) (h4 : Cond.initialized C ∈ TA) (h5 : Cond.code y b n r ∈ TA) : GoodIn TA (wsV own idx C y (.code y b n r :: TA)) :=
  gi_c (ta2 h1) (gi_c (ta2 h2) (gi_c (ta2 h3) (gi_c (ta2 h4) (gi_c (ta2 h5) gi_ta))))
theorem gS {own : String} {idx n : Nat} {y : MethodName} {b : ByteArray} {r : Option FieldType} (h1 : Cond.methodLink own idx y ∈ TA) (h2 : Cond.static y ∈ TA) (h4 : Cond.initialized own ∈ TA) (h5 : Cond.code y b n r ∈ TA) : GoodIn TA (wsS own idx y (.code y b n r :: TA)) :=
  gi_c (ta2 h1) (gi_c (ta2 h2) (gi_c (ta2 h4) (gi_c (ta2 h5) gi_ta)))
theorem gC {n : Nat} {y : MethodName} {b : ByteArray} {r : Option FieldType} (h5 : Cond.code y b n r ∈ TA) : GoodIn TA (.code y b n r :: TA) := gi_c (ta2 h5) gi_ta

/-! a body's surroundings -/
def EX (p : Program) (s : State) (m : MethodId) (args : Array Value) (meth : Method) (c : Code) (cc : ByteArray) (nL : Nat) (own : String) (ret : Option FieldType) : Prop :=
  p.tables.exec = Jvm.exec ∧ c.code = cc ∧ c.maxLocals = nL ∧ s.vm.findClass own = some m.cls ∧ (∀ w ∈ TA, w.before args s = true) ∧ meth.sig.returnType = ret ∧ meth.locks = false
theorem EX.hx {p : Program} {s : State} {m : MethodId} {args : Array Value} {meth : Method} {c : Code} {cc : ByteArray} {nL : Nat} {own : String} {ret : Option FieldType} (E : EX p s m args meth c cc nL own ret) : p.tables.exec = Jvm.exec := E.1
theorem EX.hb {p : Program} {s : State} {m : MethodId} {args : Array Value} {meth : Method} {c : Code} {cc : ByteArray} {nL : Nat} {own : String} {ret : Option FieldType} (E : EX p s m args meth c cc nL own ret) : c.code = cc := E.2.1
theorem EX.hm {p : Program} {s : State} {m : MethodId} {args : Array Value} {meth : Method} {c : Code} {cc : ByteArray} {nL : Nat} {own : String} {ret : Option FieldType} (E : EX p s m args meth c cc nL own ret) : c.maxLocals = nL := E.2.2.1
theorem EX.ho {p : Program} {s : State} {m : MethodId} {args : Array Value} {meth : Method} {c : Code} {cc : ByteArray} {nL : Nat} {own : String} {ret : Option FieldType} (E : EX p s m args meth c cc nL own ret) : s.vm.findClass own = some m.cls := E.2.2.2.1
theorem EX.ht {p : Program} {s : State} {m : MethodId} {args : Array Value} {meth : Method} {c : Code} {cc : ByteArray} {nL : Nat} {own : String} {ret : Option FieldType} (E : EX p s m args meth c cc nL own ret) : ∀ w ∈ TA, w.before args s = true := E.2.2.2.2.1
theorem EX.hr {p : Program} {s : State} {m : MethodId} {args : Array Value} {meth : Method} {c : Code} {cc : ByteArray} {nL : Nat} {own : String} {ret : Option FieldType} (E : EX p s m args meth c cc nL own ret) : meth.sig.returnType = ret := E.2.2.2.2.2.1
theorem EX.hk {p : Program} {s : State} {m : MethodId} {args : Array Value} {meth : Method} {c : Code} {cc : ByteArray} {nL : Nat} {own : String} {ret : Option FieldType} (E : EX p s m args meth c cc nL own ret) : meth.locks = false := E.2.2.2.2.2.2
theorem EX.fix {p : Program} {s : State} {m : MethodId} {args : Array Value} {meth : Method} {c : Code} {cc : ByteArray} {nL : Nat} {own : String} {ret : Option FieldType} (E : EX p s m args meth c cc nL own ret) : CallFix p m c cc nL s args TA own := ⟨E.hx, E.hb, E.hm, E.ho, E.ht⟩
abbrev rmL (k : Nat) : Room := { frames := k, cells := 0, slots := 0, locals := 40 * k }
abbrev rmX (k : Nat) : Room := { frames := k, cells := 1, slots := 6, locals := 40 * k }

/-! arrays and options -/
def rd (f : Nat → Int32) (n : Nat) (i : Int32) : Option Int32 := if i < 0 ∨ n ≤ i.toNatClampNeg then none else some (f i.toNatClampNeg)
def wr (f : Nat → Int32) (n : Nat) (i v : Int32) : Option (Nat → Int32) := if i < 0 ∨ n ≤ i.toNatClampNeg then none else some (upd f i.toNatClampNeg v)
theorem rd_some {f : Nat → Int32} {n : Nat} {i v : Int32} (h : rd f n i = some v) : vp_in i n ∧ f i.toNatClampNeg = v := by
  unfold rd at h
  by_cases c : i < 0 ∨ n ≤ i.toNatClampNeg
  · rw [if_pos c] at h; cases h
  · rw [if_neg c] at h; exact ⟨c, Option.some.inj h⟩
theorem wr_some {f g : Nat → Int32} {n : Nat} {i v : Int32} (h : wr f n i v = some g) : vp_in i n ∧ upd f i.toNatClampNeg v = g := by
  unfold wr at h
  by_cases c : i < 0 ∨ n ≤ i.toNatClampNeg
  · rw [if_pos c] at h; cases h
  · rw [if_neg c] at h; exact ⟨c, Option.some.inj h⟩
theorem obind {α β : Type} {x : Option α} {f : α → Option β} {b : β} (h : x.bind f = some b) : ∃ a, x = some a ∧ f a = some b := by
  cases x with
  | none => cases h
  | some a => exact ⟨a, rfl, h⟩
/-- how many turns a loop may take -/
def FU : Nat := 2000
/-- a cell of a row that looks at its index -/
def rAt (n : Nat) (f : Nat → Int32) (i : Int32) : Int32 := if i < 0 then 0 else if Int32.ofNat n ≤ i then 0 else f i.toNatClampNeg
def rPut (n : Nat) (f : Nat → Int32) (i v : Int32) : Nat → Int32 := if i < 0 then f else if Int32.ofNat n ≤ i then f else upd f i.toNatClampNeg v
def rFill (n : Nat) (f : Nat → Int32) (v : Int32) : Nat → Int32 := fun j => if j < n then v else f j

/-! contracts -/
abbrev Ctx : Type := State → Heap → Prop
def PX (As : List Value) (H : Heap) (KX : Ctx) : Array Value → State → Prop := va_Pc As (fun U => U.heap = H ∧ KX U H)
def Blind (KX : Ctx) : Prop := ∀ (u U : State) (H : Heap), U.vm = u.vm → KX u H → KX U H
theorem PX_blind {As : List Value} {H : Heap} {KX : Ctx} (hK : Blind KX) : FrameBlind (PX As H KX) := fun a U g mk h => ⟨h.1, h.2.1, hK U _ H rfl h.2.2⟩
abbrev MRO (l : Launch) (y : MethodName) (b : ByteArray) (n : Nat) (r : Option FieldType) (k : Nat) (As : List Value) (H : Heap) (KX : Ctx) (v : Int32) : Prop :=
  Met l y (.code y b n r :: TA) (rmL k) (PX As H KX) (vp_Si (fun z => z = v)) 0 0 (fun _ => False)
def Qrw (A : Nat → Prop) (v : Option Value) (P1 : Heap → Prop) : Array Value → State → Outcome → State → Prop := fun _ st o t => o = .returned v ∧ P1 t.heap ∧ va_F A st t
abbrev MRW (l : Launch) (y : MethodName) (b : ByteArray) (n : Nat) (r : Option FieldType) (k : Nat) (As : List Value) (H : Heap) (KX : Ctx) (A : Nat → Prop) (v : Option Value) (P1 : Heap → Prop) : Prop :=
  Met l y (.code y b n r :: TA) (rmL k) (PX As H KX) (Qrw A v P1) 0 0 A
/-- the room that a call of level k leaves -/
abbrev RmOk (R : Room) (cells slots k n : Nat) : Prop := k + 1 ≤ R.frames ∧ 8 + (n + 11) + 40 * k ≤ R.locals ∧ cells ≤ R.cells ∧ slots ≤ R.slots
section
variable {p : Program} {l : Launch} {e : Env} {R : Room} {s : State} {m : MethodId} {args : Array Value} {below : List Frame} {meth : Method} {c : Code} {H : Heap} {locs : List Loc} {cells slots : Nat} {Q : State → Prop}
variable {cc : ByteArray} {nL pc : Nat} {own : String} {ret : Option FieldType} {ls : Array Slot} {rest st0 : List Value}
theorem ro_calli {v : Int32} {a : Array Value} (hr : va_Run p l e R s m args below meth c H locs cells slots 0 0 (F0 m pc ls st0) rest (vp_Si (fun z => z = v) a) (fun _ => False))
    (kk : W p l e R s m args below meth c H locs cells slots Q (F0 m (pc + 3) ls (.int v :: rest))) : W p l e R s m args below meth c H locs cells slots Q (F0 m pc ls st0) := by
  intro T hT X
  obtain ⟨v1, st₀, t, T', L, h0, X', hL, e1, e2, ⟨r, hv, hp, hh⟩, st⟩ := hr T hT X
  cases hv
  have hp' : r = v := hp
  subst hp'
  obtain ⟨t2, a1, b1⟩ := kk T' (by rw [e1, hh, h0]) (Stand.forget X' (fun q h => (hL q h).elim))
  exact ⟨t2, st t2 a1, b1⟩
theorem rw_call {A : Nat → Prop} {v : Option Value} {P1 : Heap → Prop} {H0 : Heap} {a : Array Value} (hr : va_Run p l e R s m args below meth c H locs cells slots 0 0 (F0 m pc ls st0) rest (Qrw A v P1 a) A) (hS : va_S A H0 H locs)
    (kk : ∀ (H1 : Heap) (locs1 : List Loc), P1 H1 → va_S A H0 H1 locs1 → W p l e R s m args below meth c H1 locs1 cells slots Q (F0 m (pc + 3) ls (v.toList ++ rest))) : W p l e R s m args below meth c H locs cells slots Q (F0 m pc ls st0) := by
  intro T hT X
  obtain ⟨v1, st₀, t, T', L, h0, X', hL, e1, e2, ⟨hv, hp, hz, hk⟩, st⟩ := hr T hT X
  cases hv
  rw [h0] at hz hk
  obtain ⟨t2, a1, b1⟩ := kk T'.heap (locs ++ L) (by rw [e1]; exact hp)
    ⟨Nat.le_trans hS.1 (by rw [e1]; exact hz), fun q h1 h2 => by rw [e1, hk q (Nat.lt_of_lt_of_le h1 hS.1) h2]; exact hS.2.1 q h1 h2, fun q hq => by
      rcases List.mem_append.mp hq with h | h
      · exact hS.2.2 q h
      · exact hL q h⟩ T' rfl X'
  exact ⟨t2, st t2 a1, b1⟩
variable {y : MethodName} {b : ByteArray} {n k idx N o : Nat} {r : Option FieldType} {As : List Value} {KX : Ctx} {C host : String} {v : Int32}
abbrev Recv (s : State) (H : Heap) (o : Nat) (C : String) : Prop := ∃ cell : Cell, H[o]? = some cell ∧ cell.vm.isStatics = false ∧ s.vm.findClass C = some cell.cls
abbrev Dsc (y : MethodName) (N : Nat) : Prop := y.cls ≠ "java/lang/invoke/MethodHandle" ∧ y.cls ≠ "java/lang/invoke/VarHandle" ∧ (parseMethodDescriptor y.desc).map (fun d => d.parameters.length) = some N
theorem cv_ro (E : EX p s m args meth c cc nL own ret) (hM : MRO l y b n r k (.ref o :: As) H KX v) (g : GoodIn TA (wsV own idx C y (.code y b n r :: TA))) (hC : y.cls = C) (hd : Dsc y N) (hN : As.length = N) (hB : Blind KX) (hW : ∀ U : State, U.heap = H → s.WarmedH U.vm → KX U H)
    (hrec : Recv s H o C) (hR : RmOk R cells slots k n) (hls : ls.size = nL) (hst : st0 = As.reverse ++ .ref o :: rest) (hro : (rest.map fun v => v.category).sum ≤ 8) (hdg : decode cc pc = .ok (.invokevirtual idx, 3))
    (kk : W p l e R s m args below meth c H locs cells slots Q (F0 m (pc + 3) ls (.int v :: rest))) : W p l e R s m args below meth c H locs cells slots Q (F0 m pc ls st0) := by
  subst hst
  exact ro_calli (va_runV (As := As) (rest := rest) E.fix hM (cwV N E.ht g rfl rfl rfl ⟨hC, hd⟩ ⟨hR.1, hR.2.1⟩) ⟨PX_blind hB, hrec, fun U hU hW9 => ⟨rfl, hU, hW U hU hW9⟩⟩ rfl hN hls rfl (lv_room hro) hdg ⟨hR.2.2.1, hR.2.2.2⟩) kk
theorem cv_rw {A : Nat → Prop} {v : Option Value} {P1 : Heap → Prop} {H0 : Heap} (E : EX p s m args meth c cc nL own ret) (hM : MRW l y b n r k (.ref o :: As) H KX A v P1) (g : GoodIn TA (wsV own idx C y (.code y b n r :: TA))) (hC : y.cls = C) (hd : Dsc y N) (hN : As.length = N) (hB : Blind KX) (hW : ∀ U : State, U.heap = H → s.WarmedH U.vm → KX U H)
    (hS : va_S A H0 H locs) (hrec : Recv s H o C) (hR : RmOk R cells slots k n) (hls : ls.size = nL) (hst : st0 = As.reverse ++ .ref o :: rest) (hro : (rest.map fun v => v.category).sum ≤ 8) (hdg : decode cc pc = .ok (.invokevirtual idx, 3))
    (kk : ∀ (H1 : Heap) (locs1 : List Loc), P1 H1 → va_S A H0 H1 locs1 → W p l e R s m args below meth c H1 locs1 cells slots Q (F0 m (pc + 3) ls (v.toList ++ rest))) : W p l e R s m args below meth c H locs cells slots Q (F0 m pc ls st0) := by
  subst hst
  exact rw_call (va_runV (As := As) (rest := rest) E.fix hM (cwV N E.ht g rfl rfl rfl ⟨hC, hd⟩ ⟨hR.1, hR.2.1⟩) ⟨PX_blind hB, hrec, fun U hU hW9 => ⟨rfl, hU, hW U hU hW9⟩⟩ rfl hN hls rfl (lv_room hro) hdg ⟨hR.2.2.1, hR.2.2.2⟩) hS kk
theorem cs_ro (E : EX p s m args meth c cc nL own ret) (hM : MRO l y b n r k As H KX v) (g : GoodIn TA (wsS own idx y (.code y b n r :: TA))) (hC : y.cls = own) (hd : Dsc y N) (hN : As.length = N) (hB : Blind KX) (hW : ∀ U : State, U.heap = H → s.WarmedH U.vm → KX U H)
    (hR : RmOk R cells slots k n) (hls : ls.size = nL) (hst : st0 = As.reverse ++ rest) (hro : (rest.map fun v => v.category).sum ≤ 8) (hdg : decode cc pc = .ok (.invokestatic idx, 3))
    (kk : W p l e R s m args below meth c H locs cells slots Q (F0 m (pc + 3) ls (.int v :: rest))) : W p l e R s m args below meth c H locs cells slots Q (F0 m pc ls st0) := by
  subst hst
  exact ro_calli (va_runS (As := As) (rest := rest) E.fix hM (cwS N E.ht g rfl rfl rfl ⟨hC, hd⟩ ⟨hR.1, hR.2.1⟩) ⟨PX_blind hB, fun U hU hW9 => ⟨rfl, hU, hW U hU hW9⟩⟩ rfl hN hls rfl (lv_room hro) hdg ⟨hR.2.2.1, hR.2.2.2⟩) kk
/-- a static method of another class, public -/
theorem cq_ro (E : EX p s m args meth c cc nL own ret) (hM : MRO l y b n r k As H KX v) (h1 : Cond.methodLink own idx y ∈ TA) (h2 : Cond.static y ∈ TA) (h4 : Cond.initialized y.cls ∈ TA) (h5 : Cond.code y b n r ∈ TA) (hd : Dsc y N) (hN : As.length = N) (hB : Blind KX) (hW : ∀ U : State, U.heap = H → s.WarmedH U.vm → KX U H)
    (hR : RmOk R cells slots k n) (hls : ls.size = nL) (hst : st0 = As.reverse ++ rest) (hro : (rest.map fun v => v.category).sum ≤ 8) (hdg : decode cc pc = .ok (.invokestatic idx, 3))
    (kk : W p l e R s m args below meth c H locs cells slots Q (F0 m (pc + 3) ls (.int v :: rest))) : W p l e R s m args below meth c H locs cells slots Q (F0 m pc ls st0) := by
  subst hst
  exact ro_calli (va_runS (As := As) (rest := rest) E.fix hM ⟨callB_of N E.ht (gC h5) rfl rfl rfl (E.ht _ h4) (E.ht _ h1) hd ⟨hR.1, hR.2.1⟩, E.ht _ h2⟩ ⟨PX_blind hB, fun U hU hW9 => ⟨rfl, hU, hW U hU hW9⟩⟩ rfl hN hls rfl (lv_room hro) hdg ⟨hR.2.2.1, hR.2.2.2⟩) kk
/-- a static method of a nest mate, private -/
theorem cn_ro (E : EX p s m args meth c cc nL own ret) (hM : MRO l y b n r k As H KX v) (h1 : va_Nw (.methodLinkNest own idx y host) s) (h2 : Cond.static y ∈ TA) (h4 : Cond.initialized y.cls ∈ TA) (h5 : Cond.code y b n r ∈ TA) (hd : Dsc y N) (hN : As.length = N) (hB : Blind KX) (hW : ∀ U : State, U.heap = H → s.WarmedH U.vm → KX U H)
    (hR : RmOk R cells slots k n) (hls : ls.size = nL) (hst : st0 = As.reverse ++ rest) (hro : (rest.map fun v => v.category).sum ≤ 8) (hdg : decode cc pc = .ok (.invokestatic idx, 3))
    (kk : W p l e R s m args below meth c H locs cells slots Q (F0 m (pc + 3) ls (.int v :: rest))) : W p l e R s m args below meth c H locs cells slots Q (F0 m pc ls st0) := by
  subst hst
  exact ro_calli (va_runSN (As := As) (rest := rest) E.fix hM ⟨va_cnB N E.ht (gC h5) rfl rfl rfl h1 (E.ht _ h4) hd ⟨hR.1, hR.2.1⟩, E.ht _ h2, trivial⟩ ⟨PX_blind hB, fun U hU hW9 => ⟨rfl, hU, hW U hU hW9⟩⟩ rfl hN hls rfl (lv_room hro) hdg ⟨hR.2.2.1, hR.2.2.2⟩) kk
end
/-! a method's proof out of the walk of its body -/
theorem Mof {l : Launch} {y : MethodName} {b : ByteArray} {n : Nat} {r : Option FieldType} {rm : Room} {As : List Value} {H : Heap} {KX : Ctx} {Qc : Array Value → State → Outcome → State → Prop} {mc ms : Nat} {free : Addr → Prop} {own : String} (hy : plainName y.cls = true) (ho : y.cls = own) (hn : Nat.ble (lg_sl As).length n = true)
    (body : ∀ (p : Program) (e : Env) (s : State) (m : MethodId) (args : Array Value) (below : List Frame) (meth : Method) (c : Code) (ls : Array Slot), EX p s m args meth c b n own r → s.heap = H → KX s s.heap → lv_has ls n (lv_args 0 As) → W p l e rm s m args below meth c s.heap [] 0 0 (MQ below Qc args s mc ms free) (F0 m 0 ls [])) :
    Met l y (.code y b n r :: TA) rm (PX As H KX) Qc mc ms free := by
  refine Met.ofW (cc := b) (maxL := n) (ret := r) hy rfl ?_
  intro p e s m args below meth c s₁ B hml hv
  obtain ⟨rfl, hH, hK⟩ := hv
  have hts : ∀ w ∈ (.code y b n r :: TA : List Cond), w.before As.toArray s = true := atoms_spec (ws := (.code y b n r :: TA : List Cond)) B.pre
  have hown : s.vm.findClass own = some m.cls := by rw [← ho]; exact findClass_of_methodNamed B.named
  have hl := lv_entry As (n := n) (Nat.le_of_ble_eq_true hn)
  rw [lg_entry_eq]
  generalize (lg_sl As ++ List.replicate (n - (lg_sl As).length) Slot.unset).toArray = ls at hl ⊢
  exact body p e s m _ below meth c ls ⟨B.exec, B.bytes, hml, hown, fun w hw => hts w (List.mem_cons_of_mem _ hw), B.returns, B.notSynchronized⟩ hH (by rw [hH]; exact hK) hl
end BASE
end
section
theorem kSE_X6_beginAnew : (Cond.selects RX6 yX6_beginAnew yX6_beginAnew) ∈ TA := ta 0 (by decide +kernel) rfl
theorem kSE_X1_heldWith : (Cond.selects RX1 yX1_heldWith yX1_heldWith) ∈ TA := ta 2 (by decide +kernel) rfl
theorem kSE_X1_grown : (Cond.selects RX1 yX1_grown yX1_grown) ∈ TA := ta 3 (by decide +kernel) rfl
theorem kSE_X6_worked : (Cond.selects RX6 yX6_worked yX6_worked) ∈ TA := ta 4 (by decide +kernel) rfl
theorem kSE_X1_heldInPixel : (Cond.selects RX1 yX1_heldInPixel yX1_heldInPixel) ∈ TA := ta 5 (by decide +kernel) rfl
theorem kSE_X0_put : (Cond.selects RX0 yX0_put yX0_put) ∈ TA := ta 6 (by decide +kernel) rfl
theorem kSE_X1_settle : (Cond.selects RX1 yX1_settle yX1_settle) ∈ TA := ta 7 (by decide +kernel) rfl
theorem kSE_X6_noteGreys : (Cond.selects RX6 yX6_noteGreys yX6_noteGreys) ∈ TA := ta 8 (by decide +kernel) rfl
theorem kSE_X5_touches : (Cond.selects RX5 yX5_touches yX5_touches) ∈ TA := ta 9 (by decide +kernel) rfl
theorem kIN_L : (Cond.initialized RL) ∈ TA := ta 10 (by decide +kernel) rfl
theorem kIN_X6 : (Cond.initialized RX6) ∈ TA := ta 11 (by decide +kernel) rfl
theorem kIN_X3 : (Cond.initialized RX3) ∈ TA := ta 12 (by decide +kernel) rfl
theorem kIN_X4 : (Cond.initialized RX4) ∈ TA := ta 13 (by decide +kernel) rfl
theorem kIN_X1 : (Cond.initialized RX1) ∈ TA := ta 14 (by decide +kernel) rfl
theorem kIN_X5 : (Cond.initialized RX5) ∈ TA := ta 15 (by decide +kernel) rfl
theorem kIN_X0 : (Cond.initialized RX0) ∈ TA := ta 16 (by decide +kernel) rfl
theorem kIN_X2 : (Cond.initialized RX2) ∈ TA := ta 17 (by decide +kernel) rfl
theorem kIN_J9 : (Cond.initialized RJ9) ∈ TA := ta 23 (by decide +kernel) rfl
theorem kCL_L_8 : (Cond.classLink RL 8 RX6) ∈ TA := ta 25 (by decide +kernel) rfl
theorem kIS_X6 : (Cond.instantiable RX6 9) ∈ TA := ta 26 (by decide +kernel) rfl
theorem kML_L_10 : (Cond.methodLink RL 10 yX6_init) ∈ TA := ta 27 (by decide +kernel) rfl
theorem kIM_X6_init : (Cond.instanceMethod yX6_init) ∈ TA := ta 28 (by decide +kernel) rfl
theorem kCO_X6_init : (Cond.code yX6_init cX6_init 1 none) ∈ TA := ta 29 (by decide +kernel) rfl
theorem kML_X6_3 : (Cond.methodLink RX6 3 objectInit) ∈ TA := ta 30 (by decide +kernel) rfl
theorem kIM_objectInit : (Cond.instanceMethod objectInit) ∈ TA := ta 31 (by decide +kernel) rfl
theorem kCO_objectInit : (Cond.code objectInit ⟨#[0xb1]⟩ 1 none) ∈ TA := ta 32 (by decide +kernel) rfl
theorem kCL_X6_9 : (Cond.classLink RX6 9 RX3) ∈ TA := ta 33 (by decide +kernel) rfl
theorem kIS_X3 : (Cond.instantiable RX3 9) ∈ TA := ta 34 (by decide +kernel) rfl
theorem kIM_X3_init : (Cond.instanceMethod yX3_init) ∈ TA := ta 36 (by decide +kernel) rfl
theorem kCO_X3_init : (Cond.code yX3_init cX3_init 1 none) ∈ TA := ta 37 (by decide +kernel) rfl
theorem kML_X3_3 : (Cond.methodLink RX3 3 objectInit) ∈ TA := ta 38 (by decide +kernel) rfl
theorem kCL_X3_9 : (Cond.classLink RX3 9 RX4) ∈ TA := ta 39 (by decide +kernel) rfl
theorem kIS_X4 : (Cond.instantiable RX4 1) ∈ TA := ta 40 (by decide +kernel) rfl
theorem kML_X3_11 : (Cond.methodLink RX3 11 yX4_init) ∈ TA := ta 41 (by decide +kernel) rfl
theorem kIM_X4_init : (Cond.instanceMethod yX4_init) ∈ TA := ta 42 (by decide +kernel) rfl
theorem kCO_X4_init : (Cond.code yX4_init cX4_init 2 none) ∈ TA := ta 43 (by decide +kernel) rfl
theorem kML_X4_1 : (Cond.methodLink RX4 1 objectInit) ∈ TA := ta 44 (by decide +kernel) rfl
theorem kFL_X4_7 : (Cond.fieldLink RX4 7 "NemaGrid$Row" "numbers" "[I") ∈ TA := ta 45 (by decide +kernel) rfl
theorem kAR_int : (Cond.arrayClass .int) ∈ TA := ta 49 (by decide +kernel) rfl
theorem kFL_X3_14 : (Cond.fieldLink RX3 14 "NemaGrid$Pixels" "lefts" "LNemaGrid$Row;") ∈ TA := ta 50 (by decide +kernel) rfl
theorem kFL_X3_20 : (Cond.fieldLink RX3 20 "NemaGrid$Pixels" "tops" "LNemaGrid$Row;") ∈ TA := ta 51 (by decide +kernel) rfl
theorem kFL_X3_23 : (Cond.fieldLink RX3 23 "NemaGrid$Pixels" "widths" "LNemaGrid$Row;") ∈ TA := ta 52 (by decide +kernel) rfl
theorem kFL_X3_26 : (Cond.fieldLink RX3 26 "NemaGrid$Pixels" "heights" "LNemaGrid$Row;") ∈ TA := ta 53 (by decide +kernel) rfl
theorem kFL_X3_29 : (Cond.fieldLink RX3 29 "NemaGrid$Pixels" "directions" "LNemaGrid$Row;") ∈ TA := ta 54 (by decide +kernel) rfl
theorem kFL_X3_32 : (Cond.fieldLink RX3 32 "NemaGrid$Pixels" "strengths" "LNemaGrid$Row;") ∈ TA := ta 55 (by decide +kernel) rfl
theorem kFL_X3_35 : (Cond.fieldLink RX3 35 "NemaGrid$Pixels" "noted" "LNemaGrid$Row;") ∈ TA := ta 56 (by decide +kernel) rfl
theorem kFL_X3_38 : (Cond.fieldLink RX3 38 "NemaGrid$Pixels" "notes" "LNemaGrid$Row;") ∈ TA := ta 57 (by decide +kernel) rfl
theorem kFL_X3_41 : (Cond.fieldLink RX3 41 "NemaGrid$Pixels" "count" "I") ∈ TA := ta 58 (by decide +kernel) rfl
theorem kCL_X6_16 : (Cond.classLink RX6 16 RX1) ∈ TA := ta 79 (by decide +kernel) rfl
theorem kIS_X1 : (Cond.instantiable RX1 11) ∈ TA := ta 80 (by decide +kernel) rfl
theorem kML_X6_18 : (Cond.methodLink RX6 18 yX1_init) ∈ TA := ta 81 (by decide +kernel) rfl
theorem kIM_X1_init : (Cond.instanceMethod yX1_init) ∈ TA := ta 82 (by decide +kernel) rfl
theorem kCO_X1_init : (Cond.code yX1_init cX1_init 2 none) ∈ TA := ta 83 (by decide +kernel) rfl
theorem kML_X1_3 : (Cond.methodLink RX1 3 objectInit) ∈ TA := ta 84 (by decide +kernel) rfl
theorem kCL_X1_9 : (Cond.classLink RX1 9 RX4) ∈ TA := ta 85 (by decide +kernel) rfl
theorem kML_X1_11 : (Cond.methodLink RX1 11 yX4_init) ∈ TA := ta 86 (by decide +kernel) rfl
theorem kFL_X1_14 : (Cond.fieldLink RX1 14 "NemaGrid$Matter" "directions" "LNemaGrid$Row;") ∈ TA := ta 87 (by decide +kernel) rfl
theorem kFL_X1_20 : (Cond.fieldLink RX1 20 "NemaGrid$Matter" "kinds" "LNemaGrid$Row;") ∈ TA := ta 88 (by decide +kernel) rfl
theorem kFL_X1_23 : (Cond.fieldLink RX1 23 "NemaGrid$Matter" "weakDirections" "LNemaGrid$Row;") ∈ TA := ta 89 (by decide +kernel) rfl
theorem kFL_X1_26 : (Cond.fieldLink RX1 26 "NemaGrid$Matter" "weakStrengths" "LNemaGrid$Row;") ∈ TA := ta 90 (by decide +kernel) rfl
theorem kFL_X1_29 : (Cond.fieldLink RX1 29 "NemaGrid$Matter" "pixelNumbers" "LNemaGrid$Row;") ∈ TA := ta 91 (by decide +kernel) rfl
theorem kFL_X1_45 : (Cond.fieldLink RX1 45 "NemaGrid$Matter" "pixels" "LNemaGrid$Pixels;") ∈ TA := ta 92 (by decide +kernel) rfl
theorem kFL_X1_32 : (Cond.fieldLink RX1 32 "NemaGrid$Matter" "width" "I") ∈ TA := ta 93 (by decide +kernel) rfl
theorem kFL_X1_36 : (Cond.fieldLink RX1 36 "NemaGrid$Matter" "height" "I") ∈ TA := ta 95 (by decide +kernel) rfl
theorem kFL_X1_39 : (Cond.fieldLink RX1 39 "NemaGrid$Matter" "costAcross" "I") ∈ TA := ta 97 (by decide +kernel) rfl
theorem kFL_X1_42 : (Cond.fieldLink RX1 42 "NemaGrid$Matter" "costDown" "I") ∈ TA := ta 98 (by decide +kernel) rfl
theorem kFL_X1_52 : (Cond.fieldLink RX1 52 "NemaGrid$Matter" "energyKept" "I") ∈ TA := ta 99 (by decide +kernel) rfl
theorem kCL_X6_25 : (Cond.classLink RX6 25 RX5) ∈ TA := ta 124 (by decide +kernel) rfl
theorem kIS_X5 : (Cond.instantiable RX5 1) ∈ TA := ta 125 (by decide +kernel) rfl
theorem kML_X6_27 : (Cond.methodLink RX6 27 yX5_init) ∈ TA := ta 126 (by decide +kernel) rfl
theorem kIM_X5_init : (Cond.instanceMethod yX5_init) ∈ TA := ta 127 (by decide +kernel) rfl
theorem kCO_X5_init : (Cond.code yX5_init cX5_init 2 none) ∈ TA := ta 128 (by decide +kernel) rfl
theorem kML_X5_3 : (Cond.methodLink RX5 3 objectInit) ∈ TA := ta 129 (by decide +kernel) rfl
theorem kFL_X5_9 : (Cond.fieldLink RX5 9 "NemaGrid$Windings" "matter" "LNemaGrid$Matter;") ∈ TA := ta 130 (by decide +kernel) rfl
theorem kCL_X6_34 : (Cond.classLink RX6 34 RX0) ∈ TA := ta 134 (by decide +kernel) rfl
theorem kIS_X0 : (Cond.instantiable RX0 5) ∈ TA := ta 135 (by decide +kernel) rfl
theorem kIM_X0_init : (Cond.instanceMethod yX0_init) ∈ TA := ta 137 (by decide +kernel) rfl
theorem kCO_X0_init : (Cond.code yX0_init cX0_init 1 none) ∈ TA := ta 138 (by decide +kernel) rfl
theorem kML_X0_3 : (Cond.methodLink RX0 3 objectInit) ∈ TA := ta 139 (by decide +kernel) rfl
theorem kCL_X0_9 : (Cond.classLink RX0 9 RX4) ∈ TA := ta 140 (by decide +kernel) rfl
theorem kML_X0_11 : (Cond.methodLink RX0 11 yX4_init) ∈ TA := ta 141 (by decide +kernel) rfl
theorem kFL_X0_14 : (Cond.fieldLink RX0 14 "NemaGrid$Drives" "pixelNumbers" "LNemaGrid$Row;") ∈ TA := ta 142 (by decide +kernel) rfl
theorem kFL_X0_20 : (Cond.fieldLink RX0 20 "NemaGrid$Drives" "ticks" "LNemaGrid$Row;") ∈ TA := ta 143 (by decide +kernel) rfl
theorem kFL_X0_23 : (Cond.fieldLink RX0 23 "NemaGrid$Drives" "directions" "LNemaGrid$Row;") ∈ TA := ta 144 (by decide +kernel) rfl
theorem kFL_X0_26 : (Cond.fieldLink RX0 26 "NemaGrid$Drives" "strengths" "LNemaGrid$Row;") ∈ TA := ta 145 (by decide +kernel) rfl
theorem kFL_X0_29 : (Cond.fieldLink RX0 29 "NemaGrid$Drives" "count" "I") ∈ TA := ta 146 (by decide +kernel) rfl
theorem kCL_X6_41 : (Cond.classLink RX6 41 RX2) ∈ TA := ta 159 (by decide +kernel) rfl
theorem kIS_X2 : (Cond.instantiable RX2 3) ∈ TA := ta 160 (by decide +kernel) rfl
theorem kIM_X2_init : (Cond.instanceMethod yX2_init) ∈ TA := ta 162 (by decide +kernel) rfl
theorem kCO_X2_init : (Cond.code yX2_init cX2_init 1 none) ∈ TA := ta 163 (by decide +kernel) rfl
theorem kML_X2_3 : (Cond.methodLink RX2 3 objectInit) ∈ TA := ta 164 (by decide +kernel) rfl
theorem kCL_X2_9 : (Cond.classLink RX2 9 RX4) ∈ TA := ta 165 (by decide +kernel) rfl
theorem kML_X2_11 : (Cond.methodLink RX2 11 yX4_init) ∈ TA := ta 166 (by decide +kernel) rfl
theorem kFL_X2_14 : (Cond.fieldLink RX2 14 "NemaGrid$Pictures" "plates" "LNemaGrid$Row;") ∈ TA := ta 167 (by decide +kernel) rfl
theorem kFL_X2_20 : (Cond.fieldLink RX2 20 "NemaGrid$Pictures" "greys" "LNemaGrid$Row;") ∈ TA := ta 168 (by decide +kernel) rfl
theorem kML_X6_52 : (Cond.methodLink RX6 52 yX6_beginAnew) ∈ TA := ta 177 (by decide +kernel) rfl
theorem kIM_X6_beginAnew : (Cond.instanceMethod yX6_beginAnew) ∈ TA := ta 179 (by decide +kernel) rfl
theorem kCO_X6_beginAnew : (Cond.code yX6_beginAnew cX6_beginAnew 3 none) ∈ TA := ta 180 (by decide +kernel) rfl
theorem kML_X6_254 : (Cond.methodLink RX6 254 yX1_begin) ∈ TA := ta 181 (by decide +kernel) rfl
theorem kIM_X1_begin : (Cond.instanceMethod yX1_begin) ∈ TA := ta 182 (by decide +kernel) rfl
theorem kSE_X1_begin : (Cond.selects RX1 yX1_begin yX1_begin) ∈ TA := ta 183 (by decide +kernel) rfl
theorem kCO_X1_begin : (Cond.code yX1_begin cX1_begin 3 none) ∈ TA := ta 184 (by decide +kernel) rfl
theorem kML_X1_49 : (Cond.methodLink RX1 49 yX4_fill) ∈ TA := ta 185 (by decide +kernel) rfl
theorem kIM_X4_fill : (Cond.instanceMethod yX4_fill) ∈ TA := ta 186 (by decide +kernel) rfl
theorem kSE_X4_fill : (Cond.selects RX4 yX4_fill yX4_fill) ∈ TA := ta 187 (by decide +kernel) rfl
theorem kCO_X4_fill : (Cond.code yX4_fill cX4_fill 3 none) ∈ TA := ta 188 (by decide +kernel) rfl
theorem kFL_X6_12 : (Cond.fieldLink RX6 12 "NemaGrid" "pixels" "LNemaGrid$Pixels;") ∈ TA := ta 189 (by decide +kernel) rfl
theorem kFL_X6_21 : (Cond.fieldLink RX6 21 "NemaGrid" "matter" "LNemaGrid$Matter;") ∈ TA := ta 190 (by decide +kernel) rfl
theorem kFL_X6_30 : (Cond.fieldLink RX6 30 "NemaGrid" "windings" "LNemaGrid$Windings;") ∈ TA := ta 191 (by decide +kernel) rfl
theorem kFL_X6_37 : (Cond.fieldLink RX6 37 "NemaGrid" "drives" "LNemaGrid$Drives;") ∈ TA := ta 192 (by decide +kernel) rfl
theorem kFL_X6_44 : (Cond.fieldLink RX6 44 "NemaGrid" "pictures" "LNemaGrid$Pictures;") ∈ TA := ta 193 (by decide +kernel) rfl
theorem kFL_X6_48 : (Cond.fieldLink RX6 48 "NemaGrid" "plateDirection" "I") ∈ TA := ta 194 (by decide +kernel) rfl
theorem kFL_X6_140 : (Cond.fieldLink RX6 140 "NemaGrid" "tickNow" "I") ∈ TA := ta 195 (by decide +kernel) rfl
theorem kFL_X6_196 : (Cond.fieldLink RX6 196 "NemaGrid" "work" "I") ∈ TA := ta 196 (by decide +kernel) rfl
theorem kFL_X6_155 : (Cond.fieldLink RX6 155 "NemaGrid" "heat" "I") ∈ TA := ta 197 (by decide +kernel) rfl
theorem kML_L_22 : (Cond.methodLink RL 22 yX6_grid) ∈ TA := ta 217 (by decide +kernel) rfl
theorem kIM_X6_grid : (Cond.instanceMethod yX6_grid) ∈ TA := ta 218 (by decide +kernel) rfl
theorem kSE_X6_grid : (Cond.selects RX6 yX6_grid yX6_grid) ∈ TA := ta 219 (by decide +kernel) rfl
theorem kCO_X6_grid : (Cond.code yX6_grid cX6_grid 3 none) ∈ TA := ta 220 (by decide +kernel) rfl
theorem kML_X6_56 : (Cond.methodLink RX6 56 yX6_isIn) ∈ TA := ta 221 (by decide +kernel) rfl
theorem kST_X6_isIn : (Cond.static yX6_isIn) ∈ TA := ta 222 (by decide +kernel) rfl
theorem kCO_X6_isIn : (Cond.code yX6_isIn cX6_isIn 3 (some .boolean)) ∈ TA := ta 223 (by decide +kernel) rfl
theorem kCL_X6_60 : (Cond.classLink RX6 60 "java/lang/IllegalArgumentException") ∈ TA := ta 224 (by decide +kernel) rfl
theorem kCA_IllegalArgumentException : (Cond.castable "java/lang/IllegalArgumentException" "java/lang/IllegalArgumentException") ∈ lw_tbl := List.mem_of_getElem? (i := 226) (by decide +kernel)
theorem kAR_byte : (Cond.arrayClass .byte) ∈ TA := ta 291 (by decide +kernel) rfl
theorem kML_L_38 : (Cond.methodLink RL 38 yX6_turn) ∈ TA := ta 292 (by decide +kernel) rfl
theorem kIM_X6_turn : (Cond.instanceMethod yX6_turn) ∈ TA := ta 293 (by decide +kernel) rfl
theorem kSE_X6_turn : (Cond.selects RX6 yX6_turn yX6_turn) ∈ TA := ta 294 (by decide +kernel) rfl
theorem kCO_X6_turn : (Cond.code yX6_turn cX6_turn 4 (some .int)) ∈ TA := ta 295 (by decide +kernel) rfl
theorem kML_X6_77 : (Cond.methodLink RX6 77 yX1_has) ∈ TA := ta 296 (by decide +kernel) rfl
theorem kIM_X1_has : (Cond.instanceMethod yX1_has) ∈ TA := ta 297 (by decide +kernel) rfl
theorem kSE_X1_has : (Cond.selects RX1 yX1_has yX1_has) ∈ TA := ta 298 (by decide +kernel) rfl
theorem kCO_X1_has : (Cond.code yX1_has cX1_has 3 (some .boolean)) ∈ TA := ta 299 (by decide +kernel) rfl
theorem kCL_X6_81 : (Cond.classLink RX6 81 "java/lang/IndexOutOfBoundsException") ∈ TA := ta 300 (by decide +kernel) rfl
theorem kCA_IndexOutOfBoundsException : (Cond.castable "java/lang/IndexOutOfBoundsException" "java/lang/IndexOutOfBoundsException") ∈ lw_tbl := List.mem_of_getElem? (i := 302) (by decide +kernel)
theorem kML_X6_86 : (Cond.methodLink RX6 86 yX6_isDirection) ∈ TA := ta 316 (by decide +kernel) rfl
theorem kST_X6_isDirection : (Cond.static yX6_isDirection) ∈ TA := ta 317 (by decide +kernel) rfl
theorem kCO_X6_isDirection : (Cond.code yX6_isDirection cX6_isDirection 1 (some .boolean)) ∈ TA := ta 318 (by decide +kernel) rfl
theorem kML_X6_92 : (Cond.methodLink RX6 92 yX1_kindAt) ∈ TA := ta 320 (by decide +kernel) rfl
theorem kIM_X1_kindAt : (Cond.instanceMethod yX1_kindAt) ∈ TA := ta 321 (by decide +kernel) rfl
theorem kSE_X1_kindAt : (Cond.selects RX1 yX1_kindAt yX1_kindAt) ∈ TA := ta 322 (by decide +kernel) rfl
theorem kCO_X1_kindAt : (Cond.code yX1_kindAt cX1_kindAt 3 (some .int)) ∈ TA := ta 323 (by decide +kernel) rfl
theorem kST_X6_numberOf : (Cond.static yX6_numberOf) ∈ TA := ta 325 (by decide +kernel) rfl
theorem kCO_X6_numberOf : (Cond.code yX6_numberOf cX6_numberOf 2 (some .int)) ∈ TA := ta 326 (by decide +kernel) rfl
theorem kML_X1_59 : (Cond.methodLink RX1 59 yX4_at) ∈ TA := ta 327 (by decide +kernel) rfl
theorem kIM_X4_at : (Cond.instanceMethod yX4_at) ∈ TA := ta 328 (by decide +kernel) rfl
theorem kSE_X4_at : (Cond.selects RX4 yX4_at yX4_at) ∈ TA := ta 329 (by decide +kernel) rfl
theorem kCO_X4_at : (Cond.code yX4_at cX4_at 2 (some .int)) ∈ TA := ta 330 (by decide +kernel) rfl
theorem kCL_X6_95 : (Cond.classLink RX6 95 "java/lang/IllegalStateException") ∈ TA := ta 331 (by decide +kernel) rfl
theorem kCA_IllegalStateException : (Cond.castable "java/lang/IllegalStateException" "java/lang/IllegalStateException") ∈ lw_tbl := List.mem_of_getElem? (i := 333) (by decide +kernel)
theorem kML_X6_100 : (Cond.methodLink RX6 100 yX1_turnTo) ∈ TA := ta 347 (by decide +kernel) rfl
theorem kIM_X1_turnTo : (Cond.instanceMethod yX1_turnTo) ∈ TA := ta 348 (by decide +kernel) rfl
theorem kSE_X1_turnTo : (Cond.selects RX1 yX1_turnTo yX1_turnTo) ∈ TA := ta 349 (by decide +kernel) rfl
theorem kCO_X1_turnTo : (Cond.code yX1_turnTo cX1_turnTo 5 (some .int)) ∈ TA := ta 350 (by decide +kernel) rfl
theorem kML_X1_102 : (Cond.methodLink RX1 102 yX1_energyAt) ∈ TA := ta 351 (by decide +kernel) rfl
theorem kIM_X1_energyAt : (Cond.instanceMethod yX1_energyAt) ∈ TA := ta 352 (by decide +kernel) rfl
theorem kSE_X1_energyAt : (Cond.selects RX1 yX1_energyAt yX1_energyAt) ∈ TA := ta 353 (by decide +kernel) rfl
theorem kCO_X1_energyAt : (Cond.code yX1_energyAt cX1_energyAt 3 (some .int)) ∈ TA := ta 354 (by decide +kernel) rfl
theorem kML_X1_88 : (Cond.methodLink RX1 88 yX1_directionAt) ∈ TA := ta 355 (by decide +kernel) rfl
theorem kIM_X1_directionAt : (Cond.instanceMethod yX1_directionAt) ∈ TA := ta 356 (by decide +kernel) rfl
theorem kSE_X1_directionAt : (Cond.selects RX1 yX1_directionAt yX1_directionAt) ∈ TA := ta 357 (by decide +kernel) rfl
theorem kCO_X1_directionAt : (Cond.code yX1_directionAt cX1_directionAt 3 (some .int)) ∈ TA := ta 358 (by decide +kernel) rfl
theorem kML_X1_91 : (Cond.methodLink RX1 91 yX1_energyWith) ∈ TA := ta 359 (by decide +kernel) rfl
theorem kIM_X1_energyWith : (Cond.instanceMethod yX1_energyWith) ∈ TA := ta 360 (by decide +kernel) rfl
theorem kSE_X1_energyWith : (Cond.selects RX1 yX1_energyWith yX1_energyWith) ∈ TA := ta 361 (by decide +kernel) rfl
theorem kCO_X1_energyWith : (Cond.code yX1_energyWith cX1_energyWith 5 (some .int)) ∈ TA := ta 362 (by decide +kernel) rfl
theorem kML_X1_81 : (Cond.methodLink RX1 81 yX1_heldWith) ∈ TA := ta 363 (by decide +kernel) rfl
theorem kIM_X1_heldWith : (Cond.instanceMethod yX1_heldWith) ∈ TA := ta 365 (by decide +kernel) rfl
theorem kCO_X1_heldWith : (Cond.code yX1_heldWith cX1_heldWith 5 (some .int)) ∈ TA := ta 366 (by decide +kernel) rfl
theorem kST_X6_squareApart : (Cond.static yX6_squareApart) ∈ TA := ta 368 (by decide +kernel) rfl
theorem kCO_X6_squareApart : (Cond.code yX6_squareApart cX6_squareApart 3 (some .int)) ∈ TA := ta 369 (by decide +kernel) rfl
theorem kML_X6_260 : (Cond.methodLink RX6 260 yX6_onFrom) ∈ TA := ta 370 (by decide +kernel) rfl
theorem kST_X6_onFrom : (Cond.static yX6_onFrom) ∈ TA := ta 371 (by decide +kernel) rfl
theorem kCO_X6_onFrom : (Cond.code yX6_onFrom cX6_onFrom 2 (some .int)) ∈ TA := ta 372 (by decide +kernel) rfl
theorem kML_X1_73 : (Cond.methodLink RX1 73 yX3_fieldStrength) ∈ TA := ta 373 (by decide +kernel) rfl
theorem kIM_X3_fieldStrength : (Cond.instanceMethod yX3_fieldStrength) ∈ TA := ta 374 (by decide +kernel) rfl
theorem kSE_X3_fieldStrength : (Cond.selects RX3 yX3_fieldStrength yX3_fieldStrength) ∈ TA := ta 375 (by decide +kernel) rfl
theorem kCO_X3_fieldStrength : (Cond.code yX3_fieldStrength cX3_fieldStrength 2 (some .int)) ∈ TA := ta 376 (by decide +kernel) rfl
theorem kML_X3_49 : (Cond.methodLink RX3 49 yX4_at) ∈ TA := ta 377 (by decide +kernel) rfl
theorem kML_X1_78 : (Cond.methodLink RX1 78 yX3_fieldDirection) ∈ TA := ta 378 (by decide +kernel) rfl
theorem kIM_X3_fieldDirection : (Cond.instanceMethod yX3_fieldDirection) ∈ TA := ta 379 (by decide +kernel) rfl
theorem kSE_X3_fieldDirection : (Cond.selects RX3 yX3_fieldDirection yX3_fieldDirection) ∈ TA := ta 380 (by decide +kernel) rfl
theorem kCO_X3_fieldDirection : (Cond.code yX3_fieldDirection cX3_fieldDirection 2 (some .int)) ∈ TA := ta 381 (by decide +kernel) rfl
theorem kML_X1_84 : (Cond.methodLink RX1 84 yX1_has) ∈ TA := ta 382 (by decide +kernel) rfl
theorem kML_X1_66 : (Cond.methodLink RX1 66 yX4_put) ∈ TA := ta 383 (by decide +kernel) rfl
theorem kIM_X4_put : (Cond.instanceMethod yX4_put) ∈ TA := ta 384 (by decide +kernel) rfl
theorem kSE_X4_put : (Cond.selects RX4 yX4_put yX4_put) ∈ TA := ta 385 (by decide +kernel) rfl
theorem kCO_X4_put : (Cond.code yX4_put cX4_put 3 none) ∈ TA := ta 386 (by decide +kernel) rfl
theorem kML_X1_99 : (Cond.methodLink RX1 99 yX1_grown) ∈ TA := ta 387 (by decide +kernel) rfl
theorem kIM_X1_grown : (Cond.instanceMethod yX1_grown) ∈ TA := ta 389 (by decide +kernel) rfl
theorem kCO_X1_grown : (Cond.code yX1_grown cX1_grown 2 (some .int)) ∈ TA := ta 390 (by decide +kernel) rfl
theorem kML_X6_73 : (Cond.methodLink RX6 73 yX6_worked) ∈ TA := ta 391 (by decide +kernel) rfl
theorem kIM_X6_worked : (Cond.instanceMethod yX6_worked) ∈ TA := ta 393 (by decide +kernel) rfl
theorem kCO_X6_worked : (Cond.code yX6_worked cX6_worked 2 (some .int)) ∈ TA := ta 394 (by decide +kernel) rfl
theorem kML_L_41 : (Cond.methodLink RL 41 yX6_anchor) ∈ TA := ta 395 (by decide +kernel) rfl
theorem kIM_X6_anchor : (Cond.instanceMethod yX6_anchor) ∈ TA := ta 396 (by decide +kernel) rfl
theorem kSE_X6_anchor : (Cond.selects RX6 yX6_anchor yX6_anchor) ∈ TA := ta 397 (by decide +kernel) rfl
theorem kCO_X6_anchor : (Cond.code yX6_anchor cX6_anchor 6 (some .int)) ∈ TA := ta 398 (by decide +kernel) rfl
theorem kML_X6_106 : (Cond.methodLink RX6 106 yX1_hold) ∈ TA := ta 400 (by decide +kernel) rfl
theorem kIM_X1_hold : (Cond.instanceMethod yX1_hold) ∈ TA := ta 401 (by decide +kernel) rfl
theorem kSE_X1_hold : (Cond.selects RX1 yX1_hold yX1_hold) ∈ TA := ta 402 (by decide +kernel) rfl
theorem kCO_X1_hold : (Cond.code yX1_hold cX1_hold 8 (some .int)) ∈ TA := ta 403 (by decide +kernel) rfl
theorem kML_L_45 : (Cond.methodLink RL 45 yX6_pixel) ∈ TA := ta 404 (by decide +kernel) rfl
theorem kIM_X6_pixel : (Cond.instanceMethod yX6_pixel) ∈ TA := ta 405 (by decide +kernel) rfl
theorem kSE_X6_pixel : (Cond.selects RX6 yX6_pixel yX6_pixel) ∈ TA := ta 406 (by decide +kernel) rfl
theorem kCO_X6_pixel : (Cond.code yX6_pixel cX6_pixel 6 (some .int)) ∈ TA := ta 407 (by decide +kernel) rfl
theorem kML_X6_117 : (Cond.methodLink RX6 117 yX1_hasPixelIn) ∈ TA := ta 410 (by decide +kernel) rfl
theorem kIM_X1_hasPixelIn : (Cond.instanceMethod yX1_hasPixelIn) ∈ TA := ta 411 (by decide +kernel) rfl
theorem kSE_X1_hasPixelIn : (Cond.selects RX1 yX1_hasPixelIn yX1_hasPixelIn) ∈ TA := ta 412 (by decide +kernel) rfl
theorem kCO_X1_hasPixelIn : (Cond.code yX1_hasPixelIn cX1_hasPixelIn 7 (some .boolean)) ∈ TA := ta 413 (by decide +kernel) rfl
theorem kML_X1_63 : (Cond.methodLink RX1 63 yX1_pixelAt) ∈ TA := ta 414 (by decide +kernel) rfl
theorem kIM_X1_pixelAt : (Cond.instanceMethod yX1_pixelAt) ∈ TA := ta 415 (by decide +kernel) rfl
theorem kSE_X1_pixelAt : (Cond.selects RX1 yX1_pixelAt yX1_pixelAt) ∈ TA := ta 416 (by decide +kernel) rfl
theorem kCO_X1_pixelAt : (Cond.code yX1_pixelAt cX1_pixelAt 3 (some .int)) ∈ TA := ta 417 (by decide +kernel) rfl
theorem kML_X6_123 : (Cond.methodLink RX6 123 yX3_make) ∈ TA := ta 419 (by decide +kernel) rfl
theorem kIM_X3_make : (Cond.instanceMethod yX3_make) ∈ TA := ta 420 (by decide +kernel) rfl
theorem kSE_X3_make : (Cond.selects RX3 yX3_make yX3_make) ∈ TA := ta 421 (by decide +kernel) rfl
theorem kCO_X3_make : (Cond.code yX3_make cX3_make 6 (some .int)) ∈ TA := ta 422 (by decide +kernel) rfl
theorem kML_X3_45 : (Cond.methodLink RX3 45 yX4_put) ∈ TA := ta 423 (by decide +kernel) rfl
theorem kML_X6_127 : (Cond.methodLink RX6 127 yX1_mark) ∈ TA := ta 424 (by decide +kernel) rfl
theorem kIM_X1_mark : (Cond.instanceMethod yX1_mark) ∈ TA := ta 425 (by decide +kernel) rfl
theorem kSE_X1_mark : (Cond.selects RX1 yX1_mark yX1_mark) ∈ TA := ta 426 (by decide +kernel) rfl
theorem kCO_X1_mark : (Cond.code yX1_mark cX1_mark 8 none) ∈ TA := ta 427 (by decide +kernel) rfl
theorem kML_L_49 : (Cond.methodLink RL 49 yX6_drive) ∈ TA := ta 428 (by decide +kernel) rfl
theorem kIM_X6_drive : (Cond.instanceMethod yX6_drive) ∈ TA := ta 429 (by decide +kernel) rfl
theorem kSE_X6_drive : (Cond.selects RX6 yX6_drive yX6_drive) ∈ TA := ta 430 (by decide +kernel) rfl
theorem kCO_X6_drive : (Cond.code yX6_drive cX6_drive 4 (some .int)) ∈ TA := ta 431 (by decide +kernel) rfl
theorem kML_X6_131 : (Cond.methodLink RX6 131 yX3_has) ∈ TA := ta 432 (by decide +kernel) rfl
theorem kIM_X3_has : (Cond.instanceMethod yX3_has) ∈ TA := ta 433 (by decide +kernel) rfl
theorem kSE_X3_has : (Cond.selects RX3 yX3_has yX3_has) ∈ TA := ta 434 (by decide +kernel) rfl
theorem kCO_X3_has : (Cond.code yX3_has cX3_has 2 (some .boolean)) ∈ TA := ta 435 (by decide +kernel) rfl
theorem kML_X6_137 : (Cond.methodLink RX6 137 yX1_setField) ∈ TA := ta 438 (by decide +kernel) rfl
theorem kIM_X1_setField : (Cond.instanceMethod yX1_setField) ∈ TA := ta 439 (by decide +kernel) rfl
theorem kSE_X1_setField : (Cond.selects RX1 yX1_setField yX1_setField) ∈ TA := ta 440 (by decide +kernel) rfl
theorem kCO_X1_setField : (Cond.code yX1_setField cX1_setField 5 (some .int)) ∈ TA := ta 441 (by decide +kernel) rfl
theorem kML_X1_105 : (Cond.methodLink RX1 105 yX1_heldInPixel) ∈ TA := ta 442 (by decide +kernel) rfl
theorem kIM_X1_heldInPixel : (Cond.instanceMethod yX1_heldInPixel) ∈ TA := ta 444 (by decide +kernel) rfl
theorem kCO_X1_heldInPixel : (Cond.code yX1_heldInPixel cX1_heldInPixel 9 (some .int)) ∈ TA := ta 445 (by decide +kernel) rfl
theorem kML_X1_112 : (Cond.methodLink RX1 112 yX3_left) ∈ TA := ta 446 (by decide +kernel) rfl
theorem kIM_X3_left : (Cond.instanceMethod yX3_left) ∈ TA := ta 447 (by decide +kernel) rfl
theorem kSE_X3_left : (Cond.selects RX3 yX3_left yX3_left) ∈ TA := ta 448 (by decide +kernel) rfl
theorem kCO_X3_left : (Cond.code yX3_left cX3_left 2 (some .int)) ∈ TA := ta 449 (by decide +kernel) rfl
theorem kML_X1_115 : (Cond.methodLink RX1 115 yX3_top) ∈ TA := ta 450 (by decide +kernel) rfl
theorem kIM_X3_top : (Cond.instanceMethod yX3_top) ∈ TA := ta 451 (by decide +kernel) rfl
theorem kSE_X3_top : (Cond.selects RX3 yX3_top yX3_top) ∈ TA := ta 452 (by decide +kernel) rfl
theorem kCO_X3_top : (Cond.code yX3_top cX3_top 2 (some .int)) ∈ TA := ta 453 (by decide +kernel) rfl
theorem kML_X1_118 : (Cond.methodLink RX1 118 yX3_width) ∈ TA := ta 454 (by decide +kernel) rfl
theorem kIM_X3_width : (Cond.instanceMethod yX3_width) ∈ TA := ta 455 (by decide +kernel) rfl
theorem kSE_X3_width : (Cond.selects RX3 yX3_width yX3_width) ∈ TA := ta 456 (by decide +kernel) rfl
theorem kCO_X3_width : (Cond.code yX3_width cX3_width 2 (some .int)) ∈ TA := ta 457 (by decide +kernel) rfl
theorem kML_X1_120 : (Cond.methodLink RX1 120 yX3_height) ∈ TA := ta 458 (by decide +kernel) rfl
theorem kIM_X3_height : (Cond.instanceMethod yX3_height) ∈ TA := ta 459 (by decide +kernel) rfl
theorem kSE_X3_height : (Cond.selects RX3 yX3_height yX3_height) ∈ TA := ta 460 (by decide +kernel) rfl
theorem kCO_X3_height : (Cond.code yX3_height cX3_height 2 (some .int)) ∈ TA := ta 461 (by decide +kernel) rfl
theorem kML_X1_108 : (Cond.methodLink RX1 108 yX3_setField) ∈ TA := ta 462 (by decide +kernel) rfl
theorem kIM_X3_setField : (Cond.instanceMethod yX3_setField) ∈ TA := ta 463 (by decide +kernel) rfl
theorem kSE_X3_setField : (Cond.selects RX3 yX3_setField yX3_setField) ∈ TA := ta 464 (by decide +kernel) rfl
theorem kCO_X3_setField : (Cond.code yX3_setField cX3_setField 4 none) ∈ TA := ta 465 (by decide +kernel) rfl
theorem kML_L_52 : (Cond.methodLink RL 52 yX6_program) ∈ TA := ta 466 (by decide +kernel) rfl
theorem kIM_X6_program : (Cond.instanceMethod yX6_program) ∈ TA := ta 467 (by decide +kernel) rfl
theorem kSE_X6_program : (Cond.selects RX6 yX6_program yX6_program) ∈ TA := ta 468 (by decide +kernel) rfl
theorem kCO_X6_program : (Cond.code yX6_program cX6_program 5 (some .int)) ∈ TA := ta 469 (by decide +kernel) rfl
theorem kML_X6_148 : (Cond.methodLink RX6 148 yX0_add) ∈ TA := ta 472 (by decide +kernel) rfl
theorem kIM_X0_add : (Cond.instanceMethod yX0_add) ∈ TA := ta 473 (by decide +kernel) rfl
theorem kSE_X0_add : (Cond.selects RX0 yX0_add yX0_add) ∈ TA := ta 474 (by decide +kernel) rfl
theorem kCO_X0_add : (Cond.code yX0_add cX0_add 5 (some .int)) ∈ TA := ta 475 (by decide +kernel) rfl
theorem kML_X0_33 : (Cond.methodLink RX0 33 yX0_put) ∈ TA := ta 476 (by decide +kernel) rfl
theorem kIM_X0_put : (Cond.instanceMethod yX0_put) ∈ TA := ta 478 (by decide +kernel) rfl
theorem kCO_X0_put : (Cond.code yX0_put cX0_put 6 none) ∈ TA := ta 479 (by decide +kernel) rfl
theorem kML_X0_37 : (Cond.methodLink RX0 37 yX4_put) ∈ TA := ta 480 (by decide +kernel) rfl
theorem kML_L_55 : (Cond.methodLink RL 55 yX6_tick) ∈ TA := ta 481 (by decide +kernel) rfl
theorem kIM_X6_tick : (Cond.instanceMethod yX6_tick) ∈ TA := ta 482 (by decide +kernel) rfl
theorem kSE_X6_tick : (Cond.selects RX6 yX6_tick yX6_tick) ∈ TA := ta 483 (by decide +kernel) rfl
theorem kCO_X6_tick : (Cond.code yX6_tick cX6_tick 4 (some .int)) ∈ TA := ta 484 (by decide +kernel) rfl
theorem kML_X6_158 : (Cond.methodLink RX6 158 yX0_comeAt) ∈ TA := ta 487 (by decide +kernel) rfl
theorem kIM_X0_comeAt : (Cond.instanceMethod yX0_comeAt) ∈ TA := ta 488 (by decide +kernel) rfl
theorem kSE_X0_comeAt : (Cond.selects RX0 yX0_comeAt yX0_comeAt) ∈ TA := ta 489 (by decide +kernel) rfl
theorem kCO_X0_comeAt : (Cond.code yX0_comeAt cX0_comeAt 6 (some .int)) ∈ TA := ta 490 (by decide +kernel) rfl
theorem kML_X0_40 : (Cond.methodLink RX0 40 yX4_at) ∈ TA := ta 491 (by decide +kernel) rfl
theorem kML_X0_44 : (Cond.methodLink RX0 44 yX1_setField) ∈ TA := ta 492 (by decide +kernel) rfl
theorem kML_X6_162 : (Cond.methodLink RX6 162 yX1_relax) ∈ TA := ta 493 (by decide +kernel) rfl
theorem kIM_X1_relax : (Cond.instanceMethod yX1_relax) ∈ TA := ta 494 (by decide +kernel) rfl
theorem kSE_X1_relax : (Cond.selects RX1 yX1_relax yX1_relax) ∈ TA := ta 495 (by decide +kernel) rfl
theorem kCO_X1_relax : (Cond.code yX1_relax cX1_relax 4 (some .int)) ∈ TA := ta 496 (by decide +kernel) rfl
theorem kML_X1_122 : (Cond.methodLink RX1 122 yX1_kindAt) ∈ TA := ta 497 (by decide +kernel) rfl
theorem kML_X1_125 : (Cond.methodLink RX1 125 yX1_settle) ∈ TA := ta 498 (by decide +kernel) rfl
theorem kIM_X1_settle : (Cond.instanceMethod yX1_settle) ∈ TA := ta 500 (by decide +kernel) rfl
theorem kCO_X1_settle : (Cond.code yX1_settle cX1_settle 11 none) ∈ TA := ta 501 (by decide +kernel) rfl
theorem kML_X6_166 : (Cond.methodLink RX6 166 yX6_noteGreys) ∈ TA := ta 502 (by decide +kernel) rfl
theorem kIM_X6_noteGreys : (Cond.instanceMethod yX6_noteGreys) ∈ TA := ta 504 (by decide +kernel) rfl
theorem kCO_X6_noteGreys : (Cond.code yX6_noteGreys cX6_noteGreys 2 none) ∈ TA := ta 505 (by decide +kernel) rfl
theorem kML_X6_225 : (Cond.methodLink RX6 225 yX1_greyOfPixel) ∈ TA := ta 506 (by decide +kernel) rfl
theorem kIM_X1_greyOfPixel : (Cond.instanceMethod yX1_greyOfPixel) ∈ TA := ta 507 (by decide +kernel) rfl
theorem kSE_X1_greyOfPixel : (Cond.selects RX1 yX1_greyOfPixel yX1_greyOfPixel) ∈ TA := ta 508 (by decide +kernel) rfl
theorem kCO_X1_greyOfPixel : (Cond.code yX1_greyOfPixel cX1_greyOfPixel 11 (some .int)) ∈ TA := ta 509 (by decide +kernel) rfl
theorem kST_X6_greyOf : (Cond.static yX6_greyOf) ∈ TA := ta 511 (by decide +kernel) rfl
theorem kCO_X6_greyOf : (Cond.code yX6_greyOf cX6_greyOf 3 (some .int)) ∈ TA := ta 512 (by decide +kernel) rfl
theorem kML_X6_263 : (Cond.methodLink RX6 263 yJ9_abs_0f7a4) ∈ TA := ta 513 (by decide +kernel) rfl
theorem kST_J9_abs_0f7a4 : (Cond.static yJ9_abs_0f7a4) ∈ TA := ta 514 (by decide +kernel) rfl
theorem kCO_J9_abs_0f7a4 : (Cond.code yJ9_abs_0f7a4 cJ9_abs_0f7a4 1 (some .int)) ∈ TA := ta 515 (by decide +kernel) rfl
theorem kFL_X6_268 : (Cond.fieldLink RX6 268 "NemaGrid" "GREYS" "[I") ∈ TA := ta 516 (by decide +kernel) rfl
theorem kML_X6_257 : (Cond.methodLink RX6 257 yX3_note) ∈ TA := ta 518 (by decide +kernel) rfl
theorem kIM_X3_note : (Cond.instanceMethod yX3_note) ∈ TA := ta 519 (by decide +kernel) rfl
theorem kSE_X3_note : (Cond.selects RX3 yX3_note yX3_note) ∈ TA := ta 520 (by decide +kernel) rfl
theorem kCO_X3_note : (Cond.code yX3_note cX3_note 4 none) ∈ TA := ta 521 (by decide +kernel) rfl
theorem kML_L_59 : (Cond.methodLink RL 59 yX6_now) ∈ TA := ta 522 (by decide +kernel) rfl
theorem kIM_X6_now : (Cond.instanceMethod yX6_now) ∈ TA := ta 523 (by decide +kernel) rfl
theorem kSE_X6_now : (Cond.selects RX6 yX6_now yX6_now) ∈ TA := ta 524 (by decide +kernel) rfl
theorem kCO_X6_now : (Cond.code yX6_now cX6_now 1 (some .int)) ∈ TA := ta 525 (by decide +kernel) rfl
theorem kML_L_34 : (Cond.methodLink RL 34 yX6_told) ∈ TA := ta 526 (by decide +kernel) rfl
theorem kIM_X6_told : (Cond.instanceMethod yX6_told) ∈ TA := ta 527 (by decide +kernel) rfl
theorem kSE_X6_told : (Cond.selects RX6 yX6_told yX6_told) ∈ TA := ta 528 (by decide +kernel) rfl
theorem kCO_X6_told : (Cond.code yX6_told cX6_told 4 (some .int)) ∈ TA := ta 529 (by decide +kernel) rfl
theorem kML_X6_176 : (Cond.methodLink RX6 176 yX1_directionAt) ∈ TA := ta 530 (by decide +kernel) rfl
theorem kML_X6_179 : (Cond.methodLink RX6 179 yX1_pixelAt) ∈ TA := ta 531 (by decide +kernel) rfl
theorem kML_X6_182 : (Cond.methodLink RX6 182 yX6_greyOf) ∈ TA := ta 532 (by decide +kernel) rfl
theorem kML_X6_185 : (Cond.methodLink RX6 185 yX1_energyAt) ∈ TA := ta 533 (by decide +kernel) rfl
theorem kML_L_26 : (Cond.methodLink RL 26 yX6_energy) ∈ TA := ta 535 (by decide +kernel) rfl
theorem kIM_X6_energy : (Cond.instanceMethod yX6_energy) ∈ TA := ta 536 (by decide +kernel) rfl
theorem kSE_X6_energy : (Cond.selects RX6 yX6_energy yX6_energy) ∈ TA := ta 537 (by decide +kernel) rfl
theorem kCO_X6_energy : (Cond.code yX6_energy cX6_energy 1 (some .int)) ∈ TA := ta 538 (by decide +kernel) rfl
theorem kML_L_62 : (Cond.methodLink RL 62 yX6_energyAnew) ∈ TA := ta 539 (by decide +kernel) rfl
theorem kIM_X6_energyAnew : (Cond.instanceMethod yX6_energyAnew) ∈ TA := ta 540 (by decide +kernel) rfl
theorem kSE_X6_energyAnew : (Cond.selects RX6 yX6_energyAnew yX6_energyAnew) ∈ TA := ta 541 (by decide +kernel) rfl
theorem kCO_X6_energyAnew : (Cond.code yX6_energyAnew cX6_energyAnew 1 (some .int)) ∈ TA := ta 542 (by decide +kernel) rfl
theorem kML_X6_193 : (Cond.methodLink RX6 193 yX1_sum) ∈ TA := ta 543 (by decide +kernel) rfl
theorem kIM_X1_sum : (Cond.instanceMethod yX1_sum) ∈ TA := ta 544 (by decide +kernel) rfl
theorem kSE_X1_sum : (Cond.selects RX1 yX1_sum yX1_sum) ∈ TA := ta 545 (by decide +kernel) rfl
theorem kCO_X1_sum : (Cond.code yX1_sum cX1_sum 5 (some .int)) ∈ TA := ta 546 (by decide +kernel) rfl
theorem kML_L_30 : (Cond.methodLink RL 30 yX6_spent) ∈ TA := ta 547 (by decide +kernel) rfl
theorem kIM_X6_spent : (Cond.instanceMethod yX6_spent) ∈ TA := ta 548 (by decide +kernel) rfl
theorem kSE_X6_spent : (Cond.selects RX6 yX6_spent yX6_spent) ∈ TA := ta 549 (by decide +kernel) rfl
theorem kCO_X6_spent : (Cond.code yX6_spent cX6_spent 2 (some .int)) ∈ TA := ta 550 (by decide +kernel) rfl
theorem kML_L_65 : (Cond.methodLink RL 65 yX6_winding) ∈ TA := ta 551 (by decide +kernel) rfl
theorem kIM_X6_winding : (Cond.instanceMethod yX6_winding) ∈ TA := ta 552 (by decide +kernel) rfl
theorem kSE_X6_winding : (Cond.selects RX6 yX6_winding yX6_winding) ∈ TA := ta 553 (by decide +kernel) rfl
theorem kCO_X6_winding : (Cond.code yX6_winding cX6_winding 3 (some .int)) ∈ TA := ta 554 (by decide +kernel) rfl
theorem kML_X6_203 : (Cond.methodLink RX6 203 yX5_has) ∈ TA := ta 555 (by decide +kernel) rfl
theorem kIM_X5_has : (Cond.instanceMethod yX5_has) ∈ TA := ta 556 (by decide +kernel) rfl
theorem kSE_X5_has : (Cond.selects RX5 yX5_has yX5_has) ∈ TA := ta 557 (by decide +kernel) rfl
theorem kCO_X5_has : (Cond.code yX5_has cX5_has 3 (some .boolean)) ∈ TA := ta 558 (by decide +kernel) rfl
theorem kML_X5_15 : (Cond.methodLink RX5 15 yX1_has) ∈ TA := ta 559 (by decide +kernel) rfl
theorem kML_X6_206 : (Cond.methodLink RX6 206 yX5_at) ∈ TA := ta 561 (by decide +kernel) rfl
theorem kIM_X5_at : (Cond.instanceMethod yX5_at) ∈ TA := ta 562 (by decide +kernel) rfl
theorem kSE_X5_at : (Cond.selects RX5 yX5_at yX5_at) ∈ TA := ta 563 (by decide +kernel) rfl
theorem kCO_X5_at : (Cond.code yX5_at cX5_at 3 (some .int)) ∈ TA := ta 564 (by decide +kernel) rfl
theorem kML_X5_21 : (Cond.methodLink RX5 21 yX5_around) ∈ TA := ta 565 (by decide +kernel) rfl
theorem kIM_X5_around : (Cond.instanceMethod yX5_around) ∈ TA := ta 566 (by decide +kernel) rfl
theorem kSE_X5_around : (Cond.selects RX5 yX5_around yX5_around) ∈ TA := ta 567 (by decide +kernel) rfl
theorem kCO_X5_around : (Cond.code yX5_around cX5_around 7 (some .int)) ∈ TA := ta 568 (by decide +kernel) rfl
theorem kML_X5_29 : (Cond.methodLink RX5 29 yX1_directionAt) ∈ TA := ta 569 (by decide +kernel) rfl
theorem kML_X5_35 : (Cond.methodLink RX5 35 yJ9_floorDiv_7cf53) ∈ TA := ta 571 (by decide +kernel) rfl
theorem kST_J9_floorDiv_7cf53 : (Cond.static yJ9_floorDiv_7cf53) ∈ TA := ta 572 (by decide +kernel) rfl
theorem kCO_J9_floorDiv_7cf53 : (Cond.code yJ9_floorDiv_7cf53 cJ9_floorDiv_7cf53 3 (some .int)) ∈ TA := ta 573 (by decide +kernel) rfl
theorem kML_L_68 : (Cond.methodLink RL 68 yX6_within) ∈ TA := ta 574 (by decide +kernel) rfl
theorem kIM_X6_within : (Cond.instanceMethod yX6_within) ∈ TA := ta 575 (by decide +kernel) rfl
theorem kSE_X6_within : (Cond.selects RX6 yX6_within yX6_within) ∈ TA := ta 576 (by decide +kernel) rfl
theorem kCO_X6_within : (Cond.code yX6_within cX6_within 5 (some .int)) ∈ TA := ta 577 (by decide +kernel) rfl
theorem kML_X6_211 : (Cond.methodLink RX6 211 yX5_sum) ∈ TA := ta 579 (by decide +kernel) rfl
theorem kIM_X5_sum : (Cond.instanceMethod yX5_sum) ∈ TA := ta 580 (by decide +kernel) rfl
theorem kSE_X5_sum : (Cond.selects RX5 yX5_sum yX5_sum) ∈ TA := ta 581 (by decide +kernel) rfl
theorem kCO_X5_sum : (Cond.code yX5_sum cX5_sum 8 (some .int)) ∈ TA := ta 582 (by decide +kernel) rfl
theorem kML_X5_25 : (Cond.methodLink RX5 25 yX5_at) ∈ TA := ta 583 (by decide +kernel) rfl
theorem kML_L_71 : (Cond.methodLink RL 71 yX6_border) ∈ TA := ta 584 (by decide +kernel) rfl
theorem kIM_X6_border : (Cond.instanceMethod yX6_border) ∈ TA := ta 585 (by decide +kernel) rfl
theorem kSE_X6_border : (Cond.selects RX6 yX6_border yX6_border) ∈ TA := ta 586 (by decide +kernel) rfl
theorem kCO_X6_border : (Cond.code yX6_border cX6_border 5 (some .int)) ∈ TA := ta 587 (by decide +kernel) rfl
theorem kML_X6_213 : (Cond.methodLink RX6 213 yX5_around) ∈ TA := ta 588 (by decide +kernel) rfl
theorem kML_L_74 : (Cond.methodLink RL 74 yX6_defects) ∈ TA := ta 589 (by decide +kernel) rfl
theorem kIM_X6_defects : (Cond.instanceMethod yX6_defects) ∈ TA := ta 590 (by decide +kernel) rfl
theorem kSE_X6_defects : (Cond.selects RX6 yX6_defects yX6_defects) ∈ TA := ta 591 (by decide +kernel) rfl
theorem kCO_X6_defects : (Cond.code yX6_defects cX6_defects 1 (some .int)) ∈ TA := ta 592 (by decide +kernel) rfl
theorem kML_X6_216 : (Cond.methodLink RX6 216 yX5_count) ∈ TA := ta 593 (by decide +kernel) rfl
theorem kIM_X5_count : (Cond.instanceMethod yX5_count) ∈ TA := ta 594 (by decide +kernel) rfl
theorem kSE_X5_count : (Cond.selects RX5 yX5_count yX5_count) ∈ TA := ta 595 (by decide +kernel) rfl
theorem kCO_X5_count : (Cond.code yX5_count cX5_count 4 (some .int)) ∈ TA := ta 596 (by decide +kernel) rfl
theorem kML_L_77 : (Cond.methodLink RL 77 yX6_defect) ∈ TA := ta 597 (by decide +kernel) rfl
theorem kIM_X6_defect : (Cond.instanceMethod yX6_defect) ∈ TA := ta 598 (by decide +kernel) rfl
theorem kSE_X6_defect : (Cond.selects RX6 yX6_defect yX6_defect) ∈ TA := ta 599 (by decide +kernel) rfl
theorem kCO_X6_defect : (Cond.code yX6_defect cX6_defect 6 (some .int)) ∈ TA := ta 600 (by decide +kernel) rfl
theorem kML_X6_218 : (Cond.methodLink RX6 218 yX5_find) ∈ TA := ta 601 (by decide +kernel) rfl
theorem kIM_X5_find : (Cond.instanceMethod yX5_find) ∈ TA := ta 602 (by decide +kernel) rfl
theorem kSE_X5_find : (Cond.selects RX5 yX5_find yX5_find) ∈ TA := ta 603 (by decide +kernel) rfl
theorem kCO_X5_find : (Cond.code yX5_find cX5_find 5 (some .int)) ∈ TA := ta 604 (by decide +kernel) rfl
theorem kML_L_80 : (Cond.methodLink RL 80 yX6_ofPixel) ∈ TA := ta 608 (by decide +kernel) rfl
theorem kIM_X6_ofPixel : (Cond.instanceMethod yX6_ofPixel) ∈ TA := ta 609 (by decide +kernel) rfl
theorem kSE_X6_ofPixel : (Cond.selects RX6 yX6_ofPixel yX6_ofPixel) ∈ TA := ta 610 (by decide +kernel) rfl
theorem kCO_X6_ofPixel : (Cond.code yX6_ofPixel cX6_ofPixel 3 (some .int)) ∈ TA := ta 611 (by decide +kernel) rfl
theorem kML_X6_228 : (Cond.methodLink RX6 228 yX3_flicker) ∈ TA := ta 612 (by decide +kernel) rfl
theorem kIM_X3_flicker : (Cond.instanceMethod yX3_flicker) ∈ TA := ta 613 (by decide +kernel) rfl
theorem kSE_X3_flicker : (Cond.selects RX3 yX3_flicker yX3_flicker) ∈ TA := ta 614 (by decide +kernel) rfl
theorem kCO_X3_flicker : (Cond.code yX3_flicker cX3_flicker 8 (some .int)) ∈ TA := ta 615 (by decide +kernel) rfl
theorem kML_X3_53 : (Cond.methodLink RX3 53 yJ9_min_7cf53) ∈ TA := ta 616 (by decide +kernel) rfl
theorem kST_J9_min_7cf53 : (Cond.static yJ9_min_7cf53) ∈ TA := ta 617 (by decide +kernel) rfl
theorem kCO_J9_min_7cf53 : (Cond.code yJ9_min_7cf53 cJ9_min_7cf53 2 (some .int)) ∈ TA := ta 618 (by decide +kernel) rfl
theorem kML_X3_59 : (Cond.methodLink RX3 59 yJ9_max_7cf53) ∈ TA := ta 619 (by decide +kernel) rfl
theorem kST_J9_max_7cf53 : (Cond.static yJ9_max_7cf53) ∈ TA := ta 620 (by decide +kernel) rfl
theorem kCO_J9_max_7cf53 : (Cond.code yJ9_max_7cf53 cJ9_max_7cf53 2 (some .int)) ∈ TA := ta 621 (by decide +kernel) rfl
theorem kML_X6_231 : (Cond.methodLink RX6 231 yX5_isGood) ∈ TA := ta 622 (by decide +kernel) rfl
theorem kIM_X5_isGood : (Cond.instanceMethod yX5_isGood) ∈ TA := ta 623 (by decide +kernel) rfl
theorem kSE_X5_isGood : (Cond.selects RX5 yX5_isGood yX5_isGood) ∈ TA := ta 624 (by decide +kernel) rfl
theorem kCO_X5_isGood : (Cond.code yX5_isGood cX5_isGood 4 (some .boolean)) ∈ TA := ta 625 (by decide +kernel) rfl
theorem kML_X5_50 : (Cond.methodLink RX5 50 yX5_touches) ∈ TA := ta 626 (by decide +kernel) rfl
theorem kIM_X5_touches : (Cond.instanceMethod yX5_touches) ∈ TA := ta 628 (by decide +kernel) rfl
theorem kCO_X5_touches : (Cond.code yX5_touches cX5_touches 4 (some .boolean)) ∈ TA := ta 629 (by decide +kernel) rfl
theorem kML_X5_54 : (Cond.methodLink RX5 54 yX1_pixelAt) ∈ TA := ta 630 (by decide +kernel) rfl
theorem kML_X6_234 : (Cond.methodLink RX6 234 yX3_fieldDirection) ∈ TA := ta 631 (by decide +kernel) rfl
theorem kML_X6_237 : (Cond.methodLink RX6 237 yX3_fieldStrength) ∈ TA := ta 632 (by decide +kernel) rfl
theorem kML_L_11 : (Cond.methodLink RL 11 yL_cell) ∈ TA := ta 633 (by decide +kernel) rfl
theorem kST_L_cell : (Cond.static yL_cell) ∈ TA := ta 634 (by decide +kernel) rfl
theorem kCO_L_cell : (Cond.code yL_cell cL_cell 2 (some .int)) ∈ TA := ta 635 (by decide +kernel) rfl
theorem kCN_L_7 : (Cond.constant RL 7 1799596469) ∈ TA := ta 636 (by decide +kernel) rfl
theorem kML_L_18 : (Cond.methodLink RL 18 yL_at) ∈ TA := ta 637 (by decide +kernel) rfl
theorem kST_L_at : (Cond.static yL_at) ∈ TA := ta 638 (by decide +kernel) rfl
theorem kCO_L_at : (Cond.code yL_at cL_at 2 (some .int)) ∈ TA := ta 639 (by decide +kernel) rfl
theorem kCN_L_17 : (Cond.constant RL 17 2147483647) ∈ TA := ta 640 (by decide +kernel) rfl
theorem inAX0 : ∀ w ∈ u_ws RX0 TX0 5, w ∈ TA := by decide +kernel
theorem inAX1 : ∀ w ∈ u_ws RX1 TX1 11, w ∈ TA := by decide +kernel
theorem inAX2 : ∀ w ∈ u_ws RX2 TX2 3, w ∈ TA := by decide +kernel
theorem inAX3 : ∀ w ∈ u_ws RX3 TX3 9, w ∈ TA := by decide +kernel
theorem inAX4 : ∀ w ∈ u_ws RX4 TX4 1, w ∈ TA := by decide +kernel
theorem inAX5 : ∀ w ∈ u_ws RX5 TX5 1, w ∈ TA := by decide +kernel
theorem inAX6 : ∀ w ∈ u_ws RX6 TX6 9, w ∈ TA := by decide +kernel
end
section
section WORLD
abbrev classes : List vw_C := [(RX0, TX0, 5), (RX1, TX1, 11), (RX2, TX2, 3), (RX3, TX3, 9), (RX4, TX4, 1), (RX5, TX5, 1), (RX6, TX6, 9)]
/-- the cells of the class: NemaGrid, Pixels, Matter, Windings, Drives, Pictures, nineteen rows, their arrays; I: the int fields, A: the arrays -/
def cw (cyI : ClassId) (ad : Nat → Nat) (I : Nat → Int32) (A : Nat → Nat → Int32) : va_W := [(ad 0, .inr (6, [.ref (ad 1), .ref (ad 2), .ref (ad 3), .ref (ad 4), .ref (ad 5), .int (I 0), .int (I 1), .int (I 2), .int (I 3)])), (ad 1, .inr (3, [.ref (ad 6), .ref (ad 7), .ref (ad 8), .ref (ad 9), .ref (ad 10), .ref (ad 11), .ref (ad 12), .ref (ad 13), .int (I 4)])), (ad 2, .inr (1, [.ref (ad 14), .ref (ad 15), .ref (ad 16), .ref (ad 17), .ref (ad 18), .ref (ad 1), .int (I 5), .int (I 6), .int (I 7), .int (I 8), .int (I 9)])), (ad 3, .inr (5, [.ref (ad 2)])), (ad 4, .inr (0, [.ref (ad 19), .ref (ad 20), .ref (ad 21), .ref (ad 22), .int (I 10)])), (ad 5, .inr (2, [.ref (ad 23), .ref (ad 24), .int (I 11)])), (ad 6, .inr (4, [.ref (ad 25)])), (ad 7, .inr (4, [.ref (ad 26)])), (ad 8, .inr (4, [.ref (ad 27)])), (ad 9, .inr (4, [.ref (ad 28)])), (ad 10, .inr (4, [.ref (ad 29)])), (ad 11, .inr (4, [.ref (ad 30)])), (ad 12, .inr (4, [.ref (ad 31)])), (ad 13, .inr (4, [.ref (ad 32)])), (ad 14, .inr (4, [.ref (ad 33)])), (ad 15, .inr (4, [.ref (ad 34)])), (ad 16, .inr (4, [.ref (ad 35)])), (ad 17, .inr (4, [.ref (ad 36)])), (ad 18, .inr (4, [.ref (ad 37)])), (ad 19, .inr (4, [.ref (ad 38)])), (ad 20, .inr (4, [.ref (ad 39)])), (ad 21, .inr (4, [.ref (ad 40)])), (ad 22, .inr (4, [.ref (ad 41)])), (ad 23, .inr (4, [.ref (ad 42)])), (ad 24, .inr (4, [.ref (ad 43)])), (ad 25, .inl (cyI, 8, .inl (A 0))), (ad 26, .inl (cyI, 8, .inl (A 1))), (ad 27, .inl (cyI, 8, .inl (A 2))), (ad 28, .inl (cyI, 8, .inl (A 3))), (ad 29, .inl (cyI, 8, .inl (A 4))), (ad 30, .inl (cyI, 8, .inl (A 5))), (ad 31, .inl (cyI, 8, .inl (A 6))), (ad 32, .inl (cyI, 64, .inl (A 7))), (ad 33, .inl (cyI, 144, .inl (A 8))), (ad 34, .inl (cyI, 144, .inl (A 9))), (ad 35, .inl (cyI, 144, .inl (A 10))), (ad 36, .inl (cyI, 144, .inl (A 11))), (ad 37, .inl (cyI, 144, .inl (A 12))), (ad 38, .inl (cyI, 40, .inl (A 13))), (ad 39, .inl (cyI, 40, .inl (A 14))), (ad 40, .inl (cyI, 40, .inl (A 15))), (ad 41, .inl (cyI, 40, .inl (A 16))), (ad 42, .inl (cyI, 10, .inl (A 17))), (ad 43, .inl (cyI, 1440, .inl (A 18)))]
def InN (n : Nat) (ad : Nat → Nat) : Nat → Prop := fun q => ∃ i, i < n ∧ q = ad i
def AdN (n : Nat) (ad : Nat → Nat) : Prop := ∀ i j, i < n → j < n → ad i = ad j → i = j
theorem wD_of {n : Nat} {ad : Nat → Nat} {ws : va_W} (h : ws.map (·.1) = (List.range n).map ad) (N : AdN n ad) : va_D (InN n ad) ws := by
  have key : ∀ (i : Nat) (q : Nat × va_E), ws[i]? = some q → i < n ∧ ad i = q.1 := by
    intro i q hq
    have h1 : (ws.map (·.1))[i]? = some q.1 := by rw [List.getElem?_map, hq]; rfl
    rw [h, List.getElem?_map] at h1
    by_cases hi : i < n
    · rw [List.getElem?_range hi] at h1
      exact ⟨hi, Option.some.inj h1⟩
    · rw [List.getElem?_eq_none (by simpa using Nat.not_lt.mp hi)] at h1
      cases h1
  refine ⟨fun i j p q hi hj e => ?_, fun k q hq => ?_⟩
  · obtain ⟨a1, a2⟩ := key i p hi
    obtain ⟨b1, b2⟩ := key j q hj
    exact N i j a1 b1 (by rw [a2, b2, e])
  · obtain ⟨a1, a2⟩ := key k q hq
    exact ⟨k, a1, a2.symm⟩
theorem cw_D {cyI : ClassId} {ad : Nat → Nat} (N : AdN 44 ad) (I : Nat → Int32) (A : Nat → Nat → Int32) : va_D (InN 44 ad) (cw cyI ad I A) := wD_of rfl N

def greyV : Nat → Int32 := fun j => ([0, 17, 55, 90, 99, 75, 35, 4] : List Int32).getD j 0
def nestM : List (String × Nat × MethodName × String) := [(RX6, 11, yX3_init, "NemaGrid"), (RX6, 36, yX0_init, "NemaGrid"), (RX6, 43, yX2_init, "NemaGrid"), (RX1, 55, yX6_numberOf, "NemaGrid"), (RX1, 70, yX6_squareApart, "NemaGrid"), (RX1, 133, yX6_greyOf, "NemaGrid"), (RX5, 32, yX6_onFrom, "NemaGrid"), (RX5, 47, yX6_numberOf, "NemaGrid")]
def nestF : List (String × Nat × String × String × String × String) := [(RX6, 114, "NemaGrid$Pixels", "count", "I", "NemaGrid"), (RX5, 44, "NemaGrid$Matter", "width", "I", "NemaGrid"), (RX5, 40, "NemaGrid$Matter", "height", "I", "NemaGrid"), (RX6, 190, "NemaGrid$Matter", "energyKept", "I", "NemaGrid"), (RX6, 145, "NemaGrid$Drives", "count", "I", "NemaGrid"), (RX6, 169, "NemaGrid$Pictures", "count", "I", "NemaGrid")]
theorem nestM_tbl : ∀ q ∈ nestM, Cond.methodLinkNest q.1 q.2.1 q.2.2.1 q.2.2.2 ∈ lw_tbl := by decide +kernel
theorem nestF_tbl : ∀ q ∈ nestF, Cond.fieldLinkNest q.1 q.2.1 q.2.2.1 q.2.2.2.1 q.2.2.2.2.1 q.2.2.2.2.2 ∈ lw_tbl := by decide +kernel
/-- what the class's methods need of the state beside their own cells, where the region Ar alone is written -/
def KCg (D : va_G) (cyI : ClassId) (Ar : Nat → Prop) : Ctx := fun U H =>
  va_K D classes [(cyI, .int)] U ∧ (∃ t, va_Z "NemaGrid" "GREYS" "[I" (.ref t) Ar U H ∧ va_T .int t 8 (fun j => .int (greyV j)) Ar U H) ∧
  (∀ q ∈ nestM, va_Nw (.methodLinkNest q.1 q.2.1 q.2.2.1 q.2.2.2) U) ∧ (∀ q ∈ nestF, va_Nw (.fieldLinkNest q.1 q.2.1 q.2.2.1 q.2.2.2.1 q.2.2.2.2.1 q.2.2.2.2.2) U)
def KC (D : va_G) (cyI : ClassId) (ad : Nat → Nat) : Ctx := KCg D cyI (InN 44 ad)
theorem KCg.k {D : va_G} {cyI : ClassId} {Ar : Nat → Prop} {U : State} {H : Heap} (h : KCg D cyI Ar U H) : va_K D classes [(cyI, .int)] U := h.1
theorem KCg.nm {D : va_G} {cyI : ClassId} {Ar : Nat → Prop} {U : State} {H : Heap} (h : KCg D cyI Ar U H) : ∀ q ∈ nestM, va_Nw (.methodLinkNest q.1 q.2.1 q.2.2.1 q.2.2.2) U := h.2.2.1
theorem KCg.nf {D : va_G} {cyI : ClassId} {Ar : Nat → Prop} {U : State} {H : Heap} (h : KCg D cyI Ar U H) : ∀ q ∈ nestF, va_Nw (.fieldLinkNest q.1 q.2.1 q.2.2.1 q.2.2.2.1 q.2.2.2.2.1 q.2.2.2.2.2) U := h.2.2.2
theorem KC.k {D : va_G} {cyI : ClassId} {ad : Nat → Nat} {U : State} {H : Heap} (h : KC D cyI ad U H) : va_K D classes [(cyI, .int)] U := KCg.k h
theorem KC.nm {D : va_G} {cyI : ClassId} {ad : Nat → Nat} {U : State} {H : Heap} (h : KC D cyI ad U H) : ∀ q ∈ nestM, va_Nw (.methodLinkNest q.1 q.2.1 q.2.2.1 q.2.2.2) U := KCg.nm h
theorem KC.nf {D : va_G} {cyI : ClassId} {ad : Nat → Nat} {U : State} {H : Heap} (h : KC D cyI ad U H) : ∀ q ∈ nestF, va_Nw (.fieldLinkNest q.1 q.2.1 q.2.2.1 q.2.2.2.1 q.2.2.2.2.1 q.2.2.2.2.2) U := KCg.nf h
theorem alike_eq {u U : State} (h : U.vm = u.vm) : u.vm.Alike U.vm := by rw [h]; exact Vm.Alike.refl u.vm
theorem KCg_blind {D : va_G} {cyI : ClassId} {A : Nat → Prop} : Blind (KCg D cyI A) := by
  intro u U H hv h
  obtain ⟨h1, ⟨t, h2, h3⟩, h7, h8⟩ := h
  have hA := alike_eq hv
  exact ⟨va_K.moved hA h1, ⟨t, h2.moved hA, h3.moved hA⟩, fun q hq => va_Nw.same rfl hv.symm (h7 q hq), fun q hq => va_Nw.same rfl hv.symm (h8 q hq)⟩
theorem KC_blind {D : va_G} {cyI : ClassId} {ad : Nat → Nat} : Blind (KC D cyI ad) := KCg_blind
theorem KCg.warm {D : va_G} {cyI : ClassId} {A : Nat → Prop} {s U : State} {H : Heap} (hW : s.WarmedH U.vm) (h : KCg D cyI A s H) : KCg D cyI A U H := by
  obtain ⟨h1, ⟨t, h2, h3⟩, h7, h8⟩ := h
  have hA := hW.alike
  exact ⟨va_K.moved hA h1, ⟨t, h2.moved hA, h3.moved hA⟩, fun q hq => va_Nw.warmM hW (h7 q hq), fun q hq => va_Nw.warmF hW (h8 q hq)⟩
theorem KC.warm {D : va_G} {cyI : ClassId} {ad : Nat → Nat} {s U : State} {H : Heap} (hW : s.WarmedH U.vm) (h : KC D cyI ad s H) : KC D cyI ad U H := KCg.warm hW h
theorem KCg.at {D : va_G} {cyI : ClassId} {A : Nat → Prop} {s : State} {H0 H : Heap} {locs : List Loc} (h : KCg D cyI A s H0) (hS : va_S A H0 H locs) : KCg D cyI A s H := by
  obtain ⟨h1, ⟨t, h2, h3⟩, h6⟩ := h
  exact ⟨h1, ⟨t, h2.kept hS.2.1, h3.kept hS.2.1⟩, h6⟩
theorem KC.at {D : va_G} {cyI : ClassId} {ad : Nat → Nat} {s : State} {H0 H : Heap} {locs : List Loc} (h : KC D cyI ad s H0) (hS : va_S (InN 44 ad) H0 H locs) : KC D cyI ad s H := KCg.at h hS
theorem KCg.to {D : va_G} {cyI : ClassId} {ad : Nat → Nat} {U : State} {H : Heap} (h : KCg D cyI (InN 44 ad) U H) : KC D cyI ad U H := h
theorem KCg.narrow {D : va_G} {cyI : ClassId} {A B : Nat → Prop} {U : State} {H : Heap} (h : KCg D cyI A U H) (hAB : ∀ q, B q → A q) : KCg D cyI B U H := by
  obtain ⟨h1, ⟨t, h2, h3⟩, h6⟩ := h
  exact ⟨h1, ⟨t, h2.narrow hAB, h3.narrow hAB⟩, h6⟩
theorem KC.greys {D : va_G} {cyI : ClassId} {ad : Nat → Nat} {U : State} {H : Heap} (h : KC D cyI ad U H) : ∃ t, va_Z "NemaGrid" "GREYS" "[I" (.ref t) (InN 44 ad) U H ∧ va_T .int t 8 (fun j => .int (greyV j)) (InN 44 ad) U H := h.2.1
section
variable {p : Program} {l : Launch} {e : Env} {R : Room} {s : State} {m : MethodId} {args : Array Value} {below : List Frame} {meth : Method} {c : Code} {H : Heap} {locs : List Loc} {cells slots : Nat} {Q : State → Prop} {cc : ByteArray} {nL pc : Nat} {ret : Option FieldType} {ls : Array Slot} {rest : List Value} {D : va_G} {cyI : ClassId} {ad : Nat → Nat} {I : Nat → Int32} {A : Nat → Nat → Int32}
theorem cw_g0 : (cw cyI ad I A)[0]? = some (ad 0, .inr (6, [.ref (ad 1), .ref (ad 2), .ref (ad 3), .ref (ad 4), .ref (ad 5), .int (I 0), .int (I 1), .int (I 2), .int (I 3)])) := rfl
theorem cw_g1 : (cw cyI ad I A)[1]? = some (ad 1, .inr (3, [.ref (ad 6), .ref (ad 7), .ref (ad 8), .ref (ad 9), .ref (ad 10), .ref (ad 11), .ref (ad 12), .ref (ad 13), .int (I 4)])) := rfl
theorem cw_g2 : (cw cyI ad I A)[2]? = some (ad 2, .inr (1, [.ref (ad 14), .ref (ad 15), .ref (ad 16), .ref (ad 17), .ref (ad 18), .ref (ad 1), .int (I 5), .int (I 6), .int (I 7), .int (I 8), .int (I 9)])) := rfl
theorem cw_g3 : (cw cyI ad I A)[3]? = some (ad 3, .inr (5, [.ref (ad 2)])) := rfl
theorem cw_g4 : (cw cyI ad I A)[4]? = some (ad 4, .inr (0, [.ref (ad 19), .ref (ad 20), .ref (ad 21), .ref (ad 22), .int (I 10)])) := rfl
theorem cw_g5 : (cw cyI ad I A)[5]? = some (ad 5, .inr (2, [.ref (ad 23), .ref (ad 24), .int (I 11)])) := rfl
theorem gf_X0_14 (E : EX p s m args meth c cc nL RX0 ret) (K0 : KC D cyI ad s s.heap) (P : va_P D classes (cw cyI ad I A) H) (hdg : decode cc pc = .ok (.getfield 14, 3)) (kk : W p l e R s m args below meth c H locs cells slots Q (F0 m (pc + 3) ls (.ref (ad 19) :: rest))) : W p l e R s m args below meth c H locs cells slots Q (F0 m pc ls (.ref (ad 4) :: rest)) := va_get E.hx E.hb E.ht inAX0 E.ho K0.k P 4 cw_g4 (show classes[0]? = some (RX0, TX0, 5) from rfl) 0 (by decide) (E.ht _ kFL_X0_14) (fun _ h9 => h9) rfl hdg kk
theorem gf_X0_20 (E : EX p s m args meth c cc nL RX0 ret) (K0 : KC D cyI ad s s.heap) (P : va_P D classes (cw cyI ad I A) H) (hdg : decode cc pc = .ok (.getfield 20, 3)) (kk : W p l e R s m args below meth c H locs cells slots Q (F0 m (pc + 3) ls (.ref (ad 20) :: rest))) : W p l e R s m args below meth c H locs cells slots Q (F0 m pc ls (.ref (ad 4) :: rest)) := va_get E.hx E.hb E.ht inAX0 E.ho K0.k P 4 cw_g4 (show classes[0]? = some (RX0, TX0, 5) from rfl) 1 (by decide) (E.ht _ kFL_X0_20) (fun _ h9 => h9) rfl hdg kk
theorem gf_X0_23 (E : EX p s m args meth c cc nL RX0 ret) (K0 : KC D cyI ad s s.heap) (P : va_P D classes (cw cyI ad I A) H) (hdg : decode cc pc = .ok (.getfield 23, 3)) (kk : W p l e R s m args below meth c H locs cells slots Q (F0 m (pc + 3) ls (.ref (ad 21) :: rest))) : W p l e R s m args below meth c H locs cells slots Q (F0 m pc ls (.ref (ad 4) :: rest)) := va_get E.hx E.hb E.ht inAX0 E.ho K0.k P 4 cw_g4 (show classes[0]? = some (RX0, TX0, 5) from rfl) 2 (by decide) (E.ht _ kFL_X0_23) (fun _ h9 => h9) rfl hdg kk
theorem gf_X0_26 (E : EX p s m args meth c cc nL RX0 ret) (K0 : KC D cyI ad s s.heap) (P : va_P D classes (cw cyI ad I A) H) (hdg : decode cc pc = .ok (.getfield 26, 3)) (kk : W p l e R s m args below meth c H locs cells slots Q (F0 m (pc + 3) ls (.ref (ad 22) :: rest))) : W p l e R s m args below meth c H locs cells slots Q (F0 m pc ls (.ref (ad 4) :: rest)) := va_get E.hx E.hb E.ht inAX0 E.ho K0.k P 4 cw_g4 (show classes[0]? = some (RX0, TX0, 5) from rfl) 3 (by decide) (E.ht _ kFL_X0_26) (fun _ h9 => h9) rfl hdg kk
theorem gf_X0_29 (E : EX p s m args meth c cc nL RX0 ret) (K0 : KC D cyI ad s s.heap) (P : va_P D classes (cw cyI ad I A) H) (hdg : decode cc pc = .ok (.getfield 29, 3)) (kk : W p l e R s m args below meth c H locs cells slots Q (F0 m (pc + 3) ls (.int (I 10) :: rest))) : W p l e R s m args below meth c H locs cells slots Q (F0 m pc ls (.ref (ad 4) :: rest)) := va_get E.hx E.hb E.ht inAX0 E.ho K0.k P 4 cw_g4 (show classes[0]? = some (RX0, TX0, 5) from rfl) 4 (by decide) (E.ht _ kFL_X0_29) (fun _ h9 => h9) rfl hdg kk
theorem pf_X0_29 (E : EX p s m args meth c cc nL RX0 ret) (N : AdN 44 ad) (K0 : KC D cyI ad s s.heap) (P : va_P D classes (cw cyI ad I A) H) (S : va_S (InN 44 ad) s.heap H locs) {v : Int32} (hdg : decode cc pc = .ok (.putfield 29, 3)) (kk : ∀ (H1 : Heap) (locs1 : List Loc), va_P D classes (cw cyI ad (va_up I 10 v) A) H1 → va_S (InN 44 ad) s.heap H1 locs1 → W p l e R s m args below meth c H1 locs1 cells slots Q (F0 m (pc + 3) ls rest)) : W p l e R s m args below meth c H locs cells slots Q (F0 m pc ls (.int v :: .ref (ad 4) :: rest)) := va_put E.hx E.hb E.ht inAX0 tyX0 tyX0_ok nmX0 E.ho K0.k P (cw_D N I A) S 4 cw_g4 (show classes[0]? = some (RX0, TX0, 5) from rfl) 4 (by decide) (E.ht _ kFL_X0_29) (fun _ h9 => h9) rfl (show parseFieldDescriptor (TX0 4).2.2.1 = some .int by decide +kernel) rfl rfl (Nat.le_of_ble_eq_true rfl) hdg (fun H1 l1 hP _ hS => kk H1 l1 hP hS)
theorem gf_X1_14 (E : EX p s m args meth c cc nL RX1 ret) (K0 : KC D cyI ad s s.heap) (P : va_P D classes (cw cyI ad I A) H) (hdg : decode cc pc = .ok (.getfield 14, 3)) (kk : W p l e R s m args below meth c H locs cells slots Q (F0 m (pc + 3) ls (.ref (ad 14) :: rest))) : W p l e R s m args below meth c H locs cells slots Q (F0 m pc ls (.ref (ad 2) :: rest)) := va_get E.hx E.hb E.ht inAX1 E.ho K0.k P 2 cw_g2 (show classes[1]? = some (RX1, TX1, 11) from rfl) 0 (by decide) (E.ht _ kFL_X1_14) (fun _ h9 => h9) rfl hdg kk
theorem gf_X1_20 (E : EX p s m args meth c cc nL RX1 ret) (K0 : KC D cyI ad s s.heap) (P : va_P D classes (cw cyI ad I A) H) (hdg : decode cc pc = .ok (.getfield 20, 3)) (kk : W p l e R s m args below meth c H locs cells slots Q (F0 m (pc + 3) ls (.ref (ad 15) :: rest))) : W p l e R s m args below meth c H locs cells slots Q (F0 m pc ls (.ref (ad 2) :: rest)) := va_get E.hx E.hb E.ht inAX1 E.ho K0.k P 2 cw_g2 (show classes[1]? = some (RX1, TX1, 11) from rfl) 1 (by decide) (E.ht _ kFL_X1_20) (fun _ h9 => h9) rfl hdg kk
theorem gf_X1_23 (E : EX p s m args meth c cc nL RX1 ret) (K0 : KC D cyI ad s s.heap) (P : va_P D classes (cw cyI ad I A) H) (hdg : decode cc pc = .ok (.getfield 23, 3)) (kk : W p l e R s m args below meth c H locs cells slots Q (F0 m (pc + 3) ls (.ref (ad 16) :: rest))) : W p l e R s m args below meth c H locs cells slots Q (F0 m pc ls (.ref (ad 2) :: rest)) := va_get E.hx E.hb E.ht inAX1 E.ho K0.k P 2 cw_g2 (show classes[1]? = some (RX1, TX1, 11) from rfl) 2 (by decide) (E.ht _ kFL_X1_23) (fun _ h9 => h9) rfl hdg kk
theorem gf_X1_26 (E : EX p s m args meth c cc nL RX1 ret) (K0 : KC D cyI ad s s.heap) (P : va_P D classes (cw cyI ad I A) H) (hdg : decode cc pc = .ok (.getfield 26, 3)) (kk : W p l e R s m args below meth c H locs cells slots Q (F0 m (pc + 3) ls (.ref (ad 17) :: rest))) : W p l e R s m args below meth c H locs cells slots Q (F0 m pc ls (.ref (ad 2) :: rest)) := va_get E.hx E.hb E.ht inAX1 E.ho K0.k P 2 cw_g2 (show classes[1]? = some (RX1, TX1, 11) from rfl) 3 (by decide) (E.ht _ kFL_X1_26) (fun _ h9 => h9) rfl hdg kk
theorem gf_X1_29 (E : EX p s m args meth c cc nL RX1 ret) (K0 : KC D cyI ad s s.heap) (P : va_P D classes (cw cyI ad I A) H) (hdg : decode cc pc = .ok (.getfield 29, 3)) (kk : W p l e R s m args below meth c H locs cells slots Q (F0 m (pc + 3) ls (.ref (ad 18) :: rest))) : W p l e R s m args below meth c H locs cells slots Q (F0 m pc ls (.ref (ad 2) :: rest)) := va_get E.hx E.hb E.ht inAX1 E.ho K0.k P 2 cw_g2 (show classes[1]? = some (RX1, TX1, 11) from rfl) 4 (by decide) (E.ht _ kFL_X1_29) (fun _ h9 => h9) rfl hdg kk
theorem gf_X1_32 (E : EX p s m args meth c cc nL RX1 ret) (K0 : KC D cyI ad s s.heap) (P : va_P D classes (cw cyI ad I A) H) (hdg : decode cc pc = .ok (.getfield 32, 3)) (kk : W p l e R s m args below meth c H locs cells slots Q (F0 m (pc + 3) ls (.int (I 5) :: rest))) : W p l e R s m args below meth c H locs cells slots Q (F0 m pc ls (.ref (ad 2) :: rest)) := va_get E.hx E.hb E.ht inAX1 E.ho K0.k P 2 cw_g2 (show classes[1]? = some (RX1, TX1, 11) from rfl) 6 (by decide) (E.ht _ kFL_X1_32) (fun _ h9 => h9) rfl hdg kk
theorem pf_X1_32 (E : EX p s m args meth c cc nL RX1 ret) (N : AdN 44 ad) (K0 : KC D cyI ad s s.heap) (P : va_P D classes (cw cyI ad I A) H) (S : va_S (InN 44 ad) s.heap H locs) {v : Int32} (hdg : decode cc pc = .ok (.putfield 32, 3)) (kk : ∀ (H1 : Heap) (locs1 : List Loc), va_P D classes (cw cyI ad (va_up I 5 v) A) H1 → va_S (InN 44 ad) s.heap H1 locs1 → W p l e R s m args below meth c H1 locs1 cells slots Q (F0 m (pc + 3) ls rest)) : W p l e R s m args below meth c H locs cells slots Q (F0 m pc ls (.int v :: .ref (ad 2) :: rest)) := va_put E.hx E.hb E.ht inAX1 tyX1 tyX1_ok nmX1 E.ho K0.k P (cw_D N I A) S 2 cw_g2 (show classes[1]? = some (RX1, TX1, 11) from rfl) 6 (by decide) (E.ht _ kFL_X1_32) (fun _ h9 => h9) rfl (show parseFieldDescriptor (TX1 6).2.2.1 = some .int by decide +kernel) rfl rfl (Nat.le_of_ble_eq_true rfl) hdg (fun H1 l1 hP _ hS => kk H1 l1 hP hS)
theorem gf_X1_36 (E : EX p s m args meth c cc nL RX1 ret) (K0 : KC D cyI ad s s.heap) (P : va_P D classes (cw cyI ad I A) H) (hdg : decode cc pc = .ok (.getfield 36, 3)) (kk : W p l e R s m args below meth c H locs cells slots Q (F0 m (pc + 3) ls (.int (I 6) :: rest))) : W p l e R s m args below meth c H locs cells slots Q (F0 m pc ls (.ref (ad 2) :: rest)) := va_get E.hx E.hb E.ht inAX1 E.ho K0.k P 2 cw_g2 (show classes[1]? = some (RX1, TX1, 11) from rfl) 7 (by decide) (E.ht _ kFL_X1_36) (fun _ h9 => h9) rfl hdg kk
theorem pf_X1_36 (E : EX p s m args meth c cc nL RX1 ret) (N : AdN 44 ad) (K0 : KC D cyI ad s s.heap) (P : va_P D classes (cw cyI ad I A) H) (S : va_S (InN 44 ad) s.heap H locs) {v : Int32} (hdg : decode cc pc = .ok (.putfield 36, 3)) (kk : ∀ (H1 : Heap) (locs1 : List Loc), va_P D classes (cw cyI ad (va_up I 6 v) A) H1 → va_S (InN 44 ad) s.heap H1 locs1 → W p l e R s m args below meth c H1 locs1 cells slots Q (F0 m (pc + 3) ls rest)) : W p l e R s m args below meth c H locs cells slots Q (F0 m pc ls (.int v :: .ref (ad 2) :: rest)) := va_put E.hx E.hb E.ht inAX1 tyX1 tyX1_ok nmX1 E.ho K0.k P (cw_D N I A) S 2 cw_g2 (show classes[1]? = some (RX1, TX1, 11) from rfl) 7 (by decide) (E.ht _ kFL_X1_36) (fun _ h9 => h9) rfl (show parseFieldDescriptor (TX1 7).2.2.1 = some .int by decide +kernel) rfl rfl (Nat.le_of_ble_eq_true rfl) hdg (fun H1 l1 hP _ hS => kk H1 l1 hP hS)
theorem gf_X1_39 (E : EX p s m args meth c cc nL RX1 ret) (K0 : KC D cyI ad s s.heap) (P : va_P D classes (cw cyI ad I A) H) (hdg : decode cc pc = .ok (.getfield 39, 3)) (kk : W p l e R s m args below meth c H locs cells slots Q (F0 m (pc + 3) ls (.int (I 7) :: rest))) : W p l e R s m args below meth c H locs cells slots Q (F0 m pc ls (.ref (ad 2) :: rest)) := va_get E.hx E.hb E.ht inAX1 E.ho K0.k P 2 cw_g2 (show classes[1]? = some (RX1, TX1, 11) from rfl) 8 (by decide) (E.ht _ kFL_X1_39) (fun _ h9 => h9) rfl hdg kk
theorem pf_X1_39 (E : EX p s m args meth c cc nL RX1 ret) (N : AdN 44 ad) (K0 : KC D cyI ad s s.heap) (P : va_P D classes (cw cyI ad I A) H) (S : va_S (InN 44 ad) s.heap H locs) {v : Int32} (hdg : decode cc pc = .ok (.putfield 39, 3)) (kk : ∀ (H1 : Heap) (locs1 : List Loc), va_P D classes (cw cyI ad (va_up I 7 v) A) H1 → va_S (InN 44 ad) s.heap H1 locs1 → W p l e R s m args below meth c H1 locs1 cells slots Q (F0 m (pc + 3) ls rest)) : W p l e R s m args below meth c H locs cells slots Q (F0 m pc ls (.int v :: .ref (ad 2) :: rest)) := va_put E.hx E.hb E.ht inAX1 tyX1 tyX1_ok nmX1 E.ho K0.k P (cw_D N I A) S 2 cw_g2 (show classes[1]? = some (RX1, TX1, 11) from rfl) 8 (by decide) (E.ht _ kFL_X1_39) (fun _ h9 => h9) rfl (show parseFieldDescriptor (TX1 8).2.2.1 = some .int by decide +kernel) rfl rfl (Nat.le_of_ble_eq_true rfl) hdg (fun H1 l1 hP _ hS => kk H1 l1 hP hS)
theorem gf_X1_42 (E : EX p s m args meth c cc nL RX1 ret) (K0 : KC D cyI ad s s.heap) (P : va_P D classes (cw cyI ad I A) H) (hdg : decode cc pc = .ok (.getfield 42, 3)) (kk : W p l e R s m args below meth c H locs cells slots Q (F0 m (pc + 3) ls (.int (I 8) :: rest))) : W p l e R s m args below meth c H locs cells slots Q (F0 m pc ls (.ref (ad 2) :: rest)) := va_get E.hx E.hb E.ht inAX1 E.ho K0.k P 2 cw_g2 (show classes[1]? = some (RX1, TX1, 11) from rfl) 9 (by decide) (E.ht _ kFL_X1_42) (fun _ h9 => h9) rfl hdg kk
theorem pf_X1_42 (E : EX p s m args meth c cc nL RX1 ret) (N : AdN 44 ad) (K0 : KC D cyI ad s s.heap) (P : va_P D classes (cw cyI ad I A) H) (S : va_S (InN 44 ad) s.heap H locs) {v : Int32} (hdg : decode cc pc = .ok (.putfield 42, 3)) (kk : ∀ (H1 : Heap) (locs1 : List Loc), va_P D classes (cw cyI ad (va_up I 8 v) A) H1 → va_S (InN 44 ad) s.heap H1 locs1 → W p l e R s m args below meth c H1 locs1 cells slots Q (F0 m (pc + 3) ls rest)) : W p l e R s m args below meth c H locs cells slots Q (F0 m pc ls (.int v :: .ref (ad 2) :: rest)) := va_put E.hx E.hb E.ht inAX1 tyX1 tyX1_ok nmX1 E.ho K0.k P (cw_D N I A) S 2 cw_g2 (show classes[1]? = some (RX1, TX1, 11) from rfl) 9 (by decide) (E.ht _ kFL_X1_42) (fun _ h9 => h9) rfl (show parseFieldDescriptor (TX1 9).2.2.1 = some .int by decide +kernel) rfl rfl (Nat.le_of_ble_eq_true rfl) hdg (fun H1 l1 hP _ hS => kk H1 l1 hP hS)
theorem gf_X1_45 (E : EX p s m args meth c cc nL RX1 ret) (K0 : KC D cyI ad s s.heap) (P : va_P D classes (cw cyI ad I A) H) (hdg : decode cc pc = .ok (.getfield 45, 3)) (kk : W p l e R s m args below meth c H locs cells slots Q (F0 m (pc + 3) ls (.ref (ad 1) :: rest))) : W p l e R s m args below meth c H locs cells slots Q (F0 m pc ls (.ref (ad 2) :: rest)) := va_get E.hx E.hb E.ht inAX1 E.ho K0.k P 2 cw_g2 (show classes[1]? = some (RX1, TX1, 11) from rfl) 5 (by decide) (E.ht _ kFL_X1_45) (fun _ h9 => h9) rfl hdg kk
theorem gf_X1_52 (E : EX p s m args meth c cc nL RX1 ret) (K0 : KC D cyI ad s s.heap) (P : va_P D classes (cw cyI ad I A) H) (hdg : decode cc pc = .ok (.getfield 52, 3)) (kk : W p l e R s m args below meth c H locs cells slots Q (F0 m (pc + 3) ls (.int (I 9) :: rest))) : W p l e R s m args below meth c H locs cells slots Q (F0 m pc ls (.ref (ad 2) :: rest)) := va_get E.hx E.hb E.ht inAX1 E.ho K0.k P 2 cw_g2 (show classes[1]? = some (RX1, TX1, 11) from rfl) 10 (by decide) (E.ht _ kFL_X1_52) (fun _ h9 => h9) rfl hdg kk
theorem pf_X1_52 (E : EX p s m args meth c cc nL RX1 ret) (N : AdN 44 ad) (K0 : KC D cyI ad s s.heap) (P : va_P D classes (cw cyI ad I A) H) (S : va_S (InN 44 ad) s.heap H locs) {v : Int32} (hdg : decode cc pc = .ok (.putfield 52, 3)) (kk : ∀ (H1 : Heap) (locs1 : List Loc), va_P D classes (cw cyI ad (va_up I 9 v) A) H1 → va_S (InN 44 ad) s.heap H1 locs1 → W p l e R s m args below meth c H1 locs1 cells slots Q (F0 m (pc + 3) ls rest)) : W p l e R s m args below meth c H locs cells slots Q (F0 m pc ls (.int v :: .ref (ad 2) :: rest)) := va_put E.hx E.hb E.ht inAX1 tyX1 tyX1_ok nmX1 E.ho K0.k P (cw_D N I A) S 2 cw_g2 (show classes[1]? = some (RX1, TX1, 11) from rfl) 10 (by decide) (E.ht _ kFL_X1_52) (fun _ h9 => h9) rfl (show parseFieldDescriptor (TX1 10).2.2.1 = some .int by decide +kernel) rfl rfl (Nat.le_of_ble_eq_true rfl) hdg (fun H1 l1 hP _ hS => kk H1 l1 hP hS)
theorem gf_X2_14 (E : EX p s m args meth c cc nL RX2 ret) (K0 : KC D cyI ad s s.heap) (P : va_P D classes (cw cyI ad I A) H) (hdg : decode cc pc = .ok (.getfield 14, 3)) (kk : W p l e R s m args below meth c H locs cells slots Q (F0 m (pc + 3) ls (.ref (ad 23) :: rest))) : W p l e R s m args below meth c H locs cells slots Q (F0 m pc ls (.ref (ad 5) :: rest)) := va_get E.hx E.hb E.ht inAX2 E.ho K0.k P 5 cw_g5 (show classes[2]? = some (RX2, TX2, 3) from rfl) 0 (by decide) (E.ht _ kFL_X2_14) (fun _ h9 => h9) rfl hdg kk
theorem gf_X2_20 (E : EX p s m args meth c cc nL RX2 ret) (K0 : KC D cyI ad s s.heap) (P : va_P D classes (cw cyI ad I A) H) (hdg : decode cc pc = .ok (.getfield 20, 3)) (kk : W p l e R s m args below meth c H locs cells slots Q (F0 m (pc + 3) ls (.ref (ad 24) :: rest))) : W p l e R s m args below meth c H locs cells slots Q (F0 m pc ls (.ref (ad 5) :: rest)) := va_get E.hx E.hb E.ht inAX2 E.ho K0.k P 5 cw_g5 (show classes[2]? = some (RX2, TX2, 3) from rfl) 1 (by decide) (E.ht _ kFL_X2_20) (fun _ h9 => h9) rfl hdg kk
theorem gf_X3_14 (E : EX p s m args meth c cc nL RX3 ret) (K0 : KC D cyI ad s s.heap) (P : va_P D classes (cw cyI ad I A) H) (hdg : decode cc pc = .ok (.getfield 14, 3)) (kk : W p l e R s m args below meth c H locs cells slots Q (F0 m (pc + 3) ls (.ref (ad 6) :: rest))) : W p l e R s m args below meth c H locs cells slots Q (F0 m pc ls (.ref (ad 1) :: rest)) := va_get E.hx E.hb E.ht inAX3 E.ho K0.k P 1 cw_g1 (show classes[3]? = some (RX3, TX3, 9) from rfl) 0 (by decide) (E.ht _ kFL_X3_14) (fun _ h9 => h9) rfl hdg kk
theorem gf_X3_20 (E : EX p s m args meth c cc nL RX3 ret) (K0 : KC D cyI ad s s.heap) (P : va_P D classes (cw cyI ad I A) H) (hdg : decode cc pc = .ok (.getfield 20, 3)) (kk : W p l e R s m args below meth c H locs cells slots Q (F0 m (pc + 3) ls (.ref (ad 7) :: rest))) : W p l e R s m args below meth c H locs cells slots Q (F0 m pc ls (.ref (ad 1) :: rest)) := va_get E.hx E.hb E.ht inAX3 E.ho K0.k P 1 cw_g1 (show classes[3]? = some (RX3, TX3, 9) from rfl) 1 (by decide) (E.ht _ kFL_X3_20) (fun _ h9 => h9) rfl hdg kk
theorem gf_X3_23 (E : EX p s m args meth c cc nL RX3 ret) (K0 : KC D cyI ad s s.heap) (P : va_P D classes (cw cyI ad I A) H) (hdg : decode cc pc = .ok (.getfield 23, 3)) (kk : W p l e R s m args below meth c H locs cells slots Q (F0 m (pc + 3) ls (.ref (ad 8) :: rest))) : W p l e R s m args below meth c H locs cells slots Q (F0 m pc ls (.ref (ad 1) :: rest)) := va_get E.hx E.hb E.ht inAX3 E.ho K0.k P 1 cw_g1 (show classes[3]? = some (RX3, TX3, 9) from rfl) 2 (by decide) (E.ht _ kFL_X3_23) (fun _ h9 => h9) rfl hdg kk
theorem gf_X3_26 (E : EX p s m args meth c cc nL RX3 ret) (K0 : KC D cyI ad s s.heap) (P : va_P D classes (cw cyI ad I A) H) (hdg : decode cc pc = .ok (.getfield 26, 3)) (kk : W p l e R s m args below meth c H locs cells slots Q (F0 m (pc + 3) ls (.ref (ad 9) :: rest))) : W p l e R s m args below meth c H locs cells slots Q (F0 m pc ls (.ref (ad 1) :: rest)) := va_get E.hx E.hb E.ht inAX3 E.ho K0.k P 1 cw_g1 (show classes[3]? = some (RX3, TX3, 9) from rfl) 3 (by decide) (E.ht _ kFL_X3_26) (fun _ h9 => h9) rfl hdg kk
theorem gf_X3_29 (E : EX p s m args meth c cc nL RX3 ret) (K0 : KC D cyI ad s s.heap) (P : va_P D classes (cw cyI ad I A) H) (hdg : decode cc pc = .ok (.getfield 29, 3)) (kk : W p l e R s m args below meth c H locs cells slots Q (F0 m (pc + 3) ls (.ref (ad 10) :: rest))) : W p l e R s m args below meth c H locs cells slots Q (F0 m pc ls (.ref (ad 1) :: rest)) := va_get E.hx E.hb E.ht inAX3 E.ho K0.k P 1 cw_g1 (show classes[3]? = some (RX3, TX3, 9) from rfl) 4 (by decide) (E.ht _ kFL_X3_29) (fun _ h9 => h9) rfl hdg kk
theorem gf_X3_32 (E : EX p s m args meth c cc nL RX3 ret) (K0 : KC D cyI ad s s.heap) (P : va_P D classes (cw cyI ad I A) H) (hdg : decode cc pc = .ok (.getfield 32, 3)) (kk : W p l e R s m args below meth c H locs cells slots Q (F0 m (pc + 3) ls (.ref (ad 11) :: rest))) : W p l e R s m args below meth c H locs cells slots Q (F0 m pc ls (.ref (ad 1) :: rest)) := va_get E.hx E.hb E.ht inAX3 E.ho K0.k P 1 cw_g1 (show classes[3]? = some (RX3, TX3, 9) from rfl) 5 (by decide) (E.ht _ kFL_X3_32) (fun _ h9 => h9) rfl hdg kk
theorem gf_X3_35 (E : EX p s m args meth c cc nL RX3 ret) (K0 : KC D cyI ad s s.heap) (P : va_P D classes (cw cyI ad I A) H) (hdg : decode cc pc = .ok (.getfield 35, 3)) (kk : W p l e R s m args below meth c H locs cells slots Q (F0 m (pc + 3) ls (.ref (ad 12) :: rest))) : W p l e R s m args below meth c H locs cells slots Q (F0 m pc ls (.ref (ad 1) :: rest)) := va_get E.hx E.hb E.ht inAX3 E.ho K0.k P 1 cw_g1 (show classes[3]? = some (RX3, TX3, 9) from rfl) 6 (by decide) (E.ht _ kFL_X3_35) (fun _ h9 => h9) rfl hdg kk
theorem gf_X3_38 (E : EX p s m args meth c cc nL RX3 ret) (K0 : KC D cyI ad s s.heap) (P : va_P D classes (cw cyI ad I A) H) (hdg : decode cc pc = .ok (.getfield 38, 3)) (kk : W p l e R s m args below meth c H locs cells slots Q (F0 m (pc + 3) ls (.ref (ad 13) :: rest))) : W p l e R s m args below meth c H locs cells slots Q (F0 m pc ls (.ref (ad 1) :: rest)) := va_get E.hx E.hb E.ht inAX3 E.ho K0.k P 1 cw_g1 (show classes[3]? = some (RX3, TX3, 9) from rfl) 7 (by decide) (E.ht _ kFL_X3_38) (fun _ h9 => h9) rfl hdg kk
theorem gf_X3_41 (E : EX p s m args meth c cc nL RX3 ret) (K0 : KC D cyI ad s s.heap) (P : va_P D classes (cw cyI ad I A) H) (hdg : decode cc pc = .ok (.getfield 41, 3)) (kk : W p l e R s m args below meth c H locs cells slots Q (F0 m (pc + 3) ls (.int (I 4) :: rest))) : W p l e R s m args below meth c H locs cells slots Q (F0 m pc ls (.ref (ad 1) :: rest)) := va_get E.hx E.hb E.ht inAX3 E.ho K0.k P 1 cw_g1 (show classes[3]? = some (RX3, TX3, 9) from rfl) 8 (by decide) (E.ht _ kFL_X3_41) (fun _ h9 => h9) rfl hdg kk
theorem pf_X3_41 (E : EX p s m args meth c cc nL RX3 ret) (N : AdN 44 ad) (K0 : KC D cyI ad s s.heap) (P : va_P D classes (cw cyI ad I A) H) (S : va_S (InN 44 ad) s.heap H locs) {v : Int32} (hdg : decode cc pc = .ok (.putfield 41, 3)) (kk : ∀ (H1 : Heap) (locs1 : List Loc), va_P D classes (cw cyI ad (va_up I 4 v) A) H1 → va_S (InN 44 ad) s.heap H1 locs1 → W p l e R s m args below meth c H1 locs1 cells slots Q (F0 m (pc + 3) ls rest)) : W p l e R s m args below meth c H locs cells slots Q (F0 m pc ls (.int v :: .ref (ad 1) :: rest)) := va_put E.hx E.hb E.ht inAX3 tyX3 tyX3_ok nmX3 E.ho K0.k P (cw_D N I A) S 1 cw_g1 (show classes[3]? = some (RX3, TX3, 9) from rfl) 8 (by decide) (E.ht _ kFL_X3_41) (fun _ h9 => h9) rfl (show parseFieldDescriptor (TX3 8).2.2.1 = some .int by decide +kernel) rfl rfl (Nat.le_of_ble_eq_true rfl) hdg (fun H1 l1 hP _ hS => kk H1 l1 hP hS)
theorem gf_X5_9 (E : EX p s m args meth c cc nL RX5 ret) (K0 : KC D cyI ad s s.heap) (P : va_P D classes (cw cyI ad I A) H) (hdg : decode cc pc = .ok (.getfield 9, 3)) (kk : W p l e R s m args below meth c H locs cells slots Q (F0 m (pc + 3) ls (.ref (ad 2) :: rest))) : W p l e R s m args below meth c H locs cells slots Q (F0 m pc ls (.ref (ad 3) :: rest)) := va_get E.hx E.hb E.ht inAX5 E.ho K0.k P 3 cw_g3 (show classes[5]? = some (RX5, TX5, 1) from rfl) 0 (by decide) (E.ht _ kFL_X5_9) (fun _ h9 => h9) rfl hdg kk
theorem gf_X5_40 (E : EX p s m args meth c cc nL RX5 ret) (K0 : KC D cyI ad s s.heap) (P : va_P D classes (cw cyI ad I A) H) (hdg : decode cc pc = .ok (.getfield 40, 3)) (kk : W p l e R s m args below meth c H locs cells slots Q (F0 m (pc + 3) ls (.int (I 6) :: rest))) : W p l e R s m args below meth c H locs cells slots Q (F0 m pc ls (.ref (ad 2) :: rest)) := va_getN E.hx E.hb E.ht inAX1 E.ho K0.k P 2 cw_g2 (show classes[1]? = some (RX1, TX1, 11) from rfl) 7 (by decide) (va_Nw.use rfl (K0.nf _ (List.mem_of_getElem? (i := 2) rfl))) (fun _ h9 => h9) rfl hdg kk
theorem pf_X5_40 (E : EX p s m args meth c cc nL RX5 ret) (N : AdN 44 ad) (K0 : KC D cyI ad s s.heap) (P : va_P D classes (cw cyI ad I A) H) (S : va_S (InN 44 ad) s.heap H locs) {v : Int32} (hdg : decode cc pc = .ok (.putfield 40, 3)) (kk : ∀ (H1 : Heap) (locs1 : List Loc), va_P D classes (cw cyI ad (va_up I 6 v) A) H1 → va_S (InN 44 ad) s.heap H1 locs1 → W p l e R s m args below meth c H1 locs1 cells slots Q (F0 m (pc + 3) ls rest)) : W p l e R s m args below meth c H locs cells slots Q (F0 m pc ls (.int v :: .ref (ad 2) :: rest)) := va_putN E.hx E.hb E.ht inAX1 tyX1 tyX1_ok nmX1 E.ho K0.k P (cw_D N I A) S 2 cw_g2 (show classes[1]? = some (RX1, TX1, 11) from rfl) 7 (by decide) (va_Nw.use rfl (K0.nf _ (List.mem_of_getElem? (i := 2) rfl))) (fun _ h9 => h9) rfl (show parseFieldDescriptor (TX1 7).2.2.1 = some .int by decide +kernel) rfl rfl (Nat.le_of_ble_eq_true rfl) hdg (fun H1 l1 hP _ hS => kk H1 l1 hP hS)
theorem gf_X5_44 (E : EX p s m args meth c cc nL RX5 ret) (K0 : KC D cyI ad s s.heap) (P : va_P D classes (cw cyI ad I A) H) (hdg : decode cc pc = .ok (.getfield 44, 3)) (kk : W p l e R s m args below meth c H locs cells slots Q (F0 m (pc + 3) ls (.int (I 5) :: rest))) : W p l e R s m args below meth c H locs cells slots Q (F0 m pc ls (.ref (ad 2) :: rest)) := va_getN E.hx E.hb E.ht inAX1 E.ho K0.k P 2 cw_g2 (show classes[1]? = some (RX1, TX1, 11) from rfl) 6 (by decide) (va_Nw.use rfl (K0.nf _ (List.mem_of_getElem? (i := 1) rfl))) (fun _ h9 => h9) rfl hdg kk
theorem pf_X5_44 (E : EX p s m args meth c cc nL RX5 ret) (N : AdN 44 ad) (K0 : KC D cyI ad s s.heap) (P : va_P D classes (cw cyI ad I A) H) (S : va_S (InN 44 ad) s.heap H locs) {v : Int32} (hdg : decode cc pc = .ok (.putfield 44, 3)) (kk : ∀ (H1 : Heap) (locs1 : List Loc), va_P D classes (cw cyI ad (va_up I 5 v) A) H1 → va_S (InN 44 ad) s.heap H1 locs1 → W p l e R s m args below meth c H1 locs1 cells slots Q (F0 m (pc + 3) ls rest)) : W p l e R s m args below meth c H locs cells slots Q (F0 m pc ls (.int v :: .ref (ad 2) :: rest)) := va_putN E.hx E.hb E.ht inAX1 tyX1 tyX1_ok nmX1 E.ho K0.k P (cw_D N I A) S 2 cw_g2 (show classes[1]? = some (RX1, TX1, 11) from rfl) 6 (by decide) (va_Nw.use rfl (K0.nf _ (List.mem_of_getElem? (i := 1) rfl))) (fun _ h9 => h9) rfl (show parseFieldDescriptor (TX1 6).2.2.1 = some .int by decide +kernel) rfl rfl (Nat.le_of_ble_eq_true rfl) hdg (fun H1 l1 hP _ hS => kk H1 l1 hP hS)
theorem gf_X6_12 (E : EX p s m args meth c cc nL RX6 ret) (K0 : KC D cyI ad s s.heap) (P : va_P D classes (cw cyI ad I A) H) (hdg : decode cc pc = .ok (.getfield 12, 3)) (kk : W p l e R s m args below meth c H locs cells slots Q (F0 m (pc + 3) ls (.ref (ad 1) :: rest))) : W p l e R s m args below meth c H locs cells slots Q (F0 m pc ls (.ref (ad 0) :: rest)) := va_get E.hx E.hb E.ht inAX6 E.ho K0.k P 0 cw_g0 (show classes[6]? = some (RX6, TX6, 9) from rfl) 0 (by decide) (E.ht _ kFL_X6_12) (fun _ h9 => h9) rfl hdg kk
theorem gf_X6_21 (E : EX p s m args meth c cc nL RX6 ret) (K0 : KC D cyI ad s s.heap) (P : va_P D classes (cw cyI ad I A) H) (hdg : decode cc pc = .ok (.getfield 21, 3)) (kk : W p l e R s m args below meth c H locs cells slots Q (F0 m (pc + 3) ls (.ref (ad 2) :: rest))) : W p l e R s m args below meth c H locs cells slots Q (F0 m pc ls (.ref (ad 0) :: rest)) := va_get E.hx E.hb E.ht inAX6 E.ho K0.k P 0 cw_g0 (show classes[6]? = some (RX6, TX6, 9) from rfl) 1 (by decide) (E.ht _ kFL_X6_21) (fun _ h9 => h9) rfl hdg kk
theorem gf_X6_30 (E : EX p s m args meth c cc nL RX6 ret) (K0 : KC D cyI ad s s.heap) (P : va_P D classes (cw cyI ad I A) H) (hdg : decode cc pc = .ok (.getfield 30, 3)) (kk : W p l e R s m args below meth c H locs cells slots Q (F0 m (pc + 3) ls (.ref (ad 3) :: rest))) : W p l e R s m args below meth c H locs cells slots Q (F0 m pc ls (.ref (ad 0) :: rest)) := va_get E.hx E.hb E.ht inAX6 E.ho K0.k P 0 cw_g0 (show classes[6]? = some (RX6, TX6, 9) from rfl) 2 (by decide) (E.ht _ kFL_X6_30) (fun _ h9 => h9) rfl hdg kk
theorem gf_X6_37 (E : EX p s m args meth c cc nL RX6 ret) (K0 : KC D cyI ad s s.heap) (P : va_P D classes (cw cyI ad I A) H) (hdg : decode cc pc = .ok (.getfield 37, 3)) (kk : W p l e R s m args below meth c H locs cells slots Q (F0 m (pc + 3) ls (.ref (ad 4) :: rest))) : W p l e R s m args below meth c H locs cells slots Q (F0 m pc ls (.ref (ad 0) :: rest)) := va_get E.hx E.hb E.ht inAX6 E.ho K0.k P 0 cw_g0 (show classes[6]? = some (RX6, TX6, 9) from rfl) 3 (by decide) (E.ht _ kFL_X6_37) (fun _ h9 => h9) rfl hdg kk
theorem gf_X6_44 (E : EX p s m args meth c cc nL RX6 ret) (K0 : KC D cyI ad s s.heap) (P : va_P D classes (cw cyI ad I A) H) (hdg : decode cc pc = .ok (.getfield 44, 3)) (kk : W p l e R s m args below meth c H locs cells slots Q (F0 m (pc + 3) ls (.ref (ad 5) :: rest))) : W p l e R s m args below meth c H locs cells slots Q (F0 m pc ls (.ref (ad 0) :: rest)) := va_get E.hx E.hb E.ht inAX6 E.ho K0.k P 0 cw_g0 (show classes[6]? = some (RX6, TX6, 9) from rfl) 4 (by decide) (E.ht _ kFL_X6_44) (fun _ h9 => h9) rfl hdg kk
theorem gf_X6_48 (E : EX p s m args meth c cc nL RX6 ret) (K0 : KC D cyI ad s s.heap) (P : va_P D classes (cw cyI ad I A) H) (hdg : decode cc pc = .ok (.getfield 48, 3)) (kk : W p l e R s m args below meth c H locs cells slots Q (F0 m (pc + 3) ls (.int (I 0) :: rest))) : W p l e R s m args below meth c H locs cells slots Q (F0 m pc ls (.ref (ad 0) :: rest)) := va_get E.hx E.hb E.ht inAX6 E.ho K0.k P 0 cw_g0 (show classes[6]? = some (RX6, TX6, 9) from rfl) 5 (by decide) (E.ht _ kFL_X6_48) (fun _ h9 => h9) rfl hdg kk
theorem pf_X6_48 (E : EX p s m args meth c cc nL RX6 ret) (N : AdN 44 ad) (K0 : KC D cyI ad s s.heap) (P : va_P D classes (cw cyI ad I A) H) (S : va_S (InN 44 ad) s.heap H locs) {v : Int32} (hdg : decode cc pc = .ok (.putfield 48, 3)) (kk : ∀ (H1 : Heap) (locs1 : List Loc), va_P D classes (cw cyI ad (va_up I 0 v) A) H1 → va_S (InN 44 ad) s.heap H1 locs1 → W p l e R s m args below meth c H1 locs1 cells slots Q (F0 m (pc + 3) ls rest)) : W p l e R s m args below meth c H locs cells slots Q (F0 m pc ls (.int v :: .ref (ad 0) :: rest)) := va_put E.hx E.hb E.ht inAX6 tyX6 tyX6_ok nmX6 E.ho K0.k P (cw_D N I A) S 0 cw_g0 (show classes[6]? = some (RX6, TX6, 9) from rfl) 5 (by decide) (E.ht _ kFL_X6_48) (fun _ h9 => h9) rfl (show parseFieldDescriptor (TX6 5).2.2.1 = some .int by decide +kernel) rfl rfl (Nat.le_of_ble_eq_true rfl) hdg (fun H1 l1 hP _ hS => kk H1 l1 hP hS)
theorem gf_X6_114 (E : EX p s m args meth c cc nL RX6 ret) (K0 : KC D cyI ad s s.heap) (P : va_P D classes (cw cyI ad I A) H) (hdg : decode cc pc = .ok (.getfield 114, 3)) (kk : W p l e R s m args below meth c H locs cells slots Q (F0 m (pc + 3) ls (.int (I 4) :: rest))) : W p l e R s m args below meth c H locs cells slots Q (F0 m pc ls (.ref (ad 1) :: rest)) := va_getN E.hx E.hb E.ht inAX3 E.ho K0.k P 1 cw_g1 (show classes[3]? = some (RX3, TX3, 9) from rfl) 8 (by decide) (va_Nw.use rfl (K0.nf _ (List.mem_of_getElem? (i := 0) rfl))) (fun _ h9 => h9) rfl hdg kk
theorem pf_X6_114 (E : EX p s m args meth c cc nL RX6 ret) (N : AdN 44 ad) (K0 : KC D cyI ad s s.heap) (P : va_P D classes (cw cyI ad I A) H) (S : va_S (InN 44 ad) s.heap H locs) {v : Int32} (hdg : decode cc pc = .ok (.putfield 114, 3)) (kk : ∀ (H1 : Heap) (locs1 : List Loc), va_P D classes (cw cyI ad (va_up I 4 v) A) H1 → va_S (InN 44 ad) s.heap H1 locs1 → W p l e R s m args below meth c H1 locs1 cells slots Q (F0 m (pc + 3) ls rest)) : W p l e R s m args below meth c H locs cells slots Q (F0 m pc ls (.int v :: .ref (ad 1) :: rest)) := va_putN E.hx E.hb E.ht inAX3 tyX3 tyX3_ok nmX3 E.ho K0.k P (cw_D N I A) S 1 cw_g1 (show classes[3]? = some (RX3, TX3, 9) from rfl) 8 (by decide) (va_Nw.use rfl (K0.nf _ (List.mem_of_getElem? (i := 0) rfl))) (fun _ h9 => h9) rfl (show parseFieldDescriptor (TX3 8).2.2.1 = some .int by decide +kernel) rfl rfl (Nat.le_of_ble_eq_true rfl) hdg (fun H1 l1 hP _ hS => kk H1 l1 hP hS)
theorem gf_X6_140 (E : EX p s m args meth c cc nL RX6 ret) (K0 : KC D cyI ad s s.heap) (P : va_P D classes (cw cyI ad I A) H) (hdg : decode cc pc = .ok (.getfield 140, 3)) (kk : W p l e R s m args below meth c H locs cells slots Q (F0 m (pc + 3) ls (.int (I 1) :: rest))) : W p l e R s m args below meth c H locs cells slots Q (F0 m pc ls (.ref (ad 0) :: rest)) := va_get E.hx E.hb E.ht inAX6 E.ho K0.k P 0 cw_g0 (show classes[6]? = some (RX6, TX6, 9) from rfl) 6 (by decide) (E.ht _ kFL_X6_140) (fun _ h9 => h9) rfl hdg kk
theorem pf_X6_140 (E : EX p s m args meth c cc nL RX6 ret) (N : AdN 44 ad) (K0 : KC D cyI ad s s.heap) (P : va_P D classes (cw cyI ad I A) H) (S : va_S (InN 44 ad) s.heap H locs) {v : Int32} (hdg : decode cc pc = .ok (.putfield 140, 3)) (kk : ∀ (H1 : Heap) (locs1 : List Loc), va_P D classes (cw cyI ad (va_up I 1 v) A) H1 → va_S (InN 44 ad) s.heap H1 locs1 → W p l e R s m args below meth c H1 locs1 cells slots Q (F0 m (pc + 3) ls rest)) : W p l e R s m args below meth c H locs cells slots Q (F0 m pc ls (.int v :: .ref (ad 0) :: rest)) := va_put E.hx E.hb E.ht inAX6 tyX6 tyX6_ok nmX6 E.ho K0.k P (cw_D N I A) S 0 cw_g0 (show classes[6]? = some (RX6, TX6, 9) from rfl) 6 (by decide) (E.ht _ kFL_X6_140) (fun _ h9 => h9) rfl (show parseFieldDescriptor (TX6 6).2.2.1 = some .int by decide +kernel) rfl rfl (Nat.le_of_ble_eq_true rfl) hdg (fun H1 l1 hP _ hS => kk H1 l1 hP hS)
theorem gf_X6_145 (E : EX p s m args meth c cc nL RX6 ret) (K0 : KC D cyI ad s s.heap) (P : va_P D classes (cw cyI ad I A) H) (hdg : decode cc pc = .ok (.getfield 145, 3)) (kk : W p l e R s m args below meth c H locs cells slots Q (F0 m (pc + 3) ls (.int (I 10) :: rest))) : W p l e R s m args below meth c H locs cells slots Q (F0 m pc ls (.ref (ad 4) :: rest)) := va_getN E.hx E.hb E.ht inAX0 E.ho K0.k P 4 cw_g4 (show classes[0]? = some (RX0, TX0, 5) from rfl) 4 (by decide) (va_Nw.use rfl (K0.nf _ (List.mem_of_getElem? (i := 4) rfl))) (fun _ h9 => h9) rfl hdg kk
theorem pf_X6_145 (E : EX p s m args meth c cc nL RX6 ret) (N : AdN 44 ad) (K0 : KC D cyI ad s s.heap) (P : va_P D classes (cw cyI ad I A) H) (S : va_S (InN 44 ad) s.heap H locs) {v : Int32} (hdg : decode cc pc = .ok (.putfield 145, 3)) (kk : ∀ (H1 : Heap) (locs1 : List Loc), va_P D classes (cw cyI ad (va_up I 10 v) A) H1 → va_S (InN 44 ad) s.heap H1 locs1 → W p l e R s m args below meth c H1 locs1 cells slots Q (F0 m (pc + 3) ls rest)) : W p l e R s m args below meth c H locs cells slots Q (F0 m pc ls (.int v :: .ref (ad 4) :: rest)) := va_putN E.hx E.hb E.ht inAX0 tyX0 tyX0_ok nmX0 E.ho K0.k P (cw_D N I A) S 4 cw_g4 (show classes[0]? = some (RX0, TX0, 5) from rfl) 4 (by decide) (va_Nw.use rfl (K0.nf _ (List.mem_of_getElem? (i := 4) rfl))) (fun _ h9 => h9) rfl (show parseFieldDescriptor (TX0 4).2.2.1 = some .int by decide +kernel) rfl rfl (Nat.le_of_ble_eq_true rfl) hdg (fun H1 l1 hP _ hS => kk H1 l1 hP hS)
theorem gf_X6_155 (E : EX p s m args meth c cc nL RX6 ret) (K0 : KC D cyI ad s s.heap) (P : va_P D classes (cw cyI ad I A) H) (hdg : decode cc pc = .ok (.getfield 155, 3)) (kk : W p l e R s m args below meth c H locs cells slots Q (F0 m (pc + 3) ls (.int (I 3) :: rest))) : W p l e R s m args below meth c H locs cells slots Q (F0 m pc ls (.ref (ad 0) :: rest)) := va_get E.hx E.hb E.ht inAX6 E.ho K0.k P 0 cw_g0 (show classes[6]? = some (RX6, TX6, 9) from rfl) 8 (by decide) (E.ht _ kFL_X6_155) (fun _ h9 => h9) rfl hdg kk
theorem pf_X6_155 (E : EX p s m args meth c cc nL RX6 ret) (N : AdN 44 ad) (K0 : KC D cyI ad s s.heap) (P : va_P D classes (cw cyI ad I A) H) (S : va_S (InN 44 ad) s.heap H locs) {v : Int32} (hdg : decode cc pc = .ok (.putfield 155, 3)) (kk : ∀ (H1 : Heap) (locs1 : List Loc), va_P D classes (cw cyI ad (va_up I 3 v) A) H1 → va_S (InN 44 ad) s.heap H1 locs1 → W p l e R s m args below meth c H1 locs1 cells slots Q (F0 m (pc + 3) ls rest)) : W p l e R s m args below meth c H locs cells slots Q (F0 m pc ls (.int v :: .ref (ad 0) :: rest)) := va_put E.hx E.hb E.ht inAX6 tyX6 tyX6_ok nmX6 E.ho K0.k P (cw_D N I A) S 0 cw_g0 (show classes[6]? = some (RX6, TX6, 9) from rfl) 8 (by decide) (E.ht _ kFL_X6_155) (fun _ h9 => h9) rfl (show parseFieldDescriptor (TX6 8).2.2.1 = some .int by decide +kernel) rfl rfl (Nat.le_of_ble_eq_true rfl) hdg (fun H1 l1 hP _ hS => kk H1 l1 hP hS)
theorem gf_X6_169 (E : EX p s m args meth c cc nL RX6 ret) (K0 : KC D cyI ad s s.heap) (P : va_P D classes (cw cyI ad I A) H) (hdg : decode cc pc = .ok (.getfield 169, 3)) (kk : W p l e R s m args below meth c H locs cells slots Q (F0 m (pc + 3) ls (.int (I 11) :: rest))) : W p l e R s m args below meth c H locs cells slots Q (F0 m pc ls (.ref (ad 5) :: rest)) := va_getN E.hx E.hb E.ht inAX2 E.ho K0.k P 5 cw_g5 (show classes[2]? = some (RX2, TX2, 3) from rfl) 2 (by decide) (va_Nw.use rfl (K0.nf _ (List.mem_of_getElem? (i := 5) rfl))) (fun _ h9 => h9) rfl hdg kk
theorem pf_X6_169 (E : EX p s m args meth c cc nL RX6 ret) (N : AdN 44 ad) (K0 : KC D cyI ad s s.heap) (P : va_P D classes (cw cyI ad I A) H) (S : va_S (InN 44 ad) s.heap H locs) {v : Int32} (hdg : decode cc pc = .ok (.putfield 169, 3)) (kk : ∀ (H1 : Heap) (locs1 : List Loc), va_P D classes (cw cyI ad (va_up I 11 v) A) H1 → va_S (InN 44 ad) s.heap H1 locs1 → W p l e R s m args below meth c H1 locs1 cells slots Q (F0 m (pc + 3) ls rest)) : W p l e R s m args below meth c H locs cells slots Q (F0 m pc ls (.int v :: .ref (ad 5) :: rest)) := va_putN E.hx E.hb E.ht inAX2 tyX2 tyX2_ok nmX2 E.ho K0.k P (cw_D N I A) S 5 cw_g5 (show classes[2]? = some (RX2, TX2, 3) from rfl) 2 (by decide) (va_Nw.use rfl (K0.nf _ (List.mem_of_getElem? (i := 5) rfl))) (fun _ h9 => h9) rfl (show parseFieldDescriptor (TX2 2).2.2.1 = some .int by decide +kernel) rfl rfl (Nat.le_of_ble_eq_true rfl) hdg (fun H1 l1 hP _ hS => kk H1 l1 hP hS)
theorem gf_X6_190 (E : EX p s m args meth c cc nL RX6 ret) (K0 : KC D cyI ad s s.heap) (P : va_P D classes (cw cyI ad I A) H) (hdg : decode cc pc = .ok (.getfield 190, 3)) (kk : W p l e R s m args below meth c H locs cells slots Q (F0 m (pc + 3) ls (.int (I 9) :: rest))) : W p l e R s m args below meth c H locs cells slots Q (F0 m pc ls (.ref (ad 2) :: rest)) := va_getN E.hx E.hb E.ht inAX1 E.ho K0.k P 2 cw_g2 (show classes[1]? = some (RX1, TX1, 11) from rfl) 10 (by decide) (va_Nw.use rfl (K0.nf _ (List.mem_of_getElem? (i := 3) rfl))) (fun _ h9 => h9) rfl hdg kk
theorem pf_X6_190 (E : EX p s m args meth c cc nL RX6 ret) (N : AdN 44 ad) (K0 : KC D cyI ad s s.heap) (P : va_P D classes (cw cyI ad I A) H) (S : va_S (InN 44 ad) s.heap H locs) {v : Int32} (hdg : decode cc pc = .ok (.putfield 190, 3)) (kk : ∀ (H1 : Heap) (locs1 : List Loc), va_P D classes (cw cyI ad (va_up I 9 v) A) H1 → va_S (InN 44 ad) s.heap H1 locs1 → W p l e R s m args below meth c H1 locs1 cells slots Q (F0 m (pc + 3) ls rest)) : W p l e R s m args below meth c H locs cells slots Q (F0 m pc ls (.int v :: .ref (ad 2) :: rest)) := va_putN E.hx E.hb E.ht inAX1 tyX1 tyX1_ok nmX1 E.ho K0.k P (cw_D N I A) S 2 cw_g2 (show classes[1]? = some (RX1, TX1, 11) from rfl) 10 (by decide) (va_Nw.use rfl (K0.nf _ (List.mem_of_getElem? (i := 3) rfl))) (fun _ h9 => h9) rfl (show parseFieldDescriptor (TX1 10).2.2.1 = some .int by decide +kernel) rfl rfl (Nat.le_of_ble_eq_true rfl) hdg (fun H1 l1 hP _ hS => kk H1 l1 hP hS)
theorem gf_X6_196 (E : EX p s m args meth c cc nL RX6 ret) (K0 : KC D cyI ad s s.heap) (P : va_P D classes (cw cyI ad I A) H) (hdg : decode cc pc = .ok (.getfield 196, 3)) (kk : W p l e R s m args below meth c H locs cells slots Q (F0 m (pc + 3) ls (.int (I 2) :: rest))) : W p l e R s m args below meth c H locs cells slots Q (F0 m pc ls (.ref (ad 0) :: rest)) := va_get E.hx E.hb E.ht inAX6 E.ho K0.k P 0 cw_g0 (show classes[6]? = some (RX6, TX6, 9) from rfl) 7 (by decide) (E.ht _ kFL_X6_196) (fun _ h9 => h9) rfl hdg kk
theorem pf_X6_196 (E : EX p s m args meth c cc nL RX6 ret) (N : AdN 44 ad) (K0 : KC D cyI ad s s.heap) (P : va_P D classes (cw cyI ad I A) H) (S : va_S (InN 44 ad) s.heap H locs) {v : Int32} (hdg : decode cc pc = .ok (.putfield 196, 3)) (kk : ∀ (H1 : Heap) (locs1 : List Loc), va_P D classes (cw cyI ad (va_up I 2 v) A) H1 → va_S (InN 44 ad) s.heap H1 locs1 → W p l e R s m args below meth c H1 locs1 cells slots Q (F0 m (pc + 3) ls rest)) : W p l e R s m args below meth c H locs cells slots Q (F0 m pc ls (.int v :: .ref (ad 0) :: rest)) := va_put E.hx E.hb E.ht inAX6 tyX6 tyX6_ok nmX6 E.ho K0.k P (cw_D N I A) S 0 cw_g0 (show classes[6]? = some (RX6, TX6, 9) from rfl) 7 (by decide) (E.ht _ kFL_X6_196) (fun _ h9 => h9) rfl (show parseFieldDescriptor (TX6 7).2.2.1 = some .int by decide +kernel) rfl rfl (Nat.le_of_ble_eq_true rfl) hdg (fun H1 l1 hP _ hS => kk H1 l1 hP hS)
end
end WORLD
end
section
section ROW
variable {p : Program} {l : Launch} {e : Env} {R : Room} {s : State} {m : MethodId} {args : Array Value} {below : List Frame} {meth : Method} {c : Code} {H : Heap} {locs : List Loc} {cells slots : Nat} {Q : State → Prop} {cc : ByteArray} {nL pc : Nat} {ret : Option FieldType} {own : String} {ls : Array Slot} {rest : List Value} {D : va_G} {cyI : ClassId} {ad : Nat → Nat} {ws : va_W} {a b n : Nat} {f : Nat → Int32}
theorem gf_row (E : EX p s m args meth c cc nL RX4 ret) (K : va_K D classes [(cyI, .int)] s) (P : va_P D classes ws H) (q0 : Nat) (he : ws[q0]? = some (b, .inr (4, [.ref a]))) (hdg : decode cc pc = .ok (.getfield 7, 3))
    (kk : W p l e R s m args below meth c H locs cells slots Q (F0 m (pc + 3) ls (.ref a :: rest))) : W p l e R s m args below meth c H locs cells slots Q (F0 m pc ls (.ref b :: rest)) :=
  va_get E.hx E.hb E.ht inAX4 E.ho K P q0 he (show classes[4]? = some (RX4, TX4, 1) from rfl) 0 (by decide) (E.ht _ kFL_X4_7) (fun _ h9 => h9) rfl hdg kk
theorem rAt_in {i : Int32} (h0 : ¬ i < 0) (h1 : ¬ Int32.ofNat n ≤ i) (hn : n < 2 ^ 31) : vp_in i n := by
  intro q
  rcases q with q | q
  · exact h0 q
  · obtain ⟨j, hj, rfl⟩ := nI_of h0
    rw [nI_clamp hj] at q
    exact h1 ((nI_leI hn hj).mpr q)
theorem c_X4_at (l : Launch) {KX : Ctx} (hKX : ∀ U H, KX U H → va_K D classes [(cyI, .int)] U) (P : va_P D classes ws H) (q0 q1 : Nat) (he : ws[q0]? = some (b, .inr (4, [.ref a]))) (ha : ws[q1]? = some (a, .inl (cyI, n, .inl f))) (hn : n < 2 ^ 31) (i : Int32) :
    MRO l yX4_at cX4_at 2 (some .int) 0 [.ref b, .int i] H KX (rAt n f i) := by
  refine Mof (own := RX4) (by decide +kernel) rfl rfl ?_
  intro p e s m args below meth c ls E hH K0 hl
  subst hH
  have K := hKX _ _ K0
  have hl : lv_has ls 2 [(0, .ref b), (1, .int i)] := hl
  obtain ⟨v, hv⟩ : ∃ v, rAt n f i = v := ⟨_, rfl⟩
  rw [hv]
  unfold rAt at hv
  refine lv_iload_n E.hx E.hb dX4_at_0 rfl (lv_at hl 1 rfl) ?_
  refine lv_if_lt (tgt := 22) E.hx E.hb dX4_at_1 (by decide) (fun c_1 => ?_) (fun c_1 => ?_)
  · rw [if_pos c_1] at hv
    refine lv_iconst (v := 0) E.hx E.hb dX4_at_22 (by decide) ?_
    exact W.iret E.hx E.hb E.hr (fun t ht _ => ⟨_, rfl, hv, ht⟩) (fun q hq => nomatch hq) dX4_at_23 E.hk
  · rw [if_neg c_1] at hv
    refine lv_iload_n E.hx E.hb dX4_at_4 rfl (lv_at hl 1 rfl) ?_
    refine lv_aload_n E.hx E.hb dX4_at_5 rfl (lv_at hl 0 rfl) ?_
    refine gf_row E K P q0 he dX4_at_6 ?_
    refine va_alen E.hx E.hb K P q1 0 ha rfl rfl dX4_at_9 ?_
    refine lv_icmp_ge (tgt := 22) E.hx E.hb dX4_at_10 (by decide) (fun c_2 => ?_) (fun c_2 => ?_)
    · rw [if_pos c_2] at hv
      refine lv_iconst (v := 0) E.hx E.hb dX4_at_22 (by decide) ?_
      exact W.iret E.hx E.hb E.hr (fun t ht _ => ⟨_, rfl, hv, ht⟩) (fun q hq => nomatch hq) dX4_at_23 E.hk
    · rw [if_neg c_2] at hv
      refine lv_aload_n E.hx E.hb dX4_at_13 rfl (lv_at hl 0 rfl) ?_
      refine gf_row E K P q0 he dX4_at_14 ?_
      refine lv_iload_n E.hx E.hb dX4_at_17 rfl (lv_at hl 1 rfl) ?_
      refine va_iald E.hx E.hb K P q1 0 ha rfl (rAt_in c_1 c_2 hn) dX4_at_18 ?_
      refine lv_goto (tgt := 23) E.hx E.hb dX4_at_19 (by decide) ?_
      exact W.iret E.hx E.hb E.hr (fun t ht _ => ⟨_, rfl, hv, ht⟩) (fun q hq => nomatch hq) dX4_at_23 E.hk
theorem c_X4_put (l : Launch) {KX : Ctx} (hKX : ∀ U H, KX U H → va_K D classes [(cyI, .int)] U) {A : Nat → Prop} (P : va_P D classes ws H) (hD : va_D A ws) (q0 q1 : Nat) (he : ws[q0]? = some (b, .inr (4, [.ref a]))) (ha : ws[q1]? = some (a, .inl (cyI, n, .inl f))) (hn : n < 2 ^ 31) (i x : Int32) :
    MRW l yX4_put cX4_put 3 none 0 [.ref b, .int i, .int x] H KX A none (fun H1 => va_P D classes (ws.set q1 (a, .inl (cyI, n, .inl (rPut n f i x)))) H1) := by
  refine Mof (own := RX4) (by decide +kernel) rfl rfl ?_
  intro p e s m args below meth c ls E hH K0 hl
  subst hH
  have K := hKX _ _ K0
  have hl : lv_has ls 3 [(0, .ref b), (1, .int i), (2, .int x)] := hl
  have S : va_S A s.heap s.heap [] := va_S.rf
  have hset : ws.set q1 (a, .inl (cyI, n, .inl f)) = ws := by
    apply List.ext_getElem?
    intro k
    rw [List.getElem?_set]
    by_cases hk : q1 = k
    · subst hk
      rw [if_pos rfl, ha]
      by_cases hlt : q1 < ws.length
      · rw [if_pos hlt]
      · rw [List.getElem?_eq_none (Nat.not_lt.mp hlt)] at ha; cases ha
    · rw [if_neg hk]
  obtain ⟨v, hv⟩ : ∃ v, rPut n f i x = v := ⟨_, rfl⟩
  rw [hv]
  unfold rPut at hv
  refine lv_iload_n E.hx E.hb dX4_put_0 rfl (lv_at hl 1 rfl) ?_
  refine lv_if_lt (tgt := 20) E.hx E.hb dX4_put_1 (by decide) (fun c_1 => ?_) (fun c_1 => ?_)
  · rw [if_pos c_1] at hv
    exact W.vret E.hx E.hb E.hr (fun t ht _ => ⟨rfl, by rw [ht, ← hv, hset]; exact P, S.F ht⟩) S.2.2 dX4_put_20 E.hk
  · rw [if_neg c_1] at hv
    refine lv_iload_n E.hx E.hb dX4_put_4 rfl (lv_at hl 1 rfl) ?_
    refine lv_aload_n E.hx E.hb dX4_put_5 rfl (lv_at hl 0 rfl) ?_
    refine gf_row E K P q0 he dX4_put_6 ?_
    refine va_alen E.hx E.hb K P q1 0 ha rfl rfl dX4_put_9 ?_
    refine lv_icmp_ge (tgt := 20) E.hx E.hb dX4_put_10 (by decide) (fun c_2 => ?_) (fun c_2 => ?_)
    · rw [if_pos c_2] at hv
      exact W.vret E.hx E.hb E.hr (fun t ht _ => ⟨rfl, by rw [ht, ← hv, hset]; exact P, S.F ht⟩) S.2.2 dX4_put_20 E.hk
    · rw [if_neg c_2] at hv
      refine lv_aload_n E.hx E.hb dX4_put_13 rfl (lv_at hl 0 rfl) ?_
      refine gf_row E K P q0 he dX4_put_14 ?_
      refine lv_iload_n E.hx E.hb dX4_put_17 rfl (lv_at hl 1 rfl) ?_
      refine lv_iload_n E.hx E.hb dX4_put_18 rfl (lv_at hl 2 rfl) ?_
      refine va_iast E.hx E.hb K P hD S q1 0 ha rfl (rAt_in c_1 c_2 hn) dX4_put_19 (fun H locs P hD S => ?_)
      rw [hv] at P
      exact W.vret E.hx E.hb E.hr (fun t ht _ => ⟨rfl, by rw [ht]; exact P, S.F ht⟩) S.2.2 dX4_put_20 E.hk
theorem rFill_0 (v : Int32) : (fun j => if j < 0 then v else f j) = f := funext fun j => if_neg (Nat.not_lt_zero j)
theorem rFill_s (v : Int32) (k : Nat) : upd (fun j => if j < k then v else f j) k v = (fun j => if j < k + 1 then v else f j) := by
  funext j
  unfold upd
  by_cases h : j = k
  · subst h; rw [if_pos rfl, if_pos (Nat.lt_succ_self _)]
  · rw [if_neg h]
    show (if j < k then v else f j) = (if j < k + 1 then v else f j)
    by_cases h2 : j < k
    · rw [if_pos h2, if_pos (by omega)]
    · rw [if_neg h2, if_neg (by omega)]
theorem set_set {α : Type} (l : List α) (k : Nat) (x y : α) : (l.set k x).set k y = l.set k y := by
  apply List.ext_getElem?
  intro j
  simp only [List.getElem?_set, List.length_set]
  by_cases h : k = j
  · simp [h]
  · simp [h]
theorem c_X4_fill (l : Launch) {KX : Ctx} (hKX : ∀ U H, KX U H → va_K D classes [(cyI, .int)] U) {A : Nat → Prop} (P : va_P D classes ws H) (hD : va_D A ws) (q0 q1 : Nat) (he : ws[q0]? = some (b, .inr (4, [.ref a]))) (hq : q0 ≠ q1) (ha : ws[q1]? = some (a, .inl (cyI, n, .inl f))) (hn : n < 2 ^ 31) (x : Int32) :
    MRW l yX4_fill cX4_fill 3 none 0 [.ref b, .int x] H KX A none (fun H1 => va_P D classes (ws.set q1 (a, .inl (cyI, n, .inl (rFill n f x)))) H1) := by
  refine Mof (own := RX4) (by decide +kernel) rfl rfl ?_
  intro p e s m args below meth c ls E hH K0 hl
  subst hH
  have K := hKX _ _ K0
  have hl : lv_has ls 3 [(0, .ref b), (1, .int x)] := hl
  have S : va_S A s.heap s.heap [] := va_S.rf
  have hq1 : q1 < ws.length := by
    by_cases hlt : q1 < ws.length
    · exact hlt
    · rw [List.getElem?_eq_none (Nat.not_lt.mp hlt)] at ha; cases ha
  have he' : ∀ g : Nat → Int32, (ws.set q1 (a, .inl (cyI, n, .inl g)))[q0]? = some (b, .inr (4, [.ref a])) := fun g => by rw [List.getElem?_set, if_neg (fun h => hq h.symm)]; exact he
  have ha' : ∀ g : Nat → Int32, (ws.set q1 (a, .inl (cyI, n, .inl g)))[q1]? = some (a, .inl (cyI, n, .inl g)) := fun g => by rw [List.getElem?_set, if_pos rfl, if_pos hq1]
  have hset : ws.set q1 (a, .inl (cyI, n, .inl f)) = ws := by
    apply List.ext_getElem?
    intro k
    rw [List.getElem?_set]
    by_cases hk : q1 = k
    · subst hk
      rw [if_pos rfl, ha, if_pos hq1]
    · rw [if_neg hk]
  have loop : ∀ (d k : Nat), k ≤ n → n - k ≤ d → ∀ (H : Heap) (locs : List Loc) (ls : Array Slot), va_P D classes (ws.set q1 (a, .inl (cyI, n, .inl (fun j => if j < k then x else f j)))) H → va_S A s.heap H locs → lv_has ls 3 [(0, .ref b), (1, .int x), (2, .int (nI k))] →
      W p l e (rmL 0) s m args below meth c H locs 0 0 (MQ below (Qrw A none (fun H1 => va_P D classes (ws.set q1 (a, .inl (cyI, n, .inl (rFill n f x)))) H1)) args s 0 0 A) (F0 m 2 ls []) := by
    intro d
    induction d with
    | zero =>
      intro k hk hd H locs ls P S hl
      have hkn : k = n := by omega
      subst hkn
      refine lv_iload_n E.hx E.hb dX4_fill_2 rfl (lv_at hl 2 rfl) ?_
      refine lv_aload_n E.hx E.hb dX4_fill_3 rfl (lv_at hl 0 rfl) ?_
      refine gf_row E K P q0 (he' _) dX4_fill_4 ?_
      refine va_alen E.hx E.hb K P q1 0 (ha' _) rfl rfl dX4_fill_7 ?_
      refine lv_icmp_ge (tgt := 24) E.hx E.hb dX4_fill_8 (by decide) (fun c_2 => ?_) (fun c_2 => ?_)
      · exact W.vret E.hx E.hb E.hr (fun t ht _ => ⟨rfl, by rw [ht]; exact P, S.F ht⟩) S.2.2 dX4_fill_24 E.hk
      · exact absurd (nI_le (Nat.le_refl _) hn) c_2
    | succ d ih =>
      intro k hk hd H locs ls P S hl
      refine lv_iload_n E.hx E.hb dX4_fill_2 rfl (lv_at hl 2 rfl) ?_
      refine lv_aload_n E.hx E.hb dX4_fill_3 rfl (lv_at hl 0 rfl) ?_
      refine gf_row E K P q0 (he' _) dX4_fill_4 ?_
      refine va_alen E.hx E.hb K P q1 0 (ha' _) rfl rfl dX4_fill_7 ?_
      refine lv_icmp_ge (tgt := 24) E.hx E.hb dX4_fill_8 (by decide) (fun c_2 => ?_) (fun c_2 => ?_)
      · have hkn : k = n := by
          rcases Nat.lt_or_ge k n with q | q
          · exact absurd c_2 (nI_ge q hn)
          · omega
        subst hkn
        exact W.vret E.hx E.hb E.hr (fun t ht _ => ⟨rfl, by rw [ht]; exact P, S.F ht⟩) S.2.2 dX4_fill_24 E.hk
      · have hlt : k < n := by
          rcases Nat.lt_or_ge k n with q | q
          · exact q
          · exact absurd (nI_le q (by omega)) c_2
        refine lv_aload_n E.hx E.hb dX4_fill_11 rfl (lv_at hl 0 rfl) ?_
        refine gf_row E K P q0 (he' _) dX4_fill_12 ?_
        refine lv_iload_n E.hx E.hb dX4_fill_15 rfl (lv_at hl 2 rfl) ?_
        refine lv_iload_n E.hx E.hb dX4_fill_16 rfl (lv_at hl 1 rfl) ?_
        refine va_iast E.hx E.hb K P (hD.set ha) S q1 0 (ha' _) rfl (vp_in_nI hlt hn) dX4_fill_17 (fun H locs P hD S => ?_)
        refine lv_iinc (v := nI k + 1) (lv' := [(2, .int (nI k + 1)), (0, .ref b), (1, .int x)]) E.hx E.hb dX4_fill_18 hl (k := 2) rfl rfl (by decide) rfl (fun ls hl => ?_)
        refine lv_goto (tgt := 2) E.hx E.hb dX4_fill_21 (by decide) ?_
        rw [nI_1] at hl
        rw [set_set, nI_clamp (by omega), rFill_s] at P
        exact ih (k + 1) (by omega) (by omega) H locs ls P S (lv_sub hl [1, 2, 0] rfl)
  refine lv_iconst (v := 0) E.hx E.hb dX4_fill_0 (by decide) ?_
  refine lv_istore_n (lv' := [(2, .int 0), (0, .ref b), (1, .int x)]) E.hx E.hb dX4_fill_1 rfl hl (by decide) rfl (fun ls hl => ?_)
  exact loop n 0 (Nat.zero_le _) (by omega) s.heap [] ls (by rw [rFill_0, hset]; exact P) S (lv_sub hl [1, 2, 0] rfl)
end ROW
-- EXTRAS
section ROWX
theorem cw_r0 {cyI : ClassId} {ad : Nat → Nat} {I : Nat → Int32} {A : Nat → Nat → Int32} : (cw cyI ad I A)[6]? = some (ad 6, .inr (4, [.ref (ad 25)])) := rfl
theorem cw_a0 {cyI : ClassId} {ad : Nat → Nat} {I : Nat → Int32} {A : Nat → Nat → Int32} : (cw cyI ad I A)[25]? = some (ad 25, .inl (cyI, 8, .inl (A 0))) := rfl
theorem cw_s0 {cyI : ClassId} {ad : Nat → Nat} {I : Nat → Int32} {A : Nat → Nat → Int32} (g : Nat → Int32) : (cw cyI ad I A).set 25 (ad 25, .inl (cyI, 8, .inl g)) = cw cyI ad I (va_up A 0 g) := rfl
theorem cw_r1 {cyI : ClassId} {ad : Nat → Nat} {I : Nat → Int32} {A : Nat → Nat → Int32} : (cw cyI ad I A)[7]? = some (ad 7, .inr (4, [.ref (ad 26)])) := rfl
theorem cw_a1 {cyI : ClassId} {ad : Nat → Nat} {I : Nat → Int32} {A : Nat → Nat → Int32} : (cw cyI ad I A)[26]? = some (ad 26, .inl (cyI, 8, .inl (A 1))) := rfl
theorem cw_s1 {cyI : ClassId} {ad : Nat → Nat} {I : Nat → Int32} {A : Nat → Nat → Int32} (g : Nat → Int32) : (cw cyI ad I A).set 26 (ad 26, .inl (cyI, 8, .inl g)) = cw cyI ad I (va_up A 1 g) := rfl
theorem cw_r2 {cyI : ClassId} {ad : Nat → Nat} {I : Nat → Int32} {A : Nat → Nat → Int32} : (cw cyI ad I A)[8]? = some (ad 8, .inr (4, [.ref (ad 27)])) := rfl
theorem cw_a2 {cyI : ClassId} {ad : Nat → Nat} {I : Nat → Int32} {A : Nat → Nat → Int32} : (cw cyI ad I A)[27]? = some (ad 27, .inl (cyI, 8, .inl (A 2))) := rfl
theorem cw_s2 {cyI : ClassId} {ad : Nat → Nat} {I : Nat → Int32} {A : Nat → Nat → Int32} (g : Nat → Int32) : (cw cyI ad I A).set 27 (ad 27, .inl (cyI, 8, .inl g)) = cw cyI ad I (va_up A 2 g) := rfl
theorem cw_r3 {cyI : ClassId} {ad : Nat → Nat} {I : Nat → Int32} {A : Nat → Nat → Int32} : (cw cyI ad I A)[9]? = some (ad 9, .inr (4, [.ref (ad 28)])) := rfl
theorem cw_a3 {cyI : ClassId} {ad : Nat → Nat} {I : Nat → Int32} {A : Nat → Nat → Int32} : (cw cyI ad I A)[28]? = some (ad 28, .inl (cyI, 8, .inl (A 3))) := rfl
theorem cw_s3 {cyI : ClassId} {ad : Nat → Nat} {I : Nat → Int32} {A : Nat → Nat → Int32} (g : Nat → Int32) : (cw cyI ad I A).set 28 (ad 28, .inl (cyI, 8, .inl g)) = cw cyI ad I (va_up A 3 g) := rfl
theorem cw_r4 {cyI : ClassId} {ad : Nat → Nat} {I : Nat → Int32} {A : Nat → Nat → Int32} : (cw cyI ad I A)[10]? = some (ad 10, .inr (4, [.ref (ad 29)])) := rfl
theorem cw_a4 {cyI : ClassId} {ad : Nat → Nat} {I : Nat → Int32} {A : Nat → Nat → Int32} : (cw cyI ad I A)[29]? = some (ad 29, .inl (cyI, 8, .inl (A 4))) := rfl
theorem cw_s4 {cyI : ClassId} {ad : Nat → Nat} {I : Nat → Int32} {A : Nat → Nat → Int32} (g : Nat → Int32) : (cw cyI ad I A).set 29 (ad 29, .inl (cyI, 8, .inl g)) = cw cyI ad I (va_up A 4 g) := rfl
theorem cw_r5 {cyI : ClassId} {ad : Nat → Nat} {I : Nat → Int32} {A : Nat → Nat → Int32} : (cw cyI ad I A)[11]? = some (ad 11, .inr (4, [.ref (ad 30)])) := rfl
theorem cw_a5 {cyI : ClassId} {ad : Nat → Nat} {I : Nat → Int32} {A : Nat → Nat → Int32} : (cw cyI ad I A)[30]? = some (ad 30, .inl (cyI, 8, .inl (A 5))) := rfl
theorem cw_s5 {cyI : ClassId} {ad : Nat → Nat} {I : Nat → Int32} {A : Nat → Nat → Int32} (g : Nat → Int32) : (cw cyI ad I A).set 30 (ad 30, .inl (cyI, 8, .inl g)) = cw cyI ad I (va_up A 5 g) := rfl
theorem cw_r6 {cyI : ClassId} {ad : Nat → Nat} {I : Nat → Int32} {A : Nat → Nat → Int32} : (cw cyI ad I A)[12]? = some (ad 12, .inr (4, [.ref (ad 31)])) := rfl
theorem cw_a6 {cyI : ClassId} {ad : Nat → Nat} {I : Nat → Int32} {A : Nat → Nat → Int32} : (cw cyI ad I A)[31]? = some (ad 31, .inl (cyI, 8, .inl (A 6))) := rfl
theorem cw_s6 {cyI : ClassId} {ad : Nat → Nat} {I : Nat → Int32} {A : Nat → Nat → Int32} (g : Nat → Int32) : (cw cyI ad I A).set 31 (ad 31, .inl (cyI, 8, .inl g)) = cw cyI ad I (va_up A 6 g) := rfl
theorem cw_r7 {cyI : ClassId} {ad : Nat → Nat} {I : Nat → Int32} {A : Nat → Nat → Int32} : (cw cyI ad I A)[13]? = some (ad 13, .inr (4, [.ref (ad 32)])) := rfl
theorem cw_a7 {cyI : ClassId} {ad : Nat → Nat} {I : Nat → Int32} {A : Nat → Nat → Int32} : (cw cyI ad I A)[32]? = some (ad 32, .inl (cyI, 64, .inl (A 7))) := rfl
theorem cw_s7 {cyI : ClassId} {ad : Nat → Nat} {I : Nat → Int32} {A : Nat → Nat → Int32} (g : Nat → Int32) : (cw cyI ad I A).set 32 (ad 32, .inl (cyI, 64, .inl g)) = cw cyI ad I (va_up A 7 g) := rfl
theorem cw_r8 {cyI : ClassId} {ad : Nat → Nat} {I : Nat → Int32} {A : Nat → Nat → Int32} : (cw cyI ad I A)[14]? = some (ad 14, .inr (4, [.ref (ad 33)])) := rfl
theorem cw_a8 {cyI : ClassId} {ad : Nat → Nat} {I : Nat → Int32} {A : Nat → Nat → Int32} : (cw cyI ad I A)[33]? = some (ad 33, .inl (cyI, 144, .inl (A 8))) := rfl
theorem cw_s8 {cyI : ClassId} {ad : Nat → Nat} {I : Nat → Int32} {A : Nat → Nat → Int32} (g : Nat → Int32) : (cw cyI ad I A).set 33 (ad 33, .inl (cyI, 144, .inl g)) = cw cyI ad I (va_up A 8 g) := rfl
theorem cw_r9 {cyI : ClassId} {ad : Nat → Nat} {I : Nat → Int32} {A : Nat → Nat → Int32} : (cw cyI ad I A)[15]? = some (ad 15, .inr (4, [.ref (ad 34)])) := rfl
theorem cw_a9 {cyI : ClassId} {ad : Nat → Nat} {I : Nat → Int32} {A : Nat → Nat → Int32} : (cw cyI ad I A)[34]? = some (ad 34, .inl (cyI, 144, .inl (A 9))) := rfl
theorem cw_s9 {cyI : ClassId} {ad : Nat → Nat} {I : Nat → Int32} {A : Nat → Nat → Int32} (g : Nat → Int32) : (cw cyI ad I A).set 34 (ad 34, .inl (cyI, 144, .inl g)) = cw cyI ad I (va_up A 9 g) := rfl
theorem cw_r10 {cyI : ClassId} {ad : Nat → Nat} {I : Nat → Int32} {A : Nat → Nat → Int32} : (cw cyI ad I A)[16]? = some (ad 16, .inr (4, [.ref (ad 35)])) := rfl
theorem cw_a10 {cyI : ClassId} {ad : Nat → Nat} {I : Nat → Int32} {A : Nat → Nat → Int32} : (cw cyI ad I A)[35]? = some (ad 35, .inl (cyI, 144, .inl (A 10))) := rfl
theorem cw_s10 {cyI : ClassId} {ad : Nat → Nat} {I : Nat → Int32} {A : Nat → Nat → Int32} (g : Nat → Int32) : (cw cyI ad I A).set 35 (ad 35, .inl (cyI, 144, .inl g)) = cw cyI ad I (va_up A 10 g) := rfl
theorem cw_r11 {cyI : ClassId} {ad : Nat → Nat} {I : Nat → Int32} {A : Nat → Nat → Int32} : (cw cyI ad I A)[17]? = some (ad 17, .inr (4, [.ref (ad 36)])) := rfl
theorem cw_a11 {cyI : ClassId} {ad : Nat → Nat} {I : Nat → Int32} {A : Nat → Nat → Int32} : (cw cyI ad I A)[36]? = some (ad 36, .inl (cyI, 144, .inl (A 11))) := rfl
theorem cw_s11 {cyI : ClassId} {ad : Nat → Nat} {I : Nat → Int32} {A : Nat → Nat → Int32} (g : Nat → Int32) : (cw cyI ad I A).set 36 (ad 36, .inl (cyI, 144, .inl g)) = cw cyI ad I (va_up A 11 g) := rfl
theorem cw_r12 {cyI : ClassId} {ad : Nat → Nat} {I : Nat → Int32} {A : Nat → Nat → Int32} : (cw cyI ad I A)[18]? = some (ad 18, .inr (4, [.ref (ad 37)])) := rfl
theorem cw_a12 {cyI : ClassId} {ad : Nat → Nat} {I : Nat → Int32} {A : Nat → Nat → Int32} : (cw cyI ad I A)[37]? = some (ad 37, .inl (cyI, 144, .inl (A 12))) := rfl
theorem cw_s12 {cyI : ClassId} {ad : Nat → Nat} {I : Nat → Int32} {A : Nat → Nat → Int32} (g : Nat → Int32) : (cw cyI ad I A).set 37 (ad 37, .inl (cyI, 144, .inl g)) = cw cyI ad I (va_up A 12 g) := rfl
theorem cw_r13 {cyI : ClassId} {ad : Nat → Nat} {I : Nat → Int32} {A : Nat → Nat → Int32} : (cw cyI ad I A)[19]? = some (ad 19, .inr (4, [.ref (ad 38)])) := rfl
theorem cw_a13 {cyI : ClassId} {ad : Nat → Nat} {I : Nat → Int32} {A : Nat → Nat → Int32} : (cw cyI ad I A)[38]? = some (ad 38, .inl (cyI, 40, .inl (A 13))) := rfl
theorem cw_s13 {cyI : ClassId} {ad : Nat → Nat} {I : Nat → Int32} {A : Nat → Nat → Int32} (g : Nat → Int32) : (cw cyI ad I A).set 38 (ad 38, .inl (cyI, 40, .inl g)) = cw cyI ad I (va_up A 13 g) := rfl
theorem cw_r14 {cyI : ClassId} {ad : Nat → Nat} {I : Nat → Int32} {A : Nat → Nat → Int32} : (cw cyI ad I A)[20]? = some (ad 20, .inr (4, [.ref (ad 39)])) := rfl
theorem cw_a14 {cyI : ClassId} {ad : Nat → Nat} {I : Nat → Int32} {A : Nat → Nat → Int32} : (cw cyI ad I A)[39]? = some (ad 39, .inl (cyI, 40, .inl (A 14))) := rfl
theorem cw_s14 {cyI : ClassId} {ad : Nat → Nat} {I : Nat → Int32} {A : Nat → Nat → Int32} (g : Nat → Int32) : (cw cyI ad I A).set 39 (ad 39, .inl (cyI, 40, .inl g)) = cw cyI ad I (va_up A 14 g) := rfl
theorem cw_r15 {cyI : ClassId} {ad : Nat → Nat} {I : Nat → Int32} {A : Nat → Nat → Int32} : (cw cyI ad I A)[21]? = some (ad 21, .inr (4, [.ref (ad 40)])) := rfl
theorem cw_a15 {cyI : ClassId} {ad : Nat → Nat} {I : Nat → Int32} {A : Nat → Nat → Int32} : (cw cyI ad I A)[40]? = some (ad 40, .inl (cyI, 40, .inl (A 15))) := rfl
theorem cw_s15 {cyI : ClassId} {ad : Nat → Nat} {I : Nat → Int32} {A : Nat → Nat → Int32} (g : Nat → Int32) : (cw cyI ad I A).set 40 (ad 40, .inl (cyI, 40, .inl g)) = cw cyI ad I (va_up A 15 g) := rfl
theorem cw_r16 {cyI : ClassId} {ad : Nat → Nat} {I : Nat → Int32} {A : Nat → Nat → Int32} : (cw cyI ad I A)[22]? = some (ad 22, .inr (4, [.ref (ad 41)])) := rfl
theorem cw_a16 {cyI : ClassId} {ad : Nat → Nat} {I : Nat → Int32} {A : Nat → Nat → Int32} : (cw cyI ad I A)[41]? = some (ad 41, .inl (cyI, 40, .inl (A 16))) := rfl
theorem cw_s16 {cyI : ClassId} {ad : Nat → Nat} {I : Nat → Int32} {A : Nat → Nat → Int32} (g : Nat → Int32) : (cw cyI ad I A).set 41 (ad 41, .inl (cyI, 40, .inl g)) = cw cyI ad I (va_up A 16 g) := rfl
theorem cw_r17 {cyI : ClassId} {ad : Nat → Nat} {I : Nat → Int32} {A : Nat → Nat → Int32} : (cw cyI ad I A)[23]? = some (ad 23, .inr (4, [.ref (ad 42)])) := rfl
theorem cw_a17 {cyI : ClassId} {ad : Nat → Nat} {I : Nat → Int32} {A : Nat → Nat → Int32} : (cw cyI ad I A)[42]? = some (ad 42, .inl (cyI, 10, .inl (A 17))) := rfl
theorem cw_s17 {cyI : ClassId} {ad : Nat → Nat} {I : Nat → Int32} {A : Nat → Nat → Int32} (g : Nat → Int32) : (cw cyI ad I A).set 42 (ad 42, .inl (cyI, 10, .inl g)) = cw cyI ad I (va_up A 17 g) := rfl
theorem cw_r18 {cyI : ClassId} {ad : Nat → Nat} {I : Nat → Int32} {A : Nat → Nat → Int32} : (cw cyI ad I A)[24]? = some (ad 24, .inr (4, [.ref (ad 43)])) := rfl
theorem cw_a18 {cyI : ClassId} {ad : Nat → Nat} {I : Nat → Int32} {A : Nat → Nat → Int32} : (cw cyI ad I A)[43]? = some (ad 43, .inl (cyI, 1440, .inl (A 18))) := rfl
theorem cw_s18 {cyI : ClassId} {ad : Nat → Nat} {I : Nat → Int32} {A : Nat → Nat → Int32} (g : Nat → Int32) : (cw cyI ad I A).set 43 (ad 43, .inl (cyI, 1440, .inl g)) = cw cyI ad I (va_up A 18 g) := rfl
theorem ds_X4_at : Dsc yX4_at 1 := ⟨by decide +kernel, by decide +kernel, by decide +kernel⟩
theorem ds_X4_put : Dsc yX4_put 2 := ⟨by decide +kernel, by decide +kernel, by decide +kernel⟩
theorem ds_X4_fill : Dsc yX4_fill 1 := ⟨by decide +kernel, by decide +kernel, by decide +kernel⟩
theorem swo {x : Int32} (hi : Nat) (hhi : hi < 2 ^ 31) (h : ∀ j : Nat, j ≤ hi → ¬ x = Int32.ofNat j) : x.toInt < 0 ∨ ((hi : Nat) : Int) < x.toInt := by
  rcases Classical.em (x < 0) with h0 | h0
  · exact Or.inl (by simpa [Int32.lt_iff_toInt_lt] using h0)
  · obtain ⟨j, hj, rfl⟩ := nI_of h0
    refine Or.inr ?_
    rw [nI_toInt hj]
    rcases Nat.lt_or_ge hi j with q | q
    · exact_mod_cast q
    · exact absurd rfl (h j q)
end ROWX
section MOFF
/-- as Mof, for a method of a class of which the machine runs others by itself -/
theorem MofF {l : Launch} {y : MethodName} {b : ByteArray} {n : Nat} {r : Option FieldType} {rm : Room} {As : List Value} {H : Heap} {KX : Ctx} {Qc : Array Value → State → Outcome → State → Prop} {mc ms : Nat} {free : Addr → Prop} {own : String} (hy : plainFor y = true) (ho : y.cls = own) (hn : Nat.ble (lg_sl As).length n = true)
    (body : ∀ (p : Program) (e : Env) (s : State) (m : MethodId) (args : Array Value) (below : List Frame) (meth : Method) (c : Code) (ls : Array Slot), EX p s m args meth c b n own r → s.heap = H → KX s s.heap → lv_has ls n (lv_args 0 As) → W p l e rm s m args below meth c s.heap [] 0 0 (MQ below Qc args s mc ms free) (F0 m 0 ls [])) :
    Met l y (.code y b n r :: TA) rm (PX As H KX) Qc mc ms free := by
  refine MetFree.of_bodySF (code := b) (maxLocals := n) (ret := r) hy ?_ ?_
  · intro args s m h hn
    obtain ⟨meth, c, h1, h2, h3, h4, h5, h6, -, -⟩ := Cond.code_spec hn (atoms_spec (ws := (.code y b n r :: TA : List Cond)) h _ List.mem_cons_self)
    exact ⟨meth, c, h1, h2, h3, h4, h5, h6⟩
  · intro p e s m args below meth c s₁ B hml hv _
    obtain ⟨rfl, hH, hK⟩ := hv
    have hts : ∀ w ∈ (.code y b n r :: TA : List Cond), w.before As.toArray s = true := atoms_spec (ws := (.code y b n r :: TA : List Cond)) B.pre
    have hown : s.vm.findClass own = some m.cls := by rw [← ho]; exact findClass_of_methodNamed B.named
    have hh0 : s₁.heap = s.heap := by rw [B.state]; rfl
    have hl := lv_entry As (n := n) (Nat.le_of_ble_eq_true hn)
    have k := body p e s m As.toArray below meth c _ ⟨B.exec, B.bytes, hml, hown, fun w hw => hts w (List.mem_cons_of_mem _ hw), B.returns, B.notSynchronized⟩ hH (by rw [hH]; exact hK) hl
    rw [← lg_entry_eq] at k
    obtain ⟨t, a1, o, b1, b2, b3⟩ := k s₁ hh0 (Stand.of_body B)
    exact ⟨t, o, a1, b1, b2, ⟨b3.1, b3.2⟩⟩
end MOFF
end
section
section WALK
section
variable {p : Program} {l : Launch} {e : Env} {s : State} {m : MethodId} {args : Array Value} {below : List Frame} {meth : Method} {c : Code} {D : va_G} {cyI : ClassId} {ad : Nat → Nat}
def B_X6_isIn  (x0 x1 x2 : Int32) : Int32 := if x0 < x1 then 0 else (if x2 < x0 then 0 else 1)
theorem nb_B_X6_isIn  {x0 x1 x2 : Int32} : narrow .boolean (.int (B_X6_isIn  x0 x1 x2)) = .int (B_X6_isIn  x0 x1 x2) := by
  unfold B_X6_isIn
  (repeat' split) <;> rfl
set_option maxHeartbeats 4000000 in
set_option maxRecDepth 100000 in
theorem w_X6_isIn (E : EX p s m args meth c cX6_isIn 3 RX6 (some .boolean)) (K0 : KC D cyI ad s s.heap)  {x0 x1 x2 : Int32} {out : Int32} (h : B_X6_isIn  x0 x1 x2 = out) {ls : Array Slot} (hl : lv_has ls 3 [(0, .int x0), (1, .int x1), (2, .int x2)]) : W p l e (rmL 0) s m args below meth c s.heap [] 0 0 (MQ below (vp_Si (fun z => z = out)) args s 0 0 (fun _ => False)) (F0 m 0 ls []) := by
  unfold B_X6_isIn at h
  refine lv_iload_n E.hx E.hb dX6_isIn_0 rfl (lv_at hl 0 rfl) ?_
  refine lv_iload_n E.hx E.hb dX6_isIn_1 rfl (lv_at hl 1 rfl) ?_
  refine lv_icmp_lt (tgt := 14) E.hx E.hb dX6_isIn_2 (by decide) (fun c_1 => ?_) (fun c_1 => ?_)
  · rw [if_pos c_1] at h
    refine lv_iconst (v := 0) E.hx E.hb dX6_isIn_14 (by decide) ?_
    exact W.zret E.hx E.hb E.hr rfl (fun t ht _ => ⟨_, rfl, h, ht⟩) (fun q hq => nomatch hq) dX6_isIn_15 E.hk
  · rw [if_neg c_1] at h
    refine lv_iload_n E.hx E.hb dX6_isIn_5 rfl (lv_at hl 0 rfl) ?_
    refine lv_iload_n E.hx E.hb dX6_isIn_6 rfl (lv_at hl 2 rfl) ?_
    refine lv_icmp_gt (tgt := 14) E.hx E.hb dX6_isIn_7 (by decide) (fun c_2 => ?_) (fun c_2 => ?_)
    · rw [if_pos c_2] at h
      refine lv_iconst (v := 0) E.hx E.hb dX6_isIn_14 (by decide) ?_
      exact W.zret E.hx E.hb E.hr rfl (fun t ht _ => ⟨_, rfl, h, ht⟩) (fun q hq => nomatch hq) dX6_isIn_15 E.hk
    · rw [if_neg c_2] at h
      refine lv_iconst (v := 1) E.hx E.hb dX6_isIn_10 (by decide) ?_
      refine lv_goto (tgt := 15) E.hx E.hb dX6_isIn_11 (by decide) ?_
      exact W.zret E.hx E.hb E.hr rfl (fun t ht _ => ⟨_, rfl, h, ht⟩) (fun q hq => nomatch hq) dX6_isIn_15 E.hk
theorem c_X6_isIn (l : Launch) {H : Heap} {D : va_G} {cyI : ClassId} {ad : Nat → Nat} (x0 x1 x2 : Int32) : MRO l yX6_isIn cX6_isIn 3 (some .boolean) 0 [.int x0, .int x1, .int x2] H (KC D cyI ad) (B_X6_isIn  x0 x1 x2) := by
  refine Mof (own := RX6) (by decide +kernel) rfl rfl ?_
  intro p e s m args below meth c ls E hH K0 hl
  subst hH
  exact w_X6_isIn E K0  rfl hl
theorem ds_X6_isIn : Dsc yX6_isIn 3 := ⟨by decide +kernel, by decide +kernel, by decide +kernel⟩
end
section
variable {p : Program} {l : Launch} {e : Env} {R : Room} {s : State} {m : MethodId} {args : Array Value} {below : List Frame} {meth : Method} {c : Code} {H : Heap} {locs : List Loc} {cells slots : Nat} {Q : State → Prop} {cc : ByteArray} {nL pc : Nat} {ret : Option FieldType} {ls : Array Slot} {rest : List Value} {D : va_G} {cyI : ClassId} {ad : Nat → Nat} {I : Nat → Int32} {A : Nat → Nat → Int32}
theorem iv_X6_56 (E : EX p s m args meth c cc nL RX6 ret) (K0 : KC D cyI ad s s.heap) (S : va_S (InN 44 ad) s.heap H locs) {a0 a1 a2 : Int32} (hR : RmOk R cells slots 0 3) (hls : ls.size = nL) (hro : (rest.map fun v => v.category).sum ≤ 8) (hdg : decode cc pc = .ok (.invokestatic 56, 3)) (kk : W p l e R s m args below meth c H locs cells slots Q (F0 m (pc + 3) ls (.int (B_X6_isIn a0 a1 a2) :: rest))) : W p l e R s m args below meth c H locs cells slots Q (F0 m pc ls (.int a2 :: .int a1 :: .int a0 :: rest)) :=
  cs_ro E (c_X6_isIn l (H := H) (D := D) (cyI := cyI) (ad := ad) a0 a1 a2 ) (gS kML_X6_56 kST_X6_isIn kIN_X6 kCO_X6_isIn) rfl ds_X6_isIn rfl KC_blind (fun U _ hW => (K0.at S).warm hW) hR hls rfl hro hdg kk
end
section
variable {p : Program} {l : Launch} {e : Env} {s : State} {m : MethodId} {args : Array Value} {below : List Frame} {meth : Method} {c : Code} {D : va_G} {cyI : ClassId} {ad : Nat → Nat}
def B_X6_isDirection  (x0 : Int32) : Int32 := (B_X6_isIn x0 0 14)
theorem nb_B_X6_isDirection  {x0 : Int32} : narrow .boolean (.int (B_X6_isDirection  x0)) = .int (B_X6_isDirection  x0) := by
  unfold B_X6_isDirection
  exact nb_B_X6_isIn
set_option maxHeartbeats 4000000 in
set_option maxRecDepth 100000 in
theorem w_X6_isDirection (E : EX p s m args meth c cX6_isDirection 1 RX6 (some .boolean)) (K0 : KC D cyI ad s s.heap)  {x0 : Int32} {out : Int32} (h : B_X6_isDirection  x0 = out) {ls : Array Slot} (hl : lv_has ls 1 [(0, .int x0)]) : W p l e (rmL 1) s m args below meth c s.heap [] 0 0 (MQ below (vp_Si (fun z => z = out)) args s 0 0 (fun _ => False)) (F0 m 0 ls []) := by
  unfold B_X6_isDirection at h
  refine lv_iload_n E.hx E.hb dX6_isDirection_0 rfl (lv_at hl 0 rfl) ?_
  refine lv_iconst (v := 0) E.hx E.hb dX6_isDirection_1 (by decide) ?_
  refine lv_bipush (v := 14) E.hx E.hb dX6_isDirection_2 (by decide) ?_
  refine iv_X6_56 E K0 va_S.rf (by decide) hl.1 (Nat.le_of_ble_eq_true rfl) dX6_isDirection_4 ?_
  exact W.zret E.hx E.hb E.hr (nb_B_X6_isIn) (fun t ht _ => ⟨_, rfl, h, ht⟩) (fun q hq => nomatch hq) dX6_isDirection_7 E.hk
theorem c_X6_isDirection (l : Launch) {H : Heap} {D : va_G} {cyI : ClassId} {ad : Nat → Nat} (x0 : Int32) : MRO l yX6_isDirection cX6_isDirection 1 (some .boolean) 1 [.int x0] H (KC D cyI ad) (B_X6_isDirection  x0) := by
  refine Mof (own := RX6) (by decide +kernel) rfl rfl ?_
  intro p e s m args below meth c ls E hH K0 hl
  subst hH
  exact w_X6_isDirection E K0  rfl hl
theorem ds_X6_isDirection : Dsc yX6_isDirection 1 := ⟨by decide +kernel, by decide +kernel, by decide +kernel⟩
end
section
variable {p : Program} {l : Launch} {e : Env} {s : State} {m : MethodId} {args : Array Value} {below : List Frame} {meth : Method} {c : Code} {D : va_G} {cyI : ClassId} {ad : Nat → Nat}
def B_X6_onFrom  (x0 x1 : Int32) : Int32 := (((((x1 - x0) + 7) + 15) - (((x1 - x0) + 7) + 15) / 15 * 15) - 7)
set_option maxHeartbeats 4000000 in
set_option maxRecDepth 100000 in
theorem w_X6_onFrom (E : EX p s m args meth c cX6_onFrom 2 RX6 (some .int)) (K0 : KC D cyI ad s s.heap)  {x0 x1 : Int32} {out : Int32} (h : B_X6_onFrom  x0 x1 = out) {ls : Array Slot} (hl : lv_has ls 2 [(0, .int x0), (1, .int x1)]) : W p l e (rmL 0) s m args below meth c s.heap [] 0 0 (MQ below (vp_Si (fun z => z = out)) args s 0 0 (fun _ => False)) (F0 m 0 ls []) := by
  unfold B_X6_onFrom at h
  refine lv_iload_n E.hx E.hb dX6_onFrom_0 rfl (lv_at hl 1 rfl) ?_
  refine lv_iload_n E.hx E.hb dX6_onFrom_1 rfl (lv_at hl 0 rfl) ?_
  refine lv_isub E.hx E.hb dX6_onFrom_2 ?_
  refine lv_bipush (v := 7) E.hx E.hb dX6_onFrom_3 (by decide) ?_
  refine lv_iadd E.hx E.hb dX6_onFrom_5 ?_
  refine lv_bipush (v := 15) E.hx E.hb dX6_onFrom_6 (by decide) ?_
  refine lv_iadd E.hx E.hb dX6_onFrom_8 ?_
  refine lv_bipush (v := 15) E.hx E.hb dX6_onFrom_9 (by decide) ?_
  refine lv_irem E.hx E.hb dX6_onFrom_11 (by decide) ?_
  refine lv_bipush (v := 7) E.hx E.hb dX6_onFrom_12 (by decide) ?_
  refine lv_isub E.hx E.hb dX6_onFrom_14 ?_
  exact W.iret E.hx E.hb E.hr (fun t ht _ => ⟨_, rfl, h, ht⟩) (fun q hq => nomatch hq) dX6_onFrom_15 E.hk
theorem c_X6_onFrom (l : Launch) {H : Heap} {D : va_G} {cyI : ClassId} {ad : Nat → Nat} (x0 x1 : Int32) : MRO l yX6_onFrom cX6_onFrom 2 (some .int) 0 [.int x0, .int x1] H (KC D cyI ad) (B_X6_onFrom  x0 x1) := by
  refine Mof (own := RX6) (by decide +kernel) rfl rfl ?_
  intro p e s m args below meth c ls E hH K0 hl
  subst hH
  exact w_X6_onFrom E K0  rfl hl
theorem ds_X6_onFrom : Dsc yX6_onFrom 2 := ⟨by decide +kernel, by decide +kernel, by decide +kernel⟩
end
section
variable {p : Program} {l : Launch} {e : Env} {R : Room} {s : State} {m : MethodId} {args : Array Value} {below : List Frame} {meth : Method} {c : Code} {H : Heap} {locs : List Loc} {cells slots : Nat} {Q : State → Prop} {cc : ByteArray} {nL pc : Nat} {ret : Option FieldType} {ls : Array Slot} {rest : List Value} {D : va_G} {cyI : ClassId} {ad : Nat → Nat} {I : Nat → Int32} {A : Nat → Nat → Int32}
theorem iv_X6_260 (E : EX p s m args meth c cc nL RX6 ret) (K0 : KC D cyI ad s s.heap) (S : va_S (InN 44 ad) s.heap H locs) {a0 a1 : Int32} (hR : RmOk R cells slots 0 2) (hls : ls.size = nL) (hro : (rest.map fun v => v.category).sum ≤ 8) (hdg : decode cc pc = .ok (.invokestatic 260, 3)) (kk : W p l e R s m args below meth c H locs cells slots Q (F0 m (pc + 3) ls (.int (B_X6_onFrom a0 a1) :: rest))) : W p l e R s m args below meth c H locs cells slots Q (F0 m pc ls (.int a1 :: .int a0 :: rest)) :=
  cs_ro E (c_X6_onFrom l (H := H) (D := D) (cyI := cyI) (ad := ad) a0 a1 ) (gS kML_X6_260 kST_X6_onFrom kIN_X6 kCO_X6_onFrom) rfl ds_X6_onFrom rfl KC_blind (fun U _ hW => (K0.at S).warm hW) hR hls rfl hro hdg kk
end
section
variable {p : Program} {l : Launch} {e : Env} {s : State} {m : MethodId} {args : Array Value} {below : List Frame} {meth : Method} {c : Code} {D : va_G} {cyI : ClassId} {ad : Nat → Nat}
def B_X6_squareApart  (x0 x1 : Int32) : Int32 := ((B_X6_onFrom x0 x1) * (B_X6_onFrom x0 x1))
set_option maxHeartbeats 4000000 in
set_option maxRecDepth 100000 in
theorem w_X6_squareApart (E : EX p s m args meth c cX6_squareApart 3 RX6 (some .int)) (K0 : KC D cyI ad s s.heap)  {x0 x1 : Int32} {out : Int32} (h : B_X6_squareApart  x0 x1 = out) {ls : Array Slot} (hl : lv_has ls 3 [(0, .int x0), (1, .int x1)]) : W p l e (rmL 1) s m args below meth c s.heap [] 0 0 (MQ below (vp_Si (fun z => z = out)) args s 0 0 (fun _ => False)) (F0 m 0 ls []) := by
  unfold B_X6_squareApart at h
  refine lv_iload_n E.hx E.hb dX6_squareApart_0 rfl (lv_at hl 0 rfl) ?_
  refine lv_iload_n E.hx E.hb dX6_squareApart_1 rfl (lv_at hl 1 rfl) ?_
  refine iv_X6_260 E K0 va_S.rf (by decide) hl.1 (Nat.le_of_ble_eq_true rfl) dX6_squareApart_2 ?_
  refine lv_istore_n (lv' := [(2, .int (B_X6_onFrom x0 x1)), (0, .int x0), (1, .int x1)]) E.hx E.hb dX6_squareApart_5 rfl hl (by decide) rfl (fun ls hl => ?_)
  refine lv_iload_n E.hx E.hb dX6_squareApart_6 rfl (lv_at hl 0 rfl) ?_
  refine lv_iload_n E.hx E.hb dX6_squareApart_7 rfl (lv_at hl 0 rfl) ?_
  refine lv_imul E.hx E.hb dX6_squareApart_8 ?_
  exact W.iret E.hx E.hb E.hr (fun t ht _ => ⟨_, rfl, h, ht⟩) (fun q hq => nomatch hq) dX6_squareApart_9 E.hk
theorem c_X6_squareApart (l : Launch) {H : Heap} {D : va_G} {cyI : ClassId} {ad : Nat → Nat} (x0 x1 : Int32) : MRO l yX6_squareApart cX6_squareApart 3 (some .int) 1 [.int x0, .int x1] H (KC D cyI ad) (B_X6_squareApart  x0 x1) := by
  refine Mof (own := RX6) (by decide +kernel) rfl rfl ?_
  intro p e s m args below meth c ls E hH K0 hl
  subst hH
  exact w_X6_squareApart E K0  rfl hl
theorem ds_X6_squareApart : Dsc yX6_squareApart 2 := ⟨by decide +kernel, by decide +kernel, by decide +kernel⟩
end
section
variable {p : Program} {l : Launch} {e : Env} {s : State} {m : MethodId} {args : Array Value} {below : List Frame} {meth : Method} {c : Code} {D : va_G} {cyI : ClassId} {ad : Nat → Nat}
def B_X6_numberOf  (x0 x1 : Int32) : Int32 := ((x1 * 12) + x0)
set_option maxHeartbeats 4000000 in
set_option maxRecDepth 100000 in
theorem w_X6_numberOf (E : EX p s m args meth c cX6_numberOf 2 RX6 (some .int)) (K0 : KC D cyI ad s s.heap)  {x0 x1 : Int32} {out : Int32} (h : B_X6_numberOf  x0 x1 = out) {ls : Array Slot} (hl : lv_has ls 2 [(0, .int x0), (1, .int x1)]) : W p l e (rmL 0) s m args below meth c s.heap [] 0 0 (MQ below (vp_Si (fun z => z = out)) args s 0 0 (fun _ => False)) (F0 m 0 ls []) := by
  unfold B_X6_numberOf at h
  refine lv_iload_n E.hx E.hb dX6_numberOf_0 rfl (lv_at hl 1 rfl) ?_
  refine lv_bipush (v := 12) E.hx E.hb dX6_numberOf_1 (by decide) ?_
  refine lv_imul E.hx E.hb dX6_numberOf_3 ?_
  refine lv_iload_n E.hx E.hb dX6_numberOf_4 rfl (lv_at hl 0 rfl) ?_
  refine lv_iadd E.hx E.hb dX6_numberOf_5 ?_
  exact W.iret E.hx E.hb E.hr (fun t ht _ => ⟨_, rfl, h, ht⟩) (fun q hq => nomatch hq) dX6_numberOf_6 E.hk
theorem c_X6_numberOf (l : Launch) {H : Heap} {D : va_G} {cyI : ClassId} {ad : Nat → Nat} (x0 x1 : Int32) : MRO l yX6_numberOf cX6_numberOf 2 (some .int) 0 [.int x0, .int x1] H (KC D cyI ad) (B_X6_numberOf  x0 x1) := by
  refine Mof (own := RX6) (by decide +kernel) rfl rfl ?_
  intro p e s m args below meth c ls E hH K0 hl
  subst hH
  exact w_X6_numberOf E K0  rfl hl
theorem ds_X6_numberOf : Dsc yX6_numberOf 2 := ⟨by decide +kernel, by decide +kernel, by decide +kernel⟩
end
section
variable {p : Program} {l : Launch} {e : Env} {s : State} {m : MethodId} {args : Array Value} {below : List Frame} {meth : Method} {c : Code} {D : va_G} {cyI : ClassId} {ad : Nat → Nat}
def B_J9_floorDiv_7cf53  (x0 x1 : Int32) : Option (Int32) := if x1 = 0 then none else if 0 ≤ (x0 ^^^ x1) then some ((x0 / x1)) else (if ((x0 / x1) * x1) = x0 then some ((x0 / x1)) else some (((x0 / x1) - 1)))
set_option maxHeartbeats 4000000 in
set_option maxRecDepth 100000 in
theorem w_J9_floorDiv_7cf53 (E : EX p s m args meth c cJ9_floorDiv_7cf53 3 RJ9 (some .int)) (K0 : KC D cyI ad s s.heap)  {x0 x1 : Int32} {out : Int32} (h : B_J9_floorDiv_7cf53  x0 x1 = some out) {ls : Array Slot} (hl : lv_has ls 3 [(0, .int x0), (1, .int x1)]) : W p l e (rmL 0) s m args below meth c s.heap [] 0 0 (MQ below (vp_Si (fun z => z = out)) args s 0 0 (fun _ => False)) (F0 m 0 ls []) := by
  unfold B_J9_floorDiv_7cf53 at h
  refine lv_iload_n E.hx E.hb dJ9_floorDiv_7cf53_0 rfl (lv_at hl 0 rfl) ?_
  refine lv_iload_n E.hx E.hb dJ9_floorDiv_7cf53_1 rfl (lv_at hl 1 rfl) ?_
  by_cases c_1 : x1 = 0
  · rw [if_pos c_1] at h; exact nomatch h
  rw [if_neg c_1] at h
  refine lv_idiv E.hx E.hb dJ9_floorDiv_7cf53_2 c_1 ?_
  refine lv_istore_n (lv' := [(2, .int (x0 / x1)), (0, .int x0), (1, .int x1)]) E.hx E.hb dJ9_floorDiv_7cf53_3 rfl hl (by decide) rfl (fun ls hl => ?_)
  refine lv_iload_n E.hx E.hb dJ9_floorDiv_7cf53_4 rfl (lv_at hl 1 rfl) ?_
  refine lv_iload_n E.hx E.hb dJ9_floorDiv_7cf53_5 rfl (lv_at hl 2 rfl) ?_
  refine lv_ixor E.hx E.hb dJ9_floorDiv_7cf53_6 ?_
  refine lv_if_ge (tgt := 21) E.hx E.hb dJ9_floorDiv_7cf53_7 (by decide) (fun c_2 => ?_) (fun c_2 => ?_)
  · rw [if_pos c_2] at h
    refine lv_iload_n E.hx E.hb dJ9_floorDiv_7cf53_21 rfl (lv_at hl 0 rfl) ?_
    exact W.iret E.hx E.hb E.hr (fun t ht _ => ⟨_, rfl, (Option.some.inj h), ht⟩) (fun q hq => nomatch hq) dJ9_floorDiv_7cf53_22 E.hk
  · rw [if_neg c_2] at h
    refine lv_iload_n E.hx E.hb dJ9_floorDiv_7cf53_10 rfl (lv_at hl 0 rfl) ?_
    refine lv_iload_n E.hx E.hb dJ9_floorDiv_7cf53_11 rfl (lv_at hl 2 rfl) ?_
    refine lv_imul E.hx E.hb dJ9_floorDiv_7cf53_12 ?_
    refine lv_iload_n E.hx E.hb dJ9_floorDiv_7cf53_13 rfl (lv_at hl 1 rfl) ?_
    refine lv_icmp_eq (tgt := 21) E.hx E.hb dJ9_floorDiv_7cf53_14 (by decide) (fun c_3 => ?_) (fun c_3 => ?_)
    · rw [if_pos c_3] at h
      refine lv_iload_n E.hx E.hb dJ9_floorDiv_7cf53_21 rfl (lv_at hl 0 rfl) ?_
      exact W.iret E.hx E.hb E.hr (fun t ht _ => ⟨_, rfl, (Option.some.inj h), ht⟩) (fun q hq => nomatch hq) dJ9_floorDiv_7cf53_22 E.hk
    · rw [if_neg c_3] at h
      refine lv_iload_n E.hx E.hb dJ9_floorDiv_7cf53_17 rfl (lv_at hl 0 rfl) ?_
      refine lv_iconst (v := 1) E.hx E.hb dJ9_floorDiv_7cf53_18 (by decide) ?_
      refine lv_isub E.hx E.hb dJ9_floorDiv_7cf53_19 ?_
      exact W.iret E.hx E.hb E.hr (fun t ht _ => ⟨_, rfl, (Option.some.inj h), ht⟩) (fun q hq => nomatch hq) dJ9_floorDiv_7cf53_20 E.hk
theorem c_J9_floorDiv_7cf53 (l : Launch) {H : Heap} {D : va_G} {cyI : ClassId} {ad : Nat → Nat} (x0 x1 : Int32) {out : Int32} (h : B_J9_floorDiv_7cf53  x0 x1 = some out) : MRO l yJ9_floorDiv_7cf53 cJ9_floorDiv_7cf53 3 (some .int) 0 [.int x0, .int x1] H (KC D cyI ad) out := by
  refine MofF (own := RJ9) (by decide +kernel) rfl rfl ?_
  intro p e s m args below meth c ls E hH K0 hl
  subst hH
  exact w_J9_floorDiv_7cf53 E K0  h hl
theorem ds_J9_floorDiv_7cf53 : Dsc yJ9_floorDiv_7cf53 2 := ⟨by decide +kernel, by decide +kernel, by decide +kernel⟩
end
section
variable {p : Program} {l : Launch} {e : Env} {s : State} {m : MethodId} {args : Array Value} {below : List Frame} {meth : Method} {c : Code} {D : va_G} {cyI : ClassId} {ad : Nat → Nat}
def B_J9_abs_0f7a4  (x0 : Int32) : Int32 := if 0 ≤ x0 then x0 else (-x0)
set_option maxHeartbeats 4000000 in
set_option maxRecDepth 100000 in
theorem w_J9_abs_0f7a4 (E : EX p s m args meth c cJ9_abs_0f7a4 1 RJ9 (some .int)) (K0 : KC D cyI ad s s.heap)  {x0 : Int32} {out : Int32} (h : B_J9_abs_0f7a4  x0 = out) {ls : Array Slot} (hl : lv_has ls 1 [(0, .int x0)]) : W p l e (rmL 0) s m args below meth c s.heap [] 0 0 (MQ below (vp_Si (fun z => z = out)) args s 0 0 (fun _ => False)) (F0 m 0 ls []) := by
  unfold B_J9_abs_0f7a4 at h
  refine lv_iload_n E.hx E.hb dJ9_abs_0f7a4_0 rfl (lv_at hl 0 rfl) ?_
  refine lv_if_ge (tgt := 9) E.hx E.hb dJ9_abs_0f7a4_1 (by decide) (fun c_1 => ?_) (fun c_1 => ?_)
  · rw [if_pos c_1] at h
    refine lv_iload_n E.hx E.hb dJ9_abs_0f7a4_9 rfl (lv_at hl 0 rfl) ?_
    exact W.iret E.hx E.hb E.hr (fun t ht _ => ⟨_, rfl, h, ht⟩) (fun q hq => nomatch hq) dJ9_abs_0f7a4_10 E.hk
  · rw [if_neg c_1] at h
    refine lv_iload_n E.hx E.hb dJ9_abs_0f7a4_4 rfl (lv_at hl 0 rfl) ?_
    refine lv_ineg E.hx E.hb dJ9_abs_0f7a4_5 ?_
    refine lv_goto (tgt := 10) E.hx E.hb dJ9_abs_0f7a4_6 (by decide) ?_
    exact W.iret E.hx E.hb E.hr (fun t ht _ => ⟨_, rfl, h, ht⟩) (fun q hq => nomatch hq) dJ9_abs_0f7a4_10 E.hk
theorem c_J9_abs_0f7a4 (l : Launch) {H : Heap} {D : va_G} {cyI : ClassId} {ad : Nat → Nat} (x0 : Int32) : MRO l yJ9_abs_0f7a4 cJ9_abs_0f7a4 1 (some .int) 0 [.int x0] H (KC D cyI ad) (B_J9_abs_0f7a4  x0) := by
  refine MofF (own := RJ9) (by decide +kernel) rfl rfl ?_
  intro p e s m args below meth c ls E hH K0 hl
  subst hH
  exact w_J9_abs_0f7a4 E K0  rfl hl
theorem ds_J9_abs_0f7a4 : Dsc yJ9_abs_0f7a4 1 := ⟨by decide +kernel, by decide +kernel, by decide +kernel⟩
end
section
variable {p : Program} {l : Launch} {e : Env} {s : State} {m : MethodId} {args : Array Value} {below : List Frame} {meth : Method} {c : Code} {D : va_G} {cyI : ClassId} {ad : Nat → Nat}
def B_J9_max_7cf53  (x0 x1 : Int32) : Int32 := if x0 < x1 then x1 else x0
set_option maxHeartbeats 4000000 in
set_option maxRecDepth 100000 in
theorem w_J9_max_7cf53 (E : EX p s m args meth c cJ9_max_7cf53 2 RJ9 (some .int)) (K0 : KC D cyI ad s s.heap)  {x0 x1 : Int32} {out : Int32} (h : B_J9_max_7cf53  x0 x1 = out) {ls : Array Slot} (hl : lv_has ls 2 [(0, .int x0), (1, .int x1)]) : W p l e (rmL 0) s m args below meth c s.heap [] 0 0 (MQ below (vp_Si (fun z => z = out)) args s 0 0 (fun _ => False)) (F0 m 0 ls []) := by
  unfold B_J9_max_7cf53 at h
  refine lv_iload_n E.hx E.hb dJ9_max_7cf53_0 rfl (lv_at hl 0 rfl) ?_
  refine lv_iload_n E.hx E.hb dJ9_max_7cf53_1 rfl (lv_at hl 1 rfl) ?_
  refine lv_icmp_lt (tgt := 9) E.hx E.hb dJ9_max_7cf53_2 (by decide) (fun c_1 => ?_) (fun c_1 => ?_)
  · rw [if_pos c_1] at h
    refine lv_iload_n E.hx E.hb dJ9_max_7cf53_9 rfl (lv_at hl 1 rfl) ?_
    exact W.iret E.hx E.hb E.hr (fun t ht _ => ⟨_, rfl, h, ht⟩) (fun q hq => nomatch hq) dJ9_max_7cf53_10 E.hk
  · rw [if_neg c_1] at h
    refine lv_iload_n E.hx E.hb dJ9_max_7cf53_5 rfl (lv_at hl 0 rfl) ?_
    refine lv_goto (tgt := 10) E.hx E.hb dJ9_max_7cf53_6 (by decide) ?_
    exact W.iret E.hx E.hb E.hr (fun t ht _ => ⟨_, rfl, h, ht⟩) (fun q hq => nomatch hq) dJ9_max_7cf53_10 E.hk
theorem c_J9_max_7cf53 (l : Launch) {H : Heap} {D : va_G} {cyI : ClassId} {ad : Nat → Nat} (x0 x1 : Int32) : MRO l yJ9_max_7cf53 cJ9_max_7cf53 2 (some .int) 0 [.int x0, .int x1] H (KC D cyI ad) (B_J9_max_7cf53  x0 x1) := by
  refine MofF (own := RJ9) (by decide +kernel) rfl rfl ?_
  intro p e s m args below meth c ls E hH K0 hl
  subst hH
  exact w_J9_max_7cf53 E K0  rfl hl
theorem ds_J9_max_7cf53 : Dsc yJ9_max_7cf53 2 := ⟨by decide +kernel, by decide +kernel, by decide +kernel⟩
end
section
variable {p : Program} {l : Launch} {e : Env} {s : State} {m : MethodId} {args : Array Value} {below : List Frame} {meth : Method} {c : Code} {D : va_G} {cyI : ClassId} {ad : Nat → Nat}
def B_J9_min_7cf53  (x0 x1 : Int32) : Int32 := if x1 < x0 then x1 else x0
set_option maxHeartbeats 4000000 in
set_option maxRecDepth 100000 in
theorem w_J9_min_7cf53 (E : EX p s m args meth c cJ9_min_7cf53 2 RJ9 (some .int)) (K0 : KC D cyI ad s s.heap)  {x0 x1 : Int32} {out : Int32} (h : B_J9_min_7cf53  x0 x1 = out) {ls : Array Slot} (hl : lv_has ls 2 [(0, .int x0), (1, .int x1)]) : W p l e (rmL 0) s m args below meth c s.heap [] 0 0 (MQ below (vp_Si (fun z => z = out)) args s 0 0 (fun _ => False)) (F0 m 0 ls []) := by
  unfold B_J9_min_7cf53 at h
  refine lv_iload_n E.hx E.hb dJ9_min_7cf53_0 rfl (lv_at hl 0 rfl) ?_
  refine lv_iload_n E.hx E.hb dJ9_min_7cf53_1 rfl (lv_at hl 1 rfl) ?_
  refine lv_icmp_gt (tgt := 9) E.hx E.hb dJ9_min_7cf53_2 (by decide) (fun c_1 => ?_) (fun c_1 => ?_)
  · rw [if_pos c_1] at h
    refine lv_iload_n E.hx E.hb dJ9_min_7cf53_9 rfl (lv_at hl 1 rfl) ?_
    exact W.iret E.hx E.hb E.hr (fun t ht _ => ⟨_, rfl, h, ht⟩) (fun q hq => nomatch hq) dJ9_min_7cf53_10 E.hk
  · rw [if_neg c_1] at h
    refine lv_iload_n E.hx E.hb dJ9_min_7cf53_5 rfl (lv_at hl 0 rfl) ?_
    refine lv_goto (tgt := 10) E.hx E.hb dJ9_min_7cf53_6 (by decide) ?_
    exact W.iret E.hx E.hb E.hr (fun t ht _ => ⟨_, rfl, h, ht⟩) (fun q hq => nomatch hq) dJ9_min_7cf53_10 E.hk
theorem c_J9_min_7cf53 (l : Launch) {H : Heap} {D : va_G} {cyI : ClassId} {ad : Nat → Nat} (x0 x1 : Int32) : MRO l yJ9_min_7cf53 cJ9_min_7cf53 2 (some .int) 0 [.int x0, .int x1] H (KC D cyI ad) (B_J9_min_7cf53  x0 x1) := by
  refine MofF (own := RJ9) (by decide +kernel) rfl rfl ?_
  intro p e s m args below meth c ls E hH K0 hl
  subst hH
  exact w_J9_min_7cf53 E K0  rfl hl
theorem ds_J9_min_7cf53 : Dsc yJ9_min_7cf53 2 := ⟨by decide +kernel, by decide +kernel, by decide +kernel⟩
end
section
variable {p : Program} {l : Launch} {e : Env} {s : State} {m : MethodId} {args : Array Value} {below : List Frame} {meth : Method} {c : Code} {D : va_G} {cyI : ClassId} {ad : Nat → Nat} {I : Nat → Int32} {A : Nat → Nat → Int32}
def B_X1_has (I : Nat → Int32) (A : Nat → Nat → Int32) (x1 x2 : Int32) : Int32 := if x1 < 0 then 0 else (if (I 5) ≤ x1 then 0 else (if x2 < 0 then 0 else (if (I 6) ≤ x2 then 0 else 1)))
set_option maxHeartbeats 4000000 in
set_option maxRecDepth 100000 in
theorem w_X1_has (E : EX p s m args meth c cX1_has 3 RX1 (some .boolean)) (K0 : KC D cyI ad s s.heap) (P : va_P D classes (cw cyI ad I A) s.heap)  {x1 x2 : Int32} {out : Int32} (h : B_X1_has I A x1 x2 = out) {ls : Array Slot} (hl : lv_has ls 3 [(0, .ref (ad 2)), (1, .int x1), (2, .int x2)]) : W p l e (rmL 0) s m args below meth c s.heap [] 0 0 (MQ below (vp_Si (fun z => z = out)) args s 0 0 (fun _ => False)) (F0 m 0 ls []) := by
  unfold B_X1_has at h
  refine lv_iload_n E.hx E.hb dX1_has_0 rfl (lv_at hl 1 rfl) ?_
  refine lv_if_lt (tgt := 28) E.hx E.hb dX1_has_1 (by decide) (fun c_1 => ?_) (fun c_1 => ?_)
  · rw [if_pos c_1] at h
    refine lv_iconst (v := 0) E.hx E.hb dX1_has_28 (by decide) ?_
    exact W.zret E.hx E.hb E.hr rfl (fun t ht _ => ⟨_, rfl, h, ht⟩) (fun q hq => nomatch hq) dX1_has_29 E.hk
  · rw [if_neg c_1] at h
    refine lv_iload_n E.hx E.hb dX1_has_4 rfl (lv_at hl 1 rfl) ?_
    refine lv_aload_n E.hx E.hb dX1_has_5 rfl (lv_at hl 0 rfl) ?_
    refine gf_X1_32 E K0 P dX1_has_6 ?_
    refine lv_icmp_ge (tgt := 28) E.hx E.hb dX1_has_9 (by decide) (fun c_2 => ?_) (fun c_2 => ?_)
    · rw [if_pos c_2] at h
      refine lv_iconst (v := 0) E.hx E.hb dX1_has_28 (by decide) ?_
      exact W.zret E.hx E.hb E.hr rfl (fun t ht _ => ⟨_, rfl, h, ht⟩) (fun q hq => nomatch hq) dX1_has_29 E.hk
    · rw [if_neg c_2] at h
      refine lv_iload_n E.hx E.hb dX1_has_12 rfl (lv_at hl 2 rfl) ?_
      refine lv_if_lt (tgt := 28) E.hx E.hb dX1_has_13 (by decide) (fun c_3 => ?_) (fun c_3 => ?_)
      · rw [if_pos c_3] at h
        refine lv_iconst (v := 0) E.hx E.hb dX1_has_28 (by decide) ?_
        exact W.zret E.hx E.hb E.hr rfl (fun t ht _ => ⟨_, rfl, h, ht⟩) (fun q hq => nomatch hq) dX1_has_29 E.hk
      · rw [if_neg c_3] at h
        refine lv_iload_n E.hx E.hb dX1_has_16 rfl (lv_at hl 2 rfl) ?_
        refine lv_aload_n E.hx E.hb dX1_has_17 rfl (lv_at hl 0 rfl) ?_
        refine gf_X1_36 E K0 P dX1_has_18 ?_
        refine lv_icmp_ge (tgt := 28) E.hx E.hb dX1_has_21 (by decide) (fun c_4 => ?_) (fun c_4 => ?_)
        · rw [if_pos c_4] at h
          refine lv_iconst (v := 0) E.hx E.hb dX1_has_28 (by decide) ?_
          exact W.zret E.hx E.hb E.hr rfl (fun t ht _ => ⟨_, rfl, h, ht⟩) (fun q hq => nomatch hq) dX1_has_29 E.hk
        · rw [if_neg c_4] at h
          refine lv_iconst (v := 1) E.hx E.hb dX1_has_24 (by decide) ?_
          refine lv_goto (tgt := 29) E.hx E.hb dX1_has_25 (by decide) ?_
          exact W.zret E.hx E.hb E.hr rfl (fun t ht _ => ⟨_, rfl, h, ht⟩) (fun q hq => nomatch hq) dX1_has_29 E.hk
theorem c_X1_has (l : Launch) {H : Heap} {D : va_G} {cyI : ClassId} {ad : Nat → Nat} {I : Nat → Int32} {A : Nat → Nat → Int32} (P : va_P D classes (cw cyI ad I A) H) (x1 x2 : Int32) : MRO l yX1_has cX1_has 3 (some .boolean) 0 [.ref (ad 2), .int x1, .int x2] H (KC D cyI ad) (B_X1_has I A x1 x2) := by
  refine Mof (own := RX1) (by decide +kernel) rfl rfl ?_
  intro p e s m args below meth c ls E hH K0 hl
  subst hH
  exact w_X1_has E K0 P rfl hl
theorem ds_X1_has : Dsc yX1_has 2 := ⟨by decide +kernel, by decide +kernel, by decide +kernel⟩
end
section
variable {p : Program} {l : Launch} {e : Env} {R : Room} {s : State} {m : MethodId} {args : Array Value} {below : List Frame} {meth : Method} {c : Code} {H : Heap} {locs : List Loc} {cells slots : Nat} {Q : State → Prop} {cc : ByteArray} {nL pc : Nat} {ret : Option FieldType} {ls : Array Slot} {rest : List Value} {D : va_G} {cyI : ClassId} {ad : Nat → Nat} {I : Nat → Int32} {A : Nat → Nat → Int32}
theorem iv_X1_55 (E : EX p s m args meth c cc nL RX1 ret) (K0 : KC D cyI ad s s.heap) (S : va_S (InN 44 ad) s.heap H locs) {a0 a1 : Int32} (hR : RmOk R cells slots 0 2) (hls : ls.size = nL) (hro : (rest.map fun v => v.category).sum ≤ 8) (hdg : decode cc pc = .ok (.invokestatic 55, 3)) (kk : W p l e R s m args below meth c H locs cells slots Q (F0 m (pc + 3) ls (.int (B_X6_numberOf a0 a1) :: rest))) : W p l e R s m args below meth c H locs cells slots Q (F0 m pc ls (.int a1 :: .int a0 :: rest)) :=
  cn_ro E (c_X6_numberOf l (H := H) (D := D) (cyI := cyI) (ad := ad) a0 a1 ) (K0.nm _ (List.mem_of_getElem? (i := 3) rfl)) kST_X6_numberOf kIN_X6 kCO_X6_numberOf ds_X6_numberOf rfl KC_blind (fun U _ hW => (K0.at S).warm hW) hR hls rfl hro hdg kk
end
section
variable {p : Program} {l : Launch} {e : Env} {R : Room} {s : State} {m : MethodId} {args : Array Value} {below : List Frame} {meth : Method} {c : Code} {H : Heap} {locs : List Loc} {cells slots : Nat} {Q : State → Prop} {cc : ByteArray} {nL pc : Nat} {ret : Option FieldType} {ls : Array Slot} {rest : List Value} {D : va_G} {cyI : ClassId} {ad : Nat → Nat} {I : Nat → Int32} {A : Nat → Nat → Int32}
theorem rat_X1_59 (E : EX p s m args meth c cc nL RX1 ret) (K0 : KC D cyI ad s s.heap) (P : va_P D classes (cw cyI ad I A) H) (S : va_S (InN 44 ad) s.heap H locs) {q0 q1 a b n : Nat} {f : Nat → Int32} (he : (cw cyI ad I A)[q0]? = some (b, .inr (4, [.ref a]))) (ha : (cw cyI ad I A)[q1]? = some (a, .inl (cyI, n, .inl f))) (hn : n < 2 ^ 31) {i : Int32} (hR : RmOk R cells slots 0 2) (hls : ls.size = nL) (hro : (rest.map fun v => v.category).sum ≤ 8) (hdg : decode cc pc = .ok (.invokevirtual 59, 3)) (kk : W p l e R s m args below meth c H locs cells slots Q (F0 m (pc + 3) ls (.int (rAt n f i) :: rest))) : W p l e R s m args below meth c H locs cells slots Q (F0 m pc ls (.int i :: .ref b :: rest)) :=
  cv_ro E (c_X4_at l (fun _ _ h => h.1) P q0 q1 he ha hn i) (gV kML_X1_59 kIM_X4_at kSE_X4_at kIN_X4 kCO_X4_at) rfl ds_X4_at rfl KC_blind (fun U _ hW => (K0.at S).warm hW) (va_recv K0.k P (show classes[4]? = some (RX4, TX4, 1) from rfl) he) hR hls rfl hro hdg kk
end
section
variable {p : Program} {l : Launch} {e : Env} {s : State} {m : MethodId} {args : Array Value} {below : List Frame} {meth : Method} {c : Code} {D : va_G} {cyI : ClassId} {ad : Nat → Nat} {I : Nat → Int32} {A : Nat → Nat → Int32}
def B_X1_directionAt (I : Nat → Int32) (A : Nat → Nat → Int32) (x1 x2 : Int32) : Int32 := (rAt 144 (A 8) ((B_X6_numberOf x1 x2)))
set_option maxHeartbeats 4000000 in
set_option maxRecDepth 100000 in
theorem w_X1_directionAt (E : EX p s m args meth c cX1_directionAt 3 RX1 (some .int)) (K0 : KC D cyI ad s s.heap) (P : va_P D classes (cw cyI ad I A) s.heap)  {x1 x2 : Int32} {out : Int32} (h : B_X1_directionAt I A x1 x2 = out) {ls : Array Slot} (hl : lv_has ls 3 [(0, .ref (ad 2)), (1, .int x1), (2, .int x2)]) : W p l e (rmL 1) s m args below meth c s.heap [] 0 0 (MQ below (vp_Si (fun z => z = out)) args s 0 0 (fun _ => False)) (F0 m 0 ls []) := by
  unfold B_X1_directionAt at h
  refine lv_aload_n E.hx E.hb dX1_directionAt_0 rfl (lv_at hl 0 rfl) ?_
  refine gf_X1_14 E K0 P dX1_directionAt_1 ?_
  refine lv_iload_n E.hx E.hb dX1_directionAt_4 rfl (lv_at hl 1 rfl) ?_
  refine lv_iload_n E.hx E.hb dX1_directionAt_5 rfl (lv_at hl 2 rfl) ?_
  refine iv_X1_55 E K0 va_S.rf (by decide) hl.1 (Nat.le_of_ble_eq_true rfl) dX1_directionAt_6 ?_
  refine rat_X1_59 E K0 P va_S.rf cw_r8 cw_a8 (by decide) (by decide) hl.1 (Nat.le_of_ble_eq_true rfl) dX1_directionAt_9 ?_
  exact W.iret E.hx E.hb E.hr (fun t ht _ => ⟨_, rfl, h, ht⟩) (fun q hq => nomatch hq) dX1_directionAt_12 E.hk
theorem c_X1_directionAt (l : Launch) {H : Heap} {D : va_G} {cyI : ClassId} {ad : Nat → Nat} {I : Nat → Int32} {A : Nat → Nat → Int32} (P : va_P D classes (cw cyI ad I A) H) (x1 x2 : Int32) : MRO l yX1_directionAt cX1_directionAt 3 (some .int) 1 [.ref (ad 2), .int x1, .int x2] H (KC D cyI ad) (B_X1_directionAt I A x1 x2) := by
  refine Mof (own := RX1) (by decide +kernel) rfl rfl ?_
  intro p e s m args below meth c ls E hH K0 hl
  subst hH
  exact w_X1_directionAt E K0 P rfl hl
theorem ds_X1_directionAt : Dsc yX1_directionAt 2 := ⟨by decide +kernel, by decide +kernel, by decide +kernel⟩
end
section
variable {p : Program} {l : Launch} {e : Env} {R : Room} {s : State} {m : MethodId} {args : Array Value} {below : List Frame} {meth : Method} {c : Code} {H : Heap} {locs : List Loc} {cells slots : Nat} {Q : State → Prop} {cc : ByteArray} {nL pc : Nat} {ret : Option FieldType} {ls : Array Slot} {rest : List Value} {D : va_G} {cyI : ClassId} {ad : Nat → Nat} {I : Nat → Int32} {A : Nat → Nat → Int32}
theorem rat_X3_49 (E : EX p s m args meth c cc nL RX3 ret) (K0 : KC D cyI ad s s.heap) (P : va_P D classes (cw cyI ad I A) H) (S : va_S (InN 44 ad) s.heap H locs) {q0 q1 a b n : Nat} {f : Nat → Int32} (he : (cw cyI ad I A)[q0]? = some (b, .inr (4, [.ref a]))) (ha : (cw cyI ad I A)[q1]? = some (a, .inl (cyI, n, .inl f))) (hn : n < 2 ^ 31) {i : Int32} (hR : RmOk R cells slots 0 2) (hls : ls.size = nL) (hro : (rest.map fun v => v.category).sum ≤ 8) (hdg : decode cc pc = .ok (.invokevirtual 49, 3)) (kk : W p l e R s m args below meth c H locs cells slots Q (F0 m (pc + 3) ls (.int (rAt n f i) :: rest))) : W p l e R s m args below meth c H locs cells slots Q (F0 m pc ls (.int i :: .ref b :: rest)) :=
  cv_ro E (c_X4_at l (fun _ _ h => h.1) P q0 q1 he ha hn i) (gV kML_X3_49 kIM_X4_at kSE_X4_at kIN_X4 kCO_X4_at) rfl ds_X4_at rfl KC_blind (fun U _ hW => (K0.at S).warm hW) (va_recv K0.k P (show classes[4]? = some (RX4, TX4, 1) from rfl) he) hR hls rfl hro hdg kk
end
section
variable {p : Program} {l : Launch} {e : Env} {s : State} {m : MethodId} {args : Array Value} {below : List Frame} {meth : Method} {c : Code} {D : va_G} {cyI : ClassId} {ad : Nat → Nat} {I : Nat → Int32} {A : Nat → Nat → Int32}
def B_X3_fieldStrength (I : Nat → Int32) (A : Nat → Nat → Int32) (x1 : Int32) : Int32 := (rAt 8 (A 5) x1)
set_option maxHeartbeats 4000000 in
set_option maxRecDepth 100000 in
theorem w_X3_fieldStrength (E : EX p s m args meth c cX3_fieldStrength 2 RX3 (some .int)) (K0 : KC D cyI ad s s.heap) (P : va_P D classes (cw cyI ad I A) s.heap)  {x1 : Int32} {out : Int32} (h : B_X3_fieldStrength I A x1 = out) {ls : Array Slot} (hl : lv_has ls 2 [(0, .ref (ad 1)), (1, .int x1)]) : W p l e (rmL 1) s m args below meth c s.heap [] 0 0 (MQ below (vp_Si (fun z => z = out)) args s 0 0 (fun _ => False)) (F0 m 0 ls []) := by
  unfold B_X3_fieldStrength at h
  refine lv_aload_n E.hx E.hb dX3_fieldStrength_0 rfl (lv_at hl 0 rfl) ?_
  refine gf_X3_32 E K0 P dX3_fieldStrength_1 ?_
  refine lv_iload_n E.hx E.hb dX3_fieldStrength_4 rfl (lv_at hl 1 rfl) ?_
  refine rat_X3_49 E K0 P va_S.rf cw_r5 cw_a5 (by decide) (by decide) hl.1 (Nat.le_of_ble_eq_true rfl) dX3_fieldStrength_5 ?_
  exact W.iret E.hx E.hb E.hr (fun t ht _ => ⟨_, rfl, h, ht⟩) (fun q hq => nomatch hq) dX3_fieldStrength_8 E.hk
theorem c_X3_fieldStrength (l : Launch) {H : Heap} {D : va_G} {cyI : ClassId} {ad : Nat → Nat} {I : Nat → Int32} {A : Nat → Nat → Int32} (P : va_P D classes (cw cyI ad I A) H) (x1 : Int32) : MRO l yX3_fieldStrength cX3_fieldStrength 2 (some .int) 1 [.ref (ad 1), .int x1] H (KC D cyI ad) (B_X3_fieldStrength I A x1) := by
  refine Mof (own := RX3) (by decide +kernel) rfl rfl ?_
  intro p e s m args below meth c ls E hH K0 hl
  subst hH
  exact w_X3_fieldStrength E K0 P rfl hl
theorem ds_X3_fieldStrength : Dsc yX3_fieldStrength 1 := ⟨by decide +kernel, by decide +kernel, by decide +kernel⟩
end
section
variable {p : Program} {l : Launch} {e : Env} {s : State} {m : MethodId} {args : Array Value} {below : List Frame} {meth : Method} {c : Code} {D : va_G} {cyI : ClassId} {ad : Nat → Nat} {I : Nat → Int32} {A : Nat → Nat → Int32}
def B_X3_fieldDirection (I : Nat → Int32) (A : Nat → Nat → Int32) (x1 : Int32) : Int32 := (rAt 8 (A 4) x1)
set_option maxHeartbeats 4000000 in
set_option maxRecDepth 100000 in
theorem w_X3_fieldDirection (E : EX p s m args meth c cX3_fieldDirection 2 RX3 (some .int)) (K0 : KC D cyI ad s s.heap) (P : va_P D classes (cw cyI ad I A) s.heap)  {x1 : Int32} {out : Int32} (h : B_X3_fieldDirection I A x1 = out) {ls : Array Slot} (hl : lv_has ls 2 [(0, .ref (ad 1)), (1, .int x1)]) : W p l e (rmL 1) s m args below meth c s.heap [] 0 0 (MQ below (vp_Si (fun z => z = out)) args s 0 0 (fun _ => False)) (F0 m 0 ls []) := by
  unfold B_X3_fieldDirection at h
  refine lv_aload_n E.hx E.hb dX3_fieldDirection_0 rfl (lv_at hl 0 rfl) ?_
  refine gf_X3_29 E K0 P dX3_fieldDirection_1 ?_
  refine lv_iload_n E.hx E.hb dX3_fieldDirection_4 rfl (lv_at hl 1 rfl) ?_
  refine rat_X3_49 E K0 P va_S.rf cw_r4 cw_a4 (by decide) (by decide) hl.1 (Nat.le_of_ble_eq_true rfl) dX3_fieldDirection_5 ?_
  exact W.iret E.hx E.hb E.hr (fun t ht _ => ⟨_, rfl, h, ht⟩) (fun q hq => nomatch hq) dX3_fieldDirection_8 E.hk
theorem c_X3_fieldDirection (l : Launch) {H : Heap} {D : va_G} {cyI : ClassId} {ad : Nat → Nat} {I : Nat → Int32} {A : Nat → Nat → Int32} (P : va_P D classes (cw cyI ad I A) H) (x1 : Int32) : MRO l yX3_fieldDirection cX3_fieldDirection 2 (some .int) 1 [.ref (ad 1), .int x1] H (KC D cyI ad) (B_X3_fieldDirection I A x1) := by
  refine Mof (own := RX3) (by decide +kernel) rfl rfl ?_
  intro p e s m args below meth c ls E hH K0 hl
  subst hH
  exact w_X3_fieldDirection E K0 P rfl hl
theorem ds_X3_fieldDirection : Dsc yX3_fieldDirection 1 := ⟨by decide +kernel, by decide +kernel, by decide +kernel⟩
end
section
variable {p : Program} {l : Launch} {e : Env} {R : Room} {s : State} {m : MethodId} {args : Array Value} {below : List Frame} {meth : Method} {c : Code} {H : Heap} {locs : List Loc} {cells slots : Nat} {Q : State → Prop} {cc : ByteArray} {nL pc : Nat} {ret : Option FieldType} {ls : Array Slot} {rest : List Value} {D : va_G} {cyI : ClassId} {ad : Nat → Nat} {I : Nat → Int32} {A : Nat → Nat → Int32}
theorem iv_X1_73 (E : EX p s m args meth c cc nL RX1 ret) (K0 : KC D cyI ad s s.heap) (P : va_P D classes (cw cyI ad I A) H) (S : va_S (InN 44 ad) s.heap H locs) {a0 : Int32} (hR : RmOk R cells slots 1 2) (hls : ls.size = nL) (hro : (rest.map fun v => v.category).sum ≤ 8) (hdg : decode cc pc = .ok (.invokevirtual 73, 3)) (kk : W p l e R s m args below meth c H locs cells slots Q (F0 m (pc + 3) ls (.int (B_X3_fieldStrength I A a0) :: rest))) : W p l e R s m args below meth c H locs cells slots Q (F0 m pc ls (.int a0 :: .ref (ad 1) :: rest)) :=
  cv_ro E (c_X3_fieldStrength l P a0 ) (gV kML_X1_73 kIM_X3_fieldStrength kSE_X3_fieldStrength kIN_X3 kCO_X3_fieldStrength) rfl ds_X3_fieldStrength rfl KC_blind (fun U _ hW => (K0.at S).warm hW) (va_recv K0.k P (show classes[3]? = some (RX3, TX3, 9) from rfl) cw_g1) hR hls rfl hro hdg kk
end
section
variable {p : Program} {l : Launch} {e : Env} {R : Room} {s : State} {m : MethodId} {args : Array Value} {below : List Frame} {meth : Method} {c : Code} {H : Heap} {locs : List Loc} {cells slots : Nat} {Q : State → Prop} {cc : ByteArray} {nL pc : Nat} {ret : Option FieldType} {ls : Array Slot} {rest : List Value} {D : va_G} {cyI : ClassId} {ad : Nat → Nat} {I : Nat → Int32} {A : Nat → Nat → Int32}
theorem iv_X1_78 (E : EX p s m args meth c cc nL RX1 ret) (K0 : KC D cyI ad s s.heap) (P : va_P D classes (cw cyI ad I A) H) (S : va_S (InN 44 ad) s.heap H locs) {a0 : Int32} (hR : RmOk R cells slots 1 2) (hls : ls.size = nL) (hro : (rest.map fun v => v.category).sum ≤ 8) (hdg : decode cc pc = .ok (.invokevirtual 78, 3)) (kk : W p l e R s m args below meth c H locs cells slots Q (F0 m (pc + 3) ls (.int (B_X3_fieldDirection I A a0) :: rest))) : W p l e R s m args below meth c H locs cells slots Q (F0 m pc ls (.int a0 :: .ref (ad 1) :: rest)) :=
  cv_ro E (c_X3_fieldDirection l P a0 ) (gV kML_X1_78 kIM_X3_fieldDirection kSE_X3_fieldDirection kIN_X3 kCO_X3_fieldDirection) rfl ds_X3_fieldDirection rfl KC_blind (fun U _ hW => (K0.at S).warm hW) (va_recv K0.k P (show classes[3]? = some (RX3, TX3, 9) from rfl) cw_g1) hR hls rfl hro hdg kk
end
section
variable {p : Program} {l : Launch} {e : Env} {R : Room} {s : State} {m : MethodId} {args : Array Value} {below : List Frame} {meth : Method} {c : Code} {H : Heap} {locs : List Loc} {cells slots : Nat} {Q : State → Prop} {cc : ByteArray} {nL pc : Nat} {ret : Option FieldType} {ls : Array Slot} {rest : List Value} {D : va_G} {cyI : ClassId} {ad : Nat → Nat} {I : Nat → Int32} {A : Nat → Nat → Int32}
theorem iv_X1_70 (E : EX p s m args meth c cc nL RX1 ret) (K0 : KC D cyI ad s s.heap) (S : va_S (InN 44 ad) s.heap H locs) {a0 a1 : Int32} (hR : RmOk R cells slots 1 3) (hls : ls.size = nL) (hro : (rest.map fun v => v.category).sum ≤ 8) (hdg : decode cc pc = .ok (.invokestatic 70, 3)) (kk : W p l e R s m args below meth c H locs cells slots Q (F0 m (pc + 3) ls (.int (B_X6_squareApart a0 a1) :: rest))) : W p l e R s m args below meth c H locs cells slots Q (F0 m pc ls (.int a1 :: .int a0 :: rest)) :=
  cn_ro E (c_X6_squareApart l (H := H) (D := D) (cyI := cyI) (ad := ad) a0 a1 ) (K0.nm _ (List.mem_of_getElem? (i := 4) rfl)) kST_X6_squareApart kIN_X6 kCO_X6_squareApart ds_X6_squareApart rfl KC_blind (fun U _ hW => (K0.at S).warm hW) hR hls rfl hro hdg kk
end
section
variable {p : Program} {l : Launch} {e : Env} {s : State} {m : MethodId} {args : Array Value} {below : List Frame} {meth : Method} {c : Code} {D : va_G} {cyI : ClassId} {ad : Nat → Nat} {I : Nat → Int32} {A : Nat → Nat → Int32}
def B_X1_heldWith_J38  (I : Nat → Int32) (A : Nat → Nat → Int32) (x1 x2 x3 : Int32) : Int32 := if (rAt 144 (A 12) x1) = (-1) then x3 else (x3 + ((B_X3_fieldStrength I A ((rAt 144 (A 12) x1))) * (B_X6_squareApart ((B_X3_fieldDirection I A ((rAt 144 (A 12) x1)))) x2)))
set_option maxHeartbeats 4000000 in
set_option maxRecDepth 100000 in
theorem w_X1_heldWith_J38 (E : EX p s m args meth c cX1_heldWith 5 RX1 (some .int)) (K0 : KC D cyI ad s s.heap) (P : va_P D classes (cw cyI ad I A) s.heap) {x1 x2 x3 : Int32} {out : Int32} (h : B_X1_heldWith_J38  I A x1 x2 x3 = out) {ls : Array Slot} (hl : lv_has ls 5 [(0, .ref (ad 2)), (1, .int x1), (2, .int x2), (3, .int x3)]) : W p l e (rmL 2) s m args below meth c s.heap [] 0 0 (MQ below (vp_Si (fun z => z = out)) args s 0 0 (fun _ => False)) (F0 m 38 ls []) := by
  unfold B_X1_heldWith_J38 at h
  refine lv_aload_n E.hx E.hb dX1_heldWith_38 rfl (lv_at hl 0 rfl) ?_
  refine gf_X1_29 E K0 P dX1_heldWith_39 ?_
  refine lv_iload_n E.hx E.hb dX1_heldWith_42 rfl (lv_at hl 1 rfl) ?_
  refine rat_X1_59 E K0 P va_S.rf cw_r12 cw_a12 (by decide) (by decide) hl.1 (Nat.le_of_ble_eq_true rfl) dX1_heldWith_43 ?_
  refine lv_istore (lv' := [(4, .int (rAt 144 (A 12) x1)), (0, .ref (ad 2)), (1, .int x1), (2, .int x2), (3, .int x3)]) E.hx E.hb dX1_heldWith_46 hl (by decide) rfl (fun ls hl => ?_)
  refine lv_iload E.hx E.hb dX1_heldWith_48 (lv_at hl 0 rfl) ?_
  refine lv_iconst (v := (-1)) E.hx E.hb dX1_heldWith_50 (by decide) ?_
  refine lv_icmp_eq (tgt := 80) E.hx E.hb dX1_heldWith_51 (by decide) (fun c_2 => ?_) (fun c_2 => ?_)
  · rw [if_pos c_2] at h
    refine lv_iload_n E.hx E.hb dX1_heldWith_80 rfl (lv_at hl 4 rfl) ?_
    exact W.iret E.hx E.hb E.hr (fun t ht _ => ⟨_, rfl, h, ht⟩) (fun q hq => nomatch hq) dX1_heldWith_81 E.hk
  · rw [if_neg c_2] at h
    refine lv_iload_n E.hx E.hb dX1_heldWith_54 rfl (lv_at hl 4 rfl) ?_
    refine lv_aload_n E.hx E.hb dX1_heldWith_55 rfl (lv_at hl 1 rfl) ?_
    refine gf_X1_45 E K0 P dX1_heldWith_56 ?_
    refine lv_iload E.hx E.hb dX1_heldWith_59 (lv_at hl 0 rfl) ?_
    refine iv_X1_73 E K0 P va_S.rf (by decide) hl.1 (Nat.le_of_ble_eq_true rfl) dX1_heldWith_61 ?_
    refine lv_aload_n E.hx E.hb dX1_heldWith_64 rfl (lv_at hl 1 rfl) ?_
    refine gf_X1_45 E K0 P dX1_heldWith_65 ?_
    refine lv_iload E.hx E.hb dX1_heldWith_68 (lv_at hl 0 rfl) ?_
    refine iv_X1_78 E K0 P va_S.rf (by decide) hl.1 (Nat.le_of_ble_eq_true rfl) dX1_heldWith_70 ?_
    refine lv_iload_n E.hx E.hb dX1_heldWith_73 rfl (lv_at hl 3 rfl) ?_
    refine iv_X1_70 E K0 va_S.rf (by decide) hl.1 (Nat.le_of_ble_eq_true rfl) dX1_heldWith_74 ?_
    refine lv_imul E.hx E.hb dX1_heldWith_77 ?_
    refine lv_iadd E.hx E.hb dX1_heldWith_78 ?_
    refine lv_istore_n (lv' := [(3, .int (x3 + ((B_X3_fieldStrength I A ((rAt 144 (A 12) x1))) * (B_X6_squareApart ((B_X3_fieldDirection I A ((rAt 144 (A 12) x1)))) x2)))), (4, .int (rAt 144 (A 12) x1)), (0, .ref (ad 2)), (1, .int x1), (2, .int x2)]) E.hx E.hb dX1_heldWith_79 rfl hl (by decide) rfl (fun ls hl => ?_)
    refine lv_iload_n E.hx E.hb dX1_heldWith_80 rfl (lv_at hl 0 rfl) ?_
    exact W.iret E.hx E.hb E.hr (fun t ht _ => ⟨_, rfl, h, ht⟩) (fun q hq => nomatch hq) dX1_heldWith_81 E.hk
def B_X1_heldWith (I : Nat → Int32) (A : Nat → Nat → Int32) (x1 x2 : Int32) : Int32 := if (rAt 144 (A 9) x1) = 2 then B_X1_heldWith_J38  I A x1 x2 ((0 + ((rAt 144 (A 11) x1) * (B_X6_squareApart ((rAt 144 (A 10) x1)) x2)))) else B_X1_heldWith_J38  I A x1 x2 0
set_option maxHeartbeats 4000000 in
set_option maxRecDepth 100000 in
theorem w_X1_heldWith (E : EX p s m args meth c cX1_heldWith 5 RX1 (some .int)) (K0 : KC D cyI ad s s.heap) (P : va_P D classes (cw cyI ad I A) s.heap)  {x1 x2 : Int32} {out : Int32} (h : B_X1_heldWith I A x1 x2 = out) {ls : Array Slot} (hl : lv_has ls 5 [(0, .ref (ad 2)), (1, .int x1), (2, .int x2)]) : W p l e (rmL 2) s m args below meth c s.heap [] 0 0 (MQ below (vp_Si (fun z => z = out)) args s 0 0 (fun _ => False)) (F0 m 0 ls []) := by
  unfold B_X1_heldWith at h
  refine lv_iconst (v := 0) E.hx E.hb dX1_heldWith_0 (by decide) ?_
  refine lv_istore_n (lv' := [(3, .int 0), (0, .ref (ad 2)), (1, .int x1), (2, .int x2)]) E.hx E.hb dX1_heldWith_1 rfl hl (by decide) rfl (fun ls hl => ?_)
  refine lv_aload_n E.hx E.hb dX1_heldWith_2 rfl (lv_at hl 1 rfl) ?_
  refine gf_X1_20 E K0 P dX1_heldWith_3 ?_
  refine lv_iload_n E.hx E.hb dX1_heldWith_6 rfl (lv_at hl 2 rfl) ?_
  refine rat_X1_59 E K0 P va_S.rf cw_r9 cw_a9 (by decide) (by decide) hl.1 (Nat.le_of_ble_eq_true rfl) dX1_heldWith_7 ?_
  refine lv_iconst (v := 2) E.hx E.hb dX1_heldWith_10 (by decide) ?_
  refine lv_icmp_ne (tgt := 38) E.hx E.hb dX1_heldWith_11 (by decide) (fun c_1 => ?_) (fun c_1 => ?_)
  · rw [if_neg c_1] at h
    exact w_X1_heldWith_J38 E K0 P h (lv_sub hl [1, 2, 3, 0] rfl)
  · rw [if_pos c_1] at h
    refine lv_iload_n E.hx E.hb dX1_heldWith_14 rfl (lv_at hl 0 rfl) ?_
    refine lv_aload_n E.hx E.hb dX1_heldWith_15 rfl (lv_at hl 1 rfl) ?_
    refine gf_X1_26 E K0 P dX1_heldWith_16 ?_
    refine lv_iload_n E.hx E.hb dX1_heldWith_19 rfl (lv_at hl 2 rfl) ?_
    refine rat_X1_59 E K0 P va_S.rf cw_r11 cw_a11 (by decide) (by decide) hl.1 (Nat.le_of_ble_eq_true rfl) dX1_heldWith_20 ?_
    refine lv_aload_n E.hx E.hb dX1_heldWith_23 rfl (lv_at hl 1 rfl) ?_
    refine gf_X1_23 E K0 P dX1_heldWith_24 ?_
    refine lv_iload_n E.hx E.hb dX1_heldWith_27 rfl (lv_at hl 2 rfl) ?_
    refine rat_X1_59 E K0 P va_S.rf cw_r10 cw_a10 (by decide) (by decide) hl.1 (Nat.le_of_ble_eq_true rfl) dX1_heldWith_28 ?_
    refine lv_iload_n E.hx E.hb dX1_heldWith_31 rfl (lv_at hl 3 rfl) ?_
    refine iv_X1_70 E K0 va_S.rf (by decide) hl.1 (Nat.le_of_ble_eq_true rfl) dX1_heldWith_32 ?_
    refine lv_imul E.hx E.hb dX1_heldWith_35 ?_
    refine lv_iadd E.hx E.hb dX1_heldWith_36 ?_
    refine lv_istore_n (lv' := [(3, .int (0 + ((rAt 144 (A 11) x1) * (B_X6_squareApart ((rAt 144 (A 10) x1)) x2)))), (0, .ref (ad 2)), (1, .int x1), (2, .int x2)]) E.hx E.hb dX1_heldWith_37 rfl hl (by decide) rfl (fun ls hl => ?_)
    exact w_X1_heldWith_J38 E K0 P h (lv_sub hl [1, 2, 3, 0] rfl)
theorem c_X1_heldWith (l : Launch) {H : Heap} {D : va_G} {cyI : ClassId} {ad : Nat → Nat} {I : Nat → Int32} {A : Nat → Nat → Int32} (P : va_P D classes (cw cyI ad I A) H) (x1 x2 : Int32) : MRO l yX1_heldWith cX1_heldWith 5 (some .int) 2 [.ref (ad 2), .int x1, .int x2] H (KC D cyI ad) (B_X1_heldWith I A x1 x2) := by
  refine Mof (own := RX1) (by decide +kernel) rfl rfl ?_
  intro p e s m args below meth c ls E hH K0 hl
  subst hH
  exact w_X1_heldWith E K0 P rfl hl
theorem ds_X1_heldWith : Dsc yX1_heldWith 2 := ⟨by decide +kernel, by decide +kernel, by decide +kernel⟩
end
section
variable {p : Program} {l : Launch} {e : Env} {R : Room} {s : State} {m : MethodId} {args : Array Value} {below : List Frame} {meth : Method} {c : Code} {H : Heap} {locs : List Loc} {cells slots : Nat} {Q : State → Prop} {cc : ByteArray} {nL pc : Nat} {ret : Option FieldType} {ls : Array Slot} {rest : List Value} {D : va_G} {cyI : ClassId} {ad : Nat → Nat} {I : Nat → Int32} {A : Nat → Nat → Int32}
theorem iv_X1_81 (E : EX p s m args meth c cc nL RX1 ret) (K0 : KC D cyI ad s s.heap) (P : va_P D classes (cw cyI ad I A) H) (S : va_S (InN 44 ad) s.heap H locs) {a0 a1 : Int32} (hR : RmOk R cells slots 2 5) (hls : ls.size = nL) (hro : (rest.map fun v => v.category).sum ≤ 8) (hdg : decode cc pc = .ok (.invokevirtual 81, 3)) (kk : W p l e R s m args below meth c H locs cells slots Q (F0 m (pc + 3) ls (.int (B_X1_heldWith I A a0 a1) :: rest))) : W p l e R s m args below meth c H locs cells slots Q (F0 m pc ls (.int a1 :: .int a0 :: .ref (ad 2) :: rest)) :=
  cv_ro E (c_X1_heldWith l P a0 a1 ) (gV kML_X1_81 kIM_X1_heldWith kSE_X1_heldWith kIN_X1 kCO_X1_heldWith) rfl ds_X1_heldWith rfl KC_blind (fun U _ hW => (K0.at S).warm hW) (va_recv K0.k P (show classes[1]? = some (RX1, TX1, 11) from rfl) cw_g2) hR hls rfl hro hdg kk
end
section
variable {p : Program} {l : Launch} {e : Env} {R : Room} {s : State} {m : MethodId} {args : Array Value} {below : List Frame} {meth : Method} {c : Code} {H : Heap} {locs : List Loc} {cells slots : Nat} {Q : State → Prop} {cc : ByteArray} {nL pc : Nat} {ret : Option FieldType} {ls : Array Slot} {rest : List Value} {D : va_G} {cyI : ClassId} {ad : Nat → Nat} {I : Nat → Int32} {A : Nat → Nat → Int32}
theorem iv_X1_84 (E : EX p s m args meth c cc nL RX1 ret) (K0 : KC D cyI ad s s.heap) (P : va_P D classes (cw cyI ad I A) H) (S : va_S (InN 44 ad) s.heap H locs) {a0 a1 : Int32} (hR : RmOk R cells slots 0 3) (hls : ls.size = nL) (hro : (rest.map fun v => v.category).sum ≤ 8) (hdg : decode cc pc = .ok (.invokevirtual 84, 3)) (kk : W p l e R s m args below meth c H locs cells slots Q (F0 m (pc + 3) ls (.int (B_X1_has I A a0 a1) :: rest))) : W p l e R s m args below meth c H locs cells slots Q (F0 m pc ls (.int a1 :: .int a0 :: .ref (ad 2) :: rest)) :=
  cv_ro E (c_X1_has l P a0 a1 ) (gV kML_X1_84 kIM_X1_has kSE_X1_has kIN_X1 kCO_X1_has) rfl ds_X1_has rfl KC_blind (fun U _ hW => (K0.at S).warm hW) (va_recv K0.k P (show classes[1]? = some (RX1, TX1, 11) from rfl) cw_g2) hR hls rfl hro hdg kk
end
section
variable {p : Program} {l : Launch} {e : Env} {R : Room} {s : State} {m : MethodId} {args : Array Value} {below : List Frame} {meth : Method} {c : Code} {H : Heap} {locs : List Loc} {cells slots : Nat} {Q : State → Prop} {cc : ByteArray} {nL pc : Nat} {ret : Option FieldType} {ls : Array Slot} {rest : List Value} {D : va_G} {cyI : ClassId} {ad : Nat → Nat} {I : Nat → Int32} {A : Nat → Nat → Int32}
theorem iv_X1_88 (E : EX p s m args meth c cc nL RX1 ret) (K0 : KC D cyI ad s s.heap) (P : va_P D classes (cw cyI ad I A) H) (S : va_S (InN 44 ad) s.heap H locs) {a0 a1 : Int32} (hR : RmOk R cells slots 1 3) (hls : ls.size = nL) (hro : (rest.map fun v => v.category).sum ≤ 8) (hdg : decode cc pc = .ok (.invokevirtual 88, 3)) (kk : W p l e R s m args below meth c H locs cells slots Q (F0 m (pc + 3) ls (.int (B_X1_directionAt I A a0 a1) :: rest))) : W p l e R s m args below meth c H locs cells slots Q (F0 m pc ls (.int a1 :: .int a0 :: .ref (ad 2) :: rest)) :=
  cv_ro E (c_X1_directionAt l P a0 a1 ) (gV kML_X1_88 kIM_X1_directionAt kSE_X1_directionAt kIN_X1 kCO_X1_directionAt) rfl ds_X1_directionAt rfl KC_blind (fun U _ hW => (K0.at S).warm hW) (va_recv K0.k P (show classes[1]? = some (RX1, TX1, 11) from rfl) cw_g2) hR hls rfl hro hdg kk
end
section
variable {p : Program} {l : Launch} {e : Env} {s : State} {m : MethodId} {args : Array Value} {below : List Frame} {meth : Method} {c : Code} {D : va_G} {cyI : ClassId} {ad : Nat → Nat} {I : Nat → Int32} {A : Nat → Nat → Int32}
def B_X1_energyWith_J111  (I : Nat → Int32) (A : Nat → Nat → Int32) (x1 x2 x3 x4 : Int32) : Int32 := if (B_X1_has I A x1 ((x2 + 1))) = 0 then x4 else (x4 + ((I 8) * (B_X6_squareApart ((B_X1_directionAt I A x1 ((x2 + 1)))) x3)))
set_option maxHeartbeats 4000000 in
set_option maxRecDepth 100000 in
theorem w_X1_energyWith_J111 (E : EX p s m args meth c cX1_energyWith 5 RX1 (some .int)) (K0 : KC D cyI ad s s.heap) (P : va_P D classes (cw cyI ad I A) s.heap) {x1 x2 x3 x4 : Int32} {out : Int32} (h : B_X1_energyWith_J111  I A x1 x2 x3 x4 = out) {ls : Array Slot} (hl : lv_has ls 5 [(0, .ref (ad 2)), (1, .int x1), (2, .int x2), (3, .int x3), (4, .int x4)]) : W p l e (rmL 3) s m args below meth c s.heap [] 0 0 (MQ below (vp_Si (fun z => z = out)) args s 0 0 (fun _ => False)) (F0 m 111 ls []) := by
  unfold B_X1_energyWith_J111 at h
  refine lv_aload_n E.hx E.hb dX1_energyWith_111 rfl (lv_at hl 0 rfl) ?_
  refine lv_iload_n E.hx E.hb dX1_energyWith_112 rfl (lv_at hl 1 rfl) ?_
  refine lv_iload_n E.hx E.hb dX1_energyWith_113 rfl (lv_at hl 2 rfl) ?_
  refine lv_iconst (v := 1) E.hx E.hb dX1_energyWith_114 (by decide) ?_
  refine lv_iadd E.hx E.hb dX1_energyWith_115 ?_
  refine iv_X1_84 E K0 P va_S.rf (by decide) hl.1 (Nat.le_of_ble_eq_true rfl) dX1_energyWith_116 ?_
  refine lv_if_eq (tgt := 144) E.hx E.hb dX1_energyWith_119 (by decide) (fun c_4 => ?_) (fun c_4 => ?_)
  · rw [if_pos c_4] at h
    refine lv_iload E.hx E.hb dX1_energyWith_144 (lv_at hl 4 rfl) ?_
    exact W.iret E.hx E.hb E.hr (fun t ht _ => ⟨_, rfl, h, ht⟩) (fun q hq => nomatch hq) dX1_energyWith_146 E.hk
  · rw [if_neg c_4] at h
    refine lv_iload E.hx E.hb dX1_energyWith_122 (lv_at hl 4 rfl) ?_
    refine lv_aload_n E.hx E.hb dX1_energyWith_124 rfl (lv_at hl 0 rfl) ?_
    refine gf_X1_42 E K0 P dX1_energyWith_125 ?_
    refine lv_aload_n E.hx E.hb dX1_energyWith_128 rfl (lv_at hl 0 rfl) ?_
    refine lv_iload_n E.hx E.hb dX1_energyWith_129 rfl (lv_at hl 1 rfl) ?_
    refine lv_iload_n E.hx E.hb dX1_energyWith_130 rfl (lv_at hl 2 rfl) ?_
    refine lv_iconst (v := 1) E.hx E.hb dX1_energyWith_131 (by decide) ?_
    refine lv_iadd E.hx E.hb dX1_energyWith_132 ?_
    refine iv_X1_88 E K0 P va_S.rf (by decide) hl.1 (Nat.le_of_ble_eq_true rfl) dX1_energyWith_133 ?_
    refine lv_iload_n E.hx E.hb dX1_energyWith_136 rfl (lv_at hl 3 rfl) ?_
    refine iv_X1_70 E K0 va_S.rf (by decide) hl.1 (Nat.le_of_ble_eq_true rfl) dX1_energyWith_137 ?_
    refine lv_imul E.hx E.hb dX1_energyWith_140 ?_
    refine lv_iadd E.hx E.hb dX1_energyWith_141 ?_
    refine lv_istore (lv' := [(4, .int (x4 + ((I 8) * (B_X6_squareApart ((B_X1_directionAt I A x1 ((x2 + 1)))) x3)))), (0, .ref (ad 2)), (1, .int x1), (2, .int x2), (3, .int x3)]) E.hx E.hb dX1_energyWith_142 hl (by decide) rfl (fun ls hl => ?_)
    refine lv_iload E.hx E.hb dX1_energyWith_144 (lv_at hl 0 rfl) ?_
    exact W.iret E.hx E.hb E.hr (fun t ht _ => ⟨_, rfl, h, ht⟩) (fun q hq => nomatch hq) dX1_energyWith_146 E.hk
def B_X1_energyWith_J78  (I : Nat → Int32) (A : Nat → Nat → Int32) (x1 x2 x3 x4 : Int32) : Int32 := if (B_X1_has I A x1 ((x2 - 1))) = 0 then B_X1_energyWith_J111  I A x1 x2 x3 x4 else B_X1_energyWith_J111  I A x1 x2 x3 ((x4 + ((I 8) * (B_X6_squareApart ((B_X1_directionAt I A x1 ((x2 - 1)))) x3))))
set_option maxHeartbeats 4000000 in
set_option maxRecDepth 100000 in
theorem w_X1_energyWith_J78 (E : EX p s m args meth c cX1_energyWith 5 RX1 (some .int)) (K0 : KC D cyI ad s s.heap) (P : va_P D classes (cw cyI ad I A) s.heap) {x1 x2 x3 x4 : Int32} {out : Int32} (h : B_X1_energyWith_J78  I A x1 x2 x3 x4 = out) {ls : Array Slot} (hl : lv_has ls 5 [(0, .ref (ad 2)), (1, .int x1), (2, .int x2), (3, .int x3), (4, .int x4)]) : W p l e (rmL 3) s m args below meth c s.heap [] 0 0 (MQ below (vp_Si (fun z => z = out)) args s 0 0 (fun _ => False)) (F0 m 78 ls []) := by
  unfold B_X1_energyWith_J78 at h
  refine lv_aload_n E.hx E.hb dX1_energyWith_78 rfl (lv_at hl 0 rfl) ?_
  refine lv_iload_n E.hx E.hb dX1_energyWith_79 rfl (lv_at hl 1 rfl) ?_
  refine lv_iload_n E.hx E.hb dX1_energyWith_80 rfl (lv_at hl 2 rfl) ?_
  refine lv_iconst (v := 1) E.hx E.hb dX1_energyWith_81 (by decide) ?_
  refine lv_isub E.hx E.hb dX1_energyWith_82 ?_
  refine iv_X1_84 E K0 P va_S.rf (by decide) hl.1 (Nat.le_of_ble_eq_true rfl) dX1_energyWith_83 ?_
  refine lv_if_eq (tgt := 111) E.hx E.hb dX1_energyWith_86 (by decide) (fun c_3 => ?_) (fun c_3 => ?_)
  · rw [if_pos c_3] at h
    exact w_X1_energyWith_J111 E K0 P h (lv_sub hl [0, 1, 2, 3, 4] rfl)
  · rw [if_neg c_3] at h
    refine lv_iload E.hx E.hb dX1_energyWith_89 (lv_at hl 4 rfl) ?_
    refine lv_aload_n E.hx E.hb dX1_energyWith_91 rfl (lv_at hl 0 rfl) ?_
    refine gf_X1_42 E K0 P dX1_energyWith_92 ?_
    refine lv_aload_n E.hx E.hb dX1_energyWith_95 rfl (lv_at hl 0 rfl) ?_
    refine lv_iload_n E.hx E.hb dX1_energyWith_96 rfl (lv_at hl 1 rfl) ?_
    refine lv_iload_n E.hx E.hb dX1_energyWith_97 rfl (lv_at hl 2 rfl) ?_
    refine lv_iconst (v := 1) E.hx E.hb dX1_energyWith_98 (by decide) ?_
    refine lv_isub E.hx E.hb dX1_energyWith_99 ?_
    refine iv_X1_88 E K0 P va_S.rf (by decide) hl.1 (Nat.le_of_ble_eq_true rfl) dX1_energyWith_100 ?_
    refine lv_iload_n E.hx E.hb dX1_energyWith_103 rfl (lv_at hl 3 rfl) ?_
    refine iv_X1_70 E K0 va_S.rf (by decide) hl.1 (Nat.le_of_ble_eq_true rfl) dX1_energyWith_104 ?_
    refine lv_imul E.hx E.hb dX1_energyWith_107 ?_
    refine lv_iadd E.hx E.hb dX1_energyWith_108 ?_
    refine lv_istore (lv' := [(4, .int (x4 + ((I 8) * (B_X6_squareApart ((B_X1_directionAt I A x1 ((x2 - 1)))) x3)))), (0, .ref (ad 2)), (1, .int x1), (2, .int x2), (3, .int x3)]) E.hx E.hb dX1_energyWith_109 hl (by decide) rfl (fun ls hl => ?_)
    exact w_X1_energyWith_J111 E K0 P h (lv_sub hl [1, 2, 3, 4, 0] rfl)
def B_X1_energyWith_J45  (I : Nat → Int32) (A : Nat → Nat → Int32) (x1 x2 x3 x4 : Int32) : Int32 := if (B_X1_has I A ((x1 + 1)) x2) = 0 then B_X1_energyWith_J78  I A x1 x2 x3 x4 else B_X1_energyWith_J78  I A x1 x2 x3 ((x4 + ((I 7) * (B_X6_squareApart ((B_X1_directionAt I A ((x1 + 1)) x2)) x3))))
set_option maxHeartbeats 4000000 in
set_option maxRecDepth 100000 in
theorem w_X1_energyWith_J45 (E : EX p s m args meth c cX1_energyWith 5 RX1 (some .int)) (K0 : KC D cyI ad s s.heap) (P : va_P D classes (cw cyI ad I A) s.heap) {x1 x2 x3 x4 : Int32} {out : Int32} (h : B_X1_energyWith_J45  I A x1 x2 x3 x4 = out) {ls : Array Slot} (hl : lv_has ls 5 [(0, .ref (ad 2)), (1, .int x1), (2, .int x2), (3, .int x3), (4, .int x4)]) : W p l e (rmL 3) s m args below meth c s.heap [] 0 0 (MQ below (vp_Si (fun z => z = out)) args s 0 0 (fun _ => False)) (F0 m 45 ls []) := by
  unfold B_X1_energyWith_J45 at h
  refine lv_aload_n E.hx E.hb dX1_energyWith_45 rfl (lv_at hl 0 rfl) ?_
  refine lv_iload_n E.hx E.hb dX1_energyWith_46 rfl (lv_at hl 1 rfl) ?_
  refine lv_iconst (v := 1) E.hx E.hb dX1_energyWith_47 (by decide) ?_
  refine lv_iadd E.hx E.hb dX1_energyWith_48 ?_
  refine lv_iload_n E.hx E.hb dX1_energyWith_49 rfl (lv_at hl 2 rfl) ?_
  refine iv_X1_84 E K0 P va_S.rf (by decide) hl.1 (Nat.le_of_ble_eq_true rfl) dX1_energyWith_50 ?_
  refine lv_if_eq (tgt := 78) E.hx E.hb dX1_energyWith_53 (by decide) (fun c_2 => ?_) (fun c_2 => ?_)
  · rw [if_pos c_2] at h
    exact w_X1_energyWith_J78 E K0 P h (lv_sub hl [0, 1, 2, 3, 4] rfl)
  · rw [if_neg c_2] at h
    refine lv_iload E.hx E.hb dX1_energyWith_56 (lv_at hl 4 rfl) ?_
    refine lv_aload_n E.hx E.hb dX1_energyWith_58 rfl (lv_at hl 0 rfl) ?_
    refine gf_X1_39 E K0 P dX1_energyWith_59 ?_
    refine lv_aload_n E.hx E.hb dX1_energyWith_62 rfl (lv_at hl 0 rfl) ?_
    refine lv_iload_n E.hx E.hb dX1_energyWith_63 rfl (lv_at hl 1 rfl) ?_
    refine lv_iconst (v := 1) E.hx E.hb dX1_energyWith_64 (by decide) ?_
    refine lv_iadd E.hx E.hb dX1_energyWith_65 ?_
    refine lv_iload_n E.hx E.hb dX1_energyWith_66 rfl (lv_at hl 2 rfl) ?_
    refine iv_X1_88 E K0 P va_S.rf (by decide) hl.1 (Nat.le_of_ble_eq_true rfl) dX1_energyWith_67 ?_
    refine lv_iload_n E.hx E.hb dX1_energyWith_70 rfl (lv_at hl 3 rfl) ?_
    refine iv_X1_70 E K0 va_S.rf (by decide) hl.1 (Nat.le_of_ble_eq_true rfl) dX1_energyWith_71 ?_
    refine lv_imul E.hx E.hb dX1_energyWith_74 ?_
    refine lv_iadd E.hx E.hb dX1_energyWith_75 ?_
    refine lv_istore (lv' := [(4, .int (x4 + ((I 7) * (B_X6_squareApart ((B_X1_directionAt I A ((x1 + 1)) x2)) x3)))), (0, .ref (ad 2)), (1, .int x1), (2, .int x2), (3, .int x3)]) E.hx E.hb dX1_energyWith_76 hl (by decide) rfl (fun ls hl => ?_)
    exact w_X1_energyWith_J78 E K0 P h (lv_sub hl [1, 2, 3, 4, 0] rfl)
def B_X1_energyWith (I : Nat → Int32) (A : Nat → Nat → Int32) (x1 x2 x3 : Int32) : Int32 := if (B_X1_has I A ((x1 - 1)) x2) = 0 then B_X1_energyWith_J45  I A x1 x2 x3 ((B_X1_heldWith I A ((B_X6_numberOf x1 x2)) x3)) else B_X1_energyWith_J45  I A x1 x2 x3 (((B_X1_heldWith I A ((B_X6_numberOf x1 x2)) x3) + ((I 7) * (B_X6_squareApart ((B_X1_directionAt I A ((x1 - 1)) x2)) x3))))
set_option maxHeartbeats 4000000 in
set_option maxRecDepth 100000 in
theorem w_X1_energyWith (E : EX p s m args meth c cX1_energyWith 5 RX1 (some .int)) (K0 : KC D cyI ad s s.heap) (P : va_P D classes (cw cyI ad I A) s.heap)  {x1 x2 x3 : Int32} {out : Int32} (h : B_X1_energyWith I A x1 x2 x3 = out) {ls : Array Slot} (hl : lv_has ls 5 [(0, .ref (ad 2)), (1, .int x1), (2, .int x2), (3, .int x3)]) : W p l e (rmL 3) s m args below meth c s.heap [] 0 0 (MQ below (vp_Si (fun z => z = out)) args s 0 0 (fun _ => False)) (F0 m 0 ls []) := by
  unfold B_X1_energyWith at h
  refine lv_aload_n E.hx E.hb dX1_energyWith_0 rfl (lv_at hl 0 rfl) ?_
  refine lv_iload_n E.hx E.hb dX1_energyWith_1 rfl (lv_at hl 1 rfl) ?_
  refine lv_iload_n E.hx E.hb dX1_energyWith_2 rfl (lv_at hl 2 rfl) ?_
  refine iv_X1_55 E K0 va_S.rf (by decide) hl.1 (Nat.le_of_ble_eq_true rfl) dX1_energyWith_3 ?_
  refine lv_iload_n E.hx E.hb dX1_energyWith_6 rfl (lv_at hl 3 rfl) ?_
  refine iv_X1_81 E K0 P va_S.rf (by decide) hl.1 (Nat.le_of_ble_eq_true rfl) dX1_energyWith_7 ?_
  refine lv_istore (lv' := [(4, .int (B_X1_heldWith I A ((B_X6_numberOf x1 x2)) x3)), (0, .ref (ad 2)), (1, .int x1), (2, .int x2), (3, .int x3)]) E.hx E.hb dX1_energyWith_10 hl (by decide) rfl (fun ls hl => ?_)
  refine lv_aload_n E.hx E.hb dX1_energyWith_12 rfl (lv_at hl 1 rfl) ?_
  refine lv_iload_n E.hx E.hb dX1_energyWith_13 rfl (lv_at hl 2 rfl) ?_
  refine lv_iconst (v := 1) E.hx E.hb dX1_energyWith_14 (by decide) ?_
  refine lv_isub E.hx E.hb dX1_energyWith_15 ?_
  refine lv_iload_n E.hx E.hb dX1_energyWith_16 rfl (lv_at hl 3 rfl) ?_
  refine iv_X1_84 E K0 P va_S.rf (by decide) hl.1 (Nat.le_of_ble_eq_true rfl) dX1_energyWith_17 ?_
  refine lv_if_eq (tgt := 45) E.hx E.hb dX1_energyWith_20 (by decide) (fun c_1 => ?_) (fun c_1 => ?_)
  · rw [if_pos c_1] at h
    exact w_X1_energyWith_J45 E K0 P h (lv_sub hl [1, 2, 3, 4, 0] rfl)
  · rw [if_neg c_1] at h
    refine lv_iload E.hx E.hb dX1_energyWith_23 (lv_at hl 0 rfl) ?_
    refine lv_aload_n E.hx E.hb dX1_energyWith_25 rfl (lv_at hl 1 rfl) ?_
    refine gf_X1_39 E K0 P dX1_energyWith_26 ?_
    refine lv_aload_n E.hx E.hb dX1_energyWith_29 rfl (lv_at hl 1 rfl) ?_
    refine lv_iload_n E.hx E.hb dX1_energyWith_30 rfl (lv_at hl 2 rfl) ?_
    refine lv_iconst (v := 1) E.hx E.hb dX1_energyWith_31 (by decide) ?_
    refine lv_isub E.hx E.hb dX1_energyWith_32 ?_
    refine lv_iload_n E.hx E.hb dX1_energyWith_33 rfl (lv_at hl 3 rfl) ?_
    refine iv_X1_88 E K0 P va_S.rf (by decide) hl.1 (Nat.le_of_ble_eq_true rfl) dX1_energyWith_34 ?_
    refine lv_iload_n E.hx E.hb dX1_energyWith_37 rfl (lv_at hl 4 rfl) ?_
    refine iv_X1_70 E K0 va_S.rf (by decide) hl.1 (Nat.le_of_ble_eq_true rfl) dX1_energyWith_38 ?_
    refine lv_imul E.hx E.hb dX1_energyWith_41 ?_
    refine lv_iadd E.hx E.hb dX1_energyWith_42 ?_
    refine lv_istore (lv' := [(4, .int ((B_X1_heldWith I A ((B_X6_numberOf x1 x2)) x3) + ((I 7) * (B_X6_squareApart ((B_X1_directionAt I A ((x1 - 1)) x2)) x3)))), (0, .ref (ad 2)), (1, .int x1), (2, .int x2), (3, .int x3)]) E.hx E.hb dX1_energyWith_43 hl (by decide) rfl (fun ls hl => ?_)
    exact w_X1_energyWith_J45 E K0 P h (lv_sub hl [1, 2, 3, 4, 0] rfl)
theorem c_X1_energyWith (l : Launch) {H : Heap} {D : va_G} {cyI : ClassId} {ad : Nat → Nat} {I : Nat → Int32} {A : Nat → Nat → Int32} (P : va_P D classes (cw cyI ad I A) H) (x1 x2 x3 : Int32) : MRO l yX1_energyWith cX1_energyWith 5 (some .int) 3 [.ref (ad 2), .int x1, .int x2, .int x3] H (KC D cyI ad) (B_X1_energyWith I A x1 x2 x3) := by
  refine Mof (own := RX1) (by decide +kernel) rfl rfl ?_
  intro p e s m args below meth c ls E hH K0 hl
  subst hH
  exact w_X1_energyWith E K0 P rfl hl
theorem ds_X1_energyWith : Dsc yX1_energyWith 3 := ⟨by decide +kernel, by decide +kernel, by decide +kernel⟩
end
section
variable {p : Program} {l : Launch} {e : Env} {s : State} {m : MethodId} {args : Array Value} {below : List Frame} {meth : Method} {c : Code} {D : va_G} {cyI : ClassId} {ad : Nat → Nat} {I : Nat → Int32} {A : Nat → Nat → Int32}
def B_X1_sum_J76 (k : Int32 → Int32 → Option (Int32)) (I : Nat → Int32) (A : Nat → Nat → Int32) (x1 x2 x3 x4 : Int32) : Option (Int32) := if (B_X1_has I A x3 ((x2 + 1))) = 0 then k x1 (x3 + 1) else k ((x1 + ((I 8) * (B_X6_squareApart x4 ((B_X1_directionAt I A x3 ((x2 + 1)))))))) (x3 + 1)
set_option maxHeartbeats 4000000 in
set_option maxRecDepth 100000 in
theorem w_X1_sum_J76 (E : EX p s m args meth c cX1_sum 5 RX1 (some .int)) (K0 : KC D cyI ad s s.heap) {x1 x2 x3 x4 : Int32} {k : Int32 → Int32 → Option (Int32)} {o : Int32} {out : Int32} (hk : ∀ {x1 x3 : Int32} (_ : k x1 x3 = some o) {ls : Array Slot}, lv_has ls 5 [(0, .ref (ad 2)), (1, .int x1), (2, .int x2), (3, .int x3)] → W p l e (rmL 3) s m args below meth c s.heap [] 0 0 (MQ below (vp_Si (fun z => z = out)) args s 0 0 (fun _ => False)) (F0 m 14 ls [])) (kx : ∀ {ls : Array Slot}, lv_has ls 5 [(0, .ref (ad 2)), (1, .int o), (2, .int x2)] → W p l e (rmL 3) s m args below meth c s.heap [] 0 0 (MQ below (vp_Si (fun z => z = out)) args s 0 0 (fun _ => False)) (F0 m 114 ls [])) (P : va_P D classes (cw cyI ad I A) s.heap) (h : B_X1_sum_J76 k I A x1 x2 x3 x4 = some o) {ls : Array Slot} (hl : lv_has ls 5 [(0, .ref (ad 2)), (1, .int x1), (2, .int x2), (3, .int x3), (4, .int x4)]) : W p l e (rmL 3) s m args below meth c s.heap [] 0 0 (MQ below (vp_Si (fun z => z = out)) args s 0 0 (fun _ => False)) (F0 m 76 ls []) := by
  unfold B_X1_sum_J76 at h
  refine lv_aload_n E.hx E.hb dX1_sum_76 rfl (lv_at hl 0 rfl) ?_
  refine lv_iload_n E.hx E.hb dX1_sum_77 rfl (lv_at hl 3 rfl) ?_
  refine lv_iload_n E.hx E.hb dX1_sum_78 rfl (lv_at hl 2 rfl) ?_
  refine lv_iconst (v := 1) E.hx E.hb dX1_sum_79 (by decide) ?_
  refine lv_iadd E.hx E.hb dX1_sum_80 ?_
  refine iv_X1_84 E K0 P va_S.rf (by decide) hl.1 (Nat.le_of_ble_eq_true rfl) dX1_sum_81 ?_
  refine lv_if_eq (tgt := 108) E.hx E.hb dX1_sum_84 (by decide) (fun c_4 => ?_) (fun c_4 => ?_)
  · rw [if_pos c_4] at h
    refine lv_iinc (v := x3 + 1) (lv' := [(3, .int (x3 + 1)), (0, .ref (ad 2)), (1, .int x1), (2, .int x2), (4, .int x4)]) E.hx E.hb dX1_sum_108 hl (k := 3) rfl rfl (by decide) rfl (fun ls hl => ?_)
    refine lv_goto (tgt := 14) E.hx E.hb dX1_sum_111 (by decide) ?_
    exact hk  h (lv_sub hl [1, 2, 3, 0] rfl)
  · rw [if_neg c_4] at h
    refine lv_iload_n E.hx E.hb dX1_sum_87 rfl (lv_at hl 1 rfl) ?_
    refine lv_aload_n E.hx E.hb dX1_sum_88 rfl (lv_at hl 0 rfl) ?_
    refine gf_X1_42 E K0 P dX1_sum_89 ?_
    refine lv_iload E.hx E.hb dX1_sum_92 (lv_at hl 4 rfl) ?_
    refine lv_aload_n E.hx E.hb dX1_sum_94 rfl (lv_at hl 0 rfl) ?_
    refine lv_iload_n E.hx E.hb dX1_sum_95 rfl (lv_at hl 3 rfl) ?_
    refine lv_iload_n E.hx E.hb dX1_sum_96 rfl (lv_at hl 2 rfl) ?_
    refine lv_iconst (v := 1) E.hx E.hb dX1_sum_97 (by decide) ?_
    refine lv_iadd E.hx E.hb dX1_sum_98 ?_
    refine iv_X1_88 E K0 P va_S.rf (by decide) hl.1 (Nat.le_of_ble_eq_true rfl) dX1_sum_99 ?_
    refine iv_X1_70 E K0 va_S.rf (by decide) hl.1 (Nat.le_of_ble_eq_true rfl) dX1_sum_102 ?_
    refine lv_imul E.hx E.hb dX1_sum_105 ?_
    refine lv_iadd E.hx E.hb dX1_sum_106 ?_
    refine lv_istore_n (lv' := [(1, .int (x1 + ((I 8) * (B_X6_squareApart x4 ((B_X1_directionAt I A x3 ((x2 + 1)))))))), (0, .ref (ad 2)), (2, .int x2), (3, .int x3), (4, .int x4)]) E.hx E.hb dX1_sum_107 rfl hl (by decide) rfl (fun ls hl => ?_)
    refine lv_iinc (v := x3 + 1) (lv' := [(3, .int (x3 + 1)), (1, .int (x1 + ((I 8) * (B_X6_squareApart x4 ((B_X1_directionAt I A x3 ((x2 + 1)))))))), (0, .ref (ad 2)), (2, .int x2), (4, .int x4)]) E.hx E.hb dX1_sum_108 hl (k := 3) rfl rfl (by decide) rfl (fun ls hl => ?_)
    refine lv_goto (tgt := 14) E.hx E.hb dX1_sum_111 (by decide) ?_
    exact hk  h (lv_sub hl [2, 1, 3, 0] rfl)
def B_X1_sum_L14 (I : Nat → Int32) (A : Nat → Nat → Int32) (x2 : Int32) : Nat → Int32 → Int32 → Option (Int32)
  | 0 => fun _ _ => none
  | n + 1 => fun x1 x3 => if (I 5) ≤ x3 then some (x1) else (if (B_X1_has I A ((x3 + 1)) x2) = 0 then B_X1_sum_J76 ((B_X1_sum_L14 I A x2 n)) I A ((x1 + (B_X1_heldWith I A ((B_X6_numberOf x3 x2)) ((B_X1_directionAt I A x3 x2))))) x2 x3 ((B_X1_directionAt I A x3 x2)) else B_X1_sum_J76 ((B_X1_sum_L14 I A x2 n)) I A (((x1 + (B_X1_heldWith I A ((B_X6_numberOf x3 x2)) ((B_X1_directionAt I A x3 x2)))) + ((I 7) * (B_X6_squareApart ((B_X1_directionAt I A x3 x2)) ((B_X1_directionAt I A ((x3 + 1)) x2)))))) x2 x3 ((B_X1_directionAt I A x3 x2)))
theorem B_X1_sum_L14_s (I : Nat → Int32) (A : Nat → Nat → Int32) (x2 x1 x3 : Int32) (n : Nat) : B_X1_sum_L14 I A x2 (n + 1) x1 x3 = if (I 5) ≤ x3 then some (x1) else (if (B_X1_has I A ((x3 + 1)) x2) = 0 then B_X1_sum_J76 ((B_X1_sum_L14 I A x2 n)) I A ((x1 + (B_X1_heldWith I A ((B_X6_numberOf x3 x2)) ((B_X1_directionAt I A x3 x2))))) x2 x3 ((B_X1_directionAt I A x3 x2)) else B_X1_sum_J76 ((B_X1_sum_L14 I A x2 n)) I A (((x1 + (B_X1_heldWith I A ((B_X6_numberOf x3 x2)) ((B_X1_directionAt I A x3 x2)))) + ((I 7) * (B_X6_squareApart ((B_X1_directionAt I A x3 x2)) ((B_X1_directionAt I A ((x3 + 1)) x2)))))) x2 x3 ((B_X1_directionAt I A x3 x2))) := rfl
set_option maxHeartbeats 4000000 in
set_option maxRecDepth 100000 in
theorem w_X1_sum_L14 (E : EX p s m args meth c cX1_sum 5 RX1 (some .int)) (K0 : KC D cyI ad s s.heap) (P : va_P D classes (cw cyI ad I A) s.heap) {x2 : Int32} {out : Int32} : ∀ (n : Nat) {x1 x3 : Int32} {o : Int32} (h : B_X1_sum_L14 I A x2 n x1 x3 = some o) {ls : Array Slot} (hl : lv_has ls 5 [(0, .ref (ad 2)), (1, .int x1), (2, .int x2), (3, .int x3)]) (kx : ∀ {ls : Array Slot}, lv_has ls 5 [(0, .ref (ad 2)), (1, .int o), (2, .int x2)] → W p l e (rmL 3) s m args below meth c s.heap [] 0 0 (MQ below (vp_Si (fun z => z = out)) args s 0 0 (fun _ => False)) (F0 m 114 ls [])), W p l e (rmL 3) s m args below meth c s.heap [] 0 0 (MQ below (vp_Si (fun z => z = out)) args s 0 0 (fun _ => False)) (F0 m 14 ls []) := by
  intro n
  induction n with
  | zero => intro x1 x3 o h ls hl kx; exact nomatch (show none = some o from h)
  | succ n ih =>
    intro x1 x3 o h ls hl kx
    rw [B_X1_sum_L14_s] at h
    refine lv_iload_n E.hx E.hb dX1_sum_14 rfl (lv_at hl 3 rfl) ?_
    refine lv_aload_n E.hx E.hb dX1_sum_15 rfl (lv_at hl 0 rfl) ?_
    refine gf_X1_32 E K0 P dX1_sum_16 ?_
    refine lv_icmp_ge (tgt := 114) E.hx E.hb dX1_sum_19 (by decide) (fun c_2 => ?_) (fun c_2 => ?_)
    · rw [if_pos c_2] at h
      cases h
      exact kx  (lv_sub hl [0, 1, 2] rfl)
    · rw [if_neg c_2] at h
      refine lv_aload_n E.hx E.hb dX1_sum_22 rfl (lv_at hl 0 rfl) ?_
      refine lv_iload_n E.hx E.hb dX1_sum_23 rfl (lv_at hl 3 rfl) ?_
      refine lv_iload_n E.hx E.hb dX1_sum_24 rfl (lv_at hl 2 rfl) ?_
      refine iv_X1_88 E K0 P va_S.rf (by decide) hl.1 (Nat.le_of_ble_eq_true rfl) dX1_sum_25 ?_
      refine lv_istore (lv' := [(4, .int (B_X1_directionAt I A x3 x2)), (0, .ref (ad 2)), (1, .int x1), (2, .int x2), (3, .int x3)]) E.hx E.hb dX1_sum_28 hl (by decide) rfl (fun ls hl => ?_)
      refine lv_iload_n E.hx E.hb dX1_sum_30 rfl (lv_at hl 2 rfl) ?_
      refine lv_aload_n E.hx E.hb dX1_sum_31 rfl (lv_at hl 1 rfl) ?_
      refine lv_iload_n E.hx E.hb dX1_sum_32 rfl (lv_at hl 4 rfl) ?_
      refine lv_iload_n E.hx E.hb dX1_sum_33 rfl (lv_at hl 3 rfl) ?_
      refine iv_X1_55 E K0 va_S.rf (by decide) hl.1 (Nat.le_of_ble_eq_true rfl) dX1_sum_34 ?_
      refine lv_iload E.hx E.hb dX1_sum_37 (lv_at hl 0 rfl) ?_
      refine iv_X1_81 E K0 P va_S.rf (by decide) hl.1 (Nat.le_of_ble_eq_true rfl) dX1_sum_39 ?_
      refine lv_iadd E.hx E.hb dX1_sum_42 ?_
      refine lv_istore_n (lv' := [(1, .int (x1 + (B_X1_heldWith I A ((B_X6_numberOf x3 x2)) ((B_X1_directionAt I A x3 x2))))), (4, .int (B_X1_directionAt I A x3 x2)), (0, .ref (ad 2)), (2, .int x2), (3, .int x3)]) E.hx E.hb dX1_sum_43 rfl hl (by decide) rfl (fun ls hl => ?_)
      refine lv_aload_n E.hx E.hb dX1_sum_44 rfl (lv_at hl 2 rfl) ?_
      refine lv_iload_n E.hx E.hb dX1_sum_45 rfl (lv_at hl 4 rfl) ?_
      refine lv_iconst (v := 1) E.hx E.hb dX1_sum_46 (by decide) ?_
      refine lv_iadd E.hx E.hb dX1_sum_47 ?_
      refine lv_iload_n E.hx E.hb dX1_sum_48 rfl (lv_at hl 3 rfl) ?_
      refine iv_X1_84 E K0 P va_S.rf (by decide) hl.1 (Nat.le_of_ble_eq_true rfl) dX1_sum_49 ?_
      refine lv_if_eq (tgt := 76) E.hx E.hb dX1_sum_52 (by decide) (fun c_3 => ?_) (fun c_3 => ?_)
      · rw [if_pos c_3] at h
        exact w_X1_sum_J76 E K0 (fun {_} {_}  h {ls} hl => ih  h hl kx) kx P h (lv_sub hl [2, 0, 3, 4, 1] rfl)
      · rw [if_neg c_3] at h
        refine lv_iload_n E.hx E.hb dX1_sum_55 rfl (lv_at hl 0 rfl) ?_
        refine lv_aload_n E.hx E.hb dX1_sum_56 rfl (lv_at hl 2 rfl) ?_
        refine gf_X1_39 E K0 P dX1_sum_57 ?_
        refine lv_iload E.hx E.hb dX1_sum_60 (lv_at hl 1 rfl) ?_
        refine lv_aload_n E.hx E.hb dX1_sum_62 rfl (lv_at hl 2 rfl) ?_
        refine lv_iload_n E.hx E.hb dX1_sum_63 rfl (lv_at hl 4 rfl) ?_
        refine lv_iconst (v := 1) E.hx E.hb dX1_sum_64 (by decide) ?_
        refine lv_iadd E.hx E.hb dX1_sum_65 ?_
        refine lv_iload_n E.hx E.hb dX1_sum_66 rfl (lv_at hl 3 rfl) ?_
        refine iv_X1_88 E K0 P va_S.rf (by decide) hl.1 (Nat.le_of_ble_eq_true rfl) dX1_sum_67 ?_
        refine iv_X1_70 E K0 va_S.rf (by decide) hl.1 (Nat.le_of_ble_eq_true rfl) dX1_sum_70 ?_
        refine lv_imul E.hx E.hb dX1_sum_73 ?_
        refine lv_iadd E.hx E.hb dX1_sum_74 ?_
        refine lv_istore_n (lv' := [(1, .int ((x1 + (B_X1_heldWith I A ((B_X6_numberOf x3 x2)) ((B_X1_directionAt I A x3 x2)))) + ((I 7) * (B_X6_squareApart ((B_X1_directionAt I A x3 x2)) ((B_X1_directionAt I A ((x3 + 1)) x2)))))), (4, .int (B_X1_directionAt I A x3 x2)), (0, .ref (ad 2)), (2, .int x2), (3, .int x3)]) E.hx E.hb dX1_sum_75 rfl hl (by decide) rfl (fun ls hl => ?_)
        exact w_X1_sum_J76 E K0 (fun {_} {_}  h {ls} hl => ih  h hl kx) kx P h (lv_sub hl [2, 0, 3, 4, 1] rfl)
def B_X1_sum_L4 (I : Nat → Int32) (A : Nat → Nat → Int32)  : Nat → Int32 → Int32 → Option (Int32)
  | 0 => fun _ _ => none
  | n + 1 => fun x1 x2 => if (I 6) ≤ x2 then some (x1) else ((B_X1_sum_L14 I A x2 FU x1 0).bind fun q_5 => (B_X1_sum_L4 I A n) q_5 (x2 + 1))
theorem B_X1_sum_L4_s (I : Nat → Int32) (A : Nat → Nat → Int32) (x1 x2 : Int32) (n : Nat) : B_X1_sum_L4 I A  (n + 1) x1 x2 = if (I 6) ≤ x2 then some (x1) else ((B_X1_sum_L14 I A x2 FU x1 0).bind fun q_5 => (B_X1_sum_L4 I A n) q_5 (x2 + 1)) := rfl
set_option maxHeartbeats 4000000 in
set_option maxRecDepth 100000 in
theorem w_X1_sum_L4 (E : EX p s m args meth c cX1_sum 5 RX1 (some .int)) (K0 : KC D cyI ad s s.heap) (P : va_P D classes (cw cyI ad I A) s.heap) {out : Int32} : ∀ (n : Nat) {x1 x2 : Int32} {o : Int32} (h : B_X1_sum_L4 I A  n x1 x2 = some o) {ls : Array Slot} (hl : lv_has ls 5 [(0, .ref (ad 2)), (1, .int x1), (2, .int x2)]) (kx : ∀ {ls : Array Slot}, lv_has ls 5 [(1, .int o)] → W p l e (rmL 3) s m args below meth c s.heap [] 0 0 (MQ below (vp_Si (fun z => z = out)) args s 0 0 (fun _ => False)) (F0 m 120 ls [])), W p l e (rmL 3) s m args below meth c s.heap [] 0 0 (MQ below (vp_Si (fun z => z = out)) args s 0 0 (fun _ => False)) (F0 m 4 ls []) := by
  intro n
  induction n with
  | zero => intro x1 x2 o h ls hl kx; exact nomatch (show none = some o from h)
  | succ n ih =>
    intro x1 x2 o h ls hl kx
    rw [B_X1_sum_L4_s] at h
    refine lv_iload_n E.hx E.hb dX1_sum_4 rfl (lv_at hl 2 rfl) ?_
    refine lv_aload_n E.hx E.hb dX1_sum_5 rfl (lv_at hl 0 rfl) ?_
    refine gf_X1_36 E K0 P dX1_sum_6 ?_
    refine lv_icmp_ge (tgt := 120) E.hx E.hb dX1_sum_9 (by decide) (fun c_1 => ?_) (fun c_1 => ?_)
    · rw [if_pos c_1] at h
      cases h
      exact kx  (lv_sub hl [1] rfl)
    · rw [if_neg c_1] at h
      refine lv_iconst (v := 0) E.hx E.hb dX1_sum_12 (by decide) ?_
      refine lv_istore_n (lv' := [(3, .int 0), (0, .ref (ad 2)), (1, .int x1), (2, .int x2)]) E.hx E.hb dX1_sum_13 rfl hl (by decide) rfl (fun ls hl => ?_)
      obtain ⟨q_5, e_6, h⟩ := obind h
      refine w_X1_sum_L14 E K0 P FU e_6 (lv_sub hl [1, 2, 3, 0] rfl) (fun {ls} hl => ?_)
      refine lv_iinc (v := x2 + 1) (lv' := [(2, .int (x2 + 1)), (0, .ref (ad 2)), (1, .int q_5)]) E.hx E.hb dX1_sum_114 hl (k := 2) rfl rfl (by decide) rfl (fun ls hl => ?_)
      refine lv_goto (tgt := 4) E.hx E.hb dX1_sum_117 (by decide) ?_
      exact ih  h (lv_sub hl [1, 2, 0] rfl) kx
def B_X1_sum (I : Nat → Int32) (A : Nat → Nat → Int32)  : Option (Int32) := (B_X1_sum_L4 I A  FU 0 0).bind fun q_7 => some q_7
set_option maxHeartbeats 4000000 in
set_option maxRecDepth 100000 in
theorem w_X1_sum (E : EX p s m args meth c cX1_sum 5 RX1 (some .int)) (K0 : KC D cyI ad s s.heap) (P : va_P D classes (cw cyI ad I A) s.heap)  {out : Int32} (h : B_X1_sum I A  = some out) {ls : Array Slot} (hl : lv_has ls 5 [(0, .ref (ad 2))]) : W p l e (rmL 3) s m args below meth c s.heap [] 0 0 (MQ below (vp_Si (fun z => z = out)) args s 0 0 (fun _ => False)) (F0 m 0 ls []) := by
  unfold B_X1_sum at h
  refine lv_iconst (v := 0) E.hx E.hb dX1_sum_0 (by decide) ?_
  refine lv_istore_n (lv' := [(1, .int 0), (0, .ref (ad 2))]) E.hx E.hb dX1_sum_1 rfl hl (by decide) rfl (fun ls hl => ?_)
  refine lv_iconst (v := 0) E.hx E.hb dX1_sum_2 (by decide) ?_
  refine lv_istore_n (lv' := [(2, .int 0), (1, .int 0), (0, .ref (ad 2))]) E.hx E.hb dX1_sum_3 rfl hl (by decide) rfl (fun ls hl => ?_)
  obtain ⟨q_7, e_8, h⟩ := obind h
  refine w_X1_sum_L4 E K0 P FU e_8 (lv_sub hl [2, 1, 0] rfl) (fun {ls} hl => ?_)
  refine lv_iload_n E.hx E.hb dX1_sum_120 rfl (lv_at hl 0 rfl) ?_
  exact W.iret E.hx E.hb E.hr (fun t ht _ => ⟨_, rfl, (Option.some.inj h), ht⟩) (fun q hq => nomatch hq) dX1_sum_121 E.hk
theorem c_X1_sum (l : Launch) {H : Heap} {D : va_G} {cyI : ClassId} {ad : Nat → Nat} {I : Nat → Int32} {A : Nat → Nat → Int32} (P : va_P D classes (cw cyI ad I A) H)  {out : Int32} (h : B_X1_sum I A  = some out) : MRO l yX1_sum cX1_sum 5 (some .int) 3 [.ref (ad 2)] H (KC D cyI ad) out := by
  refine Mof (own := RX1) (by decide +kernel) rfl rfl ?_
  intro p e s m args below meth c ls E hH K0 hl
  subst hH
  exact w_X1_sum E K0 P h hl
theorem ds_X1_sum : Dsc yX1_sum 0 := ⟨by decide +kernel, by decide +kernel, by decide +kernel⟩
end
section
variable {p : Program} {l : Launch} {e : Env} {s : State} {m : MethodId} {args : Array Value} {below : List Frame} {meth : Method} {c : Code} {D : va_G} {cyI : ClassId} {ad : Nat → Nat} {I : Nat → Int32} {A : Nat → Nat → Int32}
def B_X1_pixelAt (I : Nat → Int32) (A : Nat → Nat → Int32) (x1 x2 : Int32) : Int32 := (rAt 144 (A 12) ((B_X6_numberOf x1 x2)))
set_option maxHeartbeats 4000000 in
set_option maxRecDepth 100000 in
theorem w_X1_pixelAt (E : EX p s m args meth c cX1_pixelAt 3 RX1 (some .int)) (K0 : KC D cyI ad s s.heap) (P : va_P D classes (cw cyI ad I A) s.heap)  {x1 x2 : Int32} {out : Int32} (h : B_X1_pixelAt I A x1 x2 = out) {ls : Array Slot} (hl : lv_has ls 3 [(0, .ref (ad 2)), (1, .int x1), (2, .int x2)]) : W p l e (rmL 1) s m args below meth c s.heap [] 0 0 (MQ below (vp_Si (fun z => z = out)) args s 0 0 (fun _ => False)) (F0 m 0 ls []) := by
  unfold B_X1_pixelAt at h
  refine lv_aload_n E.hx E.hb dX1_pixelAt_0 rfl (lv_at hl 0 rfl) ?_
  refine gf_X1_29 E K0 P dX1_pixelAt_1 ?_
  refine lv_iload_n E.hx E.hb dX1_pixelAt_4 rfl (lv_at hl 1 rfl) ?_
  refine lv_iload_n E.hx E.hb dX1_pixelAt_5 rfl (lv_at hl 2 rfl) ?_
  refine iv_X1_55 E K0 va_S.rf (by decide) hl.1 (Nat.le_of_ble_eq_true rfl) dX1_pixelAt_6 ?_
  refine rat_X1_59 E K0 P va_S.rf cw_r12 cw_a12 (by decide) (by decide) hl.1 (Nat.le_of_ble_eq_true rfl) dX1_pixelAt_9 ?_
  exact W.iret E.hx E.hb E.hr (fun t ht _ => ⟨_, rfl, h, ht⟩) (fun q hq => nomatch hq) dX1_pixelAt_12 E.hk
theorem c_X1_pixelAt (l : Launch) {H : Heap} {D : va_G} {cyI : ClassId} {ad : Nat → Nat} {I : Nat → Int32} {A : Nat → Nat → Int32} (P : va_P D classes (cw cyI ad I A) H) (x1 x2 : Int32) : MRO l yX1_pixelAt cX1_pixelAt 3 (some .int) 1 [.ref (ad 2), .int x1, .int x2] H (KC D cyI ad) (B_X1_pixelAt I A x1 x2) := by
  refine Mof (own := RX1) (by decide +kernel) rfl rfl ?_
  intro p e s m args below meth c ls E hH K0 hl
  subst hH
  exact w_X1_pixelAt E K0 P rfl hl
theorem ds_X1_pixelAt : Dsc yX1_pixelAt 2 := ⟨by decide +kernel, by decide +kernel, by decide +kernel⟩
end
section
variable {p : Program} {l : Launch} {e : Env} {R : Room} {s : State} {m : MethodId} {args : Array Value} {below : List Frame} {meth : Method} {c : Code} {H : Heap} {locs : List Loc} {cells slots : Nat} {Q : State → Prop} {cc : ByteArray} {nL pc : Nat} {ret : Option FieldType} {ls : Array Slot} {rest : List Value} {D : va_G} {cyI : ClassId} {ad : Nat → Nat} {I : Nat → Int32} {A : Nat → Nat → Int32}
theorem iv_X1_63 (E : EX p s m args meth c cc nL RX1 ret) (K0 : KC D cyI ad s s.heap) (P : va_P D classes (cw cyI ad I A) H) (S : va_S (InN 44 ad) s.heap H locs) {a0 a1 : Int32} (hR : RmOk R cells slots 1 3) (hls : ls.size = nL) (hro : (rest.map fun v => v.category).sum ≤ 8) (hdg : decode cc pc = .ok (.invokevirtual 63, 3)) (kk : W p l e R s m args below meth c H locs cells slots Q (F0 m (pc + 3) ls (.int (B_X1_pixelAt I A a0 a1) :: rest))) : W p l e R s m args below meth c H locs cells slots Q (F0 m pc ls (.int a1 :: .int a0 :: .ref (ad 2) :: rest)) :=
  cv_ro E (c_X1_pixelAt l P a0 a1 ) (gV kML_X1_63 kIM_X1_pixelAt kSE_X1_pixelAt kIN_X1 kCO_X1_pixelAt) rfl ds_X1_pixelAt rfl KC_blind (fun U _ hW => (K0.at S).warm hW) (va_recv K0.k P (show classes[1]? = some (RX1, TX1, 11) from rfl) cw_g2) hR hls rfl hro hdg kk
end
section
variable {p : Program} {l : Launch} {e : Env} {s : State} {m : MethodId} {args : Array Value} {below : List Frame} {meth : Method} {c : Code} {D : va_G} {cyI : ClassId} {ad : Nat → Nat} {I : Nat → Int32} {A : Nat → Nat → Int32}
def B_X1_hasPixelIn_L15 (I : Nat → Int32) (A : Nat → Nat → Int32) (x1 x2 x3 x4 x5 : Int32) : Nat → Int32 → Option ((Unit) ⊕ Int32)
  | 0 => fun _ => none
  | n + 1 => fun x6 => if (x1 + x3) ≤ x6 then some (.inl ()) else (if (B_X1_pixelAt I A x6 x5) = (-1) then (B_X1_hasPixelIn_L15 I A x1 x2 x3 x4 x5 n) (x6 + 1) else some (.inr 1))
theorem B_X1_hasPixelIn_L15_s (I : Nat → Int32) (A : Nat → Nat → Int32) (x1 x2 x3 x4 x5 x6 : Int32) (n : Nat) : B_X1_hasPixelIn_L15 I A x1 x2 x3 x4 x5 (n + 1) x6 = if (x1 + x3) ≤ x6 then some (.inl ()) else (if (B_X1_pixelAt I A x6 x5) = (-1) then (B_X1_hasPixelIn_L15 I A x1 x2 x3 x4 x5 n) (x6 + 1) else some (.inr 1)) := rfl
set_option maxHeartbeats 4000000 in
set_option maxRecDepth 100000 in
theorem w_X1_hasPixelIn_L15 (E : EX p s m args meth c cX1_hasPixelIn 7 RX1 (some .boolean)) (K0 : KC D cyI ad s s.heap) (P : va_P D classes (cw cyI ad I A) s.heap) {x1 x2 x3 x4 x5 : Int32} {out : Int32} : ∀ (n : Nat) {x6 : Int32} {o : (Unit) ⊕ Int32} (h : B_X1_hasPixelIn_L15 I A x1 x2 x3 x4 x5 n x6 = some o) {ls : Array Slot} (hl : lv_has ls 7 [(0, .ref (ad 2)), (1, .int x1), (2, .int x2), (3, .int x3), (4, .int x4), (5, .int x5), (6, .int x6)]) (kx : ∀ {q : Unit}, o = .inl q → ∀ {ls : Array Slot}, lv_has ls 7 [(0, .ref (ad 2)), (1, .int x1), (2, .int x2), (3, .int x3), (4, .int x4), (5, .int x5)] → W p l e (rmL 2) s m args below meth c s.heap [] 0 0 (MQ below (vp_Si (fun z => z = out)) args s 0 0 (fun _ => False)) (F0 m 43 ls [])) (kr : ∀ r : Int32, o = .inr r → r = out), W p l e (rmL 2) s m args below meth c s.heap [] 0 0 (MQ below (vp_Si (fun z => z = out)) args s 0 0 (fun _ => False)) (F0 m 15 ls []) := by
  intro n
  induction n with
  | zero => intro x6 o h ls hl kx kr; exact nomatch (show none = some o from h)
  | succ n ih =>
    intro x6 o h ls hl kx kr
    rw [B_X1_hasPixelIn_L15_s] at h
    refine lv_iload E.hx E.hb dX1_hasPixelIn_15 (lv_at hl 6 rfl) ?_
    refine lv_iload_n E.hx E.hb dX1_hasPixelIn_17 rfl (lv_at hl 1 rfl) ?_
    refine lv_iload_n E.hx E.hb dX1_hasPixelIn_18 rfl (lv_at hl 3 rfl) ?_
    refine lv_iadd E.hx E.hb dX1_hasPixelIn_19 ?_
    refine lv_icmp_ge (tgt := 43) E.hx E.hb dX1_hasPixelIn_20 (by decide) (fun c_2 => ?_) (fun c_2 => ?_)
    · rw [if_pos c_2] at h
      cases h
      exact kx rfl  (lv_sub hl [0, 1, 2, 3, 4, 5] rfl)
    · rw [if_neg c_2] at h
      refine lv_aload_n E.hx E.hb dX1_hasPixelIn_23 rfl (lv_at hl 0 rfl) ?_
      refine lv_iload E.hx E.hb dX1_hasPixelIn_24 (lv_at hl 6 rfl) ?_
      refine lv_iload E.hx E.hb dX1_hasPixelIn_26 (lv_at hl 5 rfl) ?_
      refine iv_X1_63 E K0 P va_S.rf (by decide) hl.1 (Nat.le_of_ble_eq_true rfl) dX1_hasPixelIn_28 ?_
      refine lv_iconst (v := (-1)) E.hx E.hb dX1_hasPixelIn_31 (by decide) ?_
      refine lv_icmp_eq (tgt := 37) E.hx E.hb dX1_hasPixelIn_32 (by decide) (fun c_3 => ?_) (fun c_3 => ?_)
      · rw [if_pos c_3] at h
        refine lv_iinc (v := x6 + 1) (lv' := [(6, .int (x6 + 1)), (0, .ref (ad 2)), (1, .int x1), (2, .int x2), (3, .int x3), (4, .int x4), (5, .int x5)]) E.hx E.hb dX1_hasPixelIn_37 hl (k := 6) rfl rfl (by decide) rfl (fun ls hl => ?_)
        refine lv_goto (tgt := 15) E.hx E.hb dX1_hasPixelIn_40 (by decide) ?_
        exact ih  h (lv_sub hl [1, 2, 3, 4, 5, 6, 0] rfl) kx kr
      · rw [if_neg c_3] at h
        refine lv_iconst (v := 1) E.hx E.hb dX1_hasPixelIn_35 (by decide) ?_
        exact W.zret E.hx E.hb E.hr rfl (fun t ht _ => ⟨_, rfl, (kr _ (Option.some.inj h).symm), ht⟩) (fun q hq => nomatch hq) dX1_hasPixelIn_36 E.hk
def B_X1_hasPixelIn_L3 (I : Nat → Int32) (A : Nat → Nat → Int32) (x1 x2 x3 x4 : Int32) : Nat → Int32 → Option ((Unit) ⊕ Int32)
  | 0 => fun _ => none
  | n + 1 => fun x5 => if (x2 + x4) ≤ x5 then some (.inl ()) else ((B_X1_hasPixelIn_L15 I A x1 x2 x3 x4 x5 FU x1).bind fun q_4 => match q_4 with | .inr r => some (.inr r) | .inl q_4v => (B_X1_hasPixelIn_L3 I A x1 x2 x3 x4 n) (x5 + 1))
theorem B_X1_hasPixelIn_L3_s (I : Nat → Int32) (A : Nat → Nat → Int32) (x1 x2 x3 x4 x5 : Int32) (n : Nat) : B_X1_hasPixelIn_L3 I A x1 x2 x3 x4 (n + 1) x5 = if (x2 + x4) ≤ x5 then some (.inl ()) else ((B_X1_hasPixelIn_L15 I A x1 x2 x3 x4 x5 FU x1).bind fun q_4 => match q_4 with | .inr r => some (.inr r) | .inl q_4v => (B_X1_hasPixelIn_L3 I A x1 x2 x3 x4 n) (x5 + 1)) := rfl
set_option maxHeartbeats 4000000 in
set_option maxRecDepth 100000 in
theorem w_X1_hasPixelIn_L3 (E : EX p s m args meth c cX1_hasPixelIn 7 RX1 (some .boolean)) (K0 : KC D cyI ad s s.heap) (P : va_P D classes (cw cyI ad I A) s.heap) {x1 x2 x3 x4 : Int32} {out : Int32} : ∀ (n : Nat) {x5 : Int32} {o : (Unit) ⊕ Int32} (h : B_X1_hasPixelIn_L3 I A x1 x2 x3 x4 n x5 = some o) {ls : Array Slot} (hl : lv_has ls 7 [(0, .ref (ad 2)), (1, .int x1), (2, .int x2), (3, .int x3), (4, .int x4), (5, .int x5)]) (kx : ∀ {q : Unit}, o = .inl q → ∀ {ls : Array Slot}, lv_has ls 7 [] → W p l e (rmL 2) s m args below meth c s.heap [] 0 0 (MQ below (vp_Si (fun z => z = out)) args s 0 0 (fun _ => False)) (F0 m 49 ls [])) (kr : ∀ r : Int32, o = .inr r → r = out), W p l e (rmL 2) s m args below meth c s.heap [] 0 0 (MQ below (vp_Si (fun z => z = out)) args s 0 0 (fun _ => False)) (F0 m 3 ls []) := by
  intro n
  induction n with
  | zero => intro x5 o h ls hl kx kr; exact nomatch (show none = some o from h)
  | succ n ih =>
    intro x5 o h ls hl kx kr
    rw [B_X1_hasPixelIn_L3_s] at h
    refine lv_iload E.hx E.hb dX1_hasPixelIn_3 (lv_at hl 5 rfl) ?_
    refine lv_iload_n E.hx E.hb dX1_hasPixelIn_5 rfl (lv_at hl 2 rfl) ?_
    refine lv_iload E.hx E.hb dX1_hasPixelIn_6 (lv_at hl 4 rfl) ?_
    refine lv_iadd E.hx E.hb dX1_hasPixelIn_8 ?_
    refine lv_icmp_ge (tgt := 49) E.hx E.hb dX1_hasPixelIn_9 (by decide) (fun c_1 => ?_) (fun c_1 => ?_)
    · rw [if_pos c_1] at h
      cases h
      exact kx rfl  (lv_sub hl [] rfl)
    · rw [if_neg c_1] at h
      refine lv_iload_n E.hx E.hb dX1_hasPixelIn_12 rfl (lv_at hl 1 rfl) ?_
      refine lv_istore (lv' := [(6, .int x1), (0, .ref (ad 2)), (1, .int x1), (2, .int x2), (3, .int x3), (4, .int x4), (5, .int x5)]) E.hx E.hb dX1_hasPixelIn_13 hl (by decide) rfl (fun ls hl => ?_)
      obtain ⟨q_4, e_5, h⟩ := obind h
      refine w_X1_hasPixelIn_L15 E K0 P FU e_5 (lv_sub hl [1, 2, 3, 4, 5, 6, 0] rfl) (fun {q_4v} hq {ls} hl => ?_) (fun r hr => by subst hr; exact kr r (Option.some.inj h).symm)
      subst hq
      dsimp only at h
      refine lv_iinc (v := x5 + 1) (lv' := [(5, .int (x5 + 1)), (0, .ref (ad 2)), (1, .int x1), (2, .int x2), (3, .int x3), (4, .int x4)]) E.hx E.hb dX1_hasPixelIn_43 hl (k := 5) rfl rfl (by decide) rfl (fun ls hl => ?_)
      refine lv_goto (tgt := 3) E.hx E.hb dX1_hasPixelIn_46 (by decide) ?_
      exact ih  h (lv_sub hl [1, 2, 3, 4, 5, 0] rfl) kx kr
def B_X1_hasPixelIn (I : Nat → Int32) (A : Nat → Nat → Int32) (x1 x2 x3 x4 : Int32) : Option (Int32) := (B_X1_hasPixelIn_L3 I A x1 x2 x3 x4 FU x2).bind fun q_6 => match q_6 with | .inr r => some r | .inl q_6v => some 0
set_option maxHeartbeats 4000000 in
set_option maxRecDepth 100000 in
theorem w_X1_hasPixelIn (E : EX p s m args meth c cX1_hasPixelIn 7 RX1 (some .boolean)) (K0 : KC D cyI ad s s.heap) (P : va_P D classes (cw cyI ad I A) s.heap)  {x1 x2 x3 x4 : Int32} {out : Int32} (h : B_X1_hasPixelIn I A x1 x2 x3 x4 = some out) {ls : Array Slot} (hl : lv_has ls 7 [(0, .ref (ad 2)), (1, .int x1), (2, .int x2), (3, .int x3), (4, .int x4)]) : W p l e (rmL 2) s m args below meth c s.heap [] 0 0 (MQ below (vp_Si (fun z => z = out)) args s 0 0 (fun _ => False)) (F0 m 0 ls []) := by
  unfold B_X1_hasPixelIn at h
  refine lv_iload_n E.hx E.hb dX1_hasPixelIn_0 rfl (lv_at hl 2 rfl) ?_
  refine lv_istore (lv' := [(5, .int x2), (0, .ref (ad 2)), (1, .int x1), (2, .int x2), (3, .int x3), (4, .int x4)]) E.hx E.hb dX1_hasPixelIn_1 hl (by decide) rfl (fun ls hl => ?_)
  obtain ⟨q_6, e_7, h⟩ := obind h
  refine w_X1_hasPixelIn_L3 E K0 P FU e_7 (lv_sub hl [1, 2, 3, 4, 5, 0] rfl) (fun {q_6v} hq {ls} hl => ?_) (fun r hr => by subst hr; exact Option.some.inj h)
  subst hq
  dsimp only at h
  refine lv_iconst (v := 0) E.hx E.hb dX1_hasPixelIn_49 (by decide) ?_
  exact W.zret E.hx E.hb E.hr rfl (fun t ht _ => ⟨_, rfl, (Option.some.inj h), ht⟩) (fun q hq => nomatch hq) dX1_hasPixelIn_50 E.hk
theorem c_X1_hasPixelIn (l : Launch) {H : Heap} {D : va_G} {cyI : ClassId} {ad : Nat → Nat} {I : Nat → Int32} {A : Nat → Nat → Int32} (P : va_P D classes (cw cyI ad I A) H) (x1 x2 x3 x4 : Int32) {out : Int32} (h : B_X1_hasPixelIn I A x1 x2 x3 x4 = some out) : MRO l yX1_hasPixelIn cX1_hasPixelIn 7 (some .boolean) 2 [.ref (ad 2), .int x1, .int x2, .int x3, .int x4] H (KC D cyI ad) out := by
  refine Mof (own := RX1) (by decide +kernel) rfl rfl ?_
  intro p e s m args below meth c ls E hH K0 hl
  subst hH
  exact w_X1_hasPixelIn E K0 P h hl
theorem ds_X1_hasPixelIn : Dsc yX1_hasPixelIn 4 := ⟨by decide +kernel, by decide +kernel, by decide +kernel⟩
end
end WALK
end
section
section WALK
section
variable {p : Program} {l : Launch} {e : Env} {R : Room} {s : State} {m : MethodId} {args : Array Value} {below : List Frame} {meth : Method} {c : Code} {H : Heap} {locs : List Loc} {cells slots : Nat} {Q : State → Prop} {cc : ByteArray} {nL pc : Nat} {ret : Option FieldType} {ls : Array Slot} {rest : List Value} {D : va_G} {cyI : ClassId} {ad : Nat → Nat} {I : Nat → Int32} {A : Nat → Nat → Int32}
theorem rpt_X0_37 (E : EX p s m args meth c cc nL RX0 ret) (N : AdN 44 ad) (K0 : KC D cyI ad s s.heap) (P : va_P D classes (cw cyI ad I A) H) (S : va_S (InN 44 ad) s.heap H locs) {q0 q1 a b n : Nat} {f : Nat → Int32} (he : (cw cyI ad I A)[q0]? = some (b, .inr (4, [.ref a]))) (ha : (cw cyI ad I A)[q1]? = some (a, .inl (cyI, n, .inl f))) {k : Nat} (hs : ∀ g : Nat → Int32, (cw cyI ad I A).set q1 (a, .inl (cyI, n, .inl g)) = cw cyI ad I (va_up A k g)) (hn : n < 2 ^ 31) {i x : Int32} (hR : RmOk R cells slots 0 3) (hls : ls.size = nL) (hro : (rest.map fun v => v.category).sum ≤ 8) (hdg : decode cc pc = .ok (.invokevirtual 37, 3)) (kk : ∀ (H1 : Heap) (locs1 : List Loc), va_P D classes (cw cyI ad I (va_up A k (rPut n f i x))) H1 → va_S (InN 44 ad) s.heap H1 locs1 → W p l e R s m args below meth c H1 locs1 cells slots Q (F0 m (pc + 3) ls rest)) : W p l e R s m args below meth c H locs cells slots Q (F0 m pc ls (.int x :: .int i :: .ref b :: rest)) :=
  cv_rw E (c_X4_put l (fun _ _ h => h.1) P (cw_D N I A) q0 q1 he ha hn i x) (gV kML_X0_37 kIM_X4_put kSE_X4_put kIN_X4 kCO_X4_put) rfl ds_X4_put rfl KC_blind (fun U _ hW => (K0.at S).warm hW) S (va_recv K0.k P (show classes[4]? = some (RX4, TX4, 1) from rfl) he) hR hls rfl hro hdg (fun H1 l1 hP hS => kk H1 l1 (by rw [← hs]; exact hP) hS)
end
section
variable {p : Program} {l : Launch} {e : Env} {s : State} {m : MethodId} {args : Array Value} {below : List Frame} {meth : Method} {c : Code} {D : va_G} {cyI : ClassId} {ad : Nat → Nat} {I : Nat → Int32} {A : Nat → Nat → Int32}
def B_X0_put (I : Nat → Int32) (A : Nat → Nat → Int32) (x1 x2 x3 x4 x5 : Int32) : Option ((Nat → Int32) × (Nat → Nat → Int32)) := some (I, (va_up ((va_up ((va_up ((va_up A 13 (rPut 40 (A 13) x1 x2))) 14 (rPut 40 (((va_up A 13 (rPut 40 (A 13) x1 x2))) 14) x1 x3))) 15 (rPut 40 (((va_up ((va_up A 13 (rPut 40 (A 13) x1 x2))) 14 (rPut 40 (((va_up A 13 (rPut 40 (A 13) x1 x2))) 14) x1 x3))) 15) x1 x4))) 16 (rPut 40 (((va_up ((va_up ((va_up A 13 (rPut 40 (A 13) x1 x2))) 14 (rPut 40 (((va_up A 13 (rPut 40 (A 13) x1 x2))) 14) x1 x3))) 15 (rPut 40 (((va_up ((va_up A 13 (rPut 40 (A 13) x1 x2))) 14 (rPut 40 (((va_up A 13 (rPut 40 (A 13) x1 x2))) 14) x1 x3))) 15) x1 x4))) 16) x1 x5)))
set_option maxHeartbeats 4000000 in
set_option maxRecDepth 100000 in
theorem w_X0_put (E : EX p s m args meth c cX0_put 6 RX0 none) (K0 : KC D cyI ad s s.heap) (N : AdN 44 ad) {H : Heap} {locs : List Loc} (P : va_P D classes (cw cyI ad I A) H) (S : va_S (InN 44 ad) s.heap H locs)  {x1 x2 x3 x4 x5 : Int32} {out : (Nat → Int32) × (Nat → Nat → Int32)} (h : B_X0_put I A x1 x2 x3 x4 x5 = some out) {ls : Array Slot} (hl : lv_has ls 6 [(0, .ref (ad 4)), (1, .int x1), (2, .int x2), (3, .int x3), (4, .int x4), (5, .int x5)]) : W p l e (rmL 1) s m args below meth c H locs 0 0 (MQ below (Qrw (InN 44 ad) (none) (fun H1 => va_P D classes (cw cyI ad out.1 out.2) H1)) args s 0 0 (InN 44 ad)) (F0 m 0 ls []) := by
  unfold B_X0_put at h
  refine lv_aload_n E.hx E.hb dX0_put_0 rfl (lv_at hl 0 rfl) ?_
  refine gf_X0_14 E K0 P dX0_put_1 ?_
  refine lv_iload_n E.hx E.hb dX0_put_4 rfl (lv_at hl 1 rfl) ?_
  refine lv_iload_n E.hx E.hb dX0_put_5 rfl (lv_at hl 2 rfl) ?_
  refine rpt_X0_37 E N K0 P S cw_r13 cw_a13 cw_s13 (by decide) (by decide) hl.1 (Nat.le_of_ble_eq_true rfl) dX0_put_6 (fun H locs P S => ?_)
  refine lv_aload_n E.hx E.hb dX0_put_9 rfl (lv_at hl 0 rfl) ?_
  refine gf_X0_20 E K0 P dX0_put_10 ?_
  refine lv_iload_n E.hx E.hb dX0_put_13 rfl (lv_at hl 1 rfl) ?_
  refine lv_iload_n E.hx E.hb dX0_put_14 rfl (lv_at hl 3 rfl) ?_
  refine rpt_X0_37 E N K0 P S cw_r14 cw_a14 cw_s14 (by decide) (by decide) hl.1 (Nat.le_of_ble_eq_true rfl) dX0_put_15 (fun H locs P S => ?_)
  refine lv_aload_n E.hx E.hb dX0_put_18 rfl (lv_at hl 0 rfl) ?_
  refine gf_X0_23 E K0 P dX0_put_19 ?_
  refine lv_iload_n E.hx E.hb dX0_put_22 rfl (lv_at hl 1 rfl) ?_
  refine lv_iload E.hx E.hb dX0_put_23 (lv_at hl 4 rfl) ?_
  refine rpt_X0_37 E N K0 P S cw_r15 cw_a15 cw_s15 (by decide) (by decide) hl.1 (Nat.le_of_ble_eq_true rfl) dX0_put_25 (fun H locs P S => ?_)
  refine lv_aload_n E.hx E.hb dX0_put_28 rfl (lv_at hl 0 rfl) ?_
  refine gf_X0_26 E K0 P dX0_put_29 ?_
  refine lv_iload_n E.hx E.hb dX0_put_32 rfl (lv_at hl 1 rfl) ?_
  refine lv_iload E.hx E.hb dX0_put_33 (lv_at hl 5 rfl) ?_
  refine rpt_X0_37 E N K0 P S cw_r16 cw_a16 cw_s16 (by decide) (by decide) hl.1 (Nat.le_of_ble_eq_true rfl) dX0_put_35 (fun H locs P S => ?_)
  cases h
  exact W.vret E.hx E.hb E.hr (fun t ht _ => ⟨rfl, by rw [ht]; exact P, S.F ht⟩) S.2.2 dX0_put_38 E.hk
theorem c_X0_put (l : Launch) {H : Heap} {D : va_G} {cyI : ClassId} {ad : Nat → Nat} {I : Nat → Int32} {A : Nat → Nat → Int32} (N : AdN 44 ad) (P : va_P D classes (cw cyI ad I A) H) (x1 x2 x3 x4 x5 : Int32) {out : (Nat → Int32) × (Nat → Nat → Int32)} (h : B_X0_put I A x1 x2 x3 x4 x5 = some out) : MRW l yX0_put cX0_put 6 none 1 [.ref (ad 4), .int x1, .int x2, .int x3, .int x4, .int x5] H (KC D cyI ad) (InN 44 ad) none (fun H1 => va_P D classes (cw cyI ad out.1 out.2) H1) := by
  refine Mof (own := RX0) (by decide +kernel) rfl rfl ?_
  intro p e s m args below meth c ls E hH K0 hl
  subst hH
  exact w_X0_put E K0 N P va_S.rf h hl
theorem ds_X0_put : Dsc yX0_put 5 := ⟨by decide +kernel, by decide +kernel, by decide +kernel⟩
end
section
variable {p : Program} {l : Launch} {e : Env} {R : Room} {s : State} {m : MethodId} {args : Array Value} {below : List Frame} {meth : Method} {c : Code} {H : Heap} {locs : List Loc} {cells slots : Nat} {Q : State → Prop} {cc : ByteArray} {nL pc : Nat} {ret : Option FieldType} {ls : Array Slot} {rest : List Value} {D : va_G} {cyI : ClassId} {ad : Nat → Nat} {I : Nat → Int32} {A : Nat → Nat → Int32}
theorem iv_X0_33 (E : EX p s m args meth c cc nL RX0 ret) (N : AdN 44 ad) (K0 : KC D cyI ad s s.heap) (P : va_P D classes (cw cyI ad I A) H) (S : va_S (InN 44 ad) s.heap H locs) {a0 a1 a2 a3 a4 : Int32} {v : (Nat → Int32) × (Nat → Nat → Int32)} (hv : B_X0_put I A a0 a1 a2 a3 a4 = some v) (hR : RmOk R cells slots 1 6) (hls : ls.size = nL) (hro : (rest.map fun v => v.category).sum ≤ 8) (hdg : decode cc pc = .ok (.invokevirtual 33, 3)) (kk : ∀ (H1 : Heap) (locs1 : List Loc), va_P D classes (cw cyI ad v.1 v.2) H1 → va_S (InN 44 ad) s.heap H1 locs1 → W p l e R s m args below meth c H1 locs1 cells slots Q (F0 m (pc + 3) ls (rest))) : W p l e R s m args below meth c H locs cells slots Q (F0 m pc ls (.int a4 :: .int a3 :: .int a2 :: .int a1 :: .int a0 :: .ref (ad 4) :: rest)) :=
  cv_rw E (c_X0_put l N P a0 a1 a2 a3 a4 hv) (gV kML_X0_33 kIM_X0_put kSE_X0_put kIN_X0 kCO_X0_put) rfl ds_X0_put rfl KC_blind (fun U _ hW => (K0.at S).warm hW) S (va_recv K0.k P (show classes[0]? = some (RX0, TX0, 5) from rfl) cw_g4) hR hls rfl hro hdg kk
end
section
variable {p : Program} {l : Launch} {e : Env} {s : State} {m : MethodId} {args : Array Value} {below : List Frame} {meth : Method} {c : Code} {D : va_G} {cyI : ClassId} {ad : Nat → Nat} {I : Nat → Int32} {A : Nat → Nat → Int32}
def B_X0_add (I : Nat → Int32) (A : Nat → Nat → Int32) (x1 x2 x3 x4 : Int32) : Option (Int32 × (Nat → Int32) × (Nat → Nat → Int32)) := (B_X0_put I A ((I 10)) x1 x2 x3 x4).bind fun q_1 => some ((((va_up q_1.1 10 (((q_1.1 10) + 1)))) 10), (va_up q_1.1 10 (((q_1.1 10) + 1))), q_1.2)
set_option maxHeartbeats 4000000 in
set_option maxRecDepth 100000 in
theorem w_X0_add (E : EX p s m args meth c cX0_add 5 RX0 (some .int)) (K0 : KC D cyI ad s s.heap) (N : AdN 44 ad) {H : Heap} {locs : List Loc} (P : va_P D classes (cw cyI ad I A) H) (S : va_S (InN 44 ad) s.heap H locs)  {x1 x2 x3 x4 : Int32} {out : Int32 × (Nat → Int32) × (Nat → Nat → Int32)} (h : B_X0_add I A x1 x2 x3 x4 = some out) {ls : Array Slot} (hl : lv_has ls 5 [(0, .ref (ad 4)), (1, .int x1), (2, .int x2), (3, .int x3), (4, .int x4)]) : W p l e (rmL 2) s m args below meth c H locs 0 0 (MQ below (Qrw (InN 44 ad) (some (.int out.1)) (fun H1 => va_P D classes (cw cyI ad out.2.1 out.2.2) H1)) args s 0 0 (InN 44 ad)) (F0 m 0 ls []) := by
  unfold B_X0_add at h
  refine lv_aload_n E.hx E.hb dX0_add_0 rfl (lv_at hl 0 rfl) ?_
  refine lv_aload_n E.hx E.hb dX0_add_1 rfl (lv_at hl 0 rfl) ?_
  refine gf_X0_29 E K0 P dX0_add_2 ?_
  refine lv_iload_n E.hx E.hb dX0_add_5 rfl (lv_at hl 1 rfl) ?_
  refine lv_iload_n E.hx E.hb dX0_add_6 rfl (lv_at hl 2 rfl) ?_
  refine lv_iload_n E.hx E.hb dX0_add_7 rfl (lv_at hl 3 rfl) ?_
  refine lv_iload E.hx E.hb dX0_add_8 (lv_at hl 4 rfl) ?_
  obtain ⟨q_1, e_2, h⟩ := obind h
  refine iv_X0_33 E N K0 P S e_2 (by decide) hl.1 (Nat.le_of_ble_eq_true rfl) dX0_add_10 (fun H locs P S => ?_)
  refine lv_aload_n E.hx E.hb dX0_add_13 rfl (lv_at hl 0 rfl) ?_
  refine lv_dup E.hx E.hb dX0_add_14 rfl ?_
  refine gf_X0_29 E K0 P dX0_add_15 ?_
  refine lv_iconst (v := 1) E.hx E.hb dX0_add_18 (by decide) ?_
  refine lv_iadd E.hx E.hb dX0_add_19 ?_
  refine pf_X0_29 E N K0 P S dX0_add_20 (fun H locs P S => ?_)
  refine lv_aload_n E.hx E.hb dX0_add_23 rfl (lv_at hl 0 rfl) ?_
  refine gf_X0_29 E K0 P dX0_add_24 ?_
  cases h
  exact W.iret E.hx E.hb E.hr (fun t ht _ => ⟨rfl, by rw [ht]; exact P, S.F ht⟩) S.2.2 dX0_add_27 E.hk
theorem c_X0_add (l : Launch) {H : Heap} {D : va_G} {cyI : ClassId} {ad : Nat → Nat} {I : Nat → Int32} {A : Nat → Nat → Int32} (N : AdN 44 ad) (P : va_P D classes (cw cyI ad I A) H) (x1 x2 x3 x4 : Int32) {out : Int32 × (Nat → Int32) × (Nat → Nat → Int32)} (h : B_X0_add I A x1 x2 x3 x4 = some out) : MRW l yX0_add cX0_add 5 (some .int) 2 [.ref (ad 4), .int x1, .int x2, .int x3, .int x4] H (KC D cyI ad) (InN 44 ad) (some (.int out.1)) (fun H1 => va_P D classes (cw cyI ad out.2.1 out.2.2) H1) := by
  refine Mof (own := RX0) (by decide +kernel) rfl rfl ?_
  intro p e s m args below meth c ls E hH K0 hl
  subst hH
  exact w_X0_add E K0 N P va_S.rf h hl
theorem ds_X0_add : Dsc yX0_add 4 := ⟨by decide +kernel, by decide +kernel, by decide +kernel⟩
end
section
variable {p : Program} {l : Launch} {e : Env} {s : State} {m : MethodId} {args : Array Value} {below : List Frame} {meth : Method} {c : Code} {D : va_G} {cyI : ClassId} {ad : Nat → Nat} {I : Nat → Int32} {A : Nat → Nat → Int32}
def B_X3_left (I : Nat → Int32) (A : Nat → Nat → Int32) (x1 : Int32) : Int32 := (rAt 8 (A 0) x1)
set_option maxHeartbeats 4000000 in
set_option maxRecDepth 100000 in
theorem w_X3_left (E : EX p s m args meth c cX3_left 2 RX3 (some .int)) (K0 : KC D cyI ad s s.heap) (P : va_P D classes (cw cyI ad I A) s.heap)  {x1 : Int32} {out : Int32} (h : B_X3_left I A x1 = out) {ls : Array Slot} (hl : lv_has ls 2 [(0, .ref (ad 1)), (1, .int x1)]) : W p l e (rmL 1) s m args below meth c s.heap [] 0 0 (MQ below (vp_Si (fun z => z = out)) args s 0 0 (fun _ => False)) (F0 m 0 ls []) := by
  unfold B_X3_left at h
  refine lv_aload_n E.hx E.hb dX3_left_0 rfl (lv_at hl 0 rfl) ?_
  refine gf_X3_14 E K0 P dX3_left_1 ?_
  refine lv_iload_n E.hx E.hb dX3_left_4 rfl (lv_at hl 1 rfl) ?_
  refine rat_X3_49 E K0 P va_S.rf cw_r0 cw_a0 (by decide) (by decide) hl.1 (Nat.le_of_ble_eq_true rfl) dX3_left_5 ?_
  exact W.iret E.hx E.hb E.hr (fun t ht _ => ⟨_, rfl, h, ht⟩) (fun q hq => nomatch hq) dX3_left_8 E.hk
theorem c_X3_left (l : Launch) {H : Heap} {D : va_G} {cyI : ClassId} {ad : Nat → Nat} {I : Nat → Int32} {A : Nat → Nat → Int32} (P : va_P D classes (cw cyI ad I A) H) (x1 : Int32) : MRO l yX3_left cX3_left 2 (some .int) 1 [.ref (ad 1), .int x1] H (KC D cyI ad) (B_X3_left I A x1) := by
  refine Mof (own := RX3) (by decide +kernel) rfl rfl ?_
  intro p e s m args below meth c ls E hH K0 hl
  subst hH
  exact w_X3_left E K0 P rfl hl
theorem ds_X3_left : Dsc yX3_left 1 := ⟨by decide +kernel, by decide +kernel, by decide +kernel⟩
end
section
variable {p : Program} {l : Launch} {e : Env} {s : State} {m : MethodId} {args : Array Value} {below : List Frame} {meth : Method} {c : Code} {D : va_G} {cyI : ClassId} {ad : Nat → Nat} {I : Nat → Int32} {A : Nat → Nat → Int32}
def B_X3_top (I : Nat → Int32) (A : Nat → Nat → Int32) (x1 : Int32) : Int32 := (rAt 8 (A 1) x1)
set_option maxHeartbeats 4000000 in
set_option maxRecDepth 100000 in
theorem w_X3_top (E : EX p s m args meth c cX3_top 2 RX3 (some .int)) (K0 : KC D cyI ad s s.heap) (P : va_P D classes (cw cyI ad I A) s.heap)  {x1 : Int32} {out : Int32} (h : B_X3_top I A x1 = out) {ls : Array Slot} (hl : lv_has ls 2 [(0, .ref (ad 1)), (1, .int x1)]) : W p l e (rmL 1) s m args below meth c s.heap [] 0 0 (MQ below (vp_Si (fun z => z = out)) args s 0 0 (fun _ => False)) (F0 m 0 ls []) := by
  unfold B_X3_top at h
  refine lv_aload_n E.hx E.hb dX3_top_0 rfl (lv_at hl 0 rfl) ?_
  refine gf_X3_20 E K0 P dX3_top_1 ?_
  refine lv_iload_n E.hx E.hb dX3_top_4 rfl (lv_at hl 1 rfl) ?_
  refine rat_X3_49 E K0 P va_S.rf cw_r1 cw_a1 (by decide) (by decide) hl.1 (Nat.le_of_ble_eq_true rfl) dX3_top_5 ?_
  exact W.iret E.hx E.hb E.hr (fun t ht _ => ⟨_, rfl, h, ht⟩) (fun q hq => nomatch hq) dX3_top_8 E.hk
theorem c_X3_top (l : Launch) {H : Heap} {D : va_G} {cyI : ClassId} {ad : Nat → Nat} {I : Nat → Int32} {A : Nat → Nat → Int32} (P : va_P D classes (cw cyI ad I A) H) (x1 : Int32) : MRO l yX3_top cX3_top 2 (some .int) 1 [.ref (ad 1), .int x1] H (KC D cyI ad) (B_X3_top I A x1) := by
  refine Mof (own := RX3) (by decide +kernel) rfl rfl ?_
  intro p e s m args below meth c ls E hH K0 hl
  subst hH
  exact w_X3_top E K0 P rfl hl
theorem ds_X3_top : Dsc yX3_top 1 := ⟨by decide +kernel, by decide +kernel, by decide +kernel⟩
end
section
variable {p : Program} {l : Launch} {e : Env} {s : State} {m : MethodId} {args : Array Value} {below : List Frame} {meth : Method} {c : Code} {D : va_G} {cyI : ClassId} {ad : Nat → Nat} {I : Nat → Int32} {A : Nat → Nat → Int32}
def B_X3_width (I : Nat → Int32) (A : Nat → Nat → Int32) (x1 : Int32) : Int32 := (rAt 8 (A 2) x1)
set_option maxHeartbeats 4000000 in
set_option maxRecDepth 100000 in
theorem w_X3_width (E : EX p s m args meth c cX3_width 2 RX3 (some .int)) (K0 : KC D cyI ad s s.heap) (P : va_P D classes (cw cyI ad I A) s.heap)  {x1 : Int32} {out : Int32} (h : B_X3_width I A x1 = out) {ls : Array Slot} (hl : lv_has ls 2 [(0, .ref (ad 1)), (1, .int x1)]) : W p l e (rmL 1) s m args below meth c s.heap [] 0 0 (MQ below (vp_Si (fun z => z = out)) args s 0 0 (fun _ => False)) (F0 m 0 ls []) := by
  unfold B_X3_width at h
  refine lv_aload_n E.hx E.hb dX3_width_0 rfl (lv_at hl 0 rfl) ?_
  refine gf_X3_23 E K0 P dX3_width_1 ?_
  refine lv_iload_n E.hx E.hb dX3_width_4 rfl (lv_at hl 1 rfl) ?_
  refine rat_X3_49 E K0 P va_S.rf cw_r2 cw_a2 (by decide) (by decide) hl.1 (Nat.le_of_ble_eq_true rfl) dX3_width_5 ?_
  exact W.iret E.hx E.hb E.hr (fun t ht _ => ⟨_, rfl, h, ht⟩) (fun q hq => nomatch hq) dX3_width_8 E.hk
theorem c_X3_width (l : Launch) {H : Heap} {D : va_G} {cyI : ClassId} {ad : Nat → Nat} {I : Nat → Int32} {A : Nat → Nat → Int32} (P : va_P D classes (cw cyI ad I A) H) (x1 : Int32) : MRO l yX3_width cX3_width 2 (some .int) 1 [.ref (ad 1), .int x1] H (KC D cyI ad) (B_X3_width I A x1) := by
  refine Mof (own := RX3) (by decide +kernel) rfl rfl ?_
  intro p e s m args below meth c ls E hH K0 hl
  subst hH
  exact w_X3_width E K0 P rfl hl
theorem ds_X3_width : Dsc yX3_width 1 := ⟨by decide +kernel, by decide +kernel, by decide +kernel⟩
end
section
variable {p : Program} {l : Launch} {e : Env} {s : State} {m : MethodId} {args : Array Value} {below : List Frame} {meth : Method} {c : Code} {D : va_G} {cyI : ClassId} {ad : Nat → Nat} {I : Nat → Int32} {A : Nat → Nat → Int32}
def B_X3_height (I : Nat → Int32) (A : Nat → Nat → Int32) (x1 : Int32) : Int32 := (rAt 8 (A 3) x1)
set_option maxHeartbeats 4000000 in
set_option maxRecDepth 100000 in
theorem w_X3_height (E : EX p s m args meth c cX3_height 2 RX3 (some .int)) (K0 : KC D cyI ad s s.heap) (P : va_P D classes (cw cyI ad I A) s.heap)  {x1 : Int32} {out : Int32} (h : B_X3_height I A x1 = out) {ls : Array Slot} (hl : lv_has ls 2 [(0, .ref (ad 1)), (1, .int x1)]) : W p l e (rmL 1) s m args below meth c s.heap [] 0 0 (MQ below (vp_Si (fun z => z = out)) args s 0 0 (fun _ => False)) (F0 m 0 ls []) := by
  unfold B_X3_height at h
  refine lv_aload_n E.hx E.hb dX3_height_0 rfl (lv_at hl 0 rfl) ?_
  refine gf_X3_26 E K0 P dX3_height_1 ?_
  refine lv_iload_n E.hx E.hb dX3_height_4 rfl (lv_at hl 1 rfl) ?_
  refine rat_X3_49 E K0 P va_S.rf cw_r3 cw_a3 (by decide) (by decide) hl.1 (Nat.le_of_ble_eq_true rfl) dX3_height_5 ?_
  exact W.iret E.hx E.hb E.hr (fun t ht _ => ⟨_, rfl, h, ht⟩) (fun q hq => nomatch hq) dX3_height_8 E.hk
theorem c_X3_height (l : Launch) {H : Heap} {D : va_G} {cyI : ClassId} {ad : Nat → Nat} {I : Nat → Int32} {A : Nat → Nat → Int32} (P : va_P D classes (cw cyI ad I A) H) (x1 : Int32) : MRO l yX3_height cX3_height 2 (some .int) 1 [.ref (ad 1), .int x1] H (KC D cyI ad) (B_X3_height I A x1) := by
  refine Mof (own := RX3) (by decide +kernel) rfl rfl ?_
  intro p e s m args below meth c ls E hH K0 hl
  subst hH
  exact w_X3_height E K0 P rfl hl
theorem ds_X3_height : Dsc yX3_height 1 := ⟨by decide +kernel, by decide +kernel, by decide +kernel⟩
end
section
variable {p : Program} {l : Launch} {e : Env} {R : Room} {s : State} {m : MethodId} {args : Array Value} {below : List Frame} {meth : Method} {c : Code} {H : Heap} {locs : List Loc} {cells slots : Nat} {Q : State → Prop} {cc : ByteArray} {nL pc : Nat} {ret : Option FieldType} {ls : Array Slot} {rest : List Value} {D : va_G} {cyI : ClassId} {ad : Nat → Nat} {I : Nat → Int32} {A : Nat → Nat → Int32}
theorem iv_X1_112 (E : EX p s m args meth c cc nL RX1 ret) (K0 : KC D cyI ad s s.heap) (P : va_P D classes (cw cyI ad I A) H) (S : va_S (InN 44 ad) s.heap H locs) {a0 : Int32} (hR : RmOk R cells slots 1 2) (hls : ls.size = nL) (hro : (rest.map fun v => v.category).sum ≤ 8) (hdg : decode cc pc = .ok (.invokevirtual 112, 3)) (kk : W p l e R s m args below meth c H locs cells slots Q (F0 m (pc + 3) ls (.int (B_X3_left I A a0) :: rest))) : W p l e R s m args below meth c H locs cells slots Q (F0 m pc ls (.int a0 :: .ref (ad 1) :: rest)) :=
  cv_ro E (c_X3_left l P a0 ) (gV kML_X1_112 kIM_X3_left kSE_X3_left kIN_X3 kCO_X3_left) rfl ds_X3_left rfl KC_blind (fun U _ hW => (K0.at S).warm hW) (va_recv K0.k P (show classes[3]? = some (RX3, TX3, 9) from rfl) cw_g1) hR hls rfl hro hdg kk
end
section
variable {p : Program} {l : Launch} {e : Env} {R : Room} {s : State} {m : MethodId} {args : Array Value} {below : List Frame} {meth : Method} {c : Code} {H : Heap} {locs : List Loc} {cells slots : Nat} {Q : State → Prop} {cc : ByteArray} {nL pc : Nat} {ret : Option FieldType} {ls : Array Slot} {rest : List Value} {D : va_G} {cyI : ClassId} {ad : Nat → Nat} {I : Nat → Int32} {A : Nat → Nat → Int32}
theorem iv_X1_115 (E : EX p s m args meth c cc nL RX1 ret) (K0 : KC D cyI ad s s.heap) (P : va_P D classes (cw cyI ad I A) H) (S : va_S (InN 44 ad) s.heap H locs) {a0 : Int32} (hR : RmOk R cells slots 1 2) (hls : ls.size = nL) (hro : (rest.map fun v => v.category).sum ≤ 8) (hdg : decode cc pc = .ok (.invokevirtual 115, 3)) (kk : W p l e R s m args below meth c H locs cells slots Q (F0 m (pc + 3) ls (.int (B_X3_top I A a0) :: rest))) : W p l e R s m args below meth c H locs cells slots Q (F0 m pc ls (.int a0 :: .ref (ad 1) :: rest)) :=
  cv_ro E (c_X3_top l P a0 ) (gV kML_X1_115 kIM_X3_top kSE_X3_top kIN_X3 kCO_X3_top) rfl ds_X3_top rfl KC_blind (fun U _ hW => (K0.at S).warm hW) (va_recv K0.k P (show classes[3]? = some (RX3, TX3, 9) from rfl) cw_g1) hR hls rfl hro hdg kk
end
section
variable {p : Program} {l : Launch} {e : Env} {R : Room} {s : State} {m : MethodId} {args : Array Value} {below : List Frame} {meth : Method} {c : Code} {H : Heap} {locs : List Loc} {cells slots : Nat} {Q : State → Prop} {cc : ByteArray} {nL pc : Nat} {ret : Option FieldType} {ls : Array Slot} {rest : List Value} {D : va_G} {cyI : ClassId} {ad : Nat → Nat} {I : Nat → Int32} {A : Nat → Nat → Int32}
theorem iv_X1_118 (E : EX p s m args meth c cc nL RX1 ret) (K0 : KC D cyI ad s s.heap) (P : va_P D classes (cw cyI ad I A) H) (S : va_S (InN 44 ad) s.heap H locs) {a0 : Int32} (hR : RmOk R cells slots 1 2) (hls : ls.size = nL) (hro : (rest.map fun v => v.category).sum ≤ 8) (hdg : decode cc pc = .ok (.invokevirtual 118, 3)) (kk : W p l e R s m args below meth c H locs cells slots Q (F0 m (pc + 3) ls (.int (B_X3_width I A a0) :: rest))) : W p l e R s m args below meth c H locs cells slots Q (F0 m pc ls (.int a0 :: .ref (ad 1) :: rest)) :=
  cv_ro E (c_X3_width l P a0 ) (gV kML_X1_118 kIM_X3_width kSE_X3_width kIN_X3 kCO_X3_width) rfl ds_X3_width rfl KC_blind (fun U _ hW => (K0.at S).warm hW) (va_recv K0.k P (show classes[3]? = some (RX3, TX3, 9) from rfl) cw_g1) hR hls rfl hro hdg kk
end
section
variable {p : Program} {l : Launch} {e : Env} {R : Room} {s : State} {m : MethodId} {args : Array Value} {below : List Frame} {meth : Method} {c : Code} {H : Heap} {locs : List Loc} {cells slots : Nat} {Q : State → Prop} {cc : ByteArray} {nL pc : Nat} {ret : Option FieldType} {ls : Array Slot} {rest : List Value} {D : va_G} {cyI : ClassId} {ad : Nat → Nat} {I : Nat → Int32} {A : Nat → Nat → Int32}
theorem iv_X1_120 (E : EX p s m args meth c cc nL RX1 ret) (K0 : KC D cyI ad s s.heap) (P : va_P D classes (cw cyI ad I A) H) (S : va_S (InN 44 ad) s.heap H locs) {a0 : Int32} (hR : RmOk R cells slots 1 2) (hls : ls.size = nL) (hro : (rest.map fun v => v.category).sum ≤ 8) (hdg : decode cc pc = .ok (.invokevirtual 120, 3)) (kk : W p l e R s m args below meth c H locs cells slots Q (F0 m (pc + 3) ls (.int (B_X3_height I A a0) :: rest))) : W p l e R s m args below meth c H locs cells slots Q (F0 m pc ls (.int a0 :: .ref (ad 1) :: rest)) :=
  cv_ro E (c_X3_height l P a0 ) (gV kML_X1_120 kIM_X3_height kSE_X3_height kIN_X3 kCO_X3_height) rfl ds_X3_height rfl KC_blind (fun U _ hW => (K0.at S).warm hW) (va_recv K0.k P (show classes[3]? = some (RX3, TX3, 9) from rfl) cw_g1) hR hls rfl hro hdg kk
end
section
variable {p : Program} {l : Launch} {e : Env} {s : State} {m : MethodId} {args : Array Value} {below : List Frame} {meth : Method} {c : Code} {D : va_G} {cyI : ClassId} {ad : Nat → Nat} {I : Nat → Int32} {A : Nat → Nat → Int32}
def B_X1_heldInPixel_L60 (I : Nat → Int32) (A : Nat → Nat → Int32) (x3 x5 x6 x7 : Int32) : Nat → Int32 → Int32 → Option (Int32)
  | 0 => fun _ _ => none
  | n + 1 => fun x2 x8 => if x5 ≤ x8 then some (x2) else (B_X1_heldInPixel_L60 I A x3 x5 x6 x7 n) ((x2 + (B_X1_heldWith I A ((B_X6_numberOf x8 x7)) ((B_X1_directionAt I A x8 x7))))) (x8 + 1)
theorem B_X1_heldInPixel_L60_s (I : Nat → Int32) (A : Nat → Nat → Int32) (x3 x5 x6 x7 x2 x8 : Int32) (n : Nat) : B_X1_heldInPixel_L60 I A x3 x5 x6 x7 (n + 1) x2 x8 = if x5 ≤ x8 then some (x2) else (B_X1_heldInPixel_L60 I A x3 x5 x6 x7 n) ((x2 + (B_X1_heldWith I A ((B_X6_numberOf x8 x7)) ((B_X1_directionAt I A x8 x7))))) (x8 + 1) := rfl
set_option maxHeartbeats 4000000 in
set_option maxRecDepth 100000 in
theorem w_X1_heldInPixel_L60 (E : EX p s m args meth c cX1_heldInPixel 9 RX1 (some .int)) (K0 : KC D cyI ad s s.heap) (P : va_P D classes (cw cyI ad I A) s.heap) {x3 x5 x6 x7 : Int32} {out : Int32} : ∀ (n : Nat) {x2 x8 : Int32} {o : Int32} (h : B_X1_heldInPixel_L60 I A x3 x5 x6 x7 n x2 x8 = some o) {ls : Array Slot} (hl : lv_has ls 9 [(0, .ref (ad 2)), (2, .int x2), (3, .int x3), (5, .int x5), (6, .int x6), (7, .int x7), (8, .int x8)]) (kx : ∀ {ls : Array Slot}, lv_has ls 9 [(0, .ref (ad 2)), (2, .int o), (3, .int x3), (5, .int x5), (6, .int x6), (7, .int x7)] → W p l e (rmL 3) s m args below meth c s.heap [] 0 0 (MQ below (vp_Si (fun z => z = out)) args s 0 0 (fun _ => False)) (F0 m 95 ls [])), W p l e (rmL 3) s m args below meth c s.heap [] 0 0 (MQ below (vp_Si (fun z => z = out)) args s 0 0 (fun _ => False)) (F0 m 60 ls []) := by
  intro n
  induction n with
  | zero => intro x2 x8 o h ls hl kx; exact nomatch (show none = some o from h)
  | succ n ih =>
    intro x2 x8 o h ls hl kx
    rw [B_X1_heldInPixel_L60_s] at h
    refine lv_iload E.hx E.hb dX1_heldInPixel_60 (lv_at hl 6 rfl) ?_
    refine lv_iload E.hx E.hb dX1_heldInPixel_62 (lv_at hl 3 rfl) ?_
    refine lv_icmp_ge (tgt := 95) E.hx E.hb dX1_heldInPixel_64 (by decide) (fun c_2 => ?_) (fun c_2 => ?_)
    · rw [if_pos c_2] at h
      cases h
      exact kx  (lv_sub hl [0, 1, 2, 3, 4, 5] rfl)
    · rw [if_neg c_2] at h
      refine lv_iload_n E.hx E.hb dX1_heldInPixel_67 rfl (lv_at hl 1 rfl) ?_
      refine lv_aload_n E.hx E.hb dX1_heldInPixel_68 rfl (lv_at hl 0 rfl) ?_
      refine lv_iload E.hx E.hb dX1_heldInPixel_69 (lv_at hl 6 rfl) ?_
      refine lv_iload E.hx E.hb dX1_heldInPixel_71 (lv_at hl 5 rfl) ?_
      refine iv_X1_55 E K0 va_S.rf (by decide) hl.1 (Nat.le_of_ble_eq_true rfl) dX1_heldInPixel_73 ?_
      refine lv_aload_n E.hx E.hb dX1_heldInPixel_76 rfl (lv_at hl 0 rfl) ?_
      refine lv_iload E.hx E.hb dX1_heldInPixel_77 (lv_at hl 6 rfl) ?_
      refine lv_iload E.hx E.hb dX1_heldInPixel_79 (lv_at hl 5 rfl) ?_
      refine iv_X1_88 E K0 P va_S.rf (by decide) hl.1 (Nat.le_of_ble_eq_true rfl) dX1_heldInPixel_81 ?_
      refine iv_X1_81 E K0 P va_S.rf (by decide) hl.1 (Nat.le_of_ble_eq_true rfl) dX1_heldInPixel_84 ?_
      refine lv_iadd E.hx E.hb dX1_heldInPixel_87 ?_
      refine lv_istore_n (lv' := [(2, .int (x2 + (B_X1_heldWith I A ((B_X6_numberOf x8 x7)) ((B_X1_directionAt I A x8 x7))))), (0, .ref (ad 2)), (3, .int x3), (5, .int x5), (6, .int x6), (7, .int x7), (8, .int x8)]) E.hx E.hb dX1_heldInPixel_88 rfl hl (by decide) rfl (fun ls hl => ?_)
      refine lv_iinc (v := x8 + 1) (lv' := [(8, .int (x8 + 1)), (2, .int (x2 + (B_X1_heldWith I A ((B_X6_numberOf x8 x7)) ((B_X1_directionAt I A x8 x7))))), (0, .ref (ad 2)), (3, .int x3), (5, .int x5), (6, .int x6), (7, .int x7)]) E.hx E.hb dX1_heldInPixel_89 hl (k := 6) rfl rfl (by decide) rfl (fun ls hl => ?_)
      refine lv_goto (tgt := 60) E.hx E.hb dX1_heldInPixel_92 (by decide) ?_
      exact ih  h (lv_sub hl [2, 1, 3, 4, 5, 6, 0] rfl) kx
def B_X1_heldInPixel_L50 (I : Nat → Int32) (A : Nat → Nat → Int32) (x3 x5 x6 : Int32) : Nat → Int32 → Int32 → Option (Int32)
  | 0 => fun _ _ => none
  | n + 1 => fun x2 x7 => if x6 ≤ x7 then some (x2) else ((B_X1_heldInPixel_L60 I A x3 x5 x6 x7 FU x2 x3).bind fun q_3 => (B_X1_heldInPixel_L50 I A x3 x5 x6 n) q_3 (x7 + 1))
theorem B_X1_heldInPixel_L50_s (I : Nat → Int32) (A : Nat → Nat → Int32) (x3 x5 x6 x2 x7 : Int32) (n : Nat) : B_X1_heldInPixel_L50 I A x3 x5 x6 (n + 1) x2 x7 = if x6 ≤ x7 then some (x2) else ((B_X1_heldInPixel_L60 I A x3 x5 x6 x7 FU x2 x3).bind fun q_3 => (B_X1_heldInPixel_L50 I A x3 x5 x6 n) q_3 (x7 + 1)) := rfl
set_option maxHeartbeats 4000000 in
set_option maxRecDepth 100000 in
theorem w_X1_heldInPixel_L50 (E : EX p s m args meth c cX1_heldInPixel 9 RX1 (some .int)) (K0 : KC D cyI ad s s.heap) (P : va_P D classes (cw cyI ad I A) s.heap) {x3 x5 x6 : Int32} {out : Int32} : ∀ (n : Nat) {x2 x7 : Int32} {o : Int32} (h : B_X1_heldInPixel_L50 I A x3 x5 x6 n x2 x7 = some o) {ls : Array Slot} (hl : lv_has ls 9 [(0, .ref (ad 2)), (2, .int x2), (3, .int x3), (5, .int x5), (6, .int x6), (7, .int x7)]) (kx : ∀ {ls : Array Slot}, lv_has ls 9 [(2, .int o)] → W p l e (rmL 3) s m args below meth c s.heap [] 0 0 (MQ below (vp_Si (fun z => z = out)) args s 0 0 (fun _ => False)) (F0 m 101 ls [])), W p l e (rmL 3) s m args below meth c s.heap [] 0 0 (MQ below (vp_Si (fun z => z = out)) args s 0 0 (fun _ => False)) (F0 m 50 ls []) := by
  intro n
  induction n with
  | zero => intro x2 x7 o h ls hl kx; exact nomatch (show none = some o from h)
  | succ n ih =>
    intro x2 x7 o h ls hl kx
    rw [B_X1_heldInPixel_L50_s] at h
    refine lv_iload E.hx E.hb dX1_heldInPixel_50 (lv_at hl 5 rfl) ?_
    refine lv_iload E.hx E.hb dX1_heldInPixel_52 (lv_at hl 4 rfl) ?_
    refine lv_icmp_ge (tgt := 101) E.hx E.hb dX1_heldInPixel_54 (by decide) (fun c_1 => ?_) (fun c_1 => ?_)
    · rw [if_pos c_1] at h
      cases h
      exact kx  (lv_sub hl [1] rfl)
    · rw [if_neg c_1] at h
      refine lv_iload_n E.hx E.hb dX1_heldInPixel_57 rfl (lv_at hl 2 rfl) ?_
      refine lv_istore (lv' := [(8, .int x3), (0, .ref (ad 2)), (2, .int x2), (3, .int x3), (5, .int x5), (6, .int x6), (7, .int x7)]) E.hx E.hb dX1_heldInPixel_58 hl (by decide) rfl (fun ls hl => ?_)
      obtain ⟨q_3, e_4, h⟩ := obind h
      refine w_X1_heldInPixel_L60 E K0 P FU e_4 (lv_sub hl [1, 2, 3, 4, 5, 6, 0] rfl) (fun {ls} hl => ?_)
      refine lv_iinc (v := x7 + 1) (lv' := [(7, .int (x7 + 1)), (0, .ref (ad 2)), (2, .int q_3), (3, .int x3), (5, .int x5), (6, .int x6)]) E.hx E.hb dX1_heldInPixel_95 hl (k := 5) rfl rfl (by decide) rfl (fun ls hl => ?_)
      refine lv_goto (tgt := 50) E.hx E.hb dX1_heldInPixel_98 (by decide) ?_
      exact ih  h (lv_sub hl [1, 2, 3, 4, 5, 0] rfl) kx
def B_X1_heldInPixel (I : Nat → Int32) (A : Nat → Nat → Int32) (x1 : Int32) : Option (Int32) := (B_X1_heldInPixel_L50 I A ((B_X3_left I A x1)) (((B_X3_left I A x1) + (B_X3_width I A x1))) (((B_X3_top I A x1) + (B_X3_height I A x1))) FU 0 ((B_X3_top I A x1))).bind fun q_5 => some q_5
set_option maxHeartbeats 4000000 in
set_option maxRecDepth 100000 in
theorem w_X1_heldInPixel (E : EX p s m args meth c cX1_heldInPixel 9 RX1 (some .int)) (K0 : KC D cyI ad s s.heap) (P : va_P D classes (cw cyI ad I A) s.heap)  {x1 : Int32} {out : Int32} (h : B_X1_heldInPixel I A x1 = some out) {ls : Array Slot} (hl : lv_has ls 9 [(0, .ref (ad 2)), (1, .int x1)]) : W p l e (rmL 3) s m args below meth c s.heap [] 0 0 (MQ below (vp_Si (fun z => z = out)) args s 0 0 (fun _ => False)) (F0 m 0 ls []) := by
  unfold B_X1_heldInPixel at h
  refine lv_iconst (v := 0) E.hx E.hb dX1_heldInPixel_0 (by decide) ?_
  refine lv_istore_n (lv' := [(2, .int 0), (0, .ref (ad 2)), (1, .int x1)]) E.hx E.hb dX1_heldInPixel_1 rfl hl (by decide) rfl (fun ls hl => ?_)
  refine lv_aload_n E.hx E.hb dX1_heldInPixel_2 rfl (lv_at hl 1 rfl) ?_
  refine gf_X1_45 E K0 P dX1_heldInPixel_3 ?_
  refine lv_iload_n E.hx E.hb dX1_heldInPixel_6 rfl (lv_at hl 2 rfl) ?_
  refine iv_X1_112 E K0 P va_S.rf (by decide) hl.1 (Nat.le_of_ble_eq_true rfl) dX1_heldInPixel_7 ?_
  refine lv_istore_n (lv' := [(3, .int (B_X3_left I A x1)), (2, .int 0), (0, .ref (ad 2)), (1, .int x1)]) E.hx E.hb dX1_heldInPixel_10 rfl hl (by decide) rfl (fun ls hl => ?_)
  refine lv_aload_n E.hx E.hb dX1_heldInPixel_11 rfl (lv_at hl 2 rfl) ?_
  refine gf_X1_45 E K0 P dX1_heldInPixel_12 ?_
  refine lv_iload_n E.hx E.hb dX1_heldInPixel_15 rfl (lv_at hl 3 rfl) ?_
  refine iv_X1_115 E K0 P va_S.rf (by decide) hl.1 (Nat.le_of_ble_eq_true rfl) dX1_heldInPixel_16 ?_
  refine lv_istore (lv' := [(4, .int (B_X3_top I A x1)), (3, .int (B_X3_left I A x1)), (2, .int 0), (0, .ref (ad 2)), (1, .int x1)]) E.hx E.hb dX1_heldInPixel_19 hl (by decide) rfl (fun ls hl => ?_)
  refine lv_iload_n E.hx E.hb dX1_heldInPixel_21 rfl (lv_at hl 1 rfl) ?_
  refine lv_aload_n E.hx E.hb dX1_heldInPixel_22 rfl (lv_at hl 3 rfl) ?_
  refine gf_X1_45 E K0 P dX1_heldInPixel_23 ?_
  refine lv_iload_n E.hx E.hb dX1_heldInPixel_26 rfl (lv_at hl 4 rfl) ?_
  refine iv_X1_118 E K0 P va_S.rf (by decide) hl.1 (Nat.le_of_ble_eq_true rfl) dX1_heldInPixel_27 ?_
  refine lv_iadd E.hx E.hb dX1_heldInPixel_30 ?_
  refine lv_istore (lv' := [(5, .int ((B_X3_left I A x1) + (B_X3_width I A x1))), (4, .int (B_X3_top I A x1)), (3, .int (B_X3_left I A x1)), (2, .int 0), (0, .ref (ad 2)), (1, .int x1)]) E.hx E.hb dX1_heldInPixel_31 hl (by decide) rfl (fun ls hl => ?_)
  refine lv_iload E.hx E.hb dX1_heldInPixel_33 (lv_at hl 1 rfl) ?_
  refine lv_aload_n E.hx E.hb dX1_heldInPixel_35 rfl (lv_at hl 4 rfl) ?_
  refine gf_X1_45 E K0 P dX1_heldInPixel_36 ?_
  refine lv_iload_n E.hx E.hb dX1_heldInPixel_39 rfl (lv_at hl 5 rfl) ?_
  refine iv_X1_120 E K0 P va_S.rf (by decide) hl.1 (Nat.le_of_ble_eq_true rfl) dX1_heldInPixel_40 ?_
  refine lv_iadd E.hx E.hb dX1_heldInPixel_43 ?_
  refine lv_istore (lv' := [(6, .int ((B_X3_top I A x1) + (B_X3_height I A x1))), (5, .int ((B_X3_left I A x1) + (B_X3_width I A x1))), (4, .int (B_X3_top I A x1)), (3, .int (B_X3_left I A x1)), (2, .int 0), (0, .ref (ad 2)), (1, .int x1)]) E.hx E.hb dX1_heldInPixel_44 hl (by decide) rfl (fun ls hl => ?_)
  refine lv_iload E.hx E.hb dX1_heldInPixel_46 (lv_at hl 2 rfl) ?_
  refine lv_istore (lv' := [(7, .int (B_X3_top I A x1)), (6, .int ((B_X3_top I A x1) + (B_X3_height I A x1))), (5, .int ((B_X3_left I A x1) + (B_X3_width I A x1))), (4, .int (B_X3_top I A x1)), (3, .int (B_X3_left I A x1)), (2, .int 0), (0, .ref (ad 2)), (1, .int x1)]) E.hx E.hb dX1_heldInPixel_48 hl (by decide) rfl (fun ls hl => ?_)
  obtain ⟨q_5, e_6, h⟩ := obind h
  refine w_X1_heldInPixel_L50 E K0 P FU e_6 (lv_sub hl [6, 5, 4, 2, 1, 0] rfl) (fun {ls} hl => ?_)
  refine lv_iload_n E.hx E.hb dX1_heldInPixel_101 rfl (lv_at hl 0 rfl) ?_
  exact W.iret E.hx E.hb E.hr (fun t ht _ => ⟨_, rfl, (Option.some.inj h), ht⟩) (fun q hq => nomatch hq) dX1_heldInPixel_102 E.hk
theorem c_X1_heldInPixel (l : Launch) {H : Heap} {D : va_G} {cyI : ClassId} {ad : Nat → Nat} {I : Nat → Int32} {A : Nat → Nat → Int32} (P : va_P D classes (cw cyI ad I A) H) (x1 : Int32) {out : Int32} (h : B_X1_heldInPixel I A x1 = some out) : MRO l yX1_heldInPixel cX1_heldInPixel 9 (some .int) 3 [.ref (ad 2), .int x1] H (KC D cyI ad) out := by
  refine Mof (own := RX1) (by decide +kernel) rfl rfl ?_
  intro p e s m args below meth c ls E hH K0 hl
  subst hH
  exact w_X1_heldInPixel E K0 P h hl
theorem ds_X1_heldInPixel : Dsc yX1_heldInPixel 1 := ⟨by decide +kernel, by decide +kernel, by decide +kernel⟩
end
section
variable {p : Program} {l : Launch} {e : Env} {R : Room} {s : State} {m : MethodId} {args : Array Value} {below : List Frame} {meth : Method} {c : Code} {H : Heap} {locs : List Loc} {cells slots : Nat} {Q : State → Prop} {cc : ByteArray} {nL pc : Nat} {ret : Option FieldType} {ls : Array Slot} {rest : List Value} {D : va_G} {cyI : ClassId} {ad : Nat → Nat} {I : Nat → Int32} {A : Nat → Nat → Int32}
theorem rpt_X3_45 (E : EX p s m args meth c cc nL RX3 ret) (N : AdN 44 ad) (K0 : KC D cyI ad s s.heap) (P : va_P D classes (cw cyI ad I A) H) (S : va_S (InN 44 ad) s.heap H locs) {q0 q1 a b n : Nat} {f : Nat → Int32} (he : (cw cyI ad I A)[q0]? = some (b, .inr (4, [.ref a]))) (ha : (cw cyI ad I A)[q1]? = some (a, .inl (cyI, n, .inl f))) {k : Nat} (hs : ∀ g : Nat → Int32, (cw cyI ad I A).set q1 (a, .inl (cyI, n, .inl g)) = cw cyI ad I (va_up A k g)) (hn : n < 2 ^ 31) {i x : Int32} (hR : RmOk R cells slots 0 3) (hls : ls.size = nL) (hro : (rest.map fun v => v.category).sum ≤ 8) (hdg : decode cc pc = .ok (.invokevirtual 45, 3)) (kk : ∀ (H1 : Heap) (locs1 : List Loc), va_P D classes (cw cyI ad I (va_up A k (rPut n f i x))) H1 → va_S (InN 44 ad) s.heap H1 locs1 → W p l e R s m args below meth c H1 locs1 cells slots Q (F0 m (pc + 3) ls rest)) : W p l e R s m args below meth c H locs cells slots Q (F0 m pc ls (.int x :: .int i :: .ref b :: rest)) :=
  cv_rw E (c_X4_put l (fun _ _ h => h.1) P (cw_D N I A) q0 q1 he ha hn i x) (gV kML_X3_45 kIM_X4_put kSE_X4_put kIN_X4 kCO_X4_put) rfl ds_X4_put rfl KC_blind (fun U _ hW => (K0.at S).warm hW) S (va_recv K0.k P (show classes[4]? = some (RX4, TX4, 1) from rfl) he) hR hls rfl hro hdg (fun H1 l1 hP hS => kk H1 l1 (by rw [← hs]; exact hP) hS)
end
section
variable {p : Program} {l : Launch} {e : Env} {s : State} {m : MethodId} {args : Array Value} {below : List Frame} {meth : Method} {c : Code} {D : va_G} {cyI : ClassId} {ad : Nat → Nat} {I : Nat → Int32} {A : Nat → Nat → Int32}
def B_X3_setField (I : Nat → Int32) (A : Nat → Nat → Int32) (x1 x2 x3 : Int32) : Option ((Nat → Int32) × (Nat → Nat → Int32)) := some (I, (va_up ((va_up A 4 (rPut 8 (A 4) x1 x2))) 5 (rPut 8 (((va_up A 4 (rPut 8 (A 4) x1 x2))) 5) x1 x3)))
set_option maxHeartbeats 4000000 in
set_option maxRecDepth 100000 in
theorem w_X3_setField (E : EX p s m args meth c cX3_setField 4 RX3 none) (K0 : KC D cyI ad s s.heap) (N : AdN 44 ad) {H : Heap} {locs : List Loc} (P : va_P D classes (cw cyI ad I A) H) (S : va_S (InN 44 ad) s.heap H locs)  {x1 x2 x3 : Int32} {out : (Nat → Int32) × (Nat → Nat → Int32)} (h : B_X3_setField I A x1 x2 x3 = some out) {ls : Array Slot} (hl : lv_has ls 4 [(0, .ref (ad 1)), (1, .int x1), (2, .int x2), (3, .int x3)]) : W p l e (rmL 1) s m args below meth c H locs 0 0 (MQ below (Qrw (InN 44 ad) (none) (fun H1 => va_P D classes (cw cyI ad out.1 out.2) H1)) args s 0 0 (InN 44 ad)) (F0 m 0 ls []) := by
  unfold B_X3_setField at h
  refine lv_aload_n E.hx E.hb dX3_setField_0 rfl (lv_at hl 0 rfl) ?_
  refine gf_X3_29 E K0 P dX3_setField_1 ?_
  refine lv_iload_n E.hx E.hb dX3_setField_4 rfl (lv_at hl 1 rfl) ?_
  refine lv_iload_n E.hx E.hb dX3_setField_5 rfl (lv_at hl 2 rfl) ?_
  refine rpt_X3_45 E N K0 P S cw_r4 cw_a4 cw_s4 (by decide) (by decide) hl.1 (Nat.le_of_ble_eq_true rfl) dX3_setField_6 (fun H locs P S => ?_)
  refine lv_aload_n E.hx E.hb dX3_setField_9 rfl (lv_at hl 0 rfl) ?_
  refine gf_X3_32 E K0 P dX3_setField_10 ?_
  refine lv_iload_n E.hx E.hb dX3_setField_13 rfl (lv_at hl 1 rfl) ?_
  refine lv_iload_n E.hx E.hb dX3_setField_14 rfl (lv_at hl 3 rfl) ?_
  refine rpt_X3_45 E N K0 P S cw_r5 cw_a5 cw_s5 (by decide) (by decide) hl.1 (Nat.le_of_ble_eq_true rfl) dX3_setField_15 (fun H locs P S => ?_)
  cases h
  exact W.vret E.hx E.hb E.hr (fun t ht _ => ⟨rfl, by rw [ht]; exact P, S.F ht⟩) S.2.2 dX3_setField_18 E.hk
theorem c_X3_setField (l : Launch) {H : Heap} {D : va_G} {cyI : ClassId} {ad : Nat → Nat} {I : Nat → Int32} {A : Nat → Nat → Int32} (N : AdN 44 ad) (P : va_P D classes (cw cyI ad I A) H) (x1 x2 x3 : Int32) {out : (Nat → Int32) × (Nat → Nat → Int32)} (h : B_X3_setField I A x1 x2 x3 = some out) : MRW l yX3_setField cX3_setField 4 none 1 [.ref (ad 1), .int x1, .int x2, .int x3] H (KC D cyI ad) (InN 44 ad) none (fun H1 => va_P D classes (cw cyI ad out.1 out.2) H1) := by
  refine Mof (own := RX3) (by decide +kernel) rfl rfl ?_
  intro p e s m args below meth c ls E hH K0 hl
  subst hH
  exact w_X3_setField E K0 N P va_S.rf h hl
theorem ds_X3_setField : Dsc yX3_setField 3 := ⟨by decide +kernel, by decide +kernel, by decide +kernel⟩
end
section
variable {p : Program} {l : Launch} {e : Env} {s : State} {m : MethodId} {args : Array Value} {below : List Frame} {meth : Method} {c : Code} {D : va_G} {cyI : ClassId} {ad : Nat → Nat} {I : Nat → Int32} {A : Nat → Nat → Int32}
def B_X1_grown (I : Nat → Int32) (A : Nat → Nat → Int32) (x1 : Int32) : Option (Int32 × (Nat → Int32) × (Nat → Nat → Int32)) := some (x1, (va_up I 9 (((I 9) + x1))), A)
set_option maxHeartbeats 4000000 in
set_option maxRecDepth 100000 in
theorem w_X1_grown (E : EX p s m args meth c cX1_grown 2 RX1 (some .int)) (K0 : KC D cyI ad s s.heap) (N : AdN 44 ad) {H : Heap} {locs : List Loc} (P : va_P D classes (cw cyI ad I A) H) (S : va_S (InN 44 ad) s.heap H locs)  {x1 : Int32} {out : Int32 × (Nat → Int32) × (Nat → Nat → Int32)} (h : B_X1_grown I A x1 = some out) {ls : Array Slot} (hl : lv_has ls 2 [(0, .ref (ad 2)), (1, .int x1)]) : W p l e (rmL 0) s m args below meth c H locs 0 0 (MQ below (Qrw (InN 44 ad) (some (.int out.1)) (fun H1 => va_P D classes (cw cyI ad out.2.1 out.2.2) H1)) args s 0 0 (InN 44 ad)) (F0 m 0 ls []) := by
  unfold B_X1_grown at h
  refine lv_aload_n E.hx E.hb dX1_grown_0 rfl (lv_at hl 0 rfl) ?_
  refine lv_dup E.hx E.hb dX1_grown_1 rfl ?_
  refine gf_X1_52 E K0 P dX1_grown_2 ?_
  refine lv_iload_n E.hx E.hb dX1_grown_5 rfl (lv_at hl 1 rfl) ?_
  refine lv_iadd E.hx E.hb dX1_grown_6 ?_
  refine pf_X1_52 E N K0 P S dX1_grown_7 (fun H locs P S => ?_)
  refine lv_iload_n E.hx E.hb dX1_grown_10 rfl (lv_at hl 1 rfl) ?_
  cases h
  exact W.iret E.hx E.hb E.hr (fun t ht _ => ⟨rfl, by rw [ht]; exact P, S.F ht⟩) S.2.2 dX1_grown_11 E.hk
theorem c_X1_grown (l : Launch) {H : Heap} {D : va_G} {cyI : ClassId} {ad : Nat → Nat} {I : Nat → Int32} {A : Nat → Nat → Int32} (N : AdN 44 ad) (P : va_P D classes (cw cyI ad I A) H) (x1 : Int32) {out : Int32 × (Nat → Int32) × (Nat → Nat → Int32)} (h : B_X1_grown I A x1 = some out) : MRW l yX1_grown cX1_grown 2 (some .int) 0 [.ref (ad 2), .int x1] H (KC D cyI ad) (InN 44 ad) (some (.int out.1)) (fun H1 => va_P D classes (cw cyI ad out.2.1 out.2.2) H1) := by
  refine Mof (own := RX1) (by decide +kernel) rfl rfl ?_
  intro p e s m args below meth c ls E hH K0 hl
  subst hH
  exact w_X1_grown E K0 N P va_S.rf h hl
theorem ds_X1_grown : Dsc yX1_grown 1 := ⟨by decide +kernel, by decide +kernel, by decide +kernel⟩
end
section
variable {p : Program} {l : Launch} {e : Env} {R : Room} {s : State} {m : MethodId} {args : Array Value} {below : List Frame} {meth : Method} {c : Code} {H : Heap} {locs : List Loc} {cells slots : Nat} {Q : State → Prop} {cc : ByteArray} {nL pc : Nat} {ret : Option FieldType} {ls : Array Slot} {rest : List Value} {D : va_G} {cyI : ClassId} {ad : Nat → Nat} {I : Nat → Int32} {A : Nat → Nat → Int32}
theorem iv_X1_105 (E : EX p s m args meth c cc nL RX1 ret) (K0 : KC D cyI ad s s.heap) (P : va_P D classes (cw cyI ad I A) H) (S : va_S (InN 44 ad) s.heap H locs) {a0 : Int32} {v : Int32} (hv : B_X1_heldInPixel I A a0 = some v) (hR : RmOk R cells slots 3 9) (hls : ls.size = nL) (hro : (rest.map fun v => v.category).sum ≤ 8) (hdg : decode cc pc = .ok (.invokevirtual 105, 3)) (kk : W p l e R s m args below meth c H locs cells slots Q (F0 m (pc + 3) ls (.int v :: rest))) : W p l e R s m args below meth c H locs cells slots Q (F0 m pc ls (.int a0 :: .ref (ad 2) :: rest)) :=
  cv_ro E (c_X1_heldInPixel l P a0 hv) (gV kML_X1_105 kIM_X1_heldInPixel kSE_X1_heldInPixel kIN_X1 kCO_X1_heldInPixel) rfl ds_X1_heldInPixel rfl KC_blind (fun U _ hW => (K0.at S).warm hW) (va_recv K0.k P (show classes[1]? = some (RX1, TX1, 11) from rfl) cw_g2) hR hls rfl hro hdg kk
end
section
variable {p : Program} {l : Launch} {e : Env} {R : Room} {s : State} {m : MethodId} {args : Array Value} {below : List Frame} {meth : Method} {c : Code} {H : Heap} {locs : List Loc} {cells slots : Nat} {Q : State → Prop} {cc : ByteArray} {nL pc : Nat} {ret : Option FieldType} {ls : Array Slot} {rest : List Value} {D : va_G} {cyI : ClassId} {ad : Nat → Nat} {I : Nat → Int32} {A : Nat → Nat → Int32}
theorem iv_X1_108 (E : EX p s m args meth c cc nL RX1 ret) (N : AdN 44 ad) (K0 : KC D cyI ad s s.heap) (P : va_P D classes (cw cyI ad I A) H) (S : va_S (InN 44 ad) s.heap H locs) {a0 a1 a2 : Int32} {v : (Nat → Int32) × (Nat → Nat → Int32)} (hv : B_X3_setField I A a0 a1 a2 = some v) (hR : RmOk R cells slots 1 4) (hls : ls.size = nL) (hro : (rest.map fun v => v.category).sum ≤ 8) (hdg : decode cc pc = .ok (.invokevirtual 108, 3)) (kk : ∀ (H1 : Heap) (locs1 : List Loc), va_P D classes (cw cyI ad v.1 v.2) H1 → va_S (InN 44 ad) s.heap H1 locs1 → W p l e R s m args below meth c H1 locs1 cells slots Q (F0 m (pc + 3) ls (rest))) : W p l e R s m args below meth c H locs cells slots Q (F0 m pc ls (.int a2 :: .int a1 :: .int a0 :: .ref (ad 1) :: rest)) :=
  cv_rw E (c_X3_setField l N P a0 a1 a2 hv) (gV kML_X1_108 kIM_X3_setField kSE_X3_setField kIN_X3 kCO_X3_setField) rfl ds_X3_setField rfl KC_blind (fun U _ hW => (K0.at S).warm hW) S (va_recv K0.k P (show classes[3]? = some (RX3, TX3, 9) from rfl) cw_g1) hR hls rfl hro hdg kk
end
section
variable {p : Program} {l : Launch} {e : Env} {R : Room} {s : State} {m : MethodId} {args : Array Value} {below : List Frame} {meth : Method} {c : Code} {H : Heap} {locs : List Loc} {cells slots : Nat} {Q : State → Prop} {cc : ByteArray} {nL pc : Nat} {ret : Option FieldType} {ls : Array Slot} {rest : List Value} {D : va_G} {cyI : ClassId} {ad : Nat → Nat} {I : Nat → Int32} {A : Nat → Nat → Int32}
theorem iv_X1_99 (E : EX p s m args meth c cc nL RX1 ret) (N : AdN 44 ad) (K0 : KC D cyI ad s s.heap) (P : va_P D classes (cw cyI ad I A) H) (S : va_S (InN 44 ad) s.heap H locs) {a0 : Int32} {v : Int32 × (Nat → Int32) × (Nat → Nat → Int32)} (hv : B_X1_grown I A a0 = some v) (hR : RmOk R cells slots 0 2) (hls : ls.size = nL) (hro : (rest.map fun v => v.category).sum ≤ 8) (hdg : decode cc pc = .ok (.invokevirtual 99, 3)) (kk : ∀ (H1 : Heap) (locs1 : List Loc), va_P D classes (cw cyI ad v.2.1 v.2.2) H1 → va_S (InN 44 ad) s.heap H1 locs1 → W p l e R s m args below meth c H1 locs1 cells slots Q (F0 m (pc + 3) ls (.int v.1 :: rest))) : W p l e R s m args below meth c H locs cells slots Q (F0 m pc ls (.int a0 :: .ref (ad 2) :: rest)) :=
  cv_rw E (c_X1_grown l N P a0 hv) (gV kML_X1_99 kIM_X1_grown kSE_X1_grown kIN_X1 kCO_X1_grown) rfl ds_X1_grown rfl KC_blind (fun U _ hW => (K0.at S).warm hW) S (va_recv K0.k P (show classes[1]? = some (RX1, TX1, 11) from rfl) cw_g2) hR hls rfl hro hdg kk
end
section
variable {p : Program} {l : Launch} {e : Env} {s : State} {m : MethodId} {args : Array Value} {below : List Frame} {meth : Method} {c : Code} {D : va_G} {cyI : ClassId} {ad : Nat → Nat} {I : Nat → Int32} {A : Nat → Nat → Int32}
def B_X1_setField (I : Nat → Int32) (A : Nat → Nat → Int32) (x1 x2 x3 : Int32) : Option (Int32 × (Nat → Int32) × (Nat → Nat → Int32)) := (B_X1_heldInPixel I A x1).bind fun r_1 => (B_X3_setField I A x1 x2 x3).bind fun q_3 => (B_X1_heldInPixel q_3.1 q_3.2 x1).bind fun r_5 => (B_X1_grown q_3.1 q_3.2 ((r_5 - r_1))).bind fun q_7 => some (q_7.1, q_7.2.1, q_7.2.2)
set_option maxHeartbeats 4000000 in
set_option maxRecDepth 100000 in
theorem w_X1_setField (E : EX p s m args meth c cX1_setField 5 RX1 (some .int)) (K0 : KC D cyI ad s s.heap) (N : AdN 44 ad) {H : Heap} {locs : List Loc} (P : va_P D classes (cw cyI ad I A) H) (S : va_S (InN 44 ad) s.heap H locs)  {x1 x2 x3 : Int32} {out : Int32 × (Nat → Int32) × (Nat → Nat → Int32)} (h : B_X1_setField I A x1 x2 x3 = some out) {ls : Array Slot} (hl : lv_has ls 5 [(0, .ref (ad 2)), (1, .int x1), (2, .int x2), (3, .int x3)]) : W p l e (rmL 4) s m args below meth c H locs 0 0 (MQ below (Qrw (InN 44 ad) (some (.int out.1)) (fun H1 => va_P D classes (cw cyI ad out.2.1 out.2.2) H1)) args s 0 0 (InN 44 ad)) (F0 m 0 ls []) := by
  unfold B_X1_setField at h
  refine lv_aload_n E.hx E.hb dX1_setField_0 rfl (lv_at hl 0 rfl) ?_
  refine lv_iload_n E.hx E.hb dX1_setField_1 rfl (lv_at hl 1 rfl) ?_
  obtain ⟨r_1, e_2, h⟩ := obind h
  refine iv_X1_105 E K0 P S e_2 (by decide) hl.1 (Nat.le_of_ble_eq_true rfl) dX1_setField_2 ?_
  refine lv_istore (lv' := [(4, .int r_1), (0, .ref (ad 2)), (1, .int x1), (2, .int x2), (3, .int x3)]) E.hx E.hb dX1_setField_5 hl (by decide) rfl (fun ls hl => ?_)
  refine lv_aload_n E.hx E.hb dX1_setField_7 rfl (lv_at hl 1 rfl) ?_
  refine gf_X1_45 E K0 P dX1_setField_8 ?_
  refine lv_iload_n E.hx E.hb dX1_setField_11 rfl (lv_at hl 2 rfl) ?_
  refine lv_iload_n E.hx E.hb dX1_setField_12 rfl (lv_at hl 3 rfl) ?_
  refine lv_iload_n E.hx E.hb dX1_setField_13 rfl (lv_at hl 4 rfl) ?_
  obtain ⟨q_3, e_4, h⟩ := obind h
  refine iv_X1_108 E N K0 P S e_4 (by decide) hl.1 (Nat.le_of_ble_eq_true rfl) dX1_setField_14 (fun H locs P S => ?_)
  refine lv_aload_n E.hx E.hb dX1_setField_17 rfl (lv_at hl 1 rfl) ?_
  refine lv_aload_n E.hx E.hb dX1_setField_18 rfl (lv_at hl 1 rfl) ?_
  refine lv_iload_n E.hx E.hb dX1_setField_19 rfl (lv_at hl 2 rfl) ?_
  obtain ⟨r_5, e_6, h⟩ := obind h
  refine iv_X1_105 E K0 P S e_6 (by decide) hl.1 (Nat.le_of_ble_eq_true rfl) dX1_setField_20 ?_
  refine lv_iload E.hx E.hb dX1_setField_23 (lv_at hl 0 rfl) ?_
  refine lv_isub E.hx E.hb dX1_setField_25 ?_
  obtain ⟨q_7, e_8, h⟩ := obind h
  refine iv_X1_99 E N K0 P S e_8 (by decide) hl.1 (Nat.le_of_ble_eq_true rfl) dX1_setField_26 (fun H locs P S => ?_)
  cases h
  exact W.iret E.hx E.hb E.hr (fun t ht _ => ⟨rfl, by rw [ht]; exact P, S.F ht⟩) S.2.2 dX1_setField_29 E.hk
theorem c_X1_setField (l : Launch) {H : Heap} {D : va_G} {cyI : ClassId} {ad : Nat → Nat} {I : Nat → Int32} {A : Nat → Nat → Int32} (N : AdN 44 ad) (P : va_P D classes (cw cyI ad I A) H) (x1 x2 x3 : Int32) {out : Int32 × (Nat → Int32) × (Nat → Nat → Int32)} (h : B_X1_setField I A x1 x2 x3 = some out) : MRW l yX1_setField cX1_setField 5 (some .int) 4 [.ref (ad 2), .int x1, .int x2, .int x3] H (KC D cyI ad) (InN 44 ad) (some (.int out.1)) (fun H1 => va_P D classes (cw cyI ad out.2.1 out.2.2) H1) := by
  refine Mof (own := RX1) (by decide +kernel) rfl rfl ?_
  intro p e s m args below meth c ls E hH K0 hl
  subst hH
  exact w_X1_setField E K0 N P va_S.rf h hl
theorem ds_X1_setField : Dsc yX1_setField 3 := ⟨by decide +kernel, by decide +kernel, by decide +kernel⟩
end
section
variable {p : Program} {l : Launch} {e : Env} {R : Room} {s : State} {m : MethodId} {args : Array Value} {below : List Frame} {meth : Method} {c : Code} {H : Heap} {locs : List Loc} {cells slots : Nat} {Q : State → Prop} {cc : ByteArray} {nL pc : Nat} {ret : Option FieldType} {ls : Array Slot} {rest : List Value} {D : va_G} {cyI : ClassId} {ad : Nat → Nat} {I : Nat → Int32} {A : Nat → Nat → Int32}
theorem rat_X0_40 (E : EX p s m args meth c cc nL RX0 ret) (K0 : KC D cyI ad s s.heap) (P : va_P D classes (cw cyI ad I A) H) (S : va_S (InN 44 ad) s.heap H locs) {q0 q1 a b n : Nat} {f : Nat → Int32} (he : (cw cyI ad I A)[q0]? = some (b, .inr (4, [.ref a]))) (ha : (cw cyI ad I A)[q1]? = some (a, .inl (cyI, n, .inl f))) (hn : n < 2 ^ 31) {i : Int32} (hR : RmOk R cells slots 0 2) (hls : ls.size = nL) (hro : (rest.map fun v => v.category).sum ≤ 8) (hdg : decode cc pc = .ok (.invokevirtual 40, 3)) (kk : W p l e R s m args below meth c H locs cells slots Q (F0 m (pc + 3) ls (.int (rAt n f i) :: rest))) : W p l e R s m args below meth c H locs cells slots Q (F0 m pc ls (.int i :: .ref b :: rest)) :=
  cv_ro E (c_X4_at l (fun _ _ h => h.1) P q0 q1 he ha hn i) (gV kML_X0_40 kIM_X4_at kSE_X4_at kIN_X4 kCO_X4_at) rfl ds_X4_at rfl KC_blind (fun U _ hW => (K0.at S).warm hW) (va_recv K0.k P (show classes[4]? = some (RX4, TX4, 1) from rfl) he) hR hls rfl hro hdg kk
end
section
variable {p : Program} {l : Launch} {e : Env} {R : Room} {s : State} {m : MethodId} {args : Array Value} {below : List Frame} {meth : Method} {c : Code} {H : Heap} {locs : List Loc} {cells slots : Nat} {Q : State → Prop} {cc : ByteArray} {nL pc : Nat} {ret : Option FieldType} {ls : Array Slot} {rest : List Value} {D : va_G} {cyI : ClassId} {ad : Nat → Nat} {I : Nat → Int32} {A : Nat → Nat → Int32}
theorem iv_X0_44 (E : EX p s m args meth c cc nL RX0 ret) (N : AdN 44 ad) (K0 : KC D cyI ad s s.heap) (P : va_P D classes (cw cyI ad I A) H) (S : va_S (InN 44 ad) s.heap H locs) {a0 a1 a2 : Int32} {v : Int32 × (Nat → Int32) × (Nat → Nat → Int32)} (hv : B_X1_setField I A a0 a1 a2 = some v) (hR : RmOk R cells slots 4 5) (hls : ls.size = nL) (hro : (rest.map fun v => v.category).sum ≤ 8) (hdg : decode cc pc = .ok (.invokevirtual 44, 3)) (kk : ∀ (H1 : Heap) (locs1 : List Loc), va_P D classes (cw cyI ad v.2.1 v.2.2) H1 → va_S (InN 44 ad) s.heap H1 locs1 → W p l e R s m args below meth c H1 locs1 cells slots Q (F0 m (pc + 3) ls (.int v.1 :: rest))) : W p l e R s m args below meth c H locs cells slots Q (F0 m pc ls (.int a2 :: .int a1 :: .int a0 :: .ref (ad 2) :: rest)) :=
  cv_rw E (c_X1_setField l N P a0 a1 a2 hv) (gV kML_X0_44 kIM_X1_setField kSE_X1_setField kIN_X1 kCO_X1_setField) rfl ds_X1_setField rfl KC_blind (fun U _ hW => (K0.at S).warm hW) S (va_recv K0.k P (show classes[1]? = some (RX1, TX1, 11) from rfl) cw_g2) hR hls rfl hro hdg kk
end
section
variable {p : Program} {l : Launch} {e : Env} {s : State} {m : MethodId} {args : Array Value} {below : List Frame} {meth : Method} {c : Code} {D : va_G} {cyI : ClassId} {ad : Nat → Nat} {I : Nat → Int32} {A : Nat → Nat → Int32}
def B_X0_comeAt_L8  (x1 : Int32) : Nat → Int32 → Int32 → Int32 → (Nat → Int32) → (Nat → Nat → Int32) → Option (Int32 × Int32 × (Nat → Int32) × (Nat → Nat → Int32))
  | 0 => fun _ _ _ _ _ => none
  | n + 1 => fun x3 x4 x5 I A => if (I 10) ≤ x5 then some ((x3, x4, I, A)) else (if (rAt 40 (A 14) x5) = x1 then ((B_X1_setField I A ((rAt 40 (A 13) x5)) ((rAt 40 (A 15) x5)) ((rAt 40 (A 16) x5))).bind fun q_5 => (B_X0_comeAt_L8 x1 n) ((x3 + q_5.1)) x4 (x5 + 1) q_5.2.1 q_5.2.2) else ((B_X0_put I A x4 ((rAt 40 (A 13) x5)) ((rAt 40 (A 14) x5)) ((rAt 40 (A 15) x5)) ((rAt 40 (A 16) x5))).bind fun q_3 => (B_X0_comeAt_L8 x1 n) x3 (x4 + 1) (x5 + 1) q_3.1 q_3.2))
theorem B_X0_comeAt_L8_s (I : Nat → Int32) (A : Nat → Nat → Int32) (x1 x3 x4 x5 : Int32) (n : Nat) : B_X0_comeAt_L8  x1 (n + 1) x3 x4 x5 I A = if (I 10) ≤ x5 then some ((x3, x4, I, A)) else (if (rAt 40 (A 14) x5) = x1 then ((B_X1_setField I A ((rAt 40 (A 13) x5)) ((rAt 40 (A 15) x5)) ((rAt 40 (A 16) x5))).bind fun q_5 => (B_X0_comeAt_L8 x1 n) ((x3 + q_5.1)) x4 (x5 + 1) q_5.2.1 q_5.2.2) else ((B_X0_put I A x4 ((rAt 40 (A 13) x5)) ((rAt 40 (A 14) x5)) ((rAt 40 (A 15) x5)) ((rAt 40 (A 16) x5))).bind fun q_3 => (B_X0_comeAt_L8 x1 n) x3 (x4 + 1) (x5 + 1) q_3.1 q_3.2)) := rfl
set_option maxHeartbeats 4000000 in
set_option maxRecDepth 100000 in
theorem w_X0_comeAt_L8 (E : EX p s m args meth c cX0_comeAt 6 RX0 (some .int)) (K0 : KC D cyI ad s s.heap) (N : AdN 44 ad) {x1 : Int32} {out : Int32 × (Nat → Int32) × (Nat → Nat → Int32)} : ∀ (n : Nat) {x3 x4 x5 : Int32} {I : Nat → Int32} {A : Nat → Nat → Int32} {H : Heap} {locs : List Loc} (P : va_P D classes (cw cyI ad I A) H) (S : va_S (InN 44 ad) s.heap H locs) {o : Int32 × Int32 × (Nat → Int32) × (Nat → Nat → Int32)} (h : B_X0_comeAt_L8  x1 n x3 x4 x5 I A = some o) {ls : Array Slot} (hl : lv_has ls 6 [(0, .ref (ad 4)), (1, .int x1), (2, .ref (ad 2)), (3, .int x3), (4, .int x4), (5, .int x5)]) (kx : ∀ {H : Heap} {locs : List Loc} (_ : va_P D classes (cw cyI ad o.2.2.1 o.2.2.2) H) (_ : va_S (InN 44 ad) s.heap H locs) {ls : Array Slot}, lv_has ls 6 [(0, .ref (ad 4)), (3, .int o.1), (4, .int o.2.1)] → W p l e (rmL 5) s m args below meth c H locs 0 0 (MQ below (Qrw (InN 44 ad) (some (.int out.1)) (fun H1 => va_P D classes (cw cyI ad out.2.1 out.2.2) H1)) args s 0 0 (InN 44 ad)) (F0 m 118 ls [])), W p l e (rmL 5) s m args below meth c H locs 0 0 (MQ below (Qrw (InN 44 ad) (some (.int out.1)) (fun H1 => va_P D classes (cw cyI ad out.2.1 out.2.2) H1)) args s 0 0 (InN 44 ad)) (F0 m 8 ls []) := by
  intro n
  induction n with
  | zero => intro x3 x4 x5 I A H locs P S o h ls hl kx; exact nomatch (show none = some o from h)
  | succ n ih =>
    intro x3 x4 x5 I A H locs P S o h ls hl kx
    rw [B_X0_comeAt_L8_s] at h
    refine lv_iload E.hx E.hb dX0_comeAt_8 (lv_at hl 5 rfl) ?_
    refine lv_aload_n E.hx E.hb dX0_comeAt_10 rfl (lv_at hl 0 rfl) ?_
    refine gf_X0_29 E K0 P dX0_comeAt_11 ?_
    refine lv_icmp_ge (tgt := 118) E.hx E.hb dX0_comeAt_14 (by decide) (fun c_1 => ?_) (fun c_1 => ?_)
    · rw [if_pos c_1] at h
      cases h
      exact kx P S (lv_sub hl [0, 3, 4] rfl)
    · rw [if_neg c_1] at h
      refine lv_aload_n E.hx E.hb dX0_comeAt_17 rfl (lv_at hl 0 rfl) ?_
      refine gf_X0_20 E K0 P dX0_comeAt_18 ?_
      refine lv_iload E.hx E.hb dX0_comeAt_21 (lv_at hl 5 rfl) ?_
      refine rat_X0_40 E K0 P S cw_r14 cw_a14 (by decide) (by decide) hl.1 (Nat.le_of_ble_eq_true rfl) dX0_comeAt_23 ?_
      refine lv_iload_n E.hx E.hb dX0_comeAt_26 rfl (lv_at hl 1 rfl) ?_
      refine lv_icmp_ne (tgt := 67) E.hx E.hb dX0_comeAt_27 (by decide) (fun c_2 => ?_) (fun c_2 => ?_)
      · rw [if_neg c_2] at h
        refine lv_aload_n E.hx E.hb dX0_comeAt_67 rfl (lv_at hl 0 rfl) ?_
        refine lv_iload E.hx E.hb dX0_comeAt_68 (lv_at hl 4 rfl) ?_
        refine lv_aload_n E.hx E.hb dX0_comeAt_70 rfl (lv_at hl 0 rfl) ?_
        refine gf_X0_14 E K0 P dX0_comeAt_71 ?_
        refine lv_iload E.hx E.hb dX0_comeAt_74 (lv_at hl 5 rfl) ?_
        refine rat_X0_40 E K0 P S cw_r13 cw_a13 (by decide) (by decide) hl.1 (Nat.le_of_ble_eq_true rfl) dX0_comeAt_76 ?_
        refine lv_aload_n E.hx E.hb dX0_comeAt_79 rfl (lv_at hl 0 rfl) ?_
        refine gf_X0_20 E K0 P dX0_comeAt_80 ?_
        refine lv_iload E.hx E.hb dX0_comeAt_83 (lv_at hl 5 rfl) ?_
        refine rat_X0_40 E K0 P S cw_r14 cw_a14 (by decide) (by decide) hl.1 (Nat.le_of_ble_eq_true rfl) dX0_comeAt_85 ?_
        refine lv_aload_n E.hx E.hb dX0_comeAt_88 rfl (lv_at hl 0 rfl) ?_
        refine gf_X0_23 E K0 P dX0_comeAt_89 ?_
        refine lv_iload E.hx E.hb dX0_comeAt_92 (lv_at hl 5 rfl) ?_
        refine rat_X0_40 E K0 P S cw_r15 cw_a15 (by decide) (by decide) hl.1 (Nat.le_of_ble_eq_true rfl) dX0_comeAt_94 ?_
        refine lv_aload_n E.hx E.hb dX0_comeAt_97 rfl (lv_at hl 0 rfl) ?_
        refine gf_X0_26 E K0 P dX0_comeAt_98 ?_
        refine lv_iload E.hx E.hb dX0_comeAt_101 (lv_at hl 5 rfl) ?_
        refine rat_X0_40 E K0 P S cw_r16 cw_a16 (by decide) (by decide) hl.1 (Nat.le_of_ble_eq_true rfl) dX0_comeAt_103 ?_
        obtain ⟨q_3, e_4, h⟩ := obind h
        refine iv_X0_33 E N K0 P S e_4 (by decide) hl.1 (Nat.le_of_ble_eq_true rfl) dX0_comeAt_106 (fun H locs P S => ?_)
        refine lv_iinc (v := x4 + 1) (lv' := [(4, .int (x4 + 1)), (0, .ref (ad 4)), (1, .int x1), (2, .ref (ad 2)), (3, .int x3), (5, .int x5)]) E.hx E.hb dX0_comeAt_109 hl (k := 4) rfl rfl (by decide) rfl (fun ls hl => ?_)
        refine lv_iinc (v := x5 + 1) (lv' := [(5, .int (x5 + 1)), (4, .int (x4 + 1)), (0, .ref (ad 4)), (1, .int x1), (2, .ref (ad 2)), (3, .int x3)]) E.hx E.hb dX0_comeAt_112 hl (k := 5) rfl rfl (by decide) rfl (fun ls hl => ?_)
        refine lv_goto (tgt := 8) E.hx E.hb dX0_comeAt_115 (by decide) ?_
        exact ih P S h (lv_sub hl [2, 3, 4, 5, 1, 0] rfl) kx
      · rw [if_pos c_2] at h
        refine lv_iload_n E.hx E.hb dX0_comeAt_30 rfl (lv_at hl 3 rfl) ?_
        refine lv_aload_n E.hx E.hb dX0_comeAt_31 rfl (lv_at hl 2 rfl) ?_
        refine lv_aload_n E.hx E.hb dX0_comeAt_32 rfl (lv_at hl 0 rfl) ?_
        refine gf_X0_14 E K0 P dX0_comeAt_33 ?_
        refine lv_iload E.hx E.hb dX0_comeAt_36 (lv_at hl 5 rfl) ?_
        refine rat_X0_40 E K0 P S cw_r13 cw_a13 (by decide) (by decide) hl.1 (Nat.le_of_ble_eq_true rfl) dX0_comeAt_38 ?_
        refine lv_aload_n E.hx E.hb dX0_comeAt_41 rfl (lv_at hl 0 rfl) ?_
        refine gf_X0_23 E K0 P dX0_comeAt_42 ?_
        refine lv_iload E.hx E.hb dX0_comeAt_45 (lv_at hl 5 rfl) ?_
        refine rat_X0_40 E K0 P S cw_r15 cw_a15 (by decide) (by decide) hl.1 (Nat.le_of_ble_eq_true rfl) dX0_comeAt_47 ?_
        refine lv_aload_n E.hx E.hb dX0_comeAt_50 rfl (lv_at hl 0 rfl) ?_
        refine gf_X0_26 E K0 P dX0_comeAt_51 ?_
        refine lv_iload E.hx E.hb dX0_comeAt_54 (lv_at hl 5 rfl) ?_
        refine rat_X0_40 E K0 P S cw_r16 cw_a16 (by decide) (by decide) hl.1 (Nat.le_of_ble_eq_true rfl) dX0_comeAt_56 ?_
        obtain ⟨q_5, e_6, h⟩ := obind h
        refine iv_X0_44 E N K0 P S e_6 (by decide) hl.1 (Nat.le_of_ble_eq_true rfl) dX0_comeAt_59 (fun H locs P S => ?_)
        refine lv_iadd E.hx E.hb dX0_comeAt_62 ?_
        refine lv_istore_n (lv' := [(3, .int (x3 + q_5.1)), (0, .ref (ad 4)), (1, .int x1), (2, .ref (ad 2)), (4, .int x4), (5, .int x5)]) E.hx E.hb dX0_comeAt_63 rfl hl (by decide) rfl (fun ls hl => ?_)
        refine lv_goto (tgt := 112) E.hx E.hb dX0_comeAt_64 (by decide) ?_
        refine lv_iinc (v := x5 + 1) (lv' := [(5, .int (x5 + 1)), (3, .int (x3 + q_5.1)), (0, .ref (ad 4)), (1, .int x1), (2, .ref (ad 2)), (4, .int x4)]) E.hx E.hb dX0_comeAt_112 hl (k := 5) rfl rfl (by decide) rfl (fun ls hl => ?_)
        refine lv_goto (tgt := 8) E.hx E.hb dX0_comeAt_115 (by decide) ?_
        exact ih P S h (lv_sub hl [2, 3, 4, 1, 5, 0] rfl) kx
def B_X0_comeAt (I : Nat → Int32) (A : Nat → Nat → Int32) (x1 : Int32) : Option (Int32 × (Nat → Int32) × (Nat → Nat → Int32)) := (B_X0_comeAt_L8  x1 FU 0 0 0 I A).bind fun q_7 => some (q_7.1, (va_up q_7.2.2.1 10 q_7.2.1), q_7.2.2.2)
set_option maxHeartbeats 4000000 in
set_option maxRecDepth 100000 in
theorem w_X0_comeAt (E : EX p s m args meth c cX0_comeAt 6 RX0 (some .int)) (K0 : KC D cyI ad s s.heap) (N : AdN 44 ad) {H : Heap} {locs : List Loc} (P : va_P D classes (cw cyI ad I A) H) (S : va_S (InN 44 ad) s.heap H locs)  {x1 : Int32} {out : Int32 × (Nat → Int32) × (Nat → Nat → Int32)} (h : B_X0_comeAt I A x1 = some out) {ls : Array Slot} (hl : lv_has ls 6 [(0, .ref (ad 4)), (1, .int x1), (2, .ref (ad 2))]) : W p l e (rmL 5) s m args below meth c H locs 0 0 (MQ below (Qrw (InN 44 ad) (some (.int out.1)) (fun H1 => va_P D classes (cw cyI ad out.2.1 out.2.2) H1)) args s 0 0 (InN 44 ad)) (F0 m 0 ls []) := by
  unfold B_X0_comeAt at h
  refine lv_iconst (v := 0) E.hx E.hb dX0_comeAt_0 (by decide) ?_
  refine lv_istore_n (lv' := [(3, .int 0), (0, .ref (ad 4)), (1, .int x1), (2, .ref (ad 2))]) E.hx E.hb dX0_comeAt_1 rfl hl (by decide) rfl (fun ls hl => ?_)
  refine lv_iconst (v := 0) E.hx E.hb dX0_comeAt_2 (by decide) ?_
  refine lv_istore (lv' := [(4, .int 0), (3, .int 0), (0, .ref (ad 4)), (1, .int x1), (2, .ref (ad 2))]) E.hx E.hb dX0_comeAt_3 hl (by decide) rfl (fun ls hl => ?_)
  refine lv_iconst (v := 0) E.hx E.hb dX0_comeAt_5 (by decide) ?_
  refine lv_istore (lv' := [(5, .int 0), (4, .int 0), (3, .int 0), (0, .ref (ad 4)), (1, .int x1), (2, .ref (ad 2))]) E.hx E.hb dX0_comeAt_6 hl (by decide) rfl (fun ls hl => ?_)
  obtain ⟨q_7, e_8, h⟩ := obind h
  refine w_X0_comeAt_L8 E K0 N FU P S e_8 (lv_sub hl [3, 4, 5, 2, 1, 0] rfl) (fun {H locs} P S {ls} hl => ?_)
  refine lv_aload_n E.hx E.hb dX0_comeAt_118 rfl (lv_at hl 0 rfl) ?_
  refine lv_iload E.hx E.hb dX0_comeAt_119 (lv_at hl 2 rfl) ?_
  refine pf_X0_29 E N K0 P S dX0_comeAt_121 (fun H locs P S => ?_)
  refine lv_iload_n E.hx E.hb dX0_comeAt_124 rfl (lv_at hl 1 rfl) ?_
  cases h
  exact W.iret E.hx E.hb E.hr (fun t ht _ => ⟨rfl, by rw [ht]; exact P, S.F ht⟩) S.2.2 dX0_comeAt_125 E.hk
theorem c_X0_comeAt (l : Launch) {H : Heap} {D : va_G} {cyI : ClassId} {ad : Nat → Nat} {I : Nat → Int32} {A : Nat → Nat → Int32} (N : AdN 44 ad) (P : va_P D classes (cw cyI ad I A) H) (x1 : Int32) {out : Int32 × (Nat → Int32) × (Nat → Nat → Int32)} (h : B_X0_comeAt I A x1 = some out) : MRW l yX0_comeAt cX0_comeAt 6 (some .int) 5 [.ref (ad 4), .int x1, .ref (ad 2)] H (KC D cyI ad) (InN 44 ad) (some (.int out.1)) (fun H1 => va_P D classes (cw cyI ad out.2.1 out.2.2) H1) := by
  refine Mof (own := RX0) (by decide +kernel) rfl rfl ?_
  intro p e s m args below meth c ls E hH K0 hl
  subst hH
  exact w_X0_comeAt E K0 N P va_S.rf h hl
theorem ds_X0_comeAt : Dsc yX0_comeAt 2 := ⟨by decide +kernel, by decide +kernel, by decide +kernel⟩
end
section
variable {p : Program} {l : Launch} {e : Env} {R : Room} {s : State} {m : MethodId} {args : Array Value} {below : List Frame} {meth : Method} {c : Code} {H : Heap} {locs : List Loc} {cells slots : Nat} {Q : State → Prop} {cc : ByteArray} {nL pc : Nat} {ret : Option FieldType} {ls : Array Slot} {rest : List Value} {D : va_G} {cyI : ClassId} {ad : Nat → Nat} {I : Nat → Int32} {A : Nat → Nat → Int32}
theorem rfl_X1_49 (E : EX p s m args meth c cc nL RX1 ret) (N : AdN 44 ad) (K0 : KC D cyI ad s s.heap) (P : va_P D classes (cw cyI ad I A) H) (S : va_S (InN 44 ad) s.heap H locs) {q0 q1 a b n : Nat} {f : Nat → Int32} (he : (cw cyI ad I A)[q0]? = some (b, .inr (4, [.ref a]))) (hq : q0 ≠ q1) (ha : (cw cyI ad I A)[q1]? = some (a, .inl (cyI, n, .inl f))) {k : Nat} (hs : ∀ g : Nat → Int32, (cw cyI ad I A).set q1 (a, .inl (cyI, n, .inl g)) = cw cyI ad I (va_up A k g)) (hn : n < 2 ^ 31) {x : Int32} (hR : RmOk R cells slots 0 3) (hls : ls.size = nL) (hro : (rest.map fun v => v.category).sum ≤ 8) (hdg : decode cc pc = .ok (.invokevirtual 49, 3)) (kk : ∀ (H1 : Heap) (locs1 : List Loc), va_P D classes (cw cyI ad I (va_up A k (rFill n f x))) H1 → va_S (InN 44 ad) s.heap H1 locs1 → W p l e R s m args below meth c H1 locs1 cells slots Q (F0 m (pc + 3) ls rest)) : W p l e R s m args below meth c H locs cells slots Q (F0 m pc ls (.int x :: .ref b :: rest)) :=
  cv_rw E (c_X4_fill l (fun _ _ h => h.1) P (cw_D N I A) q0 q1 he hq ha hn x) (gV kML_X1_49 kIM_X4_fill kSE_X4_fill kIN_X4 kCO_X4_fill) rfl ds_X4_fill rfl KC_blind (fun U _ hW => (K0.at S).warm hW) S (va_recv K0.k P (show classes[4]? = some (RX4, TX4, 1) from rfl) he) hR hls rfl hro hdg (fun H1 l1 hP hS => kk H1 l1 (by rw [← hs]; exact hP) hS)
end
section
variable {p : Program} {l : Launch} {e : Env} {s : State} {m : MethodId} {args : Array Value} {below : List Frame} {meth : Method} {c : Code} {D : va_G} {cyI : ClassId} {ad : Nat → Nat} {I : Nat → Int32} {A : Nat → Nat → Int32}
def B_X1_begin (I : Nat → Int32) (A : Nat → Nat → Int32) (x1 x2 : Int32) : Option ((Nat → Int32) × (Nat → Nat → Int32)) := some ((va_up ((va_up ((va_up I 5 x1)) 6 x2)) 9 0), (va_up ((va_up ((va_up A 8 (rFill 144 (A 8) 0))) 9 (rFill 144 (((va_up A 8 (rFill 144 (A 8) 0))) 9) 0))) 12 (rFill 144 (((va_up ((va_up A 8 (rFill 144 (A 8) 0))) 9 (rFill 144 (((va_up A 8 (rFill 144 (A 8) 0))) 9) 0))) 12) ((-1)))))
set_option maxHeartbeats 4000000 in
set_option maxRecDepth 100000 in
theorem w_X1_begin (E : EX p s m args meth c cX1_begin 3 RX1 none) (K0 : KC D cyI ad s s.heap) (N : AdN 44 ad) {H : Heap} {locs : List Loc} (P : va_P D classes (cw cyI ad I A) H) (S : va_S (InN 44 ad) s.heap H locs)  {x1 x2 : Int32} {out : (Nat → Int32) × (Nat → Nat → Int32)} (h : B_X1_begin I A x1 x2 = some out) {ls : Array Slot} (hl : lv_has ls 3 [(0, .ref (ad 2)), (1, .int x1), (2, .int x2)]) : W p l e (rmL 1) s m args below meth c H locs 0 0 (MQ below (Qrw (InN 44 ad) (none) (fun H1 => va_P D classes (cw cyI ad out.1 out.2) H1)) args s 0 0 (InN 44 ad)) (F0 m 0 ls []) := by
  unfold B_X1_begin at h
  refine lv_aload_n E.hx E.hb dX1_begin_0 rfl (lv_at hl 0 rfl) ?_
  refine lv_iload_n E.hx E.hb dX1_begin_1 rfl (lv_at hl 1 rfl) ?_
  refine pf_X1_32 E N K0 P S dX1_begin_2 (fun H locs P S => ?_)
  refine lv_aload_n E.hx E.hb dX1_begin_5 rfl (lv_at hl 0 rfl) ?_
  refine lv_iload_n E.hx E.hb dX1_begin_6 rfl (lv_at hl 2 rfl) ?_
  refine pf_X1_36 E N K0 P S dX1_begin_7 (fun H locs P S => ?_)
  refine lv_aload_n E.hx E.hb dX1_begin_10 rfl (lv_at hl 0 rfl) ?_
  refine gf_X1_14 E K0 P dX1_begin_11 ?_
  refine lv_iconst (v := 0) E.hx E.hb dX1_begin_14 (by decide) ?_
  refine rfl_X1_49 E N K0 P S cw_r8 (by decide) cw_a8 cw_s8 (by decide) (by decide) hl.1 (Nat.le_of_ble_eq_true rfl) dX1_begin_15 (fun H locs P S => ?_)
  refine lv_aload_n E.hx E.hb dX1_begin_18 rfl (lv_at hl 0 rfl) ?_
  refine gf_X1_20 E K0 P dX1_begin_19 ?_
  refine lv_iconst (v := 0) E.hx E.hb dX1_begin_22 (by decide) ?_
  refine rfl_X1_49 E N K0 P S cw_r9 (by decide) cw_a9 cw_s9 (by decide) (by decide) hl.1 (Nat.le_of_ble_eq_true rfl) dX1_begin_23 (fun H locs P S => ?_)
  refine lv_aload_n E.hx E.hb dX1_begin_26 rfl (lv_at hl 0 rfl) ?_
  refine gf_X1_29 E K0 P dX1_begin_27 ?_
  refine lv_iconst (v := (-1)) E.hx E.hb dX1_begin_30 (by decide) ?_
  refine rfl_X1_49 E N K0 P S cw_r12 (by decide) cw_a12 cw_s12 (by decide) (by decide) hl.1 (Nat.le_of_ble_eq_true rfl) dX1_begin_31 (fun H locs P S => ?_)
  refine lv_aload_n E.hx E.hb dX1_begin_34 rfl (lv_at hl 0 rfl) ?_
  refine lv_iconst (v := 0) E.hx E.hb dX1_begin_35 (by decide) ?_
  refine pf_X1_52 E N K0 P S dX1_begin_36 (fun H locs P S => ?_)
  cases h
  exact W.vret E.hx E.hb E.hr (fun t ht _ => ⟨rfl, by rw [ht]; exact P, S.F ht⟩) S.2.2 dX1_begin_39 E.hk
theorem c_X1_begin (l : Launch) {H : Heap} {D : va_G} {cyI : ClassId} {ad : Nat → Nat} {I : Nat → Int32} {A : Nat → Nat → Int32} (N : AdN 44 ad) (P : va_P D classes (cw cyI ad I A) H) (x1 x2 : Int32) {out : (Nat → Int32) × (Nat → Nat → Int32)} (h : B_X1_begin I A x1 x2 = some out) : MRW l yX1_begin cX1_begin 3 none 1 [.ref (ad 2), .int x1, .int x2] H (KC D cyI ad) (InN 44 ad) none (fun H1 => va_P D classes (cw cyI ad out.1 out.2) H1) := by
  refine Mof (own := RX1) (by decide +kernel) rfl rfl ?_
  intro p e s m args below meth c ls E hH K0 hl
  subst hH
  exact w_X1_begin E K0 N P va_S.rf h hl
theorem ds_X1_begin : Dsc yX1_begin 2 := ⟨by decide +kernel, by decide +kernel, by decide +kernel⟩
end
section
variable {p : Program} {l : Launch} {e : Env} {s : State} {m : MethodId} {args : Array Value} {below : List Frame} {meth : Method} {c : Code} {D : va_G} {cyI : ClassId} {ad : Nat → Nat} {I : Nat → Int32} {A : Nat → Nat → Int32}
def B_X1_kindAt (I : Nat → Int32) (A : Nat → Nat → Int32) (x1 x2 : Int32) : Int32 := (rAt 144 (A 9) ((B_X6_numberOf x1 x2)))
set_option maxHeartbeats 4000000 in
set_option maxRecDepth 100000 in
theorem w_X1_kindAt (E : EX p s m args meth c cX1_kindAt 3 RX1 (some .int)) (K0 : KC D cyI ad s s.heap) (P : va_P D classes (cw cyI ad I A) s.heap)  {x1 x2 : Int32} {out : Int32} (h : B_X1_kindAt I A x1 x2 = out) {ls : Array Slot} (hl : lv_has ls 3 [(0, .ref (ad 2)), (1, .int x1), (2, .int x2)]) : W p l e (rmL 1) s m args below meth c s.heap [] 0 0 (MQ below (vp_Si (fun z => z = out)) args s 0 0 (fun _ => False)) (F0 m 0 ls []) := by
  unfold B_X1_kindAt at h
  refine lv_aload_n E.hx E.hb dX1_kindAt_0 rfl (lv_at hl 0 rfl) ?_
  refine gf_X1_20 E K0 P dX1_kindAt_1 ?_
  refine lv_iload_n E.hx E.hb dX1_kindAt_4 rfl (lv_at hl 1 rfl) ?_
  refine lv_iload_n E.hx E.hb dX1_kindAt_5 rfl (lv_at hl 2 rfl) ?_
  refine iv_X1_55 E K0 va_S.rf (by decide) hl.1 (Nat.le_of_ble_eq_true rfl) dX1_kindAt_6 ?_
  refine rat_X1_59 E K0 P va_S.rf cw_r9 cw_a9 (by decide) (by decide) hl.1 (Nat.le_of_ble_eq_true rfl) dX1_kindAt_9 ?_
  exact W.iret E.hx E.hb E.hr (fun t ht _ => ⟨_, rfl, h, ht⟩) (fun q hq => nomatch hq) dX1_kindAt_12 E.hk
theorem c_X1_kindAt (l : Launch) {H : Heap} {D : va_G} {cyI : ClassId} {ad : Nat → Nat} {I : Nat → Int32} {A : Nat → Nat → Int32} (P : va_P D classes (cw cyI ad I A) H) (x1 x2 : Int32) : MRO l yX1_kindAt cX1_kindAt 3 (some .int) 1 [.ref (ad 2), .int x1, .int x2] H (KC D cyI ad) (B_X1_kindAt I A x1 x2) := by
  refine Mof (own := RX1) (by decide +kernel) rfl rfl ?_
  intro p e s m args below meth c ls E hH K0 hl
  subst hH
  exact w_X1_kindAt E K0 P rfl hl
theorem ds_X1_kindAt : Dsc yX1_kindAt 2 := ⟨by decide +kernel, by decide +kernel, by decide +kernel⟩
end
section
variable {p : Program} {l : Launch} {e : Env} {R : Room} {s : State} {m : MethodId} {args : Array Value} {below : List Frame} {meth : Method} {c : Code} {H : Heap} {locs : List Loc} {cells slots : Nat} {Q : State → Prop} {cc : ByteArray} {nL pc : Nat} {ret : Option FieldType} {ls : Array Slot} {rest : List Value} {D : va_G} {cyI : ClassId} {ad : Nat → Nat} {I : Nat → Int32} {A : Nat → Nat → Int32}
theorem rpt_X1_66 (E : EX p s m args meth c cc nL RX1 ret) (N : AdN 44 ad) (K0 : KC D cyI ad s s.heap) (P : va_P D classes (cw cyI ad I A) H) (S : va_S (InN 44 ad) s.heap H locs) {q0 q1 a b n : Nat} {f : Nat → Int32} (he : (cw cyI ad I A)[q0]? = some (b, .inr (4, [.ref a]))) (ha : (cw cyI ad I A)[q1]? = some (a, .inl (cyI, n, .inl f))) {k : Nat} (hs : ∀ g : Nat → Int32, (cw cyI ad I A).set q1 (a, .inl (cyI, n, .inl g)) = cw cyI ad I (va_up A k g)) (hn : n < 2 ^ 31) {i x : Int32} (hR : RmOk R cells slots 0 3) (hls : ls.size = nL) (hro : (rest.map fun v => v.category).sum ≤ 8) (hdg : decode cc pc = .ok (.invokevirtual 66, 3)) (kk : ∀ (H1 : Heap) (locs1 : List Loc), va_P D classes (cw cyI ad I (va_up A k (rPut n f i x))) H1 → va_S (InN 44 ad) s.heap H1 locs1 → W p l e R s m args below meth c H1 locs1 cells slots Q (F0 m (pc + 3) ls rest)) : W p l e R s m args below meth c H locs cells slots Q (F0 m pc ls (.int x :: .int i :: .ref b :: rest)) :=
  cv_rw E (c_X4_put l (fun _ _ h => h.1) P (cw_D N I A) q0 q1 he ha hn i x) (gV kML_X1_66 kIM_X4_put kSE_X4_put kIN_X4 kCO_X4_put) rfl ds_X4_put rfl KC_blind (fun U _ hW => (K0.at S).warm hW) S (va_recv K0.k P (show classes[4]? = some (RX4, TX4, 1) from rfl) he) hR hls rfl hro hdg (fun H1 l1 hP hS => kk H1 l1 (by rw [← hs]; exact hP) hS)
end
section
variable {p : Program} {l : Launch} {e : Env} {s : State} {m : MethodId} {args : Array Value} {below : List Frame} {meth : Method} {c : Code} {D : va_G} {cyI : ClassId} {ad : Nat → Nat} {I : Nat → Int32} {A : Nat → Nat → Int32}
def B_X1_mark_L15  (x1 x2 x3 x4 x5 x6 : Int32) : Nat → Int32 → (Nat → Int32) → (Nat → Nat → Int32) → Option ((Nat → Int32) × (Nat → Nat → Int32))
  | 0 => fun _ _ _ => none
  | n + 1 => fun x7 I A => if (x1 + x3) ≤ x7 then some ((I, A)) else (B_X1_mark_L15 x1 x2 x3 x4 x5 x6 n) (x7 + 1) I ((va_up A 12 (rPut 144 (A 12) ((B_X6_numberOf x7 x6)) x5)))
theorem B_X1_mark_L15_s (I : Nat → Int32) (A : Nat → Nat → Int32) (x1 x2 x3 x4 x5 x6 x7 : Int32) (n : Nat) : B_X1_mark_L15  x1 x2 x3 x4 x5 x6 (n + 1) x7 I A = if (x1 + x3) ≤ x7 then some ((I, A)) else (B_X1_mark_L15 x1 x2 x3 x4 x5 x6 n) (x7 + 1) I ((va_up A 12 (rPut 144 (A 12) ((B_X6_numberOf x7 x6)) x5))) := rfl
set_option maxHeartbeats 4000000 in
set_option maxRecDepth 100000 in
theorem w_X1_mark_L15 (E : EX p s m args meth c cX1_mark 8 RX1 none) (K0 : KC D cyI ad s s.heap) (N : AdN 44 ad) {x1 x2 x3 x4 x5 x6 : Int32} {out : (Nat → Int32) × (Nat → Nat → Int32)} : ∀ (n : Nat) {x7 : Int32} {I : Nat → Int32} {A : Nat → Nat → Int32} {H : Heap} {locs : List Loc} (P : va_P D classes (cw cyI ad I A) H) (S : va_S (InN 44 ad) s.heap H locs) {o : (Nat → Int32) × (Nat → Nat → Int32)} (h : B_X1_mark_L15  x1 x2 x3 x4 x5 x6 n x7 I A = some o) {ls : Array Slot} (hl : lv_has ls 8 [(0, .ref (ad 2)), (1, .int x1), (2, .int x2), (3, .int x3), (4, .int x4), (5, .int x5), (6, .int x6), (7, .int x7)]) (kx : ∀ {H : Heap} {locs : List Loc} (_ : va_P D classes (cw cyI ad o.1 o.2) H) (_ : va_S (InN 44 ad) s.heap H locs) {ls : Array Slot}, lv_has ls 8 [(0, .ref (ad 2)), (1, .int x1), (2, .int x2), (3, .int x3), (4, .int x4), (5, .int x5), (6, .int x6)] → W p l e (rmL 1) s m args below meth c H locs 0 0 (MQ below (Qrw (InN 44 ad) (none) (fun H1 => va_P D classes (cw cyI ad out.1 out.2) H1)) args s 0 0 (InN 44 ad)) (F0 m 45 ls [])), W p l e (rmL 1) s m args below meth c H locs 0 0 (MQ below (Qrw (InN 44 ad) (none) (fun H1 => va_P D classes (cw cyI ad out.1 out.2) H1)) args s 0 0 (InN 44 ad)) (F0 m 15 ls []) := by
  intro n
  induction n with
  | zero => intro x7 I A H locs P S o h ls hl kx; exact nomatch (show none = some o from h)
  | succ n ih =>
    intro x7 I A H locs P S o h ls hl kx
    rw [B_X1_mark_L15_s] at h
    refine lv_iload E.hx E.hb dX1_mark_15 (lv_at hl 7 rfl) ?_
    refine lv_iload_n E.hx E.hb dX1_mark_17 rfl (lv_at hl 1 rfl) ?_
    refine lv_iload_n E.hx E.hb dX1_mark_18 rfl (lv_at hl 3 rfl) ?_
    refine lv_iadd E.hx E.hb dX1_mark_19 ?_
    refine lv_icmp_ge (tgt := 45) E.hx E.hb dX1_mark_20 (by decide) (fun c_2 => ?_) (fun c_2 => ?_)
    · rw [if_pos c_2] at h
      cases h
      exact kx P S (lv_sub hl [0, 1, 2, 3, 4, 5, 6] rfl)
    · rw [if_neg c_2] at h
      refine lv_aload_n E.hx E.hb dX1_mark_23 rfl (lv_at hl 0 rfl) ?_
      refine gf_X1_29 E K0 P dX1_mark_24 ?_
      refine lv_iload E.hx E.hb dX1_mark_27 (lv_at hl 7 rfl) ?_
      refine lv_iload E.hx E.hb dX1_mark_29 (lv_at hl 6 rfl) ?_
      refine iv_X1_55 E K0 S (by decide) hl.1 (Nat.le_of_ble_eq_true rfl) dX1_mark_31 ?_
      refine lv_iload E.hx E.hb dX1_mark_34 (lv_at hl 5 rfl) ?_
      refine rpt_X1_66 E N K0 P S cw_r12 cw_a12 cw_s12 (by decide) (by decide) hl.1 (Nat.le_of_ble_eq_true rfl) dX1_mark_36 (fun H locs P S => ?_)
      refine lv_iinc (v := x7 + 1) (lv' := [(7, .int (x7 + 1)), (0, .ref (ad 2)), (1, .int x1), (2, .int x2), (3, .int x3), (4, .int x4), (5, .int x5), (6, .int x6)]) E.hx E.hb dX1_mark_39 hl (k := 7) rfl rfl (by decide) rfl (fun ls hl => ?_)
      refine lv_goto (tgt := 15) E.hx E.hb dX1_mark_42 (by decide) ?_
      exact ih P S h (lv_sub hl [1, 2, 3, 4, 5, 6, 7, 0] rfl) kx
def B_X1_mark_L3  (x1 x2 x3 x4 x5 : Int32) : Nat → Int32 → (Nat → Int32) → (Nat → Nat → Int32) → Option ((Nat → Int32) × (Nat → Nat → Int32))
  | 0 => fun _ _ _ => none
  | n + 1 => fun x6 I A => if (x2 + x4) ≤ x6 then some ((I, A)) else ((B_X1_mark_L15  x1 x2 x3 x4 x5 x6 FU x1 I A).bind fun q_3 => (B_X1_mark_L3 x1 x2 x3 x4 x5 n) (x6 + 1) q_3.1 q_3.2)
theorem B_X1_mark_L3_s (I : Nat → Int32) (A : Nat → Nat → Int32) (x1 x2 x3 x4 x5 x6 : Int32) (n : Nat) : B_X1_mark_L3  x1 x2 x3 x4 x5 (n + 1) x6 I A = if (x2 + x4) ≤ x6 then some ((I, A)) else ((B_X1_mark_L15  x1 x2 x3 x4 x5 x6 FU x1 I A).bind fun q_3 => (B_X1_mark_L3 x1 x2 x3 x4 x5 n) (x6 + 1) q_3.1 q_3.2) := rfl
set_option maxHeartbeats 4000000 in
set_option maxRecDepth 100000 in
theorem w_X1_mark_L3 (E : EX p s m args meth c cX1_mark 8 RX1 none) (K0 : KC D cyI ad s s.heap) (N : AdN 44 ad) {x1 x2 x3 x4 x5 : Int32} {out : (Nat → Int32) × (Nat → Nat → Int32)} : ∀ (n : Nat) {x6 : Int32} {I : Nat → Int32} {A : Nat → Nat → Int32} {H : Heap} {locs : List Loc} (P : va_P D classes (cw cyI ad I A) H) (S : va_S (InN 44 ad) s.heap H locs) {o : (Nat → Int32) × (Nat → Nat → Int32)} (h : B_X1_mark_L3  x1 x2 x3 x4 x5 n x6 I A = some o) {ls : Array Slot} (hl : lv_has ls 8 [(0, .ref (ad 2)), (1, .int x1), (2, .int x2), (3, .int x3), (4, .int x4), (5, .int x5), (6, .int x6)]) (kx : ∀ {H : Heap} {locs : List Loc} (_ : va_P D classes (cw cyI ad o.1 o.2) H) (_ : va_S (InN 44 ad) s.heap H locs) {ls : Array Slot}, lv_has ls 8 [] → W p l e (rmL 1) s m args below meth c H locs 0 0 (MQ below (Qrw (InN 44 ad) (none) (fun H1 => va_P D classes (cw cyI ad out.1 out.2) H1)) args s 0 0 (InN 44 ad)) (F0 m 51 ls [])), W p l e (rmL 1) s m args below meth c H locs 0 0 (MQ below (Qrw (InN 44 ad) (none) (fun H1 => va_P D classes (cw cyI ad out.1 out.2) H1)) args s 0 0 (InN 44 ad)) (F0 m 3 ls []) := by
  intro n
  induction n with
  | zero => intro x6 I A H locs P S o h ls hl kx; exact nomatch (show none = some o from h)
  | succ n ih =>
    intro x6 I A H locs P S o h ls hl kx
    rw [B_X1_mark_L3_s] at h
    refine lv_iload E.hx E.hb dX1_mark_3 (lv_at hl 6 rfl) ?_
    refine lv_iload_n E.hx E.hb dX1_mark_5 rfl (lv_at hl 2 rfl) ?_
    refine lv_iload E.hx E.hb dX1_mark_6 (lv_at hl 4 rfl) ?_
    refine lv_iadd E.hx E.hb dX1_mark_8 ?_
    refine lv_icmp_ge (tgt := 51) E.hx E.hb dX1_mark_9 (by decide) (fun c_1 => ?_) (fun c_1 => ?_)
    · rw [if_pos c_1] at h
      cases h
      exact kx P S (lv_sub hl [] rfl)
    · rw [if_neg c_1] at h
      refine lv_iload_n E.hx E.hb dX1_mark_12 rfl (lv_at hl 1 rfl) ?_
      refine lv_istore (lv' := [(7, .int x1), (0, .ref (ad 2)), (1, .int x1), (2, .int x2), (3, .int x3), (4, .int x4), (5, .int x5), (6, .int x6)]) E.hx E.hb dX1_mark_13 hl (by decide) rfl (fun ls hl => ?_)
      obtain ⟨q_3, e_4, h⟩ := obind h
      refine w_X1_mark_L15 E K0 N FU P S e_4 (lv_sub hl [1, 2, 3, 4, 5, 6, 7, 0] rfl) (fun {H locs} P S {ls} hl => ?_)
      refine lv_iinc (v := x6 + 1) (lv' := [(6, .int (x6 + 1)), (0, .ref (ad 2)), (1, .int x1), (2, .int x2), (3, .int x3), (4, .int x4), (5, .int x5)]) E.hx E.hb dX1_mark_45 hl (k := 6) rfl rfl (by decide) rfl (fun ls hl => ?_)
      refine lv_goto (tgt := 3) E.hx E.hb dX1_mark_48 (by decide) ?_
      exact ih P S h (lv_sub hl [1, 2, 3, 4, 5, 6, 0] rfl) kx
def B_X1_mark (I : Nat → Int32) (A : Nat → Nat → Int32) (x1 x2 x3 x4 x5 : Int32) : Option ((Nat → Int32) × (Nat → Nat → Int32)) := (B_X1_mark_L3  x1 x2 x3 x4 x5 FU x2 I A).bind fun q_5 => some (q_5.1, q_5.2)
set_option maxHeartbeats 4000000 in
set_option maxRecDepth 100000 in
theorem w_X1_mark (E : EX p s m args meth c cX1_mark 8 RX1 none) (K0 : KC D cyI ad s s.heap) (N : AdN 44 ad) {H : Heap} {locs : List Loc} (P : va_P D classes (cw cyI ad I A) H) (S : va_S (InN 44 ad) s.heap H locs)  {x1 x2 x3 x4 x5 : Int32} {out : (Nat → Int32) × (Nat → Nat → Int32)} (h : B_X1_mark I A x1 x2 x3 x4 x5 = some out) {ls : Array Slot} (hl : lv_has ls 8 [(0, .ref (ad 2)), (1, .int x1), (2, .int x2), (3, .int x3), (4, .int x4), (5, .int x5)]) : W p l e (rmL 1) s m args below meth c H locs 0 0 (MQ below (Qrw (InN 44 ad) (none) (fun H1 => va_P D classes (cw cyI ad out.1 out.2) H1)) args s 0 0 (InN 44 ad)) (F0 m 0 ls []) := by
  unfold B_X1_mark at h
  refine lv_iload_n E.hx E.hb dX1_mark_0 rfl (lv_at hl 2 rfl) ?_
  refine lv_istore (lv' := [(6, .int x2), (0, .ref (ad 2)), (1, .int x1), (2, .int x2), (3, .int x3), (4, .int x4), (5, .int x5)]) E.hx E.hb dX1_mark_1 hl (by decide) rfl (fun ls hl => ?_)
  obtain ⟨q_5, e_6, h⟩ := obind h
  refine w_X1_mark_L3 E K0 N FU P S e_6 (lv_sub hl [1, 2, 3, 4, 5, 6, 0] rfl) (fun {H locs} P S {ls} hl => ?_)
  cases h
  exact W.vret E.hx E.hb E.hr (fun t ht _ => ⟨rfl, by rw [ht]; exact P, S.F ht⟩) S.2.2 dX1_mark_51 E.hk
theorem c_X1_mark (l : Launch) {H : Heap} {D : va_G} {cyI : ClassId} {ad : Nat → Nat} {I : Nat → Int32} {A : Nat → Nat → Int32} (N : AdN 44 ad) (P : va_P D classes (cw cyI ad I A) H) (x1 x2 x3 x4 x5 : Int32) {out : (Nat → Int32) × (Nat → Nat → Int32)} (h : B_X1_mark I A x1 x2 x3 x4 x5 = some out) : MRW l yX1_mark cX1_mark 8 none 1 [.ref (ad 2), .int x1, .int x2, .int x3, .int x4, .int x5] H (KC D cyI ad) (InN 44 ad) none (fun H1 => va_P D classes (cw cyI ad out.1 out.2) H1) := by
  refine Mof (own := RX1) (by decide +kernel) rfl rfl ?_
  intro p e s m args below meth c ls E hH K0 hl
  subst hH
  exact w_X1_mark E K0 N P va_S.rf h hl
theorem ds_X1_mark : Dsc yX1_mark 5 := ⟨by decide +kernel, by decide +kernel, by decide +kernel⟩
end
section
variable {p : Program} {l : Launch} {e : Env} {R : Room} {s : State} {m : MethodId} {args : Array Value} {below : List Frame} {meth : Method} {c : Code} {H : Heap} {locs : List Loc} {cells slots : Nat} {Q : State → Prop} {cc : ByteArray} {nL pc : Nat} {ret : Option FieldType} {ls : Array Slot} {rest : List Value} {D : va_G} {cyI : ClassId} {ad : Nat → Nat} {I : Nat → Int32} {A : Nat → Nat → Int32}
theorem iv_X1_91 (E : EX p s m args meth c cc nL RX1 ret) (K0 : KC D cyI ad s s.heap) (P : va_P D classes (cw cyI ad I A) H) (S : va_S (InN 44 ad) s.heap H locs) {a0 a1 a2 : Int32} (hR : RmOk R cells slots 3 5) (hls : ls.size = nL) (hro : (rest.map fun v => v.category).sum ≤ 8) (hdg : decode cc pc = .ok (.invokevirtual 91, 3)) (kk : W p l e R s m args below meth c H locs cells slots Q (F0 m (pc + 3) ls (.int (B_X1_energyWith I A a0 a1 a2) :: rest))) : W p l e R s m args below meth c H locs cells slots Q (F0 m pc ls (.int a2 :: .int a1 :: .int a0 :: .ref (ad 2) :: rest)) :=
  cv_ro E (c_X1_energyWith l P a0 a1 a2 ) (gV kML_X1_91 kIM_X1_energyWith kSE_X1_energyWith kIN_X1 kCO_X1_energyWith) rfl ds_X1_energyWith rfl KC_blind (fun U _ hW => (K0.at S).warm hW) (va_recv K0.k P (show classes[1]? = some (RX1, TX1, 11) from rfl) cw_g2) hR hls rfl hro hdg kk
end
section
variable {p : Program} {l : Launch} {e : Env} {s : State} {m : MethodId} {args : Array Value} {below : List Frame} {meth : Method} {c : Code} {D : va_G} {cyI : ClassId} {ad : Nat → Nat} {I : Nat → Int32} {A : Nat → Nat → Int32}
def B_X1_energyAt (I : Nat → Int32) (A : Nat → Nat → Int32) (x1 x2 : Int32) : Int32 := (B_X1_energyWith I A x1 x2 ((B_X1_directionAt I A x1 x2)))
set_option maxHeartbeats 4000000 in
set_option maxRecDepth 100000 in
theorem w_X1_energyAt (E : EX p s m args meth c cX1_energyAt 3 RX1 (some .int)) (K0 : KC D cyI ad s s.heap) (P : va_P D classes (cw cyI ad I A) s.heap)  {x1 x2 : Int32} {out : Int32} (h : B_X1_energyAt I A x1 x2 = out) {ls : Array Slot} (hl : lv_has ls 3 [(0, .ref (ad 2)), (1, .int x1), (2, .int x2)]) : W p l e (rmL 4) s m args below meth c s.heap [] 0 0 (MQ below (vp_Si (fun z => z = out)) args s 0 0 (fun _ => False)) (F0 m 0 ls []) := by
  unfold B_X1_energyAt at h
  refine lv_aload_n E.hx E.hb dX1_energyAt_0 rfl (lv_at hl 0 rfl) ?_
  refine lv_iload_n E.hx E.hb dX1_energyAt_1 rfl (lv_at hl 1 rfl) ?_
  refine lv_iload_n E.hx E.hb dX1_energyAt_2 rfl (lv_at hl 2 rfl) ?_
  refine lv_aload_n E.hx E.hb dX1_energyAt_3 rfl (lv_at hl 0 rfl) ?_
  refine lv_iload_n E.hx E.hb dX1_energyAt_4 rfl (lv_at hl 1 rfl) ?_
  refine lv_iload_n E.hx E.hb dX1_energyAt_5 rfl (lv_at hl 2 rfl) ?_
  refine iv_X1_88 E K0 P va_S.rf (by decide) hl.1 (Nat.le_of_ble_eq_true rfl) dX1_energyAt_6 ?_
  refine iv_X1_91 E K0 P va_S.rf (by decide) hl.1 (Nat.le_of_ble_eq_true rfl) dX1_energyAt_9 ?_
  exact W.iret E.hx E.hb E.hr (fun t ht _ => ⟨_, rfl, h, ht⟩) (fun q hq => nomatch hq) dX1_energyAt_12 E.hk
theorem c_X1_energyAt (l : Launch) {H : Heap} {D : va_G} {cyI : ClassId} {ad : Nat → Nat} {I : Nat → Int32} {A : Nat → Nat → Int32} (P : va_P D classes (cw cyI ad I A) H) (x1 x2 : Int32) : MRO l yX1_energyAt cX1_energyAt 3 (some .int) 4 [.ref (ad 2), .int x1, .int x2] H (KC D cyI ad) (B_X1_energyAt I A x1 x2) := by
  refine Mof (own := RX1) (by decide +kernel) rfl rfl ?_
  intro p e s m args below meth c ls E hH K0 hl
  subst hH
  exact w_X1_energyAt E K0 P rfl hl
theorem ds_X1_energyAt : Dsc yX1_energyAt 2 := ⟨by decide +kernel, by decide +kernel, by decide +kernel⟩
end
section
variable {p : Program} {l : Launch} {e : Env} {R : Room} {s : State} {m : MethodId} {args : Array Value} {below : List Frame} {meth : Method} {c : Code} {H : Heap} {locs : List Loc} {cells slots : Nat} {Q : State → Prop} {cc : ByteArray} {nL pc : Nat} {ret : Option FieldType} {ls : Array Slot} {rest : List Value} {D : va_G} {cyI : ClassId} {ad : Nat → Nat} {I : Nat → Int32} {A : Nat → Nat → Int32}
theorem iv_X1_102 (E : EX p s m args meth c cc nL RX1 ret) (K0 : KC D cyI ad s s.heap) (P : va_P D classes (cw cyI ad I A) H) (S : va_S (InN 44 ad) s.heap H locs) {a0 a1 : Int32} (hR : RmOk R cells slots 4 3) (hls : ls.size = nL) (hro : (rest.map fun v => v.category).sum ≤ 8) (hdg : decode cc pc = .ok (.invokevirtual 102, 3)) (kk : W p l e R s m args below meth c H locs cells slots Q (F0 m (pc + 3) ls (.int (B_X1_energyAt I A a0 a1) :: rest))) : W p l e R s m args below meth c H locs cells slots Q (F0 m pc ls (.int a1 :: .int a0 :: .ref (ad 2) :: rest)) :=
  cv_ro E (c_X1_energyAt l P a0 a1 ) (gV kML_X1_102 kIM_X1_energyAt kSE_X1_energyAt kIN_X1 kCO_X1_energyAt) rfl ds_X1_energyAt rfl KC_blind (fun U _ hW => (K0.at S).warm hW) (va_recv K0.k P (show classes[1]? = some (RX1, TX1, 11) from rfl) cw_g2) hR hls rfl hro hdg kk
end
section
variable {p : Program} {l : Launch} {e : Env} {s : State} {m : MethodId} {args : Array Value} {below : List Frame} {meth : Method} {c : Code} {D : va_G} {cyI : ClassId} {ad : Nat → Nat} {I : Nat → Int32} {A : Nat → Nat → Int32}
def B_X1_turnTo (I : Nat → Int32) (A : Nat → Nat → Int32) (x1 x2 x3 : Int32) : Option (Int32 × (Nat → Int32) × (Nat → Nat → Int32)) := (B_X1_grown I ((va_up A 8 (rPut 144 (A 8) ((B_X6_numberOf x1 x2)) x3))) (((B_X1_energyAt I ((va_up A 8 (rPut 144 (A 8) ((B_X6_numberOf x1 x2)) x3))) x1 x2) - (B_X1_energyAt I A x1 x2)))).bind fun q_1 => some (q_1.1, q_1.2.1, q_1.2.2)
set_option maxHeartbeats 4000000 in
set_option maxRecDepth 100000 in
theorem w_X1_turnTo (E : EX p s m args meth c cX1_turnTo 5 RX1 (some .int)) (K0 : KC D cyI ad s s.heap) (N : AdN 44 ad) {H : Heap} {locs : List Loc} (P : va_P D classes (cw cyI ad I A) H) (S : va_S (InN 44 ad) s.heap H locs)  {x1 x2 x3 : Int32} {out : Int32 × (Nat → Int32) × (Nat → Nat → Int32)} (h : B_X1_turnTo I A x1 x2 x3 = some out) {ls : Array Slot} (hl : lv_has ls 5 [(0, .ref (ad 2)), (1, .int x1), (2, .int x2), (3, .int x3)]) : W p l e (rmL 5) s m args below meth c H locs 0 0 (MQ below (Qrw (InN 44 ad) (some (.int out.1)) (fun H1 => va_P D classes (cw cyI ad out.2.1 out.2.2) H1)) args s 0 0 (InN 44 ad)) (F0 m 0 ls []) := by
  unfold B_X1_turnTo at h
  refine lv_aload_n E.hx E.hb dX1_turnTo_0 rfl (lv_at hl 0 rfl) ?_
  refine lv_iload_n E.hx E.hb dX1_turnTo_1 rfl (lv_at hl 1 rfl) ?_
  refine lv_iload_n E.hx E.hb dX1_turnTo_2 rfl (lv_at hl 2 rfl) ?_
  refine iv_X1_102 E K0 P S (by decide) hl.1 (Nat.le_of_ble_eq_true rfl) dX1_turnTo_3 ?_
  refine lv_istore (lv' := [(4, .int (B_X1_energyAt I A x1 x2)), (0, .ref (ad 2)), (1, .int x1), (2, .int x2), (3, .int x3)]) E.hx E.hb dX1_turnTo_6 hl (by decide) rfl (fun ls hl => ?_)
  refine lv_aload_n E.hx E.hb dX1_turnTo_8 rfl (lv_at hl 1 rfl) ?_
  refine gf_X1_14 E K0 P dX1_turnTo_9 ?_
  refine lv_iload_n E.hx E.hb dX1_turnTo_12 rfl (lv_at hl 2 rfl) ?_
  refine lv_iload_n E.hx E.hb dX1_turnTo_13 rfl (lv_at hl 3 rfl) ?_
  refine iv_X1_55 E K0 S (by decide) hl.1 (Nat.le_of_ble_eq_true rfl) dX1_turnTo_14 ?_
  refine lv_iload_n E.hx E.hb dX1_turnTo_17 rfl (lv_at hl 4 rfl) ?_
  refine rpt_X1_66 E N K0 P S cw_r8 cw_a8 cw_s8 (by decide) (by decide) hl.1 (Nat.le_of_ble_eq_true rfl) dX1_turnTo_18 (fun H locs P S => ?_)
  refine lv_aload_n E.hx E.hb dX1_turnTo_21 rfl (lv_at hl 1 rfl) ?_
  refine lv_aload_n E.hx E.hb dX1_turnTo_22 rfl (lv_at hl 1 rfl) ?_
  refine lv_iload_n E.hx E.hb dX1_turnTo_23 rfl (lv_at hl 2 rfl) ?_
  refine lv_iload_n E.hx E.hb dX1_turnTo_24 rfl (lv_at hl 3 rfl) ?_
  refine iv_X1_102 E K0 P S (by decide) hl.1 (Nat.le_of_ble_eq_true rfl) dX1_turnTo_25 ?_
  refine lv_iload E.hx E.hb dX1_turnTo_28 (lv_at hl 0 rfl) ?_
  refine lv_isub E.hx E.hb dX1_turnTo_30 ?_
  obtain ⟨q_1, e_2, h⟩ := obind h
  refine iv_X1_99 E N K0 P S e_2 (by decide) hl.1 (Nat.le_of_ble_eq_true rfl) dX1_turnTo_31 (fun H locs P S => ?_)
  cases h
  exact W.iret E.hx E.hb E.hr (fun t ht _ => ⟨rfl, by rw [ht]; exact P, S.F ht⟩) S.2.2 dX1_turnTo_34 E.hk
theorem c_X1_turnTo (l : Launch) {H : Heap} {D : va_G} {cyI : ClassId} {ad : Nat → Nat} {I : Nat → Int32} {A : Nat → Nat → Int32} (N : AdN 44 ad) (P : va_P D classes (cw cyI ad I A) H) (x1 x2 x3 : Int32) {out : Int32 × (Nat → Int32) × (Nat → Nat → Int32)} (h : B_X1_turnTo I A x1 x2 x3 = some out) : MRW l yX1_turnTo cX1_turnTo 5 (some .int) 5 [.ref (ad 2), .int x1, .int x2, .int x3] H (KC D cyI ad) (InN 44 ad) (some (.int out.1)) (fun H1 => va_P D classes (cw cyI ad out.2.1 out.2.2) H1) := by
  refine Mof (own := RX1) (by decide +kernel) rfl rfl ?_
  intro p e s m args below meth c ls E hH K0 hl
  subst hH
  exact w_X1_turnTo E K0 N P va_S.rf h hl
theorem ds_X1_turnTo : Dsc yX1_turnTo 3 := ⟨by decide +kernel, by decide +kernel, by decide +kernel⟩
end
section
variable {p : Program} {l : Launch} {e : Env} {s : State} {m : MethodId} {args : Array Value} {below : List Frame} {meth : Method} {c : Code} {D : va_G} {cyI : ClassId} {ad : Nat → Nat} {I : Nat → Int32} {A : Nat → Nat → Int32}
def B_X1_hold_J68  (I : Nat → Int32) (A : Nat → Nat → Int32) (x1 x2 x6 : Int32) : Option (Int32 × (Nat → Int32) × (Nat → Nat → Int32)) := (B_X1_grown I A (((B_X1_energyAt I A x1 x2) - x6))).bind fun q_3 => some (q_3.1, q_3.2.1, q_3.2.2)
set_option maxHeartbeats 4000000 in
set_option maxRecDepth 100000 in
theorem w_X1_hold_J68 (E : EX p s m args meth c cX1_hold 8 RX1 (some .int)) (K0 : KC D cyI ad s s.heap) (N : AdN 44 ad) {H : Heap} {locs : List Loc} (P : va_P D classes (cw cyI ad I A) H) (S : va_S (InN 44 ad) s.heap H locs) {x1 x2 x6 : Int32} {out : Int32 × (Nat → Int32) × (Nat → Nat → Int32)} (h : B_X1_hold_J68  I A x1 x2 x6 = some out) {ls : Array Slot} (hl : lv_has ls 8 [(0, .ref (ad 2)), (1, .int x1), (2, .int x2), (6, .int x6)]) : W p l e (rmL 5) s m args below meth c H locs 0 0 (MQ below (Qrw (InN 44 ad) (some (.int out.1)) (fun H1 => va_P D classes (cw cyI ad out.2.1 out.2.2) H1)) args s 0 0 (InN 44 ad)) (F0 m 68 ls []) := by
  unfold B_X1_hold_J68 at h
  refine lv_aload_n E.hx E.hb dX1_hold_68 rfl (lv_at hl 0 rfl) ?_
  refine lv_aload_n E.hx E.hb dX1_hold_69 rfl (lv_at hl 0 rfl) ?_
  refine lv_iload_n E.hx E.hb dX1_hold_70 rfl (lv_at hl 1 rfl) ?_
  refine lv_iload_n E.hx E.hb dX1_hold_71 rfl (lv_at hl 2 rfl) ?_
  refine iv_X1_102 E K0 P S (by decide) hl.1 (Nat.le_of_ble_eq_true rfl) dX1_hold_72 ?_
  refine lv_iload E.hx E.hb dX1_hold_75 (lv_at hl 3 rfl) ?_
  refine lv_isub E.hx E.hb dX1_hold_77 ?_
  obtain ⟨q_3, e_4, h⟩ := obind h
  refine iv_X1_99 E N K0 P S e_4 (by decide) hl.1 (Nat.le_of_ble_eq_true rfl) dX1_hold_78 (fun H locs P S => ?_)
  cases h
  exact W.iret E.hx E.hb E.hr (fun t ht _ => ⟨rfl, by rw [ht]; exact P, S.F ht⟩) S.2.2 dX1_hold_81 E.hk
def B_X1_hold_J52  (I : Nat → Int32) (A : Nat → Nat → Int32) (x1 x2 x3 x4 x6 x7 : Int32) : Option (Int32 × (Nat → Int32) × (Nat → Nat → Int32)) := if x3 = 1 then B_X1_hold_J68  I ((va_up A 8 (rPut 144 (A 8) x7 x4))) x1 x2 x6 else B_X1_hold_J68  I A x1 x2 x6
set_option maxHeartbeats 4000000 in
set_option maxRecDepth 100000 in
theorem w_X1_hold_J52 (E : EX p s m args meth c cX1_hold 8 RX1 (some .int)) (K0 : KC D cyI ad s s.heap) (N : AdN 44 ad) {H : Heap} {locs : List Loc} (P : va_P D classes (cw cyI ad I A) H) (S : va_S (InN 44 ad) s.heap H locs) {x1 x2 x3 x4 x6 x7 : Int32} {out : Int32 × (Nat → Int32) × (Nat → Nat → Int32)} (h : B_X1_hold_J52  I A x1 x2 x3 x4 x6 x7 = some out) {ls : Array Slot} (hl : lv_has ls 8 [(0, .ref (ad 2)), (1, .int x1), (2, .int x2), (3, .int x3), (4, .int x4), (6, .int x6), (7, .int x7)]) : W p l e (rmL 5) s m args below meth c H locs 0 0 (MQ below (Qrw (InN 44 ad) (some (.int out.1)) (fun H1 => va_P D classes (cw cyI ad out.2.1 out.2.2) H1)) args s 0 0 (InN 44 ad)) (F0 m 52 ls []) := by
  unfold B_X1_hold_J52 at h
  refine lv_iload_n E.hx E.hb dX1_hold_52 rfl (lv_at hl 3 rfl) ?_
  refine lv_iconst (v := 1) E.hx E.hb dX1_hold_53 (by decide) ?_
  refine lv_icmp_ne (tgt := 68) E.hx E.hb dX1_hold_54 (by decide) (fun c_2 => ?_) (fun c_2 => ?_)
  · rw [if_neg c_2] at h
    exact w_X1_hold_J68 E K0 N P S h (lv_sub hl [0, 1, 2, 5] rfl)
  · rw [if_pos c_2] at h
    refine lv_aload_n E.hx E.hb dX1_hold_57 rfl (lv_at hl 0 rfl) ?_
    refine gf_X1_14 E K0 P dX1_hold_58 ?_
    refine lv_iload E.hx E.hb dX1_hold_61 (lv_at hl 6 rfl) ?_
    refine lv_iload E.hx E.hb dX1_hold_63 (lv_at hl 4 rfl) ?_
    refine rpt_X1_66 E N K0 P S cw_r8 cw_a8 cw_s8 (by decide) (by decide) hl.1 (Nat.le_of_ble_eq_true rfl) dX1_hold_65 (fun H locs P S => ?_)
    exact w_X1_hold_J68 E K0 N P S h (lv_sub hl [0, 1, 2, 5] rfl)
def B_X1_hold (I : Nat → Int32) (A : Nat → Nat → Int32) (x1 x2 x3 x4 x5 : Int32) : Option (Int32 × (Nat → Int32) × (Nat → Nat → Int32)) := if x3 = 2 then B_X1_hold_J52  I ((va_up ((va_up ((va_up A 9 (rPut 144 (A 9) ((B_X6_numberOf x1 x2)) x3))) 10 (rPut 144 (((va_up A 9 (rPut 144 (A 9) ((B_X6_numberOf x1 x2)) x3))) 10) ((B_X6_numberOf x1 x2)) x4))) 11 (rPut 144 (((va_up ((va_up A 9 (rPut 144 (A 9) ((B_X6_numberOf x1 x2)) x3))) 10 (rPut 144 (((va_up A 9 (rPut 144 (A 9) ((B_X6_numberOf x1 x2)) x3))) 10) ((B_X6_numberOf x1 x2)) x4))) 11) ((B_X6_numberOf x1 x2)) x5))) x1 x2 x3 x4 ((B_X1_energyAt I A x1 x2)) ((B_X6_numberOf x1 x2)) else B_X1_hold_J52  I ((va_up A 9 (rPut 144 (A 9) ((B_X6_numberOf x1 x2)) x3))) x1 x2 x3 x4 ((B_X1_energyAt I A x1 x2)) ((B_X6_numberOf x1 x2))
set_option maxHeartbeats 4000000 in
set_option maxRecDepth 100000 in
theorem w_X1_hold (E : EX p s m args meth c cX1_hold 8 RX1 (some .int)) (K0 : KC D cyI ad s s.heap) (N : AdN 44 ad) {H : Heap} {locs : List Loc} (P : va_P D classes (cw cyI ad I A) H) (S : va_S (InN 44 ad) s.heap H locs)  {x1 x2 x3 x4 x5 : Int32} {out : Int32 × (Nat → Int32) × (Nat → Nat → Int32)} (h : B_X1_hold I A x1 x2 x3 x4 x5 = some out) {ls : Array Slot} (hl : lv_has ls 8 [(0, .ref (ad 2)), (1, .int x1), (2, .int x2), (3, .int x3), (4, .int x4), (5, .int x5)]) : W p l e (rmL 5) s m args below meth c H locs 0 0 (MQ below (Qrw (InN 44 ad) (some (.int out.1)) (fun H1 => va_P D classes (cw cyI ad out.2.1 out.2.2) H1)) args s 0 0 (InN 44 ad)) (F0 m 0 ls []) := by
  unfold B_X1_hold at h
  refine lv_aload_n E.hx E.hb dX1_hold_0 rfl (lv_at hl 0 rfl) ?_
  refine lv_iload_n E.hx E.hb dX1_hold_1 rfl (lv_at hl 1 rfl) ?_
  refine lv_iload_n E.hx E.hb dX1_hold_2 rfl (lv_at hl 2 rfl) ?_
  refine iv_X1_102 E K0 P S (by decide) hl.1 (Nat.le_of_ble_eq_true rfl) dX1_hold_3 ?_
  refine lv_istore (lv' := [(6, .int (B_X1_energyAt I A x1 x2)), (0, .ref (ad 2)), (1, .int x1), (2, .int x2), (3, .int x3), (4, .int x4), (5, .int x5)]) E.hx E.hb dX1_hold_6 hl (by decide) rfl (fun ls hl => ?_)
  refine lv_iload_n E.hx E.hb dX1_hold_8 rfl (lv_at hl 2 rfl) ?_
  refine lv_iload_n E.hx E.hb dX1_hold_9 rfl (lv_at hl 3 rfl) ?_
  refine iv_X1_55 E K0 S (by decide) hl.1 (Nat.le_of_ble_eq_true rfl) dX1_hold_10 ?_
  refine lv_istore (lv' := [(7, .int (B_X6_numberOf x1 x2)), (6, .int (B_X1_energyAt I A x1 x2)), (0, .ref (ad 2)), (1, .int x1), (2, .int x2), (3, .int x3), (4, .int x4), (5, .int x5)]) E.hx E.hb dX1_hold_13 hl (by decide) rfl (fun ls hl => ?_)
  refine lv_aload_n E.hx E.hb dX1_hold_15 rfl (lv_at hl 2 rfl) ?_
  refine gf_X1_20 E K0 P dX1_hold_16 ?_
  refine lv_iload E.hx E.hb dX1_hold_19 (lv_at hl 0 rfl) ?_
  refine lv_iload_n E.hx E.hb dX1_hold_21 rfl (lv_at hl 5 rfl) ?_
  refine rpt_X1_66 E N K0 P S cw_r9 cw_a9 cw_s9 (by decide) (by decide) hl.1 (Nat.le_of_ble_eq_true rfl) dX1_hold_22 (fun H locs P S => ?_)
  refine lv_iload_n E.hx E.hb dX1_hold_25 rfl (lv_at hl 5 rfl) ?_
  refine lv_iconst (v := 2) E.hx E.hb dX1_hold_26 (by decide) ?_
  refine lv_icmp_ne (tgt := 52) E.hx E.hb dX1_hold_27 (by decide) (fun c_1 => ?_) (fun c_1 => ?_)
  · rw [if_neg c_1] at h
    exact w_X1_hold_J52 E K0 N P S h (lv_sub hl [2, 3, 4, 5, 6, 1, 0] rfl)
  · rw [if_pos c_1] at h
    refine lv_aload_n E.hx E.hb dX1_hold_30 rfl (lv_at hl 2 rfl) ?_
    refine gf_X1_23 E K0 P dX1_hold_31 ?_
    refine lv_iload E.hx E.hb dX1_hold_34 (lv_at hl 0 rfl) ?_
    refine lv_iload E.hx E.hb dX1_hold_36 (lv_at hl 6 rfl) ?_
    refine rpt_X1_66 E N K0 P S cw_r10 cw_a10 cw_s10 (by decide) (by decide) hl.1 (Nat.le_of_ble_eq_true rfl) dX1_hold_38 (fun H locs P S => ?_)
    refine lv_aload_n E.hx E.hb dX1_hold_41 rfl (lv_at hl 2 rfl) ?_
    refine gf_X1_26 E K0 P dX1_hold_42 ?_
    refine lv_iload E.hx E.hb dX1_hold_45 (lv_at hl 0 rfl) ?_
    refine lv_iload E.hx E.hb dX1_hold_47 (lv_at hl 7 rfl) ?_
    refine rpt_X1_66 E N K0 P S cw_r11 cw_a11 cw_s11 (by decide) (by decide) hl.1 (Nat.le_of_ble_eq_true rfl) dX1_hold_49 (fun H locs P S => ?_)
    exact w_X1_hold_J52 E K0 N P S h (lv_sub hl [2, 3, 4, 5, 6, 1, 0] rfl)
theorem c_X1_hold (l : Launch) {H : Heap} {D : va_G} {cyI : ClassId} {ad : Nat → Nat} {I : Nat → Int32} {A : Nat → Nat → Int32} (N : AdN 44 ad) (P : va_P D classes (cw cyI ad I A) H) (x1 x2 x3 x4 x5 : Int32) {out : Int32 × (Nat → Int32) × (Nat → Nat → Int32)} (h : B_X1_hold I A x1 x2 x3 x4 x5 = some out) : MRW l yX1_hold cX1_hold 8 (some .int) 5 [.ref (ad 2), .int x1, .int x2, .int x3, .int x4, .int x5] H (KC D cyI ad) (InN 44 ad) (some (.int out.1)) (fun H1 => va_P D classes (cw cyI ad out.2.1 out.2.2) H1) := by
  refine Mof (own := RX1) (by decide +kernel) rfl rfl ?_
  intro p e s m args below meth c ls E hH K0 hl
  subst hH
  exact w_X1_hold E K0 N P va_S.rf h hl
theorem ds_X1_hold : Dsc yX1_hold 5 := ⟨by decide +kernel, by decide +kernel, by decide +kernel⟩
end
section
variable {p : Program} {l : Launch} {e : Env} {s : State} {m : MethodId} {args : Array Value} {below : List Frame} {meth : Method} {c : Code} {D : va_G} {cyI : ClassId} {ad : Nat → Nat} {I : Nat → Int32} {A : Nat → Nat → Int32}
def B_X1_settle_J102  (I : Nat → Int32) (A : Nat → Nat → Int32) (x1 x2 x6 x9 x10 : Int32) : Option ((Nat → Int32) × (Nat → Nat → Int32)) := (B_X1_grown I ((va_up A 8 (rPut 144 (A 8) ((B_X6_numberOf x1 x2)) x9))) ((x10 - x6))).bind fun q_5 => some (q_5.2.1, q_5.2.2)
set_option maxHeartbeats 4000000 in
set_option maxRecDepth 100000 in
theorem w_X1_settle_J102 (E : EX p s m args meth c cX1_settle 11 RX1 none) (K0 : KC D cyI ad s s.heap) (N : AdN 44 ad) {H : Heap} {locs : List Loc} (P : va_P D classes (cw cyI ad I A) H) (S : va_S (InN 44 ad) s.heap H locs) {x1 x2 x6 x9 x10 : Int32} {out : (Nat → Int32) × (Nat → Nat → Int32)} (h : B_X1_settle_J102  I A x1 x2 x6 x9 x10 = some out) {ls : Array Slot} (hl : lv_has ls 11 [(0, .ref (ad 2)), (1, .int x1), (2, .int x2), (6, .int x6), (9, .int x9), (10, .int x10)]) : W p l e (rmL 4) s m args below meth c H locs 0 0 (MQ below (Qrw (InN 44 ad) (none) (fun H1 => va_P D classes (cw cyI ad out.1 out.2) H1)) args s 0 0 (InN 44 ad)) (F0 m 102 ls []) := by
  unfold B_X1_settle_J102 at h
  refine lv_aload_n E.hx E.hb dX1_settle_102 rfl (lv_at hl 0 rfl) ?_
  refine gf_X1_14 E K0 P dX1_settle_103 ?_
  refine lv_iload_n E.hx E.hb dX1_settle_106 rfl (lv_at hl 1 rfl) ?_
  refine lv_iload_n E.hx E.hb dX1_settle_107 rfl (lv_at hl 2 rfl) ?_
  refine iv_X1_55 E K0 S (by decide) hl.1 (Nat.le_of_ble_eq_true rfl) dX1_settle_108 ?_
  refine lv_iload E.hx E.hb dX1_settle_111 (lv_at hl 4 rfl) ?_
  refine rpt_X1_66 E N K0 P S cw_r8 cw_a8 cw_s8 (by decide) (by decide) hl.1 (Nat.le_of_ble_eq_true rfl) dX1_settle_113 (fun H locs P S => ?_)
  refine lv_aload_n E.hx E.hb dX1_settle_116 rfl (lv_at hl 0 rfl) ?_
  refine lv_iload E.hx E.hb dX1_settle_117 (lv_at hl 5 rfl) ?_
  refine lv_iload E.hx E.hb dX1_settle_119 (lv_at hl 3 rfl) ?_
  refine lv_isub E.hx E.hb dX1_settle_121 ?_
  obtain ⟨q_5, e_6, h⟩ := obind h
  refine iv_X1_99 E N K0 P S e_6 (by decide) hl.1 (Nat.le_of_ble_eq_true rfl) dX1_settle_122 (fun H locs P S => ?_)
  refine lv_pop E.hx E.hb dX1_settle_125 rfl ?_
  cases h
  exact W.vret E.hx E.hb E.hr (fun t ht _ => ⟨rfl, by rw [ht]; exact P, S.F ht⟩) S.2.2 dX1_settle_126 E.hk
def B_X1_settle_J87  (I : Nat → Int32) (A : Nat → Nat → Int32) (x1 x2 x5 x6 x8 x9 x10 : Int32) : Option ((Nat → Int32) × (Nat → Nat → Int32)) := if x10 ≤ x8 then B_X1_settle_J102  I A x1 x2 x6 x9 x10 else B_X1_settle_J102  I A x1 x2 x6 x5 x8
set_option maxHeartbeats 4000000 in
set_option maxRecDepth 100000 in
theorem w_X1_settle_J87 (E : EX p s m args meth c cX1_settle 11 RX1 none) (K0 : KC D cyI ad s s.heap) (N : AdN 44 ad) {H : Heap} {locs : List Loc} (P : va_P D classes (cw cyI ad I A) H) (S : va_S (InN 44 ad) s.heap H locs) {x1 x2 x5 x6 x8 x9 x10 : Int32} {out : (Nat → Int32) × (Nat → Nat → Int32)} (h : B_X1_settle_J87  I A x1 x2 x5 x6 x8 x9 x10 = some out) {ls : Array Slot} (hl : lv_has ls 11 [(0, .ref (ad 2)), (1, .int x1), (2, .int x2), (5, .int x5), (6, .int x6), (8, .int x8), (9, .int x9), (10, .int x10)]) : W p l e (rmL 4) s m args below meth c H locs 0 0 (MQ below (Qrw (InN 44 ad) (none) (fun H1 => va_P D classes (cw cyI ad out.1 out.2) H1)) args s 0 0 (InN 44 ad)) (F0 m 87 ls []) := by
  unfold B_X1_settle_J87 at h
  refine lv_iload E.hx E.hb dX1_settle_87 (lv_at hl 5 rfl) ?_
  refine lv_iload E.hx E.hb dX1_settle_89 (lv_at hl 7 rfl) ?_
  refine lv_icmp_ge (tgt := 102) E.hx E.hb dX1_settle_91 (by decide) (fun c_4 => ?_) (fun c_4 => ?_)
  · rw [if_pos c_4] at h
    exact w_X1_settle_J102 E K0 N P S h (lv_sub hl [0, 1, 2, 4, 6, 7] rfl)
  · rw [if_neg c_4] at h
    refine lv_iload E.hx E.hb dX1_settle_94 (lv_at hl 3 rfl) ?_
    refine lv_istore (lv' := [(9, .int x5), (0, .ref (ad 2)), (1, .int x1), (2, .int x2), (5, .int x5), (6, .int x6), (8, .int x8), (10, .int x10)]) E.hx E.hb dX1_settle_96 hl (by decide) rfl (fun ls hl => ?_)
    refine lv_iload E.hx E.hb dX1_settle_98 (lv_at hl 6 rfl) ?_
    refine lv_istore (lv' := [(10, .int x8), (9, .int x5), (0, .ref (ad 2)), (1, .int x1), (2, .int x2), (5, .int x5), (6, .int x6), (8, .int x8)]) E.hx E.hb dX1_settle_100 hl (by decide) rfl (fun ls hl => ?_)
    exact w_X1_settle_J102 E K0 N P S h (lv_sub hl [2, 3, 4, 6, 1, 0] rfl)
def B_X1_settle_J34  (I : Nat → Int32) (A : Nat → Nat → Int32) (x1 x2 x3 x4 t0 : Int32) : Option ((Nat → Int32) × (Nat → Nat → Int32)) := if (B_X1_energyWith I A x1 x2 x3) ≤ (B_X1_energyWith I A x1 x2 x4) then B_X1_settle_J87  I A x1 x2 t0 ((B_X1_energyWith I A x1 x2 x3)) ((B_X1_energyWith I A x1 x2 t0)) x3 ((B_X1_energyWith I A x1 x2 x3)) else B_X1_settle_J87  I A x1 x2 t0 ((B_X1_energyWith I A x1 x2 x3)) ((B_X1_energyWith I A x1 x2 t0)) x4 ((B_X1_energyWith I A x1 x2 x4))
set_option maxHeartbeats 4000000 in
set_option maxRecDepth 100000 in
theorem w_X1_settle_J34 (E : EX p s m args meth c cX1_settle 11 RX1 none) (K0 : KC D cyI ad s s.heap) (N : AdN 44 ad) {H : Heap} {locs : List Loc} (P : va_P D classes (cw cyI ad I A) H) (S : va_S (InN 44 ad) s.heap H locs) {x1 x2 x3 x4 t0 : Int32} {out : (Nat → Int32) × (Nat → Nat → Int32)} (h : B_X1_settle_J34  I A x1 x2 x3 x4 t0 = some out) {ls : Array Slot} (hl : lv_has ls 11 [(0, .ref (ad 2)), (1, .int x1), (2, .int x2), (3, .int x3), (4, .int x4)]) : W p l e (rmL 4) s m args below meth c H locs 0 0 (MQ below (Qrw (InN 44 ad) (none) (fun H1 => va_P D classes (cw cyI ad out.1 out.2) H1)) args s 0 0 (InN 44 ad)) (F0 m 34 ls [.int t0]) := by
  unfold B_X1_settle_J34 at h
  refine lv_istore (lv' := [(5, .int t0), (0, .ref (ad 2)), (1, .int x1), (2, .int x2), (3, .int x3), (4, .int x4)]) E.hx E.hb dX1_settle_34 hl (by decide) rfl (fun ls hl => ?_)
  refine lv_aload_n E.hx E.hb dX1_settle_36 rfl (lv_at hl 1 rfl) ?_
  refine lv_iload_n E.hx E.hb dX1_settle_37 rfl (lv_at hl 2 rfl) ?_
  refine lv_iload_n E.hx E.hb dX1_settle_38 rfl (lv_at hl 3 rfl) ?_
  refine lv_iload_n E.hx E.hb dX1_settle_39 rfl (lv_at hl 4 rfl) ?_
  refine iv_X1_91 E K0 P S (by decide) hl.1 (Nat.le_of_ble_eq_true rfl) dX1_settle_40 ?_
  refine lv_istore (lv' := [(6, .int (B_X1_energyWith I A x1 x2 x3)), (5, .int t0), (0, .ref (ad 2)), (1, .int x1), (2, .int x2), (3, .int x3), (4, .int x4)]) E.hx E.hb dX1_settle_43 hl (by decide) rfl (fun ls hl => ?_)
  refine lv_aload_n E.hx E.hb dX1_settle_45 rfl (lv_at hl 2 rfl) ?_
  refine lv_iload_n E.hx E.hb dX1_settle_46 rfl (lv_at hl 3 rfl) ?_
  refine lv_iload_n E.hx E.hb dX1_settle_47 rfl (lv_at hl 4 rfl) ?_
  refine lv_iload E.hx E.hb dX1_settle_48 (lv_at hl 6 rfl) ?_
  refine iv_X1_91 E K0 P S (by decide) hl.1 (Nat.le_of_ble_eq_true rfl) dX1_settle_50 ?_
  refine lv_istore (lv' := [(7, .int (B_X1_energyWith I A x1 x2 x4)), (6, .int (B_X1_energyWith I A x1 x2 x3)), (5, .int t0), (0, .ref (ad 2)), (1, .int x1), (2, .int x2), (3, .int x3), (4, .int x4)]) E.hx E.hb dX1_settle_53 hl (by decide) rfl (fun ls hl => ?_)
  refine lv_aload_n E.hx E.hb dX1_settle_55 rfl (lv_at hl 3 rfl) ?_
  refine lv_iload_n E.hx E.hb dX1_settle_56 rfl (lv_at hl 4 rfl) ?_
  refine lv_iload_n E.hx E.hb dX1_settle_57 rfl (lv_at hl 5 rfl) ?_
  refine lv_iload E.hx E.hb dX1_settle_58 (lv_at hl 2 rfl) ?_
  refine iv_X1_91 E K0 P S (by decide) hl.1 (Nat.le_of_ble_eq_true rfl) dX1_settle_60 ?_
  refine lv_istore (lv' := [(8, .int (B_X1_energyWith I A x1 x2 t0)), (7, .int (B_X1_energyWith I A x1 x2 x4)), (6, .int (B_X1_energyWith I A x1 x2 x3)), (5, .int t0), (0, .ref (ad 2)), (1, .int x1), (2, .int x2), (3, .int x3), (4, .int x4)]) E.hx E.hb dX1_settle_63 hl (by decide) rfl (fun ls hl => ?_)
  refine lv_iload_n E.hx E.hb dX1_settle_65 rfl (lv_at hl 7 rfl) ?_
  refine lv_istore (lv' := [(9, .int x3), (8, .int (B_X1_energyWith I A x1 x2 t0)), (7, .int (B_X1_energyWith I A x1 x2 x4)), (6, .int (B_X1_energyWith I A x1 x2 x3)), (5, .int t0), (0, .ref (ad 2)), (1, .int x1), (2, .int x2), (3, .int x3), (4, .int x4)]) E.hx E.hb dX1_settle_66 hl (by decide) rfl (fun ls hl => ?_)
  refine lv_iload E.hx E.hb dX1_settle_68 (lv_at hl 3 rfl) ?_
  refine lv_istore (lv' := [(10, .int (B_X1_energyWith I A x1 x2 x3)), (9, .int x3), (8, .int (B_X1_energyWith I A x1 x2 t0)), (7, .int (B_X1_energyWith I A x1 x2 x4)), (6, .int (B_X1_energyWith I A x1 x2 x3)), (5, .int t0), (0, .ref (ad 2)), (1, .int x1), (2, .int x2), (3, .int x3), (4, .int x4)]) E.hx E.hb dX1_settle_70 hl (by decide) rfl (fun ls hl => ?_)
  refine lv_iload E.hx E.hb dX1_settle_72 (lv_at hl 3 rfl) ?_
  refine lv_iload E.hx E.hb dX1_settle_74 (lv_at hl 0 rfl) ?_
  refine lv_icmp_ge (tgt := 87) E.hx E.hb dX1_settle_76 (by decide) (fun c_3 => ?_) (fun c_3 => ?_)
  · rw [if_pos c_3] at h
    exact w_X1_settle_J87 E K0 N P S h (lv_sub hl [6, 7, 8, 5, 4, 2, 1, 0] rfl)
  · rw [if_neg c_3] at h
    refine lv_iload E.hx E.hb dX1_settle_79 (lv_at hl 10 rfl) ?_
    refine lv_istore (lv' := [(9, .int x4), (10, .int (B_X1_energyWith I A x1 x2 x3)), (8, .int (B_X1_energyWith I A x1 x2 t0)), (7, .int (B_X1_energyWith I A x1 x2 x4)), (6, .int (B_X1_energyWith I A x1 x2 x3)), (5, .int t0), (0, .ref (ad 2)), (1, .int x1), (2, .int x2), (3, .int x3), (4, .int x4)]) E.hx E.hb dX1_settle_81 hl (by decide) rfl (fun ls hl => ?_)
    refine lv_iload E.hx E.hb dX1_settle_83 (lv_at hl 3 rfl) ?_
    refine lv_istore (lv' := [(10, .int (B_X1_energyWith I A x1 x2 x4)), (9, .int x4), (8, .int (B_X1_energyWith I A x1 x2 t0)), (7, .int (B_X1_energyWith I A x1 x2 x4)), (6, .int (B_X1_energyWith I A x1 x2 x3)), (5, .int t0), (0, .ref (ad 2)), (1, .int x1), (2, .int x2), (3, .int x3), (4, .int x4)]) E.hx E.hb dX1_settle_85 hl (by decide) rfl (fun ls hl => ?_)
    exact w_X1_settle_J87 E K0 N P S h (lv_sub hl [6, 7, 8, 5, 4, 2, 1, 0] rfl)
def B_X1_settle_J19  (I : Nat → Int32) (A : Nat → Nat → Int32) (x1 x2 x3 t0 : Int32) : Option ((Nat → Int32) × (Nat → Nat → Int32)) := if x3 = 14 then B_X1_settle_J34  I A x1 x2 x3 t0 0 else B_X1_settle_J34  I A x1 x2 x3 t0 ((x3 + 1))
set_option maxHeartbeats 4000000 in
set_option maxRecDepth 100000 in
theorem w_X1_settle_J19 (E : EX p s m args meth c cX1_settle 11 RX1 none) (K0 : KC D cyI ad s s.heap) (N : AdN 44 ad) {H : Heap} {locs : List Loc} (P : va_P D classes (cw cyI ad I A) H) (S : va_S (InN 44 ad) s.heap H locs) {x1 x2 x3 t0 : Int32} {out : (Nat → Int32) × (Nat → Nat → Int32)} (h : B_X1_settle_J19  I A x1 x2 x3 t0 = some out) {ls : Array Slot} (hl : lv_has ls 11 [(0, .ref (ad 2)), (1, .int x1), (2, .int x2), (3, .int x3)]) : W p l e (rmL 4) s m args below meth c H locs 0 0 (MQ below (Qrw (InN 44 ad) (none) (fun H1 => va_P D classes (cw cyI ad out.1 out.2) H1)) args s 0 0 (InN 44 ad)) (F0 m 19 ls [.int t0]) := by
  unfold B_X1_settle_J19 at h
  refine lv_istore (lv' := [(4, .int t0), (0, .ref (ad 2)), (1, .int x1), (2, .int x2), (3, .int x3)]) E.hx E.hb dX1_settle_19 hl (by decide) rfl (fun ls hl => ?_)
  refine lv_iload_n E.hx E.hb dX1_settle_21 rfl (lv_at hl 4 rfl) ?_
  refine lv_bipush (v := 14) E.hx E.hb dX1_settle_22 (by decide) ?_
  refine lv_icmp_ne (tgt := 31) E.hx E.hb dX1_settle_24 (by decide) (fun c_2 => ?_) (fun c_2 => ?_)
  · rw [if_neg c_2] at h
    refine lv_iload_n E.hx E.hb dX1_settle_31 rfl (lv_at hl 4 rfl) ?_
    refine lv_iconst (v := 1) E.hx E.hb dX1_settle_32 (by decide) ?_
    refine lv_iadd E.hx E.hb dX1_settle_33 ?_
    exact w_X1_settle_J34 E K0 N P S h (lv_sub hl [1, 2, 3, 4, 0] rfl)
  · rw [if_pos c_2] at h
    refine lv_iconst (v := 0) E.hx E.hb dX1_settle_27 (by decide) ?_
    refine lv_goto (tgt := 34) E.hx E.hb dX1_settle_28 (by decide) ?_
    exact w_X1_settle_J34 E K0 N P S h (lv_sub hl [1, 2, 3, 4, 0] rfl)
def B_X1_settle (I : Nat → Int32) (A : Nat → Nat → Int32) (x1 x2 : Int32) : Option ((Nat → Int32) × (Nat → Nat → Int32)) := if (B_X1_directionAt I A x1 x2) = 0 then B_X1_settle_J19  I A x1 x2 ((B_X1_directionAt I A x1 x2)) 14 else B_X1_settle_J19  I A x1 x2 ((B_X1_directionAt I A x1 x2)) (((B_X1_directionAt I A x1 x2) - 1))
set_option maxHeartbeats 4000000 in
set_option maxRecDepth 100000 in
theorem w_X1_settle (E : EX p s m args meth c cX1_settle 11 RX1 none) (K0 : KC D cyI ad s s.heap) (N : AdN 44 ad) {H : Heap} {locs : List Loc} (P : va_P D classes (cw cyI ad I A) H) (S : va_S (InN 44 ad) s.heap H locs)  {x1 x2 : Int32} {out : (Nat → Int32) × (Nat → Nat → Int32)} (h : B_X1_settle I A x1 x2 = some out) {ls : Array Slot} (hl : lv_has ls 11 [(0, .ref (ad 2)), (1, .int x1), (2, .int x2)]) : W p l e (rmL 4) s m args below meth c H locs 0 0 (MQ below (Qrw (InN 44 ad) (none) (fun H1 => va_P D classes (cw cyI ad out.1 out.2) H1)) args s 0 0 (InN 44 ad)) (F0 m 0 ls []) := by
  unfold B_X1_settle at h
  refine lv_aload_n E.hx E.hb dX1_settle_0 rfl (lv_at hl 0 rfl) ?_
  refine lv_iload_n E.hx E.hb dX1_settle_1 rfl (lv_at hl 1 rfl) ?_
  refine lv_iload_n E.hx E.hb dX1_settle_2 rfl (lv_at hl 2 rfl) ?_
  refine iv_X1_88 E K0 P S (by decide) hl.1 (Nat.le_of_ble_eq_true rfl) dX1_settle_3 ?_
  refine lv_istore_n (lv' := [(3, .int (B_X1_directionAt I A x1 x2)), (0, .ref (ad 2)), (1, .int x1), (2, .int x2)]) E.hx E.hb dX1_settle_6 rfl hl (by decide) rfl (fun ls hl => ?_)
  refine lv_iload_n E.hx E.hb dX1_settle_7 rfl (lv_at hl 0 rfl) ?_
  refine lv_if_ne (tgt := 16) E.hx E.hb dX1_settle_8 (by decide) (fun c_1 => ?_) (fun c_1 => ?_)
  · rw [if_neg c_1] at h
    refine lv_iload_n E.hx E.hb dX1_settle_16 rfl (lv_at hl 0 rfl) ?_
    refine lv_iconst (v := 1) E.hx E.hb dX1_settle_17 (by decide) ?_
    refine lv_isub E.hx E.hb dX1_settle_18 ?_
    exact w_X1_settle_J19 E K0 N P S h (lv_sub hl [1, 2, 3, 0] rfl)
  · rw [if_pos c_1] at h
    refine lv_bipush (v := 14) E.hx E.hb dX1_settle_11 (by decide) ?_
    refine lv_goto (tgt := 19) E.hx E.hb dX1_settle_13 (by decide) ?_
    exact w_X1_settle_J19 E K0 N P S h (lv_sub hl [1, 2, 3, 0] rfl)
theorem c_X1_settle (l : Launch) {H : Heap} {D : va_G} {cyI : ClassId} {ad : Nat → Nat} {I : Nat → Int32} {A : Nat → Nat → Int32} (N : AdN 44 ad) (P : va_P D classes (cw cyI ad I A) H) (x1 x2 : Int32) {out : (Nat → Int32) × (Nat → Nat → Int32)} (h : B_X1_settle I A x1 x2 = some out) : MRW l yX1_settle cX1_settle 11 none 4 [.ref (ad 2), .int x1, .int x2] H (KC D cyI ad) (InN 44 ad) none (fun H1 => va_P D classes (cw cyI ad out.1 out.2) H1) := by
  refine Mof (own := RX1) (by decide +kernel) rfl rfl ?_
  intro p e s m args below meth c ls E hH K0 hl
  subst hH
  exact w_X1_settle E K0 N P va_S.rf h hl
theorem ds_X1_settle : Dsc yX1_settle 2 := ⟨by decide +kernel, by decide +kernel, by decide +kernel⟩
end
section
variable {p : Program} {l : Launch} {e : Env} {R : Room} {s : State} {m : MethodId} {args : Array Value} {below : List Frame} {meth : Method} {c : Code} {H : Heap} {locs : List Loc} {cells slots : Nat} {Q : State → Prop} {cc : ByteArray} {nL pc : Nat} {ret : Option FieldType} {ls : Array Slot} {rest : List Value} {D : va_G} {cyI : ClassId} {ad : Nat → Nat} {I : Nat → Int32} {A : Nat → Nat → Int32}
theorem iv_X1_122 (E : EX p s m args meth c cc nL RX1 ret) (K0 : KC D cyI ad s s.heap) (P : va_P D classes (cw cyI ad I A) H) (S : va_S (InN 44 ad) s.heap H locs) {a0 a1 : Int32} (hR : RmOk R cells slots 1 3) (hls : ls.size = nL) (hro : (rest.map fun v => v.category).sum ≤ 8) (hdg : decode cc pc = .ok (.invokevirtual 122, 3)) (kk : W p l e R s m args below meth c H locs cells slots Q (F0 m (pc + 3) ls (.int (B_X1_kindAt I A a0 a1) :: rest))) : W p l e R s m args below meth c H locs cells slots Q (F0 m pc ls (.int a1 :: .int a0 :: .ref (ad 2) :: rest)) :=
  cv_ro E (c_X1_kindAt l P a0 a1 ) (gV kML_X1_122 kIM_X1_kindAt kSE_X1_kindAt kIN_X1 kCO_X1_kindAt) rfl ds_X1_kindAt rfl KC_blind (fun U _ hW => (K0.at S).warm hW) (va_recv K0.k P (show classes[1]? = some (RX1, TX1, 11) from rfl) cw_g2) hR hls rfl hro hdg kk
end
section
variable {p : Program} {l : Launch} {e : Env} {R : Room} {s : State} {m : MethodId} {args : Array Value} {below : List Frame} {meth : Method} {c : Code} {H : Heap} {locs : List Loc} {cells slots : Nat} {Q : State → Prop} {cc : ByteArray} {nL pc : Nat} {ret : Option FieldType} {ls : Array Slot} {rest : List Value} {D : va_G} {cyI : ClassId} {ad : Nat → Nat} {I : Nat → Int32} {A : Nat → Nat → Int32}
theorem iv_X1_125 (E : EX p s m args meth c cc nL RX1 ret) (N : AdN 44 ad) (K0 : KC D cyI ad s s.heap) (P : va_P D classes (cw cyI ad I A) H) (S : va_S (InN 44 ad) s.heap H locs) {a0 a1 : Int32} {v : (Nat → Int32) × (Nat → Nat → Int32)} (hv : B_X1_settle I A a0 a1 = some v) (hR : RmOk R cells slots 4 11) (hls : ls.size = nL) (hro : (rest.map fun v => v.category).sum ≤ 8) (hdg : decode cc pc = .ok (.invokevirtual 125, 3)) (kk : ∀ (H1 : Heap) (locs1 : List Loc), va_P D classes (cw cyI ad v.1 v.2) H1 → va_S (InN 44 ad) s.heap H1 locs1 → W p l e R s m args below meth c H1 locs1 cells slots Q (F0 m (pc + 3) ls (rest))) : W p l e R s m args below meth c H locs cells slots Q (F0 m pc ls (.int a1 :: .int a0 :: .ref (ad 2) :: rest)) :=
  cv_rw E (c_X1_settle l N P a0 a1 hv) (gV kML_X1_125 kIM_X1_settle kSE_X1_settle kIN_X1 kCO_X1_settle) rfl ds_X1_settle rfl KC_blind (fun U _ hW => (K0.at S).warm hW) S (va_recv K0.k P (show classes[1]? = some (RX1, TX1, 11) from rfl) cw_g2) hR hls rfl hro hdg kk
end
section
variable {p : Program} {l : Launch} {e : Env} {s : State} {m : MethodId} {args : Array Value} {below : List Frame} {meth : Method} {c : Code} {D : va_G} {cyI : ClassId} {ad : Nat → Nat} {I : Nat → Int32} {A : Nat → Nat → Int32}
def B_X1_relax_L17  (x1 x2 : Int32) : Nat → Int32 → (Nat → Int32) → (Nat → Nat → Int32) → Option ((Nat → Int32) × (Nat → Nat → Int32))
  | 0 => fun _ _ _ => none
  | n + 1 => fun x3 I A => if (I 5) ≤ x3 then some ((I, A)) else (if (B_X1_kindAt I A x3 x2) = 1 then (B_X1_relax_L17 x1 x2 n) (x3 + 1) I A else ((B_X1_settle I A x3 x2).bind fun q_4 => (B_X1_relax_L17 x1 x2 n) (x3 + 1) q_4.1 q_4.2))
theorem B_X1_relax_L17_s (I : Nat → Int32) (A : Nat → Nat → Int32) (x1 x2 x3 : Int32) (n : Nat) : B_X1_relax_L17  x1 x2 (n + 1) x3 I A = if (I 5) ≤ x3 then some ((I, A)) else (if (B_X1_kindAt I A x3 x2) = 1 then (B_X1_relax_L17 x1 x2 n) (x3 + 1) I A else ((B_X1_settle I A x3 x2).bind fun q_4 => (B_X1_relax_L17 x1 x2 n) (x3 + 1) q_4.1 q_4.2)) := rfl
set_option maxHeartbeats 4000000 in
set_option maxRecDepth 100000 in
theorem w_X1_relax_L17 (E : EX p s m args meth c cX1_relax 4 RX1 (some .int)) (K0 : KC D cyI ad s s.heap) (N : AdN 44 ad) {x1 x2 : Int32} {out : Int32 × (Nat → Int32) × (Nat → Nat → Int32)} : ∀ (n : Nat) {x3 : Int32} {I : Nat → Int32} {A : Nat → Nat → Int32} {H : Heap} {locs : List Loc} (P : va_P D classes (cw cyI ad I A) H) (S : va_S (InN 44 ad) s.heap H locs) {o : (Nat → Int32) × (Nat → Nat → Int32)} (h : B_X1_relax_L17  x1 x2 n x3 I A = some o) {ls : Array Slot} (hl : lv_has ls 4 [(0, .ref (ad 2)), (1, .int x1), (2, .int x2), (3, .int x3)]) (kx : ∀ {H : Heap} {locs : List Loc} (_ : va_P D classes (cw cyI ad o.1 o.2) H) (_ : va_S (InN 44 ad) s.heap H locs) {ls : Array Slot}, lv_has ls 4 [(0, .ref (ad 2)), (1, .int x1), (2, .int x2)] → W p l e (rmL 5) s m args below meth c H locs 0 0 (MQ below (Qrw (InN 44 ad) (some (.int out.1)) (fun H1 => va_P D classes (cw cyI ad out.2.1 out.2.2) H1)) args s 0 0 (InN 44 ad)) (F0 m 47 ls [])), W p l e (rmL 5) s m args below meth c H locs 0 0 (MQ below (Qrw (InN 44 ad) (some (.int out.1)) (fun H1 => va_P D classes (cw cyI ad out.2.1 out.2.2) H1)) args s 0 0 (InN 44 ad)) (F0 m 17 ls []) := by
  intro n
  induction n with
  | zero => intro x3 I A H locs P S o h ls hl kx; exact nomatch (show none = some o from h)
  | succ n ih =>
    intro x3 I A H locs P S o h ls hl kx
    rw [B_X1_relax_L17_s] at h
    refine lv_iload_n E.hx E.hb dX1_relax_17 rfl (lv_at hl 3 rfl) ?_
    refine lv_aload_n E.hx E.hb dX1_relax_18 rfl (lv_at hl 0 rfl) ?_
    refine gf_X1_32 E K0 P dX1_relax_19 ?_
    refine lv_icmp_ge (tgt := 47) E.hx E.hb dX1_relax_22 (by decide) (fun c_2 => ?_) (fun c_2 => ?_)
    · rw [if_pos c_2] at h
      cases h
      exact kx P S (lv_sub hl [0, 1, 2] rfl)
    · rw [if_neg c_2] at h
      refine lv_aload_n E.hx E.hb dX1_relax_25 rfl (lv_at hl 0 rfl) ?_
      refine lv_iload_n E.hx E.hb dX1_relax_26 rfl (lv_at hl 3 rfl) ?_
      refine lv_iload_n E.hx E.hb dX1_relax_27 rfl (lv_at hl 2 rfl) ?_
      refine iv_X1_122 E K0 P S (by decide) hl.1 (Nat.le_of_ble_eq_true rfl) dX1_relax_28 ?_
      refine lv_iconst (v := 1) E.hx E.hb dX1_relax_31 (by decide) ?_
      refine lv_icmp_eq (tgt := 41) E.hx E.hb dX1_relax_32 (by decide) (fun c_3 => ?_) (fun c_3 => ?_)
      · rw [if_pos c_3] at h
        refine lv_iinc (v := x3 + 1) (lv' := [(3, .int (x3 + 1)), (0, .ref (ad 2)), (1, .int x1), (2, .int x2)]) E.hx E.hb dX1_relax_41 hl (k := 3) rfl rfl (by decide) rfl (fun ls hl => ?_)
        refine lv_goto (tgt := 17) E.hx E.hb dX1_relax_44 (by decide) ?_
        exact ih P S h (lv_sub hl [1, 2, 3, 0] rfl) kx
      · rw [if_neg c_3] at h
        refine lv_aload_n E.hx E.hb dX1_relax_35 rfl (lv_at hl 0 rfl) ?_
        refine lv_iload_n E.hx E.hb dX1_relax_36 rfl (lv_at hl 3 rfl) ?_
        refine lv_iload_n E.hx E.hb dX1_relax_37 rfl (lv_at hl 2 rfl) ?_
        obtain ⟨q_4, e_5, h⟩ := obind h
        refine iv_X1_125 E N K0 P S e_5 (by decide) hl.1 (Nat.le_of_ble_eq_true rfl) dX1_relax_38 (fun H locs P S => ?_)
        refine lv_iinc (v := x3 + 1) (lv' := [(3, .int (x3 + 1)), (0, .ref (ad 2)), (1, .int x1), (2, .int x2)]) E.hx E.hb dX1_relax_41 hl (k := 3) rfl rfl (by decide) rfl (fun ls hl => ?_)
        refine lv_goto (tgt := 17) E.hx E.hb dX1_relax_44 (by decide) ?_
        exact ih P S h (lv_sub hl [1, 2, 3, 0] rfl) kx
def B_X1_relax_L7  (x1 : Int32) : Nat → Int32 → (Nat → Int32) → (Nat → Nat → Int32) → Option ((Nat → Int32) × (Nat → Nat → Int32))
  | 0 => fun _ _ _ => none
  | n + 1 => fun x2 I A => if (I 6) ≤ x2 then some ((I, A)) else ((B_X1_relax_L17  x1 x2 FU 0 I A).bind fun q_6 => (B_X1_relax_L7 x1 n) (x2 + 1) q_6.1 q_6.2)
theorem B_X1_relax_L7_s (I : Nat → Int32) (A : Nat → Nat → Int32) (x1 x2 : Int32) (n : Nat) : B_X1_relax_L7  x1 (n + 1) x2 I A = if (I 6) ≤ x2 then some ((I, A)) else ((B_X1_relax_L17  x1 x2 FU 0 I A).bind fun q_6 => (B_X1_relax_L7 x1 n) (x2 + 1) q_6.1 q_6.2) := rfl
set_option maxHeartbeats 4000000 in
set_option maxRecDepth 100000 in
theorem w_X1_relax_L7 (E : EX p s m args meth c cX1_relax 4 RX1 (some .int)) (K0 : KC D cyI ad s s.heap) (N : AdN 44 ad) {x1 : Int32} {out : Int32 × (Nat → Int32) × (Nat → Nat → Int32)} : ∀ (n : Nat) {x2 : Int32} {I : Nat → Int32} {A : Nat → Nat → Int32} {H : Heap} {locs : List Loc} (P : va_P D classes (cw cyI ad I A) H) (S : va_S (InN 44 ad) s.heap H locs) {o : (Nat → Int32) × (Nat → Nat → Int32)} (h : B_X1_relax_L7  x1 n x2 I A = some o) {ls : Array Slot} (hl : lv_has ls 4 [(0, .ref (ad 2)), (1, .int x1), (2, .int x2)]) (kx : ∀ {H : Heap} {locs : List Loc} (_ : va_P D classes (cw cyI ad o.1 o.2) H) (_ : va_S (InN 44 ad) s.heap H locs) {ls : Array Slot}, lv_has ls 4 [(0, .ref (ad 2)), (1, .int x1)] → W p l e (rmL 5) s m args below meth c H locs 0 0 (MQ below (Qrw (InN 44 ad) (some (.int out.1)) (fun H1 => va_P D classes (cw cyI ad out.2.1 out.2.2) H1)) args s 0 0 (InN 44 ad)) (F0 m 53 ls [])), W p l e (rmL 5) s m args below meth c H locs 0 0 (MQ below (Qrw (InN 44 ad) (some (.int out.1)) (fun H1 => va_P D classes (cw cyI ad out.2.1 out.2.2) H1)) args s 0 0 (InN 44 ad)) (F0 m 7 ls []) := by
  intro n
  induction n with
  | zero => intro x2 I A H locs P S o h ls hl kx; exact nomatch (show none = some o from h)
  | succ n ih =>
    intro x2 I A H locs P S o h ls hl kx
    rw [B_X1_relax_L7_s] at h
    refine lv_iload_n E.hx E.hb dX1_relax_7 rfl (lv_at hl 2 rfl) ?_
    refine lv_aload_n E.hx E.hb dX1_relax_8 rfl (lv_at hl 0 rfl) ?_
    refine gf_X1_36 E K0 P dX1_relax_9 ?_
    refine lv_icmp_ge (tgt := 53) E.hx E.hb dX1_relax_12 (by decide) (fun c_1 => ?_) (fun c_1 => ?_)
    · rw [if_pos c_1] at h
      cases h
      exact kx P S (lv_sub hl [0, 1] rfl)
    · rw [if_neg c_1] at h
      refine lv_iconst (v := 0) E.hx E.hb dX1_relax_15 (by decide) ?_
      refine lv_istore_n (lv' := [(3, .int 0), (0, .ref (ad 2)), (1, .int x1), (2, .int x2)]) E.hx E.hb dX1_relax_16 rfl hl (by decide) rfl (fun ls hl => ?_)
      obtain ⟨q_6, e_7, h⟩ := obind h
      refine w_X1_relax_L17 E K0 N FU P S e_7 (lv_sub hl [1, 2, 3, 0] rfl) (fun {H locs} P S {ls} hl => ?_)
      refine lv_iinc (v := x2 + 1) (lv' := [(2, .int (x2 + 1)), (0, .ref (ad 2)), (1, .int x1)]) E.hx E.hb dX1_relax_47 hl (k := 2) rfl rfl (by decide) rfl (fun ls hl => ?_)
      refine lv_goto (tgt := 7) E.hx E.hb dX1_relax_50 (by decide) ?_
      exact ih P S h (lv_sub hl [1, 2, 0] rfl) kx
def B_X1_relax (I : Nat → Int32) (A : Nat → Nat → Int32)  : Option (Int32 × (Nat → Int32) × (Nat → Nat → Int32)) := (B_X1_relax_L7  ((I 9)) FU 0 I A).bind fun q_8 => some (((I 9) - (q_8.1 9)), q_8.1, q_8.2)
set_option maxHeartbeats 4000000 in
set_option maxRecDepth 100000 in
theorem w_X1_relax (E : EX p s m args meth c cX1_relax 4 RX1 (some .int)) (K0 : KC D cyI ad s s.heap) (N : AdN 44 ad) {H : Heap} {locs : List Loc} (P : va_P D classes (cw cyI ad I A) H) (S : va_S (InN 44 ad) s.heap H locs)  {out : Int32 × (Nat → Int32) × (Nat → Nat → Int32)} (h : B_X1_relax I A  = some out) {ls : Array Slot} (hl : lv_has ls 4 [(0, .ref (ad 2))]) : W p l e (rmL 5) s m args below meth c H locs 0 0 (MQ below (Qrw (InN 44 ad) (some (.int out.1)) (fun H1 => va_P D classes (cw cyI ad out.2.1 out.2.2) H1)) args s 0 0 (InN 44 ad)) (F0 m 0 ls []) := by
  unfold B_X1_relax at h
  refine lv_aload_n E.hx E.hb dX1_relax_0 rfl (lv_at hl 0 rfl) ?_
  refine gf_X1_52 E K0 P dX1_relax_1 ?_
  refine lv_istore_n (lv' := [(1, .int (I 9)), (0, .ref (ad 2))]) E.hx E.hb dX1_relax_4 rfl hl (by decide) rfl (fun ls hl => ?_)
  refine lv_iconst (v := 0) E.hx E.hb dX1_relax_5 (by decide) ?_
  refine lv_istore_n (lv' := [(2, .int 0), (1, .int (I 9)), (0, .ref (ad 2))]) E.hx E.hb dX1_relax_6 rfl hl (by decide) rfl (fun ls hl => ?_)
  obtain ⟨q_8, e_9, h⟩ := obind h
  refine w_X1_relax_L7 E K0 N FU P S e_9 (lv_sub hl [2, 1, 0] rfl) (fun {H locs} P S {ls} hl => ?_)
  refine lv_iload_n E.hx E.hb dX1_relax_53 rfl (lv_at hl 1 rfl) ?_
  refine lv_aload_n E.hx E.hb dX1_relax_54 rfl (lv_at hl 0 rfl) ?_
  refine gf_X1_52 E K0 P dX1_relax_55 ?_
  refine lv_isub E.hx E.hb dX1_relax_58 ?_
  cases h
  exact W.iret E.hx E.hb E.hr (fun t ht _ => ⟨rfl, by rw [ht]; exact P, S.F ht⟩) S.2.2 dX1_relax_59 E.hk
theorem c_X1_relax (l : Launch) {H : Heap} {D : va_G} {cyI : ClassId} {ad : Nat → Nat} {I : Nat → Int32} {A : Nat → Nat → Int32} (N : AdN 44 ad) (P : va_P D classes (cw cyI ad I A) H)  {out : Int32 × (Nat → Int32) × (Nat → Nat → Int32)} (h : B_X1_relax I A  = some out) : MRW l yX1_relax cX1_relax 4 (some .int) 5 [.ref (ad 2)] H (KC D cyI ad) (InN 44 ad) (some (.int out.1)) (fun H1 => va_P D classes (cw cyI ad out.2.1 out.2.2) H1) := by
  refine Mof (own := RX1) (by decide +kernel) rfl rfl ?_
  intro p e s m args below meth c ls E hH K0 hl
  subst hH
  exact w_X1_relax E K0 N P va_S.rf h hl
theorem ds_X1_relax : Dsc yX1_relax 0 := ⟨by decide +kernel, by decide +kernel, by decide +kernel⟩
end
section
variable {p : Program} {l : Launch} {e : Env} {s : State} {m : MethodId} {args : Array Value} {below : List Frame} {meth : Method} {c : Code} {D : va_G} {cyI : ClassId} {ad : Nat → Nat} {I : Nat → Int32} {A : Nat → Nat → Int32}
def B_X3_has (I : Nat → Int32) (A : Nat → Nat → Int32) (x1 : Int32) : Int32 := if x1 < 0 then 0 else (if (I 4) ≤ x1 then 0 else 1)
set_option maxHeartbeats 4000000 in
set_option maxRecDepth 100000 in
theorem w_X3_has (E : EX p s m args meth c cX3_has 2 RX3 (some .boolean)) (K0 : KC D cyI ad s s.heap) (P : va_P D classes (cw cyI ad I A) s.heap)  {x1 : Int32} {out : Int32} (h : B_X3_has I A x1 = out) {ls : Array Slot} (hl : lv_has ls 2 [(0, .ref (ad 1)), (1, .int x1)]) : W p l e (rmL 0) s m args below meth c s.heap [] 0 0 (MQ below (vp_Si (fun z => z = out)) args s 0 0 (fun _ => False)) (F0 m 0 ls []) := by
  unfold B_X3_has at h
  refine lv_iload_n E.hx E.hb dX3_has_0 rfl (lv_at hl 1 rfl) ?_
  refine lv_if_lt (tgt := 16) E.hx E.hb dX3_has_1 (by decide) (fun c_1 => ?_) (fun c_1 => ?_)
  · rw [if_pos c_1] at h
    refine lv_iconst (v := 0) E.hx E.hb dX3_has_16 (by decide) ?_
    exact W.zret E.hx E.hb E.hr rfl (fun t ht _ => ⟨_, rfl, h, ht⟩) (fun q hq => nomatch hq) dX3_has_17 E.hk
  · rw [if_neg c_1] at h
    refine lv_iload_n E.hx E.hb dX3_has_4 rfl (lv_at hl 1 rfl) ?_
    refine lv_aload_n E.hx E.hb dX3_has_5 rfl (lv_at hl 0 rfl) ?_
    refine gf_X3_41 E K0 P dX3_has_6 ?_
    refine lv_icmp_ge (tgt := 16) E.hx E.hb dX3_has_9 (by decide) (fun c_2 => ?_) (fun c_2 => ?_)
    · rw [if_pos c_2] at h
      refine lv_iconst (v := 0) E.hx E.hb dX3_has_16 (by decide) ?_
      exact W.zret E.hx E.hb E.hr rfl (fun t ht _ => ⟨_, rfl, h, ht⟩) (fun q hq => nomatch hq) dX3_has_17 E.hk
    · rw [if_neg c_2] at h
      refine lv_iconst (v := 1) E.hx E.hb dX3_has_12 (by decide) ?_
      refine lv_goto (tgt := 17) E.hx E.hb dX3_has_13 (by decide) ?_
      exact W.zret E.hx E.hb E.hr rfl (fun t ht _ => ⟨_, rfl, h, ht⟩) (fun q hq => nomatch hq) dX3_has_17 E.hk
theorem c_X3_has (l : Launch) {H : Heap} {D : va_G} {cyI : ClassId} {ad : Nat → Nat} {I : Nat → Int32} {A : Nat → Nat → Int32} (P : va_P D classes (cw cyI ad I A) H) (x1 : Int32) : MRO l yX3_has cX3_has 2 (some .boolean) 0 [.ref (ad 1), .int x1] H (KC D cyI ad) (B_X3_has I A x1) := by
  refine Mof (own := RX3) (by decide +kernel) rfl rfl ?_
  intro p e s m args below meth c ls E hH K0 hl
  subst hH
  exact w_X3_has E K0 P rfl hl
theorem ds_X3_has : Dsc yX3_has 1 := ⟨by decide +kernel, by decide +kernel, by decide +kernel⟩
end
section
variable {p : Program} {l : Launch} {e : Env} {s : State} {m : MethodId} {args : Array Value} {below : List Frame} {meth : Method} {c : Code} {D : va_G} {cyI : ClassId} {ad : Nat → Nat} {I : Nat → Int32} {A : Nat → Nat → Int32}
def B_X3_make (I : Nat → Int32) (A : Nat → Nat → Int32) (x1 x2 x3 x4 : Int32) : Option (Int32 × (Nat → Int32) × (Nat → Nat → Int32)) := some ((I 4), (va_up I 4 (((I 4) + 1))), (va_up ((va_up ((va_up ((va_up ((va_up ((va_up ((va_up A 0 (rPut 8 (A 0) ((I 4)) x1))) 1 (rPut 8 (((va_up A 0 (rPut 8 (A 0) ((I 4)) x1))) 1) ((I 4)) x2))) 2 (rPut 8 (((va_up ((va_up A 0 (rPut 8 (A 0) ((I 4)) x1))) 1 (rPut 8 (((va_up A 0 (rPut 8 (A 0) ((I 4)) x1))) 1) ((I 4)) x2))) 2) ((I 4)) x3))) 3 (rPut 8 (((va_up ((va_up ((va_up A 0 (rPut 8 (A 0) ((I 4)) x1))) 1 (rPut 8 (((va_up A 0 (rPut 8 (A 0) ((I 4)) x1))) 1) ((I 4)) x2))) 2 (rPut 8 (((va_up ((va_up A 0 (rPut 8 (A 0) ((I 4)) x1))) 1 (rPut 8 (((va_up A 0 (rPut 8 (A 0) ((I 4)) x1))) 1) ((I 4)) x2))) 2) ((I 4)) x3))) 3) ((I 4)) x4))) 4 (rPut 8 (((va_up ((va_up ((va_up ((va_up A 0 (rPut 8 (A 0) ((I 4)) x1))) 1 (rPut 8 (((va_up A 0 (rPut 8 (A 0) ((I 4)) x1))) 1) ((I 4)) x2))) 2 (rPut 8 (((va_up ((va_up A 0 (rPut 8 (A 0) ((I 4)) x1))) 1 (rPut 8 (((va_up A 0 (rPut 8 (A 0) ((I 4)) x1))) 1) ((I 4)) x2))) 2) ((I 4)) x3))) 3 (rPut 8 (((va_up ((va_up ((va_up A 0 (rPut 8 (A 0) ((I 4)) x1))) 1 (rPut 8 (((va_up A 0 (rPut 8 (A 0) ((I 4)) x1))) 1) ((I 4)) x2))) 2 (rPut 8 (((va_up ((va_up A 0 (rPut 8 (A 0) ((I 4)) x1))) 1 (rPut 8 (((va_up A 0 (rPut 8 (A 0) ((I 4)) x1))) 1) ((I 4)) x2))) 2) ((I 4)) x3))) 3) ((I 4)) x4))) 4) ((I 4)) 0))) 5 (rPut 8 (((va_up ((va_up ((va_up ((va_up ((va_up A 0 (rPut 8 (A 0) ((I 4)) x1))) 1 (rPut 8 (((va_up A 0 (rPut 8 (A 0) ((I 4)) x1))) 1) ((I 4)) x2))) 2 (rPut 8 (((va_up ((va_up A 0 (rPut 8 (A 0) ((I 4)) x1))) 1 (rPut 8 (((va_up A 0 (rPut 8 (A 0) ((I 4)) x1))) 1) ((I 4)) x2))) 2) ((I 4)) x3))) 3 (rPut 8 (((va_up ((va_up ((va_up A 0 (rPut 8 (A 0) ((I 4)) x1))) 1 (rPut 8 (((va_up A 0 (rPut 8 (A 0) ((I 4)) x1))) 1) ((I 4)) x2))) 2 (rPut 8 (((va_up ((va_up A 0 (rPut 8 (A 0) ((I 4)) x1))) 1 (rPut 8 (((va_up A 0 (rPut 8 (A 0) ((I 4)) x1))) 1) ((I 4)) x2))) 2) ((I 4)) x3))) 3) ((I 4)) x4))) 4 (rPut 8 (((va_up ((va_up ((va_up ((va_up A 0 (rPut 8 (A 0) ((I 4)) x1))) 1 (rPut 8 (((va_up A 0 (rPut 8 (A 0) ((I 4)) x1))) 1) ((I 4)) x2))) 2 (rPut 8 (((va_up ((va_up A 0 (rPut 8 (A 0) ((I 4)) x1))) 1 (rPut 8 (((va_up A 0 (rPut 8 (A 0) ((I 4)) x1))) 1) ((I 4)) x2))) 2) ((I 4)) x3))) 3 (rPut 8 (((va_up ((va_up ((va_up A 0 (rPut 8 (A 0) ((I 4)) x1))) 1 (rPut 8 (((va_up A 0 (rPut 8 (A 0) ((I 4)) x1))) 1) ((I 4)) x2))) 2 (rPut 8 (((va_up ((va_up A 0 (rPut 8 (A 0) ((I 4)) x1))) 1 (rPut 8 (((va_up A 0 (rPut 8 (A 0) ((I 4)) x1))) 1) ((I 4)) x2))) 2) ((I 4)) x3))) 3) ((I 4)) x4))) 4) ((I 4)) 0))) 5) ((I 4)) 0))) 6 (rPut 8 (((va_up ((va_up ((va_up ((va_up ((va_up ((va_up A 0 (rPut 8 (A 0) ((I 4)) x1))) 1 (rPut 8 (((va_up A 0 (rPut 8 (A 0) ((I 4)) x1))) 1) ((I 4)) x2))) 2 (rPut 8 (((va_up ((va_up A 0 (rPut 8 (A 0) ((I 4)) x1))) 1 (rPut 8 (((va_up A 0 (rPut 8 (A 0) ((I 4)) x1))) 1) ((I 4)) x2))) 2) ((I 4)) x3))) 3 (rPut 8 (((va_up ((va_up ((va_up A 0 (rPut 8 (A 0) ((I 4)) x1))) 1 (rPut 8 (((va_up A 0 (rPut 8 (A 0) ((I 4)) x1))) 1) ((I 4)) x2))) 2 (rPut 8 (((va_up ((va_up A 0 (rPut 8 (A 0) ((I 4)) x1))) 1 (rPut 8 (((va_up A 0 (rPut 8 (A 0) ((I 4)) x1))) 1) ((I 4)) x2))) 2) ((I 4)) x3))) 3) ((I 4)) x4))) 4 (rPut 8 (((va_up ((va_up ((va_up ((va_up A 0 (rPut 8 (A 0) ((I 4)) x1))) 1 (rPut 8 (((va_up A 0 (rPut 8 (A 0) ((I 4)) x1))) 1) ((I 4)) x2))) 2 (rPut 8 (((va_up ((va_up A 0 (rPut 8 (A 0) ((I 4)) x1))) 1 (rPut 8 (((va_up A 0 (rPut 8 (A 0) ((I 4)) x1))) 1) ((I 4)) x2))) 2) ((I 4)) x3))) 3 (rPut 8 (((va_up ((va_up ((va_up A 0 (rPut 8 (A 0) ((I 4)) x1))) 1 (rPut 8 (((va_up A 0 (rPut 8 (A 0) ((I 4)) x1))) 1) ((I 4)) x2))) 2 (rPut 8 (((va_up ((va_up A 0 (rPut 8 (A 0) ((I 4)) x1))) 1 (rPut 8 (((va_up A 0 (rPut 8 (A 0) ((I 4)) x1))) 1) ((I 4)) x2))) 2) ((I 4)) x3))) 3) ((I 4)) x4))) 4) ((I 4)) 0))) 5 (rPut 8 (((va_up ((va_up ((va_up ((va_up ((va_up A 0 (rPut 8 (A 0) ((I 4)) x1))) 1 (rPut 8 (((va_up A 0 (rPut 8 (A 0) ((I 4)) x1))) 1) ((I 4)) x2))) 2 (rPut 8 (((va_up ((va_up A 0 (rPut 8 (A 0) ((I 4)) x1))) 1 (rPut 8 (((va_up A 0 (rPut 8 (A 0) ((I 4)) x1))) 1) ((I 4)) x2))) 2) ((I 4)) x3))) 3 (rPut 8 (((va_up ((va_up ((va_up A 0 (rPut 8 (A 0) ((I 4)) x1))) 1 (rPut 8 (((va_up A 0 (rPut 8 (A 0) ((I 4)) x1))) 1) ((I 4)) x2))) 2 (rPut 8 (((va_up ((va_up A 0 (rPut 8 (A 0) ((I 4)) x1))) 1 (rPut 8 (((va_up A 0 (rPut 8 (A 0) ((I 4)) x1))) 1) ((I 4)) x2))) 2) ((I 4)) x3))) 3) ((I 4)) x4))) 4 (rPut 8 (((va_up ((va_up ((va_up ((va_up A 0 (rPut 8 (A 0) ((I 4)) x1))) 1 (rPut 8 (((va_up A 0 (rPut 8 (A 0) ((I 4)) x1))) 1) ((I 4)) x2))) 2 (rPut 8 (((va_up ((va_up A 0 (rPut 8 (A 0) ((I 4)) x1))) 1 (rPut 8 (((va_up A 0 (rPut 8 (A 0) ((I 4)) x1))) 1) ((I 4)) x2))) 2) ((I 4)) x3))) 3 (rPut 8 (((va_up ((va_up ((va_up A 0 (rPut 8 (A 0) ((I 4)) x1))) 1 (rPut 8 (((va_up A 0 (rPut 8 (A 0) ((I 4)) x1))) 1) ((I 4)) x2))) 2 (rPut 8 (((va_up ((va_up A 0 (rPut 8 (A 0) ((I 4)) x1))) 1 (rPut 8 (((va_up A 0 (rPut 8 (A 0) ((I 4)) x1))) 1) ((I 4)) x2))) 2) ((I 4)) x3))) 3) ((I 4)) x4))) 4) ((I 4)) 0))) 5) ((I 4)) 0))) 6) ((I 4)) 0)))
set_option maxHeartbeats 4000000 in
set_option maxRecDepth 100000 in
theorem w_X3_make (E : EX p s m args meth c cX3_make 6 RX3 (some .int)) (K0 : KC D cyI ad s s.heap) (N : AdN 44 ad) {H : Heap} {locs : List Loc} (P : va_P D classes (cw cyI ad I A) H) (S : va_S (InN 44 ad) s.heap H locs)  {x1 x2 x3 x4 : Int32} {out : Int32 × (Nat → Int32) × (Nat → Nat → Int32)} (h : B_X3_make I A x1 x2 x3 x4 = some out) {ls : Array Slot} (hl : lv_has ls 6 [(0, .ref (ad 1)), (1, .int x1), (2, .int x2), (3, .int x3), (4, .int x4)]) : W p l e (rmL 1) s m args below meth c H locs 0 0 (MQ below (Qrw (InN 44 ad) (some (.int out.1)) (fun H1 => va_P D classes (cw cyI ad out.2.1 out.2.2) H1)) args s 0 0 (InN 44 ad)) (F0 m 0 ls []) := by
  unfold B_X3_make at h
  refine lv_aload_n E.hx E.hb dX3_make_0 rfl (lv_at hl 0 rfl) ?_
  refine gf_X3_41 E K0 P dX3_make_1 ?_
  refine lv_istore (lv' := [(5, .int (I 4)), (0, .ref (ad 1)), (1, .int x1), (2, .int x2), (3, .int x3), (4, .int x4)]) E.hx E.hb dX3_make_4 hl (by decide) rfl (fun ls hl => ?_)
  refine lv_aload_n E.hx E.hb dX3_make_6 rfl (lv_at hl 1 rfl) ?_
  refine gf_X3_14 E K0 P dX3_make_7 ?_
  refine lv_iload E.hx E.hb dX3_make_10 (lv_at hl 0 rfl) ?_
  refine lv_iload_n E.hx E.hb dX3_make_12 rfl (lv_at hl 2 rfl) ?_
  refine rpt_X3_45 E N K0 P S cw_r0 cw_a0 cw_s0 (by decide) (by decide) hl.1 (Nat.le_of_ble_eq_true rfl) dX3_make_13 (fun H locs P S => ?_)
  refine lv_aload_n E.hx E.hb dX3_make_16 rfl (lv_at hl 1 rfl) ?_
  refine gf_X3_20 E K0 P dX3_make_17 ?_
  refine lv_iload E.hx E.hb dX3_make_20 (lv_at hl 0 rfl) ?_
  refine lv_iload_n E.hx E.hb dX3_make_22 rfl (lv_at hl 3 rfl) ?_
  refine rpt_X3_45 E N K0 P S cw_r1 cw_a1 cw_s1 (by decide) (by decide) hl.1 (Nat.le_of_ble_eq_true rfl) dX3_make_23 (fun H locs P S => ?_)
  refine lv_aload_n E.hx E.hb dX3_make_26 rfl (lv_at hl 1 rfl) ?_
  refine gf_X3_23 E K0 P dX3_make_27 ?_
  refine lv_iload E.hx E.hb dX3_make_30 (lv_at hl 0 rfl) ?_
  refine lv_iload_n E.hx E.hb dX3_make_32 rfl (lv_at hl 4 rfl) ?_
  refine rpt_X3_45 E N K0 P S cw_r2 cw_a2 cw_s2 (by decide) (by decide) hl.1 (Nat.le_of_ble_eq_true rfl) dX3_make_33 (fun H locs P S => ?_)
  refine lv_aload_n E.hx E.hb dX3_make_36 rfl (lv_at hl 1 rfl) ?_
  refine gf_X3_26 E K0 P dX3_make_37 ?_
  refine lv_iload E.hx E.hb dX3_make_40 (lv_at hl 0 rfl) ?_
  refine lv_iload E.hx E.hb dX3_make_42 (lv_at hl 5 rfl) ?_
  refine rpt_X3_45 E N K0 P S cw_r3 cw_a3 cw_s3 (by decide) (by decide) hl.1 (Nat.le_of_ble_eq_true rfl) dX3_make_44 (fun H locs P S => ?_)
  refine lv_aload_n E.hx E.hb dX3_make_47 rfl (lv_at hl 1 rfl) ?_
  refine gf_X3_29 E K0 P dX3_make_48 ?_
  refine lv_iload E.hx E.hb dX3_make_51 (lv_at hl 0 rfl) ?_
  refine lv_iconst (v := 0) E.hx E.hb dX3_make_53 (by decide) ?_
  refine rpt_X3_45 E N K0 P S cw_r4 cw_a4 cw_s4 (by decide) (by decide) hl.1 (Nat.le_of_ble_eq_true rfl) dX3_make_54 (fun H locs P S => ?_)
  refine lv_aload_n E.hx E.hb dX3_make_57 rfl (lv_at hl 1 rfl) ?_
  refine gf_X3_32 E K0 P dX3_make_58 ?_
  refine lv_iload E.hx E.hb dX3_make_61 (lv_at hl 0 rfl) ?_
  refine lv_iconst (v := 0) E.hx E.hb dX3_make_63 (by decide) ?_
  refine rpt_X3_45 E N K0 P S cw_r5 cw_a5 cw_s5 (by decide) (by decide) hl.1 (Nat.le_of_ble_eq_true rfl) dX3_make_64 (fun H locs P S => ?_)
  refine lv_aload_n E.hx E.hb dX3_make_67 rfl (lv_at hl 1 rfl) ?_
  refine gf_X3_35 E K0 P dX3_make_68 ?_
  refine lv_iload E.hx E.hb dX3_make_71 (lv_at hl 0 rfl) ?_
  refine lv_iconst (v := 0) E.hx E.hb dX3_make_73 (by decide) ?_
  refine rpt_X3_45 E N K0 P S cw_r6 cw_a6 cw_s6 (by decide) (by decide) hl.1 (Nat.le_of_ble_eq_true rfl) dX3_make_74 (fun H locs P S => ?_)
  refine lv_aload_n E.hx E.hb dX3_make_77 rfl (lv_at hl 1 rfl) ?_
  refine lv_dup E.hx E.hb dX3_make_78 rfl ?_
  refine gf_X3_41 E K0 P dX3_make_79 ?_
  refine lv_iconst (v := 1) E.hx E.hb dX3_make_82 (by decide) ?_
  refine lv_iadd E.hx E.hb dX3_make_83 ?_
  refine pf_X3_41 E N K0 P S dX3_make_84 (fun H locs P S => ?_)
  refine lv_iload E.hx E.hb dX3_make_87 (lv_at hl 0 rfl) ?_
  cases h
  exact W.iret E.hx E.hb E.hr (fun t ht _ => ⟨rfl, by rw [ht]; exact P, S.F ht⟩) S.2.2 dX3_make_89 E.hk
theorem c_X3_make (l : Launch) {H : Heap} {D : va_G} {cyI : ClassId} {ad : Nat → Nat} {I : Nat → Int32} {A : Nat → Nat → Int32} (N : AdN 44 ad) (P : va_P D classes (cw cyI ad I A) H) (x1 x2 x3 x4 : Int32) {out : Int32 × (Nat → Int32) × (Nat → Nat → Int32)} (h : B_X3_make I A x1 x2 x3 x4 = some out) : MRW l yX3_make cX3_make 6 (some .int) 1 [.ref (ad 1), .int x1, .int x2, .int x3, .int x4] H (KC D cyI ad) (InN 44 ad) (some (.int out.1)) (fun H1 => va_P D classes (cw cyI ad out.2.1 out.2.2) H1) := by
  refine Mof (own := RX3) (by decide +kernel) rfl rfl ?_
  intro p e s m args below meth c ls E hH K0 hl
  subst hH
  exact w_X3_make E K0 N P va_S.rf h hl
theorem ds_X3_make : Dsc yX3_make 4 := ⟨by decide +kernel, by decide +kernel, by decide +kernel⟩
end
section
variable {p : Program} {l : Launch} {e : Env} {s : State} {m : MethodId} {args : Array Value} {below : List Frame} {meth : Method} {c : Code} {D : va_G} {cyI : ClassId} {ad : Nat → Nat} {I : Nat → Int32} {A : Nat → Nat → Int32}
def B_X3_note (I : Nat → Int32) (A : Nat → Nat → Int32) (x1 x2 : Int32) : Option ((Nat → Int32) × (Nat → Nat → Int32)) := some (I, (va_up ((va_up A 7 (rPut 64 (A 7) (((x1 * 8) + ((rAt 8 (A 6) x1) - (rAt 8 (A 6) x1) / 8 * 8))) x2))) 6 (rPut 8 (((va_up A 7 (rPut 64 (A 7) (((x1 * 8) + ((rAt 8 (A 6) x1) - (rAt 8 (A 6) x1) / 8 * 8))) x2))) 6) x1 (((rAt 8 (A 6) x1) + 1)))))
set_option maxHeartbeats 4000000 in
set_option maxRecDepth 100000 in
theorem w_X3_note (E : EX p s m args meth c cX3_note 4 RX3 none) (K0 : KC D cyI ad s s.heap) (N : AdN 44 ad) {H : Heap} {locs : List Loc} (P : va_P D classes (cw cyI ad I A) H) (S : va_S (InN 44 ad) s.heap H locs)  {x1 x2 : Int32} {out : (Nat → Int32) × (Nat → Nat → Int32)} (h : B_X3_note I A x1 x2 = some out) {ls : Array Slot} (hl : lv_has ls 4 [(0, .ref (ad 1)), (1, .int x1), (2, .int x2)]) : W p l e (rmL 1) s m args below meth c H locs 0 0 (MQ below (Qrw (InN 44 ad) (none) (fun H1 => va_P D classes (cw cyI ad out.1 out.2) H1)) args s 0 0 (InN 44 ad)) (F0 m 0 ls []) := by
  unfold B_X3_note at h
  refine lv_aload_n E.hx E.hb dX3_note_0 rfl (lv_at hl 0 rfl) ?_
  refine gf_X3_35 E K0 P dX3_note_1 ?_
  refine lv_iload_n E.hx E.hb dX3_note_4 rfl (lv_at hl 1 rfl) ?_
  refine rat_X3_49 E K0 P S cw_r6 cw_a6 (by decide) (by decide) hl.1 (Nat.le_of_ble_eq_true rfl) dX3_note_5 ?_
  refine lv_istore_n (lv' := [(3, .int (rAt 8 (A 6) x1)), (0, .ref (ad 1)), (1, .int x1), (2, .int x2)]) E.hx E.hb dX3_note_8 rfl hl (by decide) rfl (fun ls hl => ?_)
  refine lv_aload_n E.hx E.hb dX3_note_9 rfl (lv_at hl 1 rfl) ?_
  refine gf_X3_38 E K0 P dX3_note_10 ?_
  refine lv_iload_n E.hx E.hb dX3_note_13 rfl (lv_at hl 2 rfl) ?_
  refine lv_bipush (v := 8) E.hx E.hb dX3_note_14 (by decide) ?_
  refine lv_imul E.hx E.hb dX3_note_16 ?_
  refine lv_iload_n E.hx E.hb dX3_note_17 rfl (lv_at hl 0 rfl) ?_
  refine lv_bipush (v := 8) E.hx E.hb dX3_note_18 (by decide) ?_
  refine lv_irem E.hx E.hb dX3_note_20 (by decide) ?_
  refine lv_iadd E.hx E.hb dX3_note_21 ?_
  refine lv_iload_n E.hx E.hb dX3_note_22 rfl (lv_at hl 3 rfl) ?_
  refine rpt_X3_45 E N K0 P S cw_r7 cw_a7 cw_s7 (by decide) (by decide) hl.1 (Nat.le_of_ble_eq_true rfl) dX3_note_23 (fun H locs P S => ?_)
  refine lv_aload_n E.hx E.hb dX3_note_26 rfl (lv_at hl 1 rfl) ?_
  refine gf_X3_35 E K0 P dX3_note_27 ?_
  refine lv_iload_n E.hx E.hb dX3_note_30 rfl (lv_at hl 2 rfl) ?_
  refine lv_iload_n E.hx E.hb dX3_note_31 rfl (lv_at hl 0 rfl) ?_
  refine lv_iconst (v := 1) E.hx E.hb dX3_note_32 (by decide) ?_
  refine lv_iadd E.hx E.hb dX3_note_33 ?_
  refine rpt_X3_45 E N K0 P S cw_r6 cw_a6 cw_s6 (by decide) (by decide) hl.1 (Nat.le_of_ble_eq_true rfl) dX3_note_34 (fun H locs P S => ?_)
  cases h
  exact W.vret E.hx E.hb E.hr (fun t ht _ => ⟨rfl, by rw [ht]; exact P, S.F ht⟩) S.2.2 dX3_note_37 E.hk
theorem c_X3_note (l : Launch) {H : Heap} {D : va_G} {cyI : ClassId} {ad : Nat → Nat} {I : Nat → Int32} {A : Nat → Nat → Int32} (N : AdN 44 ad) (P : va_P D classes (cw cyI ad I A) H) (x1 x2 : Int32) {out : (Nat → Int32) × (Nat → Nat → Int32)} (h : B_X3_note I A x1 x2 = some out) : MRW l yX3_note cX3_note 4 none 1 [.ref (ad 1), .int x1, .int x2] H (KC D cyI ad) (InN 44 ad) none (fun H1 => va_P D classes (cw cyI ad out.1 out.2) H1) := by
  refine Mof (own := RX3) (by decide +kernel) rfl rfl ?_
  intro p e s m args below meth c ls E hH K0 hl
  subst hH
  exact w_X3_note E K0 N P va_S.rf h hl
theorem ds_X3_note : Dsc yX3_note 2 := ⟨by decide +kernel, by decide +kernel, by decide +kernel⟩
end
section
variable {p : Program} {l : Launch} {e : Env} {R : Room} {s : State} {m : MethodId} {args : Array Value} {below : List Frame} {meth : Method} {c : Code} {H : Heap} {locs : List Loc} {cells slots : Nat} {Q : State → Prop} {cc : ByteArray} {nL pc : Nat} {ret : Option FieldType} {ls : Array Slot} {rest : List Value} {D : va_G} {cyI : ClassId} {ad : Nat → Nat} {I : Nat → Int32} {A : Nat → Nat → Int32}
theorem iv_X3_53 (E : EX p s m args meth c cc nL RX3 ret) (K0 : KC D cyI ad s s.heap) (S : va_S (InN 44 ad) s.heap H locs) {a0 a1 : Int32} (hR : RmOk R cells slots 0 2) (hls : ls.size = nL) (hro : (rest.map fun v => v.category).sum ≤ 8) (hdg : decode cc pc = .ok (.invokestatic 53, 3)) (kk : W p l e R s m args below meth c H locs cells slots Q (F0 m (pc + 3) ls (.int (B_J9_min_7cf53 a0 a1) :: rest))) : W p l e R s m args below meth c H locs cells slots Q (F0 m pc ls (.int a1 :: .int a0 :: rest)) :=
  cq_ro E (c_J9_min_7cf53 l (H := H) (D := D) (cyI := cyI) (ad := ad) a0 a1 ) kML_X3_53 kST_J9_min_7cf53 kIN_J9 kCO_J9_min_7cf53 ds_J9_min_7cf53 rfl KC_blind (fun U _ hW => (K0.at S).warm hW) hR hls rfl hro hdg kk
end
section
variable {p : Program} {l : Launch} {e : Env} {R : Room} {s : State} {m : MethodId} {args : Array Value} {below : List Frame} {meth : Method} {c : Code} {H : Heap} {locs : List Loc} {cells slots : Nat} {Q : State → Prop} {cc : ByteArray} {nL pc : Nat} {ret : Option FieldType} {ls : Array Slot} {rest : List Value} {D : va_G} {cyI : ClassId} {ad : Nat → Nat} {I : Nat → Int32} {A : Nat → Nat → Int32}
theorem iv_X3_59 (E : EX p s m args meth c cc nL RX3 ret) (K0 : KC D cyI ad s s.heap) (S : va_S (InN 44 ad) s.heap H locs) {a0 a1 : Int32} (hR : RmOk R cells slots 0 2) (hls : ls.size = nL) (hro : (rest.map fun v => v.category).sum ≤ 8) (hdg : decode cc pc = .ok (.invokestatic 59, 3)) (kk : W p l e R s m args below meth c H locs cells slots Q (F0 m (pc + 3) ls (.int (B_J9_max_7cf53 a0 a1) :: rest))) : W p l e R s m args below meth c H locs cells slots Q (F0 m pc ls (.int a1 :: .int a0 :: rest)) :=
  cq_ro E (c_J9_max_7cf53 l (H := H) (D := D) (cyI := cyI) (ad := ad) a0 a1 ) kML_X3_59 kST_J9_max_7cf53 kIN_J9 kCO_J9_max_7cf53 ds_J9_max_7cf53 rfl KC_blind (fun U _ hW => (K0.at S).warm hW) hR hls rfl hro hdg kk
end
section
variable {p : Program} {l : Launch} {e : Env} {s : State} {m : MethodId} {args : Array Value} {below : List Frame} {meth : Method} {c : Code} {D : va_G} {cyI : ClassId} {ad : Nat → Nat} {I : Nat → Int32} {A : Nat → Nat → Int32}
def B_X3_flicker_L36 (I : Nat → Int32) (A : Nat → Nat → Int32) (x2 x3 : Int32) : Nat → Int32 → Int32 → Int32 → Option (Int32 × Int32)
  | 0 => fun _ _ _ => none
  | n + 1 => fun x4 x5 x6 => if x3 ≤ x6 then some ((x4, x5)) else (B_X3_flicker_L36 I A x2 x3 n) ((B_J9_max_7cf53 x4 ((rAt 64 (A 7) ((x2 + x6)))))) ((B_J9_min_7cf53 x5 ((rAt 64 (A 7) ((x2 + x6)))))) (x6 + 1)
theorem B_X3_flicker_L36_s (I : Nat → Int32) (A : Nat → Nat → Int32) (x2 x3 x4 x5 x6 : Int32) (n : Nat) : B_X3_flicker_L36 I A x2 x3 (n + 1) x4 x5 x6 = if x3 ≤ x6 then some ((x4, x5)) else (B_X3_flicker_L36 I A x2 x3 n) ((B_J9_max_7cf53 x4 ((rAt 64 (A 7) ((x2 + x6)))))) ((B_J9_min_7cf53 x5 ((rAt 64 (A 7) ((x2 + x6)))))) (x6 + 1) := rfl
set_option maxHeartbeats 4000000 in
set_option maxRecDepth 100000 in
theorem w_X3_flicker_L36 (E : EX p s m args meth c cX3_flicker 8 RX3 (some .int)) (K0 : KC D cyI ad s s.heap) (P : va_P D classes (cw cyI ad I A) s.heap) {x2 x3 : Int32} {out : Int32} : ∀ (n : Nat) {x4 x5 x6 : Int32} {o : Int32 × Int32} (h : B_X3_flicker_L36 I A x2 x3 n x4 x5 x6 = some o) {ls : Array Slot} (hl : lv_has ls 8 [(0, .ref (ad 1)), (2, .int x2), (3, .int x3), (4, .int x4), (5, .int x5), (6, .int x6)]) (kx : ∀ {ls : Array Slot}, lv_has ls 8 [(3, .int x3), (4, .int o.1), (5, .int o.2)] → W p l e (rmL 1) s m args below meth c s.heap [] 0 0 (MQ below (vp_Si (fun z => z = out)) args s 0 0 (fun _ => False)) (F0 m 79 ls [])), W p l e (rmL 1) s m args below meth c s.heap [] 0 0 (MQ below (vp_Si (fun z => z = out)) args s 0 0 (fun _ => False)) (F0 m 36 ls []) := by
  intro n
  induction n with
  | zero => intro x4 x5 x6 o h ls hl kx; exact nomatch (show none = some o from h)
  | succ n ih =>
    intro x4 x5 x6 o h ls hl kx
    rw [B_X3_flicker_L36_s] at h
    refine lv_iload E.hx E.hb dX3_flicker_36 (lv_at hl 5 rfl) ?_
    refine lv_iload_n E.hx E.hb dX3_flicker_38 rfl (lv_at hl 2 rfl) ?_
    refine lv_icmp_ge (tgt := 79) E.hx E.hb dX3_flicker_39 (by decide) (fun c_1 => ?_) (fun c_1 => ?_)
    · rw [if_pos c_1] at h
      cases h
      exact kx  (lv_sub hl [2, 3, 4] rfl)
    · rw [if_neg c_1] at h
      refine lv_aload_n E.hx E.hb dX3_flicker_42 rfl (lv_at hl 0 rfl) ?_
      refine gf_X3_38 E K0 P dX3_flicker_43 ?_
      refine lv_iload_n E.hx E.hb dX3_flicker_46 rfl (lv_at hl 1 rfl) ?_
      refine lv_iload E.hx E.hb dX3_flicker_47 (lv_at hl 5 rfl) ?_
      refine lv_iadd E.hx E.hb dX3_flicker_49 ?_
      refine rat_X3_49 E K0 P va_S.rf cw_r7 cw_a7 (by decide) (by decide) hl.1 (Nat.le_of_ble_eq_true rfl) dX3_flicker_50 ?_
      refine lv_istore (lv' := [(7, .int (rAt 64 (A 7) ((x2 + x6)))), (0, .ref (ad 1)), (2, .int x2), (3, .int x3), (4, .int x4), (5, .int x5), (6, .int x6)]) E.hx E.hb dX3_flicker_53 hl (by decide) rfl (fun ls hl => ?_)
      refine lv_iload E.hx E.hb dX3_flicker_55 (lv_at hl 4 rfl) ?_
      refine lv_iload E.hx E.hb dX3_flicker_57 (lv_at hl 0 rfl) ?_
      refine iv_X3_59 E K0 va_S.rf (by decide) hl.1 (Nat.le_of_ble_eq_true rfl) dX3_flicker_59 ?_
      refine lv_istore (lv' := [(4, .int (B_J9_max_7cf53 x4 ((rAt 64 (A 7) ((x2 + x6)))))), (7, .int (rAt 64 (A 7) ((x2 + x6)))), (0, .ref (ad 1)), (2, .int x2), (3, .int x3), (5, .int x5), (6, .int x6)]) E.hx E.hb dX3_flicker_62 hl (by decide) rfl (fun ls hl => ?_)
      refine lv_iload E.hx E.hb dX3_flicker_64 (lv_at hl 5 rfl) ?_
      refine lv_iload E.hx E.hb dX3_flicker_66 (lv_at hl 1 rfl) ?_
      refine iv_X3_53 E K0 va_S.rf (by decide) hl.1 (Nat.le_of_ble_eq_true rfl) dX3_flicker_68 ?_
      refine lv_istore (lv' := [(5, .int (B_J9_min_7cf53 x5 ((rAt 64 (A 7) ((x2 + x6)))))), (4, .int (B_J9_max_7cf53 x4 ((rAt 64 (A 7) ((x2 + x6)))))), (7, .int (rAt 64 (A 7) ((x2 + x6)))), (0, .ref (ad 1)), (2, .int x2), (3, .int x3), (6, .int x6)]) E.hx E.hb dX3_flicker_71 hl (by decide) rfl (fun ls hl => ?_)
      refine lv_iinc (v := x6 + 1) (lv' := [(6, .int (x6 + 1)), (5, .int (B_J9_min_7cf53 x5 ((rAt 64 (A 7) ((x2 + x6)))))), (4, .int (B_J9_max_7cf53 x4 ((rAt 64 (A 7) ((x2 + x6)))))), (7, .int (rAt 64 (A 7) ((x2 + x6)))), (0, .ref (ad 1)), (2, .int x2), (3, .int x3)]) E.hx E.hb dX3_flicker_73 hl (k := 6) rfl rfl (by decide) rfl (fun ls hl => ?_)
      refine lv_goto (tgt := 36) E.hx E.hb dX3_flicker_76 (by decide) ?_
      exact ih  h (lv_sub hl [4, 5, 6, 2, 1, 0] rfl) kx
def B_X3_flicker (I : Nat → Int32) (A : Nat → Nat → Int32) (x1 : Int32) : Option (Int32) := (B_X3_flicker_L36 I A ((x1 * 8)) ((B_J9_min_7cf53 ((rAt 8 (A 6) x1)) 8)) FU ((rAt 64 (A 7) ((x1 * 8)))) ((rAt 64 (A 7) ((x1 * 8)))) 1).bind fun q_2 => if (B_J9_min_7cf53 ((rAt 8 (A 6) x1)) 8) ≤ 0 then some 0 else some ((q_2.1 - q_2.2))
set_option maxHeartbeats 4000000 in
set_option maxRecDepth 100000 in
theorem w_X3_flicker (E : EX p s m args meth c cX3_flicker 8 RX3 (some .int)) (K0 : KC D cyI ad s s.heap) (P : va_P D classes (cw cyI ad I A) s.heap)  {x1 : Int32} {out : Int32} (h : B_X3_flicker I A x1 = some out) {ls : Array Slot} (hl : lv_has ls 8 [(0, .ref (ad 1)), (1, .int x1)]) : W p l e (rmL 1) s m args below meth c s.heap [] 0 0 (MQ below (vp_Si (fun z => z = out)) args s 0 0 (fun _ => False)) (F0 m 0 ls []) := by
  unfold B_X3_flicker at h
  refine lv_iload_n E.hx E.hb dX3_flicker_0 rfl (lv_at hl 1 rfl) ?_
  refine lv_bipush (v := 8) E.hx E.hb dX3_flicker_1 (by decide) ?_
  refine lv_imul E.hx E.hb dX3_flicker_3 ?_
  refine lv_istore_n (lv' := [(2, .int (x1 * 8)), (0, .ref (ad 1)), (1, .int x1)]) E.hx E.hb dX3_flicker_4 rfl hl (by decide) rfl (fun ls hl => ?_)
  refine lv_aload_n E.hx E.hb dX3_flicker_5 rfl (lv_at hl 1 rfl) ?_
  refine gf_X3_35 E K0 P dX3_flicker_6 ?_
  refine lv_iload_n E.hx E.hb dX3_flicker_9 rfl (lv_at hl 2 rfl) ?_
  refine rat_X3_49 E K0 P va_S.rf cw_r6 cw_a6 (by decide) (by decide) hl.1 (Nat.le_of_ble_eq_true rfl) dX3_flicker_10 ?_
  refine lv_bipush (v := 8) E.hx E.hb dX3_flicker_13 (by decide) ?_
  refine iv_X3_53 E K0 va_S.rf (by decide) hl.1 (Nat.le_of_ble_eq_true rfl) dX3_flicker_15 ?_
  refine lv_istore_n (lv' := [(3, .int (B_J9_min_7cf53 ((rAt 8 (A 6) x1)) 8)), (2, .int (x1 * 8)), (0, .ref (ad 1)), (1, .int x1)]) E.hx E.hb dX3_flicker_18 rfl hl (by decide) rfl (fun ls hl => ?_)
  refine lv_aload_n E.hx E.hb dX3_flicker_19 rfl (lv_at hl 2 rfl) ?_
  refine gf_X3_38 E K0 P dX3_flicker_20 ?_
  refine lv_iload_n E.hx E.hb dX3_flicker_23 rfl (lv_at hl 1 rfl) ?_
  refine rat_X3_49 E K0 P va_S.rf cw_r7 cw_a7 (by decide) (by decide) hl.1 (Nat.le_of_ble_eq_true rfl) dX3_flicker_24 ?_
  refine lv_istore (lv' := [(4, .int (rAt 64 (A 7) ((x1 * 8)))), (3, .int (B_J9_min_7cf53 ((rAt 8 (A 6) x1)) 8)), (2, .int (x1 * 8)), (0, .ref (ad 1)), (1, .int x1)]) E.hx E.hb dX3_flicker_27 hl (by decide) rfl (fun ls hl => ?_)
  refine lv_iload E.hx E.hb dX3_flicker_29 (lv_at hl 0 rfl) ?_
  refine lv_istore (lv' := [(5, .int (rAt 64 (A 7) ((x1 * 8)))), (4, .int (rAt 64 (A 7) ((x1 * 8)))), (3, .int (B_J9_min_7cf53 ((rAt 8 (A 6) x1)) 8)), (2, .int (x1 * 8)), (0, .ref (ad 1)), (1, .int x1)]) E.hx E.hb dX3_flicker_31 hl (by decide) rfl (fun ls hl => ?_)
  refine lv_iconst (v := 1) E.hx E.hb dX3_flicker_33 (by decide) ?_
  refine lv_istore (lv' := [(6, .int 1), (5, .int (rAt 64 (A 7) ((x1 * 8)))), (4, .int (rAt 64 (A 7) ((x1 * 8)))), (3, .int (B_J9_min_7cf53 ((rAt 8 (A 6) x1)) 8)), (2, .int (x1 * 8)), (0, .ref (ad 1)), (1, .int x1)]) E.hx E.hb dX3_flicker_34 hl (by decide) rfl (fun ls hl => ?_)
  obtain ⟨q_2, e_3, h⟩ := obind h
  refine w_X3_flicker_L36 E K0 P FU e_3 (lv_sub hl [5, 4, 3, 2, 1, 0] rfl) (fun {ls} hl => ?_)
  refine lv_iload_n E.hx E.hb dX3_flicker_79 rfl (lv_at hl 0 rfl) ?_
  refine lv_if_le (tgt := 91) E.hx E.hb dX3_flicker_80 (by decide) (fun c_4 => ?_) (fun c_4 => ?_)
  · rw [if_pos c_4] at h
    refine lv_iconst (v := 0) E.hx E.hb dX3_flicker_91 (by decide) ?_
    exact W.iret E.hx E.hb E.hr (fun t ht _ => ⟨_, rfl, (Option.some.inj h), ht⟩) (fun q hq => nomatch hq) dX3_flicker_92 E.hk
  · rw [if_neg c_4] at h
    refine lv_iload E.hx E.hb dX3_flicker_83 (lv_at hl 1 rfl) ?_
    refine lv_iload E.hx E.hb dX3_flicker_85 (lv_at hl 2 rfl) ?_
    refine lv_isub E.hx E.hb dX3_flicker_87 ?_
    refine lv_goto (tgt := 92) E.hx E.hb dX3_flicker_88 (by decide) ?_
    exact W.iret E.hx E.hb E.hr (fun t ht _ => ⟨_, rfl, (Option.some.inj h), ht⟩) (fun q hq => nomatch hq) dX3_flicker_92 E.hk
theorem c_X3_flicker (l : Launch) {H : Heap} {D : va_G} {cyI : ClassId} {ad : Nat → Nat} {I : Nat → Int32} {A : Nat → Nat → Int32} (P : va_P D classes (cw cyI ad I A) H) (x1 : Int32) {out : Int32} (h : B_X3_flicker I A x1 = some out) : MRO l yX3_flicker cX3_flicker 8 (some .int) 1 [.ref (ad 1), .int x1] H (KC D cyI ad) out := by
  refine Mof (own := RX3) (by decide +kernel) rfl rfl ?_
  intro p e s m args below meth c ls E hH K0 hl
  subst hH
  exact w_X3_flicker E K0 P h hl
theorem ds_X3_flicker : Dsc yX3_flicker 1 := ⟨by decide +kernel, by decide +kernel, by decide +kernel⟩
end
section
variable {p : Program} {l : Launch} {e : Env} {R : Room} {s : State} {m : MethodId} {args : Array Value} {below : List Frame} {meth : Method} {c : Code} {H : Heap} {locs : List Loc} {cells slots : Nat} {Q : State → Prop} {cc : ByteArray} {nL pc : Nat} {ret : Option FieldType} {ls : Array Slot} {rest : List Value} {D : va_G} {cyI : ClassId} {ad : Nat → Nat} {I : Nat → Int32} {A : Nat → Nat → Int32}
theorem iv_X5_15 (E : EX p s m args meth c cc nL RX5 ret) (K0 : KC D cyI ad s s.heap) (P : va_P D classes (cw cyI ad I A) H) (S : va_S (InN 44 ad) s.heap H locs) {a0 a1 : Int32} (hR : RmOk R cells slots 0 3) (hls : ls.size = nL) (hro : (rest.map fun v => v.category).sum ≤ 8) (hdg : decode cc pc = .ok (.invokevirtual 15, 3)) (kk : W p l e R s m args below meth c H locs cells slots Q (F0 m (pc + 3) ls (.int (B_X1_has I A a0 a1) :: rest))) : W p l e R s m args below meth c H locs cells slots Q (F0 m pc ls (.int a1 :: .int a0 :: .ref (ad 2) :: rest)) :=
  cv_ro E (c_X1_has l P a0 a1 ) (gV kML_X5_15 kIM_X1_has kSE_X1_has kIN_X1 kCO_X1_has) rfl ds_X1_has rfl KC_blind (fun U _ hW => (K0.at S).warm hW) (va_recv K0.k P (show classes[1]? = some (RX1, TX1, 11) from rfl) cw_g2) hR hls rfl hro hdg kk
end
section
variable {p : Program} {l : Launch} {e : Env} {s : State} {m : MethodId} {args : Array Value} {below : List Frame} {meth : Method} {c : Code} {D : va_G} {cyI : ClassId} {ad : Nat → Nat} {I : Nat → Int32} {A : Nat → Nat → Int32}
def B_X5_has (I : Nat → Int32) (A : Nat → Nat → Int32) (x1 x2 : Int32) : Int32 := if (B_X1_has I A x1 x2) = 0 then 0 else (if (B_X1_has I A ((x1 + 1)) ((x2 + 1))) = 0 then 0 else 1)
set_option maxHeartbeats 4000000 in
set_option maxRecDepth 100000 in
theorem w_X5_has (E : EX p s m args meth c cX5_has 3 RX5 (some .boolean)) (K0 : KC D cyI ad s s.heap) (P : va_P D classes (cw cyI ad I A) s.heap)  {x1 x2 : Int32} {out : Int32} (h : B_X5_has I A x1 x2 = out) {ls : Array Slot} (hl : lv_has ls 3 [(0, .ref (ad 3)), (1, .int x1), (2, .int x2)]) : W p l e (rmL 1) s m args below meth c s.heap [] 0 0 (MQ below (vp_Si (fun z => z = out)) args s 0 0 (fun _ => False)) (F0 m 0 ls []) := by
  unfold B_X5_has at h
  refine lv_aload_n E.hx E.hb dX5_has_0 rfl (lv_at hl 0 rfl) ?_
  refine gf_X5_9 E K0 P dX5_has_1 ?_
  refine lv_iload_n E.hx E.hb dX5_has_4 rfl (lv_at hl 1 rfl) ?_
  refine lv_iload_n E.hx E.hb dX5_has_5 rfl (lv_at hl 2 rfl) ?_
  refine iv_X5_15 E K0 P va_S.rf (by decide) hl.1 (Nat.le_of_ble_eq_true rfl) dX5_has_6 ?_
  refine lv_if_eq (tgt := 32) E.hx E.hb dX5_has_9 (by decide) (fun c_1 => ?_) (fun c_1 => ?_)
  · rw [if_pos c_1] at h
    refine lv_iconst (v := 0) E.hx E.hb dX5_has_32 (by decide) ?_
    exact W.zret E.hx E.hb E.hr rfl (fun t ht _ => ⟨_, rfl, h, ht⟩) (fun q hq => nomatch hq) dX5_has_33 E.hk
  · rw [if_neg c_1] at h
    refine lv_aload_n E.hx E.hb dX5_has_12 rfl (lv_at hl 0 rfl) ?_
    refine gf_X5_9 E K0 P dX5_has_13 ?_
    refine lv_iload_n E.hx E.hb dX5_has_16 rfl (lv_at hl 1 rfl) ?_
    refine lv_iconst (v := 1) E.hx E.hb dX5_has_17 (by decide) ?_
    refine lv_iadd E.hx E.hb dX5_has_18 ?_
    refine lv_iload_n E.hx E.hb dX5_has_19 rfl (lv_at hl 2 rfl) ?_
    refine lv_iconst (v := 1) E.hx E.hb dX5_has_20 (by decide) ?_
    refine lv_iadd E.hx E.hb dX5_has_21 ?_
    refine iv_X5_15 E K0 P va_S.rf (by decide) hl.1 (Nat.le_of_ble_eq_true rfl) dX5_has_22 ?_
    refine lv_if_eq (tgt := 32) E.hx E.hb dX5_has_25 (by decide) (fun c_2 => ?_) (fun c_2 => ?_)
    · rw [if_pos c_2] at h
      refine lv_iconst (v := 0) E.hx E.hb dX5_has_32 (by decide) ?_
      exact W.zret E.hx E.hb E.hr rfl (fun t ht _ => ⟨_, rfl, h, ht⟩) (fun q hq => nomatch hq) dX5_has_33 E.hk
    · rw [if_neg c_2] at h
      refine lv_iconst (v := 1) E.hx E.hb dX5_has_28 (by decide) ?_
      refine lv_goto (tgt := 33) E.hx E.hb dX5_has_29 (by decide) ?_
      exact W.zret E.hx E.hb E.hr rfl (fun t ht _ => ⟨_, rfl, h, ht⟩) (fun q hq => nomatch hq) dX5_has_33 E.hk
theorem c_X5_has (l : Launch) {H : Heap} {D : va_G} {cyI : ClassId} {ad : Nat → Nat} {I : Nat → Int32} {A : Nat → Nat → Int32} (P : va_P D classes (cw cyI ad I A) H) (x1 x2 : Int32) : MRO l yX5_has cX5_has 3 (some .boolean) 1 [.ref (ad 3), .int x1, .int x2] H (KC D cyI ad) (B_X5_has I A x1 x2) := by
  refine Mof (own := RX5) (by decide +kernel) rfl rfl ?_
  intro p e s m args below meth c ls E hH K0 hl
  subst hH
  exact w_X5_has E K0 P rfl hl
theorem ds_X5_has : Dsc yX5_has 2 := ⟨by decide +kernel, by decide +kernel, by decide +kernel⟩
end
section
variable {p : Program} {l : Launch} {e : Env} {R : Room} {s : State} {m : MethodId} {args : Array Value} {below : List Frame} {meth : Method} {c : Code} {H : Heap} {locs : List Loc} {cells slots : Nat} {Q : State → Prop} {cc : ByteArray} {nL pc : Nat} {ret : Option FieldType} {ls : Array Slot} {rest : List Value} {D : va_G} {cyI : ClassId} {ad : Nat → Nat} {I : Nat → Int32} {A : Nat → Nat → Int32}
theorem iv_X5_29 (E : EX p s m args meth c cc nL RX5 ret) (K0 : KC D cyI ad s s.heap) (P : va_P D classes (cw cyI ad I A) H) (S : va_S (InN 44 ad) s.heap H locs) {a0 a1 : Int32} (hR : RmOk R cells slots 1 3) (hls : ls.size = nL) (hro : (rest.map fun v => v.category).sum ≤ 8) (hdg : decode cc pc = .ok (.invokevirtual 29, 3)) (kk : W p l e R s m args below meth c H locs cells slots Q (F0 m (pc + 3) ls (.int (B_X1_directionAt I A a0 a1) :: rest))) : W p l e R s m args below meth c H locs cells slots Q (F0 m pc ls (.int a1 :: .int a0 :: .ref (ad 2) :: rest)) :=
  cv_ro E (c_X1_directionAt l P a0 a1 ) (gV kML_X5_29 kIM_X1_directionAt kSE_X1_directionAt kIN_X1 kCO_X1_directionAt) rfl ds_X1_directionAt rfl KC_blind (fun U _ hW => (K0.at S).warm hW) (va_recv K0.k P (show classes[1]? = some (RX1, TX1, 11) from rfl) cw_g2) hR hls rfl hro hdg kk
end
section
variable {p : Program} {l : Launch} {e : Env} {R : Room} {s : State} {m : MethodId} {args : Array Value} {below : List Frame} {meth : Method} {c : Code} {H : Heap} {locs : List Loc} {cells slots : Nat} {Q : State → Prop} {cc : ByteArray} {nL pc : Nat} {ret : Option FieldType} {ls : Array Slot} {rest : List Value} {D : va_G} {cyI : ClassId} {ad : Nat → Nat} {I : Nat → Int32} {A : Nat → Nat → Int32}
theorem iv_X5_32 (E : EX p s m args meth c cc nL RX5 ret) (K0 : KC D cyI ad s s.heap) (S : va_S (InN 44 ad) s.heap H locs) {a0 a1 : Int32} (hR : RmOk R cells slots 0 2) (hls : ls.size = nL) (hro : (rest.map fun v => v.category).sum ≤ 8) (hdg : decode cc pc = .ok (.invokestatic 32, 3)) (kk : W p l e R s m args below meth c H locs cells slots Q (F0 m (pc + 3) ls (.int (B_X6_onFrom a0 a1) :: rest))) : W p l e R s m args below meth c H locs cells slots Q (F0 m pc ls (.int a1 :: .int a0 :: rest)) :=
  cn_ro E (c_X6_onFrom l (H := H) (D := D) (cyI := cyI) (ad := ad) a0 a1 ) (K0.nm _ (List.mem_of_getElem? (i := 6) rfl)) kST_X6_onFrom kIN_X6 kCO_X6_onFrom ds_X6_onFrom rfl KC_blind (fun U _ hW => (K0.at S).warm hW) hR hls rfl hro hdg kk
end
section
variable {p : Program} {l : Launch} {e : Env} {R : Room} {s : State} {m : MethodId} {args : Array Value} {below : List Frame} {meth : Method} {c : Code} {H : Heap} {locs : List Loc} {cells slots : Nat} {Q : State → Prop} {cc : ByteArray} {nL pc : Nat} {ret : Option FieldType} {ls : Array Slot} {rest : List Value} {D : va_G} {cyI : ClassId} {ad : Nat → Nat} {I : Nat → Int32} {A : Nat → Nat → Int32}
theorem iv_X5_35 (E : EX p s m args meth c cc nL RX5 ret) (K0 : KC D cyI ad s s.heap) (S : va_S (InN 44 ad) s.heap H locs) {a0 a1 : Int32} {v : Int32} (hv : B_J9_floorDiv_7cf53 a0 a1 = some v) (hR : RmOk R cells slots 0 3) (hls : ls.size = nL) (hro : (rest.map fun v => v.category).sum ≤ 8) (hdg : decode cc pc = .ok (.invokestatic 35, 3)) (kk : W p l e R s m args below meth c H locs cells slots Q (F0 m (pc + 3) ls (.int v :: rest))) : W p l e R s m args below meth c H locs cells slots Q (F0 m pc ls (.int a1 :: .int a0 :: rest)) :=
  cq_ro E (c_J9_floorDiv_7cf53 l (H := H) (D := D) (cyI := cyI) (ad := ad) a0 a1 hv) kML_X5_35 kST_J9_floorDiv_7cf53 kIN_J9 kCO_J9_floorDiv_7cf53 ds_J9_floorDiv_7cf53 rfl KC_blind (fun U _ hW => (K0.at S).warm hW) hR hls rfl hro hdg kk
end
section
variable {p : Program} {l : Launch} {e : Env} {s : State} {m : MethodId} {args : Array Value} {below : List Frame} {meth : Method} {c : Code} {D : va_G} {cyI : ClassId} {ad : Nat → Nat} {I : Nat → Int32} {A : Nat → Nat → Int32}
def B_X5_around_L6 (I : Nat → Int32) (A : Nat → Nat → Int32) (x1 x2 x3 x4 : Int32) : Nat → Int32 → Int32 → Option (Int32)
  | 0 => fun _ _ => none
  | n + 1 => fun x5 x6 => if x3 ≤ x6 then some (x5) else (B_X5_around_L6 I A x1 x2 x3 x4 n) (((x5 + (B_X6_onFrom ((B_X1_directionAt I A x6 x2)) ((B_X1_directionAt I A ((x6 + 1)) x2)))) + (B_X6_onFrom ((B_X1_directionAt I A ((x6 + 1)) x4)) ((B_X1_directionAt I A x6 x4))))) (x6 + 1)
theorem B_X5_around_L6_s (I : Nat → Int32) (A : Nat → Nat → Int32) (x1 x2 x3 x4 x5 x6 : Int32) (n : Nat) : B_X5_around_L6 I A x1 x2 x3 x4 (n + 1) x5 x6 = if x3 ≤ x6 then some (x5) else (B_X5_around_L6 I A x1 x2 x3 x4 n) (((x5 + (B_X6_onFrom ((B_X1_directionAt I A x6 x2)) ((B_X1_directionAt I A ((x6 + 1)) x2)))) + (B_X6_onFrom ((B_X1_directionAt I A ((x6 + 1)) x4)) ((B_X1_directionAt I A x6 x4))))) (x6 + 1) := rfl
set_option maxHeartbeats 4000000 in
set_option maxRecDepth 100000 in
theorem w_X5_around_L6 (E : EX p s m args meth c cX5_around 7 RX5 (some .int)) (K0 : KC D cyI ad s s.heap) (P : va_P D classes (cw cyI ad I A) s.heap) {x1 x2 x3 x4 : Int32} {out : Int32} : ∀ (n : Nat) {x5 x6 : Int32} {o : Int32} (h : B_X5_around_L6 I A x1 x2 x3 x4 n x5 x6 = some o) {ls : Array Slot} (hl : lv_has ls 7 [(0, .ref (ad 3)), (1, .int x1), (2, .int x2), (3, .int x3), (4, .int x4), (5, .int x5), (6, .int x6)]) (kx : ∀ {ls : Array Slot}, lv_has ls 7 [(0, .ref (ad 3)), (1, .int x1), (2, .int x2), (3, .int x3), (4, .int x4), (5, .int o)] → W p l e (rmL 2) s m args below meth c s.heap [] 0 0 (MQ below (vp_Si (fun z => z = out)) args s 0 0 (fun _ => False)) (F0 m 80 ls [])), W p l e (rmL 2) s m args below meth c s.heap [] 0 0 (MQ below (vp_Si (fun z => z = out)) args s 0 0 (fun _ => False)) (F0 m 6 ls []) := by
  intro n
  induction n with
  | zero => intro x5 x6 o h ls hl kx; exact nomatch (show none = some o from h)
  | succ n ih =>
    intro x5 x6 o h ls hl kx
    rw [B_X5_around_L6_s] at h
    refine lv_iload E.hx E.hb dX5_around_6 (lv_at hl 6 rfl) ?_
    refine lv_iload_n E.hx E.hb dX5_around_8 rfl (lv_at hl 3 rfl) ?_
    refine lv_icmp_ge (tgt := 80) E.hx E.hb dX5_around_9 (by decide) (fun c_1 => ?_) (fun c_1 => ?_)
    · rw [if_pos c_1] at h
      cases h
      exact kx  (lv_sub hl [0, 1, 2, 3, 4, 5] rfl)
    · rw [if_neg c_1] at h
      refine lv_iload E.hx E.hb dX5_around_12 (lv_at hl 5 rfl) ?_
      refine lv_aload_n E.hx E.hb dX5_around_14 rfl (lv_at hl 0 rfl) ?_
      refine gf_X5_9 E K0 P dX5_around_15 ?_
      refine lv_iload E.hx E.hb dX5_around_18 (lv_at hl 6 rfl) ?_
      refine lv_iload_n E.hx E.hb dX5_around_20 rfl (lv_at hl 2 rfl) ?_
      refine iv_X5_29 E K0 P va_S.rf (by decide) hl.1 (Nat.le_of_ble_eq_true rfl) dX5_around_21 ?_
      refine lv_aload_n E.hx E.hb dX5_around_24 rfl (lv_at hl 0 rfl) ?_
      refine gf_X5_9 E K0 P dX5_around_25 ?_
      refine lv_iload E.hx E.hb dX5_around_28 (lv_at hl 6 rfl) ?_
      refine lv_iconst (v := 1) E.hx E.hb dX5_around_30 (by decide) ?_
      refine lv_iadd E.hx E.hb dX5_around_31 ?_
      refine lv_iload_n E.hx E.hb dX5_around_32 rfl (lv_at hl 2 rfl) ?_
      refine iv_X5_29 E K0 P va_S.rf (by decide) hl.1 (Nat.le_of_ble_eq_true rfl) dX5_around_33 ?_
      refine iv_X5_32 E K0 va_S.rf (by decide) hl.1 (Nat.le_of_ble_eq_true rfl) dX5_around_36 ?_
      refine lv_iadd E.hx E.hb dX5_around_39 ?_
      refine lv_istore (lv' := [(5, .int (x5 + (B_X6_onFrom ((B_X1_directionAt I A x6 x2)) ((B_X1_directionAt I A ((x6 + 1)) x2))))), (0, .ref (ad 3)), (1, .int x1), (2, .int x2), (3, .int x3), (4, .int x4), (6, .int x6)]) E.hx E.hb dX5_around_40 hl (by decide) rfl (fun ls hl => ?_)
      refine lv_iload E.hx E.hb dX5_around_42 (lv_at hl 0 rfl) ?_
      refine lv_aload_n E.hx E.hb dX5_around_44 rfl (lv_at hl 1 rfl) ?_
      refine gf_X5_9 E K0 P dX5_around_45 ?_
      refine lv_iload E.hx E.hb dX5_around_48 (lv_at hl 6 rfl) ?_
      refine lv_iconst (v := 1) E.hx E.hb dX5_around_50 (by decide) ?_
      refine lv_iadd E.hx E.hb dX5_around_51 ?_
      refine lv_iload E.hx E.hb dX5_around_52 (lv_at hl 5 rfl) ?_
      refine iv_X5_29 E K0 P va_S.rf (by decide) hl.1 (Nat.le_of_ble_eq_true rfl) dX5_around_54 ?_
      refine lv_aload_n E.hx E.hb dX5_around_57 rfl (lv_at hl 1 rfl) ?_
      refine gf_X5_9 E K0 P dX5_around_58 ?_
      refine lv_iload E.hx E.hb dX5_around_61 (lv_at hl 6 rfl) ?_
      refine lv_iload E.hx E.hb dX5_around_63 (lv_at hl 5 rfl) ?_
      refine iv_X5_29 E K0 P va_S.rf (by decide) hl.1 (Nat.le_of_ble_eq_true rfl) dX5_around_65 ?_
      refine iv_X5_32 E K0 va_S.rf (by decide) hl.1 (Nat.le_of_ble_eq_true rfl) dX5_around_68 ?_
      refine lv_iadd E.hx E.hb dX5_around_71 ?_
      refine lv_istore (lv' := [(5, .int ((x5 + (B_X6_onFrom ((B_X1_directionAt I A x6 x2)) ((B_X1_directionAt I A ((x6 + 1)) x2)))) + (B_X6_onFrom ((B_X1_directionAt I A ((x6 + 1)) x4)) ((B_X1_directionAt I A x6 x4))))), (0, .ref (ad 3)), (1, .int x1), (2, .int x2), (3, .int x3), (4, .int x4), (6, .int x6)]) E.hx E.hb dX5_around_72 hl (by decide) rfl (fun ls hl => ?_)
      refine lv_iinc (v := x6 + 1) (lv' := [(6, .int (x6 + 1)), (5, .int ((x5 + (B_X6_onFrom ((B_X1_directionAt I A x6 x2)) ((B_X1_directionAt I A ((x6 + 1)) x2)))) + (B_X6_onFrom ((B_X1_directionAt I A ((x6 + 1)) x4)) ((B_X1_directionAt I A x6 x4))))), (0, .ref (ad 3)), (1, .int x1), (2, .int x2), (3, .int x3), (4, .int x4)]) E.hx E.hb dX5_around_74 hl (k := 6) rfl rfl (by decide) rfl (fun ls hl => ?_)
      refine lv_goto (tgt := 6) E.hx E.hb dX5_around_77 (by decide) ?_
      exact ih  h (lv_sub hl [2, 3, 4, 5, 6, 1, 0] rfl) kx
def B_X5_around_L83 (I : Nat → Int32) (A : Nat → Nat → Int32) (x1 x3 x4 : Int32) : Nat → Int32 → Int32 → Option (Int32)
  | 0 => fun _ _ => none
  | n + 1 => fun x5 x6 => if x4 ≤ x6 then some (x5) else (B_X5_around_L83 I A x1 x3 x4 n) (((x5 + (B_X6_onFrom ((B_X1_directionAt I A x3 x6)) ((B_X1_directionAt I A x3 ((x6 + 1)))))) + (B_X6_onFrom ((B_X1_directionAt I A x1 ((x6 + 1)))) ((B_X1_directionAt I A x1 x6))))) (x6 + 1)
theorem B_X5_around_L83_s (I : Nat → Int32) (A : Nat → Nat → Int32) (x1 x3 x4 x5 x6 : Int32) (n : Nat) : B_X5_around_L83 I A x1 x3 x4 (n + 1) x5 x6 = if x4 ≤ x6 then some (x5) else (B_X5_around_L83 I A x1 x3 x4 n) (((x5 + (B_X6_onFrom ((B_X1_directionAt I A x3 x6)) ((B_X1_directionAt I A x3 ((x6 + 1)))))) + (B_X6_onFrom ((B_X1_directionAt I A x1 ((x6 + 1)))) ((B_X1_directionAt I A x1 x6))))) (x6 + 1) := rfl
set_option maxHeartbeats 4000000 in
set_option maxRecDepth 100000 in
theorem w_X5_around_L83 (E : EX p s m args meth c cX5_around 7 RX5 (some .int)) (K0 : KC D cyI ad s s.heap) (P : va_P D classes (cw cyI ad I A) s.heap) {x1 x3 x4 : Int32} {out : Int32} : ∀ (n : Nat) {x5 x6 : Int32} {o : Int32} (h : B_X5_around_L83 I A x1 x3 x4 n x5 x6 = some o) {ls : Array Slot} (hl : lv_has ls 7 [(0, .ref (ad 3)), (1, .int x1), (3, .int x3), (4, .int x4), (5, .int x5), (6, .int x6)]) (kx : ∀ {ls : Array Slot}, lv_has ls 7 [(5, .int o)] → W p l e (rmL 2) s m args below meth c s.heap [] 0 0 (MQ below (vp_Si (fun z => z = out)) args s 0 0 (fun _ => False)) (F0 m 156 ls [])), W p l e (rmL 2) s m args below meth c s.heap [] 0 0 (MQ below (vp_Si (fun z => z = out)) args s 0 0 (fun _ => False)) (F0 m 83 ls []) := by
  intro n
  induction n with
  | zero => intro x5 x6 o h ls hl kx; exact nomatch (show none = some o from h)
  | succ n ih =>
    intro x5 x6 o h ls hl kx
    rw [B_X5_around_L83_s] at h
    refine lv_iload E.hx E.hb dX5_around_83 (lv_at hl 5 rfl) ?_
    refine lv_iload E.hx E.hb dX5_around_85 (lv_at hl 3 rfl) ?_
    refine lv_icmp_ge (tgt := 156) E.hx E.hb dX5_around_87 (by decide) (fun c_4 => ?_) (fun c_4 => ?_)
    · rw [if_pos c_4] at h
      cases h
      exact kx  (lv_sub hl [4] rfl)
    · rw [if_neg c_4] at h
      refine lv_iload E.hx E.hb dX5_around_90 (lv_at hl 4 rfl) ?_
      refine lv_aload_n E.hx E.hb dX5_around_92 rfl (lv_at hl 0 rfl) ?_
      refine gf_X5_9 E K0 P dX5_around_93 ?_
      refine lv_iload_n E.hx E.hb dX5_around_96 rfl (lv_at hl 2 rfl) ?_
      refine lv_iload E.hx E.hb dX5_around_97 (lv_at hl 5 rfl) ?_
      refine iv_X5_29 E K0 P va_S.rf (by decide) hl.1 (Nat.le_of_ble_eq_true rfl) dX5_around_99 ?_
      refine lv_aload_n E.hx E.hb dX5_around_102 rfl (lv_at hl 0 rfl) ?_
      refine gf_X5_9 E K0 P dX5_around_103 ?_
      refine lv_iload_n E.hx E.hb dX5_around_106 rfl (lv_at hl 2 rfl) ?_
      refine lv_iload E.hx E.hb dX5_around_107 (lv_at hl 5 rfl) ?_
      refine lv_iconst (v := 1) E.hx E.hb dX5_around_109 (by decide) ?_
      refine lv_iadd E.hx E.hb dX5_around_110 ?_
      refine iv_X5_29 E K0 P va_S.rf (by decide) hl.1 (Nat.le_of_ble_eq_true rfl) dX5_around_111 ?_
      refine iv_X5_32 E K0 va_S.rf (by decide) hl.1 (Nat.le_of_ble_eq_true rfl) dX5_around_114 ?_
      refine lv_iadd E.hx E.hb dX5_around_117 ?_
      refine lv_istore (lv' := [(5, .int (x5 + (B_X6_onFrom ((B_X1_directionAt I A x3 x6)) ((B_X1_directionAt I A x3 ((x6 + 1))))))), (0, .ref (ad 3)), (1, .int x1), (3, .int x3), (4, .int x4), (6, .int x6)]) E.hx E.hb dX5_around_118 hl (by decide) rfl (fun ls hl => ?_)
      refine lv_iload E.hx E.hb dX5_around_120 (lv_at hl 0 rfl) ?_
      refine lv_aload_n E.hx E.hb dX5_around_122 rfl (lv_at hl 1 rfl) ?_
      refine gf_X5_9 E K0 P dX5_around_123 ?_
      refine lv_iload_n E.hx E.hb dX5_around_126 rfl (lv_at hl 2 rfl) ?_
      refine lv_iload E.hx E.hb dX5_around_127 (lv_at hl 5 rfl) ?_
      refine lv_iconst (v := 1) E.hx E.hb dX5_around_129 (by decide) ?_
      refine lv_iadd E.hx E.hb dX5_around_130 ?_
      refine iv_X5_29 E K0 P va_S.rf (by decide) hl.1 (Nat.le_of_ble_eq_true rfl) dX5_around_131 ?_
      refine lv_aload_n E.hx E.hb dX5_around_134 rfl (lv_at hl 1 rfl) ?_
      refine gf_X5_9 E K0 P dX5_around_135 ?_
      refine lv_iload_n E.hx E.hb dX5_around_138 rfl (lv_at hl 2 rfl) ?_
      refine lv_iload E.hx E.hb dX5_around_139 (lv_at hl 5 rfl) ?_
      refine iv_X5_29 E K0 P va_S.rf (by decide) hl.1 (Nat.le_of_ble_eq_true rfl) dX5_around_141 ?_
      refine iv_X5_32 E K0 va_S.rf (by decide) hl.1 (Nat.le_of_ble_eq_true rfl) dX5_around_144 ?_
      refine lv_iadd E.hx E.hb dX5_around_147 ?_
      refine lv_istore (lv' := [(5, .int ((x5 + (B_X6_onFrom ((B_X1_directionAt I A x3 x6)) ((B_X1_directionAt I A x3 ((x6 + 1)))))) + (B_X6_onFrom ((B_X1_directionAt I A x1 ((x6 + 1)))) ((B_X1_directionAt I A x1 x6))))), (0, .ref (ad 3)), (1, .int x1), (3, .int x3), (4, .int x4), (6, .int x6)]) E.hx E.hb dX5_around_148 hl (by decide) rfl (fun ls hl => ?_)
      refine lv_iinc (v := x6 + 1) (lv' := [(6, .int (x6 + 1)), (5, .int ((x5 + (B_X6_onFrom ((B_X1_directionAt I A x3 x6)) ((B_X1_directionAt I A x3 ((x6 + 1)))))) + (B_X6_onFrom ((B_X1_directionAt I A x1 ((x6 + 1)))) ((B_X1_directionAt I A x1 x6))))), (0, .ref (ad 3)), (1, .int x1), (3, .int x3), (4, .int x4)]) E.hx E.hb dX5_around_150 hl (k := 5) rfl rfl (by decide) rfl (fun ls hl => ?_)
      refine lv_goto (tgt := 83) E.hx E.hb dX5_around_153 (by decide) ?_
      exact ih  h (lv_sub hl [2, 3, 4, 5, 1, 0] rfl) kx
def B_X5_around (I : Nat → Int32) (A : Nat → Nat → Int32) (x1 x2 x3 x4 : Int32) : Option (Int32) := (B_X5_around_L6 I A x1 x2 x3 x4 FU 0 x1).bind fun q_2 => (B_X5_around_L83 I A x1 x3 x4 FU q_2 x2).bind fun q_5 => (B_J9_floorDiv_7cf53 q_5 15).bind fun r_7 => some r_7
set_option maxHeartbeats 4000000 in
set_option maxRecDepth 100000 in
theorem w_X5_around (E : EX p s m args meth c cX5_around 7 RX5 (some .int)) (K0 : KC D cyI ad s s.heap) (P : va_P D classes (cw cyI ad I A) s.heap)  {x1 x2 x3 x4 : Int32} {out : Int32} (h : B_X5_around I A x1 x2 x3 x4 = some out) {ls : Array Slot} (hl : lv_has ls 7 [(0, .ref (ad 3)), (1, .int x1), (2, .int x2), (3, .int x3), (4, .int x4)]) : W p l e (rmL 2) s m args below meth c s.heap [] 0 0 (MQ below (vp_Si (fun z => z = out)) args s 0 0 (fun _ => False)) (F0 m 0 ls []) := by
  unfold B_X5_around at h
  refine lv_iconst (v := 0) E.hx E.hb dX5_around_0 (by decide) ?_
  refine lv_istore (lv' := [(5, .int 0), (0, .ref (ad 3)), (1, .int x1), (2, .int x2), (3, .int x3), (4, .int x4)]) E.hx E.hb dX5_around_1 hl (by decide) rfl (fun ls hl => ?_)
  refine lv_iload_n E.hx E.hb dX5_around_3 rfl (lv_at hl 2 rfl) ?_
  refine lv_istore (lv' := [(6, .int x1), (5, .int 0), (0, .ref (ad 3)), (1, .int x1), (2, .int x2), (3, .int x3), (4, .int x4)]) E.hx E.hb dX5_around_4 hl (by decide) rfl (fun ls hl => ?_)
  obtain ⟨q_2, e_3, h⟩ := obind h
  refine w_X5_around_L6 E K0 P FU e_3 (lv_sub hl [2, 3, 4, 5, 6, 1, 0] rfl) (fun {ls} hl => ?_)
  refine lv_iload_n E.hx E.hb dX5_around_80 rfl (lv_at hl 2 rfl) ?_
  refine lv_istore (lv' := [(6, .int x2), (0, .ref (ad 3)), (1, .int x1), (2, .int x2), (3, .int x3), (4, .int x4), (5, .int q_2)]) E.hx E.hb dX5_around_81 hl (by decide) rfl (fun ls hl => ?_)
  obtain ⟨q_5, e_6, h⟩ := obind h
  refine w_X5_around_L83 E K0 P FU e_6 (lv_sub hl [1, 2, 4, 5, 6, 0] rfl) (fun {ls} hl => ?_)
  refine lv_iload E.hx E.hb dX5_around_156 (lv_at hl 0 rfl) ?_
  refine lv_bipush (v := 15) E.hx E.hb dX5_around_158 (by decide) ?_
  obtain ⟨r_7, e_8, h⟩ := obind h
  refine iv_X5_35 E K0 va_S.rf e_8 (by decide) hl.1 (Nat.le_of_ble_eq_true rfl) dX5_around_160 ?_
  exact W.iret E.hx E.hb E.hr (fun t ht _ => ⟨_, rfl, (Option.some.inj h), ht⟩) (fun q hq => nomatch hq) dX5_around_163 E.hk
theorem c_X5_around (l : Launch) {H : Heap} {D : va_G} {cyI : ClassId} {ad : Nat → Nat} {I : Nat → Int32} {A : Nat → Nat → Int32} (P : va_P D classes (cw cyI ad I A) H) (x1 x2 x3 x4 : Int32) {out : Int32} (h : B_X5_around I A x1 x2 x3 x4 = some out) : MRO l yX5_around cX5_around 7 (some .int) 2 [.ref (ad 3), .int x1, .int x2, .int x3, .int x4] H (KC D cyI ad) out := by
  refine Mof (own := RX5) (by decide +kernel) rfl rfl ?_
  intro p e s m args below meth c ls E hH K0 hl
  subst hH
  exact w_X5_around E K0 P h hl
theorem ds_X5_around : Dsc yX5_around 4 := ⟨by decide +kernel, by decide +kernel, by decide +kernel⟩
end
section
variable {p : Program} {l : Launch} {e : Env} {R : Room} {s : State} {m : MethodId} {args : Array Value} {below : List Frame} {meth : Method} {c : Code} {H : Heap} {locs : List Loc} {cells slots : Nat} {Q : State → Prop} {cc : ByteArray} {nL pc : Nat} {ret : Option FieldType} {ls : Array Slot} {rest : List Value} {D : va_G} {cyI : ClassId} {ad : Nat → Nat} {I : Nat → Int32} {A : Nat → Nat → Int32}
theorem iv_X5_21 (E : EX p s m args meth c cc nL RX5 ret) (K0 : KC D cyI ad s s.heap) (P : va_P D classes (cw cyI ad I A) H) (S : va_S (InN 44 ad) s.heap H locs) {a0 a1 a2 a3 : Int32} {v : Int32} (hv : B_X5_around I A a0 a1 a2 a3 = some v) (hR : RmOk R cells slots 2 7) (hls : ls.size = nL) (hro : (rest.map fun v => v.category).sum ≤ 8) (hdg : decode cc pc = .ok (.invokevirtual 21, 3)) (kk : W p l e R s m args below meth c H locs cells slots Q (F0 m (pc + 3) ls (.int v :: rest))) : W p l e R s m args below meth c H locs cells slots Q (F0 m pc ls (.int a3 :: .int a2 :: .int a1 :: .int a0 :: .ref (ad 3) :: rest)) :=
  cv_ro E (c_X5_around l P a0 a1 a2 a3 hv) (gV kML_X5_21 kIM_X5_around kSE_X5_around kIN_X5 kCO_X5_around) rfl ds_X5_around rfl KC_blind (fun U _ hW => (K0.at S).warm hW) (va_recv K0.k P (show classes[5]? = some (RX5, TX5, 1) from rfl) cw_g3) hR hls rfl hro hdg kk
end
section
variable {p : Program} {l : Launch} {e : Env} {s : State} {m : MethodId} {args : Array Value} {below : List Frame} {meth : Method} {c : Code} {D : va_G} {cyI : ClassId} {ad : Nat → Nat} {I : Nat → Int32} {A : Nat → Nat → Int32}
def B_X5_at (I : Nat → Int32) (A : Nat → Nat → Int32) (x1 x2 : Int32) : Option (Int32) := (B_X5_around I A x1 x2 ((x1 + 1)) ((x2 + 1))).bind fun r_1 => some r_1
set_option maxHeartbeats 4000000 in
set_option maxRecDepth 100000 in
theorem w_X5_at (E : EX p s m args meth c cX5_at 3 RX5 (some .int)) (K0 : KC D cyI ad s s.heap) (P : va_P D classes (cw cyI ad I A) s.heap)  {x1 x2 : Int32} {out : Int32} (h : B_X5_at I A x1 x2 = some out) {ls : Array Slot} (hl : lv_has ls 3 [(0, .ref (ad 3)), (1, .int x1), (2, .int x2)]) : W p l e (rmL 3) s m args below meth c s.heap [] 0 0 (MQ below (vp_Si (fun z => z = out)) args s 0 0 (fun _ => False)) (F0 m 0 ls []) := by
  unfold B_X5_at at h
  refine lv_aload_n E.hx E.hb dX5_at_0 rfl (lv_at hl 0 rfl) ?_
  refine lv_iload_n E.hx E.hb dX5_at_1 rfl (lv_at hl 1 rfl) ?_
  refine lv_iload_n E.hx E.hb dX5_at_2 rfl (lv_at hl 2 rfl) ?_
  refine lv_iload_n E.hx E.hb dX5_at_3 rfl (lv_at hl 1 rfl) ?_
  refine lv_iconst (v := 1) E.hx E.hb dX5_at_4 (by decide) ?_
  refine lv_iadd E.hx E.hb dX5_at_5 ?_
  refine lv_iload_n E.hx E.hb dX5_at_6 rfl (lv_at hl 2 rfl) ?_
  refine lv_iconst (v := 1) E.hx E.hb dX5_at_7 (by decide) ?_
  refine lv_iadd E.hx E.hb dX5_at_8 ?_
  obtain ⟨r_1, e_2, h⟩ := obind h
  refine iv_X5_21 E K0 P va_S.rf e_2 (by decide) hl.1 (Nat.le_of_ble_eq_true rfl) dX5_at_9 ?_
  exact W.iret E.hx E.hb E.hr (fun t ht _ => ⟨_, rfl, (Option.some.inj h), ht⟩) (fun q hq => nomatch hq) dX5_at_12 E.hk
theorem c_X5_at (l : Launch) {H : Heap} {D : va_G} {cyI : ClassId} {ad : Nat → Nat} {I : Nat → Int32} {A : Nat → Nat → Int32} (P : va_P D classes (cw cyI ad I A) H) (x1 x2 : Int32) {out : Int32} (h : B_X5_at I A x1 x2 = some out) : MRO l yX5_at cX5_at 3 (some .int) 3 [.ref (ad 3), .int x1, .int x2] H (KC D cyI ad) out := by
  refine Mof (own := RX5) (by decide +kernel) rfl rfl ?_
  intro p e s m args below meth c ls E hH K0 hl
  subst hH
  exact w_X5_at E K0 P h hl
theorem ds_X5_at : Dsc yX5_at 2 := ⟨by decide +kernel, by decide +kernel, by decide +kernel⟩
end
section
variable {p : Program} {l : Launch} {e : Env} {R : Room} {s : State} {m : MethodId} {args : Array Value} {below : List Frame} {meth : Method} {c : Code} {H : Heap} {locs : List Loc} {cells slots : Nat} {Q : State → Prop} {cc : ByteArray} {nL pc : Nat} {ret : Option FieldType} {ls : Array Slot} {rest : List Value} {D : va_G} {cyI : ClassId} {ad : Nat → Nat} {I : Nat → Int32} {A : Nat → Nat → Int32}
theorem iv_X5_25 (E : EX p s m args meth c cc nL RX5 ret) (K0 : KC D cyI ad s s.heap) (P : va_P D classes (cw cyI ad I A) H) (S : va_S (InN 44 ad) s.heap H locs) {a0 a1 : Int32} {v : Int32} (hv : B_X5_at I A a0 a1 = some v) (hR : RmOk R cells slots 3 3) (hls : ls.size = nL) (hro : (rest.map fun v => v.category).sum ≤ 8) (hdg : decode cc pc = .ok (.invokevirtual 25, 3)) (kk : W p l e R s m args below meth c H locs cells slots Q (F0 m (pc + 3) ls (.int v :: rest))) : W p l e R s m args below meth c H locs cells slots Q (F0 m pc ls (.int a1 :: .int a0 :: .ref (ad 3) :: rest)) :=
  cv_ro E (c_X5_at l P a0 a1 hv) (gV kML_X5_25 kIM_X5_at kSE_X5_at kIN_X5 kCO_X5_at) rfl ds_X5_at rfl KC_blind (fun U _ hW => (K0.at S).warm hW) (va_recv K0.k P (show classes[5]? = some (RX5, TX5, 1) from rfl) cw_g3) hR hls rfl hro hdg kk
end
section
variable {p : Program} {l : Launch} {e : Env} {s : State} {m : MethodId} {args : Array Value} {below : List Frame} {meth : Method} {c : Code} {D : va_G} {cyI : ClassId} {ad : Nat → Nat} {I : Nat → Int32} {A : Nat → Nat → Int32}
def B_X5_sum_L16 (I : Nat → Int32) (A : Nat → Nat → Int32) (x1 x3 x4 x6 : Int32) : Nat → Int32 → Int32 → Option (Int32)
  | 0 => fun _ _ => none
  | n + 1 => fun x5 x7 => if x3 ≤ x7 then some (x5) else ((B_X5_at I A x7 x6).bind fun r_3 => (B_X5_sum_L16 I A x1 x3 x4 x6 n) ((x5 + r_3)) (x7 + 1))
theorem B_X5_sum_L16_s (I : Nat → Int32) (A : Nat → Nat → Int32) (x1 x3 x4 x6 x5 x7 : Int32) (n : Nat) : B_X5_sum_L16 I A x1 x3 x4 x6 (n + 1) x5 x7 = if x3 ≤ x7 then some (x5) else ((B_X5_at I A x7 x6).bind fun r_3 => (B_X5_sum_L16 I A x1 x3 x4 x6 n) ((x5 + r_3)) (x7 + 1)) := rfl
set_option maxHeartbeats 4000000 in
set_option maxRecDepth 100000 in
theorem w_X5_sum_L16 (E : EX p s m args meth c cX5_sum 8 RX5 (some .int)) (K0 : KC D cyI ad s s.heap) (P : va_P D classes (cw cyI ad I A) s.heap) {x1 x3 x4 x6 : Int32} {out : Int32} : ∀ (n : Nat) {x5 x7 : Int32} {o : Int32} (h : B_X5_sum_L16 I A x1 x3 x4 x6 n x5 x7 = some o) {ls : Array Slot} (hl : lv_has ls 8 [(0, .ref (ad 3)), (1, .int x1), (3, .int x3), (4, .int x4), (5, .int x5), (6, .int x6), (7, .int x7)]) (kx : ∀ {ls : Array Slot}, lv_has ls 8 [(0, .ref (ad 3)), (1, .int x1), (3, .int x3), (4, .int x4), (5, .int o), (6, .int x6)] → W p l e (rmL 4) s m args below meth c s.heap [] 0 0 (MQ below (vp_Si (fun z => z = out)) args s 0 0 (fun _ => False)) (F0 m 41 ls [])), W p l e (rmL 4) s m args below meth c s.heap [] 0 0 (MQ below (vp_Si (fun z => z = out)) args s 0 0 (fun _ => False)) (F0 m 16 ls []) := by
  intro n
  induction n with
  | zero => intro x5 x7 o h ls hl kx; exact nomatch (show none = some o from h)
  | succ n ih =>
    intro x5 x7 o h ls hl kx
    rw [B_X5_sum_L16_s] at h
    refine lv_iload E.hx E.hb dX5_sum_16 (lv_at hl 6 rfl) ?_
    refine lv_iload_n E.hx E.hb dX5_sum_18 rfl (lv_at hl 2 rfl) ?_
    refine lv_icmp_ge (tgt := 41) E.hx E.hb dX5_sum_19 (by decide) (fun c_2 => ?_) (fun c_2 => ?_)
    · rw [if_pos c_2] at h
      cases h
      exact kx  (lv_sub hl [0, 1, 2, 3, 4, 5] rfl)
    · rw [if_neg c_2] at h
      refine lv_iload E.hx E.hb dX5_sum_22 (lv_at hl 4 rfl) ?_
      refine lv_aload_n E.hx E.hb dX5_sum_24 rfl (lv_at hl 0 rfl) ?_
      refine lv_iload E.hx E.hb dX5_sum_25 (lv_at hl 6 rfl) ?_
      refine lv_iload E.hx E.hb dX5_sum_27 (lv_at hl 5 rfl) ?_
      obtain ⟨r_3, e_4, h⟩ := obind h
      refine iv_X5_25 E K0 P va_S.rf e_4 (by decide) hl.1 (Nat.le_of_ble_eq_true rfl) dX5_sum_29 ?_
      refine lv_iadd E.hx E.hb dX5_sum_32 ?_
      refine lv_istore (lv' := [(5, .int (x5 + r_3)), (0, .ref (ad 3)), (1, .int x1), (3, .int x3), (4, .int x4), (6, .int x6), (7, .int x7)]) E.hx E.hb dX5_sum_33 hl (by decide) rfl (fun ls hl => ?_)
      refine lv_iinc (v := x7 + 1) (lv' := [(7, .int (x7 + 1)), (5, .int (x5 + r_3)), (0, .ref (ad 3)), (1, .int x1), (3, .int x3), (4, .int x4), (6, .int x6)]) E.hx E.hb dX5_sum_35 hl (k := 6) rfl rfl (by decide) rfl (fun ls hl => ?_)
      refine lv_goto (tgt := 16) E.hx E.hb dX5_sum_38 (by decide) ?_
      exact ih  h (lv_sub hl [2, 3, 4, 5, 1, 6, 0] rfl) kx
def B_X5_sum_L6 (I : Nat → Int32) (A : Nat → Nat → Int32) (x1 x3 x4 : Int32) : Nat → Int32 → Int32 → Option (Int32)
  | 0 => fun _ _ => none
  | n + 1 => fun x5 x6 => if x4 ≤ x6 then some (x5) else ((B_X5_sum_L16 I A x1 x3 x4 x6 FU x5 x1).bind fun q_5 => (B_X5_sum_L6 I A x1 x3 x4 n) q_5 (x6 + 1))
theorem B_X5_sum_L6_s (I : Nat → Int32) (A : Nat → Nat → Int32) (x1 x3 x4 x5 x6 : Int32) (n : Nat) : B_X5_sum_L6 I A x1 x3 x4 (n + 1) x5 x6 = if x4 ≤ x6 then some (x5) else ((B_X5_sum_L16 I A x1 x3 x4 x6 FU x5 x1).bind fun q_5 => (B_X5_sum_L6 I A x1 x3 x4 n) q_5 (x6 + 1)) := rfl
set_option maxHeartbeats 4000000 in
set_option maxRecDepth 100000 in
theorem w_X5_sum_L6 (E : EX p s m args meth c cX5_sum 8 RX5 (some .int)) (K0 : KC D cyI ad s s.heap) (P : va_P D classes (cw cyI ad I A) s.heap) {x1 x3 x4 : Int32} {out : Int32} : ∀ (n : Nat) {x5 x6 : Int32} {o : Int32} (h : B_X5_sum_L6 I A x1 x3 x4 n x5 x6 = some o) {ls : Array Slot} (hl : lv_has ls 8 [(0, .ref (ad 3)), (1, .int x1), (3, .int x3), (4, .int x4), (5, .int x5), (6, .int x6)]) (kx : ∀ {ls : Array Slot}, lv_has ls 8 [(5, .int o)] → W p l e (rmL 4) s m args below meth c s.heap [] 0 0 (MQ below (vp_Si (fun z => z = out)) args s 0 0 (fun _ => False)) (F0 m 47 ls [])), W p l e (rmL 4) s m args below meth c s.heap [] 0 0 (MQ below (vp_Si (fun z => z = out)) args s 0 0 (fun _ => False)) (F0 m 6 ls []) := by
  intro n
  induction n with
  | zero => intro x5 x6 o h ls hl kx; exact nomatch (show none = some o from h)
  | succ n ih =>
    intro x5 x6 o h ls hl kx
    rw [B_X5_sum_L6_s] at h
    refine lv_iload E.hx E.hb dX5_sum_6 (lv_at hl 5 rfl) ?_
    refine lv_iload E.hx E.hb dX5_sum_8 (lv_at hl 3 rfl) ?_
    refine lv_icmp_ge (tgt := 47) E.hx E.hb dX5_sum_10 (by decide) (fun c_1 => ?_) (fun c_1 => ?_)
    · rw [if_pos c_1] at h
      cases h
      exact kx  (lv_sub hl [4] rfl)
    · rw [if_neg c_1] at h
      refine lv_iload_n E.hx E.hb dX5_sum_13 rfl (lv_at hl 1 rfl) ?_
      refine lv_istore (lv' := [(7, .int x1), (0, .ref (ad 3)), (1, .int x1), (3, .int x3), (4, .int x4), (5, .int x5), (6, .int x6)]) E.hx E.hb dX5_sum_14 hl (by decide) rfl (fun ls hl => ?_)
      obtain ⟨q_5, e_6, h⟩ := obind h
      refine w_X5_sum_L16 E K0 P FU e_6 (lv_sub hl [1, 2, 3, 4, 5, 6, 0] rfl) (fun {ls} hl => ?_)
      refine lv_iinc (v := x6 + 1) (lv' := [(6, .int (x6 + 1)), (0, .ref (ad 3)), (1, .int x1), (3, .int x3), (4, .int x4), (5, .int q_5)]) E.hx E.hb dX5_sum_41 hl (k := 5) rfl rfl (by decide) rfl (fun ls hl => ?_)
      refine lv_goto (tgt := 6) E.hx E.hb dX5_sum_44 (by decide) ?_
      exact ih  h (lv_sub hl [1, 2, 3, 4, 5, 0] rfl) kx
def B_X5_sum (I : Nat → Int32) (A : Nat → Nat → Int32) (x1 x2 x3 x4 : Int32) : Option (Int32) := (B_X5_sum_L6 I A x1 x3 x4 FU 0 x2).bind fun q_7 => some q_7
set_option maxHeartbeats 4000000 in
set_option maxRecDepth 100000 in
theorem w_X5_sum (E : EX p s m args meth c cX5_sum 8 RX5 (some .int)) (K0 : KC D cyI ad s s.heap) (P : va_P D classes (cw cyI ad I A) s.heap)  {x1 x2 x3 x4 : Int32} {out : Int32} (h : B_X5_sum I A x1 x2 x3 x4 = some out) {ls : Array Slot} (hl : lv_has ls 8 [(0, .ref (ad 3)), (1, .int x1), (2, .int x2), (3, .int x3), (4, .int x4)]) : W p l e (rmL 4) s m args below meth c s.heap [] 0 0 (MQ below (vp_Si (fun z => z = out)) args s 0 0 (fun _ => False)) (F0 m 0 ls []) := by
  unfold B_X5_sum at h
  refine lv_iconst (v := 0) E.hx E.hb dX5_sum_0 (by decide) ?_
  refine lv_istore (lv' := [(5, .int 0), (0, .ref (ad 3)), (1, .int x1), (2, .int x2), (3, .int x3), (4, .int x4)]) E.hx E.hb dX5_sum_1 hl (by decide) rfl (fun ls hl => ?_)
  refine lv_iload_n E.hx E.hb dX5_sum_3 rfl (lv_at hl 3 rfl) ?_
  refine lv_istore (lv' := [(6, .int x2), (5, .int 0), (0, .ref (ad 3)), (1, .int x1), (2, .int x2), (3, .int x3), (4, .int x4)]) E.hx E.hb dX5_sum_4 hl (by decide) rfl (fun ls hl => ?_)
  obtain ⟨q_7, e_8, h⟩ := obind h
  refine w_X5_sum_L6 E K0 P FU e_8 (lv_sub hl [2, 3, 5, 6, 1, 0] rfl) (fun {ls} hl => ?_)
  refine lv_iload E.hx E.hb dX5_sum_47 (lv_at hl 0 rfl) ?_
  exact W.iret E.hx E.hb E.hr (fun t ht _ => ⟨_, rfl, (Option.some.inj h), ht⟩) (fun q hq => nomatch hq) dX5_sum_49 E.hk
theorem c_X5_sum (l : Launch) {H : Heap} {D : va_G} {cyI : ClassId} {ad : Nat → Nat} {I : Nat → Int32} {A : Nat → Nat → Int32} (P : va_P D classes (cw cyI ad I A) H) (x1 x2 x3 x4 : Int32) {out : Int32} (h : B_X5_sum I A x1 x2 x3 x4 = some out) : MRO l yX5_sum cX5_sum 8 (some .int) 4 [.ref (ad 3), .int x1, .int x2, .int x3, .int x4] H (KC D cyI ad) out := by
  refine Mof (own := RX5) (by decide +kernel) rfl rfl ?_
  intro p e s m args below meth c ls E hH K0 hl
  subst hH
  exact w_X5_sum E K0 P h hl
theorem ds_X5_sum : Dsc yX5_sum 4 := ⟨by decide +kernel, by decide +kernel, by decide +kernel⟩
end
section
variable {p : Program} {l : Launch} {e : Env} {s : State} {m : MethodId} {args : Array Value} {below : List Frame} {meth : Method} {c : Code} {D : va_G} {cyI : ClassId} {ad : Nat → Nat} {I : Nat → Int32} {A : Nat → Nat → Int32}
def B_X5_count_L19 (I : Nat → Int32) (A : Nat → Nat → Int32) (x2 : Int32) : Nat → Int32 → Int32 → Option (Int32)
  | 0 => fun _ _ => none
  | n + 1 => fun x1 x3 => if ((I 5) - 1) ≤ x3 then some (x1) else ((B_X5_at I A x3 x2).bind fun r_3 => if r_3 = 0 then (B_X5_count_L19 I A x2 n) x1 (x3 + 1) else (B_X5_count_L19 I A x2 n) (x1 + 1) (x3 + 1))
theorem B_X5_count_L19_s (I : Nat → Int32) (A : Nat → Nat → Int32) (x2 x1 x3 : Int32) (n : Nat) : B_X5_count_L19 I A x2 (n + 1) x1 x3 = if ((I 5) - 1) ≤ x3 then some (x1) else ((B_X5_at I A x3 x2).bind fun r_3 => if r_3 = 0 then (B_X5_count_L19 I A x2 n) x1 (x3 + 1) else (B_X5_count_L19 I A x2 n) (x1 + 1) (x3 + 1)) := rfl
set_option maxHeartbeats 4000000 in
set_option maxRecDepth 100000 in
theorem w_X5_count_L19 (E : EX p s m args meth c cX5_count 4 RX5 (some .int)) (K0 : KC D cyI ad s s.heap) (P : va_P D classes (cw cyI ad I A) s.heap) {x2 : Int32} {out : Int32} : ∀ (n : Nat) {x1 x3 : Int32} {o : Int32} (h : B_X5_count_L19 I A x2 n x1 x3 = some o) {ls : Array Slot} (hl : lv_has ls 4 [(0, .ref (ad 3)), (1, .int x1), (2, .int x2), (3, .int x3)]) (kx : ∀ {ls : Array Slot}, lv_has ls 4 [(0, .ref (ad 3)), (1, .int o), (2, .int x2)] → W p l e (rmL 4) s m args below meth c s.heap [] 0 0 (MQ below (vp_Si (fun z => z = out)) args s 0 0 (fun _ => False)) (F0 m 50 ls [])), W p l e (rmL 4) s m args below meth c s.heap [] 0 0 (MQ below (vp_Si (fun z => z = out)) args s 0 0 (fun _ => False)) (F0 m 19 ls []) := by
  intro n
  induction n with
  | zero => intro x1 x3 o h ls hl kx; exact nomatch (show none = some o from h)
  | succ n ih =>
    intro x1 x3 o h ls hl kx
    rw [B_X5_count_L19_s] at h
    refine lv_iload_n E.hx E.hb dX5_count_19 rfl (lv_at hl 3 rfl) ?_
    refine lv_aload_n E.hx E.hb dX5_count_20 rfl (lv_at hl 0 rfl) ?_
    refine gf_X5_9 E K0 P dX5_count_21 ?_
    refine gf_X5_44 E K0 P dX5_count_24 ?_
    refine lv_iconst (v := 1) E.hx E.hb dX5_count_27 (by decide) ?_
    refine lv_isub E.hx E.hb dX5_count_28 ?_
    refine lv_icmp_ge (tgt := 50) E.hx E.hb dX5_count_29 (by decide) (fun c_2 => ?_) (fun c_2 => ?_)
    · rw [if_pos c_2] at h
      cases h
      exact kx  (lv_sub hl [0, 1, 2] rfl)
    · rw [if_neg c_2] at h
      refine lv_aload_n E.hx E.hb dX5_count_32 rfl (lv_at hl 0 rfl) ?_
      refine lv_iload_n E.hx E.hb dX5_count_33 rfl (lv_at hl 3 rfl) ?_
      refine lv_iload_n E.hx E.hb dX5_count_34 rfl (lv_at hl 2 rfl) ?_
      obtain ⟨r_3, e_4, h⟩ := obind h
      refine iv_X5_25 E K0 P va_S.rf e_4 (by decide) hl.1 (Nat.le_of_ble_eq_true rfl) dX5_count_35 ?_
      refine lv_if_eq (tgt := 44) E.hx E.hb dX5_count_38 (by decide) (fun c_5 => ?_) (fun c_5 => ?_)
      · rw [if_pos c_5] at h
        refine lv_iinc (v := x3 + 1) (lv' := [(3, .int (x3 + 1)), (0, .ref (ad 3)), (1, .int x1), (2, .int x2)]) E.hx E.hb dX5_count_44 hl (k := 3) rfl rfl (by decide) rfl (fun ls hl => ?_)
        refine lv_goto (tgt := 19) E.hx E.hb dX5_count_47 (by decide) ?_
        exact ih  h (lv_sub hl [1, 2, 3, 0] rfl) kx
      · rw [if_neg c_5] at h
        refine lv_iinc (v := x1 + 1) (lv' := [(1, .int (x1 + 1)), (0, .ref (ad 3)), (2, .int x2), (3, .int x3)]) E.hx E.hb dX5_count_41 hl (k := 1) rfl rfl (by decide) rfl (fun ls hl => ?_)
        refine lv_iinc (v := x3 + 1) (lv' := [(3, .int (x3 + 1)), (1, .int (x1 + 1)), (0, .ref (ad 3)), (2, .int x2)]) E.hx E.hb dX5_count_44 hl (k := 3) rfl rfl (by decide) rfl (fun ls hl => ?_)
        refine lv_goto (tgt := 19) E.hx E.hb dX5_count_47 (by decide) ?_
        exact ih  h (lv_sub hl [2, 1, 3, 0] rfl) kx
def B_X5_count_L4 (I : Nat → Int32) (A : Nat → Nat → Int32)  : Nat → Int32 → Int32 → Option (Int32)
  | 0 => fun _ _ => none
  | n + 1 => fun x1 x2 => if ((I 6) - 1) ≤ x2 then some (x1) else ((B_X5_count_L19 I A x2 FU x1 0).bind fun q_6 => (B_X5_count_L4 I A n) q_6 (x2 + 1))
theorem B_X5_count_L4_s (I : Nat → Int32) (A : Nat → Nat → Int32) (x1 x2 : Int32) (n : Nat) : B_X5_count_L4 I A  (n + 1) x1 x2 = if ((I 6) - 1) ≤ x2 then some (x1) else ((B_X5_count_L19 I A x2 FU x1 0).bind fun q_6 => (B_X5_count_L4 I A n) q_6 (x2 + 1)) := rfl
set_option maxHeartbeats 4000000 in
set_option maxRecDepth 100000 in
theorem w_X5_count_L4 (E : EX p s m args meth c cX5_count 4 RX5 (some .int)) (K0 : KC D cyI ad s s.heap) (P : va_P D classes (cw cyI ad I A) s.heap) {out : Int32} : ∀ (n : Nat) {x1 x2 : Int32} {o : Int32} (h : B_X5_count_L4 I A  n x1 x2 = some o) {ls : Array Slot} (hl : lv_has ls 4 [(0, .ref (ad 3)), (1, .int x1), (2, .int x2)]) (kx : ∀ {ls : Array Slot}, lv_has ls 4 [(1, .int o)] → W p l e (rmL 4) s m args below meth c s.heap [] 0 0 (MQ below (vp_Si (fun z => z = out)) args s 0 0 (fun _ => False)) (F0 m 56 ls [])), W p l e (rmL 4) s m args below meth c s.heap [] 0 0 (MQ below (vp_Si (fun z => z = out)) args s 0 0 (fun _ => False)) (F0 m 4 ls []) := by
  intro n
  induction n with
  | zero => intro x1 x2 o h ls hl kx; exact nomatch (show none = some o from h)
  | succ n ih =>
    intro x1 x2 o h ls hl kx
    rw [B_X5_count_L4_s] at h
    refine lv_iload_n E.hx E.hb dX5_count_4 rfl (lv_at hl 2 rfl) ?_
    refine lv_aload_n E.hx E.hb dX5_count_5 rfl (lv_at hl 0 rfl) ?_
    refine gf_X5_9 E K0 P dX5_count_6 ?_
    refine gf_X5_40 E K0 P dX5_count_9 ?_
    refine lv_iconst (v := 1) E.hx E.hb dX5_count_12 (by decide) ?_
    refine lv_isub E.hx E.hb dX5_count_13 ?_
    refine lv_icmp_ge (tgt := 56) E.hx E.hb dX5_count_14 (by decide) (fun c_1 => ?_) (fun c_1 => ?_)
    · rw [if_pos c_1] at h
      cases h
      exact kx  (lv_sub hl [1] rfl)
    · rw [if_neg c_1] at h
      refine lv_iconst (v := 0) E.hx E.hb dX5_count_17 (by decide) ?_
      refine lv_istore_n (lv' := [(3, .int 0), (0, .ref (ad 3)), (1, .int x1), (2, .int x2)]) E.hx E.hb dX5_count_18 rfl hl (by decide) rfl (fun ls hl => ?_)
      obtain ⟨q_6, e_7, h⟩ := obind h
      refine w_X5_count_L19 E K0 P FU e_7 (lv_sub hl [1, 2, 3, 0] rfl) (fun {ls} hl => ?_)
      refine lv_iinc (v := x2 + 1) (lv' := [(2, .int (x2 + 1)), (0, .ref (ad 3)), (1, .int q_6)]) E.hx E.hb dX5_count_50 hl (k := 2) rfl rfl (by decide) rfl (fun ls hl => ?_)
      refine lv_goto (tgt := 4) E.hx E.hb dX5_count_53 (by decide) ?_
      exact ih  h (lv_sub hl [1, 2, 0] rfl) kx
def B_X5_count (I : Nat → Int32) (A : Nat → Nat → Int32)  : Option (Int32) := (B_X5_count_L4 I A  FU 0 0).bind fun q_8 => some q_8
set_option maxHeartbeats 4000000 in
set_option maxRecDepth 100000 in
theorem w_X5_count (E : EX p s m args meth c cX5_count 4 RX5 (some .int)) (K0 : KC D cyI ad s s.heap) (P : va_P D classes (cw cyI ad I A) s.heap)  {out : Int32} (h : B_X5_count I A  = some out) {ls : Array Slot} (hl : lv_has ls 4 [(0, .ref (ad 3))]) : W p l e (rmL 4) s m args below meth c s.heap [] 0 0 (MQ below (vp_Si (fun z => z = out)) args s 0 0 (fun _ => False)) (F0 m 0 ls []) := by
  unfold B_X5_count at h
  refine lv_iconst (v := 0) E.hx E.hb dX5_count_0 (by decide) ?_
  refine lv_istore_n (lv' := [(1, .int 0), (0, .ref (ad 3))]) E.hx E.hb dX5_count_1 rfl hl (by decide) rfl (fun ls hl => ?_)
  refine lv_iconst (v := 0) E.hx E.hb dX5_count_2 (by decide) ?_
  refine lv_istore_n (lv' := [(2, .int 0), (1, .int 0), (0, .ref (ad 3))]) E.hx E.hb dX5_count_3 rfl hl (by decide) rfl (fun ls hl => ?_)
  obtain ⟨q_8, e_9, h⟩ := obind h
  refine w_X5_count_L4 E K0 P FU e_9 (lv_sub hl [2, 1, 0] rfl) (fun {ls} hl => ?_)
  refine lv_iload_n E.hx E.hb dX5_count_56 rfl (lv_at hl 0 rfl) ?_
  exact W.iret E.hx E.hb E.hr (fun t ht _ => ⟨_, rfl, (Option.some.inj h), ht⟩) (fun q hq => nomatch hq) dX5_count_57 E.hk
theorem c_X5_count (l : Launch) {H : Heap} {D : va_G} {cyI : ClassId} {ad : Nat → Nat} {I : Nat → Int32} {A : Nat → Nat → Int32} (P : va_P D classes (cw cyI ad I A) H)  {out : Int32} (h : B_X5_count I A  = some out) : MRO l yX5_count cX5_count 4 (some .int) 4 [.ref (ad 3)] H (KC D cyI ad) out := by
  refine Mof (own := RX5) (by decide +kernel) rfl rfl ?_
  intro p e s m args below meth c ls E hH K0 hl
  subst hH
  exact w_X5_count E K0 P h hl
theorem ds_X5_count : Dsc yX5_count 0 := ⟨by decide +kernel, by decide +kernel, by decide +kernel⟩
end
section
variable {p : Program} {l : Launch} {e : Env} {R : Room} {s : State} {m : MethodId} {args : Array Value} {below : List Frame} {meth : Method} {c : Code} {H : Heap} {locs : List Loc} {cells slots : Nat} {Q : State → Prop} {cc : ByteArray} {nL pc : Nat} {ret : Option FieldType} {ls : Array Slot} {rest : List Value} {D : va_G} {cyI : ClassId} {ad : Nat → Nat} {I : Nat → Int32} {A : Nat → Nat → Int32}
theorem iv_X5_47 (E : EX p s m args meth c cc nL RX5 ret) (K0 : KC D cyI ad s s.heap) (S : va_S (InN 44 ad) s.heap H locs) {a0 a1 : Int32} (hR : RmOk R cells slots 0 2) (hls : ls.size = nL) (hro : (rest.map fun v => v.category).sum ≤ 8) (hdg : decode cc pc = .ok (.invokestatic 47, 3)) (kk : W p l e R s m args below meth c H locs cells slots Q (F0 m (pc + 3) ls (.int (B_X6_numberOf a0 a1) :: rest))) : W p l e R s m args below meth c H locs cells slots Q (F0 m pc ls (.int a1 :: .int a0 :: rest)) :=
  cn_ro E (c_X6_numberOf l (H := H) (D := D) (cyI := cyI) (ad := ad) a0 a1 ) (K0.nm _ (List.mem_of_getElem? (i := 7) rfl)) kST_X6_numberOf kIN_X6 kCO_X6_numberOf ds_X6_numberOf rfl KC_blind (fun U _ hW => (K0.at S).warm hW) hR hls rfl hro hdg kk
end
section
variable {p : Program} {l : Launch} {e : Env} {s : State} {m : MethodId} {args : Array Value} {below : List Frame} {meth : Method} {c : Code} {D : va_G} {cyI : ClassId} {ad : Nat → Nat} {I : Nat → Int32} {A : Nat → Nat → Int32}
def B_X5_find_L20 (I : Nat → Int32) (A : Nat → Nat → Int32) (x1 x3 : Int32) : Nat → Int32 → Int32 → Option ((Int32) ⊕ Int32)
  | 0 => fun _ _ => none
  | n + 1 => fun x2 x4 => if ((I 5) - 1) ≤ x4 then some (.inl x2) else ((B_X5_at I A x4 x3).bind fun r_3 => if r_3 = 0 then (B_X5_find_L20 I A x1 x3 n) x2 (x4 + 1) else (if x2 = x1 then some (.inr ((B_X6_numberOf x4 x3))) else (B_X5_find_L20 I A x1 x3 n) (x2 + 1) (x4 + 1)))
theorem B_X5_find_L20_s (I : Nat → Int32) (A : Nat → Nat → Int32) (x1 x3 x2 x4 : Int32) (n : Nat) : B_X5_find_L20 I A x1 x3 (n + 1) x2 x4 = if ((I 5) - 1) ≤ x4 then some (.inl x2) else ((B_X5_at I A x4 x3).bind fun r_3 => if r_3 = 0 then (B_X5_find_L20 I A x1 x3 n) x2 (x4 + 1) else (if x2 = x1 then some (.inr ((B_X6_numberOf x4 x3))) else (B_X5_find_L20 I A x1 x3 n) (x2 + 1) (x4 + 1))) := rfl
set_option maxHeartbeats 4000000 in
set_option maxRecDepth 100000 in
theorem w_X5_find_L20 (E : EX p s m args meth c cX5_find 5 RX5 (some .int)) (K0 : KC D cyI ad s s.heap) (P : va_P D classes (cw cyI ad I A) s.heap) {x1 x3 : Int32} {out : Int32} : ∀ (n : Nat) {x2 x4 : Int32} {o : (Int32) ⊕ Int32} (h : B_X5_find_L20 I A x1 x3 n x2 x4 = some o) {ls : Array Slot} (hl : lv_has ls 5 [(0, .ref (ad 3)), (1, .int x1), (2, .int x2), (3, .int x3), (4, .int x4)]) (kx : ∀ {q : Int32}, o = .inl q → ∀ {ls : Array Slot}, lv_has ls 5 [(0, .ref (ad 3)), (1, .int x1), (2, .int q), (3, .int x3)] → W p l e (rmL 4) s m args below meth c s.heap [] 0 0 (MQ below (vp_Si (fun z => z = out)) args s 0 0 (fun _ => False)) (F0 m 65 ls [])) (kr : ∀ r : Int32, o = .inr r → r = out), W p l e (rmL 4) s m args below meth c s.heap [] 0 0 (MQ below (vp_Si (fun z => z = out)) args s 0 0 (fun _ => False)) (F0 m 20 ls []) := by
  intro n
  induction n with
  | zero => intro x2 x4 o h ls hl kx kr; exact nomatch (show none = some o from h)
  | succ n ih =>
    intro x2 x4 o h ls hl kx kr
    rw [B_X5_find_L20_s] at h
    refine lv_iload E.hx E.hb dX5_find_20 (lv_at hl 4 rfl) ?_
    refine lv_aload_n E.hx E.hb dX5_find_22 rfl (lv_at hl 0 rfl) ?_
    refine gf_X5_9 E K0 P dX5_find_23 ?_
    refine gf_X5_44 E K0 P dX5_find_26 ?_
    refine lv_iconst (v := 1) E.hx E.hb dX5_find_29 (by decide) ?_
    refine lv_isub E.hx E.hb dX5_find_30 ?_
    refine lv_icmp_ge (tgt := 65) E.hx E.hb dX5_find_31 (by decide) (fun c_2 => ?_) (fun c_2 => ?_)
    · rw [if_pos c_2] at h
      cases h
      exact kx rfl  (lv_sub hl [0, 1, 2, 3] rfl)
    · rw [if_neg c_2] at h
      refine lv_aload_n E.hx E.hb dX5_find_34 rfl (lv_at hl 0 rfl) ?_
      refine lv_iload E.hx E.hb dX5_find_35 (lv_at hl 4 rfl) ?_
      refine lv_iload_n E.hx E.hb dX5_find_37 rfl (lv_at hl 3 rfl) ?_
      obtain ⟨r_3, e_4, h⟩ := obind h
      refine iv_X5_25 E K0 P va_S.rf e_4 (by decide) hl.1 (Nat.le_of_ble_eq_true rfl) dX5_find_38 ?_
      refine lv_if_eq (tgt := 59) E.hx E.hb dX5_find_41 (by decide) (fun c_5 => ?_) (fun c_5 => ?_)
      · rw [if_pos c_5] at h
        refine lv_iinc (v := x4 + 1) (lv' := [(4, .int (x4 + 1)), (0, .ref (ad 3)), (1, .int x1), (2, .int x2), (3, .int x3)]) E.hx E.hb dX5_find_59 hl (k := 4) rfl rfl (by decide) rfl (fun ls hl => ?_)
        refine lv_goto (tgt := 20) E.hx E.hb dX5_find_62 (by decide) ?_
        exact ih  h (lv_sub hl [1, 2, 3, 4, 0] rfl) kx kr
      · rw [if_neg c_5] at h
        refine lv_iload_n E.hx E.hb dX5_find_44 rfl (lv_at hl 2 rfl) ?_
        refine lv_iload_n E.hx E.hb dX5_find_45 rfl (lv_at hl 1 rfl) ?_
        refine lv_icmp_ne (tgt := 56) E.hx E.hb dX5_find_46 (by decide) (fun c_6 => ?_) (fun c_6 => ?_)
        · rw [if_neg c_6] at h
          refine lv_iinc (v := x2 + 1) (lv' := [(2, .int (x2 + 1)), (0, .ref (ad 3)), (1, .int x1), (3, .int x3), (4, .int x4)]) E.hx E.hb dX5_find_56 hl (k := 2) rfl rfl (by decide) rfl (fun ls hl => ?_)
          refine lv_iinc (v := x4 + 1) (lv' := [(4, .int (x4 + 1)), (2, .int (x2 + 1)), (0, .ref (ad 3)), (1, .int x1), (3, .int x3)]) E.hx E.hb dX5_find_59 hl (k := 4) rfl rfl (by decide) rfl (fun ls hl => ?_)
          refine lv_goto (tgt := 20) E.hx E.hb dX5_find_62 (by decide) ?_
          exact ih  h (lv_sub hl [2, 3, 1, 4, 0] rfl) kx kr
        · rw [if_pos c_6] at h
          refine lv_iload E.hx E.hb dX5_find_49 (lv_at hl 4 rfl) ?_
          refine lv_iload_n E.hx E.hb dX5_find_51 rfl (lv_at hl 3 rfl) ?_
          refine iv_X5_47 E K0 va_S.rf (by decide) hl.1 (Nat.le_of_ble_eq_true rfl) dX5_find_52 ?_
          exact W.iret E.hx E.hb E.hr (fun t ht _ => ⟨_, rfl, (kr _ (Option.some.inj h).symm), ht⟩) (fun q hq => nomatch hq) dX5_find_55 E.hk
def B_X5_find_L4 (I : Nat → Int32) (A : Nat → Nat → Int32) (x1 : Int32) : Nat → Int32 → Int32 → Option ((Unit) ⊕ Int32)
  | 0 => fun _ _ => none
  | n + 1 => fun x2 x3 => if ((I 6) - 1) ≤ x3 then some (.inl ()) else ((B_X5_find_L20 I A x1 x3 FU x2 0).bind fun q_7 => match q_7 with | .inr r => some (.inr r) | .inl q_7v => (B_X5_find_L4 I A x1 n) q_7v (x3 + 1))
theorem B_X5_find_L4_s (I : Nat → Int32) (A : Nat → Nat → Int32) (x1 x2 x3 : Int32) (n : Nat) : B_X5_find_L4 I A x1 (n + 1) x2 x3 = if ((I 6) - 1) ≤ x3 then some (.inl ()) else ((B_X5_find_L20 I A x1 x3 FU x2 0).bind fun q_7 => match q_7 with | .inr r => some (.inr r) | .inl q_7v => (B_X5_find_L4 I A x1 n) q_7v (x3 + 1)) := rfl
set_option maxHeartbeats 4000000 in
set_option maxRecDepth 100000 in
theorem w_X5_find_L4 (E : EX p s m args meth c cX5_find 5 RX5 (some .int)) (K0 : KC D cyI ad s s.heap) (P : va_P D classes (cw cyI ad I A) s.heap) {x1 : Int32} {out : Int32} : ∀ (n : Nat) {x2 x3 : Int32} {o : (Unit) ⊕ Int32} (h : B_X5_find_L4 I A x1 n x2 x3 = some o) {ls : Array Slot} (hl : lv_has ls 5 [(0, .ref (ad 3)), (1, .int x1), (2, .int x2), (3, .int x3)]) (kx : ∀ {q : Unit}, o = .inl q → ∀ {ls : Array Slot}, lv_has ls 5 [] → W p l e (rmL 4) s m args below meth c s.heap [] 0 0 (MQ below (vp_Si (fun z => z = out)) args s 0 0 (fun _ => False)) (F0 m 71 ls [])) (kr : ∀ r : Int32, o = .inr r → r = out), W p l e (rmL 4) s m args below meth c s.heap [] 0 0 (MQ below (vp_Si (fun z => z = out)) args s 0 0 (fun _ => False)) (F0 m 4 ls []) := by
  intro n
  induction n with
  | zero => intro x2 x3 o h ls hl kx kr; exact nomatch (show none = some o from h)
  | succ n ih =>
    intro x2 x3 o h ls hl kx kr
    rw [B_X5_find_L4_s] at h
    refine lv_iload_n E.hx E.hb dX5_find_4 rfl (lv_at hl 3 rfl) ?_
    refine lv_aload_n E.hx E.hb dX5_find_5 rfl (lv_at hl 0 rfl) ?_
    refine gf_X5_9 E K0 P dX5_find_6 ?_
    refine gf_X5_40 E K0 P dX5_find_9 ?_
    refine lv_iconst (v := 1) E.hx E.hb dX5_find_12 (by decide) ?_
    refine lv_isub E.hx E.hb dX5_find_13 ?_
    refine lv_icmp_ge (tgt := 71) E.hx E.hb dX5_find_14 (by decide) (fun c_1 => ?_) (fun c_1 => ?_)
    · rw [if_pos c_1] at h
      cases h
      exact kx rfl  (lv_sub hl [] rfl)
    · rw [if_neg c_1] at h
      refine lv_iconst (v := 0) E.hx E.hb dX5_find_17 (by decide) ?_
      refine lv_istore (lv' := [(4, .int 0), (0, .ref (ad 3)), (1, .int x1), (2, .int x2), (3, .int x3)]) E.hx E.hb dX5_find_18 hl (by decide) rfl (fun ls hl => ?_)
      obtain ⟨q_7, e_8, h⟩ := obind h
      refine w_X5_find_L20 E K0 P FU e_8 (lv_sub hl [1, 2, 3, 4, 0] rfl) (fun {q_7v} hq {ls} hl => ?_) (fun r hr => by subst hr; exact kr r (Option.some.inj h).symm)
      subst hq
      dsimp only at h
      refine lv_iinc (v := x3 + 1) (lv' := [(3, .int (x3 + 1)), (0, .ref (ad 3)), (1, .int x1), (2, .int q_7v)]) E.hx E.hb dX5_find_65 hl (k := 3) rfl rfl (by decide) rfl (fun ls hl => ?_)
      refine lv_goto (tgt := 4) E.hx E.hb dX5_find_68 (by decide) ?_
      exact ih  h (lv_sub hl [1, 2, 3, 0] rfl) kx kr
def B_X5_find (I : Nat → Int32) (A : Nat → Nat → Int32) (x1 : Int32) : Option (Int32) := (B_X5_find_L4 I A x1 FU 0 0).bind fun q_9 => match q_9 with | .inr r => some r | .inl q_9v => some ((-1))
set_option maxHeartbeats 4000000 in
set_option maxRecDepth 100000 in
theorem w_X5_find (E : EX p s m args meth c cX5_find 5 RX5 (some .int)) (K0 : KC D cyI ad s s.heap) (P : va_P D classes (cw cyI ad I A) s.heap)  {x1 : Int32} {out : Int32} (h : B_X5_find I A x1 = some out) {ls : Array Slot} (hl : lv_has ls 5 [(0, .ref (ad 3)), (1, .int x1)]) : W p l e (rmL 4) s m args below meth c s.heap [] 0 0 (MQ below (vp_Si (fun z => z = out)) args s 0 0 (fun _ => False)) (F0 m 0 ls []) := by
  unfold B_X5_find at h
  refine lv_iconst (v := 0) E.hx E.hb dX5_find_0 (by decide) ?_
  refine lv_istore_n (lv' := [(2, .int 0), (0, .ref (ad 3)), (1, .int x1)]) E.hx E.hb dX5_find_1 rfl hl (by decide) rfl (fun ls hl => ?_)
  refine lv_iconst (v := 0) E.hx E.hb dX5_find_2 (by decide) ?_
  refine lv_istore_n (lv' := [(3, .int 0), (2, .int 0), (0, .ref (ad 3)), (1, .int x1)]) E.hx E.hb dX5_find_3 rfl hl (by decide) rfl (fun ls hl => ?_)
  obtain ⟨q_9, e_10, h⟩ := obind h
  refine w_X5_find_L4 E K0 P FU e_10 (lv_sub hl [2, 3, 1, 0] rfl) (fun {q_9v} hq {ls} hl => ?_) (fun r hr => by subst hr; exact Option.some.inj h)
  subst hq
  dsimp only at h
  refine lv_iconst (v := (-1)) E.hx E.hb dX5_find_71 (by decide) ?_
  exact W.iret E.hx E.hb E.hr (fun t ht _ => ⟨_, rfl, (Option.some.inj h), ht⟩) (fun q hq => nomatch hq) dX5_find_72 E.hk
theorem c_X5_find (l : Launch) {H : Heap} {D : va_G} {cyI : ClassId} {ad : Nat → Nat} {I : Nat → Int32} {A : Nat → Nat → Int32} (P : va_P D classes (cw cyI ad I A) H) (x1 : Int32) {out : Int32} (h : B_X5_find I A x1 = some out) : MRO l yX5_find cX5_find 5 (some .int) 4 [.ref (ad 3), .int x1] H (KC D cyI ad) out := by
  refine Mof (own := RX5) (by decide +kernel) rfl rfl ?_
  intro p e s m args below meth c ls E hH K0 hl
  subst hH
  exact w_X5_find E K0 P h hl
theorem ds_X5_find : Dsc yX5_find 1 := ⟨by decide +kernel, by decide +kernel, by decide +kernel⟩
end
section
variable {p : Program} {l : Launch} {e : Env} {R : Room} {s : State} {m : MethodId} {args : Array Value} {below : List Frame} {meth : Method} {c : Code} {H : Heap} {locs : List Loc} {cells slots : Nat} {Q : State → Prop} {cc : ByteArray} {nL pc : Nat} {ret : Option FieldType} {ls : Array Slot} {rest : List Value} {D : va_G} {cyI : ClassId} {ad : Nat → Nat} {I : Nat → Int32} {A : Nat → Nat → Int32}
theorem iv_X5_54 (E : EX p s m args meth c cc nL RX5 ret) (K0 : KC D cyI ad s s.heap) (P : va_P D classes (cw cyI ad I A) H) (S : va_S (InN 44 ad) s.heap H locs) {a0 a1 : Int32} (hR : RmOk R cells slots 1 3) (hls : ls.size = nL) (hro : (rest.map fun v => v.category).sum ≤ 8) (hdg : decode cc pc = .ok (.invokevirtual 54, 3)) (kk : W p l e R s m args below meth c H locs cells slots Q (F0 m (pc + 3) ls (.int (B_X1_pixelAt I A a0 a1) :: rest))) : W p l e R s m args below meth c H locs cells slots Q (F0 m pc ls (.int a1 :: .int a0 :: .ref (ad 2) :: rest)) :=
  cv_ro E (c_X1_pixelAt l P a0 a1 ) (gV kML_X5_54 kIM_X1_pixelAt kSE_X1_pixelAt kIN_X1 kCO_X1_pixelAt) rfl ds_X1_pixelAt rfl KC_blind (fun U _ hW => (K0.at S).warm hW) (va_recv K0.k P (show classes[1]? = some (RX1, TX1, 11) from rfl) cw_g2) hR hls rfl hro hdg kk
end
section
variable {p : Program} {l : Launch} {e : Env} {s : State} {m : MethodId} {args : Array Value} {below : List Frame} {meth : Method} {c : Code} {D : va_G} {cyI : ClassId} {ad : Nat → Nat} {I : Nat → Int32} {A : Nat → Nat → Int32}
def B_X5_touches (I : Nat → Int32) (A : Nat → Nat → Int32) (x1 x2 x3 : Int32) : Int32 := if (B_X1_pixelAt I A x1 x2) = x3 then 1 else (if (B_X1_pixelAt I A ((x1 + 1)) x2) = x3 then 1 else (if (B_X1_pixelAt I A x1 ((x2 + 1))) = x3 then 1 else (if (B_X1_pixelAt I A ((x1 + 1)) ((x2 + 1))) = x3 then 1 else 0)))
set_option maxHeartbeats 4000000 in
set_option maxRecDepth 100000 in
theorem w_X5_touches (E : EX p s m args meth c cX5_touches 4 RX5 (some .boolean)) (K0 : KC D cyI ad s s.heap) (P : va_P D classes (cw cyI ad I A) s.heap)  {x1 x2 x3 : Int32} {out : Int32} (h : B_X5_touches I A x1 x2 x3 = out) {ls : Array Slot} (hl : lv_has ls 4 [(0, .ref (ad 3)), (1, .int x1), (2, .int x2), (3, .int x3)]) : W p l e (rmL 2) s m args below meth c s.heap [] 0 0 (MQ below (vp_Si (fun z => z = out)) args s 0 0 (fun _ => False)) (F0 m 0 ls []) := by
  unfold B_X5_touches at h
  refine lv_aload_n E.hx E.hb dX5_touches_0 rfl (lv_at hl 0 rfl) ?_
  refine gf_X5_9 E K0 P dX5_touches_1 ?_
  refine lv_iload_n E.hx E.hb dX5_touches_4 rfl (lv_at hl 1 rfl) ?_
  refine lv_iload_n E.hx E.hb dX5_touches_5 rfl (lv_at hl 2 rfl) ?_
  refine iv_X5_54 E K0 P va_S.rf (by decide) hl.1 (Nat.le_of_ble_eq_true rfl) dX5_touches_6 ?_
  refine lv_iload_n E.hx E.hb dX5_touches_9 rfl (lv_at hl 3 rfl) ?_
  refine lv_icmp_eq (tgt := 60) E.hx E.hb dX5_touches_10 (by decide) (fun c_1 => ?_) (fun c_1 => ?_)
  · rw [if_pos c_1] at h
    refine lv_iconst (v := 1) E.hx E.hb dX5_touches_60 (by decide) ?_
    refine lv_goto (tgt := 65) E.hx E.hb dX5_touches_61 (by decide) ?_
    exact W.zret E.hx E.hb E.hr rfl (fun t ht _ => ⟨_, rfl, h, ht⟩) (fun q hq => nomatch hq) dX5_touches_65 E.hk
  · rw [if_neg c_1] at h
    refine lv_aload_n E.hx E.hb dX5_touches_13 rfl (lv_at hl 0 rfl) ?_
    refine gf_X5_9 E K0 P dX5_touches_14 ?_
    refine lv_iload_n E.hx E.hb dX5_touches_17 rfl (lv_at hl 1 rfl) ?_
    refine lv_iconst (v := 1) E.hx E.hb dX5_touches_18 (by decide) ?_
    refine lv_iadd E.hx E.hb dX5_touches_19 ?_
    refine lv_iload_n E.hx E.hb dX5_touches_20 rfl (lv_at hl 2 rfl) ?_
    refine iv_X5_54 E K0 P va_S.rf (by decide) hl.1 (Nat.le_of_ble_eq_true rfl) dX5_touches_21 ?_
    refine lv_iload_n E.hx E.hb dX5_touches_24 rfl (lv_at hl 3 rfl) ?_
    refine lv_icmp_eq (tgt := 60) E.hx E.hb dX5_touches_25 (by decide) (fun c_2 => ?_) (fun c_2 => ?_)
    · rw [if_pos c_2] at h
      refine lv_iconst (v := 1) E.hx E.hb dX5_touches_60 (by decide) ?_
      refine lv_goto (tgt := 65) E.hx E.hb dX5_touches_61 (by decide) ?_
      exact W.zret E.hx E.hb E.hr rfl (fun t ht _ => ⟨_, rfl, h, ht⟩) (fun q hq => nomatch hq) dX5_touches_65 E.hk
    · rw [if_neg c_2] at h
      refine lv_aload_n E.hx E.hb dX5_touches_28 rfl (lv_at hl 0 rfl) ?_
      refine gf_X5_9 E K0 P dX5_touches_29 ?_
      refine lv_iload_n E.hx E.hb dX5_touches_32 rfl (lv_at hl 1 rfl) ?_
      refine lv_iload_n E.hx E.hb dX5_touches_33 rfl (lv_at hl 2 rfl) ?_
      refine lv_iconst (v := 1) E.hx E.hb dX5_touches_34 (by decide) ?_
      refine lv_iadd E.hx E.hb dX5_touches_35 ?_
      refine iv_X5_54 E K0 P va_S.rf (by decide) hl.1 (Nat.le_of_ble_eq_true rfl) dX5_touches_36 ?_
      refine lv_iload_n E.hx E.hb dX5_touches_39 rfl (lv_at hl 3 rfl) ?_
      refine lv_icmp_eq (tgt := 60) E.hx E.hb dX5_touches_40 (by decide) (fun c_3 => ?_) (fun c_3 => ?_)
      · rw [if_pos c_3] at h
        refine lv_iconst (v := 1) E.hx E.hb dX5_touches_60 (by decide) ?_
        refine lv_goto (tgt := 65) E.hx E.hb dX5_touches_61 (by decide) ?_
        exact W.zret E.hx E.hb E.hr rfl (fun t ht _ => ⟨_, rfl, h, ht⟩) (fun q hq => nomatch hq) dX5_touches_65 E.hk
      · rw [if_neg c_3] at h
        refine lv_aload_n E.hx E.hb dX5_touches_43 rfl (lv_at hl 0 rfl) ?_
        refine gf_X5_9 E K0 P dX5_touches_44 ?_
        refine lv_iload_n E.hx E.hb dX5_touches_47 rfl (lv_at hl 1 rfl) ?_
        refine lv_iconst (v := 1) E.hx E.hb dX5_touches_48 (by decide) ?_
        refine lv_iadd E.hx E.hb dX5_touches_49 ?_
        refine lv_iload_n E.hx E.hb dX5_touches_50 rfl (lv_at hl 2 rfl) ?_
        refine lv_iconst (v := 1) E.hx E.hb dX5_touches_51 (by decide) ?_
        refine lv_iadd E.hx E.hb dX5_touches_52 ?_
        refine iv_X5_54 E K0 P va_S.rf (by decide) hl.1 (Nat.le_of_ble_eq_true rfl) dX5_touches_53 ?_
        refine lv_iload_n E.hx E.hb dX5_touches_56 rfl (lv_at hl 3 rfl) ?_
        refine lv_icmp_ne (tgt := 64) E.hx E.hb dX5_touches_57 (by decide) (fun c_4 => ?_) (fun c_4 => ?_)
        · rw [if_neg c_4] at h
          refine lv_iconst (v := 0) E.hx E.hb dX5_touches_64 (by decide) ?_
          exact W.zret E.hx E.hb E.hr rfl (fun t ht _ => ⟨_, rfl, h, ht⟩) (fun q hq => nomatch hq) dX5_touches_65 E.hk
        · rw [if_pos c_4] at h
          refine lv_iconst (v := 1) E.hx E.hb dX5_touches_60 (by decide) ?_
          refine lv_goto (tgt := 65) E.hx E.hb dX5_touches_61 (by decide) ?_
          exact W.zret E.hx E.hb E.hr rfl (fun t ht _ => ⟨_, rfl, h, ht⟩) (fun q hq => nomatch hq) dX5_touches_65 E.hk
theorem c_X5_touches (l : Launch) {H : Heap} {D : va_G} {cyI : ClassId} {ad : Nat → Nat} {I : Nat → Int32} {A : Nat → Nat → Int32} (P : va_P D classes (cw cyI ad I A) H) (x1 x2 x3 : Int32) : MRO l yX5_touches cX5_touches 4 (some .boolean) 2 [.ref (ad 3), .int x1, .int x2, .int x3] H (KC D cyI ad) (B_X5_touches I A x1 x2 x3) := by
  refine Mof (own := RX5) (by decide +kernel) rfl rfl ?_
  intro p e s m args below meth c ls E hH K0 hl
  subst hH
  exact w_X5_touches E K0 P rfl hl
theorem ds_X5_touches : Dsc yX5_touches 3 := ⟨by decide +kernel, by decide +kernel, by decide +kernel⟩
end
section
variable {p : Program} {l : Launch} {e : Env} {R : Room} {s : State} {m : MethodId} {args : Array Value} {below : List Frame} {meth : Method} {c : Code} {H : Heap} {locs : List Loc} {cells slots : Nat} {Q : State → Prop} {cc : ByteArray} {nL pc : Nat} {ret : Option FieldType} {ls : Array Slot} {rest : List Value} {D : va_G} {cyI : ClassId} {ad : Nat → Nat} {I : Nat → Int32} {A : Nat → Nat → Int32}
theorem iv_X5_50 (E : EX p s m args meth c cc nL RX5 ret) (K0 : KC D cyI ad s s.heap) (P : va_P D classes (cw cyI ad I A) H) (S : va_S (InN 44 ad) s.heap H locs) {a0 a1 a2 : Int32} (hR : RmOk R cells slots 2 4) (hls : ls.size = nL) (hro : (rest.map fun v => v.category).sum ≤ 8) (hdg : decode cc pc = .ok (.invokevirtual 50, 3)) (kk : W p l e R s m args below meth c H locs cells slots Q (F0 m (pc + 3) ls (.int (B_X5_touches I A a0 a1 a2) :: rest))) : W p l e R s m args below meth c H locs cells slots Q (F0 m pc ls (.int a2 :: .int a1 :: .int a0 :: .ref (ad 3) :: rest)) :=
  cv_ro E (c_X5_touches l P a0 a1 a2 ) (gV kML_X5_50 kIM_X5_touches kSE_X5_touches kIN_X5 kCO_X5_touches) rfl ds_X5_touches rfl KC_blind (fun U _ hW => (K0.at S).warm hW) (va_recv K0.k P (show classes[5]? = some (RX5, TX5, 1) from rfl) cw_g3) hR hls rfl hro hdg kk
end
section
variable {p : Program} {l : Launch} {e : Env} {s : State} {m : MethodId} {args : Array Value} {below : List Frame} {meth : Method} {c : Code} {D : va_G} {cyI : ClassId} {ad : Nat → Nat} {I : Nat → Int32} {A : Nat → Nat → Int32}
def B_X5_isGood_L17 (I : Nat → Int32) (A : Nat → Nat → Int32) (x1 x2 : Int32) : Nat → Int32 → Option ((Unit) ⊕ Int32)
  | 0 => fun _ => none
  | n + 1 => fun x3 => if ((I 5) - 1) ≤ x3 then some (.inl ()) else (if (B_X5_touches I A x3 x2 x1) = 0 then (B_X5_isGood_L17 I A x1 x2 n) (x3 + 1) else ((B_X5_at I A x3 x2).bind fun r_4 => if r_4 = 0 then (B_X5_isGood_L17 I A x1 x2 n) (x3 + 1) else some (.inr 0)))
theorem B_X5_isGood_L17_s (I : Nat → Int32) (A : Nat → Nat → Int32) (x1 x2 x3 : Int32) (n : Nat) : B_X5_isGood_L17 I A x1 x2 (n + 1) x3 = if ((I 5) - 1) ≤ x3 then some (.inl ()) else (if (B_X5_touches I A x3 x2 x1) = 0 then (B_X5_isGood_L17 I A x1 x2 n) (x3 + 1) else ((B_X5_at I A x3 x2).bind fun r_4 => if r_4 = 0 then (B_X5_isGood_L17 I A x1 x2 n) (x3 + 1) else some (.inr 0))) := rfl
set_option maxHeartbeats 4000000 in
set_option maxRecDepth 100000 in
theorem w_X5_isGood_L17 (E : EX p s m args meth c cX5_isGood 4 RX5 (some .boolean)) (K0 : KC D cyI ad s s.heap) (P : va_P D classes (cw cyI ad I A) s.heap) {x1 x2 : Int32} {out : Int32} : ∀ (n : Nat) {x3 : Int32} {o : (Unit) ⊕ Int32} (h : B_X5_isGood_L17 I A x1 x2 n x3 = some o) {ls : Array Slot} (hl : lv_has ls 4 [(0, .ref (ad 3)), (1, .int x1), (2, .int x2), (3, .int x3)]) (kx : ∀ {q : Unit}, o = .inl q → ∀ {ls : Array Slot}, lv_has ls 4 [(0, .ref (ad 3)), (1, .int x1), (2, .int x2)] → W p l e (rmL 4) s m args below meth c s.heap [] 0 0 (MQ below (vp_Si (fun z => z = out)) args s 0 0 (fun _ => False)) (F0 m 57 ls [])) (kr : ∀ r : Int32, o = .inr r → r = out), W p l e (rmL 4) s m args below meth c s.heap [] 0 0 (MQ below (vp_Si (fun z => z = out)) args s 0 0 (fun _ => False)) (F0 m 17 ls []) := by
  intro n
  induction n with
  | zero => intro x3 o h ls hl kx kr; exact nomatch (show none = some o from h)
  | succ n ih =>
    intro x3 o h ls hl kx kr
    rw [B_X5_isGood_L17_s] at h
    refine lv_iload_n E.hx E.hb dX5_isGood_17 rfl (lv_at hl 3 rfl) ?_
    refine lv_aload_n E.hx E.hb dX5_isGood_18 rfl (lv_at hl 0 rfl) ?_
    refine gf_X5_9 E K0 P dX5_isGood_19 ?_
    refine gf_X5_44 E K0 P dX5_isGood_22 ?_
    refine lv_iconst (v := 1) E.hx E.hb dX5_isGood_25 (by decide) ?_
    refine lv_isub E.hx E.hb dX5_isGood_26 ?_
    refine lv_icmp_ge (tgt := 57) E.hx E.hb dX5_isGood_27 (by decide) (fun c_2 => ?_) (fun c_2 => ?_)
    · rw [if_pos c_2] at h
      cases h
      exact kx rfl  (lv_sub hl [0, 1, 2] rfl)
    · rw [if_neg c_2] at h
      refine lv_aload_n E.hx E.hb dX5_isGood_30 rfl (lv_at hl 0 rfl) ?_
      refine lv_iload_n E.hx E.hb dX5_isGood_31 rfl (lv_at hl 3 rfl) ?_
      refine lv_iload_n E.hx E.hb dX5_isGood_32 rfl (lv_at hl 2 rfl) ?_
      refine lv_iload_n E.hx E.hb dX5_isGood_33 rfl (lv_at hl 1 rfl) ?_
      refine iv_X5_50 E K0 P va_S.rf (by decide) hl.1 (Nat.le_of_ble_eq_true rfl) dX5_isGood_34 ?_
      refine lv_if_eq (tgt := 51) E.hx E.hb dX5_isGood_37 (by decide) (fun c_3 => ?_) (fun c_3 => ?_)
      · rw [if_pos c_3] at h
        refine lv_iinc (v := x3 + 1) (lv' := [(3, .int (x3 + 1)), (0, .ref (ad 3)), (1, .int x1), (2, .int x2)]) E.hx E.hb dX5_isGood_51 hl (k := 3) rfl rfl (by decide) rfl (fun ls hl => ?_)
        refine lv_goto (tgt := 17) E.hx E.hb dX5_isGood_54 (by decide) ?_
        exact ih  h (lv_sub hl [1, 2, 3, 0] rfl) kx kr
      · rw [if_neg c_3] at h
        refine lv_aload_n E.hx E.hb dX5_isGood_40 rfl (lv_at hl 0 rfl) ?_
        refine lv_iload_n E.hx E.hb dX5_isGood_41 rfl (lv_at hl 3 rfl) ?_
        refine lv_iload_n E.hx E.hb dX5_isGood_42 rfl (lv_at hl 2 rfl) ?_
        obtain ⟨r_4, e_5, h⟩ := obind h
        refine iv_X5_25 E K0 P va_S.rf e_5 (by decide) hl.1 (Nat.le_of_ble_eq_true rfl) dX5_isGood_43 ?_
        refine lv_if_eq (tgt := 51) E.hx E.hb dX5_isGood_46 (by decide) (fun c_6 => ?_) (fun c_6 => ?_)
        · rw [if_pos c_6] at h
          refine lv_iinc (v := x3 + 1) (lv' := [(3, .int (x3 + 1)), (0, .ref (ad 3)), (1, .int x1), (2, .int x2)]) E.hx E.hb dX5_isGood_51 hl (k := 3) rfl rfl (by decide) rfl (fun ls hl => ?_)
          refine lv_goto (tgt := 17) E.hx E.hb dX5_isGood_54 (by decide) ?_
          exact ih  h (lv_sub hl [1, 2, 3, 0] rfl) kx kr
        · rw [if_neg c_6] at h
          refine lv_iconst (v := 0) E.hx E.hb dX5_isGood_49 (by decide) ?_
          exact W.zret E.hx E.hb E.hr rfl (fun t ht _ => ⟨_, rfl, (kr _ (Option.some.inj h).symm), ht⟩) (fun q hq => nomatch hq) dX5_isGood_50 E.hk
def B_X5_isGood_L2 (I : Nat → Int32) (A : Nat → Nat → Int32) (x1 : Int32) : Nat → Int32 → Option ((Unit) ⊕ Int32)
  | 0 => fun _ => none
  | n + 1 => fun x2 => if ((I 6) - 1) ≤ x2 then some (.inl ()) else ((B_X5_isGood_L17 I A x1 x2 FU 0).bind fun q_7 => match q_7 with | .inr r => some (.inr r) | .inl q_7v => (B_X5_isGood_L2 I A x1 n) (x2 + 1))
theorem B_X5_isGood_L2_s (I : Nat → Int32) (A : Nat → Nat → Int32) (x1 x2 : Int32) (n : Nat) : B_X5_isGood_L2 I A x1 (n + 1) x2 = if ((I 6) - 1) ≤ x2 then some (.inl ()) else ((B_X5_isGood_L17 I A x1 x2 FU 0).bind fun q_7 => match q_7 with | .inr r => some (.inr r) | .inl q_7v => (B_X5_isGood_L2 I A x1 n) (x2 + 1)) := rfl
set_option maxHeartbeats 4000000 in
set_option maxRecDepth 100000 in
theorem w_X5_isGood_L2 (E : EX p s m args meth c cX5_isGood 4 RX5 (some .boolean)) (K0 : KC D cyI ad s s.heap) (P : va_P D classes (cw cyI ad I A) s.heap) {x1 : Int32} {out : Int32} : ∀ (n : Nat) {x2 : Int32} {o : (Unit) ⊕ Int32} (h : B_X5_isGood_L2 I A x1 n x2 = some o) {ls : Array Slot} (hl : lv_has ls 4 [(0, .ref (ad 3)), (1, .int x1), (2, .int x2)]) (kx : ∀ {q : Unit}, o = .inl q → ∀ {ls : Array Slot}, lv_has ls 4 [] → W p l e (rmL 4) s m args below meth c s.heap [] 0 0 (MQ below (vp_Si (fun z => z = out)) args s 0 0 (fun _ => False)) (F0 m 63 ls [])) (kr : ∀ r : Int32, o = .inr r → r = out), W p l e (rmL 4) s m args below meth c s.heap [] 0 0 (MQ below (vp_Si (fun z => z = out)) args s 0 0 (fun _ => False)) (F0 m 2 ls []) := by
  intro n
  induction n with
  | zero => intro x2 o h ls hl kx kr; exact nomatch (show none = some o from h)
  | succ n ih =>
    intro x2 o h ls hl kx kr
    rw [B_X5_isGood_L2_s] at h
    refine lv_iload_n E.hx E.hb dX5_isGood_2 rfl (lv_at hl 2 rfl) ?_
    refine lv_aload_n E.hx E.hb dX5_isGood_3 rfl (lv_at hl 0 rfl) ?_
    refine gf_X5_9 E K0 P dX5_isGood_4 ?_
    refine gf_X5_40 E K0 P dX5_isGood_7 ?_
    refine lv_iconst (v := 1) E.hx E.hb dX5_isGood_10 (by decide) ?_
    refine lv_isub E.hx E.hb dX5_isGood_11 ?_
    refine lv_icmp_ge (tgt := 63) E.hx E.hb dX5_isGood_12 (by decide) (fun c_1 => ?_) (fun c_1 => ?_)
    · rw [if_pos c_1] at h
      cases h
      exact kx rfl  (lv_sub hl [] rfl)
    · rw [if_neg c_1] at h
      refine lv_iconst (v := 0) E.hx E.hb dX5_isGood_15 (by decide) ?_
      refine lv_istore_n (lv' := [(3, .int 0), (0, .ref (ad 3)), (1, .int x1), (2, .int x2)]) E.hx E.hb dX5_isGood_16 rfl hl (by decide) rfl (fun ls hl => ?_)
      obtain ⟨q_7, e_8, h⟩ := obind h
      refine w_X5_isGood_L17 E K0 P FU e_8 (lv_sub hl [1, 2, 3, 0] rfl) (fun {q_7v} hq {ls} hl => ?_) (fun r hr => by subst hr; exact kr r (Option.some.inj h).symm)
      subst hq
      dsimp only at h
      refine lv_iinc (v := x2 + 1) (lv' := [(2, .int (x2 + 1)), (0, .ref (ad 3)), (1, .int x1)]) E.hx E.hb dX5_isGood_57 hl (k := 2) rfl rfl (by decide) rfl (fun ls hl => ?_)
      refine lv_goto (tgt := 2) E.hx E.hb dX5_isGood_60 (by decide) ?_
      exact ih  h (lv_sub hl [1, 2, 0] rfl) kx kr
def B_X5_isGood (I : Nat → Int32) (A : Nat → Nat → Int32) (x1 : Int32) : Option (Int32) := (B_X5_isGood_L2 I A x1 FU 0).bind fun q_9 => match q_9 with | .inr r => some r | .inl q_9v => some 1
set_option maxHeartbeats 4000000 in
set_option maxRecDepth 100000 in
theorem w_X5_isGood (E : EX p s m args meth c cX5_isGood 4 RX5 (some .boolean)) (K0 : KC D cyI ad s s.heap) (P : va_P D classes (cw cyI ad I A) s.heap)  {x1 : Int32} {out : Int32} (h : B_X5_isGood I A x1 = some out) {ls : Array Slot} (hl : lv_has ls 4 [(0, .ref (ad 3)), (1, .int x1)]) : W p l e (rmL 4) s m args below meth c s.heap [] 0 0 (MQ below (vp_Si (fun z => z = out)) args s 0 0 (fun _ => False)) (F0 m 0 ls []) := by
  unfold B_X5_isGood at h
  refine lv_iconst (v := 0) E.hx E.hb dX5_isGood_0 (by decide) ?_
  refine lv_istore_n (lv' := [(2, .int 0), (0, .ref (ad 3)), (1, .int x1)]) E.hx E.hb dX5_isGood_1 rfl hl (by decide) rfl (fun ls hl => ?_)
  obtain ⟨q_9, e_10, h⟩ := obind h
  refine w_X5_isGood_L2 E K0 P FU e_10 (lv_sub hl [1, 2, 0] rfl) (fun {q_9v} hq {ls} hl => ?_) (fun r hr => by subst hr; exact Option.some.inj h)
  subst hq
  dsimp only at h
  refine lv_iconst (v := 1) E.hx E.hb dX5_isGood_63 (by decide) ?_
  exact W.zret E.hx E.hb E.hr rfl (fun t ht _ => ⟨_, rfl, (Option.some.inj h), ht⟩) (fun q hq => nomatch hq) dX5_isGood_64 E.hk
theorem c_X5_isGood (l : Launch) {H : Heap} {D : va_G} {cyI : ClassId} {ad : Nat → Nat} {I : Nat → Int32} {A : Nat → Nat → Int32} (P : va_P D classes (cw cyI ad I A) H) (x1 : Int32) {out : Int32} (h : B_X5_isGood I A x1 = some out) : MRO l yX5_isGood cX5_isGood 4 (some .boolean) 4 [.ref (ad 3), .int x1] H (KC D cyI ad) out := by
  refine Mof (own := RX5) (by decide +kernel) rfl rfl ?_
  intro p e s m args below meth c ls E hH K0 hl
  subst hH
  exact w_X5_isGood E K0 P h hl
theorem ds_X5_isGood : Dsc yX5_isGood 1 := ⟨by decide +kernel, by decide +kernel, by decide +kernel⟩
end
end WALK
end
section
section WALK
section
variable {p : Program} {l : Launch} {e : Env} {R : Room} {s : State} {m : MethodId} {args : Array Value} {below : List Frame} {meth : Method} {c : Code} {H : Heap} {locs : List Loc} {cells slots : Nat} {Q : State → Prop} {cc : ByteArray} {nL pc : Nat} {ret : Option FieldType} {ls : Array Slot} {rest : List Value} {D : va_G} {cyI : ClassId} {ad : Nat → Nat} {I : Nat → Int32} {A : Nat → Nat → Int32}
theorem iv_X6_254 (E : EX p s m args meth c cc nL RX6 ret) (N : AdN 44 ad) (K0 : KC D cyI ad s s.heap) (P : va_P D classes (cw cyI ad I A) H) (S : va_S (InN 44 ad) s.heap H locs) {a0 a1 : Int32} {v : (Nat → Int32) × (Nat → Nat → Int32)} (hv : B_X1_begin I A a0 a1 = some v) (hR : RmOk R cells slots 1 3) (hls : ls.size = nL) (hro : (rest.map fun v => v.category).sum ≤ 8) (hdg : decode cc pc = .ok (.invokevirtual 254, 3)) (kk : ∀ (H1 : Heap) (locs1 : List Loc), va_P D classes (cw cyI ad v.1 v.2) H1 → va_S (InN 44 ad) s.heap H1 locs1 → W p l e R s m args below meth c H1 locs1 cells slots Q (F0 m (pc + 3) ls (rest))) : W p l e R s m args below meth c H locs cells slots Q (F0 m pc ls (.int a1 :: .int a0 :: .ref (ad 2) :: rest)) :=
  cv_rw E (c_X1_begin l N P a0 a1 hv) (gV kML_X6_254 kIM_X1_begin kSE_X1_begin kIN_X1 kCO_X1_begin) rfl ds_X1_begin rfl KC_blind (fun U _ hW => (K0.at S).warm hW) S (va_recv K0.k P (show classes[1]? = some (RX1, TX1, 11) from rfl) cw_g2) hR hls rfl hro hdg kk
end
section
variable {p : Program} {l : Launch} {e : Env} {s : State} {m : MethodId} {args : Array Value} {below : List Frame} {meth : Method} {c : Code} {D : va_G} {cyI : ClassId} {ad : Nat → Nat} {I : Nat → Int32} {A : Nat → Nat → Int32}
def B_X6_beginAnew (I : Nat → Int32) (A : Nat → Nat → Int32) (x1 x2 : Int32) : Option ((Nat → Int32) × (Nat → Nat → Int32)) := (B_X1_begin I A x1 x2).bind fun q_1 => some ((va_up ((va_up ((va_up ((va_up ((va_up ((va_up q_1.1 4 0)) 10 0)) 11 0)) 1 0)) 2 0)) 3 0), q_1.2)
set_option maxHeartbeats 4000000 in
set_option maxRecDepth 100000 in
theorem w_X6_beginAnew (E : EX p s m args meth c cX6_beginAnew 3 RX6 none) (K0 : KC D cyI ad s s.heap) (N : AdN 44 ad) {H : Heap} {locs : List Loc} (P : va_P D classes (cw cyI ad I A) H) (S : va_S (InN 44 ad) s.heap H locs)  {x1 x2 : Int32} {out : (Nat → Int32) × (Nat → Nat → Int32)} (h : B_X6_beginAnew I A x1 x2 = some out) {ls : Array Slot} (hl : lv_has ls 3 [(0, .ref (ad 0)), (1, .int x1), (2, .int x2)]) : W p l e (rmL 2) s m args below meth c H locs 0 0 (MQ below (Qrw (InN 44 ad) (none) (fun H1 => va_P D classes (cw cyI ad out.1 out.2) H1)) args s 0 0 (InN 44 ad)) (F0 m 0 ls []) := by
  unfold B_X6_beginAnew at h
  refine lv_aload_n E.hx E.hb dX6_beginAnew_0 rfl (lv_at hl 0 rfl) ?_
  refine gf_X6_21 E K0 P dX6_beginAnew_1 ?_
  refine lv_iload_n E.hx E.hb dX6_beginAnew_4 rfl (lv_at hl 1 rfl) ?_
  refine lv_iload_n E.hx E.hb dX6_beginAnew_5 rfl (lv_at hl 2 rfl) ?_
  obtain ⟨q_1, e_2, h⟩ := obind h
  refine iv_X6_254 E N K0 P S e_2 (by decide) hl.1 (Nat.le_of_ble_eq_true rfl) dX6_beginAnew_6 (fun H locs P S => ?_)
  refine lv_aload_n E.hx E.hb dX6_beginAnew_9 rfl (lv_at hl 0 rfl) ?_
  refine gf_X6_12 E K0 P dX6_beginAnew_10 ?_
  refine lv_iconst (v := 0) E.hx E.hb dX6_beginAnew_13 (by decide) ?_
  refine pf_X6_114 E N K0 P S dX6_beginAnew_14 (fun H locs P S => ?_)
  refine lv_aload_n E.hx E.hb dX6_beginAnew_17 rfl (lv_at hl 0 rfl) ?_
  refine gf_X6_37 E K0 P dX6_beginAnew_18 ?_
  refine lv_iconst (v := 0) E.hx E.hb dX6_beginAnew_21 (by decide) ?_
  refine pf_X6_145 E N K0 P S dX6_beginAnew_22 (fun H locs P S => ?_)
  refine lv_aload_n E.hx E.hb dX6_beginAnew_25 rfl (lv_at hl 0 rfl) ?_
  refine gf_X6_44 E K0 P dX6_beginAnew_26 ?_
  refine lv_iconst (v := 0) E.hx E.hb dX6_beginAnew_29 (by decide) ?_
  refine pf_X6_169 E N K0 P S dX6_beginAnew_30 (fun H locs P S => ?_)
  refine lv_aload_n E.hx E.hb dX6_beginAnew_33 rfl (lv_at hl 0 rfl) ?_
  refine lv_iconst (v := 0) E.hx E.hb dX6_beginAnew_34 (by decide) ?_
  refine pf_X6_140 E N K0 P S dX6_beginAnew_35 (fun H locs P S => ?_)
  refine lv_aload_n E.hx E.hb dX6_beginAnew_38 rfl (lv_at hl 0 rfl) ?_
  refine lv_iconst (v := 0) E.hx E.hb dX6_beginAnew_39 (by decide) ?_
  refine pf_X6_196 E N K0 P S dX6_beginAnew_40 (fun H locs P S => ?_)
  refine lv_aload_n E.hx E.hb dX6_beginAnew_43 rfl (lv_at hl 0 rfl) ?_
  refine lv_iconst (v := 0) E.hx E.hb dX6_beginAnew_44 (by decide) ?_
  refine pf_X6_155 E N K0 P S dX6_beginAnew_45 (fun H locs P S => ?_)
  cases h
  exact W.vret E.hx E.hb E.hr (fun t ht _ => ⟨rfl, by rw [ht]; exact P, S.F ht⟩) S.2.2 dX6_beginAnew_48 E.hk
theorem c_X6_beginAnew (l : Launch) {H : Heap} {D : va_G} {cyI : ClassId} {ad : Nat → Nat} {I : Nat → Int32} {A : Nat → Nat → Int32} (N : AdN 44 ad) (P : va_P D classes (cw cyI ad I A) H) (x1 x2 : Int32) {out : (Nat → Int32) × (Nat → Nat → Int32)} (h : B_X6_beginAnew I A x1 x2 = some out) : MRW l yX6_beginAnew cX6_beginAnew 3 none 2 [.ref (ad 0), .int x1, .int x2] H (KC D cyI ad) (InN 44 ad) none (fun H1 => va_P D classes (cw cyI ad out.1 out.2) H1) := by
  refine Mof (own := RX6) (by decide +kernel) rfl rfl ?_
  intro p e s m args below meth c ls E hH K0 hl
  subst hH
  exact w_X6_beginAnew E K0 N P va_S.rf h hl
theorem ds_X6_beginAnew : Dsc yX6_beginAnew 2 := ⟨by decide +kernel, by decide +kernel, by decide +kernel⟩
end
section
variable {p : Program} {l : Launch} {e : Env} {R : Room} {s : State} {m : MethodId} {args : Array Value} {below : List Frame} {meth : Method} {c : Code} {H : Heap} {locs : List Loc} {cells slots : Nat} {Q : State → Prop} {cc : ByteArray} {nL pc : Nat} {ret : Option FieldType} {ls : Array Slot} {rest : List Value} {D : va_G} {cyI : ClassId} {ad : Nat → Nat} {I : Nat → Int32} {A : Nat → Nat → Int32}
theorem iv_X6_52 (E : EX p s m args meth c cc nL RX6 ret) (N : AdN 44 ad) (K0 : KC D cyI ad s s.heap) (P : va_P D classes (cw cyI ad I A) H) (S : va_S (InN 44 ad) s.heap H locs) {a0 a1 : Int32} {v : (Nat → Int32) × (Nat → Nat → Int32)} (hv : B_X6_beginAnew I A a0 a1 = some v) (hR : RmOk R cells slots 2 3) (hls : ls.size = nL) (hro : (rest.map fun v => v.category).sum ≤ 8) (hdg : decode cc pc = .ok (.invokevirtual 52, 3)) (kk : ∀ (H1 : Heap) (locs1 : List Loc), va_P D classes (cw cyI ad v.1 v.2) H1 → va_S (InN 44 ad) s.heap H1 locs1 → W p l e R s m args below meth c H1 locs1 cells slots Q (F0 m (pc + 3) ls (rest))) : W p l e R s m args below meth c H locs cells slots Q (F0 m pc ls (.int a1 :: .int a0 :: .ref (ad 0) :: rest)) :=
  cv_rw E (c_X6_beginAnew l N P a0 a1 hv) (gV kML_X6_52 kIM_X6_beginAnew kSE_X6_beginAnew kIN_X6 kCO_X6_beginAnew) rfl ds_X6_beginAnew rfl KC_blind (fun U _ hW => (K0.at S).warm hW) S (va_recv K0.k P (show classes[6]? = some (RX6, TX6, 9) from rfl) cw_g0) hR hls rfl hro hdg kk
end
section
variable {p : Program} {l : Launch} {e : Env} {s : State} {m : MethodId} {args : Array Value} {below : List Frame} {meth : Method} {c : Code} {D : va_G} {cyI : ClassId} {ad : Nat → Nat} {I : Nat → Int32} {A : Nat → Nat → Int32}
def B_X6_grid (I : Nat → Int32) (A : Nat → Nat → Int32) (x1 x2 : Int32) : Option ((Nat → Int32) × (Nat → Nat → Int32)) := if (B_X6_isIn x1 2 12) = 0 then none else (if (B_X6_isIn x2 2 12) = 0 then none else ((B_X6_beginAnew I A x1 x2).bind fun q_3 => some (q_3.1, q_3.2)))
set_option maxHeartbeats 4000000 in
set_option maxRecDepth 100000 in
theorem w_X6_grid (E : EX p s m args meth c cX6_grid 3 RX6 none) (K0 : KC D cyI ad s s.heap) (N : AdN 44 ad) {H : Heap} {locs : List Loc} (P : va_P D classes (cw cyI ad I A) H) (S : va_S (InN 44 ad) s.heap H locs)  {x1 x2 : Int32} {out : (Nat → Int32) × (Nat → Nat → Int32)} (h : B_X6_grid I A x1 x2 = some out) {ls : Array Slot} (hl : lv_has ls 3 [(0, .ref (ad 0)), (1, .int x1), (2, .int x2)]) : W p l e (rmL 3) s m args below meth c H locs 0 0 (MQ below (Qrw (InN 44 ad) (none) (fun H1 => va_P D classes (cw cyI ad out.1 out.2) H1)) args s 0 0 (InN 44 ad)) (F0 m 0 ls []) := by
  unfold B_X6_grid at h
  refine lv_iload_n E.hx E.hb dX6_grid_0 rfl (lv_at hl 1 rfl) ?_
  refine lv_iconst (v := 2) E.hx E.hb dX6_grid_1 (by decide) ?_
  refine lv_bipush (v := 12) E.hx E.hb dX6_grid_2 (by decide) ?_
  refine iv_X6_56 E K0 S (by decide) hl.1 (Nat.le_of_ble_eq_true rfl) dX6_grid_4 ?_
  refine lv_if_eq (tgt := 20) E.hx E.hb dX6_grid_7 (by decide) (fun c_1 => ?_) (fun c_1 => ?_)
  · rw [if_pos c_1] at h
    exact nomatch h
  · rw [if_neg c_1] at h
    refine lv_iload_n E.hx E.hb dX6_grid_10 rfl (lv_at hl 2 rfl) ?_
    refine lv_iconst (v := 2) E.hx E.hb dX6_grid_11 (by decide) ?_
    refine lv_bipush (v := 12) E.hx E.hb dX6_grid_12 (by decide) ?_
    refine iv_X6_56 E K0 S (by decide) hl.1 (Nat.le_of_ble_eq_true rfl) dX6_grid_14 ?_
    refine lv_if_ne (tgt := 30) E.hx E.hb dX6_grid_17 (by decide) (fun c_2 => ?_) (fun c_2 => ?_)
    · rw [if_neg c_2] at h
      refine lv_aload_n E.hx E.hb dX6_grid_30 rfl (lv_at hl 0 rfl) ?_
      refine lv_iload_n E.hx E.hb dX6_grid_31 rfl (lv_at hl 1 rfl) ?_
      refine lv_iload_n E.hx E.hb dX6_grid_32 rfl (lv_at hl 2 rfl) ?_
      obtain ⟨q_3, e_4, h⟩ := obind h
      refine iv_X6_52 E N K0 P S e_4 (by decide) hl.1 (Nat.le_of_ble_eq_true rfl) dX6_grid_33 (fun H locs P S => ?_)
      cases h
      exact W.vret E.hx E.hb E.hr (fun t ht _ => ⟨rfl, by rw [ht]; exact P, S.F ht⟩) S.2.2 dX6_grid_36 E.hk
    · rw [if_pos c_2] at h
      exact nomatch h
theorem c_X6_grid (l : Launch) {H : Heap} {D : va_G} {cyI : ClassId} {ad : Nat → Nat} {I : Nat → Int32} {A : Nat → Nat → Int32} (N : AdN 44 ad) (P : va_P D classes (cw cyI ad I A) H) (x1 x2 : Int32) {out : (Nat → Int32) × (Nat → Nat → Int32)} (h : B_X6_grid I A x1 x2 = some out) : MRW l yX6_grid cX6_grid 3 none 3 [.ref (ad 0), .int x1, .int x2] H (KC D cyI ad) (InN 44 ad) none (fun H1 => va_P D classes (cw cyI ad out.1 out.2) H1) := by
  refine Mof (own := RX6) (by decide +kernel) rfl rfl ?_
  intro p e s m args below meth c ls E hH K0 hl
  subst hH
  exact w_X6_grid E K0 N P va_S.rf h hl
theorem ds_X6_grid : Dsc yX6_grid 2 := ⟨by decide +kernel, by decide +kernel, by decide +kernel⟩
end
section
variable {p : Program} {l : Launch} {e : Env} {s : State} {m : MethodId} {args : Array Value} {below : List Frame} {meth : Method} {c : Code} {D : va_G} {cyI : ClassId} {ad : Nat → Nat} {I : Nat → Int32} {A : Nat → Nat → Int32}
def B_X6_worked (I : Nat → Int32) (A : Nat → Nat → Int32) (x1 : Int32) : Option (Int32 × (Nat → Int32) × (Nat → Nat → Int32)) := some (x1, (va_up I 2 (((I 2) + x1))), A)
set_option maxHeartbeats 4000000 in
set_option maxRecDepth 100000 in
theorem w_X6_worked (E : EX p s m args meth c cX6_worked 2 RX6 (some .int)) (K0 : KC D cyI ad s s.heap) (N : AdN 44 ad) {H : Heap} {locs : List Loc} (P : va_P D classes (cw cyI ad I A) H) (S : va_S (InN 44 ad) s.heap H locs)  {x1 : Int32} {out : Int32 × (Nat → Int32) × (Nat → Nat → Int32)} (h : B_X6_worked I A x1 = some out) {ls : Array Slot} (hl : lv_has ls 2 [(0, .ref (ad 0)), (1, .int x1)]) : W p l e (rmL 0) s m args below meth c H locs 0 0 (MQ below (Qrw (InN 44 ad) (some (.int out.1)) (fun H1 => va_P D classes (cw cyI ad out.2.1 out.2.2) H1)) args s 0 0 (InN 44 ad)) (F0 m 0 ls []) := by
  unfold B_X6_worked at h
  refine lv_aload_n E.hx E.hb dX6_worked_0 rfl (lv_at hl 0 rfl) ?_
  refine lv_dup E.hx E.hb dX6_worked_1 rfl ?_
  refine gf_X6_196 E K0 P dX6_worked_2 ?_
  refine lv_iload_n E.hx E.hb dX6_worked_5 rfl (lv_at hl 1 rfl) ?_
  refine lv_iadd E.hx E.hb dX6_worked_6 ?_
  refine pf_X6_196 E N K0 P S dX6_worked_7 (fun H locs P S => ?_)
  refine lv_iload_n E.hx E.hb dX6_worked_10 rfl (lv_at hl 1 rfl) ?_
  cases h
  exact W.iret E.hx E.hb E.hr (fun t ht _ => ⟨rfl, by rw [ht]; exact P, S.F ht⟩) S.2.2 dX6_worked_11 E.hk
theorem c_X6_worked (l : Launch) {H : Heap} {D : va_G} {cyI : ClassId} {ad : Nat → Nat} {I : Nat → Int32} {A : Nat → Nat → Int32} (N : AdN 44 ad) (P : va_P D classes (cw cyI ad I A) H) (x1 : Int32) {out : Int32 × (Nat → Int32) × (Nat → Nat → Int32)} (h : B_X6_worked I A x1 = some out) : MRW l yX6_worked cX6_worked 2 (some .int) 0 [.ref (ad 0), .int x1] H (KC D cyI ad) (InN 44 ad) (some (.int out.1)) (fun H1 => va_P D classes (cw cyI ad out.2.1 out.2.2) H1) := by
  refine Mof (own := RX6) (by decide +kernel) rfl rfl ?_
  intro p e s m args below meth c ls E hH K0 hl
  subst hH
  exact w_X6_worked E K0 N P va_S.rf h hl
theorem ds_X6_worked : Dsc yX6_worked 1 := ⟨by decide +kernel, by decide +kernel, by decide +kernel⟩
end
section
variable {p : Program} {l : Launch} {e : Env} {R : Room} {s : State} {m : MethodId} {args : Array Value} {below : List Frame} {meth : Method} {c : Code} {H : Heap} {locs : List Loc} {cells slots : Nat} {Q : State → Prop} {cc : ByteArray} {nL pc : Nat} {ret : Option FieldType} {ls : Array Slot} {rest : List Value} {D : va_G} {cyI : ClassId} {ad : Nat → Nat} {I : Nat → Int32} {A : Nat → Nat → Int32}
theorem iv_X6_77 (E : EX p s m args meth c cc nL RX6 ret) (K0 : KC D cyI ad s s.heap) (P : va_P D classes (cw cyI ad I A) H) (S : va_S (InN 44 ad) s.heap H locs) {a0 a1 : Int32} (hR : RmOk R cells slots 0 3) (hls : ls.size = nL) (hro : (rest.map fun v => v.category).sum ≤ 8) (hdg : decode cc pc = .ok (.invokevirtual 77, 3)) (kk : W p l e R s m args below meth c H locs cells slots Q (F0 m (pc + 3) ls (.int (B_X1_has I A a0 a1) :: rest))) : W p l e R s m args below meth c H locs cells slots Q (F0 m pc ls (.int a1 :: .int a0 :: .ref (ad 2) :: rest)) :=
  cv_ro E (c_X1_has l P a0 a1 ) (gV kML_X6_77 kIM_X1_has kSE_X1_has kIN_X1 kCO_X1_has) rfl ds_X1_has rfl KC_blind (fun U _ hW => (K0.at S).warm hW) (va_recv K0.k P (show classes[1]? = some (RX1, TX1, 11) from rfl) cw_g2) hR hls rfl hro hdg kk
end
section
variable {p : Program} {l : Launch} {e : Env} {R : Room} {s : State} {m : MethodId} {args : Array Value} {below : List Frame} {meth : Method} {c : Code} {H : Heap} {locs : List Loc} {cells slots : Nat} {Q : State → Prop} {cc : ByteArray} {nL pc : Nat} {ret : Option FieldType} {ls : Array Slot} {rest : List Value} {D : va_G} {cyI : ClassId} {ad : Nat → Nat} {I : Nat → Int32} {A : Nat → Nat → Int32}
theorem iv_X6_86 (E : EX p s m args meth c cc nL RX6 ret) (K0 : KC D cyI ad s s.heap) (S : va_S (InN 44 ad) s.heap H locs) {a0 : Int32} (hR : RmOk R cells slots 1 1) (hls : ls.size = nL) (hro : (rest.map fun v => v.category).sum ≤ 8) (hdg : decode cc pc = .ok (.invokestatic 86, 3)) (kk : W p l e R s m args below meth c H locs cells slots Q (F0 m (pc + 3) ls (.int (B_X6_isDirection a0) :: rest))) : W p l e R s m args below meth c H locs cells slots Q (F0 m pc ls (.int a0 :: rest)) :=
  cs_ro E (c_X6_isDirection l (H := H) (D := D) (cyI := cyI) (ad := ad) a0 ) (gS kML_X6_86 kST_X6_isDirection kIN_X6 kCO_X6_isDirection) rfl ds_X6_isDirection rfl KC_blind (fun U _ hW => (K0.at S).warm hW) hR hls rfl hro hdg kk
end
section
variable {p : Program} {l : Launch} {e : Env} {R : Room} {s : State} {m : MethodId} {args : Array Value} {below : List Frame} {meth : Method} {c : Code} {H : Heap} {locs : List Loc} {cells slots : Nat} {Q : State → Prop} {cc : ByteArray} {nL pc : Nat} {ret : Option FieldType} {ls : Array Slot} {rest : List Value} {D : va_G} {cyI : ClassId} {ad : Nat → Nat} {I : Nat → Int32} {A : Nat → Nat → Int32}
theorem iv_X6_92 (E : EX p s m args meth c cc nL RX6 ret) (K0 : KC D cyI ad s s.heap) (P : va_P D classes (cw cyI ad I A) H) (S : va_S (InN 44 ad) s.heap H locs) {a0 a1 : Int32} (hR : RmOk R cells slots 1 3) (hls : ls.size = nL) (hro : (rest.map fun v => v.category).sum ≤ 8) (hdg : decode cc pc = .ok (.invokevirtual 92, 3)) (kk : W p l e R s m args below meth c H locs cells slots Q (F0 m (pc + 3) ls (.int (B_X1_kindAt I A a0 a1) :: rest))) : W p l e R s m args below meth c H locs cells slots Q (F0 m pc ls (.int a1 :: .int a0 :: .ref (ad 2) :: rest)) :=
  cv_ro E (c_X1_kindAt l P a0 a1 ) (gV kML_X6_92 kIM_X1_kindAt kSE_X1_kindAt kIN_X1 kCO_X1_kindAt) rfl ds_X1_kindAt rfl KC_blind (fun U _ hW => (K0.at S).warm hW) (va_recv K0.k P (show classes[1]? = some (RX1, TX1, 11) from rfl) cw_g2) hR hls rfl hro hdg kk
end
section
variable {p : Program} {l : Launch} {e : Env} {R : Room} {s : State} {m : MethodId} {args : Array Value} {below : List Frame} {meth : Method} {c : Code} {H : Heap} {locs : List Loc} {cells slots : Nat} {Q : State → Prop} {cc : ByteArray} {nL pc : Nat} {ret : Option FieldType} {ls : Array Slot} {rest : List Value} {D : va_G} {cyI : ClassId} {ad : Nat → Nat} {I : Nat → Int32} {A : Nat → Nat → Int32}
theorem iv_X6_100 (E : EX p s m args meth c cc nL RX6 ret) (N : AdN 44 ad) (K0 : KC D cyI ad s s.heap) (P : va_P D classes (cw cyI ad I A) H) (S : va_S (InN 44 ad) s.heap H locs) {a0 a1 a2 : Int32} {v : Int32 × (Nat → Int32) × (Nat → Nat → Int32)} (hv : B_X1_turnTo I A a0 a1 a2 = some v) (hR : RmOk R cells slots 5 5) (hls : ls.size = nL) (hro : (rest.map fun v => v.category).sum ≤ 8) (hdg : decode cc pc = .ok (.invokevirtual 100, 3)) (kk : ∀ (H1 : Heap) (locs1 : List Loc), va_P D classes (cw cyI ad v.2.1 v.2.2) H1 → va_S (InN 44 ad) s.heap H1 locs1 → W p l e R s m args below meth c H1 locs1 cells slots Q (F0 m (pc + 3) ls (.int v.1 :: rest))) : W p l e R s m args below meth c H locs cells slots Q (F0 m pc ls (.int a2 :: .int a1 :: .int a0 :: .ref (ad 2) :: rest)) :=
  cv_rw E (c_X1_turnTo l N P a0 a1 a2 hv) (gV kML_X6_100 kIM_X1_turnTo kSE_X1_turnTo kIN_X1 kCO_X1_turnTo) rfl ds_X1_turnTo rfl KC_blind (fun U _ hW => (K0.at S).warm hW) S (va_recv K0.k P (show classes[1]? = some (RX1, TX1, 11) from rfl) cw_g2) hR hls rfl hro hdg kk
end
section
variable {p : Program} {l : Launch} {e : Env} {R : Room} {s : State} {m : MethodId} {args : Array Value} {below : List Frame} {meth : Method} {c : Code} {H : Heap} {locs : List Loc} {cells slots : Nat} {Q : State → Prop} {cc : ByteArray} {nL pc : Nat} {ret : Option FieldType} {ls : Array Slot} {rest : List Value} {D : va_G} {cyI : ClassId} {ad : Nat → Nat} {I : Nat → Int32} {A : Nat → Nat → Int32}
theorem iv_X6_73 (E : EX p s m args meth c cc nL RX6 ret) (N : AdN 44 ad) (K0 : KC D cyI ad s s.heap) (P : va_P D classes (cw cyI ad I A) H) (S : va_S (InN 44 ad) s.heap H locs) {a0 : Int32} {v : Int32 × (Nat → Int32) × (Nat → Nat → Int32)} (hv : B_X6_worked I A a0 = some v) (hR : RmOk R cells slots 0 2) (hls : ls.size = nL) (hro : (rest.map fun v => v.category).sum ≤ 8) (hdg : decode cc pc = .ok (.invokevirtual 73, 3)) (kk : ∀ (H1 : Heap) (locs1 : List Loc), va_P D classes (cw cyI ad v.2.1 v.2.2) H1 → va_S (InN 44 ad) s.heap H1 locs1 → W p l e R s m args below meth c H1 locs1 cells slots Q (F0 m (pc + 3) ls (.int v.1 :: rest))) : W p l e R s m args below meth c H locs cells slots Q (F0 m pc ls (.int a0 :: .ref (ad 0) :: rest)) :=
  cv_rw E (c_X6_worked l N P a0 hv) (gV kML_X6_73 kIM_X6_worked kSE_X6_worked kIN_X6 kCO_X6_worked) rfl ds_X6_worked rfl KC_blind (fun U _ hW => (K0.at S).warm hW) S (va_recv K0.k P (show classes[6]? = some (RX6, TX6, 9) from rfl) cw_g0) hR hls rfl hro hdg kk
end
section
variable {p : Program} {l : Launch} {e : Env} {s : State} {m : MethodId} {args : Array Value} {below : List Frame} {meth : Method} {c : Code} {D : va_G} {cyI : ClassId} {ad : Nat → Nat} {I : Nat → Int32} {A : Nat → Nat → Int32}
def B_X6_turn (I : Nat → Int32) (A : Nat → Nat → Int32) (x1 x2 x3 : Int32) : Option (Int32 × (Nat → Int32) × (Nat → Nat → Int32)) := if (B_X1_has I A x1 x2) = 0 then none else (if (B_X6_isDirection x3) = 0 then none else (if (B_X1_kindAt I A x1 x2) = 1 then none else ((B_X1_turnTo I A x1 x2 x3).bind fun q_4 => (B_X6_worked q_4.2.1 q_4.2.2 q_4.1).bind fun q_6 => some (q_6.1, q_6.2.1, q_6.2.2))))
set_option maxHeartbeats 4000000 in
set_option maxRecDepth 100000 in
theorem w_X6_turn (E : EX p s m args meth c cX6_turn 4 RX6 (some .int)) (K0 : KC D cyI ad s s.heap) (N : AdN 44 ad) {H : Heap} {locs : List Loc} (P : va_P D classes (cw cyI ad I A) H) (S : va_S (InN 44 ad) s.heap H locs)  {x1 x2 x3 : Int32} {out : Int32 × (Nat → Int32) × (Nat → Nat → Int32)} (h : B_X6_turn I A x1 x2 x3 = some out) {ls : Array Slot} (hl : lv_has ls 4 [(0, .ref (ad 0)), (1, .int x1), (2, .int x2), (3, .int x3)]) : W p l e (rmL 6) s m args below meth c H locs 0 0 (MQ below (Qrw (InN 44 ad) (some (.int out.1)) (fun H1 => va_P D classes (cw cyI ad out.2.1 out.2.2) H1)) args s 0 0 (InN 44 ad)) (F0 m 0 ls []) := by
  unfold B_X6_turn at h
  refine lv_aload_n E.hx E.hb dX6_turn_0 rfl (lv_at hl 0 rfl) ?_
  refine gf_X6_21 E K0 P dX6_turn_1 ?_
  refine lv_iload_n E.hx E.hb dX6_turn_4 rfl (lv_at hl 1 rfl) ?_
  refine lv_iload_n E.hx E.hb dX6_turn_5 rfl (lv_at hl 2 rfl) ?_
  refine iv_X6_77 E K0 P S (by decide) hl.1 (Nat.le_of_ble_eq_true rfl) dX6_turn_6 ?_
  refine lv_if_ne (tgt := 22) E.hx E.hb dX6_turn_9 (by decide) (fun c_1 => ?_) (fun c_1 => ?_)
  · rw [if_neg c_1] at h
    refine lv_iload_n E.hx E.hb dX6_turn_22 rfl (lv_at hl 3 rfl) ?_
    refine iv_X6_86 E K0 S (by decide) hl.1 (Nat.le_of_ble_eq_true rfl) dX6_turn_23 ?_
    refine lv_if_ne (tgt := 39) E.hx E.hb dX6_turn_26 (by decide) (fun c_2 => ?_) (fun c_2 => ?_)
    · rw [if_neg c_2] at h
      refine lv_aload_n E.hx E.hb dX6_turn_39 rfl (lv_at hl 0 rfl) ?_
      refine gf_X6_21 E K0 P dX6_turn_40 ?_
      refine lv_iload_n E.hx E.hb dX6_turn_43 rfl (lv_at hl 1 rfl) ?_
      refine lv_iload_n E.hx E.hb dX6_turn_44 rfl (lv_at hl 2 rfl) ?_
      refine iv_X6_92 E K0 P S (by decide) hl.1 (Nat.le_of_ble_eq_true rfl) dX6_turn_45 ?_
      refine lv_iconst (v := 1) E.hx E.hb dX6_turn_48 (by decide) ?_
      refine lv_icmp_ne (tgt := 62) E.hx E.hb dX6_turn_49 (by decide) (fun c_3 => ?_) (fun c_3 => ?_)
      · rw [if_neg c_3] at h
        refine lv_aload_n E.hx E.hb dX6_turn_62 rfl (lv_at hl 0 rfl) ?_
        refine lv_aload_n E.hx E.hb dX6_turn_63 rfl (lv_at hl 0 rfl) ?_
        refine gf_X6_21 E K0 P dX6_turn_64 ?_
        refine lv_iload_n E.hx E.hb dX6_turn_67 rfl (lv_at hl 1 rfl) ?_
        refine lv_iload_n E.hx E.hb dX6_turn_68 rfl (lv_at hl 2 rfl) ?_
        refine lv_iload_n E.hx E.hb dX6_turn_69 rfl (lv_at hl 3 rfl) ?_
        obtain ⟨q_4, e_5, h⟩ := obind h
        refine iv_X6_100 E N K0 P S e_5 (by decide) hl.1 (Nat.le_of_ble_eq_true rfl) dX6_turn_70 (fun H locs P S => ?_)
        obtain ⟨q_6, e_7, h⟩ := obind h
        refine iv_X6_73 E N K0 P S e_7 (by decide) hl.1 (Nat.le_of_ble_eq_true rfl) dX6_turn_73 (fun H locs P S => ?_)
        cases h
        exact W.iret E.hx E.hb E.hr (fun t ht _ => ⟨rfl, by rw [ht]; exact P, S.F ht⟩) S.2.2 dX6_turn_76 E.hk
      · rw [if_pos c_3] at h
        exact nomatch h
    · rw [if_pos c_2] at h
      exact nomatch h
  · rw [if_pos c_1] at h
    exact nomatch h
theorem c_X6_turn (l : Launch) {H : Heap} {D : va_G} {cyI : ClassId} {ad : Nat → Nat} {I : Nat → Int32} {A : Nat → Nat → Int32} (N : AdN 44 ad) (P : va_P D classes (cw cyI ad I A) H) (x1 x2 x3 : Int32) {out : Int32 × (Nat → Int32) × (Nat → Nat → Int32)} (h : B_X6_turn I A x1 x2 x3 = some out) : MRW l yX6_turn cX6_turn 4 (some .int) 6 [.ref (ad 0), .int x1, .int x2, .int x3] H (KC D cyI ad) (InN 44 ad) (some (.int out.1)) (fun H1 => va_P D classes (cw cyI ad out.2.1 out.2.2) H1) := by
  refine Mof (own := RX6) (by decide +kernel) rfl rfl ?_
  intro p e s m args below meth c ls E hH K0 hl
  subst hH
  exact w_X6_turn E K0 N P va_S.rf h hl
theorem ds_X6_turn : Dsc yX6_turn 3 := ⟨by decide +kernel, by decide +kernel, by decide +kernel⟩
end
section
variable {p : Program} {l : Launch} {e : Env} {R : Room} {s : State} {m : MethodId} {args : Array Value} {below : List Frame} {meth : Method} {c : Code} {H : Heap} {locs : List Loc} {cells slots : Nat} {Q : State → Prop} {cc : ByteArray} {nL pc : Nat} {ret : Option FieldType} {ls : Array Slot} {rest : List Value} {D : va_G} {cyI : ClassId} {ad : Nat → Nat} {I : Nat → Int32} {A : Nat → Nat → Int32}
theorem iv_X6_106 (E : EX p s m args meth c cc nL RX6 ret) (N : AdN 44 ad) (K0 : KC D cyI ad s s.heap) (P : va_P D classes (cw cyI ad I A) H) (S : va_S (InN 44 ad) s.heap H locs) {a0 a1 a2 a3 a4 : Int32} {v : Int32 × (Nat → Int32) × (Nat → Nat → Int32)} (hv : B_X1_hold I A a0 a1 a2 a3 a4 = some v) (hR : RmOk R cells slots 5 8) (hls : ls.size = nL) (hro : (rest.map fun v => v.category).sum ≤ 8) (hdg : decode cc pc = .ok (.invokevirtual 106, 3)) (kk : ∀ (H1 : Heap) (locs1 : List Loc), va_P D classes (cw cyI ad v.2.1 v.2.2) H1 → va_S (InN 44 ad) s.heap H1 locs1 → W p l e R s m args below meth c H1 locs1 cells slots Q (F0 m (pc + 3) ls (.int v.1 :: rest))) : W p l e R s m args below meth c H locs cells slots Q (F0 m pc ls (.int a4 :: .int a3 :: .int a2 :: .int a1 :: .int a0 :: .ref (ad 2) :: rest)) :=
  cv_rw E (c_X1_hold l N P a0 a1 a2 a3 a4 hv) (gV kML_X6_106 kIM_X1_hold kSE_X1_hold kIN_X1 kCO_X1_hold) rfl ds_X1_hold rfl KC_blind (fun U _ hW => (K0.at S).warm hW) S (va_recv K0.k P (show classes[1]? = some (RX1, TX1, 11) from rfl) cw_g2) hR hls rfl hro hdg kk
end
section
variable {p : Program} {l : Launch} {e : Env} {s : State} {m : MethodId} {args : Array Value} {below : List Frame} {meth : Method} {c : Code} {D : va_G} {cyI : ClassId} {ad : Nat → Nat} {I : Nat → Int32} {A : Nat → Nat → Int32}
def B_X6_anchor (I : Nat → Int32) (A : Nat → Nat → Int32) (x1 x2 x3 x4 x5 : Int32) : Option (Int32 × (Nat → Int32) × (Nat → Nat → Int32)) := if (B_X1_has I A x1 x2) = 0 then none else (if (B_X6_isIn x3 0 2) = 0 then none else (if (B_X6_isDirection x4) = 0 then none else (if (B_X6_isIn x5 1 100) = 0 then none else ((B_X1_hold I A x1 x2 x3 x4 x5).bind fun q_5 => (B_X6_worked q_5.2.1 q_5.2.2 q_5.1).bind fun q_7 => some (q_7.1, q_7.2.1, q_7.2.2)))))
set_option maxHeartbeats 4000000 in
set_option maxRecDepth 100000 in
theorem w_X6_anchor (E : EX p s m args meth c cX6_anchor 6 RX6 (some .int)) (K0 : KC D cyI ad s s.heap) (N : AdN 44 ad) {H : Heap} {locs : List Loc} (P : va_P D classes (cw cyI ad I A) H) (S : va_S (InN 44 ad) s.heap H locs)  {x1 x2 x3 x4 x5 : Int32} {out : Int32 × (Nat → Int32) × (Nat → Nat → Int32)} (h : B_X6_anchor I A x1 x2 x3 x4 x5 = some out) {ls : Array Slot} (hl : lv_has ls 6 [(0, .ref (ad 0)), (1, .int x1), (2, .int x2), (3, .int x3), (4, .int x4), (5, .int x5)]) : W p l e (rmL 6) s m args below meth c H locs 0 0 (MQ below (Qrw (InN 44 ad) (some (.int out.1)) (fun H1 => va_P D classes (cw cyI ad out.2.1 out.2.2) H1)) args s 0 0 (InN 44 ad)) (F0 m 0 ls []) := by
  unfold B_X6_anchor at h
  refine lv_aload_n E.hx E.hb dX6_anchor_0 rfl (lv_at hl 0 rfl) ?_
  refine gf_X6_21 E K0 P dX6_anchor_1 ?_
  refine lv_iload_n E.hx E.hb dX6_anchor_4 rfl (lv_at hl 1 rfl) ?_
  refine lv_iload_n E.hx E.hb dX6_anchor_5 rfl (lv_at hl 2 rfl) ?_
  refine iv_X6_77 E K0 P S (by decide) hl.1 (Nat.le_of_ble_eq_true rfl) dX6_anchor_6 ?_
  refine lv_if_ne (tgt := 22) E.hx E.hb dX6_anchor_9 (by decide) (fun c_1 => ?_) (fun c_1 => ?_)
  · rw [if_neg c_1] at h
    refine lv_iload_n E.hx E.hb dX6_anchor_22 rfl (lv_at hl 3 rfl) ?_
    refine lv_iconst (v := 0) E.hx E.hb dX6_anchor_23 (by decide) ?_
    refine lv_iconst (v := 2) E.hx E.hb dX6_anchor_24 (by decide) ?_
    refine iv_X6_56 E K0 S (by decide) hl.1 (Nat.le_of_ble_eq_true rfl) dX6_anchor_25 ?_
    refine lv_if_eq (tgt := 50) E.hx E.hb dX6_anchor_28 (by decide) (fun c_2 => ?_) (fun c_2 => ?_)
    · rw [if_pos c_2] at h
      exact nomatch h
    · rw [if_neg c_2] at h
      refine lv_iload E.hx E.hb dX6_anchor_31 (lv_at hl 4 rfl) ?_
      refine iv_X6_86 E K0 S (by decide) hl.1 (Nat.le_of_ble_eq_true rfl) dX6_anchor_33 ?_
      refine lv_if_eq (tgt := 50) E.hx E.hb dX6_anchor_36 (by decide) (fun c_3 => ?_) (fun c_3 => ?_)
      · rw [if_pos c_3] at h
        exact nomatch h
      · rw [if_neg c_3] at h
        refine lv_iload E.hx E.hb dX6_anchor_39 (lv_at hl 5 rfl) ?_
        refine lv_iconst (v := 1) E.hx E.hb dX6_anchor_41 (by decide) ?_
        refine lv_bipush (v := 100) E.hx E.hb dX6_anchor_42 (by decide) ?_
        refine iv_X6_56 E K0 S (by decide) hl.1 (Nat.le_of_ble_eq_true rfl) dX6_anchor_44 ?_
        refine lv_if_ne (tgt := 60) E.hx E.hb dX6_anchor_47 (by decide) (fun c_4 => ?_) (fun c_4 => ?_)
        · rw [if_neg c_4] at h
          refine lv_aload_n E.hx E.hb dX6_anchor_60 rfl (lv_at hl 0 rfl) ?_
          refine lv_aload_n E.hx E.hb dX6_anchor_61 rfl (lv_at hl 0 rfl) ?_
          refine gf_X6_21 E K0 P dX6_anchor_62 ?_
          refine lv_iload_n E.hx E.hb dX6_anchor_65 rfl (lv_at hl 1 rfl) ?_
          refine lv_iload_n E.hx E.hb dX6_anchor_66 rfl (lv_at hl 2 rfl) ?_
          refine lv_iload_n E.hx E.hb dX6_anchor_67 rfl (lv_at hl 3 rfl) ?_
          refine lv_iload E.hx E.hb dX6_anchor_68 (lv_at hl 4 rfl) ?_
          refine lv_iload E.hx E.hb dX6_anchor_70 (lv_at hl 5 rfl) ?_
          obtain ⟨q_5, e_6, h⟩ := obind h
          refine iv_X6_106 E N K0 P S e_6 (by decide) hl.1 (Nat.le_of_ble_eq_true rfl) dX6_anchor_72 (fun H locs P S => ?_)
          obtain ⟨q_7, e_8, h⟩ := obind h
          refine iv_X6_73 E N K0 P S e_8 (by decide) hl.1 (Nat.le_of_ble_eq_true rfl) dX6_anchor_75 (fun H locs P S => ?_)
          cases h
          exact W.iret E.hx E.hb E.hr (fun t ht _ => ⟨rfl, by rw [ht]; exact P, S.F ht⟩) S.2.2 dX6_anchor_78 E.hk
        · rw [if_pos c_4] at h
          exact nomatch h
  · rw [if_pos c_1] at h
    exact nomatch h
theorem c_X6_anchor (l : Launch) {H : Heap} {D : va_G} {cyI : ClassId} {ad : Nat → Nat} {I : Nat → Int32} {A : Nat → Nat → Int32} (N : AdN 44 ad) (P : va_P D classes (cw cyI ad I A) H) (x1 x2 x3 x4 x5 : Int32) {out : Int32 × (Nat → Int32) × (Nat → Nat → Int32)} (h : B_X6_anchor I A x1 x2 x3 x4 x5 = some out) : MRW l yX6_anchor cX6_anchor 6 (some .int) 6 [.ref (ad 0), .int x1, .int x2, .int x3, .int x4, .int x5] H (KC D cyI ad) (InN 44 ad) (some (.int out.1)) (fun H1 => va_P D classes (cw cyI ad out.2.1 out.2.2) H1) := by
  refine Mof (own := RX6) (by decide +kernel) rfl rfl ?_
  intro p e s m args below meth c ls E hH K0 hl
  subst hH
  exact w_X6_anchor E K0 N P va_S.rf h hl
theorem ds_X6_anchor : Dsc yX6_anchor 5 := ⟨by decide +kernel, by decide +kernel, by decide +kernel⟩
end
section
variable {p : Program} {l : Launch} {e : Env} {R : Room} {s : State} {m : MethodId} {args : Array Value} {below : List Frame} {meth : Method} {c : Code} {H : Heap} {locs : List Loc} {cells slots : Nat} {Q : State → Prop} {cc : ByteArray} {nL pc : Nat} {ret : Option FieldType} {ls : Array Slot} {rest : List Value} {D : va_G} {cyI : ClassId} {ad : Nat → Nat} {I : Nat → Int32} {A : Nat → Nat → Int32}
theorem iv_X6_117 (E : EX p s m args meth c cc nL RX6 ret) (K0 : KC D cyI ad s s.heap) (P : va_P D classes (cw cyI ad I A) H) (S : va_S (InN 44 ad) s.heap H locs) {a0 a1 a2 a3 : Int32} {v : Int32} (hv : B_X1_hasPixelIn I A a0 a1 a2 a3 = some v) (hR : RmOk R cells slots 2 7) (hls : ls.size = nL) (hro : (rest.map fun v => v.category).sum ≤ 8) (hdg : decode cc pc = .ok (.invokevirtual 117, 3)) (kk : W p l e R s m args below meth c H locs cells slots Q (F0 m (pc + 3) ls (.int v :: rest))) : W p l e R s m args below meth c H locs cells slots Q (F0 m pc ls (.int a3 :: .int a2 :: .int a1 :: .int a0 :: .ref (ad 2) :: rest)) :=
  cv_ro E (c_X1_hasPixelIn l P a0 a1 a2 a3 hv) (gV kML_X6_117 kIM_X1_hasPixelIn kSE_X1_hasPixelIn kIN_X1 kCO_X1_hasPixelIn) rfl ds_X1_hasPixelIn rfl KC_blind (fun U _ hW => (K0.at S).warm hW) (va_recv K0.k P (show classes[1]? = some (RX1, TX1, 11) from rfl) cw_g2) hR hls rfl hro hdg kk
end
section
variable {p : Program} {l : Launch} {e : Env} {R : Room} {s : State} {m : MethodId} {args : Array Value} {below : List Frame} {meth : Method} {c : Code} {H : Heap} {locs : List Loc} {cells slots : Nat} {Q : State → Prop} {cc : ByteArray} {nL pc : Nat} {ret : Option FieldType} {ls : Array Slot} {rest : List Value} {D : va_G} {cyI : ClassId} {ad : Nat → Nat} {I : Nat → Int32} {A : Nat → Nat → Int32}
theorem iv_X6_123 (E : EX p s m args meth c cc nL RX6 ret) (N : AdN 44 ad) (K0 : KC D cyI ad s s.heap) (P : va_P D classes (cw cyI ad I A) H) (S : va_S (InN 44 ad) s.heap H locs) {a0 a1 a2 a3 : Int32} {v : Int32 × (Nat → Int32) × (Nat → Nat → Int32)} (hv : B_X3_make I A a0 a1 a2 a3 = some v) (hR : RmOk R cells slots 1 6) (hls : ls.size = nL) (hro : (rest.map fun v => v.category).sum ≤ 8) (hdg : decode cc pc = .ok (.invokevirtual 123, 3)) (kk : ∀ (H1 : Heap) (locs1 : List Loc), va_P D classes (cw cyI ad v.2.1 v.2.2) H1 → va_S (InN 44 ad) s.heap H1 locs1 → W p l e R s m args below meth c H1 locs1 cells slots Q (F0 m (pc + 3) ls (.int v.1 :: rest))) : W p l e R s m args below meth c H locs cells slots Q (F0 m pc ls (.int a3 :: .int a2 :: .int a1 :: .int a0 :: .ref (ad 1) :: rest)) :=
  cv_rw E (c_X3_make l N P a0 a1 a2 a3 hv) (gV kML_X6_123 kIM_X3_make kSE_X3_make kIN_X3 kCO_X3_make) rfl ds_X3_make rfl KC_blind (fun U _ hW => (K0.at S).warm hW) S (va_recv K0.k P (show classes[3]? = some (RX3, TX3, 9) from rfl) cw_g1) hR hls rfl hro hdg kk
end
section
variable {p : Program} {l : Launch} {e : Env} {R : Room} {s : State} {m : MethodId} {args : Array Value} {below : List Frame} {meth : Method} {c : Code} {H : Heap} {locs : List Loc} {cells slots : Nat} {Q : State → Prop} {cc : ByteArray} {nL pc : Nat} {ret : Option FieldType} {ls : Array Slot} {rest : List Value} {D : va_G} {cyI : ClassId} {ad : Nat → Nat} {I : Nat → Int32} {A : Nat → Nat → Int32}
theorem iv_X6_127 (E : EX p s m args meth c cc nL RX6 ret) (N : AdN 44 ad) (K0 : KC D cyI ad s s.heap) (P : va_P D classes (cw cyI ad I A) H) (S : va_S (InN 44 ad) s.heap H locs) {a0 a1 a2 a3 a4 : Int32} {v : (Nat → Int32) × (Nat → Nat → Int32)} (hv : B_X1_mark I A a0 a1 a2 a3 a4 = some v) (hR : RmOk R cells slots 1 8) (hls : ls.size = nL) (hro : (rest.map fun v => v.category).sum ≤ 8) (hdg : decode cc pc = .ok (.invokevirtual 127, 3)) (kk : ∀ (H1 : Heap) (locs1 : List Loc), va_P D classes (cw cyI ad v.1 v.2) H1 → va_S (InN 44 ad) s.heap H1 locs1 → W p l e R s m args below meth c H1 locs1 cells slots Q (F0 m (pc + 3) ls (rest))) : W p l e R s m args below meth c H locs cells slots Q (F0 m pc ls (.int a4 :: .int a3 :: .int a2 :: .int a1 :: .int a0 :: .ref (ad 2) :: rest)) :=
  cv_rw E (c_X1_mark l N P a0 a1 a2 a3 a4 hv) (gV kML_X6_127 kIM_X1_mark kSE_X1_mark kIN_X1 kCO_X1_mark) rfl ds_X1_mark rfl KC_blind (fun U _ hW => (K0.at S).warm hW) S (va_recv K0.k P (show classes[1]? = some (RX1, TX1, 11) from rfl) cw_g2) hR hls rfl hro hdg kk
end
section
variable {p : Program} {l : Launch} {e : Env} {s : State} {m : MethodId} {args : Array Value} {below : List Frame} {meth : Method} {c : Code} {D : va_G} {cyI : ClassId} {ad : Nat → Nat} {I : Nat → Int32} {A : Nat → Nat → Int32}
def B_X6_pixel (I : Nat → Int32) (A : Nat → Nat → Int32) (x1 x2 x3 x4 : Int32) : Option (Int32 × (Nat → Int32) × (Nat → Nat → Int32)) := if (B_X1_has I A x1 x2) = 0 then none else (if (B_X6_isIn x3 1 12) = 0 then none else (if (B_X6_isIn x4 1 12) = 0 then none else (if (B_X1_has I A (((x1 + x3) - 1)) (((x2 + x4) - 1))) = 0 then none else (if 8 ≤ (I 4) then none else ((B_X1_hasPixelIn I A x1 x2 x3 x4).bind fun r_6 => if r_6 = 0 then ((B_X3_make I A x1 x2 x3 x4).bind fun q_9 => (B_X1_mark q_9.2.1 q_9.2.2 x1 x2 x3 x4 q_9.1).bind fun q_11 => some (q_9.1, q_11.1, q_11.2)) else none)))))
set_option maxHeartbeats 4000000 in
set_option maxRecDepth 100000 in
theorem w_X6_pixel (E : EX p s m args meth c cX6_pixel 6 RX6 (some .int)) (K0 : KC D cyI ad s s.heap) (N : AdN 44 ad) {H : Heap} {locs : List Loc} (P : va_P D classes (cw cyI ad I A) H) (S : va_S (InN 44 ad) s.heap H locs)  {x1 x2 x3 x4 : Int32} {out : Int32 × (Nat → Int32) × (Nat → Nat → Int32)} (h : B_X6_pixel I A x1 x2 x3 x4 = some out) {ls : Array Slot} (hl : lv_has ls 6 [(0, .ref (ad 0)), (1, .int x1), (2, .int x2), (3, .int x3), (4, .int x4)]) : W p l e (rmL 3) s m args below meth c H locs 0 0 (MQ below (Qrw (InN 44 ad) (some (.int out.1)) (fun H1 => va_P D classes (cw cyI ad out.2.1 out.2.2) H1)) args s 0 0 (InN 44 ad)) (F0 m 0 ls []) := by
  unfold B_X6_pixel at h
  refine lv_aload_n E.hx E.hb dX6_pixel_0 rfl (lv_at hl 0 rfl) ?_
  refine gf_X6_21 E K0 P dX6_pixel_1 ?_
  refine lv_iload_n E.hx E.hb dX6_pixel_4 rfl (lv_at hl 1 rfl) ?_
  refine lv_iload_n E.hx E.hb dX6_pixel_5 rfl (lv_at hl 2 rfl) ?_
  refine iv_X6_77 E K0 P S (by decide) hl.1 (Nat.le_of_ble_eq_true rfl) dX6_pixel_6 ?_
  refine lv_if_ne (tgt := 22) E.hx E.hb dX6_pixel_9 (by decide) (fun c_1 => ?_) (fun c_1 => ?_)
  · rw [if_neg c_1] at h
    refine lv_iload_n E.hx E.hb dX6_pixel_22 rfl (lv_at hl 3 rfl) ?_
    refine lv_iconst (v := 1) E.hx E.hb dX6_pixel_23 (by decide) ?_
    refine lv_bipush (v := 12) E.hx E.hb dX6_pixel_24 (by decide) ?_
    refine iv_X6_56 E K0 S (by decide) hl.1 (Nat.le_of_ble_eq_true rfl) dX6_pixel_26 ?_
    refine lv_if_eq (tgt := 43) E.hx E.hb dX6_pixel_29 (by decide) (fun c_2 => ?_) (fun c_2 => ?_)
    · rw [if_pos c_2] at h
      exact nomatch h
    · rw [if_neg c_2] at h
      refine lv_iload E.hx E.hb dX6_pixel_32 (lv_at hl 4 rfl) ?_
      refine lv_iconst (v := 1) E.hx E.hb dX6_pixel_34 (by decide) ?_
      refine lv_bipush (v := 12) E.hx E.hb dX6_pixel_35 (by decide) ?_
      refine iv_X6_56 E K0 S (by decide) hl.1 (Nat.le_of_ble_eq_true rfl) dX6_pixel_37 ?_
      refine lv_if_ne (tgt := 53) E.hx E.hb dX6_pixel_40 (by decide) (fun c_3 => ?_) (fun c_3 => ?_)
      · rw [if_neg c_3] at h
        refine lv_aload_n E.hx E.hb dX6_pixel_53 rfl (lv_at hl 0 rfl) ?_
        refine gf_X6_21 E K0 P dX6_pixel_54 ?_
        refine lv_iload_n E.hx E.hb dX6_pixel_57 rfl (lv_at hl 1 rfl) ?_
        refine lv_iload_n E.hx E.hb dX6_pixel_58 rfl (lv_at hl 3 rfl) ?_
        refine lv_iadd E.hx E.hb dX6_pixel_59 ?_
        refine lv_iconst (v := 1) E.hx E.hb dX6_pixel_60 (by decide) ?_
        refine lv_isub E.hx E.hb dX6_pixel_61 ?_
        refine lv_iload_n E.hx E.hb dX6_pixel_62 rfl (lv_at hl 2 rfl) ?_
        refine lv_iload E.hx E.hb dX6_pixel_63 (lv_at hl 4 rfl) ?_
        refine lv_iadd E.hx E.hb dX6_pixel_65 ?_
        refine lv_iconst (v := 1) E.hx E.hb dX6_pixel_66 (by decide) ?_
        refine lv_isub E.hx E.hb dX6_pixel_67 ?_
        refine iv_X6_77 E K0 P S (by decide) hl.1 (Nat.le_of_ble_eq_true rfl) dX6_pixel_68 ?_
        refine lv_if_ne (tgt := 84) E.hx E.hb dX6_pixel_71 (by decide) (fun c_4 => ?_) (fun c_4 => ?_)
        · rw [if_neg c_4] at h
          refine lv_aload_n E.hx E.hb dX6_pixel_84 rfl (lv_at hl 0 rfl) ?_
          refine gf_X6_12 E K0 P dX6_pixel_85 ?_
          refine gf_X6_114 E K0 P dX6_pixel_88 ?_
          refine lv_bipush (v := 8) E.hx E.hb dX6_pixel_91 (by decide) ?_
          refine lv_icmp_ge (tgt := 111) E.hx E.hb dX6_pixel_93 (by decide) (fun c_5 => ?_) (fun c_5 => ?_)
          · rw [if_pos c_5] at h
            exact nomatch h
          · rw [if_neg c_5] at h
            refine lv_aload_n E.hx E.hb dX6_pixel_96 rfl (lv_at hl 0 rfl) ?_
            refine gf_X6_21 E K0 P dX6_pixel_97 ?_
            refine lv_iload_n E.hx E.hb dX6_pixel_100 rfl (lv_at hl 1 rfl) ?_
            refine lv_iload_n E.hx E.hb dX6_pixel_101 rfl (lv_at hl 2 rfl) ?_
            refine lv_iload_n E.hx E.hb dX6_pixel_102 rfl (lv_at hl 3 rfl) ?_
            refine lv_iload E.hx E.hb dX6_pixel_103 (lv_at hl 4 rfl) ?_
            obtain ⟨r_6, e_7, h⟩ := obind h
            refine iv_X6_117 E K0 P S e_7 (by decide) hl.1 (Nat.le_of_ble_eq_true rfl) dX6_pixel_105 ?_
            refine lv_if_eq (tgt := 121) E.hx E.hb dX6_pixel_108 (by decide) (fun c_8 => ?_) (fun c_8 => ?_)
            · rw [if_pos c_8] at h
              refine lv_aload_n E.hx E.hb dX6_pixel_121 rfl (lv_at hl 0 rfl) ?_
              refine gf_X6_12 E K0 P dX6_pixel_122 ?_
              refine lv_iload_n E.hx E.hb dX6_pixel_125 rfl (lv_at hl 1 rfl) ?_
              refine lv_iload_n E.hx E.hb dX6_pixel_126 rfl (lv_at hl 2 rfl) ?_
              refine lv_iload_n E.hx E.hb dX6_pixel_127 rfl (lv_at hl 3 rfl) ?_
              refine lv_iload E.hx E.hb dX6_pixel_128 (lv_at hl 4 rfl) ?_
              obtain ⟨q_9, e_10, h⟩ := obind h
              refine iv_X6_123 E N K0 P S e_10 (by decide) hl.1 (Nat.le_of_ble_eq_true rfl) dX6_pixel_130 (fun H locs P S => ?_)
              refine lv_istore (lv' := [(5, .int q_9.1), (0, .ref (ad 0)), (1, .int x1), (2, .int x2), (3, .int x3), (4, .int x4)]) E.hx E.hb dX6_pixel_133 hl (by decide) rfl (fun ls hl => ?_)
              refine lv_aload_n E.hx E.hb dX6_pixel_135 rfl (lv_at hl 1 rfl) ?_
              refine gf_X6_21 E K0 P dX6_pixel_136 ?_
              refine lv_iload_n E.hx E.hb dX6_pixel_139 rfl (lv_at hl 2 rfl) ?_
              refine lv_iload_n E.hx E.hb dX6_pixel_140 rfl (lv_at hl 3 rfl) ?_
              refine lv_iload_n E.hx E.hb dX6_pixel_141 rfl (lv_at hl 4 rfl) ?_
              refine lv_iload E.hx E.hb dX6_pixel_142 (lv_at hl 5 rfl) ?_
              refine lv_iload E.hx E.hb dX6_pixel_144 (lv_at hl 0 rfl) ?_
              obtain ⟨q_11, e_12, h⟩ := obind h
              refine iv_X6_127 E N K0 P S e_12 (by decide) hl.1 (Nat.le_of_ble_eq_true rfl) dX6_pixel_146 (fun H locs P S => ?_)
              refine lv_iload E.hx E.hb dX6_pixel_149 (lv_at hl 0 rfl) ?_
              cases h
              exact W.iret E.hx E.hb E.hr (fun t ht _ => ⟨rfl, by rw [ht]; exact P, S.F ht⟩) S.2.2 dX6_pixel_151 E.hk
            · rw [if_neg c_8] at h
              exact nomatch h
        · rw [if_pos c_4] at h
          exact nomatch h
      · rw [if_pos c_3] at h
        exact nomatch h
  · rw [if_pos c_1] at h
    exact nomatch h
theorem c_X6_pixel (l : Launch) {H : Heap} {D : va_G} {cyI : ClassId} {ad : Nat → Nat} {I : Nat → Int32} {A : Nat → Nat → Int32} (N : AdN 44 ad) (P : va_P D classes (cw cyI ad I A) H) (x1 x2 x3 x4 : Int32) {out : Int32 × (Nat → Int32) × (Nat → Nat → Int32)} (h : B_X6_pixel I A x1 x2 x3 x4 = some out) : MRW l yX6_pixel cX6_pixel 6 (some .int) 3 [.ref (ad 0), .int x1, .int x2, .int x3, .int x4] H (KC D cyI ad) (InN 44 ad) (some (.int out.1)) (fun H1 => va_P D classes (cw cyI ad out.2.1 out.2.2) H1) := by
  refine Mof (own := RX6) (by decide +kernel) rfl rfl ?_
  intro p e s m args below meth c ls E hH K0 hl
  subst hH
  exact w_X6_pixel E K0 N P va_S.rf h hl
theorem ds_X6_pixel : Dsc yX6_pixel 4 := ⟨by decide +kernel, by decide +kernel, by decide +kernel⟩
end
section
variable {p : Program} {l : Launch} {e : Env} {R : Room} {s : State} {m : MethodId} {args : Array Value} {below : List Frame} {meth : Method} {c : Code} {H : Heap} {locs : List Loc} {cells slots : Nat} {Q : State → Prop} {cc : ByteArray} {nL pc : Nat} {ret : Option FieldType} {ls : Array Slot} {rest : List Value} {D : va_G} {cyI : ClassId} {ad : Nat → Nat} {I : Nat → Int32} {A : Nat → Nat → Int32}
theorem iv_X6_131 (E : EX p s m args meth c cc nL RX6 ret) (K0 : KC D cyI ad s s.heap) (P : va_P D classes (cw cyI ad I A) H) (S : va_S (InN 44 ad) s.heap H locs) {a0 : Int32} (hR : RmOk R cells slots 0 2) (hls : ls.size = nL) (hro : (rest.map fun v => v.category).sum ≤ 8) (hdg : decode cc pc = .ok (.invokevirtual 131, 3)) (kk : W p l e R s m args below meth c H locs cells slots Q (F0 m (pc + 3) ls (.int (B_X3_has I A a0) :: rest))) : W p l e R s m args below meth c H locs cells slots Q (F0 m pc ls (.int a0 :: .ref (ad 1) :: rest)) :=
  cv_ro E (c_X3_has l P a0 ) (gV kML_X6_131 kIM_X3_has kSE_X3_has kIN_X3 kCO_X3_has) rfl ds_X3_has rfl KC_blind (fun U _ hW => (K0.at S).warm hW) (va_recv K0.k P (show classes[3]? = some (RX3, TX3, 9) from rfl) cw_g1) hR hls rfl hro hdg kk
end
section
variable {p : Program} {l : Launch} {e : Env} {R : Room} {s : State} {m : MethodId} {args : Array Value} {below : List Frame} {meth : Method} {c : Code} {H : Heap} {locs : List Loc} {cells slots : Nat} {Q : State → Prop} {cc : ByteArray} {nL pc : Nat} {ret : Option FieldType} {ls : Array Slot} {rest : List Value} {D : va_G} {cyI : ClassId} {ad : Nat → Nat} {I : Nat → Int32} {A : Nat → Nat → Int32}
theorem iv_X6_137 (E : EX p s m args meth c cc nL RX6 ret) (N : AdN 44 ad) (K0 : KC D cyI ad s s.heap) (P : va_P D classes (cw cyI ad I A) H) (S : va_S (InN 44 ad) s.heap H locs) {a0 a1 a2 : Int32} {v : Int32 × (Nat → Int32) × (Nat → Nat → Int32)} (hv : B_X1_setField I A a0 a1 a2 = some v) (hR : RmOk R cells slots 4 5) (hls : ls.size = nL) (hro : (rest.map fun v => v.category).sum ≤ 8) (hdg : decode cc pc = .ok (.invokevirtual 137, 3)) (kk : ∀ (H1 : Heap) (locs1 : List Loc), va_P D classes (cw cyI ad v.2.1 v.2.2) H1 → va_S (InN 44 ad) s.heap H1 locs1 → W p l e R s m args below meth c H1 locs1 cells slots Q (F0 m (pc + 3) ls (.int v.1 :: rest))) : W p l e R s m args below meth c H locs cells slots Q (F0 m pc ls (.int a2 :: .int a1 :: .int a0 :: .ref (ad 2) :: rest)) :=
  cv_rw E (c_X1_setField l N P a0 a1 a2 hv) (gV kML_X6_137 kIM_X1_setField kSE_X1_setField kIN_X1 kCO_X1_setField) rfl ds_X1_setField rfl KC_blind (fun U _ hW => (K0.at S).warm hW) S (va_recv K0.k P (show classes[1]? = some (RX1, TX1, 11) from rfl) cw_g2) hR hls rfl hro hdg kk
end
section
variable {p : Program} {l : Launch} {e : Env} {s : State} {m : MethodId} {args : Array Value} {below : List Frame} {meth : Method} {c : Code} {D : va_G} {cyI : ClassId} {ad : Nat → Nat} {I : Nat → Int32} {A : Nat → Nat → Int32}
def B_X6_drive (I : Nat → Int32) (A : Nat → Nat → Int32) (x1 x2 x3 : Int32) : Option (Int32 × (Nat → Int32) × (Nat → Nat → Int32)) := if (B_X3_has I A x1) = 0 then none else (if (B_X6_isDirection x2) = 0 then none else (if (B_X6_isIn x3 0 100) = 0 then none else ((B_X1_setField I A x1 x2 x3).bind fun q_4 => (B_X6_worked q_4.2.1 q_4.2.2 q_4.1).bind fun q_6 => some (q_6.1, q_6.2.1, q_6.2.2))))
set_option maxHeartbeats 4000000 in
set_option maxRecDepth 100000 in
theorem w_X6_drive (E : EX p s m args meth c cX6_drive 4 RX6 (some .int)) (K0 : KC D cyI ad s s.heap) (N : AdN 44 ad) {H : Heap} {locs : List Loc} (P : va_P D classes (cw cyI ad I A) H) (S : va_S (InN 44 ad) s.heap H locs)  {x1 x2 x3 : Int32} {out : Int32 × (Nat → Int32) × (Nat → Nat → Int32)} (h : B_X6_drive I A x1 x2 x3 = some out) {ls : Array Slot} (hl : lv_has ls 4 [(0, .ref (ad 0)), (1, .int x1), (2, .int x2), (3, .int x3)]) : W p l e (rmL 5) s m args below meth c H locs 0 0 (MQ below (Qrw (InN 44 ad) (some (.int out.1)) (fun H1 => va_P D classes (cw cyI ad out.2.1 out.2.2) H1)) args s 0 0 (InN 44 ad)) (F0 m 0 ls []) := by
  unfold B_X6_drive at h
  refine lv_aload_n E.hx E.hb dX6_drive_0 rfl (lv_at hl 0 rfl) ?_
  refine gf_X6_12 E K0 P dX6_drive_1 ?_
  refine lv_iload_n E.hx E.hb dX6_drive_4 rfl (lv_at hl 1 rfl) ?_
  refine iv_X6_131 E K0 P S (by decide) hl.1 (Nat.le_of_ble_eq_true rfl) dX6_drive_5 ?_
  refine lv_if_ne (tgt := 21) E.hx E.hb dX6_drive_8 (by decide) (fun c_1 => ?_) (fun c_1 => ?_)
  · rw [if_neg c_1] at h
    refine lv_iload_n E.hx E.hb dX6_drive_21 rfl (lv_at hl 2 rfl) ?_
    refine iv_X6_86 E K0 S (by decide) hl.1 (Nat.le_of_ble_eq_true rfl) dX6_drive_22 ?_
    refine lv_if_eq (tgt := 38) E.hx E.hb dX6_drive_25 (by decide) (fun c_2 => ?_) (fun c_2 => ?_)
    · rw [if_pos c_2] at h
      exact nomatch h
    · rw [if_neg c_2] at h
      refine lv_iload_n E.hx E.hb dX6_drive_28 rfl (lv_at hl 3 rfl) ?_
      refine lv_iconst (v := 0) E.hx E.hb dX6_drive_29 (by decide) ?_
      refine lv_bipush (v := 100) E.hx E.hb dX6_drive_30 (by decide) ?_
      refine iv_X6_56 E K0 S (by decide) hl.1 (Nat.le_of_ble_eq_true rfl) dX6_drive_32 ?_
      refine lv_if_ne (tgt := 48) E.hx E.hb dX6_drive_35 (by decide) (fun c_3 => ?_) (fun c_3 => ?_)
      · rw [if_neg c_3] at h
        refine lv_aload_n E.hx E.hb dX6_drive_48 rfl (lv_at hl 0 rfl) ?_
        refine lv_aload_n E.hx E.hb dX6_drive_49 rfl (lv_at hl 0 rfl) ?_
        refine gf_X6_21 E K0 P dX6_drive_50 ?_
        refine lv_iload_n E.hx E.hb dX6_drive_53 rfl (lv_at hl 1 rfl) ?_
        refine lv_iload_n E.hx E.hb dX6_drive_54 rfl (lv_at hl 2 rfl) ?_
        refine lv_iload_n E.hx E.hb dX6_drive_55 rfl (lv_at hl 3 rfl) ?_
        obtain ⟨q_4, e_5, h⟩ := obind h
        refine iv_X6_137 E N K0 P S e_5 (by decide) hl.1 (Nat.le_of_ble_eq_true rfl) dX6_drive_56 (fun H locs P S => ?_)
        obtain ⟨q_6, e_7, h⟩ := obind h
        refine iv_X6_73 E N K0 P S e_7 (by decide) hl.1 (Nat.le_of_ble_eq_true rfl) dX6_drive_59 (fun H locs P S => ?_)
        cases h
        exact W.iret E.hx E.hb E.hr (fun t ht _ => ⟨rfl, by rw [ht]; exact P, S.F ht⟩) S.2.2 dX6_drive_62 E.hk
      · rw [if_pos c_3] at h
        exact nomatch h
  · rw [if_pos c_1] at h
    exact nomatch h
theorem c_X6_drive (l : Launch) {H : Heap} {D : va_G} {cyI : ClassId} {ad : Nat → Nat} {I : Nat → Int32} {A : Nat → Nat → Int32} (N : AdN 44 ad) (P : va_P D classes (cw cyI ad I A) H) (x1 x2 x3 : Int32) {out : Int32 × (Nat → Int32) × (Nat → Nat → Int32)} (h : B_X6_drive I A x1 x2 x3 = some out) : MRW l yX6_drive cX6_drive 4 (some .int) 5 [.ref (ad 0), .int x1, .int x2, .int x3] H (KC D cyI ad) (InN 44 ad) (some (.int out.1)) (fun H1 => va_P D classes (cw cyI ad out.2.1 out.2.2) H1) := by
  refine Mof (own := RX6) (by decide +kernel) rfl rfl ?_
  intro p e s m args below meth c ls E hH K0 hl
  subst hH
  exact w_X6_drive E K0 N P va_S.rf h hl
theorem ds_X6_drive : Dsc yX6_drive 3 := ⟨by decide +kernel, by decide +kernel, by decide +kernel⟩
end
section
variable {p : Program} {l : Launch} {e : Env} {R : Room} {s : State} {m : MethodId} {args : Array Value} {below : List Frame} {meth : Method} {c : Code} {H : Heap} {locs : List Loc} {cells slots : Nat} {Q : State → Prop} {cc : ByteArray} {nL pc : Nat} {ret : Option FieldType} {ls : Array Slot} {rest : List Value} {D : va_G} {cyI : ClassId} {ad : Nat → Nat} {I : Nat → Int32} {A : Nat → Nat → Int32}
theorem iv_X6_148 (E : EX p s m args meth c cc nL RX6 ret) (N : AdN 44 ad) (K0 : KC D cyI ad s s.heap) (P : va_P D classes (cw cyI ad I A) H) (S : va_S (InN 44 ad) s.heap H locs) {a0 a1 a2 a3 : Int32} {v : Int32 × (Nat → Int32) × (Nat → Nat → Int32)} (hv : B_X0_add I A a0 a1 a2 a3 = some v) (hR : RmOk R cells slots 2 5) (hls : ls.size = nL) (hro : (rest.map fun v => v.category).sum ≤ 8) (hdg : decode cc pc = .ok (.invokevirtual 148, 3)) (kk : ∀ (H1 : Heap) (locs1 : List Loc), va_P D classes (cw cyI ad v.2.1 v.2.2) H1 → va_S (InN 44 ad) s.heap H1 locs1 → W p l e R s m args below meth c H1 locs1 cells slots Q (F0 m (pc + 3) ls (.int v.1 :: rest))) : W p l e R s m args below meth c H locs cells slots Q (F0 m pc ls (.int a3 :: .int a2 :: .int a1 :: .int a0 :: .ref (ad 4) :: rest)) :=
  cv_rw E (c_X0_add l N P a0 a1 a2 a3 hv) (gV kML_X6_148 kIM_X0_add kSE_X0_add kIN_X0 kCO_X0_add) rfl ds_X0_add rfl KC_blind (fun U _ hW => (K0.at S).warm hW) S (va_recv K0.k P (show classes[0]? = some (RX0, TX0, 5) from rfl) cw_g4) hR hls rfl hro hdg kk
end
section
variable {p : Program} {l : Launch} {e : Env} {s : State} {m : MethodId} {args : Array Value} {below : List Frame} {meth : Method} {c : Code} {D : va_G} {cyI : ClassId} {ad : Nat → Nat} {I : Nat → Int32} {A : Nat → Nat → Int32}
def B_X6_program (I : Nat → Int32) (A : Nat → Nat → Int32) (x1 x2 x3 x4 : Int32) : Option (Int32 × (Nat → Int32) × (Nat → Nat → Int32)) := if (B_X3_has I A x1) = 0 then none else (if x2 ≤ (I 1) then none else (if x2 ≤ 2000 then (if (B_X6_isDirection x3) = 0 then none else (if (B_X6_isIn x4 0 100) = 0 then none else (if (I 10) < 40 then ((B_X0_add I A x1 x2 x3 x4).bind fun q_7 => some (q_7.1, q_7.2.1, q_7.2.2)) else none))) else none))
set_option maxHeartbeats 4000000 in
set_option maxRecDepth 100000 in
theorem w_X6_program (E : EX p s m args meth c cX6_program 5 RX6 (some .int)) (K0 : KC D cyI ad s s.heap) (N : AdN 44 ad) {H : Heap} {locs : List Loc} (P : va_P D classes (cw cyI ad I A) H) (S : va_S (InN 44 ad) s.heap H locs)  {x1 x2 x3 x4 : Int32} {out : Int32 × (Nat → Int32) × (Nat → Nat → Int32)} (h : B_X6_program I A x1 x2 x3 x4 = some out) {ls : Array Slot} (hl : lv_has ls 5 [(0, .ref (ad 0)), (1, .int x1), (2, .int x2), (3, .int x3), (4, .int x4)]) : W p l e (rmL 3) s m args below meth c H locs 0 0 (MQ below (Qrw (InN 44 ad) (some (.int out.1)) (fun H1 => va_P D classes (cw cyI ad out.2.1 out.2.2) H1)) args s 0 0 (InN 44 ad)) (F0 m 0 ls []) := by
  unfold B_X6_program at h
  refine lv_aload_n E.hx E.hb dX6_program_0 rfl (lv_at hl 0 rfl) ?_
  refine gf_X6_12 E K0 P dX6_program_1 ?_
  refine lv_iload_n E.hx E.hb dX6_program_4 rfl (lv_at hl 1 rfl) ?_
  refine iv_X6_131 E K0 P S (by decide) hl.1 (Nat.le_of_ble_eq_true rfl) dX6_program_5 ?_
  refine lv_if_ne (tgt := 21) E.hx E.hb dX6_program_8 (by decide) (fun c_1 => ?_) (fun c_1 => ?_)
  · rw [if_neg c_1] at h
    refine lv_iload_n E.hx E.hb dX6_program_21 rfl (lv_at hl 2 rfl) ?_
    refine lv_aload_n E.hx E.hb dX6_program_22 rfl (lv_at hl 0 rfl) ?_
    refine gf_X6_140 E K0 P dX6_program_23 ?_
    refine lv_icmp_le (tgt := 36) E.hx E.hb dX6_program_26 (by decide) (fun c_2 => ?_) (fun c_2 => ?_)
    · rw [if_pos c_2] at h
      exact nomatch h
    · rw [if_neg c_2] at h
      refine lv_iload_n E.hx E.hb dX6_program_29 rfl (lv_at hl 2 rfl) ?_
      refine lv_sipush (v := 2000) E.hx E.hb dX6_program_30 (by decide) ?_
      refine lv_icmp_le (tgt := 46) E.hx E.hb dX6_program_33 (by decide) (fun c_3 => ?_) (fun c_3 => ?_)
      · rw [if_pos c_3] at h
        refine lv_iload_n E.hx E.hb dX6_program_46 rfl (lv_at hl 3 rfl) ?_
        refine iv_X6_86 E K0 S (by decide) hl.1 (Nat.le_of_ble_eq_true rfl) dX6_program_47 ?_
        refine lv_if_eq (tgt := 64) E.hx E.hb dX6_program_50 (by decide) (fun c_4 => ?_) (fun c_4 => ?_)
        · rw [if_pos c_4] at h
          exact nomatch h
        · rw [if_neg c_4] at h
          refine lv_iload E.hx E.hb dX6_program_53 (lv_at hl 4 rfl) ?_
          refine lv_iconst (v := 0) E.hx E.hb dX6_program_55 (by decide) ?_
          refine lv_bipush (v := 100) E.hx E.hb dX6_program_56 (by decide) ?_
          refine iv_X6_56 E K0 S (by decide) hl.1 (Nat.le_of_ble_eq_true rfl) dX6_program_58 ?_
          refine lv_if_ne (tgt := 74) E.hx E.hb dX6_program_61 (by decide) (fun c_5 => ?_) (fun c_5 => ?_)
          · rw [if_neg c_5] at h
            refine lv_aload_n E.hx E.hb dX6_program_74 rfl (lv_at hl 0 rfl) ?_
            refine gf_X6_37 E K0 P dX6_program_75 ?_
            refine gf_X6_145 E K0 P dX6_program_78 ?_
            refine lv_bipush (v := 40) E.hx E.hb dX6_program_81 (by decide) ?_
            refine lv_icmp_lt (tgt := 96) E.hx E.hb dX6_program_83 (by decide) (fun c_6 => ?_) (fun c_6 => ?_)
            · rw [if_pos c_6] at h
              refine lv_aload_n E.hx E.hb dX6_program_96 rfl (lv_at hl 0 rfl) ?_
              refine gf_X6_37 E K0 P dX6_program_97 ?_
              refine lv_iload_n E.hx E.hb dX6_program_100 rfl (lv_at hl 1 rfl) ?_
              refine lv_iload_n E.hx E.hb dX6_program_101 rfl (lv_at hl 2 rfl) ?_
              refine lv_iload_n E.hx E.hb dX6_program_102 rfl (lv_at hl 3 rfl) ?_
              refine lv_iload E.hx E.hb dX6_program_103 (lv_at hl 4 rfl) ?_
              obtain ⟨q_7, e_8, h⟩ := obind h
              refine iv_X6_148 E N K0 P S e_8 (by decide) hl.1 (Nat.le_of_ble_eq_true rfl) dX6_program_105 (fun H locs P S => ?_)
              cases h
              exact W.iret E.hx E.hb E.hr (fun t ht _ => ⟨rfl, by rw [ht]; exact P, S.F ht⟩) S.2.2 dX6_program_108 E.hk
            · rw [if_neg c_6] at h
              exact nomatch h
          · rw [if_pos c_5] at h
            exact nomatch h
      · rw [if_neg c_3] at h
        exact nomatch h
  · rw [if_pos c_1] at h
    exact nomatch h
theorem c_X6_program (l : Launch) {H : Heap} {D : va_G} {cyI : ClassId} {ad : Nat → Nat} {I : Nat → Int32} {A : Nat → Nat → Int32} (N : AdN 44 ad) (P : va_P D classes (cw cyI ad I A) H) (x1 x2 x3 x4 : Int32) {out : Int32 × (Nat → Int32) × (Nat → Nat → Int32)} (h : B_X6_program I A x1 x2 x3 x4 = some out) : MRW l yX6_program cX6_program 5 (some .int) 3 [.ref (ad 0), .int x1, .int x2, .int x3, .int x4] H (KC D cyI ad) (InN 44 ad) (some (.int out.1)) (fun H1 => va_P D classes (cw cyI ad out.2.1 out.2.2) H1) := by
  refine Mof (own := RX6) (by decide +kernel) rfl rfl ?_
  intro p e s m args below meth c ls E hH K0 hl
  subst hH
  exact w_X6_program E K0 N P va_S.rf h hl
theorem ds_X6_program : Dsc yX6_program 4 := ⟨by decide +kernel, by decide +kernel, by decide +kernel⟩
end
section
variable {p : Program} {l : Launch} {e : Env} {s : State} {m : MethodId} {args : Array Value} {below : List Frame} {meth : Method} {c : Code} {D : va_G} {cyI : ClassId} {ad : Nat → Nat} {I : Nat → Int32} {A : Nat → Nat → Int32}
def B_X6_now (I : Nat → Int32) (A : Nat → Nat → Int32)  : Int32 := (I 1)
set_option maxHeartbeats 4000000 in
set_option maxRecDepth 100000 in
theorem w_X6_now (E : EX p s m args meth c cX6_now 1 RX6 (some .int)) (K0 : KC D cyI ad s s.heap) (P : va_P D classes (cw cyI ad I A) s.heap)  {out : Int32} (h : B_X6_now I A  = out) {ls : Array Slot} (hl : lv_has ls 1 [(0, .ref (ad 0))]) : W p l e (rmL 0) s m args below meth c s.heap [] 0 0 (MQ below (vp_Si (fun z => z = out)) args s 0 0 (fun _ => False)) (F0 m 0 ls []) := by
  unfold B_X6_now at h
  refine lv_aload_n E.hx E.hb dX6_now_0 rfl (lv_at hl 0 rfl) ?_
  refine gf_X6_140 E K0 P dX6_now_1 ?_
  exact W.iret E.hx E.hb E.hr (fun t ht _ => ⟨_, rfl, h, ht⟩) (fun q hq => nomatch hq) dX6_now_4 E.hk
theorem c_X6_now (l : Launch) {H : Heap} {D : va_G} {cyI : ClassId} {ad : Nat → Nat} {I : Nat → Int32} {A : Nat → Nat → Int32} (P : va_P D classes (cw cyI ad I A) H)  : MRO l yX6_now cX6_now 1 (some .int) 0 [.ref (ad 0)] H (KC D cyI ad) (B_X6_now I A ) := by
  refine Mof (own := RX6) (by decide +kernel) rfl rfl ?_
  intro p e s m args below meth c ls E hH K0 hl
  subst hH
  exact w_X6_now E K0 P rfl hl
theorem ds_X6_now : Dsc yX6_now 0 := ⟨by decide +kernel, by decide +kernel, by decide +kernel⟩
end
section
variable {p : Program} {l : Launch} {e : Env} {s : State} {m : MethodId} {args : Array Value} {below : List Frame} {meth : Method} {c : Code} {D : va_G} {cyI : ClassId} {ad : Nat → Nat} {I : Nat → Int32} {A : Nat → Nat → Int32}
def B_X6_energy (I : Nat → Int32) (A : Nat → Nat → Int32)  : Int32 := (I 9)
set_option maxHeartbeats 4000000 in
set_option maxRecDepth 100000 in
theorem w_X6_energy (E : EX p s m args meth c cX6_energy 1 RX6 (some .int)) (K0 : KC D cyI ad s s.heap) (P : va_P D classes (cw cyI ad I A) s.heap)  {out : Int32} (h : B_X6_energy I A  = out) {ls : Array Slot} (hl : lv_has ls 1 [(0, .ref (ad 0))]) : W p l e (rmL 0) s m args below meth c s.heap [] 0 0 (MQ below (vp_Si (fun z => z = out)) args s 0 0 (fun _ => False)) (F0 m 0 ls []) := by
  unfold B_X6_energy at h
  refine lv_aload_n E.hx E.hb dX6_energy_0 rfl (lv_at hl 0 rfl) ?_
  refine gf_X6_21 E K0 P dX6_energy_1 ?_
  refine gf_X6_190 E K0 P dX6_energy_4 ?_
  exact W.iret E.hx E.hb E.hr (fun t ht _ => ⟨_, rfl, h, ht⟩) (fun q hq => nomatch hq) dX6_energy_7 E.hk
theorem c_X6_energy (l : Launch) {H : Heap} {D : va_G} {cyI : ClassId} {ad : Nat → Nat} {I : Nat → Int32} {A : Nat → Nat → Int32} (P : va_P D classes (cw cyI ad I A) H)  : MRO l yX6_energy cX6_energy 1 (some .int) 0 [.ref (ad 0)] H (KC D cyI ad) (B_X6_energy I A ) := by
  refine Mof (own := RX6) (by decide +kernel) rfl rfl ?_
  intro p e s m args below meth c ls E hH K0 hl
  subst hH
  exact w_X6_energy E K0 P rfl hl
theorem ds_X6_energy : Dsc yX6_energy 0 := ⟨by decide +kernel, by decide +kernel, by decide +kernel⟩
end
section
variable {p : Program} {l : Launch} {e : Env} {R : Room} {s : State} {m : MethodId} {args : Array Value} {below : List Frame} {meth : Method} {c : Code} {H : Heap} {locs : List Loc} {cells slots : Nat} {Q : State → Prop} {cc : ByteArray} {nL pc : Nat} {ret : Option FieldType} {ls : Array Slot} {rest : List Value} {D : va_G} {cyI : ClassId} {ad : Nat → Nat} {I : Nat → Int32} {A : Nat → Nat → Int32}
theorem iv_X6_193 (E : EX p s m args meth c cc nL RX6 ret) (K0 : KC D cyI ad s s.heap) (P : va_P D classes (cw cyI ad I A) H) (S : va_S (InN 44 ad) s.heap H locs) {v : Int32} (hv : B_X1_sum I A  = some v) (hR : RmOk R cells slots 3 5) (hls : ls.size = nL) (hro : (rest.map fun v => v.category).sum ≤ 8) (hdg : decode cc pc = .ok (.invokevirtual 193, 3)) (kk : W p l e R s m args below meth c H locs cells slots Q (F0 m (pc + 3) ls (.int v :: rest))) : W p l e R s m args below meth c H locs cells slots Q (F0 m pc ls (.ref (ad 2) :: rest)) :=
  cv_ro E (c_X1_sum l P  hv) (gV kML_X6_193 kIM_X1_sum kSE_X1_sum kIN_X1 kCO_X1_sum) rfl ds_X1_sum rfl KC_blind (fun U _ hW => (K0.at S).warm hW) (va_recv K0.k P (show classes[1]? = some (RX1, TX1, 11) from rfl) cw_g2) hR hls rfl hro hdg kk
end
section
variable {p : Program} {l : Launch} {e : Env} {s : State} {m : MethodId} {args : Array Value} {below : List Frame} {meth : Method} {c : Code} {D : va_G} {cyI : ClassId} {ad : Nat → Nat} {I : Nat → Int32} {A : Nat → Nat → Int32}
def B_X6_energyAnew (I : Nat → Int32) (A : Nat → Nat → Int32)  : Option (Int32) := (B_X1_sum I A ).bind fun r_1 => some r_1
set_option maxHeartbeats 4000000 in
set_option maxRecDepth 100000 in
theorem w_X6_energyAnew (E : EX p s m args meth c cX6_energyAnew 1 RX6 (some .int)) (K0 : KC D cyI ad s s.heap) (P : va_P D classes (cw cyI ad I A) s.heap)  {out : Int32} (h : B_X6_energyAnew I A  = some out) {ls : Array Slot} (hl : lv_has ls 1 [(0, .ref (ad 0))]) : W p l e (rmL 4) s m args below meth c s.heap [] 0 0 (MQ below (vp_Si (fun z => z = out)) args s 0 0 (fun _ => False)) (F0 m 0 ls []) := by
  unfold B_X6_energyAnew at h
  refine lv_aload_n E.hx E.hb dX6_energyAnew_0 rfl (lv_at hl 0 rfl) ?_
  refine gf_X6_21 E K0 P dX6_energyAnew_1 ?_
  obtain ⟨r_1, e_2, h⟩ := obind h
  refine iv_X6_193 E K0 P va_S.rf e_2 (by decide) hl.1 (Nat.le_of_ble_eq_true rfl) dX6_energyAnew_4 ?_
  exact W.iret E.hx E.hb E.hr (fun t ht _ => ⟨_, rfl, (Option.some.inj h), ht⟩) (fun q hq => nomatch hq) dX6_energyAnew_7 E.hk
theorem c_X6_energyAnew (l : Launch) {H : Heap} {D : va_G} {cyI : ClassId} {ad : Nat → Nat} {I : Nat → Int32} {A : Nat → Nat → Int32} (P : va_P D classes (cw cyI ad I A) H)  {out : Int32} (h : B_X6_energyAnew I A  = some out) : MRO l yX6_energyAnew cX6_energyAnew 1 (some .int) 4 [.ref (ad 0)] H (KC D cyI ad) out := by
  refine Mof (own := RX6) (by decide +kernel) rfl rfl ?_
  intro p e s m args below meth c ls E hH K0 hl
  subst hH
  exact w_X6_energyAnew E K0 P h hl
theorem ds_X6_energyAnew : Dsc yX6_energyAnew 0 := ⟨by decide +kernel, by decide +kernel, by decide +kernel⟩
end
section
variable {p : Program} {l : Launch} {e : Env} {s : State} {m : MethodId} {args : Array Value} {below : List Frame} {meth : Method} {c : Code} {D : va_G} {cyI : ClassId} {ad : Nat → Nat} {I : Nat → Int32} {A : Nat → Nat → Int32}
def B_X6_spent (I : Nat → Int32) (A : Nat → Nat → Int32) (x1 : Int32) : Int32 := if x1 = 0 then (I 2) else (I 3)
set_option maxHeartbeats 4000000 in
set_option maxRecDepth 100000 in
theorem w_X6_spent (E : EX p s m args meth c cX6_spent 2 RX6 (some .int)) (K0 : KC D cyI ad s s.heap) (P : va_P D classes (cw cyI ad I A) s.heap)  {x1 : Int32} {out : Int32} (h : B_X6_spent I A x1 = out) {ls : Array Slot} (hl : lv_has ls 2 [(0, .ref (ad 0)), (1, .int x1)]) : W p l e (rmL 0) s m args below meth c s.heap [] 0 0 (MQ below (vp_Si (fun z => z = out)) args s 0 0 (fun _ => False)) (F0 m 0 ls []) := by
  unfold B_X6_spent at h
  refine lv_iload_n E.hx E.hb dX6_spent_0 rfl (lv_at hl 1 rfl) ?_
  refine lv_if_eq (tgt := 11) E.hx E.hb dX6_spent_1 (by decide) (fun c_1 => ?_) (fun c_1 => ?_)
  · rw [if_pos c_1] at h
    refine lv_aload_n E.hx E.hb dX6_spent_11 rfl (lv_at hl 0 rfl) ?_
    refine gf_X6_196 E K0 P dX6_spent_12 ?_
    exact W.iret E.hx E.hb E.hr (fun t ht _ => ⟨_, rfl, h, ht⟩) (fun q hq => nomatch hq) dX6_spent_15 E.hk
  · rw [if_neg c_1] at h
    refine lv_aload_n E.hx E.hb dX6_spent_4 rfl (lv_at hl 0 rfl) ?_
    refine gf_X6_155 E K0 P dX6_spent_5 ?_
    refine lv_goto (tgt := 15) E.hx E.hb dX6_spent_8 (by decide) ?_
    exact W.iret E.hx E.hb E.hr (fun t ht _ => ⟨_, rfl, h, ht⟩) (fun q hq => nomatch hq) dX6_spent_15 E.hk
theorem c_X6_spent (l : Launch) {H : Heap} {D : va_G} {cyI : ClassId} {ad : Nat → Nat} {I : Nat → Int32} {A : Nat → Nat → Int32} (P : va_P D classes (cw cyI ad I A) H) (x1 : Int32) : MRO l yX6_spent cX6_spent 2 (some .int) 0 [.ref (ad 0), .int x1] H (KC D cyI ad) (B_X6_spent I A x1) := by
  refine Mof (own := RX6) (by decide +kernel) rfl rfl ?_
  intro p e s m args below meth c ls E hH K0 hl
  subst hH
  exact w_X6_spent E K0 P rfl hl
theorem ds_X6_spent : Dsc yX6_spent 1 := ⟨by decide +kernel, by decide +kernel, by decide +kernel⟩
end
section
variable {p : Program} {l : Launch} {e : Env} {R : Room} {s : State} {m : MethodId} {args : Array Value} {below : List Frame} {meth : Method} {c : Code} {H : Heap} {locs : List Loc} {cells slots : Nat} {Q : State → Prop} {cc : ByteArray} {nL pc : Nat} {ret : Option FieldType} {ls : Array Slot} {rest : List Value} {D : va_G} {cyI : ClassId} {ad : Nat → Nat} {I : Nat → Int32} {A : Nat → Nat → Int32}
theorem iv_X6_203 (E : EX p s m args meth c cc nL RX6 ret) (K0 : KC D cyI ad s s.heap) (P : va_P D classes (cw cyI ad I A) H) (S : va_S (InN 44 ad) s.heap H locs) {a0 a1 : Int32} (hR : RmOk R cells slots 1 3) (hls : ls.size = nL) (hro : (rest.map fun v => v.category).sum ≤ 8) (hdg : decode cc pc = .ok (.invokevirtual 203, 3)) (kk : W p l e R s m args below meth c H locs cells slots Q (F0 m (pc + 3) ls (.int (B_X5_has I A a0 a1) :: rest))) : W p l e R s m args below meth c H locs cells slots Q (F0 m pc ls (.int a1 :: .int a0 :: .ref (ad 3) :: rest)) :=
  cv_ro E (c_X5_has l P a0 a1 ) (gV kML_X6_203 kIM_X5_has kSE_X5_has kIN_X5 kCO_X5_has) rfl ds_X5_has rfl KC_blind (fun U _ hW => (K0.at S).warm hW) (va_recv K0.k P (show classes[5]? = some (RX5, TX5, 1) from rfl) cw_g3) hR hls rfl hro hdg kk
end
section
variable {p : Program} {l : Launch} {e : Env} {R : Room} {s : State} {m : MethodId} {args : Array Value} {below : List Frame} {meth : Method} {c : Code} {H : Heap} {locs : List Loc} {cells slots : Nat} {Q : State → Prop} {cc : ByteArray} {nL pc : Nat} {ret : Option FieldType} {ls : Array Slot} {rest : List Value} {D : va_G} {cyI : ClassId} {ad : Nat → Nat} {I : Nat → Int32} {A : Nat → Nat → Int32}
theorem iv_X6_206 (E : EX p s m args meth c cc nL RX6 ret) (K0 : KC D cyI ad s s.heap) (P : va_P D classes (cw cyI ad I A) H) (S : va_S (InN 44 ad) s.heap H locs) {a0 a1 : Int32} {v : Int32} (hv : B_X5_at I A a0 a1 = some v) (hR : RmOk R cells slots 3 3) (hls : ls.size = nL) (hro : (rest.map fun v => v.category).sum ≤ 8) (hdg : decode cc pc = .ok (.invokevirtual 206, 3)) (kk : W p l e R s m args below meth c H locs cells slots Q (F0 m (pc + 3) ls (.int v :: rest))) : W p l e R s m args below meth c H locs cells slots Q (F0 m pc ls (.int a1 :: .int a0 :: .ref (ad 3) :: rest)) :=
  cv_ro E (c_X5_at l P a0 a1 hv) (gV kML_X6_206 kIM_X5_at kSE_X5_at kIN_X5 kCO_X5_at) rfl ds_X5_at rfl KC_blind (fun U _ hW => (K0.at S).warm hW) (va_recv K0.k P (show classes[5]? = some (RX5, TX5, 1) from rfl) cw_g3) hR hls rfl hro hdg kk
end
section
variable {p : Program} {l : Launch} {e : Env} {s : State} {m : MethodId} {args : Array Value} {below : List Frame} {meth : Method} {c : Code} {D : va_G} {cyI : ClassId} {ad : Nat → Nat} {I : Nat → Int32} {A : Nat → Nat → Int32}
def B_X6_winding (I : Nat → Int32) (A : Nat → Nat → Int32) (x1 x2 : Int32) : Option (Int32) := if (B_X5_has I A x1 x2) = 0 then none else ((B_X5_at I A x1 x2).bind fun r_2 => some r_2)
set_option maxHeartbeats 4000000 in
set_option maxRecDepth 100000 in
theorem w_X6_winding (E : EX p s m args meth c cX6_winding 3 RX6 (some .int)) (K0 : KC D cyI ad s s.heap) (P : va_P D classes (cw cyI ad I A) s.heap)  {x1 x2 : Int32} {out : Int32} (h : B_X6_winding I A x1 x2 = some out) {ls : Array Slot} (hl : lv_has ls 3 [(0, .ref (ad 0)), (1, .int x1), (2, .int x2)]) : W p l e (rmL 4) s m args below meth c s.heap [] 0 0 (MQ below (vp_Si (fun z => z = out)) args s 0 0 (fun _ => False)) (F0 m 0 ls []) := by
  unfold B_X6_winding at h
  refine lv_aload_n E.hx E.hb dX6_winding_0 rfl (lv_at hl 0 rfl) ?_
  refine gf_X6_30 E K0 P dX6_winding_1 ?_
  refine lv_iload_n E.hx E.hb dX6_winding_4 rfl (lv_at hl 1 rfl) ?_
  refine lv_iload_n E.hx E.hb dX6_winding_5 rfl (lv_at hl 2 rfl) ?_
  refine iv_X6_203 E K0 P va_S.rf (by decide) hl.1 (Nat.le_of_ble_eq_true rfl) dX6_winding_6 ?_
  refine lv_if_ne (tgt := 22) E.hx E.hb dX6_winding_9 (by decide) (fun c_1 => ?_) (fun c_1 => ?_)
  · rw [if_neg c_1] at h
    refine lv_aload_n E.hx E.hb dX6_winding_22 rfl (lv_at hl 0 rfl) ?_
    refine gf_X6_30 E K0 P dX6_winding_23 ?_
    refine lv_iload_n E.hx E.hb dX6_winding_26 rfl (lv_at hl 1 rfl) ?_
    refine lv_iload_n E.hx E.hb dX6_winding_27 rfl (lv_at hl 2 rfl) ?_
    obtain ⟨r_2, e_3, h⟩ := obind h
    refine iv_X6_206 E K0 P va_S.rf e_3 (by decide) hl.1 (Nat.le_of_ble_eq_true rfl) dX6_winding_28 ?_
    exact W.iret E.hx E.hb E.hr (fun t ht _ => ⟨_, rfl, (Option.some.inj h), ht⟩) (fun q hq => nomatch hq) dX6_winding_31 E.hk
  · rw [if_pos c_1] at h
    exact nomatch h
theorem c_X6_winding (l : Launch) {H : Heap} {D : va_G} {cyI : ClassId} {ad : Nat → Nat} {I : Nat → Int32} {A : Nat → Nat → Int32} (P : va_P D classes (cw cyI ad I A) H) (x1 x2 : Int32) {out : Int32} (h : B_X6_winding I A x1 x2 = some out) : MRO l yX6_winding cX6_winding 3 (some .int) 4 [.ref (ad 0), .int x1, .int x2] H (KC D cyI ad) out := by
  refine Mof (own := RX6) (by decide +kernel) rfl rfl ?_
  intro p e s m args below meth c ls E hH K0 hl
  subst hH
  exact w_X6_winding E K0 P h hl
theorem ds_X6_winding : Dsc yX6_winding 2 := ⟨by decide +kernel, by decide +kernel, by decide +kernel⟩
end
section
variable {p : Program} {l : Launch} {e : Env} {R : Room} {s : State} {m : MethodId} {args : Array Value} {below : List Frame} {meth : Method} {c : Code} {H : Heap} {locs : List Loc} {cells slots : Nat} {Q : State → Prop} {cc : ByteArray} {nL pc : Nat} {ret : Option FieldType} {ls : Array Slot} {rest : List Value} {D : va_G} {cyI : ClassId} {ad : Nat → Nat} {I : Nat → Int32} {A : Nat → Nat → Int32}
theorem iv_X6_211 (E : EX p s m args meth c cc nL RX6 ret) (K0 : KC D cyI ad s s.heap) (P : va_P D classes (cw cyI ad I A) H) (S : va_S (InN 44 ad) s.heap H locs) {a0 a1 a2 a3 : Int32} {v : Int32} (hv : B_X5_sum I A a0 a1 a2 a3 = some v) (hR : RmOk R cells slots 4 8) (hls : ls.size = nL) (hro : (rest.map fun v => v.category).sum ≤ 8) (hdg : decode cc pc = .ok (.invokevirtual 211, 3)) (kk : W p l e R s m args below meth c H locs cells slots Q (F0 m (pc + 3) ls (.int v :: rest))) : W p l e R s m args below meth c H locs cells slots Q (F0 m pc ls (.int a3 :: .int a2 :: .int a1 :: .int a0 :: .ref (ad 3) :: rest)) :=
  cv_ro E (c_X5_sum l P a0 a1 a2 a3 hv) (gV kML_X6_211 kIM_X5_sum kSE_X5_sum kIN_X5 kCO_X5_sum) rfl ds_X5_sum rfl KC_blind (fun U _ hW => (K0.at S).warm hW) (va_recv K0.k P (show classes[5]? = some (RX5, TX5, 1) from rfl) cw_g3) hR hls rfl hro hdg kk
end
section
variable {p : Program} {l : Launch} {e : Env} {s : State} {m : MethodId} {args : Array Value} {below : List Frame} {meth : Method} {c : Code} {D : va_G} {cyI : ClassId} {ad : Nat → Nat} {I : Nat → Int32} {A : Nat → Nat → Int32}
def B_X6_within (I : Nat → Int32) (A : Nat → Nat → Int32) (x1 x2 x3 x4 : Int32) : Option (Int32) := if (B_X1_has I A x1 x2) = 0 then none else (if (B_X1_has I A x3 x4) = 0 then none else (if x3 ≤ x1 then none else (if x2 < x4 then ((B_X5_sum I A x1 x2 x3 x4).bind fun r_5 => some r_5) else none)))
set_option maxHeartbeats 4000000 in
set_option maxRecDepth 100000 in
theorem w_X6_within (E : EX p s m args meth c cX6_within 5 RX6 (some .int)) (K0 : KC D cyI ad s s.heap) (P : va_P D classes (cw cyI ad I A) s.heap)  {x1 x2 x3 x4 : Int32} {out : Int32} (h : B_X6_within I A x1 x2 x3 x4 = some out) {ls : Array Slot} (hl : lv_has ls 5 [(0, .ref (ad 0)), (1, .int x1), (2, .int x2), (3, .int x3), (4, .int x4)]) : W p l e (rmL 5) s m args below meth c s.heap [] 0 0 (MQ below (vp_Si (fun z => z = out)) args s 0 0 (fun _ => False)) (F0 m 0 ls []) := by
  unfold B_X6_within at h
  refine lv_aload_n E.hx E.hb dX6_within_0 rfl (lv_at hl 0 rfl) ?_
  refine gf_X6_21 E K0 P dX6_within_1 ?_
  refine lv_iload_n E.hx E.hb dX6_within_4 rfl (lv_at hl 1 rfl) ?_
  refine lv_iload_n E.hx E.hb dX6_within_5 rfl (lv_at hl 2 rfl) ?_
  refine iv_X6_77 E K0 P va_S.rf (by decide) hl.1 (Nat.le_of_ble_eq_true rfl) dX6_within_6 ?_
  refine lv_if_eq (tgt := 25) E.hx E.hb dX6_within_9 (by decide) (fun c_1 => ?_) (fun c_1 => ?_)
  · rw [if_pos c_1] at h
    exact nomatch h
  · rw [if_neg c_1] at h
    refine lv_aload_n E.hx E.hb dX6_within_12 rfl (lv_at hl 0 rfl) ?_
    refine gf_X6_21 E K0 P dX6_within_13 ?_
    refine lv_iload_n E.hx E.hb dX6_within_16 rfl (lv_at hl 3 rfl) ?_
    refine lv_iload E.hx E.hb dX6_within_17 (lv_at hl 4 rfl) ?_
    refine iv_X6_77 E K0 P va_S.rf (by decide) hl.1 (Nat.le_of_ble_eq_true rfl) dX6_within_19 ?_
    refine lv_if_ne (tgt := 35) E.hx E.hb dX6_within_22 (by decide) (fun c_2 => ?_) (fun c_2 => ?_)
    · rw [if_neg c_2] at h
      refine lv_iload_n E.hx E.hb dX6_within_35 rfl (lv_at hl 3 rfl) ?_
      refine lv_iload_n E.hx E.hb dX6_within_36 rfl (lv_at hl 1 rfl) ?_
      refine lv_icmp_le (tgt := 46) E.hx E.hb dX6_within_37 (by decide) (fun c_3 => ?_) (fun c_3 => ?_)
      · rw [if_pos c_3] at h
        exact nomatch h
      · rw [if_neg c_3] at h
        refine lv_iload E.hx E.hb dX6_within_40 (lv_at hl 4 rfl) ?_
        refine lv_iload_n E.hx E.hb dX6_within_42 rfl (lv_at hl 2 rfl) ?_
        refine lv_icmp_gt (tgt := 56) E.hx E.hb dX6_within_43 (by decide) (fun c_4 => ?_) (fun c_4 => ?_)
        · rw [if_pos c_4] at h
          refine lv_aload_n E.hx E.hb dX6_within_56 rfl (lv_at hl 0 rfl) ?_
          refine gf_X6_30 E K0 P dX6_within_57 ?_
          refine lv_iload_n E.hx E.hb dX6_within_60 rfl (lv_at hl 1 rfl) ?_
          refine lv_iload_n E.hx E.hb dX6_within_61 rfl (lv_at hl 2 rfl) ?_
          refine lv_iload_n E.hx E.hb dX6_within_62 rfl (lv_at hl 3 rfl) ?_
          refine lv_iload E.hx E.hb dX6_within_63 (lv_at hl 4 rfl) ?_
          obtain ⟨r_5, e_6, h⟩ := obind h
          refine iv_X6_211 E K0 P va_S.rf e_6 (by decide) hl.1 (Nat.le_of_ble_eq_true rfl) dX6_within_65 ?_
          exact W.iret E.hx E.hb E.hr (fun t ht _ => ⟨_, rfl, (Option.some.inj h), ht⟩) (fun q hq => nomatch hq) dX6_within_68 E.hk
        · rw [if_neg c_4] at h
          exact nomatch h
    · rw [if_pos c_2] at h
      exact nomatch h
theorem c_X6_within (l : Launch) {H : Heap} {D : va_G} {cyI : ClassId} {ad : Nat → Nat} {I : Nat → Int32} {A : Nat → Nat → Int32} (P : va_P D classes (cw cyI ad I A) H) (x1 x2 x3 x4 : Int32) {out : Int32} (h : B_X6_within I A x1 x2 x3 x4 = some out) : MRO l yX6_within cX6_within 5 (some .int) 5 [.ref (ad 0), .int x1, .int x2, .int x3, .int x4] H (KC D cyI ad) out := by
  refine Mof (own := RX6) (by decide +kernel) rfl rfl ?_
  intro p e s m args below meth c ls E hH K0 hl
  subst hH
  exact w_X6_within E K0 P h hl
theorem ds_X6_within : Dsc yX6_within 4 := ⟨by decide +kernel, by decide +kernel, by decide +kernel⟩
end
section
variable {p : Program} {l : Launch} {e : Env} {R : Room} {s : State} {m : MethodId} {args : Array Value} {below : List Frame} {meth : Method} {c : Code} {H : Heap} {locs : List Loc} {cells slots : Nat} {Q : State → Prop} {cc : ByteArray} {nL pc : Nat} {ret : Option FieldType} {ls : Array Slot} {rest : List Value} {D : va_G} {cyI : ClassId} {ad : Nat → Nat} {I : Nat → Int32} {A : Nat → Nat → Int32}
theorem iv_X6_213 (E : EX p s m args meth c cc nL RX6 ret) (K0 : KC D cyI ad s s.heap) (P : va_P D classes (cw cyI ad I A) H) (S : va_S (InN 44 ad) s.heap H locs) {a0 a1 a2 a3 : Int32} {v : Int32} (hv : B_X5_around I A a0 a1 a2 a3 = some v) (hR : RmOk R cells slots 2 7) (hls : ls.size = nL) (hro : (rest.map fun v => v.category).sum ≤ 8) (hdg : decode cc pc = .ok (.invokevirtual 213, 3)) (kk : W p l e R s m args below meth c H locs cells slots Q (F0 m (pc + 3) ls (.int v :: rest))) : W p l e R s m args below meth c H locs cells slots Q (F0 m pc ls (.int a3 :: .int a2 :: .int a1 :: .int a0 :: .ref (ad 3) :: rest)) :=
  cv_ro E (c_X5_around l P a0 a1 a2 a3 hv) (gV kML_X6_213 kIM_X5_around kSE_X5_around kIN_X5 kCO_X5_around) rfl ds_X5_around rfl KC_blind (fun U _ hW => (K0.at S).warm hW) (va_recv K0.k P (show classes[5]? = some (RX5, TX5, 1) from rfl) cw_g3) hR hls rfl hro hdg kk
end
section
variable {p : Program} {l : Launch} {e : Env} {s : State} {m : MethodId} {args : Array Value} {below : List Frame} {meth : Method} {c : Code} {D : va_G} {cyI : ClassId} {ad : Nat → Nat} {I : Nat → Int32} {A : Nat → Nat → Int32}
def B_X6_border (I : Nat → Int32) (A : Nat → Nat → Int32) (x1 x2 x3 x4 : Int32) : Option (Int32) := if (B_X1_has I A x1 x2) = 0 then none else (if (B_X1_has I A x3 x4) = 0 then none else (if x3 ≤ x1 then none else (if x2 < x4 then ((B_X5_around I A x1 x2 x3 x4).bind fun r_5 => some r_5) else none)))
set_option maxHeartbeats 4000000 in
set_option maxRecDepth 100000 in
theorem w_X6_border (E : EX p s m args meth c cX6_border 5 RX6 (some .int)) (K0 : KC D cyI ad s s.heap) (P : va_P D classes (cw cyI ad I A) s.heap)  {x1 x2 x3 x4 : Int32} {out : Int32} (h : B_X6_border I A x1 x2 x3 x4 = some out) {ls : Array Slot} (hl : lv_has ls 5 [(0, .ref (ad 0)), (1, .int x1), (2, .int x2), (3, .int x3), (4, .int x4)]) : W p l e (rmL 3) s m args below meth c s.heap [] 0 0 (MQ below (vp_Si (fun z => z = out)) args s 0 0 (fun _ => False)) (F0 m 0 ls []) := by
  unfold B_X6_border at h
  refine lv_aload_n E.hx E.hb dX6_border_0 rfl (lv_at hl 0 rfl) ?_
  refine gf_X6_21 E K0 P dX6_border_1 ?_
  refine lv_iload_n E.hx E.hb dX6_border_4 rfl (lv_at hl 1 rfl) ?_
  refine lv_iload_n E.hx E.hb dX6_border_5 rfl (lv_at hl 2 rfl) ?_
  refine iv_X6_77 E K0 P va_S.rf (by decide) hl.1 (Nat.le_of_ble_eq_true rfl) dX6_border_6 ?_
  refine lv_if_eq (tgt := 25) E.hx E.hb dX6_border_9 (by decide) (fun c_1 => ?_) (fun c_1 => ?_)
  · rw [if_pos c_1] at h
    exact nomatch h
  · rw [if_neg c_1] at h
    refine lv_aload_n E.hx E.hb dX6_border_12 rfl (lv_at hl 0 rfl) ?_
    refine gf_X6_21 E K0 P dX6_border_13 ?_
    refine lv_iload_n E.hx E.hb dX6_border_16 rfl (lv_at hl 3 rfl) ?_
    refine lv_iload E.hx E.hb dX6_border_17 (lv_at hl 4 rfl) ?_
    refine iv_X6_77 E K0 P va_S.rf (by decide) hl.1 (Nat.le_of_ble_eq_true rfl) dX6_border_19 ?_
    refine lv_if_ne (tgt := 35) E.hx E.hb dX6_border_22 (by decide) (fun c_2 => ?_) (fun c_2 => ?_)
    · rw [if_neg c_2] at h
      refine lv_iload_n E.hx E.hb dX6_border_35 rfl (lv_at hl 3 rfl) ?_
      refine lv_iload_n E.hx E.hb dX6_border_36 rfl (lv_at hl 1 rfl) ?_
      refine lv_icmp_le (tgt := 46) E.hx E.hb dX6_border_37 (by decide) (fun c_3 => ?_) (fun c_3 => ?_)
      · rw [if_pos c_3] at h
        exact nomatch h
      · rw [if_neg c_3] at h
        refine lv_iload E.hx E.hb dX6_border_40 (lv_at hl 4 rfl) ?_
        refine lv_iload_n E.hx E.hb dX6_border_42 rfl (lv_at hl 2 rfl) ?_
        refine lv_icmp_gt (tgt := 56) E.hx E.hb dX6_border_43 (by decide) (fun c_4 => ?_) (fun c_4 => ?_)
        · rw [if_pos c_4] at h
          refine lv_aload_n E.hx E.hb dX6_border_56 rfl (lv_at hl 0 rfl) ?_
          refine gf_X6_30 E K0 P dX6_border_57 ?_
          refine lv_iload_n E.hx E.hb dX6_border_60 rfl (lv_at hl 1 rfl) ?_
          refine lv_iload_n E.hx E.hb dX6_border_61 rfl (lv_at hl 2 rfl) ?_
          refine lv_iload_n E.hx E.hb dX6_border_62 rfl (lv_at hl 3 rfl) ?_
          refine lv_iload E.hx E.hb dX6_border_63 (lv_at hl 4 rfl) ?_
          obtain ⟨r_5, e_6, h⟩ := obind h
          refine iv_X6_213 E K0 P va_S.rf e_6 (by decide) hl.1 (Nat.le_of_ble_eq_true rfl) dX6_border_65 ?_
          exact W.iret E.hx E.hb E.hr (fun t ht _ => ⟨_, rfl, (Option.some.inj h), ht⟩) (fun q hq => nomatch hq) dX6_border_68 E.hk
        · rw [if_neg c_4] at h
          exact nomatch h
    · rw [if_pos c_2] at h
      exact nomatch h
theorem c_X6_border (l : Launch) {H : Heap} {D : va_G} {cyI : ClassId} {ad : Nat → Nat} {I : Nat → Int32} {A : Nat → Nat → Int32} (P : va_P D classes (cw cyI ad I A) H) (x1 x2 x3 x4 : Int32) {out : Int32} (h : B_X6_border I A x1 x2 x3 x4 = some out) : MRO l yX6_border cX6_border 5 (some .int) 3 [.ref (ad 0), .int x1, .int x2, .int x3, .int x4] H (KC D cyI ad) out := by
  refine Mof (own := RX6) (by decide +kernel) rfl rfl ?_
  intro p e s m args below meth c ls E hH K0 hl
  subst hH
  exact w_X6_border E K0 P h hl
theorem ds_X6_border : Dsc yX6_border 4 := ⟨by decide +kernel, by decide +kernel, by decide +kernel⟩
end
section
variable {p : Program} {l : Launch} {e : Env} {R : Room} {s : State} {m : MethodId} {args : Array Value} {below : List Frame} {meth : Method} {c : Code} {H : Heap} {locs : List Loc} {cells slots : Nat} {Q : State → Prop} {cc : ByteArray} {nL pc : Nat} {ret : Option FieldType} {ls : Array Slot} {rest : List Value} {D : va_G} {cyI : ClassId} {ad : Nat → Nat} {I : Nat → Int32} {A : Nat → Nat → Int32}
theorem iv_X6_216 (E : EX p s m args meth c cc nL RX6 ret) (K0 : KC D cyI ad s s.heap) (P : va_P D classes (cw cyI ad I A) H) (S : va_S (InN 44 ad) s.heap H locs) {v : Int32} (hv : B_X5_count I A  = some v) (hR : RmOk R cells slots 4 4) (hls : ls.size = nL) (hro : (rest.map fun v => v.category).sum ≤ 8) (hdg : decode cc pc = .ok (.invokevirtual 216, 3)) (kk : W p l e R s m args below meth c H locs cells slots Q (F0 m (pc + 3) ls (.int v :: rest))) : W p l e R s m args below meth c H locs cells slots Q (F0 m pc ls (.ref (ad 3) :: rest)) :=
  cv_ro E (c_X5_count l P  hv) (gV kML_X6_216 kIM_X5_count kSE_X5_count kIN_X5 kCO_X5_count) rfl ds_X5_count rfl KC_blind (fun U _ hW => (K0.at S).warm hW) (va_recv K0.k P (show classes[5]? = some (RX5, TX5, 1) from rfl) cw_g3) hR hls rfl hro hdg kk
end
section
variable {p : Program} {l : Launch} {e : Env} {s : State} {m : MethodId} {args : Array Value} {below : List Frame} {meth : Method} {c : Code} {D : va_G} {cyI : ClassId} {ad : Nat → Nat} {I : Nat → Int32} {A : Nat → Nat → Int32}
def B_X6_defects (I : Nat → Int32) (A : Nat → Nat → Int32)  : Option (Int32) := (B_X5_count I A ).bind fun r_1 => some r_1
set_option maxHeartbeats 4000000 in
set_option maxRecDepth 100000 in
theorem w_X6_defects (E : EX p s m args meth c cX6_defects 1 RX6 (some .int)) (K0 : KC D cyI ad s s.heap) (P : va_P D classes (cw cyI ad I A) s.heap)  {out : Int32} (h : B_X6_defects I A  = some out) {ls : Array Slot} (hl : lv_has ls 1 [(0, .ref (ad 0))]) : W p l e (rmL 5) s m args below meth c s.heap [] 0 0 (MQ below (vp_Si (fun z => z = out)) args s 0 0 (fun _ => False)) (F0 m 0 ls []) := by
  unfold B_X6_defects at h
  refine lv_aload_n E.hx E.hb dX6_defects_0 rfl (lv_at hl 0 rfl) ?_
  refine gf_X6_30 E K0 P dX6_defects_1 ?_
  obtain ⟨r_1, e_2, h⟩ := obind h
  refine iv_X6_216 E K0 P va_S.rf e_2 (by decide) hl.1 (Nat.le_of_ble_eq_true rfl) dX6_defects_4 ?_
  exact W.iret E.hx E.hb E.hr (fun t ht _ => ⟨_, rfl, (Option.some.inj h), ht⟩) (fun q hq => nomatch hq) dX6_defects_7 E.hk
theorem c_X6_defects (l : Launch) {H : Heap} {D : va_G} {cyI : ClassId} {ad : Nat → Nat} {I : Nat → Int32} {A : Nat → Nat → Int32} (P : va_P D classes (cw cyI ad I A) H)  {out : Int32} (h : B_X6_defects I A  = some out) : MRO l yX6_defects cX6_defects 1 (some .int) 5 [.ref (ad 0)] H (KC D cyI ad) out := by
  refine Mof (own := RX6) (by decide +kernel) rfl rfl ?_
  intro p e s m args below meth c ls E hH K0 hl
  subst hH
  exact w_X6_defects E K0 P h hl
theorem ds_X6_defects : Dsc yX6_defects 0 := ⟨by decide +kernel, by decide +kernel, by decide +kernel⟩
end
section
variable {p : Program} {l : Launch} {e : Env} {R : Room} {s : State} {m : MethodId} {args : Array Value} {below : List Frame} {meth : Method} {c : Code} {H : Heap} {locs : List Loc} {cells slots : Nat} {Q : State → Prop} {cc : ByteArray} {nL pc : Nat} {ret : Option FieldType} {ls : Array Slot} {rest : List Value} {D : va_G} {cyI : ClassId} {ad : Nat → Nat} {I : Nat → Int32} {A : Nat → Nat → Int32}
theorem iv_X6_218 (E : EX p s m args meth c cc nL RX6 ret) (K0 : KC D cyI ad s s.heap) (P : va_P D classes (cw cyI ad I A) H) (S : va_S (InN 44 ad) s.heap H locs) {a0 : Int32} {v : Int32} (hv : B_X5_find I A a0 = some v) (hR : RmOk R cells slots 4 5) (hls : ls.size = nL) (hro : (rest.map fun v => v.category).sum ≤ 8) (hdg : decode cc pc = .ok (.invokevirtual 218, 3)) (kk : W p l e R s m args below meth c H locs cells slots Q (F0 m (pc + 3) ls (.int v :: rest))) : W p l e R s m args below meth c H locs cells slots Q (F0 m pc ls (.int a0 :: .ref (ad 3) :: rest)) :=
  cv_ro E (c_X5_find l P a0 hv) (gV kML_X6_218 kIM_X5_find kSE_X5_find kIN_X5 kCO_X5_find) rfl ds_X5_find rfl KC_blind (fun U _ hW => (K0.at S).warm hW) (va_recv K0.k P (show classes[5]? = some (RX5, TX5, 1) from rfl) cw_g3) hR hls rfl hro hdg kk
end
section
variable {p : Program} {l : Launch} {e : Env} {s : State} {m : MethodId} {args : Array Value} {below : List Frame} {meth : Method} {c : Code} {D : va_G} {cyI : ClassId} {ad : Nat → Nat} {I : Nat → Int32} {A : Nat → Nat → Int32}
def B_X6_defect (I : Nat → Int32) (A : Nat → Nat → Int32) (x1 x2 : Int32) : Option (Int32) := (B_X5_find I A x1).bind fun r_1 => if r_1 = (-1) then none else (if x2 = 0 then some ((r_1 - r_1 / 12 * 12)) else if x2 = 1 then some ((r_1 / 12)) else if x2 = 2 then ((B_X5_at I A ((r_1 - r_1 / 12 * 12)) ((r_1 / 12))).bind fun r_7 => some r_7) else none)
set_option maxHeartbeats 4000000 in
set_option maxRecDepth 100000 in
theorem w_X6_defect (E : EX p s m args meth c cX6_defect 6 RX6 (some .int)) (K0 : KC D cyI ad s s.heap) (P : va_P D classes (cw cyI ad I A) s.heap)  {x1 x2 : Int32} {out : Int32} (h : B_X6_defect I A x1 x2 = some out) {ls : Array Slot} (hl : lv_has ls 6 [(0, .ref (ad 0)), (1, .int x1), (2, .int x2)]) : W p l e (rmL 5) s m args below meth c s.heap [] 0 0 (MQ below (vp_Si (fun z => z = out)) args s 0 0 (fun _ => False)) (F0 m 0 ls []) := by
  unfold B_X6_defect at h
  refine lv_aload_n E.hx E.hb dX6_defect_0 rfl (lv_at hl 0 rfl) ?_
  refine gf_X6_30 E K0 P dX6_defect_1 ?_
  refine lv_iload_n E.hx E.hb dX6_defect_4 rfl (lv_at hl 1 rfl) ?_
  obtain ⟨r_1, e_2, h⟩ := obind h
  refine iv_X6_218 E K0 P va_S.rf e_2 (by decide) hl.1 (Nat.le_of_ble_eq_true rfl) dX6_defect_5 ?_
  refine lv_istore_n (lv' := [(3, .int r_1), (0, .ref (ad 0)), (1, .int x1), (2, .int x2)]) E.hx E.hb dX6_defect_8 rfl hl (by decide) rfl (fun ls hl => ?_)
  refine lv_iload_n E.hx E.hb dX6_defect_9 rfl (lv_at hl 0 rfl) ?_
  refine lv_iconst (v := (-1)) E.hx E.hb dX6_defect_10 (by decide) ?_
  refine lv_icmp_ne (tgt := 24) E.hx E.hb dX6_defect_11 (by decide) (fun c_3 => ?_) (fun c_3 => ?_)
  · rw [if_neg c_3] at h
    refine lv_iload_n E.hx E.hb dX6_defect_24 rfl (lv_at hl 0 rfl) ?_
    refine lv_bipush (v := 12) E.hx E.hb dX6_defect_25 (by decide) ?_
    refine lv_irem E.hx E.hb dX6_defect_27 (by decide) ?_
    refine lv_istore (lv' := [(4, .int (r_1 - r_1 / 12 * 12)), (3, .int r_1), (0, .ref (ad 0)), (1, .int x1), (2, .int x2)]) E.hx E.hb dX6_defect_28 hl (by decide) rfl (fun ls hl => ?_)
    refine lv_iload_n E.hx E.hb dX6_defect_30 rfl (lv_at hl 1 rfl) ?_
    refine lv_bipush (v := 12) E.hx E.hb dX6_defect_31 (by decide) ?_
    refine lv_idiv E.hx E.hb dX6_defect_33 (by decide) ?_
    refine lv_istore (lv' := [(5, .int (r_1 / 12)), (4, .int (r_1 - r_1 / 12 * 12)), (3, .int r_1), (0, .ref (ad 0)), (1, .int x1), (2, .int x2)]) E.hx E.hb dX6_defect_34 hl (by decide) rfl (fun ls hl => ?_)
    refine lv_iload_n E.hx E.hb dX6_defect_36 rfl (lv_at hl 5 rfl) ?_
    by_cases c_4 : x2 = 0
    · rw [if_pos c_4] at h
      refine lv_tableIn (off := 27) (tgt := 64) E.hx E.hb dX6_defect_37 (by rw [c_4]; decide) (by rw [c_4]; decide) (by rw [c_4]; rfl) (by decide) ?_
      refine lv_iload E.hx E.hb dX6_defect_64 (lv_at hl 1 rfl) ?_
      exact W.iret E.hx E.hb E.hr (fun t ht _ => ⟨_, rfl, (Option.some.inj h), ht⟩) (fun q hq => nomatch hq) dX6_defect_66 E.hk
    rw [if_neg c_4] at h
    by_cases c_5 : x2 = 1
    · rw [if_pos c_5] at h
      refine lv_tableIn (off := 30) (tgt := 67) E.hx E.hb dX6_defect_37 (by rw [c_5]; decide) (by rw [c_5]; decide) (by rw [c_5]; rfl) (by decide) ?_
      refine lv_iload E.hx E.hb dX6_defect_67 (lv_at hl 0 rfl) ?_
      exact W.iret E.hx E.hb E.hr (fun t ht _ => ⟨_, rfl, (Option.some.inj h), ht⟩) (fun q hq => nomatch hq) dX6_defect_69 E.hk
    rw [if_neg c_5] at h
    by_cases c_6 : x2 = 2
    · rw [if_pos c_6] at h
      refine lv_tableIn (off := 33) (tgt := 70) E.hx E.hb dX6_defect_37 (by rw [c_6]; decide) (by rw [c_6]; decide) (by rw [c_6]; rfl) (by decide) ?_
      refine lv_aload_n E.hx E.hb dX6_defect_70 rfl (lv_at hl 3 rfl) ?_
      refine gf_X6_30 E K0 P dX6_defect_71 ?_
      refine lv_iload E.hx E.hb dX6_defect_74 (lv_at hl 1 rfl) ?_
      refine lv_iload E.hx E.hb dX6_defect_76 (lv_at hl 0 rfl) ?_
      obtain ⟨r_7, e_8, h⟩ := obind h
      refine iv_X6_206 E K0 P va_S.rf e_8 (by decide) hl.1 (Nat.le_of_ble_eq_true rfl) dX6_defect_78 ?_
      exact W.iret E.hx E.hb E.hr (fun t ht _ => ⟨_, rfl, (Option.some.inj h), ht⟩) (fun q hq => nomatch hq) dX6_defect_81 E.hk
    rw [if_neg c_6] at h
    refine lv_tableOut (tgt := 82) E.hx E.hb dX6_defect_37 (swo 2 (by decide) (by intro j hj; rcases (show j = 0 ∨ j = 1 ∨ j = 2 by omega) with rfl | rfl | rfl <;> assumption)) (by decide) ?_
    exact nomatch h
  · rw [if_pos c_3] at h
    exact nomatch h
theorem c_X6_defect (l : Launch) {H : Heap} {D : va_G} {cyI : ClassId} {ad : Nat → Nat} {I : Nat → Int32} {A : Nat → Nat → Int32} (P : va_P D classes (cw cyI ad I A) H) (x1 x2 : Int32) {out : Int32} (h : B_X6_defect I A x1 x2 = some out) : MRO l yX6_defect cX6_defect 6 (some .int) 5 [.ref (ad 0), .int x1, .int x2] H (KC D cyI ad) out := by
  refine Mof (own := RX6) (by decide +kernel) rfl rfl ?_
  intro p e s m args below meth c ls E hH K0 hl
  subst hH
  exact w_X6_defect E K0 P h hl
theorem ds_X6_defect : Dsc yX6_defect 2 := ⟨by decide +kernel, by decide +kernel, by decide +kernel⟩
end
end WALK
end
section
section
section
variable {p : Program} {l : Launch} {e : Env} {R : Room} {s : State} {m : MethodId} {args : Array Value} {below : List Frame} {meth : Method} {c : Code} {H : Heap} {locs : List Loc} {cells slots : Nat} {Q : State → Prop} {cc : ByteArray} {nL pc : Nat} {ret : Option FieldType} {ls : Array Slot} {rest : List Value} {D : va_G} {cyI : ClassId} {ad : Nat → Nat} {I : Nat → Int32} {A : Nat → Nat → Int32}
theorem iv_X6_263 (E : EX p s m args meth c cc nL RX6 ret) (K0 : KC D cyI ad s s.heap) (S : va_S (InN 44 ad) s.heap H locs) {a0 : Int32} (hR : RmOk R cells slots 0 1) (hls : ls.size = nL) (hro : (rest.map fun v => v.category).sum ≤ 8) (hdg : decode cc pc = .ok (.invokestatic 263, 3)) (kk : W p l e R s m args below meth c H locs cells slots Q (F0 m (pc + 3) ls (.int (B_J9_abs_0f7a4 a0) :: rest))) : W p l e R s m args below meth c H locs cells slots Q (F0 m pc ls (.int a0 :: rest)) :=
  cq_ro E (c_J9_abs_0f7a4 l (H := H) (D := D) (cyI := cyI) (ad := ad) a0 ) kML_X6_263 kST_J9_abs_0f7a4 kIN_J9 kCO_J9_abs_0f7a4 ds_J9_abs_0f7a4 rfl KC_blind (fun U _ hW => (K0.at S).warm hW) hR hls rfl hro hdg kk
end
section
variable {p : Program} {l : Launch} {e : Env} {s : State} {m : MethodId} {args : Array Value} {below : List Frame} {meth : Method} {c : Code} {D : va_G} {cyI : ClassId} {ad : Nat → Nat}
def B_X6_greyOf (x0 x1 : Int32) : Int32 := if (B_J9_abs_0f7a4 (B_X6_onFrom x1 x0)) < 0 then 0 else (if 8 ≤ (B_J9_abs_0f7a4 (B_X6_onFrom x1 x0)) then 0 else greyV (B_J9_abs_0f7a4 (B_X6_onFrom x1 x0)).toNatClampNeg)
set_option maxHeartbeats 4000000 in
set_option maxRecDepth 100000 in
theorem w_X6_greyOf (E : EX p s m args meth c cX6_greyOf 3 RX6 (some .int)) (K0 : KC D cyI ad s s.heap) {x0 x1 : Int32} {out : Int32} (h : B_X6_greyOf x0 x1 = out) {ls : Array Slot} (hl : lv_has ls 3 [(0, .int x0), (1, .int x1)]) : W p l e (rmL 1) s m args below meth c s.heap [] 0 0 (MQ below (vp_Si (fun z => z = out)) args s 0 0 (fun _ => False)) (F0 m 0 ls []) := by
  obtain ⟨t, hZ, hT⟩ := K0.greys
  have S : va_S (InN 44 ad) s.heap s.heap [] := va_S.rf
  unfold B_X6_greyOf at h
  refine lv_iload_n E.hx E.hb dX6_greyOf_0 rfl (lv_at hl 1 rfl) ?_
  refine lv_iload_n E.hx E.hb dX6_greyOf_1 rfl (lv_at hl 0 rfl) ?_
  refine iv_X6_260 E K0 S (by decide) hl.1 (Nat.le_of_ble_eq_true rfl) dX6_greyOf_2 ?_
  refine iv_X6_263 E K0 S (by decide) hl.1 (Nat.le_of_ble_eq_true rfl) dX6_greyOf_5 ?_
  generalize (B_J9_abs_0f7a4 (B_X6_onFrom x1 x0)) = v at h ⊢
  refine lv_istore_n (lv' := [(2, .int v), (0, .int x0), (1, .int x1)]) E.hx E.hb dX6_greyOf_8 rfl hl (by decide) rfl (fun ls hl => ?_)
  refine lv_iload_n E.hx E.hb dX6_greyOf_9 rfl (lv_at hl 0 rfl) ?_
  refine lv_if_lt (tgt := 29) E.hx E.hb dX6_greyOf_10 (by decide) (fun c_1 => ?_) (fun c_1 => ?_)
  · rw [if_pos c_1] at h
    refine lv_iconst (v := 0) E.hx E.hb dX6_greyOf_29 (by decide) ?_
    exact W.iret E.hx E.hb E.hr (fun t ht _ => ⟨_, rfl, h, ht⟩) (fun q hq => nomatch hq) dX6_greyOf_30 E.hk
  · rw [if_neg c_1] at h
    refine lv_iload_n E.hx E.hb dX6_greyOf_13 rfl (lv_at hl 0 rfl) ?_
    refine va_gets E.hx E.hb hZ S E.ho (E.ht _ kFL_X6_268) (fun _ h9 => h9) dX6_greyOf_14 ?_
    refine va_tlen (v := 8) E.hx E.hb hT S rfl dX6_greyOf_17 ?_
    refine lv_icmp_ge (tgt := 29) E.hx E.hb dX6_greyOf_18 (by decide) (fun c_2 => ?_) (fun c_2 => ?_)
    · rw [if_pos c_2] at h
      refine lv_iconst (v := 0) E.hx E.hb dX6_greyOf_29 (by decide) ?_
      exact W.iret E.hx E.hb E.hr (fun t ht _ => ⟨_, rfl, h, ht⟩) (fun q hq => nomatch hq) dX6_greyOf_30 E.hk
    · rw [if_neg c_2] at h
      refine va_gets E.hx E.hb hZ S E.ho (E.ht _ kFL_X6_268) (fun _ h9 => h9) dX6_greyOf_21 ?_
      refine lv_iload_n E.hx E.hb dX6_greyOf_24 rfl (lv_at hl 0 rfl) ?_
      refine va_ti E.hx E.hb hT S (rAt_in (n := 8) c_1 c_2 (by decide)) rfl dX6_greyOf_25 ?_
      refine lv_goto (tgt := 30) E.hx E.hb dX6_greyOf_26 (by decide) ?_
      exact W.iret E.hx E.hb E.hr (fun t ht _ => ⟨_, rfl, h, ht⟩) (fun q hq => nomatch hq) dX6_greyOf_30 E.hk
theorem c_X6_greyOf (l : Launch) {H : Heap} {D : va_G} {cyI : ClassId} {ad : Nat → Nat} (x0 x1 : Int32) : MRO l yX6_greyOf cX6_greyOf 3 (some .int) 1 [.int x0, .int x1] H (KC D cyI ad) (B_X6_greyOf x0 x1) := by
  refine Mof (own := RX6) (by decide +kernel) rfl rfl ?_
  intro p e s m args below meth c ls E hH K0 hl
  subst hH
  exact w_X6_greyOf E K0 rfl hl
theorem ds_X6_greyOf : Dsc yX6_greyOf 2 := ⟨by decide +kernel, by decide +kernel, by decide +kernel⟩
end
end
section WALK
section
variable {p : Program} {l : Launch} {e : Env} {R : Room} {s : State} {m : MethodId} {args : Array Value} {below : List Frame} {meth : Method} {c : Code} {H : Heap} {locs : List Loc} {cells slots : Nat} {Q : State → Prop} {cc : ByteArray} {nL pc : Nat} {ret : Option FieldType} {ls : Array Slot} {rest : List Value} {D : va_G} {cyI : ClassId} {ad : Nat → Nat} {I : Nat → Int32} {A : Nat → Nat → Int32}
theorem iv_X1_133 (E : EX p s m args meth c cc nL RX1 ret) (K0 : KC D cyI ad s s.heap) (S : va_S (InN 44 ad) s.heap H locs) {a0 a1 : Int32} (hR : RmOk R cells slots 1 3) (hls : ls.size = nL) (hro : (rest.map fun v => v.category).sum ≤ 8) (hdg : decode cc pc = .ok (.invokestatic 133, 3)) (kk : W p l e R s m args below meth c H locs cells slots Q (F0 m (pc + 3) ls (.int (B_X6_greyOf a0 a1) :: rest))) : W p l e R s m args below meth c H locs cells slots Q (F0 m pc ls (.int a1 :: .int a0 :: rest)) :=
  cn_ro E (c_X6_greyOf l (H := H) (D := D) (cyI := cyI) (ad := ad) a0 a1 ) (K0.nm _ (List.mem_of_getElem? (i := 5) rfl)) kST_X6_greyOf kIN_X6 kCO_X6_greyOf ds_X6_greyOf rfl KC_blind (fun U _ hW => (K0.at S).warm hW) hR hls rfl hro hdg kk
end
section
variable {p : Program} {l : Launch} {e : Env} {s : State} {m : MethodId} {args : Array Value} {below : List Frame} {meth : Method} {c : Code} {D : va_G} {cyI : ClassId} {ad : Nat → Nat} {I : Nat → Int32} {A : Nat → Nat → Int32}
def B_X1_greyOfPixel_L66 (I : Nat → Int32) (A : Nat → Nat → Int32) (x2 x5 x7 x8 x9 : Int32) : Nat → Int32 → Int32 → Int32 → Option (Int32 × Int32)
  | 0 => fun _ _ _ => none
  | n + 1 => fun x3 x4 x10 => if x7 ≤ x10 then some ((x3, x4)) else (B_X1_greyOfPixel_L66 I A x2 x5 x7 x8 x9 n) ((x3 + (B_X6_greyOf ((B_X1_directionAt I A x10 x9)) x2))) (x4 + 1) (x10 + 1)
theorem B_X1_greyOfPixel_L66_s (I : Nat → Int32) (A : Nat → Nat → Int32) (x2 x5 x7 x8 x9 x3 x4 x10 : Int32) (n : Nat) : B_X1_greyOfPixel_L66 I A x2 x5 x7 x8 x9 (n + 1) x3 x4 x10 = if x7 ≤ x10 then some ((x3, x4)) else (B_X1_greyOfPixel_L66 I A x2 x5 x7 x8 x9 n) ((x3 + (B_X6_greyOf ((B_X1_directionAt I A x10 x9)) x2))) (x4 + 1) (x10 + 1) := rfl
set_option maxHeartbeats 4000000 in
set_option maxRecDepth 100000 in
theorem w_X1_greyOfPixel_L66 (E : EX p s m args meth c cX1_greyOfPixel 11 RX1 (some .int)) (K0 : KC D cyI ad s s.heap) (P : va_P D classes (cw cyI ad I A) s.heap) {x2 x5 x7 x8 x9 : Int32} {out : Int32} : ∀ (n : Nat) {x3 x4 x10 : Int32} {o : Int32 × Int32} (h : B_X1_greyOfPixel_L66 I A x2 x5 x7 x8 x9 n x3 x4 x10 = some o) {ls : Array Slot} (hl : lv_has ls 11 [(0, .ref (ad 2)), (2, .int x2), (3, .int x3), (4, .int x4), (5, .int x5), (7, .int x7), (8, .int x8), (9, .int x9), (10, .int x10)]) (kx : ∀ {ls : Array Slot}, lv_has ls 11 [(0, .ref (ad 2)), (2, .int x2), (3, .int o.1), (4, .int o.2), (5, .int x5), (7, .int x7), (8, .int x8), (9, .int x9)] → W p l e (rmL 2) s m args below meth c s.heap [] 0 0 (MQ below (vp_Si (fun z => z = out)) args s 0 0 (fun _ => False)) (F0 m 97 ls [])), W p l e (rmL 2) s m args below meth c s.heap [] 0 0 (MQ below (vp_Si (fun z => z = out)) args s 0 0 (fun _ => False)) (F0 m 66 ls []) := by
  intro n
  induction n with
  | zero => intro x3 x4 x10 o h ls hl kx; exact nomatch (show none = some o from h)
  | succ n ih =>
    intro x3 x4 x10 o h ls hl kx
    rw [B_X1_greyOfPixel_L66_s] at h
    refine lv_iload E.hx E.hb dX1_greyOfPixel_66 (lv_at hl 8 rfl) ?_
    refine lv_iload E.hx E.hb dX1_greyOfPixel_68 (lv_at hl 5 rfl) ?_
    refine lv_icmp_ge (tgt := 97) E.hx E.hb dX1_greyOfPixel_70 (by decide) (fun c_2 => ?_) (fun c_2 => ?_)
    · rw [if_pos c_2] at h
      cases h
      exact kx  (lv_sub hl [0, 1, 2, 3, 4, 5, 6, 7] rfl)
    · rw [if_neg c_2] at h
      refine lv_iload_n E.hx E.hb dX1_greyOfPixel_73 rfl (lv_at hl 2 rfl) ?_
      refine lv_aload_n E.hx E.hb dX1_greyOfPixel_74 rfl (lv_at hl 0 rfl) ?_
      refine lv_iload E.hx E.hb dX1_greyOfPixel_75 (lv_at hl 8 rfl) ?_
      refine lv_iload E.hx E.hb dX1_greyOfPixel_77 (lv_at hl 7 rfl) ?_
      refine iv_X1_88 E K0 P va_S.rf (by decide) hl.1 (Nat.le_of_ble_eq_true rfl) dX1_greyOfPixel_79 ?_
      refine lv_iload_n E.hx E.hb dX1_greyOfPixel_82 rfl (lv_at hl 1 rfl) ?_
      refine iv_X1_133 E K0 va_S.rf (by decide) hl.1 (Nat.le_of_ble_eq_true rfl) dX1_greyOfPixel_83 ?_
      refine lv_iadd E.hx E.hb dX1_greyOfPixel_86 ?_
      refine lv_istore_n (lv' := [(3, .int (x3 + (B_X6_greyOf ((B_X1_directionAt I A x10 x9)) x2))), (0, .ref (ad 2)), (2, .int x2), (4, .int x4), (5, .int x5), (7, .int x7), (8, .int x8), (9, .int x9), (10, .int x10)]) E.hx E.hb dX1_greyOfPixel_87 rfl hl (by decide) rfl (fun ls hl => ?_)
      refine lv_iinc (v := x4 + 1) (lv' := [(4, .int (x4 + 1)), (3, .int (x3 + (B_X6_greyOf ((B_X1_directionAt I A x10 x9)) x2))), (0, .ref (ad 2)), (2, .int x2), (5, .int x5), (7, .int x7), (8, .int x8), (9, .int x9), (10, .int x10)]) E.hx E.hb dX1_greyOfPixel_88 hl (k := 3) rfl rfl (by decide) rfl (fun ls hl => ?_)
      refine lv_iinc (v := x10 + 1) (lv' := [(10, .int (x10 + 1)), (4, .int (x4 + 1)), (3, .int (x3 + (B_X6_greyOf ((B_X1_directionAt I A x10 x9)) x2))), (0, .ref (ad 2)), (2, .int x2), (5, .int x5), (7, .int x7), (8, .int x8), (9, .int x9)]) E.hx E.hb dX1_greyOfPixel_91 hl (k := 8) rfl rfl (by decide) rfl (fun ls hl => ?_)
      refine lv_goto (tgt := 66) E.hx E.hb dX1_greyOfPixel_94 (by decide) ?_
      exact ih  h (lv_sub hl [3, 4, 2, 1, 5, 6, 7, 8, 0] rfl) kx
def B_X1_greyOfPixel_L55 (I : Nat → Int32) (A : Nat → Nat → Int32) (x2 x5 x7 x8 : Int32) : Nat → Int32 → Int32 → Int32 → Option (Int32 × Int32)
  | 0 => fun _ _ _ => none
  | n + 1 => fun x3 x4 x9 => if x8 ≤ x9 then some ((x3, x4)) else ((B_X1_greyOfPixel_L66 I A x2 x5 x7 x8 x9 FU x3 x4 x5).bind fun q_3 => (B_X1_greyOfPixel_L55 I A x2 x5 x7 x8 n) q_3.1 q_3.2 (x9 + 1))
theorem B_X1_greyOfPixel_L55_s (I : Nat → Int32) (A : Nat → Nat → Int32) (x2 x5 x7 x8 x3 x4 x9 : Int32) (n : Nat) : B_X1_greyOfPixel_L55 I A x2 x5 x7 x8 (n + 1) x3 x4 x9 = if x8 ≤ x9 then some ((x3, x4)) else ((B_X1_greyOfPixel_L66 I A x2 x5 x7 x8 x9 FU x3 x4 x5).bind fun q_3 => (B_X1_greyOfPixel_L55 I A x2 x5 x7 x8 n) q_3.1 q_3.2 (x9 + 1)) := rfl
set_option maxHeartbeats 4000000 in
set_option maxRecDepth 100000 in
theorem w_X1_greyOfPixel_L55 (E : EX p s m args meth c cX1_greyOfPixel 11 RX1 (some .int)) (K0 : KC D cyI ad s s.heap) (P : va_P D classes (cw cyI ad I A) s.heap) {x2 x5 x7 x8 : Int32} {out : Int32} : ∀ (n : Nat) {x3 x4 x9 : Int32} {o : Int32 × Int32} (h : B_X1_greyOfPixel_L55 I A x2 x5 x7 x8 n x3 x4 x9 = some o) {ls : Array Slot} (hl : lv_has ls 11 [(0, .ref (ad 2)), (2, .int x2), (3, .int x3), (4, .int x4), (5, .int x5), (7, .int x7), (8, .int x8), (9, .int x9)]) (kx : ∀ {ls : Array Slot}, lv_has ls 11 [(3, .int o.1), (4, .int o.2)] → W p l e (rmL 2) s m args below meth c s.heap [] 0 0 (MQ below (vp_Si (fun z => z = out)) args s 0 0 (fun _ => False)) (F0 m 103 ls [])), W p l e (rmL 2) s m args below meth c s.heap [] 0 0 (MQ below (vp_Si (fun z => z = out)) args s 0 0 (fun _ => False)) (F0 m 55 ls []) := by
  intro n
  induction n with
  | zero => intro x3 x4 x9 o h ls hl kx; exact nomatch (show none = some o from h)
  | succ n ih =>
    intro x3 x4 x9 o h ls hl kx
    rw [B_X1_greyOfPixel_L55_s] at h
    refine lv_iload E.hx E.hb dX1_greyOfPixel_55 (lv_at hl 7 rfl) ?_
    refine lv_iload E.hx E.hb dX1_greyOfPixel_57 (lv_at hl 6 rfl) ?_
    refine lv_icmp_ge (tgt := 103) E.hx E.hb dX1_greyOfPixel_59 (by decide) (fun c_1 => ?_) (fun c_1 => ?_)
    · rw [if_pos c_1] at h
      cases h
      exact kx  (lv_sub hl [2, 3] rfl)
    · rw [if_neg c_1] at h
      refine lv_iload E.hx E.hb dX1_greyOfPixel_62 (lv_at hl 4 rfl) ?_
      refine lv_istore (lv' := [(10, .int x5), (0, .ref (ad 2)), (2, .int x2), (3, .int x3), (4, .int x4), (5, .int x5), (7, .int x7), (8, .int x8), (9, .int x9)]) E.hx E.hb dX1_greyOfPixel_64 hl (by decide) rfl (fun ls hl => ?_)
      obtain ⟨q_3, e_4, h⟩ := obind h
      refine w_X1_greyOfPixel_L66 E K0 P FU e_4 (lv_sub hl [1, 2, 3, 4, 5, 6, 7, 8, 0] rfl) (fun {ls} hl => ?_)
      refine lv_iinc (v := x9 + 1) (lv' := [(9, .int (x9 + 1)), (0, .ref (ad 2)), (2, .int x2), (3, .int q_3.1), (4, .int q_3.2), (5, .int x5), (7, .int x7), (8, .int x8)]) E.hx E.hb dX1_greyOfPixel_97 hl (k := 7) rfl rfl (by decide) rfl (fun ls hl => ?_)
      refine lv_goto (tgt := 55) E.hx E.hb dX1_greyOfPixel_100 (by decide) ?_
      exact ih  h (lv_sub hl [1, 2, 3, 4, 5, 6, 7, 0] rfl) kx
def B_X1_greyOfPixel (I : Nat → Int32) (A : Nat → Nat → Int32) (x1 x2 : Int32) : Option (Int32) := (B_X1_greyOfPixel_L55 I A x2 ((B_X3_left I A x1)) (((B_X3_left I A x1) + (B_X3_width I A x1))) (((B_X3_top I A x1) + (B_X3_height I A x1))) FU 0 0 ((B_X3_top I A x1))).bind fun q_5 => if q_5.2 ≤ 0 then some 0 else (if q_5.2 = 0 then none else some ((q_5.1 / q_5.2)))
set_option maxHeartbeats 4000000 in
set_option maxRecDepth 100000 in
theorem w_X1_greyOfPixel (E : EX p s m args meth c cX1_greyOfPixel 11 RX1 (some .int)) (K0 : KC D cyI ad s s.heap) (P : va_P D classes (cw cyI ad I A) s.heap)  {x1 x2 : Int32} {out : Int32} (h : B_X1_greyOfPixel I A x1 x2 = some out) {ls : Array Slot} (hl : lv_has ls 11 [(0, .ref (ad 2)), (1, .int x1), (2, .int x2)]) : W p l e (rmL 2) s m args below meth c s.heap [] 0 0 (MQ below (vp_Si (fun z => z = out)) args s 0 0 (fun _ => False)) (F0 m 0 ls []) := by
  unfold B_X1_greyOfPixel at h
  refine lv_iconst (v := 0) E.hx E.hb dX1_greyOfPixel_0 (by decide) ?_
  refine lv_istore_n (lv' := [(3, .int 0), (0, .ref (ad 2)), (1, .int x1), (2, .int x2)]) E.hx E.hb dX1_greyOfPixel_1 rfl hl (by decide) rfl (fun ls hl => ?_)
  refine lv_iconst (v := 0) E.hx E.hb dX1_greyOfPixel_2 (by decide) ?_
  refine lv_istore (lv' := [(4, .int 0), (3, .int 0), (0, .ref (ad 2)), (1, .int x1), (2, .int x2)]) E.hx E.hb dX1_greyOfPixel_3 hl (by decide) rfl (fun ls hl => ?_)
  refine lv_aload_n E.hx E.hb dX1_greyOfPixel_5 rfl (lv_at hl 2 rfl) ?_
  refine gf_X1_45 E K0 P dX1_greyOfPixel_6 ?_
  refine lv_iload_n E.hx E.hb dX1_greyOfPixel_9 rfl (lv_at hl 3 rfl) ?_
  refine iv_X1_112 E K0 P va_S.rf (by decide) hl.1 (Nat.le_of_ble_eq_true rfl) dX1_greyOfPixel_10 ?_
  refine lv_istore (lv' := [(5, .int (B_X3_left I A x1)), (4, .int 0), (3, .int 0), (0, .ref (ad 2)), (1, .int x1), (2, .int x2)]) E.hx E.hb dX1_greyOfPixel_13 hl (by decide) rfl (fun ls hl => ?_)
  refine lv_aload_n E.hx E.hb dX1_greyOfPixel_15 rfl (lv_at hl 3 rfl) ?_
  refine gf_X1_45 E K0 P dX1_greyOfPixel_16 ?_
  refine lv_iload_n E.hx E.hb dX1_greyOfPixel_19 rfl (lv_at hl 4 rfl) ?_
  refine iv_X1_115 E K0 P va_S.rf (by decide) hl.1 (Nat.le_of_ble_eq_true rfl) dX1_greyOfPixel_20 ?_
  refine lv_istore (lv' := [(6, .int (B_X3_top I A x1)), (5, .int (B_X3_left I A x1)), (4, .int 0), (3, .int 0), (0, .ref (ad 2)), (1, .int x1), (2, .int x2)]) E.hx E.hb dX1_greyOfPixel_23 hl (by decide) rfl (fun ls hl => ?_)
  refine lv_iload E.hx E.hb dX1_greyOfPixel_25 (lv_at hl 1 rfl) ?_
  refine lv_aload_n E.hx E.hb dX1_greyOfPixel_27 rfl (lv_at hl 4 rfl) ?_
  refine gf_X1_45 E K0 P dX1_greyOfPixel_28 ?_
  refine lv_iload_n E.hx E.hb dX1_greyOfPixel_31 rfl (lv_at hl 5 rfl) ?_
  refine iv_X1_118 E K0 P va_S.rf (by decide) hl.1 (Nat.le_of_ble_eq_true rfl) dX1_greyOfPixel_32 ?_
  refine lv_iadd E.hx E.hb dX1_greyOfPixel_35 ?_
  refine lv_istore (lv' := [(7, .int ((B_X3_left I A x1) + (B_X3_width I A x1))), (6, .int (B_X3_top I A x1)), (5, .int (B_X3_left I A x1)), (4, .int 0), (3, .int 0), (0, .ref (ad 2)), (1, .int x1), (2, .int x2)]) E.hx E.hb dX1_greyOfPixel_36 hl (by decide) rfl (fun ls hl => ?_)
  refine lv_iload E.hx E.hb dX1_greyOfPixel_38 (lv_at hl 1 rfl) ?_
  refine lv_aload_n E.hx E.hb dX1_greyOfPixel_40 rfl (lv_at hl 5 rfl) ?_
  refine gf_X1_45 E K0 P dX1_greyOfPixel_41 ?_
  refine lv_iload_n E.hx E.hb dX1_greyOfPixel_44 rfl (lv_at hl 6 rfl) ?_
  refine iv_X1_120 E K0 P va_S.rf (by decide) hl.1 (Nat.le_of_ble_eq_true rfl) dX1_greyOfPixel_45 ?_
  refine lv_iadd E.hx E.hb dX1_greyOfPixel_48 ?_
  refine lv_istore (lv' := [(8, .int ((B_X3_top I A x1) + (B_X3_height I A x1))), (7, .int ((B_X3_left I A x1) + (B_X3_width I A x1))), (6, .int (B_X3_top I A x1)), (5, .int (B_X3_left I A x1)), (4, .int 0), (3, .int 0), (0, .ref (ad 2)), (1, .int x1), (2, .int x2)]) E.hx E.hb dX1_greyOfPixel_49 hl (by decide) rfl (fun ls hl => ?_)
  refine lv_iload E.hx E.hb dX1_greyOfPixel_51 (lv_at hl 2 rfl) ?_
  refine lv_istore (lv' := [(9, .int (B_X3_top I A x1)), (8, .int ((B_X3_top I A x1) + (B_X3_height I A x1))), (7, .int ((B_X3_left I A x1) + (B_X3_width I A x1))), (6, .int (B_X3_top I A x1)), (5, .int (B_X3_left I A x1)), (4, .int 0), (3, .int 0), (0, .ref (ad 2)), (1, .int x1), (2, .int x2)]) E.hx E.hb dX1_greyOfPixel_53 hl (by decide) rfl (fun ls hl => ?_)
  obtain ⟨q_5, e_6, h⟩ := obind h
  refine w_X1_greyOfPixel_L55 E K0 P FU e_6 (lv_sub hl [7, 9, 6, 5, 4, 2, 1, 0] rfl) (fun {ls} hl => ?_)
  refine lv_iload E.hx E.hb dX1_greyOfPixel_103 (lv_at hl 1 rfl) ?_
  refine lv_if_le (tgt := 115) E.hx E.hb dX1_greyOfPixel_105 (by decide) (fun c_7 => ?_) (fun c_7 => ?_)
  · rw [if_pos c_7] at h
    refine lv_iconst (v := 0) E.hx E.hb dX1_greyOfPixel_115 (by decide) ?_
    exact W.iret E.hx E.hb E.hr (fun t ht _ => ⟨_, rfl, (Option.some.inj h), ht⟩) (fun q hq => nomatch hq) dX1_greyOfPixel_116 E.hk
  · rw [if_neg c_7] at h
    refine lv_iload_n E.hx E.hb dX1_greyOfPixel_108 rfl (lv_at hl 0 rfl) ?_
    refine lv_iload E.hx E.hb dX1_greyOfPixel_109 (lv_at hl 1 rfl) ?_
    by_cases c_8 : q_5.2 = 0
    · rw [if_pos c_8] at h; exact nomatch h
    rw [if_neg c_8] at h
    refine lv_idiv E.hx E.hb dX1_greyOfPixel_111 c_8 ?_
    refine lv_goto (tgt := 116) E.hx E.hb dX1_greyOfPixel_112 (by decide) ?_
    exact W.iret E.hx E.hb E.hr (fun t ht _ => ⟨_, rfl, (Option.some.inj h), ht⟩) (fun q hq => nomatch hq) dX1_greyOfPixel_116 E.hk
theorem c_X1_greyOfPixel (l : Launch) {H : Heap} {D : va_G} {cyI : ClassId} {ad : Nat → Nat} {I : Nat → Int32} {A : Nat → Nat → Int32} (P : va_P D classes (cw cyI ad I A) H) (x1 x2 : Int32) {out : Int32} (h : B_X1_greyOfPixel I A x1 x2 = some out) : MRO l yX1_greyOfPixel cX1_greyOfPixel 11 (some .int) 2 [.ref (ad 2), .int x1, .int x2] H (KC D cyI ad) out := by
  refine Mof (own := RX1) (by decide +kernel) rfl rfl ?_
  intro p e s m args below meth c ls E hH K0 hl
  subst hH
  exact w_X1_greyOfPixel E K0 P h hl
theorem ds_X1_greyOfPixel : Dsc yX1_greyOfPixel 2 := ⟨by decide +kernel, by decide +kernel, by decide +kernel⟩
end
section
variable {p : Program} {l : Launch} {e : Env} {R : Room} {s : State} {m : MethodId} {args : Array Value} {below : List Frame} {meth : Method} {c : Code} {H : Heap} {locs : List Loc} {cells slots : Nat} {Q : State → Prop} {cc : ByteArray} {nL pc : Nat} {ret : Option FieldType} {ls : Array Slot} {rest : List Value} {D : va_G} {cyI : ClassId} {ad : Nat → Nat} {I : Nat → Int32} {A : Nat → Nat → Int32}
theorem iv_X6_225 (E : EX p s m args meth c cc nL RX6 ret) (K0 : KC D cyI ad s s.heap) (P : va_P D classes (cw cyI ad I A) H) (S : va_S (InN 44 ad) s.heap H locs) {a0 a1 : Int32} {v : Int32} (hv : B_X1_greyOfPixel I A a0 a1 = some v) (hR : RmOk R cells slots 2 11) (hls : ls.size = nL) (hro : (rest.map fun v => v.category).sum ≤ 8) (hdg : decode cc pc = .ok (.invokevirtual 225, 3)) (kk : W p l e R s m args below meth c H locs cells slots Q (F0 m (pc + 3) ls (.int v :: rest))) : W p l e R s m args below meth c H locs cells slots Q (F0 m pc ls (.int a1 :: .int a0 :: .ref (ad 2) :: rest)) :=
  cv_ro E (c_X1_greyOfPixel l P a0 a1 hv) (gV kML_X6_225 kIM_X1_greyOfPixel kSE_X1_greyOfPixel kIN_X1 kCO_X1_greyOfPixel) rfl ds_X1_greyOfPixel rfl KC_blind (fun U _ hW => (K0.at S).warm hW) (va_recv K0.k P (show classes[1]? = some (RX1, TX1, 11) from rfl) cw_g2) hR hls rfl hro hdg kk
end
section
variable {p : Program} {l : Launch} {e : Env} {R : Room} {s : State} {m : MethodId} {args : Array Value} {below : List Frame} {meth : Method} {c : Code} {H : Heap} {locs : List Loc} {cells slots : Nat} {Q : State → Prop} {cc : ByteArray} {nL pc : Nat} {ret : Option FieldType} {ls : Array Slot} {rest : List Value} {D : va_G} {cyI : ClassId} {ad : Nat → Nat} {I : Nat → Int32} {A : Nat → Nat → Int32}
theorem iv_X6_257 (E : EX p s m args meth c cc nL RX6 ret) (N : AdN 44 ad) (K0 : KC D cyI ad s s.heap) (P : va_P D classes (cw cyI ad I A) H) (S : va_S (InN 44 ad) s.heap H locs) {a0 a1 : Int32} {v : (Nat → Int32) × (Nat → Nat → Int32)} (hv : B_X3_note I A a0 a1 = some v) (hR : RmOk R cells slots 1 4) (hls : ls.size = nL) (hro : (rest.map fun v => v.category).sum ≤ 8) (hdg : decode cc pc = .ok (.invokevirtual 257, 3)) (kk : ∀ (H1 : Heap) (locs1 : List Loc), va_P D classes (cw cyI ad v.1 v.2) H1 → va_S (InN 44 ad) s.heap H1 locs1 → W p l e R s m args below meth c H1 locs1 cells slots Q (F0 m (pc + 3) ls (rest))) : W p l e R s m args below meth c H locs cells slots Q (F0 m pc ls (.int a1 :: .int a0 :: .ref (ad 1) :: rest)) :=
  cv_rw E (c_X3_note l N P a0 a1 hv) (gV kML_X6_257 kIM_X3_note kSE_X3_note kIN_X3 kCO_X3_note) rfl ds_X3_note rfl KC_blind (fun U _ hW => (K0.at S).warm hW) S (va_recv K0.k P (show classes[3]? = some (RX3, TX3, 9) from rfl) cw_g1) hR hls rfl hro hdg kk
end
section
variable {p : Program} {l : Launch} {e : Env} {s : State} {m : MethodId} {args : Array Value} {below : List Frame} {meth : Method} {c : Code} {D : va_G} {cyI : ClassId} {ad : Nat → Nat} {I : Nat → Int32} {A : Nat → Nat → Int32}
def B_X6_noteGreys_L2   : Nat → Int32 → (Nat → Int32) → (Nat → Nat → Int32) → Option ((Nat → Int32) × (Nat → Nat → Int32))
  | 0 => fun _ _ _ => none
  | n + 1 => fun x1 I A => if (I 4) ≤ x1 then some ((I, A)) else ((B_X1_greyOfPixel I A x1 ((I 0))).bind fun r_2 => (B_X3_note I A x1 r_2).bind fun q_4 => (B_X6_noteGreys_L2 n) (x1 + 1) q_4.1 q_4.2)
theorem B_X6_noteGreys_L2_s (I : Nat → Int32) (A : Nat → Nat → Int32) (x1 : Int32) (n : Nat) : B_X6_noteGreys_L2   (n + 1) x1 I A = if (I 4) ≤ x1 then some ((I, A)) else ((B_X1_greyOfPixel I A x1 ((I 0))).bind fun r_2 => (B_X3_note I A x1 r_2).bind fun q_4 => (B_X6_noteGreys_L2 n) (x1 + 1) q_4.1 q_4.2) := rfl
set_option maxHeartbeats 4000000 in
set_option maxRecDepth 100000 in
theorem w_X6_noteGreys_L2 (E : EX p s m args meth c cX6_noteGreys 2 RX6 none) (K0 : KC D cyI ad s s.heap) (N : AdN 44 ad) {out : (Nat → Int32) × (Nat → Nat → Int32)} : ∀ (n : Nat) {x1 : Int32} {I : Nat → Int32} {A : Nat → Nat → Int32} {H : Heap} {locs : List Loc} (P : va_P D classes (cw cyI ad I A) H) (S : va_S (InN 44 ad) s.heap H locs) {o : (Nat → Int32) × (Nat → Nat → Int32)} (h : B_X6_noteGreys_L2   n x1 I A = some o) {ls : Array Slot} (hl : lv_has ls 2 [(0, .ref (ad 0)), (1, .int x1)]) (kx : ∀ {H : Heap} {locs : List Loc} (_ : va_P D classes (cw cyI ad o.1 o.2) H) (_ : va_S (InN 44 ad) s.heap H locs) {ls : Array Slot}, lv_has ls 2 [] → W p l e (rmL 3) s m args below meth c H locs 0 0 (MQ below (Qrw (InN 44 ad) (none) (fun H1 => va_P D classes (cw cyI ad out.1 out.2) H1)) args s 0 0 (InN 44 ad)) (F0 m 39 ls [])), W p l e (rmL 3) s m args below meth c H locs 0 0 (MQ below (Qrw (InN 44 ad) (none) (fun H1 => va_P D classes (cw cyI ad out.1 out.2) H1)) args s 0 0 (InN 44 ad)) (F0 m 2 ls []) := by
  intro n
  induction n with
  | zero => intro x1 I A H locs P S o h ls hl kx; exact nomatch (show none = some o from h)
  | succ n ih =>
    intro x1 I A H locs P S o h ls hl kx
    rw [B_X6_noteGreys_L2_s] at h
    refine lv_iload_n E.hx E.hb dX6_noteGreys_2 rfl (lv_at hl 1 rfl) ?_
    refine lv_aload_n E.hx E.hb dX6_noteGreys_3 rfl (lv_at hl 0 rfl) ?_
    refine gf_X6_12 E K0 P dX6_noteGreys_4 ?_
    refine gf_X6_114 E K0 P dX6_noteGreys_7 ?_
    refine lv_icmp_ge (tgt := 39) E.hx E.hb dX6_noteGreys_10 (by decide) (fun c_1 => ?_) (fun c_1 => ?_)
    · rw [if_pos c_1] at h
      cases h
      exact kx P S (lv_sub hl [] rfl)
    · rw [if_neg c_1] at h
      refine lv_aload_n E.hx E.hb dX6_noteGreys_13 rfl (lv_at hl 0 rfl) ?_
      refine gf_X6_12 E K0 P dX6_noteGreys_14 ?_
      refine lv_iload_n E.hx E.hb dX6_noteGreys_17 rfl (lv_at hl 1 rfl) ?_
      refine lv_aload_n E.hx E.hb dX6_noteGreys_18 rfl (lv_at hl 0 rfl) ?_
      refine gf_X6_21 E K0 P dX6_noteGreys_19 ?_
      refine lv_iload_n E.hx E.hb dX6_noteGreys_22 rfl (lv_at hl 1 rfl) ?_
      refine lv_aload_n E.hx E.hb dX6_noteGreys_23 rfl (lv_at hl 0 rfl) ?_
      refine gf_X6_48 E K0 P dX6_noteGreys_24 ?_
      obtain ⟨r_2, e_3, h⟩ := obind h
      refine iv_X6_225 E K0 P S e_3 (by decide) hl.1 (Nat.le_of_ble_eq_true rfl) dX6_noteGreys_27 ?_
      obtain ⟨q_4, e_5, h⟩ := obind h
      refine iv_X6_257 E N K0 P S e_5 (by decide) hl.1 (Nat.le_of_ble_eq_true rfl) dX6_noteGreys_30 (fun H locs P S => ?_)
      refine lv_iinc (v := x1 + 1) (lv' := [(1, .int (x1 + 1)), (0, .ref (ad 0))]) E.hx E.hb dX6_noteGreys_33 hl (k := 1) rfl rfl (by decide) rfl (fun ls hl => ?_)
      refine lv_goto (tgt := 2) E.hx E.hb dX6_noteGreys_36 (by decide) ?_
      exact ih P S h (lv_sub hl [1, 0] rfl) kx
def B_X6_noteGreys (I : Nat → Int32) (A : Nat → Nat → Int32)  : Option ((Nat → Int32) × (Nat → Nat → Int32)) := (B_X6_noteGreys_L2   FU 0 I A).bind fun q_6 => some (q_6.1, q_6.2)
set_option maxHeartbeats 4000000 in
set_option maxRecDepth 100000 in
theorem w_X6_noteGreys (E : EX p s m args meth c cX6_noteGreys 2 RX6 none) (K0 : KC D cyI ad s s.heap) (N : AdN 44 ad) {H : Heap} {locs : List Loc} (P : va_P D classes (cw cyI ad I A) H) (S : va_S (InN 44 ad) s.heap H locs)  {out : (Nat → Int32) × (Nat → Nat → Int32)} (h : B_X6_noteGreys I A  = some out) {ls : Array Slot} (hl : lv_has ls 2 [(0, .ref (ad 0))]) : W p l e (rmL 3) s m args below meth c H locs 0 0 (MQ below (Qrw (InN 44 ad) (none) (fun H1 => va_P D classes (cw cyI ad out.1 out.2) H1)) args s 0 0 (InN 44 ad)) (F0 m 0 ls []) := by
  unfold B_X6_noteGreys at h
  refine lv_iconst (v := 0) E.hx E.hb dX6_noteGreys_0 (by decide) ?_
  refine lv_istore_n (lv' := [(1, .int 0), (0, .ref (ad 0))]) E.hx E.hb dX6_noteGreys_1 rfl hl (by decide) rfl (fun ls hl => ?_)
  obtain ⟨q_6, e_7, h⟩ := obind h
  refine w_X6_noteGreys_L2 E K0 N FU P S e_7 (lv_sub hl [1, 0] rfl) (fun {H locs} P S {ls} hl => ?_)
  cases h
  exact W.vret E.hx E.hb E.hr (fun t ht _ => ⟨rfl, by rw [ht]; exact P, S.F ht⟩) S.2.2 dX6_noteGreys_39 E.hk
theorem c_X6_noteGreys (l : Launch) {H : Heap} {D : va_G} {cyI : ClassId} {ad : Nat → Nat} {I : Nat → Int32} {A : Nat → Nat → Int32} (N : AdN 44 ad) (P : va_P D classes (cw cyI ad I A) H)  {out : (Nat → Int32) × (Nat → Nat → Int32)} (h : B_X6_noteGreys I A  = some out) : MRW l yX6_noteGreys cX6_noteGreys 2 none 3 [.ref (ad 0)] H (KC D cyI ad) (InN 44 ad) none (fun H1 => va_P D classes (cw cyI ad out.1 out.2) H1) := by
  refine Mof (own := RX6) (by decide +kernel) rfl rfl ?_
  intro p e s m args below meth c ls E hH K0 hl
  subst hH
  exact w_X6_noteGreys E K0 N P va_S.rf h hl
theorem ds_X6_noteGreys : Dsc yX6_noteGreys 0 := ⟨by decide +kernel, by decide +kernel, by decide +kernel⟩
end
section
variable {p : Program} {l : Launch} {e : Env} {R : Room} {s : State} {m : MethodId} {args : Array Value} {below : List Frame} {meth : Method} {c : Code} {H : Heap} {locs : List Loc} {cells slots : Nat} {Q : State → Prop} {cc : ByteArray} {nL pc : Nat} {ret : Option FieldType} {ls : Array Slot} {rest : List Value} {D : va_G} {cyI : ClassId} {ad : Nat → Nat} {I : Nat → Int32} {A : Nat → Nat → Int32}
theorem iv_X6_158 (E : EX p s m args meth c cc nL RX6 ret) (N : AdN 44 ad) (K0 : KC D cyI ad s s.heap) (P : va_P D classes (cw cyI ad I A) H) (S : va_S (InN 44 ad) s.heap H locs) {a0 : Int32} {v : Int32 × (Nat → Int32) × (Nat → Nat → Int32)} (hv : B_X0_comeAt I A a0 = some v) (hR : RmOk R cells slots 5 6) (hls : ls.size = nL) (hro : (rest.map fun v => v.category).sum ≤ 8) (hdg : decode cc pc = .ok (.invokevirtual 158, 3)) (kk : ∀ (H1 : Heap) (locs1 : List Loc), va_P D classes (cw cyI ad v.2.1 v.2.2) H1 → va_S (InN 44 ad) s.heap H1 locs1 → W p l e R s m args below meth c H1 locs1 cells slots Q (F0 m (pc + 3) ls (.int v.1 :: rest))) : W p l e R s m args below meth c H locs cells slots Q (F0 m pc ls (.ref (ad 2) :: .int a0 :: .ref (ad 4) :: rest)) :=
  cv_rw E (c_X0_comeAt l N P a0 hv) (gV kML_X6_158 kIM_X0_comeAt kSE_X0_comeAt kIN_X0 kCO_X0_comeAt) rfl ds_X0_comeAt rfl KC_blind (fun U _ hW => (K0.at S).warm hW) S (va_recv K0.k P (show classes[0]? = some (RX0, TX0, 5) from rfl) cw_g4) hR hls rfl hro hdg kk
end
section
variable {p : Program} {l : Launch} {e : Env} {R : Room} {s : State} {m : MethodId} {args : Array Value} {below : List Frame} {meth : Method} {c : Code} {H : Heap} {locs : List Loc} {cells slots : Nat} {Q : State → Prop} {cc : ByteArray} {nL pc : Nat} {ret : Option FieldType} {ls : Array Slot} {rest : List Value} {D : va_G} {cyI : ClassId} {ad : Nat → Nat} {I : Nat → Int32} {A : Nat → Nat → Int32}
theorem iv_X6_162 (E : EX p s m args meth c cc nL RX6 ret) (N : AdN 44 ad) (K0 : KC D cyI ad s s.heap) (P : va_P D classes (cw cyI ad I A) H) (S : va_S (InN 44 ad) s.heap H locs) {v : Int32 × (Nat → Int32) × (Nat → Nat → Int32)} (hv : B_X1_relax I A  = some v) (hR : RmOk R cells slots 5 4) (hls : ls.size = nL) (hro : (rest.map fun v => v.category).sum ≤ 8) (hdg : decode cc pc = .ok (.invokevirtual 162, 3)) (kk : ∀ (H1 : Heap) (locs1 : List Loc), va_P D classes (cw cyI ad v.2.1 v.2.2) H1 → va_S (InN 44 ad) s.heap H1 locs1 → W p l e R s m args below meth c H1 locs1 cells slots Q (F0 m (pc + 3) ls (.int v.1 :: rest))) : W p l e R s m args below meth c H locs cells slots Q (F0 m pc ls (.ref (ad 2) :: rest)) :=
  cv_rw E (c_X1_relax l N P  hv) (gV kML_X6_162 kIM_X1_relax kSE_X1_relax kIN_X1 kCO_X1_relax) rfl ds_X1_relax rfl KC_blind (fun U _ hW => (K0.at S).warm hW) S (va_recv K0.k P (show classes[1]? = some (RX1, TX1, 11) from rfl) cw_g2) hR hls rfl hro hdg kk
end
section
variable {p : Program} {l : Launch} {e : Env} {R : Room} {s : State} {m : MethodId} {args : Array Value} {below : List Frame} {meth : Method} {c : Code} {H : Heap} {locs : List Loc} {cells slots : Nat} {Q : State → Prop} {cc : ByteArray} {nL pc : Nat} {ret : Option FieldType} {ls : Array Slot} {rest : List Value} {D : va_G} {cyI : ClassId} {ad : Nat → Nat} {I : Nat → Int32} {A : Nat → Nat → Int32}
theorem iv_X6_166 (E : EX p s m args meth c cc nL RX6 ret) (N : AdN 44 ad) (K0 : KC D cyI ad s s.heap) (P : va_P D classes (cw cyI ad I A) H) (S : va_S (InN 44 ad) s.heap H locs) {v : (Nat → Int32) × (Nat → Nat → Int32)} (hv : B_X6_noteGreys I A  = some v) (hR : RmOk R cells slots 3 2) (hls : ls.size = nL) (hro : (rest.map fun v => v.category).sum ≤ 8) (hdg : decode cc pc = .ok (.invokevirtual 166, 3)) (kk : ∀ (H1 : Heap) (locs1 : List Loc), va_P D classes (cw cyI ad v.1 v.2) H1 → va_S (InN 44 ad) s.heap H1 locs1 → W p l e R s m args below meth c H1 locs1 cells slots Q (F0 m (pc + 3) ls (rest))) : W p l e R s m args below meth c H locs cells slots Q (F0 m pc ls (.ref (ad 0) :: rest)) :=
  cv_rw E (c_X6_noteGreys l N P  hv) (gV kML_X6_166 kIM_X6_noteGreys kSE_X6_noteGreys kIN_X6 kCO_X6_noteGreys) rfl ds_X6_noteGreys rfl KC_blind (fun U _ hW => (K0.at S).warm hW) S (va_recv K0.k P (show classes[6]? = some (RX6, TX6, 9) from rfl) cw_g0) hR hls rfl hro hdg kk
end
section
variable {p : Program} {l : Launch} {e : Env} {s : State} {m : MethodId} {args : Array Value} {below : List Frame} {meth : Method} {c : Code} {D : va_G} {cyI : ClassId} {ad : Nat → Nat} {I : Nat → Int32} {A : Nat → Nat → Int32}
def B_X6_tick_L49  (x1 x2 : Int32) : Nat → Int32 → (Nat → Int32) → (Nat → Nat → Int32) → Option ((Nat → Int32) × (Nat → Nat → Int32))
  | 0 => fun _ _ _ => none
  | n + 1 => fun x3 I A => if x1 ≤ x3 then some ((I, A)) else ((B_X0_comeAt ((va_up I 1 (((I 1) + 1)))) A ((((va_up I 1 (((I 1) + 1)))) 1))).bind fun q_4 => (B_X6_worked q_4.2.1 q_4.2.2 q_4.1).bind fun q_6 => (B_X1_relax q_6.2.1 q_6.2.2 ).bind fun q_8 => (B_X6_noteGreys ((va_up q_8.2.1 3 (((q_6.2.1 3) + q_8.1)))) q_8.2.2 ).bind fun q_10 => (B_X6_tick_L49 x1 x2 n) (x3 + 1) q_10.1 q_10.2)
theorem B_X6_tick_L49_s (I : Nat → Int32) (A : Nat → Nat → Int32) (x1 x2 x3 : Int32) (n : Nat) : B_X6_tick_L49  x1 x2 (n + 1) x3 I A = if x1 ≤ x3 then some ((I, A)) else ((B_X0_comeAt ((va_up I 1 (((I 1) + 1)))) A ((((va_up I 1 (((I 1) + 1)))) 1))).bind fun q_4 => (B_X6_worked q_4.2.1 q_4.2.2 q_4.1).bind fun q_6 => (B_X1_relax q_6.2.1 q_6.2.2 ).bind fun q_8 => (B_X6_noteGreys ((va_up q_8.2.1 3 (((q_6.2.1 3) + q_8.1)))) q_8.2.2 ).bind fun q_10 => (B_X6_tick_L49 x1 x2 n) (x3 + 1) q_10.1 q_10.2) := rfl
set_option maxHeartbeats 4000000 in
set_option maxRecDepth 100000 in
theorem w_X6_tick_L49 (E : EX p s m args meth c cX6_tick 4 RX6 (some .int)) (K0 : KC D cyI ad s s.heap) (N : AdN 44 ad) {x1 x2 : Int32} {out : Int32 × (Nat → Int32) × (Nat → Nat → Int32)} : ∀ (n : Nat) {x3 : Int32} {I : Nat → Int32} {A : Nat → Nat → Int32} {H : Heap} {locs : List Loc} (P : va_P D classes (cw cyI ad I A) H) (S : va_S (InN 44 ad) s.heap H locs) {o : (Nat → Int32) × (Nat → Nat → Int32)} (h : B_X6_tick_L49  x1 x2 n x3 I A = some o) {ls : Array Slot} (hl : lv_has ls 4 [(0, .ref (ad 0)), (1, .int x1), (2, .int x2), (3, .int x3)]) (kx : ∀ {H : Heap} {locs : List Loc} (_ : va_P D classes (cw cyI ad o.1 o.2) H) (_ : va_S (InN 44 ad) s.heap H locs) {ls : Array Slot}, lv_has ls 4 [(0, .ref (ad 0)), (2, .int x2)] → W p l e (rmL 6) s m args below meth c H locs 0 0 (MQ below (Qrw (InN 44 ad) (some (.int out.1)) (fun H1 => va_P D classes (cw cyI ad out.2.1 out.2.2) H1)) args s 0 0 (InN 44 ad)) (F0 m 110 ls [])), W p l e (rmL 6) s m args below meth c H locs 0 0 (MQ below (Qrw (InN 44 ad) (some (.int out.1)) (fun H1 => va_P D classes (cw cyI ad out.2.1 out.2.2) H1)) args s 0 0 (InN 44 ad)) (F0 m 49 ls []) := by
  intro n
  induction n with
  | zero => intro x3 I A H locs P S o h ls hl kx; exact nomatch (show none = some o from h)
  | succ n ih =>
    intro x3 I A H locs P S o h ls hl kx
    rw [B_X6_tick_L49_s] at h
    refine lv_iload_n E.hx E.hb dX6_tick_49 rfl (lv_at hl 3 rfl) ?_
    refine lv_iload_n E.hx E.hb dX6_tick_50 rfl (lv_at hl 1 rfl) ?_
    refine lv_icmp_ge (tgt := 110) E.hx E.hb dX6_tick_51 (by decide) (fun c_3 => ?_) (fun c_3 => ?_)
    · rw [if_pos c_3] at h
      cases h
      exact kx P S (lv_sub hl [0, 2] rfl)
    · rw [if_neg c_3] at h
      refine lv_aload_n E.hx E.hb dX6_tick_54 rfl (lv_at hl 0 rfl) ?_
      refine lv_dup E.hx E.hb dX6_tick_55 rfl ?_
      refine gf_X6_140 E K0 P dX6_tick_56 ?_
      refine lv_iconst (v := 1) E.hx E.hb dX6_tick_59 (by decide) ?_
      refine lv_iadd E.hx E.hb dX6_tick_60 ?_
      refine pf_X6_140 E N K0 P S dX6_tick_61 (fun H locs P S => ?_)
      refine lv_aload_n E.hx E.hb dX6_tick_64 rfl (lv_at hl 0 rfl) ?_
      refine lv_aload_n E.hx E.hb dX6_tick_65 rfl (lv_at hl 0 rfl) ?_
      refine gf_X6_37 E K0 P dX6_tick_66 ?_
      refine lv_aload_n E.hx E.hb dX6_tick_69 rfl (lv_at hl 0 rfl) ?_
      refine gf_X6_140 E K0 P dX6_tick_70 ?_
      refine lv_aload_n E.hx E.hb dX6_tick_73 rfl (lv_at hl 0 rfl) ?_
      refine gf_X6_21 E K0 P dX6_tick_74 ?_
      obtain ⟨q_4, e_5, h⟩ := obind h
      refine iv_X6_158 E N K0 P S e_5 (by decide) hl.1 (Nat.le_of_ble_eq_true rfl) dX6_tick_77 (fun H locs P S => ?_)
      obtain ⟨q_6, e_7, h⟩ := obind h
      refine iv_X6_73 E N K0 P S e_7 (by decide) hl.1 (Nat.le_of_ble_eq_true rfl) dX6_tick_80 (fun H locs P S => ?_)
      refine lv_pop E.hx E.hb dX6_tick_83 rfl ?_
      refine lv_aload_n E.hx E.hb dX6_tick_84 rfl (lv_at hl 0 rfl) ?_
      refine lv_dup E.hx E.hb dX6_tick_85 rfl ?_
      refine gf_X6_155 E K0 P dX6_tick_86 ?_
      refine lv_aload_n E.hx E.hb dX6_tick_89 rfl (lv_at hl 0 rfl) ?_
      refine gf_X6_21 E K0 P dX6_tick_90 ?_
      obtain ⟨q_8, e_9, h⟩ := obind h
      refine iv_X6_162 E N K0 P S e_9 (by decide) hl.1 (Nat.le_of_ble_eq_true rfl) dX6_tick_93 (fun H locs P S => ?_)
      refine lv_iadd E.hx E.hb dX6_tick_96 ?_
      refine pf_X6_155 E N K0 P S dX6_tick_97 (fun H locs P S => ?_)
      refine lv_aload_n E.hx E.hb dX6_tick_100 rfl (lv_at hl 0 rfl) ?_
      obtain ⟨q_10, e_11, h⟩ := obind h
      refine iv_X6_166 E N K0 P S e_11 (by decide) hl.1 (Nat.le_of_ble_eq_true rfl) dX6_tick_101 (fun H locs P S => ?_)
      refine lv_iinc (v := x3 + 1) (lv' := [(3, .int (x3 + 1)), (0, .ref (ad 0)), (1, .int x1), (2, .int x2)]) E.hx E.hb dX6_tick_104 hl (k := 3) rfl rfl (by decide) rfl (fun ls hl => ?_)
      refine lv_goto (tgt := 49) E.hx E.hb dX6_tick_107 (by decide) ?_
      exact ih P S h (lv_sub hl [1, 2, 3, 0] rfl) kx
def B_X6_tick (I : Nat → Int32) (A : Nat → Nat → Int32) (x1 : Int32) : Option (Int32 × (Nat → Int32) × (Nat → Nat → Int32)) := if (B_X6_isIn x1 1 50) = 0 then none else (if ((I 1) + x1) ≤ 2000 then ((B_X6_tick_L49  x1 ((I 3)) FU 0 I A).bind fun q_12 => some (((q_12.1 3) - (I 3)), q_12.1, q_12.2)) else none)
set_option maxHeartbeats 4000000 in
set_option maxRecDepth 100000 in
theorem w_X6_tick (E : EX p s m args meth c cX6_tick 4 RX6 (some .int)) (K0 : KC D cyI ad s s.heap) (N : AdN 44 ad) {H : Heap} {locs : List Loc} (P : va_P D classes (cw cyI ad I A) H) (S : va_S (InN 44 ad) s.heap H locs)  {x1 : Int32} {out : Int32 × (Nat → Int32) × (Nat → Nat → Int32)} (h : B_X6_tick I A x1 = some out) {ls : Array Slot} (hl : lv_has ls 4 [(0, .ref (ad 0)), (1, .int x1)]) : W p l e (rmL 6) s m args below meth c H locs 0 0 (MQ below (Qrw (InN 44 ad) (some (.int out.1)) (fun H1 => va_P D classes (cw cyI ad out.2.1 out.2.2) H1)) args s 0 0 (InN 44 ad)) (F0 m 0 ls []) := by
  unfold B_X6_tick at h
  refine lv_iload_n E.hx E.hb dX6_tick_0 rfl (lv_at hl 1 rfl) ?_
  refine lv_iconst (v := 1) E.hx E.hb dX6_tick_1 (by decide) ?_
  refine lv_bipush (v := 50) E.hx E.hb dX6_tick_2 (by decide) ?_
  refine iv_X6_56 E K0 S (by decide) hl.1 (Nat.le_of_ble_eq_true rfl) dX6_tick_4 ?_
  refine lv_if_ne (tgt := 20) E.hx E.hb dX6_tick_7 (by decide) (fun c_1 => ?_) (fun c_1 => ?_)
  · rw [if_neg c_1] at h
    refine lv_aload_n E.hx E.hb dX6_tick_20 rfl (lv_at hl 0 rfl) ?_
    refine gf_X6_140 E K0 P dX6_tick_21 ?_
    refine lv_iload_n E.hx E.hb dX6_tick_24 rfl (lv_at hl 1 rfl) ?_
    refine lv_iadd E.hx E.hb dX6_tick_25 ?_
    refine lv_sipush (v := 2000) E.hx E.hb dX6_tick_26 (by decide) ?_
    refine lv_icmp_le (tgt := 42) E.hx E.hb dX6_tick_29 (by decide) (fun c_2 => ?_) (fun c_2 => ?_)
    · rw [if_pos c_2] at h
      refine lv_aload_n E.hx E.hb dX6_tick_42 rfl (lv_at hl 0 rfl) ?_
      refine gf_X6_155 E K0 P dX6_tick_43 ?_
      refine lv_istore_n (lv' := [(2, .int (I 3)), (0, .ref (ad 0)), (1, .int x1)]) E.hx E.hb dX6_tick_46 rfl hl (by decide) rfl (fun ls hl => ?_)
      refine lv_iconst (v := 0) E.hx E.hb dX6_tick_47 (by decide) ?_
      refine lv_istore_n (lv' := [(3, .int 0), (2, .int (I 3)), (0, .ref (ad 0)), (1, .int x1)]) E.hx E.hb dX6_tick_48 rfl hl (by decide) rfl (fun ls hl => ?_)
      obtain ⟨q_12, e_13, h⟩ := obind h
      refine w_X6_tick_L49 E K0 N FU P S e_13 (lv_sub hl [2, 3, 1, 0] rfl) (fun {H locs} P S {ls} hl => ?_)
      refine lv_aload_n E.hx E.hb dX6_tick_110 rfl (lv_at hl 0 rfl) ?_
      refine gf_X6_155 E K0 P dX6_tick_111 ?_
      refine lv_iload_n E.hx E.hb dX6_tick_114 rfl (lv_at hl 1 rfl) ?_
      refine lv_isub E.hx E.hb dX6_tick_115 ?_
      cases h
      exact W.iret E.hx E.hb E.hr (fun t ht _ => ⟨rfl, by rw [ht]; exact P, S.F ht⟩) S.2.2 dX6_tick_116 E.hk
    · rw [if_neg c_2] at h
      exact nomatch h
  · rw [if_pos c_1] at h
    exact nomatch h
theorem c_X6_tick (l : Launch) {H : Heap} {D : va_G} {cyI : ClassId} {ad : Nat → Nat} {I : Nat → Int32} {A : Nat → Nat → Int32} (N : AdN 44 ad) (P : va_P D classes (cw cyI ad I A) H) (x1 : Int32) {out : Int32 × (Nat → Int32) × (Nat → Nat → Int32)} (h : B_X6_tick I A x1 = some out) : MRW l yX6_tick cX6_tick 4 (some .int) 6 [.ref (ad 0), .int x1] H (KC D cyI ad) (InN 44 ad) (some (.int out.1)) (fun H1 => va_P D classes (cw cyI ad out.2.1 out.2.2) H1) := by
  refine Mof (own := RX6) (by decide +kernel) rfl rfl ?_
  intro p e s m args below meth c ls E hH K0 hl
  subst hH
  exact w_X6_tick E K0 N P va_S.rf h hl
theorem ds_X6_tick : Dsc yX6_tick 1 := ⟨by decide +kernel, by decide +kernel, by decide +kernel⟩
end
section
variable {p : Program} {l : Launch} {e : Env} {R : Room} {s : State} {m : MethodId} {args : Array Value} {below : List Frame} {meth : Method} {c : Code} {H : Heap} {locs : List Loc} {cells slots : Nat} {Q : State → Prop} {cc : ByteArray} {nL pc : Nat} {ret : Option FieldType} {ls : Array Slot} {rest : List Value} {D : va_G} {cyI : ClassId} {ad : Nat → Nat} {I : Nat → Int32} {A : Nat → Nat → Int32}
theorem iv_X6_176 (E : EX p s m args meth c cc nL RX6 ret) (K0 : KC D cyI ad s s.heap) (P : va_P D classes (cw cyI ad I A) H) (S : va_S (InN 44 ad) s.heap H locs) {a0 a1 : Int32} (hR : RmOk R cells slots 1 3) (hls : ls.size = nL) (hro : (rest.map fun v => v.category).sum ≤ 8) (hdg : decode cc pc = .ok (.invokevirtual 176, 3)) (kk : W p l e R s m args below meth c H locs cells slots Q (F0 m (pc + 3) ls (.int (B_X1_directionAt I A a0 a1) :: rest))) : W p l e R s m args below meth c H locs cells slots Q (F0 m pc ls (.int a1 :: .int a0 :: .ref (ad 2) :: rest)) :=
  cv_ro E (c_X1_directionAt l P a0 a1 ) (gV kML_X6_176 kIM_X1_directionAt kSE_X1_directionAt kIN_X1 kCO_X1_directionAt) rfl ds_X1_directionAt rfl KC_blind (fun U _ hW => (K0.at S).warm hW) (va_recv K0.k P (show classes[1]? = some (RX1, TX1, 11) from rfl) cw_g2) hR hls rfl hro hdg kk
end
section
variable {p : Program} {l : Launch} {e : Env} {R : Room} {s : State} {m : MethodId} {args : Array Value} {below : List Frame} {meth : Method} {c : Code} {H : Heap} {locs : List Loc} {cells slots : Nat} {Q : State → Prop} {cc : ByteArray} {nL pc : Nat} {ret : Option FieldType} {ls : Array Slot} {rest : List Value} {D : va_G} {cyI : ClassId} {ad : Nat → Nat} {I : Nat → Int32} {A : Nat → Nat → Int32}
theorem iv_X6_179 (E : EX p s m args meth c cc nL RX6 ret) (K0 : KC D cyI ad s s.heap) (P : va_P D classes (cw cyI ad I A) H) (S : va_S (InN 44 ad) s.heap H locs) {a0 a1 : Int32} (hR : RmOk R cells slots 1 3) (hls : ls.size = nL) (hro : (rest.map fun v => v.category).sum ≤ 8) (hdg : decode cc pc = .ok (.invokevirtual 179, 3)) (kk : W p l e R s m args below meth c H locs cells slots Q (F0 m (pc + 3) ls (.int (B_X1_pixelAt I A a0 a1) :: rest))) : W p l e R s m args below meth c H locs cells slots Q (F0 m pc ls (.int a1 :: .int a0 :: .ref (ad 2) :: rest)) :=
  cv_ro E (c_X1_pixelAt l P a0 a1 ) (gV kML_X6_179 kIM_X1_pixelAt kSE_X1_pixelAt kIN_X1 kCO_X1_pixelAt) rfl ds_X1_pixelAt rfl KC_blind (fun U _ hW => (K0.at S).warm hW) (va_recv K0.k P (show classes[1]? = some (RX1, TX1, 11) from rfl) cw_g2) hR hls rfl hro hdg kk
end
section
variable {p : Program} {l : Launch} {e : Env} {R : Room} {s : State} {m : MethodId} {args : Array Value} {below : List Frame} {meth : Method} {c : Code} {H : Heap} {locs : List Loc} {cells slots : Nat} {Q : State → Prop} {cc : ByteArray} {nL pc : Nat} {ret : Option FieldType} {ls : Array Slot} {rest : List Value} {D : va_G} {cyI : ClassId} {ad : Nat → Nat} {I : Nat → Int32} {A : Nat → Nat → Int32}
theorem iv_X6_182 (E : EX p s m args meth c cc nL RX6 ret) (K0 : KC D cyI ad s s.heap) (S : va_S (InN 44 ad) s.heap H locs) {a0 a1 : Int32} (hR : RmOk R cells slots 1 3) (hls : ls.size = nL) (hro : (rest.map fun v => v.category).sum ≤ 8) (hdg : decode cc pc = .ok (.invokestatic 182, 3)) (kk : W p l e R s m args below meth c H locs cells slots Q (F0 m (pc + 3) ls (.int (B_X6_greyOf a0 a1) :: rest))) : W p l e R s m args below meth c H locs cells slots Q (F0 m pc ls (.int a1 :: .int a0 :: rest)) :=
  cs_ro E (c_X6_greyOf l (H := H) (D := D) (cyI := cyI) (ad := ad) a0 a1 ) (gS kML_X6_182 kST_X6_greyOf kIN_X6 kCO_X6_greyOf) rfl ds_X6_greyOf rfl KC_blind (fun U _ hW => (K0.at S).warm hW) hR hls rfl hro hdg kk
end
section
variable {p : Program} {l : Launch} {e : Env} {R : Room} {s : State} {m : MethodId} {args : Array Value} {below : List Frame} {meth : Method} {c : Code} {H : Heap} {locs : List Loc} {cells slots : Nat} {Q : State → Prop} {cc : ByteArray} {nL pc : Nat} {ret : Option FieldType} {ls : Array Slot} {rest : List Value} {D : va_G} {cyI : ClassId} {ad : Nat → Nat} {I : Nat → Int32} {A : Nat → Nat → Int32}
theorem iv_X6_185 (E : EX p s m args meth c cc nL RX6 ret) (K0 : KC D cyI ad s s.heap) (P : va_P D classes (cw cyI ad I A) H) (S : va_S (InN 44 ad) s.heap H locs) {a0 a1 : Int32} (hR : RmOk R cells slots 4 3) (hls : ls.size = nL) (hro : (rest.map fun v => v.category).sum ≤ 8) (hdg : decode cc pc = .ok (.invokevirtual 185, 3)) (kk : W p l e R s m args below meth c H locs cells slots Q (F0 m (pc + 3) ls (.int (B_X1_energyAt I A a0 a1) :: rest))) : W p l e R s m args below meth c H locs cells slots Q (F0 m pc ls (.int a1 :: .int a0 :: .ref (ad 2) :: rest)) :=
  cv_ro E (c_X1_energyAt l P a0 a1 ) (gV kML_X6_185 kIM_X1_energyAt kSE_X1_energyAt kIN_X1 kCO_X1_energyAt) rfl ds_X1_energyAt rfl KC_blind (fun U _ hW => (K0.at S).warm hW) (va_recv K0.k P (show classes[1]? = some (RX1, TX1, 11) from rfl) cw_g2) hR hls rfl hro hdg kk
end
section
variable {p : Program} {l : Launch} {e : Env} {s : State} {m : MethodId} {args : Array Value} {below : List Frame} {meth : Method} {c : Code} {D : va_G} {cyI : ClassId} {ad : Nat → Nat} {I : Nat → Int32} {A : Nat → Nat → Int32}
def B_X6_told (I : Nat → Int32) (A : Nat → Nat → Int32) (x1 x2 x3 : Int32) : Option (Int32) := if (B_X1_has I A x1 x2) = 0 then none else (if x3 = 0 then some ((B_X1_directionAt I A x1 x2)) else if x3 = 1 then some ((B_X1_kindAt I A x1 x2)) else if x3 = 2 then some ((B_X1_pixelAt I A x1 x2)) else if x3 = 3 then some ((B_X6_greyOf ((B_X1_directionAt I A x1 x2)) ((I 0)))) else if x3 = 4 then some ((B_X1_energyAt I A x1 x2)) else none)
set_option maxHeartbeats 4000000 in
set_option maxRecDepth 100000 in
theorem w_X6_told (E : EX p s m args meth c cX6_told 4 RX6 (some .int)) (K0 : KC D cyI ad s s.heap) (P : va_P D classes (cw cyI ad I A) s.heap)  {x1 x2 x3 : Int32} {out : Int32} (h : B_X6_told I A x1 x2 x3 = some out) {ls : Array Slot} (hl : lv_has ls 4 [(0, .ref (ad 0)), (1, .int x1), (2, .int x2), (3, .int x3)]) : W p l e (rmL 5) s m args below meth c s.heap [] 0 0 (MQ below (vp_Si (fun z => z = out)) args s 0 0 (fun _ => False)) (F0 m 0 ls []) := by
  unfold B_X6_told at h
  refine lv_aload_n E.hx E.hb dX6_told_0 rfl (lv_at hl 0 rfl) ?_
  refine gf_X6_21 E K0 P dX6_told_1 ?_
  refine lv_iload_n E.hx E.hb dX6_told_4 rfl (lv_at hl 1 rfl) ?_
  refine lv_iload_n E.hx E.hb dX6_told_5 rfl (lv_at hl 2 rfl) ?_
  refine iv_X6_77 E K0 P va_S.rf (by decide) hl.1 (Nat.le_of_ble_eq_true rfl) dX6_told_6 ?_
  refine lv_if_ne (tgt := 22) E.hx E.hb dX6_told_9 (by decide) (fun c_1 => ?_) (fun c_1 => ?_)
  · rw [if_neg c_1] at h
    refine lv_iload_n E.hx E.hb dX6_told_22 rfl (lv_at hl 3 rfl) ?_
    by_cases c_2 : x3 = 0
    · rw [if_pos c_2] at h
      refine lv_tableIn (off := 33) (tgt := 56) E.hx E.hb dX6_told_23 (by rw [c_2]; decide) (by rw [c_2]; decide) (by rw [c_2]; rfl) (by decide) ?_
      refine lv_aload_n E.hx E.hb dX6_told_56 rfl (lv_at hl 0 rfl) ?_
      refine gf_X6_21 E K0 P dX6_told_57 ?_
      refine lv_iload_n E.hx E.hb dX6_told_60 rfl (lv_at hl 1 rfl) ?_
      refine lv_iload_n E.hx E.hb dX6_told_61 rfl (lv_at hl 2 rfl) ?_
      refine iv_X6_176 E K0 P va_S.rf (by decide) hl.1 (Nat.le_of_ble_eq_true rfl) dX6_told_62 ?_
      exact W.iret E.hx E.hb E.hr (fun t ht _ => ⟨_, rfl, (Option.some.inj h), ht⟩) (fun q hq => nomatch hq) dX6_told_65 E.hk
    rw [if_neg c_2] at h
    by_cases c_3 : x3 = 1
    · rw [if_pos c_3] at h
      refine lv_tableIn (off := 43) (tgt := 66) E.hx E.hb dX6_told_23 (by rw [c_3]; decide) (by rw [c_3]; decide) (by rw [c_3]; rfl) (by decide) ?_
      refine lv_aload_n E.hx E.hb dX6_told_66 rfl (lv_at hl 0 rfl) ?_
      refine gf_X6_21 E K0 P dX6_told_67 ?_
      refine lv_iload_n E.hx E.hb dX6_told_70 rfl (lv_at hl 1 rfl) ?_
      refine lv_iload_n E.hx E.hb dX6_told_71 rfl (lv_at hl 2 rfl) ?_
      refine iv_X6_92 E K0 P va_S.rf (by decide) hl.1 (Nat.le_of_ble_eq_true rfl) dX6_told_72 ?_
      exact W.iret E.hx E.hb E.hr (fun t ht _ => ⟨_, rfl, (Option.some.inj h), ht⟩) (fun q hq => nomatch hq) dX6_told_75 E.hk
    rw [if_neg c_3] at h
    by_cases c_4 : x3 = 2
    · rw [if_pos c_4] at h
      refine lv_tableIn (off := 53) (tgt := 76) E.hx E.hb dX6_told_23 (by rw [c_4]; decide) (by rw [c_4]; decide) (by rw [c_4]; rfl) (by decide) ?_
      refine lv_aload_n E.hx E.hb dX6_told_76 rfl (lv_at hl 0 rfl) ?_
      refine gf_X6_21 E K0 P dX6_told_77 ?_
      refine lv_iload_n E.hx E.hb dX6_told_80 rfl (lv_at hl 1 rfl) ?_
      refine lv_iload_n E.hx E.hb dX6_told_81 rfl (lv_at hl 2 rfl) ?_
      refine iv_X6_179 E K0 P va_S.rf (by decide) hl.1 (Nat.le_of_ble_eq_true rfl) dX6_told_82 ?_
      exact W.iret E.hx E.hb E.hr (fun t ht _ => ⟨_, rfl, (Option.some.inj h), ht⟩) (fun q hq => nomatch hq) dX6_told_85 E.hk
    rw [if_neg c_4] at h
    by_cases c_5 : x3 = 3
    · rw [if_pos c_5] at h
      refine lv_tableIn (off := 63) (tgt := 86) E.hx E.hb dX6_told_23 (by rw [c_5]; decide) (by rw [c_5]; decide) (by rw [c_5]; rfl) (by decide) ?_
      refine lv_aload_n E.hx E.hb dX6_told_86 rfl (lv_at hl 0 rfl) ?_
      refine gf_X6_21 E K0 P dX6_told_87 ?_
      refine lv_iload_n E.hx E.hb dX6_told_90 rfl (lv_at hl 1 rfl) ?_
      refine lv_iload_n E.hx E.hb dX6_told_91 rfl (lv_at hl 2 rfl) ?_
      refine iv_X6_176 E K0 P va_S.rf (by decide) hl.1 (Nat.le_of_ble_eq_true rfl) dX6_told_92 ?_
      refine lv_aload_n E.hx E.hb dX6_told_95 rfl (lv_at hl 0 rfl) ?_
      refine gf_X6_48 E K0 P dX6_told_96 ?_
      refine iv_X6_182 E K0 va_S.rf (by decide) hl.1 (Nat.le_of_ble_eq_true rfl) dX6_told_99 ?_
      exact W.iret E.hx E.hb E.hr (fun t ht _ => ⟨_, rfl, (Option.some.inj h), ht⟩) (fun q hq => nomatch hq) dX6_told_102 E.hk
    rw [if_neg c_5] at h
    by_cases c_6 : x3 = 4
    · rw [if_pos c_6] at h
      refine lv_tableIn (off := 80) (tgt := 103) E.hx E.hb dX6_told_23 (by rw [c_6]; decide) (by rw [c_6]; decide) (by rw [c_6]; rfl) (by decide) ?_
      refine lv_aload_n E.hx E.hb dX6_told_103 rfl (lv_at hl 0 rfl) ?_
      refine gf_X6_21 E K0 P dX6_told_104 ?_
      refine lv_iload_n E.hx E.hb dX6_told_107 rfl (lv_at hl 1 rfl) ?_
      refine lv_iload_n E.hx E.hb dX6_told_108 rfl (lv_at hl 2 rfl) ?_
      refine iv_X6_185 E K0 P va_S.rf (by decide) hl.1 (Nat.le_of_ble_eq_true rfl) dX6_told_109 ?_
      exact W.iret E.hx E.hb E.hr (fun t ht _ => ⟨_, rfl, (Option.some.inj h), ht⟩) (fun q hq => nomatch hq) dX6_told_112 E.hk
    rw [if_neg c_6] at h
    refine lv_tableOut (tgt := 113) E.hx E.hb dX6_told_23 (swo 4 (by decide) (by intro j hj; rcases (show j = 0 ∨ j = 1 ∨ j = 2 ∨ j = 3 ∨ j = 4 by omega) with rfl | rfl | rfl | rfl | rfl <;> assumption)) (by decide) ?_
    exact nomatch h
  · rw [if_pos c_1] at h
    exact nomatch h
theorem c_X6_told (l : Launch) {H : Heap} {D : va_G} {cyI : ClassId} {ad : Nat → Nat} {I : Nat → Int32} {A : Nat → Nat → Int32} (P : va_P D classes (cw cyI ad I A) H) (x1 x2 x3 : Int32) {out : Int32} (h : B_X6_told I A x1 x2 x3 = some out) : MRO l yX6_told cX6_told 4 (some .int) 5 [.ref (ad 0), .int x1, .int x2, .int x3] H (KC D cyI ad) out := by
  refine Mof (own := RX6) (by decide +kernel) rfl rfl ?_
  intro p e s m args below meth c ls E hH K0 hl
  subst hH
  exact w_X6_told E K0 P h hl
theorem ds_X6_told : Dsc yX6_told 3 := ⟨by decide +kernel, by decide +kernel, by decide +kernel⟩
end
section
variable {p : Program} {l : Launch} {e : Env} {R : Room} {s : State} {m : MethodId} {args : Array Value} {below : List Frame} {meth : Method} {c : Code} {H : Heap} {locs : List Loc} {cells slots : Nat} {Q : State → Prop} {cc : ByteArray} {nL pc : Nat} {ret : Option FieldType} {ls : Array Slot} {rest : List Value} {D : va_G} {cyI : ClassId} {ad : Nat → Nat} {I : Nat → Int32} {A : Nat → Nat → Int32}
theorem iv_X6_228 (E : EX p s m args meth c cc nL RX6 ret) (K0 : KC D cyI ad s s.heap) (P : va_P D classes (cw cyI ad I A) H) (S : va_S (InN 44 ad) s.heap H locs) {a0 : Int32} {v : Int32} (hv : B_X3_flicker I A a0 = some v) (hR : RmOk R cells slots 1 8) (hls : ls.size = nL) (hro : (rest.map fun v => v.category).sum ≤ 8) (hdg : decode cc pc = .ok (.invokevirtual 228, 3)) (kk : W p l e R s m args below meth c H locs cells slots Q (F0 m (pc + 3) ls (.int v :: rest))) : W p l e R s m args below meth c H locs cells slots Q (F0 m pc ls (.int a0 :: .ref (ad 1) :: rest)) :=
  cv_ro E (c_X3_flicker l P a0 hv) (gV kML_X6_228 kIM_X3_flicker kSE_X3_flicker kIN_X3 kCO_X3_flicker) rfl ds_X3_flicker rfl KC_blind (fun U _ hW => (K0.at S).warm hW) (va_recv K0.k P (show classes[3]? = some (RX3, TX3, 9) from rfl) cw_g1) hR hls rfl hro hdg kk
end
section
variable {p : Program} {l : Launch} {e : Env} {R : Room} {s : State} {m : MethodId} {args : Array Value} {below : List Frame} {meth : Method} {c : Code} {H : Heap} {locs : List Loc} {cells slots : Nat} {Q : State → Prop} {cc : ByteArray} {nL pc : Nat} {ret : Option FieldType} {ls : Array Slot} {rest : List Value} {D : va_G} {cyI : ClassId} {ad : Nat → Nat} {I : Nat → Int32} {A : Nat → Nat → Int32}
theorem iv_X6_231 (E : EX p s m args meth c cc nL RX6 ret) (K0 : KC D cyI ad s s.heap) (P : va_P D classes (cw cyI ad I A) H) (S : va_S (InN 44 ad) s.heap H locs) {a0 : Int32} {v : Int32} (hv : B_X5_isGood I A a0 = some v) (hR : RmOk R cells slots 4 4) (hls : ls.size = nL) (hro : (rest.map fun v => v.category).sum ≤ 8) (hdg : decode cc pc = .ok (.invokevirtual 231, 3)) (kk : W p l e R s m args below meth c H locs cells slots Q (F0 m (pc + 3) ls (.int v :: rest))) : W p l e R s m args below meth c H locs cells slots Q (F0 m pc ls (.int a0 :: .ref (ad 3) :: rest)) :=
  cv_ro E (c_X5_isGood l P a0 hv) (gV kML_X6_231 kIM_X5_isGood kSE_X5_isGood kIN_X5 kCO_X5_isGood) rfl ds_X5_isGood rfl KC_blind (fun U _ hW => (K0.at S).warm hW) (va_recv K0.k P (show classes[5]? = some (RX5, TX5, 1) from rfl) cw_g3) hR hls rfl hro hdg kk
end
section
variable {p : Program} {l : Launch} {e : Env} {R : Room} {s : State} {m : MethodId} {args : Array Value} {below : List Frame} {meth : Method} {c : Code} {H : Heap} {locs : List Loc} {cells slots : Nat} {Q : State → Prop} {cc : ByteArray} {nL pc : Nat} {ret : Option FieldType} {ls : Array Slot} {rest : List Value} {D : va_G} {cyI : ClassId} {ad : Nat → Nat} {I : Nat → Int32} {A : Nat → Nat → Int32}
theorem iv_X6_234 (E : EX p s m args meth c cc nL RX6 ret) (K0 : KC D cyI ad s s.heap) (P : va_P D classes (cw cyI ad I A) H) (S : va_S (InN 44 ad) s.heap H locs) {a0 : Int32} (hR : RmOk R cells slots 1 2) (hls : ls.size = nL) (hro : (rest.map fun v => v.category).sum ≤ 8) (hdg : decode cc pc = .ok (.invokevirtual 234, 3)) (kk : W p l e R s m args below meth c H locs cells slots Q (F0 m (pc + 3) ls (.int (B_X3_fieldDirection I A a0) :: rest))) : W p l e R s m args below meth c H locs cells slots Q (F0 m pc ls (.int a0 :: .ref (ad 1) :: rest)) :=
  cv_ro E (c_X3_fieldDirection l P a0 ) (gV kML_X6_234 kIM_X3_fieldDirection kSE_X3_fieldDirection kIN_X3 kCO_X3_fieldDirection) rfl ds_X3_fieldDirection rfl KC_blind (fun U _ hW => (K0.at S).warm hW) (va_recv K0.k P (show classes[3]? = some (RX3, TX3, 9) from rfl) cw_g1) hR hls rfl hro hdg kk
end
section
variable {p : Program} {l : Launch} {e : Env} {R : Room} {s : State} {m : MethodId} {args : Array Value} {below : List Frame} {meth : Method} {c : Code} {H : Heap} {locs : List Loc} {cells slots : Nat} {Q : State → Prop} {cc : ByteArray} {nL pc : Nat} {ret : Option FieldType} {ls : Array Slot} {rest : List Value} {D : va_G} {cyI : ClassId} {ad : Nat → Nat} {I : Nat → Int32} {A : Nat → Nat → Int32}
theorem iv_X6_237 (E : EX p s m args meth c cc nL RX6 ret) (K0 : KC D cyI ad s s.heap) (P : va_P D classes (cw cyI ad I A) H) (S : va_S (InN 44 ad) s.heap H locs) {a0 : Int32} (hR : RmOk R cells slots 1 2) (hls : ls.size = nL) (hro : (rest.map fun v => v.category).sum ≤ 8) (hdg : decode cc pc = .ok (.invokevirtual 237, 3)) (kk : W p l e R s m args below meth c H locs cells slots Q (F0 m (pc + 3) ls (.int (B_X3_fieldStrength I A a0) :: rest))) : W p l e R s m args below meth c H locs cells slots Q (F0 m pc ls (.int a0 :: .ref (ad 1) :: rest)) :=
  cv_ro E (c_X3_fieldStrength l P a0 ) (gV kML_X6_237 kIM_X3_fieldStrength kSE_X3_fieldStrength kIN_X3 kCO_X3_fieldStrength) rfl ds_X3_fieldStrength rfl KC_blind (fun U _ hW => (K0.at S).warm hW) (va_recv K0.k P (show classes[3]? = some (RX3, TX3, 9) from rfl) cw_g1) hR hls rfl hro hdg kk
end
section
variable {p : Program} {l : Launch} {e : Env} {s : State} {m : MethodId} {args : Array Value} {below : List Frame} {meth : Method} {c : Code} {D : va_G} {cyI : ClassId} {ad : Nat → Nat} {I : Nat → Int32} {A : Nat → Nat → Int32}
def B_X6_ofPixel (I : Nat → Int32) (A : Nat → Nat → Int32) (x1 x2 : Int32) : Option (Int32) := if (B_X3_has I A x1) = 0 then none else (if x2 = 0 then ((B_X1_greyOfPixel I A x1 ((I 0))).bind fun r_3 => some r_3) else if x2 = 1 then ((B_X3_flicker I A x1).bind fun r_6 => some r_6) else if x2 = 2 then ((B_X5_isGood I A x1).bind fun r_9 => if r_9 = 0 then some 0 else some 1) else if x2 = 3 then some ((B_X3_fieldDirection I A x1)) else if x2 = 4 then some ((B_X3_fieldStrength I A x1)) else none)
set_option maxHeartbeats 4000000 in
set_option maxRecDepth 100000 in
theorem w_X6_ofPixel (E : EX p s m args meth c cX6_ofPixel 3 RX6 (some .int)) (K0 : KC D cyI ad s s.heap) (P : va_P D classes (cw cyI ad I A) s.heap)  {x1 x2 : Int32} {out : Int32} (h : B_X6_ofPixel I A x1 x2 = some out) {ls : Array Slot} (hl : lv_has ls 3 [(0, .ref (ad 0)), (1, .int x1), (2, .int x2)]) : W p l e (rmL 5) s m args below meth c s.heap [] 0 0 (MQ below (vp_Si (fun z => z = out)) args s 0 0 (fun _ => False)) (F0 m 0 ls []) := by
  unfold B_X6_ofPixel at h
  refine lv_aload_n E.hx E.hb dX6_ofPixel_0 rfl (lv_at hl 0 rfl) ?_
  refine gf_X6_12 E K0 P dX6_ofPixel_1 ?_
  refine lv_iload_n E.hx E.hb dX6_ofPixel_4 rfl (lv_at hl 1 rfl) ?_
  refine iv_X6_131 E K0 P va_S.rf (by decide) hl.1 (Nat.le_of_ble_eq_true rfl) dX6_ofPixel_5 ?_
  refine lv_if_ne (tgt := 21) E.hx E.hb dX6_ofPixel_8 (by decide) (fun c_1 => ?_) (fun c_1 => ?_)
  · rw [if_neg c_1] at h
    refine lv_iload_n E.hx E.hb dX6_ofPixel_21 rfl (lv_at hl 2 rfl) ?_
    by_cases c_2 : x2 = 0
    · rw [if_pos c_2] at h
      refine lv_tableIn (off := 34) (tgt := 56) E.hx E.hb dX6_ofPixel_22 (by rw [c_2]; decide) (by rw [c_2]; decide) (by rw [c_2]; rfl) (by decide) ?_
      refine lv_aload_n E.hx E.hb dX6_ofPixel_56 rfl (lv_at hl 0 rfl) ?_
      refine gf_X6_21 E K0 P dX6_ofPixel_57 ?_
      refine lv_iload_n E.hx E.hb dX6_ofPixel_60 rfl (lv_at hl 1 rfl) ?_
      refine lv_aload_n E.hx E.hb dX6_ofPixel_61 rfl (lv_at hl 0 rfl) ?_
      refine gf_X6_48 E K0 P dX6_ofPixel_62 ?_
      obtain ⟨r_3, e_4, h⟩ := obind h
      refine iv_X6_225 E K0 P va_S.rf e_4 (by decide) hl.1 (Nat.le_of_ble_eq_true rfl) dX6_ofPixel_65 ?_
      exact W.iret E.hx E.hb E.hr (fun t ht _ => ⟨_, rfl, (Option.some.inj h), ht⟩) (fun q hq => nomatch hq) dX6_ofPixel_68 E.hk
    rw [if_neg c_2] at h
    by_cases c_5 : x2 = 1
    · rw [if_pos c_5] at h
      refine lv_tableIn (off := 47) (tgt := 69) E.hx E.hb dX6_ofPixel_22 (by rw [c_5]; decide) (by rw [c_5]; decide) (by rw [c_5]; rfl) (by decide) ?_
      refine lv_aload_n E.hx E.hb dX6_ofPixel_69 rfl (lv_at hl 0 rfl) ?_
      refine gf_X6_12 E K0 P dX6_ofPixel_70 ?_
      refine lv_iload_n E.hx E.hb dX6_ofPixel_73 rfl (lv_at hl 1 rfl) ?_
      obtain ⟨r_6, e_7, h⟩ := obind h
      refine iv_X6_228 E K0 P va_S.rf e_7 (by decide) hl.1 (Nat.le_of_ble_eq_true rfl) dX6_ofPixel_74 ?_
      exact W.iret E.hx E.hb E.hr (fun t ht _ => ⟨_, rfl, (Option.some.inj h), ht⟩) (fun q hq => nomatch hq) dX6_ofPixel_77 E.hk
    rw [if_neg c_5] at h
    by_cases c_8 : x2 = 2
    · rw [if_pos c_8] at h
      refine lv_tableIn (off := 56) (tgt := 78) E.hx E.hb dX6_ofPixel_22 (by rw [c_8]; decide) (by rw [c_8]; decide) (by rw [c_8]; rfl) (by decide) ?_
      refine lv_aload_n E.hx E.hb dX6_ofPixel_78 rfl (lv_at hl 0 rfl) ?_
      refine gf_X6_30 E K0 P dX6_ofPixel_79 ?_
      refine lv_iload_n E.hx E.hb dX6_ofPixel_82 rfl (lv_at hl 1 rfl) ?_
      obtain ⟨r_9, e_10, h⟩ := obind h
      refine iv_X6_231 E K0 P va_S.rf e_10 (by decide) hl.1 (Nat.le_of_ble_eq_true rfl) dX6_ofPixel_83 ?_
      refine lv_if_eq (tgt := 93) E.hx E.hb dX6_ofPixel_86 (by decide) (fun c_11 => ?_) (fun c_11 => ?_)
      · rw [if_pos c_11] at h
        refine lv_iconst (v := 0) E.hx E.hb dX6_ofPixel_93 (by decide) ?_
        exact W.iret E.hx E.hb E.hr (fun t ht _ => ⟨_, rfl, (Option.some.inj h), ht⟩) (fun q hq => nomatch hq) dX6_ofPixel_94 E.hk
      · rw [if_neg c_11] at h
        refine lv_iconst (v := 1) E.hx E.hb dX6_ofPixel_89 (by decide) ?_
        refine lv_goto (tgt := 94) E.hx E.hb dX6_ofPixel_90 (by decide) ?_
        exact W.iret E.hx E.hb E.hr (fun t ht _ => ⟨_, rfl, (Option.some.inj h), ht⟩) (fun q hq => nomatch hq) dX6_ofPixel_94 E.hk
    rw [if_neg c_8] at h
    by_cases c_12 : x2 = 3
    · rw [if_pos c_12] at h
      refine lv_tableIn (off := 73) (tgt := 95) E.hx E.hb dX6_ofPixel_22 (by rw [c_12]; decide) (by rw [c_12]; decide) (by rw [c_12]; rfl) (by decide) ?_
      refine lv_aload_n E.hx E.hb dX6_ofPixel_95 rfl (lv_at hl 0 rfl) ?_
      refine gf_X6_12 E K0 P dX6_ofPixel_96 ?_
      refine lv_iload_n E.hx E.hb dX6_ofPixel_99 rfl (lv_at hl 1 rfl) ?_
      refine iv_X6_234 E K0 P va_S.rf (by decide) hl.1 (Nat.le_of_ble_eq_true rfl) dX6_ofPixel_100 ?_
      exact W.iret E.hx E.hb E.hr (fun t ht _ => ⟨_, rfl, (Option.some.inj h), ht⟩) (fun q hq => nomatch hq) dX6_ofPixel_103 E.hk
    rw [if_neg c_12] at h
    by_cases c_13 : x2 = 4
    · rw [if_pos c_13] at h
      refine lv_tableIn (off := 82) (tgt := 104) E.hx E.hb dX6_ofPixel_22 (by rw [c_13]; decide) (by rw [c_13]; decide) (by rw [c_13]; rfl) (by decide) ?_
      refine lv_aload_n E.hx E.hb dX6_ofPixel_104 rfl (lv_at hl 0 rfl) ?_
      refine gf_X6_12 E K0 P dX6_ofPixel_105 ?_
      refine lv_iload_n E.hx E.hb dX6_ofPixel_108 rfl (lv_at hl 1 rfl) ?_
      refine iv_X6_237 E K0 P va_S.rf (by decide) hl.1 (Nat.le_of_ble_eq_true rfl) dX6_ofPixel_109 ?_
      exact W.iret E.hx E.hb E.hr (fun t ht _ => ⟨_, rfl, (Option.some.inj h), ht⟩) (fun q hq => nomatch hq) dX6_ofPixel_112 E.hk
    rw [if_neg c_13] at h
    refine lv_tableOut (tgt := 113) E.hx E.hb dX6_ofPixel_22 (swo 4 (by decide) (by intro j hj; rcases (show j = 0 ∨ j = 1 ∨ j = 2 ∨ j = 3 ∨ j = 4 by omega) with rfl | rfl | rfl | rfl | rfl <;> assumption)) (by decide) ?_
    exact nomatch h
  · rw [if_pos c_1] at h
    exact nomatch h
theorem c_X6_ofPixel (l : Launch) {H : Heap} {D : va_G} {cyI : ClassId} {ad : Nat → Nat} {I : Nat → Int32} {A : Nat → Nat → Int32} (P : va_P D classes (cw cyI ad I A) H) (x1 x2 : Int32) {out : Int32} (h : B_X6_ofPixel I A x1 x2 = some out) : MRO l yX6_ofPixel cX6_ofPixel 3 (some .int) 5 [.ref (ad 0), .int x1, .int x2] H (KC D cyI ad) out := by
  refine Mof (own := RX6) (by decide +kernel) rfl rfl ?_
  intro p e s m args below meth c ls E hH K0 hl
  subst hH
  exact w_X6_ofPixel E K0 P h hl
theorem ds_X6_ofPixel : Dsc yX6_ofPixel 2 := ⟨by decide +kernel, by decide +kernel, by decide +kernel⟩
end
end WALK
end
section
section NUM
theorem nI_mul (a b : Nat) : nI a * nI b = nI (a * b) := (Int32.ofNat_mul a b).symm
theorem nI_sub {a b : Nat} (h : b ≤ a) : nI a - nI b = nI (a - b) := (Int32.ofNat_sub a b h).symm
theorem nI_sub1 {a : Nat} (h : 1 ≤ a) : nI a - 1 = nI (a - 1) := nI_sub h
theorem nI_inj {a b : Nat} (ha : a < 2 ^ 31) (hb : b < 2 ^ 31) (h : nI a = nI b) : a = b := (nI_eq ha hb).mp h
theorem nI_m1 {a : Nat} (ha : a < 2 ^ 31) : nI a ≠ -1 := by
  intro h
  have h1 := nI_toInt ha
  rw [h] at h1
  have h2 : (-1 : Int32).toInt = -1 := by decide
  omega
/-- a number from 0 to n -/
def up (n : Nat) (v : Int32) : Prop := ∃ s : Nat, s ≤ n ∧ v = nI s
theorem up_nI {n s : Nat} (h : s ≤ n) : up n (nI s) := ⟨s, h, rfl⟩
theorem up_mono {a b : Nat} {v : Int32} (h : up a v) (hab : a ≤ b) : up b v := by
  obtain ⟨s, h1, h2⟩ := h
  exact ⟨s, by omega, h2⟩
theorem nn_num (x y : Nat) : B_X6_numberOf (nI x) (nI y) = nI (12 * y + x) := by
  show nI y * nI 12 + nI x = _
  rw [nI_mul, nI_add, Nat.mul_comm]
theorem rAt_nI {n j : Nat} {f : Nat → Int32} (h : j < n) (hn : n < 2 ^ 31) : rAt n f (nI j) = f j := by
  unfold rAt
  rw [if_neg (nI_pos (by omega)), if_neg (show ¬ Int32.ofNat n ≤ nI j from nI_ge h hn), nI_clamp (by omega)]
theorem rPut_nI {n j : Nat} {f : Nat → Int32} {v : Int32} (h : j < n) (hn : n < 2 ^ 31) : rPut n f (nI j) v = upd f j v := by
  unfold rPut
  rw [if_neg (nI_pos (by omega)), if_neg (show ¬ Int32.ofNat n ≤ nI j from nI_ge h hn), nI_clamp (by omega)]
theorem upd_at (f : Nat → Int32) (k : Nat) (v : Int32) (j : Nat) : upd f k v j = if j = k then v else f j := rfl
theorem ng_va {α : Type} (f : Nat → α) (k : Nat) (v : α) (j : Nat) : va_up f k v j = if j = k then v else f j := rfl
theorem bind_some' {α β : Type} (a : α) (f : α → Option β) : (some a).bind f = f a := rfl
theorem isIn_cases {x : Int32} {a b : Nat} (ha : a < 2 ^ 31) (hb : b < 2 ^ 31) : B_X6_isIn x (nI a) (nI b) = 0 ∨ (B_X6_isIn x (nI a) (nI b) = 1 ∧ ∃ k : Nat, a ≤ k ∧ k ≤ b ∧ x = nI k) := by
  unfold B_X6_isIn
  by_cases h1 : x < nI a
  · rw [if_pos h1]; exact Or.inl rfl
  rw [if_neg h1]
  by_cases h2 : nI b < x
  · rw [if_pos h2]; exact Or.inl rfl
  rw [if_neg h2]
  refine Or.inr ⟨rfl, ?_⟩
  have h0 : ¬ x < 0 := by
    intro h
    apply h1
    rw [Int32.lt_iff_toInt_lt] at h ⊢
    rw [nI_toInt ha]
    have h9 : (0 : Int32).toInt = 0 := by decide
    omega
  obtain ⟨k, hk, rfl⟩ := nI_of h0
  rw [nI_ltI hk ha] at h1
  rw [nI_ltI hb hk] at h2
  exact ⟨k, by omega, by omega, rfl⟩
theorem has_cases {I : Nat → Int32} {A : Nat → Nat → Int32} {w h : Nat} (hw : I 5 = nI w) (hh : I 6 = nI h) (lw : w < 2 ^ 31) (lh : h < 2 ^ 31) (x1 x2 : Int32) :
    B_X1_has I A x1 x2 = 0 ∨ (B_X1_has I A x1 x2 = 1 ∧ ∃ x y : Nat, x < w ∧ y < h ∧ x1 = nI x ∧ x2 = nI y) := by
  unfold B_X1_has
  by_cases h1 : x1 < 0
  · rw [if_pos h1]; exact Or.inl rfl
  rw [if_neg h1]
  by_cases h2 : I 5 ≤ x1
  · rw [if_pos h2]; exact Or.inl rfl
  rw [if_neg h2]
  by_cases h3 : x2 < 0
  · rw [if_pos h3]; exact Or.inl rfl
  rw [if_neg h3]
  by_cases h4 : I 6 ≤ x2
  · rw [if_pos h4]; exact Or.inl rfl
  rw [if_neg h4]
  refine Or.inr ⟨rfl, ?_⟩
  obtain ⟨x, hx, rfl⟩ := nI_of h1
  obtain ⟨y, hy, rfl⟩ := nI_of h3
  rw [hw, nI_leI lw hx] at h2
  rw [hh, nI_leI lh hy] at h4
  exact ⟨x, y, by omega, by omega, rfl, rfl⟩
theorem has_in {I : Nat → Int32} {A : Nat → Nat → Int32} {w h x y : Nat} (hw : I 5 = nI w) (hh : I 6 = nI h) (lw : w < 2 ^ 31) (lh : h < 2 ^ 31) (hx : x < w) (hy : y < h) : B_X1_has I A (nI x) (nI y) = 1 := by
  unfold B_X1_has
  rw [if_neg (nI_pos (by omega)), hw, if_neg (nI_ge hx lw), if_neg (nI_pos (by omega)), hh, if_neg (nI_ge hy lh)]
theorem has_outx {I : Nat → Int32} {A : Nat → Nat → Int32} {w x : Nat} (hw : I 5 = nI w) (lx : x < 2 ^ 31) (hx : w ≤ x) (x2 : Int32) : B_X1_has I A (nI x) x2 = 0 := by
  unfold B_X1_has
  rw [if_neg (nI_pos (by omega)), hw, if_pos (nI_le hx lx)]
theorem has_outy {I : Nat → Int32} {A : Nat → Nat → Int32} {h y : Nat} (hh : I 6 = nI h) (ly : y < 2 ^ 31) (hy : h ≤ y) (x1 : Int32) : B_X1_has I A x1 (nI y) = 0 := by
  unfold B_X1_has
  by_cases h1 : x1 < 0
  · rw [if_pos h1]
  rw [if_neg h1]
  by_cases h2 : I 5 ≤ x1
  · rw [if_pos h2]
  rw [if_neg h2, if_neg (nI_pos (by omega)), hh, if_pos (nI_le hy ly)]
theorem has_negx {I : Nat → Int32} {A : Nat → Nat → Int32} (x2 : Int32) : B_X1_has I A (nI 0 - 1) x2 = 0 := by
  unfold B_X1_has
  rw [if_pos (by decide)]
theorem has_negy {I : Nat → Int32} {A : Nat → Nat → Int32} (x1 : Int32) : B_X1_has I A x1 (nI 0 - 1) = 0 := by
  unfold B_X1_has
  by_cases h1 : x1 < 0
  · rw [if_pos h1]
  rw [if_neg h1]
  by_cases h2 : I 5 ≤ x1
  · rw [if_pos h2]
  rw [if_neg h2, if_pos (by decide)]
theorem sq_sym_n : ∀ a, a < 15 → ∀ b, b < 15 → B_X6_squareApart (nI a) (nI b) = B_X6_squareApart (nI b) (nI a) := by decide +kernel
theorem sq_sym {a b : Int32} (ha : up 14 a) (hb : up 14 b) : B_X6_squareApart a b = B_X6_squareApart b a := by
  obtain ⟨x, hx, rfl⟩ := ha
  obtain ⟨y, hy, rfl⟩ := hb
  exact sq_sym_n x (by omega) y (by omega)
theorem sq_up_n : ∀ a, a < 15 → ∀ b, b < 15 → (B_X6_squareApart (nI a) (nI b)).toNatClampNeg ≤ 49 ∧ 0 ≤ B_X6_squareApart (nI a) (nI b) := by decide +kernel
theorem sq_up {a b : Int32} (ha : up 14 a) (hb : up 14 b) : up 49 (B_X6_squareApart a b) := by
  obtain ⟨x, hx, rfl⟩ := ha
  obtain ⟨y, hy, rfl⟩ := hb
  obtain ⟨h1, h2⟩ := sq_up_n x (by omega) y (by omega)
  exact ⟨_, h1, (Int32.ofNat_toNatClampNeg _ h2).symm⟩
theorem grey_up_n : ∀ a, a < 15 → ∀ b, b < 15 → (B_X6_greyOf (nI a) (nI b)).toNatClampNeg ≤ 99 ∧ 0 ≤ B_X6_greyOf (nI a) (nI b) := by decide +kernel
theorem grey_up {a b : Int32} (ha : up 14 a) (hb : up 14 b) : up 99 (B_X6_greyOf a b) := by
  obtain ⟨x, hx, rfl⟩ := ha
  obtain ⟨y, hy, rfl⟩ := hb
  obtain ⟨h1, h2⟩ := grey_up_n x (by omega) y (by omega)
  exact ⟨_, h1, (Int32.ofNat_toNatClampNeg _ h2).symm⟩
/-- how a direction is on, as whole numbers -/
theorem on_n : ∀ a, a < 15 → ∀ b, b < 15 → (B_X6_onFrom (nI a) (nI b)).toInt = (b : Int) - a - 15 ∨ (B_X6_onFrom (nI a) (nI b)).toInt = (b : Int) - a ∨ (B_X6_onFrom (nI a) (nI b)).toInt = (b : Int) - a + 15 := by decide +kernel
theorem on_b : ∀ a, a < 15 → ∀ b, b < 15 → -7 ≤ (B_X6_onFrom (nI a) (nI b)).toInt ∧ (B_X6_onFrom (nI a) (nI b)).toInt ≤ 7 := by decide +kernel
theorem ahead_up_n : ∀ a, a < 15 → ((if nI a = 0 then 14 else nI a - 1 : Int32).toNatClampNeg ≤ 14 ∧ 0 ≤ (if nI a = 0 then 14 else nI a - 1 : Int32)) ∧ ((if nI a = 14 then 0 else nI a + 1 : Int32).toNatClampNeg ≤ 14 ∧ 0 ≤ (if nI a = 14 then 0 else nI a + 1 : Int32)) := by decide +kernel
theorem ng_lp {σ R : Type} (F : Nat → σ → Option R) (P : Nat → σ → Prop) (w : Nat) (Q : R → Prop)
    (hs : ∀ k n s, k < w → P k s → ∃ s', F (n + 1) s = F n s' ∧ P (k + 1) s')
    (he : ∀ n s, P w s → ∃ r, F (n + 1) s = some r ∧ Q r) : ∀ (d k n : Nat) (s : σ), k + d = w → d < n → P k s → ∃ r, F n s = some r ∧ Q r := by
  intro d
  induction d with
  | zero =>
    intro k n s hk hn hP
    obtain ⟨n, rfl⟩ : ∃ n', n = n' + 1 := ⟨n - 1, by omega⟩
    have : k = w := by omega
    subst this
    exact he n s hP
  | succ d ih =>
    intro k n s hk hn hP
    obtain ⟨n, rfl⟩ : ∃ n', n = n' + 1 := ⟨n - 1, by omega⟩
    obtain ⟨s', h1, h2⟩ := hs k n s (by omega) hP
    rw [h1]
    exact ih (k + 1) n s' (by omega) (by omega) h2
theorem ng_lp0 {σ R : Type} {F : Nat → σ → Option R} (P : Nat → σ → Prop) (w : Nat) (Q : R → Prop) {s : σ} (hw : w < 2000) (h0 : P 0 s)
    (hs : ∀ k n s, k < w → P k s → ∃ s', F (n + 1) s = F n s' ∧ P (k + 1) s')
    (he : ∀ n s, P w s → ∃ r, F (n + 1) s = some r ∧ Q r) : ∃ r, F FU s = some r ∧ Q r := ng_lp F P w Q hs he w 0 FU s (by omega) (show w < 2000 from hw) h0
theorem ng_le {σ R : Type} (F : Nat → σ → Option R) (P : Nat → σ → Prop) (w : Nat) (Q : R → Prop)
    (hs : ∀ k n s, k < w → P k s → (∃ s', F (n + 1) s = F n s' ∧ P (k + 1) s') ∨ ∃ r, F (n + 1) s = some r ∧ Q r)
    (he : ∀ n s, P w s → ∃ r, F (n + 1) s = some r ∧ Q r) : ∀ (d k n : Nat) (s : σ), k + d = w → d < n → P k s → ∃ r, F n s = some r ∧ Q r := by
  intro d
  induction d with
  | zero =>
    intro k n s hk hn hP
    obtain ⟨n, rfl⟩ : ∃ n', n = n' + 1 := ⟨n - 1, by omega⟩
    have : k = w := by omega
    subst this
    exact he n s hP
  | succ d ih =>
    intro k n s hk hn hP
    obtain ⟨n, rfl⟩ : ∃ n', n = n' + 1 := ⟨n - 1, by omega⟩
    rcases hs k n s (by omega) hP with ⟨s', h1, h2⟩ | ⟨r, h1, h2⟩
    · rw [h1]
      exact ih (k + 1) n s' (by omega) (by omega) h2
    · exact ⟨r, h1, h2⟩
theorem ng_le0 {σ R : Type} {F : Nat → σ → Option R} (P : Nat → σ → Prop) (w : Nat) (Q : R → Prop) {s : σ} (hw : w < 2000) (h0 : P 0 s)
    (hs : ∀ k n s, k < w → P k s → (∃ s', F (n + 1) s = F n s' ∧ P (k + 1) s') ∨ ∃ r, F (n + 1) s = some r ∧ Q r)
    (he : ∀ n s, P w s → ∃ r, F (n + 1) s = some r ∧ Q r) : ∃ r, F FU s = some r ∧ Q r := ng_le F P w Q hs he w 0 FU s (by omega) (show w < 2000 from hw) h0
theorem nI_div {a b : Nat} (ha : a < 2 ^ 31) (hb : b < 2 ^ 31) : nI a / nI b = nI (a / b) := (Int32.ofNat_div ha hb).symm
theorem va_up2 {α : Type} (f : Nat → α) (k : Nat) (u v : α) : va_up (va_up f k u) k v = va_up f k v := by
  funext j
  unfold va_up
  by_cases e : j = k
  · rw [if_pos e, if_pos e]
  · rw [if_neg e, if_neg e, if_neg e]
theorem mod_sub (k u : Nat) : k - k / u * u = k % u := by
  have h1 := Nat.div_add_mod k u
  rw [Nat.mul_comm] at h1
  omega
theorem if10 {α : Type} (a b : α) : (if (1 : Int32) = 0 then a else b) = b := if_neg (by decide)
theorem if00 {α : Type} (a b : α) : (if (0 : Int32) = 0 then a else b) = a := if_pos rfl
theorem add_sub_l (a b : Int32) : a + b - a = b := by rw [Int32.add_comm, Int32.add_sub_cancel]
theorem add_of_sub {a b c : Int32} (h : a = b - c) : c + a = b := by rw [h, Int32.add_comm, Int32.sub_add_cancel]
end NUM
end
section
section SUM
/-! sums over a row, over a grid -/
def sm : Nat → (Nat → Int32) → Int32
  | 0, _ => 0
  | n + 1, f => sm n f + f n
theorem sm_s (n : Nat) (f : Nat → Int32) : sm (n + 1) f = sm n f + f n := rfl
theorem sm_congr {n : Nat} {f g : Nat → Int32} (h : ∀ i, i < n → f i = g i) : sm n f = sm n g := by
  induction n with
  | zero => rfl
  | succ n ih => rw [sm_s, sm_s, ih (fun i hi => h i (by omega)), h n (by omega)]
theorem sm_zero {n : Nat} {f : Nat → Int32} (h : ∀ i, i < n → f i = 0) : sm n f = 0 := by
  induction n with
  | zero => rfl
  | succ n ih => rw [sm_s, ih (fun i hi => h i (by omega)), h n (by omega), Int32.add_zero]
theorem sm_add (n : Nat) (f g : Nat → Int32) : sm n (fun i => f i + g i) = sm n f + sm n g := by
  induction n with
  | zero => exact (Int32.add_zero 0).symm
  | succ n ih => rw [sm_s, sm_s, sm_s, ih]; ac_rfl
theorem sm_pt (n a : Nat) (v : Int32) : sm n (fun i => if i = a then v else 0) = if a < n then v else 0 := by
  induction n with
  | zero => rw [if_neg (by omega)]; rfl
  | succ n ih =>
    rw [sm_s, ih]
    by_cases h : n = a
    · subst h
      rw [if_neg (by omega), if_pos rfl, if_pos (by omega), Int32.zero_add]
    · rw [if_neg h, Int32.add_zero]
      by_cases h2 : a < n
      · rw [if_pos h2, if_pos (by omega)]
      · rw [if_neg h2, if_neg (by omega)]
theorem sm_range (g : Nat → Int32) (lo : Nat) : ∀ (n len : Nat), lo + len ≤ n → sm n (fun i => if lo ≤ i ∧ i < lo + len then g i else 0) = sm len (fun i => g (lo + i)) := by
  intro n
  induction n with
  | zero =>
    intro len h
    have : len = 0 := by omega
    subst this
    rfl
  | succ n ih =>
    intro len h
    by_cases h1 : lo + len ≤ n
    · rw [sm_s, ih len h1, if_neg (by omega), Int32.add_zero]
    · cases len with
      | zero =>
        rw [sm_zero (fun i _ => if_neg (by omega))]
        rfl
      | succ len =>
        have e : lo + len = n := by omega
        rw [sm_s, sm_s, if_pos (by omega), ← ih len (by omega), e]
        congr 1
        apply sm_congr
        intro i hi
        by_cases h2 : lo ≤ i
        · rw [if_pos (by omega), if_pos (by omega)]
        · rw [if_neg (by omega), if_neg (by omega)]
theorem sm_one (n : Nat) : sm n (fun _ => 1) = nI n := by
  induction n with
  | zero => rfl
  | succ n ih => rw [sm_s, ih, nI_1]
theorem sm_up {n m : Nat} {f : Nat → Int32} (h : ∀ i, i < n → up m (f i)) : up (n * m) (sm n f) := by
  induction n with
  | zero => exact ⟨0, by omega, rfl⟩
  | succ n ih =>
    obtain ⟨a, ha, ea⟩ := ih (fun i hi => h i (by omega))
    obtain ⟨b, hb, eb⟩ := h n (by omega)
    exact ⟨a + b, by rw [Nat.succ_mul]; omega, by rw [sm_s, ea, eb, nI_add]⟩
def gs (w h : Nat) (f : Nat → Nat → Int32) : Int32 := sm h (fun y => sm w (fun x => f x y))
theorem gs_congr {w h : Nat} {f g : Nat → Nat → Int32} (e : ∀ x y, x < w → y < h → f x y = g x y) : gs w h f = gs w h g :=
  sm_congr fun y hy => sm_congr fun x hx => e x y hx hy
theorem gs_add (w h : Nat) (f g : Nat → Nat → Int32) : gs w h (fun x y => f x y + g x y) = gs w h f + gs w h g := by
  unfold gs
  rw [← sm_add]
  exact sm_congr fun y _ => sm_add w _ _
theorem gs_zero {w h : Nat} {f : Nat → Nat → Int32} (e : ∀ x y, x < w → y < h → f x y = 0) : gs w h f = 0 :=
  sm_zero fun y hy => sm_zero fun x hx => e x y hx hy
theorem gs_pt {w h a b : Nat} (ha : a < w) (hb : b < h) (v : Int32) : gs w h (fun x y => if x = a ∧ y = b then v else 0) = v := by
  have e : gs w h (fun x y => if x = a ∧ y = b then v else 0) = sm h (fun y => if y = b then v else 0) := by
    apply sm_congr
    intro y hy
    by_cases h1 : y = b
    · rw [if_pos h1, sm_congr (g := fun x => if x = a then v else 0) (fun x _ => by simp [h1]), sm_pt, if_pos ha]
    · rw [if_neg h1]
      exact sm_zero fun x _ => if_neg (fun q => h1 q.2)
  rw [e, sm_pt, if_pos hb]
/-- a sum over the grid of what is not 0 in a rectangle alone -/
theorem gs_rect {w h a b u v : Nat} (hu : a + u ≤ w) (hv : b + v ≤ h) (g : Nat → Nat → Int32) : gs w h (fun x y => if a ≤ x ∧ x < a + u ∧ b ≤ y ∧ y < b + v then g x y else 0) = sm v (fun j => sm u (fun i => g (a + i) (b + j))) := by
  rw [← sm_range (fun y => sm u (fun i => g (a + i) y)) b h v hv]
  apply sm_congr
  intro y _
  by_cases h1 : b ≤ y ∧ y < b + v
  · rw [if_pos h1, ← sm_range (fun x => g x y) a w u hu]
    apply sm_congr
    intro x _
    by_cases h2 : a ≤ x ∧ x < a + u
    · dsimp only
      rw [if_pos (by omega), if_pos h2]
    · dsimp only
      rw [if_neg (by omega), if_neg h2]
  · rw [if_neg h1]
    exact sm_zero fun x _ => if_neg (by omega)
/-! the energy of a grid: p across, q down, D the directions, hl what each cell has by itself -/

def ec (w h : Nat) (p q : Int32) (D hl : Nat → Nat → Int32) (x y : Nat) : Int32 := hl x y + (if x + 1 < w then p * B_X6_squareApart (D x y) (D (x + 1) y) else 0) + (if y + 1 < h then q * B_X6_squareApart (D x y) (D x (y + 1)) else 0)
def ew (w h : Nat) (p q : Int32) (D : Nat → Nat → Int32) (a b : Nat) (hv d : Int32) : Int32 := hv + (if 0 < a then p * B_X6_squareApart (D (a - 1) b) d else 0) + (if a + 1 < w then p * B_X6_squareApart (D (a + 1) b) d else 0) + (if 0 < b then q * B_X6_squareApart (D a (b - 1)) d else 0) + (if b + 1 < h then q * B_X6_squareApart (D a (b + 1)) d else 0)
theorem ec_point {w h a b : Nat} {p q : Int32} {D D' hl hl' : Nat → Nat → Int32} (ha : a < w) (hb : b < h)
    (hD : ∀ x y, x < w → y < h → ¬ (x = a ∧ y = b) → D' x y = D x y) (hH : ∀ x y, x < w → y < h → ¬ (x = a ∧ y = b) → hl' x y = hl x y)
    {x y : Nat} (hx : x < w) (hy : y < h) : ec w h p q D' hl' x y = ec w h p q D hl x y + ((if x = a ∧ y = b then ec w h p q D' hl' a b - ec w h p q D hl a b else 0) + ((if x + 1 = a ∧ y = b then p * B_X6_squareApart (D x y) (D' a b) - p * B_X6_squareApart (D x y) (D a b) else 0) + (if x = a ∧ y + 1 = b then q * B_X6_squareApart (D x y) (D' a b) - q * B_X6_squareApart (D x y) (D a b) else 0))) := by
  by_cases h0 : x = a ∧ y = b
  · obtain ⟨rfl, rfl⟩ := h0
    rw [if_pos ⟨rfl, rfl⟩, if_neg (by omega), if_neg (by omega), Int32.add_zero, Int32.add_zero]
    generalize ec w h p q D' hl' x y = u
    generalize ec w h p q D hl x y = v
    rw [Int32.add_comm, Int32.sub_add_cancel]
  · rw [if_neg h0, Int32.zero_add]
    have e0 := hD x y hx hy h0
    have e1 := hH x y hx hy h0
    by_cases h1 : x + 1 = a ∧ y = b
    · obtain ⟨rfl, rfl⟩ := h1
      rw [if_pos ⟨rfl, rfl⟩, if_neg (by omega)]
      unfold ec
      rw [e0, e1, if_pos ha, if_pos ha]
      have e2 : (if y + 1 < h then q * B_X6_squareApart (D x y) (D' x (y + 1)) else 0) = (if y + 1 < h then q * B_X6_squareApart (D x y) (D x (y + 1)) else 0) := by
        by_cases h4 : y + 1 < h
        · rw [if_pos h4, if_pos h4, hD x (y + 1) hx h4 (by omega)]
        · rw [if_neg h4, if_neg h4]
      rw [e2]
      generalize (if y + 1 < h then q * B_X6_squareApart (D x y) (D x (y + 1)) else 0) = r
      generalize p * B_X6_squareApart (D x y) (D' (x + 1) y) = u
      generalize p * B_X6_squareApart (D x y) (D (x + 1) y) = v
      grind
    · rw [if_neg h1, Int32.zero_add]
      by_cases h2 : x = a ∧ y + 1 = b
      · obtain ⟨rfl, rfl⟩ := h2
        rw [if_pos ⟨rfl, rfl⟩]
        unfold ec
        rw [e0, e1, if_pos hb, if_pos hb]
        have e2 : (if x + 1 < w then p * B_X6_squareApart (D x y) (D' (x + 1) y) else 0) = (if x + 1 < w then p * B_X6_squareApart (D x y) (D (x + 1) y) else 0) := by
          by_cases h4 : x + 1 < w
          · rw [if_pos h4, if_pos h4, hD (x + 1) y h4 hy (by omega)]
          · rw [if_neg h4, if_neg h4]
        rw [e2]
        generalize (if x + 1 < w then p * B_X6_squareApart (D x y) (D (x + 1) y) else 0) = r
        generalize q * B_X6_squareApart (D x y) (D' x (y + 1)) = u
        generalize q * B_X6_squareApart (D x y) (D x (y + 1)) = v
        grind
      · rw [if_neg h2, Int32.add_zero]
        have e2 : (if x + 1 < w then p * B_X6_squareApart (D x y) (D' (x + 1) y) else 0) = (if x + 1 < w then p * B_X6_squareApart (D x y) (D (x + 1) y) else 0) := by
          by_cases h4 : x + 1 < w
          · rw [if_pos h4, if_pos h4, hD (x + 1) y h4 hy (by omega)]
          · rw [if_neg h4, if_neg h4]
        have e3 : (if y + 1 < h then q * B_X6_squareApart (D x y) (D' x (y + 1)) else 0) = (if y + 1 < h then q * B_X6_squareApart (D x y) (D x (y + 1)) else 0) := by
          by_cases h4 : y + 1 < h
          · rw [if_pos h4, if_pos h4, hD x (y + 1) hx h4 (by omega)]
          · rw [if_neg h4, if_neg h4]
        unfold ec
        rw [e0, e1, e2, e3]
/-- one cell changes: the energy of the grid changes by that of this cell alone -/
theorem ec_local {w h a b : Nat} {p q : Int32} {D D' hl hl' : Nat → Nat → Int32} (ha : a < w) (hb : b < h)
    (hD : ∀ x y, x < w → y < h → ¬ (x = a ∧ y = b) → D' x y = D x y) (hH : ∀ x y, x < w → y < h → ¬ (x = a ∧ y = b) → hl' x y = hl x y)
    (hu : ∀ x y, x < w → y < h → up 14 (D x y)) (hu' : up 14 (D' a b)) :
    gs w h (ec w h p q D' hl') + ew w h p q D a b (hl a b) (D a b) = gs w h (ec w h p q D hl) + ew w h p q D a b (hl' a b) (D' a b) := by
  have e1 : gs w h (fun x y => if x + 1 = a ∧ y = b then p * B_X6_squareApart (D x y) (D' a b) - p * B_X6_squareApart (D x y) (D a b) else 0) = if 0 < a then p * B_X6_squareApart (D (a - 1) b) (D' a b) - p * B_X6_squareApart (D (a - 1) b) (D a b) else 0 := by
    by_cases h0 : 0 < a
    · rw [if_pos h0, ← gs_pt (w := w) (h := h) (a := a - 1) (b := b) (by omega) hb (p * B_X6_squareApart (D (a - 1) b) (D' a b) - p * B_X6_squareApart (D (a - 1) b) (D a b))]
      apply gs_congr
      intro x y _ _
      by_cases h1 : x = a - 1 ∧ y = b
      · obtain ⟨rfl, rfl⟩ := h1
        rw [if_pos (by omega), if_pos ⟨rfl, rfl⟩]
      · rw [if_neg (by omega), if_neg h1]
    · rw [if_neg h0]
      exact gs_zero fun x y _ _ => if_neg (by omega)
  have e2 : gs w h (fun x y => if x = a ∧ y + 1 = b then q * B_X6_squareApart (D x y) (D' a b) - q * B_X6_squareApart (D x y) (D a b) else 0) = if 0 < b then q * B_X6_squareApart (D a (b - 1)) (D' a b) - q * B_X6_squareApart (D a (b - 1)) (D a b) else 0 := by
    by_cases h0 : 0 < b
    · rw [if_pos h0, ← gs_pt (w := w) (h := h) (a := a) (b := b - 1) ha (by omega) (q * B_X6_squareApart (D a (b - 1)) (D' a b) - q * B_X6_squareApart (D a (b - 1)) (D a b))]
      apply gs_congr
      intro x y _ _
      by_cases h1 : x = a ∧ y = b - 1
      · obtain ⟨rfl, rfl⟩ := h1
        rw [if_pos (by omega), if_pos ⟨rfl, rfl⟩]
      · rw [if_neg (by omega), if_neg h1]
    · rw [if_neg h0]
      exact gs_zero fun x y _ _ => if_neg (by omega)
  rw [gs_congr (fun x y hx hy => ec_point ha hb hD hH hx hy), gs_add, gs_add, gs_add, gs_pt ha hb, e1, e2]
  have e3 : ec w h p q D' hl' a b = hl' a b + (if a + 1 < w then p * B_X6_squareApart (D (a + 1) b) (D' a b) else 0) + (if b + 1 < h then q * B_X6_squareApart (D a (b + 1)) (D' a b) else 0) := by
    have g1 : (if a + 1 < w then p * B_X6_squareApart (D' a b) (D' (a + 1) b) else 0) = (if a + 1 < w then p * B_X6_squareApart (D (a + 1) b) (D' a b) else 0) := by
      by_cases h3 : a + 1 < w
      · rw [if_pos h3, if_pos h3, hD (a + 1) b h3 hb (by omega), sq_sym hu' (hu _ _ h3 hb)]
      · rw [if_neg h3, if_neg h3]
    have g2 : (if b + 1 < h then q * B_X6_squareApart (D' a b) (D' a (b + 1)) else 0) = (if b + 1 < h then q * B_X6_squareApart (D a (b + 1)) (D' a b) else 0) := by
      by_cases h3 : b + 1 < h
      · rw [if_pos h3, if_pos h3, hD a (b + 1) ha h3 (by omega), sq_sym hu' (hu _ _ ha h3)]
      · rw [if_neg h3, if_neg h3]
    unfold ec
    rw [g1, g2]
  have e4 : ec w h p q D hl a b = hl a b + (if a + 1 < w then p * B_X6_squareApart (D (a + 1) b) (D a b) else 0) + (if b + 1 < h then q * B_X6_squareApart (D a (b + 1)) (D a b) else 0) := by
    have g1 : (if a + 1 < w then p * B_X6_squareApart (D a b) (D (a + 1) b) else 0) = (if a + 1 < w then p * B_X6_squareApart (D (a + 1) b) (D a b) else 0) := by
      by_cases h3 : a + 1 < w
      · rw [if_pos h3, if_pos h3, sq_sym (hu _ _ ha hb) (hu _ _ h3 hb)]
      · rw [if_neg h3, if_neg h3]
    have g2 : (if b + 1 < h then q * B_X6_squareApart (D a b) (D a (b + 1)) else 0) = (if b + 1 < h then q * B_X6_squareApart (D a (b + 1)) (D a b) else 0) := by
      by_cases h3 : b + 1 < h
      · rw [if_pos h3, if_pos h3, sq_sym (hu _ _ ha hb) (hu _ _ ha h3)]
      · rw [if_neg h3, if_neg h3]
    unfold ec
    rw [g1, g2]
  rw [e3, e4]
  unfold ew
  generalize gs w h (ec w h p q D hl) = G
  generalize (if a + 1 < w then p * B_X6_squareApart (D (a + 1) b) (D' a b) else 0) = r1
  generalize (if a + 1 < w then p * B_X6_squareApart (D (a + 1) b) (D a b) else 0) = r2
  generalize (if b + 1 < h then q * B_X6_squareApart (D a (b + 1)) (D' a b) else 0) = r3
  generalize (if b + 1 < h then q * B_X6_squareApart (D a (b + 1)) (D a b) else 0) = r4
  have f1 : (if 0 < a then p * B_X6_squareApart (D (a - 1) b) (D' a b) - p * B_X6_squareApart (D (a - 1) b) (D a b) else 0) = (if 0 < a then p * B_X6_squareApart (D (a - 1) b) (D' a b) else 0) - (if 0 < a then p * B_X6_squareApart (D (a - 1) b) (D a b) else 0) := by
    by_cases h0 : 0 < a
    · rw [if_pos h0, if_pos h0, if_pos h0]
    · rw [if_neg h0, if_neg h0, if_neg h0, Int32.sub_zero]
  have f2 : (if 0 < b then q * B_X6_squareApart (D a (b - 1)) (D' a b) - q * B_X6_squareApart (D a (b - 1)) (D a b) else 0) = (if 0 < b then q * B_X6_squareApart (D a (b - 1)) (D' a b) else 0) - (if 0 < b then q * B_X6_squareApart (D a (b - 1)) (D a b) else 0) := by
    by_cases h0 : 0 < b
    · rw [if_pos h0, if_pos h0, if_pos h0]
    · rw [if_neg h0, if_neg h0, if_neg h0, Int32.sub_zero]
  rw [f1, f2]
  generalize (if 0 < a then p * B_X6_squareApart (D (a - 1) b) (D' a b) else 0) = r5
  generalize (if 0 < a then p * B_X6_squareApart (D (a - 1) b) (D a b) else 0) = r6
  generalize (if 0 < b then q * B_X6_squareApart (D a (b - 1)) (D' a b) else 0) = r7
  generalize (if 0 < b then q * B_X6_squareApart (D a (b - 1)) (D a b) else 0) = r8
  generalize hl a b = u
  generalize hl' a b = v
  grind
theorem acc_loop {R : Type} (F : Nat → Int32 → Int32 → Option R) (a len : Nat) (g : Nat → Int32) (fin : Int32 → R) (hl : len < 2000)
    (hs : ∀ n z k, k < len → F (n + 1) z (nI (a + k)) = F n (z + g k) (nI (a + k + 1))) (he : ∀ n z, F (n + 1) z (nI (a + len)) = some (fin z)) (acc : Int32) : F FU acc (nI a) = some (fin (acc + sm len g)) := by
  have : ∃ r, F FU acc (nI a) = some r ∧ r = fin (acc + sm len g) := by
    refine ng_lp0 (F := fun n (s : Int32 × Int32) => F n s.1 s.2) (s := (acc, nI a)) (fun k s => s.1 = acc + sm k g ∧ s.2 = nI (a + k)) len _ hl ⟨(Int32.add_zero _).symm, rfl⟩ ?_ ?_
    · intro k n s hk hP
      obtain ⟨u, v⟩ := s
      obtain ⟨h1, h2⟩ := hP
      dsimp only at h1 h2
      subst h1 h2
      refine ⟨(acc + sm (k + 1) g, nI (a + k + 1)), ?_, rfl, rfl⟩
      dsimp only
      rw [hs n _ k hk, sm_s, Int32.add_assoc]
    · intro n s hP
      obtain ⟨u, v⟩ := s
      obtain ⟨h1, h2⟩ := hP
      dsimp only at h1 h2
      subst h1 h2
      exact ⟨_, he n _, rfl⟩
  obtain ⟨r, e1, e2⟩ := this
  rw [e1, e2]
theorem acc_loop2 {R : Type} (F : Nat → Int32 → Int32 → Int32 → Option R) (a len : Nat) (g1 g2 : Nat → Int32) (fin : Int32 → Int32 → R) (hl : len < 2000)
    (hs : ∀ n z1 z2 k, k < len → F (n + 1) z1 z2 (nI (a + k)) = F n (z1 + g1 k) (z2 + g2 k) (nI (a + k + 1))) (he : ∀ n z1 z2, F (n + 1) z1 z2 (nI (a + len)) = some (fin z1 z2)) (acc1 acc2 : Int32) : F FU acc1 acc2 (nI a) = some (fin (acc1 + sm len g1) (acc2 + sm len g2)) := by
  have : ∃ r, F FU acc1 acc2 (nI a) = some r ∧ r = fin (acc1 + sm len g1) (acc2 + sm len g2) := by
    refine ng_lp0 (F := fun n (s : Int32 × Int32 × Int32) => F n s.1 s.2.1 s.2.2) (s := (acc1, acc2, nI a)) (fun k s => s = (acc1 + sm k g1, acc2 + sm k g2, nI (a + k))) len _ hl ?_ ?_ ?_
    · show (acc1, acc2, nI a) = (acc1 + 0, acc2 + 0, nI a)
      rw [Int32.add_zero, Int32.add_zero]
    · rintro k n s hk rfl
      refine ⟨(acc1 + sm (k + 1) g1, acc2 + sm (k + 1) g2, nI (a + k + 1)), ?_, rfl⟩
      dsimp only
      rw [hs n _ _ k hk, sm_s, sm_s, Int32.add_assoc, Int32.add_assoc]
    · rintro n s rfl
      exact ⟨_, he n _ _, rfl⟩
  obtain ⟨r, e1, e2⟩ := this
  rw [e1, e2]
end SUM
end
section
section REL
def dd (A : Nat → Nat → Int32) (x y : Nat) : Int32 := A 8 (12 * y + x)
/-- the energy that the cell c has by itself, with the direction d -/
def hd (A : Nat → Nat → Int32) (c : Nat) (d : Int32) : Int32 := (if A 9 c = 2 then A 11 c * B_X6_squareApart (A 10 c) d else 0) + (if A 12 c = -1 then 0 else A 5 (A 12 c).toNatClampNeg * B_X6_squareApart (A 4 (A 12 c).toNatClampNeg) d)
def hh (A : Nat → Nat → Int32) (x y : Nat) : Int32 := hd A (12 * y + x) (A 8 (12 * y + x))
def en (w h : Nat) (p q : Int32) (A : Nat → Nat → Int32) : Int32 := gs w h (ec w h p q (dd A) (hh A))
def GeoP (w h : Nat) (a b : Int32) : Prop := a = nI w ∧ b = nI h ∧ 2 ≤ w ∧ w ≤ 12 ∧ 2 ≤ h ∧ h ≤ 12
def CostP (a b : Int32) : Prop := up 20 a ∧ up 20 b
def DirP (f : Nat → Int32) : Prop := ∀ j, j < 144 → up 14 (f j)
def KindP (k wd ws : Nat → Int32) : Prop := ∀ j, j < 144 → k j = 2 → up 14 (wd j) ∧ up 100 (ws j)
def PixP (np : Nat) (f : Nat → Int32) : Prop := ∀ j, j < 144 → f j = -1 ∨ ∃ p, p < np ∧ f j = nI p
def FieldP (a b : Nat → Int32) : Prop := ∀ j, j < 8 → up 14 (a j) ∧ up 100 (b j)
/-- what the energy stands on -/
def Co (w h np : Nat) (I : Nat → Int32) (A : Nat → Nat → Int32) : Prop :=
  GeoP w h (I 5) (I 6) ∧ CostP (I 7) (I 8) ∧ DirP (A 8) ∧ KindP (A 9) (A 10) (A 11) ∧ PixP np (A 12) ∧ FieldP (A 4) (A 5) ∧ np ≤ 8
section
variable {w h np : Nat} {I : Nat → Int32} {A : Nat → Nat → Int32}
theorem Co.geo (C : Co w h np I A) : GeoP w h (I 5) (I 6) := C.1
theorem Co.cost (C : Co w h np I A) : CostP (I 7) (I 8) := C.2.1
theorem Co.dir (C : Co w h np I A) : DirP (A 8) := C.2.2.1
theorem Co.kind (C : Co w h np I A) : KindP (A 9) (A 10) (A 11) := C.2.2.2.1
theorem Co.pix (C : Co w h np I A) : PixP np (A 12) := C.2.2.2.2.1
theorem Co.field (C : Co w h np I A) : FieldP (A 4) (A 5) := C.2.2.2.2.2.1
theorem Co.np8 (C : Co w h np I A) : np ≤ 8 := C.2.2.2.2.2.2
theorem Co.W (C : Co w h np I A) : I 5 = nI w := C.1.1
theorem Co.H (C : Co w h np I A) : I 6 = nI h := C.1.2.1
theorem Co.w2 (C : Co w h np I A) : 2 ≤ w := C.1.2.2.1
theorem Co.w12 (C : Co w h np I A) : w ≤ 12 := C.1.2.2.2.1
theorem Co.h2 (C : Co w h np I A) : 2 ≤ h := C.1.2.2.2.2.1
theorem Co.h12 (C : Co w h np I A) : h ≤ 12 := C.1.2.2.2.2.2
theorem Co.cell (C : Co w h np I A) {x y : Nat} (hx : x < w) (hy : y < h) : 12 * y + x < 144 := by
  have := C.w12; have := C.h12; omega
theorem Co.hin (C : Co w h np I A) {x y : Nat} (hx : x < w) (hy : y < h) : B_X1_has I A (nI x) (nI y) = 1 :=
  has_in C.W C.H (by have := C.w12; omega) (by have := C.h12; omega) hx hy
theorem Co.hox (C : Co w h np I A) {x : Nat} (hx : w ≤ x) (lx : x < 2 ^ 31) (x2 : Int32) : B_X1_has I A (nI x) x2 = 0 := has_outx C.W lx hx x2
theorem Co.hoy (C : Co w h np I A) {y : Nat} (hy : h ≤ y) (ly : y < 2 ^ 31) (x1 : Int32) : B_X1_has I A x1 (nI y) = 0 := has_outy C.H ly hy x1
theorem Co.has (C : Co w h np I A) (x1 x2 : Int32) : B_X1_has I A x1 x2 = 0 ∨ (B_X1_has I A x1 x2 = 1 ∧ ∃ x y : Nat, x < w ∧ y < h ∧ x1 = nI x ∧ x2 = nI y) :=
  has_cases C.W C.H (by have := C.w12; omega) (by have := C.h12; omega) x1 x2
theorem Co.dup (C : Co w h np I A) {x y : Nat} (hx : x < w) (hy : y < h) : up 14 (dd A x y) := C.dir _ (C.cell hx hy)
theorem Co.dirAt (C : Co w h np I A) {x y : Nat} (hx : x < w) (hy : y < h) : B_X1_directionAt I A (nI x) (nI y) = dd A x y := by
  unfold B_X1_directionAt
  rw [nn_num, rAt_nI (C.cell hx hy) (by decide)]
  rfl
theorem Co.held (C : Co w h np I A) {c : Nat} (hc : c < 144) (d : Int32) : B_X1_heldWith I A (nI c) d = hd A c d := by
  have J38 : ∀ z, B_X1_heldWith_J38 I A (nI c) d z = z + (if A 12 c = -1 then 0 else A 5 (A 12 c).toNatClampNeg * B_X6_squareApart (A 4 (A 12 c).toNatClampNeg) d) := by
    intro z
    unfold B_X1_heldWith_J38 B_X3_fieldStrength B_X3_fieldDirection
    rw [rAt_nI hc (by decide)]
    by_cases h1 : A 12 c = -1
    · rw [if_pos h1, if_pos h1, Int32.add_zero]
    · rw [if_neg h1, if_neg h1]
      rcases C.pix c hc with h2 | ⟨p, hp, e⟩
      · exact absurd h2 h1
      · have := C.np8
        rw [e, rAt_nI (by omega) (by decide), rAt_nI (by omega) (by decide), nI_clamp (by omega)]
  unfold B_X1_heldWith
  rw [rAt_nI hc (by decide), rAt_nI hc (by decide), rAt_nI hc (by decide)]
  unfold hd
  by_cases h1 : A 9 c = 2
  · rw [if_pos h1, if_pos h1, J38, Int32.zero_add]
  · rw [if_neg h1, if_neg h1, J38]
theorem Co.eW (C : Co w h np I A) {x y : Nat} (hx : x < w) (hy : y < h) (d : Int32) : B_X1_energyWith I A (nI x) (nI y) d = ew w h (I 7) (I 8) (dd A) x y (hd A (12 * y + x) d) d := by
  have j111 : ∀ z, B_X1_energyWith_J111 I A (nI x) (nI y) d z = z + (if y + 1 < h then I 8 * B_X6_squareApart (dd A x (y + 1)) d else 0) := by
    intro z
    unfold B_X1_energyWith_J111
    rw [nI_1]
    by_cases h1 : y + 1 < h
    · rw [C.hin hx h1, if_neg (by decide), C.dirAt hx h1, if_pos h1]
    · rw [C.hoy (by omega) (by have := C.h12; omega), if_pos rfl, if_neg h1, Int32.add_zero]
  have j78 : ∀ z, B_X1_energyWith_J78 I A (nI x) (nI y) d z = z + (if 0 < y then I 8 * B_X6_squareApart (dd A x (y - 1)) d else 0) + (if y + 1 < h then I 8 * B_X6_squareApart (dd A x (y + 1)) d else 0) := by
    intro z
    unfold B_X1_energyWith_J78
    by_cases h1 : 0 < y
    · rw [nI_sub1 h1, C.hin hx (show y - 1 < h by omega), if_neg (by decide), C.dirAt hx (show y - 1 < h by omega), if_pos h1, j111]
    · have h2 : y = 0 := by omega
      have h3 : B_X1_has I A (nI x) (nI y - 1) = 0 := by rw [h2]; exact has_negy _
      rw [h3, if_pos rfl, if_neg h1, j111, Int32.add_zero]
  have j45 : ∀ z, B_X1_energyWith_J45 I A (nI x) (nI y) d z = z + (if x + 1 < w then I 7 * B_X6_squareApart (dd A (x + 1) y) d else 0) + (if 0 < y then I 8 * B_X6_squareApart (dd A x (y - 1)) d else 0) + (if y + 1 < h then I 8 * B_X6_squareApart (dd A x (y + 1)) d else 0) := by
    intro z
    unfold B_X1_energyWith_J45
    rw [nI_1]
    by_cases h1 : x + 1 < w
    · rw [C.hin h1 hy, if_neg (by decide), C.dirAt h1 hy, if_pos h1, j78]
    · rw [C.hox (by omega) (by have := C.w12; omega), if_pos rfl, if_neg h1, j78, Int32.add_zero]
  unfold B_X1_energyWith ew
  rw [nn_num, C.held (C.cell hx hy)]
  by_cases h1 : 0 < x
  · rw [nI_sub1 h1, C.hin (show x - 1 < w by omega) hy, if_neg (by decide), C.dirAt (show x - 1 < w by omega) hy, if_pos h1, j45]
  · have h2 : x = 0 := by omega
    have h3 : B_X1_has I A (nI x - 1) (nI y) = 0 := by rw [h2]; exact has_negx _
    rw [h3, if_pos rfl, if_neg h1, j45, Int32.add_zero]
theorem Co.eAt (C : Co w h np I A) {x y : Nat} (hx : x < w) (hy : y < h) : B_X1_energyAt I A (nI x) (nI y) = ew w h (I 7) (I 8) (dd A) x y (hh A x y) (dd A x y) := by
  unfold B_X1_energyAt
  rw [C.dirAt hx hy, C.eW hx hy]
  rfl
theorem Co.sumRow (C : Co w h np I A) {y : Nat} (hy : y < h) (acc : Int32) : ∃ r, B_X1_sum_L14 I A (nI y) FU acc 0 = some r ∧ r = acc + sm w (fun x => ec w h (I 7) (I 8) (dd A) (hh A) x y) := by
  refine ng_lp0 (F := fun n (s : Int32 × Int32) => B_X1_sum_L14 I A (nI y) n s.1 s.2) (s := (acc, 0)) (fun k s => s.1 = acc + sm k (fun x => ec w h (I 7) (I 8) (dd A) (hh A) x y) ∧ s.2 = nI k) w _ (by have := C.w12; omega) ⟨(Int32.add_zero _).symm, rfl⟩ ?_ ?_
  · intro k n s hk hP
    obtain ⟨a, b⟩ := s
    obtain ⟨h1, h2⟩ := hP
    dsimp only at h1 h2
    subst h1 h2
    refine ⟨(acc + sm (k + 1) (fun x => ec w h (I 7) (I 8) (dd A) (hh A) x y), nI (k + 1)), ?_, rfl, rfl⟩
    dsimp only
    have e : ∀ z, B_X1_sum_J76 (B_X1_sum_L14 I A (nI y) n) I A z (nI y) (nI k) (dd A k y) = B_X1_sum_L14 I A (nI y) n (z + (if y + 1 < h then I 8 * B_X6_squareApart (dd A k y) (dd A k (y + 1)) else 0)) (nI (k + 1)) := by
      intro z
      unfold B_X1_sum_J76
      rw [nI_1, nI_1]
      by_cases h1 : y + 1 < h
      · rw [C.hin hk h1, if_neg (by decide), C.dirAt hk h1, if_pos h1]
      · rw [C.hoy (by omega) (by have := C.h12; omega), if_pos rfl, if_neg h1, Int32.add_zero]
    rw [B_X1_sum_L14_s, C.W, if_neg (nI_ge hk (by have := C.w12; omega)), C.dirAt hk hy, nn_num, C.held (C.cell hk hy), e, e, nI_1, sm_s]
    by_cases h1 : k + 1 < w
    · rw [C.hin h1 hy, if_neg (by decide), C.dirAt h1 hy]
      unfold ec
      rw [if_pos h1]
      simp only [Int32.add_assoc]
      rfl
    · rw [C.hox (by omega) (by have := C.w12; omega), if_pos rfl]
      unfold ec
      rw [if_neg h1, Int32.add_zero, Int32.add_assoc, Int32.add_assoc]
      rfl
  · intro n s hP
    obtain ⟨a, b⟩ := s
    obtain ⟨h1, h2⟩ := hP
    dsimp only at h1 h2
    subst h1 h2
    refine ⟨_, ?_, rfl⟩
    dsimp only
    rw [B_X1_sum_L14_s, C.W, if_pos (nI_le (Nat.le_refl _) (by have := C.w12; omega))]
theorem Co.sum (C : Co w h np I A) : B_X1_sum I A = some (en w h (I 7) (I 8) A) := by
  have : ∃ r, B_X1_sum_L4 I A FU 0 0 = some r ∧ r = en w h (I 7) (I 8) A := by
    refine ng_lp0 (F := fun n (s : Int32 × Int32) => B_X1_sum_L4 I A n s.1 s.2) (s := (0, 0)) (fun k s => s.1 = sm k (fun y => sm w (fun x => ec w h (I 7) (I 8) (dd A) (hh A) x y)) ∧ s.2 = nI k) h _ (by have := C.h12; omega) ⟨rfl, rfl⟩ ?_ ?_
    · intro k n s hk hP
      obtain ⟨a, b⟩ := s
      obtain ⟨h1, h2⟩ := hP
      dsimp only at h1 h2
      subst h1 h2
      refine ⟨(sm (k + 1) (fun y => sm w (fun x => ec w h (I 7) (I 8) (dd A) (hh A) x y)), nI (k + 1)), ?_, rfl, rfl⟩
      dsimp only
      obtain ⟨r, e1, e2⟩ := C.sumRow hk (sm k (fun y => sm w (fun x => ec w h (I 7) (I 8) (dd A) (hh A) x y)))
      rw [B_X1_sum_L4_s, C.H, if_neg (nI_ge hk (by have := C.h12; omega)), e1, bind_some', e2, nI_1]
      rfl
    · intro n s hP
      obtain ⟨a, b⟩ := s
      obtain ⟨h1, h2⟩ := hP
      dsimp only at h1 h2
      subst h1 h2
      refine ⟨_, ?_, rfl⟩
      dsimp only
      rw [B_X1_sum_L4_s, C.H, if_pos (nI_le (Nat.le_refl _) (by have := C.h12; omega))]
      rfl
  obtain ⟨r, e1, e2⟩ := this
  unfold B_X1_sum
  rw [e1, bind_some', e2]
theorem Co.pixAt (C : Co w h np I A) {x y : Nat} (hx : x < w) (hy : y < h) : B_X1_pixelAt I A (nI x) (nI y) = A 12 (12 * y + x) := by
  unfold B_X1_pixelAt
  rw [nn_num, rAt_nI (C.cell hx hy) (by decide)]
end
end REL
end
section
section WORK
def RectP (w h np : Nat) (f0 f1 f2 f3 px : Nat → Int32) : Prop := ∀ p, p < np → ∃ a b u v : Nat, f0 p = nI a ∧ f1 p = nI b ∧ f2 p = nI u ∧ f3 p = nI v ∧ 1 ≤ u ∧ 1 ≤ v ∧ a + u ≤ w ∧ b + v ≤ h ∧ ∀ x y, x < w → y < h → (px (12 * y + x) = nI p ↔ a ≤ x ∧ x < a + u ∧ b ≤ y ∧ y < b + v)
theorem ew_congr {w h a b : Nat} {p q hv d : Int32} {D D' : Nat → Nat → Int32} (ha : a < w) (hb : b < h) (hD : ∀ x y, x < w → y < h → ¬ (x = a ∧ y = b) → D' x y = D x y) : ew w h p q D' a b hv d = ew w h p q D a b hv d := by
  have e1 : (if 0 < a then p * B_X6_squareApart (D' (a - 1) b) d else 0) = (if 0 < a then p * B_X6_squareApart (D (a - 1) b) d else 0) := by
    by_cases h1 : 0 < a
    · rw [if_pos h1, if_pos h1, hD (a - 1) b (by omega) hb (by omega)]
    · rw [if_neg h1, if_neg h1]
  have e2 : (if a + 1 < w then p * B_X6_squareApart (D' (a + 1) b) d else 0) = (if a + 1 < w then p * B_X6_squareApart (D (a + 1) b) d else 0) := by
    by_cases h1 : a + 1 < w
    · rw [if_pos h1, if_pos h1, hD (a + 1) b (by omega) hb (by omega)]
    · rw [if_neg h1, if_neg h1]
  have e3 : (if 0 < b then q * B_X6_squareApart (D' a (b - 1)) d else 0) = (if 0 < b then q * B_X6_squareApart (D a (b - 1)) d else 0) := by
    by_cases h1 : 0 < b
    · rw [if_pos h1, if_pos h1, hD a (b - 1) ha (by omega) (by omega)]
    · rw [if_neg h1, if_neg h1]
  have e4 : (if b + 1 < h then q * B_X6_squareApart (D' a (b + 1)) d else 0) = (if b + 1 < h then q * B_X6_squareApart (D a (b + 1)) d else 0) := by
    by_cases h1 : b + 1 < h
    · rw [if_pos h1, if_pos h1, hD a (b + 1) ha (by omega) (by omega)]
    · rw [if_neg h1, if_neg h1]
  unfold ew
  rw [e1, e2, e3, e4]
section
variable {w h np : Nat} {I : Nat → Int32} {A A' : Nat → Nat → Int32}
/-- a change of one cell -/
theorem en_local (C : Co w h np I A) (C' : Co w h np I A') {x y : Nat} (hx : x < w) (hy : y < h) (hD : ∀ j, j ≠ 12 * y + x → A' 8 j = A 8 j) (hH : ∀ j d, j ≠ 12 * y + x → hd A' j d = hd A j d) :
    en w h (I 7) (I 8) A' = en w h (I 7) (I 8) A + (B_X1_energyAt I A' (nI x) (nI y) - B_X1_energyAt I A (nI x) (nI y)) := by
  have w12 := C.w12
  have e1 : ∀ a b, a < w → b < h → ¬ (a = x ∧ b = y) → dd A' a b = dd A a b := fun a b ha hb hne => hD _ (by omega)
  have e2 : ∀ a b, a < w → b < h → ¬ (a = x ∧ b = y) → hh A' a b = hh A a b := fun a b ha hb hne => by
    have : 12 * b + a ≠ 12 * y + x := by omega
    unfold hh
    rw [hD _ this, hH _ _ this]
  have k := ec_local (p := I 7) (q := I 8) hx hy e1 e2 (fun a b ha hb => C.dup ha hb) (C'.dup hx hy)
  rw [C.eAt hx hy, C'.eAt hx hy, ew_congr hx hy e1]
  unfold en
  generalize gs w h (ec w h (I 7) (I 8) (dd A') (hh A')) = g1 at k ⊢
  generalize gs w h (ec w h (I 7) (I 8) (dd A) (hh A)) = g2 at k ⊢
  generalize ew w h (I 7) (I 8) (dd A) x y (hh A x y) (dd A x y) = u at k ⊢
  generalize ew w h (I 7) (I 8) (dd A) x y (hh A' x y) (dd A' x y) = v at k ⊢
  grind
end
theorem dir_upd {f : Nat → Int32} (h : DirP f) (c : Nat) {v : Int32} (hv : up 14 v) : DirP (upd f c v) := fun j hj => by
  rw [upd_at]
  by_cases e : j = c
  · rw [if_pos e]
    exact hv
  · rw [if_neg e]
    exact h j hj
theorem kind_upd {k wd ws : Nat → Int32} (h : KindP k wd ws) (c : Nat) {v : Int32} (hv : v ≠ 2) : KindP (upd k c v) wd ws := fun j hj => by
  rw [upd_at]
  by_cases e : j = c
  · rw [if_pos e]
    exact fun q => absurd q hv
  · rw [if_neg e]
    exact h j hj
theorem kind_upd2 {k wd ws : Nat → Int32} (h : KindP k wd ws) (c : Nat) {v d s : Int32} (hd : up 14 d) (hs : up 100 s) : KindP (upd k c v) (upd wd c d) (upd ws c s) := fun j hj => by
  rw [upd_at, upd_at, upd_at]
  by_cases e : j = c
  · rw [if_pos e, if_pos e, if_pos e]
    exact fun _ => ⟨hd, hs⟩
  · rw [if_neg e, if_neg e, if_neg e]
    exact h j hj
def CntP (n m : Nat) (a : Int32) : Prop := a = nI n ∧ n ≤ m
def NoteP (np t : Nat) (f6 f7 : Nat → Int32) : Prop := (∀ j, j < 64 → up 99 (f7 j)) ∧ ∀ p, p < np → up t (f6 p)
def DrvP (np nd : Nat) (a c d : Nat → Int32) : Prop := ∀ k, k < nd → (∃ p, p < np ∧ a k = nI p) ∧ up 14 (c k) ∧ up 100 (d k)
/-- what the energy doesn't stand on -/
def Rs (w h np nd t : Nat) (I : Nat → Int32) (A : Nat → Nat → Int32) : Prop :=
  CntP np 8 (I 4) ∧ CntP nd 40 (I 10) ∧ CntP t 2000 (I 1) ∧ up 14 (I 0) ∧ RectP w h np (A 0) (A 1) (A 2) (A 3) (A 12) ∧ NoteP np t (A 6) (A 7) ∧ DrvP np nd (A 13) (A 15) (A 16)
/-- how the object stands: w by h cells, np pixels, nd drives to come, the tick t -/
def Inv (w h np nd t : Nat) (I : Nat → Int32) (A : Nat → Nat → Int32) : Prop :=
  Co w h np I A ∧ Rs w h np nd t I A ∧ I 9 = en w h (I 7) (I 8) A ∧ I 9 = I 2 - I 3
/-- the pixels' places as they were -/
def Kp (A A' : Nat → Nat → Int32) : Prop := A' 0 = A 0 ∧ A' 1 = A 1 ∧ A' 2 = A 2 ∧ A' 3 = A 3
/-- a call that works: its answer g -/
def Wk (g : Int32) (I I' : Nat → Int32) (A A' : Nat → Nat → Int32) : Prop := I' 9 = I 9 + g ∧ I' 2 = I 2 + g ∧ I' 3 = I 3 ∧ Kp A A'
theorem fin_work {w h np nd t : Nat} {I : Nat → Int32} {A : Nat → Nat → Int32} (C : Co w h np I A) (S : Rs w h np nd t I A) {g : Int32} (hE : I 9 + g = en w h (I 7) (I 8) A) (hW : I 9 = I 2 - I 3) :
    Inv w h np nd t (va_up (va_up I 9 (I 9 + g)) 2 ((va_up I 9 (I 9 + g)) 2 + g)) A := by
  refine ⟨C, S, hE, ?_⟩
  show I 9 + g = I 2 + g - I 3
  rw [hW]
  generalize I 2 = a
  generalize I 3 = b
  grind
theorem worked_eq (I : Nat → Int32) (A : Nat → Nat → Int32) (g : Int32) : B_X6_worked I A g = some (g, va_up I 2 (I 2 + g), A) := rfl
end WORK
end
section
theorem zz_end : True := trivial
end

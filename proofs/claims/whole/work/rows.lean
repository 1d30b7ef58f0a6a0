section
-- ===== PART A: goes FIRST, ahead of the names: the tables' words, and 'selects' of the private methods out of them =====
/-- a private method of a class that the tables say can be made, by its rows of tables_1 -/
def lw_okq (q : MethodName × Nat) : Prop := (q.1.cls ≠ "java/lang/invoke/MethodHandle" ∧ q.1.cls ≠ "java/lang/invoke/VarHandle") ∧ Cond.instantiable q.1.cls q.2 ∈ tables_1 ∧ Cond.privateMethod q.1 ∈ tables_1 ∧ Cond.instanceMethod q.1 ∈ tables_1
theorem lw_p0 : lw_okq (⟨"NemaGrid", "beginAnew", "(II)V"⟩, 9) := ⟨⟨by decide +kernel, by decide +kernel⟩, List.mem_of_getElem? (i := 17) (by decide +kernel), List.mem_of_getElem? (i := 172) (by decide +kernel), List.mem_of_getElem? (i := 173) (by decide +kernel)⟩
theorem lw_p1 : lw_okq (⟨"NemaGrid$Matter", "heldWith", "(II)I"⟩, 11) := ⟨⟨by decide +kernel, by decide +kernel⟩, List.mem_of_getElem? (i := 71) (by decide +kernel), List.mem_of_getElem? (i := 239) (by decide +kernel), List.mem_of_getElem? (i := 240) (by decide +kernel)⟩
theorem lw_p2 : lw_okq (⟨"java/lang/Throwable", "fillInStackTrace", "(I)Ljava/lang/Throwable;"⟩, 6) := ⟨⟨by decide +kernel, by decide +kernel⟩, List.mem_of_getElem? (i := 336) (by decide +kernel), List.mem_of_getElem? (i := 334) (by decide +kernel), List.mem_of_getElem? (i := 335) (by decide +kernel)⟩
theorem lw_p3 : lw_okq (⟨"NemaGrid$Matter", "grown", "(I)I"⟩, 11) := ⟨⟨by decide +kernel, by decide +kernel⟩, List.mem_of_getElem? (i := 71) (by decide +kernel), List.mem_of_getElem? (i := 379) (by decide +kernel), List.mem_of_getElem? (i := 380) (by decide +kernel)⟩
theorem lw_p4 : lw_okq (⟨"NemaGrid", "worked", "(I)I"⟩, 9) := ⟨⟨by decide +kernel, by decide +kernel⟩, List.mem_of_getElem? (i := 17) (by decide +kernel), List.mem_of_getElem? (i := 383) (by decide +kernel), List.mem_of_getElem? (i := 384) (by decide +kernel)⟩
theorem lw_p5 : lw_okq (⟨"NemaGrid$Matter", "heldInPixel", "(I)I"⟩, 11) := ⟨⟨by decide +kernel, by decide +kernel⟩, List.mem_of_getElem? (i := 71) (by decide +kernel), List.mem_of_getElem? (i := 509) (by decide +kernel), List.mem_of_getElem? (i := 510) (by decide +kernel)⟩
theorem lw_p6 : lw_okq (⟨"NemaGrid$Drives", "put", "(IIIII)V"⟩, 5) := ⟨⟨by decide +kernel, by decide +kernel⟩, List.mem_of_getElem? (i := 128) (by decide +kernel), List.mem_of_getElem? (i := 546) (by decide +kernel), List.mem_of_getElem? (i := 547) (by decide +kernel)⟩
theorem lw_p7 : lw_okq (⟨"NemaGrid$Matter", "settle", "(II)V"⟩, 11) := ⟨⟨by decide +kernel, by decide +kernel⟩, List.mem_of_getElem? (i := 71) (by decide +kernel), List.mem_of_getElem? (i := 571) (by decide +kernel), List.mem_of_getElem? (i := 572) (by decide +kernel)⟩
theorem lw_p8 : lw_okq (⟨"NemaGrid", "noteGreys", "()V"⟩, 9) := ⟨⟨by decide +kernel, by decide +kernel⟩, List.mem_of_getElem? (i := 17) (by decide +kernel), List.mem_of_getElem? (i := 575) (by decide +kernel), List.mem_of_getElem? (i := 576) (by decide +kernel)⟩
theorem lw_p9 : lw_okq (⟨"NemaGrid$Windings", "touches", "(III)Z"⟩, 1) := ⟨⟨by decide +kernel, by decide +kernel⟩, List.mem_of_getElem? (i := 118) (by decide +kernel), List.mem_of_getElem? (i := 711) (by decide +kernel), List.mem_of_getElem? (i := 712) (by decide +kernel)⟩
theorem lw_p10 : lw_okq (⟨"NemaGridModel", "begin", "()V"⟩, 27) := ⟨⟨by decide +kernel, by decide +kernel⟩, List.mem_of_getElem? (i := 759) (by decide +kernel), List.mem_of_getElem? (i := 765) (by decide +kernel), List.mem_of_getElem? (i := 766) (by decide +kernel)⟩
theorem lw_p11 : lw_okq (⟨"NemaGridModel", "stop", "(I)I"⟩, 27) := ⟨⟨by decide +kernel, by decide +kernel⟩, List.mem_of_getElem? (i := 759) (by decide +kernel), List.mem_of_getElem? (i := 862) (by decide +kernel), List.mem_of_getElem? (i := 863) (by decide +kernel)⟩
theorem lw_p12 : lw_okq (⟨"NemaGridModel", "all", "()I"⟩, 27) := ⟨⟨by decide +kernel, by decide +kernel⟩, List.mem_of_getElem? (i := 759) (by decide +kernel), List.mem_of_getElem? (i := 870) (by decide +kernel), List.mem_of_getElem? (i := 871) (by decide +kernel)⟩
theorem lw_p13 : lw_okq (⟨"NemaGridModel", "own", "(III)I"⟩, 27) := ⟨⟨by decide +kernel, by decide +kernel⟩, List.mem_of_getElem? (i := 759) (by decide +kernel), List.mem_of_getElem? (i := 877) (by decide +kernel), List.mem_of_getElem? (i := 878) (by decide +kernel)⟩
theorem lw_p14 : lw_okq (⟨"NemaGridModel", "pair", "(IIIII)I"⟩, 27) := ⟨⟨by decide +kernel, by decide +kernel⟩, List.mem_of_getElem? (i := 759) (by decide +kernel), List.mem_of_getElem? (i := 887) (by decide +kernel), List.mem_of_getElem? (i := 888) (by decide +kernel)⟩
theorem lw_p15 : lw_okq (⟨"NemaGridModel", "isCell", "(II)Z"⟩, 27) := ⟨⟨by decide +kernel, by decide +kernel⟩, List.mem_of_getElem? (i := 759) (by decide +kernel), List.mem_of_getElem? (i := 891) (by decide +kernel), List.mem_of_getElem? (i := 892) (by decide +kernel)⟩
def lw_privs_1 : List (MethodName × Nat) := [(⟨"NemaGrid", "beginAnew", "(II)V"⟩, 9), (⟨"NemaGrid$Matter", "heldWith", "(II)I"⟩, 11), (⟨"java/lang/Throwable", "fillInStackTrace", "(I)Ljava/lang/Throwable;"⟩, 6), (⟨"NemaGrid$Matter", "grown", "(I)I"⟩, 11), (⟨"NemaGrid", "worked", "(I)I"⟩, 9), (⟨"NemaGrid$Matter", "heldInPixel", "(I)I"⟩, 11), (⟨"NemaGrid$Drives", "put", "(IIIII)V"⟩, 5), (⟨"NemaGrid$Matter", "settle", "(II)V"⟩, 11), (⟨"NemaGrid", "noteGreys", "()V"⟩, 9), (⟨"NemaGrid$Windings", "touches", "(III)Z"⟩, 1), (⟨"NemaGridModel", "begin", "()V"⟩, 27), (⟨"NemaGridModel", "stop", "(I)I"⟩, 27), (⟨"NemaGridModel", "all", "()I"⟩, 27), (⟨"NemaGridModel", "own", "(III)I"⟩, 27), (⟨"NemaGridModel", "pair", "(IIIII)I"⟩, 27), (⟨"NemaGridModel", "isCell", "(II)Z"⟩, 27)]
theorem lw_r1 : ∀ q ∈ lw_privs_1, lw_okq q := List.forall_mem_cons.mpr ⟨lw_p0, List.forall_mem_cons.mpr ⟨lw_p1, List.forall_mem_cons.mpr ⟨lw_p2, List.forall_mem_cons.mpr ⟨lw_p3, List.forall_mem_cons.mpr ⟨lw_p4, List.forall_mem_cons.mpr ⟨lw_p5, List.forall_mem_cons.mpr ⟨lw_p6, List.forall_mem_cons.mpr ⟨lw_p7, List.forall_mem_cons.mpr ⟨lw_p8, List.forall_mem_cons.mpr ⟨lw_p9, List.forall_mem_cons.mpr ⟨lw_p10, List.forall_mem_cons.mpr ⟨lw_p11, List.forall_mem_cons.mpr ⟨lw_p12, List.forall_mem_cons.mpr ⟨lw_p13, List.forall_mem_cons.mpr ⟨lw_p14, List.forall_mem_cons.mpr ⟨lw_p15, fun _ h => absurd h List.not_mem_nil⟩⟩⟩⟩⟩⟩⟩⟩⟩⟩⟩⟩⟩⟩⟩⟩
theorem lw_p16 : lw_okq (⟨"NemaGridModel", "worked", "(I)I"⟩, 27) := ⟨⟨by decide +kernel, by decide +kernel⟩, List.mem_of_getElem? (i := 759) (by decide +kernel), List.mem_of_getElem? (i := 895) (by decide +kernel), List.mem_of_getElem? (i := 896) (by decide +kernel)⟩
theorem lw_p17 : lw_okq (⟨"NemaGridModel", "isPixel", "(I)Z"⟩, 27) := ⟨⟨by decide +kernel, by decide +kernel⟩, List.mem_of_getElem? (i := 759) (by decide +kernel), List.mem_of_getElem? (i := 918) (by decide +kernel), List.mem_of_getElem? (i := 919) (by decide +kernel)⟩
theorem lw_p18 : lw_okq (⟨"NemaGridModel", "driven", "(III)I"⟩, 27) := ⟨⟨by decide +kernel, by decide +kernel⟩, List.mem_of_getElem? (i := 759) (by decide +kernel), List.mem_of_getElem? (i := 922) (by decide +kernel), List.mem_of_getElem? (i := 923) (by decide +kernel)⟩
theorem lw_p19 : lw_okq (⟨"NemaGridModel", "driveAll", "()V"⟩, 27) := ⟨⟨by decide +kernel, by decide +kernel⟩, List.mem_of_getElem? (i := 759) (by decide +kernel), List.mem_of_getElem? (i := 934) (by decide +kernel), List.mem_of_getElem? (i := 935) (by decide +kernel)⟩
theorem lw_p20 : lw_okq (⟨"NemaGridModel", "relax", "(II)I"⟩, 27) := ⟨⟨by decide +kernel, by decide +kernel⟩, List.mem_of_getElem? (i := 759) (by decide +kernel), List.mem_of_getElem? (i := 938) (by decide +kernel), List.mem_of_getElem? (i := 939) (by decide +kernel)⟩
theorem lw_p21 : lw_okq (⟨"NemaGridModel", "withAll", "(III)I"⟩, 27) := ⟨⟨by decide +kernel, by decide +kernel⟩, List.mem_of_getElem? (i := 759) (by decide +kernel), List.mem_of_getElem? (i := 942) (by decide +kernel), List.mem_of_getElem? (i := 943) (by decide +kernel)⟩
theorem lw_p22 : lw_okq (⟨"NemaGridModel", "greyOfPixel", "(I)I"⟩, 27) := ⟨⟨by decide +kernel, by decide +kernel⟩, List.mem_of_getElem? (i := 759) (by decide +kernel), List.mem_of_getElem? (i := 946) (by decide +kernel), List.mem_of_getElem? (i := 947) (by decide +kernel)⟩
theorem lw_p23 : lw_okq (⟨"NemaGridModel", "greyAt", "(III)I"⟩, 27) := ⟨⟨by decide +kernel, by decide +kernel⟩, List.mem_of_getElem? (i := 759) (by decide +kernel), List.mem_of_getElem? (i := 950) (by decide +kernel), List.mem_of_getElem? (i := 951) (by decide +kernel)⟩
theorem lw_p24 : lw_okq (⟨"NemaGridModel", "windingAt", "(II)I"⟩, 27) := ⟨⟨by decide +kernel, by decide +kernel⟩, List.mem_of_getElem? (i := 759) (by decide +kernel), List.mem_of_getElem? (i := 997) (by decide +kernel), List.mem_of_getElem? (i := 998) (by decide +kernel)⟩
theorem lw_p25 : lw_okq (⟨"NemaGridModel", "directionAt", "(II)I"⟩, 27) := ⟨⟨by decide +kernel, by decide +kernel⟩, List.mem_of_getElem? (i := 759) (by decide +kernel), List.mem_of_getElem? (i := 1001) (by decide +kernel), List.mem_of_getElem? (i := 1002) (by decide +kernel)⟩
theorem lw_p26 : lw_okq (⟨"NemaGridModel", "isRefused", "(IIII)Z"⟩, 27) := ⟨⟨by decide +kernel, by decide +kernel⟩, List.mem_of_getElem? (i := 759) (by decide +kernel), List.mem_of_getElem? (i := 1009) (by decide +kernel), List.mem_of_getElem? (i := 1010) (by decide +kernel)⟩
theorem lw_p27 : lw_okq (⟨"NemaGridModel", "flickers", "(I)I"⟩, 27) := ⟨⟨by decide +kernel, by decide +kernel⟩, List.mem_of_getElem? (i := 759) (by decide +kernel), List.mem_of_getElem? (i := 1029) (by decide +kernel), List.mem_of_getElem? (i := 1030) (by decide +kernel)⟩
theorem lw_p28 : lw_okq (⟨"NemaGridModel", "isGood", "(I)Z"⟩, 27) := ⟨⟨by decide +kernel, by decide +kernel⟩, List.mem_of_getElem? (i := 759) (by decide +kernel), List.mem_of_getElem? (i := 1033) (by decide +kernel), List.mem_of_getElem? (i := 1034) (by decide +kernel)⟩
def lw_privs_2 : List (MethodName × Nat) := [(⟨"NemaGridModel", "worked", "(I)I"⟩, 27), (⟨"NemaGridModel", "isPixel", "(I)Z"⟩, 27), (⟨"NemaGridModel", "driven", "(III)I"⟩, 27), (⟨"NemaGridModel", "driveAll", "()V"⟩, 27), (⟨"NemaGridModel", "relax", "(II)I"⟩, 27), (⟨"NemaGridModel", "withAll", "(III)I"⟩, 27), (⟨"NemaGridModel", "greyOfPixel", "(I)I"⟩, 27), (⟨"NemaGridModel", "greyAt", "(III)I"⟩, 27), (⟨"NemaGridModel", "windingAt", "(II)I"⟩, 27), (⟨"NemaGridModel", "directionAt", "(II)I"⟩, 27), (⟨"NemaGridModel", "isRefused", "(IIII)Z"⟩, 27), (⟨"NemaGridModel", "flickers", "(I)I"⟩, 27), (⟨"NemaGridModel", "isGood", "(I)Z"⟩, 27)]
theorem lw_r2 : ∀ q ∈ lw_privs_2, lw_okq q := List.forall_mem_cons.mpr ⟨lw_p16, List.forall_mem_cons.mpr ⟨lw_p17, List.forall_mem_cons.mpr ⟨lw_p18, List.forall_mem_cons.mpr ⟨lw_p19, List.forall_mem_cons.mpr ⟨lw_p20, List.forall_mem_cons.mpr ⟨lw_p21, List.forall_mem_cons.mpr ⟨lw_p22, List.forall_mem_cons.mpr ⟨lw_p23, List.forall_mem_cons.mpr ⟨lw_p24, List.forall_mem_cons.mpr ⟨lw_p25, List.forall_mem_cons.mpr ⟨lw_p26, List.forall_mem_cons.mpr ⟨lw_p27, List.forall_mem_cons.mpr ⟨lw_p28, fun _ h => absurd h List.not_mem_nil⟩⟩⟩⟩⟩⟩⟩⟩⟩⟩⟩⟩⟩
def lw_privs : List (MethodName × Nat) := lw_privs_1 ++ (lw_privs_2)
def lw_tbl : List Cond := k2_sels lw_privs ++ tables_1
theorem lw_privs_ok : ∀ q ∈ lw_privs, lw_okq q := by
  show ∀ q ∈ lw_privs_1 ++ (lw_privs_2), lw_okq q
  exact List.forall_mem_append.mpr ⟨lw_r1, lw_r2⟩

/-! ===== BEGIN words of one list among another's, by their places ===== -/
theorem goodIn_r {big : List Cond} (ws : List Cond) (ps : List Nat) (hp : ws = ps.filterMap (fun i => big[i]?)) (h : ws.all goodWord = true) : GoodIn big ws := by
  intro w hw
  have h1 := List.all_eq_true.mp h w hw
  rw [hp] at hw
  obtain ⟨i, -, hi⟩ := List.mem_filterMap.mp hw
  have hm : w ∈ big := by first | exact List.mem_of_getElem? hi | exact List.getElem?_mem hi
  exact ⟨hm, good_of_word h1⟩
theorem goodIn_app {big a b : List Cond} (ha : GoodIn big a) (hb : GoodIn big b) : GoodIn big (a ++ b) := fun w h => (List.mem_append.mp h).elim (ha w) (hb w)
theorem goodIn_ca {big a b : List Cond} {c : Cond} (ha : GoodIn big (c :: a)) (hb : GoodIn big b) : GoodIn big (c :: (a ++ b)) := fun w h => (List.mem_cons.mp h).elim (fun e => ha w (List.mem_cons.mpr (Or.inl e))) (fun h => (List.mem_append.mp h).elim (fun h => ha w (List.mem_cons.mpr (Or.inr h))) (hb w))
theorem goodIn_sub {big ws : List Cond} (hm : ∀ w ∈ ws, w ∈ big) (h : ws.all goodWord = true) : GoodIn big ws := fun w hw => ⟨hm w hw, good_of_word (List.all_eq_true.mp h w hw)⟩
/-! ===== END ===== -/

/-! ===== BEGIN exceptions that leave a method, and their catching by the caller (launches without stack traces) ===== -/
section VXA
/-! The laws vx_back, vx_callV, vx_callS, vx_callSW, vx_throw0, vx_throwS follow proofs of the library, with one case more: JvmDerived/Free/Laws.lean (Back.of_free), Shelf42/LK1.lean (callV, callS), Shelf/KitTraced.lean (throwNew0V, throwNewS). -/
/-- where a method has thrown q: the class by its name, the cell, what was written, the world -/
def vx_T (XC : String → State → State → Prop) (st : State) (q : Addr) (t : State) (mc ms : Nat) (free : Addr → Prop) : Prop :=
  ∃ (E : String) (ce : Cell) (L : List Loc), XC E st t ∧ t.heap[q]? = some ce ∧ ce.vm = .none ∧ st.vm.findClass E = some ce.cls ∧ st.WarmedH t.vm ∧ st.sameButNew ({ t with vm := st.vm } : State) L mc ms ∧ ∀ z ∈ L, free z.base
def vx_Q (Qc : Array Value → State → Outcome → State → Prop) (XC : String → State → State → Prop) (mc ms : Nat) (free : Addr → Prop) : Array Value → State → Outcome → State → Prop := fun a st o t =>
  (Qc a st o t ∧ ∃ L, FrameEnd st o t L mc ms ∧ ∀ q ∈ L, free q.base) ∨ ∃ q, o = .threw q ∧ vx_T XC st q t mc ms free
/-- a callee that returns or throws -/
def vx_Met (l : Launch) (y : MethodName) (ws : List Cond) (rm : Room) (Pc : Array Value → State → Prop) (Qc : Array Value → State → Outcome → State → Prop) (XC : String → State → State → Prop) (mc ms : Nat) (free : Addr → Prop) : Prop :=
  MetFree l y (headSpec ws rm) Pc (fun _ _ _ _ _ => True) (vx_Q Qc XC mc ms free)
def vx_Post (XC : String → State → State → Prop) (mc ms : Nat) (free : Addr → Prop) : Pt → Array Value → Addr → Pt → Prop := fun A a q B =>
  ∃ (g : JFrame) (mk : MethodId) (t : State) (L : List Loc) (E : String) (ce : Cell), B.U.heap = t.heap ∧ B.U.vm = t.vm ∧ XC E (A.U.calling g mk a) t ∧ t.heap[q]? = some ce ∧ ce.vm = .none ∧ A.U.vm.findClass E = some ce.cls ∧ B.locs = A.locs ++ L ∧ (∀ z ∈ L, free z.base) ∧ B.cells = A.cells + mc ∧ B.slots = A.slots + ms
def vx_Back (l : Launch) (R : Room) (p : Program) (e : Env) (below : List Frame) (s : State) (sargs : Array Value) (y : MethodName) (len W9 : Nat)
    (Pre : Pt → Array Value → Prop) (Post : Pt → Array Value → Option Value → Pt → Prop) (PostX : Pt → Array Value → Addr → Pt → Prop) : Prop :=
  ∀ (m : MethodId) (meth : Method) (c : Code) (A : Pt) (g : JFrame) (ig : Instr) (mk : MethodId) (a : Array Value),
    Stand p l e R s m sargs below meth c A.U A.locs A.cells A.slots → g.method = m → g.locals.size = c.maxLocals → decode c.code g.pc = .ok (ig, len) →
    2 * g.monitorRoom + (g.stack.map fun v => v.category).sum ≤ W9 → A.U.methodNamed? y = some mk → Pre A a →
    (∃ (v : Option Value) (B : Pt), Stand p l e R s m sargs below meth c B.U B.locs B.cells B.slots ∧ Post A a v B ∧
      Steps p.tables e below (doInvoke e (A.U.setTop g) [] mk a).1 (B.U.setTop { g with pc := g.pc + len, stack := v.toList ++ g.stack })) ∨
    (∃ (q : Addr) (B : Pt), Stand p l e R s m sargs below meth c B.U B.locs B.cells B.slots ∧ PostX A a q B ∧
      Steps p.tables e below (doInvoke e (A.U.setTop g) [] mk a).1 ((B.U.setTop g).pushFrame (.throwing q)))
section Payer
variable {l : Launch} {R : Room} {p : Program} {e : Env} {below : List Frame} {s : State} {sargs : Array Value} {y : MethodName} {len W9 : Nat}
theorem vx_back {ws : List Cond} {rm : Room} {Pc : Array Value → State → Prop} {Qc : Array Value → State → Outcome → State → Prop} {XC : String → State → State → Prop} {mc ms : Nat} {free : Addr → Prop} {bytes : ByteArray} {maxL : Nat} {ret : Option FieldType}
    (hM : vx_Met l y ws rm Pc Qc XC mc ms free) (hblind : FrameBlind Pc) (hrc : rm.cells = mc) (hrs : rm.slots = ms)
    (hframes : rm.frames + 1 ≤ R.frames) (hlocals : W9 + (maxL + 11) + rm.locals ≤ R.locals)
    (hws : ∀ w ∈ ws, ∀ a' U, s.WarmedH U.vm → w.before a' U = true) (hcode : Cond.code y bytes maxL ret ∈ ws) (hinit : ∀ a' U, s.WarmedH U.vm → (Cond.initialized y.cls).before a' U = true) :
    vx_Back l R p e below s sargs y len W9 (PreOf R mc ms Pc) (PostOf Qc mc ms free) (vx_Post XC mc ms free) := by
  intro m meth c A g ig mk a X hg hsize hdg hW hn hp
  have h1 : (headSpec ws rm).pre.before a A.U = true := atoms_intro fun w hw => hws w hw _ _ X.warmed
  have h2 : (Cond.code y bytes maxL ret).before a A.U = true := hws _ hcode _ _ X.warmed
  have h3 : (Cond.initialized y.cls).before a A.U = true := hinit _ _ X.warmed
  have h4 : A.cells + (headSpec ws rm).room.cells ≤ R.cells := by rw [show (headSpec ws rm).room.cells = mc from hrc]; exact hp.1
  have h5 : A.slots + (headSpec ws rm).room.slots ≤ R.slots := by rw [show (headSpec ws rm).room.slots = ms from hrs]; exact hp.2.1
  have hPc : Pc a (A.U.calling g mk a) := hblind _ _ _ _ hp.2.2
  obtain ⟨U, Ls, c0, s0⟩ := A
  dsimp only [Pt.U, Pt.locs, Pt.cells, Pt.slots] at h1 h2 h3 h4 h5 X hn hPc ⊢
  obtain ⟨methY, cY, hmY, hcY, -, hlY, -, -, -, -⟩ := Cond.code_spec hn h2
  obtain ⟨kY, hkY, -⟩ := className_of_methodNamed hn
  have hinitY : kY.init = .initialized := Cond.initialized_spec (findClass_of_methodNamed hn) hkY h3
  have h : At U g.method c below := by rw [hg]; exact X.here
  have hlocals9 : W9 + (maxL + 11) + (headSpec ws rm).room.locals ≤ R.locals := hlocals
  have happ : (headSpec ws rm).appliesLoose y e.platform (U.calling g mk a) = true :=
    Spec.appliesLoose_calling (g := g) h hdg hn hkY hinitY
      (X.room_calling (g := g) (R' := (headSpec ws rm).room) hsize hmY hcY hframes (by rw [hlY]; omega) h4 h5) h1
  obtain ⟨mid, hmid⟩ := h.above
  have hfr : (U.setTop g).frames = (.java g :: mid) ++ below := by rw [State.frames_setTop' g h.top, hmid]; rfl
  obtain ⟨o, s₂, hsteps, -, hend, hq⟩ := Steps.callFree hM p X.admits X.cas X.clock (acts := []) hfr happ hPc trivial
  have hq' : vx_Q Qc XC mc ms free a (U.calling g mk a) o s₂ := hq
  rw [State.frames_setTop' g h.top] at hend
  obtain ⟨g₀, hg0⟩ := Option.isSome_iff_exists.mp h.top
  obtain ⟨r, hr⟩ := State.topJava?_eq_some.mp hg0
  have hr' : (({ U with heap := s₂.heap, slotsUsed := s₂.slotsUsed } : State).setVm s₂.vm).frames = .java g₀ :: r := hr
  rcases hq' with ⟨hqc, L, hfe, hL⟩ | ⟨q, rfl, E, ce, L, hx, hce, hcv, hcl, hW₂, hsm, hL⟩
  · obtain ⟨⟨v, rfl⟩, hW₂, e2, q2, q3, q4, q5, q6⟩ := id hfe
    have e3 : s₂ = ({ (U.calling g mk a).setFrames s₂.frames with heap := s₂.heap, slotsUsed := s₂.slotsUsed } : State).setVm s₂.vm := by
      have : s₂ = ({ s₂ with vm := (U.calling g mk a).vm } : State).setVm s₂.vm := rfl
      rw [e2] at this
      exact this
    obtain ⟨c₂, i₂, len₂, hc₂, hd₂, hf₂⟩ := hend
    have hW' : U.WarmedH s₂.vm := hW₂
    have hcc : c₂ = c := by
      have h1 : s₂.code? g.method = U.code? g.method := by
        rw [State.code?_eq, State.code?_eq, hW'.alike.method?]
      exact Option.some.inj (hc₂.symm.trans (h1.trans h.code))
    subst hcc
    have hlen : len₂ = len := by rw [hdg] at hd₂; cases hd₂; rfl
    subst hlen
    have hs₂ : s₂ = (({ U with heap := s₂.heap, slotsUsed := s₂.slotsUsed } : State).setVm s₂.vm).setTop { g with pc := g.pc + len₂, stack := v.toList ++ g.stack } := by
      refine e3.trans ?_
      rw [hf₂, State.calling_eq h.top, State.setFrames_setFrames, State.setTop_of_frames _ hr', hr]
      rfl
    have hsame : U.sameButNew ({ U with heap := s₂.heap, slotsUsed := s₂.slotsUsed } : State) L mc ms := by
      refine ⟨?_, q2, q3, q4, q5, q6⟩
      obtain ⟨t, ht, -⟩ := State.frames_cons hr
      show ({ U with heap := s₂.heap, slotsUsed := s₂.slotsUsed } : State) = { U.setFrames U.frames with heap := s₂.heap, slotsUsed := s₂.slotsUsed }
      rw [State.setFrames_self ht]
    subst hg
    refine Or.inl ⟨v, ⟨(({ U with heap := s₂.heap, slotsUsed := s₂.slotsUsed } : State).setVm s₂.vm), Ls ++ L, c0 + mc, s0 + ms⟩,
      ⟨X.admits, X.cas, X.clock, X.frames, X.room, X.hears, X.method, X.code, (X.here.setHeapUsed s₂.heap s₂.slotsUsed).setVm hW'.alike, X.tail, State.WarmedH.trans X.warmed hW', X.limits, X.bytes, X.same.trans (hsame.setVm s.vm)⟩,
      ⟨g, mk, s₂, L, rfl, rfl, hqc, rfl, hL, rfl, rfl⟩, ?_⟩
    show Steps p.tables e below _ ((({ U with heap := s₂.heap, slotsUsed := s₂.slotsUsed } : State).setVm s₂.vm).setTop { g with pc := g.pc + len₂, stack := v.toList ++ g.stack })
    rw [← hs₂]
    exact hsteps
  · obtain ⟨e2, q2, q3, q4, q5, q6⟩ := id hsm
    have e3 : s₂ = ({ (U.calling g mk a).setFrames s₂.frames with heap := s₂.heap, slotsUsed := s₂.slotsUsed } : State).setVm s₂.vm := by
      have : s₂ = ({ s₂ with vm := (U.calling g mk a).vm } : State).setVm s₂.vm := rfl
      rw [e2] at this
      exact this
    have hf₂ : s₂.frames = .throwing q :: .java g :: U.frames.tail := hend
    have hW' : U.WarmedH s₂.vm := hW₂
    have hs₂ : s₂ = ((({ U with heap := s₂.heap, slotsUsed := s₂.slotsUsed } : State).setVm s₂.vm).setTop g).pushFrame (.throwing q) := by
      refine e3.trans ?_
      rw [hf₂, State.calling_eq h.top, State.setFrames_setFrames, State.pushFrame, State.frames_setTop _ hr', State.setTop_of_frames _ hr', State.setFrames_setFrames, hr]
      rfl
    have hsame : U.sameButNew ({ U with heap := s₂.heap, slotsUsed := s₂.slotsUsed } : State) L mc ms := by
      refine ⟨?_, q2, q3, q4, q5, q6⟩
      obtain ⟨t, ht, -⟩ := State.frames_cons hr
      show ({ U with heap := s₂.heap, slotsUsed := s₂.slotsUsed } : State) = { U.setFrames U.frames with heap := s₂.heap, slotsUsed := s₂.slotsUsed }
      rw [State.setFrames_self ht]
    subst hg
    refine Or.inr ⟨q, ⟨(({ U with heap := s₂.heap, slotsUsed := s₂.slotsUsed } : State).setVm s₂.vm), Ls ++ L, c0 + mc, s0 + ms⟩,
      ⟨X.admits, X.cas, X.clock, X.frames, X.room, X.hears, X.method, X.code, (X.here.setHeapUsed s₂.heap s₂.slotsUsed).setVm hW'.alike, X.tail, State.WarmedH.trans X.warmed hW', X.limits, X.bytes, X.same.trans (hsame.setVm s.vm)⟩,
      ⟨g, mk, s₂, L, E, ce, rfl, rfl, hx, hce, hcv, hcl, rfl, hL, rfl, rfl⟩, ?_⟩
    show Steps p.tables e below _ (((({ U with heap := s₂.heap, slotsUsed := s₂.slotsUsed } : State).setVm s₂.vm).setTop g).pushFrame (.throwing q))
    rw [← hs₂]
    exact hsteps
end Payer
section Calls
variable {p : Program} {l : Launch} {e : Env} {R : Room} {s : State} {m : MethodId} {args : Array Value} {below : List Frame} {meth : Method} {c : Code} {T : State} {locs : List Loc} {cells slots : Nat}
theorem vx_callV (X : Stand p l e R s m args below meth c T locs cells slots) (hexec : p.tables.exec = Jvm.exec) {own C : String} {index : Nat} {y : MethodName} {bytes : ByteArray} {maxL : Nat} {ret : Option FieldType}
    (hown : s.vm.findClass own = some m.cls) (hlink : (Cond.methodLink own index y).before args s = true) (hinst : (Cond.instanceMethod y).before args s = true) (hsel : (Cond.selects C y y).before args s = true)
    (hcode : (Cond.code y bytes maxL ret).before args s = true) (hy : y.cls ≠ "java/lang/invoke/MethodHandle" ∧ y.cls ≠ "java/lang/invoke/VarHandle")
    {W9 : Nat} {Pre : Pt → Array Value → Prop} {Post : Pt → Array Value → Option Value → Pt → Prop} {PostX : Pt → Array Value → Addr → Pt → Prop} (hK : vx_Back l R p e below s args y 3 W9 Pre Post PostX)
    {b : Addr} {cellB : Cell} (hcell : T.heap[b]? = some cellB) (hobj : cellB.vm.isStatics = false) (hcls : s.vm.findClass C = some cellB.cls)
    {g : JFrame} (hg : g.method = m) (hsize : g.locals.size = c.maxLocals) {argsL rest : List Value} (hlen : ∀ sig, parseMethodDescriptor y.desc = some sig → argsL.length = sig.parameters.length)
    (hstack : g.stack = argsL.reverse ++ .ref b :: rest) (hW : 2 * g.monitorRoom + (rest.map fun v => v.category).sum ≤ W9) (hdg : decode c.code g.pc = .ok (.invokevirtual index, 3))
    (hpre : ∀ vm₁, s.WarmedH vm₁ → Pre ⟨T.setVm vm₁, locs, cells, slots⟩ (Value.ref b :: argsL).toArray) :
    (∃ (v : Option Value) (vm₁ : Vm) (B : Pt), s.WarmedH vm₁ ∧ Stand p l e R s m args below meth c B.U B.locs B.cells B.slots ∧ Post ⟨T.setVm vm₁, locs, cells, slots⟩ (Value.ref b :: argsL).toArray v B ∧
      ∀ target, Steps p.tables e below (B.U.setTop { g with pc := g.pc + 3, stack := v.toList ++ rest }) target → Steps p.tables e below (T.setTop g) target) ∨
    (∃ (q : Addr) (vm₁ : Vm) (B : Pt), s.WarmedH vm₁ ∧ Stand p l e R s m args below meth c B.U B.locs B.cells B.slots ∧ PostX ⟨T.setVm vm₁, locs, cells, slots⟩ (Value.ref b :: argsL).toArray q B ∧
      Steps p.tables e below (T.setTop g) ((B.U.setTop { g with stack := rest }).pushFrame (.throwing q))) := by
  obtain ⟨mk, methM, hnamed, hmethM, hstM, habM⟩ := Cond.instanceMethod_spec hinst
  obtain ⟨methM', cM, hmethM', -, -, -, -, -, -, hsigM⟩ := Cond.code_spec hnamed hcode
  cases hmethM.symm.trans hmethM'
  obtain ⟨c2, r2, m2, q1, q2, q3, q4, kP, hkP, hkPi⟩ := Cond.selects_spec hsel
  cases hcls.symm.trans q1
  cases (State.methodFound?_of_named hnamed hy).symm.trans q2
  cases hnamed.symm.trans q3
  have hselP : selectMethod e.platform s.vm cellB.cls mk = .method mk := by rw [Launch.admits_selectMethod X.admits]; exact q4
  obtain ⟨vm₁, X₁, hstep₁⟩ := X.invokevirtual hexec hown hlink hnamed hmethM hstM hkP hkPi hy (a := b) (cell := cellB) hcell
    (fun z h => by rw [h] at hobj; cases hobj) hselP hmethM habM hkP hkPi (g := g) hg (argsL := argsL) (rest := rest) (hlen _ hsigM) hstack hdg
  rcases hK m meth c ⟨T.setVm vm₁, locs, cells, slots⟩ { g with stack := rest } (.invokevirtual index) mk (Value.ref b :: argsL).toArray X₁ hg hsize hdg hW (X₁.named hnamed) (hpre vm₁ X₁.warmed) with ⟨v, B, X', hpost, hsteps⟩ | ⟨q, B, X', hpost, hsteps⟩
  · exact Or.inl ⟨v, vm₁, B, X₁.warmed, X', hpost, fun target h => hstep₁ _ fun acts => by rw [doInvoke_state]; exact hsteps.trans h⟩
  · exact Or.inr ⟨q, vm₁, B, X₁.warmed, X', hpost, hstep₁ _ fun acts => by rw [doInvoke_state]; exact hsteps⟩
theorem vx_callS (X : Stand p l e R s m args below meth c T locs cells slots) (hexec : p.tables.exec = Jvm.exec) {own : String} {index : Nat} {y : MethodName} {bytes : ByteArray} {maxL : Nat} {ret : Option FieldType}
    (hown : s.vm.findClass own = some m.cls) (hlink : (Cond.methodLink own index y).before args s = true) (hstat : (Cond.static y).before args s = true) (hinit : (Cond.initialized y.cls).before args s = true)
    (hcode : (Cond.code y bytes maxL ret).before args s = true) (hy : y.cls ≠ "java/lang/invoke/MethodHandle" ∧ y.cls ≠ "java/lang/invoke/VarHandle")
    {W9 : Nat} {Pre : Pt → Array Value → Prop} {Post : Pt → Array Value → Option Value → Pt → Prop} {PostX : Pt → Array Value → Addr → Pt → Prop} (hK : vx_Back l R p e below s args y 3 W9 Pre Post PostX)
    {g : JFrame} (hg : g.method = m) (hsize : g.locals.size = c.maxLocals) {argsL rest : List Value} (hlen : ∀ sig, parseMethodDescriptor y.desc = some sig → argsL.length = sig.parameters.length)
    (hstack : g.stack = argsL.reverse ++ rest) (hW : 2 * g.monitorRoom + (rest.map fun v => v.category).sum ≤ W9) (hdg : decode c.code g.pc = .ok (.invokestatic index, 3))
    (hpre : ∀ vm₁, s.WarmedH vm₁ → Pre ⟨T.setVm vm₁, locs, cells, slots⟩ argsL.toArray) :
    (∃ (v : Option Value) (vm₁ : Vm) (B : Pt), s.WarmedH vm₁ ∧ Stand p l e R s m args below meth c B.U B.locs B.cells B.slots ∧ Post ⟨T.setVm vm₁, locs, cells, slots⟩ argsL.toArray v B ∧
      ∀ target, Steps p.tables e below (B.U.setTop { g with pc := g.pc + 3, stack := v.toList ++ rest }) target → Steps p.tables e below (T.setTop g) target) ∨
    (∃ (q : Addr) (vm₁ : Vm) (B : Pt), s.WarmedH vm₁ ∧ Stand p l e R s m args below meth c B.U B.locs B.cells B.slots ∧ PostX ⟨T.setVm vm₁, locs, cells, slots⟩ argsL.toArray q B ∧
      Steps p.tables e below (T.setTop g) ((B.U.setTop { g with stack := rest }).pushFrame (.throwing q))) := by
  obtain ⟨mk, hnamed⟩ := Cond.code_named hcode
  obtain ⟨methM, cM, hmethM, -, -, -, -, -, -, hsigM⟩ := Cond.code_spec hnamed hcode
  have hstatic : methM.isStatic = true := Cond.static_spec hnamed hmethM hstat
  obtain ⟨kP, hkP, -⟩ := className_of_methodNamed hnamed
  have hinitP : kP.init = .initialized := Cond.initialized_spec (findClass_of_methodNamed hnamed) hkP hinit
  obtain ⟨vm₁, X₁, hstep₁⟩ := X.invokestatic hexec hown hlink hnamed hmethM hstatic hkP hinitP hy (g := g) hg (argsL := argsL) (rest := rest) (hlen _ hsigM) hstack hdg
  rcases hK m meth c ⟨T.setVm vm₁, locs, cells, slots⟩ { g with stack := rest } (.invokestatic index) mk argsL.toArray X₁ hg hsize hdg hW (X₁.named hnamed) (hpre vm₁ X₁.warmed) with ⟨v, B, X', hpost, hsteps⟩ | ⟨q, B, X', hpost, hsteps⟩
  · exact Or.inl ⟨v, vm₁, B, X₁.warmed, X', hpost, fun target h => hstep₁ _ fun acts => by rw [doInvoke_state]; exact hsteps.trans h⟩
  · exact Or.inr ⟨q, vm₁, B, X₁.warmed, X', hpost, hstep₁ _ fun acts => by rw [doInvoke_state]; exact hsteps⟩
end Calls
theorem vx_cls {s : State} {T : State} {vm₁ : Vm} {E : String} {k : ClassId} (hW : s.WarmedH vm₁) (h : (T.setVm vm₁).vm.findClass E = some k) : s.vm.findClass E = some k := by
  have h1 : vm₁.findClass E = some k := h
  rw [hW.alike.findClass] at h1
  exact h1
/-- the method's frame g, with q thrown over it -/
def vx_W (p : Program) (l : Launch) (e : Env) (R : Room) (s : State) (m : MethodId) (args : Array Value) (below : List Frame) (meth : Method) (c : Code) (H : Heap) (locs : List Loc) (cells slots : Nat) (Q : State → Prop) (g : JFrame) (q : Addr) : Prop :=
  ∀ T : State, T.heap = H → Stand p l e R s m args below meth c T locs cells slots → ∃ t, Steps p.tables e below ((T.setTop g).pushFrame (.throwing q)) t ∧ Q t
def vx_Run (p : Program) (l : Launch) (e : Env) (R : Room) (s : State) (m : MethodId) (args : Array Value) (below : List Frame) (meth : Method) (c : Code) (H : Heap) (locs : List Loc) (cells slots mc ms : Nat) (g : JFrame) (rest : List Value) (Qa : State → Outcome → State → Prop) (XC : String → State → State → Prop) (free : Addr → Prop) : Prop :=
  ∀ T : State, T.heap = H → Stand p l e R s m args below meth c T locs cells slots →
    (∃ (v : Option Value) (st₀ t T' : State) (L : List Loc), st₀.heap = H ∧ Stand p l e R s m args below meth c T' (locs ++ L) (cells + mc) (slots + ms) ∧ (∀ q ∈ L, free q.base) ∧ T'.heap = t.heap ∧ T'.vm = t.vm ∧ Qa st₀ (.returned v) t ∧
      Goes p e below T g T' { g with pc := g.pc + 3, stack := v.toList ++ rest }) ∨
    (∃ (q : Addr) (st₀ t T' : State) (L : List Loc) (E : String) (ce : Cell), st₀.heap = H ∧ Stand p l e R s m args below meth c T' (locs ++ L) (cells + mc) (slots + ms) ∧ (∀ z ∈ L, free z.base) ∧ T'.heap = t.heap ∧ T'.vm = t.vm ∧ XC E st₀ t ∧ t.heap[q]? = some ce ∧ ce.vm = .none ∧ s.vm.findClass E = some ce.cls ∧
      Steps p.tables e below (T.setTop g) ((T'.setTop { g with stack := rest }).pushFrame (.throwing q)))
def vx_X {S : Type} (px : S → Prop) (B : String → S → State → Prop) (A : Nat → Prop) : String → State → State → Prop := fun E st t => ∃ u : S, px u ∧ B E u t ∧ va_F A st t
section Runs
variable {p : Program} {l : Launch} {e : Env} {R : Room} {s : State} {m : MethodId} {args : Array Value} {below : List Frame} {meth : Method} {c : Code} {H : Heap} {locs : List Loc} {cells slots : Nat}
variable {y : MethodName} {bytes cc : ByteArray} {maxL nL mc ms n index : Nat} {ret : Option FieldType} {ws : List Cond} {rm : Room} {Pc : Array Value → State → Prop} {Qc : Array Value → State → Outcome → State → Prop} {XC : String → State → State → Prop} {free : Addr → Prop} {Ts : List Cond} {own C : String} {b : Addr} {As rest : List Value} {g : JFrame}
theorem vx_callBack (cb : CallB R s args own index y bytes maxL ret ws rm mc ms n) (hM : vx_Met l y ws rm Pc Qc XC mc ms free) (hbl : FrameBlind Pc) : vx_Back l R p e below s args y 3 8 (PreOf R mc ms Pc) (PostOf Qc mc ms free) (vx_Post XC mc ms free) := by
  obtain ⟨hrc, hrs, hfr, hlo, hws, hcw, -, hini, -⟩ := cb
  exact vx_back (bytes := bytes) (maxL := maxL) (ret := ret) hM hbl hrc hrs hfr hlo hws hcw (fun a' U hW => word_at hW (Or.inl (by first | rfl | simp [Cond.onTables, Cond.keeps, Cond.steady])) hini)
theorem vx_runV (S : CallFix p m c cc nL s args Ts own) (hM : vx_Met l y ws rm Pc Qc XC mc ms free) (cw : CallW R s args own C index y bytes maxL ret ws rm mc ms n) (hp : PreV s H C b Pc As)
    (hg : g.method = m) (hn : As.length = n) (hsize : g.locals.size = nL) (hstack : g.stack = As.reverse ++ .ref b :: rest) (hW : 2 * g.monitorRoom + (rest.map fun v => v.category).sum ≤ 8) (hdg : decode cc g.pc = .ok (.invokevirtual index, 3)) (hf : cells + mc ≤ R.cells ∧ slots + ms ≤ R.slots) :
    vx_Run p l e R s m args below meth c H locs cells slots mc ms g rest (Qc (Value.ref b :: As).toArray) XC free := by
  have hK : vx_Back l R p e below s args y 3 8 (PreOf R mc ms Pc) (PostOf Qc mc ms free) (vx_Post XC mc ms free) := vx_callBack cw.1 hM hp.1
  obtain ⟨⟨-, -, -, -, -, -, hcode, -, hy, hlen, hl⟩, hin, hse⟩ := cw
  obtain ⟨hx, hb, hml, ho, -⟩ := S
  obtain ⟨-, ⟨cellB, hcB, hoB, hclB⟩, hPc⟩ := hp
  intro T hT X
  rcases vx_callV X hx (C := C) (bytes := bytes) (maxL := maxL) (ret := ret) ho hl hin hse hcode hy hK (by rw [hT]; exact hcB) hoB hclB hg (hsize.trans hml.symm) (argsL := As) (rest := rest) (fun sig h => hn.trans (hlen sig h)) hstack hW (by rw [hb]; exact hdg)
    (fun vm₁ hW₁ => ⟨hf.1, hf.2, hPc (T.setVm vm₁) hT hW₁⟩) with ⟨v, vm₁, ⟨U', l2, c2, s2⟩, hW₁, X', ⟨g', mk, t, L, e1, e2, hq, h1, hL, h2, h3⟩, st⟩ | ⟨q, vm₁, ⟨U', l2, c2, s2⟩, hW₁, X', ⟨g', mk, t, L, E, ce, e1, e2, hq, hce, hcv, hcl, h1, hL, h2, h3⟩, st⟩
  · dsimp only [Pt.U, Pt.locs, Pt.cells, Pt.slots] at X' e1 e2 h1 h2 h3 st
    subst h1; subst h2; subst h3
    exact Or.inl ⟨v, (T.setVm vm₁).calling g' mk (Value.ref b :: As).toArray, t, U', L, hT, X', hL, e1, e2, hq, st⟩
  · dsimp only [Pt.U, Pt.locs, Pt.cells, Pt.slots] at X' e1 e2 h1 h2 h3 st hcl
    subst h1; subst h2; subst h3
    exact Or.inr ⟨q, (T.setVm vm₁).calling g' mk (Value.ref b :: As).toArray, t, U', L, E, ce, hT, X', hL, e1, e2, hq, hce, hcv, vx_cls hW₁ hcl, st⟩
theorem vx_runS (S : CallFix p m c cc nL s args Ts own) (hM : vx_Met l y ws rm Pc Qc XC mc ms free) (cw : CallB R s args own index y bytes maxL ret ws rm mc ms n ∧ (Cond.static y).before args s = true) (hp : PreS s H Pc As)
    (hg : g.method = m) (hn : As.length = n) (hsize : g.locals.size = nL) (hstack : g.stack = As.reverse ++ rest) (hW : 2 * g.monitorRoom + (rest.map fun v => v.category).sum ≤ 8) (hdg : decode cc g.pc = .ok (.invokestatic index, 3)) (hf : cells + mc ≤ R.cells ∧ slots + ms ≤ R.slots) :
    vx_Run p l e R s m args below meth c H locs cells slots mc ms g rest (Qc As.toArray) XC free := by
  have hK : vx_Back l R p e below s args y 3 8 (PreOf R mc ms Pc) (PostOf Qc mc ms free) (vx_Post XC mc ms free) := vx_callBack cw.1 hM hp.1
  obtain ⟨⟨-, -, -, -, -, -, hcode, hini, hy, hlen, hl⟩, hstt⟩ := cw
  obtain ⟨hx, hb, hml, ho, -⟩ := S
  intro T hT X
  rcases vx_callS X hx (bytes := bytes) (maxL := maxL) (ret := ret) ho hl hstt hini hcode hy hK hg (hsize.trans hml.symm) (argsL := As) (rest := rest) (fun sig h => hn.trans (hlen sig h)) hstack hW (by rw [hb]; exact hdg)
    (fun vm₁ hW₁ => ⟨hf.1, hf.2, hp.2 (T.setVm vm₁) hT hW₁⟩) with ⟨v, vm₁, ⟨U', l2, c2, s2⟩, hW₁, X', ⟨g', mk, t, L, e1, e2, hq, h1, hL, h2, h3⟩, st⟩ | ⟨q, vm₁, ⟨U', l2, c2, s2⟩, hW₁, X', ⟨g', mk, t, L, E, ce, e1, e2, hq, hce, hcv, hcl, h1, hL, h2, h3⟩, st⟩
  · dsimp only [Pt.U, Pt.locs, Pt.cells, Pt.slots] at X' e1 e2 h1 h2 h3 st
    subst h1; subst h2; subst h3
    exact Or.inl ⟨v, (T.setVm vm₁).calling g' mk As.toArray, t, U', L, hT, X', hL, e1, e2, hq, st⟩
  · dsimp only [Pt.U, Pt.locs, Pt.cells, Pt.slots] at X' e1 e2 h1 h2 h3 st hcl
    subst h1; subst h2; subst h3
    exact Or.inr ⟨q, (T.setVm vm₁).calling g' mk As.toArray, t, U', L, E, ce, hT, X', hL, e1, e2, hq, hce, hcv, vx_cls hW₁ hcl, st⟩
end Runs
section Rows
variable {p : Program} {l : Launch} {e : Env} {R : Room} {s : State} {m : MethodId} {args : Array Value} {below : List Frame} {meth : Method} {c : Code} {H : Heap} {locs : List Loc} {cells slots : Nat} {Q : State → Prop}
variable {mc ms : Nat} {free : Addr → Prop} {A0 A1 : Nat → Prop} {H0 : Heap} {a : Array Value} {pc : Nat} {ls : Array Slot} {st0 rest : List Value}
theorem vx_keep {st₀ t T' : State} {L : List Loc} (h0 : st₀.heap = H) (e1 : T'.heap = t.heap) (hS : va_S A0 H0 H locs) (hA : ∀ q, q < H.size → A1 q → A0 q) (hf : ∀ q, free q → A0 q) (hL : ∀ q ∈ L, free q.base) (hF : va_F A1 st₀ t) :
    H.size ≤ T'.heap.size ∧ (∀ q : Nat, q < H.size → ¬ A1 q → T'.heap[q]? = H[q]?) ∧ va_S A0 H0 T'.heap (locs ++ L) := by
  obtain ⟨hz, hk⟩ := hF
  rw [h0] at hz hk
  exact ⟨by rw [e1]; exact hz, fun q h1 h2 => by rw [e1]; exact hk q h1 h2,
    ⟨Nat.le_trans hS.1 (by rw [e1]; exact hz), fun q h1 h2 => by rw [e1, hk q (Nat.lt_of_lt_of_le h1 hS.1) (fun z => h2 (hA q (Nat.lt_of_lt_of_le h1 hS.1) z))]; exact hS.2.1 q h1 h2, fun q hq => by
      rcases List.mem_append.mp hq with h | h
      · exact hS.2.2 q h
      · exact hf _ (hL q h)⟩⟩
theorem vx_calli {S SX : Type} {post : Int32 → S → Prop} {px : SX → Prop} {B : S → State → Prop} {BX : String → SX → State → Prop} {AX : Nat → Prop} (hr : vx_Run p l e R s m args below meth c H locs cells slots mc ms (F0 m pc ls st0) rest (va_Qi post B A1 a) (vx_X px BX AX) free) (hS : va_S A0 H0 H locs) (hA : ∀ q, q < H.size → A1 q → A0 q) (hf : ∀ q, free q → A0 q) (hAX : ∀ q, q < H.size → AX q → A0 q)
    (kx : ∀ (E : String) (ce : Cell) (q9 : Addr) (u : SX) (t : State) (H1 : Heap) (locs1 : List Loc), t.heap = H1 → s.vm.Alike t.vm → px u → BX E u t → H.size ≤ H1.size → (∀ q : Nat, q < H.size → ¬ AX q → H1[q]? = H[q]?) → va_S A0 H0 H1 locs1 → H1[q9]? = some ce → ce.vm = .none → s.vm.findClass E = some ce.cls → vx_W p l e R s m args below meth c H1 locs1 (cells + mc) (slots + ms) Q (F0 m pc ls rest) q9)
    (kk : ∀ (r : Int32) (u : S) (t : State) (H1 : Heap) (locs1 : List Loc), t.heap = H1 → s.vm.Alike t.vm → post r u → B u t → H.size ≤ H1.size → (∀ q : Nat, q < H.size → ¬ A1 q → H1[q]? = H[q]?) → va_S A0 H0 H1 locs1 → W p l e R s m args below meth c H1 locs1 (cells + mc) (slots + ms) Q (F0 m (pc + 3) ls (.int r :: rest))) : W p l e R s m args below meth c H locs cells slots Q (F0 m pc ls st0) := by
  intro T hT X
  rcases hr T hT X with ⟨v, st₀, t, T', L, h0, X', hL, e1, e2, ⟨⟨r, u, hv, hp, hb⟩, hF⟩, st⟩ | ⟨q, st₀, t, T', L, E, ce, h0, X', hL, e1, e2, ⟨u, hp, hb, hF⟩, hce, hcv, hcl, st⟩
  · cases hv
    obtain ⟨k1, k2, k3⟩ := vx_keep h0 e1 hS hA hf hL hF
    obtain ⟨t2, a1, b1⟩ := kk r u t T'.heap (locs ++ L) e1.symm (by rw [← e2]; exact X'.warmed.alike) hp hb k1 k2 k3 T' rfl X'
    exact ⟨t2, st t2 a1, b1⟩
  · obtain ⟨k1, k2, k3⟩ := vx_keep h0 e1 hS hAX hf hL hF
    obtain ⟨t2, a1, b1⟩ := kx E ce q u t T'.heap (locs ++ L) e1.symm (by rw [← e2]; exact X'.warmed.alike) hp hb k1 k2 k3 (by rw [e1]; exact hce) hcv hcl T' rfl X'
    exact ⟨t2, st.trans a1, b1⟩
theorem vx_calll {S SX : Type} {post : Int64 → S → Prop} {px : SX → Prop} {B : S → State → Prop} {BX : String → SX → State → Prop} {AX : Nat → Prop} (hr : vx_Run p l e R s m args below meth c H locs cells slots mc ms (F0 m pc ls st0) rest (va_Ql post B A1 a) (vx_X px BX AX) free) (hS : va_S A0 H0 H locs) (hA : ∀ q, q < H.size → A1 q → A0 q) (hf : ∀ q, free q → A0 q) (hAX : ∀ q, q < H.size → AX q → A0 q)
    (kx : ∀ (E : String) (ce : Cell) (q9 : Addr) (u : SX) (t : State) (H1 : Heap) (locs1 : List Loc), t.heap = H1 → s.vm.Alike t.vm → px u → BX E u t → H.size ≤ H1.size → (∀ q : Nat, q < H.size → ¬ AX q → H1[q]? = H[q]?) → va_S A0 H0 H1 locs1 → H1[q9]? = some ce → ce.vm = .none → s.vm.findClass E = some ce.cls → vx_W p l e R s m args below meth c H1 locs1 (cells + mc) (slots + ms) Q (F0 m pc ls rest) q9)
    (kk : ∀ (r : Int64) (u : S) (t : State) (H1 : Heap) (locs1 : List Loc), t.heap = H1 → s.vm.Alike t.vm → post r u → B u t → H.size ≤ H1.size → (∀ q : Nat, q < H.size → ¬ A1 q → H1[q]? = H[q]?) → va_S A0 H0 H1 locs1 → W p l e R s m args below meth c H1 locs1 (cells + mc) (slots + ms) Q (F0 m (pc + 3) ls (.long r :: rest))) : W p l e R s m args below meth c H locs cells slots Q (F0 m pc ls st0) := by
  intro T hT X
  rcases hr T hT X with ⟨v, st₀, t, T', L, h0, X', hL, e1, e2, ⟨⟨r, u, hv, hp, hb⟩, hF⟩, st⟩ | ⟨q, st₀, t, T', L, E, ce, h0, X', hL, e1, e2, ⟨u, hp, hb, hF⟩, hce, hcv, hcl, st⟩
  · cases hv
    obtain ⟨k1, k2, k3⟩ := vx_keep h0 e1 hS hA hf hL hF
    obtain ⟨t2, a1, b1⟩ := kk r u t T'.heap (locs ++ L) e1.symm (by rw [← e2]; exact X'.warmed.alike) hp hb k1 k2 k3 T' rfl X'
    exact ⟨t2, st t2 a1, b1⟩
  · obtain ⟨k1, k2, k3⟩ := vx_keep h0 e1 hS hAX hf hL hF
    obtain ⟨t2, a1, b1⟩ := kx E ce q u t T'.heap (locs ++ L) e1.symm (by rw [← e2]; exact X'.warmed.alike) hp hb k1 k2 k3 (by rw [e1]; exact hce) hcv hcl T' rfl X'
    exact ⟨t2, st.trans a1, b1⟩
theorem vx_callf {S SX : Type} {post : UInt32 → S → Prop} {px : SX → Prop} {B : S → State → Prop} {BX : String → SX → State → Prop} {AX : Nat → Prop} (hr : vx_Run p l e R s m args below meth c H locs cells slots mc ms (F0 m pc ls st0) rest (va_Qf post B A1 a) (vx_X px BX AX) free) (hS : va_S A0 H0 H locs) (hA : ∀ q, q < H.size → A1 q → A0 q) (hf : ∀ q, free q → A0 q) (hAX : ∀ q, q < H.size → AX q → A0 q)
    (kx : ∀ (E : String) (ce : Cell) (q9 : Addr) (u : SX) (t : State) (H1 : Heap) (locs1 : List Loc), t.heap = H1 → s.vm.Alike t.vm → px u → BX E u t → H.size ≤ H1.size → (∀ q : Nat, q < H.size → ¬ AX q → H1[q]? = H[q]?) → va_S A0 H0 H1 locs1 → H1[q9]? = some ce → ce.vm = .none → s.vm.findClass E = some ce.cls → vx_W p l e R s m args below meth c H1 locs1 (cells + mc) (slots + ms) Q (F0 m pc ls rest) q9)
    (kk : ∀ (r : UInt32) (u : S) (t : State) (H1 : Heap) (locs1 : List Loc), t.heap = H1 → s.vm.Alike t.vm → post r u → B u t → H.size ≤ H1.size → (∀ q : Nat, q < H.size → ¬ A1 q → H1[q]? = H[q]?) → va_S A0 H0 H1 locs1 → W p l e R s m args below meth c H1 locs1 (cells + mc) (slots + ms) Q (F0 m (pc + 3) ls (.float r :: rest))) : W p l e R s m args below meth c H locs cells slots Q (F0 m pc ls st0) := by
  intro T hT X
  rcases hr T hT X with ⟨v, st₀, t, T', L, h0, X', hL, e1, e2, ⟨⟨r, u, hv, hp, hb⟩, hF⟩, st⟩ | ⟨q, st₀, t, T', L, E, ce, h0, X', hL, e1, e2, ⟨u, hp, hb, hF⟩, hce, hcv, hcl, st⟩
  · cases hv
    obtain ⟨k1, k2, k3⟩ := vx_keep h0 e1 hS hA hf hL hF
    obtain ⟨t2, a1, b1⟩ := kk r u t T'.heap (locs ++ L) e1.symm (by rw [← e2]; exact X'.warmed.alike) hp hb k1 k2 k3 T' rfl X'
    exact ⟨t2, st t2 a1, b1⟩
  · obtain ⟨k1, k2, k3⟩ := vx_keep h0 e1 hS hAX hf hL hF
    obtain ⟨t2, a1, b1⟩ := kx E ce q u t T'.heap (locs ++ L) e1.symm (by rw [← e2]; exact X'.warmed.alike) hp hb k1 k2 k3 (by rw [e1]; exact hce) hcv hcl T' rfl X'
    exact ⟨t2, st.trans a1, b1⟩
theorem vx_calld {S SX : Type} {post : UInt64 → S → Prop} {px : SX → Prop} {B : S → State → Prop} {BX : String → SX → State → Prop} {AX : Nat → Prop} (hr : vx_Run p l e R s m args below meth c H locs cells slots mc ms (F0 m pc ls st0) rest (va_Qd post B A1 a) (vx_X px BX AX) free) (hS : va_S A0 H0 H locs) (hA : ∀ q, q < H.size → A1 q → A0 q) (hf : ∀ q, free q → A0 q) (hAX : ∀ q, q < H.size → AX q → A0 q)
    (kx : ∀ (E : String) (ce : Cell) (q9 : Addr) (u : SX) (t : State) (H1 : Heap) (locs1 : List Loc), t.heap = H1 → s.vm.Alike t.vm → px u → BX E u t → H.size ≤ H1.size → (∀ q : Nat, q < H.size → ¬ AX q → H1[q]? = H[q]?) → va_S A0 H0 H1 locs1 → H1[q9]? = some ce → ce.vm = .none → s.vm.findClass E = some ce.cls → vx_W p l e R s m args below meth c H1 locs1 (cells + mc) (slots + ms) Q (F0 m pc ls rest) q9)
    (kk : ∀ (r : UInt64) (u : S) (t : State) (H1 : Heap) (locs1 : List Loc), t.heap = H1 → s.vm.Alike t.vm → post r u → B u t → H.size ≤ H1.size → (∀ q : Nat, q < H.size → ¬ A1 q → H1[q]? = H[q]?) → va_S A0 H0 H1 locs1 → W p l e R s m args below meth c H1 locs1 (cells + mc) (slots + ms) Q (F0 m (pc + 3) ls (.double r :: rest))) : W p l e R s m args below meth c H locs cells slots Q (F0 m pc ls st0) := by
  intro T hT X
  rcases hr T hT X with ⟨v, st₀, t, T', L, h0, X', hL, e1, e2, ⟨⟨r, u, hv, hp, hb⟩, hF⟩, st⟩ | ⟨q, st₀, t, T', L, E, ce, h0, X', hL, e1, e2, ⟨u, hp, hb, hF⟩, hce, hcv, hcl, st⟩
  · cases hv
    obtain ⟨k1, k2, k3⟩ := vx_keep h0 e1 hS hA hf hL hF
    obtain ⟨t2, a1, b1⟩ := kk r u t T'.heap (locs ++ L) e1.symm (by rw [← e2]; exact X'.warmed.alike) hp hb k1 k2 k3 T' rfl X'
    exact ⟨t2, st t2 a1, b1⟩
  · obtain ⟨k1, k2, k3⟩ := vx_keep h0 e1 hS hAX hf hL hF
    obtain ⟨t2, a1, b1⟩ := kx E ce q u t T'.heap (locs ++ L) e1.symm (by rw [← e2]; exact X'.warmed.alike) hp hb k1 k2 k3 (by rw [e1]; exact hce) hcv hcl T' rfl X'
    exact ⟨t2, st.trans a1, b1⟩
theorem vx_callv {S SX : Type} {post : S → Prop} {px : SX → Prop} {B : S → State → Prop} {BX : String → SX → State → Prop} {AX : Nat → Prop} (hr : vx_Run p l e R s m args below meth c H locs cells slots mc ms (F0 m pc ls st0) rest (va_Qv post B A1 a) (vx_X px BX AX) free) (hS : va_S A0 H0 H locs) (hA : ∀ q, q < H.size → A1 q → A0 q) (hf : ∀ q, free q → A0 q) (hAX : ∀ q, q < H.size → AX q → A0 q)
    (kx : ∀ (E : String) (ce : Cell) (q9 : Addr) (u : SX) (t : State) (H1 : Heap) (locs1 : List Loc), t.heap = H1 → s.vm.Alike t.vm → px u → BX E u t → H.size ≤ H1.size → (∀ q : Nat, q < H.size → ¬ AX q → H1[q]? = H[q]?) → va_S A0 H0 H1 locs1 → H1[q9]? = some ce → ce.vm = .none → s.vm.findClass E = some ce.cls → vx_W p l e R s m args below meth c H1 locs1 (cells + mc) (slots + ms) Q (F0 m pc ls rest) q9)
    (kk : ∀ (u : S) (t : State) (H1 : Heap) (locs1 : List Loc), t.heap = H1 → s.vm.Alike t.vm → post u → B u t → H.size ≤ H1.size → (∀ q : Nat, q < H.size → ¬ A1 q → H1[q]? = H[q]?) → va_S A0 H0 H1 locs1 → W p l e R s m args below meth c H1 locs1 (cells + mc) (slots + ms) Q (F0 m (pc + 3) ls (rest))) : W p l e R s m args below meth c H locs cells slots Q (F0 m pc ls st0) := by
  intro T hT X
  rcases hr T hT X with ⟨v, st₀, t, T', L, h0, X', hL, e1, e2, ⟨⟨u, hv, hp, hb⟩, hF⟩, st⟩ | ⟨q, st₀, t, T', L, E, ce, h0, X', hL, e1, e2, ⟨u, hp, hb, hF⟩, hce, hcv, hcl, st⟩
  · cases hv
    obtain ⟨k1, k2, k3⟩ := vx_keep h0 e1 hS hA hf hL hF
    obtain ⟨t2, a1, b1⟩ := kk u t T'.heap (locs ++ L) e1.symm (by rw [← e2]; exact X'.warmed.alike) hp hb k1 k2 k3 T' rfl X'
    exact ⟨t2, st t2 a1, b1⟩
  · obtain ⟨k1, k2, k3⟩ := vx_keep h0 e1 hS hAX hf hL hF
    obtain ⟨t2, a1, b1⟩ := kx E ce q u t T'.heap (locs ++ L) e1.symm (by rw [← e2]; exact X'.warmed.alike) hp hb k1 k2 k3 (by rw [e1]; exact hce) hcv hcl T' rfl X'
    exact ⟨t2, st.trans a1, b1⟩
/-- caught by the row x of this method's table; the rows ahead don't take it -/
theorem vx_catch {own name : String} {E : String} {ce : Cell} {q : Addr} (hown : s.vm.findClass own = some m.cls) (pre : List ExceptionTableEntry) (x : ExceptionTableEntry) (suf : List ExceptionTableEntry) (hsplit : c.exceptionTable.toList = pre ++ x :: suf)
    (hpass : ∀ z ∈ pre, covers z pc = false ∨ (z.catchType ≠ 0 ∧ ∃ nm : String, (Cond.classLink own z.catchType nm).before args s = true ∧ va_Nc E nm s)) (hx : covers x pc = true) (h0 : x.catchType ≠ 0)
    (hlink : (Cond.classLink own x.catchType name).before args s = true) (hcast : (Cond.castable E name).before args s = true) (hcell : H[q]? = some ce) (hv : ce.vm = .none) (hcl : s.vm.findClass E = some ce.cls)
    (kk : W p l e R s m args below meth c H locs cells slots Q (F0 m x.handlerPc ls [.ref q])) : vx_W p l e R s m args below meth c H locs cells slots Q (F0 m pc ls rest) q := by
  intro T hT X
  have hpl : e.platform.magicAccessors = ({} : Platform).magicAccessors := by rw [X.admits.platform]
  obtain ⟨c3, c4, hc3, hc4, hasg⟩ := Cond.castable_spec hcast
  cases Option.some.inj (hc3.symm.trans hcl)
  obtain ⟨c5, hc5, hcl5⟩ := Cond.classLink_spec hown hlink e.platform hpl
  cases Option.some.inj (hc4.symm.trans hc5)
  obtain ⟨vm', X', st⟩ := X.thenCaughtThrough q (g := F0 m pc ls rest) rfl (Steps.refl _) (by rw [hT]; exact hcell) (by rw [hv]; rfl) (by obtain ⟨k9, h9, -⟩ := Vm.findClass_spec hcl; exact ⟨k9, h9⟩) pre x suf hsplit
    (fun z hz => by
      rcases hpass z hz with h | ⟨hz0, nm, hl1, hn1⟩
      · exact Or.inl h
      · obtain ⟨c6, hc6, hcl6⟩ := Cond.classLink_spec hown hl1 e.platform hpl
        obtain ⟨a8, b8, h1, h2, h3⟩ := hn1
        cases Option.some.inj (h1.symm.trans hcl)
        cases Option.some.inj (h2.symm.trans hc6)
        exact Or.inr ⟨hz0, _, hcl6, h3⟩) hx (Or.inr ⟨h0, c4, hcl5, hasg⟩)
  obtain ⟨t, a1, b1⟩ := kk (T.setVm vm') hT X'
  exact ⟨t, st.trans a1, b1⟩
end Rows
section Ends
variable {p : Program} {l : Launch} {e : Env} {R : Room} {s : State} {m : MethodId} {args : Array Value} {below : List Frame} {meth : Method} {c : Code} {H : Heap} {locs : List Loc} {cells slots : Nat} {Q : State → Prop}
variable {mc ms : Nat} {free : Addr → Prop} {A0 A1 : Nat → Prop} {H0 : Heap} {a : Array Value} {ls : Array Slot} {st0 rest : List Value}
variable {Qc : Array Value → State → Outcome → State → Prop} {XC : String → State → State → Prop}
/-- what a body that may throw owes at its end -/
def vx_MQ (below : List Frame) (Qc : Array Value → State → Outcome → State → Prop) (XC : String → State → State → Prop) (a : Array Value) (s : State) (mc ms : Nat) (free : Addr → Prop) : State → Prop := fun t =>
  ∃ o, t.status = .running ∧ Ended t below o ∧ vx_Q Qc XC mc ms free a s o t
theorem vx_ret {g : JFrame} {mc ms : Nat} (k : W p l e R s m args below meth c H locs cells slots (MQ below Qc args s mc ms free) g) : W p l e R s m args below meth c H locs cells slots (vx_MQ below Qc XC args s mc ms free) g := by
  intro T hT X
  obtain ⟨t, a1, o, b1, b2, b3, b4⟩ := k T hT X
  exact ⟨t, a1, o, b1, b2, Or.inl ⟨b3, b4⟩⟩
/-- not caught here: it goes on to the caller -/
theorem vx_widen {g : JFrame} {q : Addr} {k n : Nat} (h1 : cells ≤ k) (h2 : slots ≤ n) (kk : vx_W p l e R s m args below meth c H locs k n Q g q) : vx_W p l e R s m args below meth c H locs cells slots Q g q := fun T hT X => kk T hT (stand_widen X h1 h2)
theorem vx_out {pc : Nat} {E : String} {ce : Cell} {q : Addr} {mc ms : Nat} (hout : ∀ x ∈ c.exceptionTable.toList, covers x pc = false) (hlocks : meth.locks = false) (hcell : H[q]? = some ce) (hv : ce.vm = .none) (hcl : s.vm.findClass E = some ce.cls)
    (hx : ∀ t : State, t.heap = H → s.vm.Alike t.vm → XC E s t) (hf : ∀ z ∈ locs, free z.base) (hc : cells ≤ mc) (hs : slots ≤ ms) :
    vx_W p l e R s m args below meth c H locs cells slots (vx_MQ below Qc XC args s mc ms free) (F0 m pc ls rest) q := by
  intro T hT X
  obtain ⟨st1, hrun, hend, hW, hsm⟩ := X.leaveThrown q (g := F0 m pc ls rest) rfl rfl rfl hout hlocks
  have hcell9 : (T.setFrames (.throwing q :: below)).heap[q]? = some ce := by
    show T.heap[q]? = some ce
    rw [hT]; exact hcell
  exact ⟨_, st1, .threw q, hrun, hend, Or.inr ⟨q, rfl, E, ce, locs, hx _ hT hW.alike, hcell9, hv, hcl, hW, hsm.mono hc hs, hf⟩⟩
theorem vx_frame {U : State} {k n : Nat} (h : s.sameButNew ({ U with vm := s.vm } : State) locs k n) : s.heap.size ≤ U.heap.size ∧ ∀ q : Nat, q < s.heap.size → (∀ z ∈ locs, z.base ≠ q) → U.heap[q]? = s.heap[q]? := by
  obtain ⟨-, h2, -, -, -, h6⟩ := h
  refine ⟨h2, fun q hq hz => ?_⟩
  obtain ⟨c9, e1, e2, e3, e4⟩ := h6 q _ (Array.getElem?_eq_getElem hq)
  have hs : c9.slots = (s.heap[q]).slots := Array.ext_getElem? fun i => e4 i fun hm => hz _ hm rfl
  have h9 : c9 = s.heap[q] := by
    rw [hs] at e2
    exact e2
  have e5 : U.heap[q]? = some c9 := e1
  rw [e5, h9, Array.getElem?_eq_getElem hq]
/-- the words of a throw but the four that speak of the heap -/
def vx_no (w : Cond) : Bool := decide (w ≠ .isRef (.static Bundle.tN "UNASSIGNED_STACK" Bundle.steD)) && decide (w ≠ .isRef (.static Bundle.tN "SUPPRESSED_SENTINEL" Bundle.listD)) && decide (w ≠ .laysStatic Bundle.tN "UNASSIGNED_STACK" Bundle.steD) && decide (w ≠ .laysStatic Bundle.tN "SUPPRESSED_SENTINEL" Bundle.listD)
def vx_at0 (own : String) (ic : Nat) (X : String) (names : List String) : List Cond := (Bundle.ownAtoms0 own ic X names).filter vx_no
def vx_atS (own : String) (ic : Nat) (X : String) (names : List String) : List Cond := (Bundle.ownAtoms own ic X names).filter vx_no
/-- a word that the tables alone decide, or a good one -/
def vx_ot (w : Cond) : Bool := w.onTables || goodWord w
theorem vx_ot_at {args a' : Array Value} {s U : State} {w : Cond} (hW : s.WarmedH U.vm) (hvm : s.vm = U.vm) (hg : vx_ot w = true) (h : w.before args s = true) : w.before a' U = true := by
  simp only [vx_ot, Bool.or_eq_true] at hg
  rcases hg with hg | hg
  · exact va_tabs hg hvm h
  · exact word_at hW (good_of_word hg) h
/-- a list's words: the good ones out of the method's own list, the others by premises of their own -/
theorem vx_hat {args : Array Value} {s : State} {L B : List Cond} (h1 : ∀ w ∈ L.filter goodWord, w.before args s = true) (h2 : ∀ w ∈ L.filter (fun w => !goodWord w), w ∈ B) (h3 : ∀ w ∈ B, w.before args s = true) : ∀ w ∈ L, w.before args s = true := by
  intro w hw
  by_cases g : goodWord w = true
  · exact h1 w (List.mem_filter.mpr ⟨hw, g⟩)
  · refine h3 w (h2 w (List.mem_filter.mpr ⟨hw, ?_⟩))
    show (!goodWord w) = true
    cases hgw : goodWord w
    · rfl
    · exact absurd hgw g
theorem vx_c {args : Array Value} {s : State} {w : Cond} {B : List Cond} (h : w.before args s = true) (t : ∀ w ∈ B, w.before args s = true) : ∀ w' ∈ w :: B, w'.before args s = true := fun w' h' => (List.mem_cons.mp h').elim (fun e => by rw [e]; exact h) (t w')
theorem vx_n {args : Array Value} {s : State} : ∀ w ∈ ([] : List Cond), w.before args s = true := fun _ h => nomatch h
theorem vx_own {args : Array Value} {s : State} {L : List Cond} (h1 : ∀ w ∈ L.filter vx_no, w.before args s = true)
    (hU : (Cond.isRef (.static Bundle.tN "UNASSIGNED_STACK" Bundle.steD)).before args s = true) (hN : (Cond.isRef (.static Bundle.tN "SUPPRESSED_SENTINEL" Bundle.listD)).before args s = true)
    (lU : (Cond.laysStatic Bundle.tN "UNASSIGNED_STACK" Bundle.steD).before args s = true) (lN : (Cond.laysStatic Bundle.tN "SUPPRESSED_SENTINEL" Bundle.listD).before args s = true) : ∀ w ∈ L, w.before args s = true := by
  intro w hw
  by_cases e1 : w = .isRef (.static Bundle.tN "UNASSIGNED_STACK" Bundle.steD)
  · rw [e1]; exact hU
  · by_cases e2 : w = .isRef (.static Bundle.tN "SUPPRESSED_SENTINEL" Bundle.listD)
    · rw [e2]; exact hN
    · by_cases e3 : w = .laysStatic Bundle.tN "UNASSIGNED_STACK" Bundle.steD
      · rw [e3]; exact lU
      · by_cases e4 : w = .laysStatic Bundle.tN "SUPPRESSED_SENTINEL" Bundle.listD
        · rw [e4]; exact lN
        · exact h1 w (List.mem_filter.mpr ⟨hw, by unfold vx_no; rw [decide_eq_true e1, decide_eq_true e2, decide_eq_true e3, decide_eq_true e4]; rfl⟩)
/-- where a static field lies, its class's statics cell in H -/
def vx_L (C n d : String) (A : Nat → Prop) (U : State) (H : Heap) : Prop := ∃ (c : ClassId) (k : Class) (i : Nat) (f : Field) (a : Nat) (cell : Cell), U.vm.findClass C = some c ∧ U.fieldFound? C n d = some (c, k, i, f) ∧ f.isStatic = true ∧ k.statics = some a ∧ H[a]? = some cell ∧ cell.vm.isStatics = true ∧ cell.cls = c ∧ f.slot < cell.slots.size ∧ k.staticTypes[f.slot]? = some f.type ∧ ¬ A a
theorem vx_L.moved {C n d : String} {A : Nat → Prop} {u U : State} {H : Heap} (hvm : u.vm.Alike U.vm) (h : vx_L C n d A u H) : vx_L C n d A U H := by
  obtain ⟨c, k, i, f, a, cell, h1, h2, h3, h4, h5, h6, h7, h8, h9, h10⟩ := h
  obtain ⟨k', hi', he⟩ := State.fieldFound?_setVm hvm h2
  exact ⟨c, k', i, f, a, cell, by rw [hvm.findClass]; exact h1, hi', h3, by rw [he]; exact h4, h5, h6, h7, h8, by rw [he]; exact h9, h10⟩
theorem vx_L.kept {C n d : String} {A : Nat → Prop} {U : State} {H H1 : Heap} (h : vx_L C n d A U H) (hq : ∀ a : Nat, a < H.size → ¬ A a → H1[a]? = H[a]?) : vx_L C n d A U H1 := by
  obtain ⟨c, k, i, f, a, cell, h1, h2, h3, h4, h5, h6, h7, h8, h9, h10⟩ := h
  exact ⟨c, k, i, f, a, cell, h1, h2, h3, h4, by rw [hq a (Array.getElem?_eq_some_iff.mp h5).1 h10]; exact h5, h6, h7, h8, h9, h10⟩
theorem vx_L.narrow {C n d : String} {A B : Nat → Prop} {U : State} {H : Heap} (h : vx_L C n d A U H) (hAB : ∀ q, B q → A q) : vx_L C n d B U H := by
  obtain ⟨c, k, i, f, a, cell, h1, h2, h3, h4, h5, h6, h7, h8, h9, h10⟩ := h
  exact ⟨c, k, i, f, a, cell, h1, h2, h3, h4, h5, h6, h7, h8, h9, fun z => h10 (hAB _ z)⟩
theorem vx_L.word {C n d : String} {A : Nat → Prop} {s : State} {args : Array Value} (h : vx_L C n d A s s.heap) : (Cond.laysStatic C n d).before args s = true := by
  obtain ⟨c, k, i, f, a, cell, h1, h2, h3, h4, h5, h6, h7, h8, h9, -⟩ := h
  show (Cond.laysStatic C n d).holds args s none s [] = true
  exact Cond.laysStatic_of h1 h2 h3 h4 h5 h6 h7 h8 h9
/-- .. and what it holds: null or some reference -/
def vx_Zq (C n d : String) (A : Nat → Prop) (U : State) (H : Heap) : Prop := va_Zq C n d A U H ∧ vx_L C n d A U H
theorem vx_Zq.moved {C n d : String} {A : Nat → Prop} {u U : State} {H : Heap} (hvm : u.vm.Alike U.vm) (h : vx_Zq C n d A u H) : vx_Zq C n d A U H := ⟨va_Zq.moved hvm h.1, vx_L.moved hvm h.2⟩
theorem vx_Zq.kept {C n d : String} {A : Nat → Prop} {U : State} {H H1 : Heap} (h : vx_Zq C n d A U H) (hq : ∀ a : Nat, a < H.size → ¬ A a → H1[a]? = H[a]?) : vx_Zq C n d A U H1 := ⟨va_Zq.kept h.1 hq, vx_L.kept h.2 hq⟩
theorem vx_Zq.narrow {C n d : String} {A B : Nat → Prop} {U : State} {H : Heap} (h : vx_Zq C n d A U H) (hAB : ∀ q, B q → A q) : vx_Zq C n d B U H := ⟨va_Zq.narrow h.1 hAB, vx_L.narrow h.2 hAB⟩
theorem vx_Zqof {args : Array Value} {s : State} {C n d : String} {A : Nat → Prop} (hl : (Cond.laysStatic C n d).before args s = true) (hini : (Cond.initialized C).before args s = true) (h : (Cond.isRef (.static C n d)).before args s = true) (hA : ∀ a : Nat, a < s.heap.size → ¬ A a) : vx_Zq C n d A s s.heap := by
  refine ⟨va_Zqof hl hini h hA, ?_⟩
  obtain ⟨c, k, i, f, a, cell, h1, h2, h3, h4, h5, h6, h7, h8, h9⟩ := Cond.laysStatic_spec hl
  exact ⟨c, k, i, f, a, cell, h1, h2, h3, h4, h5, h6, h7, h8, h9, hA a (Array.getElem?_eq_some_iff.mp h5).1⟩
theorem vx_isRef {C n d : String} {v : Value} {A : Nat → Prop} {s : State} {args : Array Value} (h : va_Z C n d v A s s.heap) (hv : v.isRef = true) : (Cond.isRef (.static C n d)).before args s = true := by
  obtain ⟨cf, kf, fi, f, a, cell, h1, h2, h3, h4, h5, h6, h7, -⟩ := h
  have he : (Term.static C n d).eval args s none [] s = some v := by
    simp [Term.eval, State.fieldNamed?, h1, h2, h4, h5, h6, h7]
  simp only [Cond.before, Cond.holds, Cond.value, he]
  cases v <;> simp_all [Value.isRef]
theorem vx_isRefq {C n d : String} {A : Nat → Prop} {s : State} {args : Array Value} (h : va_Zq C n d A s s.heap) : (Cond.isRef (.static C n d)).before args s = true := by
  rcases h with h | ⟨t, h⟩
  · exact vx_isRef h rfl
  · exact vx_isRef h rfl
/-- the same frame, seen from here: as if the method were called anew in this heap -/
theorem vx_rebase {T : State} (X : Stand p l e R s m args below meth c T locs cells slots) {R' : Room} (hf : R'.frames ≤ R.frames) (hl : R'.locals ≤ R.locals) (hc : cells + R'.cells ≤ R.cells) (hs : slots + R'.slots ≤ R.slots) :
    Stand p l e R' ((T.setVm s.vm).setFrames (.invoking m args :: below)) m args below meth c T [] 0 0 := by
  have htop : (T.setVm s.vm).topJava?.isSome := X.here.top
  have hF : ((T.setVm s.vm).setFrames (.invoking m args :: below)).frames = .invoking m args :: below := State.frames_setFrames _ (State.cur_lt_of_top htop)
  obtain ⟨g₀, hg0⟩ := Option.isSome_iff_exists.mp htop
  obtain ⟨r, hr⟩ := State.topJava?_eq_some.mp hg0
  have hl9 : e.platform.stackLimits (T.setVm s.vm).me = e.platform.stackLimits s.me := X.limits
  have hb9 : (T.setVm s.vm).me.stackBytes = s.me.stackBytes := X.bytes
  refine ⟨X.admits, X.cas, X.clock, hF, ?_, X.hears, X.method, X.code, X.here, X.tail, X.warmed, ?_, ?_, ?_⟩
  · have h := X.room
    have hU : ((T.setVm s.vm).setFrames (.invoking m args :: below)).localsInUse = s.localsInUse := by
      rw [State.localsInUse_invoking hF (meth := meth) (c := c) X.method X.code, State.localsInUse_invoking X.frames X.method X.code]
    simp only [State.hasRoom, Bool.and_eq_true, decide_eq_true_eq] at h ⊢
    obtain ⟨⟨⟨⟨h1, h2, h3, h4, h5, h6⟩, h7⟩, h8⟩, h9⟩ := h
    rw [X.frames, List.length_cons] at h2 h3
    have q1 := X.heapSize
    have q2 := X.used
    simp only [hF, hU, List.length_cons, State.stackLimits_setFrames, State.stackBytes_setFrames, hl9, hb9]
    refine ⟨⟨⟨⟨by omega, by omega, by omega, by omega, by omega, h6⟩, ?_⟩, ?_⟩, X.book⟩
    · show T.heap.size + R'.cells ≤ e.platform.maxCells
      omega
    · show T.slotsUsed + R'.slots ≤ e.platform.maxSlots
      omega
  · rw [State.stackLimits_setFrames]; rfl
  · rw [State.stackBytes_setFrames]; rfl
  · refine ⟨?_, Nat.le_refl _, Nat.le_refl _, ?_, ?_, fun a c9 h9 => ⟨c9, h9, rfl, rfl, fun _ _ => rfl⟩⟩
    · obtain ⟨t, ht, -⟩ := State.frames_cons hr
      show T.setVm s.vm = { ((T.setVm s.vm).setFrames (.invoking m args :: below)).setFrames (T.setVm s.vm).frames with heap := T.heap, slotsUsed := T.slotsUsed }
      rw [State.setFrames_setFrames, State.setFrames_self ht]
      rfl
    · show T.slotsUsed = T.slotsUsed + ((T.heap.toList.drop T.heap.size).map (·.slots.size)).sum
      rw [List.drop_eq_nil_of_le (Nat.le_of_eq Array.length_toList)]
      rfl
    · show ((T.heap.toList.drop T.heap.size).map (·.slots.size)).sum ≤ 0
      rw [List.drop_eq_nil_of_le (Nat.le_of_eq Array.length_toList)]
      exact Nat.le_refl _
/-- 'throw new E()': new; dup; invokespecial; athrow -/
theorem vx_throw0 {cc : ByteArray} {pc : Nat} (hexec : p.tables.exec = Jvm.exec) (hb : c.code = cc) (hl : l.stackTraces = false) {own cls : String} {names : List String} {ik ic mc ms : Nat} {A : Nat → Prop}
    (hown : s.vm.findClass own = some m.cls) (hcls : Bundle.fit cls = true) (hnames : ∀ n ∈ names, Bundle.fit n = true)
    (hk : (Cond.classLink own ik cls).before args s = true) (hini : (Cond.initialized cls).before args s = true) (hat : ∀ w ∈ vx_at0 own ic cls names, w.before args s = true)
    (hgood : ∀ w ∈ Cond.classLink own ik cls :: Cond.initialized cls :: vx_at0 own ic cls names, vx_ot w = true)
    (hU : vx_Zq Bundle.tN "UNASSIGNED_STACK" Bundle.steD A s s.heap) (hN : vx_Zq Bundle.tN "SUPPRESSED_SENTINEL" Bundle.listD A s s.heap) (hS : va_S A s.heap H locs) (hsize : ls.size = c.maxLocals)
    (d0 : decode cc pc = .ok (.new ik, 3)) (d3 : decode cc (pc + 3) = .ok (.dup, 1)) (d4 : decode cc (pc + 4) = .ok (.invokespecial ic, 3)) (d7 : decode cc (pc + 7) = .ok (.athrow, 1))
    (hout : ∀ x ∈ c.exceptionTable.toList, covers x (pc + 7) = false)
    (hRframes : names.length + 3 < R.frames) (hRlocals : (rest.map fun v => v.category).sum + (13 * (names.length + 1) + 42) ≤ R.locals) (hRcells : cells + 1 ≤ R.cells) (hRslots : slots + 6 ≤ R.slots) (hlocks : meth.locks = false)
    (hx : ∀ t : State, s.vm.Alike t.vm → H.size ≤ t.heap.size → (∀ q : Nat, q < H.size → t.heap[q]? = H[q]?) → XC cls s t)
    (hf : ∀ z ∈ locs, free z.base) (hc : cells + 1 ≤ mc) (hs : slots + 6 ≤ ms) :
    W p l e R s m args below meth c H locs cells slots (vx_MQ below Qc XC args s mc ms free) (F0 m pc ls rest) := by
  intro T hT X
  have htr : e.platform.stackTraces = false := (show e.platform.stackTraces = l.stackTraces by rw [X.admits.platform]).trans hl
  have Y := vx_rebase X (R' := { frames := R.frames, locals := R.locals, cells := 1, slots := 6 }) (Nat.le_refl _) (Nat.le_refl _) hRcells hRslots
  obtain ⟨s', hA⟩ : ∃ z, z = (T.setVm s.vm).setFrames (.invoking m args :: below) := ⟨_, rfl⟩
  rw [← hA] at Y
  have hvm : s'.vm = s.vm := by rw [hA]; rfl
  have hhp : s'.heap = H := by rw [hA]; exact hT
  have hW0 : s.WarmedH s'.vm := by rw [hvm]; exact State.WarmedH.refl s
  have hat' : ∀ w ∈ vx_at0 own ic cls names, w.before args s' = true := fun w hw => vx_ot_at hW0 hvm.symm (hgood w (List.mem_cons_of_mem _ (List.mem_cons_of_mem _ hw))) (hat w hw)
  have hk' : (Cond.classLink own ik cls).before args s' = true := vx_ot_at hW0 hvm.symm (hgood _ List.mem_cons_self) hk
  have hini' : (Cond.initialized cls).before args s' = true := vx_ot_at hW0 hvm.symm (hgood _ (List.mem_cons_of_mem _ List.mem_cons_self)) hini
  have hU' : vx_Zq Bundle.tN "UNASSIGNED_STACK" Bundle.steD A s' s'.heap := by rw [hhp]; exact vx_Zq.moved hW0.alike (hU.kept hS.2.1)
  have hN' : vx_Zq Bundle.tN "SUPPRESSED_SENTINEL" Bundle.listD A s' s'.heap := by rw [hhp]; exact vx_Zq.moved hW0.alike (hN.kept hS.2.1)
  have h : ∀ w ∈ Bundle.ownAtoms0 own ic cls names, w.before args s' = true := vx_own hat' (vx_isRefq hU'.1) (vx_isRefq hN'.1) hU'.2.word hN'.2.word
  have hown' : s'.vm.findClass own = some m.cls := by rw [hvm]; exact hown
  have hins : (Cond.instantiable cls 6).before args s' = true := h _ (by simp [Bundle.ownAtoms0])
  obtain ⟨vm₁, cX, kX, hfX, hkX, -, -, X₁, st1⟩ := Y.newCold hexec (own := own) (C := cls) (index := ik) (n := 6) hown' hk' hins hini'
    (g := F0 m pc ls rest) rfl (by rw [hb]; exact d0) (Nat.le_refl _) (Nat.le_refl _)
  generalize hT1 : (T.setVm vm₁).pushCell { cls := cX, slots := kX.instanceTypes.map defaultValue, vm := .none } = T1 at X₁ st1
  have hcat : (Value.ref T.heap.size).category = 1 := rfl
  have hcellA : T1.heap[T.heap.size]? = some (freshCell cX kX) := by rw [← hT1]; exact State.heap_pushCell_size _ _
  have d3' : decode c.code (pc + 3) = .ok (.dup, 1) := by rw [hb]; exact d3
  obtain ⟨U, hsteps, hrun, hend, hW, hsame, ce, hce, hO⟩ := X₁.ctorThrow0 hexec htr (own := own) (cls := cls) (names := names) (ic := ic) hown' hcls hnames h (fun x hx => nomatch hx) hfX hkX hcellA (by rw [hhp, hT]; exact Nat.le_refl _)
    (g := { method := m, pc := pc + 4, locals := ls, stack := .ref T.heap.size :: .ref T.heap.size :: rest, locked := none }) rfl hsize rfl rfl (rest := rest) rfl
    (by rw [hb]; exact d4) (by rw [hb]; exact d7) hout hRframes (by simp only [List.map_cons, List.sum_cons, hcat]; omega) hlocks
  obtain ⟨f1, f2⟩ := vx_frame hsame
  rw [hhp] at f1 f2
  have hWs : s.WarmedH U.vm := State.WarmedH.trans hW0 hW
  have hcl : s.vm.findClass cls = some ce.cls := by
    have h9 := hO.cls
    rw [hvm] at h9
    exact h9
  have hall : s.sameButNew ({ U with vm := s.vm } : State) locs mc ms := by
    subst hA
    obtain ⟨e1, e2⟩ := hsame
    rw [State.setFrames_setFrames] at e1
    have h2 : (T.setVm s.vm).sameButNew ({ U with vm := s.vm } : State) [] (0 + 1) (0 + 6) := ⟨e1, e2⟩
    have h3 := X.same.trans h2
    rw [List.append_nil] at h3
    exact h3.mono hc hs
  refine ⟨U, ?_, .threw T.heap.size, hrun, hend, Or.inr ⟨T.heap.size, rfl, cls, ce, locs, hx U hWs.alike f1 (fun q hq => f2 q hq (fun z hz => nomatch hz)), hce, hO.vm, hcl, hWs, hall, hf⟩⟩
  refine st1 _ ?_
  show Steps p.tables e below (T1.setTop { method := m, pc := pc + 3, locals := ls, stack := .ref T.heap.size :: rest, locked := none }) _
  jvm_step X₁.here [X₁.here.top, hexec, d3', Value.category]
  exact hsteps
/-- 'throw new E("text")': new; dup; ldc; invokespecial; athrow -/
theorem vx_throwS {cc : ByteArray} {pc : Nat} (hexec : p.tables.exec = Jvm.exec) (hb : c.code = cc) (hl : l.stackTraces = false) {own cls text : String} {names : List String} {ik is ic mc ms sa : Nat} {A : Nat → Prop}
    (hown : s.vm.findClass own = some m.cls) (hcls : Bundle.fit cls = true) (hnames : ∀ n ∈ names, Bundle.fit n = true)
    (hk : (Cond.classLink own ik cls).before args s = true) (hini : (Cond.initialized cls).before args s = true) (hstr : vk_R own is text sa s) (hat : ∀ w ∈ vx_atS own ic cls names, w.before args s = true)
    (hgood : ∀ w ∈ Cond.classLink own ik cls :: Cond.initialized cls :: vx_atS own ic cls names, vx_ot w = true)
    (hU : vx_Zq Bundle.tN "UNASSIGNED_STACK" Bundle.steD A s s.heap) (hN : vx_Zq Bundle.tN "SUPPRESSED_SENTINEL" Bundle.listD A s s.heap) (hS : va_S A s.heap H locs) (hsize : ls.size = c.maxLocals)
    (d0 : decode cc pc = .ok (.new ik, 3)) (d3 : decode cc (pc + 3) = .ok (.dup, 1)) (d4 : decode cc (pc + 4) = .ok (.ldc is, 2)) (d6 : decode cc (pc + 6) = .ok (.invokespecial ic, 3)) (d9 : decode cc (pc + 9) = .ok (.athrow, 1))
    (hout : ∀ x ∈ c.exceptionTable.toList, covers x (pc + 9) = false)
    (hRframes : names.length + 3 < R.frames) (hRlocals : (rest.map fun v => v.category).sum + (13 * (names.length + 1) + 43) ≤ R.locals) (hRcells : cells + 1 ≤ R.cells) (hRslots : slots + 6 ≤ R.slots) (hlocks : meth.locks = false)
    (hx : ∀ t : State, s.vm.Alike t.vm → H.size ≤ t.heap.size → (∀ q : Nat, q < H.size → t.heap[q]? = H[q]?) → XC cls s t)
    (hf : ∀ z ∈ locs, free z.base) (hc : cells + 1 ≤ mc) (hs : slots + 6 ≤ ms) :
    W p l e R s m args below meth c H locs cells slots (vx_MQ below Qc XC args s mc ms free) (F0 m pc ls rest) := by
  intro T hT X
  have htr : e.platform.stackTraces = false := (show e.platform.stackTraces = l.stackTraces by rw [X.admits.platform]).trans hl
  have Y := vx_rebase X (R' := { frames := R.frames, locals := R.locals, cells := 1, slots := 6 }) (Nat.le_refl _) (Nat.le_refl _) hRcells hRslots
  obtain ⟨s', hA⟩ : ∃ z, z = (T.setVm s.vm).setFrames (.invoking m args :: below) := ⟨_, rfl⟩
  rw [← hA] at Y
  have hvm : s'.vm = s.vm := by rw [hA]; rfl
  have hhp : s'.heap = H := by rw [hA]; exact hT
  have hW0 : s.WarmedH s'.vm := by rw [hvm]; exact State.WarmedH.refl s
  have hat' : ∀ w ∈ vx_atS own ic cls names, w.before args s' = true := fun w hw => vx_ot_at hW0 hvm.symm (hgood w (List.mem_cons_of_mem _ (List.mem_cons_of_mem _ hw))) (hat w hw)
  have hk' : (Cond.classLink own ik cls).before args s' = true := vx_ot_at hW0 hvm.symm (hgood _ List.mem_cons_self) hk
  have hini' : (Cond.initialized cls).before args s' = true := vx_ot_at hW0 hvm.symm (hgood _ (List.mem_cons_of_mem _ List.mem_cons_self)) hini
  have hU' : vx_Zq Bundle.tN "UNASSIGNED_STACK" Bundle.steD A s' s'.heap := by rw [hhp]; exact vx_Zq.moved hW0.alike (hU.kept hS.2.1)
  have hN' : vx_Zq Bundle.tN "SUPPRESSED_SENTINEL" Bundle.listD A s' s'.heap := by rw [hhp]; exact vx_Zq.moved hW0.alike (hN.kept hS.2.1)
  have h : ∀ w ∈ Bundle.ownAtoms own ic cls names, w.before args s' = true := vx_own hat' (vx_isRefq hU'.1) (vx_isRefq hN'.1) hU'.2.word hN'.2.word
  have hown' : s'.vm.findClass own = some m.cls := by rw [hvm]; exact hown
  have hins : (Cond.instantiable cls 6).before args s' = true := h _ (by simp [Bundle.ownAtoms])
  obtain ⟨vm₁, cX, kX, hfX, hkX, -, -, X₁, st1⟩ := Y.newCold hexec (own := own) (C := cls) (index := ik) (n := 6) hown' hk' hins hini'
    (g := F0 m pc ls rest) rfl (by rw [hb]; exact d0) (Nat.le_refl _) (Nat.le_refl _)
  generalize hT1 : (T.setVm vm₁).pushCell { cls := cX, slots := kX.instanceTypes.map defaultValue, vm := .none } = T1 at X₁ st1
  have hcat : (Value.ref T.heap.size).category = 1 := rfl
  have hcellA : T1.heap[T.heap.size]? = some (freshCell cX kX) := by rw [← hT1]; exact State.heap_pushCell_size _ _
  have d3' : decode c.code (pc + 3) = .ok (.dup, 1) := by rw [hb]; exact d3
  have d4' : decode c.code (pc + 4) = .ok (.ldc is, 2) := by rw [hb]; exact d4
  have hstr' : vk_R own is text sa s' := vk_R.warm hW0 hstr
  obtain ⟨U, hsteps, hrun, hend, hW, hsame, ce, hce, hO⟩ := X₁.ctorThrowS hexec htr (own := own) (cls := cls) (names := names) (ic := ic) hown' hcls hnames h (fun x hx => nomatch hx) hfX hkX hcellA (by rw [hhp, hT]; exact Nat.le_refl _) (msg := .ref sa) rfl
    (g := { method := m, pc := pc + 6, locals := ls, stack := .ref sa :: .ref T.heap.size :: .ref T.heap.size :: rest, locked := none }) rfl hsize rfl rfl (rest := rest) rfl
    (by rw [hb]; exact d6) (by rw [hb]; exact d9) hout hRframes (by simp only [List.map_cons, List.sum_cons, hcat]; omega) hlocks
  obtain ⟨f1, f2⟩ := vx_frame hsame
  rw [hhp] at f1 f2
  have hWs : s.WarmedH U.vm := State.WarmedH.trans hW0 hW
  have hcl : s.vm.findClass cls = some ce.cls := by
    have h9 := hO.cls
    rw [hvm] at h9
    exact h9
  have hall : s.sameButNew ({ U with vm := s.vm } : State) locs mc ms := by
    subst hA
    obtain ⟨e1, e2⟩ := hsame
    rw [State.setFrames_setFrames] at e1
    have h2 : (T.setVm s.vm).sameButNew ({ U with vm := s.vm } : State) [] (0 + 1) (0 + 6) := ⟨e1, e2⟩
    have h3 := X.same.trans h2
    rw [List.append_nil] at h3
    exact h3.mono hc hs
  refine ⟨U, ?_, .threw T.heap.size, hrun, hend, Or.inr ⟨T.heap.size, rfl, cls, ce, locs, hx U hWs.alike f1 (fun q hq => f2 q hq (fun z hz => nomatch hz)), hce, hO.vm, hcl, hWs, hall, hf⟩⟩
  refine st1 _ ?_
  show Steps p.tables e below (T1.setTop { method := m, pc := pc + 3, locals := ls, stack := .ref T.heap.size :: rest, locked := none }) _
  jvm_step X₁.here [X₁.here.top, hexec, d3', Value.category]
  exact X₁.ldcString hexec (own := own) (text := text) (index := is) (a := sa) hown' hstr'.1 hstr'.2
    (g := { method := m, pc := pc + 4, locals := ls, stack := .ref T.heap.size :: .ref T.heap.size :: rest, locked := none }) rfl d4' _ hsteps
/-- 'throw new E("text")', the text by a wide index -/
theorem vx_throwSW {cc : ByteArray} {pc : Nat} (hexec : p.tables.exec = Jvm.exec) (hb : c.code = cc) (hl : l.stackTraces = false) {own cls text : String} {names : List String} {ik is ic mc ms sa : Nat} {A : Nat → Prop}
    (hown : s.vm.findClass own = some m.cls) (hcls : Bundle.fit cls = true) (hnames : ∀ n ∈ names, Bundle.fit n = true)
    (hk : (Cond.classLink own ik cls).before args s = true) (hini : (Cond.initialized cls).before args s = true) (hstr : vk_R own is text sa s) (hat : ∀ w ∈ vx_atS own ic cls names, w.before args s = true)
    (hgood : ∀ w ∈ Cond.classLink own ik cls :: Cond.initialized cls :: vx_atS own ic cls names, vx_ot w = true)
    (hU : vx_Zq Bundle.tN "UNASSIGNED_STACK" Bundle.steD A s s.heap) (hN : vx_Zq Bundle.tN "SUPPRESSED_SENTINEL" Bundle.listD A s s.heap) (hS : va_S A s.heap H locs) (hsize : ls.size = c.maxLocals)
    (d0 : decode cc pc = .ok (.new ik, 3)) (d3 : decode cc (pc + 3) = .ok (.dup, 1)) (d4 : decode cc (pc + 4) = .ok (.ldc_w is, 3)) (d7 : decode cc (pc + 7) = .ok (.invokespecial ic, 3)) (d10 : decode cc (pc + 10) = .ok (.athrow, 1))
    (hout : ∀ x ∈ c.exceptionTable.toList, covers x (pc + 10) = false)
    (hRframes : names.length + 3 < R.frames) (hRlocals : (rest.map fun v => v.category).sum + (13 * (names.length + 1) + 43) ≤ R.locals) (hRcells : cells + 1 ≤ R.cells) (hRslots : slots + 6 ≤ R.slots) (hlocks : meth.locks = false)
    (hx : ∀ t : State, s.vm.Alike t.vm → H.size ≤ t.heap.size → (∀ q : Nat, q < H.size → t.heap[q]? = H[q]?) → XC cls s t)
    (hf : ∀ z ∈ locs, free z.base) (hc : cells + 1 ≤ mc) (hs : slots + 6 ≤ ms) :
    W p l e R s m args below meth c H locs cells slots (vx_MQ below Qc XC args s mc ms free) (F0 m pc ls rest) := by
  intro T hT X
  have htr : e.platform.stackTraces = false := (show e.platform.stackTraces = l.stackTraces by rw [X.admits.platform]).trans hl
  have Y := vx_rebase X (R' := { frames := R.frames, locals := R.locals, cells := 1, slots := 6 }) (Nat.le_refl _) (Nat.le_refl _) hRcells hRslots
  obtain ⟨s', hA⟩ : ∃ z, z = (T.setVm s.vm).setFrames (.invoking m args :: below) := ⟨_, rfl⟩
  rw [← hA] at Y
  have hvm : s'.vm = s.vm := by rw [hA]; rfl
  have hhp : s'.heap = H := by rw [hA]; exact hT
  have hW0 : s.WarmedH s'.vm := by rw [hvm]; exact State.WarmedH.refl s
  have hat' : ∀ w ∈ vx_atS own ic cls names, w.before args s' = true := fun w hw => vx_ot_at hW0 hvm.symm (hgood w (List.mem_cons_of_mem _ (List.mem_cons_of_mem _ hw))) (hat w hw)
  have hk' : (Cond.classLink own ik cls).before args s' = true := vx_ot_at hW0 hvm.symm (hgood _ List.mem_cons_self) hk
  have hini' : (Cond.initialized cls).before args s' = true := vx_ot_at hW0 hvm.symm (hgood _ (List.mem_cons_of_mem _ List.mem_cons_self)) hini
  have hU' : vx_Zq Bundle.tN "UNASSIGNED_STACK" Bundle.steD A s' s'.heap := by rw [hhp]; exact vx_Zq.moved hW0.alike (hU.kept hS.2.1)
  have hN' : vx_Zq Bundle.tN "SUPPRESSED_SENTINEL" Bundle.listD A s' s'.heap := by rw [hhp]; exact vx_Zq.moved hW0.alike (hN.kept hS.2.1)
  have h : ∀ w ∈ Bundle.ownAtoms own ic cls names, w.before args s' = true := vx_own hat' (vx_isRefq hU'.1) (vx_isRefq hN'.1) hU'.2.word hN'.2.word
  have hown' : s'.vm.findClass own = some m.cls := by rw [hvm]; exact hown
  have hins : (Cond.instantiable cls 6).before args s' = true := h _ (by simp [Bundle.ownAtoms])
  obtain ⟨vm₁, cX, kX, hfX, hkX, -, -, X₁, st1⟩ := Y.newCold hexec (own := own) (C := cls) (index := ik) (n := 6) hown' hk' hins hini'
    (g := F0 m pc ls rest) rfl (by rw [hb]; exact d0) (Nat.le_refl _) (Nat.le_refl _)
  generalize hT1 : (T.setVm vm₁).pushCell { cls := cX, slots := kX.instanceTypes.map defaultValue, vm := .none } = T1 at X₁ st1
  have hcat : (Value.ref T.heap.size).category = 1 := rfl
  have hcellA : T1.heap[T.heap.size]? = some (freshCell cX kX) := by rw [← hT1]; exact State.heap_pushCell_size _ _
  have d3' : decode c.code (pc + 3) = .ok (.dup, 1) := by rw [hb]; exact d3
  have d4' : decode c.code (pc + 4) = .ok (.ldc_w is, 3) := by rw [hb]; exact d4
  have hstr' : vk_R own is text sa s' := vk_R.warm hW0 hstr
  obtain ⟨U, hsteps, hrun, hend, hW, hsame, ce, hce, hO⟩ := X₁.ctorThrowS hexec htr (own := own) (cls := cls) (names := names) (ic := ic) hown' hcls hnames h (fun x hx => nomatch hx) hfX hkX hcellA (by rw [hhp, hT]; exact Nat.le_refl _) (msg := .ref sa) rfl
    (g := { method := m, pc := pc + 7, locals := ls, stack := .ref sa :: .ref T.heap.size :: .ref T.heap.size :: rest, locked := none }) rfl hsize rfl rfl (rest := rest) rfl
    (by rw [hb]; exact d7) (by rw [hb]; exact d10) hout hRframes (by simp only [List.map_cons, List.sum_cons, hcat]; omega) hlocks
  obtain ⟨f1, f2⟩ := vx_frame hsame
  rw [hhp] at f1 f2
  have hWs : s.WarmedH U.vm := State.WarmedH.trans hW0 hW
  have hcl : s.vm.findClass cls = some ce.cls := by
    have h9 := hO.cls
    rw [hvm] at h9
    exact h9
  have hall : s.sameButNew ({ U with vm := s.vm } : State) locs mc ms := by
    subst hA
    obtain ⟨e1, e2⟩ := hsame
    rw [State.setFrames_setFrames] at e1
    have h2 : (T.setVm s.vm).sameButNew ({ U with vm := s.vm } : State) [] (0 + 1) (0 + 6) := ⟨e1, e2⟩
    have h3 := X.same.trans h2
    rw [List.append_nil] at h3
    exact h3.mono hc hs
  refine ⟨U, ?_, .threw T.heap.size, hrun, hend, Or.inr ⟨T.heap.size, rfl, cls, ce, locs, hx U hWs.alike f1 (fun q hq => f2 q hq (fun z hz => nomatch hz)), hce, hO.vm, hcl, hWs, hall, hf⟩⟩
  refine st1 _ ?_
  show Steps p.tables e below (T1.setTop { method := m, pc := pc + 3, locals := ls, stack := .ref T.heap.size :: rest, locked := none }) _
  jvm_step X₁.here [X₁.here.top, hexec, d3', Value.category]
  exact X₁.ldcStringW hexec (own := own) (text := text) (index := is) (a := sa) hown' hstr'.1 hstr'.2
    (g := { method := m, pc := pc + 4, locals := ls, stack := .ref T.heap.size :: .ref T.heap.size :: rest, locked := none }) rfl d4' _ hsteps
end Ends
section Bodies
variable {l : Launch}
theorem vx_ofW {y : MethodName} {ws ws' : List Cond} {rm : Room} {Pc : Array Value → State → Prop} {Qc : Array Value → State → Outcome → State → Prop} {XC : String → State → State → Prop} {mc ms : Nat} {free : Addr → Prop} {cc : ByteArray} {maxL : Nat} {ret : Option FieldType}
    (hy : plainName y.cls = true) (hw : ws = Cond.code y cc maxL ret :: ws')
    (body : ∀ p e s m args below meth c s₁, BodyLoose p l y (headSpec ws rm) cc maxL ret e s m args below meth c s₁ → c.maxLocals = maxL → (∀ x ∈ c.exceptionTable.toList, False) → Pc args s →
      W p l e (headSpec ws rm).room s m args below meth c s.heap [] 0 0 (vx_MQ below Qc XC args s mc ms free) (entryFrame m args maxL)) : vx_Met l y ws rm Pc Qc XC mc ms free := by
  refine MetFree.of_bodyS (code := cc) (maxLocals := maxL) (ret := ret) hy ?_ ?_
  · intro args s m h hn
    obtain ⟨meth, c, h1, h2, h3, h4, h5, h6, -, -⟩ := Cond.code_spec hn (atoms_spec (ws := ws) h _ (by rw [hw]; exact List.mem_cons_self))
    exact ⟨meth, c, h1, h2, h3, h4, h5, h6⟩
  · intro p e s m args below meth c s₁ B hml hP _
    have hh0 : s₁.heap = s.heap := by rw [B.state]; rfl
    have ht : ∀ x ∈ c.exceptionTable.toList, False := by
      obtain ⟨meth9, c9, h1, h2, -, -, -, -, h7, -⟩ := Cond.code_spec B.named (atoms_spec (ws := ws) B.pre _ (by rw [hw]; exact List.mem_cons_self))
      cases Option.some.inj (h1.symm.trans B.method)
      cases Option.some.inj (h2.symm.trans (Stand.of_body B).code)
      intro x hx
      rw [Array.isEmpty_iff.mp h7] at hx
      cases hx
    obtain ⟨t, a1, o, b1, b2, b3⟩ := body p e s m args below meth c s₁ B hml ht hP s₁ hh0 (Stand.of_body B)
    exact ⟨t, o, a1, b1, b2, b3⟩
/-- the table of a body with handlers -/
theorem vx_table {p : Program} {x y : MethodName} {S : Spec} {cc bytes : ByteArray} {maxL maxL' : Nat} {ret ret' : Option FieldType} {e : Env} {s s₁ : State} {m : MethodId} {args : Array Value} {below : List Frame} {meth : Method} {c : Code} {hh : List (Nat × Nat × Nat × Nat)}
    (B : BodyLoose p l y S cc maxL ret e s m args below meth c s₁) (h : (Cond.codeWith y bytes maxL' ret' hh).before args s = true) : c.exceptionTable.toList = tableOf hh := by
  obtain ⟨m9, meth9, c9, hn9, h1, h2, -, -, h6, -⟩ := Cond.codeWith_spec h
  cases Option.some.inj (hn9.symm.trans B.named)
  cases Option.some.inj (h1.symm.trans B.method)
  cases Option.some.inj (h2.symm.trans (Stand.of_body B).code)
  rw [← h6, table_eq]
end Bodies
end VXA
/-! ===== END ===== -/
/-! ===== BEGIN a static call of a method with an exception table ===== -/
section VXS
variable {p : Program} {l : Launch} {e : Env} {R : Room} {s : State} {m : MethodId} {args : Array Value} {below : List Frame} {meth : Method} {c : Code} {T : State} {H : Heap} {locs : List Loc} {cells slots : Nat}
abbrev vx_CSW (R : Room) (s : State) (args : Array Value) (own : String) (index : Nat) (y : MethodName) (bytes : ByteArray) (maxL : Nat) (ret : Option FieldType) (hh : List (Nat × Nat × Nat × Nat)) (ws : List Cond) (rm : Room) (mc ms n : Nat) : Prop :=
  (rm.cells = mc ∧ rm.slots = ms ∧ rm.frames + 1 ≤ R.frames ∧ 8 + (maxL + 11) + rm.locals ≤ R.locals ∧ (∀ w ∈ ws, ∀ (a' : Array Value) (U : State), s.WarmedH U.vm → w.before a' U = true) ∧ Cond.codeWith y bytes maxL ret hh ∈ ws) ∧
  (Cond.codeWith y bytes maxL ret hh).before args s = true ∧ (Cond.initialized y.cls).before args s = true ∧ (y.cls ≠ "java/lang/invoke/MethodHandle" ∧ y.cls ≠ "java/lang/invoke/VarHandle") ∧
  (∀ sig, parseMethodDescriptor y.desc = some sig → n = sig.parameters.length) ∧ (Cond.methodLink own index y).before args s = true ∧ (Cond.static y).before args s = true
theorem vx_cwSW {own : String} {index maxL mc ms : Nat} {y : MethodName} {bytes : ByteArray} {ret : Option FieldType} {hh : List (Nat × Nat × Nat × Nat)} {Ts ws ws' : List Cond} {rm : Room} (n : Nat) (ht : ∀ w ∈ Ts, w.before args s = true) (hT : GoodIn Ts (va_wsS own index y ws)) (hw : ws = Cond.codeWith y bytes maxL ret hh :: ws') (hrc : rm.cells = mc) (hrs : rm.slots = ms)
    (hd : y.cls ≠ "java/lang/invoke/MethodHandle" ∧ y.cls ≠ "java/lang/invoke/VarHandle" ∧ (parseMethodDescriptor y.desc).map (fun d => d.parameters.length) = some n) (hR : rm.frames + 1 ≤ R.frames ∧ 8 + (maxL + 11) + rm.locals ≤ R.locals) :
    vx_CSW R s args own index y bytes maxL ret hh ws rm mc ms n := by
  have ok : ∀ w ∈ va_wsS own index y ws, w.before args s = true := fun w h => ht w (hT w h).1
  have hG : GoodIn Ts ws := fun w h => hT w (by unfold va_wsS; exact List.mem_append_right _ h)
  have hc : Cond.codeWith y bytes maxL ret hh ∈ ws := by rw [hw]; exact List.mem_cons_self
  refine ⟨⟨hrc, hrs, hR.1, hR.2, pay_in ht hG, hc⟩, ht _ (hG _ hc).1, ok _ (by simp [va_wsS]), ⟨hd.1, hd.2.1⟩, fun sig h => ?_, ok _ (by simp [va_wsS]), ok _ (by simp [va_wsS])⟩
  have h2 := hd.2.2
  rw [h] at h2
  exact (Option.some.inj h2).symm
theorem vx_callSW (X : Stand p l e R s m args below meth c T locs cells slots) (hexec : p.tables.exec = Jvm.exec) {own : String} {index : Nat} {y : MethodName} {bytes : ByteArray} {maxL : Nat} {ret : Option FieldType} {hh : List (Nat × Nat × Nat × Nat)}
    (hown : s.vm.findClass own = some m.cls) (hlink : (Cond.methodLink own index y).before args s = true) (hstat : (Cond.static y).before args s = true) (hinit : (Cond.initialized y.cls).before args s = true)
    (hcode : (Cond.codeWith y bytes maxL ret hh).before args s = true) (hy : y.cls ≠ "java/lang/invoke/MethodHandle" ∧ y.cls ≠ "java/lang/invoke/VarHandle")
    {W9 : Nat} {Pre : Pt → Array Value → Prop} {Post : Pt → Array Value → Option Value → Pt → Prop} (hK : Back l R p e below s args y 3 W9 Pre Post)
    {g : JFrame} (hg : g.method = m) (hsize : g.locals.size = c.maxLocals) {argsL rest : List Value} (hlen : ∀ sig, parseMethodDescriptor y.desc = some sig → argsL.length = sig.parameters.length)
    (hstack : g.stack = argsL.reverse ++ rest) (hW : 2 * g.monitorRoom + (rest.map fun v => v.category).sum ≤ W9) (hdg : decode c.code g.pc = .ok (.invokestatic index, 3))
    (hpre : ∀ vm₁, s.WarmedH vm₁ → Pre ⟨T.setVm vm₁, locs, cells, slots⟩ argsL.toArray) :
    ∃ (v : Option Value) (vm₁ : Vm) (B : Pt), s.WarmedH vm₁ ∧ Stand p l e R s m args below meth c B.U B.locs B.cells B.slots ∧ Post ⟨T.setVm vm₁, locs, cells, slots⟩ argsL.toArray v B ∧
      ∀ target, Steps p.tables e below (B.U.setTop { g with pc := g.pc + 3, stack := v.toList ++ rest }) target → Steps p.tables e below (T.setTop g) target := by
  obtain ⟨mk, methM, cM, hnamed, hmethM, -, -, -, -, -, -, hsigM⟩ := Cond.codeWith_spec hcode
  have hstatic : methM.isStatic = true := Cond.static_spec hnamed hmethM hstat
  obtain ⟨kP, hkP, -⟩ := className_of_methodNamed hnamed
  have hinitP : kP.init = .initialized := Cond.initialized_spec (findClass_of_methodNamed hnamed) hkP hinit
  obtain ⟨vm₁, X₁, hstep₁⟩ := X.invokestatic hexec hown hlink hnamed hmethM hstatic hkP hinitP hy (g := g) hg (argsL := argsL) (rest := rest) (hlen _ hsigM) hstack hdg
  obtain ⟨v, B, X', hpost, hsteps⟩ := hK m meth c ⟨T.setVm vm₁, locs, cells, slots⟩ { g with stack := rest } (.invokestatic index) mk argsL.toArray X₁ hg hsize hdg hW (X₁.named hnamed) (hpre vm₁ X₁.warmed)
  exact ⟨v, vm₁, B, X₁.warmed, X', hpost, fun target h => hstep₁ _ fun acts => by rw [doInvoke_state]; exact hsteps.trans h⟩
theorem vx_runSW {y : MethodName} {bytes cc : ByteArray} {maxL nL mc ms n index : Nat} {ret : Option FieldType} {hh : List (Nat × Nat × Nat × Nat)} {ws : List Cond} {rm : Room} {Pc : Array Value → State → Prop} {Qc : Array Value → State → Outcome → State → Prop} {free : Addr → Prop} {Ts : List Cond} {own : String} {As rest : List Value} {g : JFrame}
    (S : CallFix p m c cc nL s args Ts own) (hM : Met l y ws rm Pc Qc mc ms free) (cw : vx_CSW R s args own index y bytes maxL ret hh ws rm mc ms n) (hp : PreS s H Pc As)
    (hg : g.method = m) (hn : As.length = n) (hsize : g.locals.size = nL) (hstack : g.stack = As.reverse ++ rest) (hW : 2 * g.monitorRoom + (rest.map fun v => v.category).sum ≤ 8) (hdg : decode cc g.pc = .ok (.invokestatic index, 3)) (hf : cells + mc ≤ R.cells ∧ slots + ms ≤ R.slots) :
    va_Run p l e R s m args below meth c H locs cells slots mc ms g rest (Qc As.toArray) (free) := by
  obtain ⟨⟨hrc, hrs, hfr, hlo, hws, hcw⟩, hcode, hini, hy, hlen, hl, hstt⟩ := cw
  have hK : Back l R p e below s args y 3 8 (PreOf R mc ms Pc) (PostOf Qc mc ms free) := va_backW (hh := hh) (bytes := bytes) (maxL := maxL) (ret := ret) hM hp.1 hrc hrs hfr hlo hws hcw (fun a' U hW => word_at hW (Or.inl (by first | rfl | simp [Cond.onTables, Cond.keeps, Cond.steady])) hini)
  obtain ⟨hx, hb, hml, ho, -⟩ := S
  intro T hT X
  obtain ⟨v, vm₁, ⟨U', l2, c2, s2⟩, hW₁, X', ⟨g', mk, t, L, e1, e2, hq, h1, hL, h2, h3⟩, st⟩ := vx_callSW X hx (hh := hh) (bytes := bytes) (maxL := maxL) (ret := ret) ho hl hstt hini hcode hy hK hg (hsize.trans hml.symm) (argsL := As) (rest := rest) (fun sig h => hn.trans (hlen sig h)) hstack hW (by rw [hb]; exact hdg)
    (fun vm₁ hW₁ => ⟨hf.1, hf.2, hp.2 (T.setVm vm₁) hT hW₁⟩)
  dsimp only [Pt.U, Pt.locs, Pt.cells, Pt.slots] at X' e1 e2 h1 h2 h3 st
  subst h1; subst h2; subst h3
  exact ⟨v, (T.setVm vm₁).calling g' mk As.toArray, t, U', L, hT, X', hL, e1, e2, hq, st⟩
/-- not caught here, past rows that name other classes: it goes on to the caller -/
theorem vx_outP {p : Program} {l : Launch} {e : Env} {R : Room} {s : State} {m : MethodId} {args : Array Value} {below : List Frame} {meth : Method} {c : Code} {H : Heap} {locs : List Loc} {cells slots : Nat} {free : Addr → Prop} {ls : Array Slot} {rest : List Value} {Qc : Array Value → State → Outcome → State → Prop} {XC : String → State → State → Prop}
    {pc : Nat} {own E : String} {ce : Cell} {q : Addr} {mc ms : Nat} (hown : s.vm.findClass own = some m.cls) (hlocks : meth.locks = false)
    (hpass : ∀ z ∈ c.exceptionTable.toList, covers z pc = false ∨ (z.catchType ≠ 0 ∧ ∃ nm : String, (Cond.classLink own z.catchType nm).before args s = true ∧ va_Nc E nm s)) (hcell : H[q]? = some ce) (hv : ce.vm = .none) (hcl : s.vm.findClass E = some ce.cls)
    (hx : ∀ t : State, t.heap = H → s.vm.Alike t.vm → XC E s t) (hf : ∀ z ∈ locs, free z.base) (hc : cells ≤ mc) (hs : slots ≤ ms) :
    vx_W p l e R s m args below meth c H locs cells slots (vx_MQ below Qc XC args s mc ms free) (F0 m pc ls rest) q := by
  intro T hT X
  have hpl : e.platform.magicAccessors = ({} : Platform).magicAccessors := by rw [X.admits.platform]
  obtain ⟨vm', hW', X', st⟩ := X.outThrough hlocks q (g := F0 m pc ls rest) rfl rfl rfl (cell := ce) (by rw [hT]; exact hcell) (by rw [hv]; rfl)
    (by obtain ⟨k9, h9, -⟩ := Vm.findClass_spec hcl; exact ⟨k9, h9⟩) (fun z hz => by
      rcases hpass z hz with h | ⟨hz0, nm, hl1, hn1⟩
      · exact Or.inl h
      · obtain ⟨c6, hc6, hcl6⟩ := Cond.classLink_spec hown hl1 e.platform hpl
        obtain ⟨a8, b8, h1, h2, h3⟩ := hn1
        cases Option.some.inj (h1.symm.trans hcl)
        cases Option.some.inj (h2.symm.trans hc6)
        exact Or.inr ⟨hz0, _, hcl6, h3⟩)
  obtain ⟨g₀, hfr⟩ := X'.frames_eq
  have hcell9 : ((T.setVm vm').setFrames (.throwing q :: below)).heap[q]? = some ce := by
    show T.heap[q]? = some ce
    rw [hT]; exact hcell
  have hend : Ended ((T.setVm vm').setFrames (.throwing q :: below)) below (.threw q) := State.frames_setFrames _ (State.cur_lt_of_frames hfr)
  refine ⟨(T.setVm vm').setFrames (.throwing q :: below), ?_, .threw q, X'.here.running, hend, Or.inr ⟨q, rfl, E, ce, locs, hx _ hT (X'.ends _).1.alike, hcell9, hv, hcl, (X'.ends _).1, (X'.ends _).2.mono hc hs, hf⟩⟩
  rw [X.pushThrowing_eq]
  exact st
/-- a thing of a world lies in the heap -/
theorem vx_lt {D : va_G} {cl : List vw_C} {ws : va_W} {H1 : Heap} (h : va_P D cl ws H1) {k : Nat} {q : Nat × va_E} (hk : ws[k]? = some q) : q.1 < H1.size := (h k q hk).lt
end VXS
/-! ===== END ===== -/
/-! ===== BEGIN methods with a table of their own: called by a name, returning or throwing ===== -/
section VXH
/-! vx_backW, vx_callVX, vx_callSX, vx_callVW, vx_runVW, vx_runVX, vx_runSX, vx_ofWH follow the same proofs as their sisters above (Free/Laws.lean, Shelf42/LK1.lean); vx_outP calls Shelf42/NT130.lean (outThrough). -/
section
variable {l : Launch} {R : Room} {p : Program} {e : Env} {below : List Frame} {s : State} {sargs : Array Value} {y : MethodName} {len W9 : Nat}
theorem vx_backW {ws : List Cond} {rm : Room} {Pc : Array Value → State → Prop} {Qc : Array Value → State → Outcome → State → Prop} {XC : String → State → State → Prop} {mc ms : Nat} {free : Addr → Prop} {bytes : ByteArray} {maxL : Nat} {ret : Option FieldType} {hh : List (Nat × Nat × Nat × Nat)}
    (hM : vx_Met l y ws rm Pc Qc XC mc ms free) (hblind : FrameBlind Pc) (hrc : rm.cells = mc) (hrs : rm.slots = ms)
    (hframes : rm.frames + 1 ≤ R.frames) (hlocals : W9 + (maxL + 11) + rm.locals ≤ R.locals)
    (hws : ∀ w ∈ ws, ∀ a' U, s.WarmedH U.vm → w.before a' U = true) (hcode : Cond.codeWith y bytes maxL ret hh ∈ ws) (hinit : ∀ a' U, s.WarmedH U.vm → (Cond.initialized y.cls).before a' U = true) :
    vx_Back l R p e below s sargs y len W9 (PreOf R mc ms Pc) (PostOf Qc mc ms free) (vx_Post XC mc ms free) := by
  intro m meth c A g ig mk a X hg hsize hdg hW hn hp
  have h1 : (headSpec ws rm).pre.before a A.U = true := atoms_intro fun w hw => hws w hw _ _ X.warmed
  have h2 : (Cond.codeWith y bytes maxL ret hh).before a A.U = true := hws _ hcode _ _ X.warmed
  have h3 : (Cond.initialized y.cls).before a A.U = true := hinit _ _ X.warmed
  have h4 : A.cells + (headSpec ws rm).room.cells ≤ R.cells := by rw [show (headSpec ws rm).room.cells = mc from hrc]; exact hp.1
  have h5 : A.slots + (headSpec ws rm).room.slots ≤ R.slots := by rw [show (headSpec ws rm).room.slots = ms from hrs]; exact hp.2.1
  have hPc : Pc a (A.U.calling g mk a) := hblind _ _ _ _ hp.2.2
  obtain ⟨U, Ls, c0, s0⟩ := A
  dsimp only [Pt.U, Pt.locs, Pt.cells, Pt.slots] at h1 h2 h3 h4 h5 X hn hPc ⊢
  obtain ⟨m9, methY, cY, hn9, hmY, hcY, -, hlY, -⟩ := Cond.codeWith_spec h2
  cases Option.some.inj (hn9.symm.trans hn)
  obtain ⟨kY, hkY, -⟩ := className_of_methodNamed hn
  have hinitY : kY.init = .initialized := Cond.initialized_spec (findClass_of_methodNamed hn) hkY h3
  have h : At U g.method c below := by rw [hg]; exact X.here
  have hlocals9 : W9 + (maxL + 11) + (headSpec ws rm).room.locals ≤ R.locals := hlocals
  have happ : (headSpec ws rm).appliesLoose y e.platform (U.calling g mk a) = true :=
    Spec.appliesLoose_calling (g := g) h hdg hn hkY hinitY
      (X.room_calling (g := g) (R' := (headSpec ws rm).room) hsize hmY hcY hframes (by rw [hlY]; omega) h4 h5) h1
  obtain ⟨mid, hmid⟩ := h.above
  have hfr : (U.setTop g).frames = (.java g :: mid) ++ below := by rw [State.frames_setTop' g h.top, hmid]; rfl
  obtain ⟨o, s₂, hsteps, -, hend, hq⟩ := Steps.callFree hM p X.admits X.cas X.clock (acts := []) hfr happ hPc trivial
  have hq' : vx_Q Qc XC mc ms free a (U.calling g mk a) o s₂ := hq
  rw [State.frames_setTop' g h.top] at hend
  obtain ⟨g₀, hg0⟩ := Option.isSome_iff_exists.mp h.top
  obtain ⟨r, hr⟩ := State.topJava?_eq_some.mp hg0
  have hr' : (({ U with heap := s₂.heap, slotsUsed := s₂.slotsUsed } : State).setVm s₂.vm).frames = .java g₀ :: r := hr
  rcases hq' with ⟨hqc, L, hfe, hL⟩ | ⟨q, rfl, E, ce, L, hx, hce, hcv, hcl, hW₂, hsm, hL⟩
  · obtain ⟨⟨v, rfl⟩, hW₂, e2, q2, q3, q4, q5, q6⟩ := id hfe
    have e3 : s₂ = ({ (U.calling g mk a).setFrames s₂.frames with heap := s₂.heap, slotsUsed := s₂.slotsUsed } : State).setVm s₂.vm := by
      have : s₂ = ({ s₂ with vm := (U.calling g mk a).vm } : State).setVm s₂.vm := rfl
      rw [e2] at this
      exact this
    obtain ⟨c₂, i₂, len₂, hc₂, hd₂, hf₂⟩ := hend
    have hW' : U.WarmedH s₂.vm := hW₂
    have hcc : c₂ = c := by
      have h1 : s₂.code? g.method = U.code? g.method := by
        rw [State.code?_eq, State.code?_eq, hW'.alike.method?]
      exact Option.some.inj (hc₂.symm.trans (h1.trans h.code))
    subst hcc
    have hlen : len₂ = len := by rw [hdg] at hd₂; cases hd₂; rfl
    subst hlen
    have hs₂ : s₂ = (({ U with heap := s₂.heap, slotsUsed := s₂.slotsUsed } : State).setVm s₂.vm).setTop { g with pc := g.pc + len₂, stack := v.toList ++ g.stack } := by
      refine e3.trans ?_
      rw [hf₂, State.calling_eq h.top, State.setFrames_setFrames, State.setTop_of_frames _ hr', hr]
      rfl
    have hsame : U.sameButNew ({ U with heap := s₂.heap, slotsUsed := s₂.slotsUsed } : State) L mc ms := by
      refine ⟨?_, q2, q3, q4, q5, q6⟩
      obtain ⟨t, ht, -⟩ := State.frames_cons hr
      show ({ U with heap := s₂.heap, slotsUsed := s₂.slotsUsed } : State) = { U.setFrames U.frames with heap := s₂.heap, slotsUsed := s₂.slotsUsed }
      rw [State.setFrames_self ht]
    subst hg
    refine Or.inl ⟨v, ⟨(({ U with heap := s₂.heap, slotsUsed := s₂.slotsUsed } : State).setVm s₂.vm), Ls ++ L, c0 + mc, s0 + ms⟩,
      ⟨X.admits, X.cas, X.clock, X.frames, X.room, X.hears, X.method, X.code, (X.here.setHeapUsed s₂.heap s₂.slotsUsed).setVm hW'.alike, X.tail, State.WarmedH.trans X.warmed hW', X.limits, X.bytes, X.same.trans (hsame.setVm s.vm)⟩,
      ⟨g, mk, s₂, L, rfl, rfl, hqc, rfl, hL, rfl, rfl⟩, ?_⟩
    show Steps p.tables e below _ ((({ U with heap := s₂.heap, slotsUsed := s₂.slotsUsed } : State).setVm s₂.vm).setTop { g with pc := g.pc + len₂, stack := v.toList ++ g.stack })
    rw [← hs₂]
    exact hsteps
  · obtain ⟨e2, q2, q3, q4, q5, q6⟩ := id hsm
    have e3 : s₂ = ({ (U.calling g mk a).setFrames s₂.frames with heap := s₂.heap, slotsUsed := s₂.slotsUsed } : State).setVm s₂.vm := by
      have : s₂ = ({ s₂ with vm := (U.calling g mk a).vm } : State).setVm s₂.vm := rfl
      rw [e2] at this
      exact this
    have hf₂ : s₂.frames = .throwing q :: .java g :: U.frames.tail := hend
    have hW' : U.WarmedH s₂.vm := hW₂
    have hs₂ : s₂ = ((({ U with heap := s₂.heap, slotsUsed := s₂.slotsUsed } : State).setVm s₂.vm).setTop g).pushFrame (.throwing q) := by
      refine e3.trans ?_
      rw [hf₂, State.calling_eq h.top, State.setFrames_setFrames, State.pushFrame, State.frames_setTop _ hr', State.setTop_of_frames _ hr', State.setFrames_setFrames, hr]
      rfl
    have hsame : U.sameButNew ({ U with heap := s₂.heap, slotsUsed := s₂.slotsUsed } : State) L mc ms := by
      refine ⟨?_, q2, q3, q4, q5, q6⟩
      obtain ⟨t, ht, -⟩ := State.frames_cons hr
      show ({ U with heap := s₂.heap, slotsUsed := s₂.slotsUsed } : State) = { U.setFrames U.frames with heap := s₂.heap, slotsUsed := s₂.slotsUsed }
      rw [State.setFrames_self ht]
    subst hg
    refine Or.inr ⟨q, ⟨(({ U with heap := s₂.heap, slotsUsed := s₂.slotsUsed } : State).setVm s₂.vm), Ls ++ L, c0 + mc, s0 + ms⟩,
      ⟨X.admits, X.cas, X.clock, X.frames, X.room, X.hears, X.method, X.code, (X.here.setHeapUsed s₂.heap s₂.slotsUsed).setVm hW'.alike, X.tail, State.WarmedH.trans X.warmed hW', X.limits, X.bytes, X.same.trans (hsame.setVm s.vm)⟩,
      ⟨g, mk, s₂, L, E, ce, rfl, rfl, hx, hce, hcv, hcl, rfl, hL, rfl, rfl⟩, ?_⟩
    show Steps p.tables e below _ (((({ U with heap := s₂.heap, slotsUsed := s₂.slotsUsed } : State).setVm s₂.vm).setTop g).pushFrame (.throwing q))
    rw [← hs₂]
    exact hsteps
end
variable {p : Program} {l : Launch} {e : Env} {R : Room} {s : State} {m : MethodId} {args : Array Value} {below : List Frame} {meth : Method} {c : Code} {T : State} {H : Heap} {locs : List Loc} {cells slots : Nat}
theorem vx_callVX (X : Stand p l e R s m args below meth c T locs cells slots) (hexec : p.tables.exec = Jvm.exec) {own C : String} {index : Nat} {y : MethodName} {bytes : ByteArray} {maxL : Nat} {ret : Option FieldType} {hh : List (Nat × Nat × Nat × Nat)}
    (hown : s.vm.findClass own = some m.cls) (hlink : (Cond.methodLink own index y).before args s = true) (hinst : (Cond.instanceMethod y).before args s = true) (hsel : (Cond.selects C y y).before args s = true)
    (hcode : (Cond.codeWith y bytes maxL ret hh).before args s = true) (hy : y.cls ≠ "java/lang/invoke/MethodHandle" ∧ y.cls ≠ "java/lang/invoke/VarHandle")
    {W9 : Nat} {Pre : Pt → Array Value → Prop} {Post : Pt → Array Value → Option Value → Pt → Prop} {PostX : Pt → Array Value → Addr → Pt → Prop} (hK : vx_Back l R p e below s args y 3 W9 Pre Post PostX)
    {b : Addr} {cellB : Cell} (hcell : T.heap[b]? = some cellB) (hobj : cellB.vm.isStatics = false) (hcls : s.vm.findClass C = some cellB.cls)
    {g : JFrame} (hg : g.method = m) (hsize : g.locals.size = c.maxLocals) {argsL rest : List Value} (hlen : ∀ sig, parseMethodDescriptor y.desc = some sig → argsL.length = sig.parameters.length)
    (hstack : g.stack = argsL.reverse ++ .ref b :: rest) (hW : 2 * g.monitorRoom + (rest.map fun v => v.category).sum ≤ W9) (hdg : decode c.code g.pc = .ok (.invokevirtual index, 3))
    (hpre : ∀ vm₁, s.WarmedH vm₁ → Pre ⟨T.setVm vm₁, locs, cells, slots⟩ (Value.ref b :: argsL).toArray) :
    (∃ (v : Option Value) (vm₁ : Vm) (B : Pt), s.WarmedH vm₁ ∧ Stand p l e R s m args below meth c B.U B.locs B.cells B.slots ∧ Post ⟨T.setVm vm₁, locs, cells, slots⟩ (Value.ref b :: argsL).toArray v B ∧
      ∀ target, Steps p.tables e below (B.U.setTop { g with pc := g.pc + 3, stack := v.toList ++ rest }) target → Steps p.tables e below (T.setTop g) target) ∨
    (∃ (q : Addr) (vm₁ : Vm) (B : Pt), s.WarmedH vm₁ ∧ Stand p l e R s m args below meth c B.U B.locs B.cells B.slots ∧ PostX ⟨T.setVm vm₁, locs, cells, slots⟩ (Value.ref b :: argsL).toArray q B ∧
      Steps p.tables e below (T.setTop g) ((B.U.setTop { g with stack := rest }).pushFrame (.throwing q))) := by
  obtain ⟨mk, methM, hnamed, hmethM, hstM, habM⟩ := Cond.instanceMethod_spec hinst
  obtain ⟨m8, methM', cM, hn8, hmethM', -, -, -, -, -, -, hsigM⟩ := Cond.codeWith_spec hcode
  cases Option.some.inj (hn8.symm.trans hnamed)
  cases hmethM.symm.trans hmethM'
  obtain ⟨c2, r2, m2, q1, q2, q3, q4, kP, hkP, hkPi⟩ := Cond.selects_spec hsel
  cases hcls.symm.trans q1
  cases (State.methodFound?_of_named hnamed hy).symm.trans q2
  cases hnamed.symm.trans q3
  have hselP : selectMethod e.platform s.vm cellB.cls mk = .method mk := by rw [Launch.admits_selectMethod X.admits]; exact q4
  obtain ⟨vm₁, X₁, hstep₁⟩ := X.invokevirtual hexec hown hlink hnamed hmethM hstM hkP hkPi hy (a := b) (cell := cellB) hcell
    (fun z h => by rw [h] at hobj; cases hobj) hselP hmethM habM hkP hkPi (g := g) hg (argsL := argsL) (rest := rest) (hlen _ hsigM) hstack hdg
  rcases hK m meth c ⟨T.setVm vm₁, locs, cells, slots⟩ { g with stack := rest } (.invokevirtual index) mk (Value.ref b :: argsL).toArray X₁ hg hsize hdg hW (X₁.named hnamed) (hpre vm₁ X₁.warmed) with ⟨v, B, X', hpost, hsteps⟩ | ⟨q, B, X', hpost, hsteps⟩
  · exact Or.inl ⟨v, vm₁, B, X₁.warmed, X', hpost, fun target h => hstep₁ _ fun acts => by rw [doInvoke_state]; exact hsteps.trans h⟩
  · exact Or.inr ⟨q, vm₁, B, X₁.warmed, X', hpost, hstep₁ _ fun acts => by rw [doInvoke_state]; exact hsteps⟩
theorem vx_callSX (X : Stand p l e R s m args below meth c T locs cells slots) (hexec : p.tables.exec = Jvm.exec) {own : String} {index : Nat} {y : MethodName} {bytes : ByteArray} {maxL : Nat} {ret : Option FieldType} {hh : List (Nat × Nat × Nat × Nat)}
    (hown : s.vm.findClass own = some m.cls) (hlink : (Cond.methodLink own index y).before args s = true) (hstat : (Cond.static y).before args s = true) (hinit : (Cond.initialized y.cls).before args s = true)
    (hcode : (Cond.codeWith y bytes maxL ret hh).before args s = true) (hy : y.cls ≠ "java/lang/invoke/MethodHandle" ∧ y.cls ≠ "java/lang/invoke/VarHandle")
    {W9 : Nat} {Pre : Pt → Array Value → Prop} {Post : Pt → Array Value → Option Value → Pt → Prop} {PostX : Pt → Array Value → Addr → Pt → Prop} (hK : vx_Back l R p e below s args y 3 W9 Pre Post PostX)
    {g : JFrame} (hg : g.method = m) (hsize : g.locals.size = c.maxLocals) {argsL rest : List Value} (hlen : ∀ sig, parseMethodDescriptor y.desc = some sig → argsL.length = sig.parameters.length)
    (hstack : g.stack = argsL.reverse ++ rest) (hW : 2 * g.monitorRoom + (rest.map fun v => v.category).sum ≤ W9) (hdg : decode c.code g.pc = .ok (.invokestatic index, 3))
    (hpre : ∀ vm₁, s.WarmedH vm₁ → Pre ⟨T.setVm vm₁, locs, cells, slots⟩ argsL.toArray) :
    (∃ (v : Option Value) (vm₁ : Vm) (B : Pt), s.WarmedH vm₁ ∧ Stand p l e R s m args below meth c B.U B.locs B.cells B.slots ∧ Post ⟨T.setVm vm₁, locs, cells, slots⟩ argsL.toArray v B ∧
      ∀ target, Steps p.tables e below (B.U.setTop { g with pc := g.pc + 3, stack := v.toList ++ rest }) target → Steps p.tables e below (T.setTop g) target) ∨
    (∃ (q : Addr) (vm₁ : Vm) (B : Pt), s.WarmedH vm₁ ∧ Stand p l e R s m args below meth c B.U B.locs B.cells B.slots ∧ PostX ⟨T.setVm vm₁, locs, cells, slots⟩ argsL.toArray q B ∧
      Steps p.tables e below (T.setTop g) ((B.U.setTop { g with stack := rest }).pushFrame (.throwing q))) := by
  obtain ⟨mk, methM, cM, hnamed, hmethM, -, -, -, -, -, -, hsigM⟩ := Cond.codeWith_spec hcode
  have hstatic : methM.isStatic = true := Cond.static_spec hnamed hmethM hstat
  obtain ⟨kP, hkP, -⟩ := className_of_methodNamed hnamed
  have hinitP : kP.init = .initialized := Cond.initialized_spec (findClass_of_methodNamed hnamed) hkP hinit
  obtain ⟨vm₁, X₁, hstep₁⟩ := X.invokestatic hexec hown hlink hnamed hmethM hstatic hkP hinitP hy (g := g) hg (argsL := argsL) (rest := rest) (hlen _ hsigM) hstack hdg
  rcases hK m meth c ⟨T.setVm vm₁, locs, cells, slots⟩ { g with stack := rest } (.invokestatic index) mk argsL.toArray X₁ hg hsize hdg hW (X₁.named hnamed) (hpre vm₁ X₁.warmed) with ⟨v, B, X', hpost, hsteps⟩ | ⟨q, B, X', hpost, hsteps⟩
  · exact Or.inl ⟨v, vm₁, B, X₁.warmed, X', hpost, fun target h => hstep₁ _ fun acts => by rw [doInvoke_state]; exact hsteps.trans h⟩
  · exact Or.inr ⟨q, vm₁, B, X₁.warmed, X', hpost, hstep₁ _ fun acts => by rw [doInvoke_state]; exact hsteps⟩
theorem vx_callVW (X : Stand p l e R s m args below meth c T locs cells slots) (hexec : p.tables.exec = Jvm.exec) {own C : String} {index : Nat} {y : MethodName} {bytes : ByteArray} {maxL : Nat} {ret : Option FieldType} {hh : List (Nat × Nat × Nat × Nat)}
    (hown : s.vm.findClass own = some m.cls) (hlink : (Cond.methodLink own index y).before args s = true) (hinst : (Cond.instanceMethod y).before args s = true) (hsel : (Cond.selects C y y).before args s = true)
    (hcode : (Cond.codeWith y bytes maxL ret hh).before args s = true) (hy : y.cls ≠ "java/lang/invoke/MethodHandle" ∧ y.cls ≠ "java/lang/invoke/VarHandle")
    {W9 : Nat} {Pre : Pt → Array Value → Prop} {Post : Pt → Array Value → Option Value → Pt → Prop} (hK : Back l R p e below s args y 3 W9 Pre Post)
    {b : Addr} {cellB : Cell} (hcell : T.heap[b]? = some cellB) (hobj : cellB.vm.isStatics = false) (hcls : s.vm.findClass C = some cellB.cls)
    {g : JFrame} (hg : g.method = m) (hsize : g.locals.size = c.maxLocals) {argsL rest : List Value} (hlen : ∀ sig, parseMethodDescriptor y.desc = some sig → argsL.length = sig.parameters.length)
    (hstack : g.stack = argsL.reverse ++ .ref b :: rest) (hW : 2 * g.monitorRoom + (rest.map fun v => v.category).sum ≤ W9) (hdg : decode c.code g.pc = .ok (.invokevirtual index, 3))
    (hpre : ∀ vm₁, s.WarmedH vm₁ → Pre ⟨T.setVm vm₁, locs, cells, slots⟩ (Value.ref b :: argsL).toArray) :
    ∃ (v : Option Value) (vm₁ : Vm) (B : Pt), s.WarmedH vm₁ ∧ Stand p l e R s m args below meth c B.U B.locs B.cells B.slots ∧ Post ⟨T.setVm vm₁, locs, cells, slots⟩ (Value.ref b :: argsL).toArray v B ∧
      ∀ target, Steps p.tables e below (B.U.setTop { g with pc := g.pc + 3, stack := v.toList ++ rest }) target → Steps p.tables e below (T.setTop g) target := by
  obtain ⟨mk, methM, hnamed, hmethM, hstM, habM⟩ := Cond.instanceMethod_spec hinst
  obtain ⟨m8, methM', cM, hn8, hmethM', -, -, -, -, -, -, hsigM⟩ := Cond.codeWith_spec hcode
  cases Option.some.inj (hn8.symm.trans hnamed)
  cases hmethM.symm.trans hmethM'
  obtain ⟨c2, r2, m2, q1, q2, q3, q4, kP, hkP, hkPi⟩ := Cond.selects_spec hsel
  cases hcls.symm.trans q1
  cases (State.methodFound?_of_named hnamed hy).symm.trans q2
  cases hnamed.symm.trans q3
  have hselP : selectMethod e.platform s.vm cellB.cls mk = .method mk := by rw [Launch.admits_selectMethod X.admits]; exact q4
  obtain ⟨vm₁, X₁, hstep₁⟩ := X.invokevirtual hexec hown hlink hnamed hmethM hstM hkP hkPi hy (a := b) (cell := cellB) hcell
    (fun z h => by rw [h] at hobj; cases hobj) hselP hmethM habM hkP hkPi (g := g) hg (argsL := argsL) (rest := rest) (hlen _ hsigM) hstack hdg
  obtain ⟨v, B, X', hpost, hsteps⟩ := hK m meth c ⟨T.setVm vm₁, locs, cells, slots⟩ { g with stack := rest } (.invokevirtual index) mk (Value.ref b :: argsL).toArray X₁ hg hsize hdg hW (X₁.named hnamed) (hpre vm₁ X₁.warmed)
  exact ⟨v, vm₁, B, X₁.warmed, X', hpost, fun target h => hstep₁ _ fun acts => by rw [doInvoke_state]; exact hsteps.trans h⟩
abbrev vx_CVW (R : Room) (s : State) (args : Array Value) (own C : String) (index : Nat) (y : MethodName) (bytes : ByteArray) (maxL : Nat) (ret : Option FieldType) (hh : List (Nat × Nat × Nat × Nat)) (ws : List Cond) (rm : Room) (mc ms n : Nat) : Prop :=
  (rm.cells = mc ∧ rm.slots = ms ∧ rm.frames + 1 ≤ R.frames ∧ 8 + (maxL + 11) + rm.locals ≤ R.locals ∧ (∀ w ∈ ws, ∀ (a' : Array Value) (U : State), s.WarmedH U.vm → w.before a' U = true) ∧ Cond.codeWith y bytes maxL ret hh ∈ ws) ∧
  (Cond.codeWith y bytes maxL ret hh).before args s = true ∧ (Cond.initialized y.cls).before args s = true ∧ (y.cls ≠ "java/lang/invoke/MethodHandle" ∧ y.cls ≠ "java/lang/invoke/VarHandle") ∧
  (∀ sig, parseMethodDescriptor y.desc = some sig → n = sig.parameters.length) ∧ (Cond.methodLink own index y).before args s = true ∧ (Cond.instanceMethod y).before args s = true ∧ (Cond.selects C y y).before args s = true
theorem vx_cwVW {own C : String} {index maxL mc ms : Nat} {y : MethodName} {bytes : ByteArray} {ret : Option FieldType} {hh : List (Nat × Nat × Nat × Nat)} {Ts ws ws' : List Cond} {rm : Room} (n : Nat) (ht : ∀ w ∈ Ts, w.before args s = true) (hT : GoodIn Ts (wsV own index C y ws)) (hw : ws = Cond.codeWith y bytes maxL ret hh :: ws') (hrc : rm.cells = mc) (hrs : rm.slots = ms)
    (hd : y.cls = C ∧ y.cls ≠ "java/lang/invoke/MethodHandle" ∧ y.cls ≠ "java/lang/invoke/VarHandle" ∧ (parseMethodDescriptor y.desc).map (fun d => d.parameters.length) = some n) (hR : rm.frames + 1 ≤ R.frames ∧ 8 + (maxL + 11) + rm.locals ≤ R.locals) :
    vx_CVW R s args own C index y bytes maxL ret hh ws rm mc ms n := by
  obtain ⟨hC, hd⟩ := hd
  subst hC
  have ok : ∀ w ∈ wsV own index y.cls y ws, w.before args s = true := fun w h => ht w (hT w h).1
  have hG : GoodIn Ts ws := fun w h => hT w (by unfold wsV; exact List.mem_append_right _ h)
  have hc : Cond.codeWith y bytes maxL ret hh ∈ ws := by rw [hw]; exact List.mem_cons_self
  refine ⟨⟨hrc, hrs, hR.1, hR.2, pay_in ht hG, hc⟩, ht _ (hG _ hc).1, ok _ (by simp [wsV]), ⟨hd.1, hd.2.1⟩, fun sig h => ?_, ok _ (by simp [wsV]), ok _ (by simp [wsV]), ok _ (by simp [wsV])⟩
  have h2 := hd.2.2
  rw [h] at h2
  exact (Option.some.inj h2).symm
theorem vx_runVW {y : MethodName} {bytes cc : ByteArray} {maxL nL mc ms n index : Nat} {ret : Option FieldType} {hh : List (Nat × Nat × Nat × Nat)} {ws : List Cond} {rm : Room} {Pc : Array Value → State → Prop} {Qc : Array Value → State → Outcome → State → Prop} {free : Addr → Prop} {Ts : List Cond} {own C : String} {b : Addr} {As rest : List Value} {g : JFrame}
    (S : CallFix p m c cc nL s args Ts own) (hM : Met l y ws rm Pc Qc mc ms free) (cw : vx_CVW R s args own C index y bytes maxL ret hh ws rm mc ms n) (hp : PreV s H C b Pc As)
    (hg : g.method = m) (hn : As.length = n) (hsize : g.locals.size = nL) (hstack : g.stack = As.reverse ++ .ref b :: rest) (hW : 2 * g.monitorRoom + (rest.map fun v => v.category).sum ≤ 8) (hdg : decode cc g.pc = .ok (.invokevirtual index, 3)) (hf : cells + mc ≤ R.cells ∧ slots + ms ≤ R.slots) :
    va_Run p l e R s m args below meth c H locs cells slots mc ms g rest (Qc (Value.ref b :: As).toArray) free := by
  obtain ⟨⟨hrc, hrs, hfr, hlo, hws, hcw⟩, hcode, hini, hy, hlen, hl, hin, hse⟩ := cw
  have hK : Back l R p e below s args y 3 8 (PreOf R mc ms Pc) (PostOf Qc mc ms free) := va_backW (hh := hh) (bytes := bytes) (maxL := maxL) (ret := ret) hM hp.1 hrc hrs hfr hlo hws hcw (fun a' U hW => word_at hW (Or.inl (by first | rfl | simp [Cond.onTables, Cond.keeps, Cond.steady])) hini)
  obtain ⟨hx, hb, hml, ho, -⟩ := S
  obtain ⟨-, ⟨cellB, hcB, hoB, hclB⟩, hPc⟩ := hp
  intro T hT X
  obtain ⟨v, vm₁, ⟨U', l2, c2, s2⟩, hW₁, X', ⟨g', mk, t, L, e1, e2, hq, h1, hL, h2, h3⟩, st⟩ := vx_callVW X hx (C := C) (hh := hh) (bytes := bytes) (maxL := maxL) (ret := ret) ho hl hin hse hcode hy hK (by rw [hT]; exact hcB) hoB hclB hg (hsize.trans hml.symm) (argsL := As) (rest := rest) (fun sig h => hn.trans (hlen sig h)) hstack hW (by rw [hb]; exact hdg)
    (fun vm₁ hW₁ => ⟨hf.1, hf.2, hPc (T.setVm vm₁) hT hW₁⟩)
  dsimp only [Pt.U, Pt.locs, Pt.cells, Pt.slots] at X' e1 e2 h1 h2 h3 st
  subst h1; subst h2; subst h3
  exact ⟨v, (T.setVm vm₁).calling g' mk (Value.ref b :: As).toArray, t, U', L, hT, X', hL, e1, e2, hq, st⟩
section
variable {y : MethodName} {bytes cc : ByteArray} {maxL nL mc ms n index : Nat} {ret : Option FieldType} {ws : List Cond} {rm : Room} {Pc : Array Value → State → Prop} {Qc : Array Value → State → Outcome → State → Prop} {XC : String → State → State → Prop} {free : Addr → Prop} {Ts : List Cond} {own C : String} {b : Addr} {As rest : List Value} {g : JFrame}
theorem vx_runVX {hh : List (Nat × Nat × Nat × Nat)} (S : CallFix p m c cc nL s args Ts own) (hM : vx_Met l y ws rm Pc Qc XC mc ms free) (cw : vx_CVW R s args own C index y bytes maxL ret hh ws rm mc ms n) (hp : PreV s H C b Pc As)
    (hg : g.method = m) (hn : As.length = n) (hsize : g.locals.size = nL) (hstack : g.stack = As.reverse ++ .ref b :: rest) (hW : 2 * g.monitorRoom + (rest.map fun v => v.category).sum ≤ 8) (hdg : decode cc g.pc = .ok (.invokevirtual index, 3)) (hf : cells + mc ≤ R.cells ∧ slots + ms ≤ R.slots) :
    vx_Run p l e R s m args below meth c H locs cells slots mc ms g rest (Qc (Value.ref b :: As).toArray) XC free := by
  obtain ⟨⟨hrc, hrs, hfr, hlo, hws, hcw⟩, hcode, hini, hy, hlen, hl, hin, hse⟩ := cw
  have hK : vx_Back l R p e below s args y 3 8 (PreOf R mc ms Pc) (PostOf Qc mc ms free) (vx_Post XC mc ms free) := vx_backW (hh := hh) (bytes := bytes) (maxL := maxL) (ret := ret) hM hp.1 hrc hrs hfr hlo hws hcw (fun a' U hW => word_at hW (Or.inl (by first | rfl | simp [Cond.onTables, Cond.keeps, Cond.steady])) hini)
  obtain ⟨hx, hb, hml, ho, -⟩ := S
  obtain ⟨-, ⟨cellB, hcB, hoB, hclB⟩, hPc⟩ := hp
  intro T hT X
  rcases vx_callVX X hx (C := C) (hh := hh) (bytes := bytes) (maxL := maxL) (ret := ret) ho hl hin hse hcode hy hK (by rw [hT]; exact hcB) hoB hclB hg (hsize.trans hml.symm) (argsL := As) (rest := rest) (fun sig h => hn.trans (hlen sig h)) hstack hW (by rw [hb]; exact hdg)
    (fun vm₁ hW₁ => ⟨hf.1, hf.2, hPc (T.setVm vm₁) hT hW₁⟩) with ⟨v, vm₁, ⟨U', l2, c2, s2⟩, hW₁, X', ⟨g', mk, t, L, e1, e2, hq, h1, hL, h2, h3⟩, st⟩ | ⟨q, vm₁, ⟨U', l2, c2, s2⟩, hW₁, X', ⟨g', mk, t, L, E, ce, e1, e2, hq, hce, hcv, hcl, h1, hL, h2, h3⟩, st⟩
  · dsimp only [Pt.U, Pt.locs, Pt.cells, Pt.slots] at X' e1 e2 h1 h2 h3 st
    subst h1; subst h2; subst h3
    exact Or.inl ⟨v, (T.setVm vm₁).calling g' mk (Value.ref b :: As).toArray, t, U', L, hT, X', hL, e1, e2, hq, st⟩
  · dsimp only [Pt.U, Pt.locs, Pt.cells, Pt.slots] at X' e1 e2 h1 h2 h3 st hcl
    subst h1; subst h2; subst h3
    exact Or.inr ⟨q, (T.setVm vm₁).calling g' mk (Value.ref b :: As).toArray, t, U', L, E, ce, hT, X', hL, e1, e2, hq, hce, hcv, vx_cls hW₁ hcl, st⟩
theorem vx_runSX {hh : List (Nat × Nat × Nat × Nat)} (S : CallFix p m c cc nL s args Ts own) (hM : vx_Met l y ws rm Pc Qc XC mc ms free) (cw : vx_CSW R s args own index y bytes maxL ret hh ws rm mc ms n) (hp : PreS s H Pc As)
    (hg : g.method = m) (hn : As.length = n) (hsize : g.locals.size = nL) (hstack : g.stack = As.reverse ++ rest) (hW : 2 * g.monitorRoom + (rest.map fun v => v.category).sum ≤ 8) (hdg : decode cc g.pc = .ok (.invokestatic index, 3)) (hf : cells + mc ≤ R.cells ∧ slots + ms ≤ R.slots) :
    vx_Run p l e R s m args below meth c H locs cells slots mc ms g rest (Qc As.toArray) XC free := by
  obtain ⟨⟨hrc, hrs, hfr, hlo, hws, hcw⟩, hcode, hini, hy, hlen, hl, hstt⟩ := cw
  have hK : vx_Back l R p e below s args y 3 8 (PreOf R mc ms Pc) (PostOf Qc mc ms free) (vx_Post XC mc ms free) := vx_backW (hh := hh) (bytes := bytes) (maxL := maxL) (ret := ret) hM hp.1 hrc hrs hfr hlo hws hcw (fun a' U hW => word_at hW (Or.inl (by first | rfl | simp [Cond.onTables, Cond.keeps, Cond.steady])) hini)
  obtain ⟨hx, hb, hml, ho, -⟩ := S
  intro T hT X
  rcases vx_callSX X hx (hh := hh) (bytes := bytes) (maxL := maxL) (ret := ret) ho hl hstt hini hcode hy hK hg (hsize.trans hml.symm) (argsL := As) (rest := rest) (fun sig h => hn.trans (hlen sig h)) hstack hW (by rw [hb]; exact hdg)
    (fun vm₁ hW₁ => ⟨hf.1, hf.2, hp.2 (T.setVm vm₁) hT hW₁⟩) with ⟨v, vm₁, ⟨U', l2, c2, s2⟩, hW₁, X', ⟨g', mk, t, L, e1, e2, hq, h1, hL, h2, h3⟩, st⟩ | ⟨q, vm₁, ⟨U', l2, c2, s2⟩, hW₁, X', ⟨g', mk, t, L, E, ce, e1, e2, hq, hce, hcv, hcl, h1, hL, h2, h3⟩, st⟩
  · dsimp only [Pt.U, Pt.locs, Pt.cells, Pt.slots] at X' e1 e2 h1 h2 h3 st
    subst h1; subst h2; subst h3
    exact Or.inl ⟨v, (T.setVm vm₁).calling g' mk As.toArray, t, U', L, hT, X', hL, e1, e2, hq, st⟩
  · dsimp only [Pt.U, Pt.locs, Pt.cells, Pt.slots] at X' e1 e2 h1 h2 h3 st hcl
    subst h1; subst h2; subst h3
    exact Or.inr ⟨q, (T.setVm vm₁).calling g' mk As.toArray, t, U', L, E, ce, hT, X', hL, e1, e2, hq, hce, hcv, vx_cls hW₁ hcl, st⟩
end
end VXH
theorem vx_ofWH {l : Launch} {y : MethodName} {ws ws' : List Cond} {rm : Room} {Pc : Array Value → State → Prop} {Qc : Array Value → State → Outcome → State → Prop} {XC : String → State → State → Prop} {mc ms : Nat} {free : Addr → Prop} {cc : ByteArray} {maxL : Nat} {ret : Option FieldType} {hh : List (Nat × Nat × Nat × Nat)}
    (hy : plainName y.cls = true) (hw : ws = Cond.codeWith y cc maxL ret hh :: ws')
    (body : ∀ p e s m args below meth c s₁, BodyLoose p l y (headSpec ws rm) cc maxL ret e s m args below meth c s₁ → c.maxLocals = maxL → Pc args s →
      W p l e (headSpec ws rm).room s m args below meth c s.heap [] 0 0 (vx_MQ below Qc XC args s mc ms free) (entryFrame m args maxL)) : vx_Met l y ws rm Pc Qc XC mc ms free := by
  refine MetFree.of_bodyS (code := cc) (maxLocals := maxL) (ret := ret) hy ?_ ?_
  · intro args s m h hn
    obtain ⟨m9, meth, c, hn9, h1, h2, h3, h4, -, h5, h6, -⟩ := Cond.codeWith_spec (atoms_spec (ws := ws) h _ (by rw [hw]; exact List.mem_cons_self))
    cases hn.symm.trans hn9
    exact ⟨meth, c, h1, h2, h3, h4, h5, h6⟩
  · intro p e s m args below meth c s₁ B hml hP _
    have hh0 : s₁.heap = s.heap := by rw [B.state]; rfl
    obtain ⟨t, a1, o, b1, b2, b3⟩ := body p e s m args below meth c s₁ B hml hP s₁ hh0 (Stand.of_body B)
    exact ⟨t, o, a1, b1, b2, b3⟩
/-! ===== END ===== -/
end
section
def RX0 : String := "NemaGrid$Drives"
def TX0 : u_T := fun k => match k with
  | 0 => ("NemaGrid$Drives", "pixelNumbers", "LNemaGrid$Row;", true)
  | 1 => ("NemaGrid$Drives", "ticks", "LNemaGrid$Row;", true)
  | 2 => ("NemaGrid$Drives", "directions", "LNemaGrid$Row;", true)
  | 3 => ("NemaGrid$Drives", "strengths", "LNemaGrid$Row;", true)
  | _ => ("NemaGrid$Drives", "count", "I", false)
def tyX0 : Nat → FieldType := fun k => match k with
  | 0 => .object "NemaGrid$Row"
  | 1 => .object "NemaGrid$Row"
  | 2 => .object "NemaGrid$Row"
  | 3 => .object "NemaGrid$Row"
  | _ => .int
abbrev wsX00 : List Cond := u_ws RX0 TX0 5
theorem nmX0 : ∀ a, a < 5 → ∀ b, b < 5 → a ≠ b → (TX0 a).2.1 ≠ (TX0 b).2.1 := by decide +kernel
theorem tyX0_ok : ∀ k, k < 5 → parseFieldDescriptor (TX0 k).2.2.1 = some (tyX0 k) := by decide +kernel
abbrev cX0_init : ByteArray := prog_2_method_1_code
def yX0_init : MethodName := ⟨RX0, "<init>", "()V"⟩
abbrev cX0_add : ByteArray := prog_2_method_2_code
def yX0_add : MethodName := ⟨RX0, "add", "(IIII)I"⟩
abbrev cX0_put : ByteArray := prog_2_method_3_code
def yX0_put : MethodName := ⟨RX0, "put", "(IIIII)V"⟩
abbrev cX0_comeAt : ByteArray := prog_2_method_4_code
def yX0_comeAt : MethodName := ⟨RX0, "comeAt", "(ILNemaGrid$Matter;)I"⟩
def RX1 : String := "NemaGrid$Matter"
def TX1 : u_T := fun k => match k with
  | 0 => ("NemaGrid$Matter", "directions", "LNemaGrid$Row;", true)
  | 1 => ("NemaGrid$Matter", "kinds", "LNemaGrid$Row;", true)
  | 2 => ("NemaGrid$Matter", "weakDirections", "LNemaGrid$Row;", true)
  | 3 => ("NemaGrid$Matter", "weakStrengths", "LNemaGrid$Row;", true)
  | 4 => ("NemaGrid$Matter", "pixelNumbers", "LNemaGrid$Row;", true)
  | 5 => ("NemaGrid$Matter", "pixels", "LNemaGrid$Pixels;", true)
  | 6 => ("NemaGrid$Matter", "width", "I", false)
  | 7 => ("NemaGrid$Matter", "height", "I", false)
  | 8 => ("NemaGrid$Matter", "costAcross", "I", false)
  | 9 => ("NemaGrid$Matter", "costDown", "I", false)
  | _ => ("NemaGrid$Matter", "energyKept", "I", false)
def tyX1 : Nat → FieldType := fun k => match k with
  | 0 => .object "NemaGrid$Row"
  | 1 => .object "NemaGrid$Row"
  | 2 => .object "NemaGrid$Row"
  | 3 => .object "NemaGrid$Row"
  | 4 => .object "NemaGrid$Row"
  | 5 => .object "NemaGrid$Pixels"
  | 6 => .int
  | 7 => .int
  | 8 => .int
  | 9 => .int
  | _ => .int
abbrev wsX10 : List Cond := u_ws RX1 TX1 11
theorem nmX1 : ∀ a, a < 11 → ∀ b, b < 11 → a ≠ b → (TX1 a).2.1 ≠ (TX1 b).2.1 := by decide +kernel
theorem tyX1_ok : ∀ k, k < 11 → parseFieldDescriptor (TX1 k).2.2.1 = some (tyX1 k) := by decide +kernel
abbrev cX1_init : ByteArray := prog_3_method_1_code
def yX1_init : MethodName := ⟨RX1, "<init>", "(LNemaGrid$Pixels;)V"⟩
abbrev cX1_begin : ByteArray := prog_3_method_2_code
def yX1_begin : MethodName := ⟨RX1, "begin", "(II)V"⟩
abbrev cX1_has : ByteArray := prog_3_method_3_code
def yX1_has : MethodName := ⟨RX1, "has", "(II)Z"⟩
abbrev cX1_directionAt : ByteArray := prog_3_method_4_code
def yX1_directionAt : MethodName := ⟨RX1, "directionAt", "(II)I"⟩
abbrev cX1_kindAt : ByteArray := prog_3_method_5_code
def yX1_kindAt : MethodName := ⟨RX1, "kindAt", "(II)I"⟩
abbrev cX1_pixelAt : ByteArray := prog_3_method_6_code
def yX1_pixelAt : MethodName := ⟨RX1, "pixelAt", "(II)I"⟩
abbrev cX1_hasPixelIn : ByteArray := prog_3_method_7_code
def yX1_hasPixelIn : MethodName := ⟨RX1, "hasPixelIn", "(IIII)Z"⟩
abbrev cX1_mark : ByteArray := prog_3_method_8_code
def yX1_mark : MethodName := ⟨RX1, "mark", "(IIIII)V"⟩
abbrev cX1_heldWith : ByteArray := prog_3_method_9_code
def yX1_heldWith : MethodName := ⟨RX1, "heldWith", "(II)I"⟩
abbrev cX1_energyWith : ByteArray := prog_3_method_10_code
def yX1_energyWith : MethodName := ⟨RX1, "energyWith", "(III)I"⟩
abbrev cX1_energyAt : ByteArray := prog_3_method_11_code
def yX1_energyAt : MethodName := ⟨RX1, "energyAt", "(II)I"⟩
abbrev cX1_sum : ByteArray := prog_3_method_12_code
def yX1_sum : MethodName := ⟨RX1, "sum", "()I"⟩
abbrev cX1_grown : ByteArray := prog_3_method_13_code
def yX1_grown : MethodName := ⟨RX1, "grown", "(I)I"⟩
abbrev cX1_price : ByteArray := prog_3_method_14_code
def yX1_price : MethodName := ⟨RX1, "price", "(II)I"⟩
abbrev cX1_turnTo : ByteArray := prog_3_method_15_code
def yX1_turnTo : MethodName := ⟨RX1, "turnTo", "(III)I"⟩
abbrev cX1_hold : ByteArray := prog_3_method_16_code
def yX1_hold : MethodName := ⟨RX1, "hold", "(IIIII)I"⟩
abbrev cX1_setField : ByteArray := prog_3_method_17_code
def yX1_setField : MethodName := ⟨RX1, "setField", "(III)I"⟩
abbrev cX1_heldInPixel : ByteArray := prog_3_method_18_code
def yX1_heldInPixel : MethodName := ⟨RX1, "heldInPixel", "(I)I"⟩
abbrev cX1_relax : ByteArray := prog_3_method_19_code
def yX1_relax : MethodName := ⟨RX1, "relax", "()I"⟩
abbrev cX1_settle : ByteArray := prog_3_method_20_code
def yX1_settle : MethodName := ⟨RX1, "settle", "(II)V"⟩
abbrev cX1_leastOfTwo : ByteArray := prog_3_method_21_code
def yX1_leastOfTwo : MethodName := ⟨RX1, "leastOfTwo", "(IIZ)I"⟩
abbrev cX1_greyOfPixel : ByteArray := prog_3_method_22_code
def yX1_greyOfPixel : MethodName := ⟨RX1, "greyOfPixel", "(II)I"⟩
def RX2 : String := "NemaGrid$Pictures"
def TX2 : u_T := fun k => match k with
  | 0 => ("NemaGrid$Pictures", "plates", "LNemaGrid$Row;", true)
  | 1 => ("NemaGrid$Pictures", "greys", "LNemaGrid$Row;", true)
  | _ => ("NemaGrid$Pictures", "count", "I", false)
def tyX2 : Nat → FieldType := fun k => match k with
  | 0 => .object "NemaGrid$Row"
  | 1 => .object "NemaGrid$Row"
  | _ => .int
abbrev wsX20 : List Cond := u_ws RX2 TX2 3
theorem nmX2 : ∀ a, a < 3 → ∀ b, b < 3 → a ≠ b → (TX2 a).2.1 ≠ (TX2 b).2.1 := by decide +kernel
theorem tyX2_ok : ∀ k, k < 3 → parseFieldDescriptor (TX2 k).2.2.1 = some (tyX2 k) := by decide +kernel
abbrev cX2_init : ByteArray := prog_4_method_1_code
def yX2_init : MethodName := ⟨RX2, "<init>", "()V"⟩
abbrev cX2_has : ByteArray := prog_4_method_2_code
def yX2_has : MethodName := ⟨RX2, "has", "(I)Z"⟩
abbrev cX2_take : ByteArray := prog_4_method_3_code
def yX2_take : MethodName := ⟨RX2, "take", "(LNemaGrid$Matter;I)I"⟩
abbrev cX2_greyAt : ByteArray := prog_4_method_4_code
def yX2_greyAt : MethodName := ⟨RX2, "greyAt", "(III)I"⟩
abbrev cX2_changed : ByteArray := prog_4_method_5_code
def yX2_changed : MethodName := ⟨RX2, "changed", "(ILNemaGrid$Matter;)I"⟩
abbrev cX2_fitting : ByteArray := prog_4_method_6_code
def yX2_fitting : MethodName := ⟨RX2, "fitting", "(III)I"⟩
def RX3 : String := "NemaGrid$Pixels"
def TX3 : u_T := fun k => match k with
  | 0 => ("NemaGrid$Pixels", "lefts", "LNemaGrid$Row;", true)
  | 1 => ("NemaGrid$Pixels", "tops", "LNemaGrid$Row;", true)
  | 2 => ("NemaGrid$Pixels", "widths", "LNemaGrid$Row;", true)
  | 3 => ("NemaGrid$Pixels", "heights", "LNemaGrid$Row;", true)
  | 4 => ("NemaGrid$Pixels", "directions", "LNemaGrid$Row;", true)
  | 5 => ("NemaGrid$Pixels", "strengths", "LNemaGrid$Row;", true)
  | 6 => ("NemaGrid$Pixels", "noted", "LNemaGrid$Row;", true)
  | 7 => ("NemaGrid$Pixels", "notes", "LNemaGrid$Row;", true)
  | _ => ("NemaGrid$Pixels", "count", "I", false)
def tyX3 : Nat → FieldType := fun k => match k with
  | 0 => .object "NemaGrid$Row"
  | 1 => .object "NemaGrid$Row"
  | 2 => .object "NemaGrid$Row"
  | 3 => .object "NemaGrid$Row"
  | 4 => .object "NemaGrid$Row"
  | 5 => .object "NemaGrid$Row"
  | 6 => .object "NemaGrid$Row"
  | 7 => .object "NemaGrid$Row"
  | _ => .int
abbrev wsX30 : List Cond := u_ws RX3 TX3 9
theorem nmX3 : ∀ a, a < 9 → ∀ b, b < 9 → a ≠ b → (TX3 a).2.1 ≠ (TX3 b).2.1 := by decide +kernel
theorem tyX3_ok : ∀ k, k < 9 → parseFieldDescriptor (TX3 k).2.2.1 = some (tyX3 k) := by decide +kernel
abbrev cX3_init : ByteArray := prog_5_method_1_code
def yX3_init : MethodName := ⟨RX3, "<init>", "()V"⟩
abbrev cX3_has : ByteArray := prog_5_method_2_code
def yX3_has : MethodName := ⟨RX3, "has", "(I)Z"⟩
abbrev cX3_make : ByteArray := prog_5_method_3_code
def yX3_make : MethodName := ⟨RX3, "make", "(IIII)I"⟩
abbrev cX3_left : ByteArray := prog_5_method_4_code
def yX3_left : MethodName := ⟨RX3, "left", "(I)I"⟩
abbrev cX3_top : ByteArray := prog_5_method_5_code
def yX3_top : MethodName := ⟨RX3, "top", "(I)I"⟩
abbrev cX3_width : ByteArray := prog_5_method_6_code
def yX3_width : MethodName := ⟨RX3, "width", "(I)I"⟩
abbrev cX3_height : ByteArray := prog_5_method_7_code
def yX3_height : MethodName := ⟨RX3, "height", "(I)I"⟩
abbrev cX3_fieldDirection : ByteArray := prog_5_method_8_code
def yX3_fieldDirection : MethodName := ⟨RX3, "fieldDirection", "(I)I"⟩
abbrev cX3_fieldStrength : ByteArray := prog_5_method_9_code
def yX3_fieldStrength : MethodName := ⟨RX3, "fieldStrength", "(I)I"⟩
abbrev cX3_setField : ByteArray := prog_5_method_10_code
def yX3_setField : MethodName := ⟨RX3, "setField", "(III)V"⟩
abbrev cX3_note : ByteArray := prog_5_method_11_code
def yX3_note : MethodName := ⟨RX3, "note", "(II)V"⟩
abbrev cX3_flicker : ByteArray := prog_5_method_12_code
def yX3_flicker : MethodName := ⟨RX3, "flicker", "(I)I"⟩
def RX4 : String := "NemaGrid$Row"
def TX4 : u_T := fun k => match k with
  | _ => ("NemaGrid$Row", "numbers", "[I", true)
def tyX4 : Nat → FieldType := fun k => match k with
  | _ => .array .int
abbrev wsX40 : List Cond := u_ws RX4 TX4 1
theorem nmX4 : ∀ a, a < 1 → ∀ b, b < 1 → a ≠ b → (TX4 a).2.1 ≠ (TX4 b).2.1 := by decide +kernel
theorem tyX4_ok : ∀ k, k < 1 → parseFieldDescriptor (TX4 k).2.2.1 = some (tyX4 k) := by decide +kernel
abbrev cX4_init : ByteArray := prog_6_method_1_code
def yX4_init : MethodName := ⟨RX4, "<init>", "(I)V"⟩
abbrev cX4_at : ByteArray := prog_6_method_2_code
def yX4_at : MethodName := ⟨RX4, "at", "(I)I"⟩
abbrev cX4_put : ByteArray := prog_6_method_3_code
def yX4_put : MethodName := ⟨RX4, "put", "(II)V"⟩
abbrev cX4_fill : ByteArray := prog_6_method_4_code
def yX4_fill : MethodName := ⟨RX4, "fill", "(I)V"⟩
def RX5 : String := "NemaGrid$Windings"
def TX5 : u_T := fun k => match k with
  | _ => ("NemaGrid$Windings", "matter", "LNemaGrid$Matter;", true)
def tyX5 : Nat → FieldType := fun k => match k with
  | _ => .object "NemaGrid$Matter"
abbrev wsX50 : List Cond := u_ws RX5 TX5 1
theorem nmX5 : ∀ a, a < 1 → ∀ b, b < 1 → a ≠ b → (TX5 a).2.1 ≠ (TX5 b).2.1 := by decide +kernel
theorem tyX5_ok : ∀ k, k < 1 → parseFieldDescriptor (TX5 k).2.2.1 = some (tyX5 k) := by decide +kernel
abbrev cX5_init : ByteArray := prog_7_method_1_code
def yX5_init : MethodName := ⟨RX5, "<init>", "(LNemaGrid$Matter;)V"⟩
abbrev cX5_has : ByteArray := prog_7_method_2_code
def yX5_has : MethodName := ⟨RX5, "has", "(II)Z"⟩
abbrev cX5_at : ByteArray := prog_7_method_3_code
def yX5_at : MethodName := ⟨RX5, "at", "(II)I"⟩
abbrev cX5_sum : ByteArray := prog_7_method_4_code
def yX5_sum : MethodName := ⟨RX5, "sum", "(IIII)I"⟩
abbrev cX5_around : ByteArray := prog_7_method_5_code
def yX5_around : MethodName := ⟨RX5, "around", "(IIII)I"⟩
abbrev cX5_count : ByteArray := prog_7_method_6_code
def yX5_count : MethodName := ⟨RX5, "count", "()I"⟩
abbrev cX5_find : ByteArray := prog_7_method_7_code
def yX5_find : MethodName := ⟨RX5, "find", "(I)I"⟩
abbrev cX5_isGood : ByteArray := prog_7_method_8_code
def yX5_isGood : MethodName := ⟨RX5, "isGood", "(I)Z"⟩
abbrev cX5_touches : ByteArray := prog_7_method_9_code
def yX5_touches : MethodName := ⟨RX5, "touches", "(III)Z"⟩
def RX6 : String := "NemaGrid"
def TX6 : u_T := fun k => match k with
  | 0 => ("NemaGrid", "pixels", "LNemaGrid$Pixels;", true)
  | 1 => ("NemaGrid", "matter", "LNemaGrid$Matter;", true)
  | 2 => ("NemaGrid", "windings", "LNemaGrid$Windings;", true)
  | 3 => ("NemaGrid", "drives", "LNemaGrid$Drives;", true)
  | 4 => ("NemaGrid", "pictures", "LNemaGrid$Pictures;", true)
  | 5 => ("NemaGrid", "plateDirection", "I", false)
  | 6 => ("NemaGrid", "tickNow", "I", false)
  | 7 => ("NemaGrid", "work", "I", false)
  | _ => ("NemaGrid", "heat", "I", false)
def tyX6 : Nat → FieldType := fun k => match k with
  | 0 => .object "NemaGrid$Pixels"
  | 1 => .object "NemaGrid$Matter"
  | 2 => .object "NemaGrid$Windings"
  | 3 => .object "NemaGrid$Drives"
  | 4 => .object "NemaGrid$Pictures"
  | 5 => .int
  | 6 => .int
  | 7 => .int
  | _ => .int
abbrev wsX60 : List Cond := u_ws RX6 TX6 9
theorem nmX6 : ∀ a, a < 9 → ∀ b, b < 9 → a ≠ b → (TX6 a).2.1 ≠ (TX6 b).2.1 := by decide +kernel
theorem tyX6_ok : ∀ k, k < 9 → parseFieldDescriptor (TX6 k).2.2.1 = some (tyX6 k) := by decide +kernel
abbrev cX6_init : ByteArray := prog_1_method_1_code
def yX6_init : MethodName := ⟨RX6, "<init>", "()V"⟩
abbrev cX6_grid : ByteArray := prog_1_method_2_code
def yX6_grid : MethodName := ⟨RX6, "grid", "(II)V"⟩
abbrev cX6_costs : ByteArray := prog_1_method_3_code
def yX6_costs : MethodName := ⟨RX6, "costs", "(II)I"⟩
abbrev cX6_turn : ByteArray := prog_1_method_4_code
def yX6_turn : MethodName := ⟨RX6, "turn", "(III)I"⟩
abbrev cX6_anchor : ByteArray := prog_1_method_5_code
def yX6_anchor : MethodName := ⟨RX6, "anchor", "(IIIII)I"⟩
abbrev cX6_pixel : ByteArray := prog_1_method_6_code
def yX6_pixel : MethodName := ⟨RX6, "pixel", "(IIII)I"⟩
abbrev cX6_drive : ByteArray := prog_1_method_7_code
def yX6_drive : MethodName := ⟨RX6, "drive", "(III)I"⟩
abbrev cX6_program : ByteArray := prog_1_method_8_code
def yX6_program : MethodName := ⟨RX6, "program", "(IIII)I"⟩
abbrev cX6_tick : ByteArray := prog_1_method_9_code
def yX6_tick : MethodName := ⟨RX6, "tick", "(I)I"⟩
abbrev cX6_plates : ByteArray := prog_1_method_10_code
def yX6_plates : MethodName := ⟨RX6, "plates", "(I)I"⟩
abbrev cX6_picture : ByteArray := prog_1_method_11_code
def yX6_picture : MethodName := ⟨RX6, "picture", "()I"⟩
abbrev cX6_now : ByteArray := prog_1_method_12_code
def yX6_now : MethodName := ⟨RX6, "now", "()I"⟩
abbrev cX6_told : ByteArray := prog_1_method_13_code
def yX6_told : MethodName := ⟨RX6, "told", "(III)I"⟩
abbrev cX6_energy : ByteArray := prog_1_method_14_code
def yX6_energy : MethodName := ⟨RX6, "energy", "()I"⟩
abbrev cX6_energyAnew : ByteArray := prog_1_method_15_code
def yX6_energyAnew : MethodName := ⟨RX6, "energyAnew", "()I"⟩
abbrev cX6_spent : ByteArray := prog_1_method_16_code
def yX6_spent : MethodName := ⟨RX6, "spent", "(Z)I"⟩
abbrev cX6_least : ByteArray := prog_1_method_17_code
def yX6_least : MethodName := ⟨RX6, "least", "(IIZ)I"⟩
abbrev cX6_winding : ByteArray := prog_1_method_18_code
def yX6_winding : MethodName := ⟨RX6, "winding", "(II)I"⟩
abbrev cX6_within : ByteArray := prog_1_method_19_code
def yX6_within : MethodName := ⟨RX6, "within", "(IIII)I"⟩
abbrev cX6_border : ByteArray := prog_1_method_20_code
def yX6_border : MethodName := ⟨RX6, "border", "(IIII)I"⟩
abbrev cX6_defects : ByteArray := prog_1_method_21_code
def yX6_defects : MethodName := ⟨RX6, "defects", "()I"⟩
abbrev cX6_defect : ByteArray := prog_1_method_22_code
def yX6_defect : MethodName := ⟨RX6, "defect", "(II)I"⟩
abbrev cX6_ofPixel : ByteArray := prog_1_method_23_code
def yX6_ofPixel : MethodName := ⟨RX6, "ofPixel", "(II)I"⟩
abbrev cX6_pictured : ByteArray := prog_1_method_24_code
def yX6_pictured : MethodName := ⟨RX6, "pictured", "(III)I"⟩
abbrev cX6_ghosts : ByteArray := prog_1_method_25_code
def yX6_ghosts : MethodName := ⟨RX6, "ghosts", "(I)I"⟩
abbrev cX6_guesses : ByteArray := prog_1_method_26_code
def yX6_guesses : MethodName := ⟨RX6, "guesses", "(III)I"⟩
abbrev cX6_beginAnew : ByteArray := prog_1_method_27_code
def yX6_beginAnew : MethodName := ⟨RX6, "beginAnew", "(II)V"⟩
abbrev cX6_worked : ByteArray := prog_1_method_28_code
def yX6_worked : MethodName := ⟨RX6, "worked", "(I)I"⟩
abbrev cX6_noteGreys : ByteArray := prog_1_method_29_code
def yX6_noteGreys : MethodName := ⟨RX6, "noteGreys", "()V"⟩
abbrev cX6_isIn : ByteArray := prog_1_method_30_code
def yX6_isIn : MethodName := ⟨RX6, "isIn", "(III)Z"⟩
abbrev cX6_isDirection : ByteArray := prog_1_method_31_code
def yX6_isDirection : MethodName := ⟨RX6, "isDirection", "(I)Z"⟩
abbrev cX6_onFrom : ByteArray := prog_1_method_32_code
def yX6_onFrom : MethodName := ⟨RX6, "onFrom", "(II)I"⟩
abbrev cX6_squareApart : ByteArray := prog_1_method_33_code
def yX6_squareApart : MethodName := ⟨RX6, "squareApart", "(II)I"⟩
abbrev cX6_greyOf : ByteArray := prog_1_method_34_code
def yX6_greyOf : MethodName := ⟨RX6, "greyOf", "(II)I"⟩
abbrev cX6_numberOf : ByteArray := prog_1_method_35_code
def yX6_numberOf : MethodName := ⟨RX6, "numberOf", "(II)I"⟩
def RX7 : String := "NemaGridModel"
def TX7 : u_T := fun k => match k with
  | 0 => ("NemaGridModel", "thrown", "I", false)
  | 1 => ("NemaGridModel", "width", "I", false)
  | 2 => ("NemaGridModel", "height", "I", false)
  | 3 => ("NemaGridModel", "across", "I", false)
  | 4 => ("NemaGridModel", "down", "I", false)
  | 5 => ("NemaGridModel", "plates", "I", false)
  | 6 => ("NemaGridModel", "now", "I", false)
  | 7 => ("NemaGridModel", "work", "I", false)
  | 8 => ("NemaGridModel", "heat", "I", false)
  | 9 => ("NemaGridModel", "direction", "[I", true)
  | 10 => ("NemaGridModel", "kind", "[I", true)
  | 11 => ("NemaGridModel", "anchorTo", "[I", true)
  | 12 => ("NemaGridModel", "strength", "[I", true)
  | 13 => ("NemaGridModel", "pixelOf", "[I", true)
  | 14 => ("NemaGridModel", "pixels", "I", false)
  | 15 => ("NemaGridModel", "fieldTo", "[I", true)
  | 16 => ("NemaGridModel", "fieldStrength", "[I", true)
  | 17 => ("NemaGridModel", "notes", "[I", true)
  | 18 => ("NemaGridModel", "noted", "[I", true)
  | 19 => ("NemaGridModel", "drives", "I", false)
  | 20 => ("NemaGridModel", "drivePixel", "[I", true)
  | 21 => ("NemaGridModel", "driveTick", "[I", true)
  | 22 => ("NemaGridModel", "driveTo", "[I", true)
  | 23 => ("NemaGridModel", "driveStrength", "[I", true)
  | 24 => ("NemaGridModel", "pictures", "I", false)
  | 25 => ("NemaGridModel", "picturePlates", "[I", true)
  | _ => ("NemaGridModel", "pictureGrey", "[I", true)
def tyX7 : Nat → FieldType := fun k => match k with
  | 0 => .int
  | 1 => .int
  | 2 => .int
  | 3 => .int
  | 4 => .int
  | 5 => .int
  | 6 => .int
  | 7 => .int
  | 8 => .int
  | 9 => .array .int
  | 10 => .array .int
  | 11 => .array .int
  | 12 => .array .int
  | 13 => .array .int
  | 14 => .int
  | 15 => .array .int
  | 16 => .array .int
  | 17 => .array .int
  | 18 => .array .int
  | 19 => .int
  | 20 => .array .int
  | 21 => .array .int
  | 22 => .array .int
  | 23 => .array .int
  | 24 => .int
  | 25 => .array .int
  | _ => .array .int
abbrev wsX70 : List Cond := u_ws RX7 TX7 27
theorem nmX7 : ∀ a, a < 27 → ∀ b, b < 27 → a ≠ b → (TX7 a).2.1 ≠ (TX7 b).2.1 := by decide +kernel
theorem tyX7_ok : ∀ k, k < 27 → parseFieldDescriptor (TX7 k).2.2.1 = some (tyX7 k) := by decide +kernel
abbrev cX7_init : ByteArray := prog_9_method_1_code
def yX7_init : MethodName := ⟨RX7, "<init>", "()V"⟩
abbrev cX7_begin : ByteArray := prog_9_method_2_code
def yX7_begin : MethodName := ⟨RX7, "begin", "()V"⟩
abbrev cX7_thrown : ByteArray := prog_9_method_3_code
def yX7_thrown : MethodName := ⟨RX7, "thrown", "()I"⟩
abbrev cX7_stop : ByteArray := prog_9_method_4_code
def yX7_stop : MethodName := ⟨RX7, "stop", "(I)I"⟩
abbrev cX7_in : ByteArray := prog_9_method_5_code
def yX7_in : MethodName := ⟨RX7, "in", "(III)Z"⟩
abbrev cX7_isCell : ByteArray := prog_9_method_6_code
def yX7_isCell : MethodName := ⟨RX7, "isCell", "(II)Z"⟩
abbrev cX7_cell : ByteArray := prog_9_method_7_code
def yX7_cell : MethodName := ⟨RX7, "cell", "(II)I"⟩
abbrev cX7_on : ByteArray := prog_9_method_8_code
def yX7_on : MethodName := ⟨RX7, "on", "(II)I"⟩
abbrev cX7_apart : ByteArray := prog_9_method_9_code
def yX7_apart : MethodName := ⟨RX7, "apart", "(II)I"⟩
abbrev cX7_square : ByteArray := prog_9_method_10_code
def yX7_square : MethodName := ⟨RX7, "square", "(II)I"⟩
abbrev cX7_own : ByteArray := prog_9_method_11_code
def yX7_own : MethodName := ⟨RX7, "own", "(III)I"⟩
abbrev cX7_pair : ByteArray := prog_9_method_12_code
def yX7_pair : MethodName := ⟨RX7, "pair", "(IIIII)I"⟩
abbrev cX7_withAll : ByteArray := prog_9_method_13_code
def yX7_withAll : MethodName := ⟨RX7, "withAll", "(III)I"⟩
abbrev cX7_all : ByteArray := prog_9_method_14_code
def yX7_all : MethodName := ⟨RX7, "all", "()I"⟩
abbrev cX7_worked : ByteArray := prog_9_method_15_code
def yX7_worked : MethodName := ⟨RX7, "worked", "(I)I"⟩
abbrev cX7_grid : ByteArray := prog_9_method_16_code
def yX7_grid : MethodName := ⟨RX7, "grid", "(II)V"⟩
abbrev cX7_costs : ByteArray := prog_9_method_17_code
def yX7_costs : MethodName := ⟨RX7, "costs", "(II)I"⟩
abbrev cX7_isDirection : ByteArray := prog_9_method_18_code
def yX7_isDirection : MethodName := ⟨RX7, "isDirection", "(I)Z"⟩
abbrev cX7_turn : ByteArray := prog_9_method_19_code
def yX7_turn : MethodName := ⟨RX7, "turn", "(III)I"⟩
abbrev cX7_anchor : ByteArray := prog_9_method_20_code
def yX7_anchor : MethodName := ⟨RX7, "anchor", "(IIIII)I"⟩
abbrev cX7_pixel : ByteArray := prog_9_method_21_code
def yX7_pixel : MethodName := ⟨RX7, "pixel", "(IIII)I"⟩
abbrev cX7_isPixel : ByteArray := prog_9_method_22_code
def yX7_isPixel : MethodName := ⟨RX7, "isPixel", "(I)Z"⟩
abbrev cX7_driven : ByteArray := prog_9_method_23_code
def yX7_driven : MethodName := ⟨RX7, "driven", "(III)I"⟩
abbrev cX7_drive : ByteArray := prog_9_method_24_code
def yX7_drive : MethodName := ⟨RX7, "drive", "(III)I"⟩
abbrev cX7_program : ByteArray := prog_9_method_25_code
def yX7_program : MethodName := ⟨RX7, "program", "(IIII)I"⟩
abbrev cX7_driveAll : ByteArray := prog_9_method_26_code
def yX7_driveAll : MethodName := ⟨RX7, "driveAll", "()V"⟩
abbrev cX7_relax : ByteArray := prog_9_method_27_code
def yX7_relax : MethodName := ⟨RX7, "relax", "(II)I"⟩
abbrev cX7_greyOf : ByteArray := prog_9_method_28_code
def yX7_greyOf : MethodName := ⟨RX7, "greyOf", "(I)I"⟩
abbrev cX7_greyAt : ByteArray := prog_9_method_29_code
def yX7_greyAt : MethodName := ⟨RX7, "greyAt", "(III)I"⟩
abbrev cX7_greyOfPixel : ByteArray := prog_9_method_30_code
def yX7_greyOfPixel : MethodName := ⟨RX7, "greyOfPixel", "(I)I"⟩
abbrev cX7_tick : ByteArray := prog_9_method_31_code
def yX7_tick : MethodName := ⟨RX7, "tick", "(I)I"⟩
abbrev cX7_plates : ByteArray := prog_9_method_32_code
def yX7_plates : MethodName := ⟨RX7, "plates", "(I)I"⟩
abbrev cX7_picture : ByteArray := prog_9_method_33_code
def yX7_picture : MethodName := ⟨RX7, "picture", "()I"⟩
abbrev cX7_now : ByteArray := prog_9_method_34_code
def yX7_now : MethodName := ⟨RX7, "now", "()I"⟩
abbrev cX7_told : ByteArray := prog_9_method_35_code
def yX7_told : MethodName := ⟨RX7, "told", "(III)I"⟩
abbrev cX7_energy : ByteArray := prog_9_method_36_code
def yX7_energy : MethodName := ⟨RX7, "energy", "()I"⟩
abbrev cX7_energyAnew : ByteArray := prog_9_method_37_code
def yX7_energyAnew : MethodName := ⟨RX7, "energyAnew", "()I"⟩
abbrev cX7_spent : ByteArray := prog_9_method_38_code
def yX7_spent : MethodName := ⟨RX7, "spent", "(Z)I"⟩
abbrev cX7_least : ByteArray := prog_9_method_39_code
def yX7_least : MethodName := ⟨RX7, "least", "(IIZ)I"⟩
abbrev cX7_directionAt : ByteArray := prog_9_method_40_code
def yX7_directionAt : MethodName := ⟨RX7, "directionAt", "(II)I"⟩
abbrev cX7_windingAt : ByteArray := prog_9_method_41_code
def yX7_windingAt : MethodName := ⟨RX7, "windingAt", "(II)I"⟩
abbrev cX7_winding : ByteArray := prog_9_method_42_code
def yX7_winding : MethodName := ⟨RX7, "winding", "(II)I"⟩
abbrev cX7_isRefused : ByteArray := prog_9_method_43_code
def yX7_isRefused : MethodName := ⟨RX7, "isRefused", "(IIII)Z"⟩
abbrev cX7_within : ByteArray := prog_9_method_44_code
def yX7_within : MethodName := ⟨RX7, "within", "(IIII)I"⟩
abbrev cX7_border : ByteArray := prog_9_method_45_code
def yX7_border : MethodName := ⟨RX7, "border", "(IIII)I"⟩
abbrev cX7_defects : ByteArray := prog_9_method_46_code
def yX7_defects : MethodName := ⟨RX7, "defects", "()I"⟩
abbrev cX7_defect : ByteArray := prog_9_method_47_code
def yX7_defect : MethodName := ⟨RX7, "defect", "(II)I"⟩
abbrev cX7_flickers : ByteArray := prog_9_method_48_code
def yX7_flickers : MethodName := ⟨RX7, "flickers", "(I)I"⟩
abbrev cX7_isGood : ByteArray := prog_9_method_49_code
def yX7_isGood : MethodName := ⟨RX7, "isGood", "(I)Z"⟩
abbrev cX7_ofPixel : ByteArray := prog_9_method_50_code
def yX7_ofPixel : MethodName := ⟨RX7, "ofPixel", "(II)I"⟩
abbrev cX7_pictured : ByteArray := prog_9_method_51_code
def yX7_pictured : MethodName := ⟨RX7, "pictured", "(III)I"⟩
abbrev cX7_ghosts : ByteArray := prog_9_method_52_code
def yX7_ghosts : MethodName := ⟨RX7, "ghosts", "(I)I"⟩
abbrev cX7_guesses : ByteArray := prog_9_method_53_code
def yX7_guesses : MethodName := ⟨RX7, "guesses", "(III)I"⟩
def RJ9 : String := "java/lang/Math"
def TJ9 : u_T := fun k => match k with
  | _ => ("", "", "", false)
def tyJ9 : Nat → FieldType := fun k => match k with
  | _ => .int
abbrev wsJ90 : List Cond := u_ws RJ9 TJ9 0
theorem nmJ9 : ∀ a, a < 0 → ∀ b, b < 0 → a ≠ b → (TJ9 a).2.1 ≠ (TJ9 b).2.1 := by decide +kernel
theorem tyJ9_ok : ∀ k, k < 0 → parseFieldDescriptor (TJ9 k).2.2.1 = some (tyJ9 k) := by decide +kernel
abbrev cJ9_floorDiv_7cf53 : ByteArray := prog_14_method_47_code
def yJ9_floorDiv_7cf53 : MethodName := ⟨RJ9, "floorDiv", "(II)I"⟩
abbrev cJ9_abs_0f7a4 : ByteArray := prog_14_method_59_code
def yJ9_abs_0f7a4 : MethodName := ⟨RJ9, "abs", "(I)I"⟩
abbrev cJ9_max_7cf53 : ByteArray := prog_14_method_65_code
def yJ9_max_7cf53 : MethodName := ⟨RJ9, "max", "(II)I"⟩
abbrev cJ9_min_7cf53 : ByteArray := prog_14_method_69_code
def yJ9_min_7cf53 : MethodName := ⟨RJ9, "min", "(II)I"⟩
def RJ0 : String := "java/lang/String"
def TJ0 : u_T := fun k => match k with
  | _ => ("", "", "", false)
def tyJ0 : Nat → FieldType := fun k => match k with
  | _ => .int
abbrev wsJ00 : List Cond := u_ws RJ0 TJ0 0
theorem nmJ0 : ∀ a, a < 0 → ∀ b, b < 0 → a ≠ b → (TJ0 a).2.1 ≠ (TJ0 b).2.1 := by decide +kernel
theorem tyJ0_ok : ∀ k, k < 0 → parseFieldDescriptor (TJ0 k).2.2.1 = some (tyJ0 k) := by decide +kernel
def RL : String := "NemaGridLaw"
abbrev cL_grid : ByteArray := method_3_code
def yL_grid : MethodName := ⟨RL, "grid", "(LNemaGrid;II)I"⟩
abbrev cL_costs : ByteArray := method_4_code
def yL_costs : MethodName := ⟨RL, "costs", "(LNemaGrid;II[J)I"⟩
abbrev cL_turn : ByteArray := method_5_code
def yL_turn : MethodName := ⟨RL, "turn", "(LNemaGrid;III[J)I"⟩
abbrev cL_anchor : ByteArray := method_6_code
def yL_anchor : MethodName := ⟨RL, "anchor", "(LNemaGrid;IIIII[J)I"⟩
abbrev cL_pixel : ByteArray := method_7_code
def yL_pixel : MethodName := ⟨RL, "pixel", "(LNemaGrid;IIII[J)I"⟩
abbrev cL_drive : ByteArray := method_8_code
def yL_drive : MethodName := ⟨RL, "drive", "(LNemaGrid;III[J)I"⟩
abbrev cL_program : ByteArray := method_9_code
def yL_program : MethodName := ⟨RL, "program", "(LNemaGrid;IIII[J)I"⟩
abbrev cL_tick : ByteArray := method_10_code
def yL_tick : MethodName := ⟨RL, "tick", "(LNemaGrid;I[J)I"⟩
abbrev cL_plates : ByteArray := method_11_code
def yL_plates : MethodName := ⟨RL, "plates", "(LNemaGrid;I[J)I"⟩
abbrev cL_picture : ByteArray := method_12_code
def yL_picture : MethodName := ⟨RL, "picture", "(LNemaGrid;[J)I"⟩
abbrev cL_told : ByteArray := method_13_code
def yL_told : MethodName := ⟨RL, "told", "(LNemaGrid;III[J)I"⟩
abbrev cL_least : ByteArray := method_14_code
def yL_least : MethodName := ⟨RL, "least", "(LNemaGrid;IIZ[J)I"⟩
abbrev cL_winding : ByteArray := method_15_code
def yL_winding : MethodName := ⟨RL, "winding", "(LNemaGrid;II[J)I"⟩
abbrev cL_within : ByteArray := method_16_code
def yL_within : MethodName := ⟨RL, "within", "(LNemaGrid;IIII[J)I"⟩
abbrev cL_border : ByteArray := method_17_code
def yL_border : MethodName := ⟨RL, "border", "(LNemaGrid;IIII[J)I"⟩
abbrev cL_defect : ByteArray := method_18_code
def yL_defect : MethodName := ⟨RL, "defect", "(LNemaGrid;II[J)I"⟩
abbrev cL_ofPixel : ByteArray := method_19_code
def yL_ofPixel : MethodName := ⟨RL, "ofPixel", "(LNemaGrid;II[J)I"⟩
abbrev cL_pictured : ByteArray := method_20_code
def yL_pictured : MethodName := ⟨RL, "pictured", "(LNemaGrid;III[J)I"⟩
abbrev cL_ghosts : ByteArray := method_21_code
def yL_ghosts : MethodName := ⟨RL, "ghosts", "(LNemaGrid;I[J)I"⟩
abbrev cL_guesses : ByteArray := method_22_code
def yL_guesses : MethodName := ⟨RL, "guesses", "(LNemaGrid;III[J)I"⟩
abbrev cL_law : ByteArray := code
def yL_law : MethodName := ⟨RL, "law", "([I)Z"⟩
end
section
theorem dX0_init_0 : decode cX0_init 0 = .ok (.aload_n 0, 1) := by decide +kernel
theorem dX0_init_1 : decode cX0_init 1 = .ok (.invokespecial 3, 3) := by decide +kernel
theorem dX0_init_4 : decode cX0_init 4 = .ok (.aload_n 0, 1) := by decide +kernel
theorem dX0_init_5 : decode cX0_init 5 = .ok (.new 9, 3) := by decide +kernel
theorem dX0_init_8 : decode cX0_init 8 = .ok (.dup, 1) := by decide +kernel
theorem dX0_init_9 : decode cX0_init 9 = .ok (.bipush 40, 2) := by decide +kernel
theorem dX0_init_11 : decode cX0_init 11 = .ok (.invokespecial 11, 3) := by decide +kernel
theorem dX0_init_14 : decode cX0_init 14 = .ok (.putfield 14, 3) := by decide +kernel
theorem dX0_init_17 : decode cX0_init 17 = .ok (.aload_n 0, 1) := by decide +kernel
theorem dX0_init_18 : decode cX0_init 18 = .ok (.new 9, 3) := by decide +kernel
theorem dX0_init_21 : decode cX0_init 21 = .ok (.dup, 1) := by decide +kernel
theorem dX0_init_22 : decode cX0_init 22 = .ok (.bipush 40, 2) := by decide +kernel
theorem dX0_init_24 : decode cX0_init 24 = .ok (.invokespecial 11, 3) := by decide +kernel
theorem dX0_init_27 : decode cX0_init 27 = .ok (.putfield 20, 3) := by decide +kernel
theorem dX0_init_30 : decode cX0_init 30 = .ok (.aload_n 0, 1) := by decide +kernel
theorem dX0_init_31 : decode cX0_init 31 = .ok (.new 9, 3) := by decide +kernel
theorem dX0_init_34 : decode cX0_init 34 = .ok (.dup, 1) := by decide +kernel
theorem dX0_init_35 : decode cX0_init 35 = .ok (.bipush 40, 2) := by decide +kernel
theorem dX0_init_37 : decode cX0_init 37 = .ok (.invokespecial 11, 3) := by decide +kernel
theorem dX0_init_40 : decode cX0_init 40 = .ok (.putfield 23, 3) := by decide +kernel
theorem dX0_init_43 : decode cX0_init 43 = .ok (.aload_n 0, 1) := by decide +kernel
theorem dX0_init_44 : decode cX0_init 44 = .ok (.new 9, 3) := by decide +kernel
theorem dX0_init_47 : decode cX0_init 47 = .ok (.dup, 1) := by decide +kernel
theorem dX0_init_48 : decode cX0_init 48 = .ok (.bipush 40, 2) := by decide +kernel
theorem dX0_init_50 : decode cX0_init 50 = .ok (.invokespecial 11, 3) := by decide +kernel
theorem dX0_init_53 : decode cX0_init 53 = .ok (.putfield 26, 3) := by decide +kernel
theorem dX0_init_56 : decode cX0_init 56 = .ok (.return_, 1) := by decide +kernel
theorem dX0_add_0 : decode cX0_add 0 = .ok (.aload_n 0, 1) := by decide +kernel
theorem dX0_add_1 : decode cX0_add 1 = .ok (.aload_n 0, 1) := by decide +kernel
theorem dX0_add_2 : decode cX0_add 2 = .ok (.getfield 29, 3) := by decide +kernel
theorem dX0_add_5 : decode cX0_add 5 = .ok (.iload_n 1, 1) := by decide +kernel
theorem dX0_add_6 : decode cX0_add 6 = .ok (.iload_n 2, 1) := by decide +kernel
theorem dX0_add_7 : decode cX0_add 7 = .ok (.iload_n 3, 1) := by decide +kernel
theorem dX0_add_8 : decode cX0_add 8 = .ok (.iload 4, 2) := by decide +kernel
theorem dX0_add_10 : decode cX0_add 10 = .ok (.invokevirtual 33, 3) := by decide +kernel
theorem dX0_add_13 : decode cX0_add 13 = .ok (.aload_n 0, 1) := by decide +kernel
theorem dX0_add_14 : decode cX0_add 14 = .ok (.dup, 1) := by decide +kernel
theorem dX0_add_15 : decode cX0_add 15 = .ok (.getfield 29, 3) := by decide +kernel
theorem dX0_add_18 : decode cX0_add 18 = .ok (.iconst 1, 1) := by decide +kernel
theorem dX0_add_19 : decode cX0_add 19 = .ok (.iadd, 1) := by decide +kernel
theorem dX0_add_20 : decode cX0_add 20 = .ok (.putfield 29, 3) := by decide +kernel
theorem dX0_add_23 : decode cX0_add 23 = .ok (.aload_n 0, 1) := by decide +kernel
theorem dX0_add_24 : decode cX0_add 24 = .ok (.getfield 29, 3) := by decide +kernel
theorem dX0_add_27 : decode cX0_add 27 = .ok (.ireturn, 1) := by decide +kernel
theorem dX0_put_0 : decode cX0_put 0 = .ok (.aload_n 0, 1) := by decide +kernel
theorem dX0_put_1 : decode cX0_put 1 = .ok (.getfield 14, 3) := by decide +kernel
theorem dX0_put_4 : decode cX0_put 4 = .ok (.iload_n 1, 1) := by decide +kernel
theorem dX0_put_5 : decode cX0_put 5 = .ok (.iload_n 2, 1) := by decide +kernel
theorem dX0_put_6 : decode cX0_put 6 = .ok (.invokevirtual 37, 3) := by decide +kernel
theorem dX0_put_9 : decode cX0_put 9 = .ok (.aload_n 0, 1) := by decide +kernel
theorem dX0_put_10 : decode cX0_put 10 = .ok (.getfield 20, 3) := by decide +kernel
theorem dX0_put_13 : decode cX0_put 13 = .ok (.iload_n 1, 1) := by decide +kernel
theorem dX0_put_14 : decode cX0_put 14 = .ok (.iload_n 3, 1) := by decide +kernel
theorem dX0_put_15 : decode cX0_put 15 = .ok (.invokevirtual 37, 3) := by decide +kernel
theorem dX0_put_18 : decode cX0_put 18 = .ok (.aload_n 0, 1) := by decide +kernel
theorem dX0_put_19 : decode cX0_put 19 = .ok (.getfield 23, 3) := by decide +kernel
theorem dX0_put_22 : decode cX0_put 22 = .ok (.iload_n 1, 1) := by decide +kernel
theorem dX0_put_23 : decode cX0_put 23 = .ok (.iload 4, 2) := by decide +kernel
theorem dX0_put_25 : decode cX0_put 25 = .ok (.invokevirtual 37, 3) := by decide +kernel
theorem dX0_put_28 : decode cX0_put 28 = .ok (.aload_n 0, 1) := by decide +kernel
theorem dX0_put_29 : decode cX0_put 29 = .ok (.getfield 26, 3) := by decide +kernel
theorem dX0_put_32 : decode cX0_put 32 = .ok (.iload_n 1, 1) := by decide +kernel
theorem dX0_put_33 : decode cX0_put 33 = .ok (.iload 5, 2) := by decide +kernel
theorem dX0_put_35 : decode cX0_put 35 = .ok (.invokevirtual 37, 3) := by decide +kernel
theorem dX0_put_38 : decode cX0_put 38 = .ok (.return_, 1) := by decide +kernel
theorem dX0_comeAt_0 : decode cX0_comeAt 0 = .ok (.iconst 0, 1) := by decide +kernel
theorem dX0_comeAt_1 : decode cX0_comeAt 1 = .ok (.istore_n 3, 1) := by decide +kernel
theorem dX0_comeAt_2 : decode cX0_comeAt 2 = .ok (.iconst 0, 1) := by decide +kernel
theorem dX0_comeAt_3 : decode cX0_comeAt 3 = .ok (.istore 4, 2) := by decide +kernel
theorem dX0_comeAt_5 : decode cX0_comeAt 5 = .ok (.iconst 0, 1) := by decide +kernel
theorem dX0_comeAt_6 : decode cX0_comeAt 6 = .ok (.istore 5, 2) := by decide +kernel
theorem dX0_comeAt_8 : decode cX0_comeAt 8 = .ok (.iload 5, 2) := by decide +kernel
theorem dX0_comeAt_10 : decode cX0_comeAt 10 = .ok (.aload_n 0, 1) := by decide +kernel
theorem dX0_comeAt_11 : decode cX0_comeAt 11 = .ok (.getfield 29, 3) := by decide +kernel
theorem dX0_comeAt_14 : decode cX0_comeAt 14 = .ok (.if_icmp .ge 104, 3) := by decide +kernel
theorem dX0_comeAt_17 : decode cX0_comeAt 17 = .ok (.aload_n 0, 1) := by decide +kernel
theorem dX0_comeAt_18 : decode cX0_comeAt 18 = .ok (.getfield 20, 3) := by decide +kernel
theorem dX0_comeAt_21 : decode cX0_comeAt 21 = .ok (.iload 5, 2) := by decide +kernel
theorem dX0_comeAt_23 : decode cX0_comeAt 23 = .ok (.invokevirtual 40, 3) := by decide +kernel
theorem dX0_comeAt_26 : decode cX0_comeAt 26 = .ok (.iload_n 1, 1) := by decide +kernel
theorem dX0_comeAt_27 : decode cX0_comeAt 27 = .ok (.if_icmp .ne 40, 3) := by decide +kernel
theorem dX0_comeAt_30 : decode cX0_comeAt 30 = .ok (.iload_n 3, 1) := by decide +kernel
theorem dX0_comeAt_31 : decode cX0_comeAt 31 = .ok (.aload_n 2, 1) := by decide +kernel
theorem dX0_comeAt_32 : decode cX0_comeAt 32 = .ok (.aload_n 0, 1) := by decide +kernel
theorem dX0_comeAt_33 : decode cX0_comeAt 33 = .ok (.getfield 14, 3) := by decide +kernel
theorem dX0_comeAt_36 : decode cX0_comeAt 36 = .ok (.iload 5, 2) := by decide +kernel
theorem dX0_comeAt_38 : decode cX0_comeAt 38 = .ok (.invokevirtual 40, 3) := by decide +kernel
theorem dX0_comeAt_41 : decode cX0_comeAt 41 = .ok (.aload_n 0, 1) := by decide +kernel
theorem dX0_comeAt_42 : decode cX0_comeAt 42 = .ok (.getfield 23, 3) := by decide +kernel
theorem dX0_comeAt_45 : decode cX0_comeAt 45 = .ok (.iload 5, 2) := by decide +kernel
theorem dX0_comeAt_47 : decode cX0_comeAt 47 = .ok (.invokevirtual 40, 3) := by decide +kernel
theorem dX0_comeAt_50 : decode cX0_comeAt 50 = .ok (.aload_n 0, 1) := by decide +kernel
theorem dX0_comeAt_51 : decode cX0_comeAt 51 = .ok (.getfield 26, 3) := by decide +kernel
theorem dX0_comeAt_54 : decode cX0_comeAt 54 = .ok (.iload 5, 2) := by decide +kernel
theorem dX0_comeAt_56 : decode cX0_comeAt 56 = .ok (.invokevirtual 40, 3) := by decide +kernel
theorem dX0_comeAt_59 : decode cX0_comeAt 59 = .ok (.invokevirtual 44, 3) := by decide +kernel
theorem dX0_comeAt_62 : decode cX0_comeAt 62 = .ok (.iadd, 1) := by decide +kernel
theorem dX0_comeAt_63 : decode cX0_comeAt 63 = .ok (.istore_n 3, 1) := by decide +kernel
theorem dX0_comeAt_64 : decode cX0_comeAt 64 = .ok (.goto 48, 3) := by decide +kernel
theorem dX0_comeAt_67 : decode cX0_comeAt 67 = .ok (.aload_n 0, 1) := by decide +kernel
theorem dX0_comeAt_68 : decode cX0_comeAt 68 = .ok (.iload 4, 2) := by decide +kernel
theorem dX0_comeAt_70 : decode cX0_comeAt 70 = .ok (.aload_n 0, 1) := by decide +kernel
theorem dX0_comeAt_71 : decode cX0_comeAt 71 = .ok (.getfield 14, 3) := by decide +kernel
theorem dX0_comeAt_74 : decode cX0_comeAt 74 = .ok (.iload 5, 2) := by decide +kernel
theorem dX0_comeAt_76 : decode cX0_comeAt 76 = .ok (.invokevirtual 40, 3) := by decide +kernel
theorem dX0_comeAt_79 : decode cX0_comeAt 79 = .ok (.aload_n 0, 1) := by decide +kernel
theorem dX0_comeAt_80 : decode cX0_comeAt 80 = .ok (.getfield 20, 3) := by decide +kernel
theorem dX0_comeAt_83 : decode cX0_comeAt 83 = .ok (.iload 5, 2) := by decide +kernel
theorem dX0_comeAt_85 : decode cX0_comeAt 85 = .ok (.invokevirtual 40, 3) := by decide +kernel
theorem dX0_comeAt_88 : decode cX0_comeAt 88 = .ok (.aload_n 0, 1) := by decide +kernel
theorem dX0_comeAt_89 : decode cX0_comeAt 89 = .ok (.getfield 23, 3) := by decide +kernel
theorem dX0_comeAt_92 : decode cX0_comeAt 92 = .ok (.iload 5, 2) := by decide +kernel
theorem dX0_comeAt_94 : decode cX0_comeAt 94 = .ok (.invokevirtual 40, 3) := by decide +kernel
theorem dX0_comeAt_97 : decode cX0_comeAt 97 = .ok (.aload_n 0, 1) := by decide +kernel
theorem dX0_comeAt_98 : decode cX0_comeAt 98 = .ok (.getfield 26, 3) := by decide +kernel
theorem dX0_comeAt_101 : decode cX0_comeAt 101 = .ok (.iload 5, 2) := by decide +kernel
theorem dX0_comeAt_103 : decode cX0_comeAt 103 = .ok (.invokevirtual 40, 3) := by decide +kernel
theorem dX0_comeAt_106 : decode cX0_comeAt 106 = .ok (.invokevirtual 33, 3) := by decide +kernel
theorem dX0_comeAt_109 : decode cX0_comeAt 109 = .ok (.iinc 4 1, 3) := by decide +kernel
theorem dX0_comeAt_112 : decode cX0_comeAt 112 = .ok (.iinc 5 1, 3) := by decide +kernel
theorem dX0_comeAt_115 : decode cX0_comeAt 115 = .ok (.goto (-107), 3) := by decide +kernel
theorem dX0_comeAt_118 : decode cX0_comeAt 118 = .ok (.aload_n 0, 1) := by decide +kernel
theorem dX0_comeAt_119 : decode cX0_comeAt 119 = .ok (.iload 4, 2) := by decide +kernel
theorem dX0_comeAt_121 : decode cX0_comeAt 121 = .ok (.putfield 29, 3) := by decide +kernel
theorem dX0_comeAt_124 : decode cX0_comeAt 124 = .ok (.iload_n 3, 1) := by decide +kernel
theorem dX0_comeAt_125 : decode cX0_comeAt 125 = .ok (.ireturn, 1) := by decide +kernel
theorem dX1_init_0 : decode cX1_init 0 = .ok (.aload_n 0, 1) := by decide +kernel
theorem dX1_init_1 : decode cX1_init 1 = .ok (.invokespecial 3, 3) := by decide +kernel
theorem dX1_init_4 : decode cX1_init 4 = .ok (.aload_n 0, 1) := by decide +kernel
theorem dX1_init_5 : decode cX1_init 5 = .ok (.new 9, 3) := by decide +kernel
theorem dX1_init_8 : decode cX1_init 8 = .ok (.dup, 1) := by decide +kernel
theorem dX1_init_9 : decode cX1_init 9 = .ok (.sipush 144, 3) := by decide +kernel
theorem dX1_init_12 : decode cX1_init 12 = .ok (.invokespecial 11, 3) := by decide +kernel
theorem dX1_init_15 : decode cX1_init 15 = .ok (.putfield 14, 3) := by decide +kernel
theorem dX1_init_18 : decode cX1_init 18 = .ok (.aload_n 0, 1) := by decide +kernel
theorem dX1_init_19 : decode cX1_init 19 = .ok (.new 9, 3) := by decide +kernel
theorem dX1_init_22 : decode cX1_init 22 = .ok (.dup, 1) := by decide +kernel
theorem dX1_init_23 : decode cX1_init 23 = .ok (.sipush 144, 3) := by decide +kernel
theorem dX1_init_26 : decode cX1_init 26 = .ok (.invokespecial 11, 3) := by decide +kernel
theorem dX1_init_29 : decode cX1_init 29 = .ok (.putfield 20, 3) := by decide +kernel
theorem dX1_init_32 : decode cX1_init 32 = .ok (.aload_n 0, 1) := by decide +kernel
theorem dX1_init_33 : decode cX1_init 33 = .ok (.new 9, 3) := by decide +kernel
theorem dX1_init_36 : decode cX1_init 36 = .ok (.dup, 1) := by decide +kernel
theorem dX1_init_37 : decode cX1_init 37 = .ok (.sipush 144, 3) := by decide +kernel
theorem dX1_init_40 : decode cX1_init 40 = .ok (.invokespecial 11, 3) := by decide +kernel
theorem dX1_init_43 : decode cX1_init 43 = .ok (.putfield 23, 3) := by decide +kernel
theorem dX1_init_46 : decode cX1_init 46 = .ok (.aload_n 0, 1) := by decide +kernel
theorem dX1_init_47 : decode cX1_init 47 = .ok (.new 9, 3) := by decide +kernel
theorem dX1_init_50 : decode cX1_init 50 = .ok (.dup, 1) := by decide +kernel
theorem dX1_init_51 : decode cX1_init 51 = .ok (.sipush 144, 3) := by decide +kernel
theorem dX1_init_54 : decode cX1_init 54 = .ok (.invokespecial 11, 3) := by decide +kernel
theorem dX1_init_57 : decode cX1_init 57 = .ok (.putfield 26, 3) := by decide +kernel
theorem dX1_init_60 : decode cX1_init 60 = .ok (.aload_n 0, 1) := by decide +kernel
theorem dX1_init_61 : decode cX1_init 61 = .ok (.new 9, 3) := by decide +kernel
theorem dX1_init_64 : decode cX1_init 64 = .ok (.dup, 1) := by decide +kernel
theorem dX1_init_65 : decode cX1_init 65 = .ok (.sipush 144, 3) := by decide +kernel
theorem dX1_init_68 : decode cX1_init 68 = .ok (.invokespecial 11, 3) := by decide +kernel
theorem dX1_init_71 : decode cX1_init 71 = .ok (.putfield 29, 3) := by decide +kernel
theorem dX1_init_74 : decode cX1_init 74 = .ok (.aload_n 0, 1) := by decide +kernel
theorem dX1_init_75 : decode cX1_init 75 = .ok (.iconst 4, 1) := by decide +kernel
theorem dX1_init_76 : decode cX1_init 76 = .ok (.putfield 32, 3) := by decide +kernel
theorem dX1_init_79 : decode cX1_init 79 = .ok (.aload_n 0, 1) := by decide +kernel
theorem dX1_init_80 : decode cX1_init 80 = .ok (.iconst 4, 1) := by decide +kernel
theorem dX1_init_81 : decode cX1_init 81 = .ok (.putfield 36, 3) := by decide +kernel
theorem dX1_init_84 : decode cX1_init 84 = .ok (.aload_n 0, 1) := by decide +kernel
theorem dX1_init_85 : decode cX1_init 85 = .ok (.iconst 1, 1) := by decide +kernel
theorem dX1_init_86 : decode cX1_init 86 = .ok (.putfield 39, 3) := by decide +kernel
theorem dX1_init_89 : decode cX1_init 89 = .ok (.aload_n 0, 1) := by decide +kernel
theorem dX1_init_90 : decode cX1_init 90 = .ok (.iconst 1, 1) := by decide +kernel
theorem dX1_init_91 : decode cX1_init 91 = .ok (.putfield 42, 3) := by decide +kernel
theorem dX1_init_94 : decode cX1_init 94 = .ok (.aload_n 0, 1) := by decide +kernel
theorem dX1_init_95 : decode cX1_init 95 = .ok (.aload_n 1, 1) := by decide +kernel
theorem dX1_init_96 : decode cX1_init 96 = .ok (.putfield 45, 3) := by decide +kernel
theorem dX1_init_99 : decode cX1_init 99 = .ok (.return_, 1) := by decide +kernel
theorem dX1_begin_0 : decode cX1_begin 0 = .ok (.aload_n 0, 1) := by decide +kernel
theorem dX1_begin_1 : decode cX1_begin 1 = .ok (.iload_n 1, 1) := by decide +kernel
theorem dX1_begin_2 : decode cX1_begin 2 = .ok (.putfield 32, 3) := by decide +kernel
theorem dX1_begin_5 : decode cX1_begin 5 = .ok (.aload_n 0, 1) := by decide +kernel
theorem dX1_begin_6 : decode cX1_begin 6 = .ok (.iload_n 2, 1) := by decide +kernel
theorem dX1_begin_7 : decode cX1_begin 7 = .ok (.putfield 36, 3) := by decide +kernel
theorem dX1_begin_10 : decode cX1_begin 10 = .ok (.aload_n 0, 1) := by decide +kernel
theorem dX1_begin_11 : decode cX1_begin 11 = .ok (.getfield 14, 3) := by decide +kernel
theorem dX1_begin_14 : decode cX1_begin 14 = .ok (.iconst 0, 1) := by decide +kernel
theorem dX1_begin_15 : decode cX1_begin 15 = .ok (.invokevirtual 49, 3) := by decide +kernel
theorem dX1_begin_18 : decode cX1_begin 18 = .ok (.aload_n 0, 1) := by decide +kernel
theorem dX1_begin_19 : decode cX1_begin 19 = .ok (.getfield 20, 3) := by decide +kernel
theorem dX1_begin_22 : decode cX1_begin 22 = .ok (.iconst 0, 1) := by decide +kernel
theorem dX1_begin_23 : decode cX1_begin 23 = .ok (.invokevirtual 49, 3) := by decide +kernel
theorem dX1_begin_26 : decode cX1_begin 26 = .ok (.aload_n 0, 1) := by decide +kernel
theorem dX1_begin_27 : decode cX1_begin 27 = .ok (.getfield 29, 3) := by decide +kernel
theorem dX1_begin_30 : decode cX1_begin 30 = .ok (.iconst (-1), 1) := by decide +kernel
theorem dX1_begin_31 : decode cX1_begin 31 = .ok (.invokevirtual 49, 3) := by decide +kernel
theorem dX1_begin_34 : decode cX1_begin 34 = .ok (.aload_n 0, 1) := by decide +kernel
theorem dX1_begin_35 : decode cX1_begin 35 = .ok (.iconst 0, 1) := by decide +kernel
theorem dX1_begin_36 : decode cX1_begin 36 = .ok (.putfield 52, 3) := by decide +kernel
theorem dX1_begin_39 : decode cX1_begin 39 = .ok (.return_, 1) := by decide +kernel
theorem dX1_has_0 : decode cX1_has 0 = .ok (.iload_n 1, 1) := by decide +kernel
theorem dX1_has_1 : decode cX1_has 1 = .ok (.ifCond .lt 27, 3) := by decide +kernel
theorem dX1_has_4 : decode cX1_has 4 = .ok (.iload_n 1, 1) := by decide +kernel
theorem dX1_has_5 : decode cX1_has 5 = .ok (.aload_n 0, 1) := by decide +kernel
theorem dX1_has_6 : decode cX1_has 6 = .ok (.getfield 32, 3) := by decide +kernel
theorem dX1_has_9 : decode cX1_has 9 = .ok (.if_icmp .ge 19, 3) := by decide +kernel
theorem dX1_has_12 : decode cX1_has 12 = .ok (.iload_n 2, 1) := by decide +kernel
theorem dX1_has_13 : decode cX1_has 13 = .ok (.ifCond .lt 15, 3) := by decide +kernel
theorem dX1_has_16 : decode cX1_has 16 = .ok (.iload_n 2, 1) := by decide +kernel
theorem dX1_has_17 : decode cX1_has 17 = .ok (.aload_n 0, 1) := by decide +kernel
theorem dX1_has_18 : decode cX1_has 18 = .ok (.getfield 36, 3) := by decide +kernel
theorem dX1_has_21 : decode cX1_has 21 = .ok (.if_icmp .ge 7, 3) := by decide +kernel
theorem dX1_has_24 : decode cX1_has 24 = .ok (.iconst 1, 1) := by decide +kernel
theorem dX1_has_25 : decode cX1_has 25 = .ok (.goto 4, 3) := by decide +kernel
theorem dX1_has_28 : decode cX1_has 28 = .ok (.iconst 0, 1) := by decide +kernel
theorem dX1_has_29 : decode cX1_has 29 = .ok (.ireturn, 1) := by decide +kernel
theorem dX1_directionAt_0 : decode cX1_directionAt 0 = .ok (.aload_n 0, 1) := by decide +kernel
theorem dX1_directionAt_1 : decode cX1_directionAt 1 = .ok (.getfield 14, 3) := by decide +kernel
theorem dX1_directionAt_4 : decode cX1_directionAt 4 = .ok (.iload_n 1, 1) := by decide +kernel
theorem dX1_directionAt_5 : decode cX1_directionAt 5 = .ok (.iload_n 2, 1) := by decide +kernel
theorem dX1_directionAt_6 : decode cX1_directionAt 6 = .ok (.invokestatic 55, 3) := by decide +kernel
theorem dX1_directionAt_9 : decode cX1_directionAt 9 = .ok (.invokevirtual 59, 3) := by decide +kernel
theorem dX1_directionAt_12 : decode cX1_directionAt 12 = .ok (.ireturn, 1) := by decide +kernel
theorem dX1_kindAt_0 : decode cX1_kindAt 0 = .ok (.aload_n 0, 1) := by decide +kernel
theorem dX1_kindAt_1 : decode cX1_kindAt 1 = .ok (.getfield 20, 3) := by decide +kernel
theorem dX1_kindAt_4 : decode cX1_kindAt 4 = .ok (.iload_n 1, 1) := by decide +kernel
theorem dX1_kindAt_5 : decode cX1_kindAt 5 = .ok (.iload_n 2, 1) := by decide +kernel
theorem dX1_kindAt_6 : decode cX1_kindAt 6 = .ok (.invokestatic 55, 3) := by decide +kernel
theorem dX1_kindAt_9 : decode cX1_kindAt 9 = .ok (.invokevirtual 59, 3) := by decide +kernel
theorem dX1_kindAt_12 : decode cX1_kindAt 12 = .ok (.ireturn, 1) := by decide +kernel
theorem dX1_pixelAt_0 : decode cX1_pixelAt 0 = .ok (.aload_n 0, 1) := by decide +kernel
theorem dX1_pixelAt_1 : decode cX1_pixelAt 1 = .ok (.getfield 29, 3) := by decide +kernel
theorem dX1_pixelAt_4 : decode cX1_pixelAt 4 = .ok (.iload_n 1, 1) := by decide +kernel
theorem dX1_pixelAt_5 : decode cX1_pixelAt 5 = .ok (.iload_n 2, 1) := by decide +kernel
theorem dX1_pixelAt_6 : decode cX1_pixelAt 6 = .ok (.invokestatic 55, 3) := by decide +kernel
theorem dX1_pixelAt_9 : decode cX1_pixelAt 9 = .ok (.invokevirtual 59, 3) := by decide +kernel
theorem dX1_pixelAt_12 : decode cX1_pixelAt 12 = .ok (.ireturn, 1) := by decide +kernel
theorem dX1_hasPixelIn_0 : decode cX1_hasPixelIn 0 = .ok (.iload_n 2, 1) := by decide +kernel
theorem dX1_hasPixelIn_1 : decode cX1_hasPixelIn 1 = .ok (.istore 5, 2) := by decide +kernel
theorem dX1_hasPixelIn_3 : decode cX1_hasPixelIn 3 = .ok (.iload 5, 2) := by decide +kernel
theorem dX1_hasPixelIn_5 : decode cX1_hasPixelIn 5 = .ok (.iload_n 2, 1) := by decide +kernel
theorem dX1_hasPixelIn_6 : decode cX1_hasPixelIn 6 = .ok (.iload 4, 2) := by decide +kernel
theorem dX1_hasPixelIn_8 : decode cX1_hasPixelIn 8 = .ok (.iadd, 1) := by decide +kernel
theorem dX1_hasPixelIn_9 : decode cX1_hasPixelIn 9 = .ok (.if_icmp .ge 40, 3) := by decide +kernel
theorem dX1_hasPixelIn_12 : decode cX1_hasPixelIn 12 = .ok (.iload_n 1, 1) := by decide +kernel
theorem dX1_hasPixelIn_13 : decode cX1_hasPixelIn 13 = .ok (.istore 6, 2) := by decide +kernel
theorem dX1_hasPixelIn_15 : decode cX1_hasPixelIn 15 = .ok (.iload 6, 2) := by decide +kernel
theorem dX1_hasPixelIn_17 : decode cX1_hasPixelIn 17 = .ok (.iload_n 1, 1) := by decide +kernel
theorem dX1_hasPixelIn_18 : decode cX1_hasPixelIn 18 = .ok (.iload_n 3, 1) := by decide +kernel
theorem dX1_hasPixelIn_19 : decode cX1_hasPixelIn 19 = .ok (.iadd, 1) := by decide +kernel
theorem dX1_hasPixelIn_20 : decode cX1_hasPixelIn 20 = .ok (.if_icmp .ge 23, 3) := by decide +kernel
theorem dX1_hasPixelIn_23 : decode cX1_hasPixelIn 23 = .ok (.aload_n 0, 1) := by decide +kernel
theorem dX1_hasPixelIn_24 : decode cX1_hasPixelIn 24 = .ok (.iload 6, 2) := by decide +kernel
theorem dX1_hasPixelIn_26 : decode cX1_hasPixelIn 26 = .ok (.iload 5, 2) := by decide +kernel
theorem dX1_hasPixelIn_28 : decode cX1_hasPixelIn 28 = .ok (.invokevirtual 63, 3) := by decide +kernel
theorem dX1_hasPixelIn_31 : decode cX1_hasPixelIn 31 = .ok (.iconst (-1), 1) := by decide +kernel
theorem dX1_hasPixelIn_32 : decode cX1_hasPixelIn 32 = .ok (.if_icmp .eq 5, 3) := by decide +kernel
theorem dX1_hasPixelIn_35 : decode cX1_hasPixelIn 35 = .ok (.iconst 1, 1) := by decide +kernel
theorem dX1_hasPixelIn_36 : decode cX1_hasPixelIn 36 = .ok (.ireturn, 1) := by decide +kernel
theorem dX1_hasPixelIn_37 : decode cX1_hasPixelIn 37 = .ok (.iinc 6 1, 3) := by decide +kernel
theorem dX1_hasPixelIn_40 : decode cX1_hasPixelIn 40 = .ok (.goto (-25), 3) := by decide +kernel
theorem dX1_hasPixelIn_43 : decode cX1_hasPixelIn 43 = .ok (.iinc 5 1, 3) := by decide +kernel
theorem dX1_hasPixelIn_46 : decode cX1_hasPixelIn 46 = .ok (.goto (-43), 3) := by decide +kernel
theorem dX1_hasPixelIn_49 : decode cX1_hasPixelIn 49 = .ok (.iconst 0, 1) := by decide +kernel
theorem dX1_hasPixelIn_50 : decode cX1_hasPixelIn 50 = .ok (.ireturn, 1) := by decide +kernel
theorem dX1_mark_0 : decode cX1_mark 0 = .ok (.iload_n 2, 1) := by decide +kernel
theorem dX1_mark_1 : decode cX1_mark 1 = .ok (.istore 6, 2) := by decide +kernel
theorem dX1_mark_3 : decode cX1_mark 3 = .ok (.iload 6, 2) := by decide +kernel
theorem dX1_mark_5 : decode cX1_mark 5 = .ok (.iload_n 2, 1) := by decide +kernel
theorem dX1_mark_6 : decode cX1_mark 6 = .ok (.iload 4, 2) := by decide +kernel
theorem dX1_mark_8 : decode cX1_mark 8 = .ok (.iadd, 1) := by decide +kernel
theorem dX1_mark_9 : decode cX1_mark 9 = .ok (.if_icmp .ge 42, 3) := by decide +kernel
theorem dX1_mark_12 : decode cX1_mark 12 = .ok (.iload_n 1, 1) := by decide +kernel
theorem dX1_mark_13 : decode cX1_mark 13 = .ok (.istore 7, 2) := by decide +kernel
theorem dX1_mark_15 : decode cX1_mark 15 = .ok (.iload 7, 2) := by decide +kernel
theorem dX1_mark_17 : decode cX1_mark 17 = .ok (.iload_n 1, 1) := by decide +kernel
theorem dX1_mark_18 : decode cX1_mark 18 = .ok (.iload_n 3, 1) := by decide +kernel
theorem dX1_mark_19 : decode cX1_mark 19 = .ok (.iadd, 1) := by decide +kernel
theorem dX1_mark_20 : decode cX1_mark 20 = .ok (.if_icmp .ge 25, 3) := by decide +kernel
theorem dX1_mark_23 : decode cX1_mark 23 = .ok (.aload_n 0, 1) := by decide +kernel
theorem dX1_mark_24 : decode cX1_mark 24 = .ok (.getfield 29, 3) := by decide +kernel
theorem dX1_mark_27 : decode cX1_mark 27 = .ok (.iload 7, 2) := by decide +kernel
theorem dX1_mark_29 : decode cX1_mark 29 = .ok (.iload 6, 2) := by decide +kernel
theorem dX1_mark_31 : decode cX1_mark 31 = .ok (.invokestatic 55, 3) := by decide +kernel
theorem dX1_mark_34 : decode cX1_mark 34 = .ok (.iload 5, 2) := by decide +kernel
theorem dX1_mark_36 : decode cX1_mark 36 = .ok (.invokevirtual 66, 3) := by decide +kernel
theorem dX1_mark_39 : decode cX1_mark 39 = .ok (.iinc 7 1, 3) := by decide +kernel
theorem dX1_mark_42 : decode cX1_mark 42 = .ok (.goto (-27), 3) := by decide +kernel
theorem dX1_mark_45 : decode cX1_mark 45 = .ok (.iinc 6 1, 3) := by decide +kernel
theorem dX1_mark_48 : decode cX1_mark 48 = .ok (.goto (-45), 3) := by decide +kernel
theorem dX1_mark_51 : decode cX1_mark 51 = .ok (.return_, 1) := by decide +kernel
theorem dX1_heldWith_0 : decode cX1_heldWith 0 = .ok (.iconst 0, 1) := by decide +kernel
theorem dX1_heldWith_1 : decode cX1_heldWith 1 = .ok (.istore_n 3, 1) := by decide +kernel
theorem dX1_heldWith_2 : decode cX1_heldWith 2 = .ok (.aload_n 0, 1) := by decide +kernel
theorem dX1_heldWith_3 : decode cX1_heldWith 3 = .ok (.getfield 20, 3) := by decide +kernel
theorem dX1_heldWith_6 : decode cX1_heldWith 6 = .ok (.iload_n 1, 1) := by decide +kernel
theorem dX1_heldWith_7 : decode cX1_heldWith 7 = .ok (.invokevirtual 59, 3) := by decide +kernel
theorem dX1_heldWith_10 : decode cX1_heldWith 10 = .ok (.iconst 2, 1) := by decide +kernel
theorem dX1_heldWith_11 : decode cX1_heldWith 11 = .ok (.if_icmp .ne 27, 3) := by decide +kernel
theorem dX1_heldWith_14 : decode cX1_heldWith 14 = .ok (.iload_n 3, 1) := by decide +kernel
theorem dX1_heldWith_15 : decode cX1_heldWith 15 = .ok (.aload_n 0, 1) := by decide +kernel
theorem dX1_heldWith_16 : decode cX1_heldWith 16 = .ok (.getfield 26, 3) := by decide +kernel
theorem dX1_heldWith_19 : decode cX1_heldWith 19 = .ok (.iload_n 1, 1) := by decide +kernel
theorem dX1_heldWith_20 : decode cX1_heldWith 20 = .ok (.invokevirtual 59, 3) := by decide +kernel
theorem dX1_heldWith_23 : decode cX1_heldWith 23 = .ok (.aload_n 0, 1) := by decide +kernel
theorem dX1_heldWith_24 : decode cX1_heldWith 24 = .ok (.getfield 23, 3) := by decide +kernel
theorem dX1_heldWith_27 : decode cX1_heldWith 27 = .ok (.iload_n 1, 1) := by decide +kernel
theorem dX1_heldWith_28 : decode cX1_heldWith 28 = .ok (.invokevirtual 59, 3) := by decide +kernel
theorem dX1_heldWith_31 : decode cX1_heldWith 31 = .ok (.iload_n 2, 1) := by decide +kernel
theorem dX1_heldWith_32 : decode cX1_heldWith 32 = .ok (.invokestatic 70, 3) := by decide +kernel
theorem dX1_heldWith_35 : decode cX1_heldWith 35 = .ok (.imul, 1) := by decide +kernel
theorem dX1_heldWith_36 : decode cX1_heldWith 36 = .ok (.iadd, 1) := by decide +kernel
theorem dX1_heldWith_37 : decode cX1_heldWith 37 = .ok (.istore_n 3, 1) := by decide +kernel
theorem dX1_heldWith_38 : decode cX1_heldWith 38 = .ok (.aload_n 0, 1) := by decide +kernel
theorem dX1_heldWith_39 : decode cX1_heldWith 39 = .ok (.getfield 29, 3) := by decide +kernel
theorem dX1_heldWith_42 : decode cX1_heldWith 42 = .ok (.iload_n 1, 1) := by decide +kernel
theorem dX1_heldWith_43 : decode cX1_heldWith 43 = .ok (.invokevirtual 59, 3) := by decide +kernel
theorem dX1_heldWith_46 : decode cX1_heldWith 46 = .ok (.istore 4, 2) := by decide +kernel
theorem dX1_heldWith_48 : decode cX1_heldWith 48 = .ok (.iload 4, 2) := by decide +kernel
theorem dX1_heldWith_50 : decode cX1_heldWith 50 = .ok (.iconst (-1), 1) := by decide +kernel
theorem dX1_heldWith_51 : decode cX1_heldWith 51 = .ok (.if_icmp .eq 29, 3) := by decide +kernel
theorem dX1_heldWith_54 : decode cX1_heldWith 54 = .ok (.iload_n 3, 1) := by decide +kernel
theorem dX1_heldWith_55 : decode cX1_heldWith 55 = .ok (.aload_n 0, 1) := by decide +kernel
theorem dX1_heldWith_56 : decode cX1_heldWith 56 = .ok (.getfield 45, 3) := by decide +kernel
theorem dX1_heldWith_59 : decode cX1_heldWith 59 = .ok (.iload 4, 2) := by decide +kernel
theorem dX1_heldWith_61 : decode cX1_heldWith 61 = .ok (.invokevirtual 73, 3) := by decide +kernel
theorem dX1_heldWith_64 : decode cX1_heldWith 64 = .ok (.aload_n 0, 1) := by decide +kernel
theorem dX1_heldWith_65 : decode cX1_heldWith 65 = .ok (.getfield 45, 3) := by decide +kernel
theorem dX1_heldWith_68 : decode cX1_heldWith 68 = .ok (.iload 4, 2) := by decide +kernel
theorem dX1_heldWith_70 : decode cX1_heldWith 70 = .ok (.invokevirtual 78, 3) := by decide +kernel
theorem dX1_heldWith_73 : decode cX1_heldWith 73 = .ok (.iload_n 2, 1) := by decide +kernel
theorem dX1_heldWith_74 : decode cX1_heldWith 74 = .ok (.invokestatic 70, 3) := by decide +kernel
theorem dX1_heldWith_77 : decode cX1_heldWith 77 = .ok (.imul, 1) := by decide +kernel
theorem dX1_heldWith_78 : decode cX1_heldWith 78 = .ok (.iadd, 1) := by decide +kernel
theorem dX1_heldWith_79 : decode cX1_heldWith 79 = .ok (.istore_n 3, 1) := by decide +kernel
theorem dX1_heldWith_80 : decode cX1_heldWith 80 = .ok (.iload_n 3, 1) := by decide +kernel
theorem dX1_heldWith_81 : decode cX1_heldWith 81 = .ok (.ireturn, 1) := by decide +kernel
theorem dX1_energyWith_0 : decode cX1_energyWith 0 = .ok (.aload_n 0, 1) := by decide +kernel
theorem dX1_energyWith_1 : decode cX1_energyWith 1 = .ok (.iload_n 1, 1) := by decide +kernel
theorem dX1_energyWith_2 : decode cX1_energyWith 2 = .ok (.iload_n 2, 1) := by decide +kernel
theorem dX1_energyWith_3 : decode cX1_energyWith 3 = .ok (.invokestatic 55, 3) := by decide +kernel
theorem dX1_energyWith_6 : decode cX1_energyWith 6 = .ok (.iload_n 3, 1) := by decide +kernel
theorem dX1_energyWith_7 : decode cX1_energyWith 7 = .ok (.invokevirtual 81, 3) := by decide +kernel
theorem dX1_energyWith_10 : decode cX1_energyWith 10 = .ok (.istore 4, 2) := by decide +kernel
theorem dX1_energyWith_12 : decode cX1_energyWith 12 = .ok (.aload_n 0, 1) := by decide +kernel
theorem dX1_energyWith_13 : decode cX1_energyWith 13 = .ok (.iload_n 1, 1) := by decide +kernel
theorem dX1_energyWith_14 : decode cX1_energyWith 14 = .ok (.iconst 1, 1) := by decide +kernel
theorem dX1_energyWith_15 : decode cX1_energyWith 15 = .ok (.isub, 1) := by decide +kernel
theorem dX1_energyWith_16 : decode cX1_energyWith 16 = .ok (.iload_n 2, 1) := by decide +kernel
theorem dX1_energyWith_17 : decode cX1_energyWith 17 = .ok (.invokevirtual 84, 3) := by decide +kernel
theorem dX1_energyWith_20 : decode cX1_energyWith 20 = .ok (.ifCond .eq 25, 3) := by decide +kernel
theorem dX1_energyWith_23 : decode cX1_energyWith 23 = .ok (.iload 4, 2) := by decide +kernel
theorem dX1_energyWith_25 : decode cX1_energyWith 25 = .ok (.aload_n 0, 1) := by decide +kernel
theorem dX1_energyWith_26 : decode cX1_energyWith 26 = .ok (.getfield 39, 3) := by decide +kernel
theorem dX1_energyWith_29 : decode cX1_energyWith 29 = .ok (.aload_n 0, 1) := by decide +kernel
theorem dX1_energyWith_30 : decode cX1_energyWith 30 = .ok (.iload_n 1, 1) := by decide +kernel
theorem dX1_energyWith_31 : decode cX1_energyWith 31 = .ok (.iconst 1, 1) := by decide +kernel
theorem dX1_energyWith_32 : decode cX1_energyWith 32 = .ok (.isub, 1) := by decide +kernel
theorem dX1_energyWith_33 : decode cX1_energyWith 33 = .ok (.iload_n 2, 1) := by decide +kernel
theorem dX1_energyWith_34 : decode cX1_energyWith 34 = .ok (.invokevirtual 88, 3) := by decide +kernel
theorem dX1_energyWith_37 : decode cX1_energyWith 37 = .ok (.iload_n 3, 1) := by decide +kernel
theorem dX1_energyWith_38 : decode cX1_energyWith 38 = .ok (.invokestatic 70, 3) := by decide +kernel
theorem dX1_energyWith_41 : decode cX1_energyWith 41 = .ok (.imul, 1) := by decide +kernel
theorem dX1_energyWith_42 : decode cX1_energyWith 42 = .ok (.iadd, 1) := by decide +kernel
theorem dX1_energyWith_43 : decode cX1_energyWith 43 = .ok (.istore 4, 2) := by decide +kernel
theorem dX1_energyWith_45 : decode cX1_energyWith 45 = .ok (.aload_n 0, 1) := by decide +kernel
theorem dX1_energyWith_46 : decode cX1_energyWith 46 = .ok (.iload_n 1, 1) := by decide +kernel
theorem dX1_energyWith_47 : decode cX1_energyWith 47 = .ok (.iconst 1, 1) := by decide +kernel
theorem dX1_energyWith_48 : decode cX1_energyWith 48 = .ok (.iadd, 1) := by decide +kernel
theorem dX1_energyWith_49 : decode cX1_energyWith 49 = .ok (.iload_n 2, 1) := by decide +kernel
theorem dX1_energyWith_50 : decode cX1_energyWith 50 = .ok (.invokevirtual 84, 3) := by decide +kernel
theorem dX1_energyWith_53 : decode cX1_energyWith 53 = .ok (.ifCond .eq 25, 3) := by decide +kernel
theorem dX1_energyWith_56 : decode cX1_energyWith 56 = .ok (.iload 4, 2) := by decide +kernel
theorem dX1_energyWith_58 : decode cX1_energyWith 58 = .ok (.aload_n 0, 1) := by decide +kernel
theorem dX1_energyWith_59 : decode cX1_energyWith 59 = .ok (.getfield 39, 3) := by decide +kernel
theorem dX1_energyWith_62 : decode cX1_energyWith 62 = .ok (.aload_n 0, 1) := by decide +kernel
theorem dX1_energyWith_63 : decode cX1_energyWith 63 = .ok (.iload_n 1, 1) := by decide +kernel
theorem dX1_energyWith_64 : decode cX1_energyWith 64 = .ok (.iconst 1, 1) := by decide +kernel
theorem dX1_energyWith_65 : decode cX1_energyWith 65 = .ok (.iadd, 1) := by decide +kernel
theorem dX1_energyWith_66 : decode cX1_energyWith 66 = .ok (.iload_n 2, 1) := by decide +kernel
theorem dX1_energyWith_67 : decode cX1_energyWith 67 = .ok (.invokevirtual 88, 3) := by decide +kernel
theorem dX1_energyWith_70 : decode cX1_energyWith 70 = .ok (.iload_n 3, 1) := by decide +kernel
theorem dX1_energyWith_71 : decode cX1_energyWith 71 = .ok (.invokestatic 70, 3) := by decide +kernel
theorem dX1_energyWith_74 : decode cX1_energyWith 74 = .ok (.imul, 1) := by decide +kernel
theorem dX1_energyWith_75 : decode cX1_energyWith 75 = .ok (.iadd, 1) := by decide +kernel
theorem dX1_energyWith_76 : decode cX1_energyWith 76 = .ok (.istore 4, 2) := by decide +kernel
theorem dX1_energyWith_78 : decode cX1_energyWith 78 = .ok (.aload_n 0, 1) := by decide +kernel
theorem dX1_energyWith_79 : decode cX1_energyWith 79 = .ok (.iload_n 1, 1) := by decide +kernel
theorem dX1_energyWith_80 : decode cX1_energyWith 80 = .ok (.iload_n 2, 1) := by decide +kernel
theorem dX1_energyWith_81 : decode cX1_energyWith 81 = .ok (.iconst 1, 1) := by decide +kernel
theorem dX1_energyWith_82 : decode cX1_energyWith 82 = .ok (.isub, 1) := by decide +kernel
theorem dX1_energyWith_83 : decode cX1_energyWith 83 = .ok (.invokevirtual 84, 3) := by decide +kernel
theorem dX1_energyWith_86 : decode cX1_energyWith 86 = .ok (.ifCond .eq 25, 3) := by decide +kernel
theorem dX1_energyWith_89 : decode cX1_energyWith 89 = .ok (.iload 4, 2) := by decide +kernel
theorem dX1_energyWith_91 : decode cX1_energyWith 91 = .ok (.aload_n 0, 1) := by decide +kernel
theorem dX1_energyWith_92 : decode cX1_energyWith 92 = .ok (.getfield 42, 3) := by decide +kernel
theorem dX1_energyWith_95 : decode cX1_energyWith 95 = .ok (.aload_n 0, 1) := by decide +kernel
theorem dX1_energyWith_96 : decode cX1_energyWith 96 = .ok (.iload_n 1, 1) := by decide +kernel
theorem dX1_energyWith_97 : decode cX1_energyWith 97 = .ok (.iload_n 2, 1) := by decide +kernel
theorem dX1_energyWith_98 : decode cX1_energyWith 98 = .ok (.iconst 1, 1) := by decide +kernel
theorem dX1_energyWith_99 : decode cX1_energyWith 99 = .ok (.isub, 1) := by decide +kernel
theorem dX1_energyWith_100 : decode cX1_energyWith 100 = .ok (.invokevirtual 88, 3) := by decide +kernel
theorem dX1_energyWith_103 : decode cX1_energyWith 103 = .ok (.iload_n 3, 1) := by decide +kernel
theorem dX1_energyWith_104 : decode cX1_energyWith 104 = .ok (.invokestatic 70, 3) := by decide +kernel
theorem dX1_energyWith_107 : decode cX1_energyWith 107 = .ok (.imul, 1) := by decide +kernel
theorem dX1_energyWith_108 : decode cX1_energyWith 108 = .ok (.iadd, 1) := by decide +kernel
theorem dX1_energyWith_109 : decode cX1_energyWith 109 = .ok (.istore 4, 2) := by decide +kernel
theorem dX1_energyWith_111 : decode cX1_energyWith 111 = .ok (.aload_n 0, 1) := by decide +kernel
theorem dX1_energyWith_112 : decode cX1_energyWith 112 = .ok (.iload_n 1, 1) := by decide +kernel
theorem dX1_energyWith_113 : decode cX1_energyWith 113 = .ok (.iload_n 2, 1) := by decide +kernel
theorem dX1_energyWith_114 : decode cX1_energyWith 114 = .ok (.iconst 1, 1) := by decide +kernel
theorem dX1_energyWith_115 : decode cX1_energyWith 115 = .ok (.iadd, 1) := by decide +kernel
theorem dX1_energyWith_116 : decode cX1_energyWith 116 = .ok (.invokevirtual 84, 3) := by decide +kernel
theorem dX1_energyWith_119 : decode cX1_energyWith 119 = .ok (.ifCond .eq 25, 3) := by decide +kernel
theorem dX1_energyWith_122 : decode cX1_energyWith 122 = .ok (.iload 4, 2) := by decide +kernel
theorem dX1_energyWith_124 : decode cX1_energyWith 124 = .ok (.aload_n 0, 1) := by decide +kernel
theorem dX1_energyWith_125 : decode cX1_energyWith 125 = .ok (.getfield 42, 3) := by decide +kernel
theorem dX1_energyWith_128 : decode cX1_energyWith 128 = .ok (.aload_n 0, 1) := by decide +kernel
theorem dX1_energyWith_129 : decode cX1_energyWith 129 = .ok (.iload_n 1, 1) := by decide +kernel
theorem dX1_energyWith_130 : decode cX1_energyWith 130 = .ok (.iload_n 2, 1) := by decide +kernel
theorem dX1_energyWith_131 : decode cX1_energyWith 131 = .ok (.iconst 1, 1) := by decide +kernel
theorem dX1_energyWith_132 : decode cX1_energyWith 132 = .ok (.iadd, 1) := by decide +kernel
theorem dX1_energyWith_133 : decode cX1_energyWith 133 = .ok (.invokevirtual 88, 3) := by decide +kernel
theorem dX1_energyWith_136 : decode cX1_energyWith 136 = .ok (.iload_n 3, 1) := by decide +kernel
theorem dX1_energyWith_137 : decode cX1_energyWith 137 = .ok (.invokestatic 70, 3) := by decide +kernel
theorem dX1_energyWith_140 : decode cX1_energyWith 140 = .ok (.imul, 1) := by decide +kernel
theorem dX1_energyWith_141 : decode cX1_energyWith 141 = .ok (.iadd, 1) := by decide +kernel
theorem dX1_energyWith_142 : decode cX1_energyWith 142 = .ok (.istore 4, 2) := by decide +kernel
theorem dX1_energyWith_144 : decode cX1_energyWith 144 = .ok (.iload 4, 2) := by decide +kernel
theorem dX1_energyWith_146 : decode cX1_energyWith 146 = .ok (.ireturn, 1) := by decide +kernel
theorem dX1_energyAt_0 : decode cX1_energyAt 0 = .ok (.aload_n 0, 1) := by decide +kernel
theorem dX1_energyAt_1 : decode cX1_energyAt 1 = .ok (.iload_n 1, 1) := by decide +kernel
theorem dX1_energyAt_2 : decode cX1_energyAt 2 = .ok (.iload_n 2, 1) := by decide +kernel
theorem dX1_energyAt_3 : decode cX1_energyAt 3 = .ok (.aload_n 0, 1) := by decide +kernel
theorem dX1_energyAt_4 : decode cX1_energyAt 4 = .ok (.iload_n 1, 1) := by decide +kernel
theorem dX1_energyAt_5 : decode cX1_energyAt 5 = .ok (.iload_n 2, 1) := by decide +kernel
theorem dX1_energyAt_6 : decode cX1_energyAt 6 = .ok (.invokevirtual 88, 3) := by decide +kernel
theorem dX1_energyAt_9 : decode cX1_energyAt 9 = .ok (.invokevirtual 91, 3) := by decide +kernel
theorem dX1_energyAt_12 : decode cX1_energyAt 12 = .ok (.ireturn, 1) := by decide +kernel
theorem dX1_sum_0 : decode cX1_sum 0 = .ok (.iconst 0, 1) := by decide +kernel
theorem dX1_sum_1 : decode cX1_sum 1 = .ok (.istore_n 1, 1) := by decide +kernel
theorem dX1_sum_2 : decode cX1_sum 2 = .ok (.iconst 0, 1) := by decide +kernel
theorem dX1_sum_3 : decode cX1_sum 3 = .ok (.istore_n 2, 1) := by decide +kernel
theorem dX1_sum_4 : decode cX1_sum 4 = .ok (.iload_n 2, 1) := by decide +kernel
theorem dX1_sum_5 : decode cX1_sum 5 = .ok (.aload_n 0, 1) := by decide +kernel
theorem dX1_sum_6 : decode cX1_sum 6 = .ok (.getfield 36, 3) := by decide +kernel
theorem dX1_sum_9 : decode cX1_sum 9 = .ok (.if_icmp .ge 111, 3) := by decide +kernel
theorem dX1_sum_12 : decode cX1_sum 12 = .ok (.iconst 0, 1) := by decide +kernel
theorem dX1_sum_13 : decode cX1_sum 13 = .ok (.istore_n 3, 1) := by decide +kernel
theorem dX1_sum_14 : decode cX1_sum 14 = .ok (.iload_n 3, 1) := by decide +kernel
theorem dX1_sum_15 : decode cX1_sum 15 = .ok (.aload_n 0, 1) := by decide +kernel
theorem dX1_sum_16 : decode cX1_sum 16 = .ok (.getfield 32, 3) := by decide +kernel
theorem dX1_sum_19 : decode cX1_sum 19 = .ok (.if_icmp .ge 95, 3) := by decide +kernel
theorem dX1_sum_22 : decode cX1_sum 22 = .ok (.aload_n 0, 1) := by decide +kernel
theorem dX1_sum_23 : decode cX1_sum 23 = .ok (.iload_n 3, 1) := by decide +kernel
theorem dX1_sum_24 : decode cX1_sum 24 = .ok (.iload_n 2, 1) := by decide +kernel
theorem dX1_sum_25 : decode cX1_sum 25 = .ok (.invokevirtual 88, 3) := by decide +kernel
theorem dX1_sum_28 : decode cX1_sum 28 = .ok (.istore 4, 2) := by decide +kernel
theorem dX1_sum_30 : decode cX1_sum 30 = .ok (.iload_n 1, 1) := by decide +kernel
theorem dX1_sum_31 : decode cX1_sum 31 = .ok (.aload_n 0, 1) := by decide +kernel
theorem dX1_sum_32 : decode cX1_sum 32 = .ok (.iload_n 3, 1) := by decide +kernel
theorem dX1_sum_33 : decode cX1_sum 33 = .ok (.iload_n 2, 1) := by decide +kernel
theorem dX1_sum_34 : decode cX1_sum 34 = .ok (.invokestatic 55, 3) := by decide +kernel
theorem dX1_sum_37 : decode cX1_sum 37 = .ok (.iload 4, 2) := by decide +kernel
theorem dX1_sum_39 : decode cX1_sum 39 = .ok (.invokevirtual 81, 3) := by decide +kernel
theorem dX1_sum_42 : decode cX1_sum 42 = .ok (.iadd, 1) := by decide +kernel
theorem dX1_sum_43 : decode cX1_sum 43 = .ok (.istore_n 1, 1) := by decide +kernel
theorem dX1_sum_44 : decode cX1_sum 44 = .ok (.aload_n 0, 1) := by decide +kernel
theorem dX1_sum_45 : decode cX1_sum 45 = .ok (.iload_n 3, 1) := by decide +kernel
theorem dX1_sum_46 : decode cX1_sum 46 = .ok (.iconst 1, 1) := by decide +kernel
theorem dX1_sum_47 : decode cX1_sum 47 = .ok (.iadd, 1) := by decide +kernel
theorem dX1_sum_48 : decode cX1_sum 48 = .ok (.iload_n 2, 1) := by decide +kernel
theorem dX1_sum_49 : decode cX1_sum 49 = .ok (.invokevirtual 84, 3) := by decide +kernel
theorem dX1_sum_52 : decode cX1_sum 52 = .ok (.ifCond .eq 24, 3) := by decide +kernel
theorem dX1_sum_55 : decode cX1_sum 55 = .ok (.iload_n 1, 1) := by decide +kernel
theorem dX1_sum_56 : decode cX1_sum 56 = .ok (.aload_n 0, 1) := by decide +kernel
theorem dX1_sum_57 : decode cX1_sum 57 = .ok (.getfield 39, 3) := by decide +kernel
theorem dX1_sum_60 : decode cX1_sum 60 = .ok (.iload 4, 2) := by decide +kernel
theorem dX1_sum_62 : decode cX1_sum 62 = .ok (.aload_n 0, 1) := by decide +kernel
theorem dX1_sum_63 : decode cX1_sum 63 = .ok (.iload_n 3, 1) := by decide +kernel
theorem dX1_sum_64 : decode cX1_sum 64 = .ok (.iconst 1, 1) := by decide +kernel
theorem dX1_sum_65 : decode cX1_sum 65 = .ok (.iadd, 1) := by decide +kernel
theorem dX1_sum_66 : decode cX1_sum 66 = .ok (.iload_n 2, 1) := by decide +kernel
theorem dX1_sum_67 : decode cX1_sum 67 = .ok (.invokevirtual 88, 3) := by decide +kernel
theorem dX1_sum_70 : decode cX1_sum 70 = .ok (.invokestatic 70, 3) := by decide +kernel
theorem dX1_sum_73 : decode cX1_sum 73 = .ok (.imul, 1) := by decide +kernel
theorem dX1_sum_74 : decode cX1_sum 74 = .ok (.iadd, 1) := by decide +kernel
theorem dX1_sum_75 : decode cX1_sum 75 = .ok (.istore_n 1, 1) := by decide +kernel
theorem dX1_sum_76 : decode cX1_sum 76 = .ok (.aload_n 0, 1) := by decide +kernel
theorem dX1_sum_77 : decode cX1_sum 77 = .ok (.iload_n 3, 1) := by decide +kernel
theorem dX1_sum_78 : decode cX1_sum 78 = .ok (.iload_n 2, 1) := by decide +kernel
theorem dX1_sum_79 : decode cX1_sum 79 = .ok (.iconst 1, 1) := by decide +kernel
theorem dX1_sum_80 : decode cX1_sum 80 = .ok (.iadd, 1) := by decide +kernel
theorem dX1_sum_81 : decode cX1_sum 81 = .ok (.invokevirtual 84, 3) := by decide +kernel
theorem dX1_sum_84 : decode cX1_sum 84 = .ok (.ifCond .eq 24, 3) := by decide +kernel
theorem dX1_sum_87 : decode cX1_sum 87 = .ok (.iload_n 1, 1) := by decide +kernel
theorem dX1_sum_88 : decode cX1_sum 88 = .ok (.aload_n 0, 1) := by decide +kernel
theorem dX1_sum_89 : decode cX1_sum 89 = .ok (.getfield 42, 3) := by decide +kernel
theorem dX1_sum_92 : decode cX1_sum 92 = .ok (.iload 4, 2) := by decide +kernel
theorem dX1_sum_94 : decode cX1_sum 94 = .ok (.aload_n 0, 1) := by decide +kernel
theorem dX1_sum_95 : decode cX1_sum 95 = .ok (.iload_n 3, 1) := by decide +kernel
theorem dX1_sum_96 : decode cX1_sum 96 = .ok (.iload_n 2, 1) := by decide +kernel
theorem dX1_sum_97 : decode cX1_sum 97 = .ok (.iconst 1, 1) := by decide +kernel
theorem dX1_sum_98 : decode cX1_sum 98 = .ok (.iadd, 1) := by decide +kernel
theorem dX1_sum_99 : decode cX1_sum 99 = .ok (.invokevirtual 88, 3) := by decide +kernel
theorem dX1_sum_102 : decode cX1_sum 102 = .ok (.invokestatic 70, 3) := by decide +kernel
theorem dX1_sum_105 : decode cX1_sum 105 = .ok (.imul, 1) := by decide +kernel
theorem dX1_sum_106 : decode cX1_sum 106 = .ok (.iadd, 1) := by decide +kernel
theorem dX1_sum_107 : decode cX1_sum 107 = .ok (.istore_n 1, 1) := by decide +kernel
theorem dX1_sum_108 : decode cX1_sum 108 = .ok (.iinc 3 1, 3) := by decide +kernel
theorem dX1_sum_111 : decode cX1_sum 111 = .ok (.goto (-97), 3) := by decide +kernel
theorem dX1_sum_114 : decode cX1_sum 114 = .ok (.iinc 2 1, 3) := by decide +kernel
theorem dX1_sum_117 : decode cX1_sum 117 = .ok (.goto (-113), 3) := by decide +kernel
theorem dX1_sum_120 : decode cX1_sum 120 = .ok (.iload_n 1, 1) := by decide +kernel
theorem dX1_sum_121 : decode cX1_sum 121 = .ok (.ireturn, 1) := by decide +kernel
theorem dX1_grown_0 : decode cX1_grown 0 = .ok (.aload_n 0, 1) := by decide +kernel
theorem dX1_grown_1 : decode cX1_grown 1 = .ok (.dup, 1) := by decide +kernel
theorem dX1_grown_2 : decode cX1_grown 2 = .ok (.getfield 52, 3) := by decide +kernel
theorem dX1_grown_5 : decode cX1_grown 5 = .ok (.iload_n 1, 1) := by decide +kernel
theorem dX1_grown_6 : decode cX1_grown 6 = .ok (.iadd, 1) := by decide +kernel
theorem dX1_grown_7 : decode cX1_grown 7 = .ok (.putfield 52, 3) := by decide +kernel
theorem dX1_grown_10 : decode cX1_grown 10 = .ok (.iload_n 1, 1) := by decide +kernel
theorem dX1_grown_11 : decode cX1_grown 11 = .ok (.ireturn, 1) := by decide +kernel
theorem dX1_price_0 : decode cX1_price 0 = .ok (.aload_n 0, 1) := by decide +kernel
theorem dX1_price_1 : decode cX1_price 1 = .ok (.iload_n 1, 1) := by decide +kernel
theorem dX1_price_2 : decode cX1_price 2 = .ok (.putfield 39, 3) := by decide +kernel
theorem dX1_price_5 : decode cX1_price 5 = .ok (.aload_n 0, 1) := by decide +kernel
theorem dX1_price_6 : decode cX1_price 6 = .ok (.iload_n 2, 1) := by decide +kernel
theorem dX1_price_7 : decode cX1_price 7 = .ok (.putfield 42, 3) := by decide +kernel
theorem dX1_price_10 : decode cX1_price 10 = .ok (.aload_n 0, 1) := by decide +kernel
theorem dX1_price_11 : decode cX1_price 11 = .ok (.aload_n 0, 1) := by decide +kernel
theorem dX1_price_12 : decode cX1_price 12 = .ok (.invokevirtual 95, 3) := by decide +kernel
theorem dX1_price_15 : decode cX1_price 15 = .ok (.aload_n 0, 1) := by decide +kernel
theorem dX1_price_16 : decode cX1_price 16 = .ok (.getfield 52, 3) := by decide +kernel
theorem dX1_price_19 : decode cX1_price 19 = .ok (.isub, 1) := by decide +kernel
theorem dX1_price_20 : decode cX1_price 20 = .ok (.invokevirtual 99, 3) := by decide +kernel
theorem dX1_price_23 : decode cX1_price 23 = .ok (.ireturn, 1) := by decide +kernel
theorem dX1_turnTo_0 : decode cX1_turnTo 0 = .ok (.aload_n 0, 1) := by decide +kernel
theorem dX1_turnTo_1 : decode cX1_turnTo 1 = .ok (.iload_n 1, 1) := by decide +kernel
theorem dX1_turnTo_2 : decode cX1_turnTo 2 = .ok (.iload_n 2, 1) := by decide +kernel
theorem dX1_turnTo_3 : decode cX1_turnTo 3 = .ok (.invokevirtual 102, 3) := by decide +kernel
theorem dX1_turnTo_6 : decode cX1_turnTo 6 = .ok (.istore 4, 2) := by decide +kernel
theorem dX1_turnTo_8 : decode cX1_turnTo 8 = .ok (.aload_n 0, 1) := by decide +kernel
theorem dX1_turnTo_9 : decode cX1_turnTo 9 = .ok (.getfield 14, 3) := by decide +kernel
theorem dX1_turnTo_12 : decode cX1_turnTo 12 = .ok (.iload_n 1, 1) := by decide +kernel
theorem dX1_turnTo_13 : decode cX1_turnTo 13 = .ok (.iload_n 2, 1) := by decide +kernel
theorem dX1_turnTo_14 : decode cX1_turnTo 14 = .ok (.invokestatic 55, 3) := by decide +kernel
theorem dX1_turnTo_17 : decode cX1_turnTo 17 = .ok (.iload_n 3, 1) := by decide +kernel
theorem dX1_turnTo_18 : decode cX1_turnTo 18 = .ok (.invokevirtual 66, 3) := by decide +kernel
theorem dX1_turnTo_21 : decode cX1_turnTo 21 = .ok (.aload_n 0, 1) := by decide +kernel
theorem dX1_turnTo_22 : decode cX1_turnTo 22 = .ok (.aload_n 0, 1) := by decide +kernel
theorem dX1_turnTo_23 : decode cX1_turnTo 23 = .ok (.iload_n 1, 1) := by decide +kernel
theorem dX1_turnTo_24 : decode cX1_turnTo 24 = .ok (.iload_n 2, 1) := by decide +kernel
theorem dX1_turnTo_25 : decode cX1_turnTo 25 = .ok (.invokevirtual 102, 3) := by decide +kernel
theorem dX1_turnTo_28 : decode cX1_turnTo 28 = .ok (.iload 4, 2) := by decide +kernel
theorem dX1_turnTo_30 : decode cX1_turnTo 30 = .ok (.isub, 1) := by decide +kernel
theorem dX1_turnTo_31 : decode cX1_turnTo 31 = .ok (.invokevirtual 99, 3) := by decide +kernel
theorem dX1_turnTo_34 : decode cX1_turnTo 34 = .ok (.ireturn, 1) := by decide +kernel
theorem dX1_hold_0 : decode cX1_hold 0 = .ok (.aload_n 0, 1) := by decide +kernel
theorem dX1_hold_1 : decode cX1_hold 1 = .ok (.iload_n 1, 1) := by decide +kernel
theorem dX1_hold_2 : decode cX1_hold 2 = .ok (.iload_n 2, 1) := by decide +kernel
theorem dX1_hold_3 : decode cX1_hold 3 = .ok (.invokevirtual 102, 3) := by decide +kernel
theorem dX1_hold_6 : decode cX1_hold 6 = .ok (.istore 6, 2) := by decide +kernel
theorem dX1_hold_8 : decode cX1_hold 8 = .ok (.iload_n 1, 1) := by decide +kernel
theorem dX1_hold_9 : decode cX1_hold 9 = .ok (.iload_n 2, 1) := by decide +kernel
theorem dX1_hold_10 : decode cX1_hold 10 = .ok (.invokestatic 55, 3) := by decide +kernel
theorem dX1_hold_13 : decode cX1_hold 13 = .ok (.istore 7, 2) := by decide +kernel
theorem dX1_hold_15 : decode cX1_hold 15 = .ok (.aload_n 0, 1) := by decide +kernel
theorem dX1_hold_16 : decode cX1_hold 16 = .ok (.getfield 20, 3) := by decide +kernel
theorem dX1_hold_19 : decode cX1_hold 19 = .ok (.iload 7, 2) := by decide +kernel
theorem dX1_hold_21 : decode cX1_hold 21 = .ok (.iload_n 3, 1) := by decide +kernel
theorem dX1_hold_22 : decode cX1_hold 22 = .ok (.invokevirtual 66, 3) := by decide +kernel
theorem dX1_hold_25 : decode cX1_hold 25 = .ok (.iload_n 3, 1) := by decide +kernel
theorem dX1_hold_26 : decode cX1_hold 26 = .ok (.iconst 2, 1) := by decide +kernel
theorem dX1_hold_27 : decode cX1_hold 27 = .ok (.if_icmp .ne 25, 3) := by decide +kernel
theorem dX1_hold_30 : decode cX1_hold 30 = .ok (.aload_n 0, 1) := by decide +kernel
theorem dX1_hold_31 : decode cX1_hold 31 = .ok (.getfield 23, 3) := by decide +kernel
theorem dX1_hold_34 : decode cX1_hold 34 = .ok (.iload 7, 2) := by decide +kernel
theorem dX1_hold_36 : decode cX1_hold 36 = .ok (.iload 4, 2) := by decide +kernel
theorem dX1_hold_38 : decode cX1_hold 38 = .ok (.invokevirtual 66, 3) := by decide +kernel
theorem dX1_hold_41 : decode cX1_hold 41 = .ok (.aload_n 0, 1) := by decide +kernel
theorem dX1_hold_42 : decode cX1_hold 42 = .ok (.getfield 26, 3) := by decide +kernel
theorem dX1_hold_45 : decode cX1_hold 45 = .ok (.iload 7, 2) := by decide +kernel
theorem dX1_hold_47 : decode cX1_hold 47 = .ok (.iload 5, 2) := by decide +kernel
theorem dX1_hold_49 : decode cX1_hold 49 = .ok (.invokevirtual 66, 3) := by decide +kernel
theorem dX1_hold_52 : decode cX1_hold 52 = .ok (.iload_n 3, 1) := by decide +kernel
theorem dX1_hold_53 : decode cX1_hold 53 = .ok (.iconst 1, 1) := by decide +kernel
theorem dX1_hold_54 : decode cX1_hold 54 = .ok (.if_icmp .ne 14, 3) := by decide +kernel
theorem dX1_hold_57 : decode cX1_hold 57 = .ok (.aload_n 0, 1) := by decide +kernel
theorem dX1_hold_58 : decode cX1_hold 58 = .ok (.getfield 14, 3) := by decide +kernel
theorem dX1_hold_61 : decode cX1_hold 61 = .ok (.iload 7, 2) := by decide +kernel
theorem dX1_hold_63 : decode cX1_hold 63 = .ok (.iload 4, 2) := by decide +kernel
theorem dX1_hold_65 : decode cX1_hold 65 = .ok (.invokevirtual 66, 3) := by decide +kernel
theorem dX1_hold_68 : decode cX1_hold 68 = .ok (.aload_n 0, 1) := by decide +kernel
theorem dX1_hold_69 : decode cX1_hold 69 = .ok (.aload_n 0, 1) := by decide +kernel
theorem dX1_hold_70 : decode cX1_hold 70 = .ok (.iload_n 1, 1) := by decide +kernel
theorem dX1_hold_71 : decode cX1_hold 71 = .ok (.iload_n 2, 1) := by decide +kernel
theorem dX1_hold_72 : decode cX1_hold 72 = .ok (.invokevirtual 102, 3) := by decide +kernel
theorem dX1_hold_75 : decode cX1_hold 75 = .ok (.iload 6, 2) := by decide +kernel
theorem dX1_hold_77 : decode cX1_hold 77 = .ok (.isub, 1) := by decide +kernel
theorem dX1_hold_78 : decode cX1_hold 78 = .ok (.invokevirtual 99, 3) := by decide +kernel
theorem dX1_hold_81 : decode cX1_hold 81 = .ok (.ireturn, 1) := by decide +kernel
theorem dX1_setField_0 : decode cX1_setField 0 = .ok (.aload_n 0, 1) := by decide +kernel
theorem dX1_setField_1 : decode cX1_setField 1 = .ok (.iload_n 1, 1) := by decide +kernel
theorem dX1_setField_2 : decode cX1_setField 2 = .ok (.invokevirtual 105, 3) := by decide +kernel
theorem dX1_setField_5 : decode cX1_setField 5 = .ok (.istore 4, 2) := by decide +kernel
theorem dX1_setField_7 : decode cX1_setField 7 = .ok (.aload_n 0, 1) := by decide +kernel
theorem dX1_setField_8 : decode cX1_setField 8 = .ok (.getfield 45, 3) := by decide +kernel
theorem dX1_setField_11 : decode cX1_setField 11 = .ok (.iload_n 1, 1) := by decide +kernel
theorem dX1_setField_12 : decode cX1_setField 12 = .ok (.iload_n 2, 1) := by decide +kernel
theorem dX1_setField_13 : decode cX1_setField 13 = .ok (.iload_n 3, 1) := by decide +kernel
theorem dX1_setField_14 : decode cX1_setField 14 = .ok (.invokevirtual 108, 3) := by decide +kernel
theorem dX1_setField_17 : decode cX1_setField 17 = .ok (.aload_n 0, 1) := by decide +kernel
theorem dX1_setField_18 : decode cX1_setField 18 = .ok (.aload_n 0, 1) := by decide +kernel
theorem dX1_setField_19 : decode cX1_setField 19 = .ok (.iload_n 1, 1) := by decide +kernel
theorem dX1_setField_20 : decode cX1_setField 20 = .ok (.invokevirtual 105, 3) := by decide +kernel
theorem dX1_setField_23 : decode cX1_setField 23 = .ok (.iload 4, 2) := by decide +kernel
theorem dX1_setField_25 : decode cX1_setField 25 = .ok (.isub, 1) := by decide +kernel
theorem dX1_setField_26 : decode cX1_setField 26 = .ok (.invokevirtual 99, 3) := by decide +kernel
theorem dX1_setField_29 : decode cX1_setField 29 = .ok (.ireturn, 1) := by decide +kernel
theorem dX1_heldInPixel_0 : decode cX1_heldInPixel 0 = .ok (.iconst 0, 1) := by decide +kernel
theorem dX1_heldInPixel_1 : decode cX1_heldInPixel 1 = .ok (.istore_n 2, 1) := by decide +kernel
theorem dX1_heldInPixel_2 : decode cX1_heldInPixel 2 = .ok (.aload_n 0, 1) := by decide +kernel
theorem dX1_heldInPixel_3 : decode cX1_heldInPixel 3 = .ok (.getfield 45, 3) := by decide +kernel
theorem dX1_heldInPixel_6 : decode cX1_heldInPixel 6 = .ok (.iload_n 1, 1) := by decide +kernel
theorem dX1_heldInPixel_7 : decode cX1_heldInPixel 7 = .ok (.invokevirtual 112, 3) := by decide +kernel
theorem dX1_heldInPixel_10 : decode cX1_heldInPixel 10 = .ok (.istore_n 3, 1) := by decide +kernel
theorem dX1_heldInPixel_11 : decode cX1_heldInPixel 11 = .ok (.aload_n 0, 1) := by decide +kernel
theorem dX1_heldInPixel_12 : decode cX1_heldInPixel 12 = .ok (.getfield 45, 3) := by decide +kernel
theorem dX1_heldInPixel_15 : decode cX1_heldInPixel 15 = .ok (.iload_n 1, 1) := by decide +kernel
theorem dX1_heldInPixel_16 : decode cX1_heldInPixel 16 = .ok (.invokevirtual 115, 3) := by decide +kernel
theorem dX1_heldInPixel_19 : decode cX1_heldInPixel 19 = .ok (.istore 4, 2) := by decide +kernel
theorem dX1_heldInPixel_21 : decode cX1_heldInPixel 21 = .ok (.iload_n 3, 1) := by decide +kernel
theorem dX1_heldInPixel_22 : decode cX1_heldInPixel 22 = .ok (.aload_n 0, 1) := by decide +kernel
theorem dX1_heldInPixel_23 : decode cX1_heldInPixel 23 = .ok (.getfield 45, 3) := by decide +kernel
theorem dX1_heldInPixel_26 : decode cX1_heldInPixel 26 = .ok (.iload_n 1, 1) := by decide +kernel
theorem dX1_heldInPixel_27 : decode cX1_heldInPixel 27 = .ok (.invokevirtual 118, 3) := by decide +kernel
theorem dX1_heldInPixel_30 : decode cX1_heldInPixel 30 = .ok (.iadd, 1) := by decide +kernel
theorem dX1_heldInPixel_31 : decode cX1_heldInPixel 31 = .ok (.istore 5, 2) := by decide +kernel
theorem dX1_heldInPixel_33 : decode cX1_heldInPixel 33 = .ok (.iload 4, 2) := by decide +kernel
theorem dX1_heldInPixel_35 : decode cX1_heldInPixel 35 = .ok (.aload_n 0, 1) := by decide +kernel
theorem dX1_heldInPixel_36 : decode cX1_heldInPixel 36 = .ok (.getfield 45, 3) := by decide +kernel
theorem dX1_heldInPixel_39 : decode cX1_heldInPixel 39 = .ok (.iload_n 1, 1) := by decide +kernel
theorem dX1_heldInPixel_40 : decode cX1_heldInPixel 40 = .ok (.invokevirtual 120, 3) := by decide +kernel
theorem dX1_heldInPixel_43 : decode cX1_heldInPixel 43 = .ok (.iadd, 1) := by decide +kernel
theorem dX1_heldInPixel_44 : decode cX1_heldInPixel 44 = .ok (.istore 6, 2) := by decide +kernel
theorem dX1_heldInPixel_46 : decode cX1_heldInPixel 46 = .ok (.iload 4, 2) := by decide +kernel
theorem dX1_heldInPixel_48 : decode cX1_heldInPixel 48 = .ok (.istore 7, 2) := by decide +kernel
theorem dX1_heldInPixel_50 : decode cX1_heldInPixel 50 = .ok (.iload 7, 2) := by decide +kernel
theorem dX1_heldInPixel_52 : decode cX1_heldInPixel 52 = .ok (.iload 6, 2) := by decide +kernel
theorem dX1_heldInPixel_54 : decode cX1_heldInPixel 54 = .ok (.if_icmp .ge 47, 3) := by decide +kernel
theorem dX1_heldInPixel_57 : decode cX1_heldInPixel 57 = .ok (.iload_n 3, 1) := by decide +kernel
theorem dX1_heldInPixel_58 : decode cX1_heldInPixel 58 = .ok (.istore 8, 2) := by decide +kernel
theorem dX1_heldInPixel_60 : decode cX1_heldInPixel 60 = .ok (.iload 8, 2) := by decide +kernel
theorem dX1_heldInPixel_62 : decode cX1_heldInPixel 62 = .ok (.iload 5, 2) := by decide +kernel
theorem dX1_heldInPixel_64 : decode cX1_heldInPixel 64 = .ok (.if_icmp .ge 31, 3) := by decide +kernel
theorem dX1_heldInPixel_67 : decode cX1_heldInPixel 67 = .ok (.iload_n 2, 1) := by decide +kernel
theorem dX1_heldInPixel_68 : decode cX1_heldInPixel 68 = .ok (.aload_n 0, 1) := by decide +kernel
theorem dX1_heldInPixel_69 : decode cX1_heldInPixel 69 = .ok (.iload 8, 2) := by decide +kernel
theorem dX1_heldInPixel_71 : decode cX1_heldInPixel 71 = .ok (.iload 7, 2) := by decide +kernel
theorem dX1_heldInPixel_73 : decode cX1_heldInPixel 73 = .ok (.invokestatic 55, 3) := by decide +kernel
theorem dX1_heldInPixel_76 : decode cX1_heldInPixel 76 = .ok (.aload_n 0, 1) := by decide +kernel
theorem dX1_heldInPixel_77 : decode cX1_heldInPixel 77 = .ok (.iload 8, 2) := by decide +kernel
theorem dX1_heldInPixel_79 : decode cX1_heldInPixel 79 = .ok (.iload 7, 2) := by decide +kernel
theorem dX1_heldInPixel_81 : decode cX1_heldInPixel 81 = .ok (.invokevirtual 88, 3) := by decide +kernel
theorem dX1_heldInPixel_84 : decode cX1_heldInPixel 84 = .ok (.invokevirtual 81, 3) := by decide +kernel
theorem dX1_heldInPixel_87 : decode cX1_heldInPixel 87 = .ok (.iadd, 1) := by decide +kernel
theorem dX1_heldInPixel_88 : decode cX1_heldInPixel 88 = .ok (.istore_n 2, 1) := by decide +kernel
theorem dX1_heldInPixel_89 : decode cX1_heldInPixel 89 = .ok (.iinc 8 1, 3) := by decide +kernel
theorem dX1_heldInPixel_92 : decode cX1_heldInPixel 92 = .ok (.goto (-32), 3) := by decide +kernel
theorem dX1_heldInPixel_95 : decode cX1_heldInPixel 95 = .ok (.iinc 7 1, 3) := by decide +kernel
theorem dX1_heldInPixel_98 : decode cX1_heldInPixel 98 = .ok (.goto (-48), 3) := by decide +kernel
theorem dX1_heldInPixel_101 : decode cX1_heldInPixel 101 = .ok (.iload_n 2, 1) := by decide +kernel
theorem dX1_heldInPixel_102 : decode cX1_heldInPixel 102 = .ok (.ireturn, 1) := by decide +kernel
theorem dX1_relax_0 : decode cX1_relax 0 = .ok (.aload_n 0, 1) := by decide +kernel
theorem dX1_relax_1 : decode cX1_relax 1 = .ok (.getfield 52, 3) := by decide +kernel
theorem dX1_relax_4 : decode cX1_relax 4 = .ok (.istore_n 1, 1) := by decide +kernel
theorem dX1_relax_5 : decode cX1_relax 5 = .ok (.iconst 0, 1) := by decide +kernel
theorem dX1_relax_6 : decode cX1_relax 6 = .ok (.istore_n 2, 1) := by decide +kernel
theorem dX1_relax_7 : decode cX1_relax 7 = .ok (.iload_n 2, 1) := by decide +kernel
theorem dX1_relax_8 : decode cX1_relax 8 = .ok (.aload_n 0, 1) := by decide +kernel
theorem dX1_relax_9 : decode cX1_relax 9 = .ok (.getfield 36, 3) := by decide +kernel
theorem dX1_relax_12 : decode cX1_relax 12 = .ok (.if_icmp .ge 41, 3) := by decide +kernel
theorem dX1_relax_15 : decode cX1_relax 15 = .ok (.iconst 0, 1) := by decide +kernel
theorem dX1_relax_16 : decode cX1_relax 16 = .ok (.istore_n 3, 1) := by decide +kernel
theorem dX1_relax_17 : decode cX1_relax 17 = .ok (.iload_n 3, 1) := by decide +kernel
theorem dX1_relax_18 : decode cX1_relax 18 = .ok (.aload_n 0, 1) := by decide +kernel
theorem dX1_relax_19 : decode cX1_relax 19 = .ok (.getfield 32, 3) := by decide +kernel
theorem dX1_relax_22 : decode cX1_relax 22 = .ok (.if_icmp .ge 25, 3) := by decide +kernel
theorem dX1_relax_25 : decode cX1_relax 25 = .ok (.aload_n 0, 1) := by decide +kernel
theorem dX1_relax_26 : decode cX1_relax 26 = .ok (.iload_n 3, 1) := by decide +kernel
theorem dX1_relax_27 : decode cX1_relax 27 = .ok (.iload_n 2, 1) := by decide +kernel
theorem dX1_relax_28 : decode cX1_relax 28 = .ok (.invokevirtual 122, 3) := by decide +kernel
theorem dX1_relax_31 : decode cX1_relax 31 = .ok (.iconst 1, 1) := by decide +kernel
theorem dX1_relax_32 : decode cX1_relax 32 = .ok (.if_icmp .eq 9, 3) := by decide +kernel
theorem dX1_relax_35 : decode cX1_relax 35 = .ok (.aload_n 0, 1) := by decide +kernel
theorem dX1_relax_36 : decode cX1_relax 36 = .ok (.iload_n 3, 1) := by decide +kernel
theorem dX1_relax_37 : decode cX1_relax 37 = .ok (.iload_n 2, 1) := by decide +kernel
theorem dX1_relax_38 : decode cX1_relax 38 = .ok (.invokevirtual 125, 3) := by decide +kernel
theorem dX1_relax_41 : decode cX1_relax 41 = .ok (.iinc 3 1, 3) := by decide +kernel
theorem dX1_relax_44 : decode cX1_relax 44 = .ok (.goto (-27), 3) := by decide +kernel
theorem dX1_relax_47 : decode cX1_relax 47 = .ok (.iinc 2 1, 3) := by decide +kernel
theorem dX1_relax_50 : decode cX1_relax 50 = .ok (.goto (-43), 3) := by decide +kernel
theorem dX1_relax_53 : decode cX1_relax 53 = .ok (.iload_n 1, 1) := by decide +kernel
theorem dX1_relax_54 : decode cX1_relax 54 = .ok (.aload_n 0, 1) := by decide +kernel
theorem dX1_relax_55 : decode cX1_relax 55 = .ok (.getfield 52, 3) := by decide +kernel
theorem dX1_relax_58 : decode cX1_relax 58 = .ok (.isub, 1) := by decide +kernel
theorem dX1_relax_59 : decode cX1_relax 59 = .ok (.ireturn, 1) := by decide +kernel
theorem dX1_settle_0 : decode cX1_settle 0 = .ok (.aload_n 0, 1) := by decide +kernel
theorem dX1_settle_1 : decode cX1_settle 1 = .ok (.iload_n 1, 1) := by decide +kernel
theorem dX1_settle_2 : decode cX1_settle 2 = .ok (.iload_n 2, 1) := by decide +kernel
theorem dX1_settle_3 : decode cX1_settle 3 = .ok (.invokevirtual 88, 3) := by decide +kernel
theorem dX1_settle_6 : decode cX1_settle 6 = .ok (.istore_n 3, 1) := by decide +kernel
theorem dX1_settle_7 : decode cX1_settle 7 = .ok (.iload_n 3, 1) := by decide +kernel
theorem dX1_settle_8 : decode cX1_settle 8 = .ok (.ifCond .ne 8, 3) := by decide +kernel
theorem dX1_settle_11 : decode cX1_settle 11 = .ok (.bipush 14, 2) := by decide +kernel
theorem dX1_settle_13 : decode cX1_settle 13 = .ok (.goto 6, 3) := by decide +kernel
theorem dX1_settle_16 : decode cX1_settle 16 = .ok (.iload_n 3, 1) := by decide +kernel
theorem dX1_settle_17 : decode cX1_settle 17 = .ok (.iconst 1, 1) := by decide +kernel
theorem dX1_settle_18 : decode cX1_settle 18 = .ok (.isub, 1) := by decide +kernel
theorem dX1_settle_19 : decode cX1_settle 19 = .ok (.istore 4, 2) := by decide +kernel
theorem dX1_settle_21 : decode cX1_settle 21 = .ok (.iload_n 3, 1) := by decide +kernel
theorem dX1_settle_22 : decode cX1_settle 22 = .ok (.bipush 14, 2) := by decide +kernel
theorem dX1_settle_24 : decode cX1_settle 24 = .ok (.if_icmp .ne 7, 3) := by decide +kernel
theorem dX1_settle_27 : decode cX1_settle 27 = .ok (.iconst 0, 1) := by decide +kernel
theorem dX1_settle_28 : decode cX1_settle 28 = .ok (.goto 6, 3) := by decide +kernel
theorem dX1_settle_31 : decode cX1_settle 31 = .ok (.iload_n 3, 1) := by decide +kernel
theorem dX1_settle_32 : decode cX1_settle 32 = .ok (.iconst 1, 1) := by decide +kernel
theorem dX1_settle_33 : decode cX1_settle 33 = .ok (.iadd, 1) := by decide +kernel
theorem dX1_settle_34 : decode cX1_settle 34 = .ok (.istore 5, 2) := by decide +kernel
theorem dX1_settle_36 : decode cX1_settle 36 = .ok (.aload_n 0, 1) := by decide +kernel
theorem dX1_settle_37 : decode cX1_settle 37 = .ok (.iload_n 1, 1) := by decide +kernel
theorem dX1_settle_38 : decode cX1_settle 38 = .ok (.iload_n 2, 1) := by decide +kernel
theorem dX1_settle_39 : decode cX1_settle 39 = .ok (.iload_n 3, 1) := by decide +kernel
theorem dX1_settle_40 : decode cX1_settle 40 = .ok (.invokevirtual 91, 3) := by decide +kernel
theorem dX1_settle_43 : decode cX1_settle 43 = .ok (.istore 6, 2) := by decide +kernel
theorem dX1_settle_45 : decode cX1_settle 45 = .ok (.aload_n 0, 1) := by decide +kernel
theorem dX1_settle_46 : decode cX1_settle 46 = .ok (.iload_n 1, 1) := by decide +kernel
theorem dX1_settle_47 : decode cX1_settle 47 = .ok (.iload_n 2, 1) := by decide +kernel
theorem dX1_settle_48 : decode cX1_settle 48 = .ok (.iload 4, 2) := by decide +kernel
theorem dX1_settle_50 : decode cX1_settle 50 = .ok (.invokevirtual 91, 3) := by decide +kernel
theorem dX1_settle_53 : decode cX1_settle 53 = .ok (.istore 7, 2) := by decide +kernel
theorem dX1_settle_55 : decode cX1_settle 55 = .ok (.aload_n 0, 1) := by decide +kernel
theorem dX1_settle_56 : decode cX1_settle 56 = .ok (.iload_n 1, 1) := by decide +kernel
theorem dX1_settle_57 : decode cX1_settle 57 = .ok (.iload_n 2, 1) := by decide +kernel
theorem dX1_settle_58 : decode cX1_settle 58 = .ok (.iload 5, 2) := by decide +kernel
theorem dX1_settle_60 : decode cX1_settle 60 = .ok (.invokevirtual 91, 3) := by decide +kernel
theorem dX1_settle_63 : decode cX1_settle 63 = .ok (.istore 8, 2) := by decide +kernel
theorem dX1_settle_65 : decode cX1_settle 65 = .ok (.iload_n 3, 1) := by decide +kernel
theorem dX1_settle_66 : decode cX1_settle 66 = .ok (.istore 9, 2) := by decide +kernel
theorem dX1_settle_68 : decode cX1_settle 68 = .ok (.iload 6, 2) := by decide +kernel
theorem dX1_settle_70 : decode cX1_settle 70 = .ok (.istore 10, 2) := by decide +kernel
theorem dX1_settle_72 : decode cX1_settle 72 = .ok (.iload 7, 2) := by decide +kernel
theorem dX1_settle_74 : decode cX1_settle 74 = .ok (.iload 10, 2) := by decide +kernel
theorem dX1_settle_76 : decode cX1_settle 76 = .ok (.if_icmp .ge 11, 3) := by decide +kernel
theorem dX1_settle_79 : decode cX1_settle 79 = .ok (.iload 4, 2) := by decide +kernel
theorem dX1_settle_81 : decode cX1_settle 81 = .ok (.istore 9, 2) := by decide +kernel
theorem dX1_settle_83 : decode cX1_settle 83 = .ok (.iload 7, 2) := by decide +kernel
theorem dX1_settle_85 : decode cX1_settle 85 = .ok (.istore 10, 2) := by decide +kernel
theorem dX1_settle_87 : decode cX1_settle 87 = .ok (.iload 8, 2) := by decide +kernel
theorem dX1_settle_89 : decode cX1_settle 89 = .ok (.iload 10, 2) := by decide +kernel
theorem dX1_settle_91 : decode cX1_settle 91 = .ok (.if_icmp .ge 11, 3) := by decide +kernel
theorem dX1_settle_94 : decode cX1_settle 94 = .ok (.iload 5, 2) := by decide +kernel
theorem dX1_settle_96 : decode cX1_settle 96 = .ok (.istore 9, 2) := by decide +kernel
theorem dX1_settle_98 : decode cX1_settle 98 = .ok (.iload 8, 2) := by decide +kernel
theorem dX1_settle_100 : decode cX1_settle 100 = .ok (.istore 10, 2) := by decide +kernel
theorem dX1_settle_102 : decode cX1_settle 102 = .ok (.aload_n 0, 1) := by decide +kernel
theorem dX1_settle_103 : decode cX1_settle 103 = .ok (.getfield 14, 3) := by decide +kernel
theorem dX1_settle_106 : decode cX1_settle 106 = .ok (.iload_n 1, 1) := by decide +kernel
theorem dX1_settle_107 : decode cX1_settle 107 = .ok (.iload_n 2, 1) := by decide +kernel
theorem dX1_settle_108 : decode cX1_settle 108 = .ok (.invokestatic 55, 3) := by decide +kernel
theorem dX1_settle_111 : decode cX1_settle 111 = .ok (.iload 9, 2) := by decide +kernel
theorem dX1_settle_113 : decode cX1_settle 113 = .ok (.invokevirtual 66, 3) := by decide +kernel
theorem dX1_settle_116 : decode cX1_settle 116 = .ok (.aload_n 0, 1) := by decide +kernel
theorem dX1_settle_117 : decode cX1_settle 117 = .ok (.iload 10, 2) := by decide +kernel
theorem dX1_settle_119 : decode cX1_settle 119 = .ok (.iload 6, 2) := by decide +kernel
theorem dX1_settle_121 : decode cX1_settle 121 = .ok (.isub, 1) := by decide +kernel
theorem dX1_settle_122 : decode cX1_settle 122 = .ok (.invokevirtual 99, 3) := by decide +kernel
theorem dX1_settle_125 : decode cX1_settle 125 = .ok (.pop, 1) := by decide +kernel
theorem dX1_settle_126 : decode cX1_settle 126 = .ok (.return_, 1) := by decide +kernel
theorem dX1_leastOfTwo_0 : decode cX1_leastOfTwo 0 = .ok (.iload_n 3, 1) := by decide +kernel
theorem dX1_leastOfTwo_1 : decode cX1_leastOfTwo 1 = .ok (.ifCond .eq 9, 3) := by decide +kernel
theorem dX1_leastOfTwo_4 : decode cX1_leastOfTwo 4 = .ok (.iload_n 1, 1) := by decide +kernel
theorem dX1_leastOfTwo_5 : decode cX1_leastOfTwo 5 = .ok (.iconst 1, 1) := by decide +kernel
theorem dX1_leastOfTwo_6 : decode cX1_leastOfTwo 6 = .ok (.iadd, 1) := by decide +kernel
theorem dX1_leastOfTwo_7 : decode cX1_leastOfTwo 7 = .ok (.goto 4, 3) := by decide +kernel
theorem dX1_leastOfTwo_10 : decode cX1_leastOfTwo 10 = .ok (.iload_n 1, 1) := by decide +kernel
theorem dX1_leastOfTwo_11 : decode cX1_leastOfTwo 11 = .ok (.istore 4, 2) := by decide +kernel
theorem dX1_leastOfTwo_13 : decode cX1_leastOfTwo 13 = .ok (.iload_n 3, 1) := by decide +kernel
theorem dX1_leastOfTwo_14 : decode cX1_leastOfTwo 14 = .ok (.ifCond .eq 7, 3) := by decide +kernel
theorem dX1_leastOfTwo_17 : decode cX1_leastOfTwo 17 = .ok (.iload_n 2, 1) := by decide +kernel
theorem dX1_leastOfTwo_18 : decode cX1_leastOfTwo 18 = .ok (.goto 6, 3) := by decide +kernel
theorem dX1_leastOfTwo_21 : decode cX1_leastOfTwo 21 = .ok (.iload_n 2, 1) := by decide +kernel
theorem dX1_leastOfTwo_22 : decode cX1_leastOfTwo 22 = .ok (.iconst 1, 1) := by decide +kernel
theorem dX1_leastOfTwo_23 : decode cX1_leastOfTwo 23 = .ok (.iadd, 1) := by decide +kernel
theorem dX1_leastOfTwo_24 : decode cX1_leastOfTwo 24 = .ok (.istore 5, 2) := by decide +kernel
theorem dX1_leastOfTwo_26 : decode cX1_leastOfTwo 26 = .ok (.iload_n 3, 1) := by decide +kernel
theorem dX1_leastOfTwo_27 : decode cX1_leastOfTwo 27 = .ok (.ifCond .eq 10, 3) := by decide +kernel
theorem dX1_leastOfTwo_30 : decode cX1_leastOfTwo 30 = .ok (.aload_n 0, 1) := by decide +kernel
theorem dX1_leastOfTwo_31 : decode cX1_leastOfTwo 31 = .ok (.getfield 39, 3) := by decide +kernel
theorem dX1_leastOfTwo_34 : decode cX1_leastOfTwo 34 = .ok (.goto 7, 3) := by decide +kernel
theorem dX1_leastOfTwo_37 : decode cX1_leastOfTwo 37 = .ok (.aload_n 0, 1) := by decide +kernel
theorem dX1_leastOfTwo_38 : decode cX1_leastOfTwo 38 = .ok (.getfield 42, 3) := by decide +kernel
theorem dX1_leastOfTwo_41 : decode cX1_leastOfTwo 41 = .ok (.istore 6, 2) := by decide +kernel
theorem dX1_leastOfTwo_43 : decode cX1_leastOfTwo 43 = .ok (.aload_n 0, 1) := by decide +kernel
theorem dX1_leastOfTwo_44 : decode cX1_leastOfTwo 44 = .ok (.iload_n 1, 1) := by decide +kernel
theorem dX1_leastOfTwo_45 : decode cX1_leastOfTwo 45 = .ok (.iload_n 2, 1) := by decide +kernel
theorem dX1_leastOfTwo_46 : decode cX1_leastOfTwo 46 = .ok (.invokevirtual 88, 3) := by decide +kernel
theorem dX1_leastOfTwo_49 : decode cX1_leastOfTwo 49 = .ok (.istore 7, 2) := by decide +kernel
theorem dX1_leastOfTwo_51 : decode cX1_leastOfTwo 51 = .ok (.aload_n 0, 1) := by decide +kernel
theorem dX1_leastOfTwo_52 : decode cX1_leastOfTwo 52 = .ok (.iload 4, 2) := by decide +kernel
theorem dX1_leastOfTwo_54 : decode cX1_leastOfTwo 54 = .ok (.iload 5, 2) := by decide +kernel
theorem dX1_leastOfTwo_56 : decode cX1_leastOfTwo 56 = .ok (.invokevirtual 88, 3) := by decide +kernel
theorem dX1_leastOfTwo_59 : decode cX1_leastOfTwo 59 = .ok (.istore 8, 2) := by decide +kernel
theorem dX1_leastOfTwo_61 : decode cX1_leastOfTwo 61 = .ok (.aload_n 0, 1) := by decide +kernel
theorem dX1_leastOfTwo_62 : decode cX1_leastOfTwo 62 = .ok (.iload_n 1, 1) := by decide +kernel
theorem dX1_leastOfTwo_63 : decode cX1_leastOfTwo 63 = .ok (.iload_n 2, 1) := by decide +kernel
theorem dX1_leastOfTwo_64 : decode cX1_leastOfTwo 64 = .ok (.invokevirtual 122, 3) := by decide +kernel
theorem dX1_leastOfTwo_67 : decode cX1_leastOfTwo 67 = .ok (.iconst 1, 1) := by decide +kernel
theorem dX1_leastOfTwo_68 : decode cX1_leastOfTwo 68 = .ok (.if_icmp .ne 7, 3) := by decide +kernel
theorem dX1_leastOfTwo_71 : decode cX1_leastOfTwo 71 = .ok (.iconst 1, 1) := by decide +kernel
theorem dX1_leastOfTwo_72 : decode cX1_leastOfTwo 72 = .ok (.goto 4, 3) := by decide +kernel
theorem dX1_leastOfTwo_75 : decode cX1_leastOfTwo 75 = .ok (.iconst 0, 1) := by decide +kernel
theorem dX1_leastOfTwo_76 : decode cX1_leastOfTwo 76 = .ok (.istore 9, 2) := by decide +kernel
theorem dX1_leastOfTwo_78 : decode cX1_leastOfTwo 78 = .ok (.aload_n 0, 1) := by decide +kernel
theorem dX1_leastOfTwo_79 : decode cX1_leastOfTwo 79 = .ok (.iload 4, 2) := by decide +kernel
theorem dX1_leastOfTwo_81 : decode cX1_leastOfTwo 81 = .ok (.iload 5, 2) := by decide +kernel
theorem dX1_leastOfTwo_83 : decode cX1_leastOfTwo 83 = .ok (.invokevirtual 122, 3) := by decide +kernel
theorem dX1_leastOfTwo_86 : decode cX1_leastOfTwo 86 = .ok (.iconst 1, 1) := by decide +kernel
theorem dX1_leastOfTwo_87 : decode cX1_leastOfTwo 87 = .ok (.if_icmp .ne 7, 3) := by decide +kernel
theorem dX1_leastOfTwo_90 : decode cX1_leastOfTwo 90 = .ok (.iconst 1, 1) := by decide +kernel
theorem dX1_leastOfTwo_91 : decode cX1_leastOfTwo 91 = .ok (.goto 4, 3) := by decide +kernel
theorem dX1_leastOfTwo_94 : decode cX1_leastOfTwo 94 = .ok (.iconst 0, 1) := by decide +kernel
theorem dX1_leastOfTwo_95 : decode cX1_leastOfTwo 95 = .ok (.istore 10, 2) := by decide +kernel
theorem dX1_leastOfTwo_97 : decode cX1_leastOfTwo 97 = .ok (.iload 9, 2) := by decide +kernel
theorem dX1_leastOfTwo_99 : decode cX1_leastOfTwo 99 = .ok (.ifCond .eq 8, 3) := by decide +kernel
theorem dX1_leastOfTwo_102 : decode cX1_leastOfTwo 102 = .ok (.iload 7, 2) := by decide +kernel
theorem dX1_leastOfTwo_104 : decode cX1_leastOfTwo 104 = .ok (.goto 4, 3) := by decide +kernel
theorem dX1_leastOfTwo_107 : decode cX1_leastOfTwo 107 = .ok (.iconst 0, 1) := by decide +kernel
theorem dX1_leastOfTwo_108 : decode cX1_leastOfTwo 108 = .ok (.istore 11, 2) := by decide +kernel
theorem dX1_leastOfTwo_110 : decode cX1_leastOfTwo 110 = .ok (.iload 9, 2) := by decide +kernel
theorem dX1_leastOfTwo_112 : decode cX1_leastOfTwo 112 = .ok (.ifCond .eq 8, 3) := by decide +kernel
theorem dX1_leastOfTwo_115 : decode cX1_leastOfTwo 115 = .ok (.iload 7, 2) := by decide +kernel
theorem dX1_leastOfTwo_117 : decode cX1_leastOfTwo 117 = .ok (.goto 5, 3) := by decide +kernel
theorem dX1_leastOfTwo_120 : decode cX1_leastOfTwo 120 = .ok (.bipush 14, 2) := by decide +kernel
theorem dX1_leastOfTwo_122 : decode cX1_leastOfTwo 122 = .ok (.istore 12, 2) := by decide +kernel
theorem dX1_leastOfTwo_124 : decode cX1_leastOfTwo 124 = .ok (.iload 10, 2) := by decide +kernel
theorem dX1_leastOfTwo_126 : decode cX1_leastOfTwo 126 = .ok (.ifCond .eq 8, 3) := by decide +kernel
theorem dX1_leastOfTwo_129 : decode cX1_leastOfTwo 129 = .ok (.iload 8, 2) := by decide +kernel
theorem dX1_leastOfTwo_131 : decode cX1_leastOfTwo 131 = .ok (.goto 4, 3) := by decide +kernel
theorem dX1_leastOfTwo_134 : decode cX1_leastOfTwo 134 = .ok (.iconst 0, 1) := by decide +kernel
theorem dX1_leastOfTwo_135 : decode cX1_leastOfTwo 135 = .ok (.istore 13, 2) := by decide +kernel
theorem dX1_leastOfTwo_137 : decode cX1_leastOfTwo 137 = .ok (.iload 10, 2) := by decide +kernel
theorem dX1_leastOfTwo_139 : decode cX1_leastOfTwo 139 = .ok (.ifCond .eq 8, 3) := by decide +kernel
theorem dX1_leastOfTwo_142 : decode cX1_leastOfTwo 142 = .ok (.iload 8, 2) := by decide +kernel
theorem dX1_leastOfTwo_144 : decode cX1_leastOfTwo 144 = .ok (.goto 5, 3) := by decide +kernel
theorem dX1_leastOfTwo_147 : decode cX1_leastOfTwo 147 = .ok (.bipush 14, 2) := by decide +kernel
theorem dX1_leastOfTwo_149 : decode cX1_leastOfTwo 149 = .ok (.istore 14, 2) := by decide +kernel
theorem dX1_leastOfTwo_151 : decode cX1_leastOfTwo 151 = .ok (.aload_n 0, 1) := by decide +kernel
theorem dX1_leastOfTwo_152 : decode cX1_leastOfTwo 152 = .ok (.iload_n 1, 1) := by decide +kernel
theorem dX1_leastOfTwo_153 : decode cX1_leastOfTwo 153 = .ok (.iload_n 2, 1) := by decide +kernel
theorem dX1_leastOfTwo_154 : decode cX1_leastOfTwo 154 = .ok (.invokevirtual 102, 3) := by decide +kernel
theorem dX1_leastOfTwo_157 : decode cX1_leastOfTwo 157 = .ok (.aload_n 0, 1) := by decide +kernel
theorem dX1_leastOfTwo_158 : decode cX1_leastOfTwo 158 = .ok (.iload 4, 2) := by decide +kernel
theorem dX1_leastOfTwo_160 : decode cX1_leastOfTwo 160 = .ok (.iload 5, 2) := by decide +kernel
theorem dX1_leastOfTwo_162 : decode cX1_leastOfTwo 162 = .ok (.invokevirtual 102, 3) := by decide +kernel
theorem dX1_leastOfTwo_165 : decode cX1_leastOfTwo 165 = .ok (.iadd, 1) := by decide +kernel
theorem dX1_leastOfTwo_166 : decode cX1_leastOfTwo 166 = .ok (.iload 6, 2) := by decide +kernel
theorem dX1_leastOfTwo_168 : decode cX1_leastOfTwo 168 = .ok (.iload 7, 2) := by decide +kernel
theorem dX1_leastOfTwo_170 : decode cX1_leastOfTwo 170 = .ok (.iload 8, 2) := by decide +kernel
theorem dX1_leastOfTwo_172 : decode cX1_leastOfTwo 172 = .ok (.invokestatic 70, 3) := by decide +kernel
theorem dX1_leastOfTwo_175 : decode cX1_leastOfTwo 175 = .ok (.imul, 1) := by decide +kernel
theorem dX1_leastOfTwo_176 : decode cX1_leastOfTwo 176 = .ok (.isub, 1) := by decide +kernel
theorem dX1_leastOfTwo_177 : decode cX1_leastOfTwo 177 = .ok (.istore 15, 2) := by decide +kernel
theorem dX1_leastOfTwo_179 : decode cX1_leastOfTwo 179 = .ok (.iload 11, 2) := by decide +kernel
theorem dX1_leastOfTwo_181 : decode cX1_leastOfTwo 181 = .ok (.istore 16, 2) := by decide +kernel
theorem dX1_leastOfTwo_183 : decode cX1_leastOfTwo 183 = .ok (.iload 16, 2) := by decide +kernel
theorem dX1_leastOfTwo_185 : decode cX1_leastOfTwo 185 = .ok (.iload 12, 2) := by decide +kernel
theorem dX1_leastOfTwo_187 : decode cX1_leastOfTwo 187 = .ok (.if_icmp .gt 93, 3) := by decide +kernel
theorem dX1_leastOfTwo_190 : decode cX1_leastOfTwo 190 = .ok (.aload_n 0, 1) := by decide +kernel
theorem dX1_leastOfTwo_191 : decode cX1_leastOfTwo 191 = .ok (.iload_n 1, 1) := by decide +kernel
theorem dX1_leastOfTwo_192 : decode cX1_leastOfTwo 192 = .ok (.iload_n 2, 1) := by decide +kernel
theorem dX1_leastOfTwo_193 : decode cX1_leastOfTwo 193 = .ok (.iload 16, 2) := by decide +kernel
theorem dX1_leastOfTwo_195 : decode cX1_leastOfTwo 195 = .ok (.invokevirtual 91, 3) := by decide +kernel
theorem dX1_leastOfTwo_198 : decode cX1_leastOfTwo 198 = .ok (.iload 6, 2) := by decide +kernel
theorem dX1_leastOfTwo_200 : decode cX1_leastOfTwo 200 = .ok (.iload 16, 2) := by decide +kernel
theorem dX1_leastOfTwo_202 : decode cX1_leastOfTwo 202 = .ok (.iload 8, 2) := by decide +kernel
theorem dX1_leastOfTwo_204 : decode cX1_leastOfTwo 204 = .ok (.invokestatic 70, 3) := by decide +kernel
theorem dX1_leastOfTwo_207 : decode cX1_leastOfTwo 207 = .ok (.imul, 1) := by decide +kernel
theorem dX1_leastOfTwo_208 : decode cX1_leastOfTwo 208 = .ok (.isub, 1) := by decide +kernel
theorem dX1_leastOfTwo_209 : decode cX1_leastOfTwo 209 = .ok (.istore 17, 2) := by decide +kernel
theorem dX1_leastOfTwo_211 : decode cX1_leastOfTwo 211 = .ok (.iload 13, 2) := by decide +kernel
theorem dX1_leastOfTwo_213 : decode cX1_leastOfTwo 213 = .ok (.istore 18, 2) := by decide +kernel
theorem dX1_leastOfTwo_215 : decode cX1_leastOfTwo 215 = .ok (.iload 18, 2) := by decide +kernel
theorem dX1_leastOfTwo_217 : decode cX1_leastOfTwo 217 = .ok (.iload 14, 2) := by decide +kernel
theorem dX1_leastOfTwo_219 : decode cX1_leastOfTwo 219 = .ok (.if_icmp .gt 55, 3) := by decide +kernel
theorem dX1_leastOfTwo_222 : decode cX1_leastOfTwo 222 = .ok (.aload_n 0, 1) := by decide +kernel
theorem dX1_leastOfTwo_223 : decode cX1_leastOfTwo 223 = .ok (.iload 4, 2) := by decide +kernel
theorem dX1_leastOfTwo_225 : decode cX1_leastOfTwo 225 = .ok (.iload 5, 2) := by decide +kernel
theorem dX1_leastOfTwo_227 : decode cX1_leastOfTwo 227 = .ok (.iload 18, 2) := by decide +kernel
theorem dX1_leastOfTwo_229 : decode cX1_leastOfTwo 229 = .ok (.invokevirtual 91, 3) := by decide +kernel
theorem dX1_leastOfTwo_232 : decode cX1_leastOfTwo 232 = .ok (.iload 6, 2) := by decide +kernel
theorem dX1_leastOfTwo_234 : decode cX1_leastOfTwo 234 = .ok (.iload 7, 2) := by decide +kernel
theorem dX1_leastOfTwo_236 : decode cX1_leastOfTwo 236 = .ok (.iload 18, 2) := by decide +kernel
theorem dX1_leastOfTwo_238 : decode cX1_leastOfTwo 238 = .ok (.invokestatic 70, 3) := by decide +kernel
theorem dX1_leastOfTwo_241 : decode cX1_leastOfTwo 241 = .ok (.imul, 1) := by decide +kernel
theorem dX1_leastOfTwo_242 : decode cX1_leastOfTwo 242 = .ok (.isub, 1) := by decide +kernel
theorem dX1_leastOfTwo_243 : decode cX1_leastOfTwo 243 = .ok (.istore 19, 2) := by decide +kernel
theorem dX1_leastOfTwo_245 : decode cX1_leastOfTwo 245 = .ok (.iload 15, 2) := by decide +kernel
theorem dX1_leastOfTwo_247 : decode cX1_leastOfTwo 247 = .ok (.iload 17, 2) := by decide +kernel
theorem dX1_leastOfTwo_249 : decode cX1_leastOfTwo 249 = .ok (.iload 19, 2) := by decide +kernel
theorem dX1_leastOfTwo_251 : decode cX1_leastOfTwo 251 = .ok (.iadd, 1) := by decide +kernel
theorem dX1_leastOfTwo_252 : decode cX1_leastOfTwo 252 = .ok (.iload 6, 2) := by decide +kernel
theorem dX1_leastOfTwo_254 : decode cX1_leastOfTwo 254 = .ok (.iload 16, 2) := by decide +kernel
theorem dX1_leastOfTwo_256 : decode cX1_leastOfTwo 256 = .ok (.iload 18, 2) := by decide +kernel
theorem dX1_leastOfTwo_258 : decode cX1_leastOfTwo 258 = .ok (.invokestatic 70, 3) := by decide +kernel
theorem dX1_leastOfTwo_261 : decode cX1_leastOfTwo 261 = .ok (.imul, 1) := by decide +kernel
theorem dX1_leastOfTwo_262 : decode cX1_leastOfTwo 262 = .ok (.iadd, 1) := by decide +kernel
theorem dX1_leastOfTwo_263 : decode cX1_leastOfTwo 263 = .ok (.invokestatic 128, 3) := by decide +kernel
theorem dX1_leastOfTwo_266 : decode cX1_leastOfTwo 266 = .ok (.istore 15, 2) := by decide +kernel
theorem dX1_leastOfTwo_268 : decode cX1_leastOfTwo 268 = .ok (.iinc 18 1, 3) := by decide +kernel
theorem dX1_leastOfTwo_271 : decode cX1_leastOfTwo 271 = .ok (.goto (-56), 3) := by decide +kernel
theorem dX1_leastOfTwo_274 : decode cX1_leastOfTwo 274 = .ok (.iinc 16 1, 3) := by decide +kernel
theorem dX1_leastOfTwo_277 : decode cX1_leastOfTwo 277 = .ok (.goto (-94), 3) := by decide +kernel
theorem dX1_leastOfTwo_280 : decode cX1_leastOfTwo 280 = .ok (.iload 15, 2) := by decide +kernel
theorem dX1_leastOfTwo_282 : decode cX1_leastOfTwo 282 = .ok (.ireturn, 1) := by decide +kernel
theorem dX1_greyOfPixel_0 : decode cX1_greyOfPixel 0 = .ok (.iconst 0, 1) := by decide +kernel
theorem dX1_greyOfPixel_1 : decode cX1_greyOfPixel 1 = .ok (.istore_n 3, 1) := by decide +kernel
theorem dX1_greyOfPixel_2 : decode cX1_greyOfPixel 2 = .ok (.iconst 0, 1) := by decide +kernel
theorem dX1_greyOfPixel_3 : decode cX1_greyOfPixel 3 = .ok (.istore 4, 2) := by decide +kernel
theorem dX1_greyOfPixel_5 : decode cX1_greyOfPixel 5 = .ok (.aload_n 0, 1) := by decide +kernel
theorem dX1_greyOfPixel_6 : decode cX1_greyOfPixel 6 = .ok (.getfield 45, 3) := by decide +kernel
theorem dX1_greyOfPixel_9 : decode cX1_greyOfPixel 9 = .ok (.iload_n 1, 1) := by decide +kernel
theorem dX1_greyOfPixel_10 : decode cX1_greyOfPixel 10 = .ok (.invokevirtual 112, 3) := by decide +kernel
theorem dX1_greyOfPixel_13 : decode cX1_greyOfPixel 13 = .ok (.istore 5, 2) := by decide +kernel
theorem dX1_greyOfPixel_15 : decode cX1_greyOfPixel 15 = .ok (.aload_n 0, 1) := by decide +kernel
theorem dX1_greyOfPixel_16 : decode cX1_greyOfPixel 16 = .ok (.getfield 45, 3) := by decide +kernel
theorem dX1_greyOfPixel_19 : decode cX1_greyOfPixel 19 = .ok (.iload_n 1, 1) := by decide +kernel
theorem dX1_greyOfPixel_20 : decode cX1_greyOfPixel 20 = .ok (.invokevirtual 115, 3) := by decide +kernel
theorem dX1_greyOfPixel_23 : decode cX1_greyOfPixel 23 = .ok (.istore 6, 2) := by decide +kernel
theorem dX1_greyOfPixel_25 : decode cX1_greyOfPixel 25 = .ok (.iload 5, 2) := by decide +kernel
theorem dX1_greyOfPixel_27 : decode cX1_greyOfPixel 27 = .ok (.aload_n 0, 1) := by decide +kernel
theorem dX1_greyOfPixel_28 : decode cX1_greyOfPixel 28 = .ok (.getfield 45, 3) := by decide +kernel
theorem dX1_greyOfPixel_31 : decode cX1_greyOfPixel 31 = .ok (.iload_n 1, 1) := by decide +kernel
theorem dX1_greyOfPixel_32 : decode cX1_greyOfPixel 32 = .ok (.invokevirtual 118, 3) := by decide +kernel
theorem dX1_greyOfPixel_35 : decode cX1_greyOfPixel 35 = .ok (.iadd, 1) := by decide +kernel
theorem dX1_greyOfPixel_36 : decode cX1_greyOfPixel 36 = .ok (.istore 7, 2) := by decide +kernel
theorem dX1_greyOfPixel_38 : decode cX1_greyOfPixel 38 = .ok (.iload 6, 2) := by decide +kernel
theorem dX1_greyOfPixel_40 : decode cX1_greyOfPixel 40 = .ok (.aload_n 0, 1) := by decide +kernel
theorem dX1_greyOfPixel_41 : decode cX1_greyOfPixel 41 = .ok (.getfield 45, 3) := by decide +kernel
theorem dX1_greyOfPixel_44 : decode cX1_greyOfPixel 44 = .ok (.iload_n 1, 1) := by decide +kernel
theorem dX1_greyOfPixel_45 : decode cX1_greyOfPixel 45 = .ok (.invokevirtual 120, 3) := by decide +kernel
theorem dX1_greyOfPixel_48 : decode cX1_greyOfPixel 48 = .ok (.iadd, 1) := by decide +kernel
theorem dX1_greyOfPixel_49 : decode cX1_greyOfPixel 49 = .ok (.istore 8, 2) := by decide +kernel
theorem dX1_greyOfPixel_51 : decode cX1_greyOfPixel 51 = .ok (.iload 6, 2) := by decide +kernel
theorem dX1_greyOfPixel_53 : decode cX1_greyOfPixel 53 = .ok (.istore 9, 2) := by decide +kernel
theorem dX1_greyOfPixel_55 : decode cX1_greyOfPixel 55 = .ok (.iload 9, 2) := by decide +kernel
theorem dX1_greyOfPixel_57 : decode cX1_greyOfPixel 57 = .ok (.iload 8, 2) := by decide +kernel
theorem dX1_greyOfPixel_59 : decode cX1_greyOfPixel 59 = .ok (.if_icmp .ge 44, 3) := by decide +kernel
theorem dX1_greyOfPixel_62 : decode cX1_greyOfPixel 62 = .ok (.iload 5, 2) := by decide +kernel
theorem dX1_greyOfPixel_64 : decode cX1_greyOfPixel 64 = .ok (.istore 10, 2) := by decide +kernel
theorem dX1_greyOfPixel_66 : decode cX1_greyOfPixel 66 = .ok (.iload 10, 2) := by decide +kernel
theorem dX1_greyOfPixel_68 : decode cX1_greyOfPixel 68 = .ok (.iload 7, 2) := by decide +kernel
theorem dX1_greyOfPixel_70 : decode cX1_greyOfPixel 70 = .ok (.if_icmp .ge 27, 3) := by decide +kernel
theorem dX1_greyOfPixel_73 : decode cX1_greyOfPixel 73 = .ok (.iload_n 3, 1) := by decide +kernel
theorem dX1_greyOfPixel_74 : decode cX1_greyOfPixel 74 = .ok (.aload_n 0, 1) := by decide +kernel
theorem dX1_greyOfPixel_75 : decode cX1_greyOfPixel 75 = .ok (.iload 10, 2) := by decide +kernel
theorem dX1_greyOfPixel_77 : decode cX1_greyOfPixel 77 = .ok (.iload 9, 2) := by decide +kernel
theorem dX1_greyOfPixel_79 : decode cX1_greyOfPixel 79 = .ok (.invokevirtual 88, 3) := by decide +kernel
theorem dX1_greyOfPixel_82 : decode cX1_greyOfPixel 82 = .ok (.iload_n 2, 1) := by decide +kernel
theorem dX1_greyOfPixel_83 : decode cX1_greyOfPixel 83 = .ok (.invokestatic 133, 3) := by decide +kernel
theorem dX1_greyOfPixel_86 : decode cX1_greyOfPixel 86 = .ok (.iadd, 1) := by decide +kernel
theorem dX1_greyOfPixel_87 : decode cX1_greyOfPixel 87 = .ok (.istore_n 3, 1) := by decide +kernel
theorem dX1_greyOfPixel_88 : decode cX1_greyOfPixel 88 = .ok (.iinc 4 1, 3) := by decide +kernel
theorem dX1_greyOfPixel_91 : decode cX1_greyOfPixel 91 = .ok (.iinc 10 1, 3) := by decide +kernel
theorem dX1_greyOfPixel_94 : decode cX1_greyOfPixel 94 = .ok (.goto (-28), 3) := by decide +kernel
theorem dX1_greyOfPixel_97 : decode cX1_greyOfPixel 97 = .ok (.iinc 9 1, 3) := by decide +kernel
theorem dX1_greyOfPixel_100 : decode cX1_greyOfPixel 100 = .ok (.goto (-45), 3) := by decide +kernel
theorem dX1_greyOfPixel_103 : decode cX1_greyOfPixel 103 = .ok (.iload 4, 2) := by decide +kernel
theorem dX1_greyOfPixel_105 : decode cX1_greyOfPixel 105 = .ok (.ifCond .le 10, 3) := by decide +kernel
theorem dX1_greyOfPixel_108 : decode cX1_greyOfPixel 108 = .ok (.iload_n 3, 1) := by decide +kernel
theorem dX1_greyOfPixel_109 : decode cX1_greyOfPixel 109 = .ok (.iload 4, 2) := by decide +kernel
theorem dX1_greyOfPixel_111 : decode cX1_greyOfPixel 111 = .ok (.idiv, 1) := by decide +kernel
theorem dX1_greyOfPixel_112 : decode cX1_greyOfPixel 112 = .ok (.goto 4, 3) := by decide +kernel
theorem dX1_greyOfPixel_115 : decode cX1_greyOfPixel 115 = .ok (.iconst 0, 1) := by decide +kernel
theorem dX1_greyOfPixel_116 : decode cX1_greyOfPixel 116 = .ok (.ireturn, 1) := by decide +kernel
theorem dX2_init_0 : decode cX2_init 0 = .ok (.aload_n 0, 1) := by decide +kernel
theorem dX2_init_1 : decode cX2_init 1 = .ok (.invokespecial 3, 3) := by decide +kernel
theorem dX2_init_4 : decode cX2_init 4 = .ok (.aload_n 0, 1) := by decide +kernel
theorem dX2_init_5 : decode cX2_init 5 = .ok (.new 9, 3) := by decide +kernel
theorem dX2_init_8 : decode cX2_init 8 = .ok (.dup, 1) := by decide +kernel
theorem dX2_init_9 : decode cX2_init 9 = .ok (.bipush 10, 2) := by decide +kernel
theorem dX2_init_11 : decode cX2_init 11 = .ok (.invokespecial 11, 3) := by decide +kernel
theorem dX2_init_14 : decode cX2_init 14 = .ok (.putfield 14, 3) := by decide +kernel
theorem dX2_init_17 : decode cX2_init 17 = .ok (.aload_n 0, 1) := by decide +kernel
theorem dX2_init_18 : decode cX2_init 18 = .ok (.new 9, 3) := by decide +kernel
theorem dX2_init_21 : decode cX2_init 21 = .ok (.dup, 1) := by decide +kernel
theorem dX2_init_22 : decode cX2_init 22 = .ok (.sipush 1440, 3) := by decide +kernel
theorem dX2_init_25 : decode cX2_init 25 = .ok (.invokespecial 11, 3) := by decide +kernel
theorem dX2_init_28 : decode cX2_init 28 = .ok (.putfield 20, 3) := by decide +kernel
theorem dX2_init_31 : decode cX2_init 31 = .ok (.return_, 1) := by decide +kernel
theorem dX2_has_0 : decode cX2_has 0 = .ok (.iload_n 1, 1) := by decide +kernel
theorem dX2_has_1 : decode cX2_has 1 = .ok (.ifCond .lt 15, 3) := by decide +kernel
theorem dX2_has_4 : decode cX2_has 4 = .ok (.iload_n 1, 1) := by decide +kernel
theorem dX2_has_5 : decode cX2_has 5 = .ok (.aload_n 0, 1) := by decide +kernel
theorem dX2_has_6 : decode cX2_has 6 = .ok (.getfield 23, 3) := by decide +kernel
theorem dX2_has_9 : decode cX2_has 9 = .ok (.if_icmp .ge 7, 3) := by decide +kernel
theorem dX2_has_12 : decode cX2_has 12 = .ok (.iconst 1, 1) := by decide +kernel
theorem dX2_has_13 : decode cX2_has 13 = .ok (.goto 4, 3) := by decide +kernel
theorem dX2_has_16 : decode cX2_has 16 = .ok (.iconst 0, 1) := by decide +kernel
theorem dX2_has_17 : decode cX2_has 17 = .ok (.ireturn, 1) := by decide +kernel
theorem dX2_take_0 : decode cX2_take 0 = .ok (.aload_n 0, 1) := by decide +kernel
theorem dX2_take_1 : decode cX2_take 1 = .ok (.getfield 23, 3) := by decide +kernel
theorem dX2_take_4 : decode cX2_take 4 = .ok (.istore_n 3, 1) := by decide +kernel
theorem dX2_take_5 : decode cX2_take 5 = .ok (.aload_n 0, 1) := by decide +kernel
theorem dX2_take_6 : decode cX2_take 6 = .ok (.getfield 14, 3) := by decide +kernel
theorem dX2_take_9 : decode cX2_take 9 = .ok (.iload_n 3, 1) := by decide +kernel
theorem dX2_take_10 : decode cX2_take 10 = .ok (.iload_n 2, 1) := by decide +kernel
theorem dX2_take_11 : decode cX2_take 11 = .ok (.invokevirtual 27, 3) := by decide +kernel
theorem dX2_take_14 : decode cX2_take 14 = .ok (.iconst 0, 1) := by decide +kernel
theorem dX2_take_15 : decode cX2_take 15 = .ok (.istore 4, 2) := by decide +kernel
theorem dX2_take_17 : decode cX2_take 17 = .ok (.iload 4, 2) := by decide +kernel
theorem dX2_take_19 : decode cX2_take 19 = .ok (.aload_n 1, 1) := by decide +kernel
theorem dX2_take_20 : decode cX2_take 20 = .ok (.getfield 31, 3) := by decide +kernel
theorem dX2_take_23 : decode cX2_take 23 = .ok (.if_icmp .ge 59, 3) := by decide +kernel
theorem dX2_take_26 : decode cX2_take 26 = .ok (.iconst 0, 1) := by decide +kernel
theorem dX2_take_27 : decode cX2_take 27 = .ok (.istore 5, 2) := by decide +kernel
theorem dX2_take_29 : decode cX2_take 29 = .ok (.iload 5, 2) := by decide +kernel
theorem dX2_take_31 : decode cX2_take 31 = .ok (.aload_n 1, 1) := by decide +kernel
theorem dX2_take_32 : decode cX2_take 32 = .ok (.getfield 36, 3) := by decide +kernel
theorem dX2_take_35 : decode cX2_take 35 = .ok (.if_icmp .ge 41, 3) := by decide +kernel
theorem dX2_take_38 : decode cX2_take 38 = .ok (.aload_n 0, 1) := by decide +kernel
theorem dX2_take_39 : decode cX2_take 39 = .ok (.getfield 20, 3) := by decide +kernel
theorem dX2_take_42 : decode cX2_take 42 = .ok (.iload_n 3, 1) := by decide +kernel
theorem dX2_take_43 : decode cX2_take 43 = .ok (.sipush 144, 3) := by decide +kernel
theorem dX2_take_46 : decode cX2_take 46 = .ok (.imul, 1) := by decide +kernel
theorem dX2_take_47 : decode cX2_take 47 = .ok (.iload 5, 2) := by decide +kernel
theorem dX2_take_49 : decode cX2_take 49 = .ok (.iload 4, 2) := by decide +kernel
theorem dX2_take_51 : decode cX2_take 51 = .ok (.invokestatic 39, 3) := by decide +kernel
theorem dX2_take_54 : decode cX2_take 54 = .ok (.iadd, 1) := by decide +kernel
theorem dX2_take_55 : decode cX2_take 55 = .ok (.aload_n 1, 1) := by decide +kernel
theorem dX2_take_56 : decode cX2_take 56 = .ok (.iload 5, 2) := by decide +kernel
theorem dX2_take_58 : decode cX2_take 58 = .ok (.iload 4, 2) := by decide +kernel
theorem dX2_take_60 : decode cX2_take 60 = .ok (.invokevirtual 43, 3) := by decide +kernel
theorem dX2_take_63 : decode cX2_take 63 = .ok (.iload_n 2, 1) := by decide +kernel
theorem dX2_take_64 : decode cX2_take 64 = .ok (.invokestatic 46, 3) := by decide +kernel
theorem dX2_take_67 : decode cX2_take 67 = .ok (.invokevirtual 27, 3) := by decide +kernel
theorem dX2_take_70 : decode cX2_take 70 = .ok (.iinc 5 1, 3) := by decide +kernel
theorem dX2_take_73 : decode cX2_take 73 = .ok (.goto (-44), 3) := by decide +kernel
theorem dX2_take_76 : decode cX2_take 76 = .ok (.iinc 4 1, 3) := by decide +kernel
theorem dX2_take_79 : decode cX2_take 79 = .ok (.goto (-62), 3) := by decide +kernel
theorem dX2_take_82 : decode cX2_take 82 = .ok (.aload_n 0, 1) := by decide +kernel
theorem dX2_take_83 : decode cX2_take 83 = .ok (.dup, 1) := by decide +kernel
theorem dX2_take_84 : decode cX2_take 84 = .ok (.getfield 23, 3) := by decide +kernel
theorem dX2_take_87 : decode cX2_take 87 = .ok (.iconst 1, 1) := by decide +kernel
theorem dX2_take_88 : decode cX2_take 88 = .ok (.iadd, 1) := by decide +kernel
theorem dX2_take_89 : decode cX2_take 89 = .ok (.putfield 23, 3) := by decide +kernel
theorem dX2_take_92 : decode cX2_take 92 = .ok (.iload_n 3, 1) := by decide +kernel
theorem dX2_take_93 : decode cX2_take 93 = .ok (.ireturn, 1) := by decide +kernel
theorem dX2_greyAt_0 : decode cX2_greyAt 0 = .ok (.aload_n 0, 1) := by decide +kernel
theorem dX2_greyAt_1 : decode cX2_greyAt 1 = .ok (.getfield 20, 3) := by decide +kernel
theorem dX2_greyAt_4 : decode cX2_greyAt 4 = .ok (.iload_n 1, 1) := by decide +kernel
theorem dX2_greyAt_5 : decode cX2_greyAt 5 = .ok (.sipush 144, 3) := by decide +kernel
theorem dX2_greyAt_8 : decode cX2_greyAt 8 = .ok (.imul, 1) := by decide +kernel
theorem dX2_greyAt_9 : decode cX2_greyAt 9 = .ok (.iload_n 2, 1) := by decide +kernel
theorem dX2_greyAt_10 : decode cX2_greyAt 10 = .ok (.iload_n 3, 1) := by decide +kernel
theorem dX2_greyAt_11 : decode cX2_greyAt 11 = .ok (.invokestatic 39, 3) := by decide +kernel
theorem dX2_greyAt_14 : decode cX2_greyAt 14 = .ok (.iadd, 1) := by decide +kernel
theorem dX2_greyAt_15 : decode cX2_greyAt 15 = .ok (.invokevirtual 49, 3) := by decide +kernel
theorem dX2_greyAt_18 : decode cX2_greyAt 18 = .ok (.ireturn, 1) := by decide +kernel
theorem dX2_changed_0 : decode cX2_changed 0 = .ok (.iconst 0, 1) := by decide +kernel
theorem dX2_changed_1 : decode cX2_changed 1 = .ok (.istore_n 3, 1) := by decide +kernel
theorem dX2_changed_2 : decode cX2_changed 2 = .ok (.iconst 0, 1) := by decide +kernel
theorem dX2_changed_3 : decode cX2_changed 3 = .ok (.istore 4, 2) := by decide +kernel
theorem dX2_changed_5 : decode cX2_changed 5 = .ok (.iload 4, 2) := by decide +kernel
theorem dX2_changed_7 : decode cX2_changed 7 = .ok (.aload_n 2, 1) := by decide +kernel
theorem dX2_changed_8 : decode cX2_changed 8 = .ok (.getfield 31, 3) := by decide +kernel
theorem dX2_changed_11 : decode cX2_changed 11 = .ok (.if_icmp .ge 61, 3) := by decide +kernel
theorem dX2_changed_14 : decode cX2_changed 14 = .ok (.iconst 0, 1) := by decide +kernel
theorem dX2_changed_15 : decode cX2_changed 15 = .ok (.istore 5, 2) := by decide +kernel
theorem dX2_changed_17 : decode cX2_changed 17 = .ok (.iload 5, 2) := by decide +kernel
theorem dX2_changed_19 : decode cX2_changed 19 = .ok (.aload_n 2, 1) := by decide +kernel
theorem dX2_changed_20 : decode cX2_changed 20 = .ok (.getfield 36, 3) := by decide +kernel
theorem dX2_changed_23 : decode cX2_changed 23 = .ok (.if_icmp .ge 43, 3) := by decide +kernel
theorem dX2_changed_26 : decode cX2_changed 26 = .ok (.aload_n 2, 1) := by decide +kernel
theorem dX2_changed_27 : decode cX2_changed 27 = .ok (.iload 5, 2) := by decide +kernel
theorem dX2_changed_29 : decode cX2_changed 29 = .ok (.iload 4, 2) := by decide +kernel
theorem dX2_changed_31 : decode cX2_changed 31 = .ok (.invokevirtual 43, 3) := by decide +kernel
theorem dX2_changed_34 : decode cX2_changed 34 = .ok (.aload_n 0, 1) := by decide +kernel
theorem dX2_changed_35 : decode cX2_changed 35 = .ok (.getfield 14, 3) := by decide +kernel
theorem dX2_changed_38 : decode cX2_changed 38 = .ok (.iload_n 1, 1) := by decide +kernel
theorem dX2_changed_39 : decode cX2_changed 39 = .ok (.invokevirtual 49, 3) := by decide +kernel
theorem dX2_changed_42 : decode cX2_changed 42 = .ok (.invokestatic 46, 3) := by decide +kernel
theorem dX2_changed_45 : decode cX2_changed 45 = .ok (.aload_n 0, 1) := by decide +kernel
theorem dX2_changed_46 : decode cX2_changed 46 = .ok (.iload_n 1, 1) := by decide +kernel
theorem dX2_changed_47 : decode cX2_changed 47 = .ok (.iload 5, 2) := by decide +kernel
theorem dX2_changed_49 : decode cX2_changed 49 = .ok (.iload 4, 2) := by decide +kernel
theorem dX2_changed_51 : decode cX2_changed 51 = .ok (.invokevirtual 53, 3) := by decide +kernel
theorem dX2_changed_54 : decode cX2_changed 54 = .ok (.if_icmp .eq 6, 3) := by decide +kernel
theorem dX2_changed_57 : decode cX2_changed 57 = .ok (.iinc 3 1, 3) := by decide +kernel
theorem dX2_changed_60 : decode cX2_changed 60 = .ok (.iinc 5 1, 3) := by decide +kernel
theorem dX2_changed_63 : decode cX2_changed 63 = .ok (.goto (-46), 3) := by decide +kernel
theorem dX2_changed_66 : decode cX2_changed 66 = .ok (.iinc 4 1, 3) := by decide +kernel
theorem dX2_changed_69 : decode cX2_changed 69 = .ok (.goto (-64), 3) := by decide +kernel
theorem dX2_changed_72 : decode cX2_changed 72 = .ok (.iload_n 3, 1) := by decide +kernel
theorem dX2_changed_73 : decode cX2_changed 73 = .ok (.ireturn, 1) := by decide +kernel
theorem dX2_fitting_0 : decode cX2_fitting 0 = .ok (.iconst 0, 1) := by decide +kernel
theorem dX2_fitting_1 : decode cX2_fitting 1 = .ok (.istore 4, 2) := by decide +kernel
theorem dX2_fitting_3 : decode cX2_fitting 3 = .ok (.iconst 0, 1) := by decide +kernel
theorem dX2_fitting_4 : decode cX2_fitting 4 = .ok (.istore 5, 2) := by decide +kernel
theorem dX2_fitting_6 : decode cX2_fitting 6 = .ok (.iload 5, 2) := by decide +kernel
theorem dX2_fitting_8 : decode cX2_fitting 8 = .ok (.bipush 15, 2) := by decide +kernel
theorem dX2_fitting_10 : decode cX2_fitting 10 = .ok (.if_icmp .ge 35, 3) := by decide +kernel
theorem dX2_fitting_13 : decode cX2_fitting 13 = .ok (.iload 5, 2) := by decide +kernel
theorem dX2_fitting_15 : decode cX2_fitting 15 = .ok (.aload_n 0, 1) := by decide +kernel
theorem dX2_fitting_16 : decode cX2_fitting 16 = .ok (.getfield 14, 3) := by decide +kernel
theorem dX2_fitting_19 : decode cX2_fitting 19 = .ok (.iload_n 1, 1) := by decide +kernel
theorem dX2_fitting_20 : decode cX2_fitting 20 = .ok (.invokevirtual 49, 3) := by decide +kernel
theorem dX2_fitting_23 : decode cX2_fitting 23 = .ok (.invokestatic 46, 3) := by decide +kernel
theorem dX2_fitting_26 : decode cX2_fitting 26 = .ok (.aload_n 0, 1) := by decide +kernel
theorem dX2_fitting_27 : decode cX2_fitting 27 = .ok (.iload_n 1, 1) := by decide +kernel
theorem dX2_fitting_28 : decode cX2_fitting 28 = .ok (.iload_n 2, 1) := by decide +kernel
theorem dX2_fitting_29 : decode cX2_fitting 29 = .ok (.iload_n 3, 1) := by decide +kernel
theorem dX2_fitting_30 : decode cX2_fitting 30 = .ok (.invokevirtual 53, 3) := by decide +kernel
theorem dX2_fitting_33 : decode cX2_fitting 33 = .ok (.if_icmp .ne 6, 3) := by decide +kernel
theorem dX2_fitting_36 : decode cX2_fitting 36 = .ok (.iinc 4 1, 3) := by decide +kernel
theorem dX2_fitting_39 : decode cX2_fitting 39 = .ok (.iinc 5 1, 3) := by decide +kernel
theorem dX2_fitting_42 : decode cX2_fitting 42 = .ok (.goto (-36), 3) := by decide +kernel
theorem dX2_fitting_45 : decode cX2_fitting 45 = .ok (.iload 4, 2) := by decide +kernel
theorem dX2_fitting_47 : decode cX2_fitting 47 = .ok (.ireturn, 1) := by decide +kernel
theorem dX3_init_0 : decode cX3_init 0 = .ok (.aload_n 0, 1) := by decide +kernel
theorem dX3_init_1 : decode cX3_init 1 = .ok (.invokespecial 3, 3) := by decide +kernel
theorem dX3_init_4 : decode cX3_init 4 = .ok (.aload_n 0, 1) := by decide +kernel
theorem dX3_init_5 : decode cX3_init 5 = .ok (.new 9, 3) := by decide +kernel
theorem dX3_init_8 : decode cX3_init 8 = .ok (.dup, 1) := by decide +kernel
theorem dX3_init_9 : decode cX3_init 9 = .ok (.bipush 8, 2) := by decide +kernel
theorem dX3_init_11 : decode cX3_init 11 = .ok (.invokespecial 11, 3) := by decide +kernel
theorem dX3_init_14 : decode cX3_init 14 = .ok (.putfield 14, 3) := by decide +kernel
theorem dX3_init_17 : decode cX3_init 17 = .ok (.aload_n 0, 1) := by decide +kernel
theorem dX3_init_18 : decode cX3_init 18 = .ok (.new 9, 3) := by decide +kernel
theorem dX3_init_21 : decode cX3_init 21 = .ok (.dup, 1) := by decide +kernel
theorem dX3_init_22 : decode cX3_init 22 = .ok (.bipush 8, 2) := by decide +kernel
theorem dX3_init_24 : decode cX3_init 24 = .ok (.invokespecial 11, 3) := by decide +kernel
theorem dX3_init_27 : decode cX3_init 27 = .ok (.putfield 20, 3) := by decide +kernel
theorem dX3_init_30 : decode cX3_init 30 = .ok (.aload_n 0, 1) := by decide +kernel
theorem dX3_init_31 : decode cX3_init 31 = .ok (.new 9, 3) := by decide +kernel
theorem dX3_init_34 : decode cX3_init 34 = .ok (.dup, 1) := by decide +kernel
theorem dX3_init_35 : decode cX3_init 35 = .ok (.bipush 8, 2) := by decide +kernel
theorem dX3_init_37 : decode cX3_init 37 = .ok (.invokespecial 11, 3) := by decide +kernel
theorem dX3_init_40 : decode cX3_init 40 = .ok (.putfield 23, 3) := by decide +kernel
theorem dX3_init_43 : decode cX3_init 43 = .ok (.aload_n 0, 1) := by decide +kernel
theorem dX3_init_44 : decode cX3_init 44 = .ok (.new 9, 3) := by decide +kernel
theorem dX3_init_47 : decode cX3_init 47 = .ok (.dup, 1) := by decide +kernel
theorem dX3_init_48 : decode cX3_init 48 = .ok (.bipush 8, 2) := by decide +kernel
theorem dX3_init_50 : decode cX3_init 50 = .ok (.invokespecial 11, 3) := by decide +kernel
theorem dX3_init_53 : decode cX3_init 53 = .ok (.putfield 26, 3) := by decide +kernel
theorem dX3_init_56 : decode cX3_init 56 = .ok (.aload_n 0, 1) := by decide +kernel
theorem dX3_init_57 : decode cX3_init 57 = .ok (.new 9, 3) := by decide +kernel
theorem dX3_init_60 : decode cX3_init 60 = .ok (.dup, 1) := by decide +kernel
theorem dX3_init_61 : decode cX3_init 61 = .ok (.bipush 8, 2) := by decide +kernel
theorem dX3_init_63 : decode cX3_init 63 = .ok (.invokespecial 11, 3) := by decide +kernel
theorem dX3_init_66 : decode cX3_init 66 = .ok (.putfield 29, 3) := by decide +kernel
theorem dX3_init_69 : decode cX3_init 69 = .ok (.aload_n 0, 1) := by decide +kernel
theorem dX3_init_70 : decode cX3_init 70 = .ok (.new 9, 3) := by decide +kernel
theorem dX3_init_73 : decode cX3_init 73 = .ok (.dup, 1) := by decide +kernel
theorem dX3_init_74 : decode cX3_init 74 = .ok (.bipush 8, 2) := by decide +kernel
theorem dX3_init_76 : decode cX3_init 76 = .ok (.invokespecial 11, 3) := by decide +kernel
theorem dX3_init_79 : decode cX3_init 79 = .ok (.putfield 32, 3) := by decide +kernel
theorem dX3_init_82 : decode cX3_init 82 = .ok (.aload_n 0, 1) := by decide +kernel
theorem dX3_init_83 : decode cX3_init 83 = .ok (.new 9, 3) := by decide +kernel
theorem dX3_init_86 : decode cX3_init 86 = .ok (.dup, 1) := by decide +kernel
theorem dX3_init_87 : decode cX3_init 87 = .ok (.bipush 8, 2) := by decide +kernel
theorem dX3_init_89 : decode cX3_init 89 = .ok (.invokespecial 11, 3) := by decide +kernel
theorem dX3_init_92 : decode cX3_init 92 = .ok (.putfield 35, 3) := by decide +kernel
theorem dX3_init_95 : decode cX3_init 95 = .ok (.aload_n 0, 1) := by decide +kernel
theorem dX3_init_96 : decode cX3_init 96 = .ok (.new 9, 3) := by decide +kernel
theorem dX3_init_99 : decode cX3_init 99 = .ok (.dup, 1) := by decide +kernel
theorem dX3_init_100 : decode cX3_init 100 = .ok (.bipush 64, 2) := by decide +kernel
theorem dX3_init_102 : decode cX3_init 102 = .ok (.invokespecial 11, 3) := by decide +kernel
theorem dX3_init_105 : decode cX3_init 105 = .ok (.putfield 38, 3) := by decide +kernel
theorem dX3_init_108 : decode cX3_init 108 = .ok (.return_, 1) := by decide +kernel
theorem dX3_has_0 : decode cX3_has 0 = .ok (.iload_n 1, 1) := by decide +kernel
theorem dX3_has_1 : decode cX3_has 1 = .ok (.ifCond .lt 15, 3) := by decide +kernel
theorem dX3_has_4 : decode cX3_has 4 = .ok (.iload_n 1, 1) := by decide +kernel
theorem dX3_has_5 : decode cX3_has 5 = .ok (.aload_n 0, 1) := by decide +kernel
theorem dX3_has_6 : decode cX3_has 6 = .ok (.getfield 41, 3) := by decide +kernel
theorem dX3_has_9 : decode cX3_has 9 = .ok (.if_icmp .ge 7, 3) := by decide +kernel
theorem dX3_has_12 : decode cX3_has 12 = .ok (.iconst 1, 1) := by decide +kernel
theorem dX3_has_13 : decode cX3_has 13 = .ok (.goto 4, 3) := by decide +kernel
theorem dX3_has_16 : decode cX3_has 16 = .ok (.iconst 0, 1) := by decide +kernel
theorem dX3_has_17 : decode cX3_has 17 = .ok (.ireturn, 1) := by decide +kernel
theorem dX3_make_0 : decode cX3_make 0 = .ok (.aload_n 0, 1) := by decide +kernel
theorem dX3_make_1 : decode cX3_make 1 = .ok (.getfield 41, 3) := by decide +kernel
theorem dX3_make_4 : decode cX3_make 4 = .ok (.istore 5, 2) := by decide +kernel
theorem dX3_make_6 : decode cX3_make 6 = .ok (.aload_n 0, 1) := by decide +kernel
theorem dX3_make_7 : decode cX3_make 7 = .ok (.getfield 14, 3) := by decide +kernel
theorem dX3_make_10 : decode cX3_make 10 = .ok (.iload 5, 2) := by decide +kernel
theorem dX3_make_12 : decode cX3_make 12 = .ok (.iload_n 1, 1) := by decide +kernel
theorem dX3_make_13 : decode cX3_make 13 = .ok (.invokevirtual 45, 3) := by decide +kernel
theorem dX3_make_16 : decode cX3_make 16 = .ok (.aload_n 0, 1) := by decide +kernel
theorem dX3_make_17 : decode cX3_make 17 = .ok (.getfield 20, 3) := by decide +kernel
theorem dX3_make_20 : decode cX3_make 20 = .ok (.iload 5, 2) := by decide +kernel
theorem dX3_make_22 : decode cX3_make 22 = .ok (.iload_n 2, 1) := by decide +kernel
theorem dX3_make_23 : decode cX3_make 23 = .ok (.invokevirtual 45, 3) := by decide +kernel
theorem dX3_make_26 : decode cX3_make 26 = .ok (.aload_n 0, 1) := by decide +kernel
theorem dX3_make_27 : decode cX3_make 27 = .ok (.getfield 23, 3) := by decide +kernel
theorem dX3_make_30 : decode cX3_make 30 = .ok (.iload 5, 2) := by decide +kernel
theorem dX3_make_32 : decode cX3_make 32 = .ok (.iload_n 3, 1) := by decide +kernel
theorem dX3_make_33 : decode cX3_make 33 = .ok (.invokevirtual 45, 3) := by decide +kernel
theorem dX3_make_36 : decode cX3_make 36 = .ok (.aload_n 0, 1) := by decide +kernel
theorem dX3_make_37 : decode cX3_make 37 = .ok (.getfield 26, 3) := by decide +kernel
theorem dX3_make_40 : decode cX3_make 40 = .ok (.iload 5, 2) := by decide +kernel
theorem dX3_make_42 : decode cX3_make 42 = .ok (.iload 4, 2) := by decide +kernel
theorem dX3_make_44 : decode cX3_make 44 = .ok (.invokevirtual 45, 3) := by decide +kernel
theorem dX3_make_47 : decode cX3_make 47 = .ok (.aload_n 0, 1) := by decide +kernel
theorem dX3_make_48 : decode cX3_make 48 = .ok (.getfield 29, 3) := by decide +kernel
theorem dX3_make_51 : decode cX3_make 51 = .ok (.iload 5, 2) := by decide +kernel
theorem dX3_make_53 : decode cX3_make 53 = .ok (.iconst 0, 1) := by decide +kernel
theorem dX3_make_54 : decode cX3_make 54 = .ok (.invokevirtual 45, 3) := by decide +kernel
theorem dX3_make_57 : decode cX3_make 57 = .ok (.aload_n 0, 1) := by decide +kernel
theorem dX3_make_58 : decode cX3_make 58 = .ok (.getfield 32, 3) := by decide +kernel
theorem dX3_make_61 : decode cX3_make 61 = .ok (.iload 5, 2) := by decide +kernel
theorem dX3_make_63 : decode cX3_make 63 = .ok (.iconst 0, 1) := by decide +kernel
theorem dX3_make_64 : decode cX3_make 64 = .ok (.invokevirtual 45, 3) := by decide +kernel
theorem dX3_make_67 : decode cX3_make 67 = .ok (.aload_n 0, 1) := by decide +kernel
theorem dX3_make_68 : decode cX3_make 68 = .ok (.getfield 35, 3) := by decide +kernel
theorem dX3_make_71 : decode cX3_make 71 = .ok (.iload 5, 2) := by decide +kernel
theorem dX3_make_73 : decode cX3_make 73 = .ok (.iconst 0, 1) := by decide +kernel
theorem dX3_make_74 : decode cX3_make 74 = .ok (.invokevirtual 45, 3) := by decide +kernel
theorem dX3_make_77 : decode cX3_make 77 = .ok (.aload_n 0, 1) := by decide +kernel
theorem dX3_make_78 : decode cX3_make 78 = .ok (.dup, 1) := by decide +kernel
theorem dX3_make_79 : decode cX3_make 79 = .ok (.getfield 41, 3) := by decide +kernel
theorem dX3_make_82 : decode cX3_make 82 = .ok (.iconst 1, 1) := by decide +kernel
theorem dX3_make_83 : decode cX3_make 83 = .ok (.iadd, 1) := by decide +kernel
theorem dX3_make_84 : decode cX3_make 84 = .ok (.putfield 41, 3) := by decide +kernel
theorem dX3_make_87 : decode cX3_make 87 = .ok (.iload 5, 2) := by decide +kernel
theorem dX3_make_89 : decode cX3_make 89 = .ok (.ireturn, 1) := by decide +kernel
theorem dX3_left_0 : decode cX3_left 0 = .ok (.aload_n 0, 1) := by decide +kernel
theorem dX3_left_1 : decode cX3_left 1 = .ok (.getfield 14, 3) := by decide +kernel
theorem dX3_left_4 : decode cX3_left 4 = .ok (.iload_n 1, 1) := by decide +kernel
theorem dX3_left_5 : decode cX3_left 5 = .ok (.invokevirtual 49, 3) := by decide +kernel
theorem dX3_left_8 : decode cX3_left 8 = .ok (.ireturn, 1) := by decide +kernel
theorem dX3_top_0 : decode cX3_top 0 = .ok (.aload_n 0, 1) := by decide +kernel
theorem dX3_top_1 : decode cX3_top 1 = .ok (.getfield 20, 3) := by decide +kernel
theorem dX3_top_4 : decode cX3_top 4 = .ok (.iload_n 1, 1) := by decide +kernel
theorem dX3_top_5 : decode cX3_top 5 = .ok (.invokevirtual 49, 3) := by decide +kernel
theorem dX3_top_8 : decode cX3_top 8 = .ok (.ireturn, 1) := by decide +kernel
theorem dX3_width_0 : decode cX3_width 0 = .ok (.aload_n 0, 1) := by decide +kernel
theorem dX3_width_1 : decode cX3_width 1 = .ok (.getfield 23, 3) := by decide +kernel
theorem dX3_width_4 : decode cX3_width 4 = .ok (.iload_n 1, 1) := by decide +kernel
theorem dX3_width_5 : decode cX3_width 5 = .ok (.invokevirtual 49, 3) := by decide +kernel
theorem dX3_width_8 : decode cX3_width 8 = .ok (.ireturn, 1) := by decide +kernel
theorem dX3_height_0 : decode cX3_height 0 = .ok (.aload_n 0, 1) := by decide +kernel
theorem dX3_height_1 : decode cX3_height 1 = .ok (.getfield 26, 3) := by decide +kernel
theorem dX3_height_4 : decode cX3_height 4 = .ok (.iload_n 1, 1) := by decide +kernel
theorem dX3_height_5 : decode cX3_height 5 = .ok (.invokevirtual 49, 3) := by decide +kernel
theorem dX3_height_8 : decode cX3_height 8 = .ok (.ireturn, 1) := by decide +kernel
theorem dX3_fieldDirection_0 : decode cX3_fieldDirection 0 = .ok (.aload_n 0, 1) := by decide +kernel
theorem dX3_fieldDirection_1 : decode cX3_fieldDirection 1 = .ok (.getfield 29, 3) := by decide +kernel
theorem dX3_fieldDirection_4 : decode cX3_fieldDirection 4 = .ok (.iload_n 1, 1) := by decide +kernel
theorem dX3_fieldDirection_5 : decode cX3_fieldDirection 5 = .ok (.invokevirtual 49, 3) := by decide +kernel
theorem dX3_fieldDirection_8 : decode cX3_fieldDirection 8 = .ok (.ireturn, 1) := by decide +kernel
theorem dX3_fieldStrength_0 : decode cX3_fieldStrength 0 = .ok (.aload_n 0, 1) := by decide +kernel
theorem dX3_fieldStrength_1 : decode cX3_fieldStrength 1 = .ok (.getfield 32, 3) := by decide +kernel
theorem dX3_fieldStrength_4 : decode cX3_fieldStrength 4 = .ok (.iload_n 1, 1) := by decide +kernel
theorem dX3_fieldStrength_5 : decode cX3_fieldStrength 5 = .ok (.invokevirtual 49, 3) := by decide +kernel
theorem dX3_fieldStrength_8 : decode cX3_fieldStrength 8 = .ok (.ireturn, 1) := by decide +kernel
theorem dX3_setField_0 : decode cX3_setField 0 = .ok (.aload_n 0, 1) := by decide +kernel
theorem dX3_setField_1 : decode cX3_setField 1 = .ok (.getfield 29, 3) := by decide +kernel
theorem dX3_setField_4 : decode cX3_setField 4 = .ok (.iload_n 1, 1) := by decide +kernel
theorem dX3_setField_5 : decode cX3_setField 5 = .ok (.iload_n 2, 1) := by decide +kernel
theorem dX3_setField_6 : decode cX3_setField 6 = .ok (.invokevirtual 45, 3) := by decide +kernel
theorem dX3_setField_9 : decode cX3_setField 9 = .ok (.aload_n 0, 1) := by decide +kernel
theorem dX3_setField_10 : decode cX3_setField 10 = .ok (.getfield 32, 3) := by decide +kernel
theorem dX3_setField_13 : decode cX3_setField 13 = .ok (.iload_n 1, 1) := by decide +kernel
theorem dX3_setField_14 : decode cX3_setField 14 = .ok (.iload_n 3, 1) := by decide +kernel
theorem dX3_setField_15 : decode cX3_setField 15 = .ok (.invokevirtual 45, 3) := by decide +kernel
theorem dX3_setField_18 : decode cX3_setField 18 = .ok (.return_, 1) := by decide +kernel
theorem dX3_note_0 : decode cX3_note 0 = .ok (.aload_n 0, 1) := by decide +kernel
theorem dX3_note_1 : decode cX3_note 1 = .ok (.getfield 35, 3) := by decide +kernel
theorem dX3_note_4 : decode cX3_note 4 = .ok (.iload_n 1, 1) := by decide +kernel
theorem dX3_note_5 : decode cX3_note 5 = .ok (.invokevirtual 49, 3) := by decide +kernel
theorem dX3_note_8 : decode cX3_note 8 = .ok (.istore_n 3, 1) := by decide +kernel
theorem dX3_note_9 : decode cX3_note 9 = .ok (.aload_n 0, 1) := by decide +kernel
theorem dX3_note_10 : decode cX3_note 10 = .ok (.getfield 38, 3) := by decide +kernel
theorem dX3_note_13 : decode cX3_note 13 = .ok (.iload_n 1, 1) := by decide +kernel
theorem dX3_note_14 : decode cX3_note 14 = .ok (.bipush 8, 2) := by decide +kernel
theorem dX3_note_16 : decode cX3_note 16 = .ok (.imul, 1) := by decide +kernel
theorem dX3_note_17 : decode cX3_note 17 = .ok (.iload_n 3, 1) := by decide +kernel
theorem dX3_note_18 : decode cX3_note 18 = .ok (.bipush 8, 2) := by decide +kernel
theorem dX3_note_20 : decode cX3_note 20 = .ok (.irem, 1) := by decide +kernel
theorem dX3_note_21 : decode cX3_note 21 = .ok (.iadd, 1) := by decide +kernel
theorem dX3_note_22 : decode cX3_note 22 = .ok (.iload_n 2, 1) := by decide +kernel
theorem dX3_note_23 : decode cX3_note 23 = .ok (.invokevirtual 45, 3) := by decide +kernel
theorem dX3_note_26 : decode cX3_note 26 = .ok (.aload_n 0, 1) := by decide +kernel
theorem dX3_note_27 : decode cX3_note 27 = .ok (.getfield 35, 3) := by decide +kernel
theorem dX3_note_30 : decode cX3_note 30 = .ok (.iload_n 1, 1) := by decide +kernel
theorem dX3_note_31 : decode cX3_note 31 = .ok (.iload_n 3, 1) := by decide +kernel
theorem dX3_note_32 : decode cX3_note 32 = .ok (.iconst 1, 1) := by decide +kernel
theorem dX3_note_33 : decode cX3_note 33 = .ok (.iadd, 1) := by decide +kernel
theorem dX3_note_34 : decode cX3_note 34 = .ok (.invokevirtual 45, 3) := by decide +kernel
theorem dX3_note_37 : decode cX3_note 37 = .ok (.return_, 1) := by decide +kernel
theorem dX3_flicker_0 : decode cX3_flicker 0 = .ok (.iload_n 1, 1) := by decide +kernel
theorem dX3_flicker_1 : decode cX3_flicker 1 = .ok (.bipush 8, 2) := by decide +kernel
theorem dX3_flicker_3 : decode cX3_flicker 3 = .ok (.imul, 1) := by decide +kernel
theorem dX3_flicker_4 : decode cX3_flicker 4 = .ok (.istore_n 2, 1) := by decide +kernel
theorem dX3_flicker_5 : decode cX3_flicker 5 = .ok (.aload_n 0, 1) := by decide +kernel
theorem dX3_flicker_6 : decode cX3_flicker 6 = .ok (.getfield 35, 3) := by decide +kernel
theorem dX3_flicker_9 : decode cX3_flicker 9 = .ok (.iload_n 1, 1) := by decide +kernel
theorem dX3_flicker_10 : decode cX3_flicker 10 = .ok (.invokevirtual 49, 3) := by decide +kernel
theorem dX3_flicker_13 : decode cX3_flicker 13 = .ok (.bipush 8, 2) := by decide +kernel
theorem dX3_flicker_15 : decode cX3_flicker 15 = .ok (.invokestatic 53, 3) := by decide +kernel
theorem dX3_flicker_18 : decode cX3_flicker 18 = .ok (.istore_n 3, 1) := by decide +kernel
theorem dX3_flicker_19 : decode cX3_flicker 19 = .ok (.aload_n 0, 1) := by decide +kernel
theorem dX3_flicker_20 : decode cX3_flicker 20 = .ok (.getfield 38, 3) := by decide +kernel
theorem dX3_flicker_23 : decode cX3_flicker 23 = .ok (.iload_n 2, 1) := by decide +kernel
theorem dX3_flicker_24 : decode cX3_flicker 24 = .ok (.invokevirtual 49, 3) := by decide +kernel
theorem dX3_flicker_27 : decode cX3_flicker 27 = .ok (.istore 4, 2) := by decide +kernel
theorem dX3_flicker_29 : decode cX3_flicker 29 = .ok (.iload 4, 2) := by decide +kernel
theorem dX3_flicker_31 : decode cX3_flicker 31 = .ok (.istore 5, 2) := by decide +kernel
theorem dX3_flicker_33 : decode cX3_flicker 33 = .ok (.iconst 1, 1) := by decide +kernel
theorem dX3_flicker_34 : decode cX3_flicker 34 = .ok (.istore 6, 2) := by decide +kernel
theorem dX3_flicker_36 : decode cX3_flicker 36 = .ok (.iload 6, 2) := by decide +kernel
theorem dX3_flicker_38 : decode cX3_flicker 38 = .ok (.iload_n 3, 1) := by decide +kernel
theorem dX3_flicker_39 : decode cX3_flicker 39 = .ok (.if_icmp .ge 40, 3) := by decide +kernel
theorem dX3_flicker_42 : decode cX3_flicker 42 = .ok (.aload_n 0, 1) := by decide +kernel
theorem dX3_flicker_43 : decode cX3_flicker 43 = .ok (.getfield 38, 3) := by decide +kernel
theorem dX3_flicker_46 : decode cX3_flicker 46 = .ok (.iload_n 2, 1) := by decide +kernel
theorem dX3_flicker_47 : decode cX3_flicker 47 = .ok (.iload 6, 2) := by decide +kernel
theorem dX3_flicker_49 : decode cX3_flicker 49 = .ok (.iadd, 1) := by decide +kernel
theorem dX3_flicker_50 : decode cX3_flicker 50 = .ok (.invokevirtual 49, 3) := by decide +kernel
theorem dX3_flicker_53 : decode cX3_flicker 53 = .ok (.istore 7, 2) := by decide +kernel
theorem dX3_flicker_55 : decode cX3_flicker 55 = .ok (.iload 4, 2) := by decide +kernel
theorem dX3_flicker_57 : decode cX3_flicker 57 = .ok (.iload 7, 2) := by decide +kernel
theorem dX3_flicker_59 : decode cX3_flicker 59 = .ok (.invokestatic 59, 3) := by decide +kernel
theorem dX3_flicker_62 : decode cX3_flicker 62 = .ok (.istore 4, 2) := by decide +kernel
theorem dX3_flicker_64 : decode cX3_flicker 64 = .ok (.iload 5, 2) := by decide +kernel
theorem dX3_flicker_66 : decode cX3_flicker 66 = .ok (.iload 7, 2) := by decide +kernel
theorem dX3_flicker_68 : decode cX3_flicker 68 = .ok (.invokestatic 53, 3) := by decide +kernel
theorem dX3_flicker_71 : decode cX3_flicker 71 = .ok (.istore 5, 2) := by decide +kernel
theorem dX3_flicker_73 : decode cX3_flicker 73 = .ok (.iinc 6 1, 3) := by decide +kernel
theorem dX3_flicker_76 : decode cX3_flicker 76 = .ok (.goto (-40), 3) := by decide +kernel
theorem dX3_flicker_79 : decode cX3_flicker 79 = .ok (.iload_n 3, 1) := by decide +kernel
theorem dX3_flicker_80 : decode cX3_flicker 80 = .ok (.ifCond .le 11, 3) := by decide +kernel
theorem dX3_flicker_83 : decode cX3_flicker 83 = .ok (.iload 4, 2) := by decide +kernel
theorem dX3_flicker_85 : decode cX3_flicker 85 = .ok (.iload 5, 2) := by decide +kernel
theorem dX3_flicker_87 : decode cX3_flicker 87 = .ok (.isub, 1) := by decide +kernel
theorem dX3_flicker_88 : decode cX3_flicker 88 = .ok (.goto 4, 3) := by decide +kernel
theorem dX3_flicker_91 : decode cX3_flicker 91 = .ok (.iconst 0, 1) := by decide +kernel
theorem dX3_flicker_92 : decode cX3_flicker 92 = .ok (.ireturn, 1) := by decide +kernel
theorem dX4_init_0 : decode cX4_init 0 = .ok (.aload_n 0, 1) := by decide +kernel
theorem dX4_init_1 : decode cX4_init 1 = .ok (.invokespecial 1, 3) := by decide +kernel
theorem dX4_init_4 : decode cX4_init 4 = .ok (.aload_n 0, 1) := by decide +kernel
theorem dX4_init_5 : decode cX4_init 5 = .ok (.iload_n 1, 1) := by decide +kernel
theorem dX4_init_6 : decode cX4_init 6 = .ok (.ifCond .ge 7, 3) := by decide +kernel
theorem dX4_init_9 : decode cX4_init 9 = .ok (.iconst 0, 1) := by decide +kernel
theorem dX4_init_10 : decode cX4_init 10 = .ok (.goto 4, 3) := by decide +kernel
theorem dX4_init_13 : decode cX4_init 13 = .ok (.iload_n 1, 1) := by decide +kernel
theorem dX4_init_14 : decode cX4_init 14 = .ok (.newarray .int, 2) := by decide +kernel
theorem dX4_init_16 : decode cX4_init 16 = .ok (.putfield 7, 3) := by decide +kernel
theorem dX4_init_19 : decode cX4_init 19 = .ok (.return_, 1) := by decide +kernel
theorem dX4_at_0 : decode cX4_at 0 = .ok (.iload_n 1, 1) := by decide +kernel
theorem dX4_at_1 : decode cX4_at 1 = .ok (.ifCond .lt 21, 3) := by decide +kernel
theorem dX4_at_4 : decode cX4_at 4 = .ok (.iload_n 1, 1) := by decide +kernel
theorem dX4_at_5 : decode cX4_at 5 = .ok (.aload_n 0, 1) := by decide +kernel
theorem dX4_at_6 : decode cX4_at 6 = .ok (.getfield 7, 3) := by decide +kernel
theorem dX4_at_9 : decode cX4_at 9 = .ok (.arraylength, 1) := by decide +kernel
theorem dX4_at_10 : decode cX4_at 10 = .ok (.if_icmp .ge 12, 3) := by decide +kernel
theorem dX4_at_13 : decode cX4_at 13 = .ok (.aload_n 0, 1) := by decide +kernel
theorem dX4_at_14 : decode cX4_at 14 = .ok (.getfield 7, 3) := by decide +kernel
theorem dX4_at_17 : decode cX4_at 17 = .ok (.iload_n 1, 1) := by decide +kernel
theorem dX4_at_18 : decode cX4_at 18 = .ok (.iaload, 1) := by decide +kernel
theorem dX4_at_19 : decode cX4_at 19 = .ok (.goto 4, 3) := by decide +kernel
theorem dX4_at_22 : decode cX4_at 22 = .ok (.iconst 0, 1) := by decide +kernel
theorem dX4_at_23 : decode cX4_at 23 = .ok (.ireturn, 1) := by decide +kernel
theorem dX4_put_0 : decode cX4_put 0 = .ok (.iload_n 1, 1) := by decide +kernel
theorem dX4_put_1 : decode cX4_put 1 = .ok (.ifCond .lt 19, 3) := by decide +kernel
theorem dX4_put_4 : decode cX4_put 4 = .ok (.iload_n 1, 1) := by decide +kernel
theorem dX4_put_5 : decode cX4_put 5 = .ok (.aload_n 0, 1) := by decide +kernel
theorem dX4_put_6 : decode cX4_put 6 = .ok (.getfield 7, 3) := by decide +kernel
theorem dX4_put_9 : decode cX4_put 9 = .ok (.arraylength, 1) := by decide +kernel
theorem dX4_put_10 : decode cX4_put 10 = .ok (.if_icmp .ge 10, 3) := by decide +kernel
theorem dX4_put_13 : decode cX4_put 13 = .ok (.aload_n 0, 1) := by decide +kernel
theorem dX4_put_14 : decode cX4_put 14 = .ok (.getfield 7, 3) := by decide +kernel
theorem dX4_put_17 : decode cX4_put 17 = .ok (.iload_n 1, 1) := by decide +kernel
theorem dX4_put_18 : decode cX4_put 18 = .ok (.iload_n 2, 1) := by decide +kernel
theorem dX4_put_19 : decode cX4_put 19 = .ok (.iastore, 1) := by decide +kernel
theorem dX4_put_20 : decode cX4_put 20 = .ok (.return_, 1) := by decide +kernel
theorem dX4_fill_0 : decode cX4_fill 0 = .ok (.iconst 0, 1) := by decide +kernel
theorem dX4_fill_1 : decode cX4_fill 1 = .ok (.istore_n 2, 1) := by decide +kernel
theorem dX4_fill_2 : decode cX4_fill 2 = .ok (.iload_n 2, 1) := by decide +kernel
theorem dX4_fill_3 : decode cX4_fill 3 = .ok (.aload_n 0, 1) := by decide +kernel
theorem dX4_fill_4 : decode cX4_fill 4 = .ok (.getfield 7, 3) := by decide +kernel
theorem dX4_fill_7 : decode cX4_fill 7 = .ok (.arraylength, 1) := by decide +kernel
theorem dX4_fill_8 : decode cX4_fill 8 = .ok (.if_icmp .ge 16, 3) := by decide +kernel
theorem dX4_fill_11 : decode cX4_fill 11 = .ok (.aload_n 0, 1) := by decide +kernel
theorem dX4_fill_12 : decode cX4_fill 12 = .ok (.getfield 7, 3) := by decide +kernel
theorem dX4_fill_15 : decode cX4_fill 15 = .ok (.iload_n 2, 1) := by decide +kernel
theorem dX4_fill_16 : decode cX4_fill 16 = .ok (.iload_n 1, 1) := by decide +kernel
theorem dX4_fill_17 : decode cX4_fill 17 = .ok (.iastore, 1) := by decide +kernel
theorem dX4_fill_18 : decode cX4_fill 18 = .ok (.iinc 2 1, 3) := by decide +kernel
theorem dX4_fill_21 : decode cX4_fill 21 = .ok (.goto (-19), 3) := by decide +kernel
theorem dX4_fill_24 : decode cX4_fill 24 = .ok (.return_, 1) := by decide +kernel
theorem dX5_init_0 : decode cX5_init 0 = .ok (.aload_n 0, 1) := by decide +kernel
theorem dX5_init_1 : decode cX5_init 1 = .ok (.invokespecial 3, 3) := by decide +kernel
theorem dX5_init_4 : decode cX5_init 4 = .ok (.aload_n 0, 1) := by decide +kernel
theorem dX5_init_5 : decode cX5_init 5 = .ok (.aload_n 1, 1) := by decide +kernel
theorem dX5_init_6 : decode cX5_init 6 = .ok (.putfield 9, 3) := by decide +kernel
theorem dX5_init_9 : decode cX5_init 9 = .ok (.return_, 1) := by decide +kernel
theorem dX5_has_0 : decode cX5_has 0 = .ok (.aload_n 0, 1) := by decide +kernel
theorem dX5_has_1 : decode cX5_has 1 = .ok (.getfield 9, 3) := by decide +kernel
theorem dX5_has_4 : decode cX5_has 4 = .ok (.iload_n 1, 1) := by decide +kernel
theorem dX5_has_5 : decode cX5_has 5 = .ok (.iload_n 2, 1) := by decide +kernel
theorem dX5_has_6 : decode cX5_has 6 = .ok (.invokevirtual 15, 3) := by decide +kernel
theorem dX5_has_9 : decode cX5_has 9 = .ok (.ifCond .eq 23, 3) := by decide +kernel
theorem dX5_has_12 : decode cX5_has 12 = .ok (.aload_n 0, 1) := by decide +kernel
theorem dX5_has_13 : decode cX5_has 13 = .ok (.getfield 9, 3) := by decide +kernel
theorem dX5_has_16 : decode cX5_has 16 = .ok (.iload_n 1, 1) := by decide +kernel
theorem dX5_has_17 : decode cX5_has 17 = .ok (.iconst 1, 1) := by decide +kernel
theorem dX5_has_18 : decode cX5_has 18 = .ok (.iadd, 1) := by decide +kernel
theorem dX5_has_19 : decode cX5_has 19 = .ok (.iload_n 2, 1) := by decide +kernel
theorem dX5_has_20 : decode cX5_has 20 = .ok (.iconst 1, 1) := by decide +kernel
theorem dX5_has_21 : decode cX5_has 21 = .ok (.iadd, 1) := by decide +kernel
theorem dX5_has_22 : decode cX5_has 22 = .ok (.invokevirtual 15, 3) := by decide +kernel
theorem dX5_has_25 : decode cX5_has 25 = .ok (.ifCond .eq 7, 3) := by decide +kernel
theorem dX5_has_28 : decode cX5_has 28 = .ok (.iconst 1, 1) := by decide +kernel
theorem dX5_has_29 : decode cX5_has 29 = .ok (.goto 4, 3) := by decide +kernel
theorem dX5_has_32 : decode cX5_has 32 = .ok (.iconst 0, 1) := by decide +kernel
theorem dX5_has_33 : decode cX5_has 33 = .ok (.ireturn, 1) := by decide +kernel
theorem dX5_at_0 : decode cX5_at 0 = .ok (.aload_n 0, 1) := by decide +kernel
theorem dX5_at_1 : decode cX5_at 1 = .ok (.iload_n 1, 1) := by decide +kernel
theorem dX5_at_2 : decode cX5_at 2 = .ok (.iload_n 2, 1) := by decide +kernel
theorem dX5_at_3 : decode cX5_at 3 = .ok (.iload_n 1, 1) := by decide +kernel
theorem dX5_at_4 : decode cX5_at 4 = .ok (.iconst 1, 1) := by decide +kernel
theorem dX5_at_5 : decode cX5_at 5 = .ok (.iadd, 1) := by decide +kernel
theorem dX5_at_6 : decode cX5_at 6 = .ok (.iload_n 2, 1) := by decide +kernel
theorem dX5_at_7 : decode cX5_at 7 = .ok (.iconst 1, 1) := by decide +kernel
theorem dX5_at_8 : decode cX5_at 8 = .ok (.iadd, 1) := by decide +kernel
theorem dX5_at_9 : decode cX5_at 9 = .ok (.invokevirtual 21, 3) := by decide +kernel
theorem dX5_at_12 : decode cX5_at 12 = .ok (.ireturn, 1) := by decide +kernel
theorem dX5_sum_0 : decode cX5_sum 0 = .ok (.iconst 0, 1) := by decide +kernel
theorem dX5_sum_1 : decode cX5_sum 1 = .ok (.istore 5, 2) := by decide +kernel
theorem dX5_sum_3 : decode cX5_sum 3 = .ok (.iload_n 2, 1) := by decide +kernel
theorem dX5_sum_4 : decode cX5_sum 4 = .ok (.istore 6, 2) := by decide +kernel
theorem dX5_sum_6 : decode cX5_sum 6 = .ok (.iload 6, 2) := by decide +kernel
theorem dX5_sum_8 : decode cX5_sum 8 = .ok (.iload 4, 2) := by decide +kernel
theorem dX5_sum_10 : decode cX5_sum 10 = .ok (.if_icmp .ge 37, 3) := by decide +kernel
theorem dX5_sum_13 : decode cX5_sum 13 = .ok (.iload_n 1, 1) := by decide +kernel
theorem dX5_sum_14 : decode cX5_sum 14 = .ok (.istore 7, 2) := by decide +kernel
theorem dX5_sum_16 : decode cX5_sum 16 = .ok (.iload 7, 2) := by decide +kernel
theorem dX5_sum_18 : decode cX5_sum 18 = .ok (.iload_n 3, 1) := by decide +kernel
theorem dX5_sum_19 : decode cX5_sum 19 = .ok (.if_icmp .ge 22, 3) := by decide +kernel
theorem dX5_sum_22 : decode cX5_sum 22 = .ok (.iload 5, 2) := by decide +kernel
theorem dX5_sum_24 : decode cX5_sum 24 = .ok (.aload_n 0, 1) := by decide +kernel
theorem dX5_sum_25 : decode cX5_sum 25 = .ok (.iload 7, 2) := by decide +kernel
theorem dX5_sum_27 : decode cX5_sum 27 = .ok (.iload 6, 2) := by decide +kernel
theorem dX5_sum_29 : decode cX5_sum 29 = .ok (.invokevirtual 25, 3) := by decide +kernel
theorem dX5_sum_32 : decode cX5_sum 32 = .ok (.iadd, 1) := by decide +kernel
theorem dX5_sum_33 : decode cX5_sum 33 = .ok (.istore 5, 2) := by decide +kernel
theorem dX5_sum_35 : decode cX5_sum 35 = .ok (.iinc 7 1, 3) := by decide +kernel
theorem dX5_sum_38 : decode cX5_sum 38 = .ok (.goto (-22), 3) := by decide +kernel
theorem dX5_sum_41 : decode cX5_sum 41 = .ok (.iinc 6 1, 3) := by decide +kernel
theorem dX5_sum_44 : decode cX5_sum 44 = .ok (.goto (-38), 3) := by decide +kernel
theorem dX5_sum_47 : decode cX5_sum 47 = .ok (.iload 5, 2) := by decide +kernel
theorem dX5_sum_49 : decode cX5_sum 49 = .ok (.ireturn, 1) := by decide +kernel
theorem dX5_around_0 : decode cX5_around 0 = .ok (.iconst 0, 1) := by decide +kernel
theorem dX5_around_1 : decode cX5_around 1 = .ok (.istore 5, 2) := by decide +kernel
theorem dX5_around_3 : decode cX5_around 3 = .ok (.iload_n 1, 1) := by decide +kernel
theorem dX5_around_4 : decode cX5_around 4 = .ok (.istore 6, 2) := by decide +kernel
theorem dX5_around_6 : decode cX5_around 6 = .ok (.iload 6, 2) := by decide +kernel
theorem dX5_around_8 : decode cX5_around 8 = .ok (.iload_n 3, 1) := by decide +kernel
theorem dX5_around_9 : decode cX5_around 9 = .ok (.if_icmp .ge 71, 3) := by decide +kernel
theorem dX5_around_12 : decode cX5_around 12 = .ok (.iload 5, 2) := by decide +kernel
theorem dX5_around_14 : decode cX5_around 14 = .ok (.aload_n 0, 1) := by decide +kernel
theorem dX5_around_15 : decode cX5_around 15 = .ok (.getfield 9, 3) := by decide +kernel
theorem dX5_around_18 : decode cX5_around 18 = .ok (.iload 6, 2) := by decide +kernel
theorem dX5_around_20 : decode cX5_around 20 = .ok (.iload_n 2, 1) := by decide +kernel
theorem dX5_around_21 : decode cX5_around 21 = .ok (.invokevirtual 29, 3) := by decide +kernel
theorem dX5_around_24 : decode cX5_around 24 = .ok (.aload_n 0, 1) := by decide +kernel
theorem dX5_around_25 : decode cX5_around 25 = .ok (.getfield 9, 3) := by decide +kernel
theorem dX5_around_28 : decode cX5_around 28 = .ok (.iload 6, 2) := by decide +kernel
theorem dX5_around_30 : decode cX5_around 30 = .ok (.iconst 1, 1) := by decide +kernel
theorem dX5_around_31 : decode cX5_around 31 = .ok (.iadd, 1) := by decide +kernel
theorem dX5_around_32 : decode cX5_around 32 = .ok (.iload_n 2, 1) := by decide +kernel
theorem dX5_around_33 : decode cX5_around 33 = .ok (.invokevirtual 29, 3) := by decide +kernel
theorem dX5_around_36 : decode cX5_around 36 = .ok (.invokestatic 32, 3) := by decide +kernel
theorem dX5_around_39 : decode cX5_around 39 = .ok (.iadd, 1) := by decide +kernel
theorem dX5_around_40 : decode cX5_around 40 = .ok (.istore 5, 2) := by decide +kernel
theorem dX5_around_42 : decode cX5_around 42 = .ok (.iload 5, 2) := by decide +kernel
theorem dX5_around_44 : decode cX5_around 44 = .ok (.aload_n 0, 1) := by decide +kernel
theorem dX5_around_45 : decode cX5_around 45 = .ok (.getfield 9, 3) := by decide +kernel
theorem dX5_around_48 : decode cX5_around 48 = .ok (.iload 6, 2) := by decide +kernel
theorem dX5_around_50 : decode cX5_around 50 = .ok (.iconst 1, 1) := by decide +kernel
theorem dX5_around_51 : decode cX5_around 51 = .ok (.iadd, 1) := by decide +kernel
theorem dX5_around_52 : decode cX5_around 52 = .ok (.iload 4, 2) := by decide +kernel
theorem dX5_around_54 : decode cX5_around 54 = .ok (.invokevirtual 29, 3) := by decide +kernel
theorem dX5_around_57 : decode cX5_around 57 = .ok (.aload_n 0, 1) := by decide +kernel
theorem dX5_around_58 : decode cX5_around 58 = .ok (.getfield 9, 3) := by decide +kernel
theorem dX5_around_61 : decode cX5_around 61 = .ok (.iload 6, 2) := by decide +kernel
theorem dX5_around_63 : decode cX5_around 63 = .ok (.iload 4, 2) := by decide +kernel
theorem dX5_around_65 : decode cX5_around 65 = .ok (.invokevirtual 29, 3) := by decide +kernel
theorem dX5_around_68 : decode cX5_around 68 = .ok (.invokestatic 32, 3) := by decide +kernel
theorem dX5_around_71 : decode cX5_around 71 = .ok (.iadd, 1) := by decide +kernel
theorem dX5_around_72 : decode cX5_around 72 = .ok (.istore 5, 2) := by decide +kernel
theorem dX5_around_74 : decode cX5_around 74 = .ok (.iinc 6 1, 3) := by decide +kernel
theorem dX5_around_77 : decode cX5_around 77 = .ok (.goto (-71), 3) := by decide +kernel
theorem dX5_around_80 : decode cX5_around 80 = .ok (.iload_n 2, 1) := by decide +kernel
theorem dX5_around_81 : decode cX5_around 81 = .ok (.istore 6, 2) := by decide +kernel
theorem dX5_around_83 : decode cX5_around 83 = .ok (.iload 6, 2) := by decide +kernel
theorem dX5_around_85 : decode cX5_around 85 = .ok (.iload 4, 2) := by decide +kernel
theorem dX5_around_87 : decode cX5_around 87 = .ok (.if_icmp .ge 69, 3) := by decide +kernel
theorem dX5_around_90 : decode cX5_around 90 = .ok (.iload 5, 2) := by decide +kernel
theorem dX5_around_92 : decode cX5_around 92 = .ok (.aload_n 0, 1) := by decide +kernel
theorem dX5_around_93 : decode cX5_around 93 = .ok (.getfield 9, 3) := by decide +kernel
theorem dX5_around_96 : decode cX5_around 96 = .ok (.iload_n 3, 1) := by decide +kernel
theorem dX5_around_97 : decode cX5_around 97 = .ok (.iload 6, 2) := by decide +kernel
theorem dX5_around_99 : decode cX5_around 99 = .ok (.invokevirtual 29, 3) := by decide +kernel
theorem dX5_around_102 : decode cX5_around 102 = .ok (.aload_n 0, 1) := by decide +kernel
theorem dX5_around_103 : decode cX5_around 103 = .ok (.getfield 9, 3) := by decide +kernel
theorem dX5_around_106 : decode cX5_around 106 = .ok (.iload_n 3, 1) := by decide +kernel
theorem dX5_around_107 : decode cX5_around 107 = .ok (.iload 6, 2) := by decide +kernel
theorem dX5_around_109 : decode cX5_around 109 = .ok (.iconst 1, 1) := by decide +kernel
theorem dX5_around_110 : decode cX5_around 110 = .ok (.iadd, 1) := by decide +kernel
theorem dX5_around_111 : decode cX5_around 111 = .ok (.invokevirtual 29, 3) := by decide +kernel
theorem dX5_around_114 : decode cX5_around 114 = .ok (.invokestatic 32, 3) := by decide +kernel
theorem dX5_around_117 : decode cX5_around 117 = .ok (.iadd, 1) := by decide +kernel
theorem dX5_around_118 : decode cX5_around 118 = .ok (.istore 5, 2) := by decide +kernel
theorem dX5_around_120 : decode cX5_around 120 = .ok (.iload 5, 2) := by decide +kernel
theorem dX5_around_122 : decode cX5_around 122 = .ok (.aload_n 0, 1) := by decide +kernel
theorem dX5_around_123 : decode cX5_around 123 = .ok (.getfield 9, 3) := by decide +kernel
theorem dX5_around_126 : decode cX5_around 126 = .ok (.iload_n 1, 1) := by decide +kernel
theorem dX5_around_127 : decode cX5_around 127 = .ok (.iload 6, 2) := by decide +kernel
theorem dX5_around_129 : decode cX5_around 129 = .ok (.iconst 1, 1) := by decide +kernel
theorem dX5_around_130 : decode cX5_around 130 = .ok (.iadd, 1) := by decide +kernel
theorem dX5_around_131 : decode cX5_around 131 = .ok (.invokevirtual 29, 3) := by decide +kernel
theorem dX5_around_134 : decode cX5_around 134 = .ok (.aload_n 0, 1) := by decide +kernel
theorem dX5_around_135 : decode cX5_around 135 = .ok (.getfield 9, 3) := by decide +kernel
theorem dX5_around_138 : decode cX5_around 138 = .ok (.iload_n 1, 1) := by decide +kernel
theorem dX5_around_139 : decode cX5_around 139 = .ok (.iload 6, 2) := by decide +kernel
theorem dX5_around_141 : decode cX5_around 141 = .ok (.invokevirtual 29, 3) := by decide +kernel
theorem dX5_around_144 : decode cX5_around 144 = .ok (.invokestatic 32, 3) := by decide +kernel
theorem dX5_around_147 : decode cX5_around 147 = .ok (.iadd, 1) := by decide +kernel
theorem dX5_around_148 : decode cX5_around 148 = .ok (.istore 5, 2) := by decide +kernel
theorem dX5_around_150 : decode cX5_around 150 = .ok (.iinc 6 1, 3) := by decide +kernel
theorem dX5_around_153 : decode cX5_around 153 = .ok (.goto (-70), 3) := by decide +kernel
theorem dX5_around_156 : decode cX5_around 156 = .ok (.iload 5, 2) := by decide +kernel
theorem dX5_around_158 : decode cX5_around 158 = .ok (.bipush 15, 2) := by decide +kernel
theorem dX5_around_160 : decode cX5_around 160 = .ok (.invokestatic 35, 3) := by decide +kernel
theorem dX5_around_163 : decode cX5_around 163 = .ok (.ireturn, 1) := by decide +kernel
theorem dX5_count_0 : decode cX5_count 0 = .ok (.iconst 0, 1) := by decide +kernel
theorem dX5_count_1 : decode cX5_count 1 = .ok (.istore_n 1, 1) := by decide +kernel
theorem dX5_count_2 : decode cX5_count 2 = .ok (.iconst 0, 1) := by decide +kernel
theorem dX5_count_3 : decode cX5_count 3 = .ok (.istore_n 2, 1) := by decide +kernel
theorem dX5_count_4 : decode cX5_count 4 = .ok (.iload_n 2, 1) := by decide +kernel
theorem dX5_count_5 : decode cX5_count 5 = .ok (.aload_n 0, 1) := by decide +kernel
theorem dX5_count_6 : decode cX5_count 6 = .ok (.getfield 9, 3) := by decide +kernel
theorem dX5_count_9 : decode cX5_count 9 = .ok (.getfield 40, 3) := by decide +kernel
theorem dX5_count_12 : decode cX5_count 12 = .ok (.iconst 1, 1) := by decide +kernel
theorem dX5_count_13 : decode cX5_count 13 = .ok (.isub, 1) := by decide +kernel
theorem dX5_count_14 : decode cX5_count 14 = .ok (.if_icmp .ge 42, 3) := by decide +kernel
theorem dX5_count_17 : decode cX5_count 17 = .ok (.iconst 0, 1) := by decide +kernel
theorem dX5_count_18 : decode cX5_count 18 = .ok (.istore_n 3, 1) := by decide +kernel
theorem dX5_count_19 : decode cX5_count 19 = .ok (.iload_n 3, 1) := by decide +kernel
theorem dX5_count_20 : decode cX5_count 20 = .ok (.aload_n 0, 1) := by decide +kernel
theorem dX5_count_21 : decode cX5_count 21 = .ok (.getfield 9, 3) := by decide +kernel
theorem dX5_count_24 : decode cX5_count 24 = .ok (.getfield 44, 3) := by decide +kernel
theorem dX5_count_27 : decode cX5_count 27 = .ok (.iconst 1, 1) := by decide +kernel
theorem dX5_count_28 : decode cX5_count 28 = .ok (.isub, 1) := by decide +kernel
theorem dX5_count_29 : decode cX5_count 29 = .ok (.if_icmp .ge 21, 3) := by decide +kernel
theorem dX5_count_32 : decode cX5_count 32 = .ok (.aload_n 0, 1) := by decide +kernel
theorem dX5_count_33 : decode cX5_count 33 = .ok (.iload_n 3, 1) := by decide +kernel
theorem dX5_count_34 : decode cX5_count 34 = .ok (.iload_n 2, 1) := by decide +kernel
theorem dX5_count_35 : decode cX5_count 35 = .ok (.invokevirtual 25, 3) := by decide +kernel
theorem dX5_count_38 : decode cX5_count 38 = .ok (.ifCond .eq 6, 3) := by decide +kernel
theorem dX5_count_41 : decode cX5_count 41 = .ok (.iinc 1 1, 3) := by decide +kernel
theorem dX5_count_44 : decode cX5_count 44 = .ok (.iinc 3 1, 3) := by decide +kernel
theorem dX5_count_47 : decode cX5_count 47 = .ok (.goto (-28), 3) := by decide +kernel
theorem dX5_count_50 : decode cX5_count 50 = .ok (.iinc 2 1, 3) := by decide +kernel
theorem dX5_count_53 : decode cX5_count 53 = .ok (.goto (-49), 3) := by decide +kernel
theorem dX5_count_56 : decode cX5_count 56 = .ok (.iload_n 1, 1) := by decide +kernel
theorem dX5_count_57 : decode cX5_count 57 = .ok (.ireturn, 1) := by decide +kernel
theorem dX5_find_0 : decode cX5_find 0 = .ok (.iconst 0, 1) := by decide +kernel
theorem dX5_find_1 : decode cX5_find 1 = .ok (.istore_n 2, 1) := by decide +kernel
theorem dX5_find_2 : decode cX5_find 2 = .ok (.iconst 0, 1) := by decide +kernel
theorem dX5_find_3 : decode cX5_find 3 = .ok (.istore_n 3, 1) := by decide +kernel
theorem dX5_find_4 : decode cX5_find 4 = .ok (.iload_n 3, 1) := by decide +kernel
theorem dX5_find_5 : decode cX5_find 5 = .ok (.aload_n 0, 1) := by decide +kernel
theorem dX5_find_6 : decode cX5_find 6 = .ok (.getfield 9, 3) := by decide +kernel
theorem dX5_find_9 : decode cX5_find 9 = .ok (.getfield 40, 3) := by decide +kernel
theorem dX5_find_12 : decode cX5_find 12 = .ok (.iconst 1, 1) := by decide +kernel
theorem dX5_find_13 : decode cX5_find 13 = .ok (.isub, 1) := by decide +kernel
theorem dX5_find_14 : decode cX5_find 14 = .ok (.if_icmp .ge 57, 3) := by decide +kernel
theorem dX5_find_17 : decode cX5_find 17 = .ok (.iconst 0, 1) := by decide +kernel
theorem dX5_find_18 : decode cX5_find 18 = .ok (.istore 4, 2) := by decide +kernel
theorem dX5_find_20 : decode cX5_find 20 = .ok (.iload 4, 2) := by decide +kernel
theorem dX5_find_22 : decode cX5_find 22 = .ok (.aload_n 0, 1) := by decide +kernel
theorem dX5_find_23 : decode cX5_find 23 = .ok (.getfield 9, 3) := by decide +kernel
theorem dX5_find_26 : decode cX5_find 26 = .ok (.getfield 44, 3) := by decide +kernel
theorem dX5_find_29 : decode cX5_find 29 = .ok (.iconst 1, 1) := by decide +kernel
theorem dX5_find_30 : decode cX5_find 30 = .ok (.isub, 1) := by decide +kernel
theorem dX5_find_31 : decode cX5_find 31 = .ok (.if_icmp .ge 34, 3) := by decide +kernel
theorem dX5_find_34 : decode cX5_find 34 = .ok (.aload_n 0, 1) := by decide +kernel
theorem dX5_find_35 : decode cX5_find 35 = .ok (.iload 4, 2) := by decide +kernel
theorem dX5_find_37 : decode cX5_find 37 = .ok (.iload_n 3, 1) := by decide +kernel
theorem dX5_find_38 : decode cX5_find 38 = .ok (.invokevirtual 25, 3) := by decide +kernel
theorem dX5_find_41 : decode cX5_find 41 = .ok (.ifCond .eq 18, 3) := by decide +kernel
theorem dX5_find_44 : decode cX5_find 44 = .ok (.iload_n 2, 1) := by decide +kernel
theorem dX5_find_45 : decode cX5_find 45 = .ok (.iload_n 1, 1) := by decide +kernel
theorem dX5_find_46 : decode cX5_find 46 = .ok (.if_icmp .ne 10, 3) := by decide +kernel
theorem dX5_find_49 : decode cX5_find 49 = .ok (.iload 4, 2) := by decide +kernel
theorem dX5_find_51 : decode cX5_find 51 = .ok (.iload_n 3, 1) := by decide +kernel
theorem dX5_find_52 : decode cX5_find 52 = .ok (.invokestatic 47, 3) := by decide +kernel
theorem dX5_find_55 : decode cX5_find 55 = .ok (.ireturn, 1) := by decide +kernel
theorem dX5_find_56 : decode cX5_find 56 = .ok (.iinc 2 1, 3) := by decide +kernel
theorem dX5_find_59 : decode cX5_find 59 = .ok (.iinc 4 1, 3) := by decide +kernel
theorem dX5_find_62 : decode cX5_find 62 = .ok (.goto (-42), 3) := by decide +kernel
theorem dX5_find_65 : decode cX5_find 65 = .ok (.iinc 3 1, 3) := by decide +kernel
theorem dX5_find_68 : decode cX5_find 68 = .ok (.goto (-64), 3) := by decide +kernel
theorem dX5_find_71 : decode cX5_find 71 = .ok (.iconst (-1), 1) := by decide +kernel
theorem dX5_find_72 : decode cX5_find 72 = .ok (.ireturn, 1) := by decide +kernel
theorem dX5_isGood_0 : decode cX5_isGood 0 = .ok (.iconst 0, 1) := by decide +kernel
theorem dX5_isGood_1 : decode cX5_isGood 1 = .ok (.istore_n 2, 1) := by decide +kernel
theorem dX5_isGood_2 : decode cX5_isGood 2 = .ok (.iload_n 2, 1) := by decide +kernel
theorem dX5_isGood_3 : decode cX5_isGood 3 = .ok (.aload_n 0, 1) := by decide +kernel
theorem dX5_isGood_4 : decode cX5_isGood 4 = .ok (.getfield 9, 3) := by decide +kernel
theorem dX5_isGood_7 : decode cX5_isGood 7 = .ok (.getfield 40, 3) := by decide +kernel
theorem dX5_isGood_10 : decode cX5_isGood 10 = .ok (.iconst 1, 1) := by decide +kernel
theorem dX5_isGood_11 : decode cX5_isGood 11 = .ok (.isub, 1) := by decide +kernel
theorem dX5_isGood_12 : decode cX5_isGood 12 = .ok (.if_icmp .ge 51, 3) := by decide +kernel
theorem dX5_isGood_15 : decode cX5_isGood 15 = .ok (.iconst 0, 1) := by decide +kernel
theorem dX5_isGood_16 : decode cX5_isGood 16 = .ok (.istore_n 3, 1) := by decide +kernel
theorem dX5_isGood_17 : decode cX5_isGood 17 = .ok (.iload_n 3, 1) := by decide +kernel
theorem dX5_isGood_18 : decode cX5_isGood 18 = .ok (.aload_n 0, 1) := by decide +kernel
theorem dX5_isGood_19 : decode cX5_isGood 19 = .ok (.getfield 9, 3) := by decide +kernel
theorem dX5_isGood_22 : decode cX5_isGood 22 = .ok (.getfield 44, 3) := by decide +kernel
theorem dX5_isGood_25 : decode cX5_isGood 25 = .ok (.iconst 1, 1) := by decide +kernel
theorem dX5_isGood_26 : decode cX5_isGood 26 = .ok (.isub, 1) := by decide +kernel
theorem dX5_isGood_27 : decode cX5_isGood 27 = .ok (.if_icmp .ge 30, 3) := by decide +kernel
theorem dX5_isGood_30 : decode cX5_isGood 30 = .ok (.aload_n 0, 1) := by decide +kernel
theorem dX5_isGood_31 : decode cX5_isGood 31 = .ok (.iload_n 3, 1) := by decide +kernel
theorem dX5_isGood_32 : decode cX5_isGood 32 = .ok (.iload_n 2, 1) := by decide +kernel
theorem dX5_isGood_33 : decode cX5_isGood 33 = .ok (.iload_n 1, 1) := by decide +kernel
theorem dX5_isGood_34 : decode cX5_isGood 34 = .ok (.invokevirtual 50, 3) := by decide +kernel
theorem dX5_isGood_37 : decode cX5_isGood 37 = .ok (.ifCond .eq 14, 3) := by decide +kernel
theorem dX5_isGood_40 : decode cX5_isGood 40 = .ok (.aload_n 0, 1) := by decide +kernel
theorem dX5_isGood_41 : decode cX5_isGood 41 = .ok (.iload_n 3, 1) := by decide +kernel
theorem dX5_isGood_42 : decode cX5_isGood 42 = .ok (.iload_n 2, 1) := by decide +kernel
theorem dX5_isGood_43 : decode cX5_isGood 43 = .ok (.invokevirtual 25, 3) := by decide +kernel
theorem dX5_isGood_46 : decode cX5_isGood 46 = .ok (.ifCond .eq 5, 3) := by decide +kernel
theorem dX5_isGood_49 : decode cX5_isGood 49 = .ok (.iconst 0, 1) := by decide +kernel
theorem dX5_isGood_50 : decode cX5_isGood 50 = .ok (.ireturn, 1) := by decide +kernel
theorem dX5_isGood_51 : decode cX5_isGood 51 = .ok (.iinc 3 1, 3) := by decide +kernel
theorem dX5_isGood_54 : decode cX5_isGood 54 = .ok (.goto (-37), 3) := by decide +kernel
theorem dX5_isGood_57 : decode cX5_isGood 57 = .ok (.iinc 2 1, 3) := by decide +kernel
theorem dX5_isGood_60 : decode cX5_isGood 60 = .ok (.goto (-58), 3) := by decide +kernel
theorem dX5_isGood_63 : decode cX5_isGood 63 = .ok (.iconst 1, 1) := by decide +kernel
theorem dX5_isGood_64 : decode cX5_isGood 64 = .ok (.ireturn, 1) := by decide +kernel
theorem dX5_touches_0 : decode cX5_touches 0 = .ok (.aload_n 0, 1) := by decide +kernel
theorem dX5_touches_1 : decode cX5_touches 1 = .ok (.getfield 9, 3) := by decide +kernel
theorem dX5_touches_4 : decode cX5_touches 4 = .ok (.iload_n 1, 1) := by decide +kernel
theorem dX5_touches_5 : decode cX5_touches 5 = .ok (.iload_n 2, 1) := by decide +kernel
theorem dX5_touches_6 : decode cX5_touches 6 = .ok (.invokevirtual 54, 3) := by decide +kernel
theorem dX5_touches_9 : decode cX5_touches 9 = .ok (.iload_n 3, 1) := by decide +kernel
theorem dX5_touches_10 : decode cX5_touches 10 = .ok (.if_icmp .eq 50, 3) := by decide +kernel
theorem dX5_touches_13 : decode cX5_touches 13 = .ok (.aload_n 0, 1) := by decide +kernel
theorem dX5_touches_14 : decode cX5_touches 14 = .ok (.getfield 9, 3) := by decide +kernel
theorem dX5_touches_17 : decode cX5_touches 17 = .ok (.iload_n 1, 1) := by decide +kernel
theorem dX5_touches_18 : decode cX5_touches 18 = .ok (.iconst 1, 1) := by decide +kernel
theorem dX5_touches_19 : decode cX5_touches 19 = .ok (.iadd, 1) := by decide +kernel
theorem dX5_touches_20 : decode cX5_touches 20 = .ok (.iload_n 2, 1) := by decide +kernel
theorem dX5_touches_21 : decode cX5_touches 21 = .ok (.invokevirtual 54, 3) := by decide +kernel
theorem dX5_touches_24 : decode cX5_touches 24 = .ok (.iload_n 3, 1) := by decide +kernel
theorem dX5_touches_25 : decode cX5_touches 25 = .ok (.if_icmp .eq 35, 3) := by decide +kernel
theorem dX5_touches_28 : decode cX5_touches 28 = .ok (.aload_n 0, 1) := by decide +kernel
theorem dX5_touches_29 : decode cX5_touches 29 = .ok (.getfield 9, 3) := by decide +kernel
theorem dX5_touches_32 : decode cX5_touches 32 = .ok (.iload_n 1, 1) := by decide +kernel
theorem dX5_touches_33 : decode cX5_touches 33 = .ok (.iload_n 2, 1) := by decide +kernel
theorem dX5_touches_34 : decode cX5_touches 34 = .ok (.iconst 1, 1) := by decide +kernel
theorem dX5_touches_35 : decode cX5_touches 35 = .ok (.iadd, 1) := by decide +kernel
theorem dX5_touches_36 : decode cX5_touches 36 = .ok (.invokevirtual 54, 3) := by decide +kernel
theorem dX5_touches_39 : decode cX5_touches 39 = .ok (.iload_n 3, 1) := by decide +kernel
theorem dX5_touches_40 : decode cX5_touches 40 = .ok (.if_icmp .eq 20, 3) := by decide +kernel
theorem dX5_touches_43 : decode cX5_touches 43 = .ok (.aload_n 0, 1) := by decide +kernel
theorem dX5_touches_44 : decode cX5_touches 44 = .ok (.getfield 9, 3) := by decide +kernel
theorem dX5_touches_47 : decode cX5_touches 47 = .ok (.iload_n 1, 1) := by decide +kernel
theorem dX5_touches_48 : decode cX5_touches 48 = .ok (.iconst 1, 1) := by decide +kernel
theorem dX5_touches_49 : decode cX5_touches 49 = .ok (.iadd, 1) := by decide +kernel
theorem dX5_touches_50 : decode cX5_touches 50 = .ok (.iload_n 2, 1) := by decide +kernel
theorem dX5_touches_51 : decode cX5_touches 51 = .ok (.iconst 1, 1) := by decide +kernel
theorem dX5_touches_52 : decode cX5_touches 52 = .ok (.iadd, 1) := by decide +kernel
theorem dX5_touches_53 : decode cX5_touches 53 = .ok (.invokevirtual 54, 3) := by decide +kernel
theorem dX5_touches_56 : decode cX5_touches 56 = .ok (.iload_n 3, 1) := by decide +kernel
theorem dX5_touches_57 : decode cX5_touches 57 = .ok (.if_icmp .ne 7, 3) := by decide +kernel
theorem dX5_touches_60 : decode cX5_touches 60 = .ok (.iconst 1, 1) := by decide +kernel
theorem dX5_touches_61 : decode cX5_touches 61 = .ok (.goto 4, 3) := by decide +kernel
theorem dX5_touches_64 : decode cX5_touches 64 = .ok (.iconst 0, 1) := by decide +kernel
theorem dX5_touches_65 : decode cX5_touches 65 = .ok (.ireturn, 1) := by decide +kernel
end
section
theorem dX6_init_0 : decode cX6_init 0 = .ok (.aload_n 0, 1) := by decide +kernel
theorem dX6_init_1 : decode cX6_init 1 = .ok (.invokespecial 3, 3) := by decide +kernel
theorem dX6_init_4 : decode cX6_init 4 = .ok (.aload_n 0, 1) := by decide +kernel
theorem dX6_init_5 : decode cX6_init 5 = .ok (.new 9, 3) := by decide +kernel
theorem dX6_init_8 : decode cX6_init 8 = .ok (.dup, 1) := by decide +kernel
theorem dX6_init_9 : decode cX6_init 9 = .ok (.invokespecial 11, 3) := by decide +kernel
theorem dX6_init_12 : decode cX6_init 12 = .ok (.putfield 12, 3) := by decide +kernel
theorem dX6_init_15 : decode cX6_init 15 = .ok (.aload_n 0, 1) := by decide +kernel
theorem dX6_init_16 : decode cX6_init 16 = .ok (.new 16, 3) := by decide +kernel
theorem dX6_init_19 : decode cX6_init 19 = .ok (.dup, 1) := by decide +kernel
theorem dX6_init_20 : decode cX6_init 20 = .ok (.aload_n 0, 1) := by decide +kernel
theorem dX6_init_21 : decode cX6_init 21 = .ok (.getfield 12, 3) := by decide +kernel
theorem dX6_init_24 : decode cX6_init 24 = .ok (.invokespecial 18, 3) := by decide +kernel
theorem dX6_init_27 : decode cX6_init 27 = .ok (.putfield 21, 3) := by decide +kernel
theorem dX6_init_30 : decode cX6_init 30 = .ok (.aload_n 0, 1) := by decide +kernel
theorem dX6_init_31 : decode cX6_init 31 = .ok (.new 25, 3) := by decide +kernel
theorem dX6_init_34 : decode cX6_init 34 = .ok (.dup, 1) := by decide +kernel
theorem dX6_init_35 : decode cX6_init 35 = .ok (.aload_n 0, 1) := by decide +kernel
theorem dX6_init_36 : decode cX6_init 36 = .ok (.getfield 21, 3) := by decide +kernel
theorem dX6_init_39 : decode cX6_init 39 = .ok (.invokespecial 27, 3) := by decide +kernel
theorem dX6_init_42 : decode cX6_init 42 = .ok (.putfield 30, 3) := by decide +kernel
theorem dX6_init_45 : decode cX6_init 45 = .ok (.aload_n 0, 1) := by decide +kernel
theorem dX6_init_46 : decode cX6_init 46 = .ok (.new 34, 3) := by decide +kernel
theorem dX6_init_49 : decode cX6_init 49 = .ok (.dup, 1) := by decide +kernel
theorem dX6_init_50 : decode cX6_init 50 = .ok (.invokespecial 36, 3) := by decide +kernel
theorem dX6_init_53 : decode cX6_init 53 = .ok (.putfield 37, 3) := by decide +kernel
theorem dX6_init_56 : decode cX6_init 56 = .ok (.aload_n 0, 1) := by decide +kernel
theorem dX6_init_57 : decode cX6_init 57 = .ok (.new 41, 3) := by decide +kernel
theorem dX6_init_60 : decode cX6_init 60 = .ok (.dup, 1) := by decide +kernel
theorem dX6_init_61 : decode cX6_init 61 = .ok (.invokespecial 43, 3) := by decide +kernel
theorem dX6_init_64 : decode cX6_init 64 = .ok (.putfield 44, 3) := by decide +kernel
theorem dX6_init_67 : decode cX6_init 67 = .ok (.aload_n 0, 1) := by decide +kernel
theorem dX6_init_68 : decode cX6_init 68 = .ok (.iconst 0, 1) := by decide +kernel
theorem dX6_init_69 : decode cX6_init 69 = .ok (.putfield 48, 3) := by decide +kernel
theorem dX6_init_72 : decode cX6_init 72 = .ok (.aload_n 0, 1) := by decide +kernel
theorem dX6_init_73 : decode cX6_init 73 = .ok (.iconst 4, 1) := by decide +kernel
theorem dX6_init_74 : decode cX6_init 74 = .ok (.iconst 4, 1) := by decide +kernel
theorem dX6_init_75 : decode cX6_init 75 = .ok (.invokevirtual 52, 3) := by decide +kernel
theorem dX6_init_78 : decode cX6_init 78 = .ok (.return_, 1) := by decide +kernel
theorem dX6_grid_0 : decode cX6_grid 0 = .ok (.iload_n 1, 1) := by decide +kernel
theorem dX6_grid_1 : decode cX6_grid 1 = .ok (.iconst 2, 1) := by decide +kernel
theorem dX6_grid_2 : decode cX6_grid 2 = .ok (.bipush 12, 2) := by decide +kernel
theorem dX6_grid_4 : decode cX6_grid 4 = .ok (.invokestatic 56, 3) := by decide +kernel
theorem dX6_grid_7 : decode cX6_grid 7 = .ok (.ifCond .eq 13, 3) := by decide +kernel
theorem dX6_grid_10 : decode cX6_grid 10 = .ok (.iload_n 2, 1) := by decide +kernel
theorem dX6_grid_11 : decode cX6_grid 11 = .ok (.iconst 2, 1) := by decide +kernel
theorem dX6_grid_12 : decode cX6_grid 12 = .ok (.bipush 12, 2) := by decide +kernel
theorem dX6_grid_14 : decode cX6_grid 14 = .ok (.invokestatic 56, 3) := by decide +kernel
theorem dX6_grid_17 : decode cX6_grid 17 = .ok (.ifCond .ne 13, 3) := by decide +kernel
theorem dX6_grid_20 : decode cX6_grid 20 = .ok (.new 60, 3) := by decide +kernel
theorem dX6_grid_23 : decode cX6_grid 23 = .ok (.dup, 1) := by decide +kernel
theorem dX6_grid_24 : decode cX6_grid 24 = .ok (.ldc 62, 2) := by decide +kernel
theorem dX6_grid_26 : decode cX6_grid 26 = .ok (.invokespecial 64, 3) := by decide +kernel
theorem dX6_grid_29 : decode cX6_grid 29 = .ok (.athrow, 1) := by decide +kernel
theorem dX6_grid_30 : decode cX6_grid 30 = .ok (.aload_n 0, 1) := by decide +kernel
theorem dX6_grid_31 : decode cX6_grid 31 = .ok (.iload_n 1, 1) := by decide +kernel
theorem dX6_grid_32 : decode cX6_grid 32 = .ok (.iload_n 2, 1) := by decide +kernel
theorem dX6_grid_33 : decode cX6_grid 33 = .ok (.invokevirtual 52, 3) := by decide +kernel
theorem dX6_grid_36 : decode cX6_grid 36 = .ok (.return_, 1) := by decide +kernel
theorem dX6_costs_0 : decode cX6_costs 0 = .ok (.iload_n 1, 1) := by decide +kernel
theorem dX6_costs_1 : decode cX6_costs 1 = .ok (.iconst 0, 1) := by decide +kernel
theorem dX6_costs_2 : decode cX6_costs 2 = .ok (.bipush 20, 2) := by decide +kernel
theorem dX6_costs_4 : decode cX6_costs 4 = .ok (.invokestatic 56, 3) := by decide +kernel
theorem dX6_costs_7 : decode cX6_costs 7 = .ok (.ifCond .eq 13, 3) := by decide +kernel
theorem dX6_costs_10 : decode cX6_costs 10 = .ok (.iload_n 2, 1) := by decide +kernel
theorem dX6_costs_11 : decode cX6_costs 11 = .ok (.iconst 0, 1) := by decide +kernel
theorem dX6_costs_12 : decode cX6_costs 12 = .ok (.bipush 20, 2) := by decide +kernel
theorem dX6_costs_14 : decode cX6_costs 14 = .ok (.invokestatic 56, 3) := by decide +kernel
theorem dX6_costs_17 : decode cX6_costs 17 = .ok (.ifCond .ne 13, 3) := by decide +kernel
theorem dX6_costs_20 : decode cX6_costs 20 = .ok (.new 60, 3) := by decide +kernel
theorem dX6_costs_23 : decode cX6_costs 23 = .ok (.dup, 1) := by decide +kernel
theorem dX6_costs_24 : decode cX6_costs 24 = .ok (.ldc 67, 2) := by decide +kernel
theorem dX6_costs_26 : decode cX6_costs 26 = .ok (.invokespecial 64, 3) := by decide +kernel
theorem dX6_costs_29 : decode cX6_costs 29 = .ok (.athrow, 1) := by decide +kernel
theorem dX6_costs_30 : decode cX6_costs 30 = .ok (.aload_n 0, 1) := by decide +kernel
theorem dX6_costs_31 : decode cX6_costs 31 = .ok (.aload_n 0, 1) := by decide +kernel
theorem dX6_costs_32 : decode cX6_costs 32 = .ok (.getfield 21, 3) := by decide +kernel
theorem dX6_costs_35 : decode cX6_costs 35 = .ok (.iload_n 1, 1) := by decide +kernel
theorem dX6_costs_36 : decode cX6_costs 36 = .ok (.iload_n 2, 1) := by decide +kernel
theorem dX6_costs_37 : decode cX6_costs 37 = .ok (.invokevirtual 69, 3) := by decide +kernel
theorem dX6_costs_40 : decode cX6_costs 40 = .ok (.invokevirtual 73, 3) := by decide +kernel
theorem dX6_costs_43 : decode cX6_costs 43 = .ok (.ireturn, 1) := by decide +kernel
theorem dX6_turn_0 : decode cX6_turn 0 = .ok (.aload_n 0, 1) := by decide +kernel
theorem dX6_turn_1 : decode cX6_turn 1 = .ok (.getfield 21, 3) := by decide +kernel
theorem dX6_turn_4 : decode cX6_turn 4 = .ok (.iload_n 1, 1) := by decide +kernel
theorem dX6_turn_5 : decode cX6_turn 5 = .ok (.iload_n 2, 1) := by decide +kernel
theorem dX6_turn_6 : decode cX6_turn 6 = .ok (.invokevirtual 77, 3) := by decide +kernel
theorem dX6_turn_9 : decode cX6_turn 9 = .ok (.ifCond .ne 13, 3) := by decide +kernel
theorem dX6_turn_12 : decode cX6_turn 12 = .ok (.new 81, 3) := by decide +kernel
theorem dX6_turn_15 : decode cX6_turn 15 = .ok (.dup, 1) := by decide +kernel
theorem dX6_turn_16 : decode cX6_turn 16 = .ok (.ldc 83, 2) := by decide +kernel
theorem dX6_turn_18 : decode cX6_turn 18 = .ok (.invokespecial 85, 3) := by decide +kernel
theorem dX6_turn_21 : decode cX6_turn 21 = .ok (.athrow, 1) := by decide +kernel
theorem dX6_turn_22 : decode cX6_turn 22 = .ok (.iload_n 3, 1) := by decide +kernel
theorem dX6_turn_23 : decode cX6_turn 23 = .ok (.invokestatic 86, 3) := by decide +kernel
theorem dX6_turn_26 : decode cX6_turn 26 = .ok (.ifCond .ne 13, 3) := by decide +kernel
theorem dX6_turn_29 : decode cX6_turn 29 = .ok (.new 60, 3) := by decide +kernel
theorem dX6_turn_32 : decode cX6_turn 32 = .ok (.dup, 1) := by decide +kernel
theorem dX6_turn_33 : decode cX6_turn 33 = .ok (.ldc 90, 2) := by decide +kernel
theorem dX6_turn_35 : decode cX6_turn 35 = .ok (.invokespecial 64, 3) := by decide +kernel
theorem dX6_turn_38 : decode cX6_turn 38 = .ok (.athrow, 1) := by decide +kernel
theorem dX6_turn_39 : decode cX6_turn 39 = .ok (.aload_n 0, 1) := by decide +kernel
theorem dX6_turn_40 : decode cX6_turn 40 = .ok (.getfield 21, 3) := by decide +kernel
theorem dX6_turn_43 : decode cX6_turn 43 = .ok (.iload_n 1, 1) := by decide +kernel
theorem dX6_turn_44 : decode cX6_turn 44 = .ok (.iload_n 2, 1) := by decide +kernel
theorem dX6_turn_45 : decode cX6_turn 45 = .ok (.invokevirtual 92, 3) := by decide +kernel
theorem dX6_turn_48 : decode cX6_turn 48 = .ok (.iconst 1, 1) := by decide +kernel
theorem dX6_turn_49 : decode cX6_turn 49 = .ok (.if_icmp .ne 13, 3) := by decide +kernel
theorem dX6_turn_52 : decode cX6_turn 52 = .ok (.new 95, 3) := by decide +kernel
theorem dX6_turn_55 : decode cX6_turn 55 = .ok (.dup, 1) := by decide +kernel
theorem dX6_turn_56 : decode cX6_turn 56 = .ok (.ldc 97, 2) := by decide +kernel
theorem dX6_turn_58 : decode cX6_turn 58 = .ok (.invokespecial 99, 3) := by decide +kernel
theorem dX6_turn_61 : decode cX6_turn 61 = .ok (.athrow, 1) := by decide +kernel
theorem dX6_turn_62 : decode cX6_turn 62 = .ok (.aload_n 0, 1) := by decide +kernel
theorem dX6_turn_63 : decode cX6_turn 63 = .ok (.aload_n 0, 1) := by decide +kernel
theorem dX6_turn_64 : decode cX6_turn 64 = .ok (.getfield 21, 3) := by decide +kernel
theorem dX6_turn_67 : decode cX6_turn 67 = .ok (.iload_n 1, 1) := by decide +kernel
theorem dX6_turn_68 : decode cX6_turn 68 = .ok (.iload_n 2, 1) := by decide +kernel
theorem dX6_turn_69 : decode cX6_turn 69 = .ok (.iload_n 3, 1) := by decide +kernel
theorem dX6_turn_70 : decode cX6_turn 70 = .ok (.invokevirtual 100, 3) := by decide +kernel
theorem dX6_turn_73 : decode cX6_turn 73 = .ok (.invokevirtual 73, 3) := by decide +kernel
theorem dX6_turn_76 : decode cX6_turn 76 = .ok (.ireturn, 1) := by decide +kernel
theorem dX6_anchor_0 : decode cX6_anchor 0 = .ok (.aload_n 0, 1) := by decide +kernel
theorem dX6_anchor_1 : decode cX6_anchor 1 = .ok (.getfield 21, 3) := by decide +kernel
theorem dX6_anchor_4 : decode cX6_anchor 4 = .ok (.iload_n 1, 1) := by decide +kernel
theorem dX6_anchor_5 : decode cX6_anchor 5 = .ok (.iload_n 2, 1) := by decide +kernel
theorem dX6_anchor_6 : decode cX6_anchor 6 = .ok (.invokevirtual 77, 3) := by decide +kernel
theorem dX6_anchor_9 : decode cX6_anchor 9 = .ok (.ifCond .ne 13, 3) := by decide +kernel
theorem dX6_anchor_12 : decode cX6_anchor 12 = .ok (.new 81, 3) := by decide +kernel
theorem dX6_anchor_15 : decode cX6_anchor 15 = .ok (.dup, 1) := by decide +kernel
theorem dX6_anchor_16 : decode cX6_anchor 16 = .ok (.ldc 83, 2) := by decide +kernel
theorem dX6_anchor_18 : decode cX6_anchor 18 = .ok (.invokespecial 85, 3) := by decide +kernel
theorem dX6_anchor_21 : decode cX6_anchor 21 = .ok (.athrow, 1) := by decide +kernel
theorem dX6_anchor_22 : decode cX6_anchor 22 = .ok (.iload_n 3, 1) := by decide +kernel
theorem dX6_anchor_23 : decode cX6_anchor 23 = .ok (.iconst 0, 1) := by decide +kernel
theorem dX6_anchor_24 : decode cX6_anchor 24 = .ok (.iconst 2, 1) := by decide +kernel
theorem dX6_anchor_25 : decode cX6_anchor 25 = .ok (.invokestatic 56, 3) := by decide +kernel
theorem dX6_anchor_28 : decode cX6_anchor 28 = .ok (.ifCond .eq 22, 3) := by decide +kernel
theorem dX6_anchor_31 : decode cX6_anchor 31 = .ok (.iload 4, 2) := by decide +kernel
theorem dX6_anchor_33 : decode cX6_anchor 33 = .ok (.invokestatic 86, 3) := by decide +kernel
theorem dX6_anchor_36 : decode cX6_anchor 36 = .ok (.ifCond .eq 14, 3) := by decide +kernel
theorem dX6_anchor_39 : decode cX6_anchor 39 = .ok (.iload 5, 2) := by decide +kernel
theorem dX6_anchor_41 : decode cX6_anchor 41 = .ok (.iconst 1, 1) := by decide +kernel
theorem dX6_anchor_42 : decode cX6_anchor 42 = .ok (.bipush 100, 2) := by decide +kernel
theorem dX6_anchor_44 : decode cX6_anchor 44 = .ok (.invokestatic 56, 3) := by decide +kernel
theorem dX6_anchor_47 : decode cX6_anchor 47 = .ok (.ifCond .ne 13, 3) := by decide +kernel
theorem dX6_anchor_50 : decode cX6_anchor 50 = .ok (.new 60, 3) := by decide +kernel
theorem dX6_anchor_53 : decode cX6_anchor 53 = .ok (.dup, 1) := by decide +kernel
theorem dX6_anchor_54 : decode cX6_anchor 54 = .ok (.ldc 104, 2) := by decide +kernel
theorem dX6_anchor_56 : decode cX6_anchor 56 = .ok (.invokespecial 64, 3) := by decide +kernel
theorem dX6_anchor_59 : decode cX6_anchor 59 = .ok (.athrow, 1) := by decide +kernel
theorem dX6_anchor_60 : decode cX6_anchor 60 = .ok (.aload_n 0, 1) := by decide +kernel
theorem dX6_anchor_61 : decode cX6_anchor 61 = .ok (.aload_n 0, 1) := by decide +kernel
theorem dX6_anchor_62 : decode cX6_anchor 62 = .ok (.getfield 21, 3) := by decide +kernel
theorem dX6_anchor_65 : decode cX6_anchor 65 = .ok (.iload_n 1, 1) := by decide +kernel
theorem dX6_anchor_66 : decode cX6_anchor 66 = .ok (.iload_n 2, 1) := by decide +kernel
theorem dX6_anchor_67 : decode cX6_anchor 67 = .ok (.iload_n 3, 1) := by decide +kernel
theorem dX6_anchor_68 : decode cX6_anchor 68 = .ok (.iload 4, 2) := by decide +kernel
theorem dX6_anchor_70 : decode cX6_anchor 70 = .ok (.iload 5, 2) := by decide +kernel
theorem dX6_anchor_72 : decode cX6_anchor 72 = .ok (.invokevirtual 106, 3) := by decide +kernel
theorem dX6_anchor_75 : decode cX6_anchor 75 = .ok (.invokevirtual 73, 3) := by decide +kernel
theorem dX6_anchor_78 : decode cX6_anchor 78 = .ok (.ireturn, 1) := by decide +kernel
theorem dX6_pixel_0 : decode cX6_pixel 0 = .ok (.aload_n 0, 1) := by decide +kernel
theorem dX6_pixel_1 : decode cX6_pixel 1 = .ok (.getfield 21, 3) := by decide +kernel
theorem dX6_pixel_4 : decode cX6_pixel 4 = .ok (.iload_n 1, 1) := by decide +kernel
theorem dX6_pixel_5 : decode cX6_pixel 5 = .ok (.iload_n 2, 1) := by decide +kernel
theorem dX6_pixel_6 : decode cX6_pixel 6 = .ok (.invokevirtual 77, 3) := by decide +kernel
theorem dX6_pixel_9 : decode cX6_pixel 9 = .ok (.ifCond .ne 13, 3) := by decide +kernel
theorem dX6_pixel_12 : decode cX6_pixel 12 = .ok (.new 81, 3) := by decide +kernel
theorem dX6_pixel_15 : decode cX6_pixel 15 = .ok (.dup, 1) := by decide +kernel
theorem dX6_pixel_16 : decode cX6_pixel 16 = .ok (.ldc 83, 2) := by decide +kernel
theorem dX6_pixel_18 : decode cX6_pixel 18 = .ok (.invokespecial 85, 3) := by decide +kernel
theorem dX6_pixel_21 : decode cX6_pixel 21 = .ok (.athrow, 1) := by decide +kernel
theorem dX6_pixel_22 : decode cX6_pixel 22 = .ok (.iload_n 3, 1) := by decide +kernel
theorem dX6_pixel_23 : decode cX6_pixel 23 = .ok (.iconst 1, 1) := by decide +kernel
theorem dX6_pixel_24 : decode cX6_pixel 24 = .ok (.bipush 12, 2) := by decide +kernel
theorem dX6_pixel_26 : decode cX6_pixel 26 = .ok (.invokestatic 56, 3) := by decide +kernel
theorem dX6_pixel_29 : decode cX6_pixel 29 = .ok (.ifCond .eq 14, 3) := by decide +kernel
theorem dX6_pixel_32 : decode cX6_pixel 32 = .ok (.iload 4, 2) := by decide +kernel
theorem dX6_pixel_34 : decode cX6_pixel 34 = .ok (.iconst 1, 1) := by decide +kernel
theorem dX6_pixel_35 : decode cX6_pixel 35 = .ok (.bipush 12, 2) := by decide +kernel
theorem dX6_pixel_37 : decode cX6_pixel 37 = .ok (.invokestatic 56, 3) := by decide +kernel
theorem dX6_pixel_40 : decode cX6_pixel 40 = .ok (.ifCond .ne 13, 3) := by decide +kernel
theorem dX6_pixel_43 : decode cX6_pixel 43 = .ok (.new 60, 3) := by decide +kernel
theorem dX6_pixel_46 : decode cX6_pixel 46 = .ok (.dup, 1) := by decide +kernel
theorem dX6_pixel_47 : decode cX6_pixel 47 = .ok (.ldc 110, 2) := by decide +kernel
theorem dX6_pixel_49 : decode cX6_pixel 49 = .ok (.invokespecial 64, 3) := by decide +kernel
theorem dX6_pixel_52 : decode cX6_pixel 52 = .ok (.athrow, 1) := by decide +kernel
theorem dX6_pixel_53 : decode cX6_pixel 53 = .ok (.aload_n 0, 1) := by decide +kernel
theorem dX6_pixel_54 : decode cX6_pixel 54 = .ok (.getfield 21, 3) := by decide +kernel
theorem dX6_pixel_57 : decode cX6_pixel 57 = .ok (.iload_n 1, 1) := by decide +kernel
theorem dX6_pixel_58 : decode cX6_pixel 58 = .ok (.iload_n 3, 1) := by decide +kernel
theorem dX6_pixel_59 : decode cX6_pixel 59 = .ok (.iadd, 1) := by decide +kernel
theorem dX6_pixel_60 : decode cX6_pixel 60 = .ok (.iconst 1, 1) := by decide +kernel
theorem dX6_pixel_61 : decode cX6_pixel 61 = .ok (.isub, 1) := by decide +kernel
theorem dX6_pixel_62 : decode cX6_pixel 62 = .ok (.iload_n 2, 1) := by decide +kernel
theorem dX6_pixel_63 : decode cX6_pixel 63 = .ok (.iload 4, 2) := by decide +kernel
theorem dX6_pixel_65 : decode cX6_pixel 65 = .ok (.iadd, 1) := by decide +kernel
theorem dX6_pixel_66 : decode cX6_pixel 66 = .ok (.iconst 1, 1) := by decide +kernel
theorem dX6_pixel_67 : decode cX6_pixel 67 = .ok (.isub, 1) := by decide +kernel
theorem dX6_pixel_68 : decode cX6_pixel 68 = .ok (.invokevirtual 77, 3) := by decide +kernel
theorem dX6_pixel_71 : decode cX6_pixel 71 = .ok (.ifCond .ne 13, 3) := by decide +kernel
theorem dX6_pixel_74 : decode cX6_pixel 74 = .ok (.new 60, 3) := by decide +kernel
theorem dX6_pixel_77 : decode cX6_pixel 77 = .ok (.dup, 1) := by decide +kernel
theorem dX6_pixel_78 : decode cX6_pixel 78 = .ok (.ldc 112, 2) := by decide +kernel
theorem dX6_pixel_80 : decode cX6_pixel 80 = .ok (.invokespecial 64, 3) := by decide +kernel
theorem dX6_pixel_83 : decode cX6_pixel 83 = .ok (.athrow, 1) := by decide +kernel
theorem dX6_pixel_84 : decode cX6_pixel 84 = .ok (.aload_n 0, 1) := by decide +kernel
theorem dX6_pixel_85 : decode cX6_pixel 85 = .ok (.getfield 12, 3) := by decide +kernel
theorem dX6_pixel_88 : decode cX6_pixel 88 = .ok (.getfield 114, 3) := by decide +kernel
theorem dX6_pixel_91 : decode cX6_pixel 91 = .ok (.bipush 8, 2) := by decide +kernel
theorem dX6_pixel_93 : decode cX6_pixel 93 = .ok (.if_icmp .ge 18, 3) := by decide +kernel
theorem dX6_pixel_96 : decode cX6_pixel 96 = .ok (.aload_n 0, 1) := by decide +kernel
theorem dX6_pixel_97 : decode cX6_pixel 97 = .ok (.getfield 21, 3) := by decide +kernel
theorem dX6_pixel_100 : decode cX6_pixel 100 = .ok (.iload_n 1, 1) := by decide +kernel
theorem dX6_pixel_101 : decode cX6_pixel 101 = .ok (.iload_n 2, 1) := by decide +kernel
theorem dX6_pixel_102 : decode cX6_pixel 102 = .ok (.iload_n 3, 1) := by decide +kernel
theorem dX6_pixel_103 : decode cX6_pixel 103 = .ok (.iload 4, 2) := by decide +kernel
theorem dX6_pixel_105 : decode cX6_pixel 105 = .ok (.invokevirtual 117, 3) := by decide +kernel
theorem dX6_pixel_108 : decode cX6_pixel 108 = .ok (.ifCond .eq 13, 3) := by decide +kernel
theorem dX6_pixel_111 : decode cX6_pixel 111 = .ok (.new 95, 3) := by decide +kernel
theorem dX6_pixel_114 : decode cX6_pixel 114 = .ok (.dup, 1) := by decide +kernel
theorem dX6_pixel_115 : decode cX6_pixel 115 = .ok (.ldc 121, 2) := by decide +kernel
theorem dX6_pixel_117 : decode cX6_pixel 117 = .ok (.invokespecial 99, 3) := by decide +kernel
theorem dX6_pixel_120 : decode cX6_pixel 120 = .ok (.athrow, 1) := by decide +kernel
theorem dX6_pixel_121 : decode cX6_pixel 121 = .ok (.aload_n 0, 1) := by decide +kernel
theorem dX6_pixel_122 : decode cX6_pixel 122 = .ok (.getfield 12, 3) := by decide +kernel
theorem dX6_pixel_125 : decode cX6_pixel 125 = .ok (.iload_n 1, 1) := by decide +kernel
theorem dX6_pixel_126 : decode cX6_pixel 126 = .ok (.iload_n 2, 1) := by decide +kernel
theorem dX6_pixel_127 : decode cX6_pixel 127 = .ok (.iload_n 3, 1) := by decide +kernel
theorem dX6_pixel_128 : decode cX6_pixel 128 = .ok (.iload 4, 2) := by decide +kernel
theorem dX6_pixel_130 : decode cX6_pixel 130 = .ok (.invokevirtual 123, 3) := by decide +kernel
theorem dX6_pixel_133 : decode cX6_pixel 133 = .ok (.istore 5, 2) := by decide +kernel
theorem dX6_pixel_135 : decode cX6_pixel 135 = .ok (.aload_n 0, 1) := by decide +kernel
theorem dX6_pixel_136 : decode cX6_pixel 136 = .ok (.getfield 21, 3) := by decide +kernel
theorem dX6_pixel_139 : decode cX6_pixel 139 = .ok (.iload_n 1, 1) := by decide +kernel
theorem dX6_pixel_140 : decode cX6_pixel 140 = .ok (.iload_n 2, 1) := by decide +kernel
theorem dX6_pixel_141 : decode cX6_pixel 141 = .ok (.iload_n 3, 1) := by decide +kernel
theorem dX6_pixel_142 : decode cX6_pixel 142 = .ok (.iload 4, 2) := by decide +kernel
theorem dX6_pixel_144 : decode cX6_pixel 144 = .ok (.iload 5, 2) := by decide +kernel
theorem dX6_pixel_146 : decode cX6_pixel 146 = .ok (.invokevirtual 127, 3) := by decide +kernel
theorem dX6_pixel_149 : decode cX6_pixel 149 = .ok (.iload 5, 2) := by decide +kernel
theorem dX6_pixel_151 : decode cX6_pixel 151 = .ok (.ireturn, 1) := by decide +kernel
theorem dX6_drive_0 : decode cX6_drive 0 = .ok (.aload_n 0, 1) := by decide +kernel
theorem dX6_drive_1 : decode cX6_drive 1 = .ok (.getfield 12, 3) := by decide +kernel
theorem dX6_drive_4 : decode cX6_drive 4 = .ok (.iload_n 1, 1) := by decide +kernel
theorem dX6_drive_5 : decode cX6_drive 5 = .ok (.invokevirtual 131, 3) := by decide +kernel
theorem dX6_drive_8 : decode cX6_drive 8 = .ok (.ifCond .ne 13, 3) := by decide +kernel
theorem dX6_drive_11 : decode cX6_drive 11 = .ok (.new 81, 3) := by decide +kernel
theorem dX6_drive_14 : decode cX6_drive 14 = .ok (.dup, 1) := by decide +kernel
theorem dX6_drive_15 : decode cX6_drive 15 = .ok (.ldc 133, 2) := by decide +kernel
theorem dX6_drive_17 : decode cX6_drive 17 = .ok (.invokespecial 85, 3) := by decide +kernel
theorem dX6_drive_20 : decode cX6_drive 20 = .ok (.athrow, 1) := by decide +kernel
theorem dX6_drive_21 : decode cX6_drive 21 = .ok (.iload_n 2, 1) := by decide +kernel
theorem dX6_drive_22 : decode cX6_drive 22 = .ok (.invokestatic 86, 3) := by decide +kernel
theorem dX6_drive_25 : decode cX6_drive 25 = .ok (.ifCond .eq 13, 3) := by decide +kernel
theorem dX6_drive_28 : decode cX6_drive 28 = .ok (.iload_n 3, 1) := by decide +kernel
theorem dX6_drive_29 : decode cX6_drive 29 = .ok (.iconst 0, 1) := by decide +kernel
theorem dX6_drive_30 : decode cX6_drive 30 = .ok (.bipush 100, 2) := by decide +kernel
theorem dX6_drive_32 : decode cX6_drive 32 = .ok (.invokestatic 56, 3) := by decide +kernel
theorem dX6_drive_35 : decode cX6_drive 35 = .ok (.ifCond .ne 13, 3) := by decide +kernel
theorem dX6_drive_38 : decode cX6_drive 38 = .ok (.new 60, 3) := by decide +kernel
theorem dX6_drive_41 : decode cX6_drive 41 = .ok (.dup, 1) := by decide +kernel
theorem dX6_drive_42 : decode cX6_drive 42 = .ok (.ldc 135, 2) := by decide +kernel
theorem dX6_drive_44 : decode cX6_drive 44 = .ok (.invokespecial 64, 3) := by decide +kernel
theorem dX6_drive_47 : decode cX6_drive 47 = .ok (.athrow, 1) := by decide +kernel
theorem dX6_drive_48 : decode cX6_drive 48 = .ok (.aload_n 0, 1) := by decide +kernel
theorem dX6_drive_49 : decode cX6_drive 49 = .ok (.aload_n 0, 1) := by decide +kernel
theorem dX6_drive_50 : decode cX6_drive 50 = .ok (.getfield 21, 3) := by decide +kernel
theorem dX6_drive_53 : decode cX6_drive 53 = .ok (.iload_n 1, 1) := by decide +kernel
theorem dX6_drive_54 : decode cX6_drive 54 = .ok (.iload_n 2, 1) := by decide +kernel
theorem dX6_drive_55 : decode cX6_drive 55 = .ok (.iload_n 3, 1) := by decide +kernel
theorem dX6_drive_56 : decode cX6_drive 56 = .ok (.invokevirtual 137, 3) := by decide +kernel
theorem dX6_drive_59 : decode cX6_drive 59 = .ok (.invokevirtual 73, 3) := by decide +kernel
theorem dX6_drive_62 : decode cX6_drive 62 = .ok (.ireturn, 1) := by decide +kernel
theorem dX6_program_0 : decode cX6_program 0 = .ok (.aload_n 0, 1) := by decide +kernel
theorem dX6_program_1 : decode cX6_program 1 = .ok (.getfield 12, 3) := by decide +kernel
theorem dX6_program_4 : decode cX6_program 4 = .ok (.iload_n 1, 1) := by decide +kernel
theorem dX6_program_5 : decode cX6_program 5 = .ok (.invokevirtual 131, 3) := by decide +kernel
theorem dX6_program_8 : decode cX6_program 8 = .ok (.ifCond .ne 13, 3) := by decide +kernel
theorem dX6_program_11 : decode cX6_program 11 = .ok (.new 81, 3) := by decide +kernel
theorem dX6_program_14 : decode cX6_program 14 = .ok (.dup, 1) := by decide +kernel
theorem dX6_program_15 : decode cX6_program 15 = .ok (.ldc 133, 2) := by decide +kernel
theorem dX6_program_17 : decode cX6_program 17 = .ok (.invokespecial 85, 3) := by decide +kernel
theorem dX6_program_20 : decode cX6_program 20 = .ok (.athrow, 1) := by decide +kernel
theorem dX6_program_21 : decode cX6_program 21 = .ok (.iload_n 2, 1) := by decide +kernel
theorem dX6_program_22 : decode cX6_program 22 = .ok (.aload_n 0, 1) := by decide +kernel
theorem dX6_program_23 : decode cX6_program 23 = .ok (.getfield 140, 3) := by decide +kernel
theorem dX6_program_26 : decode cX6_program 26 = .ok (.if_icmp .le 10, 3) := by decide +kernel
theorem dX6_program_29 : decode cX6_program 29 = .ok (.iload_n 2, 1) := by decide +kernel
theorem dX6_program_30 : decode cX6_program 30 = .ok (.sipush 2000, 3) := by decide +kernel
theorem dX6_program_33 : decode cX6_program 33 = .ok (.if_icmp .le 13, 3) := by decide +kernel
theorem dX6_program_36 : decode cX6_program 36 = .ok (.new 60, 3) := by decide +kernel
theorem dX6_program_39 : decode cX6_program 39 = .ok (.dup, 1) := by decide +kernel
theorem dX6_program_40 : decode cX6_program 40 = .ok (.ldc 143, 2) := by decide +kernel
theorem dX6_program_42 : decode cX6_program 42 = .ok (.invokespecial 64, 3) := by decide +kernel
theorem dX6_program_45 : decode cX6_program 45 = .ok (.athrow, 1) := by decide +kernel
theorem dX6_program_46 : decode cX6_program 46 = .ok (.iload_n 3, 1) := by decide +kernel
theorem dX6_program_47 : decode cX6_program 47 = .ok (.invokestatic 86, 3) := by decide +kernel
theorem dX6_program_50 : decode cX6_program 50 = .ok (.ifCond .eq 14, 3) := by decide +kernel
theorem dX6_program_53 : decode cX6_program 53 = .ok (.iload 4, 2) := by decide +kernel
theorem dX6_program_55 : decode cX6_program 55 = .ok (.iconst 0, 1) := by decide +kernel
theorem dX6_program_56 : decode cX6_program 56 = .ok (.bipush 100, 2) := by decide +kernel
theorem dX6_program_58 : decode cX6_program 58 = .ok (.invokestatic 56, 3) := by decide +kernel
theorem dX6_program_61 : decode cX6_program 61 = .ok (.ifCond .ne 13, 3) := by decide +kernel
theorem dX6_program_64 : decode cX6_program 64 = .ok (.new 60, 3) := by decide +kernel
theorem dX6_program_67 : decode cX6_program 67 = .ok (.dup, 1) := by decide +kernel
theorem dX6_program_68 : decode cX6_program 68 = .ok (.ldc 135, 2) := by decide +kernel
theorem dX6_program_70 : decode cX6_program 70 = .ok (.invokespecial 64, 3) := by decide +kernel
theorem dX6_program_73 : decode cX6_program 73 = .ok (.athrow, 1) := by decide +kernel
theorem dX6_program_74 : decode cX6_program 74 = .ok (.aload_n 0, 1) := by decide +kernel
theorem dX6_program_75 : decode cX6_program 75 = .ok (.getfield 37, 3) := by decide +kernel
theorem dX6_program_78 : decode cX6_program 78 = .ok (.getfield 145, 3) := by decide +kernel
theorem dX6_program_81 : decode cX6_program 81 = .ok (.bipush 40, 2) := by decide +kernel
theorem dX6_program_83 : decode cX6_program 83 = .ok (.if_icmp .lt 13, 3) := by decide +kernel
theorem dX6_program_86 : decode cX6_program 86 = .ok (.new 95, 3) := by decide +kernel
theorem dX6_program_89 : decode cX6_program 89 = .ok (.dup, 1) := by decide +kernel
theorem dX6_program_90 : decode cX6_program 90 = .ok (.ldc 146, 2) := by decide +kernel
theorem dX6_program_92 : decode cX6_program 92 = .ok (.invokespecial 99, 3) := by decide +kernel
theorem dX6_program_95 : decode cX6_program 95 = .ok (.athrow, 1) := by decide +kernel
theorem dX6_program_96 : decode cX6_program 96 = .ok (.aload_n 0, 1) := by decide +kernel
theorem dX6_program_97 : decode cX6_program 97 = .ok (.getfield 37, 3) := by decide +kernel
theorem dX6_program_100 : decode cX6_program 100 = .ok (.iload_n 1, 1) := by decide +kernel
theorem dX6_program_101 : decode cX6_program 101 = .ok (.iload_n 2, 1) := by decide +kernel
theorem dX6_program_102 : decode cX6_program 102 = .ok (.iload_n 3, 1) := by decide +kernel
theorem dX6_program_103 : decode cX6_program 103 = .ok (.iload 4, 2) := by decide +kernel
theorem dX6_program_105 : decode cX6_program 105 = .ok (.invokevirtual 148, 3) := by decide +kernel
theorem dX6_program_108 : decode cX6_program 108 = .ok (.ireturn, 1) := by decide +kernel
theorem dX6_tick_0 : decode cX6_tick 0 = .ok (.iload_n 1, 1) := by decide +kernel
theorem dX6_tick_1 : decode cX6_tick 1 = .ok (.iconst 1, 1) := by decide +kernel
theorem dX6_tick_2 : decode cX6_tick 2 = .ok (.bipush 50, 2) := by decide +kernel
theorem dX6_tick_4 : decode cX6_tick 4 = .ok (.invokestatic 56, 3) := by decide +kernel
theorem dX6_tick_7 : decode cX6_tick 7 = .ok (.ifCond .ne 13, 3) := by decide +kernel
theorem dX6_tick_10 : decode cX6_tick 10 = .ok (.new 60, 3) := by decide +kernel
theorem dX6_tick_13 : decode cX6_tick 13 = .ok (.dup, 1) := by decide +kernel
theorem dX6_tick_14 : decode cX6_tick 14 = .ok (.ldc 151, 2) := by decide +kernel
theorem dX6_tick_16 : decode cX6_tick 16 = .ok (.invokespecial 64, 3) := by decide +kernel
theorem dX6_tick_19 : decode cX6_tick 19 = .ok (.athrow, 1) := by decide +kernel
theorem dX6_tick_20 : decode cX6_tick 20 = .ok (.aload_n 0, 1) := by decide +kernel
theorem dX6_tick_21 : decode cX6_tick 21 = .ok (.getfield 140, 3) := by decide +kernel
theorem dX6_tick_24 : decode cX6_tick 24 = .ok (.iload_n 1, 1) := by decide +kernel
theorem dX6_tick_25 : decode cX6_tick 25 = .ok (.iadd, 1) := by decide +kernel
theorem dX6_tick_26 : decode cX6_tick 26 = .ok (.sipush 2000, 3) := by decide +kernel
theorem dX6_tick_29 : decode cX6_tick 29 = .ok (.if_icmp .le 13, 3) := by decide +kernel
theorem dX6_tick_32 : decode cX6_tick 32 = .ok (.new 95, 3) := by decide +kernel
theorem dX6_tick_35 : decode cX6_tick 35 = .ok (.dup, 1) := by decide +kernel
theorem dX6_tick_36 : decode cX6_tick 36 = .ok (.ldc 153, 2) := by decide +kernel
theorem dX6_tick_38 : decode cX6_tick 38 = .ok (.invokespecial 99, 3) := by decide +kernel
theorem dX6_tick_41 : decode cX6_tick 41 = .ok (.athrow, 1) := by decide +kernel
theorem dX6_tick_42 : decode cX6_tick 42 = .ok (.aload_n 0, 1) := by decide +kernel
theorem dX6_tick_43 : decode cX6_tick 43 = .ok (.getfield 155, 3) := by decide +kernel
theorem dX6_tick_46 : decode cX6_tick 46 = .ok (.istore_n 2, 1) := by decide +kernel
theorem dX6_tick_47 : decode cX6_tick 47 = .ok (.iconst 0, 1) := by decide +kernel
theorem dX6_tick_48 : decode cX6_tick 48 = .ok (.istore_n 3, 1) := by decide +kernel
theorem dX6_tick_49 : decode cX6_tick 49 = .ok (.iload_n 3, 1) := by decide +kernel
theorem dX6_tick_50 : decode cX6_tick 50 = .ok (.iload_n 1, 1) := by decide +kernel
theorem dX6_tick_51 : decode cX6_tick 51 = .ok (.if_icmp .ge 59, 3) := by decide +kernel
theorem dX6_tick_54 : decode cX6_tick 54 = .ok (.aload_n 0, 1) := by decide +kernel
theorem dX6_tick_55 : decode cX6_tick 55 = .ok (.dup, 1) := by decide +kernel
theorem dX6_tick_56 : decode cX6_tick 56 = .ok (.getfield 140, 3) := by decide +kernel
theorem dX6_tick_59 : decode cX6_tick 59 = .ok (.iconst 1, 1) := by decide +kernel
theorem dX6_tick_60 : decode cX6_tick 60 = .ok (.iadd, 1) := by decide +kernel
theorem dX6_tick_61 : decode cX6_tick 61 = .ok (.putfield 140, 3) := by decide +kernel
theorem dX6_tick_64 : decode cX6_tick 64 = .ok (.aload_n 0, 1) := by decide +kernel
theorem dX6_tick_65 : decode cX6_tick 65 = .ok (.aload_n 0, 1) := by decide +kernel
theorem dX6_tick_66 : decode cX6_tick 66 = .ok (.getfield 37, 3) := by decide +kernel
theorem dX6_tick_69 : decode cX6_tick 69 = .ok (.aload_n 0, 1) := by decide +kernel
theorem dX6_tick_70 : decode cX6_tick 70 = .ok (.getfield 140, 3) := by decide +kernel
theorem dX6_tick_73 : decode cX6_tick 73 = .ok (.aload_n 0, 1) := by decide +kernel
theorem dX6_tick_74 : decode cX6_tick 74 = .ok (.getfield 21, 3) := by decide +kernel
theorem dX6_tick_77 : decode cX6_tick 77 = .ok (.invokevirtual 158, 3) := by decide +kernel
theorem dX6_tick_80 : decode cX6_tick 80 = .ok (.invokevirtual 73, 3) := by decide +kernel
theorem dX6_tick_83 : decode cX6_tick 83 = .ok (.pop, 1) := by decide +kernel
theorem dX6_tick_84 : decode cX6_tick 84 = .ok (.aload_n 0, 1) := by decide +kernel
theorem dX6_tick_85 : decode cX6_tick 85 = .ok (.dup, 1) := by decide +kernel
theorem dX6_tick_86 : decode cX6_tick 86 = .ok (.getfield 155, 3) := by decide +kernel
theorem dX6_tick_89 : decode cX6_tick 89 = .ok (.aload_n 0, 1) := by decide +kernel
theorem dX6_tick_90 : decode cX6_tick 90 = .ok (.getfield 21, 3) := by decide +kernel
theorem dX6_tick_93 : decode cX6_tick 93 = .ok (.invokevirtual 162, 3) := by decide +kernel
theorem dX6_tick_96 : decode cX6_tick 96 = .ok (.iadd, 1) := by decide +kernel
theorem dX6_tick_97 : decode cX6_tick 97 = .ok (.putfield 155, 3) := by decide +kernel
theorem dX6_tick_100 : decode cX6_tick 100 = .ok (.aload_n 0, 1) := by decide +kernel
theorem dX6_tick_101 : decode cX6_tick 101 = .ok (.invokevirtual 166, 3) := by decide +kernel
theorem dX6_tick_104 : decode cX6_tick 104 = .ok (.iinc 3 1, 3) := by decide +kernel
theorem dX6_tick_107 : decode cX6_tick 107 = .ok (.goto (-58), 3) := by decide +kernel
theorem dX6_tick_110 : decode cX6_tick 110 = .ok (.aload_n 0, 1) := by decide +kernel
theorem dX6_tick_111 : decode cX6_tick 111 = .ok (.getfield 155, 3) := by decide +kernel
theorem dX6_tick_114 : decode cX6_tick 114 = .ok (.iload_n 2, 1) := by decide +kernel
theorem dX6_tick_115 : decode cX6_tick 115 = .ok (.isub, 1) := by decide +kernel
theorem dX6_tick_116 : decode cX6_tick 116 = .ok (.ireturn, 1) := by decide +kernel
theorem dX6_plates_0 : decode cX6_plates 0 = .ok (.iload_n 1, 1) := by decide +kernel
theorem dX6_plates_1 : decode cX6_plates 1 = .ok (.invokestatic 86, 3) := by decide +kernel
theorem dX6_plates_4 : decode cX6_plates 4 = .ok (.ifCond .ne 13, 3) := by decide +kernel
theorem dX6_plates_7 : decode cX6_plates 7 = .ok (.new 60, 3) := by decide +kernel
theorem dX6_plates_10 : decode cX6_plates 10 = .ok (.dup, 1) := by decide +kernel
theorem dX6_plates_11 : decode cX6_plates 11 = .ok (.ldc 90, 2) := by decide +kernel
theorem dX6_plates_13 : decode cX6_plates 13 = .ok (.invokespecial 64, 3) := by decide +kernel
theorem dX6_plates_16 : decode cX6_plates 16 = .ok (.athrow, 1) := by decide +kernel
theorem dX6_plates_17 : decode cX6_plates 17 = .ok (.aload_n 0, 1) := by decide +kernel
theorem dX6_plates_18 : decode cX6_plates 18 = .ok (.getfield 48, 3) := by decide +kernel
theorem dX6_plates_21 : decode cX6_plates 21 = .ok (.istore_n 2, 1) := by decide +kernel
theorem dX6_plates_22 : decode cX6_plates 22 = .ok (.aload_n 0, 1) := by decide +kernel
theorem dX6_plates_23 : decode cX6_plates 23 = .ok (.iload_n 1, 1) := by decide +kernel
theorem dX6_plates_24 : decode cX6_plates 24 = .ok (.putfield 48, 3) := by decide +kernel
theorem dX6_plates_27 : decode cX6_plates 27 = .ok (.iload_n 2, 1) := by decide +kernel
theorem dX6_plates_28 : decode cX6_plates 28 = .ok (.ireturn, 1) := by decide +kernel
theorem dX6_picture_0 : decode cX6_picture 0 = .ok (.aload_n 0, 1) := by decide +kernel
theorem dX6_picture_1 : decode cX6_picture 1 = .ok (.getfield 44, 3) := by decide +kernel
theorem dX6_picture_4 : decode cX6_picture 4 = .ok (.getfield 169, 3) := by decide +kernel
theorem dX6_picture_7 : decode cX6_picture 7 = .ok (.bipush 10, 2) := by decide +kernel
theorem dX6_picture_9 : decode cX6_picture 9 = .ok (.if_icmp .lt 13, 3) := by decide +kernel
theorem dX6_picture_12 : decode cX6_picture 12 = .ok (.new 95, 3) := by decide +kernel
theorem dX6_picture_15 : decode cX6_picture 15 = .ok (.dup, 1) := by decide +kernel
theorem dX6_picture_16 : decode cX6_picture 16 = .ok (.ldc 170, 2) := by decide +kernel
theorem dX6_picture_18 : decode cX6_picture 18 = .ok (.invokespecial 99, 3) := by decide +kernel
theorem dX6_picture_21 : decode cX6_picture 21 = .ok (.athrow, 1) := by decide +kernel
theorem dX6_picture_22 : decode cX6_picture 22 = .ok (.aload_n 0, 1) := by decide +kernel
theorem dX6_picture_23 : decode cX6_picture 23 = .ok (.getfield 44, 3) := by decide +kernel
theorem dX6_picture_26 : decode cX6_picture 26 = .ok (.aload_n 0, 1) := by decide +kernel
theorem dX6_picture_27 : decode cX6_picture 27 = .ok (.getfield 21, 3) := by decide +kernel
theorem dX6_picture_30 : decode cX6_picture 30 = .ok (.aload_n 0, 1) := by decide +kernel
theorem dX6_picture_31 : decode cX6_picture 31 = .ok (.getfield 48, 3) := by decide +kernel
theorem dX6_picture_34 : decode cX6_picture 34 = .ok (.invokevirtual 172, 3) := by decide +kernel
theorem dX6_picture_37 : decode cX6_picture 37 = .ok (.ireturn, 1) := by decide +kernel
theorem dX6_now_0 : decode cX6_now 0 = .ok (.aload_n 0, 1) := by decide +kernel
theorem dX6_now_1 : decode cX6_now 1 = .ok (.getfield 140, 3) := by decide +kernel
theorem dX6_now_4 : decode cX6_now 4 = .ok (.ireturn, 1) := by decide +kernel
theorem dX6_told_0 : decode cX6_told 0 = .ok (.aload_n 0, 1) := by decide +kernel
theorem dX6_told_1 : decode cX6_told 1 = .ok (.getfield 21, 3) := by decide +kernel
theorem dX6_told_4 : decode cX6_told 4 = .ok (.iload_n 1, 1) := by decide +kernel
theorem dX6_told_5 : decode cX6_told 5 = .ok (.iload_n 2, 1) := by decide +kernel
theorem dX6_told_6 : decode cX6_told 6 = .ok (.invokevirtual 77, 3) := by decide +kernel
theorem dX6_told_9 : decode cX6_told 9 = .ok (.ifCond .ne 13, 3) := by decide +kernel
theorem dX6_told_12 : decode cX6_told 12 = .ok (.new 81, 3) := by decide +kernel
theorem dX6_told_15 : decode cX6_told 15 = .ok (.dup, 1) := by decide +kernel
theorem dX6_told_16 : decode cX6_told 16 = .ok (.ldc 83, 2) := by decide +kernel
theorem dX6_told_18 : decode cX6_told 18 = .ok (.invokespecial 85, 3) := by decide +kernel
theorem dX6_told_21 : decode cX6_told 21 = .ok (.athrow, 1) := by decide +kernel
theorem dX6_told_22 : decode cX6_told 22 = .ok (.iload_n 3, 1) := by decide +kernel
theorem dX6_told_23 : decode cX6_told 23 = .ok (.tableswitch 90 0 4 #[33, 43, 53, 63, 80], 33) := by decide +kernel
theorem dX6_told_56 : decode cX6_told 56 = .ok (.aload_n 0, 1) := by decide +kernel
theorem dX6_told_57 : decode cX6_told 57 = .ok (.getfield 21, 3) := by decide +kernel
theorem dX6_told_60 : decode cX6_told 60 = .ok (.iload_n 1, 1) := by decide +kernel
theorem dX6_told_61 : decode cX6_told 61 = .ok (.iload_n 2, 1) := by decide +kernel
theorem dX6_told_62 : decode cX6_told 62 = .ok (.invokevirtual 176, 3) := by decide +kernel
theorem dX6_told_65 : decode cX6_told 65 = .ok (.ireturn, 1) := by decide +kernel
theorem dX6_told_66 : decode cX6_told 66 = .ok (.aload_n 0, 1) := by decide +kernel
theorem dX6_told_67 : decode cX6_told 67 = .ok (.getfield 21, 3) := by decide +kernel
theorem dX6_told_70 : decode cX6_told 70 = .ok (.iload_n 1, 1) := by decide +kernel
theorem dX6_told_71 : decode cX6_told 71 = .ok (.iload_n 2, 1) := by decide +kernel
theorem dX6_told_72 : decode cX6_told 72 = .ok (.invokevirtual 92, 3) := by decide +kernel
theorem dX6_told_75 : decode cX6_told 75 = .ok (.ireturn, 1) := by decide +kernel
theorem dX6_told_76 : decode cX6_told 76 = .ok (.aload_n 0, 1) := by decide +kernel
theorem dX6_told_77 : decode cX6_told 77 = .ok (.getfield 21, 3) := by decide +kernel
theorem dX6_told_80 : decode cX6_told 80 = .ok (.iload_n 1, 1) := by decide +kernel
theorem dX6_told_81 : decode cX6_told 81 = .ok (.iload_n 2, 1) := by decide +kernel
theorem dX6_told_82 : decode cX6_told 82 = .ok (.invokevirtual 179, 3) := by decide +kernel
theorem dX6_told_85 : decode cX6_told 85 = .ok (.ireturn, 1) := by decide +kernel
theorem dX6_told_86 : decode cX6_told 86 = .ok (.aload_n 0, 1) := by decide +kernel
theorem dX6_told_87 : decode cX6_told 87 = .ok (.getfield 21, 3) := by decide +kernel
theorem dX6_told_90 : decode cX6_told 90 = .ok (.iload_n 1, 1) := by decide +kernel
theorem dX6_told_91 : decode cX6_told 91 = .ok (.iload_n 2, 1) := by decide +kernel
theorem dX6_told_92 : decode cX6_told 92 = .ok (.invokevirtual 176, 3) := by decide +kernel
theorem dX6_told_95 : decode cX6_told 95 = .ok (.aload_n 0, 1) := by decide +kernel
theorem dX6_told_96 : decode cX6_told 96 = .ok (.getfield 48, 3) := by decide +kernel
theorem dX6_told_99 : decode cX6_told 99 = .ok (.invokestatic 182, 3) := by decide +kernel
theorem dX6_told_102 : decode cX6_told 102 = .ok (.ireturn, 1) := by decide +kernel
theorem dX6_told_103 : decode cX6_told 103 = .ok (.aload_n 0, 1) := by decide +kernel
theorem dX6_told_104 : decode cX6_told 104 = .ok (.getfield 21, 3) := by decide +kernel
theorem dX6_told_107 : decode cX6_told 107 = .ok (.iload_n 1, 1) := by decide +kernel
theorem dX6_told_108 : decode cX6_told 108 = .ok (.iload_n 2, 1) := by decide +kernel
theorem dX6_told_109 : decode cX6_told 109 = .ok (.invokevirtual 185, 3) := by decide +kernel
theorem dX6_told_112 : decode cX6_told 112 = .ok (.ireturn, 1) := by decide +kernel
theorem dX6_told_113 : decode cX6_told 113 = .ok (.new 60, 3) := by decide +kernel
theorem dX6_told_116 : decode cX6_told 116 = .ok (.dup, 1) := by decide +kernel
theorem dX6_told_117 : decode cX6_told 117 = .ok (.ldc 188, 2) := by decide +kernel
theorem dX6_told_119 : decode cX6_told 119 = .ok (.invokespecial 64, 3) := by decide +kernel
theorem dX6_told_122 : decode cX6_told 122 = .ok (.athrow, 1) := by decide +kernel
theorem dX6_energy_0 : decode cX6_energy 0 = .ok (.aload_n 0, 1) := by decide +kernel
theorem dX6_energy_1 : decode cX6_energy 1 = .ok (.getfield 21, 3) := by decide +kernel
theorem dX6_energy_4 : decode cX6_energy 4 = .ok (.getfield 190, 3) := by decide +kernel
theorem dX6_energy_7 : decode cX6_energy 7 = .ok (.ireturn, 1) := by decide +kernel
theorem dX6_energyAnew_0 : decode cX6_energyAnew 0 = .ok (.aload_n 0, 1) := by decide +kernel
theorem dX6_energyAnew_1 : decode cX6_energyAnew 1 = .ok (.getfield 21, 3) := by decide +kernel
theorem dX6_energyAnew_4 : decode cX6_energyAnew 4 = .ok (.invokevirtual 193, 3) := by decide +kernel
theorem dX6_energyAnew_7 : decode cX6_energyAnew 7 = .ok (.ireturn, 1) := by decide +kernel
theorem dX6_spent_0 : decode cX6_spent 0 = .ok (.iload_n 1, 1) := by decide +kernel
theorem dX6_spent_1 : decode cX6_spent 1 = .ok (.ifCond .eq 10, 3) := by decide +kernel
theorem dX6_spent_4 : decode cX6_spent 4 = .ok (.aload_n 0, 1) := by decide +kernel
theorem dX6_spent_5 : decode cX6_spent 5 = .ok (.getfield 155, 3) := by decide +kernel
theorem dX6_spent_8 : decode cX6_spent 8 = .ok (.goto 7, 3) := by decide +kernel
theorem dX6_spent_11 : decode cX6_spent 11 = .ok (.aload_n 0, 1) := by decide +kernel
theorem dX6_spent_12 : decode cX6_spent 12 = .ok (.getfield 196, 3) := by decide +kernel
theorem dX6_spent_15 : decode cX6_spent 15 = .ok (.ireturn, 1) := by decide +kernel
theorem dX6_least_0 : decode cX6_least 0 = .ok (.aload_n 0, 1) := by decide +kernel
theorem dX6_least_1 : decode cX6_least 1 = .ok (.getfield 21, 3) := by decide +kernel
theorem dX6_least_4 : decode cX6_least 4 = .ok (.iload_n 1, 1) := by decide +kernel
theorem dX6_least_5 : decode cX6_least 5 = .ok (.iload_n 2, 1) := by decide +kernel
theorem dX6_least_6 : decode cX6_least 6 = .ok (.invokevirtual 77, 3) := by decide +kernel
theorem dX6_least_9 : decode cX6_least 9 = .ok (.ifCond .eq 35, 3) := by decide +kernel
theorem dX6_least_12 : decode cX6_least 12 = .ok (.aload_n 0, 1) := by decide +kernel
theorem dX6_least_13 : decode cX6_least 13 = .ok (.getfield 21, 3) := by decide +kernel
theorem dX6_least_16 : decode cX6_least 16 = .ok (.iload_n 3, 1) := by decide +kernel
theorem dX6_least_17 : decode cX6_least 17 = .ok (.ifCond .eq 9, 3) := by decide +kernel
theorem dX6_least_20 : decode cX6_least 20 = .ok (.iload_n 1, 1) := by decide +kernel
theorem dX6_least_21 : decode cX6_least 21 = .ok (.iconst 1, 1) := by decide +kernel
theorem dX6_least_22 : decode cX6_least 22 = .ok (.iadd, 1) := by decide +kernel
theorem dX6_least_23 : decode cX6_least 23 = .ok (.goto 4, 3) := by decide +kernel
theorem dX6_least_26 : decode cX6_least 26 = .ok (.iload_n 1, 1) := by decide +kernel
theorem dX6_least_27 : decode cX6_least 27 = .ok (.iload_n 3, 1) := by decide +kernel
theorem dX6_least_28 : decode cX6_least 28 = .ok (.ifCond .eq 7, 3) := by decide +kernel
theorem dX6_least_31 : decode cX6_least 31 = .ok (.iload_n 2, 1) := by decide +kernel
theorem dX6_least_32 : decode cX6_least 32 = .ok (.goto 6, 3) := by decide +kernel
theorem dX6_least_35 : decode cX6_least 35 = .ok (.iload_n 2, 1) := by decide +kernel
theorem dX6_least_36 : decode cX6_least 36 = .ok (.iconst 1, 1) := by decide +kernel
theorem dX6_least_37 : decode cX6_least 37 = .ok (.iadd, 1) := by decide +kernel
theorem dX6_least_38 : decode cX6_least 38 = .ok (.invokevirtual 77, 3) := by decide +kernel
theorem dX6_least_41 : decode cX6_least 41 = .ok (.ifCond .ne 13, 3) := by decide +kernel
theorem dX6_least_44 : decode cX6_least 44 = .ok (.new 81, 3) := by decide +kernel
theorem dX6_least_47 : decode cX6_least 47 = .ok (.dup, 1) := by decide +kernel
theorem dX6_least_48 : decode cX6_least 48 = .ok (.ldc 83, 2) := by decide +kernel
theorem dX6_least_50 : decode cX6_least 50 = .ok (.invokespecial 85, 3) := by decide +kernel
theorem dX6_least_53 : decode cX6_least 53 = .ok (.athrow, 1) := by decide +kernel
theorem dX6_least_54 : decode cX6_least 54 = .ok (.aload_n 0, 1) := by decide +kernel
theorem dX6_least_55 : decode cX6_least 55 = .ok (.getfield 21, 3) := by decide +kernel
theorem dX6_least_58 : decode cX6_least 58 = .ok (.iload_n 1, 1) := by decide +kernel
theorem dX6_least_59 : decode cX6_least 59 = .ok (.iload_n 2, 1) := by decide +kernel
theorem dX6_least_60 : decode cX6_least 60 = .ok (.iload_n 3, 1) := by decide +kernel
theorem dX6_least_61 : decode cX6_least 61 = .ok (.invokevirtual 199, 3) := by decide +kernel
theorem dX6_least_64 : decode cX6_least 64 = .ok (.ireturn, 1) := by decide +kernel
theorem dX6_winding_0 : decode cX6_winding 0 = .ok (.aload_n 0, 1) := by decide +kernel
theorem dX6_winding_1 : decode cX6_winding 1 = .ok (.getfield 30, 3) := by decide +kernel
theorem dX6_winding_4 : decode cX6_winding 4 = .ok (.iload_n 1, 1) := by decide +kernel
theorem dX6_winding_5 : decode cX6_winding 5 = .ok (.iload_n 2, 1) := by decide +kernel
theorem dX6_winding_6 : decode cX6_winding 6 = .ok (.invokevirtual 203, 3) := by decide +kernel
theorem dX6_winding_9 : decode cX6_winding 9 = .ok (.ifCond .ne 13, 3) := by decide +kernel
theorem dX6_winding_12 : decode cX6_winding 12 = .ok (.new 81, 3) := by decide +kernel
theorem dX6_winding_15 : decode cX6_winding 15 = .ok (.dup, 1) := by decide +kernel
theorem dX6_winding_16 : decode cX6_winding 16 = .ok (.ldc 204, 2) := by decide +kernel
theorem dX6_winding_18 : decode cX6_winding 18 = .ok (.invokespecial 85, 3) := by decide +kernel
theorem dX6_winding_21 : decode cX6_winding 21 = .ok (.athrow, 1) := by decide +kernel
theorem dX6_winding_22 : decode cX6_winding 22 = .ok (.aload_n 0, 1) := by decide +kernel
theorem dX6_winding_23 : decode cX6_winding 23 = .ok (.getfield 30, 3) := by decide +kernel
theorem dX6_winding_26 : decode cX6_winding 26 = .ok (.iload_n 1, 1) := by decide +kernel
theorem dX6_winding_27 : decode cX6_winding 27 = .ok (.iload_n 2, 1) := by decide +kernel
theorem dX6_winding_28 : decode cX6_winding 28 = .ok (.invokevirtual 206, 3) := by decide +kernel
theorem dX6_winding_31 : decode cX6_winding 31 = .ok (.ireturn, 1) := by decide +kernel
theorem dX6_within_0 : decode cX6_within 0 = .ok (.aload_n 0, 1) := by decide +kernel
theorem dX6_within_1 : decode cX6_within 1 = .ok (.getfield 21, 3) := by decide +kernel
theorem dX6_within_4 : decode cX6_within 4 = .ok (.iload_n 1, 1) := by decide +kernel
theorem dX6_within_5 : decode cX6_within 5 = .ok (.iload_n 2, 1) := by decide +kernel
theorem dX6_within_6 : decode cX6_within 6 = .ok (.invokevirtual 77, 3) := by decide +kernel
theorem dX6_within_9 : decode cX6_within 9 = .ok (.ifCond .eq 16, 3) := by decide +kernel
theorem dX6_within_12 : decode cX6_within 12 = .ok (.aload_n 0, 1) := by decide +kernel
theorem dX6_within_13 : decode cX6_within 13 = .ok (.getfield 21, 3) := by decide +kernel
theorem dX6_within_16 : decode cX6_within 16 = .ok (.iload_n 3, 1) := by decide +kernel
theorem dX6_within_17 : decode cX6_within 17 = .ok (.iload 4, 2) := by decide +kernel
theorem dX6_within_19 : decode cX6_within 19 = .ok (.invokevirtual 77, 3) := by decide +kernel
theorem dX6_within_22 : decode cX6_within 22 = .ok (.ifCond .ne 13, 3) := by decide +kernel
theorem dX6_within_25 : decode cX6_within 25 = .ok (.new 81, 3) := by decide +kernel
theorem dX6_within_28 : decode cX6_within 28 = .ok (.dup, 1) := by decide +kernel
theorem dX6_within_29 : decode cX6_within 29 = .ok (.ldc 83, 2) := by decide +kernel
theorem dX6_within_31 : decode cX6_within 31 = .ok (.invokespecial 85, 3) := by decide +kernel
theorem dX6_within_34 : decode cX6_within 34 = .ok (.athrow, 1) := by decide +kernel
theorem dX6_within_35 : decode cX6_within 35 = .ok (.iload_n 3, 1) := by decide +kernel
theorem dX6_within_36 : decode cX6_within 36 = .ok (.iload_n 1, 1) := by decide +kernel
theorem dX6_within_37 : decode cX6_within 37 = .ok (.if_icmp .le 9, 3) := by decide +kernel
theorem dX6_within_40 : decode cX6_within 40 = .ok (.iload 4, 2) := by decide +kernel
theorem dX6_within_42 : decode cX6_within 42 = .ok (.iload_n 2, 1) := by decide +kernel
theorem dX6_within_43 : decode cX6_within 43 = .ok (.if_icmp .gt 13, 3) := by decide +kernel
theorem dX6_within_46 : decode cX6_within 46 = .ok (.new 60, 3) := by decide +kernel
theorem dX6_within_49 : decode cX6_within 49 = .ok (.dup, 1) := by decide +kernel
theorem dX6_within_50 : decode cX6_within 50 = .ok (.ldc 209, 2) := by decide +kernel
theorem dX6_within_52 : decode cX6_within 52 = .ok (.invokespecial 64, 3) := by decide +kernel
theorem dX6_within_55 : decode cX6_within 55 = .ok (.athrow, 1) := by decide +kernel
theorem dX6_within_56 : decode cX6_within 56 = .ok (.aload_n 0, 1) := by decide +kernel
theorem dX6_within_57 : decode cX6_within 57 = .ok (.getfield 30, 3) := by decide +kernel
theorem dX6_within_60 : decode cX6_within 60 = .ok (.iload_n 1, 1) := by decide +kernel
theorem dX6_within_61 : decode cX6_within 61 = .ok (.iload_n 2, 1) := by decide +kernel
theorem dX6_within_62 : decode cX6_within 62 = .ok (.iload_n 3, 1) := by decide +kernel
theorem dX6_within_63 : decode cX6_within 63 = .ok (.iload 4, 2) := by decide +kernel
theorem dX6_within_65 : decode cX6_within 65 = .ok (.invokevirtual 211, 3) := by decide +kernel
theorem dX6_within_68 : decode cX6_within 68 = .ok (.ireturn, 1) := by decide +kernel
theorem dX6_border_0 : decode cX6_border 0 = .ok (.aload_n 0, 1) := by decide +kernel
theorem dX6_border_1 : decode cX6_border 1 = .ok (.getfield 21, 3) := by decide +kernel
theorem dX6_border_4 : decode cX6_border 4 = .ok (.iload_n 1, 1) := by decide +kernel
theorem dX6_border_5 : decode cX6_border 5 = .ok (.iload_n 2, 1) := by decide +kernel
theorem dX6_border_6 : decode cX6_border 6 = .ok (.invokevirtual 77, 3) := by decide +kernel
theorem dX6_border_9 : decode cX6_border 9 = .ok (.ifCond .eq 16, 3) := by decide +kernel
theorem dX6_border_12 : decode cX6_border 12 = .ok (.aload_n 0, 1) := by decide +kernel
theorem dX6_border_13 : decode cX6_border 13 = .ok (.getfield 21, 3) := by decide +kernel
theorem dX6_border_16 : decode cX6_border 16 = .ok (.iload_n 3, 1) := by decide +kernel
theorem dX6_border_17 : decode cX6_border 17 = .ok (.iload 4, 2) := by decide +kernel
theorem dX6_border_19 : decode cX6_border 19 = .ok (.invokevirtual 77, 3) := by decide +kernel
theorem dX6_border_22 : decode cX6_border 22 = .ok (.ifCond .ne 13, 3) := by decide +kernel
theorem dX6_border_25 : decode cX6_border 25 = .ok (.new 81, 3) := by decide +kernel
theorem dX6_border_28 : decode cX6_border 28 = .ok (.dup, 1) := by decide +kernel
theorem dX6_border_29 : decode cX6_border 29 = .ok (.ldc 83, 2) := by decide +kernel
theorem dX6_border_31 : decode cX6_border 31 = .ok (.invokespecial 85, 3) := by decide +kernel
theorem dX6_border_34 : decode cX6_border 34 = .ok (.athrow, 1) := by decide +kernel
theorem dX6_border_35 : decode cX6_border 35 = .ok (.iload_n 3, 1) := by decide +kernel
theorem dX6_border_36 : decode cX6_border 36 = .ok (.iload_n 1, 1) := by decide +kernel
theorem dX6_border_37 : decode cX6_border 37 = .ok (.if_icmp .le 9, 3) := by decide +kernel
theorem dX6_border_40 : decode cX6_border 40 = .ok (.iload 4, 2) := by decide +kernel
theorem dX6_border_42 : decode cX6_border 42 = .ok (.iload_n 2, 1) := by decide +kernel
theorem dX6_border_43 : decode cX6_border 43 = .ok (.if_icmp .gt 13, 3) := by decide +kernel
theorem dX6_border_46 : decode cX6_border 46 = .ok (.new 60, 3) := by decide +kernel
theorem dX6_border_49 : decode cX6_border 49 = .ok (.dup, 1) := by decide +kernel
theorem dX6_border_50 : decode cX6_border 50 = .ok (.ldc 209, 2) := by decide +kernel
theorem dX6_border_52 : decode cX6_border 52 = .ok (.invokespecial 64, 3) := by decide +kernel
theorem dX6_border_55 : decode cX6_border 55 = .ok (.athrow, 1) := by decide +kernel
theorem dX6_border_56 : decode cX6_border 56 = .ok (.aload_n 0, 1) := by decide +kernel
theorem dX6_border_57 : decode cX6_border 57 = .ok (.getfield 30, 3) := by decide +kernel
theorem dX6_border_60 : decode cX6_border 60 = .ok (.iload_n 1, 1) := by decide +kernel
theorem dX6_border_61 : decode cX6_border 61 = .ok (.iload_n 2, 1) := by decide +kernel
theorem dX6_border_62 : decode cX6_border 62 = .ok (.iload_n 3, 1) := by decide +kernel
theorem dX6_border_63 : decode cX6_border 63 = .ok (.iload 4, 2) := by decide +kernel
theorem dX6_border_65 : decode cX6_border 65 = .ok (.invokevirtual 213, 3) := by decide +kernel
theorem dX6_border_68 : decode cX6_border 68 = .ok (.ireturn, 1) := by decide +kernel
theorem dX6_defects_0 : decode cX6_defects 0 = .ok (.aload_n 0, 1) := by decide +kernel
theorem dX6_defects_1 : decode cX6_defects 1 = .ok (.getfield 30, 3) := by decide +kernel
theorem dX6_defects_4 : decode cX6_defects 4 = .ok (.invokevirtual 216, 3) := by decide +kernel
theorem dX6_defects_7 : decode cX6_defects 7 = .ok (.ireturn, 1) := by decide +kernel
theorem dX6_defect_0 : decode cX6_defect 0 = .ok (.aload_n 0, 1) := by decide +kernel
theorem dX6_defect_1 : decode cX6_defect 1 = .ok (.getfield 30, 3) := by decide +kernel
theorem dX6_defect_4 : decode cX6_defect 4 = .ok (.iload_n 1, 1) := by decide +kernel
theorem dX6_defect_5 : decode cX6_defect 5 = .ok (.invokevirtual 218, 3) := by decide +kernel
theorem dX6_defect_8 : decode cX6_defect 8 = .ok (.istore_n 3, 1) := by decide +kernel
theorem dX6_defect_9 : decode cX6_defect 9 = .ok (.iload_n 3, 1) := by decide +kernel
theorem dX6_defect_10 : decode cX6_defect 10 = .ok (.iconst (-1), 1) := by decide +kernel
theorem dX6_defect_11 : decode cX6_defect 11 = .ok (.if_icmp .ne 13, 3) := by decide +kernel
theorem dX6_defect_14 : decode cX6_defect 14 = .ok (.new 81, 3) := by decide +kernel
theorem dX6_defect_17 : decode cX6_defect 17 = .ok (.dup, 1) := by decide +kernel
theorem dX6_defect_18 : decode cX6_defect 18 = .ok (.ldc 221, 2) := by decide +kernel
theorem dX6_defect_20 : decode cX6_defect 20 = .ok (.invokespecial 85, 3) := by decide +kernel
theorem dX6_defect_23 : decode cX6_defect 23 = .ok (.athrow, 1) := by decide +kernel
theorem dX6_defect_24 : decode cX6_defect 24 = .ok (.iload_n 3, 1) := by decide +kernel
theorem dX6_defect_25 : decode cX6_defect 25 = .ok (.bipush 12, 2) := by decide +kernel
theorem dX6_defect_27 : decode cX6_defect 27 = .ok (.irem, 1) := by decide +kernel
theorem dX6_defect_28 : decode cX6_defect 28 = .ok (.istore 4, 2) := by decide +kernel
theorem dX6_defect_30 : decode cX6_defect 30 = .ok (.iload_n 3, 1) := by decide +kernel
theorem dX6_defect_31 : decode cX6_defect 31 = .ok (.bipush 12, 2) := by decide +kernel
theorem dX6_defect_33 : decode cX6_defect 33 = .ok (.idiv, 1) := by decide +kernel
theorem dX6_defect_34 : decode cX6_defect 34 = .ok (.istore 5, 2) := by decide +kernel
theorem dX6_defect_36 : decode cX6_defect 36 = .ok (.iload_n 2, 1) := by decide +kernel
theorem dX6_defect_37 : decode cX6_defect 37 = .ok (.tableswitch 45 0 2 #[27, 30, 33], 27) := by decide +kernel
theorem dX6_defect_64 : decode cX6_defect 64 = .ok (.iload 4, 2) := by decide +kernel
theorem dX6_defect_66 : decode cX6_defect 66 = .ok (.ireturn, 1) := by decide +kernel
theorem dX6_defect_67 : decode cX6_defect 67 = .ok (.iload 5, 2) := by decide +kernel
theorem dX6_defect_69 : decode cX6_defect 69 = .ok (.ireturn, 1) := by decide +kernel
theorem dX6_defect_70 : decode cX6_defect 70 = .ok (.aload_n 0, 1) := by decide +kernel
theorem dX6_defect_71 : decode cX6_defect 71 = .ok (.getfield 30, 3) := by decide +kernel
theorem dX6_defect_74 : decode cX6_defect 74 = .ok (.iload 4, 2) := by decide +kernel
theorem dX6_defect_76 : decode cX6_defect 76 = .ok (.iload 5, 2) := by decide +kernel
theorem dX6_defect_78 : decode cX6_defect 78 = .ok (.invokevirtual 206, 3) := by decide +kernel
theorem dX6_defect_81 : decode cX6_defect 81 = .ok (.ireturn, 1) := by decide +kernel
theorem dX6_defect_82 : decode cX6_defect 82 = .ok (.new 60, 3) := by decide +kernel
theorem dX6_defect_85 : decode cX6_defect 85 = .ok (.dup, 1) := by decide +kernel
theorem dX6_defect_86 : decode cX6_defect 86 = .ok (.ldc 223, 2) := by decide +kernel
theorem dX6_defect_88 : decode cX6_defect 88 = .ok (.invokespecial 64, 3) := by decide +kernel
theorem dX6_defect_91 : decode cX6_defect 91 = .ok (.athrow, 1) := by decide +kernel
theorem dX6_ofPixel_0 : decode cX6_ofPixel 0 = .ok (.aload_n 0, 1) := by decide +kernel
theorem dX6_ofPixel_1 : decode cX6_ofPixel 1 = .ok (.getfield 12, 3) := by decide +kernel
theorem dX6_ofPixel_4 : decode cX6_ofPixel 4 = .ok (.iload_n 1, 1) := by decide +kernel
theorem dX6_ofPixel_5 : decode cX6_ofPixel 5 = .ok (.invokevirtual 131, 3) := by decide +kernel
theorem dX6_ofPixel_8 : decode cX6_ofPixel 8 = .ok (.ifCond .ne 13, 3) := by decide +kernel
theorem dX6_ofPixel_11 : decode cX6_ofPixel 11 = .ok (.new 81, 3) := by decide +kernel
theorem dX6_ofPixel_14 : decode cX6_ofPixel 14 = .ok (.dup, 1) := by decide +kernel
theorem dX6_ofPixel_15 : decode cX6_ofPixel 15 = .ok (.ldc 133, 2) := by decide +kernel
theorem dX6_ofPixel_17 : decode cX6_ofPixel 17 = .ok (.invokespecial 85, 3) := by decide +kernel
theorem dX6_ofPixel_20 : decode cX6_ofPixel 20 = .ok (.athrow, 1) := by decide +kernel
theorem dX6_ofPixel_21 : decode cX6_ofPixel 21 = .ok (.iload_n 2, 1) := by decide +kernel
theorem dX6_ofPixel_22 : decode cX6_ofPixel 22 = .ok (.tableswitch 91 0 4 #[34, 47, 56, 73, 82], 34) := by decide +kernel
theorem dX6_ofPixel_56 : decode cX6_ofPixel 56 = .ok (.aload_n 0, 1) := by decide +kernel
theorem dX6_ofPixel_57 : decode cX6_ofPixel 57 = .ok (.getfield 21, 3) := by decide +kernel
theorem dX6_ofPixel_60 : decode cX6_ofPixel 60 = .ok (.iload_n 1, 1) := by decide +kernel
theorem dX6_ofPixel_61 : decode cX6_ofPixel 61 = .ok (.aload_n 0, 1) := by decide +kernel
theorem dX6_ofPixel_62 : decode cX6_ofPixel 62 = .ok (.getfield 48, 3) := by decide +kernel
theorem dX6_ofPixel_65 : decode cX6_ofPixel 65 = .ok (.invokevirtual 225, 3) := by decide +kernel
theorem dX6_ofPixel_68 : decode cX6_ofPixel 68 = .ok (.ireturn, 1) := by decide +kernel
theorem dX6_ofPixel_69 : decode cX6_ofPixel 69 = .ok (.aload_n 0, 1) := by decide +kernel
theorem dX6_ofPixel_70 : decode cX6_ofPixel 70 = .ok (.getfield 12, 3) := by decide +kernel
theorem dX6_ofPixel_73 : decode cX6_ofPixel 73 = .ok (.iload_n 1, 1) := by decide +kernel
theorem dX6_ofPixel_74 : decode cX6_ofPixel 74 = .ok (.invokevirtual 228, 3) := by decide +kernel
theorem dX6_ofPixel_77 : decode cX6_ofPixel 77 = .ok (.ireturn, 1) := by decide +kernel
theorem dX6_ofPixel_78 : decode cX6_ofPixel 78 = .ok (.aload_n 0, 1) := by decide +kernel
theorem dX6_ofPixel_79 : decode cX6_ofPixel 79 = .ok (.getfield 30, 3) := by decide +kernel
theorem dX6_ofPixel_82 : decode cX6_ofPixel 82 = .ok (.iload_n 1, 1) := by decide +kernel
theorem dX6_ofPixel_83 : decode cX6_ofPixel 83 = .ok (.invokevirtual 231, 3) := by decide +kernel
theorem dX6_ofPixel_86 : decode cX6_ofPixel 86 = .ok (.ifCond .eq 7, 3) := by decide +kernel
theorem dX6_ofPixel_89 : decode cX6_ofPixel 89 = .ok (.iconst 1, 1) := by decide +kernel
theorem dX6_ofPixel_90 : decode cX6_ofPixel 90 = .ok (.goto 4, 3) := by decide +kernel
theorem dX6_ofPixel_93 : decode cX6_ofPixel 93 = .ok (.iconst 0, 1) := by decide +kernel
theorem dX6_ofPixel_94 : decode cX6_ofPixel 94 = .ok (.ireturn, 1) := by decide +kernel
theorem dX6_ofPixel_95 : decode cX6_ofPixel 95 = .ok (.aload_n 0, 1) := by decide +kernel
theorem dX6_ofPixel_96 : decode cX6_ofPixel 96 = .ok (.getfield 12, 3) := by decide +kernel
theorem dX6_ofPixel_99 : decode cX6_ofPixel 99 = .ok (.iload_n 1, 1) := by decide +kernel
theorem dX6_ofPixel_100 : decode cX6_ofPixel 100 = .ok (.invokevirtual 234, 3) := by decide +kernel
theorem dX6_ofPixel_103 : decode cX6_ofPixel 103 = .ok (.ireturn, 1) := by decide +kernel
theorem dX6_ofPixel_104 : decode cX6_ofPixel 104 = .ok (.aload_n 0, 1) := by decide +kernel
theorem dX6_ofPixel_105 : decode cX6_ofPixel 105 = .ok (.getfield 12, 3) := by decide +kernel
theorem dX6_ofPixel_108 : decode cX6_ofPixel 108 = .ok (.iload_n 1, 1) := by decide +kernel
theorem dX6_ofPixel_109 : decode cX6_ofPixel 109 = .ok (.invokevirtual 237, 3) := by decide +kernel
theorem dX6_ofPixel_112 : decode cX6_ofPixel 112 = .ok (.ireturn, 1) := by decide +kernel
theorem dX6_ofPixel_113 : decode cX6_ofPixel 113 = .ok (.new 60, 3) := by decide +kernel
theorem dX6_ofPixel_116 : decode cX6_ofPixel 116 = .ok (.dup, 1) := by decide +kernel
theorem dX6_ofPixel_117 : decode cX6_ofPixel 117 = .ok (.ldc 188, 2) := by decide +kernel
theorem dX6_ofPixel_119 : decode cX6_ofPixel 119 = .ok (.invokespecial 64, 3) := by decide +kernel
theorem dX6_ofPixel_122 : decode cX6_ofPixel 122 = .ok (.athrow, 1) := by decide +kernel
theorem dX6_pictured_0 : decode cX6_pictured 0 = .ok (.aload_n 0, 1) := by decide +kernel
theorem dX6_pictured_1 : decode cX6_pictured 1 = .ok (.getfield 44, 3) := by decide +kernel
theorem dX6_pictured_4 : decode cX6_pictured 4 = .ok (.iload_n 1, 1) := by decide +kernel
theorem dX6_pictured_5 : decode cX6_pictured 5 = .ok (.invokevirtual 240, 3) := by decide +kernel
theorem dX6_pictured_8 : decode cX6_pictured 8 = .ok (.ifCond .eq 15, 3) := by decide +kernel
theorem dX6_pictured_11 : decode cX6_pictured 11 = .ok (.aload_n 0, 1) := by decide +kernel
theorem dX6_pictured_12 : decode cX6_pictured 12 = .ok (.getfield 21, 3) := by decide +kernel
theorem dX6_pictured_15 : decode cX6_pictured 15 = .ok (.iload_n 2, 1) := by decide +kernel
theorem dX6_pictured_16 : decode cX6_pictured 16 = .ok (.iload_n 3, 1) := by decide +kernel
theorem dX6_pictured_17 : decode cX6_pictured 17 = .ok (.invokevirtual 77, 3) := by decide +kernel
theorem dX6_pictured_20 : decode cX6_pictured 20 = .ok (.ifCond .ne 13, 3) := by decide +kernel
theorem dX6_pictured_23 : decode cX6_pictured 23 = .ok (.new 81, 3) := by decide +kernel
theorem dX6_pictured_26 : decode cX6_pictured 26 = .ok (.dup, 1) := by decide +kernel
theorem dX6_pictured_27 : decode cX6_pictured 27 = .ok (.ldc 241, 2) := by decide +kernel
theorem dX6_pictured_29 : decode cX6_pictured 29 = .ok (.invokespecial 85, 3) := by decide +kernel
theorem dX6_pictured_32 : decode cX6_pictured 32 = .ok (.athrow, 1) := by decide +kernel
theorem dX6_pictured_33 : decode cX6_pictured 33 = .ok (.aload_n 0, 1) := by decide +kernel
theorem dX6_pictured_34 : decode cX6_pictured 34 = .ok (.getfield 44, 3) := by decide +kernel
theorem dX6_pictured_37 : decode cX6_pictured 37 = .ok (.iload_n 1, 1) := by decide +kernel
theorem dX6_pictured_38 : decode cX6_pictured 38 = .ok (.iload_n 2, 1) := by decide +kernel
theorem dX6_pictured_39 : decode cX6_pictured 39 = .ok (.iload_n 3, 1) := by decide +kernel
theorem dX6_pictured_40 : decode cX6_pictured 40 = .ok (.invokevirtual 243, 3) := by decide +kernel
theorem dX6_pictured_43 : decode cX6_pictured 43 = .ok (.ireturn, 1) := by decide +kernel
theorem dX6_ghosts_0 : decode cX6_ghosts 0 = .ok (.aload_n 0, 1) := by decide +kernel
theorem dX6_ghosts_1 : decode cX6_ghosts 1 = .ok (.getfield 44, 3) := by decide +kernel
theorem dX6_ghosts_4 : decode cX6_ghosts 4 = .ok (.iload_n 1, 1) := by decide +kernel
theorem dX6_ghosts_5 : decode cX6_ghosts 5 = .ok (.invokevirtual 240, 3) := by decide +kernel
theorem dX6_ghosts_8 : decode cX6_ghosts 8 = .ok (.ifCond .ne 13, 3) := by decide +kernel
theorem dX6_ghosts_11 : decode cX6_ghosts 11 = .ok (.new 81, 3) := by decide +kernel
theorem dX6_ghosts_14 : decode cX6_ghosts 14 = .ok (.dup, 1) := by decide +kernel
theorem dX6_ghosts_15 : decode cX6_ghosts 15 = .ok (.ldc 246, 2) := by decide +kernel
theorem dX6_ghosts_17 : decode cX6_ghosts 17 = .ok (.invokespecial 85, 3) := by decide +kernel
theorem dX6_ghosts_20 : decode cX6_ghosts 20 = .ok (.athrow, 1) := by decide +kernel
theorem dX6_ghosts_21 : decode cX6_ghosts 21 = .ok (.aload_n 0, 1) := by decide +kernel
theorem dX6_ghosts_22 : decode cX6_ghosts 22 = .ok (.getfield 44, 3) := by decide +kernel
theorem dX6_ghosts_25 : decode cX6_ghosts 25 = .ok (.iload_n 1, 1) := by decide +kernel
theorem dX6_ghosts_26 : decode cX6_ghosts 26 = .ok (.aload_n 0, 1) := by decide +kernel
theorem dX6_ghosts_27 : decode cX6_ghosts 27 = .ok (.getfield 21, 3) := by decide +kernel
theorem dX6_ghosts_30 : decode cX6_ghosts 30 = .ok (.invokevirtual 248, 3) := by decide +kernel
theorem dX6_ghosts_33 : decode cX6_ghosts 33 = .ok (.ireturn, 1) := by decide +kernel
theorem dX6_guesses_0 : decode cX6_guesses 0 = .ok (.aload_n 0, 1) := by decide +kernel
theorem dX6_guesses_1 : decode cX6_guesses 1 = .ok (.getfield 44, 3) := by decide +kernel
theorem dX6_guesses_4 : decode cX6_guesses 4 = .ok (.iload_n 1, 1) := by decide +kernel
theorem dX6_guesses_5 : decode cX6_guesses 5 = .ok (.invokevirtual 240, 3) := by decide +kernel
theorem dX6_guesses_8 : decode cX6_guesses 8 = .ok (.ifCond .eq 15, 3) := by decide +kernel
theorem dX6_guesses_11 : decode cX6_guesses 11 = .ok (.aload_n 0, 1) := by decide +kernel
theorem dX6_guesses_12 : decode cX6_guesses 12 = .ok (.getfield 21, 3) := by decide +kernel
theorem dX6_guesses_15 : decode cX6_guesses 15 = .ok (.iload_n 2, 1) := by decide +kernel
theorem dX6_guesses_16 : decode cX6_guesses 16 = .ok (.iload_n 3, 1) := by decide +kernel
theorem dX6_guesses_17 : decode cX6_guesses 17 = .ok (.invokevirtual 77, 3) := by decide +kernel
theorem dX6_guesses_20 : decode cX6_guesses 20 = .ok (.ifCond .ne 13, 3) := by decide +kernel
theorem dX6_guesses_23 : decode cX6_guesses 23 = .ok (.new 81, 3) := by decide +kernel
theorem dX6_guesses_26 : decode cX6_guesses 26 = .ok (.dup, 1) := by decide +kernel
theorem dX6_guesses_27 : decode cX6_guesses 27 = .ok (.ldc 241, 2) := by decide +kernel
theorem dX6_guesses_29 : decode cX6_guesses 29 = .ok (.invokespecial 85, 3) := by decide +kernel
theorem dX6_guesses_32 : decode cX6_guesses 32 = .ok (.athrow, 1) := by decide +kernel
theorem dX6_guesses_33 : decode cX6_guesses 33 = .ok (.aload_n 0, 1) := by decide +kernel
theorem dX6_guesses_34 : decode cX6_guesses 34 = .ok (.getfield 44, 3) := by decide +kernel
theorem dX6_guesses_37 : decode cX6_guesses 37 = .ok (.iload_n 1, 1) := by decide +kernel
theorem dX6_guesses_38 : decode cX6_guesses 38 = .ok (.iload_n 2, 1) := by decide +kernel
theorem dX6_guesses_39 : decode cX6_guesses 39 = .ok (.iload_n 3, 1) := by decide +kernel
theorem dX6_guesses_40 : decode cX6_guesses 40 = .ok (.invokevirtual 251, 3) := by decide +kernel
theorem dX6_guesses_43 : decode cX6_guesses 43 = .ok (.ireturn, 1) := by decide +kernel
theorem dX6_beginAnew_0 : decode cX6_beginAnew 0 = .ok (.aload_n 0, 1) := by decide +kernel
theorem dX6_beginAnew_1 : decode cX6_beginAnew 1 = .ok (.getfield 21, 3) := by decide +kernel
theorem dX6_beginAnew_4 : decode cX6_beginAnew 4 = .ok (.iload_n 1, 1) := by decide +kernel
theorem dX6_beginAnew_5 : decode cX6_beginAnew 5 = .ok (.iload_n 2, 1) := by decide +kernel
theorem dX6_beginAnew_6 : decode cX6_beginAnew 6 = .ok (.invokevirtual 254, 3) := by decide +kernel
theorem dX6_beginAnew_9 : decode cX6_beginAnew 9 = .ok (.aload_n 0, 1) := by decide +kernel
theorem dX6_beginAnew_10 : decode cX6_beginAnew 10 = .ok (.getfield 12, 3) := by decide +kernel
theorem dX6_beginAnew_13 : decode cX6_beginAnew 13 = .ok (.iconst 0, 1) := by decide +kernel
theorem dX6_beginAnew_14 : decode cX6_beginAnew 14 = .ok (.putfield 114, 3) := by decide +kernel
theorem dX6_beginAnew_17 : decode cX6_beginAnew 17 = .ok (.aload_n 0, 1) := by decide +kernel
theorem dX6_beginAnew_18 : decode cX6_beginAnew 18 = .ok (.getfield 37, 3) := by decide +kernel
theorem dX6_beginAnew_21 : decode cX6_beginAnew 21 = .ok (.iconst 0, 1) := by decide +kernel
theorem dX6_beginAnew_22 : decode cX6_beginAnew 22 = .ok (.putfield 145, 3) := by decide +kernel
theorem dX6_beginAnew_25 : decode cX6_beginAnew 25 = .ok (.aload_n 0, 1) := by decide +kernel
theorem dX6_beginAnew_26 : decode cX6_beginAnew 26 = .ok (.getfield 44, 3) := by decide +kernel
theorem dX6_beginAnew_29 : decode cX6_beginAnew 29 = .ok (.iconst 0, 1) := by decide +kernel
theorem dX6_beginAnew_30 : decode cX6_beginAnew 30 = .ok (.putfield 169, 3) := by decide +kernel
theorem dX6_beginAnew_33 : decode cX6_beginAnew 33 = .ok (.aload_n 0, 1) := by decide +kernel
theorem dX6_beginAnew_34 : decode cX6_beginAnew 34 = .ok (.iconst 0, 1) := by decide +kernel
theorem dX6_beginAnew_35 : decode cX6_beginAnew 35 = .ok (.putfield 140, 3) := by decide +kernel
theorem dX6_beginAnew_38 : decode cX6_beginAnew 38 = .ok (.aload_n 0, 1) := by decide +kernel
theorem dX6_beginAnew_39 : decode cX6_beginAnew 39 = .ok (.iconst 0, 1) := by decide +kernel
theorem dX6_beginAnew_40 : decode cX6_beginAnew 40 = .ok (.putfield 196, 3) := by decide +kernel
theorem dX6_beginAnew_43 : decode cX6_beginAnew 43 = .ok (.aload_n 0, 1) := by decide +kernel
theorem dX6_beginAnew_44 : decode cX6_beginAnew 44 = .ok (.iconst 0, 1) := by decide +kernel
theorem dX6_beginAnew_45 : decode cX6_beginAnew 45 = .ok (.putfield 155, 3) := by decide +kernel
theorem dX6_beginAnew_48 : decode cX6_beginAnew 48 = .ok (.return_, 1) := by decide +kernel
theorem dX6_worked_0 : decode cX6_worked 0 = .ok (.aload_n 0, 1) := by decide +kernel
theorem dX6_worked_1 : decode cX6_worked 1 = .ok (.dup, 1) := by decide +kernel
theorem dX6_worked_2 : decode cX6_worked 2 = .ok (.getfield 196, 3) := by decide +kernel
theorem dX6_worked_5 : decode cX6_worked 5 = .ok (.iload_n 1, 1) := by decide +kernel
theorem dX6_worked_6 : decode cX6_worked 6 = .ok (.iadd, 1) := by decide +kernel
theorem dX6_worked_7 : decode cX6_worked 7 = .ok (.putfield 196, 3) := by decide +kernel
theorem dX6_worked_10 : decode cX6_worked 10 = .ok (.iload_n 1, 1) := by decide +kernel
theorem dX6_worked_11 : decode cX6_worked 11 = .ok (.ireturn, 1) := by decide +kernel
theorem dX6_noteGreys_0 : decode cX6_noteGreys 0 = .ok (.iconst 0, 1) := by decide +kernel
theorem dX6_noteGreys_1 : decode cX6_noteGreys 1 = .ok (.istore_n 1, 1) := by decide +kernel
theorem dX6_noteGreys_2 : decode cX6_noteGreys 2 = .ok (.iload_n 1, 1) := by decide +kernel
theorem dX6_noteGreys_3 : decode cX6_noteGreys 3 = .ok (.aload_n 0, 1) := by decide +kernel
theorem dX6_noteGreys_4 : decode cX6_noteGreys 4 = .ok (.getfield 12, 3) := by decide +kernel
theorem dX6_noteGreys_7 : decode cX6_noteGreys 7 = .ok (.getfield 114, 3) := by decide +kernel
theorem dX6_noteGreys_10 : decode cX6_noteGreys 10 = .ok (.if_icmp .ge 29, 3) := by decide +kernel
theorem dX6_noteGreys_13 : decode cX6_noteGreys 13 = .ok (.aload_n 0, 1) := by decide +kernel
theorem dX6_noteGreys_14 : decode cX6_noteGreys 14 = .ok (.getfield 12, 3) := by decide +kernel
theorem dX6_noteGreys_17 : decode cX6_noteGreys 17 = .ok (.iload_n 1, 1) := by decide +kernel
theorem dX6_noteGreys_18 : decode cX6_noteGreys 18 = .ok (.aload_n 0, 1) := by decide +kernel
theorem dX6_noteGreys_19 : decode cX6_noteGreys 19 = .ok (.getfield 21, 3) := by decide +kernel
theorem dX6_noteGreys_22 : decode cX6_noteGreys 22 = .ok (.iload_n 1, 1) := by decide +kernel
theorem dX6_noteGreys_23 : decode cX6_noteGreys 23 = .ok (.aload_n 0, 1) := by decide +kernel
theorem dX6_noteGreys_24 : decode cX6_noteGreys 24 = .ok (.getfield 48, 3) := by decide +kernel
theorem dX6_noteGreys_27 : decode cX6_noteGreys 27 = .ok (.invokevirtual 225, 3) := by decide +kernel
theorem dX6_noteGreys_30 : decode cX6_noteGreys 30 = .ok (.invokevirtual 257, 3) := by decide +kernel
theorem dX6_noteGreys_33 : decode cX6_noteGreys 33 = .ok (.iinc 1 1, 3) := by decide +kernel
theorem dX6_noteGreys_36 : decode cX6_noteGreys 36 = .ok (.goto (-34), 3) := by decide +kernel
theorem dX6_noteGreys_39 : decode cX6_noteGreys 39 = .ok (.return_, 1) := by decide +kernel
theorem dX6_isIn_0 : decode cX6_isIn 0 = .ok (.iload_n 0, 1) := by decide +kernel
theorem dX6_isIn_1 : decode cX6_isIn 1 = .ok (.iload_n 1, 1) := by decide +kernel
theorem dX6_isIn_2 : decode cX6_isIn 2 = .ok (.if_icmp .lt 12, 3) := by decide +kernel
theorem dX6_isIn_5 : decode cX6_isIn 5 = .ok (.iload_n 0, 1) := by decide +kernel
theorem dX6_isIn_6 : decode cX6_isIn 6 = .ok (.iload_n 2, 1) := by decide +kernel
theorem dX6_isIn_7 : decode cX6_isIn 7 = .ok (.if_icmp .gt 7, 3) := by decide +kernel
theorem dX6_isIn_10 : decode cX6_isIn 10 = .ok (.iconst 1, 1) := by decide +kernel
theorem dX6_isIn_11 : decode cX6_isIn 11 = .ok (.goto 4, 3) := by decide +kernel
theorem dX6_isIn_14 : decode cX6_isIn 14 = .ok (.iconst 0, 1) := by decide +kernel
theorem dX6_isIn_15 : decode cX6_isIn 15 = .ok (.ireturn, 1) := by decide +kernel
theorem dX6_isDirection_0 : decode cX6_isDirection 0 = .ok (.iload_n 0, 1) := by decide +kernel
theorem dX6_isDirection_1 : decode cX6_isDirection 1 = .ok (.iconst 0, 1) := by decide +kernel
theorem dX6_isDirection_2 : decode cX6_isDirection 2 = .ok (.bipush 14, 2) := by decide +kernel
theorem dX6_isDirection_4 : decode cX6_isDirection 4 = .ok (.invokestatic 56, 3) := by decide +kernel
theorem dX6_isDirection_7 : decode cX6_isDirection 7 = .ok (.ireturn, 1) := by decide +kernel
theorem dX6_onFrom_0 : decode cX6_onFrom 0 = .ok (.iload_n 1, 1) := by decide +kernel
theorem dX6_onFrom_1 : decode cX6_onFrom 1 = .ok (.iload_n 0, 1) := by decide +kernel
theorem dX6_onFrom_2 : decode cX6_onFrom 2 = .ok (.isub, 1) := by decide +kernel
theorem dX6_onFrom_3 : decode cX6_onFrom 3 = .ok (.bipush 7, 2) := by decide +kernel
theorem dX6_onFrom_5 : decode cX6_onFrom 5 = .ok (.iadd, 1) := by decide +kernel
theorem dX6_onFrom_6 : decode cX6_onFrom 6 = .ok (.bipush 15, 2) := by decide +kernel
theorem dX6_onFrom_8 : decode cX6_onFrom 8 = .ok (.iadd, 1) := by decide +kernel
theorem dX6_onFrom_9 : decode cX6_onFrom 9 = .ok (.bipush 15, 2) := by decide +kernel
theorem dX6_onFrom_11 : decode cX6_onFrom 11 = .ok (.irem, 1) := by decide +kernel
theorem dX6_onFrom_12 : decode cX6_onFrom 12 = .ok (.bipush 7, 2) := by decide +kernel
theorem dX6_onFrom_14 : decode cX6_onFrom 14 = .ok (.isub, 1) := by decide +kernel
theorem dX6_onFrom_15 : decode cX6_onFrom 15 = .ok (.ireturn, 1) := by decide +kernel
theorem dX6_squareApart_0 : decode cX6_squareApart 0 = .ok (.iload_n 0, 1) := by decide +kernel
theorem dX6_squareApart_1 : decode cX6_squareApart 1 = .ok (.iload_n 1, 1) := by decide +kernel
theorem dX6_squareApart_2 : decode cX6_squareApart 2 = .ok (.invokestatic 260, 3) := by decide +kernel
theorem dX6_squareApart_5 : decode cX6_squareApart 5 = .ok (.istore_n 2, 1) := by decide +kernel
theorem dX6_squareApart_6 : decode cX6_squareApart 6 = .ok (.iload_n 2, 1) := by decide +kernel
theorem dX6_squareApart_7 : decode cX6_squareApart 7 = .ok (.iload_n 2, 1) := by decide +kernel
theorem dX6_squareApart_8 : decode cX6_squareApart 8 = .ok (.imul, 1) := by decide +kernel
theorem dX6_squareApart_9 : decode cX6_squareApart 9 = .ok (.ireturn, 1) := by decide +kernel
theorem dX6_greyOf_0 : decode cX6_greyOf 0 = .ok (.iload_n 1, 1) := by decide +kernel
theorem dX6_greyOf_1 : decode cX6_greyOf 1 = .ok (.iload_n 0, 1) := by decide +kernel
theorem dX6_greyOf_2 : decode cX6_greyOf 2 = .ok (.invokestatic 260, 3) := by decide +kernel
theorem dX6_greyOf_5 : decode cX6_greyOf 5 = .ok (.invokestatic 263, 3) := by decide +kernel
theorem dX6_greyOf_8 : decode cX6_greyOf 8 = .ok (.istore_n 2, 1) := by decide +kernel
theorem dX6_greyOf_9 : decode cX6_greyOf 9 = .ok (.iload_n 2, 1) := by decide +kernel
theorem dX6_greyOf_10 : decode cX6_greyOf 10 = .ok (.ifCond .lt 19, 3) := by decide +kernel
theorem dX6_greyOf_13 : decode cX6_greyOf 13 = .ok (.iload_n 2, 1) := by decide +kernel
theorem dX6_greyOf_14 : decode cX6_greyOf 14 = .ok (.getstatic 268, 3) := by decide +kernel
theorem dX6_greyOf_17 : decode cX6_greyOf 17 = .ok (.arraylength, 1) := by decide +kernel
theorem dX6_greyOf_18 : decode cX6_greyOf 18 = .ok (.if_icmp .ge 11, 3) := by decide +kernel
theorem dX6_greyOf_21 : decode cX6_greyOf 21 = .ok (.getstatic 268, 3) := by decide +kernel
theorem dX6_greyOf_24 : decode cX6_greyOf 24 = .ok (.iload_n 2, 1) := by decide +kernel
theorem dX6_greyOf_25 : decode cX6_greyOf 25 = .ok (.iaload, 1) := by decide +kernel
theorem dX6_greyOf_26 : decode cX6_greyOf 26 = .ok (.goto 4, 3) := by decide +kernel
theorem dX6_greyOf_29 : decode cX6_greyOf 29 = .ok (.iconst 0, 1) := by decide +kernel
theorem dX6_greyOf_30 : decode cX6_greyOf 30 = .ok (.ireturn, 1) := by decide +kernel
theorem dX6_numberOf_0 : decode cX6_numberOf 0 = .ok (.iload_n 1, 1) := by decide +kernel
theorem dX6_numberOf_1 : decode cX6_numberOf 1 = .ok (.bipush 12, 2) := by decide +kernel
theorem dX6_numberOf_3 : decode cX6_numberOf 3 = .ok (.imul, 1) := by decide +kernel
theorem dX6_numberOf_4 : decode cX6_numberOf 4 = .ok (.iload_n 0, 1) := by decide +kernel
theorem dX6_numberOf_5 : decode cX6_numberOf 5 = .ok (.iadd, 1) := by decide +kernel
theorem dX6_numberOf_6 : decode cX6_numberOf 6 = .ok (.ireturn, 1) := by decide +kernel
end
section
theorem dX7_init_0 : decode cX7_init 0 = .ok (.aload_n 0, 1) := by decide +kernel
theorem dX7_init_1 : decode cX7_init 1 = .ok (.invokespecial 1, 3) := by decide +kernel
theorem dX7_init_4 : decode cX7_init 4 = .ok (.aload_n 0, 1) := by decide +kernel
theorem dX7_init_5 : decode cX7_init 5 = .ok (.iconst 4, 1) := by decide +kernel
theorem dX7_init_6 : decode cX7_init 6 = .ok (.putfield 7, 3) := by decide +kernel
theorem dX7_init_9 : decode cX7_init 9 = .ok (.aload_n 0, 1) := by decide +kernel
theorem dX7_init_10 : decode cX7_init 10 = .ok (.iconst 4, 1) := by decide +kernel
theorem dX7_init_11 : decode cX7_init 11 = .ok (.putfield 13, 3) := by decide +kernel
theorem dX7_init_14 : decode cX7_init 14 = .ok (.aload_n 0, 1) := by decide +kernel
theorem dX7_init_15 : decode cX7_init 15 = .ok (.iconst 1, 1) := by decide +kernel
theorem dX7_init_16 : decode cX7_init 16 = .ok (.putfield 16, 3) := by decide +kernel
theorem dX7_init_19 : decode cX7_init 19 = .ok (.aload_n 0, 1) := by decide +kernel
theorem dX7_init_20 : decode cX7_init 20 = .ok (.iconst 1, 1) := by decide +kernel
theorem dX7_init_21 : decode cX7_init 21 = .ok (.putfield 19, 3) := by decide +kernel
theorem dX7_init_24 : decode cX7_init 24 = .ok (.aload_n 0, 1) := by decide +kernel
theorem dX7_init_25 : decode cX7_init 25 = .ok (.sipush 144, 3) := by decide +kernel
theorem dX7_init_28 : decode cX7_init 28 = .ok (.newarray .int, 2) := by decide +kernel
theorem dX7_init_30 : decode cX7_init 30 = .ok (.putfield 22, 3) := by decide +kernel
theorem dX7_init_33 : decode cX7_init 33 = .ok (.aload_n 0, 1) := by decide +kernel
theorem dX7_init_34 : decode cX7_init 34 = .ok (.sipush 144, 3) := by decide +kernel
theorem dX7_init_37 : decode cX7_init 37 = .ok (.newarray .int, 2) := by decide +kernel
theorem dX7_init_39 : decode cX7_init 39 = .ok (.putfield 26, 3) := by decide +kernel
theorem dX7_init_42 : decode cX7_init 42 = .ok (.aload_n 0, 1) := by decide +kernel
theorem dX7_init_43 : decode cX7_init 43 = .ok (.sipush 144, 3) := by decide +kernel
theorem dX7_init_46 : decode cX7_init 46 = .ok (.newarray .int, 2) := by decide +kernel
theorem dX7_init_48 : decode cX7_init 48 = .ok (.putfield 29, 3) := by decide +kernel
theorem dX7_init_51 : decode cX7_init 51 = .ok (.aload_n 0, 1) := by decide +kernel
theorem dX7_init_52 : decode cX7_init 52 = .ok (.sipush 144, 3) := by decide +kernel
theorem dX7_init_55 : decode cX7_init 55 = .ok (.newarray .int, 2) := by decide +kernel
theorem dX7_init_57 : decode cX7_init 57 = .ok (.putfield 32, 3) := by decide +kernel
theorem dX7_init_60 : decode cX7_init 60 = .ok (.aload_n 0, 1) := by decide +kernel
theorem dX7_init_61 : decode cX7_init 61 = .ok (.sipush 144, 3) := by decide +kernel
theorem dX7_init_64 : decode cX7_init 64 = .ok (.newarray .int, 2) := by decide +kernel
theorem dX7_init_66 : decode cX7_init 66 = .ok (.putfield 35, 3) := by decide +kernel
theorem dX7_init_69 : decode cX7_init 69 = .ok (.aload_n 0, 1) := by decide +kernel
theorem dX7_init_70 : decode cX7_init 70 = .ok (.bipush 8, 2) := by decide +kernel
theorem dX7_init_72 : decode cX7_init 72 = .ok (.newarray .int, 2) := by decide +kernel
theorem dX7_init_74 : decode cX7_init 74 = .ok (.putfield 38, 3) := by decide +kernel
theorem dX7_init_77 : decode cX7_init 77 = .ok (.aload_n 0, 1) := by decide +kernel
theorem dX7_init_78 : decode cX7_init 78 = .ok (.bipush 8, 2) := by decide +kernel
theorem dX7_init_80 : decode cX7_init 80 = .ok (.newarray .int, 2) := by decide +kernel
theorem dX7_init_82 : decode cX7_init 82 = .ok (.putfield 41, 3) := by decide +kernel
theorem dX7_init_85 : decode cX7_init 85 = .ok (.aload_n 0, 1) := by decide +kernel
theorem dX7_init_86 : decode cX7_init 86 = .ok (.bipush 64, 2) := by decide +kernel
theorem dX7_init_88 : decode cX7_init 88 = .ok (.newarray .int, 2) := by decide +kernel
theorem dX7_init_90 : decode cX7_init 90 = .ok (.putfield 44, 3) := by decide +kernel
theorem dX7_init_93 : decode cX7_init 93 = .ok (.aload_n 0, 1) := by decide +kernel
theorem dX7_init_94 : decode cX7_init 94 = .ok (.bipush 8, 2) := by decide +kernel
theorem dX7_init_96 : decode cX7_init 96 = .ok (.newarray .int, 2) := by decide +kernel
theorem dX7_init_98 : decode cX7_init 98 = .ok (.putfield 47, 3) := by decide +kernel
theorem dX7_init_101 : decode cX7_init 101 = .ok (.aload_n 0, 1) := by decide +kernel
theorem dX7_init_102 : decode cX7_init 102 = .ok (.bipush 40, 2) := by decide +kernel
theorem dX7_init_104 : decode cX7_init 104 = .ok (.newarray .int, 2) := by decide +kernel
theorem dX7_init_106 : decode cX7_init 106 = .ok (.putfield 50, 3) := by decide +kernel
theorem dX7_init_109 : decode cX7_init 109 = .ok (.aload_n 0, 1) := by decide +kernel
theorem dX7_init_110 : decode cX7_init 110 = .ok (.bipush 40, 2) := by decide +kernel
theorem dX7_init_112 : decode cX7_init 112 = .ok (.newarray .int, 2) := by decide +kernel
theorem dX7_init_114 : decode cX7_init 114 = .ok (.putfield 53, 3) := by decide +kernel
theorem dX7_init_117 : decode cX7_init 117 = .ok (.aload_n 0, 1) := by decide +kernel
theorem dX7_init_118 : decode cX7_init 118 = .ok (.bipush 40, 2) := by decide +kernel
theorem dX7_init_120 : decode cX7_init 120 = .ok (.newarray .int, 2) := by decide +kernel
theorem dX7_init_122 : decode cX7_init 122 = .ok (.putfield 56, 3) := by decide +kernel
theorem dX7_init_125 : decode cX7_init 125 = .ok (.aload_n 0, 1) := by decide +kernel
theorem dX7_init_126 : decode cX7_init 126 = .ok (.bipush 40, 2) := by decide +kernel
theorem dX7_init_128 : decode cX7_init 128 = .ok (.newarray .int, 2) := by decide +kernel
theorem dX7_init_130 : decode cX7_init 130 = .ok (.putfield 59, 3) := by decide +kernel
theorem dX7_init_133 : decode cX7_init 133 = .ok (.aload_n 0, 1) := by decide +kernel
theorem dX7_init_134 : decode cX7_init 134 = .ok (.bipush 10, 2) := by decide +kernel
theorem dX7_init_136 : decode cX7_init 136 = .ok (.newarray .int, 2) := by decide +kernel
theorem dX7_init_138 : decode cX7_init 138 = .ok (.putfield 62, 3) := by decide +kernel
theorem dX7_init_141 : decode cX7_init 141 = .ok (.aload_n 0, 1) := by decide +kernel
theorem dX7_init_142 : decode cX7_init 142 = .ok (.sipush 1440, 3) := by decide +kernel
theorem dX7_init_145 : decode cX7_init 145 = .ok (.newarray .int, 2) := by decide +kernel
theorem dX7_init_147 : decode cX7_init 147 = .ok (.putfield 65, 3) := by decide +kernel
theorem dX7_init_150 : decode cX7_init 150 = .ok (.aload_n 0, 1) := by decide +kernel
theorem dX7_init_151 : decode cX7_init 151 = .ok (.invokevirtual 68, 3) := by decide +kernel
theorem dX7_init_154 : decode cX7_init 154 = .ok (.return_, 1) := by decide +kernel
theorem dX7_begin_0 : decode cX7_begin 0 = .ok (.iconst 0, 1) := by decide +kernel
theorem dX7_begin_1 : decode cX7_begin 1 = .ok (.istore_n 1, 1) := by decide +kernel
theorem dX7_begin_2 : decode cX7_begin 2 = .ok (.iload_n 1, 1) := by decide +kernel
theorem dX7_begin_3 : decode cX7_begin 3 = .ok (.sipush 144, 3) := by decide +kernel
theorem dX7_begin_6 : decode cX7_begin 6 = .ok (.if_icmp .ge 30, 3) := by decide +kernel
theorem dX7_begin_9 : decode cX7_begin 9 = .ok (.aload_n 0, 1) := by decide +kernel
theorem dX7_begin_10 : decode cX7_begin 10 = .ok (.getfield 22, 3) := by decide +kernel
theorem dX7_begin_13 : decode cX7_begin 13 = .ok (.iload_n 1, 1) := by decide +kernel
theorem dX7_begin_14 : decode cX7_begin 14 = .ok (.iconst 0, 1) := by decide +kernel
theorem dX7_begin_15 : decode cX7_begin 15 = .ok (.iastore, 1) := by decide +kernel
theorem dX7_begin_16 : decode cX7_begin 16 = .ok (.aload_n 0, 1) := by decide +kernel
theorem dX7_begin_17 : decode cX7_begin 17 = .ok (.getfield 26, 3) := by decide +kernel
theorem dX7_begin_20 : decode cX7_begin 20 = .ok (.iload_n 1, 1) := by decide +kernel
theorem dX7_begin_21 : decode cX7_begin 21 = .ok (.iconst 0, 1) := by decide +kernel
theorem dX7_begin_22 : decode cX7_begin 22 = .ok (.iastore, 1) := by decide +kernel
theorem dX7_begin_23 : decode cX7_begin 23 = .ok (.aload_n 0, 1) := by decide +kernel
theorem dX7_begin_24 : decode cX7_begin 24 = .ok (.getfield 35, 3) := by decide +kernel
theorem dX7_begin_27 : decode cX7_begin 27 = .ok (.iload_n 1, 1) := by decide +kernel
theorem dX7_begin_28 : decode cX7_begin 28 = .ok (.iconst (-1), 1) := by decide +kernel
theorem dX7_begin_29 : decode cX7_begin 29 = .ok (.iastore, 1) := by decide +kernel
theorem dX7_begin_30 : decode cX7_begin 30 = .ok (.iinc 1 1, 3) := by decide +kernel
theorem dX7_begin_33 : decode cX7_begin 33 = .ok (.goto (-31), 3) := by decide +kernel
theorem dX7_begin_36 : decode cX7_begin 36 = .ok (.aload_n 0, 1) := by decide +kernel
theorem dX7_begin_37 : decode cX7_begin 37 = .ok (.iconst 0, 1) := by decide +kernel
theorem dX7_begin_38 : decode cX7_begin 38 = .ok (.putfield 71, 3) := by decide +kernel
theorem dX7_begin_41 : decode cX7_begin 41 = .ok (.aload_n 0, 1) := by decide +kernel
theorem dX7_begin_42 : decode cX7_begin 42 = .ok (.iconst 0, 1) := by decide +kernel
theorem dX7_begin_43 : decode cX7_begin 43 = .ok (.putfield 74, 3) := by decide +kernel
theorem dX7_begin_46 : decode cX7_begin 46 = .ok (.aload_n 0, 1) := by decide +kernel
theorem dX7_begin_47 : decode cX7_begin 47 = .ok (.iconst 0, 1) := by decide +kernel
theorem dX7_begin_48 : decode cX7_begin 48 = .ok (.putfield 77, 3) := by decide +kernel
theorem dX7_begin_51 : decode cX7_begin 51 = .ok (.aload_n 0, 1) := by decide +kernel
theorem dX7_begin_52 : decode cX7_begin 52 = .ok (.iconst 0, 1) := by decide +kernel
theorem dX7_begin_53 : decode cX7_begin 53 = .ok (.putfield 80, 3) := by decide +kernel
theorem dX7_begin_56 : decode cX7_begin 56 = .ok (.aload_n 0, 1) := by decide +kernel
theorem dX7_begin_57 : decode cX7_begin 57 = .ok (.iconst 0, 1) := by decide +kernel
theorem dX7_begin_58 : decode cX7_begin 58 = .ok (.putfield 83, 3) := by decide +kernel
theorem dX7_begin_61 : decode cX7_begin 61 = .ok (.aload_n 0, 1) := by decide +kernel
theorem dX7_begin_62 : decode cX7_begin 62 = .ok (.iconst 0, 1) := by decide +kernel
theorem dX7_begin_63 : decode cX7_begin 63 = .ok (.putfield 86, 3) := by decide +kernel
theorem dX7_begin_66 : decode cX7_begin 66 = .ok (.return_, 1) := by decide +kernel
theorem dX7_thrown_0 : decode cX7_thrown 0 = .ok (.aload_n 0, 1) := by decide +kernel
theorem dX7_thrown_1 : decode cX7_thrown 1 = .ok (.getfield 89, 3) := by decide +kernel
theorem dX7_thrown_4 : decode cX7_thrown 4 = .ok (.ireturn, 1) := by decide +kernel
theorem dX7_stop_0 : decode cX7_stop 0 = .ok (.aload_n 0, 1) := by decide +kernel
theorem dX7_stop_1 : decode cX7_stop 1 = .ok (.iload_n 1, 1) := by decide +kernel
theorem dX7_stop_2 : decode cX7_stop 2 = .ok (.putfield 89, 3) := by decide +kernel
theorem dX7_stop_5 : decode cX7_stop 5 = .ok (.iconst 0, 1) := by decide +kernel
theorem dX7_stop_6 : decode cX7_stop 6 = .ok (.ireturn, 1) := by decide +kernel
theorem dX7_in_0 : decode cX7_in 0 = .ok (.iload_n 0, 1) := by decide +kernel
theorem dX7_in_1 : decode cX7_in 1 = .ok (.iload_n 1, 1) := by decide +kernel
theorem dX7_in_2 : decode cX7_in 2 = .ok (.if_icmp .lt 12, 3) := by decide +kernel
theorem dX7_in_5 : decode cX7_in 5 = .ok (.iload_n 0, 1) := by decide +kernel
theorem dX7_in_6 : decode cX7_in 6 = .ok (.iload_n 2, 1) := by decide +kernel
theorem dX7_in_7 : decode cX7_in 7 = .ok (.if_icmp .gt 7, 3) := by decide +kernel
theorem dX7_in_10 : decode cX7_in 10 = .ok (.iconst 1, 1) := by decide +kernel
theorem dX7_in_11 : decode cX7_in 11 = .ok (.goto 4, 3) := by decide +kernel
theorem dX7_in_14 : decode cX7_in 14 = .ok (.iconst 0, 1) := by decide +kernel
theorem dX7_in_15 : decode cX7_in 15 = .ok (.ireturn, 1) := by decide +kernel
theorem dX7_isCell_0 : decode cX7_isCell 0 = .ok (.iload_n 1, 1) := by decide +kernel
theorem dX7_isCell_1 : decode cX7_isCell 1 = .ok (.iconst 0, 1) := by decide +kernel
theorem dX7_isCell_2 : decode cX7_isCell 2 = .ok (.aload_n 0, 1) := by decide +kernel
theorem dX7_isCell_3 : decode cX7_isCell 3 = .ok (.getfield 7, 3) := by decide +kernel
theorem dX7_isCell_6 : decode cX7_isCell 6 = .ok (.iconst 1, 1) := by decide +kernel
theorem dX7_isCell_7 : decode cX7_isCell 7 = .ok (.isub, 1) := by decide +kernel
theorem dX7_isCell_8 : decode cX7_isCell 8 = .ok (.invokestatic 92, 3) := by decide +kernel
theorem dX7_isCell_11 : decode cX7_isCell 11 = .ok (.ifCond .eq 21, 3) := by decide +kernel
theorem dX7_isCell_14 : decode cX7_isCell 14 = .ok (.iload_n 2, 1) := by decide +kernel
theorem dX7_isCell_15 : decode cX7_isCell 15 = .ok (.iconst 0, 1) := by decide +kernel
theorem dX7_isCell_16 : decode cX7_isCell 16 = .ok (.aload_n 0, 1) := by decide +kernel
theorem dX7_isCell_17 : decode cX7_isCell 17 = .ok (.getfield 13, 3) := by decide +kernel
theorem dX7_isCell_20 : decode cX7_isCell 20 = .ok (.iconst 1, 1) := by decide +kernel
theorem dX7_isCell_21 : decode cX7_isCell 21 = .ok (.isub, 1) := by decide +kernel
theorem dX7_isCell_22 : decode cX7_isCell 22 = .ok (.invokestatic 92, 3) := by decide +kernel
theorem dX7_isCell_25 : decode cX7_isCell 25 = .ok (.ifCond .eq 7, 3) := by decide +kernel
theorem dX7_isCell_28 : decode cX7_isCell 28 = .ok (.iconst 1, 1) := by decide +kernel
theorem dX7_isCell_29 : decode cX7_isCell 29 = .ok (.goto 4, 3) := by decide +kernel
theorem dX7_isCell_32 : decode cX7_isCell 32 = .ok (.iconst 0, 1) := by decide +kernel
theorem dX7_isCell_33 : decode cX7_isCell 33 = .ok (.ireturn, 1) := by decide +kernel
theorem dX7_cell_0 : decode cX7_cell 0 = .ok (.bipush 12, 2) := by decide +kernel
theorem dX7_cell_2 : decode cX7_cell 2 = .ok (.iload_n 1, 1) := by decide +kernel
theorem dX7_cell_3 : decode cX7_cell 3 = .ok (.imul, 1) := by decide +kernel
theorem dX7_cell_4 : decode cX7_cell 4 = .ok (.iload_n 0, 1) := by decide +kernel
theorem dX7_cell_5 : decode cX7_cell 5 = .ok (.iadd, 1) := by decide +kernel
theorem dX7_cell_6 : decode cX7_cell 6 = .ok (.ireturn, 1) := by decide +kernel
theorem dX7_on_0 : decode cX7_on 0 = .ok (.iload_n 1, 1) := by decide +kernel
theorem dX7_on_1 : decode cX7_on 1 = .ok (.iload_n 0, 1) := by decide +kernel
theorem dX7_on_2 : decode cX7_on 2 = .ok (.isub, 1) := by decide +kernel
theorem dX7_on_3 : decode cX7_on 3 = .ok (.bipush 15, 2) := by decide +kernel
theorem dX7_on_5 : decode cX7_on 5 = .ok (.iadd, 1) := by decide +kernel
theorem dX7_on_6 : decode cX7_on 6 = .ok (.bipush 7, 2) := by decide +kernel
theorem dX7_on_8 : decode cX7_on 8 = .ok (.iadd, 1) := by decide +kernel
theorem dX7_on_9 : decode cX7_on 9 = .ok (.bipush 15, 2) := by decide +kernel
theorem dX7_on_11 : decode cX7_on 11 = .ok (.irem, 1) := by decide +kernel
theorem dX7_on_12 : decode cX7_on 12 = .ok (.bipush 7, 2) := by decide +kernel
theorem dX7_on_14 : decode cX7_on 14 = .ok (.isub, 1) := by decide +kernel
theorem dX7_on_15 : decode cX7_on 15 = .ok (.ireturn, 1) := by decide +kernel
theorem dX7_apart_0 : decode cX7_apart 0 = .ok (.iload_n 0, 1) := by decide +kernel
theorem dX7_apart_1 : decode cX7_apart 1 = .ok (.iload_n 1, 1) := by decide +kernel
theorem dX7_apart_2 : decode cX7_apart 2 = .ok (.invokestatic 96, 3) := by decide +kernel
theorem dX7_apart_5 : decode cX7_apart 5 = .ok (.istore_n 2, 1) := by decide +kernel
theorem dX7_apart_6 : decode cX7_apart 6 = .ok (.iload_n 2, 1) := by decide +kernel
theorem dX7_apart_7 : decode cX7_apart 7 = .ok (.ifCond .ge 8, 3) := by decide +kernel
theorem dX7_apart_10 : decode cX7_apart 10 = .ok (.iload_n 2, 1) := by decide +kernel
theorem dX7_apart_11 : decode cX7_apart 11 = .ok (.ineg, 1) := by decide +kernel
theorem dX7_apart_12 : decode cX7_apart 12 = .ok (.goto 4, 3) := by decide +kernel
theorem dX7_apart_15 : decode cX7_apart 15 = .ok (.iload_n 2, 1) := by decide +kernel
theorem dX7_apart_16 : decode cX7_apart 16 = .ok (.ireturn, 1) := by decide +kernel
theorem dX7_square_0 : decode cX7_square 0 = .ok (.iload_n 0, 1) := by decide +kernel
theorem dX7_square_1 : decode cX7_square 1 = .ok (.iload_n 1, 1) := by decide +kernel
theorem dX7_square_2 : decode cX7_square 2 = .ok (.invokestatic 96, 3) := by decide +kernel
theorem dX7_square_5 : decode cX7_square 5 = .ok (.istore_n 2, 1) := by decide +kernel
theorem dX7_square_6 : decode cX7_square 6 = .ok (.iload_n 2, 1) := by decide +kernel
theorem dX7_square_7 : decode cX7_square 7 = .ok (.iload_n 2, 1) := by decide +kernel
theorem dX7_square_8 : decode cX7_square 8 = .ok (.imul, 1) := by decide +kernel
theorem dX7_square_9 : decode cX7_square 9 = .ok (.ireturn, 1) := by decide +kernel
theorem dX7_own_0 : decode cX7_own 0 = .ok (.iload_n 1, 1) := by decide +kernel
theorem dX7_own_1 : decode cX7_own 1 = .ok (.iload_n 2, 1) := by decide +kernel
theorem dX7_own_2 : decode cX7_own 2 = .ok (.invokestatic 100, 3) := by decide +kernel
theorem dX7_own_5 : decode cX7_own 5 = .ok (.istore 4, 2) := by decide +kernel
theorem dX7_own_7 : decode cX7_own 7 = .ok (.aload_n 0, 1) := by decide +kernel
theorem dX7_own_8 : decode cX7_own 8 = .ok (.getfield 26, 3) := by decide +kernel
theorem dX7_own_11 : decode cX7_own 11 = .ok (.iload 4, 2) := by decide +kernel
theorem dX7_own_13 : decode cX7_own 13 = .ok (.iaload, 1) := by decide +kernel
theorem dX7_own_14 : decode cX7_own 14 = .ok (.iconst 2, 1) := by decide +kernel
theorem dX7_own_15 : decode cX7_own 15 = .ok (.if_icmp .ne 25, 3) := by decide +kernel
theorem dX7_own_18 : decode cX7_own 18 = .ok (.aload_n 0, 1) := by decide +kernel
theorem dX7_own_19 : decode cX7_own 19 = .ok (.getfield 32, 3) := by decide +kernel
theorem dX7_own_22 : decode cX7_own 22 = .ok (.iload 4, 2) := by decide +kernel
theorem dX7_own_24 : decode cX7_own 24 = .ok (.iaload, 1) := by decide +kernel
theorem dX7_own_25 : decode cX7_own 25 = .ok (.iload_n 3, 1) := by decide +kernel
theorem dX7_own_26 : decode cX7_own 26 = .ok (.aload_n 0, 1) := by decide +kernel
theorem dX7_own_27 : decode cX7_own 27 = .ok (.getfield 29, 3) := by decide +kernel
theorem dX7_own_30 : decode cX7_own 30 = .ok (.iload 4, 2) := by decide +kernel
theorem dX7_own_32 : decode cX7_own 32 = .ok (.iaload, 1) := by decide +kernel
theorem dX7_own_33 : decode cX7_own 33 = .ok (.invokestatic 103, 3) := by decide +kernel
theorem dX7_own_36 : decode cX7_own 36 = .ok (.imul, 1) := by decide +kernel
theorem dX7_own_37 : decode cX7_own 37 = .ok (.goto 4, 3) := by decide +kernel
theorem dX7_own_40 : decode cX7_own 40 = .ok (.iconst 0, 1) := by decide +kernel
theorem dX7_own_41 : decode cX7_own 41 = .ok (.istore 5, 2) := by decide +kernel
theorem dX7_own_43 : decode cX7_own 43 = .ok (.aload_n 0, 1) := by decide +kernel
theorem dX7_own_44 : decode cX7_own 44 = .ok (.getfield 35, 3) := by decide +kernel
theorem dX7_own_47 : decode cX7_own 47 = .ok (.iload 4, 2) := by decide +kernel
theorem dX7_own_49 : decode cX7_own 49 = .ok (.iaload, 1) := by decide +kernel
theorem dX7_own_50 : decode cX7_own 50 = .ok (.istore 6, 2) := by decide +kernel
theorem dX7_own_52 : decode cX7_own 52 = .ok (.iload 6, 2) := by decide +kernel
theorem dX7_own_54 : decode cX7_own 54 = .ok (.iconst (-1), 1) := by decide +kernel
theorem dX7_own_55 : decode cX7_own 55 = .ok (.if_icmp .ne 8, 3) := by decide +kernel
theorem dX7_own_58 : decode cX7_own 58 = .ok (.iload 5, 2) := by decide +kernel
theorem dX7_own_60 : decode cX7_own 60 = .ok (.goto 25, 3) := by decide +kernel
theorem dX7_own_63 : decode cX7_own 63 = .ok (.iload 5, 2) := by decide +kernel
theorem dX7_own_65 : decode cX7_own 65 = .ok (.aload_n 0, 1) := by decide +kernel
theorem dX7_own_66 : decode cX7_own 66 = .ok (.getfield 41, 3) := by decide +kernel
theorem dX7_own_69 : decode cX7_own 69 = .ok (.iload 6, 2) := by decide +kernel
theorem dX7_own_71 : decode cX7_own 71 = .ok (.iaload, 1) := by decide +kernel
theorem dX7_own_72 : decode cX7_own 72 = .ok (.iload_n 3, 1) := by decide +kernel
theorem dX7_own_73 : decode cX7_own 73 = .ok (.aload_n 0, 1) := by decide +kernel
theorem dX7_own_74 : decode cX7_own 74 = .ok (.getfield 38, 3) := by decide +kernel
theorem dX7_own_77 : decode cX7_own 77 = .ok (.iload 6, 2) := by decide +kernel
theorem dX7_own_79 : decode cX7_own 79 = .ok (.iaload, 1) := by decide +kernel
theorem dX7_own_80 : decode cX7_own 80 = .ok (.invokestatic 103, 3) := by decide +kernel
theorem dX7_own_83 : decode cX7_own 83 = .ok (.imul, 1) := by decide +kernel
theorem dX7_own_84 : decode cX7_own 84 = .ok (.iadd, 1) := by decide +kernel
theorem dX7_own_85 : decode cX7_own 85 = .ok (.ireturn, 1) := by decide +kernel
theorem dX7_pair_0 : decode cX7_pair 0 = .ok (.aload_n 0, 1) := by decide +kernel
theorem dX7_pair_1 : decode cX7_pair 1 = .ok (.iload_n 1, 1) := by decide +kernel
theorem dX7_pair_2 : decode cX7_pair 2 = .ok (.iload 4, 2) := by decide +kernel
theorem dX7_pair_4 : decode cX7_pair 4 = .ok (.iadd, 1) := by decide +kernel
theorem dX7_pair_5 : decode cX7_pair 5 = .ok (.iload_n 2, 1) := by decide +kernel
theorem dX7_pair_6 : decode cX7_pair 6 = .ok (.iload 5, 2) := by decide +kernel
theorem dX7_pair_8 : decode cX7_pair 8 = .ok (.iadd, 1) := by decide +kernel
theorem dX7_pair_9 : decode cX7_pair 9 = .ok (.invokevirtual 106, 3) := by decide +kernel
theorem dX7_pair_12 : decode cX7_pair 12 = .ok (.ifCond .ne 5, 3) := by decide +kernel
theorem dX7_pair_15 : decode cX7_pair 15 = .ok (.iconst 0, 1) := by decide +kernel
theorem dX7_pair_16 : decode cX7_pair 16 = .ok (.ireturn, 1) := by decide +kernel
theorem dX7_pair_17 : decode cX7_pair 17 = .ok (.iload 4, 2) := by decide +kernel
theorem dX7_pair_19 : decode cX7_pair 19 = .ok (.ifCond .eq 10, 3) := by decide +kernel
theorem dX7_pair_22 : decode cX7_pair 22 = .ok (.aload_n 0, 1) := by decide +kernel
theorem dX7_pair_23 : decode cX7_pair 23 = .ok (.getfield 16, 3) := by decide +kernel
theorem dX7_pair_26 : decode cX7_pair 26 = .ok (.goto 7, 3) := by decide +kernel
theorem dX7_pair_29 : decode cX7_pair 29 = .ok (.aload_n 0, 1) := by decide +kernel
theorem dX7_pair_30 : decode cX7_pair 30 = .ok (.getfield 19, 3) := by decide +kernel
theorem dX7_pair_33 : decode cX7_pair 33 = .ok (.iload_n 3, 1) := by decide +kernel
theorem dX7_pair_34 : decode cX7_pair 34 = .ok (.aload_n 0, 1) := by decide +kernel
theorem dX7_pair_35 : decode cX7_pair 35 = .ok (.getfield 22, 3) := by decide +kernel
theorem dX7_pair_38 : decode cX7_pair 38 = .ok (.iload_n 1, 1) := by decide +kernel
theorem dX7_pair_39 : decode cX7_pair 39 = .ok (.iload 4, 2) := by decide +kernel
theorem dX7_pair_41 : decode cX7_pair 41 = .ok (.iadd, 1) := by decide +kernel
theorem dX7_pair_42 : decode cX7_pair 42 = .ok (.iload_n 2, 1) := by decide +kernel
theorem dX7_pair_43 : decode cX7_pair 43 = .ok (.iload 5, 2) := by decide +kernel
theorem dX7_pair_45 : decode cX7_pair 45 = .ok (.iadd, 1) := by decide +kernel
theorem dX7_pair_46 : decode cX7_pair 46 = .ok (.invokestatic 100, 3) := by decide +kernel
theorem dX7_pair_49 : decode cX7_pair 49 = .ok (.iaload, 1) := by decide +kernel
theorem dX7_pair_50 : decode cX7_pair 50 = .ok (.invokestatic 103, 3) := by decide +kernel
theorem dX7_pair_53 : decode cX7_pair 53 = .ok (.imul, 1) := by decide +kernel
theorem dX7_pair_54 : decode cX7_pair 54 = .ok (.ireturn, 1) := by decide +kernel
theorem dX7_withAll_0 : decode cX7_withAll 0 = .ok (.aload_n 0, 1) := by decide +kernel
theorem dX7_withAll_1 : decode cX7_withAll 1 = .ok (.iload_n 1, 1) := by decide +kernel
theorem dX7_withAll_2 : decode cX7_withAll 2 = .ok (.iload_n 2, 1) := by decide +kernel
theorem dX7_withAll_3 : decode cX7_withAll 3 = .ok (.iload_n 3, 1) := by decide +kernel
theorem dX7_withAll_4 : decode cX7_withAll 4 = .ok (.invokevirtual 110, 3) := by decide +kernel
theorem dX7_withAll_7 : decode cX7_withAll 7 = .ok (.aload_n 0, 1) := by decide +kernel
theorem dX7_withAll_8 : decode cX7_withAll 8 = .ok (.iload_n 1, 1) := by decide +kernel
theorem dX7_withAll_9 : decode cX7_withAll 9 = .ok (.iload_n 2, 1) := by decide +kernel
theorem dX7_withAll_10 : decode cX7_withAll 10 = .ok (.iload_n 3, 1) := by decide +kernel
theorem dX7_withAll_11 : decode cX7_withAll 11 = .ok (.iconst 1, 1) := by decide +kernel
theorem dX7_withAll_12 : decode cX7_withAll 12 = .ok (.iconst 0, 1) := by decide +kernel
theorem dX7_withAll_13 : decode cX7_withAll 13 = .ok (.invokevirtual 114, 3) := by decide +kernel
theorem dX7_withAll_16 : decode cX7_withAll 16 = .ok (.iadd, 1) := by decide +kernel
theorem dX7_withAll_17 : decode cX7_withAll 17 = .ok (.aload_n 0, 1) := by decide +kernel
theorem dX7_withAll_18 : decode cX7_withAll 18 = .ok (.iload_n 1, 1) := by decide +kernel
theorem dX7_withAll_19 : decode cX7_withAll 19 = .ok (.iload_n 2, 1) := by decide +kernel
theorem dX7_withAll_20 : decode cX7_withAll 20 = .ok (.iload_n 3, 1) := by decide +kernel
theorem dX7_withAll_21 : decode cX7_withAll 21 = .ok (.iconst (-1), 1) := by decide +kernel
theorem dX7_withAll_22 : decode cX7_withAll 22 = .ok (.iconst 0, 1) := by decide +kernel
theorem dX7_withAll_23 : decode cX7_withAll 23 = .ok (.invokevirtual 114, 3) := by decide +kernel
theorem dX7_withAll_26 : decode cX7_withAll 26 = .ok (.iadd, 1) := by decide +kernel
theorem dX7_withAll_27 : decode cX7_withAll 27 = .ok (.aload_n 0, 1) := by decide +kernel
theorem dX7_withAll_28 : decode cX7_withAll 28 = .ok (.iload_n 1, 1) := by decide +kernel
theorem dX7_withAll_29 : decode cX7_withAll 29 = .ok (.iload_n 2, 1) := by decide +kernel
theorem dX7_withAll_30 : decode cX7_withAll 30 = .ok (.iload_n 3, 1) := by decide +kernel
theorem dX7_withAll_31 : decode cX7_withAll 31 = .ok (.iconst 0, 1) := by decide +kernel
theorem dX7_withAll_32 : decode cX7_withAll 32 = .ok (.iconst 1, 1) := by decide +kernel
theorem dX7_withAll_33 : decode cX7_withAll 33 = .ok (.invokevirtual 114, 3) := by decide +kernel
theorem dX7_withAll_36 : decode cX7_withAll 36 = .ok (.iadd, 1) := by decide +kernel
theorem dX7_withAll_37 : decode cX7_withAll 37 = .ok (.aload_n 0, 1) := by decide +kernel
theorem dX7_withAll_38 : decode cX7_withAll 38 = .ok (.iload_n 1, 1) := by decide +kernel
theorem dX7_withAll_39 : decode cX7_withAll 39 = .ok (.iload_n 2, 1) := by decide +kernel
theorem dX7_withAll_40 : decode cX7_withAll 40 = .ok (.iload_n 3, 1) := by decide +kernel
theorem dX7_withAll_41 : decode cX7_withAll 41 = .ok (.iconst 0, 1) := by decide +kernel
theorem dX7_withAll_42 : decode cX7_withAll 42 = .ok (.iconst (-1), 1) := by decide +kernel
theorem dX7_withAll_43 : decode cX7_withAll 43 = .ok (.invokevirtual 114, 3) := by decide +kernel
theorem dX7_withAll_46 : decode cX7_withAll 46 = .ok (.iadd, 1) := by decide +kernel
theorem dX7_withAll_47 : decode cX7_withAll 47 = .ok (.ireturn, 1) := by decide +kernel
theorem dX7_all_0 : decode cX7_all 0 = .ok (.iconst 0, 1) := by decide +kernel
theorem dX7_all_1 : decode cX7_all 1 = .ok (.istore_n 1, 1) := by decide +kernel
theorem dX7_all_2 : decode cX7_all 2 = .ok (.iconst 0, 1) := by decide +kernel
theorem dX7_all_3 : decode cX7_all 3 = .ok (.istore_n 2, 1) := by decide +kernel
theorem dX7_all_4 : decode cX7_all 4 = .ok (.iload_n 2, 1) := by decide +kernel
theorem dX7_all_5 : decode cX7_all 5 = .ok (.aload_n 0, 1) := by decide +kernel
theorem dX7_all_6 : decode cX7_all 6 = .ok (.getfield 13, 3) := by decide +kernel
theorem dX7_all_9 : decode cX7_all 9 = .ok (.if_icmp .ge 70, 3) := by decide +kernel
theorem dX7_all_12 : decode cX7_all 12 = .ok (.iconst 0, 1) := by decide +kernel
theorem dX7_all_13 : decode cX7_all 13 = .ok (.istore_n 3, 1) := by decide +kernel
theorem dX7_all_14 : decode cX7_all 14 = .ok (.iload_n 3, 1) := by decide +kernel
theorem dX7_all_15 : decode cX7_all 15 = .ok (.aload_n 0, 1) := by decide +kernel
theorem dX7_all_16 : decode cX7_all 16 = .ok (.getfield 7, 3) := by decide +kernel
theorem dX7_all_19 : decode cX7_all 19 = .ok (.if_icmp .ge 54, 3) := by decide +kernel
theorem dX7_all_22 : decode cX7_all 22 = .ok (.aload_n 0, 1) := by decide +kernel
theorem dX7_all_23 : decode cX7_all 23 = .ok (.getfield 22, 3) := by decide +kernel
theorem dX7_all_26 : decode cX7_all 26 = .ok (.iload_n 3, 1) := by decide +kernel
theorem dX7_all_27 : decode cX7_all 27 = .ok (.iload_n 2, 1) := by decide +kernel
theorem dX7_all_28 : decode cX7_all 28 = .ok (.invokestatic 100, 3) := by decide +kernel
theorem dX7_all_31 : decode cX7_all 31 = .ok (.iaload, 1) := by decide +kernel
theorem dX7_all_32 : decode cX7_all 32 = .ok (.istore 4, 2) := by decide +kernel
theorem dX7_all_34 : decode cX7_all 34 = .ok (.iload_n 1, 1) := by decide +kernel
theorem dX7_all_35 : decode cX7_all 35 = .ok (.aload_n 0, 1) := by decide +kernel
theorem dX7_all_36 : decode cX7_all 36 = .ok (.iload_n 3, 1) := by decide +kernel
theorem dX7_all_37 : decode cX7_all 37 = .ok (.iload_n 2, 1) := by decide +kernel
theorem dX7_all_38 : decode cX7_all 38 = .ok (.iload 4, 2) := by decide +kernel
theorem dX7_all_40 : decode cX7_all 40 = .ok (.invokevirtual 110, 3) := by decide +kernel
theorem dX7_all_43 : decode cX7_all 43 = .ok (.aload_n 0, 1) := by decide +kernel
theorem dX7_all_44 : decode cX7_all 44 = .ok (.iload_n 3, 1) := by decide +kernel
theorem dX7_all_45 : decode cX7_all 45 = .ok (.iload_n 2, 1) := by decide +kernel
theorem dX7_all_46 : decode cX7_all 46 = .ok (.iload 4, 2) := by decide +kernel
theorem dX7_all_48 : decode cX7_all 48 = .ok (.iconst 1, 1) := by decide +kernel
theorem dX7_all_49 : decode cX7_all 49 = .ok (.iconst 0, 1) := by decide +kernel
theorem dX7_all_50 : decode cX7_all 50 = .ok (.invokevirtual 114, 3) := by decide +kernel
theorem dX7_all_53 : decode cX7_all 53 = .ok (.iadd, 1) := by decide +kernel
theorem dX7_all_54 : decode cX7_all 54 = .ok (.aload_n 0, 1) := by decide +kernel
theorem dX7_all_55 : decode cX7_all 55 = .ok (.iload_n 3, 1) := by decide +kernel
theorem dX7_all_56 : decode cX7_all 56 = .ok (.iload_n 2, 1) := by decide +kernel
theorem dX7_all_57 : decode cX7_all 57 = .ok (.iload 4, 2) := by decide +kernel
theorem dX7_all_59 : decode cX7_all 59 = .ok (.iconst 0, 1) := by decide +kernel
theorem dX7_all_60 : decode cX7_all 60 = .ok (.iconst 1, 1) := by decide +kernel
theorem dX7_all_61 : decode cX7_all 61 = .ok (.invokevirtual 114, 3) := by decide +kernel
theorem dX7_all_64 : decode cX7_all 64 = .ok (.iadd, 1) := by decide +kernel
theorem dX7_all_65 : decode cX7_all 65 = .ok (.iadd, 1) := by decide +kernel
theorem dX7_all_66 : decode cX7_all 66 = .ok (.istore_n 1, 1) := by decide +kernel
theorem dX7_all_67 : decode cX7_all 67 = .ok (.iinc 3 1, 3) := by decide +kernel
theorem dX7_all_70 : decode cX7_all 70 = .ok (.goto (-56), 3) := by decide +kernel
theorem dX7_all_73 : decode cX7_all 73 = .ok (.iinc 2 1, 3) := by decide +kernel
theorem dX7_all_76 : decode cX7_all 76 = .ok (.goto (-72), 3) := by decide +kernel
theorem dX7_all_79 : decode cX7_all 79 = .ok (.iload_n 1, 1) := by decide +kernel
theorem dX7_all_80 : decode cX7_all 80 = .ok (.ireturn, 1) := by decide +kernel
theorem dX7_worked_0 : decode cX7_worked 0 = .ok (.aload_n 0, 1) := by decide +kernel
theorem dX7_worked_1 : decode cX7_worked 1 = .ok (.invokevirtual 118, 3) := by decide +kernel
theorem dX7_worked_4 : decode cX7_worked 4 = .ok (.iload_n 1, 1) := by decide +kernel
theorem dX7_worked_5 : decode cX7_worked 5 = .ok (.isub, 1) := by decide +kernel
theorem dX7_worked_6 : decode cX7_worked 6 = .ok (.istore_n 2, 1) := by decide +kernel
theorem dX7_worked_7 : decode cX7_worked 7 = .ok (.aload_n 0, 1) := by decide +kernel
theorem dX7_worked_8 : decode cX7_worked 8 = .ok (.dup, 1) := by decide +kernel
theorem dX7_worked_9 : decode cX7_worked 9 = .ok (.getfield 83, 3) := by decide +kernel
theorem dX7_worked_12 : decode cX7_worked 12 = .ok (.iload_n 2, 1) := by decide +kernel
theorem dX7_worked_13 : decode cX7_worked 13 = .ok (.iadd, 1) := by decide +kernel
theorem dX7_worked_14 : decode cX7_worked 14 = .ok (.putfield 83, 3) := by decide +kernel
theorem dX7_worked_17 : decode cX7_worked 17 = .ok (.iload_n 2, 1) := by decide +kernel
theorem dX7_worked_18 : decode cX7_worked 18 = .ok (.ireturn, 1) := by decide +kernel
theorem dX7_grid_0 : decode cX7_grid 0 = .ok (.aload_n 0, 1) := by decide +kernel
theorem dX7_grid_1 : decode cX7_grid 1 = .ok (.iconst 0, 1) := by decide +kernel
theorem dX7_grid_2 : decode cX7_grid 2 = .ok (.putfield 89, 3) := by decide +kernel
theorem dX7_grid_5 : decode cX7_grid 5 = .ok (.iload_n 1, 1) := by decide +kernel
theorem dX7_grid_6 : decode cX7_grid 6 = .ok (.iconst 2, 1) := by decide +kernel
theorem dX7_grid_7 : decode cX7_grid 7 = .ok (.bipush 12, 2) := by decide +kernel
theorem dX7_grid_9 : decode cX7_grid 9 = .ok (.invokestatic 92, 3) := by decide +kernel
theorem dX7_grid_12 : decode cX7_grid 12 = .ok (.ifCond .eq 13, 3) := by decide +kernel
theorem dX7_grid_15 : decode cX7_grid 15 = .ok (.iload_n 2, 1) := by decide +kernel
theorem dX7_grid_16 : decode cX7_grid 16 = .ok (.iconst 2, 1) := by decide +kernel
theorem dX7_grid_17 : decode cX7_grid 17 = .ok (.bipush 12, 2) := by decide +kernel
theorem dX7_grid_19 : decode cX7_grid 19 = .ok (.invokestatic 92, 3) := by decide +kernel
theorem dX7_grid_22 : decode cX7_grid 22 = .ok (.ifCond .ne 10, 3) := by decide +kernel
theorem dX7_grid_25 : decode cX7_grid 25 = .ok (.aload_n 0, 1) := by decide +kernel
theorem dX7_grid_26 : decode cX7_grid 26 = .ok (.iconst 1, 1) := by decide +kernel
theorem dX7_grid_27 : decode cX7_grid 27 = .ok (.invokevirtual 122, 3) := by decide +kernel
theorem dX7_grid_30 : decode cX7_grid 30 = .ok (.pop, 1) := by decide +kernel
theorem dX7_grid_31 : decode cX7_grid 31 = .ok (.return_, 1) := by decide +kernel
theorem dX7_grid_32 : decode cX7_grid 32 = .ok (.aload_n 0, 1) := by decide +kernel
theorem dX7_grid_33 : decode cX7_grid 33 = .ok (.iload_n 1, 1) := by decide +kernel
theorem dX7_grid_34 : decode cX7_grid 34 = .ok (.putfield 7, 3) := by decide +kernel
theorem dX7_grid_37 : decode cX7_grid 37 = .ok (.aload_n 0, 1) := by decide +kernel
theorem dX7_grid_38 : decode cX7_grid 38 = .ok (.iload_n 2, 1) := by decide +kernel
theorem dX7_grid_39 : decode cX7_grid 39 = .ok (.putfield 13, 3) := by decide +kernel
theorem dX7_grid_42 : decode cX7_grid 42 = .ok (.aload_n 0, 1) := by decide +kernel
theorem dX7_grid_43 : decode cX7_grid 43 = .ok (.invokevirtual 68, 3) := by decide +kernel
theorem dX7_grid_46 : decode cX7_grid 46 = .ok (.return_, 1) := by decide +kernel
theorem dX7_costs_0 : decode cX7_costs 0 = .ok (.aload_n 0, 1) := by decide +kernel
theorem dX7_costs_1 : decode cX7_costs 1 = .ok (.iconst 0, 1) := by decide +kernel
theorem dX7_costs_2 : decode cX7_costs 2 = .ok (.putfield 89, 3) := by decide +kernel
theorem dX7_costs_5 : decode cX7_costs 5 = .ok (.iload_n 1, 1) := by decide +kernel
theorem dX7_costs_6 : decode cX7_costs 6 = .ok (.iconst 0, 1) := by decide +kernel
theorem dX7_costs_7 : decode cX7_costs 7 = .ok (.bipush 20, 2) := by decide +kernel
theorem dX7_costs_9 : decode cX7_costs 9 = .ok (.invokestatic 92, 3) := by decide +kernel
theorem dX7_costs_12 : decode cX7_costs 12 = .ok (.ifCond .eq 13, 3) := by decide +kernel
theorem dX7_costs_15 : decode cX7_costs 15 = .ok (.iload_n 2, 1) := by decide +kernel
theorem dX7_costs_16 : decode cX7_costs 16 = .ok (.iconst 0, 1) := by decide +kernel
theorem dX7_costs_17 : decode cX7_costs 17 = .ok (.bipush 20, 2) := by decide +kernel
theorem dX7_costs_19 : decode cX7_costs 19 = .ok (.invokestatic 92, 3) := by decide +kernel
theorem dX7_costs_22 : decode cX7_costs 22 = .ok (.ifCond .ne 9, 3) := by decide +kernel
theorem dX7_costs_25 : decode cX7_costs 25 = .ok (.aload_n 0, 1) := by decide +kernel
theorem dX7_costs_26 : decode cX7_costs 26 = .ok (.iconst 1, 1) := by decide +kernel
theorem dX7_costs_27 : decode cX7_costs 27 = .ok (.invokevirtual 122, 3) := by decide +kernel
theorem dX7_costs_30 : decode cX7_costs 30 = .ok (.ireturn, 1) := by decide +kernel
theorem dX7_costs_31 : decode cX7_costs 31 = .ok (.aload_n 0, 1) := by decide +kernel
theorem dX7_costs_32 : decode cX7_costs 32 = .ok (.invokevirtual 118, 3) := by decide +kernel
theorem dX7_costs_35 : decode cX7_costs 35 = .ok (.istore_n 3, 1) := by decide +kernel
theorem dX7_costs_36 : decode cX7_costs 36 = .ok (.aload_n 0, 1) := by decide +kernel
theorem dX7_costs_37 : decode cX7_costs 37 = .ok (.iload_n 1, 1) := by decide +kernel
theorem dX7_costs_38 : decode cX7_costs 38 = .ok (.putfield 16, 3) := by decide +kernel
theorem dX7_costs_41 : decode cX7_costs 41 = .ok (.aload_n 0, 1) := by decide +kernel
theorem dX7_costs_42 : decode cX7_costs 42 = .ok (.iload_n 2, 1) := by decide +kernel
theorem dX7_costs_43 : decode cX7_costs 43 = .ok (.putfield 19, 3) := by decide +kernel
theorem dX7_costs_46 : decode cX7_costs 46 = .ok (.aload_n 0, 1) := by decide +kernel
theorem dX7_costs_47 : decode cX7_costs 47 = .ok (.iload_n 3, 1) := by decide +kernel
theorem dX7_costs_48 : decode cX7_costs 48 = .ok (.invokevirtual 126, 3) := by decide +kernel
theorem dX7_costs_51 : decode cX7_costs 51 = .ok (.ireturn, 1) := by decide +kernel
theorem dX7_isDirection_0 : decode cX7_isDirection 0 = .ok (.iload_n 0, 1) := by decide +kernel
theorem dX7_isDirection_1 : decode cX7_isDirection 1 = .ok (.iconst 0, 1) := by decide +kernel
theorem dX7_isDirection_2 : decode cX7_isDirection 2 = .ok (.bipush 14, 2) := by decide +kernel
theorem dX7_isDirection_4 : decode cX7_isDirection 4 = .ok (.invokestatic 92, 3) := by decide +kernel
theorem dX7_isDirection_7 : decode cX7_isDirection 7 = .ok (.ireturn, 1) := by decide +kernel
theorem dX7_turn_0 : decode cX7_turn 0 = .ok (.aload_n 0, 1) := by decide +kernel
theorem dX7_turn_1 : decode cX7_turn 1 = .ok (.iconst 0, 1) := by decide +kernel
theorem dX7_turn_2 : decode cX7_turn 2 = .ok (.putfield 89, 3) := by decide +kernel
theorem dX7_turn_5 : decode cX7_turn 5 = .ok (.aload_n 0, 1) := by decide +kernel
theorem dX7_turn_6 : decode cX7_turn 6 = .ok (.iload_n 1, 1) := by decide +kernel
theorem dX7_turn_7 : decode cX7_turn 7 = .ok (.iload_n 2, 1) := by decide +kernel
theorem dX7_turn_8 : decode cX7_turn 8 = .ok (.invokevirtual 106, 3) := by decide +kernel
theorem dX7_turn_11 : decode cX7_turn 11 = .ok (.ifCond .ne 9, 3) := by decide +kernel
theorem dX7_turn_14 : decode cX7_turn 14 = .ok (.aload_n 0, 1) := by decide +kernel
theorem dX7_turn_15 : decode cX7_turn 15 = .ok (.iconst 1, 1) := by decide +kernel
theorem dX7_turn_16 : decode cX7_turn 16 = .ok (.invokevirtual 122, 3) := by decide +kernel
theorem dX7_turn_19 : decode cX7_turn 19 = .ok (.ireturn, 1) := by decide +kernel
theorem dX7_turn_20 : decode cX7_turn 20 = .ok (.iload_n 3, 1) := by decide +kernel
theorem dX7_turn_21 : decode cX7_turn 21 = .ok (.invokestatic 129, 3) := by decide +kernel
theorem dX7_turn_24 : decode cX7_turn 24 = .ok (.ifCond .ne 9, 3) := by decide +kernel
theorem dX7_turn_27 : decode cX7_turn 27 = .ok (.aload_n 0, 1) := by decide +kernel
theorem dX7_turn_28 : decode cX7_turn 28 = .ok (.iconst 2, 1) := by decide +kernel
theorem dX7_turn_29 : decode cX7_turn 29 = .ok (.invokevirtual 122, 3) := by decide +kernel
theorem dX7_turn_32 : decode cX7_turn 32 = .ok (.ireturn, 1) := by decide +kernel
theorem dX7_turn_33 : decode cX7_turn 33 = .ok (.aload_n 0, 1) := by decide +kernel
theorem dX7_turn_34 : decode cX7_turn 34 = .ok (.getfield 26, 3) := by decide +kernel
theorem dX7_turn_37 : decode cX7_turn 37 = .ok (.iload_n 1, 1) := by decide +kernel
theorem dX7_turn_38 : decode cX7_turn 38 = .ok (.iload_n 2, 1) := by decide +kernel
theorem dX7_turn_39 : decode cX7_turn 39 = .ok (.invokestatic 100, 3) := by decide +kernel
theorem dX7_turn_42 : decode cX7_turn 42 = .ok (.iaload, 1) := by decide +kernel
theorem dX7_turn_43 : decode cX7_turn 43 = .ok (.iconst 1, 1) := by decide +kernel
theorem dX7_turn_44 : decode cX7_turn 44 = .ok (.if_icmp .ne 9, 3) := by decide +kernel
theorem dX7_turn_47 : decode cX7_turn 47 = .ok (.aload_n 0, 1) := by decide +kernel
theorem dX7_turn_48 : decode cX7_turn 48 = .ok (.iconst 3, 1) := by decide +kernel
theorem dX7_turn_49 : decode cX7_turn 49 = .ok (.invokevirtual 122, 3) := by decide +kernel
theorem dX7_turn_52 : decode cX7_turn 52 = .ok (.ireturn, 1) := by decide +kernel
theorem dX7_turn_53 : decode cX7_turn 53 = .ok (.aload_n 0, 1) := by decide +kernel
theorem dX7_turn_54 : decode cX7_turn 54 = .ok (.invokevirtual 118, 3) := by decide +kernel
theorem dX7_turn_57 : decode cX7_turn 57 = .ok (.istore 4, 2) := by decide +kernel
theorem dX7_turn_59 : decode cX7_turn 59 = .ok (.aload_n 0, 1) := by decide +kernel
theorem dX7_turn_60 : decode cX7_turn 60 = .ok (.getfield 22, 3) := by decide +kernel
theorem dX7_turn_63 : decode cX7_turn 63 = .ok (.iload_n 1, 1) := by decide +kernel
theorem dX7_turn_64 : decode cX7_turn 64 = .ok (.iload_n 2, 1) := by decide +kernel
theorem dX7_turn_65 : decode cX7_turn 65 = .ok (.invokestatic 100, 3) := by decide +kernel
theorem dX7_turn_68 : decode cX7_turn 68 = .ok (.iload_n 3, 1) := by decide +kernel
theorem dX7_turn_69 : decode cX7_turn 69 = .ok (.iastore, 1) := by decide +kernel
theorem dX7_turn_70 : decode cX7_turn 70 = .ok (.aload_n 0, 1) := by decide +kernel
theorem dX7_turn_71 : decode cX7_turn 71 = .ok (.iload 4, 2) := by decide +kernel
theorem dX7_turn_73 : decode cX7_turn 73 = .ok (.invokevirtual 126, 3) := by decide +kernel
theorem dX7_turn_76 : decode cX7_turn 76 = .ok (.ireturn, 1) := by decide +kernel
theorem dX7_anchor_0 : decode cX7_anchor 0 = .ok (.aload_n 0, 1) := by decide +kernel
theorem dX7_anchor_1 : decode cX7_anchor 1 = .ok (.iconst 0, 1) := by decide +kernel
theorem dX7_anchor_2 : decode cX7_anchor 2 = .ok (.putfield 89, 3) := by decide +kernel
theorem dX7_anchor_5 : decode cX7_anchor 5 = .ok (.aload_n 0, 1) := by decide +kernel
theorem dX7_anchor_6 : decode cX7_anchor 6 = .ok (.iload_n 1, 1) := by decide +kernel
theorem dX7_anchor_7 : decode cX7_anchor 7 = .ok (.iload_n 2, 1) := by decide +kernel
theorem dX7_anchor_8 : decode cX7_anchor 8 = .ok (.invokevirtual 106, 3) := by decide +kernel
theorem dX7_anchor_11 : decode cX7_anchor 11 = .ok (.ifCond .ne 9, 3) := by decide +kernel
theorem dX7_anchor_14 : decode cX7_anchor 14 = .ok (.aload_n 0, 1) := by decide +kernel
theorem dX7_anchor_15 : decode cX7_anchor 15 = .ok (.iconst 1, 1) := by decide +kernel
theorem dX7_anchor_16 : decode cX7_anchor 16 = .ok (.invokevirtual 122, 3) := by decide +kernel
theorem dX7_anchor_19 : decode cX7_anchor 19 = .ok (.ireturn, 1) := by decide +kernel
theorem dX7_anchor_20 : decode cX7_anchor 20 = .ok (.iload_n 3, 1) := by decide +kernel
theorem dX7_anchor_21 : decode cX7_anchor 21 = .ok (.iconst 0, 1) := by decide +kernel
theorem dX7_anchor_22 : decode cX7_anchor 22 = .ok (.iconst 2, 1) := by decide +kernel
theorem dX7_anchor_23 : decode cX7_anchor 23 = .ok (.invokestatic 92, 3) := by decide +kernel
theorem dX7_anchor_26 : decode cX7_anchor 26 = .ok (.ifCond .eq 22, 3) := by decide +kernel
theorem dX7_anchor_29 : decode cX7_anchor 29 = .ok (.iload 4, 2) := by decide +kernel
theorem dX7_anchor_31 : decode cX7_anchor 31 = .ok (.invokestatic 129, 3) := by decide +kernel
theorem dX7_anchor_34 : decode cX7_anchor 34 = .ok (.ifCond .eq 14, 3) := by decide +kernel
theorem dX7_anchor_37 : decode cX7_anchor 37 = .ok (.iload 5, 2) := by decide +kernel
theorem dX7_anchor_39 : decode cX7_anchor 39 = .ok (.iconst 1, 1) := by decide +kernel
theorem dX7_anchor_40 : decode cX7_anchor 40 = .ok (.bipush 100, 2) := by decide +kernel
theorem dX7_anchor_42 : decode cX7_anchor 42 = .ok (.invokestatic 92, 3) := by decide +kernel
theorem dX7_anchor_45 : decode cX7_anchor 45 = .ok (.ifCond .ne 9, 3) := by decide +kernel
theorem dX7_anchor_48 : decode cX7_anchor 48 = .ok (.aload_n 0, 1) := by decide +kernel
theorem dX7_anchor_49 : decode cX7_anchor 49 = .ok (.iconst 2, 1) := by decide +kernel
theorem dX7_anchor_50 : decode cX7_anchor 50 = .ok (.invokevirtual 122, 3) := by decide +kernel
theorem dX7_anchor_53 : decode cX7_anchor 53 = .ok (.ireturn, 1) := by decide +kernel
theorem dX7_anchor_54 : decode cX7_anchor 54 = .ok (.aload_n 0, 1) := by decide +kernel
theorem dX7_anchor_55 : decode cX7_anchor 55 = .ok (.invokevirtual 118, 3) := by decide +kernel
theorem dX7_anchor_58 : decode cX7_anchor 58 = .ok (.istore 6, 2) := by decide +kernel
theorem dX7_anchor_60 : decode cX7_anchor 60 = .ok (.iload_n 1, 1) := by decide +kernel
theorem dX7_anchor_61 : decode cX7_anchor 61 = .ok (.iload_n 2, 1) := by decide +kernel
theorem dX7_anchor_62 : decode cX7_anchor 62 = .ok (.invokestatic 100, 3) := by decide +kernel
theorem dX7_anchor_65 : decode cX7_anchor 65 = .ok (.istore 7, 2) := by decide +kernel
theorem dX7_anchor_67 : decode cX7_anchor 67 = .ok (.aload_n 0, 1) := by decide +kernel
theorem dX7_anchor_68 : decode cX7_anchor 68 = .ok (.getfield 26, 3) := by decide +kernel
theorem dX7_anchor_71 : decode cX7_anchor 71 = .ok (.iload 7, 2) := by decide +kernel
theorem dX7_anchor_73 : decode cX7_anchor 73 = .ok (.iload_n 3, 1) := by decide +kernel
theorem dX7_anchor_74 : decode cX7_anchor 74 = .ok (.iastore, 1) := by decide +kernel
theorem dX7_anchor_75 : decode cX7_anchor 75 = .ok (.aload_n 0, 1) := by decide +kernel
theorem dX7_anchor_76 : decode cX7_anchor 76 = .ok (.getfield 29, 3) := by decide +kernel
theorem dX7_anchor_79 : decode cX7_anchor 79 = .ok (.iload 7, 2) := by decide +kernel
theorem dX7_anchor_81 : decode cX7_anchor 81 = .ok (.iload 4, 2) := by decide +kernel
theorem dX7_anchor_83 : decode cX7_anchor 83 = .ok (.iastore, 1) := by decide +kernel
theorem dX7_anchor_84 : decode cX7_anchor 84 = .ok (.aload_n 0, 1) := by decide +kernel
theorem dX7_anchor_85 : decode cX7_anchor 85 = .ok (.getfield 32, 3) := by decide +kernel
theorem dX7_anchor_88 : decode cX7_anchor 88 = .ok (.iload 7, 2) := by decide +kernel
theorem dX7_anchor_90 : decode cX7_anchor 90 = .ok (.iload 5, 2) := by decide +kernel
theorem dX7_anchor_92 : decode cX7_anchor 92 = .ok (.iastore, 1) := by decide +kernel
theorem dX7_anchor_93 : decode cX7_anchor 93 = .ok (.aload_n 0, 1) := by decide +kernel
theorem dX7_anchor_94 : decode cX7_anchor 94 = .ok (.getfield 22, 3) := by decide +kernel
theorem dX7_anchor_97 : decode cX7_anchor 97 = .ok (.iload 7, 2) := by decide +kernel
theorem dX7_anchor_99 : decode cX7_anchor 99 = .ok (.iload_n 3, 1) := by decide +kernel
theorem dX7_anchor_100 : decode cX7_anchor 100 = .ok (.iconst 1, 1) := by decide +kernel
theorem dX7_anchor_101 : decode cX7_anchor 101 = .ok (.if_icmp .ne 8, 3) := by decide +kernel
theorem dX7_anchor_104 : decode cX7_anchor 104 = .ok (.iload 4, 2) := by decide +kernel
theorem dX7_anchor_106 : decode cX7_anchor 106 = .ok (.goto 10, 3) := by decide +kernel
theorem dX7_anchor_109 : decode cX7_anchor 109 = .ok (.aload_n 0, 1) := by decide +kernel
theorem dX7_anchor_110 : decode cX7_anchor 110 = .ok (.getfield 22, 3) := by decide +kernel
theorem dX7_anchor_113 : decode cX7_anchor 113 = .ok (.iload 7, 2) := by decide +kernel
theorem dX7_anchor_115 : decode cX7_anchor 115 = .ok (.iaload, 1) := by decide +kernel
theorem dX7_anchor_116 : decode cX7_anchor 116 = .ok (.iastore, 1) := by decide +kernel
theorem dX7_anchor_117 : decode cX7_anchor 117 = .ok (.aload_n 0, 1) := by decide +kernel
theorem dX7_anchor_118 : decode cX7_anchor 118 = .ok (.iload 6, 2) := by decide +kernel
theorem dX7_anchor_120 : decode cX7_anchor 120 = .ok (.invokevirtual 126, 3) := by decide +kernel
theorem dX7_anchor_123 : decode cX7_anchor 123 = .ok (.ireturn, 1) := by decide +kernel
theorem dX7_pixel_0 : decode cX7_pixel 0 = .ok (.aload_n 0, 1) := by decide +kernel
theorem dX7_pixel_1 : decode cX7_pixel 1 = .ok (.iconst 0, 1) := by decide +kernel
theorem dX7_pixel_2 : decode cX7_pixel 2 = .ok (.putfield 89, 3) := by decide +kernel
theorem dX7_pixel_5 : decode cX7_pixel 5 = .ok (.aload_n 0, 1) := by decide +kernel
theorem dX7_pixel_6 : decode cX7_pixel 6 = .ok (.iload_n 1, 1) := by decide +kernel
theorem dX7_pixel_7 : decode cX7_pixel 7 = .ok (.iload_n 2, 1) := by decide +kernel
theorem dX7_pixel_8 : decode cX7_pixel 8 = .ok (.invokevirtual 106, 3) := by decide +kernel
theorem dX7_pixel_11 : decode cX7_pixel 11 = .ok (.ifCond .ne 9, 3) := by decide +kernel
theorem dX7_pixel_14 : decode cX7_pixel 14 = .ok (.aload_n 0, 1) := by decide +kernel
theorem dX7_pixel_15 : decode cX7_pixel 15 = .ok (.iconst 1, 1) := by decide +kernel
theorem dX7_pixel_16 : decode cX7_pixel 16 = .ok (.invokevirtual 122, 3) := by decide +kernel
theorem dX7_pixel_19 : decode cX7_pixel 19 = .ok (.ireturn, 1) := by decide +kernel
theorem dX7_pixel_20 : decode cX7_pixel 20 = .ok (.iload_n 3, 1) := by decide +kernel
theorem dX7_pixel_21 : decode cX7_pixel 21 = .ok (.iconst 1, 1) := by decide +kernel
theorem dX7_pixel_22 : decode cX7_pixel 22 = .ok (.bipush 12, 2) := by decide +kernel
theorem dX7_pixel_24 : decode cX7_pixel 24 = .ok (.invokestatic 92, 3) := by decide +kernel
theorem dX7_pixel_27 : decode cX7_pixel 27 = .ok (.ifCond .eq 32, 3) := by decide +kernel
theorem dX7_pixel_30 : decode cX7_pixel 30 = .ok (.iload 4, 2) := by decide +kernel
theorem dX7_pixel_32 : decode cX7_pixel 32 = .ok (.iconst 1, 1) := by decide +kernel
theorem dX7_pixel_33 : decode cX7_pixel 33 = .ok (.bipush 12, 2) := by decide +kernel
theorem dX7_pixel_35 : decode cX7_pixel 35 = .ok (.invokestatic 92, 3) := by decide +kernel
theorem dX7_pixel_38 : decode cX7_pixel 38 = .ok (.ifCond .eq 21, 3) := by decide +kernel
theorem dX7_pixel_41 : decode cX7_pixel 41 = .ok (.aload_n 0, 1) := by decide +kernel
theorem dX7_pixel_42 : decode cX7_pixel 42 = .ok (.iload_n 1, 1) := by decide +kernel
theorem dX7_pixel_43 : decode cX7_pixel 43 = .ok (.iload_n 3, 1) := by decide +kernel
theorem dX7_pixel_44 : decode cX7_pixel 44 = .ok (.iadd, 1) := by decide +kernel
theorem dX7_pixel_45 : decode cX7_pixel 45 = .ok (.iconst 1, 1) := by decide +kernel
theorem dX7_pixel_46 : decode cX7_pixel 46 = .ok (.isub, 1) := by decide +kernel
theorem dX7_pixel_47 : decode cX7_pixel 47 = .ok (.iload_n 2, 1) := by decide +kernel
theorem dX7_pixel_48 : decode cX7_pixel 48 = .ok (.iload 4, 2) := by decide +kernel
theorem dX7_pixel_50 : decode cX7_pixel 50 = .ok (.iadd, 1) := by decide +kernel
theorem dX7_pixel_51 : decode cX7_pixel 51 = .ok (.iconst 1, 1) := by decide +kernel
theorem dX7_pixel_52 : decode cX7_pixel 52 = .ok (.isub, 1) := by decide +kernel
theorem dX7_pixel_53 : decode cX7_pixel 53 = .ok (.invokevirtual 106, 3) := by decide +kernel
theorem dX7_pixel_56 : decode cX7_pixel 56 = .ok (.ifCond .ne 9, 3) := by decide +kernel
theorem dX7_pixel_59 : decode cX7_pixel 59 = .ok (.aload_n 0, 1) := by decide +kernel
theorem dX7_pixel_60 : decode cX7_pixel 60 = .ok (.iconst 2, 1) := by decide +kernel
theorem dX7_pixel_61 : decode cX7_pixel 61 = .ok (.invokevirtual 122, 3) := by decide +kernel
theorem dX7_pixel_64 : decode cX7_pixel 64 = .ok (.ireturn, 1) := by decide +kernel
theorem dX7_pixel_65 : decode cX7_pixel 65 = .ok (.aload_n 0, 1) := by decide +kernel
theorem dX7_pixel_66 : decode cX7_pixel 66 = .ok (.getfield 71, 3) := by decide +kernel
theorem dX7_pixel_69 : decode cX7_pixel 69 = .ok (.bipush 8, 2) := by decide +kernel
theorem dX7_pixel_71 : decode cX7_pixel 71 = .ok (.if_icmp .ge 7, 3) := by decide +kernel
theorem dX7_pixel_74 : decode cX7_pixel 74 = .ok (.iconst 1, 1) := by decide +kernel
theorem dX7_pixel_75 : decode cX7_pixel 75 = .ok (.goto 4, 3) := by decide +kernel
theorem dX7_pixel_78 : decode cX7_pixel 78 = .ok (.iconst 0, 1) := by decide +kernel
theorem dX7_pixel_79 : decode cX7_pixel 79 = .ok (.istore 5, 2) := by decide +kernel
theorem dX7_pixel_81 : decode cX7_pixel 81 = .ok (.iconst 0, 1) := by decide +kernel
theorem dX7_pixel_82 : decode cX7_pixel 82 = .ok (.istore 6, 2) := by decide +kernel
theorem dX7_pixel_84 : decode cX7_pixel 84 = .ok (.iload 6, 2) := by decide +kernel
theorem dX7_pixel_86 : decode cX7_pixel 86 = .ok (.iload_n 3, 1) := by decide +kernel
theorem dX7_pixel_87 : decode cX7_pixel 87 = .ok (.iload 4, 2) := by decide +kernel
theorem dX7_pixel_89 : decode cX7_pixel 89 = .ok (.imul, 1) := by decide +kernel
theorem dX7_pixel_90 : decode cX7_pixel 90 = .ok (.if_icmp .ge 45, 3) := by decide +kernel
theorem dX7_pixel_93 : decode cX7_pixel 93 = .ok (.iload 5, 2) := by decide +kernel
theorem dX7_pixel_95 : decode cX7_pixel 95 = .ok (.ifCond .eq 31, 3) := by decide +kernel
theorem dX7_pixel_98 : decode cX7_pixel 98 = .ok (.aload_n 0, 1) := by decide +kernel
theorem dX7_pixel_99 : decode cX7_pixel 99 = .ok (.getfield 35, 3) := by decide +kernel
theorem dX7_pixel_102 : decode cX7_pixel 102 = .ok (.iload_n 1, 1) := by decide +kernel
theorem dX7_pixel_103 : decode cX7_pixel 103 = .ok (.iload 6, 2) := by decide +kernel
theorem dX7_pixel_105 : decode cX7_pixel 105 = .ok (.iload_n 3, 1) := by decide +kernel
theorem dX7_pixel_106 : decode cX7_pixel 106 = .ok (.irem, 1) := by decide +kernel
theorem dX7_pixel_107 : decode cX7_pixel 107 = .ok (.iadd, 1) := by decide +kernel
theorem dX7_pixel_108 : decode cX7_pixel 108 = .ok (.iload_n 2, 1) := by decide +kernel
theorem dX7_pixel_109 : decode cX7_pixel 109 = .ok (.iload 6, 2) := by decide +kernel
theorem dX7_pixel_111 : decode cX7_pixel 111 = .ok (.iload_n 3, 1) := by decide +kernel
theorem dX7_pixel_112 : decode cX7_pixel 112 = .ok (.idiv, 1) := by decide +kernel
theorem dX7_pixel_113 : decode cX7_pixel 113 = .ok (.iadd, 1) := by decide +kernel
theorem dX7_pixel_114 : decode cX7_pixel 114 = .ok (.invokestatic 100, 3) := by decide +kernel
theorem dX7_pixel_117 : decode cX7_pixel 117 = .ok (.iaload, 1) := by decide +kernel
theorem dX7_pixel_118 : decode cX7_pixel 118 = .ok (.iconst (-1), 1) := by decide +kernel
theorem dX7_pixel_119 : decode cX7_pixel 119 = .ok (.if_icmp .ne 7, 3) := by decide +kernel
theorem dX7_pixel_122 : decode cX7_pixel 122 = .ok (.iconst 1, 1) := by decide +kernel
theorem dX7_pixel_123 : decode cX7_pixel 123 = .ok (.goto 4, 3) := by decide +kernel
theorem dX7_pixel_126 : decode cX7_pixel 126 = .ok (.iconst 0, 1) := by decide +kernel
theorem dX7_pixel_127 : decode cX7_pixel 127 = .ok (.istore 5, 2) := by decide +kernel
theorem dX7_pixel_129 : decode cX7_pixel 129 = .ok (.iinc 6 1, 3) := by decide +kernel
theorem dX7_pixel_132 : decode cX7_pixel 132 = .ok (.goto (-48), 3) := by decide +kernel
theorem dX7_pixel_135 : decode cX7_pixel 135 = .ok (.iload 5, 2) := by decide +kernel
theorem dX7_pixel_137 : decode cX7_pixel 137 = .ok (.ifCond .ne 9, 3) := by decide +kernel
theorem dX7_pixel_140 : decode cX7_pixel 140 = .ok (.aload_n 0, 1) := by decide +kernel
theorem dX7_pixel_141 : decode cX7_pixel 141 = .ok (.iconst 3, 1) := by decide +kernel
theorem dX7_pixel_142 : decode cX7_pixel 142 = .ok (.invokevirtual 122, 3) := by decide +kernel
theorem dX7_pixel_145 : decode cX7_pixel 145 = .ok (.ireturn, 1) := by decide +kernel
theorem dX7_pixel_146 : decode cX7_pixel 146 = .ok (.iconst 0, 1) := by decide +kernel
theorem dX7_pixel_147 : decode cX7_pixel 147 = .ok (.istore 6, 2) := by decide +kernel
theorem dX7_pixel_149 : decode cX7_pixel 149 = .ok (.iload 6, 2) := by decide +kernel
theorem dX7_pixel_151 : decode cX7_pixel 151 = .ok (.iload_n 3, 1) := by decide +kernel
theorem dX7_pixel_152 : decode cX7_pixel 152 = .ok (.iload 4, 2) := by decide +kernel
theorem dX7_pixel_154 : decode cX7_pixel 154 = .ok (.imul, 1) := by decide +kernel
theorem dX7_pixel_155 : decode cX7_pixel 155 = .ok (.if_icmp .ge 33, 3) := by decide +kernel
theorem dX7_pixel_158 : decode cX7_pixel 158 = .ok (.aload_n 0, 1) := by decide +kernel
theorem dX7_pixel_159 : decode cX7_pixel 159 = .ok (.getfield 35, 3) := by decide +kernel
theorem dX7_pixel_162 : decode cX7_pixel 162 = .ok (.iload_n 1, 1) := by decide +kernel
theorem dX7_pixel_163 : decode cX7_pixel 163 = .ok (.iload 6, 2) := by decide +kernel
theorem dX7_pixel_165 : decode cX7_pixel 165 = .ok (.iload_n 3, 1) := by decide +kernel
theorem dX7_pixel_166 : decode cX7_pixel 166 = .ok (.irem, 1) := by decide +kernel
theorem dX7_pixel_167 : decode cX7_pixel 167 = .ok (.iadd, 1) := by decide +kernel
theorem dX7_pixel_168 : decode cX7_pixel 168 = .ok (.iload_n 2, 1) := by decide +kernel
theorem dX7_pixel_169 : decode cX7_pixel 169 = .ok (.iload 6, 2) := by decide +kernel
theorem dX7_pixel_171 : decode cX7_pixel 171 = .ok (.iload_n 3, 1) := by decide +kernel
theorem dX7_pixel_172 : decode cX7_pixel 172 = .ok (.idiv, 1) := by decide +kernel
theorem dX7_pixel_173 : decode cX7_pixel 173 = .ok (.iadd, 1) := by decide +kernel
theorem dX7_pixel_174 : decode cX7_pixel 174 = .ok (.invokestatic 100, 3) := by decide +kernel
theorem dX7_pixel_177 : decode cX7_pixel 177 = .ok (.aload_n 0, 1) := by decide +kernel
theorem dX7_pixel_178 : decode cX7_pixel 178 = .ok (.getfield 71, 3) := by decide +kernel
theorem dX7_pixel_181 : decode cX7_pixel 181 = .ok (.iastore, 1) := by decide +kernel
theorem dX7_pixel_182 : decode cX7_pixel 182 = .ok (.iinc 6 1, 3) := by decide +kernel
theorem dX7_pixel_185 : decode cX7_pixel 185 = .ok (.goto (-36), 3) := by decide +kernel
theorem dX7_pixel_188 : decode cX7_pixel 188 = .ok (.aload_n 0, 1) := by decide +kernel
theorem dX7_pixel_189 : decode cX7_pixel 189 = .ok (.getfield 38, 3) := by decide +kernel
theorem dX7_pixel_192 : decode cX7_pixel 192 = .ok (.aload_n 0, 1) := by decide +kernel
theorem dX7_pixel_193 : decode cX7_pixel 193 = .ok (.getfield 71, 3) := by decide +kernel
theorem dX7_pixel_196 : decode cX7_pixel 196 = .ok (.iconst 0, 1) := by decide +kernel
theorem dX7_pixel_197 : decode cX7_pixel 197 = .ok (.iastore, 1) := by decide +kernel
theorem dX7_pixel_198 : decode cX7_pixel 198 = .ok (.aload_n 0, 1) := by decide +kernel
theorem dX7_pixel_199 : decode cX7_pixel 199 = .ok (.getfield 41, 3) := by decide +kernel
theorem dX7_pixel_202 : decode cX7_pixel 202 = .ok (.aload_n 0, 1) := by decide +kernel
theorem dX7_pixel_203 : decode cX7_pixel 203 = .ok (.getfield 71, 3) := by decide +kernel
theorem dX7_pixel_206 : decode cX7_pixel 206 = .ok (.iconst 0, 1) := by decide +kernel
theorem dX7_pixel_207 : decode cX7_pixel 207 = .ok (.iastore, 1) := by decide +kernel
theorem dX7_pixel_208 : decode cX7_pixel 208 = .ok (.aload_n 0, 1) := by decide +kernel
theorem dX7_pixel_209 : decode cX7_pixel 209 = .ok (.getfield 47, 3) := by decide +kernel
theorem dX7_pixel_212 : decode cX7_pixel 212 = .ok (.aload_n 0, 1) := by decide +kernel
theorem dX7_pixel_213 : decode cX7_pixel 213 = .ok (.getfield 71, 3) := by decide +kernel
theorem dX7_pixel_216 : decode cX7_pixel 216 = .ok (.iconst 0, 1) := by decide +kernel
theorem dX7_pixel_217 : decode cX7_pixel 217 = .ok (.iastore, 1) := by decide +kernel
theorem dX7_pixel_218 : decode cX7_pixel 218 = .ok (.aload_n 0, 1) := by decide +kernel
theorem dX7_pixel_219 : decode cX7_pixel 219 = .ok (.dup, 1) := by decide +kernel
theorem dX7_pixel_220 : decode cX7_pixel 220 = .ok (.getfield 71, 3) := by decide +kernel
theorem dX7_pixel_223 : decode cX7_pixel 223 = .ok (.iconst 1, 1) := by decide +kernel
theorem dX7_pixel_224 : decode cX7_pixel 224 = .ok (.iadd, 1) := by decide +kernel
theorem dX7_pixel_225 : decode cX7_pixel 225 = .ok (.putfield 71, 3) := by decide +kernel
theorem dX7_pixel_228 : decode cX7_pixel 228 = .ok (.aload_n 0, 1) := by decide +kernel
theorem dX7_pixel_229 : decode cX7_pixel 229 = .ok (.getfield 71, 3) := by decide +kernel
theorem dX7_pixel_232 : decode cX7_pixel 232 = .ok (.iconst 1, 1) := by decide +kernel
theorem dX7_pixel_233 : decode cX7_pixel 233 = .ok (.isub, 1) := by decide +kernel
theorem dX7_pixel_234 : decode cX7_pixel 234 = .ok (.ireturn, 1) := by decide +kernel
theorem dX7_isPixel_0 : decode cX7_isPixel 0 = .ok (.iload_n 1, 1) := by decide +kernel
theorem dX7_isPixel_1 : decode cX7_isPixel 1 = .ok (.iconst 0, 1) := by decide +kernel
theorem dX7_isPixel_2 : decode cX7_isPixel 2 = .ok (.aload_n 0, 1) := by decide +kernel
theorem dX7_isPixel_3 : decode cX7_isPixel 3 = .ok (.getfield 71, 3) := by decide +kernel
theorem dX7_isPixel_6 : decode cX7_isPixel 6 = .ok (.iconst 1, 1) := by decide +kernel
theorem dX7_isPixel_7 : decode cX7_isPixel 7 = .ok (.isub, 1) := by decide +kernel
theorem dX7_isPixel_8 : decode cX7_isPixel 8 = .ok (.invokestatic 92, 3) := by decide +kernel
theorem dX7_isPixel_11 : decode cX7_isPixel 11 = .ok (.ireturn, 1) := by decide +kernel
theorem dX7_driven_0 : decode cX7_driven 0 = .ok (.aload_n 0, 1) := by decide +kernel
theorem dX7_driven_1 : decode cX7_driven 1 = .ok (.invokevirtual 118, 3) := by decide +kernel
theorem dX7_driven_4 : decode cX7_driven 4 = .ok (.istore 4, 2) := by decide +kernel
theorem dX7_driven_6 : decode cX7_driven 6 = .ok (.aload_n 0, 1) := by decide +kernel
theorem dX7_driven_7 : decode cX7_driven 7 = .ok (.getfield 38, 3) := by decide +kernel
theorem dX7_driven_10 : decode cX7_driven 10 = .ok (.iload_n 1, 1) := by decide +kernel
theorem dX7_driven_11 : decode cX7_driven 11 = .ok (.iload_n 2, 1) := by decide +kernel
theorem dX7_driven_12 : decode cX7_driven 12 = .ok (.iastore, 1) := by decide +kernel
theorem dX7_driven_13 : decode cX7_driven 13 = .ok (.aload_n 0, 1) := by decide +kernel
theorem dX7_driven_14 : decode cX7_driven 14 = .ok (.getfield 41, 3) := by decide +kernel
theorem dX7_driven_17 : decode cX7_driven 17 = .ok (.iload_n 1, 1) := by decide +kernel
theorem dX7_driven_18 : decode cX7_driven 18 = .ok (.iload_n 3, 1) := by decide +kernel
theorem dX7_driven_19 : decode cX7_driven 19 = .ok (.iastore, 1) := by decide +kernel
theorem dX7_driven_20 : decode cX7_driven 20 = .ok (.aload_n 0, 1) := by decide +kernel
theorem dX7_driven_21 : decode cX7_driven 21 = .ok (.iload 4, 2) := by decide +kernel
theorem dX7_driven_23 : decode cX7_driven 23 = .ok (.invokevirtual 126, 3) := by decide +kernel
theorem dX7_driven_26 : decode cX7_driven 26 = .ok (.ireturn, 1) := by decide +kernel
theorem dX7_drive_0 : decode cX7_drive 0 = .ok (.aload_n 0, 1) := by decide +kernel
theorem dX7_drive_1 : decode cX7_drive 1 = .ok (.iconst 0, 1) := by decide +kernel
theorem dX7_drive_2 : decode cX7_drive 2 = .ok (.putfield 89, 3) := by decide +kernel
theorem dX7_drive_5 : decode cX7_drive 5 = .ok (.aload_n 0, 1) := by decide +kernel
theorem dX7_drive_6 : decode cX7_drive 6 = .ok (.iload_n 1, 1) := by decide +kernel
theorem dX7_drive_7 : decode cX7_drive 7 = .ok (.invokevirtual 133, 3) := by decide +kernel
theorem dX7_drive_10 : decode cX7_drive 10 = .ok (.ifCond .ne 9, 3) := by decide +kernel
theorem dX7_drive_13 : decode cX7_drive 13 = .ok (.aload_n 0, 1) := by decide +kernel
theorem dX7_drive_14 : decode cX7_drive 14 = .ok (.iconst 1, 1) := by decide +kernel
theorem dX7_drive_15 : decode cX7_drive 15 = .ok (.invokevirtual 122, 3) := by decide +kernel
theorem dX7_drive_18 : decode cX7_drive 18 = .ok (.ireturn, 1) := by decide +kernel
theorem dX7_drive_19 : decode cX7_drive 19 = .ok (.iload_n 2, 1) := by decide +kernel
theorem dX7_drive_20 : decode cX7_drive 20 = .ok (.invokestatic 129, 3) := by decide +kernel
theorem dX7_drive_23 : decode cX7_drive 23 = .ok (.ifCond .eq 13, 3) := by decide +kernel
theorem dX7_drive_26 : decode cX7_drive 26 = .ok (.iload_n 3, 1) := by decide +kernel
theorem dX7_drive_27 : decode cX7_drive 27 = .ok (.iconst 0, 1) := by decide +kernel
theorem dX7_drive_28 : decode cX7_drive 28 = .ok (.bipush 100, 2) := by decide +kernel
theorem dX7_drive_30 : decode cX7_drive 30 = .ok (.invokestatic 92, 3) := by decide +kernel
theorem dX7_drive_33 : decode cX7_drive 33 = .ok (.ifCond .ne 9, 3) := by decide +kernel
theorem dX7_drive_36 : decode cX7_drive 36 = .ok (.aload_n 0, 1) := by decide +kernel
theorem dX7_drive_37 : decode cX7_drive 37 = .ok (.iconst 2, 1) := by decide +kernel
theorem dX7_drive_38 : decode cX7_drive 38 = .ok (.invokevirtual 122, 3) := by decide +kernel
theorem dX7_drive_41 : decode cX7_drive 41 = .ok (.ireturn, 1) := by decide +kernel
theorem dX7_drive_42 : decode cX7_drive 42 = .ok (.aload_n 0, 1) := by decide +kernel
theorem dX7_drive_43 : decode cX7_drive 43 = .ok (.iload_n 1, 1) := by decide +kernel
theorem dX7_drive_44 : decode cX7_drive 44 = .ok (.iload_n 2, 1) := by decide +kernel
theorem dX7_drive_45 : decode cX7_drive 45 = .ok (.iload_n 3, 1) := by decide +kernel
theorem dX7_drive_46 : decode cX7_drive 46 = .ok (.invokevirtual 136, 3) := by decide +kernel
theorem dX7_drive_49 : decode cX7_drive 49 = .ok (.ireturn, 1) := by decide +kernel
theorem dX7_program_0 : decode cX7_program 0 = .ok (.aload_n 0, 1) := by decide +kernel
theorem dX7_program_1 : decode cX7_program 1 = .ok (.iconst 0, 1) := by decide +kernel
theorem dX7_program_2 : decode cX7_program 2 = .ok (.putfield 89, 3) := by decide +kernel
theorem dX7_program_5 : decode cX7_program 5 = .ok (.aload_n 0, 1) := by decide +kernel
theorem dX7_program_6 : decode cX7_program 6 = .ok (.iload_n 1, 1) := by decide +kernel
theorem dX7_program_7 : decode cX7_program 7 = .ok (.invokevirtual 133, 3) := by decide +kernel
theorem dX7_program_10 : decode cX7_program 10 = .ok (.ifCond .ne 9, 3) := by decide +kernel
theorem dX7_program_13 : decode cX7_program 13 = .ok (.aload_n 0, 1) := by decide +kernel
theorem dX7_program_14 : decode cX7_program 14 = .ok (.iconst 1, 1) := by decide +kernel
theorem dX7_program_15 : decode cX7_program 15 = .ok (.invokevirtual 122, 3) := by decide +kernel
theorem dX7_program_18 : decode cX7_program 18 = .ok (.ireturn, 1) := by decide +kernel
theorem dX7_program_19 : decode cX7_program 19 = .ok (.iload_n 2, 1) := by decide +kernel
theorem dX7_program_20 : decode cX7_program 20 = .ok (.aload_n 0, 1) := by decide +kernel
theorem dX7_program_21 : decode cX7_program 21 = .ok (.getfield 80, 3) := by decide +kernel
theorem dX7_program_24 : decode cX7_program 24 = .ok (.if_icmp .le 28, 3) := by decide +kernel
theorem dX7_program_27 : decode cX7_program 27 = .ok (.iload_n 2, 1) := by decide +kernel
theorem dX7_program_28 : decode cX7_program 28 = .ok (.sipush 2000, 3) := by decide +kernel
theorem dX7_program_31 : decode cX7_program 31 = .ok (.if_icmp .gt 21, 3) := by decide +kernel
theorem dX7_program_34 : decode cX7_program 34 = .ok (.iload_n 3, 1) := by decide +kernel
theorem dX7_program_35 : decode cX7_program 35 = .ok (.invokestatic 129, 3) := by decide +kernel
theorem dX7_program_38 : decode cX7_program 38 = .ok (.ifCond .eq 14, 3) := by decide +kernel
theorem dX7_program_41 : decode cX7_program 41 = .ok (.iload 4, 2) := by decide +kernel
theorem dX7_program_43 : decode cX7_program 43 = .ok (.iconst 0, 1) := by decide +kernel
theorem dX7_program_44 : decode cX7_program 44 = .ok (.bipush 100, 2) := by decide +kernel
theorem dX7_program_46 : decode cX7_program 46 = .ok (.invokestatic 92, 3) := by decide +kernel
theorem dX7_program_49 : decode cX7_program 49 = .ok (.ifCond .ne 9, 3) := by decide +kernel
theorem dX7_program_52 : decode cX7_program 52 = .ok (.aload_n 0, 1) := by decide +kernel
theorem dX7_program_53 : decode cX7_program 53 = .ok (.iconst 2, 1) := by decide +kernel
theorem dX7_program_54 : decode cX7_program 54 = .ok (.invokevirtual 122, 3) := by decide +kernel
theorem dX7_program_57 : decode cX7_program 57 = .ok (.ireturn, 1) := by decide +kernel
theorem dX7_program_58 : decode cX7_program 58 = .ok (.aload_n 0, 1) := by decide +kernel
theorem dX7_program_59 : decode cX7_program 59 = .ok (.getfield 74, 3) := by decide +kernel
theorem dX7_program_62 : decode cX7_program 62 = .ok (.bipush 40, 2) := by decide +kernel
theorem dX7_program_64 : decode cX7_program 64 = .ok (.if_icmp .ne 9, 3) := by decide +kernel
theorem dX7_program_67 : decode cX7_program 67 = .ok (.aload_n 0, 1) := by decide +kernel
theorem dX7_program_68 : decode cX7_program 68 = .ok (.iconst 3, 1) := by decide +kernel
theorem dX7_program_69 : decode cX7_program 69 = .ok (.invokevirtual 122, 3) := by decide +kernel
theorem dX7_program_72 : decode cX7_program 72 = .ok (.ireturn, 1) := by decide +kernel
theorem dX7_program_73 : decode cX7_program 73 = .ok (.aload_n 0, 1) := by decide +kernel
theorem dX7_program_74 : decode cX7_program 74 = .ok (.getfield 50, 3) := by decide +kernel
theorem dX7_program_77 : decode cX7_program 77 = .ok (.aload_n 0, 1) := by decide +kernel
theorem dX7_program_78 : decode cX7_program 78 = .ok (.getfield 74, 3) := by decide +kernel
theorem dX7_program_81 : decode cX7_program 81 = .ok (.iload_n 1, 1) := by decide +kernel
theorem dX7_program_82 : decode cX7_program 82 = .ok (.iastore, 1) := by decide +kernel
theorem dX7_program_83 : decode cX7_program 83 = .ok (.aload_n 0, 1) := by decide +kernel
theorem dX7_program_84 : decode cX7_program 84 = .ok (.getfield 53, 3) := by decide +kernel
theorem dX7_program_87 : decode cX7_program 87 = .ok (.aload_n 0, 1) := by decide +kernel
theorem dX7_program_88 : decode cX7_program 88 = .ok (.getfield 74, 3) := by decide +kernel
theorem dX7_program_91 : decode cX7_program 91 = .ok (.iload_n 2, 1) := by decide +kernel
theorem dX7_program_92 : decode cX7_program 92 = .ok (.iastore, 1) := by decide +kernel
theorem dX7_program_93 : decode cX7_program 93 = .ok (.aload_n 0, 1) := by decide +kernel
theorem dX7_program_94 : decode cX7_program 94 = .ok (.getfield 56, 3) := by decide +kernel
theorem dX7_program_97 : decode cX7_program 97 = .ok (.aload_n 0, 1) := by decide +kernel
theorem dX7_program_98 : decode cX7_program 98 = .ok (.getfield 74, 3) := by decide +kernel
theorem dX7_program_101 : decode cX7_program 101 = .ok (.iload_n 3, 1) := by decide +kernel
theorem dX7_program_102 : decode cX7_program 102 = .ok (.iastore, 1) := by decide +kernel
theorem dX7_program_103 : decode cX7_program 103 = .ok (.aload_n 0, 1) := by decide +kernel
theorem dX7_program_104 : decode cX7_program 104 = .ok (.getfield 59, 3) := by decide +kernel
theorem dX7_program_107 : decode cX7_program 107 = .ok (.aload_n 0, 1) := by decide +kernel
theorem dX7_program_108 : decode cX7_program 108 = .ok (.getfield 74, 3) := by decide +kernel
theorem dX7_program_111 : decode cX7_program 111 = .ok (.iload 4, 2) := by decide +kernel
theorem dX7_program_113 : decode cX7_program 113 = .ok (.iastore, 1) := by decide +kernel
theorem dX7_program_114 : decode cX7_program 114 = .ok (.aload_n 0, 1) := by decide +kernel
theorem dX7_program_115 : decode cX7_program 115 = .ok (.dup, 1) := by decide +kernel
theorem dX7_program_116 : decode cX7_program 116 = .ok (.getfield 74, 3) := by decide +kernel
theorem dX7_program_119 : decode cX7_program 119 = .ok (.iconst 1, 1) := by decide +kernel
theorem dX7_program_120 : decode cX7_program 120 = .ok (.iadd, 1) := by decide +kernel
theorem dX7_program_121 : decode cX7_program 121 = .ok (.putfield 74, 3) := by decide +kernel
theorem dX7_program_124 : decode cX7_program 124 = .ok (.aload_n 0, 1) := by decide +kernel
theorem dX7_program_125 : decode cX7_program 125 = .ok (.getfield 74, 3) := by decide +kernel
theorem dX7_program_128 : decode cX7_program 128 = .ok (.ireturn, 1) := by decide +kernel
theorem dX7_driveAll_0 : decode cX7_driveAll 0 = .ok (.iconst 0, 1) := by decide +kernel
theorem dX7_driveAll_1 : decode cX7_driveAll 1 = .ok (.istore_n 1, 1) := by decide +kernel
theorem dX7_driveAll_2 : decode cX7_driveAll 2 = .ok (.iconst 0, 1) := by decide +kernel
theorem dX7_driveAll_3 : decode cX7_driveAll 3 = .ok (.istore_n 2, 1) := by decide +kernel
theorem dX7_driveAll_4 : decode cX7_driveAll 4 = .ok (.iload_n 2, 1) := by decide +kernel
theorem dX7_driveAll_5 : decode cX7_driveAll 5 = .ok (.aload_n 0, 1) := by decide +kernel
theorem dX7_driveAll_6 : decode cX7_driveAll 6 = .ok (.getfield 74, 3) := by decide +kernel
theorem dX7_driveAll_9 : decode cX7_driveAll 9 = .ok (.if_icmp .ge 99, 3) := by decide +kernel
theorem dX7_driveAll_12 : decode cX7_driveAll 12 = .ok (.aload_n 0, 1) := by decide +kernel
theorem dX7_driveAll_13 : decode cX7_driveAll 13 = .ok (.getfield 53, 3) := by decide +kernel
theorem dX7_driveAll_16 : decode cX7_driveAll 16 = .ok (.iload_n 2, 1) := by decide +kernel
theorem dX7_driveAll_17 : decode cX7_driveAll 17 = .ok (.iaload, 1) := by decide +kernel
theorem dX7_driveAll_18 : decode cX7_driveAll 18 = .ok (.aload_n 0, 1) := by decide +kernel
theorem dX7_driveAll_19 : decode cX7_driveAll 19 = .ok (.getfield 80, 3) := by decide +kernel
theorem dX7_driveAll_22 : decode cX7_driveAll 22 = .ok (.if_icmp .ne 29, 3) := by decide +kernel
theorem dX7_driveAll_25 : decode cX7_driveAll 25 = .ok (.aload_n 0, 1) := by decide +kernel
theorem dX7_driveAll_26 : decode cX7_driveAll 26 = .ok (.aload_n 0, 1) := by decide +kernel
theorem dX7_driveAll_27 : decode cX7_driveAll 27 = .ok (.getfield 50, 3) := by decide +kernel
theorem dX7_driveAll_30 : decode cX7_driveAll 30 = .ok (.iload_n 2, 1) := by decide +kernel
theorem dX7_driveAll_31 : decode cX7_driveAll 31 = .ok (.iaload, 1) := by decide +kernel
theorem dX7_driveAll_32 : decode cX7_driveAll 32 = .ok (.aload_n 0, 1) := by decide +kernel
theorem dX7_driveAll_33 : decode cX7_driveAll 33 = .ok (.getfield 56, 3) := by decide +kernel
theorem dX7_driveAll_36 : decode cX7_driveAll 36 = .ok (.iload_n 2, 1) := by decide +kernel
theorem dX7_driveAll_37 : decode cX7_driveAll 37 = .ok (.iaload, 1) := by decide +kernel
theorem dX7_driveAll_38 : decode cX7_driveAll 38 = .ok (.aload_n 0, 1) := by decide +kernel
theorem dX7_driveAll_39 : decode cX7_driveAll 39 = .ok (.getfield 59, 3) := by decide +kernel
theorem dX7_driveAll_42 : decode cX7_driveAll 42 = .ok (.iload_n 2, 1) := by decide +kernel
theorem dX7_driveAll_43 : decode cX7_driveAll 43 = .ok (.iaload, 1) := by decide +kernel
theorem dX7_driveAll_44 : decode cX7_driveAll 44 = .ok (.invokevirtual 136, 3) := by decide +kernel
theorem dX7_driveAll_47 : decode cX7_driveAll 47 = .ok (.pop, 1) := by decide +kernel
theorem dX7_driveAll_48 : decode cX7_driveAll 48 = .ok (.goto 54, 3) := by decide +kernel
theorem dX7_driveAll_51 : decode cX7_driveAll 51 = .ok (.aload_n 0, 1) := by decide +kernel
theorem dX7_driveAll_52 : decode cX7_driveAll 52 = .ok (.getfield 50, 3) := by decide +kernel
theorem dX7_driveAll_55 : decode cX7_driveAll 55 = .ok (.iload_n 1, 1) := by decide +kernel
theorem dX7_driveAll_56 : decode cX7_driveAll 56 = .ok (.aload_n 0, 1) := by decide +kernel
theorem dX7_driveAll_57 : decode cX7_driveAll 57 = .ok (.getfield 50, 3) := by decide +kernel
theorem dX7_driveAll_60 : decode cX7_driveAll 60 = .ok (.iload_n 2, 1) := by decide +kernel
theorem dX7_driveAll_61 : decode cX7_driveAll 61 = .ok (.iaload, 1) := by decide +kernel
theorem dX7_driveAll_62 : decode cX7_driveAll 62 = .ok (.iastore, 1) := by decide +kernel
theorem dX7_driveAll_63 : decode cX7_driveAll 63 = .ok (.aload_n 0, 1) := by decide +kernel
theorem dX7_driveAll_64 : decode cX7_driveAll 64 = .ok (.getfield 53, 3) := by decide +kernel
theorem dX7_driveAll_67 : decode cX7_driveAll 67 = .ok (.iload_n 1, 1) := by decide +kernel
theorem dX7_driveAll_68 : decode cX7_driveAll 68 = .ok (.aload_n 0, 1) := by decide +kernel
theorem dX7_driveAll_69 : decode cX7_driveAll 69 = .ok (.getfield 53, 3) := by decide +kernel
theorem dX7_driveAll_72 : decode cX7_driveAll 72 = .ok (.iload_n 2, 1) := by decide +kernel
theorem dX7_driveAll_73 : decode cX7_driveAll 73 = .ok (.iaload, 1) := by decide +kernel
theorem dX7_driveAll_74 : decode cX7_driveAll 74 = .ok (.iastore, 1) := by decide +kernel
theorem dX7_driveAll_75 : decode cX7_driveAll 75 = .ok (.aload_n 0, 1) := by decide +kernel
theorem dX7_driveAll_76 : decode cX7_driveAll 76 = .ok (.getfield 56, 3) := by decide +kernel
theorem dX7_driveAll_79 : decode cX7_driveAll 79 = .ok (.iload_n 1, 1) := by decide +kernel
theorem dX7_driveAll_80 : decode cX7_driveAll 80 = .ok (.aload_n 0, 1) := by decide +kernel
theorem dX7_driveAll_81 : decode cX7_driveAll 81 = .ok (.getfield 56, 3) := by decide +kernel
theorem dX7_driveAll_84 : decode cX7_driveAll 84 = .ok (.iload_n 2, 1) := by decide +kernel
theorem dX7_driveAll_85 : decode cX7_driveAll 85 = .ok (.iaload, 1) := by decide +kernel
theorem dX7_driveAll_86 : decode cX7_driveAll 86 = .ok (.iastore, 1) := by decide +kernel
theorem dX7_driveAll_87 : decode cX7_driveAll 87 = .ok (.aload_n 0, 1) := by decide +kernel
theorem dX7_driveAll_88 : decode cX7_driveAll 88 = .ok (.getfield 59, 3) := by decide +kernel
theorem dX7_driveAll_91 : decode cX7_driveAll 91 = .ok (.iload_n 1, 1) := by decide +kernel
theorem dX7_driveAll_92 : decode cX7_driveAll 92 = .ok (.aload_n 0, 1) := by decide +kernel
theorem dX7_driveAll_93 : decode cX7_driveAll 93 = .ok (.getfield 59, 3) := by decide +kernel
theorem dX7_driveAll_96 : decode cX7_driveAll 96 = .ok (.iload_n 2, 1) := by decide +kernel
theorem dX7_driveAll_97 : decode cX7_driveAll 97 = .ok (.iaload, 1) := by decide +kernel
theorem dX7_driveAll_98 : decode cX7_driveAll 98 = .ok (.iastore, 1) := by decide +kernel
theorem dX7_driveAll_99 : decode cX7_driveAll 99 = .ok (.iinc 1 1, 3) := by decide +kernel
theorem dX7_driveAll_102 : decode cX7_driveAll 102 = .ok (.iinc 2 1, 3) := by decide +kernel
theorem dX7_driveAll_105 : decode cX7_driveAll 105 = .ok (.goto (-101), 3) := by decide +kernel
theorem dX7_driveAll_108 : decode cX7_driveAll 108 = .ok (.aload_n 0, 1) := by decide +kernel
theorem dX7_driveAll_109 : decode cX7_driveAll 109 = .ok (.iload_n 1, 1) := by decide +kernel
theorem dX7_driveAll_110 : decode cX7_driveAll 110 = .ok (.putfield 74, 3) := by decide +kernel
theorem dX7_driveAll_113 : decode cX7_driveAll 113 = .ok (.return_, 1) := by decide +kernel
theorem dX7_relax_0 : decode cX7_relax 0 = .ok (.iload_n 1, 1) := by decide +kernel
theorem dX7_relax_1 : decode cX7_relax 1 = .ok (.iload_n 2, 1) := by decide +kernel
theorem dX7_relax_2 : decode cX7_relax 2 = .ok (.invokestatic 100, 3) := by decide +kernel
theorem dX7_relax_5 : decode cX7_relax 5 = .ok (.istore_n 3, 1) := by decide +kernel
theorem dX7_relax_6 : decode cX7_relax 6 = .ok (.aload_n 0, 1) := by decide +kernel
theorem dX7_relax_7 : decode cX7_relax 7 = .ok (.getfield 26, 3) := by decide +kernel
theorem dX7_relax_10 : decode cX7_relax 10 = .ok (.iload_n 3, 1) := by decide +kernel
theorem dX7_relax_11 : decode cX7_relax 11 = .ok (.iaload, 1) := by decide +kernel
theorem dX7_relax_12 : decode cX7_relax 12 = .ok (.iconst 1, 1) := by decide +kernel
theorem dX7_relax_13 : decode cX7_relax 13 = .ok (.if_icmp .ne 5, 3) := by decide +kernel
theorem dX7_relax_16 : decode cX7_relax 16 = .ok (.iconst 0, 1) := by decide +kernel
theorem dX7_relax_17 : decode cX7_relax 17 = .ok (.ireturn, 1) := by decide +kernel
theorem dX7_relax_18 : decode cX7_relax 18 = .ok (.aload_n 0, 1) := by decide +kernel
theorem dX7_relax_19 : decode cX7_relax 19 = .ok (.iload_n 1, 1) := by decide +kernel
theorem dX7_relax_20 : decode cX7_relax 20 = .ok (.iload_n 2, 1) := by decide +kernel
theorem dX7_relax_21 : decode cX7_relax 21 = .ok (.aload_n 0, 1) := by decide +kernel
theorem dX7_relax_22 : decode cX7_relax 22 = .ok (.getfield 22, 3) := by decide +kernel
theorem dX7_relax_25 : decode cX7_relax 25 = .ok (.iload_n 3, 1) := by decide +kernel
theorem dX7_relax_26 : decode cX7_relax 26 = .ok (.iaload, 1) := by decide +kernel
theorem dX7_relax_27 : decode cX7_relax 27 = .ok (.invokevirtual 139, 3) := by decide +kernel
theorem dX7_relax_30 : decode cX7_relax 30 = .ok (.istore 4, 2) := by decide +kernel
theorem dX7_relax_32 : decode cX7_relax 32 = .ok (.aload_n 0, 1) := by decide +kernel
theorem dX7_relax_33 : decode cX7_relax 33 = .ok (.getfield 22, 3) := by decide +kernel
theorem dX7_relax_36 : decode cX7_relax 36 = .ok (.iload_n 3, 1) := by decide +kernel
theorem dX7_relax_37 : decode cX7_relax 37 = .ok (.iaload, 1) := by decide +kernel
theorem dX7_relax_38 : decode cX7_relax 38 = .ok (.bipush 15, 2) := by decide +kernel
theorem dX7_relax_40 : decode cX7_relax 40 = .ok (.iadd, 1) := by decide +kernel
theorem dX7_relax_41 : decode cX7_relax 41 = .ok (.iconst 1, 1) := by decide +kernel
theorem dX7_relax_42 : decode cX7_relax 42 = .ok (.isub, 1) := by decide +kernel
theorem dX7_relax_43 : decode cX7_relax 43 = .ok (.bipush 15, 2) := by decide +kernel
theorem dX7_relax_45 : decode cX7_relax 45 = .ok (.irem, 1) := by decide +kernel
theorem dX7_relax_46 : decode cX7_relax 46 = .ok (.istore 5, 2) := by decide +kernel
theorem dX7_relax_48 : decode cX7_relax 48 = .ok (.aload_n 0, 1) := by decide +kernel
theorem dX7_relax_49 : decode cX7_relax 49 = .ok (.getfield 22, 3) := by decide +kernel
theorem dX7_relax_52 : decode cX7_relax 52 = .ok (.iload_n 3, 1) := by decide +kernel
theorem dX7_relax_53 : decode cX7_relax 53 = .ok (.iaload, 1) := by decide +kernel
theorem dX7_relax_54 : decode cX7_relax 54 = .ok (.iconst 1, 1) := by decide +kernel
theorem dX7_relax_55 : decode cX7_relax 55 = .ok (.iadd, 1) := by decide +kernel
theorem dX7_relax_56 : decode cX7_relax 56 = .ok (.bipush 15, 2) := by decide +kernel
theorem dX7_relax_58 : decode cX7_relax 58 = .ok (.irem, 1) := by decide +kernel
theorem dX7_relax_59 : decode cX7_relax 59 = .ok (.istore 6, 2) := by decide +kernel
theorem dX7_relax_61 : decode cX7_relax 61 = .ok (.iload 4, 2) := by decide +kernel
theorem dX7_relax_63 : decode cX7_relax 63 = .ok (.istore 7, 2) := by decide +kernel
theorem dX7_relax_65 : decode cX7_relax 65 = .ok (.aload_n 0, 1) := by decide +kernel
theorem dX7_relax_66 : decode cX7_relax 66 = .ok (.getfield 22, 3) := by decide +kernel
theorem dX7_relax_69 : decode cX7_relax 69 = .ok (.iload_n 3, 1) := by decide +kernel
theorem dX7_relax_70 : decode cX7_relax 70 = .ok (.iaload, 1) := by decide +kernel
theorem dX7_relax_71 : decode cX7_relax 71 = .ok (.istore 8, 2) := by decide +kernel
theorem dX7_relax_73 : decode cX7_relax 73 = .ok (.aload_n 0, 1) := by decide +kernel
theorem dX7_relax_74 : decode cX7_relax 74 = .ok (.iload_n 1, 1) := by decide +kernel
theorem dX7_relax_75 : decode cX7_relax 75 = .ok (.iload_n 2, 1) := by decide +kernel
theorem dX7_relax_76 : decode cX7_relax 76 = .ok (.iload 5, 2) := by decide +kernel
theorem dX7_relax_78 : decode cX7_relax 78 = .ok (.invokevirtual 139, 3) := by decide +kernel
theorem dX7_relax_81 : decode cX7_relax 81 = .ok (.iload 7, 2) := by decide +kernel
theorem dX7_relax_83 : decode cX7_relax 83 = .ok (.if_icmp .ge 17, 3) := by decide +kernel
theorem dX7_relax_86 : decode cX7_relax 86 = .ok (.aload_n 0, 1) := by decide +kernel
theorem dX7_relax_87 : decode cX7_relax 87 = .ok (.iload_n 1, 1) := by decide +kernel
theorem dX7_relax_88 : decode cX7_relax 88 = .ok (.iload_n 2, 1) := by decide +kernel
theorem dX7_relax_89 : decode cX7_relax 89 = .ok (.iload 5, 2) := by decide +kernel
theorem dX7_relax_91 : decode cX7_relax 91 = .ok (.invokevirtual 139, 3) := by decide +kernel
theorem dX7_relax_94 : decode cX7_relax 94 = .ok (.istore 7, 2) := by decide +kernel
theorem dX7_relax_96 : decode cX7_relax 96 = .ok (.iload 5, 2) := by decide +kernel
theorem dX7_relax_98 : decode cX7_relax 98 = .ok (.istore 8, 2) := by decide +kernel
theorem dX7_relax_100 : decode cX7_relax 100 = .ok (.aload_n 0, 1) := by decide +kernel
theorem dX7_relax_101 : decode cX7_relax 101 = .ok (.iload_n 1, 1) := by decide +kernel
theorem dX7_relax_102 : decode cX7_relax 102 = .ok (.iload_n 2, 1) := by decide +kernel
theorem dX7_relax_103 : decode cX7_relax 103 = .ok (.iload 6, 2) := by decide +kernel
theorem dX7_relax_105 : decode cX7_relax 105 = .ok (.invokevirtual 139, 3) := by decide +kernel
theorem dX7_relax_108 : decode cX7_relax 108 = .ok (.iload 7, 2) := by decide +kernel
theorem dX7_relax_110 : decode cX7_relax 110 = .ok (.if_icmp .ge 17, 3) := by decide +kernel
theorem dX7_relax_113 : decode cX7_relax 113 = .ok (.aload_n 0, 1) := by decide +kernel
theorem dX7_relax_114 : decode cX7_relax 114 = .ok (.iload_n 1, 1) := by decide +kernel
theorem dX7_relax_115 : decode cX7_relax 115 = .ok (.iload_n 2, 1) := by decide +kernel
theorem dX7_relax_116 : decode cX7_relax 116 = .ok (.iload 6, 2) := by decide +kernel
theorem dX7_relax_118 : decode cX7_relax 118 = .ok (.invokevirtual 139, 3) := by decide +kernel
theorem dX7_relax_121 : decode cX7_relax 121 = .ok (.istore 7, 2) := by decide +kernel
theorem dX7_relax_123 : decode cX7_relax 123 = .ok (.iload 6, 2) := by decide +kernel
theorem dX7_relax_125 : decode cX7_relax 125 = .ok (.istore 8, 2) := by decide +kernel
theorem dX7_relax_127 : decode cX7_relax 127 = .ok (.aload_n 0, 1) := by decide +kernel
theorem dX7_relax_128 : decode cX7_relax 128 = .ok (.getfield 22, 3) := by decide +kernel
theorem dX7_relax_131 : decode cX7_relax 131 = .ok (.iload_n 3, 1) := by decide +kernel
theorem dX7_relax_132 : decode cX7_relax 132 = .ok (.iload 8, 2) := by decide +kernel
theorem dX7_relax_134 : decode cX7_relax 134 = .ok (.iastore, 1) := by decide +kernel
theorem dX7_relax_135 : decode cX7_relax 135 = .ok (.iload 4, 2) := by decide +kernel
theorem dX7_relax_137 : decode cX7_relax 137 = .ok (.iload 7, 2) := by decide +kernel
theorem dX7_relax_139 : decode cX7_relax 139 = .ok (.isub, 1) := by decide +kernel
theorem dX7_relax_140 : decode cX7_relax 140 = .ok (.ireturn, 1) := by decide +kernel
theorem dX7_greyOf_0 : decode cX7_greyOf 0 = .ok (.iload_n 0, 1) := by decide +kernel
theorem dX7_greyOf_1 : decode cX7_greyOf 1 = .ok (.tableswitch 63 0 6 #[43, 45, 48, 51, 54, 57, 60], 43) := by decide +kernel
theorem dX7_greyOf_44 : decode cX7_greyOf 44 = .ok (.iconst 0, 1) := by decide +kernel
theorem dX7_greyOf_45 : decode cX7_greyOf 45 = .ok (.ireturn, 1) := by decide +kernel
theorem dX7_greyOf_46 : decode cX7_greyOf 46 = .ok (.bipush 17, 2) := by decide +kernel
theorem dX7_greyOf_48 : decode cX7_greyOf 48 = .ok (.ireturn, 1) := by decide +kernel
theorem dX7_greyOf_49 : decode cX7_greyOf 49 = .ok (.bipush 55, 2) := by decide +kernel
theorem dX7_greyOf_51 : decode cX7_greyOf 51 = .ok (.ireturn, 1) := by decide +kernel
theorem dX7_greyOf_52 : decode cX7_greyOf 52 = .ok (.bipush 90, 2) := by decide +kernel
theorem dX7_greyOf_54 : decode cX7_greyOf 54 = .ok (.ireturn, 1) := by decide +kernel
theorem dX7_greyOf_55 : decode cX7_greyOf 55 = .ok (.bipush 99, 2) := by decide +kernel
theorem dX7_greyOf_57 : decode cX7_greyOf 57 = .ok (.ireturn, 1) := by decide +kernel
theorem dX7_greyOf_58 : decode cX7_greyOf 58 = .ok (.bipush 75, 2) := by decide +kernel
theorem dX7_greyOf_60 : decode cX7_greyOf 60 = .ok (.ireturn, 1) := by decide +kernel
theorem dX7_greyOf_61 : decode cX7_greyOf 61 = .ok (.bipush 35, 2) := by decide +kernel
theorem dX7_greyOf_63 : decode cX7_greyOf 63 = .ok (.ireturn, 1) := by decide +kernel
theorem dX7_greyOf_64 : decode cX7_greyOf 64 = .ok (.iconst 4, 1) := by decide +kernel
theorem dX7_greyOf_65 : decode cX7_greyOf 65 = .ok (.ireturn, 1) := by decide +kernel
theorem dX7_greyAt_0 : decode cX7_greyAt 0 = .ok (.aload_n 0, 1) := by decide +kernel
theorem dX7_greyAt_1 : decode cX7_greyAt 1 = .ok (.getfield 22, 3) := by decide +kernel
theorem dX7_greyAt_4 : decode cX7_greyAt 4 = .ok (.iload_n 1, 1) := by decide +kernel
theorem dX7_greyAt_5 : decode cX7_greyAt 5 = .ok (.iload_n 2, 1) := by decide +kernel
theorem dX7_greyAt_6 : decode cX7_greyAt 6 = .ok (.invokestatic 100, 3) := by decide +kernel
theorem dX7_greyAt_9 : decode cX7_greyAt 9 = .ok (.iaload, 1) := by decide +kernel
theorem dX7_greyAt_10 : decode cX7_greyAt 10 = .ok (.iload_n 3, 1) := by decide +kernel
theorem dX7_greyAt_11 : decode cX7_greyAt 11 = .ok (.invokestatic 142, 3) := by decide +kernel
theorem dX7_greyAt_14 : decode cX7_greyAt 14 = .ok (.invokestatic 145, 3) := by decide +kernel
theorem dX7_greyAt_17 : decode cX7_greyAt 17 = .ok (.ireturn, 1) := by decide +kernel
theorem dX7_greyOfPixel_0 : decode cX7_greyOfPixel 0 = .ok (.iconst 0, 1) := by decide +kernel
theorem dX7_greyOfPixel_1 : decode cX7_greyOfPixel 1 = .ok (.istore_n 2, 1) := by decide +kernel
theorem dX7_greyOfPixel_2 : decode cX7_greyOfPixel 2 = .ok (.iconst 0, 1) := by decide +kernel
theorem dX7_greyOfPixel_3 : decode cX7_greyOfPixel 3 = .ok (.istore_n 3, 1) := by decide +kernel
theorem dX7_greyOfPixel_4 : decode cX7_greyOfPixel 4 = .ok (.iconst 0, 1) := by decide +kernel
theorem dX7_greyOfPixel_5 : decode cX7_greyOfPixel 5 = .ok (.istore 4, 2) := by decide +kernel
theorem dX7_greyOfPixel_7 : decode cX7_greyOfPixel 7 = .ok (.iload 4, 2) := by decide +kernel
theorem dX7_greyOfPixel_9 : decode cX7_greyOfPixel 9 = .ok (.aload_n 0, 1) := by decide +kernel
theorem dX7_greyOfPixel_10 : decode cX7_greyOfPixel 10 = .ok (.getfield 13, 3) := by decide +kernel
theorem dX7_greyOfPixel_13 : decode cX7_greyOfPixel 13 = .ok (.if_icmp .ge 61, 3) := by decide +kernel
theorem dX7_greyOfPixel_16 : decode cX7_greyOfPixel 16 = .ok (.iconst 0, 1) := by decide +kernel
theorem dX7_greyOfPixel_17 : decode cX7_greyOfPixel 17 = .ok (.istore 5, 2) := by decide +kernel
theorem dX7_greyOfPixel_19 : decode cX7_greyOfPixel 19 = .ok (.iload 5, 2) := by decide +kernel
theorem dX7_greyOfPixel_21 : decode cX7_greyOfPixel 21 = .ok (.aload_n 0, 1) := by decide +kernel
theorem dX7_greyOfPixel_22 : decode cX7_greyOfPixel 22 = .ok (.getfield 7, 3) := by decide +kernel
theorem dX7_greyOfPixel_25 : decode cX7_greyOfPixel 25 = .ok (.if_icmp .ge 43, 3) := by decide +kernel
theorem dX7_greyOfPixel_28 : decode cX7_greyOfPixel 28 = .ok (.aload_n 0, 1) := by decide +kernel
theorem dX7_greyOfPixel_29 : decode cX7_greyOfPixel 29 = .ok (.getfield 35, 3) := by decide +kernel
theorem dX7_greyOfPixel_32 : decode cX7_greyOfPixel 32 = .ok (.iload 5, 2) := by decide +kernel
theorem dX7_greyOfPixel_34 : decode cX7_greyOfPixel 34 = .ok (.iload 4, 2) := by decide +kernel
theorem dX7_greyOfPixel_36 : decode cX7_greyOfPixel 36 = .ok (.invokestatic 100, 3) := by decide +kernel
theorem dX7_greyOfPixel_39 : decode cX7_greyOfPixel 39 = .ok (.iaload, 1) := by decide +kernel
theorem dX7_greyOfPixel_40 : decode cX7_greyOfPixel 40 = .ok (.iload_n 1, 1) := by decide +kernel
theorem dX7_greyOfPixel_41 : decode cX7_greyOfPixel 41 = .ok (.if_icmp .ne 21, 3) := by decide +kernel
theorem dX7_greyOfPixel_44 : decode cX7_greyOfPixel 44 = .ok (.iload_n 2, 1) := by decide +kernel
theorem dX7_greyOfPixel_45 : decode cX7_greyOfPixel 45 = .ok (.aload_n 0, 1) := by decide +kernel
theorem dX7_greyOfPixel_46 : decode cX7_greyOfPixel 46 = .ok (.iload 5, 2) := by decide +kernel
theorem dX7_greyOfPixel_48 : decode cX7_greyOfPixel 48 = .ok (.iload 4, 2) := by decide +kernel
theorem dX7_greyOfPixel_50 : decode cX7_greyOfPixel 50 = .ok (.aload_n 0, 1) := by decide +kernel
theorem dX7_greyOfPixel_51 : decode cX7_greyOfPixel 51 = .ok (.getfield 148, 3) := by decide +kernel
theorem dX7_greyOfPixel_54 : decode cX7_greyOfPixel 54 = .ok (.invokevirtual 151, 3) := by decide +kernel
theorem dX7_greyOfPixel_57 : decode cX7_greyOfPixel 57 = .ok (.iadd, 1) := by decide +kernel
theorem dX7_greyOfPixel_58 : decode cX7_greyOfPixel 58 = .ok (.istore_n 2, 1) := by decide +kernel
theorem dX7_greyOfPixel_59 : decode cX7_greyOfPixel 59 = .ok (.iinc 3 1, 3) := by decide +kernel
theorem dX7_greyOfPixel_62 : decode cX7_greyOfPixel 62 = .ok (.iinc 5 1, 3) := by decide +kernel
theorem dX7_greyOfPixel_65 : decode cX7_greyOfPixel 65 = .ok (.goto (-46), 3) := by decide +kernel
theorem dX7_greyOfPixel_68 : decode cX7_greyOfPixel 68 = .ok (.iinc 4 1, 3) := by decide +kernel
theorem dX7_greyOfPixel_71 : decode cX7_greyOfPixel 71 = .ok (.goto (-64), 3) := by decide +kernel
theorem dX7_greyOfPixel_74 : decode cX7_greyOfPixel 74 = .ok (.iload_n 2, 1) := by decide +kernel
theorem dX7_greyOfPixel_75 : decode cX7_greyOfPixel 75 = .ok (.iload_n 3, 1) := by decide +kernel
theorem dX7_greyOfPixel_76 : decode cX7_greyOfPixel 76 = .ok (.idiv, 1) := by decide +kernel
theorem dX7_greyOfPixel_77 : decode cX7_greyOfPixel 77 = .ok (.ireturn, 1) := by decide +kernel
theorem dX7_tick_0 : decode cX7_tick 0 = .ok (.aload_n 0, 1) := by decide +kernel
theorem dX7_tick_1 : decode cX7_tick 1 = .ok (.iconst 0, 1) := by decide +kernel
theorem dX7_tick_2 : decode cX7_tick 2 = .ok (.putfield 89, 3) := by decide +kernel
theorem dX7_tick_5 : decode cX7_tick 5 = .ok (.iload_n 1, 1) := by decide +kernel
theorem dX7_tick_6 : decode cX7_tick 6 = .ok (.iconst 1, 1) := by decide +kernel
theorem dX7_tick_7 : decode cX7_tick 7 = .ok (.bipush 50, 2) := by decide +kernel
theorem dX7_tick_9 : decode cX7_tick 9 = .ok (.invokestatic 92, 3) := by decide +kernel
theorem dX7_tick_12 : decode cX7_tick 12 = .ok (.ifCond .ne 9, 3) := by decide +kernel
theorem dX7_tick_15 : decode cX7_tick 15 = .ok (.aload_n 0, 1) := by decide +kernel
theorem dX7_tick_16 : decode cX7_tick 16 = .ok (.iconst 1, 1) := by decide +kernel
theorem dX7_tick_17 : decode cX7_tick 17 = .ok (.invokevirtual 122, 3) := by decide +kernel
theorem dX7_tick_20 : decode cX7_tick 20 = .ok (.ireturn, 1) := by decide +kernel
theorem dX7_tick_21 : decode cX7_tick 21 = .ok (.aload_n 0, 1) := by decide +kernel
theorem dX7_tick_22 : decode cX7_tick 22 = .ok (.getfield 80, 3) := by decide +kernel
theorem dX7_tick_25 : decode cX7_tick 25 = .ok (.iload_n 1, 1) := by decide +kernel
theorem dX7_tick_26 : decode cX7_tick 26 = .ok (.iadd, 1) := by decide +kernel
theorem dX7_tick_27 : decode cX7_tick 27 = .ok (.sipush 2000, 3) := by decide +kernel
theorem dX7_tick_30 : decode cX7_tick 30 = .ok (.if_icmp .le 9, 3) := by decide +kernel
theorem dX7_tick_33 : decode cX7_tick 33 = .ok (.aload_n 0, 1) := by decide +kernel
theorem dX7_tick_34 : decode cX7_tick 34 = .ok (.iconst 2, 1) := by decide +kernel
theorem dX7_tick_35 : decode cX7_tick 35 = .ok (.invokevirtual 122, 3) := by decide +kernel
theorem dX7_tick_38 : decode cX7_tick 38 = .ok (.ireturn, 1) := by decide +kernel
theorem dX7_tick_39 : decode cX7_tick 39 = .ok (.iconst 0, 1) := by decide +kernel
theorem dX7_tick_40 : decode cX7_tick 40 = .ok (.istore_n 2, 1) := by decide +kernel
theorem dX7_tick_41 : decode cX7_tick 41 = .ok (.iconst 0, 1) := by decide +kernel
theorem dX7_tick_42 : decode cX7_tick 42 = .ok (.istore_n 3, 1) := by decide +kernel
theorem dX7_tick_43 : decode cX7_tick 43 = .ok (.iload_n 3, 1) := by decide +kernel
theorem dX7_tick_44 : decode cX7_tick 44 = .ok (.iload_n 1, 1) := by decide +kernel
theorem dX7_tick_45 : decode cX7_tick 45 = .ok (.if_icmp .ge 126, 3) := by decide +kernel
theorem dX7_tick_48 : decode cX7_tick 48 = .ok (.aload_n 0, 1) := by decide +kernel
theorem dX7_tick_49 : decode cX7_tick 49 = .ok (.dup, 1) := by decide +kernel
theorem dX7_tick_50 : decode cX7_tick 50 = .ok (.getfield 80, 3) := by decide +kernel
theorem dX7_tick_53 : decode cX7_tick 53 = .ok (.iconst 1, 1) := by decide +kernel
theorem dX7_tick_54 : decode cX7_tick 54 = .ok (.iadd, 1) := by decide +kernel
theorem dX7_tick_55 : decode cX7_tick 55 = .ok (.putfield 80, 3) := by decide +kernel
theorem dX7_tick_58 : decode cX7_tick 58 = .ok (.aload_n 0, 1) := by decide +kernel
theorem dX7_tick_59 : decode cX7_tick 59 = .ok (.invokevirtual 154, 3) := by decide +kernel
theorem dX7_tick_62 : decode cX7_tick 62 = .ok (.iconst 0, 1) := by decide +kernel
theorem dX7_tick_63 : decode cX7_tick 63 = .ok (.istore 4, 2) := by decide +kernel
theorem dX7_tick_65 : decode cX7_tick 65 = .ok (.iload 4, 2) := by decide +kernel
theorem dX7_tick_67 : decode cX7_tick 67 = .ok (.aload_n 0, 1) := by decide +kernel
theorem dX7_tick_68 : decode cX7_tick 68 = .ok (.getfield 13, 3) := by decide +kernel
theorem dX7_tick_71 : decode cX7_tick 71 = .ok (.if_icmp .ge 38, 3) := by decide +kernel
theorem dX7_tick_74 : decode cX7_tick 74 = .ok (.iconst 0, 1) := by decide +kernel
theorem dX7_tick_75 : decode cX7_tick 75 = .ok (.istore 5, 2) := by decide +kernel
theorem dX7_tick_77 : decode cX7_tick 77 = .ok (.iload 5, 2) := by decide +kernel
theorem dX7_tick_79 : decode cX7_tick 79 = .ok (.aload_n 0, 1) := by decide +kernel
theorem dX7_tick_80 : decode cX7_tick 80 = .ok (.getfield 7, 3) := by decide +kernel
theorem dX7_tick_83 : decode cX7_tick 83 = .ok (.if_icmp .ge 20, 3) := by decide +kernel
theorem dX7_tick_86 : decode cX7_tick 86 = .ok (.iload_n 2, 1) := by decide +kernel
theorem dX7_tick_87 : decode cX7_tick 87 = .ok (.aload_n 0, 1) := by decide +kernel
theorem dX7_tick_88 : decode cX7_tick 88 = .ok (.iload 5, 2) := by decide +kernel
theorem dX7_tick_90 : decode cX7_tick 90 = .ok (.iload 4, 2) := by decide +kernel
theorem dX7_tick_92 : decode cX7_tick 92 = .ok (.invokevirtual 157, 3) := by decide +kernel
theorem dX7_tick_95 : decode cX7_tick 95 = .ok (.iadd, 1) := by decide +kernel
theorem dX7_tick_96 : decode cX7_tick 96 = .ok (.istore_n 2, 1) := by decide +kernel
theorem dX7_tick_97 : decode cX7_tick 97 = .ok (.iinc 5 1, 3) := by decide +kernel
theorem dX7_tick_100 : decode cX7_tick 100 = .ok (.goto (-23), 3) := by decide +kernel
theorem dX7_tick_103 : decode cX7_tick 103 = .ok (.iinc 4 1, 3) := by decide +kernel
theorem dX7_tick_106 : decode cX7_tick 106 = .ok (.goto (-41), 3) := by decide +kernel
theorem dX7_tick_109 : decode cX7_tick 109 = .ok (.iconst 0, 1) := by decide +kernel
theorem dX7_tick_110 : decode cX7_tick 110 = .ok (.istore 4, 2) := by decide +kernel
theorem dX7_tick_112 : decode cX7_tick 112 = .ok (.iload 4, 2) := by decide +kernel
theorem dX7_tick_114 : decode cX7_tick 114 = .ok (.aload_n 0, 1) := by decide +kernel
theorem dX7_tick_115 : decode cX7_tick 115 = .ok (.getfield 71, 3) := by decide +kernel
theorem dX7_tick_118 : decode cX7_tick 118 = .ok (.if_icmp .ge 47, 3) := by decide +kernel
theorem dX7_tick_121 : decode cX7_tick 121 = .ok (.aload_n 0, 1) := by decide +kernel
theorem dX7_tick_122 : decode cX7_tick 122 = .ok (.getfield 44, 3) := by decide +kernel
theorem dX7_tick_125 : decode cX7_tick 125 = .ok (.bipush 8, 2) := by decide +kernel
theorem dX7_tick_127 : decode cX7_tick 127 = .ok (.iload 4, 2) := by decide +kernel
theorem dX7_tick_129 : decode cX7_tick 129 = .ok (.imul, 1) := by decide +kernel
theorem dX7_tick_130 : decode cX7_tick 130 = .ok (.aload_n 0, 1) := by decide +kernel
theorem dX7_tick_131 : decode cX7_tick 131 = .ok (.getfield 47, 3) := by decide +kernel
theorem dX7_tick_134 : decode cX7_tick 134 = .ok (.iload 4, 2) := by decide +kernel
theorem dX7_tick_136 : decode cX7_tick 136 = .ok (.iaload, 1) := by decide +kernel
theorem dX7_tick_137 : decode cX7_tick 137 = .ok (.bipush 8, 2) := by decide +kernel
theorem dX7_tick_139 : decode cX7_tick 139 = .ok (.irem, 1) := by decide +kernel
theorem dX7_tick_140 : decode cX7_tick 140 = .ok (.iadd, 1) := by decide +kernel
theorem dX7_tick_141 : decode cX7_tick 141 = .ok (.aload_n 0, 1) := by decide +kernel
theorem dX7_tick_142 : decode cX7_tick 142 = .ok (.iload 4, 2) := by decide +kernel
theorem dX7_tick_144 : decode cX7_tick 144 = .ok (.invokevirtual 160, 3) := by decide +kernel
theorem dX7_tick_147 : decode cX7_tick 147 = .ok (.iastore, 1) := by decide +kernel
theorem dX7_tick_148 : decode cX7_tick 148 = .ok (.aload_n 0, 1) := by decide +kernel
theorem dX7_tick_149 : decode cX7_tick 149 = .ok (.getfield 47, 3) := by decide +kernel
theorem dX7_tick_152 : decode cX7_tick 152 = .ok (.iload 4, 2) := by decide +kernel
theorem dX7_tick_154 : decode cX7_tick 154 = .ok (.dup2, 1) := by decide +kernel
theorem dX7_tick_155 : decode cX7_tick 155 = .ok (.iaload, 1) := by decide +kernel
theorem dX7_tick_156 : decode cX7_tick 156 = .ok (.iconst 1, 1) := by decide +kernel
theorem dX7_tick_157 : decode cX7_tick 157 = .ok (.iadd, 1) := by decide +kernel
theorem dX7_tick_158 : decode cX7_tick 158 = .ok (.iastore, 1) := by decide +kernel
theorem dX7_tick_159 : decode cX7_tick 159 = .ok (.iinc 4 1, 3) := by decide +kernel
theorem dX7_tick_162 : decode cX7_tick 162 = .ok (.goto (-50), 3) := by decide +kernel
theorem dX7_tick_165 : decode cX7_tick 165 = .ok (.iinc 3 1, 3) := by decide +kernel
theorem dX7_tick_168 : decode cX7_tick 168 = .ok (.goto (-125), 3) := by decide +kernel
theorem dX7_tick_171 : decode cX7_tick 171 = .ok (.aload_n 0, 1) := by decide +kernel
theorem dX7_tick_172 : decode cX7_tick 172 = .ok (.dup, 1) := by decide +kernel
theorem dX7_tick_173 : decode cX7_tick 173 = .ok (.getfield 86, 3) := by decide +kernel
theorem dX7_tick_176 : decode cX7_tick 176 = .ok (.iload_n 2, 1) := by decide +kernel
theorem dX7_tick_177 : decode cX7_tick 177 = .ok (.iadd, 1) := by decide +kernel
theorem dX7_tick_178 : decode cX7_tick 178 = .ok (.putfield 86, 3) := by decide +kernel
theorem dX7_tick_181 : decode cX7_tick 181 = .ok (.iload_n 2, 1) := by decide +kernel
theorem dX7_tick_182 : decode cX7_tick 182 = .ok (.ireturn, 1) := by decide +kernel
theorem dX7_plates_0 : decode cX7_plates 0 = .ok (.aload_n 0, 1) := by decide +kernel
theorem dX7_plates_1 : decode cX7_plates 1 = .ok (.iconst 0, 1) := by decide +kernel
theorem dX7_plates_2 : decode cX7_plates 2 = .ok (.putfield 89, 3) := by decide +kernel
theorem dX7_plates_5 : decode cX7_plates 5 = .ok (.iload_n 1, 1) := by decide +kernel
theorem dX7_plates_6 : decode cX7_plates 6 = .ok (.invokestatic 129, 3) := by decide +kernel
theorem dX7_plates_9 : decode cX7_plates 9 = .ok (.ifCond .ne 9, 3) := by decide +kernel
theorem dX7_plates_12 : decode cX7_plates 12 = .ok (.aload_n 0, 1) := by decide +kernel
theorem dX7_plates_13 : decode cX7_plates 13 = .ok (.iconst 1, 1) := by decide +kernel
theorem dX7_plates_14 : decode cX7_plates 14 = .ok (.invokevirtual 122, 3) := by decide +kernel
theorem dX7_plates_17 : decode cX7_plates 17 = .ok (.ireturn, 1) := by decide +kernel
theorem dX7_plates_18 : decode cX7_plates 18 = .ok (.aload_n 0, 1) := by decide +kernel
theorem dX7_plates_19 : decode cX7_plates 19 = .ok (.getfield 148, 3) := by decide +kernel
theorem dX7_plates_22 : decode cX7_plates 22 = .ok (.istore_n 2, 1) := by decide +kernel
theorem dX7_plates_23 : decode cX7_plates 23 = .ok (.aload_n 0, 1) := by decide +kernel
theorem dX7_plates_24 : decode cX7_plates 24 = .ok (.iload_n 1, 1) := by decide +kernel
theorem dX7_plates_25 : decode cX7_plates 25 = .ok (.putfield 148, 3) := by decide +kernel
theorem dX7_plates_28 : decode cX7_plates 28 = .ok (.iload_n 2, 1) := by decide +kernel
theorem dX7_plates_29 : decode cX7_plates 29 = .ok (.ireturn, 1) := by decide +kernel
theorem dX7_picture_0 : decode cX7_picture 0 = .ok (.aload_n 0, 1) := by decide +kernel
theorem dX7_picture_1 : decode cX7_picture 1 = .ok (.iconst 0, 1) := by decide +kernel
theorem dX7_picture_2 : decode cX7_picture 2 = .ok (.putfield 89, 3) := by decide +kernel
theorem dX7_picture_5 : decode cX7_picture 5 = .ok (.aload_n 0, 1) := by decide +kernel
theorem dX7_picture_6 : decode cX7_picture 6 = .ok (.getfield 77, 3) := by decide +kernel
theorem dX7_picture_9 : decode cX7_picture 9 = .ok (.bipush 10, 2) := by decide +kernel
theorem dX7_picture_11 : decode cX7_picture 11 = .ok (.if_icmp .ne 9, 3) := by decide +kernel
theorem dX7_picture_14 : decode cX7_picture 14 = .ok (.aload_n 0, 1) := by decide +kernel
theorem dX7_picture_15 : decode cX7_picture 15 = .ok (.iconst 1, 1) := by decide +kernel
theorem dX7_picture_16 : decode cX7_picture 16 = .ok (.invokevirtual 122, 3) := by decide +kernel
theorem dX7_picture_19 : decode cX7_picture 19 = .ok (.ireturn, 1) := by decide +kernel
theorem dX7_picture_20 : decode cX7_picture 20 = .ok (.aload_n 0, 1) := by decide +kernel
theorem dX7_picture_21 : decode cX7_picture 21 = .ok (.getfield 62, 3) := by decide +kernel
theorem dX7_picture_24 : decode cX7_picture 24 = .ok (.aload_n 0, 1) := by decide +kernel
theorem dX7_picture_25 : decode cX7_picture 25 = .ok (.getfield 77, 3) := by decide +kernel
theorem dX7_picture_28 : decode cX7_picture 28 = .ok (.aload_n 0, 1) := by decide +kernel
theorem dX7_picture_29 : decode cX7_picture 29 = .ok (.getfield 148, 3) := by decide +kernel
theorem dX7_picture_32 : decode cX7_picture 32 = .ok (.iastore, 1) := by decide +kernel
theorem dX7_picture_33 : decode cX7_picture 33 = .ok (.iconst 0, 1) := by decide +kernel
theorem dX7_picture_34 : decode cX7_picture 34 = .ok (.istore_n 1, 1) := by decide +kernel
theorem dX7_picture_35 : decode cX7_picture 35 = .ok (.iload_n 1, 1) := by decide +kernel
theorem dX7_picture_36 : decode cX7_picture 36 = .ok (.aload_n 0, 1) := by decide +kernel
theorem dX7_picture_37 : decode cX7_picture 37 = .ok (.getfield 13, 3) := by decide +kernel
theorem dX7_picture_40 : decode cX7_picture 40 = .ok (.if_icmp .ge 54, 3) := by decide +kernel
theorem dX7_picture_43 : decode cX7_picture 43 = .ok (.iconst 0, 1) := by decide +kernel
theorem dX7_picture_44 : decode cX7_picture 44 = .ok (.istore_n 2, 1) := by decide +kernel
theorem dX7_picture_45 : decode cX7_picture 45 = .ok (.iload_n 2, 1) := by decide +kernel
theorem dX7_picture_46 : decode cX7_picture 46 = .ok (.aload_n 0, 1) := by decide +kernel
theorem dX7_picture_47 : decode cX7_picture 47 = .ok (.getfield 7, 3) := by decide +kernel
theorem dX7_picture_50 : decode cX7_picture 50 = .ok (.if_icmp .ge 38, 3) := by decide +kernel
theorem dX7_picture_53 : decode cX7_picture 53 = .ok (.aload_n 0, 1) := by decide +kernel
theorem dX7_picture_54 : decode cX7_picture 54 = .ok (.getfield 65, 3) := by decide +kernel
theorem dX7_picture_57 : decode cX7_picture 57 = .ok (.sipush 144, 3) := by decide +kernel
theorem dX7_picture_60 : decode cX7_picture 60 = .ok (.aload_n 0, 1) := by decide +kernel
theorem dX7_picture_61 : decode cX7_picture 61 = .ok (.getfield 77, 3) := by decide +kernel
theorem dX7_picture_64 : decode cX7_picture 64 = .ok (.imul, 1) := by decide +kernel
theorem dX7_picture_65 : decode cX7_picture 65 = .ok (.iload_n 2, 1) := by decide +kernel
theorem dX7_picture_66 : decode cX7_picture 66 = .ok (.iload_n 1, 1) := by decide +kernel
theorem dX7_picture_67 : decode cX7_picture 67 = .ok (.invokestatic 100, 3) := by decide +kernel
theorem dX7_picture_70 : decode cX7_picture 70 = .ok (.iadd, 1) := by decide +kernel
theorem dX7_picture_71 : decode cX7_picture 71 = .ok (.aload_n 0, 1) := by decide +kernel
theorem dX7_picture_72 : decode cX7_picture 72 = .ok (.iload_n 2, 1) := by decide +kernel
theorem dX7_picture_73 : decode cX7_picture 73 = .ok (.iload_n 1, 1) := by decide +kernel
theorem dX7_picture_74 : decode cX7_picture 74 = .ok (.aload_n 0, 1) := by decide +kernel
theorem dX7_picture_75 : decode cX7_picture 75 = .ok (.getfield 148, 3) := by decide +kernel
theorem dX7_picture_78 : decode cX7_picture 78 = .ok (.invokevirtual 151, 3) := by decide +kernel
theorem dX7_picture_81 : decode cX7_picture 81 = .ok (.iastore, 1) := by decide +kernel
theorem dX7_picture_82 : decode cX7_picture 82 = .ok (.iinc 2 1, 3) := by decide +kernel
theorem dX7_picture_85 : decode cX7_picture 85 = .ok (.goto (-40), 3) := by decide +kernel
theorem dX7_picture_88 : decode cX7_picture 88 = .ok (.iinc 1 1, 3) := by decide +kernel
theorem dX7_picture_91 : decode cX7_picture 91 = .ok (.goto (-56), 3) := by decide +kernel
theorem dX7_picture_94 : decode cX7_picture 94 = .ok (.aload_n 0, 1) := by decide +kernel
theorem dX7_picture_95 : decode cX7_picture 95 = .ok (.dup, 1) := by decide +kernel
theorem dX7_picture_96 : decode cX7_picture 96 = .ok (.getfield 77, 3) := by decide +kernel
theorem dX7_picture_99 : decode cX7_picture 99 = .ok (.iconst 1, 1) := by decide +kernel
theorem dX7_picture_100 : decode cX7_picture 100 = .ok (.iadd, 1) := by decide +kernel
theorem dX7_picture_101 : decode cX7_picture 101 = .ok (.putfield 77, 3) := by decide +kernel
theorem dX7_picture_104 : decode cX7_picture 104 = .ok (.aload_n 0, 1) := by decide +kernel
theorem dX7_picture_105 : decode cX7_picture 105 = .ok (.getfield 77, 3) := by decide +kernel
theorem dX7_picture_108 : decode cX7_picture 108 = .ok (.iconst 1, 1) := by decide +kernel
theorem dX7_picture_109 : decode cX7_picture 109 = .ok (.isub, 1) := by decide +kernel
theorem dX7_picture_110 : decode cX7_picture 110 = .ok (.ireturn, 1) := by decide +kernel
theorem dX7_now_0 : decode cX7_now 0 = .ok (.aload_n 0, 1) := by decide +kernel
theorem dX7_now_1 : decode cX7_now 1 = .ok (.iconst 0, 1) := by decide +kernel
theorem dX7_now_2 : decode cX7_now 2 = .ok (.putfield 89, 3) := by decide +kernel
theorem dX7_now_5 : decode cX7_now 5 = .ok (.aload_n 0, 1) := by decide +kernel
theorem dX7_now_6 : decode cX7_now 6 = .ok (.getfield 80, 3) := by decide +kernel
theorem dX7_now_9 : decode cX7_now 9 = .ok (.ireturn, 1) := by decide +kernel
theorem dX7_told_0 : decode cX7_told 0 = .ok (.aload_n 0, 1) := by decide +kernel
theorem dX7_told_1 : decode cX7_told 1 = .ok (.iconst 0, 1) := by decide +kernel
theorem dX7_told_2 : decode cX7_told 2 = .ok (.putfield 89, 3) := by decide +kernel
theorem dX7_told_5 : decode cX7_told 5 = .ok (.aload_n 0, 1) := by decide +kernel
theorem dX7_told_6 : decode cX7_told 6 = .ok (.iload_n 1, 1) := by decide +kernel
theorem dX7_told_7 : decode cX7_told 7 = .ok (.iload_n 2, 1) := by decide +kernel
theorem dX7_told_8 : decode cX7_told 8 = .ok (.invokevirtual 106, 3) := by decide +kernel
theorem dX7_told_11 : decode cX7_told 11 = .ok (.ifCond .ne 9, 3) := by decide +kernel
theorem dX7_told_14 : decode cX7_told 14 = .ok (.aload_n 0, 1) := by decide +kernel
theorem dX7_told_15 : decode cX7_told 15 = .ok (.iconst 1, 1) := by decide +kernel
theorem dX7_told_16 : decode cX7_told 16 = .ok (.invokevirtual 122, 3) := by decide +kernel
theorem dX7_told_19 : decode cX7_told 19 = .ok (.ireturn, 1) := by decide +kernel
theorem dX7_told_20 : decode cX7_told 20 = .ok (.iload_n 3, 1) := by decide +kernel
theorem dX7_told_21 : decode cX7_told 21 = .ok (.iconst 0, 1) := by decide +kernel
theorem dX7_told_22 : decode cX7_told 22 = .ok (.iconst 4, 1) := by decide +kernel
theorem dX7_told_23 : decode cX7_told 23 = .ok (.invokestatic 92, 3) := by decide +kernel
theorem dX7_told_26 : decode cX7_told 26 = .ok (.ifCond .ne 9, 3) := by decide +kernel
theorem dX7_told_29 : decode cX7_told 29 = .ok (.aload_n 0, 1) := by decide +kernel
theorem dX7_told_30 : decode cX7_told 30 = .ok (.iconst 2, 1) := by decide +kernel
theorem dX7_told_31 : decode cX7_told 31 = .ok (.invokevirtual 122, 3) := by decide +kernel
theorem dX7_told_34 : decode cX7_told 34 = .ok (.ireturn, 1) := by decide +kernel
theorem dX7_told_35 : decode cX7_told 35 = .ok (.iload_n 1, 1) := by decide +kernel
theorem dX7_told_36 : decode cX7_told 36 = .ok (.iload_n 2, 1) := by decide +kernel
theorem dX7_told_37 : decode cX7_told 37 = .ok (.invokestatic 100, 3) := by decide +kernel
theorem dX7_told_40 : decode cX7_told 40 = .ok (.istore 4, 2) := by decide +kernel
theorem dX7_told_42 : decode cX7_told 42 = .ok (.iload_n 3, 1) := by decide +kernel
theorem dX7_told_43 : decode cX7_told 43 = .ok (.tableswitch 64 0 3 #[29, 37, 45, 53], 29) := by decide +kernel
theorem dX7_told_72 : decode cX7_told 72 = .ok (.aload_n 0, 1) := by decide +kernel
theorem dX7_told_73 : decode cX7_told 73 = .ok (.getfield 22, 3) := by decide +kernel
theorem dX7_told_76 : decode cX7_told 76 = .ok (.iload 4, 2) := by decide +kernel
theorem dX7_told_78 : decode cX7_told 78 = .ok (.iaload, 1) := by decide +kernel
theorem dX7_told_79 : decode cX7_told 79 = .ok (.ireturn, 1) := by decide +kernel
theorem dX7_told_80 : decode cX7_told 80 = .ok (.aload_n 0, 1) := by decide +kernel
theorem dX7_told_81 : decode cX7_told 81 = .ok (.getfield 26, 3) := by decide +kernel
theorem dX7_told_84 : decode cX7_told 84 = .ok (.iload 4, 2) := by decide +kernel
theorem dX7_told_86 : decode cX7_told 86 = .ok (.iaload, 1) := by decide +kernel
theorem dX7_told_87 : decode cX7_told 87 = .ok (.ireturn, 1) := by decide +kernel
theorem dX7_told_88 : decode cX7_told 88 = .ok (.aload_n 0, 1) := by decide +kernel
theorem dX7_told_89 : decode cX7_told 89 = .ok (.getfield 35, 3) := by decide +kernel
theorem dX7_told_92 : decode cX7_told 92 = .ok (.iload 4, 2) := by decide +kernel
theorem dX7_told_94 : decode cX7_told 94 = .ok (.iaload, 1) := by decide +kernel
theorem dX7_told_95 : decode cX7_told 95 = .ok (.ireturn, 1) := by decide +kernel
theorem dX7_told_96 : decode cX7_told 96 = .ok (.aload_n 0, 1) := by decide +kernel
theorem dX7_told_97 : decode cX7_told 97 = .ok (.iload_n 1, 1) := by decide +kernel
theorem dX7_told_98 : decode cX7_told 98 = .ok (.iload_n 2, 1) := by decide +kernel
theorem dX7_told_99 : decode cX7_told 99 = .ok (.aload_n 0, 1) := by decide +kernel
theorem dX7_told_100 : decode cX7_told 100 = .ok (.getfield 148, 3) := by decide +kernel
theorem dX7_told_103 : decode cX7_told 103 = .ok (.invokevirtual 151, 3) := by decide +kernel
theorem dX7_told_106 : decode cX7_told 106 = .ok (.ireturn, 1) := by decide +kernel
theorem dX7_told_107 : decode cX7_told 107 = .ok (.aload_n 0, 1) := by decide +kernel
theorem dX7_told_108 : decode cX7_told 108 = .ok (.iload_n 1, 1) := by decide +kernel
theorem dX7_told_109 : decode cX7_told 109 = .ok (.iload_n 2, 1) := by decide +kernel
theorem dX7_told_110 : decode cX7_told 110 = .ok (.aload_n 0, 1) := by decide +kernel
theorem dX7_told_111 : decode cX7_told 111 = .ok (.getfield 22, 3) := by decide +kernel
theorem dX7_told_114 : decode cX7_told 114 = .ok (.iload 4, 2) := by decide +kernel
theorem dX7_told_116 : decode cX7_told 116 = .ok (.iaload, 1) := by decide +kernel
theorem dX7_told_117 : decode cX7_told 117 = .ok (.invokevirtual 139, 3) := by decide +kernel
theorem dX7_told_120 : decode cX7_told 120 = .ok (.ireturn, 1) := by decide +kernel
theorem dX7_energy_0 : decode cX7_energy 0 = .ok (.aload_n 0, 1) := by decide +kernel
theorem dX7_energy_1 : decode cX7_energy 1 = .ok (.iconst 0, 1) := by decide +kernel
theorem dX7_energy_2 : decode cX7_energy 2 = .ok (.putfield 89, 3) := by decide +kernel
theorem dX7_energy_5 : decode cX7_energy 5 = .ok (.aload_n 0, 1) := by decide +kernel
theorem dX7_energy_6 : decode cX7_energy 6 = .ok (.invokevirtual 118, 3) := by decide +kernel
theorem dX7_energy_9 : decode cX7_energy 9 = .ok (.ireturn, 1) := by decide +kernel
theorem dX7_energyAnew_0 : decode cX7_energyAnew 0 = .ok (.aload_n 0, 1) := by decide +kernel
theorem dX7_energyAnew_1 : decode cX7_energyAnew 1 = .ok (.iconst 0, 1) := by decide +kernel
theorem dX7_energyAnew_2 : decode cX7_energyAnew 2 = .ok (.putfield 89, 3) := by decide +kernel
theorem dX7_energyAnew_5 : decode cX7_energyAnew 5 = .ok (.aload_n 0, 1) := by decide +kernel
theorem dX7_energyAnew_6 : decode cX7_energyAnew 6 = .ok (.invokevirtual 118, 3) := by decide +kernel
theorem dX7_energyAnew_9 : decode cX7_energyAnew 9 = .ok (.ireturn, 1) := by decide +kernel
theorem dX7_spent_0 : decode cX7_spent 0 = .ok (.aload_n 0, 1) := by decide +kernel
theorem dX7_spent_1 : decode cX7_spent 1 = .ok (.iconst 0, 1) := by decide +kernel
theorem dX7_spent_2 : decode cX7_spent 2 = .ok (.putfield 89, 3) := by decide +kernel
theorem dX7_spent_5 : decode cX7_spent 5 = .ok (.iload_n 1, 1) := by decide +kernel
theorem dX7_spent_6 : decode cX7_spent 6 = .ok (.ifCond .eq 10, 3) := by decide +kernel
theorem dX7_spent_9 : decode cX7_spent 9 = .ok (.aload_n 0, 1) := by decide +kernel
theorem dX7_spent_10 : decode cX7_spent 10 = .ok (.getfield 86, 3) := by decide +kernel
theorem dX7_spent_13 : decode cX7_spent 13 = .ok (.goto 7, 3) := by decide +kernel
theorem dX7_spent_16 : decode cX7_spent 16 = .ok (.aload_n 0, 1) := by decide +kernel
theorem dX7_spent_17 : decode cX7_spent 17 = .ok (.getfield 83, 3) := by decide +kernel
theorem dX7_spent_20 : decode cX7_spent 20 = .ok (.ireturn, 1) := by decide +kernel
theorem dX7_least_0 : decode cX7_least 0 = .ok (.aload_n 0, 1) := by decide +kernel
theorem dX7_least_1 : decode cX7_least 1 = .ok (.iconst 0, 1) := by decide +kernel
theorem dX7_least_2 : decode cX7_least 2 = .ok (.putfield 89, 3) := by decide +kernel
theorem dX7_least_5 : decode cX7_least 5 = .ok (.iload_n 3, 1) := by decide +kernel
theorem dX7_least_6 : decode cX7_least 6 = .ok (.ifCond .eq 9, 3) := by decide +kernel
theorem dX7_least_9 : decode cX7_least 9 = .ok (.iload_n 1, 1) := by decide +kernel
theorem dX7_least_10 : decode cX7_least 10 = .ok (.iconst 1, 1) := by decide +kernel
theorem dX7_least_11 : decode cX7_least 11 = .ok (.iadd, 1) := by decide +kernel
theorem dX7_least_12 : decode cX7_least 12 = .ok (.goto 4, 3) := by decide +kernel
theorem dX7_least_15 : decode cX7_least 15 = .ok (.iload_n 1, 1) := by decide +kernel
theorem dX7_least_16 : decode cX7_least 16 = .ok (.istore 4, 2) := by decide +kernel
theorem dX7_least_18 : decode cX7_least 18 = .ok (.iload_n 3, 1) := by decide +kernel
theorem dX7_least_19 : decode cX7_least 19 = .ok (.ifCond .eq 7, 3) := by decide +kernel
theorem dX7_least_22 : decode cX7_least 22 = .ok (.iload_n 2, 1) := by decide +kernel
theorem dX7_least_23 : decode cX7_least 23 = .ok (.goto 6, 3) := by decide +kernel
theorem dX7_least_26 : decode cX7_least 26 = .ok (.iload_n 2, 1) := by decide +kernel
theorem dX7_least_27 : decode cX7_least 27 = .ok (.iconst 1, 1) := by decide +kernel
theorem dX7_least_28 : decode cX7_least 28 = .ok (.iadd, 1) := by decide +kernel
theorem dX7_least_29 : decode cX7_least 29 = .ok (.istore 5, 2) := by decide +kernel
theorem dX7_least_31 : decode cX7_least 31 = .ok (.aload_n 0, 1) := by decide +kernel
theorem dX7_least_32 : decode cX7_least 32 = .ok (.iload_n 1, 1) := by decide +kernel
theorem dX7_least_33 : decode cX7_least 33 = .ok (.iload_n 2, 1) := by decide +kernel
theorem dX7_least_34 : decode cX7_least 34 = .ok (.invokevirtual 106, 3) := by decide +kernel
theorem dX7_least_37 : decode cX7_least 37 = .ok (.ifCond .eq 14, 3) := by decide +kernel
theorem dX7_least_40 : decode cX7_least 40 = .ok (.aload_n 0, 1) := by decide +kernel
theorem dX7_least_41 : decode cX7_least 41 = .ok (.iload 4, 2) := by decide +kernel
theorem dX7_least_43 : decode cX7_least 43 = .ok (.iload 5, 2) := by decide +kernel
theorem dX7_least_45 : decode cX7_least 45 = .ok (.invokevirtual 106, 3) := by decide +kernel
theorem dX7_least_48 : decode cX7_least 48 = .ok (.ifCond .ne 9, 3) := by decide +kernel
theorem dX7_least_51 : decode cX7_least 51 = .ok (.aload_n 0, 1) := by decide +kernel
theorem dX7_least_52 : decode cX7_least 52 = .ok (.iconst 1, 1) := by decide +kernel
theorem dX7_least_53 : decode cX7_least 53 = .ok (.invokevirtual 122, 3) := by decide +kernel
theorem dX7_least_56 : decode cX7_least 56 = .ok (.ireturn, 1) := by decide +kernel
theorem dX7_least_57 : decode cX7_least 57 = .ok (.iload_n 1, 1) := by decide +kernel
theorem dX7_least_58 : decode cX7_least 58 = .ok (.iload_n 2, 1) := by decide +kernel
theorem dX7_least_59 : decode cX7_least 59 = .ok (.invokestatic 100, 3) := by decide +kernel
theorem dX7_least_62 : decode cX7_least 62 = .ok (.istore 6, 2) := by decide +kernel
theorem dX7_least_64 : decode cX7_least 64 = .ok (.iload 4, 2) := by decide +kernel
theorem dX7_least_66 : decode cX7_least 66 = .ok (.iload 5, 2) := by decide +kernel
theorem dX7_least_68 : decode cX7_least 68 = .ok (.invokestatic 100, 3) := by decide +kernel
theorem dX7_least_71 : decode cX7_least 71 = .ok (.istore 7, 2) := by decide +kernel
theorem dX7_least_73 : decode cX7_least 73 = .ok (.aload_n 0, 1) := by decide +kernel
theorem dX7_least_74 : decode cX7_least 74 = .ok (.getfield 22, 3) := by decide +kernel
theorem dX7_least_77 : decode cX7_least 77 = .ok (.iload 6, 2) := by decide +kernel
theorem dX7_least_79 : decode cX7_least 79 = .ok (.iaload, 1) := by decide +kernel
theorem dX7_least_80 : decode cX7_least 80 = .ok (.istore 8, 2) := by decide +kernel
theorem dX7_least_82 : decode cX7_least 82 = .ok (.aload_n 0, 1) := by decide +kernel
theorem dX7_least_83 : decode cX7_least 83 = .ok (.getfield 22, 3) := by decide +kernel
theorem dX7_least_86 : decode cX7_least 86 = .ok (.iload 7, 2) := by decide +kernel
theorem dX7_least_88 : decode cX7_least 88 = .ok (.iaload, 1) := by decide +kernel
theorem dX7_least_89 : decode cX7_least 89 = .ok (.istore 9, 2) := by decide +kernel
theorem dX7_least_91 : decode cX7_least 91 = .ok (.ldc 163, 2) := by decide +kernel
theorem dX7_least_93 : decode cX7_least 93 = .ok (.istore 10, 2) := by decide +kernel
theorem dX7_least_95 : decode cX7_least 95 = .ok (.iconst 0, 1) := by decide +kernel
theorem dX7_least_96 : decode cX7_least 96 = .ok (.istore 11, 2) := by decide +kernel
theorem dX7_least_98 : decode cX7_least 98 = .ok (.iload 11, 2) := by decide +kernel
theorem dX7_least_100 : decode cX7_least 100 = .ok (.sipush 225, 3) := by decide +kernel
theorem dX7_least_103 : decode cX7_least 103 = .ok (.if_icmp .ge 143, 3) := by decide +kernel
theorem dX7_least_106 : decode cX7_least 106 = .ok (.iload 11, 2) := by decide +kernel
theorem dX7_least_108 : decode cX7_least 108 = .ok (.bipush 15, 2) := by decide +kernel
theorem dX7_least_110 : decode cX7_least 110 = .ok (.idiv, 1) := by decide +kernel
theorem dX7_least_111 : decode cX7_least 111 = .ok (.istore 12, 2) := by decide +kernel
theorem dX7_least_113 : decode cX7_least 113 = .ok (.iload 11, 2) := by decide +kernel
theorem dX7_least_115 : decode cX7_least 115 = .ok (.bipush 15, 2) := by decide +kernel
theorem dX7_least_117 : decode cX7_least 117 = .ok (.irem, 1) := by decide +kernel
theorem dX7_least_118 : decode cX7_least 118 = .ok (.istore 13, 2) := by decide +kernel
theorem dX7_least_120 : decode cX7_least 120 = .ok (.aload_n 0, 1) := by decide +kernel
theorem dX7_least_121 : decode cX7_least 121 = .ok (.getfield 26, 3) := by decide +kernel
theorem dX7_least_124 : decode cX7_least 124 = .ok (.iload 6, 2) := by decide +kernel
theorem dX7_least_126 : decode cX7_least 126 = .ok (.iaload, 1) := by decide +kernel
theorem dX7_least_127 : decode cX7_least 127 = .ok (.iconst 1, 1) := by decide +kernel
theorem dX7_least_128 : decode cX7_least 128 = .ok (.if_icmp .ne 10, 3) := by decide +kernel
theorem dX7_least_131 : decode cX7_least 131 = .ok (.iload 12, 2) := by decide +kernel
theorem dX7_least_133 : decode cX7_least 133 = .ok (.iload 8, 2) := by decide +kernel
theorem dX7_least_135 : decode cX7_least 135 = .ok (.if_icmp .ne 25, 3) := by decide +kernel
theorem dX7_least_138 : decode cX7_least 138 = .ok (.aload_n 0, 1) := by decide +kernel
theorem dX7_least_139 : decode cX7_least 139 = .ok (.getfield 26, 3) := by decide +kernel
theorem dX7_least_142 : decode cX7_least 142 = .ok (.iload 7, 2) := by decide +kernel
theorem dX7_least_144 : decode cX7_least 144 = .ok (.iaload, 1) := by decide +kernel
theorem dX7_least_145 : decode cX7_least 145 = .ok (.iconst 1, 1) := by decide +kernel
theorem dX7_least_146 : decode cX7_least 146 = .ok (.if_icmp .ne 10, 3) := by decide +kernel
theorem dX7_least_149 : decode cX7_least 149 = .ok (.iload 13, 2) := by decide +kernel
theorem dX7_least_151 : decode cX7_least 151 = .ok (.iload 9, 2) := by decide +kernel
theorem dX7_least_153 : decode cX7_least 153 = .ok (.if_icmp .ne 7, 3) := by decide +kernel
theorem dX7_least_156 : decode cX7_least 156 = .ok (.iconst 1, 1) := by decide +kernel
theorem dX7_least_157 : decode cX7_least 157 = .ok (.goto 4, 3) := by decide +kernel
theorem dX7_least_160 : decode cX7_least 160 = .ok (.iconst 0, 1) := by decide +kernel
theorem dX7_least_161 : decode cX7_least 161 = .ok (.istore 14, 2) := by decide +kernel
theorem dX7_least_163 : decode cX7_least 163 = .ok (.iload 14, 2) := by decide +kernel
theorem dX7_least_165 : decode cX7_least 165 = .ok (.ifCond .eq 75, 3) := by decide +kernel
theorem dX7_least_168 : decode cX7_least 168 = .ok (.aload_n 0, 1) := by decide +kernel
theorem dX7_least_169 : decode cX7_least 169 = .ok (.getfield 22, 3) := by decide +kernel
theorem dX7_least_172 : decode cX7_least 172 = .ok (.iload 6, 2) := by decide +kernel
theorem dX7_least_174 : decode cX7_least 174 = .ok (.iload 12, 2) := by decide +kernel
theorem dX7_least_176 : decode cX7_least 176 = .ok (.iastore, 1) := by decide +kernel
theorem dX7_least_177 : decode cX7_least 177 = .ok (.aload_n 0, 1) := by decide +kernel
theorem dX7_least_178 : decode cX7_least 178 = .ok (.getfield 22, 3) := by decide +kernel
theorem dX7_least_181 : decode cX7_least 181 = .ok (.iload 7, 2) := by decide +kernel
theorem dX7_least_183 : decode cX7_least 183 = .ok (.iload 13, 2) := by decide +kernel
theorem dX7_least_185 : decode cX7_least 185 = .ok (.iastore, 1) := by decide +kernel
theorem dX7_least_186 : decode cX7_least 186 = .ok (.aload_n 0, 1) := by decide +kernel
theorem dX7_least_187 : decode cX7_least 187 = .ok (.iload_n 1, 1) := by decide +kernel
theorem dX7_least_188 : decode cX7_least 188 = .ok (.iload_n 2, 1) := by decide +kernel
theorem dX7_least_189 : decode cX7_least 189 = .ok (.iload 12, 2) := by decide +kernel
theorem dX7_least_191 : decode cX7_least 191 = .ok (.invokevirtual 139, 3) := by decide +kernel
theorem dX7_least_194 : decode cX7_least 194 = .ok (.aload_n 0, 1) := by decide +kernel
theorem dX7_least_195 : decode cX7_least 195 = .ok (.iload 4, 2) := by decide +kernel
theorem dX7_least_197 : decode cX7_least 197 = .ok (.iload 5, 2) := by decide +kernel
theorem dX7_least_199 : decode cX7_least 199 = .ok (.iload 13, 2) := by decide +kernel
theorem dX7_least_201 : decode cX7_least 201 = .ok (.invokevirtual 139, 3) := by decide +kernel
theorem dX7_least_204 : decode cX7_least 204 = .ok (.iadd, 1) := by decide +kernel
theorem dX7_least_205 : decode cX7_least 205 = .ok (.aload_n 0, 1) := by decide +kernel
theorem dX7_least_206 : decode cX7_least 206 = .ok (.iload_n 1, 1) := by decide +kernel
theorem dX7_least_207 : decode cX7_least 207 = .ok (.iload_n 2, 1) := by decide +kernel
theorem dX7_least_208 : decode cX7_least 208 = .ok (.iload 12, 2) := by decide +kernel
theorem dX7_least_210 : decode cX7_least 210 = .ok (.iload 4, 2) := by decide +kernel
theorem dX7_least_212 : decode cX7_least 212 = .ok (.iload_n 1, 1) := by decide +kernel
theorem dX7_least_213 : decode cX7_least 213 = .ok (.isub, 1) := by decide +kernel
theorem dX7_least_214 : decode cX7_least 214 = .ok (.iload 5, 2) := by decide +kernel
theorem dX7_least_216 : decode cX7_least 216 = .ok (.iload_n 2, 1) := by decide +kernel
theorem dX7_least_217 : decode cX7_least 217 = .ok (.isub, 1) := by decide +kernel
theorem dX7_least_218 : decode cX7_least 218 = .ok (.invokevirtual 114, 3) := by decide +kernel
theorem dX7_least_221 : decode cX7_least 221 = .ok (.isub, 1) := by decide +kernel
theorem dX7_least_222 : decode cX7_least 222 = .ok (.istore 15, 2) := by decide +kernel
theorem dX7_least_224 : decode cX7_least 224 = .ok (.iload 15, 2) := by decide +kernel
theorem dX7_least_226 : decode cX7_least 226 = .ok (.iload 10, 2) := by decide +kernel
theorem dX7_least_228 : decode cX7_least 228 = .ok (.if_icmp .ge 8, 3) := by decide +kernel
theorem dX7_least_231 : decode cX7_least 231 = .ok (.iload 15, 2) := by decide +kernel
theorem dX7_least_233 : decode cX7_least 233 = .ok (.goto 5, 3) := by decide +kernel
theorem dX7_least_236 : decode cX7_least 236 = .ok (.iload 10, 2) := by decide +kernel
theorem dX7_least_238 : decode cX7_least 238 = .ok (.istore 10, 2) := by decide +kernel
theorem dX7_least_240 : decode cX7_least 240 = .ok (.iinc 11 1, 3) := by decide +kernel
theorem dX7_least_243 : decode cX7_least 243 = .ok (.goto (-145), 3) := by decide +kernel
theorem dX7_least_246 : decode cX7_least 246 = .ok (.aload_n 0, 1) := by decide +kernel
theorem dX7_least_247 : decode cX7_least 247 = .ok (.getfield 22, 3) := by decide +kernel
theorem dX7_least_250 : decode cX7_least 250 = .ok (.iload 6, 2) := by decide +kernel
theorem dX7_least_252 : decode cX7_least 252 = .ok (.iload 8, 2) := by decide +kernel
theorem dX7_least_254 : decode cX7_least 254 = .ok (.iastore, 1) := by decide +kernel
theorem dX7_least_255 : decode cX7_least 255 = .ok (.aload_n 0, 1) := by decide +kernel
theorem dX7_least_256 : decode cX7_least 256 = .ok (.getfield 22, 3) := by decide +kernel
theorem dX7_least_259 : decode cX7_least 259 = .ok (.iload 7, 2) := by decide +kernel
theorem dX7_least_261 : decode cX7_least 261 = .ok (.iload 9, 2) := by decide +kernel
theorem dX7_least_263 : decode cX7_least 263 = .ok (.iastore, 1) := by decide +kernel
theorem dX7_least_264 : decode cX7_least 264 = .ok (.iload 10, 2) := by decide +kernel
theorem dX7_least_266 : decode cX7_least 266 = .ok (.ireturn, 1) := by decide +kernel
theorem dX7_directionAt_0 : decode cX7_directionAt 0 = .ok (.aload_n 0, 1) := by decide +kernel
theorem dX7_directionAt_1 : decode cX7_directionAt 1 = .ok (.getfield 22, 3) := by decide +kernel
theorem dX7_directionAt_4 : decode cX7_directionAt 4 = .ok (.iload_n 1, 1) := by decide +kernel
theorem dX7_directionAt_5 : decode cX7_directionAt 5 = .ok (.iload_n 2, 1) := by decide +kernel
theorem dX7_directionAt_6 : decode cX7_directionAt 6 = .ok (.invokestatic 100, 3) := by decide +kernel
theorem dX7_directionAt_9 : decode cX7_directionAt 9 = .ok (.iaload, 1) := by decide +kernel
theorem dX7_directionAt_10 : decode cX7_directionAt 10 = .ok (.ireturn, 1) := by decide +kernel
theorem dX7_windingAt_0 : decode cX7_windingAt 0 = .ok (.aload_n 0, 1) := by decide +kernel
theorem dX7_windingAt_1 : decode cX7_windingAt 1 = .ok (.iload_n 1, 1) := by decide +kernel
theorem dX7_windingAt_2 : decode cX7_windingAt 2 = .ok (.iload_n 2, 1) := by decide +kernel
theorem dX7_windingAt_3 : decode cX7_windingAt 3 = .ok (.invokevirtual 164, 3) := by decide +kernel
theorem dX7_windingAt_6 : decode cX7_windingAt 6 = .ok (.istore_n 3, 1) := by decide +kernel
theorem dX7_windingAt_7 : decode cX7_windingAt 7 = .ok (.aload_n 0, 1) := by decide +kernel
theorem dX7_windingAt_8 : decode cX7_windingAt 8 = .ok (.iload_n 1, 1) := by decide +kernel
theorem dX7_windingAt_9 : decode cX7_windingAt 9 = .ok (.iconst 1, 1) := by decide +kernel
theorem dX7_windingAt_10 : decode cX7_windingAt 10 = .ok (.iadd, 1) := by decide +kernel
theorem dX7_windingAt_11 : decode cX7_windingAt 11 = .ok (.iload_n 2, 1) := by decide +kernel
theorem dX7_windingAt_12 : decode cX7_windingAt 12 = .ok (.invokevirtual 164, 3) := by decide +kernel
theorem dX7_windingAt_15 : decode cX7_windingAt 15 = .ok (.istore 4, 2) := by decide +kernel
theorem dX7_windingAt_17 : decode cX7_windingAt 17 = .ok (.aload_n 0, 1) := by decide +kernel
theorem dX7_windingAt_18 : decode cX7_windingAt 18 = .ok (.iload_n 1, 1) := by decide +kernel
theorem dX7_windingAt_19 : decode cX7_windingAt 19 = .ok (.iconst 1, 1) := by decide +kernel
theorem dX7_windingAt_20 : decode cX7_windingAt 20 = .ok (.iadd, 1) := by decide +kernel
theorem dX7_windingAt_21 : decode cX7_windingAt 21 = .ok (.iload_n 2, 1) := by decide +kernel
theorem dX7_windingAt_22 : decode cX7_windingAt 22 = .ok (.iconst 1, 1) := by decide +kernel
theorem dX7_windingAt_23 : decode cX7_windingAt 23 = .ok (.iadd, 1) := by decide +kernel
theorem dX7_windingAt_24 : decode cX7_windingAt 24 = .ok (.invokevirtual 164, 3) := by decide +kernel
theorem dX7_windingAt_27 : decode cX7_windingAt 27 = .ok (.istore 5, 2) := by decide +kernel
theorem dX7_windingAt_29 : decode cX7_windingAt 29 = .ok (.aload_n 0, 1) := by decide +kernel
theorem dX7_windingAt_30 : decode cX7_windingAt 30 = .ok (.iload_n 1, 1) := by decide +kernel
theorem dX7_windingAt_31 : decode cX7_windingAt 31 = .ok (.iload_n 2, 1) := by decide +kernel
theorem dX7_windingAt_32 : decode cX7_windingAt 32 = .ok (.iconst 1, 1) := by decide +kernel
theorem dX7_windingAt_33 : decode cX7_windingAt 33 = .ok (.iadd, 1) := by decide +kernel
theorem dX7_windingAt_34 : decode cX7_windingAt 34 = .ok (.invokevirtual 164, 3) := by decide +kernel
theorem dX7_windingAt_37 : decode cX7_windingAt 37 = .ok (.istore 6, 2) := by decide +kernel
theorem dX7_windingAt_39 : decode cX7_windingAt 39 = .ok (.iload 6, 2) := by decide +kernel
theorem dX7_windingAt_41 : decode cX7_windingAt 41 = .ok (.iload_n 3, 1) := by decide +kernel
theorem dX7_windingAt_42 : decode cX7_windingAt 42 = .ok (.invokestatic 96, 3) := by decide +kernel
theorem dX7_windingAt_45 : decode cX7_windingAt 45 = .ok (.iload_n 3, 1) := by decide +kernel
theorem dX7_windingAt_46 : decode cX7_windingAt 46 = .ok (.iload 4, 2) := by decide +kernel
theorem dX7_windingAt_48 : decode cX7_windingAt 48 = .ok (.invokestatic 96, 3) := by decide +kernel
theorem dX7_windingAt_51 : decode cX7_windingAt 51 = .ok (.iadd, 1) := by decide +kernel
theorem dX7_windingAt_52 : decode cX7_windingAt 52 = .ok (.iload 4, 2) := by decide +kernel
theorem dX7_windingAt_54 : decode cX7_windingAt 54 = .ok (.iload 5, 2) := by decide +kernel
theorem dX7_windingAt_56 : decode cX7_windingAt 56 = .ok (.invokestatic 96, 3) := by decide +kernel
theorem dX7_windingAt_59 : decode cX7_windingAt 59 = .ok (.iadd, 1) := by decide +kernel
theorem dX7_windingAt_60 : decode cX7_windingAt 60 = .ok (.iload 5, 2) := by decide +kernel
theorem dX7_windingAt_62 : decode cX7_windingAt 62 = .ok (.iload 6, 2) := by decide +kernel
theorem dX7_windingAt_64 : decode cX7_windingAt 64 = .ok (.invokestatic 96, 3) := by decide +kernel
theorem dX7_windingAt_67 : decode cX7_windingAt 67 = .ok (.iadd, 1) := by decide +kernel
theorem dX7_windingAt_68 : decode cX7_windingAt 68 = .ok (.bipush 15, 2) := by decide +kernel
theorem dX7_windingAt_70 : decode cX7_windingAt 70 = .ok (.idiv, 1) := by decide +kernel
theorem dX7_windingAt_71 : decode cX7_windingAt 71 = .ok (.ireturn, 1) := by decide +kernel
theorem dX7_winding_0 : decode cX7_winding 0 = .ok (.aload_n 0, 1) := by decide +kernel
theorem dX7_winding_1 : decode cX7_winding 1 = .ok (.iconst 0, 1) := by decide +kernel
theorem dX7_winding_2 : decode cX7_winding 2 = .ok (.putfield 89, 3) := by decide +kernel
theorem dX7_winding_5 : decode cX7_winding 5 = .ok (.iload_n 1, 1) := by decide +kernel
theorem dX7_winding_6 : decode cX7_winding 6 = .ok (.iconst 0, 1) := by decide +kernel
theorem dX7_winding_7 : decode cX7_winding 7 = .ok (.aload_n 0, 1) := by decide +kernel
theorem dX7_winding_8 : decode cX7_winding 8 = .ok (.getfield 7, 3) := by decide +kernel
theorem dX7_winding_11 : decode cX7_winding 11 = .ok (.iconst 2, 1) := by decide +kernel
theorem dX7_winding_12 : decode cX7_winding 12 = .ok (.isub, 1) := by decide +kernel
theorem dX7_winding_13 : decode cX7_winding 13 = .ok (.invokestatic 92, 3) := by decide +kernel
theorem dX7_winding_16 : decode cX7_winding 16 = .ok (.ifCond .eq 17, 3) := by decide +kernel
theorem dX7_winding_19 : decode cX7_winding 19 = .ok (.iload_n 2, 1) := by decide +kernel
theorem dX7_winding_20 : decode cX7_winding 20 = .ok (.iconst 0, 1) := by decide +kernel
theorem dX7_winding_21 : decode cX7_winding 21 = .ok (.aload_n 0, 1) := by decide +kernel
theorem dX7_winding_22 : decode cX7_winding 22 = .ok (.getfield 13, 3) := by decide +kernel
theorem dX7_winding_25 : decode cX7_winding 25 = .ok (.iconst 2, 1) := by decide +kernel
theorem dX7_winding_26 : decode cX7_winding 26 = .ok (.isub, 1) := by decide +kernel
theorem dX7_winding_27 : decode cX7_winding 27 = .ok (.invokestatic 92, 3) := by decide +kernel
theorem dX7_winding_30 : decode cX7_winding 30 = .ok (.ifCond .ne 9, 3) := by decide +kernel
theorem dX7_winding_33 : decode cX7_winding 33 = .ok (.aload_n 0, 1) := by decide +kernel
theorem dX7_winding_34 : decode cX7_winding 34 = .ok (.iconst 1, 1) := by decide +kernel
theorem dX7_winding_35 : decode cX7_winding 35 = .ok (.invokevirtual 122, 3) := by decide +kernel
theorem dX7_winding_38 : decode cX7_winding 38 = .ok (.ireturn, 1) := by decide +kernel
theorem dX7_winding_39 : decode cX7_winding 39 = .ok (.aload_n 0, 1) := by decide +kernel
theorem dX7_winding_40 : decode cX7_winding 40 = .ok (.iload_n 1, 1) := by decide +kernel
theorem dX7_winding_41 : decode cX7_winding 41 = .ok (.iload_n 2, 1) := by decide +kernel
theorem dX7_winding_42 : decode cX7_winding 42 = .ok (.invokevirtual 167, 3) := by decide +kernel
theorem dX7_winding_45 : decode cX7_winding 45 = .ok (.ireturn, 1) := by decide +kernel
theorem dX7_isRefused_0 : decode cX7_isRefused 0 = .ok (.aload_n 0, 1) := by decide +kernel
theorem dX7_isRefused_1 : decode cX7_isRefused 1 = .ok (.aload_n 0, 1) := by decide +kernel
theorem dX7_isRefused_2 : decode cX7_isRefused 2 = .ok (.iload_n 1, 1) := by decide +kernel
theorem dX7_isRefused_3 : decode cX7_isRefused 3 = .ok (.iload_n 2, 1) := by decide +kernel
theorem dX7_isRefused_4 : decode cX7_isRefused 4 = .ok (.invokevirtual 106, 3) := by decide +kernel
theorem dX7_isRefused_7 : decode cX7_isRefused 7 = .ok (.ifCond .eq 13, 3) := by decide +kernel
theorem dX7_isRefused_10 : decode cX7_isRefused 10 = .ok (.aload_n 0, 1) := by decide +kernel
theorem dX7_isRefused_11 : decode cX7_isRefused 11 = .ok (.iload_n 3, 1) := by decide +kernel
theorem dX7_isRefused_12 : decode cX7_isRefused 12 = .ok (.iload 4, 2) := by decide +kernel
theorem dX7_isRefused_14 : decode cX7_isRefused 14 = .ok (.invokevirtual 106, 3) := by decide +kernel
theorem dX7_isRefused_17 : decode cX7_isRefused 17 = .ok (.ifCond .ne 7, 3) := by decide +kernel
theorem dX7_isRefused_20 : decode cX7_isRefused 20 = .ok (.iconst 1, 1) := by decide +kernel
theorem dX7_isRefused_21 : decode cX7_isRefused 21 = .ok (.goto 19, 3) := by decide +kernel
theorem dX7_isRefused_24 : decode cX7_isRefused 24 = .ok (.iload_n 3, 1) := by decide +kernel
theorem dX7_isRefused_25 : decode cX7_isRefused 25 = .ok (.iload_n 1, 1) := by decide +kernel
theorem dX7_isRefused_26 : decode cX7_isRefused 26 = .ok (.if_icmp .le 9, 3) := by decide +kernel
theorem dX7_isRefused_29 : decode cX7_isRefused 29 = .ok (.iload 4, 2) := by decide +kernel
theorem dX7_isRefused_31 : decode cX7_isRefused 31 = .ok (.iload_n 2, 1) := by decide +kernel
theorem dX7_isRefused_32 : decode cX7_isRefused 32 = .ok (.if_icmp .gt 7, 3) := by decide +kernel
theorem dX7_isRefused_35 : decode cX7_isRefused 35 = .ok (.iconst 2, 1) := by decide +kernel
theorem dX7_isRefused_36 : decode cX7_isRefused 36 = .ok (.goto 4, 3) := by decide +kernel
theorem dX7_isRefused_39 : decode cX7_isRefused 39 = .ok (.iconst 0, 1) := by decide +kernel
theorem dX7_isRefused_40 : decode cX7_isRefused 40 = .ok (.putfield 89, 3) := by decide +kernel
theorem dX7_isRefused_43 : decode cX7_isRefused 43 = .ok (.aload_n 0, 1) := by decide +kernel
theorem dX7_isRefused_44 : decode cX7_isRefused 44 = .ok (.getfield 89, 3) := by decide +kernel
theorem dX7_isRefused_47 : decode cX7_isRefused 47 = .ok (.ifCond .le 7, 3) := by decide +kernel
theorem dX7_isRefused_50 : decode cX7_isRefused 50 = .ok (.iconst 1, 1) := by decide +kernel
theorem dX7_isRefused_51 : decode cX7_isRefused 51 = .ok (.goto 4, 3) := by decide +kernel
theorem dX7_isRefused_54 : decode cX7_isRefused 54 = .ok (.iconst 0, 1) := by decide +kernel
theorem dX7_isRefused_55 : decode cX7_isRefused 55 = .ok (.ireturn, 1) := by decide +kernel
theorem dX7_within_0 : decode cX7_within 0 = .ok (.aload_n 0, 1) := by decide +kernel
theorem dX7_within_1 : decode cX7_within 1 = .ok (.iload_n 1, 1) := by decide +kernel
theorem dX7_within_2 : decode cX7_within 2 = .ok (.iload_n 2, 1) := by decide +kernel
theorem dX7_within_3 : decode cX7_within 3 = .ok (.iload_n 3, 1) := by decide +kernel
theorem dX7_within_4 : decode cX7_within 4 = .ok (.iload 4, 2) := by decide +kernel
theorem dX7_within_6 : decode cX7_within 6 = .ok (.invokevirtual 170, 3) := by decide +kernel
theorem dX7_within_9 : decode cX7_within 9 = .ok (.ifCond .eq 5, 3) := by decide +kernel
theorem dX7_within_12 : decode cX7_within 12 = .ok (.iconst 0, 1) := by decide +kernel
theorem dX7_within_13 : decode cX7_within 13 = .ok (.ireturn, 1) := by decide +kernel
theorem dX7_within_14 : decode cX7_within 14 = .ok (.iconst 0, 1) := by decide +kernel
theorem dX7_within_15 : decode cX7_within 15 = .ok (.istore 5, 2) := by decide +kernel
theorem dX7_within_17 : decode cX7_within 17 = .ok (.iload_n 2, 1) := by decide +kernel
theorem dX7_within_18 : decode cX7_within 18 = .ok (.istore 6, 2) := by decide +kernel
theorem dX7_within_20 : decode cX7_within 20 = .ok (.iload 6, 2) := by decide +kernel
theorem dX7_within_22 : decode cX7_within 22 = .ok (.iload 4, 2) := by decide +kernel
theorem dX7_within_24 : decode cX7_within 24 = .ok (.if_icmp .ge 37, 3) := by decide +kernel
theorem dX7_within_27 : decode cX7_within 27 = .ok (.iload_n 1, 1) := by decide +kernel
theorem dX7_within_28 : decode cX7_within 28 = .ok (.istore 7, 2) := by decide +kernel
theorem dX7_within_30 : decode cX7_within 30 = .ok (.iload 7, 2) := by decide +kernel
theorem dX7_within_32 : decode cX7_within 32 = .ok (.iload_n 3, 1) := by decide +kernel
theorem dX7_within_33 : decode cX7_within 33 = .ok (.if_icmp .ge 22, 3) := by decide +kernel
theorem dX7_within_36 : decode cX7_within 36 = .ok (.iload 5, 2) := by decide +kernel
theorem dX7_within_38 : decode cX7_within 38 = .ok (.aload_n 0, 1) := by decide +kernel
theorem dX7_within_39 : decode cX7_within 39 = .ok (.iload 7, 2) := by decide +kernel
theorem dX7_within_41 : decode cX7_within 41 = .ok (.iload 6, 2) := by decide +kernel
theorem dX7_within_43 : decode cX7_within 43 = .ok (.invokevirtual 167, 3) := by decide +kernel
theorem dX7_within_46 : decode cX7_within 46 = .ok (.iadd, 1) := by decide +kernel
theorem dX7_within_47 : decode cX7_within 47 = .ok (.istore 5, 2) := by decide +kernel
theorem dX7_within_49 : decode cX7_within 49 = .ok (.iinc 7 1, 3) := by decide +kernel
theorem dX7_within_52 : decode cX7_within 52 = .ok (.goto (-22), 3) := by decide +kernel
theorem dX7_within_55 : decode cX7_within 55 = .ok (.iinc 6 1, 3) := by decide +kernel
theorem dX7_within_58 : decode cX7_within 58 = .ok (.goto (-38), 3) := by decide +kernel
theorem dX7_within_61 : decode cX7_within 61 = .ok (.iload 5, 2) := by decide +kernel
theorem dX7_within_63 : decode cX7_within 63 = .ok (.ireturn, 1) := by decide +kernel
theorem dX7_border_0 : decode cX7_border 0 = .ok (.aload_n 0, 1) := by decide +kernel
theorem dX7_border_1 : decode cX7_border 1 = .ok (.iload_n 1, 1) := by decide +kernel
theorem dX7_border_2 : decode cX7_border 2 = .ok (.iload_n 2, 1) := by decide +kernel
theorem dX7_border_3 : decode cX7_border 3 = .ok (.iload_n 3, 1) := by decide +kernel
theorem dX7_border_4 : decode cX7_border 4 = .ok (.iload 4, 2) := by decide +kernel
theorem dX7_border_6 : decode cX7_border 6 = .ok (.invokevirtual 170, 3) := by decide +kernel
theorem dX7_border_9 : decode cX7_border 9 = .ok (.ifCond .eq 5, 3) := by decide +kernel
theorem dX7_border_12 : decode cX7_border 12 = .ok (.iconst 0, 1) := by decide +kernel
theorem dX7_border_13 : decode cX7_border 13 = .ok (.ireturn, 1) := by decide +kernel
theorem dX7_border_14 : decode cX7_border 14 = .ok (.iconst 0, 1) := by decide +kernel
theorem dX7_border_15 : decode cX7_border 15 = .ok (.istore 5, 2) := by decide +kernel
theorem dX7_border_17 : decode cX7_border 17 = .ok (.iload_n 1, 1) := by decide +kernel
theorem dX7_border_18 : decode cX7_border 18 = .ok (.istore 6, 2) := by decide +kernel
theorem dX7_border_20 : decode cX7_border 20 = .ok (.iload 6, 2) := by decide +kernel
theorem dX7_border_22 : decode cX7_border 22 = .ok (.iload_n 3, 1) := by decide +kernel
theorem dX7_border_23 : decode cX7_border 23 = .ok (.if_icmp .ge 59, 3) := by decide +kernel
theorem dX7_border_26 : decode cX7_border 26 = .ok (.iload 5, 2) := by decide +kernel
theorem dX7_border_28 : decode cX7_border 28 = .ok (.aload_n 0, 1) := by decide +kernel
theorem dX7_border_29 : decode cX7_border 29 = .ok (.iload 6, 2) := by decide +kernel
theorem dX7_border_31 : decode cX7_border 31 = .ok (.iload_n 2, 1) := by decide +kernel
theorem dX7_border_32 : decode cX7_border 32 = .ok (.invokevirtual 164, 3) := by decide +kernel
theorem dX7_border_35 : decode cX7_border 35 = .ok (.aload_n 0, 1) := by decide +kernel
theorem dX7_border_36 : decode cX7_border 36 = .ok (.iload 6, 2) := by decide +kernel
theorem dX7_border_38 : decode cX7_border 38 = .ok (.iconst 1, 1) := by decide +kernel
theorem dX7_border_39 : decode cX7_border 39 = .ok (.iadd, 1) := by decide +kernel
theorem dX7_border_40 : decode cX7_border 40 = .ok (.iload_n 2, 1) := by decide +kernel
theorem dX7_border_41 : decode cX7_border 41 = .ok (.invokevirtual 164, 3) := by decide +kernel
theorem dX7_border_44 : decode cX7_border 44 = .ok (.invokestatic 96, 3) := by decide +kernel
theorem dX7_border_47 : decode cX7_border 47 = .ok (.iadd, 1) := by decide +kernel
theorem dX7_border_48 : decode cX7_border 48 = .ok (.istore 5, 2) := by decide +kernel
theorem dX7_border_50 : decode cX7_border 50 = .ok (.iload 5, 2) := by decide +kernel
theorem dX7_border_52 : decode cX7_border 52 = .ok (.aload_n 0, 1) := by decide +kernel
theorem dX7_border_53 : decode cX7_border 53 = .ok (.iload 6, 2) := by decide +kernel
theorem dX7_border_55 : decode cX7_border 55 = .ok (.iconst 1, 1) := by decide +kernel
theorem dX7_border_56 : decode cX7_border 56 = .ok (.iadd, 1) := by decide +kernel
theorem dX7_border_57 : decode cX7_border 57 = .ok (.iload 4, 2) := by decide +kernel
theorem dX7_border_59 : decode cX7_border 59 = .ok (.invokevirtual 164, 3) := by decide +kernel
theorem dX7_border_62 : decode cX7_border 62 = .ok (.aload_n 0, 1) := by decide +kernel
theorem dX7_border_63 : decode cX7_border 63 = .ok (.iload 6, 2) := by decide +kernel
theorem dX7_border_65 : decode cX7_border 65 = .ok (.iload 4, 2) := by decide +kernel
theorem dX7_border_67 : decode cX7_border 67 = .ok (.invokevirtual 164, 3) := by decide +kernel
theorem dX7_border_70 : decode cX7_border 70 = .ok (.invokestatic 96, 3) := by decide +kernel
theorem dX7_border_73 : decode cX7_border 73 = .ok (.iadd, 1) := by decide +kernel
theorem dX7_border_74 : decode cX7_border 74 = .ok (.istore 5, 2) := by decide +kernel
theorem dX7_border_76 : decode cX7_border 76 = .ok (.iinc 6 1, 3) := by decide +kernel
theorem dX7_border_79 : decode cX7_border 79 = .ok (.goto (-59), 3) := by decide +kernel
theorem dX7_border_82 : decode cX7_border 82 = .ok (.iload_n 2, 1) := by decide +kernel
theorem dX7_border_83 : decode cX7_border 83 = .ok (.istore 6, 2) := by decide +kernel
theorem dX7_border_85 : decode cX7_border 85 = .ok (.iload 6, 2) := by decide +kernel
theorem dX7_border_87 : decode cX7_border 87 = .ok (.iload 4, 2) := by decide +kernel
theorem dX7_border_89 : decode cX7_border 89 = .ok (.if_icmp .ge 57, 3) := by decide +kernel
theorem dX7_border_92 : decode cX7_border 92 = .ok (.iload 5, 2) := by decide +kernel
theorem dX7_border_94 : decode cX7_border 94 = .ok (.aload_n 0, 1) := by decide +kernel
theorem dX7_border_95 : decode cX7_border 95 = .ok (.iload_n 3, 1) := by decide +kernel
theorem dX7_border_96 : decode cX7_border 96 = .ok (.iload 6, 2) := by decide +kernel
theorem dX7_border_98 : decode cX7_border 98 = .ok (.invokevirtual 164, 3) := by decide +kernel
theorem dX7_border_101 : decode cX7_border 101 = .ok (.aload_n 0, 1) := by decide +kernel
theorem dX7_border_102 : decode cX7_border 102 = .ok (.iload_n 3, 1) := by decide +kernel
theorem dX7_border_103 : decode cX7_border 103 = .ok (.iload 6, 2) := by decide +kernel
theorem dX7_border_105 : decode cX7_border 105 = .ok (.iconst 1, 1) := by decide +kernel
theorem dX7_border_106 : decode cX7_border 106 = .ok (.iadd, 1) := by decide +kernel
theorem dX7_border_107 : decode cX7_border 107 = .ok (.invokevirtual 164, 3) := by decide +kernel
theorem dX7_border_110 : decode cX7_border 110 = .ok (.invokestatic 96, 3) := by decide +kernel
theorem dX7_border_113 : decode cX7_border 113 = .ok (.iadd, 1) := by decide +kernel
theorem dX7_border_114 : decode cX7_border 114 = .ok (.istore 5, 2) := by decide +kernel
theorem dX7_border_116 : decode cX7_border 116 = .ok (.iload 5, 2) := by decide +kernel
theorem dX7_border_118 : decode cX7_border 118 = .ok (.aload_n 0, 1) := by decide +kernel
theorem dX7_border_119 : decode cX7_border 119 = .ok (.iload_n 1, 1) := by decide +kernel
theorem dX7_border_120 : decode cX7_border 120 = .ok (.iload 6, 2) := by decide +kernel
theorem dX7_border_122 : decode cX7_border 122 = .ok (.iconst 1, 1) := by decide +kernel
theorem dX7_border_123 : decode cX7_border 123 = .ok (.iadd, 1) := by decide +kernel
theorem dX7_border_124 : decode cX7_border 124 = .ok (.invokevirtual 164, 3) := by decide +kernel
theorem dX7_border_127 : decode cX7_border 127 = .ok (.aload_n 0, 1) := by decide +kernel
theorem dX7_border_128 : decode cX7_border 128 = .ok (.iload_n 1, 1) := by decide +kernel
theorem dX7_border_129 : decode cX7_border 129 = .ok (.iload 6, 2) := by decide +kernel
theorem dX7_border_131 : decode cX7_border 131 = .ok (.invokevirtual 164, 3) := by decide +kernel
theorem dX7_border_134 : decode cX7_border 134 = .ok (.invokestatic 96, 3) := by decide +kernel
theorem dX7_border_137 : decode cX7_border 137 = .ok (.iadd, 1) := by decide +kernel
theorem dX7_border_138 : decode cX7_border 138 = .ok (.istore 5, 2) := by decide +kernel
theorem dX7_border_140 : decode cX7_border 140 = .ok (.iinc 6 1, 3) := by decide +kernel
theorem dX7_border_143 : decode cX7_border 143 = .ok (.goto (-58), 3) := by decide +kernel
theorem dX7_border_146 : decode cX7_border 146 = .ok (.iload 5, 2) := by decide +kernel
theorem dX7_border_148 : decode cX7_border 148 = .ok (.bipush 15, 2) := by decide +kernel
theorem dX7_border_150 : decode cX7_border 150 = .ok (.idiv, 1) := by decide +kernel
theorem dX7_border_151 : decode cX7_border 151 = .ok (.ireturn, 1) := by decide +kernel
theorem dX7_defects_0 : decode cX7_defects 0 = .ok (.aload_n 0, 1) := by decide +kernel
theorem dX7_defects_1 : decode cX7_defects 1 = .ok (.iconst 0, 1) := by decide +kernel
theorem dX7_defects_2 : decode cX7_defects 2 = .ok (.putfield 89, 3) := by decide +kernel
theorem dX7_defects_5 : decode cX7_defects 5 = .ok (.iconst 0, 1) := by decide +kernel
theorem dX7_defects_6 : decode cX7_defects 6 = .ok (.istore_n 1, 1) := by decide +kernel
theorem dX7_defects_7 : decode cX7_defects 7 = .ok (.iconst 0, 1) := by decide +kernel
theorem dX7_defects_8 : decode cX7_defects 8 = .ok (.istore_n 2, 1) := by decide +kernel
theorem dX7_defects_9 : decode cX7_defects 9 = .ok (.iload_n 2, 1) := by decide +kernel
theorem dX7_defects_10 : decode cX7_defects 10 = .ok (.aload_n 0, 1) := by decide +kernel
theorem dX7_defects_11 : decode cX7_defects 11 = .ok (.getfield 13, 3) := by decide +kernel
theorem dX7_defects_14 : decode cX7_defects 14 = .ok (.iconst 1, 1) := by decide +kernel
theorem dX7_defects_15 : decode cX7_defects 15 = .ok (.isub, 1) := by decide +kernel
theorem dX7_defects_16 : decode cX7_defects 16 = .ok (.if_icmp .ge 44, 3) := by decide +kernel
theorem dX7_defects_19 : decode cX7_defects 19 = .ok (.iconst 0, 1) := by decide +kernel
theorem dX7_defects_20 : decode cX7_defects 20 = .ok (.istore_n 3, 1) := by decide +kernel
theorem dX7_defects_21 : decode cX7_defects 21 = .ok (.iload_n 3, 1) := by decide +kernel
theorem dX7_defects_22 : decode cX7_defects 22 = .ok (.aload_n 0, 1) := by decide +kernel
theorem dX7_defects_23 : decode cX7_defects 23 = .ok (.getfield 7, 3) := by decide +kernel
theorem dX7_defects_26 : decode cX7_defects 26 = .ok (.iconst 1, 1) := by decide +kernel
theorem dX7_defects_27 : decode cX7_defects 27 = .ok (.isub, 1) := by decide +kernel
theorem dX7_defects_28 : decode cX7_defects 28 = .ok (.if_icmp .ge 26, 3) := by decide +kernel
theorem dX7_defects_31 : decode cX7_defects 31 = .ok (.iload_n 1, 1) := by decide +kernel
theorem dX7_defects_32 : decode cX7_defects 32 = .ok (.aload_n 0, 1) := by decide +kernel
theorem dX7_defects_33 : decode cX7_defects 33 = .ok (.iload_n 3, 1) := by decide +kernel
theorem dX7_defects_34 : decode cX7_defects 34 = .ok (.iload_n 2, 1) := by decide +kernel
theorem dX7_defects_35 : decode cX7_defects 35 = .ok (.invokevirtual 167, 3) := by decide +kernel
theorem dX7_defects_38 : decode cX7_defects 38 = .ok (.ifCond .eq 7, 3) := by decide +kernel
theorem dX7_defects_41 : decode cX7_defects 41 = .ok (.iconst 1, 1) := by decide +kernel
theorem dX7_defects_42 : decode cX7_defects 42 = .ok (.goto 4, 3) := by decide +kernel
theorem dX7_defects_45 : decode cX7_defects 45 = .ok (.iconst 0, 1) := by decide +kernel
theorem dX7_defects_46 : decode cX7_defects 46 = .ok (.iadd, 1) := by decide +kernel
theorem dX7_defects_47 : decode cX7_defects 47 = .ok (.istore_n 1, 1) := by decide +kernel
theorem dX7_defects_48 : decode cX7_defects 48 = .ok (.iinc 3 1, 3) := by decide +kernel
theorem dX7_defects_51 : decode cX7_defects 51 = .ok (.goto (-30), 3) := by decide +kernel
theorem dX7_defects_54 : decode cX7_defects 54 = .ok (.iinc 2 1, 3) := by decide +kernel
theorem dX7_defects_57 : decode cX7_defects 57 = .ok (.goto (-48), 3) := by decide +kernel
theorem dX7_defects_60 : decode cX7_defects 60 = .ok (.iload_n 1, 1) := by decide +kernel
theorem dX7_defects_61 : decode cX7_defects 61 = .ok (.ireturn, 1) := by decide +kernel
theorem dX7_defect_0 : decode cX7_defect 0 = .ok (.aload_n 0, 1) := by decide +kernel
theorem dX7_defect_1 : decode cX7_defect 1 = .ok (.iconst 0, 1) := by decide +kernel
theorem dX7_defect_2 : decode cX7_defect 2 = .ok (.putfield 89, 3) := by decide +kernel
theorem dX7_defect_5 : decode cX7_defect 5 = .ok (.iload_n 1, 1) := by decide +kernel
theorem dX7_defect_6 : decode cX7_defect 6 = .ok (.istore_n 3, 1) := by decide +kernel
theorem dX7_defect_7 : decode cX7_defect 7 = .ok (.iconst (-1), 1) := by decide +kernel
theorem dX7_defect_8 : decode cX7_defect 8 = .ok (.istore 4, 2) := by decide +kernel
theorem dX7_defect_10 : decode cX7_defect 10 = .ok (.iconst (-1), 1) := by decide +kernel
theorem dX7_defect_11 : decode cX7_defect 11 = .ok (.istore 5, 2) := by decide +kernel
theorem dX7_defect_13 : decode cX7_defect 13 = .ok (.iconst 0, 1) := by decide +kernel
theorem dX7_defect_14 : decode cX7_defect 14 = .ok (.istore 6, 2) := by decide +kernel
theorem dX7_defect_16 : decode cX7_defect 16 = .ok (.iload 6, 2) := by decide +kernel
theorem dX7_defect_18 : decode cX7_defect 18 = .ok (.aload_n 0, 1) := by decide +kernel
theorem dX7_defect_19 : decode cX7_defect 19 = .ok (.getfield 13, 3) := by decide +kernel
theorem dX7_defect_22 : decode cX7_defect 22 = .ok (.iconst 1, 1) := by decide +kernel
theorem dX7_defect_23 : decode cX7_defect 23 = .ok (.isub, 1) := by decide +kernel
theorem dX7_defect_24 : decode cX7_defect 24 = .ok (.if_icmp .ge 77, 3) := by decide +kernel
theorem dX7_defect_27 : decode cX7_defect 27 = .ok (.iload_n 3, 1) := by decide +kernel
theorem dX7_defect_28 : decode cX7_defect 28 = .ok (.ifCond .lt 73, 3) := by decide +kernel
theorem dX7_defect_31 : decode cX7_defect 31 = .ok (.iconst 0, 1) := by decide +kernel
theorem dX7_defect_32 : decode cX7_defect 32 = .ok (.istore 7, 2) := by decide +kernel
theorem dX7_defect_34 : decode cX7_defect 34 = .ok (.iload 7, 2) := by decide +kernel
theorem dX7_defect_36 : decode cX7_defect 36 = .ok (.aload_n 0, 1) := by decide +kernel
theorem dX7_defect_37 : decode cX7_defect 37 = .ok (.getfield 7, 3) := by decide +kernel
theorem dX7_defect_40 : decode cX7_defect 40 = .ok (.iconst 1, 1) := by decide +kernel
theorem dX7_defect_41 : decode cX7_defect 41 = .ok (.isub, 1) := by decide +kernel
theorem dX7_defect_42 : decode cX7_defect 42 = .ok (.if_icmp .ge 53, 3) := by decide +kernel
theorem dX7_defect_45 : decode cX7_defect 45 = .ok (.iload_n 3, 1) := by decide +kernel
theorem dX7_defect_46 : decode cX7_defect 46 = .ok (.ifCond .lt 49, 3) := by decide +kernel
theorem dX7_defect_49 : decode cX7_defect 49 = .ok (.aload_n 0, 1) := by decide +kernel
theorem dX7_defect_50 : decode cX7_defect 50 = .ok (.iload 7, 2) := by decide +kernel
theorem dX7_defect_52 : decode cX7_defect 52 = .ok (.iload 6, 2) := by decide +kernel
theorem dX7_defect_54 : decode cX7_defect 54 = .ok (.invokevirtual 167, 3) := by decide +kernel
theorem dX7_defect_57 : decode cX7_defect 57 = .ok (.ifCond .eq 32, 3) := by decide +kernel
theorem dX7_defect_60 : decode cX7_defect 60 = .ok (.iload_n 3, 1) := by decide +kernel
theorem dX7_defect_61 : decode cX7_defect 61 = .ok (.ifCond .ne 8, 3) := by decide +kernel
theorem dX7_defect_64 : decode cX7_defect 64 = .ok (.iload 7, 2) := by decide +kernel
theorem dX7_defect_66 : decode cX7_defect 66 = .ok (.goto 5, 3) := by decide +kernel
theorem dX7_defect_69 : decode cX7_defect 69 = .ok (.iload 4, 2) := by decide +kernel
theorem dX7_defect_71 : decode cX7_defect 71 = .ok (.istore 4, 2) := by decide +kernel
theorem dX7_defect_73 : decode cX7_defect 73 = .ok (.iload_n 3, 1) := by decide +kernel
theorem dX7_defect_74 : decode cX7_defect 74 = .ok (.ifCond .ne 8, 3) := by decide +kernel
theorem dX7_defect_77 : decode cX7_defect 77 = .ok (.iload 6, 2) := by decide +kernel
theorem dX7_defect_79 : decode cX7_defect 79 = .ok (.goto 5, 3) := by decide +kernel
theorem dX7_defect_82 : decode cX7_defect 82 = .ok (.iload 5, 2) := by decide +kernel
theorem dX7_defect_84 : decode cX7_defect 84 = .ok (.istore 5, 2) := by decide +kernel
theorem dX7_defect_86 : decode cX7_defect 86 = .ok (.iinc 3 (-1), 3) := by decide +kernel
theorem dX7_defect_89 : decode cX7_defect 89 = .ok (.iinc 7 1, 3) := by decide +kernel
theorem dX7_defect_92 : decode cX7_defect 92 = .ok (.goto (-58), 3) := by decide +kernel
theorem dX7_defect_95 : decode cX7_defect 95 = .ok (.iinc 6 1, 3) := by decide +kernel
theorem dX7_defect_98 : decode cX7_defect 98 = .ok (.goto (-82), 3) := by decide +kernel
theorem dX7_defect_101 : decode cX7_defect 101 = .ok (.iload 4, 2) := by decide +kernel
theorem dX7_defect_103 : decode cX7_defect 103 = .ok (.iconst (-1), 1) := by decide +kernel
theorem dX7_defect_104 : decode cX7_defect 104 = .ok (.if_icmp .ne 9, 3) := by decide +kernel
theorem dX7_defect_107 : decode cX7_defect 107 = .ok (.aload_n 0, 1) := by decide +kernel
theorem dX7_defect_108 : decode cX7_defect 108 = .ok (.iconst 1, 1) := by decide +kernel
theorem dX7_defect_109 : decode cX7_defect 109 = .ok (.invokevirtual 122, 3) := by decide +kernel
theorem dX7_defect_112 : decode cX7_defect 112 = .ok (.ireturn, 1) := by decide +kernel
theorem dX7_defect_113 : decode cX7_defect 113 = .ok (.iload_n 2, 1) := by decide +kernel
theorem dX7_defect_114 : decode cX7_defect 114 = .ok (.iconst 0, 1) := by decide +kernel
theorem dX7_defect_115 : decode cX7_defect 115 = .ok (.iconst 2, 1) := by decide +kernel
theorem dX7_defect_116 : decode cX7_defect 116 = .ok (.invokestatic 92, 3) := by decide +kernel
theorem dX7_defect_119 : decode cX7_defect 119 = .ok (.ifCond .ne 9, 3) := by decide +kernel
theorem dX7_defect_122 : decode cX7_defect 122 = .ok (.aload_n 0, 1) := by decide +kernel
theorem dX7_defect_123 : decode cX7_defect 123 = .ok (.iconst 2, 1) := by decide +kernel
theorem dX7_defect_124 : decode cX7_defect 124 = .ok (.invokevirtual 122, 3) := by decide +kernel
theorem dX7_defect_127 : decode cX7_defect 127 = .ok (.ireturn, 1) := by decide +kernel
theorem dX7_defect_128 : decode cX7_defect 128 = .ok (.iload_n 2, 1) := by decide +kernel
theorem dX7_defect_129 : decode cX7_defect 129 = .ok (.ifCond .ne 8, 3) := by decide +kernel
theorem dX7_defect_132 : decode cX7_defect 132 = .ok (.iload 4, 2) := by decide +kernel
theorem dX7_defect_134 : decode cX7_defect 134 = .ok (.goto 21, 3) := by decide +kernel
theorem dX7_defect_137 : decode cX7_defect 137 = .ok (.iload_n 2, 1) := by decide +kernel
theorem dX7_defect_138 : decode cX7_defect 138 = .ok (.iconst 1, 1) := by decide +kernel
theorem dX7_defect_139 : decode cX7_defect 139 = .ok (.if_icmp .ne 8, 3) := by decide +kernel
theorem dX7_defect_142 : decode cX7_defect 142 = .ok (.iload 5, 2) := by decide +kernel
theorem dX7_defect_144 : decode cX7_defect 144 = .ok (.goto 11, 3) := by decide +kernel
theorem dX7_defect_147 : decode cX7_defect 147 = .ok (.aload_n 0, 1) := by decide +kernel
theorem dX7_defect_148 : decode cX7_defect 148 = .ok (.iload 4, 2) := by decide +kernel
theorem dX7_defect_150 : decode cX7_defect 150 = .ok (.iload 5, 2) := by decide +kernel
theorem dX7_defect_152 : decode cX7_defect 152 = .ok (.invokevirtual 167, 3) := by decide +kernel
theorem dX7_defect_155 : decode cX7_defect 155 = .ok (.ireturn, 1) := by decide +kernel
theorem dX7_flickers_0 : decode cX7_flickers 0 = .ok (.aload_n 0, 1) := by decide +kernel
theorem dX7_flickers_1 : decode cX7_flickers 1 = .ok (.getfield 47, 3) := by decide +kernel
theorem dX7_flickers_4 : decode cX7_flickers 4 = .ok (.iload_n 1, 1) := by decide +kernel
theorem dX7_flickers_5 : decode cX7_flickers 5 = .ok (.iaload, 1) := by decide +kernel
theorem dX7_flickers_6 : decode cX7_flickers 6 = .ok (.bipush 8, 2) := by decide +kernel
theorem dX7_flickers_8 : decode cX7_flickers 8 = .ok (.if_icmp .ge 12, 3) := by decide +kernel
theorem dX7_flickers_11 : decode cX7_flickers 11 = .ok (.aload_n 0, 1) := by decide +kernel
theorem dX7_flickers_12 : decode cX7_flickers 12 = .ok (.getfield 47, 3) := by decide +kernel
theorem dX7_flickers_15 : decode cX7_flickers 15 = .ok (.iload_n 1, 1) := by decide +kernel
theorem dX7_flickers_16 : decode cX7_flickers 16 = .ok (.iaload, 1) := by decide +kernel
theorem dX7_flickers_17 : decode cX7_flickers 17 = .ok (.goto 5, 3) := by decide +kernel
theorem dX7_flickers_20 : decode cX7_flickers 20 = .ok (.bipush 8, 2) := by decide +kernel
theorem dX7_flickers_22 : decode cX7_flickers 22 = .ok (.istore_n 2, 1) := by decide +kernel
theorem dX7_flickers_23 : decode cX7_flickers 23 = .ok (.bipush 100, 2) := by decide +kernel
theorem dX7_flickers_25 : decode cX7_flickers 25 = .ok (.istore_n 3, 1) := by decide +kernel
theorem dX7_flickers_26 : decode cX7_flickers 26 = .ok (.iconst 0, 1) := by decide +kernel
theorem dX7_flickers_27 : decode cX7_flickers 27 = .ok (.istore 4, 2) := by decide +kernel
theorem dX7_flickers_29 : decode cX7_flickers 29 = .ok (.iconst 0, 1) := by decide +kernel
theorem dX7_flickers_30 : decode cX7_flickers 30 = .ok (.istore 5, 2) := by decide +kernel
theorem dX7_flickers_32 : decode cX7_flickers 32 = .ok (.iload 5, 2) := by decide +kernel
theorem dX7_flickers_34 : decode cX7_flickers 34 = .ok (.iload_n 2, 1) := by decide +kernel
theorem dX7_flickers_35 : decode cX7_flickers 35 = .ok (.if_icmp .ge 52, 3) := by decide +kernel
theorem dX7_flickers_38 : decode cX7_flickers 38 = .ok (.aload_n 0, 1) := by decide +kernel
theorem dX7_flickers_39 : decode cX7_flickers 39 = .ok (.getfield 44, 3) := by decide +kernel
theorem dX7_flickers_42 : decode cX7_flickers 42 = .ok (.bipush 8, 2) := by decide +kernel
theorem dX7_flickers_44 : decode cX7_flickers 44 = .ok (.iload_n 1, 1) := by decide +kernel
theorem dX7_flickers_45 : decode cX7_flickers 45 = .ok (.imul, 1) := by decide +kernel
theorem dX7_flickers_46 : decode cX7_flickers 46 = .ok (.iload 5, 2) := by decide +kernel
theorem dX7_flickers_48 : decode cX7_flickers 48 = .ok (.iadd, 1) := by decide +kernel
theorem dX7_flickers_49 : decode cX7_flickers 49 = .ok (.iaload, 1) := by decide +kernel
theorem dX7_flickers_50 : decode cX7_flickers 50 = .ok (.istore 6, 2) := by decide +kernel
theorem dX7_flickers_52 : decode cX7_flickers 52 = .ok (.iload 6, 2) := by decide +kernel
theorem dX7_flickers_54 : decode cX7_flickers 54 = .ok (.iload_n 3, 1) := by decide +kernel
theorem dX7_flickers_55 : decode cX7_flickers 55 = .ok (.if_icmp .ge 8, 3) := by decide +kernel
theorem dX7_flickers_58 : decode cX7_flickers 58 = .ok (.iload 6, 2) := by decide +kernel
theorem dX7_flickers_60 : decode cX7_flickers 60 = .ok (.goto 4, 3) := by decide +kernel
theorem dX7_flickers_63 : decode cX7_flickers 63 = .ok (.iload_n 3, 1) := by decide +kernel
theorem dX7_flickers_64 : decode cX7_flickers 64 = .ok (.istore_n 3, 1) := by decide +kernel
theorem dX7_flickers_65 : decode cX7_flickers 65 = .ok (.iload 6, 2) := by decide +kernel
theorem dX7_flickers_67 : decode cX7_flickers 67 = .ok (.iload 4, 2) := by decide +kernel
theorem dX7_flickers_69 : decode cX7_flickers 69 = .ok (.if_icmp .le 8, 3) := by decide +kernel
theorem dX7_flickers_72 : decode cX7_flickers 72 = .ok (.iload 6, 2) := by decide +kernel
theorem dX7_flickers_74 : decode cX7_flickers 74 = .ok (.goto 5, 3) := by decide +kernel
theorem dX7_flickers_77 : decode cX7_flickers 77 = .ok (.iload 4, 2) := by decide +kernel
theorem dX7_flickers_79 : decode cX7_flickers 79 = .ok (.istore 4, 2) := by decide +kernel
theorem dX7_flickers_81 : decode cX7_flickers 81 = .ok (.iinc 5 1, 3) := by decide +kernel
theorem dX7_flickers_84 : decode cX7_flickers 84 = .ok (.goto (-52), 3) := by decide +kernel
theorem dX7_flickers_87 : decode cX7_flickers 87 = .ok (.iload_n 2, 1) := by decide +kernel
theorem dX7_flickers_88 : decode cX7_flickers 88 = .ok (.ifCond .ne 7, 3) := by decide +kernel
theorem dX7_flickers_91 : decode cX7_flickers 91 = .ok (.iconst 0, 1) := by decide +kernel
theorem dX7_flickers_92 : decode cX7_flickers 92 = .ok (.goto 7, 3) := by decide +kernel
theorem dX7_flickers_95 : decode cX7_flickers 95 = .ok (.iload 4, 2) := by decide +kernel
theorem dX7_flickers_97 : decode cX7_flickers 97 = .ok (.iload_n 3, 1) := by decide +kernel
theorem dX7_flickers_98 : decode cX7_flickers 98 = .ok (.isub, 1) := by decide +kernel
theorem dX7_flickers_99 : decode cX7_flickers 99 = .ok (.ireturn, 1) := by decide +kernel
theorem dX7_isGood_0 : decode cX7_isGood 0 = .ok (.iconst 0, 1) := by decide +kernel
theorem dX7_isGood_1 : decode cX7_isGood 1 = .ok (.istore_n 2, 1) := by decide +kernel
theorem dX7_isGood_2 : decode cX7_isGood 2 = .ok (.iload_n 2, 1) := by decide +kernel
theorem dX7_isGood_3 : decode cX7_isGood 3 = .ok (.aload_n 0, 1) := by decide +kernel
theorem dX7_isGood_4 : decode cX7_isGood 4 = .ok (.getfield 13, 3) := by decide +kernel
theorem dX7_isGood_7 : decode cX7_isGood 7 = .ok (.iconst 1, 1) := by decide +kernel
theorem dX7_isGood_8 : decode cX7_isGood 8 = .ok (.isub, 1) := by decide +kernel
theorem dX7_isGood_9 : decode cX7_isGood 9 = .ok (.if_icmp .ge 114, 3) := by decide +kernel
theorem dX7_isGood_12 : decode cX7_isGood 12 = .ok (.iconst 0, 1) := by decide +kernel
theorem dX7_isGood_13 : decode cX7_isGood 13 = .ok (.istore_n 3, 1) := by decide +kernel
theorem dX7_isGood_14 : decode cX7_isGood 14 = .ok (.iload_n 3, 1) := by decide +kernel
theorem dX7_isGood_15 : decode cX7_isGood 15 = .ok (.aload_n 0, 1) := by decide +kernel
theorem dX7_isGood_16 : decode cX7_isGood 16 = .ok (.getfield 7, 3) := by decide +kernel
theorem dX7_isGood_19 : decode cX7_isGood 19 = .ok (.iconst 1, 1) := by decide +kernel
theorem dX7_isGood_20 : decode cX7_isGood 20 = .ok (.isub, 1) := by decide +kernel
theorem dX7_isGood_21 : decode cX7_isGood 21 = .ok (.if_icmp .ge 96, 3) := by decide +kernel
theorem dX7_isGood_24 : decode cX7_isGood 24 = .ok (.aload_n 0, 1) := by decide +kernel
theorem dX7_isGood_25 : decode cX7_isGood 25 = .ok (.getfield 35, 3) := by decide +kernel
theorem dX7_isGood_28 : decode cX7_isGood 28 = .ok (.iload_n 3, 1) := by decide +kernel
theorem dX7_isGood_29 : decode cX7_isGood 29 = .ok (.iload_n 2, 1) := by decide +kernel
theorem dX7_isGood_30 : decode cX7_isGood 30 = .ok (.invokestatic 100, 3) := by decide +kernel
theorem dX7_isGood_33 : decode cX7_isGood 33 = .ok (.iaload, 1) := by decide +kernel
theorem dX7_isGood_34 : decode cX7_isGood 34 = .ok (.iload_n 1, 1) := by decide +kernel
theorem dX7_isGood_35 : decode cX7_isGood 35 = .ok (.if_icmp .eq 53, 3) := by decide +kernel
theorem dX7_isGood_38 : decode cX7_isGood 38 = .ok (.aload_n 0, 1) := by decide +kernel
theorem dX7_isGood_39 : decode cX7_isGood 39 = .ok (.getfield 35, 3) := by decide +kernel
theorem dX7_isGood_42 : decode cX7_isGood 42 = .ok (.iload_n 3, 1) := by decide +kernel
theorem dX7_isGood_43 : decode cX7_isGood 43 = .ok (.iconst 1, 1) := by decide +kernel
theorem dX7_isGood_44 : decode cX7_isGood 44 = .ok (.iadd, 1) := by decide +kernel
theorem dX7_isGood_45 : decode cX7_isGood 45 = .ok (.iload_n 2, 1) := by decide +kernel
theorem dX7_isGood_46 : decode cX7_isGood 46 = .ok (.invokestatic 100, 3) := by decide +kernel
theorem dX7_isGood_49 : decode cX7_isGood 49 = .ok (.iaload, 1) := by decide +kernel
theorem dX7_isGood_50 : decode cX7_isGood 50 = .ok (.iload_n 1, 1) := by decide +kernel
theorem dX7_isGood_51 : decode cX7_isGood 51 = .ok (.if_icmp .eq 37, 3) := by decide +kernel
theorem dX7_isGood_54 : decode cX7_isGood 54 = .ok (.aload_n 0, 1) := by decide +kernel
theorem dX7_isGood_55 : decode cX7_isGood 55 = .ok (.getfield 35, 3) := by decide +kernel
theorem dX7_isGood_58 : decode cX7_isGood 58 = .ok (.iload_n 3, 1) := by decide +kernel
theorem dX7_isGood_59 : decode cX7_isGood 59 = .ok (.iload_n 2, 1) := by decide +kernel
theorem dX7_isGood_60 : decode cX7_isGood 60 = .ok (.iconst 1, 1) := by decide +kernel
theorem dX7_isGood_61 : decode cX7_isGood 61 = .ok (.iadd, 1) := by decide +kernel
theorem dX7_isGood_62 : decode cX7_isGood 62 = .ok (.invokestatic 100, 3) := by decide +kernel
theorem dX7_isGood_65 : decode cX7_isGood 65 = .ok (.iaload, 1) := by decide +kernel
theorem dX7_isGood_66 : decode cX7_isGood 66 = .ok (.iload_n 1, 1) := by decide +kernel
theorem dX7_isGood_67 : decode cX7_isGood 67 = .ok (.if_icmp .eq 21, 3) := by decide +kernel
theorem dX7_isGood_70 : decode cX7_isGood 70 = .ok (.aload_n 0, 1) := by decide +kernel
theorem dX7_isGood_71 : decode cX7_isGood 71 = .ok (.getfield 35, 3) := by decide +kernel
theorem dX7_isGood_74 : decode cX7_isGood 74 = .ok (.iload_n 3, 1) := by decide +kernel
theorem dX7_isGood_75 : decode cX7_isGood 75 = .ok (.iconst 1, 1) := by decide +kernel
theorem dX7_isGood_76 : decode cX7_isGood 76 = .ok (.iadd, 1) := by decide +kernel
theorem dX7_isGood_77 : decode cX7_isGood 77 = .ok (.iload_n 2, 1) := by decide +kernel
theorem dX7_isGood_78 : decode cX7_isGood 78 = .ok (.iconst 1, 1) := by decide +kernel
theorem dX7_isGood_79 : decode cX7_isGood 79 = .ok (.iadd, 1) := by decide +kernel
theorem dX7_isGood_80 : decode cX7_isGood 80 = .ok (.invokestatic 100, 3) := by decide +kernel
theorem dX7_isGood_83 : decode cX7_isGood 83 = .ok (.iaload, 1) := by decide +kernel
theorem dX7_isGood_84 : decode cX7_isGood 84 = .ok (.iload_n 1, 1) := by decide +kernel
theorem dX7_isGood_85 : decode cX7_isGood 85 = .ok (.if_icmp .ne 7, 3) := by decide +kernel
theorem dX7_isGood_88 : decode cX7_isGood 88 = .ok (.iconst 1, 1) := by decide +kernel
theorem dX7_isGood_89 : decode cX7_isGood 89 = .ok (.goto 4, 3) := by decide +kernel
theorem dX7_isGood_92 : decode cX7_isGood 92 = .ok (.iconst 0, 1) := by decide +kernel
theorem dX7_isGood_93 : decode cX7_isGood 93 = .ok (.istore 4, 2) := by decide +kernel
theorem dX7_isGood_95 : decode cX7_isGood 95 = .ok (.iload 4, 2) := by decide +kernel
theorem dX7_isGood_97 : decode cX7_isGood 97 = .ok (.ifCond .eq 14, 3) := by decide +kernel
theorem dX7_isGood_100 : decode cX7_isGood 100 = .ok (.aload_n 0, 1) := by decide +kernel
theorem dX7_isGood_101 : decode cX7_isGood 101 = .ok (.iload_n 3, 1) := by decide +kernel
theorem dX7_isGood_102 : decode cX7_isGood 102 = .ok (.iload_n 2, 1) := by decide +kernel
theorem dX7_isGood_103 : decode cX7_isGood 103 = .ok (.invokevirtual 167, 3) := by decide +kernel
theorem dX7_isGood_106 : decode cX7_isGood 106 = .ok (.ifCond .eq 5, 3) := by decide +kernel
theorem dX7_isGood_109 : decode cX7_isGood 109 = .ok (.iconst 0, 1) := by decide +kernel
theorem dX7_isGood_110 : decode cX7_isGood 110 = .ok (.ireturn, 1) := by decide +kernel
theorem dX7_isGood_111 : decode cX7_isGood 111 = .ok (.iinc 3 1, 3) := by decide +kernel
theorem dX7_isGood_114 : decode cX7_isGood 114 = .ok (.goto (-100), 3) := by decide +kernel
theorem dX7_isGood_117 : decode cX7_isGood 117 = .ok (.iinc 2 1, 3) := by decide +kernel
theorem dX7_isGood_120 : decode cX7_isGood 120 = .ok (.goto (-118), 3) := by decide +kernel
theorem dX7_isGood_123 : decode cX7_isGood 123 = .ok (.iconst 1, 1) := by decide +kernel
theorem dX7_isGood_124 : decode cX7_isGood 124 = .ok (.ireturn, 1) := by decide +kernel
theorem dX7_ofPixel_0 : decode cX7_ofPixel 0 = .ok (.aload_n 0, 1) := by decide +kernel
theorem dX7_ofPixel_1 : decode cX7_ofPixel 1 = .ok (.iconst 0, 1) := by decide +kernel
theorem dX7_ofPixel_2 : decode cX7_ofPixel 2 = .ok (.putfield 89, 3) := by decide +kernel
theorem dX7_ofPixel_5 : decode cX7_ofPixel 5 = .ok (.aload_n 0, 1) := by decide +kernel
theorem dX7_ofPixel_6 : decode cX7_ofPixel 6 = .ok (.iload_n 1, 1) := by decide +kernel
theorem dX7_ofPixel_7 : decode cX7_ofPixel 7 = .ok (.invokevirtual 133, 3) := by decide +kernel
theorem dX7_ofPixel_10 : decode cX7_ofPixel 10 = .ok (.ifCond .ne 9, 3) := by decide +kernel
theorem dX7_ofPixel_13 : decode cX7_ofPixel 13 = .ok (.aload_n 0, 1) := by decide +kernel
theorem dX7_ofPixel_14 : decode cX7_ofPixel 14 = .ok (.iconst 1, 1) := by decide +kernel
theorem dX7_ofPixel_15 : decode cX7_ofPixel 15 = .ok (.invokevirtual 122, 3) := by decide +kernel
theorem dX7_ofPixel_18 : decode cX7_ofPixel 18 = .ok (.ireturn, 1) := by decide +kernel
theorem dX7_ofPixel_19 : decode cX7_ofPixel 19 = .ok (.iload_n 2, 1) := by decide +kernel
theorem dX7_ofPixel_20 : decode cX7_ofPixel 20 = .ok (.iconst 0, 1) := by decide +kernel
theorem dX7_ofPixel_21 : decode cX7_ofPixel 21 = .ok (.iconst 4, 1) := by decide +kernel
theorem dX7_ofPixel_22 : decode cX7_ofPixel 22 = .ok (.invokestatic 92, 3) := by decide +kernel
theorem dX7_ofPixel_25 : decode cX7_ofPixel 25 = .ok (.ifCond .ne 9, 3) := by decide +kernel
theorem dX7_ofPixel_28 : decode cX7_ofPixel 28 = .ok (.aload_n 0, 1) := by decide +kernel
theorem dX7_ofPixel_29 : decode cX7_ofPixel 29 = .ok (.iconst 2, 1) := by decide +kernel
theorem dX7_ofPixel_30 : decode cX7_ofPixel 30 = .ok (.invokevirtual 122, 3) := by decide +kernel
theorem dX7_ofPixel_33 : decode cX7_ofPixel 33 = .ok (.ireturn, 1) := by decide +kernel
theorem dX7_ofPixel_34 : decode cX7_ofPixel 34 = .ok (.iload_n 2, 1) := by decide +kernel
theorem dX7_ofPixel_35 : decode cX7_ofPixel 35 = .ok (.tableswitch 62 0 3 #[29, 35, 41, 55], 29) := by decide +kernel
theorem dX7_ofPixel_64 : decode cX7_ofPixel 64 = .ok (.aload_n 0, 1) := by decide +kernel
theorem dX7_ofPixel_65 : decode cX7_ofPixel 65 = .ok (.iload_n 1, 1) := by decide +kernel
theorem dX7_ofPixel_66 : decode cX7_ofPixel 66 = .ok (.invokevirtual 160, 3) := by decide +kernel
theorem dX7_ofPixel_69 : decode cX7_ofPixel 69 = .ok (.ireturn, 1) := by decide +kernel
theorem dX7_ofPixel_70 : decode cX7_ofPixel 70 = .ok (.aload_n 0, 1) := by decide +kernel
theorem dX7_ofPixel_71 : decode cX7_ofPixel 71 = .ok (.iload_n 1, 1) := by decide +kernel
theorem dX7_ofPixel_72 : decode cX7_ofPixel 72 = .ok (.invokevirtual 174, 3) := by decide +kernel
theorem dX7_ofPixel_75 : decode cX7_ofPixel 75 = .ok (.ireturn, 1) := by decide +kernel
theorem dX7_ofPixel_76 : decode cX7_ofPixel 76 = .ok (.aload_n 0, 1) := by decide +kernel
theorem dX7_ofPixel_77 : decode cX7_ofPixel 77 = .ok (.iload_n 1, 1) := by decide +kernel
theorem dX7_ofPixel_78 : decode cX7_ofPixel 78 = .ok (.invokevirtual 177, 3) := by decide +kernel
theorem dX7_ofPixel_81 : decode cX7_ofPixel 81 = .ok (.ifCond .eq 7, 3) := by decide +kernel
theorem dX7_ofPixel_84 : decode cX7_ofPixel 84 = .ok (.iconst 1, 1) := by decide +kernel
theorem dX7_ofPixel_85 : decode cX7_ofPixel 85 = .ok (.goto 4, 3) := by decide +kernel
theorem dX7_ofPixel_88 : decode cX7_ofPixel 88 = .ok (.iconst 0, 1) := by decide +kernel
theorem dX7_ofPixel_89 : decode cX7_ofPixel 89 = .ok (.ireturn, 1) := by decide +kernel
theorem dX7_ofPixel_90 : decode cX7_ofPixel 90 = .ok (.aload_n 0, 1) := by decide +kernel
theorem dX7_ofPixel_91 : decode cX7_ofPixel 91 = .ok (.getfield 38, 3) := by decide +kernel
theorem dX7_ofPixel_94 : decode cX7_ofPixel 94 = .ok (.iload_n 1, 1) := by decide +kernel
theorem dX7_ofPixel_95 : decode cX7_ofPixel 95 = .ok (.iaload, 1) := by decide +kernel
theorem dX7_ofPixel_96 : decode cX7_ofPixel 96 = .ok (.ireturn, 1) := by decide +kernel
theorem dX7_ofPixel_97 : decode cX7_ofPixel 97 = .ok (.aload_n 0, 1) := by decide +kernel
theorem dX7_ofPixel_98 : decode cX7_ofPixel 98 = .ok (.getfield 41, 3) := by decide +kernel
theorem dX7_ofPixel_101 : decode cX7_ofPixel 101 = .ok (.iload_n 1, 1) := by decide +kernel
theorem dX7_ofPixel_102 : decode cX7_ofPixel 102 = .ok (.iaload, 1) := by decide +kernel
theorem dX7_ofPixel_103 : decode cX7_ofPixel 103 = .ok (.ireturn, 1) := by decide +kernel
theorem dX7_pictured_0 : decode cX7_pictured 0 = .ok (.aload_n 0, 1) := by decide +kernel
theorem dX7_pictured_1 : decode cX7_pictured 1 = .ok (.iconst 0, 1) := by decide +kernel
theorem dX7_pictured_2 : decode cX7_pictured 2 = .ok (.putfield 89, 3) := by decide +kernel
theorem dX7_pictured_5 : decode cX7_pictured 5 = .ok (.iload_n 1, 1) := by decide +kernel
theorem dX7_pictured_6 : decode cX7_pictured 6 = .ok (.iconst 0, 1) := by decide +kernel
theorem dX7_pictured_7 : decode cX7_pictured 7 = .ok (.aload_n 0, 1) := by decide +kernel
theorem dX7_pictured_8 : decode cX7_pictured 8 = .ok (.getfield 77, 3) := by decide +kernel
theorem dX7_pictured_11 : decode cX7_pictured 11 = .ok (.iconst 1, 1) := by decide +kernel
theorem dX7_pictured_12 : decode cX7_pictured 12 = .ok (.isub, 1) := by decide +kernel
theorem dX7_pictured_13 : decode cX7_pictured 13 = .ok (.invokestatic 92, 3) := by decide +kernel
theorem dX7_pictured_16 : decode cX7_pictured 16 = .ok (.ifCond .eq 12, 3) := by decide +kernel
theorem dX7_pictured_19 : decode cX7_pictured 19 = .ok (.aload_n 0, 1) := by decide +kernel
theorem dX7_pictured_20 : decode cX7_pictured 20 = .ok (.iload_n 2, 1) := by decide +kernel
theorem dX7_pictured_21 : decode cX7_pictured 21 = .ok (.iload_n 3, 1) := by decide +kernel
theorem dX7_pictured_22 : decode cX7_pictured 22 = .ok (.invokevirtual 106, 3) := by decide +kernel
theorem dX7_pictured_25 : decode cX7_pictured 25 = .ok (.ifCond .ne 9, 3) := by decide +kernel
theorem dX7_pictured_28 : decode cX7_pictured 28 = .ok (.aload_n 0, 1) := by decide +kernel
theorem dX7_pictured_29 : decode cX7_pictured 29 = .ok (.iconst 1, 1) := by decide +kernel
theorem dX7_pictured_30 : decode cX7_pictured 30 = .ok (.invokevirtual 122, 3) := by decide +kernel
theorem dX7_pictured_33 : decode cX7_pictured 33 = .ok (.ireturn, 1) := by decide +kernel
theorem dX7_pictured_34 : decode cX7_pictured 34 = .ok (.aload_n 0, 1) := by decide +kernel
theorem dX7_pictured_35 : decode cX7_pictured 35 = .ok (.getfield 65, 3) := by decide +kernel
theorem dX7_pictured_38 : decode cX7_pictured 38 = .ok (.sipush 144, 3) := by decide +kernel
theorem dX7_pictured_41 : decode cX7_pictured 41 = .ok (.iload_n 1, 1) := by decide +kernel
theorem dX7_pictured_42 : decode cX7_pictured 42 = .ok (.imul, 1) := by decide +kernel
theorem dX7_pictured_43 : decode cX7_pictured 43 = .ok (.iload_n 2, 1) := by decide +kernel
theorem dX7_pictured_44 : decode cX7_pictured 44 = .ok (.iload_n 3, 1) := by decide +kernel
theorem dX7_pictured_45 : decode cX7_pictured 45 = .ok (.invokestatic 100, 3) := by decide +kernel
theorem dX7_pictured_48 : decode cX7_pictured 48 = .ok (.iadd, 1) := by decide +kernel
theorem dX7_pictured_49 : decode cX7_pictured 49 = .ok (.iaload, 1) := by decide +kernel
theorem dX7_pictured_50 : decode cX7_pictured 50 = .ok (.ireturn, 1) := by decide +kernel
theorem dX7_ghosts_0 : decode cX7_ghosts 0 = .ok (.aload_n 0, 1) := by decide +kernel
theorem dX7_ghosts_1 : decode cX7_ghosts 1 = .ok (.iconst 0, 1) := by decide +kernel
theorem dX7_ghosts_2 : decode cX7_ghosts 2 = .ok (.putfield 89, 3) := by decide +kernel
theorem dX7_ghosts_5 : decode cX7_ghosts 5 = .ok (.iload_n 1, 1) := by decide +kernel
theorem dX7_ghosts_6 : decode cX7_ghosts 6 = .ok (.iconst 0, 1) := by decide +kernel
theorem dX7_ghosts_7 : decode cX7_ghosts 7 = .ok (.aload_n 0, 1) := by decide +kernel
theorem dX7_ghosts_8 : decode cX7_ghosts 8 = .ok (.getfield 77, 3) := by decide +kernel
theorem dX7_ghosts_11 : decode cX7_ghosts 11 = .ok (.iconst 1, 1) := by decide +kernel
theorem dX7_ghosts_12 : decode cX7_ghosts 12 = .ok (.isub, 1) := by decide +kernel
theorem dX7_ghosts_13 : decode cX7_ghosts 13 = .ok (.invokestatic 92, 3) := by decide +kernel
theorem dX7_ghosts_16 : decode cX7_ghosts 16 = .ok (.ifCond .ne 9, 3) := by decide +kernel
theorem dX7_ghosts_19 : decode cX7_ghosts 19 = .ok (.aload_n 0, 1) := by decide +kernel
theorem dX7_ghosts_20 : decode cX7_ghosts 20 = .ok (.iconst 1, 1) := by decide +kernel
theorem dX7_ghosts_21 : decode cX7_ghosts 21 = .ok (.invokevirtual 122, 3) := by decide +kernel
theorem dX7_ghosts_24 : decode cX7_ghosts 24 = .ok (.ireturn, 1) := by decide +kernel
theorem dX7_ghosts_25 : decode cX7_ghosts 25 = .ok (.iconst 0, 1) := by decide +kernel
theorem dX7_ghosts_26 : decode cX7_ghosts 26 = .ok (.istore_n 2, 1) := by decide +kernel
theorem dX7_ghosts_27 : decode cX7_ghosts 27 = .ok (.iconst 0, 1) := by decide +kernel
theorem dX7_ghosts_28 : decode cX7_ghosts 28 = .ok (.istore_n 3, 1) := by decide +kernel
theorem dX7_ghosts_29 : decode cX7_ghosts 29 = .ok (.iload_n 3, 1) := by decide +kernel
theorem dX7_ghosts_30 : decode cX7_ghosts 30 = .ok (.aload_n 0, 1) := by decide +kernel
theorem dX7_ghosts_31 : decode cX7_ghosts 31 = .ok (.getfield 13, 3) := by decide +kernel
theorem dX7_ghosts_34 : decode cX7_ghosts 34 = .ok (.if_icmp .ge 68, 3) := by decide +kernel
theorem dX7_ghosts_37 : decode cX7_ghosts 37 = .ok (.iconst 0, 1) := by decide +kernel
theorem dX7_ghosts_38 : decode cX7_ghosts 38 = .ok (.istore 4, 2) := by decide +kernel
theorem dX7_ghosts_40 : decode cX7_ghosts 40 = .ok (.iload 4, 2) := by decide +kernel
theorem dX7_ghosts_42 : decode cX7_ghosts 42 = .ok (.aload_n 0, 1) := by decide +kernel
theorem dX7_ghosts_43 : decode cX7_ghosts 43 = .ok (.getfield 7, 3) := by decide +kernel
theorem dX7_ghosts_46 : decode cX7_ghosts 46 = .ok (.if_icmp .ge 50, 3) := by decide +kernel
theorem dX7_ghosts_49 : decode cX7_ghosts 49 = .ok (.iload_n 2, 1) := by decide +kernel
theorem dX7_ghosts_50 : decode cX7_ghosts 50 = .ok (.aload_n 0, 1) := by decide +kernel
theorem dX7_ghosts_51 : decode cX7_ghosts 51 = .ok (.iload 4, 2) := by decide +kernel
theorem dX7_ghosts_53 : decode cX7_ghosts 53 = .ok (.iload_n 3, 1) := by decide +kernel
theorem dX7_ghosts_54 : decode cX7_ghosts 54 = .ok (.aload_n 0, 1) := by decide +kernel
theorem dX7_ghosts_55 : decode cX7_ghosts 55 = .ok (.getfield 62, 3) := by decide +kernel
theorem dX7_ghosts_58 : decode cX7_ghosts 58 = .ok (.iload_n 1, 1) := by decide +kernel
theorem dX7_ghosts_59 : decode cX7_ghosts 59 = .ok (.iaload, 1) := by decide +kernel
theorem dX7_ghosts_60 : decode cX7_ghosts 60 = .ok (.invokevirtual 151, 3) := by decide +kernel
theorem dX7_ghosts_63 : decode cX7_ghosts 63 = .ok (.aload_n 0, 1) := by decide +kernel
theorem dX7_ghosts_64 : decode cX7_ghosts 64 = .ok (.getfield 65, 3) := by decide +kernel
theorem dX7_ghosts_67 : decode cX7_ghosts 67 = .ok (.sipush 144, 3) := by decide +kernel
theorem dX7_ghosts_70 : decode cX7_ghosts 70 = .ok (.iload_n 1, 1) := by decide +kernel
theorem dX7_ghosts_71 : decode cX7_ghosts 71 = .ok (.imul, 1) := by decide +kernel
theorem dX7_ghosts_72 : decode cX7_ghosts 72 = .ok (.iload 4, 2) := by decide +kernel
theorem dX7_ghosts_74 : decode cX7_ghosts 74 = .ok (.iload_n 3, 1) := by decide +kernel
theorem dX7_ghosts_75 : decode cX7_ghosts 75 = .ok (.invokestatic 100, 3) := by decide +kernel
theorem dX7_ghosts_78 : decode cX7_ghosts 78 = .ok (.iadd, 1) := by decide +kernel
theorem dX7_ghosts_79 : decode cX7_ghosts 79 = .ok (.iaload, 1) := by decide +kernel
theorem dX7_ghosts_80 : decode cX7_ghosts 80 = .ok (.if_icmp .eq 7, 3) := by decide +kernel
theorem dX7_ghosts_83 : decode cX7_ghosts 83 = .ok (.iconst 1, 1) := by decide +kernel
theorem dX7_ghosts_84 : decode cX7_ghosts 84 = .ok (.goto 4, 3) := by decide +kernel
theorem dX7_ghosts_87 : decode cX7_ghosts 87 = .ok (.iconst 0, 1) := by decide +kernel
theorem dX7_ghosts_88 : decode cX7_ghosts 88 = .ok (.iadd, 1) := by decide +kernel
theorem dX7_ghosts_89 : decode cX7_ghosts 89 = .ok (.istore_n 2, 1) := by decide +kernel
theorem dX7_ghosts_90 : decode cX7_ghosts 90 = .ok (.iinc 4 1, 3) := by decide +kernel
theorem dX7_ghosts_93 : decode cX7_ghosts 93 = .ok (.goto (-53), 3) := by decide +kernel
theorem dX7_ghosts_96 : decode cX7_ghosts 96 = .ok (.iinc 3 1, 3) := by decide +kernel
theorem dX7_ghosts_99 : decode cX7_ghosts 99 = .ok (.goto (-70), 3) := by decide +kernel
theorem dX7_ghosts_102 : decode cX7_ghosts 102 = .ok (.iload_n 2, 1) := by decide +kernel
theorem dX7_ghosts_103 : decode cX7_ghosts 103 = .ok (.ireturn, 1) := by decide +kernel
theorem dX7_guesses_0 : decode cX7_guesses 0 = .ok (.aload_n 0, 1) := by decide +kernel
theorem dX7_guesses_1 : decode cX7_guesses 1 = .ok (.iconst 0, 1) := by decide +kernel
theorem dX7_guesses_2 : decode cX7_guesses 2 = .ok (.putfield 89, 3) := by decide +kernel
theorem dX7_guesses_5 : decode cX7_guesses 5 = .ok (.iload_n 1, 1) := by decide +kernel
theorem dX7_guesses_6 : decode cX7_guesses 6 = .ok (.iconst 0, 1) := by decide +kernel
theorem dX7_guesses_7 : decode cX7_guesses 7 = .ok (.aload_n 0, 1) := by decide +kernel
theorem dX7_guesses_8 : decode cX7_guesses 8 = .ok (.getfield 77, 3) := by decide +kernel
theorem dX7_guesses_11 : decode cX7_guesses 11 = .ok (.iconst 1, 1) := by decide +kernel
theorem dX7_guesses_12 : decode cX7_guesses 12 = .ok (.isub, 1) := by decide +kernel
theorem dX7_guesses_13 : decode cX7_guesses 13 = .ok (.invokestatic 92, 3) := by decide +kernel
theorem dX7_guesses_16 : decode cX7_guesses 16 = .ok (.ifCond .eq 12, 3) := by decide +kernel
theorem dX7_guesses_19 : decode cX7_guesses 19 = .ok (.aload_n 0, 1) := by decide +kernel
theorem dX7_guesses_20 : decode cX7_guesses 20 = .ok (.iload_n 2, 1) := by decide +kernel
theorem dX7_guesses_21 : decode cX7_guesses 21 = .ok (.iload_n 3, 1) := by decide +kernel
theorem dX7_guesses_22 : decode cX7_guesses 22 = .ok (.invokevirtual 106, 3) := by decide +kernel
theorem dX7_guesses_25 : decode cX7_guesses 25 = .ok (.ifCond .ne 9, 3) := by decide +kernel
theorem dX7_guesses_28 : decode cX7_guesses 28 = .ok (.aload_n 0, 1) := by decide +kernel
theorem dX7_guesses_29 : decode cX7_guesses 29 = .ok (.iconst 1, 1) := by decide +kernel
theorem dX7_guesses_30 : decode cX7_guesses 30 = .ok (.invokevirtual 122, 3) := by decide +kernel
theorem dX7_guesses_33 : decode cX7_guesses 33 = .ok (.ireturn, 1) := by decide +kernel
theorem dX7_guesses_34 : decode cX7_guesses 34 = .ok (.iconst 0, 1) := by decide +kernel
theorem dX7_guesses_35 : decode cX7_guesses 35 = .ok (.istore 4, 2) := by decide +kernel
theorem dX7_guesses_37 : decode cX7_guesses 37 = .ok (.iconst 0, 1) := by decide +kernel
theorem dX7_guesses_38 : decode cX7_guesses 38 = .ok (.istore 5, 2) := by decide +kernel
theorem dX7_guesses_40 : decode cX7_guesses 40 = .ok (.iload 5, 2) := by decide +kernel
theorem dX7_guesses_42 : decode cX7_guesses 42 = .ok (.bipush 15, 2) := by decide +kernel
theorem dX7_guesses_44 : decode cX7_guesses 44 = .ok (.if_icmp .ge 52, 3) := by decide +kernel
theorem dX7_guesses_47 : decode cX7_guesses 47 = .ok (.iload 4, 2) := by decide +kernel
theorem dX7_guesses_49 : decode cX7_guesses 49 = .ok (.iload 5, 2) := by decide +kernel
theorem dX7_guesses_51 : decode cX7_guesses 51 = .ok (.aload_n 0, 1) := by decide +kernel
theorem dX7_guesses_52 : decode cX7_guesses 52 = .ok (.getfield 62, 3) := by decide +kernel
theorem dX7_guesses_55 : decode cX7_guesses 55 = .ok (.iload_n 1, 1) := by decide +kernel
theorem dX7_guesses_56 : decode cX7_guesses 56 = .ok (.iaload, 1) := by decide +kernel
theorem dX7_guesses_57 : decode cX7_guesses 57 = .ok (.invokestatic 142, 3) := by decide +kernel
theorem dX7_guesses_60 : decode cX7_guesses 60 = .ok (.invokestatic 145, 3) := by decide +kernel
theorem dX7_guesses_63 : decode cX7_guesses 63 = .ok (.aload_n 0, 1) := by decide +kernel
theorem dX7_guesses_64 : decode cX7_guesses 64 = .ok (.getfield 65, 3) := by decide +kernel
theorem dX7_guesses_67 : decode cX7_guesses 67 = .ok (.sipush 144, 3) := by decide +kernel
theorem dX7_guesses_70 : decode cX7_guesses 70 = .ok (.iload_n 1, 1) := by decide +kernel
theorem dX7_guesses_71 : decode cX7_guesses 71 = .ok (.imul, 1) := by decide +kernel
theorem dX7_guesses_72 : decode cX7_guesses 72 = .ok (.iload_n 2, 1) := by decide +kernel
theorem dX7_guesses_73 : decode cX7_guesses 73 = .ok (.iload_n 3, 1) := by decide +kernel
theorem dX7_guesses_74 : decode cX7_guesses 74 = .ok (.invokestatic 100, 3) := by decide +kernel
theorem dX7_guesses_77 : decode cX7_guesses 77 = .ok (.iadd, 1) := by decide +kernel
theorem dX7_guesses_78 : decode cX7_guesses 78 = .ok (.iaload, 1) := by decide +kernel
theorem dX7_guesses_79 : decode cX7_guesses 79 = .ok (.if_icmp .ne 7, 3) := by decide +kernel
theorem dX7_guesses_82 : decode cX7_guesses 82 = .ok (.iconst 1, 1) := by decide +kernel
theorem dX7_guesses_83 : decode cX7_guesses 83 = .ok (.goto 4, 3) := by decide +kernel
theorem dX7_guesses_86 : decode cX7_guesses 86 = .ok (.iconst 0, 1) := by decide +kernel
theorem dX7_guesses_87 : decode cX7_guesses 87 = .ok (.iadd, 1) := by decide +kernel
theorem dX7_guesses_88 : decode cX7_guesses 88 = .ok (.istore 4, 2) := by decide +kernel
theorem dX7_guesses_90 : decode cX7_guesses 90 = .ok (.iinc 5 1, 3) := by decide +kernel
theorem dX7_guesses_93 : decode cX7_guesses 93 = .ok (.goto (-53), 3) := by decide +kernel
theorem dX7_guesses_96 : decode cX7_guesses 96 = .ok (.iload 4, 2) := by decide +kernel
theorem dX7_guesses_98 : decode cX7_guesses 98 = .ok (.ireturn, 1) := by decide +kernel
end
section
theorem dL_grid_0 : decode cL_grid 0 = .ok (.aload_n 0, 1) := by decide +kernel
theorem dL_grid_1 : decode cL_grid 1 = .ok (.iload_n 1, 1) := by decide +kernel
theorem dL_grid_2 : decode cL_grid 2 = .ok (.iload_n 2, 1) := by decide +kernel
theorem dL_grid_3 : decode cL_grid 3 = .ok (.invokevirtual 7, 3) := by decide +kernel
theorem dL_grid_6 : decode cL_grid 6 = .ok (.goto 6, 3) := by decide +kernel
theorem dL_grid_9 : decode cL_grid 9 = .ok (.astore_n 3, 1) := by decide +kernel
theorem dL_grid_10 : decode cL_grid 10 = .ok (.iconst 1, 1) := by decide +kernel
theorem dL_grid_11 : decode cL_grid 11 = .ok (.ireturn, 1) := by decide +kernel
theorem dL_grid_12 : decode cL_grid 12 = .ok (.iconst 0, 1) := by decide +kernel
theorem dL_grid_13 : decode cL_grid 13 = .ok (.ireturn, 1) := by decide +kernel
theorem dL_costs_0 : decode cL_costs 0 = .ok (.aload_n 3, 1) := by decide +kernel
theorem dL_costs_1 : decode cL_costs 1 = .ok (.iconst 0, 1) := by decide +kernel
theorem dL_costs_2 : decode cL_costs 2 = .ok (.aload_n 0, 1) := by decide +kernel
theorem dL_costs_3 : decode cL_costs 3 = .ok (.iload_n 1, 1) := by decide +kernel
theorem dL_costs_4 : decode cL_costs 4 = .ok (.iload_n 2, 1) := by decide +kernel
theorem dL_costs_5 : decode cL_costs 5 = .ok (.invokevirtual 15, 3) := by decide +kernel
theorem dL_costs_8 : decode cL_costs 8 = .ok (.i2l, 1) := by decide +kernel
theorem dL_costs_9 : decode cL_costs 9 = .ok (.lastore, 1) := by decide +kernel
theorem dL_costs_10 : decode cL_costs 10 = .ok (.goto 7, 3) := by decide +kernel
theorem dL_costs_13 : decode cL_costs 13 = .ok (.astore 4, 2) := by decide +kernel
theorem dL_costs_15 : decode cL_costs 15 = .ok (.iconst 1, 1) := by decide +kernel
theorem dL_costs_16 : decode cL_costs 16 = .ok (.ireturn, 1) := by decide +kernel
theorem dL_costs_17 : decode cL_costs 17 = .ok (.iconst 0, 1) := by decide +kernel
theorem dL_costs_18 : decode cL_costs 18 = .ok (.ireturn, 1) := by decide +kernel
theorem dL_turn_0 : decode cL_turn 0 = .ok (.aload 4, 2) := by decide +kernel
theorem dL_turn_2 : decode cL_turn 2 = .ok (.iconst 0, 1) := by decide +kernel
theorem dL_turn_3 : decode cL_turn 3 = .ok (.aload_n 0, 1) := by decide +kernel
theorem dL_turn_4 : decode cL_turn 4 = .ok (.iload_n 1, 1) := by decide +kernel
theorem dL_turn_5 : decode cL_turn 5 = .ok (.iload_n 2, 1) := by decide +kernel
theorem dL_turn_6 : decode cL_turn 6 = .ok (.iload_n 3, 1) := by decide +kernel
theorem dL_turn_7 : decode cL_turn 7 = .ok (.invokevirtual 19, 3) := by decide +kernel
theorem dL_turn_10 : decode cL_turn 10 = .ok (.i2l, 1) := by decide +kernel
theorem dL_turn_11 : decode cL_turn 11 = .ok (.lastore, 1) := by decide +kernel
theorem dL_turn_12 : decode cL_turn 12 = .ok (.goto 15, 3) := by decide +kernel
theorem dL_turn_15 : decode cL_turn 15 = .ok (.astore 5, 2) := by decide +kernel
theorem dL_turn_17 : decode cL_turn 17 = .ok (.iconst 1, 1) := by decide +kernel
theorem dL_turn_18 : decode cL_turn 18 = .ok (.ireturn, 1) := by decide +kernel
theorem dL_turn_19 : decode cL_turn 19 = .ok (.astore 5, 2) := by decide +kernel
theorem dL_turn_21 : decode cL_turn 21 = .ok (.iconst 2, 1) := by decide +kernel
theorem dL_turn_22 : decode cL_turn 22 = .ok (.ireturn, 1) := by decide +kernel
theorem dL_turn_23 : decode cL_turn 23 = .ok (.astore 5, 2) := by decide +kernel
theorem dL_turn_25 : decode cL_turn 25 = .ok (.iconst 3, 1) := by decide +kernel
theorem dL_turn_26 : decode cL_turn 26 = .ok (.ireturn, 1) := by decide +kernel
theorem dL_turn_27 : decode cL_turn 27 = .ok (.iconst 0, 1) := by decide +kernel
theorem dL_turn_28 : decode cL_turn 28 = .ok (.ireturn, 1) := by decide +kernel
theorem dL_anchor_0 : decode cL_anchor 0 = .ok (.aload 6, 2) := by decide +kernel
theorem dL_anchor_2 : decode cL_anchor 2 = .ok (.iconst 0, 1) := by decide +kernel
theorem dL_anchor_3 : decode cL_anchor 3 = .ok (.aload_n 0, 1) := by decide +kernel
theorem dL_anchor_4 : decode cL_anchor 4 = .ok (.iload_n 1, 1) := by decide +kernel
theorem dL_anchor_5 : decode cL_anchor 5 = .ok (.iload_n 2, 1) := by decide +kernel
theorem dL_anchor_6 : decode cL_anchor 6 = .ok (.iload_n 3, 1) := by decide +kernel
theorem dL_anchor_7 : decode cL_anchor 7 = .ok (.iload 4, 2) := by decide +kernel
theorem dL_anchor_9 : decode cL_anchor 9 = .ok (.iload 5, 2) := by decide +kernel
theorem dL_anchor_11 : decode cL_anchor 11 = .ok (.invokevirtual 27, 3) := by decide +kernel
theorem dL_anchor_14 : decode cL_anchor 14 = .ok (.i2l, 1) := by decide +kernel
theorem dL_anchor_15 : decode cL_anchor 15 = .ok (.lastore, 1) := by decide +kernel
theorem dL_anchor_16 : decode cL_anchor 16 = .ok (.goto 11, 3) := by decide +kernel
theorem dL_anchor_19 : decode cL_anchor 19 = .ok (.astore 7, 2) := by decide +kernel
theorem dL_anchor_21 : decode cL_anchor 21 = .ok (.iconst 1, 1) := by decide +kernel
theorem dL_anchor_22 : decode cL_anchor 22 = .ok (.ireturn, 1) := by decide +kernel
theorem dL_anchor_23 : decode cL_anchor 23 = .ok (.astore 7, 2) := by decide +kernel
theorem dL_anchor_25 : decode cL_anchor 25 = .ok (.iconst 2, 1) := by decide +kernel
theorem dL_anchor_26 : decode cL_anchor 26 = .ok (.ireturn, 1) := by decide +kernel
theorem dL_anchor_27 : decode cL_anchor 27 = .ok (.iconst 0, 1) := by decide +kernel
theorem dL_anchor_28 : decode cL_anchor 28 = .ok (.ireturn, 1) := by decide +kernel
theorem dL_pixel_0 : decode cL_pixel 0 = .ok (.aload 5, 2) := by decide +kernel
theorem dL_pixel_2 : decode cL_pixel 2 = .ok (.iconst 0, 1) := by decide +kernel
theorem dL_pixel_3 : decode cL_pixel 3 = .ok (.aload_n 0, 1) := by decide +kernel
theorem dL_pixel_4 : decode cL_pixel 4 = .ok (.iload_n 1, 1) := by decide +kernel
theorem dL_pixel_5 : decode cL_pixel 5 = .ok (.iload_n 2, 1) := by decide +kernel
theorem dL_pixel_6 : decode cL_pixel 6 = .ok (.iload_n 3, 1) := by decide +kernel
theorem dL_pixel_7 : decode cL_pixel 7 = .ok (.iload 4, 2) := by decide +kernel
theorem dL_pixel_9 : decode cL_pixel 9 = .ok (.invokevirtual 31, 3) := by decide +kernel
theorem dL_pixel_12 : decode cL_pixel 12 = .ok (.i2l, 1) := by decide +kernel
theorem dL_pixel_13 : decode cL_pixel 13 = .ok (.lastore, 1) := by decide +kernel
theorem dL_pixel_14 : decode cL_pixel 14 = .ok (.goto 15, 3) := by decide +kernel
theorem dL_pixel_17 : decode cL_pixel 17 = .ok (.astore 6, 2) := by decide +kernel
theorem dL_pixel_19 : decode cL_pixel 19 = .ok (.iconst 1, 1) := by decide +kernel
theorem dL_pixel_20 : decode cL_pixel 20 = .ok (.ireturn, 1) := by decide +kernel
theorem dL_pixel_21 : decode cL_pixel 21 = .ok (.astore 6, 2) := by decide +kernel
theorem dL_pixel_23 : decode cL_pixel 23 = .ok (.iconst 2, 1) := by decide +kernel
theorem dL_pixel_24 : decode cL_pixel 24 = .ok (.ireturn, 1) := by decide +kernel
theorem dL_pixel_25 : decode cL_pixel 25 = .ok (.astore 6, 2) := by decide +kernel
theorem dL_pixel_27 : decode cL_pixel 27 = .ok (.iconst 3, 1) := by decide +kernel
theorem dL_pixel_28 : decode cL_pixel 28 = .ok (.ireturn, 1) := by decide +kernel
theorem dL_pixel_29 : decode cL_pixel 29 = .ok (.iconst 0, 1) := by decide +kernel
theorem dL_pixel_30 : decode cL_pixel 30 = .ok (.ireturn, 1) := by decide +kernel
theorem dL_drive_0 : decode cL_drive 0 = .ok (.aload 4, 2) := by decide +kernel
theorem dL_drive_2 : decode cL_drive 2 = .ok (.iconst 0, 1) := by decide +kernel
theorem dL_drive_3 : decode cL_drive 3 = .ok (.aload_n 0, 1) := by decide +kernel
theorem dL_drive_4 : decode cL_drive 4 = .ok (.iload_n 1, 1) := by decide +kernel
theorem dL_drive_5 : decode cL_drive 5 = .ok (.iload_n 2, 1) := by decide +kernel
theorem dL_drive_6 : decode cL_drive 6 = .ok (.iload_n 3, 1) := by decide +kernel
theorem dL_drive_7 : decode cL_drive 7 = .ok (.invokevirtual 35, 3) := by decide +kernel
theorem dL_drive_10 : decode cL_drive 10 = .ok (.i2l, 1) := by decide +kernel
theorem dL_drive_11 : decode cL_drive 11 = .ok (.lastore, 1) := by decide +kernel
theorem dL_drive_12 : decode cL_drive 12 = .ok (.goto 11, 3) := by decide +kernel
theorem dL_drive_15 : decode cL_drive 15 = .ok (.astore 5, 2) := by decide +kernel
theorem dL_drive_17 : decode cL_drive 17 = .ok (.iconst 1, 1) := by decide +kernel
theorem dL_drive_18 : decode cL_drive 18 = .ok (.ireturn, 1) := by decide +kernel
theorem dL_drive_19 : decode cL_drive 19 = .ok (.astore 5, 2) := by decide +kernel
theorem dL_drive_21 : decode cL_drive 21 = .ok (.iconst 2, 1) := by decide +kernel
theorem dL_drive_22 : decode cL_drive 22 = .ok (.ireturn, 1) := by decide +kernel
theorem dL_drive_23 : decode cL_drive 23 = .ok (.iconst 0, 1) := by decide +kernel
theorem dL_drive_24 : decode cL_drive 24 = .ok (.ireturn, 1) := by decide +kernel
theorem dL_program_0 : decode cL_program 0 = .ok (.aload 5, 2) := by decide +kernel
theorem dL_program_2 : decode cL_program 2 = .ok (.iconst 0, 1) := by decide +kernel
theorem dL_program_3 : decode cL_program 3 = .ok (.aload_n 0, 1) := by decide +kernel
theorem dL_program_4 : decode cL_program 4 = .ok (.iload_n 1, 1) := by decide +kernel
theorem dL_program_5 : decode cL_program 5 = .ok (.iload_n 2, 1) := by decide +kernel
theorem dL_program_6 : decode cL_program 6 = .ok (.iload_n 3, 1) := by decide +kernel
theorem dL_program_7 : decode cL_program 7 = .ok (.iload 4, 2) := by decide +kernel
theorem dL_program_9 : decode cL_program 9 = .ok (.invokevirtual 38, 3) := by decide +kernel
theorem dL_program_12 : decode cL_program 12 = .ok (.i2l, 1) := by decide +kernel
theorem dL_program_13 : decode cL_program 13 = .ok (.lastore, 1) := by decide +kernel
theorem dL_program_14 : decode cL_program 14 = .ok (.goto 15, 3) := by decide +kernel
theorem dL_program_17 : decode cL_program 17 = .ok (.astore 6, 2) := by decide +kernel
theorem dL_program_19 : decode cL_program 19 = .ok (.iconst 1, 1) := by decide +kernel
theorem dL_program_20 : decode cL_program 20 = .ok (.ireturn, 1) := by decide +kernel
theorem dL_program_21 : decode cL_program 21 = .ok (.astore 6, 2) := by decide +kernel
theorem dL_program_23 : decode cL_program 23 = .ok (.iconst 2, 1) := by decide +kernel
theorem dL_program_24 : decode cL_program 24 = .ok (.ireturn, 1) := by decide +kernel
theorem dL_program_25 : decode cL_program 25 = .ok (.astore 6, 2) := by decide +kernel
theorem dL_program_27 : decode cL_program 27 = .ok (.iconst 3, 1) := by decide +kernel
theorem dL_program_28 : decode cL_program 28 = .ok (.ireturn, 1) := by decide +kernel
theorem dL_program_29 : decode cL_program 29 = .ok (.iconst 0, 1) := by decide +kernel
theorem dL_program_30 : decode cL_program 30 = .ok (.ireturn, 1) := by decide +kernel
theorem dL_tick_0 : decode cL_tick 0 = .ok (.aload_n 2, 1) := by decide +kernel
theorem dL_tick_1 : decode cL_tick 1 = .ok (.iconst 0, 1) := by decide +kernel
theorem dL_tick_2 : decode cL_tick 2 = .ok (.aload_n 0, 1) := by decide +kernel
theorem dL_tick_3 : decode cL_tick 3 = .ok (.iload_n 1, 1) := by decide +kernel
theorem dL_tick_4 : decode cL_tick 4 = .ok (.invokevirtual 41, 3) := by decide +kernel
theorem dL_tick_7 : decode cL_tick 7 = .ok (.i2l, 1) := by decide +kernel
theorem dL_tick_8 : decode cL_tick 8 = .ok (.lastore, 1) := by decide +kernel
theorem dL_tick_9 : decode cL_tick 9 = .ok (.goto 9, 3) := by decide +kernel
theorem dL_tick_12 : decode cL_tick 12 = .ok (.astore_n 3, 1) := by decide +kernel
theorem dL_tick_13 : decode cL_tick 13 = .ok (.iconst 1, 1) := by decide +kernel
theorem dL_tick_14 : decode cL_tick 14 = .ok (.ireturn, 1) := by decide +kernel
theorem dL_tick_15 : decode cL_tick 15 = .ok (.astore_n 3, 1) := by decide +kernel
theorem dL_tick_16 : decode cL_tick 16 = .ok (.iconst 2, 1) := by decide +kernel
theorem dL_tick_17 : decode cL_tick 17 = .ok (.ireturn, 1) := by decide +kernel
theorem dL_tick_18 : decode cL_tick 18 = .ok (.iconst 0, 1) := by decide +kernel
theorem dL_tick_19 : decode cL_tick 19 = .ok (.ireturn, 1) := by decide +kernel
theorem dL_plates_0 : decode cL_plates 0 = .ok (.aload_n 2, 1) := by decide +kernel
theorem dL_plates_1 : decode cL_plates 1 = .ok (.iconst 0, 1) := by decide +kernel
theorem dL_plates_2 : decode cL_plates 2 = .ok (.aload_n 0, 1) := by decide +kernel
theorem dL_plates_3 : decode cL_plates 3 = .ok (.iload_n 1, 1) := by decide +kernel
theorem dL_plates_4 : decode cL_plates 4 = .ok (.invokevirtual 45, 3) := by decide +kernel
theorem dL_plates_7 : decode cL_plates 7 = .ok (.i2l, 1) := by decide +kernel
theorem dL_plates_8 : decode cL_plates 8 = .ok (.lastore, 1) := by decide +kernel
theorem dL_plates_9 : decode cL_plates 9 = .ok (.goto 6, 3) := by decide +kernel
theorem dL_plates_12 : decode cL_plates 12 = .ok (.astore_n 3, 1) := by decide +kernel
theorem dL_plates_13 : decode cL_plates 13 = .ok (.iconst 1, 1) := by decide +kernel
theorem dL_plates_14 : decode cL_plates 14 = .ok (.ireturn, 1) := by decide +kernel
theorem dL_plates_15 : decode cL_plates 15 = .ok (.iconst 0, 1) := by decide +kernel
theorem dL_plates_16 : decode cL_plates 16 = .ok (.ireturn, 1) := by decide +kernel
theorem dL_picture_0 : decode cL_picture 0 = .ok (.aload_n 1, 1) := by decide +kernel
theorem dL_picture_1 : decode cL_picture 1 = .ok (.iconst 0, 1) := by decide +kernel
theorem dL_picture_2 : decode cL_picture 2 = .ok (.aload_n 0, 1) := by decide +kernel
theorem dL_picture_3 : decode cL_picture 3 = .ok (.invokevirtual 48, 3) := by decide +kernel
theorem dL_picture_6 : decode cL_picture 6 = .ok (.i2l, 1) := by decide +kernel
theorem dL_picture_7 : decode cL_picture 7 = .ok (.lastore, 1) := by decide +kernel
theorem dL_picture_8 : decode cL_picture 8 = .ok (.goto 6, 3) := by decide +kernel
theorem dL_picture_11 : decode cL_picture 11 = .ok (.astore_n 2, 1) := by decide +kernel
theorem dL_picture_12 : decode cL_picture 12 = .ok (.iconst 1, 1) := by decide +kernel
theorem dL_picture_13 : decode cL_picture 13 = .ok (.ireturn, 1) := by decide +kernel
theorem dL_picture_14 : decode cL_picture 14 = .ok (.iconst 0, 1) := by decide +kernel
theorem dL_picture_15 : decode cL_picture 15 = .ok (.ireturn, 1) := by decide +kernel
theorem dL_told_0 : decode cL_told 0 = .ok (.aload 4, 2) := by decide +kernel
theorem dL_told_2 : decode cL_told 2 = .ok (.iconst 0, 1) := by decide +kernel
theorem dL_told_3 : decode cL_told 3 = .ok (.aload_n 0, 1) := by decide +kernel
theorem dL_told_4 : decode cL_told 4 = .ok (.iload_n 1, 1) := by decide +kernel
theorem dL_told_5 : decode cL_told 5 = .ok (.iload_n 2, 1) := by decide +kernel
theorem dL_told_6 : decode cL_told 6 = .ok (.iload_n 3, 1) := by decide +kernel
theorem dL_told_7 : decode cL_told 7 = .ok (.invokevirtual 52, 3) := by decide +kernel
theorem dL_told_10 : decode cL_told 10 = .ok (.i2l, 1) := by decide +kernel
theorem dL_told_11 : decode cL_told 11 = .ok (.lastore, 1) := by decide +kernel
theorem dL_told_12 : decode cL_told 12 = .ok (.goto 11, 3) := by decide +kernel
theorem dL_told_15 : decode cL_told 15 = .ok (.astore 5, 2) := by decide +kernel
theorem dL_told_17 : decode cL_told 17 = .ok (.iconst 1, 1) := by decide +kernel
theorem dL_told_18 : decode cL_told 18 = .ok (.ireturn, 1) := by decide +kernel
theorem dL_told_19 : decode cL_told 19 = .ok (.astore 5, 2) := by decide +kernel
theorem dL_told_21 : decode cL_told 21 = .ok (.iconst 2, 1) := by decide +kernel
theorem dL_told_22 : decode cL_told 22 = .ok (.ireturn, 1) := by decide +kernel
theorem dL_told_23 : decode cL_told 23 = .ok (.iconst 0, 1) := by decide +kernel
theorem dL_told_24 : decode cL_told 24 = .ok (.ireturn, 1) := by decide +kernel
theorem dL_least_0 : decode cL_least 0 = .ok (.aload 4, 2) := by decide +kernel
theorem dL_least_2 : decode cL_least 2 = .ok (.iconst 0, 1) := by decide +kernel
theorem dL_least_3 : decode cL_least 3 = .ok (.aload_n 0, 1) := by decide +kernel
theorem dL_least_4 : decode cL_least 4 = .ok (.iload_n 1, 1) := by decide +kernel
theorem dL_least_5 : decode cL_least 5 = .ok (.iload_n 2, 1) := by decide +kernel
theorem dL_least_6 : decode cL_least 6 = .ok (.iload_n 3, 1) := by decide +kernel
theorem dL_least_7 : decode cL_least 7 = .ok (.invokevirtual 55, 3) := by decide +kernel
theorem dL_least_10 : decode cL_least 10 = .ok (.i2l, 1) := by decide +kernel
theorem dL_least_11 : decode cL_least 11 = .ok (.lastore, 1) := by decide +kernel
theorem dL_least_12 : decode cL_least 12 = .ok (.goto 7, 3) := by decide +kernel
theorem dL_least_15 : decode cL_least 15 = .ok (.astore 5, 2) := by decide +kernel
theorem dL_least_17 : decode cL_least 17 = .ok (.iconst 1, 1) := by decide +kernel
theorem dL_least_18 : decode cL_least 18 = .ok (.ireturn, 1) := by decide +kernel
theorem dL_least_19 : decode cL_least 19 = .ok (.iconst 0, 1) := by decide +kernel
theorem dL_least_20 : decode cL_least 20 = .ok (.ireturn, 1) := by decide +kernel
theorem dL_winding_0 : decode cL_winding 0 = .ok (.aload_n 3, 1) := by decide +kernel
theorem dL_winding_1 : decode cL_winding 1 = .ok (.iconst 0, 1) := by decide +kernel
theorem dL_winding_2 : decode cL_winding 2 = .ok (.aload_n 0, 1) := by decide +kernel
theorem dL_winding_3 : decode cL_winding 3 = .ok (.iload_n 1, 1) := by decide +kernel
theorem dL_winding_4 : decode cL_winding 4 = .ok (.iload_n 2, 1) := by decide +kernel
theorem dL_winding_5 : decode cL_winding 5 = .ok (.invokevirtual 59, 3) := by decide +kernel
theorem dL_winding_8 : decode cL_winding 8 = .ok (.i2l, 1) := by decide +kernel
theorem dL_winding_9 : decode cL_winding 9 = .ok (.lastore, 1) := by decide +kernel
theorem dL_winding_10 : decode cL_winding 10 = .ok (.goto 7, 3) := by decide +kernel
theorem dL_winding_13 : decode cL_winding 13 = .ok (.astore 4, 2) := by decide +kernel
theorem dL_winding_15 : decode cL_winding 15 = .ok (.iconst 1, 1) := by decide +kernel
theorem dL_winding_16 : decode cL_winding 16 = .ok (.ireturn, 1) := by decide +kernel
theorem dL_winding_17 : decode cL_winding 17 = .ok (.iconst 0, 1) := by decide +kernel
theorem dL_winding_18 : decode cL_winding 18 = .ok (.ireturn, 1) := by decide +kernel
theorem dL_within_0 : decode cL_within 0 = .ok (.aload 5, 2) := by decide +kernel
theorem dL_within_2 : decode cL_within 2 = .ok (.iconst 0, 1) := by decide +kernel
theorem dL_within_3 : decode cL_within 3 = .ok (.aload_n 0, 1) := by decide +kernel
theorem dL_within_4 : decode cL_within 4 = .ok (.iload_n 1, 1) := by decide +kernel
theorem dL_within_5 : decode cL_within 5 = .ok (.iload_n 2, 1) := by decide +kernel
theorem dL_within_6 : decode cL_within 6 = .ok (.iload_n 3, 1) := by decide +kernel
theorem dL_within_7 : decode cL_within 7 = .ok (.iload 4, 2) := by decide +kernel
theorem dL_within_9 : decode cL_within 9 = .ok (.invokevirtual 62, 3) := by decide +kernel
theorem dL_within_12 : decode cL_within 12 = .ok (.i2l, 1) := by decide +kernel
theorem dL_within_13 : decode cL_within 13 = .ok (.lastore, 1) := by decide +kernel
theorem dL_within_14 : decode cL_within 14 = .ok (.goto 11, 3) := by decide +kernel
theorem dL_within_17 : decode cL_within 17 = .ok (.astore 6, 2) := by decide +kernel
theorem dL_within_19 : decode cL_within 19 = .ok (.iconst 1, 1) := by decide +kernel
theorem dL_within_20 : decode cL_within 20 = .ok (.ireturn, 1) := by decide +kernel
theorem dL_within_21 : decode cL_within 21 = .ok (.astore 6, 2) := by decide +kernel
theorem dL_within_23 : decode cL_within 23 = .ok (.iconst 2, 1) := by decide +kernel
theorem dL_within_24 : decode cL_within 24 = .ok (.ireturn, 1) := by decide +kernel
theorem dL_within_25 : decode cL_within 25 = .ok (.iconst 0, 1) := by decide +kernel
theorem dL_within_26 : decode cL_within 26 = .ok (.ireturn, 1) := by decide +kernel
theorem dL_border_0 : decode cL_border 0 = .ok (.aload 5, 2) := by decide +kernel
theorem dL_border_2 : decode cL_border 2 = .ok (.iconst 0, 1) := by decide +kernel
theorem dL_border_3 : decode cL_border 3 = .ok (.aload_n 0, 1) := by decide +kernel
theorem dL_border_4 : decode cL_border 4 = .ok (.iload_n 1, 1) := by decide +kernel
theorem dL_border_5 : decode cL_border 5 = .ok (.iload_n 2, 1) := by decide +kernel
theorem dL_border_6 : decode cL_border 6 = .ok (.iload_n 3, 1) := by decide +kernel
theorem dL_border_7 : decode cL_border 7 = .ok (.iload 4, 2) := by decide +kernel
theorem dL_border_9 : decode cL_border 9 = .ok (.invokevirtual 65, 3) := by decide +kernel
theorem dL_border_12 : decode cL_border 12 = .ok (.i2l, 1) := by decide +kernel
theorem dL_border_13 : decode cL_border 13 = .ok (.lastore, 1) := by decide +kernel
theorem dL_border_14 : decode cL_border 14 = .ok (.goto 11, 3) := by decide +kernel
theorem dL_border_17 : decode cL_border 17 = .ok (.astore 6, 2) := by decide +kernel
theorem dL_border_19 : decode cL_border 19 = .ok (.iconst 1, 1) := by decide +kernel
theorem dL_border_20 : decode cL_border 20 = .ok (.ireturn, 1) := by decide +kernel
theorem dL_border_21 : decode cL_border 21 = .ok (.astore 6, 2) := by decide +kernel
theorem dL_border_23 : decode cL_border 23 = .ok (.iconst 2, 1) := by decide +kernel
theorem dL_border_24 : decode cL_border 24 = .ok (.ireturn, 1) := by decide +kernel
theorem dL_border_25 : decode cL_border 25 = .ok (.iconst 0, 1) := by decide +kernel
theorem dL_border_26 : decode cL_border 26 = .ok (.ireturn, 1) := by decide +kernel
theorem dL_defect_0 : decode cL_defect 0 = .ok (.aload_n 3, 1) := by decide +kernel
theorem dL_defect_1 : decode cL_defect 1 = .ok (.iconst 0, 1) := by decide +kernel
theorem dL_defect_2 : decode cL_defect 2 = .ok (.aload_n 0, 1) := by decide +kernel
theorem dL_defect_3 : decode cL_defect 3 = .ok (.iload_n 1, 1) := by decide +kernel
theorem dL_defect_4 : decode cL_defect 4 = .ok (.iload_n 2, 1) := by decide +kernel
theorem dL_defect_5 : decode cL_defect 5 = .ok (.invokevirtual 68, 3) := by decide +kernel
theorem dL_defect_8 : decode cL_defect 8 = .ok (.i2l, 1) := by decide +kernel
theorem dL_defect_9 : decode cL_defect 9 = .ok (.lastore, 1) := by decide +kernel
theorem dL_defect_10 : decode cL_defect 10 = .ok (.goto 11, 3) := by decide +kernel
theorem dL_defect_13 : decode cL_defect 13 = .ok (.astore 4, 2) := by decide +kernel
theorem dL_defect_15 : decode cL_defect 15 = .ok (.iconst 1, 1) := by decide +kernel
theorem dL_defect_16 : decode cL_defect 16 = .ok (.ireturn, 1) := by decide +kernel
theorem dL_defect_17 : decode cL_defect 17 = .ok (.astore 4, 2) := by decide +kernel
theorem dL_defect_19 : decode cL_defect 19 = .ok (.iconst 2, 1) := by decide +kernel
theorem dL_defect_20 : decode cL_defect 20 = .ok (.ireturn, 1) := by decide +kernel
theorem dL_defect_21 : decode cL_defect 21 = .ok (.iconst 0, 1) := by decide +kernel
theorem dL_defect_22 : decode cL_defect 22 = .ok (.ireturn, 1) := by decide +kernel
theorem dL_ofPixel_0 : decode cL_ofPixel 0 = .ok (.aload_n 3, 1) := by decide +kernel
theorem dL_ofPixel_1 : decode cL_ofPixel 1 = .ok (.iconst 0, 1) := by decide +kernel
theorem dL_ofPixel_2 : decode cL_ofPixel 2 = .ok (.aload_n 0, 1) := by decide +kernel
theorem dL_ofPixel_3 : decode cL_ofPixel 3 = .ok (.iload_n 1, 1) := by decide +kernel
theorem dL_ofPixel_4 : decode cL_ofPixel 4 = .ok (.iload_n 2, 1) := by decide +kernel
theorem dL_ofPixel_5 : decode cL_ofPixel 5 = .ok (.invokevirtual 71, 3) := by decide +kernel
theorem dL_ofPixel_8 : decode cL_ofPixel 8 = .ok (.i2l, 1) := by decide +kernel
theorem dL_ofPixel_9 : decode cL_ofPixel 9 = .ok (.lastore, 1) := by decide +kernel
theorem dL_ofPixel_10 : decode cL_ofPixel 10 = .ok (.goto 11, 3) := by decide +kernel
theorem dL_ofPixel_13 : decode cL_ofPixel 13 = .ok (.astore 4, 2) := by decide +kernel
theorem dL_ofPixel_15 : decode cL_ofPixel 15 = .ok (.iconst 1, 1) := by decide +kernel
theorem dL_ofPixel_16 : decode cL_ofPixel 16 = .ok (.ireturn, 1) := by decide +kernel
theorem dL_ofPixel_17 : decode cL_ofPixel 17 = .ok (.astore 4, 2) := by decide +kernel
theorem dL_ofPixel_19 : decode cL_ofPixel 19 = .ok (.iconst 2, 1) := by decide +kernel
theorem dL_ofPixel_20 : decode cL_ofPixel 20 = .ok (.ireturn, 1) := by decide +kernel
theorem dL_ofPixel_21 : decode cL_ofPixel 21 = .ok (.iconst 0, 1) := by decide +kernel
theorem dL_ofPixel_22 : decode cL_ofPixel 22 = .ok (.ireturn, 1) := by decide +kernel
theorem dL_pictured_0 : decode cL_pictured 0 = .ok (.aload 4, 2) := by decide +kernel
theorem dL_pictured_2 : decode cL_pictured 2 = .ok (.iconst 0, 1) := by decide +kernel
theorem dL_pictured_3 : decode cL_pictured 3 = .ok (.aload_n 0, 1) := by decide +kernel
theorem dL_pictured_4 : decode cL_pictured 4 = .ok (.iload_n 1, 1) := by decide +kernel
theorem dL_pictured_5 : decode cL_pictured 5 = .ok (.iload_n 2, 1) := by decide +kernel
theorem dL_pictured_6 : decode cL_pictured 6 = .ok (.iload_n 3, 1) := by decide +kernel
theorem dL_pictured_7 : decode cL_pictured 7 = .ok (.invokevirtual 74, 3) := by decide +kernel
theorem dL_pictured_10 : decode cL_pictured 10 = .ok (.i2l, 1) := by decide +kernel
theorem dL_pictured_11 : decode cL_pictured 11 = .ok (.lastore, 1) := by decide +kernel
theorem dL_pictured_12 : decode cL_pictured 12 = .ok (.goto 7, 3) := by decide +kernel
theorem dL_pictured_15 : decode cL_pictured 15 = .ok (.astore 5, 2) := by decide +kernel
theorem dL_pictured_17 : decode cL_pictured 17 = .ok (.iconst 1, 1) := by decide +kernel
theorem dL_pictured_18 : decode cL_pictured 18 = .ok (.ireturn, 1) := by decide +kernel
theorem dL_pictured_19 : decode cL_pictured 19 = .ok (.iconst 0, 1) := by decide +kernel
theorem dL_pictured_20 : decode cL_pictured 20 = .ok (.ireturn, 1) := by decide +kernel
theorem dL_ghosts_0 : decode cL_ghosts 0 = .ok (.aload_n 2, 1) := by decide +kernel
theorem dL_ghosts_1 : decode cL_ghosts 1 = .ok (.iconst 0, 1) := by decide +kernel
theorem dL_ghosts_2 : decode cL_ghosts 2 = .ok (.aload_n 0, 1) := by decide +kernel
theorem dL_ghosts_3 : decode cL_ghosts 3 = .ok (.iload_n 1, 1) := by decide +kernel
theorem dL_ghosts_4 : decode cL_ghosts 4 = .ok (.invokevirtual 77, 3) := by decide +kernel
theorem dL_ghosts_7 : decode cL_ghosts 7 = .ok (.i2l, 1) := by decide +kernel
theorem dL_ghosts_8 : decode cL_ghosts 8 = .ok (.lastore, 1) := by decide +kernel
theorem dL_ghosts_9 : decode cL_ghosts 9 = .ok (.goto 6, 3) := by decide +kernel
theorem dL_ghosts_12 : decode cL_ghosts 12 = .ok (.astore_n 3, 1) := by decide +kernel
theorem dL_ghosts_13 : decode cL_ghosts 13 = .ok (.iconst 1, 1) := by decide +kernel
theorem dL_ghosts_14 : decode cL_ghosts 14 = .ok (.ireturn, 1) := by decide +kernel
theorem dL_ghosts_15 : decode cL_ghosts 15 = .ok (.iconst 0, 1) := by decide +kernel
theorem dL_ghosts_16 : decode cL_ghosts 16 = .ok (.ireturn, 1) := by decide +kernel
theorem dL_guesses_0 : decode cL_guesses 0 = .ok (.aload 4, 2) := by decide +kernel
theorem dL_guesses_2 : decode cL_guesses 2 = .ok (.iconst 0, 1) := by decide +kernel
theorem dL_guesses_3 : decode cL_guesses 3 = .ok (.aload_n 0, 1) := by decide +kernel
theorem dL_guesses_4 : decode cL_guesses 4 = .ok (.iload_n 1, 1) := by decide +kernel
theorem dL_guesses_5 : decode cL_guesses 5 = .ok (.iload_n 2, 1) := by decide +kernel
theorem dL_guesses_6 : decode cL_guesses 6 = .ok (.iload_n 3, 1) := by decide +kernel
theorem dL_guesses_7 : decode cL_guesses 7 = .ok (.invokevirtual 80, 3) := by decide +kernel
theorem dL_guesses_10 : decode cL_guesses 10 = .ok (.i2l, 1) := by decide +kernel
theorem dL_guesses_11 : decode cL_guesses 11 = .ok (.lastore, 1) := by decide +kernel
theorem dL_guesses_12 : decode cL_guesses 12 = .ok (.goto 7, 3) := by decide +kernel
theorem dL_guesses_15 : decode cL_guesses 15 = .ok (.astore 5, 2) := by decide +kernel
theorem dL_guesses_17 : decode cL_guesses 17 = .ok (.iconst 1, 1) := by decide +kernel
theorem dL_guesses_18 : decode cL_guesses 18 = .ok (.ireturn, 1) := by decide +kernel
theorem dL_guesses_19 : decode cL_guesses 19 = .ok (.iconst 0, 1) := by decide +kernel
theorem dL_guesses_20 : decode cL_guesses 20 = .ok (.ireturn, 1) := by decide +kernel
theorem dL_law_0 : decode cL_law 0 = .ok (.new 8, 3) := by decide +kernel
theorem dL_law_3 : decode cL_law 3 = .ok (.dup, 1) := by decide +kernel
theorem dL_law_4 : decode cL_law 4 = .ok (.invokespecial 83, 3) := by decide +kernel
theorem dL_law_7 : decode cL_law 7 = .ok (.astore_n 1, 1) := by decide +kernel
theorem dL_law_8 : decode cL_law 8 = .ok (.new 84, 3) := by decide +kernel
theorem dL_law_11 : decode cL_law 11 = .ok (.dup, 1) := by decide +kernel
theorem dL_law_12 : decode cL_law 12 = .ok (.invokespecial 86, 3) := by decide +kernel
theorem dL_law_15 : decode cL_law 15 = .ok (.astore_n 2, 1) := by decide +kernel
theorem dL_law_16 : decode cL_law 16 = .ok (.iconst 1, 1) := by decide +kernel
theorem dL_law_17 : decode cL_law 17 = .ok (.newarray .long, 2) := by decide +kernel
theorem dL_law_19 : decode cL_law 19 = .ok (.astore_n 3, 1) := by decide +kernel
theorem dL_law_20 : decode cL_law 20 = .ok (.iconst 0, 1) := by decide +kernel
theorem dL_law_21 : decode cL_law 21 = .ok (.istore 4, 2) := by decide +kernel
theorem dL_law_23 : decode cL_law 23 = .ok (.iload 4, 2) := by decide +kernel
theorem dL_law_25 : decode cL_law 25 = .ok (.aload_n 0, 1) := by decide +kernel
theorem dL_law_26 : decode cL_law 26 = .ok (.arraylength, 1) := by decide +kernel
theorem dL_law_27 : decode cL_law 27 = .ok (.bipush 6, 2) := by decide +kernel
theorem dL_law_29 : decode cL_law 29 = .ok (.isub, 1) := by decide +kernel
theorem dL_law_30 : decode cL_law 30 = .ok (.if_icmp .gt 1725, 3) := by decide +kernel
theorem dL_law_33 : decode cL_law 33 = .ok (.aload_n 0, 1) := by decide +kernel
theorem dL_law_34 : decode cL_law 34 = .ok (.iload 4, 2) := by decide +kernel
theorem dL_law_36 : decode cL_law 36 = .ok (.iaload, 1) := by decide +kernel
theorem dL_law_37 : decode cL_law 37 = .ok (.bipush 31, 2) := by decide +kernel
theorem dL_law_39 : decode cL_law 39 = .ok (.iand, 1) := by decide +kernel
theorem dL_law_40 : decode cL_law 40 = .ok (.tableswitch 1709 0 24 #[116, 164, 232, 312, 416, 508, 588, 680, 736, 792, 836, 849, 929, 942, 955, 996, 1092, 1160, 1252, 1344, 1357, 1425, 1493, 1573, 1629], 116) := by decide +kernel
theorem dL_law_156 : decode cL_law 156 = .ok (.aload_n 1, 1) := by decide +kernel
theorem dL_law_157 : decode cL_law 157 = .ok (.aload_n 0, 1) := by decide +kernel
theorem dL_law_158 : decode cL_law 158 = .ok (.iload 4, 2) := by decide +kernel
theorem dL_law_160 : decode cL_law 160 = .ok (.iconst 1, 1) := by decide +kernel
theorem dL_law_161 : decode cL_law 161 = .ok (.iadd, 1) := by decide +kernel
theorem dL_law_162 : decode cL_law 162 = .ok (.iaload, 1) := by decide +kernel
theorem dL_law_163 : decode cL_law 163 = .ok (.aload_n 0, 1) := by decide +kernel
theorem dL_law_164 : decode cL_law 164 = .ok (.iload 4, 2) := by decide +kernel
theorem dL_law_166 : decode cL_law 166 = .ok (.iconst 2, 1) := by decide +kernel
theorem dL_law_167 : decode cL_law 167 = .ok (.iadd, 1) := by decide +kernel
theorem dL_law_168 : decode cL_law 168 = .ok (.iaload, 1) := by decide +kernel
theorem dL_law_169 : decode cL_law 169 = .ok (.invokestatic 87, 3) := by decide +kernel
theorem dL_law_172 : decode cL_law 172 = .ok (.istore 5, 2) := by decide +kernel
theorem dL_law_174 : decode cL_law 174 = .ok (.aload_n 2, 1) := by decide +kernel
theorem dL_law_175 : decode cL_law 175 = .ok (.aload_n 0, 1) := by decide +kernel
theorem dL_law_176 : decode cL_law 176 = .ok (.iload 4, 2) := by decide +kernel
theorem dL_law_178 : decode cL_law 178 = .ok (.iconst 1, 1) := by decide +kernel
theorem dL_law_179 : decode cL_law 179 = .ok (.iadd, 1) := by decide +kernel
theorem dL_law_180 : decode cL_law 180 = .ok (.iaload, 1) := by decide +kernel
theorem dL_law_181 : decode cL_law 181 = .ok (.aload_n 0, 1) := by decide +kernel
theorem dL_law_182 : decode cL_law 182 = .ok (.iload 4, 2) := by decide +kernel
theorem dL_law_184 : decode cL_law 184 = .ok (.iconst 2, 1) := by decide +kernel
theorem dL_law_185 : decode cL_law 185 = .ok (.iadd, 1) := by decide +kernel
theorem dL_law_186 : decode cL_law 186 = .ok (.iaload, 1) := by decide +kernel
theorem dL_law_187 : decode cL_law 187 = .ok (.invokevirtual 92, 3) := by decide +kernel
theorem dL_law_190 : decode cL_law 190 = .ok (.aload_n 2, 1) := by decide +kernel
theorem dL_law_191 : decode cL_law 191 = .ok (.invokevirtual 93, 3) := by decide +kernel
theorem dL_law_194 : decode cL_law 194 = .ok (.iload 5, 2) := by decide +kernel
theorem dL_law_196 : decode cL_law 196 = .ok (.if_icmp .eq 5, 3) := by decide +kernel
theorem dL_law_199 : decode cL_law 199 = .ok (.iconst 0, 1) := by decide +kernel
theorem dL_law_200 : decode cL_law 200 = .ok (.ireturn, 1) := by decide +kernel
theorem dL_law_201 : decode cL_law 201 = .ok (.goto 1548, 3) := by decide +kernel
theorem dL_law_204 : decode cL_law 204 = .ok (.aload_n 1, 1) := by decide +kernel
theorem dL_law_205 : decode cL_law 205 = .ok (.aload_n 0, 1) := by decide +kernel
theorem dL_law_206 : decode cL_law 206 = .ok (.iload 4, 2) := by decide +kernel
theorem dL_law_208 : decode cL_law 208 = .ok (.iconst 1, 1) := by decide +kernel
theorem dL_law_209 : decode cL_law 209 = .ok (.iadd, 1) := by decide +kernel
theorem dL_law_210 : decode cL_law 210 = .ok (.iaload, 1) := by decide +kernel
theorem dL_law_211 : decode cL_law 211 = .ok (.aload_n 0, 1) := by decide +kernel
theorem dL_law_212 : decode cL_law 212 = .ok (.iload 4, 2) := by decide +kernel
theorem dL_law_214 : decode cL_law 214 = .ok (.iconst 2, 1) := by decide +kernel
theorem dL_law_215 : decode cL_law 215 = .ok (.iadd, 1) := by decide +kernel
theorem dL_law_216 : decode cL_law 216 = .ok (.iaload, 1) := by decide +kernel
theorem dL_law_217 : decode cL_law 217 = .ok (.aload_n 3, 1) := by decide +kernel
theorem dL_law_218 : decode cL_law 218 = .ok (.invokestatic 96, 3) := by decide +kernel
theorem dL_law_221 : decode cL_law 221 = .ok (.istore 5, 2) := by decide +kernel
theorem dL_law_223 : decode cL_law 223 = .ok (.aload_n 2, 1) := by decide +kernel
theorem dL_law_224 : decode cL_law 224 = .ok (.aload_n 0, 1) := by decide +kernel
theorem dL_law_225 : decode cL_law 225 = .ok (.iload 4, 2) := by decide +kernel
theorem dL_law_227 : decode cL_law 227 = .ok (.iconst 1, 1) := by decide +kernel
theorem dL_law_228 : decode cL_law 228 = .ok (.iadd, 1) := by decide +kernel
theorem dL_law_229 : decode cL_law 229 = .ok (.iaload, 1) := by decide +kernel
theorem dL_law_230 : decode cL_law 230 = .ok (.aload_n 0, 1) := by decide +kernel
theorem dL_law_231 : decode cL_law 231 = .ok (.iload 4, 2) := by decide +kernel
theorem dL_law_233 : decode cL_law 233 = .ok (.iconst 2, 1) := by decide +kernel
theorem dL_law_234 : decode cL_law 234 = .ok (.iadd, 1) := by decide +kernel
theorem dL_law_235 : decode cL_law 235 = .ok (.iaload, 1) := by decide +kernel
theorem dL_law_236 : decode cL_law 236 = .ok (.invokevirtual 99, 3) := by decide +kernel
theorem dL_law_239 : decode cL_law 239 = .ok (.istore 6, 2) := by decide +kernel
theorem dL_law_241 : decode cL_law 241 = .ok (.aload_n 2, 1) := by decide +kernel
theorem dL_law_242 : decode cL_law 242 = .ok (.invokevirtual 93, 3) := by decide +kernel
theorem dL_law_245 : decode cL_law 245 = .ok (.iload 5, 2) := by decide +kernel
theorem dL_law_247 : decode cL_law 247 = .ok (.if_icmp .eq 5, 3) := by decide +kernel
theorem dL_law_250 : decode cL_law 250 = .ok (.iconst 0, 1) := by decide +kernel
theorem dL_law_251 : decode cL_law 251 = .ok (.ireturn, 1) := by decide +kernel
theorem dL_law_252 : decode cL_law 252 = .ok (.iload 5, 2) := by decide +kernel
theorem dL_law_254 : decode cL_law 254 = .ok (.ifCond .ne 15, 3) := by decide +kernel
theorem dL_law_257 : decode cL_law 257 = .ok (.aload_n 3, 1) := by decide +kernel
theorem dL_law_258 : decode cL_law 258 = .ok (.iconst 0, 1) := by decide +kernel
theorem dL_law_259 : decode cL_law 259 = .ok (.laload, 1) := by decide +kernel
theorem dL_law_260 : decode cL_law 260 = .ok (.iload 6, 2) := by decide +kernel
theorem dL_law_262 : decode cL_law 262 = .ok (.i2l, 1) := by decide +kernel
theorem dL_law_263 : decode cL_law 263 = .ok (.lcmp, 1) := by decide +kernel
theorem dL_law_264 : decode cL_law 264 = .ok (.ifCond .eq 5, 3) := by decide +kernel
theorem dL_law_267 : decode cL_law 267 = .ok (.iconst 0, 1) := by decide +kernel
theorem dL_law_268 : decode cL_law 268 = .ok (.ireturn, 1) := by decide +kernel
theorem dL_law_269 : decode cL_law 269 = .ok (.goto 1480, 3) := by decide +kernel
theorem dL_law_272 : decode cL_law 272 = .ok (.aload_n 1, 1) := by decide +kernel
theorem dL_law_273 : decode cL_law 273 = .ok (.aload_n 0, 1) := by decide +kernel
theorem dL_law_274 : decode cL_law 274 = .ok (.iload 4, 2) := by decide +kernel
theorem dL_law_276 : decode cL_law 276 = .ok (.iconst 1, 1) := by decide +kernel
theorem dL_law_277 : decode cL_law 277 = .ok (.iadd, 1) := by decide +kernel
theorem dL_law_278 : decode cL_law 278 = .ok (.iaload, 1) := by decide +kernel
theorem dL_law_279 : decode cL_law 279 = .ok (.aload_n 0, 1) := by decide +kernel
theorem dL_law_280 : decode cL_law 280 = .ok (.iload 4, 2) := by decide +kernel
theorem dL_law_282 : decode cL_law 282 = .ok (.iconst 2, 1) := by decide +kernel
theorem dL_law_283 : decode cL_law 283 = .ok (.iadd, 1) := by decide +kernel
theorem dL_law_284 : decode cL_law 284 = .ok (.iaload, 1) := by decide +kernel
theorem dL_law_285 : decode cL_law 285 = .ok (.aload_n 0, 1) := by decide +kernel
theorem dL_law_286 : decode cL_law 286 = .ok (.iload 4, 2) := by decide +kernel
theorem dL_law_288 : decode cL_law 288 = .ok (.iconst 3, 1) := by decide +kernel
theorem dL_law_289 : decode cL_law 289 = .ok (.iadd, 1) := by decide +kernel
theorem dL_law_290 : decode cL_law 290 = .ok (.iaload, 1) := by decide +kernel
theorem dL_law_291 : decode cL_law 291 = .ok (.aload_n 3, 1) := by decide +kernel
theorem dL_law_292 : decode cL_law 292 = .ok (.invokestatic 100, 3) := by decide +kernel
theorem dL_law_295 : decode cL_law 295 = .ok (.istore 5, 2) := by decide +kernel
theorem dL_law_297 : decode cL_law 297 = .ok (.aload_n 2, 1) := by decide +kernel
theorem dL_law_298 : decode cL_law 298 = .ok (.aload_n 0, 1) := by decide +kernel
theorem dL_law_299 : decode cL_law 299 = .ok (.iload 4, 2) := by decide +kernel
theorem dL_law_301 : decode cL_law 301 = .ok (.iconst 1, 1) := by decide +kernel
theorem dL_law_302 : decode cL_law 302 = .ok (.iadd, 1) := by decide +kernel
theorem dL_law_303 : decode cL_law 303 = .ok (.iaload, 1) := by decide +kernel
theorem dL_law_304 : decode cL_law 304 = .ok (.aload_n 0, 1) := by decide +kernel
theorem dL_law_305 : decode cL_law 305 = .ok (.iload 4, 2) := by decide +kernel
theorem dL_law_307 : decode cL_law 307 = .ok (.iconst 2, 1) := by decide +kernel
theorem dL_law_308 : decode cL_law 308 = .ok (.iadd, 1) := by decide +kernel
theorem dL_law_309 : decode cL_law 309 = .ok (.iaload, 1) := by decide +kernel
theorem dL_law_310 : decode cL_law 310 = .ok (.aload_n 0, 1) := by decide +kernel
theorem dL_law_311 : decode cL_law 311 = .ok (.iload 4, 2) := by decide +kernel
theorem dL_law_313 : decode cL_law 313 = .ok (.iconst 3, 1) := by decide +kernel
theorem dL_law_314 : decode cL_law 314 = .ok (.iadd, 1) := by decide +kernel
theorem dL_law_315 : decode cL_law 315 = .ok (.iaload, 1) := by decide +kernel
theorem dL_law_316 : decode cL_law 316 = .ok (.invokevirtual 103, 3) := by decide +kernel
theorem dL_law_319 : decode cL_law 319 = .ok (.istore 6, 2) := by decide +kernel
theorem dL_law_321 : decode cL_law 321 = .ok (.aload_n 2, 1) := by decide +kernel
theorem dL_law_322 : decode cL_law 322 = .ok (.invokevirtual 93, 3) := by decide +kernel
theorem dL_law_325 : decode cL_law 325 = .ok (.iload 5, 2) := by decide +kernel
theorem dL_law_327 : decode cL_law 327 = .ok (.if_icmp .eq 5, 3) := by decide +kernel
theorem dL_law_330 : decode cL_law 330 = .ok (.iconst 0, 1) := by decide +kernel
theorem dL_law_331 : decode cL_law 331 = .ok (.ireturn, 1) := by decide +kernel
theorem dL_law_332 : decode cL_law 332 = .ok (.iload 5, 2) := by decide +kernel
theorem dL_law_334 : decode cL_law 334 = .ok (.ifCond .ne 15, 3) := by decide +kernel
theorem dL_law_337 : decode cL_law 337 = .ok (.aload_n 3, 1) := by decide +kernel
theorem dL_law_338 : decode cL_law 338 = .ok (.iconst 0, 1) := by decide +kernel
theorem dL_law_339 : decode cL_law 339 = .ok (.laload, 1) := by decide +kernel
theorem dL_law_340 : decode cL_law 340 = .ok (.iload 6, 2) := by decide +kernel
theorem dL_law_342 : decode cL_law 342 = .ok (.i2l, 1) := by decide +kernel
theorem dL_law_343 : decode cL_law 343 = .ok (.lcmp, 1) := by decide +kernel
theorem dL_law_344 : decode cL_law 344 = .ok (.ifCond .eq 5, 3) := by decide +kernel
theorem dL_law_347 : decode cL_law 347 = .ok (.iconst 0, 1) := by decide +kernel
theorem dL_law_348 : decode cL_law 348 = .ok (.ireturn, 1) := by decide +kernel
theorem dL_law_349 : decode cL_law 349 = .ok (.goto 1400, 3) := by decide +kernel
theorem dL_law_352 : decode cL_law 352 = .ok (.aload_n 1, 1) := by decide +kernel
theorem dL_law_353 : decode cL_law 353 = .ok (.aload_n 0, 1) := by decide +kernel
theorem dL_law_354 : decode cL_law 354 = .ok (.iload 4, 2) := by decide +kernel
theorem dL_law_356 : decode cL_law 356 = .ok (.iconst 1, 1) := by decide +kernel
theorem dL_law_357 : decode cL_law 357 = .ok (.iadd, 1) := by decide +kernel
theorem dL_law_358 : decode cL_law 358 = .ok (.iaload, 1) := by decide +kernel
theorem dL_law_359 : decode cL_law 359 = .ok (.aload_n 0, 1) := by decide +kernel
theorem dL_law_360 : decode cL_law 360 = .ok (.iload 4, 2) := by decide +kernel
theorem dL_law_362 : decode cL_law 362 = .ok (.iconst 2, 1) := by decide +kernel
theorem dL_law_363 : decode cL_law 363 = .ok (.iadd, 1) := by decide +kernel
theorem dL_law_364 : decode cL_law 364 = .ok (.iaload, 1) := by decide +kernel
theorem dL_law_365 : decode cL_law 365 = .ok (.aload_n 0, 1) := by decide +kernel
theorem dL_law_366 : decode cL_law 366 = .ok (.iload 4, 2) := by decide +kernel
theorem dL_law_368 : decode cL_law 368 = .ok (.iconst 3, 1) := by decide +kernel
theorem dL_law_369 : decode cL_law 369 = .ok (.iadd, 1) := by decide +kernel
theorem dL_law_370 : decode cL_law 370 = .ok (.iaload, 1) := by decide +kernel
theorem dL_law_371 : decode cL_law 371 = .ok (.aload_n 0, 1) := by decide +kernel
theorem dL_law_372 : decode cL_law 372 = .ok (.iload 4, 2) := by decide +kernel
theorem dL_law_374 : decode cL_law 374 = .ok (.iconst 4, 1) := by decide +kernel
theorem dL_law_375 : decode cL_law 375 = .ok (.iadd, 1) := by decide +kernel
theorem dL_law_376 : decode cL_law 376 = .ok (.iaload, 1) := by decide +kernel
theorem dL_law_377 : decode cL_law 377 = .ok (.aload_n 0, 1) := by decide +kernel
theorem dL_law_378 : decode cL_law 378 = .ok (.iload 4, 2) := by decide +kernel
theorem dL_law_380 : decode cL_law 380 = .ok (.iconst 5, 1) := by decide +kernel
theorem dL_law_381 : decode cL_law 381 = .ok (.iadd, 1) := by decide +kernel
theorem dL_law_382 : decode cL_law 382 = .ok (.iaload, 1) := by decide +kernel
theorem dL_law_383 : decode cL_law 383 = .ok (.aload_n 3, 1) := by decide +kernel
theorem dL_law_384 : decode cL_law 384 = .ok (.invokestatic 104, 3) := by decide +kernel
theorem dL_law_387 : decode cL_law 387 = .ok (.istore 5, 2) := by decide +kernel
theorem dL_law_389 : decode cL_law 389 = .ok (.aload_n 2, 1) := by decide +kernel
theorem dL_law_390 : decode cL_law 390 = .ok (.aload_n 0, 1) := by decide +kernel
theorem dL_law_391 : decode cL_law 391 = .ok (.iload 4, 2) := by decide +kernel
theorem dL_law_393 : decode cL_law 393 = .ok (.iconst 1, 1) := by decide +kernel
theorem dL_law_394 : decode cL_law 394 = .ok (.iadd, 1) := by decide +kernel
theorem dL_law_395 : decode cL_law 395 = .ok (.iaload, 1) := by decide +kernel
theorem dL_law_396 : decode cL_law 396 = .ok (.aload_n 0, 1) := by decide +kernel
theorem dL_law_397 : decode cL_law 397 = .ok (.iload 4, 2) := by decide +kernel
theorem dL_law_399 : decode cL_law 399 = .ok (.iconst 2, 1) := by decide +kernel
theorem dL_law_400 : decode cL_law 400 = .ok (.iadd, 1) := by decide +kernel
theorem dL_law_401 : decode cL_law 401 = .ok (.iaload, 1) := by decide +kernel
theorem dL_law_402 : decode cL_law 402 = .ok (.aload_n 0, 1) := by decide +kernel
theorem dL_law_403 : decode cL_law 403 = .ok (.iload 4, 2) := by decide +kernel
theorem dL_law_405 : decode cL_law 405 = .ok (.iconst 3, 1) := by decide +kernel
theorem dL_law_406 : decode cL_law 406 = .ok (.iadd, 1) := by decide +kernel
theorem dL_law_407 : decode cL_law 407 = .ok (.iaload, 1) := by decide +kernel
theorem dL_law_408 : decode cL_law 408 = .ok (.aload_n 0, 1) := by decide +kernel
theorem dL_law_409 : decode cL_law 409 = .ok (.iload 4, 2) := by decide +kernel
theorem dL_law_411 : decode cL_law 411 = .ok (.iconst 4, 1) := by decide +kernel
theorem dL_law_412 : decode cL_law 412 = .ok (.iadd, 1) := by decide +kernel
theorem dL_law_413 : decode cL_law 413 = .ok (.iaload, 1) := by decide +kernel
theorem dL_law_414 : decode cL_law 414 = .ok (.aload_n 0, 1) := by decide +kernel
theorem dL_law_415 : decode cL_law 415 = .ok (.iload 4, 2) := by decide +kernel
theorem dL_law_417 : decode cL_law 417 = .ok (.iconst 5, 1) := by decide +kernel
theorem dL_law_418 : decode cL_law 418 = .ok (.iadd, 1) := by decide +kernel
theorem dL_law_419 : decode cL_law 419 = .ok (.iaload, 1) := by decide +kernel
theorem dL_law_420 : decode cL_law 420 = .ok (.invokevirtual 107, 3) := by decide +kernel
theorem dL_law_423 : decode cL_law 423 = .ok (.istore 6, 2) := by decide +kernel
theorem dL_law_425 : decode cL_law 425 = .ok (.aload_n 2, 1) := by decide +kernel
theorem dL_law_426 : decode cL_law 426 = .ok (.invokevirtual 93, 3) := by decide +kernel
theorem dL_law_429 : decode cL_law 429 = .ok (.iload 5, 2) := by decide +kernel
theorem dL_law_431 : decode cL_law 431 = .ok (.if_icmp .eq 5, 3) := by decide +kernel
theorem dL_law_434 : decode cL_law 434 = .ok (.iconst 0, 1) := by decide +kernel
theorem dL_law_435 : decode cL_law 435 = .ok (.ireturn, 1) := by decide +kernel
theorem dL_law_436 : decode cL_law 436 = .ok (.iload 5, 2) := by decide +kernel
theorem dL_law_438 : decode cL_law 438 = .ok (.ifCond .ne 15, 3) := by decide +kernel
theorem dL_law_441 : decode cL_law 441 = .ok (.aload_n 3, 1) := by decide +kernel
theorem dL_law_442 : decode cL_law 442 = .ok (.iconst 0, 1) := by decide +kernel
theorem dL_law_443 : decode cL_law 443 = .ok (.laload, 1) := by decide +kernel
theorem dL_law_444 : decode cL_law 444 = .ok (.iload 6, 2) := by decide +kernel
theorem dL_law_446 : decode cL_law 446 = .ok (.i2l, 1) := by decide +kernel
theorem dL_law_447 : decode cL_law 447 = .ok (.lcmp, 1) := by decide +kernel
theorem dL_law_448 : decode cL_law 448 = .ok (.ifCond .eq 5, 3) := by decide +kernel
theorem dL_law_451 : decode cL_law 451 = .ok (.iconst 0, 1) := by decide +kernel
theorem dL_law_452 : decode cL_law 452 = .ok (.ireturn, 1) := by decide +kernel
theorem dL_law_453 : decode cL_law 453 = .ok (.goto 1296, 3) := by decide +kernel
theorem dL_law_456 : decode cL_law 456 = .ok (.aload_n 1, 1) := by decide +kernel
theorem dL_law_457 : decode cL_law 457 = .ok (.aload_n 0, 1) := by decide +kernel
theorem dL_law_458 : decode cL_law 458 = .ok (.iload 4, 2) := by decide +kernel
theorem dL_law_460 : decode cL_law 460 = .ok (.iconst 1, 1) := by decide +kernel
theorem dL_law_461 : decode cL_law 461 = .ok (.iadd, 1) := by decide +kernel
theorem dL_law_462 : decode cL_law 462 = .ok (.iaload, 1) := by decide +kernel
theorem dL_law_463 : decode cL_law 463 = .ok (.aload_n 0, 1) := by decide +kernel
theorem dL_law_464 : decode cL_law 464 = .ok (.iload 4, 2) := by decide +kernel
theorem dL_law_466 : decode cL_law 466 = .ok (.iconst 2, 1) := by decide +kernel
theorem dL_law_467 : decode cL_law 467 = .ok (.iadd, 1) := by decide +kernel
theorem dL_law_468 : decode cL_law 468 = .ok (.iaload, 1) := by decide +kernel
theorem dL_law_469 : decode cL_law 469 = .ok (.aload_n 0, 1) := by decide +kernel
theorem dL_law_470 : decode cL_law 470 = .ok (.iload 4, 2) := by decide +kernel
theorem dL_law_472 : decode cL_law 472 = .ok (.iconst 3, 1) := by decide +kernel
theorem dL_law_473 : decode cL_law 473 = .ok (.iadd, 1) := by decide +kernel
theorem dL_law_474 : decode cL_law 474 = .ok (.iaload, 1) := by decide +kernel
theorem dL_law_475 : decode cL_law 475 = .ok (.aload_n 0, 1) := by decide +kernel
theorem dL_law_476 : decode cL_law 476 = .ok (.iload 4, 2) := by decide +kernel
theorem dL_law_478 : decode cL_law 478 = .ok (.iconst 4, 1) := by decide +kernel
theorem dL_law_479 : decode cL_law 479 = .ok (.iadd, 1) := by decide +kernel
theorem dL_law_480 : decode cL_law 480 = .ok (.iaload, 1) := by decide +kernel
theorem dL_law_481 : decode cL_law 481 = .ok (.aload_n 3, 1) := by decide +kernel
theorem dL_law_482 : decode cL_law 482 = .ok (.invokestatic 108, 3) := by decide +kernel
theorem dL_law_485 : decode cL_law 485 = .ok (.istore 5, 2) := by decide +kernel
theorem dL_law_487 : decode cL_law 487 = .ok (.aload_n 2, 1) := by decide +kernel
theorem dL_law_488 : decode cL_law 488 = .ok (.aload_n 0, 1) := by decide +kernel
theorem dL_law_489 : decode cL_law 489 = .ok (.iload 4, 2) := by decide +kernel
theorem dL_law_491 : decode cL_law 491 = .ok (.iconst 1, 1) := by decide +kernel
theorem dL_law_492 : decode cL_law 492 = .ok (.iadd, 1) := by decide +kernel
theorem dL_law_493 : decode cL_law 493 = .ok (.iaload, 1) := by decide +kernel
theorem dL_law_494 : decode cL_law 494 = .ok (.aload_n 0, 1) := by decide +kernel
theorem dL_law_495 : decode cL_law 495 = .ok (.iload 4, 2) := by decide +kernel
theorem dL_law_497 : decode cL_law 497 = .ok (.iconst 2, 1) := by decide +kernel
theorem dL_law_498 : decode cL_law 498 = .ok (.iadd, 1) := by decide +kernel
theorem dL_law_499 : decode cL_law 499 = .ok (.iaload, 1) := by decide +kernel
theorem dL_law_500 : decode cL_law 500 = .ok (.aload_n 0, 1) := by decide +kernel
theorem dL_law_501 : decode cL_law 501 = .ok (.iload 4, 2) := by decide +kernel
theorem dL_law_503 : decode cL_law 503 = .ok (.iconst 3, 1) := by decide +kernel
theorem dL_law_504 : decode cL_law 504 = .ok (.iadd, 1) := by decide +kernel
theorem dL_law_505 : decode cL_law 505 = .ok (.iaload, 1) := by decide +kernel
theorem dL_law_506 : decode cL_law 506 = .ok (.aload_n 0, 1) := by decide +kernel
theorem dL_law_507 : decode cL_law 507 = .ok (.iload 4, 2) := by decide +kernel
theorem dL_law_509 : decode cL_law 509 = .ok (.iconst 4, 1) := by decide +kernel
theorem dL_law_510 : decode cL_law 510 = .ok (.iadd, 1) := by decide +kernel
theorem dL_law_511 : decode cL_law 511 = .ok (.iaload, 1) := by decide +kernel
theorem dL_law_512 : decode cL_law 512 = .ok (.invokevirtual 111, 3) := by decide +kernel
theorem dL_law_515 : decode cL_law 515 = .ok (.istore 6, 2) := by decide +kernel
theorem dL_law_517 : decode cL_law 517 = .ok (.aload_n 2, 1) := by decide +kernel
theorem dL_law_518 : decode cL_law 518 = .ok (.invokevirtual 93, 3) := by decide +kernel
theorem dL_law_521 : decode cL_law 521 = .ok (.iload 5, 2) := by decide +kernel
theorem dL_law_523 : decode cL_law 523 = .ok (.if_icmp .eq 5, 3) := by decide +kernel
theorem dL_law_526 : decode cL_law 526 = .ok (.iconst 0, 1) := by decide +kernel
theorem dL_law_527 : decode cL_law 527 = .ok (.ireturn, 1) := by decide +kernel
theorem dL_law_528 : decode cL_law 528 = .ok (.iload 5, 2) := by decide +kernel
theorem dL_law_530 : decode cL_law 530 = .ok (.ifCond .ne 15, 3) := by decide +kernel
theorem dL_law_533 : decode cL_law 533 = .ok (.aload_n 3, 1) := by decide +kernel
theorem dL_law_534 : decode cL_law 534 = .ok (.iconst 0, 1) := by decide +kernel
theorem dL_law_535 : decode cL_law 535 = .ok (.laload, 1) := by decide +kernel
theorem dL_law_536 : decode cL_law 536 = .ok (.iload 6, 2) := by decide +kernel
theorem dL_law_538 : decode cL_law 538 = .ok (.i2l, 1) := by decide +kernel
theorem dL_law_539 : decode cL_law 539 = .ok (.lcmp, 1) := by decide +kernel
theorem dL_law_540 : decode cL_law 540 = .ok (.ifCond .eq 5, 3) := by decide +kernel
theorem dL_law_543 : decode cL_law 543 = .ok (.iconst 0, 1) := by decide +kernel
theorem dL_law_544 : decode cL_law 544 = .ok (.ireturn, 1) := by decide +kernel
theorem dL_law_545 : decode cL_law 545 = .ok (.goto 1204, 3) := by decide +kernel
theorem dL_law_548 : decode cL_law 548 = .ok (.aload_n 1, 1) := by decide +kernel
theorem dL_law_549 : decode cL_law 549 = .ok (.aload_n 0, 1) := by decide +kernel
theorem dL_law_550 : decode cL_law 550 = .ok (.iload 4, 2) := by decide +kernel
theorem dL_law_552 : decode cL_law 552 = .ok (.iconst 1, 1) := by decide +kernel
theorem dL_law_553 : decode cL_law 553 = .ok (.iadd, 1) := by decide +kernel
theorem dL_law_554 : decode cL_law 554 = .ok (.iaload, 1) := by decide +kernel
theorem dL_law_555 : decode cL_law 555 = .ok (.aload_n 0, 1) := by decide +kernel
theorem dL_law_556 : decode cL_law 556 = .ok (.iload 4, 2) := by decide +kernel
theorem dL_law_558 : decode cL_law 558 = .ok (.iconst 2, 1) := by decide +kernel
theorem dL_law_559 : decode cL_law 559 = .ok (.iadd, 1) := by decide +kernel
theorem dL_law_560 : decode cL_law 560 = .ok (.iaload, 1) := by decide +kernel
theorem dL_law_561 : decode cL_law 561 = .ok (.aload_n 0, 1) := by decide +kernel
theorem dL_law_562 : decode cL_law 562 = .ok (.iload 4, 2) := by decide +kernel
theorem dL_law_564 : decode cL_law 564 = .ok (.iconst 3, 1) := by decide +kernel
theorem dL_law_565 : decode cL_law 565 = .ok (.iadd, 1) := by decide +kernel
theorem dL_law_566 : decode cL_law 566 = .ok (.iaload, 1) := by decide +kernel
theorem dL_law_567 : decode cL_law 567 = .ok (.aload_n 3, 1) := by decide +kernel
theorem dL_law_568 : decode cL_law 568 = .ok (.invokestatic 112, 3) := by decide +kernel
theorem dL_law_571 : decode cL_law 571 = .ok (.istore 5, 2) := by decide +kernel
theorem dL_law_573 : decode cL_law 573 = .ok (.aload_n 2, 1) := by decide +kernel
theorem dL_law_574 : decode cL_law 574 = .ok (.aload_n 0, 1) := by decide +kernel
theorem dL_law_575 : decode cL_law 575 = .ok (.iload 4, 2) := by decide +kernel
theorem dL_law_577 : decode cL_law 577 = .ok (.iconst 1, 1) := by decide +kernel
theorem dL_law_578 : decode cL_law 578 = .ok (.iadd, 1) := by decide +kernel
theorem dL_law_579 : decode cL_law 579 = .ok (.iaload, 1) := by decide +kernel
theorem dL_law_580 : decode cL_law 580 = .ok (.aload_n 0, 1) := by decide +kernel
theorem dL_law_581 : decode cL_law 581 = .ok (.iload 4, 2) := by decide +kernel
theorem dL_law_583 : decode cL_law 583 = .ok (.iconst 2, 1) := by decide +kernel
theorem dL_law_584 : decode cL_law 584 = .ok (.iadd, 1) := by decide +kernel
theorem dL_law_585 : decode cL_law 585 = .ok (.iaload, 1) := by decide +kernel
theorem dL_law_586 : decode cL_law 586 = .ok (.aload_n 0, 1) := by decide +kernel
theorem dL_law_587 : decode cL_law 587 = .ok (.iload 4, 2) := by decide +kernel
theorem dL_law_589 : decode cL_law 589 = .ok (.iconst 3, 1) := by decide +kernel
theorem dL_law_590 : decode cL_law 590 = .ok (.iadd, 1) := by decide +kernel
theorem dL_law_591 : decode cL_law 591 = .ok (.iaload, 1) := by decide +kernel
theorem dL_law_592 : decode cL_law 592 = .ok (.invokevirtual 114, 3) := by decide +kernel
theorem dL_law_595 : decode cL_law 595 = .ok (.istore 6, 2) := by decide +kernel
theorem dL_law_597 : decode cL_law 597 = .ok (.aload_n 2, 1) := by decide +kernel
theorem dL_law_598 : decode cL_law 598 = .ok (.invokevirtual 93, 3) := by decide +kernel
theorem dL_law_601 : decode cL_law 601 = .ok (.iload 5, 2) := by decide +kernel
theorem dL_law_603 : decode cL_law 603 = .ok (.if_icmp .eq 5, 3) := by decide +kernel
theorem dL_law_606 : decode cL_law 606 = .ok (.iconst 0, 1) := by decide +kernel
theorem dL_law_607 : decode cL_law 607 = .ok (.ireturn, 1) := by decide +kernel
theorem dL_law_608 : decode cL_law 608 = .ok (.iload 5, 2) := by decide +kernel
theorem dL_law_610 : decode cL_law 610 = .ok (.ifCond .ne 15, 3) := by decide +kernel
theorem dL_law_613 : decode cL_law 613 = .ok (.aload_n 3, 1) := by decide +kernel
theorem dL_law_614 : decode cL_law 614 = .ok (.iconst 0, 1) := by decide +kernel
theorem dL_law_615 : decode cL_law 615 = .ok (.laload, 1) := by decide +kernel
theorem dL_law_616 : decode cL_law 616 = .ok (.iload 6, 2) := by decide +kernel
theorem dL_law_618 : decode cL_law 618 = .ok (.i2l, 1) := by decide +kernel
theorem dL_law_619 : decode cL_law 619 = .ok (.lcmp, 1) := by decide +kernel
theorem dL_law_620 : decode cL_law 620 = .ok (.ifCond .eq 5, 3) := by decide +kernel
theorem dL_law_623 : decode cL_law 623 = .ok (.iconst 0, 1) := by decide +kernel
theorem dL_law_624 : decode cL_law 624 = .ok (.ireturn, 1) := by decide +kernel
theorem dL_law_625 : decode cL_law 625 = .ok (.goto 1124, 3) := by decide +kernel
theorem dL_law_628 : decode cL_law 628 = .ok (.aload_n 1, 1) := by decide +kernel
theorem dL_law_629 : decode cL_law 629 = .ok (.aload_n 0, 1) := by decide +kernel
theorem dL_law_630 : decode cL_law 630 = .ok (.iload 4, 2) := by decide +kernel
theorem dL_law_632 : decode cL_law 632 = .ok (.iconst 1, 1) := by decide +kernel
theorem dL_law_633 : decode cL_law 633 = .ok (.iadd, 1) := by decide +kernel
theorem dL_law_634 : decode cL_law 634 = .ok (.iaload, 1) := by decide +kernel
theorem dL_law_635 : decode cL_law 635 = .ok (.aload_n 0, 1) := by decide +kernel
theorem dL_law_636 : decode cL_law 636 = .ok (.iload 4, 2) := by decide +kernel
theorem dL_law_638 : decode cL_law 638 = .ok (.iconst 2, 1) := by decide +kernel
theorem dL_law_639 : decode cL_law 639 = .ok (.iadd, 1) := by decide +kernel
theorem dL_law_640 : decode cL_law 640 = .ok (.iaload, 1) := by decide +kernel
theorem dL_law_641 : decode cL_law 641 = .ok (.aload_n 0, 1) := by decide +kernel
theorem dL_law_642 : decode cL_law 642 = .ok (.iload 4, 2) := by decide +kernel
theorem dL_law_644 : decode cL_law 644 = .ok (.iconst 3, 1) := by decide +kernel
theorem dL_law_645 : decode cL_law 645 = .ok (.iadd, 1) := by decide +kernel
theorem dL_law_646 : decode cL_law 646 = .ok (.iaload, 1) := by decide +kernel
theorem dL_law_647 : decode cL_law 647 = .ok (.aload_n 0, 1) := by decide +kernel
theorem dL_law_648 : decode cL_law 648 = .ok (.iload 4, 2) := by decide +kernel
theorem dL_law_650 : decode cL_law 650 = .ok (.iconst 4, 1) := by decide +kernel
theorem dL_law_651 : decode cL_law 651 = .ok (.iadd, 1) := by decide +kernel
theorem dL_law_652 : decode cL_law 652 = .ok (.iaload, 1) := by decide +kernel
theorem dL_law_653 : decode cL_law 653 = .ok (.aload_n 3, 1) := by decide +kernel
theorem dL_law_654 : decode cL_law 654 = .ok (.invokestatic 115, 3) := by decide +kernel
theorem dL_law_657 : decode cL_law 657 = .ok (.istore 5, 2) := by decide +kernel
theorem dL_law_659 : decode cL_law 659 = .ok (.aload_n 2, 1) := by decide +kernel
theorem dL_law_660 : decode cL_law 660 = .ok (.aload_n 0, 1) := by decide +kernel
theorem dL_law_661 : decode cL_law 661 = .ok (.iload 4, 2) := by decide +kernel
theorem dL_law_663 : decode cL_law 663 = .ok (.iconst 1, 1) := by decide +kernel
theorem dL_law_664 : decode cL_law 664 = .ok (.iadd, 1) := by decide +kernel
theorem dL_law_665 : decode cL_law 665 = .ok (.iaload, 1) := by decide +kernel
theorem dL_law_666 : decode cL_law 666 = .ok (.aload_n 0, 1) := by decide +kernel
theorem dL_law_667 : decode cL_law 667 = .ok (.iload 4, 2) := by decide +kernel
theorem dL_law_669 : decode cL_law 669 = .ok (.iconst 2, 1) := by decide +kernel
theorem dL_law_670 : decode cL_law 670 = .ok (.iadd, 1) := by decide +kernel
theorem dL_law_671 : decode cL_law 671 = .ok (.iaload, 1) := by decide +kernel
theorem dL_law_672 : decode cL_law 672 = .ok (.aload_n 0, 1) := by decide +kernel
theorem dL_law_673 : decode cL_law 673 = .ok (.iload 4, 2) := by decide +kernel
theorem dL_law_675 : decode cL_law 675 = .ok (.iconst 3, 1) := by decide +kernel
theorem dL_law_676 : decode cL_law 676 = .ok (.iadd, 1) := by decide +kernel
theorem dL_law_677 : decode cL_law 677 = .ok (.iaload, 1) := by decide +kernel
theorem dL_law_678 : decode cL_law 678 = .ok (.aload_n 0, 1) := by decide +kernel
theorem dL_law_679 : decode cL_law 679 = .ok (.iload 4, 2) := by decide +kernel
theorem dL_law_681 : decode cL_law 681 = .ok (.iconst 4, 1) := by decide +kernel
theorem dL_law_682 : decode cL_law 682 = .ok (.iadd, 1) := by decide +kernel
theorem dL_law_683 : decode cL_law 683 = .ok (.iaload, 1) := by decide +kernel
theorem dL_law_684 : decode cL_law 684 = .ok (.invokevirtual 117, 3) := by decide +kernel
theorem dL_law_687 : decode cL_law 687 = .ok (.istore 6, 2) := by decide +kernel
theorem dL_law_689 : decode cL_law 689 = .ok (.aload_n 2, 1) := by decide +kernel
theorem dL_law_690 : decode cL_law 690 = .ok (.invokevirtual 93, 3) := by decide +kernel
theorem dL_law_693 : decode cL_law 693 = .ok (.iload 5, 2) := by decide +kernel
theorem dL_law_695 : decode cL_law 695 = .ok (.if_icmp .eq 5, 3) := by decide +kernel
theorem dL_law_698 : decode cL_law 698 = .ok (.iconst 0, 1) := by decide +kernel
theorem dL_law_699 : decode cL_law 699 = .ok (.ireturn, 1) := by decide +kernel
theorem dL_law_700 : decode cL_law 700 = .ok (.iload 5, 2) := by decide +kernel
theorem dL_law_702 : decode cL_law 702 = .ok (.ifCond .ne 15, 3) := by decide +kernel
theorem dL_law_705 : decode cL_law 705 = .ok (.aload_n 3, 1) := by decide +kernel
theorem dL_law_706 : decode cL_law 706 = .ok (.iconst 0, 1) := by decide +kernel
theorem dL_law_707 : decode cL_law 707 = .ok (.laload, 1) := by decide +kernel
theorem dL_law_708 : decode cL_law 708 = .ok (.iload 6, 2) := by decide +kernel
theorem dL_law_710 : decode cL_law 710 = .ok (.i2l, 1) := by decide +kernel
theorem dL_law_711 : decode cL_law 711 = .ok (.lcmp, 1) := by decide +kernel
theorem dL_law_712 : decode cL_law 712 = .ok (.ifCond .eq 5, 3) := by decide +kernel
theorem dL_law_715 : decode cL_law 715 = .ok (.iconst 0, 1) := by decide +kernel
theorem dL_law_716 : decode cL_law 716 = .ok (.ireturn, 1) := by decide +kernel
theorem dL_law_717 : decode cL_law 717 = .ok (.goto 1032, 3) := by decide +kernel
theorem dL_law_720 : decode cL_law 720 = .ok (.aload_n 1, 1) := by decide +kernel
theorem dL_law_721 : decode cL_law 721 = .ok (.aload_n 0, 1) := by decide +kernel
theorem dL_law_722 : decode cL_law 722 = .ok (.iload 4, 2) := by decide +kernel
theorem dL_law_724 : decode cL_law 724 = .ok (.iconst 1, 1) := by decide +kernel
theorem dL_law_725 : decode cL_law 725 = .ok (.iadd, 1) := by decide +kernel
theorem dL_law_726 : decode cL_law 726 = .ok (.iaload, 1) := by decide +kernel
theorem dL_law_727 : decode cL_law 727 = .ok (.aload_n 3, 1) := by decide +kernel
theorem dL_law_728 : decode cL_law 728 = .ok (.invokestatic 118, 3) := by decide +kernel
theorem dL_law_731 : decode cL_law 731 = .ok (.istore 5, 2) := by decide +kernel
theorem dL_law_733 : decode cL_law 733 = .ok (.aload_n 2, 1) := by decide +kernel
theorem dL_law_734 : decode cL_law 734 = .ok (.aload_n 0, 1) := by decide +kernel
theorem dL_law_735 : decode cL_law 735 = .ok (.iload 4, 2) := by decide +kernel
theorem dL_law_737 : decode cL_law 737 = .ok (.iconst 1, 1) := by decide +kernel
theorem dL_law_738 : decode cL_law 738 = .ok (.iadd, 1) := by decide +kernel
theorem dL_law_739 : decode cL_law 739 = .ok (.iaload, 1) := by decide +kernel
theorem dL_law_740 : decode cL_law 740 = .ok (.invokevirtual 121, 3) := by decide +kernel
theorem dL_law_743 : decode cL_law 743 = .ok (.istore 6, 2) := by decide +kernel
theorem dL_law_745 : decode cL_law 745 = .ok (.aload_n 2, 1) := by decide +kernel
theorem dL_law_746 : decode cL_law 746 = .ok (.invokevirtual 93, 3) := by decide +kernel
theorem dL_law_749 : decode cL_law 749 = .ok (.iload 5, 2) := by decide +kernel
theorem dL_law_751 : decode cL_law 751 = .ok (.if_icmp .eq 5, 3) := by decide +kernel
theorem dL_law_754 : decode cL_law 754 = .ok (.iconst 0, 1) := by decide +kernel
theorem dL_law_755 : decode cL_law 755 = .ok (.ireturn, 1) := by decide +kernel
theorem dL_law_756 : decode cL_law 756 = .ok (.iload 5, 2) := by decide +kernel
theorem dL_law_758 : decode cL_law 758 = .ok (.ifCond .ne 15, 3) := by decide +kernel
theorem dL_law_761 : decode cL_law 761 = .ok (.aload_n 3, 1) := by decide +kernel
theorem dL_law_762 : decode cL_law 762 = .ok (.iconst 0, 1) := by decide +kernel
theorem dL_law_763 : decode cL_law 763 = .ok (.laload, 1) := by decide +kernel
theorem dL_law_764 : decode cL_law 764 = .ok (.iload 6, 2) := by decide +kernel
theorem dL_law_766 : decode cL_law 766 = .ok (.i2l, 1) := by decide +kernel
theorem dL_law_767 : decode cL_law 767 = .ok (.lcmp, 1) := by decide +kernel
theorem dL_law_768 : decode cL_law 768 = .ok (.ifCond .eq 5, 3) := by decide +kernel
theorem dL_law_771 : decode cL_law 771 = .ok (.iconst 0, 1) := by decide +kernel
theorem dL_law_772 : decode cL_law 772 = .ok (.ireturn, 1) := by decide +kernel
theorem dL_law_773 : decode cL_law 773 = .ok (.goto 976, 3) := by decide +kernel
theorem dL_law_776 : decode cL_law 776 = .ok (.aload_n 1, 1) := by decide +kernel
theorem dL_law_777 : decode cL_law 777 = .ok (.aload_n 0, 1) := by decide +kernel
theorem dL_law_778 : decode cL_law 778 = .ok (.iload 4, 2) := by decide +kernel
theorem dL_law_780 : decode cL_law 780 = .ok (.iconst 1, 1) := by decide +kernel
theorem dL_law_781 : decode cL_law 781 = .ok (.iadd, 1) := by decide +kernel
theorem dL_law_782 : decode cL_law 782 = .ok (.iaload, 1) := by decide +kernel
theorem dL_law_783 : decode cL_law 783 = .ok (.aload_n 3, 1) := by decide +kernel
theorem dL_law_784 : decode cL_law 784 = .ok (.invokestatic 122, 3) := by decide +kernel
theorem dL_law_787 : decode cL_law 787 = .ok (.istore 5, 2) := by decide +kernel
theorem dL_law_789 : decode cL_law 789 = .ok (.aload_n 2, 1) := by decide +kernel
theorem dL_law_790 : decode cL_law 790 = .ok (.aload_n 0, 1) := by decide +kernel
theorem dL_law_791 : decode cL_law 791 = .ok (.iload 4, 2) := by decide +kernel
theorem dL_law_793 : decode cL_law 793 = .ok (.iconst 1, 1) := by decide +kernel
theorem dL_law_794 : decode cL_law 794 = .ok (.iadd, 1) := by decide +kernel
theorem dL_law_795 : decode cL_law 795 = .ok (.iaload, 1) := by decide +kernel
theorem dL_law_796 : decode cL_law 796 = .ok (.invokevirtual 124, 3) := by decide +kernel
theorem dL_law_799 : decode cL_law 799 = .ok (.istore 6, 2) := by decide +kernel
theorem dL_law_801 : decode cL_law 801 = .ok (.aload_n 2, 1) := by decide +kernel
theorem dL_law_802 : decode cL_law 802 = .ok (.invokevirtual 93, 3) := by decide +kernel
theorem dL_law_805 : decode cL_law 805 = .ok (.iload 5, 2) := by decide +kernel
theorem dL_law_807 : decode cL_law 807 = .ok (.if_icmp .eq 5, 3) := by decide +kernel
theorem dL_law_810 : decode cL_law 810 = .ok (.iconst 0, 1) := by decide +kernel
theorem dL_law_811 : decode cL_law 811 = .ok (.ireturn, 1) := by decide +kernel
theorem dL_law_812 : decode cL_law 812 = .ok (.iload 5, 2) := by decide +kernel
theorem dL_law_814 : decode cL_law 814 = .ok (.ifCond .ne 15, 3) := by decide +kernel
theorem dL_law_817 : decode cL_law 817 = .ok (.aload_n 3, 1) := by decide +kernel
theorem dL_law_818 : decode cL_law 818 = .ok (.iconst 0, 1) := by decide +kernel
theorem dL_law_819 : decode cL_law 819 = .ok (.laload, 1) := by decide +kernel
theorem dL_law_820 : decode cL_law 820 = .ok (.iload 6, 2) := by decide +kernel
theorem dL_law_822 : decode cL_law 822 = .ok (.i2l, 1) := by decide +kernel
theorem dL_law_823 : decode cL_law 823 = .ok (.lcmp, 1) := by decide +kernel
theorem dL_law_824 : decode cL_law 824 = .ok (.ifCond .eq 5, 3) := by decide +kernel
theorem dL_law_827 : decode cL_law 827 = .ok (.iconst 0, 1) := by decide +kernel
theorem dL_law_828 : decode cL_law 828 = .ok (.ireturn, 1) := by decide +kernel
theorem dL_law_829 : decode cL_law 829 = .ok (.goto 920, 3) := by decide +kernel
theorem dL_law_832 : decode cL_law 832 = .ok (.aload_n 1, 1) := by decide +kernel
theorem dL_law_833 : decode cL_law 833 = .ok (.aload_n 3, 1) := by decide +kernel
theorem dL_law_834 : decode cL_law 834 = .ok (.invokestatic 125, 3) := by decide +kernel
theorem dL_law_837 : decode cL_law 837 = .ok (.istore 5, 2) := by decide +kernel
theorem dL_law_839 : decode cL_law 839 = .ok (.aload_n 2, 1) := by decide +kernel
theorem dL_law_840 : decode cL_law 840 = .ok (.invokevirtual 128, 3) := by decide +kernel
theorem dL_law_843 : decode cL_law 843 = .ok (.istore 6, 2) := by decide +kernel
theorem dL_law_845 : decode cL_law 845 = .ok (.aload_n 2, 1) := by decide +kernel
theorem dL_law_846 : decode cL_law 846 = .ok (.invokevirtual 93, 3) := by decide +kernel
theorem dL_law_849 : decode cL_law 849 = .ok (.iload 5, 2) := by decide +kernel
theorem dL_law_851 : decode cL_law 851 = .ok (.if_icmp .eq 5, 3) := by decide +kernel
theorem dL_law_854 : decode cL_law 854 = .ok (.iconst 0, 1) := by decide +kernel
theorem dL_law_855 : decode cL_law 855 = .ok (.ireturn, 1) := by decide +kernel
theorem dL_law_856 : decode cL_law 856 = .ok (.iload 5, 2) := by decide +kernel
theorem dL_law_858 : decode cL_law 858 = .ok (.ifCond .ne 15, 3) := by decide +kernel
theorem dL_law_861 : decode cL_law 861 = .ok (.aload_n 3, 1) := by decide +kernel
theorem dL_law_862 : decode cL_law 862 = .ok (.iconst 0, 1) := by decide +kernel
theorem dL_law_863 : decode cL_law 863 = .ok (.laload, 1) := by decide +kernel
theorem dL_law_864 : decode cL_law 864 = .ok (.iload 6, 2) := by decide +kernel
theorem dL_law_866 : decode cL_law 866 = .ok (.i2l, 1) := by decide +kernel
theorem dL_law_867 : decode cL_law 867 = .ok (.lcmp, 1) := by decide +kernel
theorem dL_law_868 : decode cL_law 868 = .ok (.ifCond .eq 5, 3) := by decide +kernel
theorem dL_law_871 : decode cL_law 871 = .ok (.iconst 0, 1) := by decide +kernel
theorem dL_law_872 : decode cL_law 872 = .ok (.ireturn, 1) := by decide +kernel
theorem dL_law_873 : decode cL_law 873 = .ok (.goto 876, 3) := by decide +kernel
theorem dL_law_876 : decode cL_law 876 = .ok (.aload_n 1, 1) := by decide +kernel
theorem dL_law_877 : decode cL_law 877 = .ok (.invokevirtual 129, 3) := by decide +kernel
theorem dL_law_880 : decode cL_law 880 = .ok (.aload_n 2, 1) := by decide +kernel
theorem dL_law_881 : decode cL_law 881 = .ok (.invokevirtual 132, 3) := by decide +kernel
theorem dL_law_884 : decode cL_law 884 = .ok (.if_icmp .eq 865, 3) := by decide +kernel
theorem dL_law_887 : decode cL_law 887 = .ok (.iconst 0, 1) := by decide +kernel
theorem dL_law_888 : decode cL_law 888 = .ok (.ireturn, 1) := by decide +kernel
theorem dL_law_889 : decode cL_law 889 = .ok (.aload_n 1, 1) := by decide +kernel
theorem dL_law_890 : decode cL_law 890 = .ok (.aload_n 0, 1) := by decide +kernel
theorem dL_law_891 : decode cL_law 891 = .ok (.iload 4, 2) := by decide +kernel
theorem dL_law_893 : decode cL_law 893 = .ok (.iconst 1, 1) := by decide +kernel
theorem dL_law_894 : decode cL_law 894 = .ok (.iadd, 1) := by decide +kernel
theorem dL_law_895 : decode cL_law 895 = .ok (.iaload, 1) := by decide +kernel
theorem dL_law_896 : decode cL_law 896 = .ok (.aload_n 0, 1) := by decide +kernel
theorem dL_law_897 : decode cL_law 897 = .ok (.iload 4, 2) := by decide +kernel
theorem dL_law_899 : decode cL_law 899 = .ok (.iconst 2, 1) := by decide +kernel
theorem dL_law_900 : decode cL_law 900 = .ok (.iadd, 1) := by decide +kernel
theorem dL_law_901 : decode cL_law 901 = .ok (.iaload, 1) := by decide +kernel
theorem dL_law_902 : decode cL_law 902 = .ok (.aload_n 0, 1) := by decide +kernel
theorem dL_law_903 : decode cL_law 903 = .ok (.iload 4, 2) := by decide +kernel
theorem dL_law_905 : decode cL_law 905 = .ok (.iconst 3, 1) := by decide +kernel
theorem dL_law_906 : decode cL_law 906 = .ok (.iadd, 1) := by decide +kernel
theorem dL_law_907 : decode cL_law 907 = .ok (.iaload, 1) := by decide +kernel
theorem dL_law_908 : decode cL_law 908 = .ok (.aload_n 3, 1) := by decide +kernel
theorem dL_law_909 : decode cL_law 909 = .ok (.invokestatic 133, 3) := by decide +kernel
theorem dL_law_912 : decode cL_law 912 = .ok (.istore 5, 2) := by decide +kernel
theorem dL_law_914 : decode cL_law 914 = .ok (.aload_n 2, 1) := by decide +kernel
theorem dL_law_915 : decode cL_law 915 = .ok (.aload_n 0, 1) := by decide +kernel
theorem dL_law_916 : decode cL_law 916 = .ok (.iload 4, 2) := by decide +kernel
theorem dL_law_918 : decode cL_law 918 = .ok (.iconst 1, 1) := by decide +kernel
theorem dL_law_919 : decode cL_law 919 = .ok (.iadd, 1) := by decide +kernel
theorem dL_law_920 : decode cL_law 920 = .ok (.iaload, 1) := by decide +kernel
theorem dL_law_921 : decode cL_law 921 = .ok (.aload_n 0, 1) := by decide +kernel
theorem dL_law_922 : decode cL_law 922 = .ok (.iload 4, 2) := by decide +kernel
theorem dL_law_924 : decode cL_law 924 = .ok (.iconst 2, 1) := by decide +kernel
theorem dL_law_925 : decode cL_law 925 = .ok (.iadd, 1) := by decide +kernel
theorem dL_law_926 : decode cL_law 926 = .ok (.iaload, 1) := by decide +kernel
theorem dL_law_927 : decode cL_law 927 = .ok (.aload_n 0, 1) := by decide +kernel
theorem dL_law_928 : decode cL_law 928 = .ok (.iload 4, 2) := by decide +kernel
theorem dL_law_930 : decode cL_law 930 = .ok (.iconst 3, 1) := by decide +kernel
theorem dL_law_931 : decode cL_law 931 = .ok (.iadd, 1) := by decide +kernel
theorem dL_law_932 : decode cL_law 932 = .ok (.iaload, 1) := by decide +kernel
theorem dL_law_933 : decode cL_law 933 = .ok (.invokevirtual 135, 3) := by decide +kernel
theorem dL_law_936 : decode cL_law 936 = .ok (.istore 6, 2) := by decide +kernel
theorem dL_law_938 : decode cL_law 938 = .ok (.aload_n 2, 1) := by decide +kernel
theorem dL_law_939 : decode cL_law 939 = .ok (.invokevirtual 93, 3) := by decide +kernel
theorem dL_law_942 : decode cL_law 942 = .ok (.iload 5, 2) := by decide +kernel
theorem dL_law_944 : decode cL_law 944 = .ok (.if_icmp .eq 5, 3) := by decide +kernel
theorem dL_law_947 : decode cL_law 947 = .ok (.iconst 0, 1) := by decide +kernel
theorem dL_law_948 : decode cL_law 948 = .ok (.ireturn, 1) := by decide +kernel
theorem dL_law_949 : decode cL_law 949 = .ok (.iload 5, 2) := by decide +kernel
theorem dL_law_951 : decode cL_law 951 = .ok (.ifCond .ne 15, 3) := by decide +kernel
theorem dL_law_954 : decode cL_law 954 = .ok (.aload_n 3, 1) := by decide +kernel
theorem dL_law_955 : decode cL_law 955 = .ok (.iconst 0, 1) := by decide +kernel
theorem dL_law_956 : decode cL_law 956 = .ok (.laload, 1) := by decide +kernel
theorem dL_law_957 : decode cL_law 957 = .ok (.iload 6, 2) := by decide +kernel
theorem dL_law_959 : decode cL_law 959 = .ok (.i2l, 1) := by decide +kernel
theorem dL_law_960 : decode cL_law 960 = .ok (.lcmp, 1) := by decide +kernel
theorem dL_law_961 : decode cL_law 961 = .ok (.ifCond .eq 5, 3) := by decide +kernel
theorem dL_law_964 : decode cL_law 964 = .ok (.iconst 0, 1) := by decide +kernel
theorem dL_law_965 : decode cL_law 965 = .ok (.ireturn, 1) := by decide +kernel
theorem dL_law_966 : decode cL_law 966 = .ok (.goto 783, 3) := by decide +kernel
theorem dL_law_969 : decode cL_law 969 = .ok (.aload_n 1, 1) := by decide +kernel
theorem dL_law_970 : decode cL_law 970 = .ok (.invokevirtual 136, 3) := by decide +kernel
theorem dL_law_973 : decode cL_law 973 = .ok (.aload_n 2, 1) := by decide +kernel
theorem dL_law_974 : decode cL_law 974 = .ok (.invokevirtual 139, 3) := by decide +kernel
theorem dL_law_977 : decode cL_law 977 = .ok (.if_icmp .eq 772, 3) := by decide +kernel
theorem dL_law_980 : decode cL_law 980 = .ok (.iconst 0, 1) := by decide +kernel
theorem dL_law_981 : decode cL_law 981 = .ok (.ireturn, 1) := by decide +kernel
theorem dL_law_982 : decode cL_law 982 = .ok (.aload_n 1, 1) := by decide +kernel
theorem dL_law_983 : decode cL_law 983 = .ok (.invokevirtual 140, 3) := by decide +kernel
theorem dL_law_986 : decode cL_law 986 = .ok (.aload_n 2, 1) := by decide +kernel
theorem dL_law_987 : decode cL_law 987 = .ok (.invokevirtual 143, 3) := by decide +kernel
theorem dL_law_990 : decode cL_law 990 = .ok (.if_icmp .eq 759, 3) := by decide +kernel
theorem dL_law_993 : decode cL_law 993 = .ok (.iconst 0, 1) := by decide +kernel
theorem dL_law_994 : decode cL_law 994 = .ok (.ireturn, 1) := by decide +kernel
theorem dL_law_995 : decode cL_law 995 = .ok (.aload_n 1, 1) := by decide +kernel
theorem dL_law_996 : decode cL_law 996 = .ok (.aload_n 0, 1) := by decide +kernel
theorem dL_law_997 : decode cL_law 997 = .ok (.iload 4, 2) := by decide +kernel
theorem dL_law_999 : decode cL_law 999 = .ok (.iconst 1, 1) := by decide +kernel
theorem dL_law_1000 : decode cL_law 1000 = .ok (.iadd, 1) := by decide +kernel
theorem dL_law_1001 : decode cL_law 1001 = .ok (.iaload, 1) := by decide +kernel
theorem dL_law_1002 : decode cL_law 1002 = .ok (.ifCond .eq 7, 3) := by decide +kernel
theorem dL_law_1005 : decode cL_law 1005 = .ok (.iconst 1, 1) := by decide +kernel
theorem dL_law_1006 : decode cL_law 1006 = .ok (.goto 4, 3) := by decide +kernel
theorem dL_law_1009 : decode cL_law 1009 = .ok (.iconst 0, 1) := by decide +kernel
theorem dL_law_1010 : decode cL_law 1010 = .ok (.invokevirtual 144, 3) := by decide +kernel
theorem dL_law_1013 : decode cL_law 1013 = .ok (.aload_n 2, 1) := by decide +kernel
theorem dL_law_1014 : decode cL_law 1014 = .ok (.aload_n 0, 1) := by decide +kernel
theorem dL_law_1015 : decode cL_law 1015 = .ok (.iload 4, 2) := by decide +kernel
theorem dL_law_1017 : decode cL_law 1017 = .ok (.iconst 1, 1) := by decide +kernel
theorem dL_law_1018 : decode cL_law 1018 = .ok (.iadd, 1) := by decide +kernel
theorem dL_law_1019 : decode cL_law 1019 = .ok (.iaload, 1) := by decide +kernel
theorem dL_law_1020 : decode cL_law 1020 = .ok (.ifCond .eq 7, 3) := by decide +kernel
theorem dL_law_1023 : decode cL_law 1023 = .ok (.iconst 1, 1) := by decide +kernel
theorem dL_law_1024 : decode cL_law 1024 = .ok (.goto 4, 3) := by decide +kernel
theorem dL_law_1027 : decode cL_law 1027 = .ok (.iconst 0, 1) := by decide +kernel
theorem dL_law_1028 : decode cL_law 1028 = .ok (.invokevirtual 148, 3) := by decide +kernel
theorem dL_law_1031 : decode cL_law 1031 = .ok (.if_icmp .eq 718, 3) := by decide +kernel
theorem dL_law_1034 : decode cL_law 1034 = .ok (.iconst 0, 1) := by decide +kernel
theorem dL_law_1035 : decode cL_law 1035 = .ok (.ireturn, 1) := by decide +kernel
theorem dL_law_1036 : decode cL_law 1036 = .ok (.aload_n 1, 1) := by decide +kernel
theorem dL_law_1037 : decode cL_law 1037 = .ok (.aload_n 0, 1) := by decide +kernel
theorem dL_law_1038 : decode cL_law 1038 = .ok (.iload 4, 2) := by decide +kernel
theorem dL_law_1040 : decode cL_law 1040 = .ok (.iconst 1, 1) := by decide +kernel
theorem dL_law_1041 : decode cL_law 1041 = .ok (.iadd, 1) := by decide +kernel
theorem dL_law_1042 : decode cL_law 1042 = .ok (.iaload, 1) := by decide +kernel
theorem dL_law_1043 : decode cL_law 1043 = .ok (.aload_n 0, 1) := by decide +kernel
theorem dL_law_1044 : decode cL_law 1044 = .ok (.iload 4, 2) := by decide +kernel
theorem dL_law_1046 : decode cL_law 1046 = .ok (.iconst 2, 1) := by decide +kernel
theorem dL_law_1047 : decode cL_law 1047 = .ok (.iadd, 1) := by decide +kernel
theorem dL_law_1048 : decode cL_law 1048 = .ok (.iaload, 1) := by decide +kernel
theorem dL_law_1049 : decode cL_law 1049 = .ok (.aload_n 0, 1) := by decide +kernel
theorem dL_law_1050 : decode cL_law 1050 = .ok (.iload 4, 2) := by decide +kernel
theorem dL_law_1052 : decode cL_law 1052 = .ok (.iconst 3, 1) := by decide +kernel
theorem dL_law_1053 : decode cL_law 1053 = .ok (.iadd, 1) := by decide +kernel
theorem dL_law_1054 : decode cL_law 1054 = .ok (.iaload, 1) := by decide +kernel
theorem dL_law_1055 : decode cL_law 1055 = .ok (.ifCond .eq 7, 3) := by decide +kernel
theorem dL_law_1058 : decode cL_law 1058 = .ok (.iconst 1, 1) := by decide +kernel
theorem dL_law_1059 : decode cL_law 1059 = .ok (.goto 4, 3) := by decide +kernel
theorem dL_law_1062 : decode cL_law 1062 = .ok (.iconst 0, 1) := by decide +kernel
theorem dL_law_1063 : decode cL_law 1063 = .ok (.aload_n 3, 1) := by decide +kernel
theorem dL_law_1064 : decode cL_law 1064 = .ok (.invokestatic 149, 3) := by decide +kernel
theorem dL_law_1067 : decode cL_law 1067 = .ok (.istore 5, 2) := by decide +kernel
theorem dL_law_1069 : decode cL_law 1069 = .ok (.aload_n 2, 1) := by decide +kernel
theorem dL_law_1070 : decode cL_law 1070 = .ok (.aload_n 0, 1) := by decide +kernel
theorem dL_law_1071 : decode cL_law 1071 = .ok (.iload 4, 2) := by decide +kernel
theorem dL_law_1073 : decode cL_law 1073 = .ok (.iconst 1, 1) := by decide +kernel
theorem dL_law_1074 : decode cL_law 1074 = .ok (.iadd, 1) := by decide +kernel
theorem dL_law_1075 : decode cL_law 1075 = .ok (.iaload, 1) := by decide +kernel
theorem dL_law_1076 : decode cL_law 1076 = .ok (.aload_n 0, 1) := by decide +kernel
theorem dL_law_1077 : decode cL_law 1077 = .ok (.iload 4, 2) := by decide +kernel
theorem dL_law_1079 : decode cL_law 1079 = .ok (.iconst 2, 1) := by decide +kernel
theorem dL_law_1080 : decode cL_law 1080 = .ok (.iadd, 1) := by decide +kernel
theorem dL_law_1081 : decode cL_law 1081 = .ok (.iaload, 1) := by decide +kernel
theorem dL_law_1082 : decode cL_law 1082 = .ok (.aload_n 0, 1) := by decide +kernel
theorem dL_law_1083 : decode cL_law 1083 = .ok (.iload 4, 2) := by decide +kernel
theorem dL_law_1085 : decode cL_law 1085 = .ok (.iconst 3, 1) := by decide +kernel
theorem dL_law_1086 : decode cL_law 1086 = .ok (.iadd, 1) := by decide +kernel
theorem dL_law_1087 : decode cL_law 1087 = .ok (.iaload, 1) := by decide +kernel
theorem dL_law_1088 : decode cL_law 1088 = .ok (.ifCond .eq 7, 3) := by decide +kernel
theorem dL_law_1091 : decode cL_law 1091 = .ok (.iconst 1, 1) := by decide +kernel
theorem dL_law_1092 : decode cL_law 1092 = .ok (.goto 4, 3) := by decide +kernel
theorem dL_law_1095 : decode cL_law 1095 = .ok (.iconst 0, 1) := by decide +kernel
theorem dL_law_1096 : decode cL_law 1096 = .ok (.invokevirtual 152, 3) := by decide +kernel
theorem dL_law_1099 : decode cL_law 1099 = .ok (.istore 6, 2) := by decide +kernel
theorem dL_law_1101 : decode cL_law 1101 = .ok (.aload_n 2, 1) := by decide +kernel
theorem dL_law_1102 : decode cL_law 1102 = .ok (.invokevirtual 93, 3) := by decide +kernel
theorem dL_law_1105 : decode cL_law 1105 = .ok (.iload 5, 2) := by decide +kernel
theorem dL_law_1107 : decode cL_law 1107 = .ok (.if_icmp .eq 5, 3) := by decide +kernel
theorem dL_law_1110 : decode cL_law 1110 = .ok (.iconst 0, 1) := by decide +kernel
theorem dL_law_1111 : decode cL_law 1111 = .ok (.ireturn, 1) := by decide +kernel
theorem dL_law_1112 : decode cL_law 1112 = .ok (.iload 5, 2) := by decide +kernel
theorem dL_law_1114 : decode cL_law 1114 = .ok (.ifCond .ne 15, 3) := by decide +kernel
theorem dL_law_1117 : decode cL_law 1117 = .ok (.aload_n 3, 1) := by decide +kernel
theorem dL_law_1118 : decode cL_law 1118 = .ok (.iconst 0, 1) := by decide +kernel
theorem dL_law_1119 : decode cL_law 1119 = .ok (.laload, 1) := by decide +kernel
theorem dL_law_1120 : decode cL_law 1120 = .ok (.iload 6, 2) := by decide +kernel
theorem dL_law_1122 : decode cL_law 1122 = .ok (.i2l, 1) := by decide +kernel
theorem dL_law_1123 : decode cL_law 1123 = .ok (.lcmp, 1) := by decide +kernel
theorem dL_law_1124 : decode cL_law 1124 = .ok (.ifCond .eq 5, 3) := by decide +kernel
theorem dL_law_1127 : decode cL_law 1127 = .ok (.iconst 0, 1) := by decide +kernel
theorem dL_law_1128 : decode cL_law 1128 = .ok (.ireturn, 1) := by decide +kernel
theorem dL_law_1129 : decode cL_law 1129 = .ok (.goto 620, 3) := by decide +kernel
theorem dL_law_1132 : decode cL_law 1132 = .ok (.aload_n 1, 1) := by decide +kernel
theorem dL_law_1133 : decode cL_law 1133 = .ok (.aload_n 0, 1) := by decide +kernel
theorem dL_law_1134 : decode cL_law 1134 = .ok (.iload 4, 2) := by decide +kernel
theorem dL_law_1136 : decode cL_law 1136 = .ok (.iconst 1, 1) := by decide +kernel
theorem dL_law_1137 : decode cL_law 1137 = .ok (.iadd, 1) := by decide +kernel
theorem dL_law_1138 : decode cL_law 1138 = .ok (.iaload, 1) := by decide +kernel
theorem dL_law_1139 : decode cL_law 1139 = .ok (.aload_n 0, 1) := by decide +kernel
theorem dL_law_1140 : decode cL_law 1140 = .ok (.iload 4, 2) := by decide +kernel
theorem dL_law_1142 : decode cL_law 1142 = .ok (.iconst 2, 1) := by decide +kernel
theorem dL_law_1143 : decode cL_law 1143 = .ok (.iadd, 1) := by decide +kernel
theorem dL_law_1144 : decode cL_law 1144 = .ok (.iaload, 1) := by decide +kernel
theorem dL_law_1145 : decode cL_law 1145 = .ok (.aload_n 3, 1) := by decide +kernel
theorem dL_law_1146 : decode cL_law 1146 = .ok (.invokestatic 153, 3) := by decide +kernel
theorem dL_law_1149 : decode cL_law 1149 = .ok (.istore 5, 2) := by decide +kernel
theorem dL_law_1151 : decode cL_law 1151 = .ok (.aload_n 2, 1) := by decide +kernel
theorem dL_law_1152 : decode cL_law 1152 = .ok (.aload_n 0, 1) := by decide +kernel
theorem dL_law_1153 : decode cL_law 1153 = .ok (.iload 4, 2) := by decide +kernel
theorem dL_law_1155 : decode cL_law 1155 = .ok (.iconst 1, 1) := by decide +kernel
theorem dL_law_1156 : decode cL_law 1156 = .ok (.iadd, 1) := by decide +kernel
theorem dL_law_1157 : decode cL_law 1157 = .ok (.iaload, 1) := by decide +kernel
theorem dL_law_1158 : decode cL_law 1158 = .ok (.aload_n 0, 1) := by decide +kernel
theorem dL_law_1159 : decode cL_law 1159 = .ok (.iload 4, 2) := by decide +kernel
theorem dL_law_1161 : decode cL_law 1161 = .ok (.iconst 2, 1) := by decide +kernel
theorem dL_law_1162 : decode cL_law 1162 = .ok (.iadd, 1) := by decide +kernel
theorem dL_law_1163 : decode cL_law 1163 = .ok (.iaload, 1) := by decide +kernel
theorem dL_law_1164 : decode cL_law 1164 = .ok (.invokevirtual 155, 3) := by decide +kernel
theorem dL_law_1167 : decode cL_law 1167 = .ok (.istore 6, 2) := by decide +kernel
theorem dL_law_1169 : decode cL_law 1169 = .ok (.aload_n 2, 1) := by decide +kernel
theorem dL_law_1170 : decode cL_law 1170 = .ok (.invokevirtual 93, 3) := by decide +kernel
theorem dL_law_1173 : decode cL_law 1173 = .ok (.iload 5, 2) := by decide +kernel
theorem dL_law_1175 : decode cL_law 1175 = .ok (.if_icmp .eq 5, 3) := by decide +kernel
theorem dL_law_1178 : decode cL_law 1178 = .ok (.iconst 0, 1) := by decide +kernel
theorem dL_law_1179 : decode cL_law 1179 = .ok (.ireturn, 1) := by decide +kernel
theorem dL_law_1180 : decode cL_law 1180 = .ok (.iload 5, 2) := by decide +kernel
theorem dL_law_1182 : decode cL_law 1182 = .ok (.ifCond .ne 15, 3) := by decide +kernel
theorem dL_law_1185 : decode cL_law 1185 = .ok (.aload_n 3, 1) := by decide +kernel
theorem dL_law_1186 : decode cL_law 1186 = .ok (.iconst 0, 1) := by decide +kernel
theorem dL_law_1187 : decode cL_law 1187 = .ok (.laload, 1) := by decide +kernel
theorem dL_law_1188 : decode cL_law 1188 = .ok (.iload 6, 2) := by decide +kernel
theorem dL_law_1190 : decode cL_law 1190 = .ok (.i2l, 1) := by decide +kernel
theorem dL_law_1191 : decode cL_law 1191 = .ok (.lcmp, 1) := by decide +kernel
theorem dL_law_1192 : decode cL_law 1192 = .ok (.ifCond .eq 5, 3) := by decide +kernel
theorem dL_law_1195 : decode cL_law 1195 = .ok (.iconst 0, 1) := by decide +kernel
theorem dL_law_1196 : decode cL_law 1196 = .ok (.ireturn, 1) := by decide +kernel
theorem dL_law_1197 : decode cL_law 1197 = .ok (.goto 552, 3) := by decide +kernel
theorem dL_law_1200 : decode cL_law 1200 = .ok (.aload_n 1, 1) := by decide +kernel
theorem dL_law_1201 : decode cL_law 1201 = .ok (.aload_n 0, 1) := by decide +kernel
theorem dL_law_1202 : decode cL_law 1202 = .ok (.iload 4, 2) := by decide +kernel
theorem dL_law_1204 : decode cL_law 1204 = .ok (.iconst 1, 1) := by decide +kernel
theorem dL_law_1205 : decode cL_law 1205 = .ok (.iadd, 1) := by decide +kernel
theorem dL_law_1206 : decode cL_law 1206 = .ok (.iaload, 1) := by decide +kernel
theorem dL_law_1207 : decode cL_law 1207 = .ok (.aload_n 0, 1) := by decide +kernel
theorem dL_law_1208 : decode cL_law 1208 = .ok (.iload 4, 2) := by decide +kernel
theorem dL_law_1210 : decode cL_law 1210 = .ok (.iconst 2, 1) := by decide +kernel
theorem dL_law_1211 : decode cL_law 1211 = .ok (.iadd, 1) := by decide +kernel
theorem dL_law_1212 : decode cL_law 1212 = .ok (.iaload, 1) := by decide +kernel
theorem dL_law_1213 : decode cL_law 1213 = .ok (.aload_n 0, 1) := by decide +kernel
theorem dL_law_1214 : decode cL_law 1214 = .ok (.iload 4, 2) := by decide +kernel
theorem dL_law_1216 : decode cL_law 1216 = .ok (.iconst 3, 1) := by decide +kernel
theorem dL_law_1217 : decode cL_law 1217 = .ok (.iadd, 1) := by decide +kernel
theorem dL_law_1218 : decode cL_law 1218 = .ok (.iaload, 1) := by decide +kernel
theorem dL_law_1219 : decode cL_law 1219 = .ok (.aload_n 0, 1) := by decide +kernel
theorem dL_law_1220 : decode cL_law 1220 = .ok (.iload 4, 2) := by decide +kernel
theorem dL_law_1222 : decode cL_law 1222 = .ok (.iconst 4, 1) := by decide +kernel
theorem dL_law_1223 : decode cL_law 1223 = .ok (.iadd, 1) := by decide +kernel
theorem dL_law_1224 : decode cL_law 1224 = .ok (.iaload, 1) := by decide +kernel
theorem dL_law_1225 : decode cL_law 1225 = .ok (.aload_n 3, 1) := by decide +kernel
theorem dL_law_1226 : decode cL_law 1226 = .ok (.invokestatic 156, 3) := by decide +kernel
theorem dL_law_1229 : decode cL_law 1229 = .ok (.istore 5, 2) := by decide +kernel
theorem dL_law_1231 : decode cL_law 1231 = .ok (.aload_n 2, 1) := by decide +kernel
theorem dL_law_1232 : decode cL_law 1232 = .ok (.aload_n 0, 1) := by decide +kernel
theorem dL_law_1233 : decode cL_law 1233 = .ok (.iload 4, 2) := by decide +kernel
theorem dL_law_1235 : decode cL_law 1235 = .ok (.iconst 1, 1) := by decide +kernel
theorem dL_law_1236 : decode cL_law 1236 = .ok (.iadd, 1) := by decide +kernel
theorem dL_law_1237 : decode cL_law 1237 = .ok (.iaload, 1) := by decide +kernel
theorem dL_law_1238 : decode cL_law 1238 = .ok (.aload_n 0, 1) := by decide +kernel
theorem dL_law_1239 : decode cL_law 1239 = .ok (.iload 4, 2) := by decide +kernel
theorem dL_law_1241 : decode cL_law 1241 = .ok (.iconst 2, 1) := by decide +kernel
theorem dL_law_1242 : decode cL_law 1242 = .ok (.iadd, 1) := by decide +kernel
theorem dL_law_1243 : decode cL_law 1243 = .ok (.iaload, 1) := by decide +kernel
theorem dL_law_1244 : decode cL_law 1244 = .ok (.aload_n 0, 1) := by decide +kernel
theorem dL_law_1245 : decode cL_law 1245 = .ok (.iload 4, 2) := by decide +kernel
theorem dL_law_1247 : decode cL_law 1247 = .ok (.iconst 3, 1) := by decide +kernel
theorem dL_law_1248 : decode cL_law 1248 = .ok (.iadd, 1) := by decide +kernel
theorem dL_law_1249 : decode cL_law 1249 = .ok (.iaload, 1) := by decide +kernel
theorem dL_law_1250 : decode cL_law 1250 = .ok (.aload_n 0, 1) := by decide +kernel
theorem dL_law_1251 : decode cL_law 1251 = .ok (.iload 4, 2) := by decide +kernel
theorem dL_law_1253 : decode cL_law 1253 = .ok (.iconst 4, 1) := by decide +kernel
theorem dL_law_1254 : decode cL_law 1254 = .ok (.iadd, 1) := by decide +kernel
theorem dL_law_1255 : decode cL_law 1255 = .ok (.iaload, 1) := by decide +kernel
theorem dL_law_1256 : decode cL_law 1256 = .ok (.invokevirtual 158, 3) := by decide +kernel
theorem dL_law_1259 : decode cL_law 1259 = .ok (.istore 6, 2) := by decide +kernel
theorem dL_law_1261 : decode cL_law 1261 = .ok (.aload_n 2, 1) := by decide +kernel
theorem dL_law_1262 : decode cL_law 1262 = .ok (.invokevirtual 93, 3) := by decide +kernel
theorem dL_law_1265 : decode cL_law 1265 = .ok (.iload 5, 2) := by decide +kernel
theorem dL_law_1267 : decode cL_law 1267 = .ok (.if_icmp .eq 5, 3) := by decide +kernel
theorem dL_law_1270 : decode cL_law 1270 = .ok (.iconst 0, 1) := by decide +kernel
theorem dL_law_1271 : decode cL_law 1271 = .ok (.ireturn, 1) := by decide +kernel
theorem dL_law_1272 : decode cL_law 1272 = .ok (.iload 5, 2) := by decide +kernel
theorem dL_law_1274 : decode cL_law 1274 = .ok (.ifCond .ne 15, 3) := by decide +kernel
theorem dL_law_1277 : decode cL_law 1277 = .ok (.aload_n 3, 1) := by decide +kernel
theorem dL_law_1278 : decode cL_law 1278 = .ok (.iconst 0, 1) := by decide +kernel
theorem dL_law_1279 : decode cL_law 1279 = .ok (.laload, 1) := by decide +kernel
theorem dL_law_1280 : decode cL_law 1280 = .ok (.iload 6, 2) := by decide +kernel
theorem dL_law_1282 : decode cL_law 1282 = .ok (.i2l, 1) := by decide +kernel
theorem dL_law_1283 : decode cL_law 1283 = .ok (.lcmp, 1) := by decide +kernel
theorem dL_law_1284 : decode cL_law 1284 = .ok (.ifCond .eq 5, 3) := by decide +kernel
theorem dL_law_1287 : decode cL_law 1287 = .ok (.iconst 0, 1) := by decide +kernel
theorem dL_law_1288 : decode cL_law 1288 = .ok (.ireturn, 1) := by decide +kernel
theorem dL_law_1289 : decode cL_law 1289 = .ok (.goto 460, 3) := by decide +kernel
theorem dL_law_1292 : decode cL_law 1292 = .ok (.aload_n 1, 1) := by decide +kernel
theorem dL_law_1293 : decode cL_law 1293 = .ok (.aload_n 0, 1) := by decide +kernel
theorem dL_law_1294 : decode cL_law 1294 = .ok (.iload 4, 2) := by decide +kernel
theorem dL_law_1296 : decode cL_law 1296 = .ok (.iconst 1, 1) := by decide +kernel
theorem dL_law_1297 : decode cL_law 1297 = .ok (.iadd, 1) := by decide +kernel
theorem dL_law_1298 : decode cL_law 1298 = .ok (.iaload, 1) := by decide +kernel
theorem dL_law_1299 : decode cL_law 1299 = .ok (.aload_n 0, 1) := by decide +kernel
theorem dL_law_1300 : decode cL_law 1300 = .ok (.iload 4, 2) := by decide +kernel
theorem dL_law_1302 : decode cL_law 1302 = .ok (.iconst 2, 1) := by decide +kernel
theorem dL_law_1303 : decode cL_law 1303 = .ok (.iadd, 1) := by decide +kernel
theorem dL_law_1304 : decode cL_law 1304 = .ok (.iaload, 1) := by decide +kernel
theorem dL_law_1305 : decode cL_law 1305 = .ok (.aload_n 0, 1) := by decide +kernel
theorem dL_law_1306 : decode cL_law 1306 = .ok (.iload 4, 2) := by decide +kernel
theorem dL_law_1308 : decode cL_law 1308 = .ok (.iconst 3, 1) := by decide +kernel
theorem dL_law_1309 : decode cL_law 1309 = .ok (.iadd, 1) := by decide +kernel
theorem dL_law_1310 : decode cL_law 1310 = .ok (.iaload, 1) := by decide +kernel
theorem dL_law_1311 : decode cL_law 1311 = .ok (.aload_n 0, 1) := by decide +kernel
theorem dL_law_1312 : decode cL_law 1312 = .ok (.iload 4, 2) := by decide +kernel
theorem dL_law_1314 : decode cL_law 1314 = .ok (.iconst 4, 1) := by decide +kernel
theorem dL_law_1315 : decode cL_law 1315 = .ok (.iadd, 1) := by decide +kernel
theorem dL_law_1316 : decode cL_law 1316 = .ok (.iaload, 1) := by decide +kernel
theorem dL_law_1317 : decode cL_law 1317 = .ok (.aload_n 3, 1) := by decide +kernel
theorem dL_law_1318 : decode cL_law 1318 = .ok (.invokestatic 159, 3) := by decide +kernel
theorem dL_law_1321 : decode cL_law 1321 = .ok (.istore 5, 2) := by decide +kernel
theorem dL_law_1323 : decode cL_law 1323 = .ok (.aload_n 2, 1) := by decide +kernel
theorem dL_law_1324 : decode cL_law 1324 = .ok (.aload_n 0, 1) := by decide +kernel
theorem dL_law_1325 : decode cL_law 1325 = .ok (.iload 4, 2) := by decide +kernel
theorem dL_law_1327 : decode cL_law 1327 = .ok (.iconst 1, 1) := by decide +kernel
theorem dL_law_1328 : decode cL_law 1328 = .ok (.iadd, 1) := by decide +kernel
theorem dL_law_1329 : decode cL_law 1329 = .ok (.iaload, 1) := by decide +kernel
theorem dL_law_1330 : decode cL_law 1330 = .ok (.aload_n 0, 1) := by decide +kernel
theorem dL_law_1331 : decode cL_law 1331 = .ok (.iload 4, 2) := by decide +kernel
theorem dL_law_1333 : decode cL_law 1333 = .ok (.iconst 2, 1) := by decide +kernel
theorem dL_law_1334 : decode cL_law 1334 = .ok (.iadd, 1) := by decide +kernel
theorem dL_law_1335 : decode cL_law 1335 = .ok (.iaload, 1) := by decide +kernel
theorem dL_law_1336 : decode cL_law 1336 = .ok (.aload_n 0, 1) := by decide +kernel
theorem dL_law_1337 : decode cL_law 1337 = .ok (.iload 4, 2) := by decide +kernel
theorem dL_law_1339 : decode cL_law 1339 = .ok (.iconst 3, 1) := by decide +kernel
theorem dL_law_1340 : decode cL_law 1340 = .ok (.iadd, 1) := by decide +kernel
theorem dL_law_1341 : decode cL_law 1341 = .ok (.iaload, 1) := by decide +kernel
theorem dL_law_1342 : decode cL_law 1342 = .ok (.aload_n 0, 1) := by decide +kernel
theorem dL_law_1343 : decode cL_law 1343 = .ok (.iload 4, 2) := by decide +kernel
theorem dL_law_1345 : decode cL_law 1345 = .ok (.iconst 4, 1) := by decide +kernel
theorem dL_law_1346 : decode cL_law 1346 = .ok (.iadd, 1) := by decide +kernel
theorem dL_law_1347 : decode cL_law 1347 = .ok (.iaload, 1) := by decide +kernel
theorem dL_law_1348 : decode cL_law 1348 = .ok (.invokevirtual 161, 3) := by decide +kernel
theorem dL_law_1351 : decode cL_law 1351 = .ok (.istore 6, 2) := by decide +kernel
theorem dL_law_1353 : decode cL_law 1353 = .ok (.aload_n 2, 1) := by decide +kernel
theorem dL_law_1354 : decode cL_law 1354 = .ok (.invokevirtual 93, 3) := by decide +kernel
theorem dL_law_1357 : decode cL_law 1357 = .ok (.iload 5, 2) := by decide +kernel
theorem dL_law_1359 : decode cL_law 1359 = .ok (.if_icmp .eq 5, 3) := by decide +kernel
theorem dL_law_1362 : decode cL_law 1362 = .ok (.iconst 0, 1) := by decide +kernel
theorem dL_law_1363 : decode cL_law 1363 = .ok (.ireturn, 1) := by decide +kernel
theorem dL_law_1364 : decode cL_law 1364 = .ok (.iload 5, 2) := by decide +kernel
theorem dL_law_1366 : decode cL_law 1366 = .ok (.ifCond .ne 15, 3) := by decide +kernel
theorem dL_law_1369 : decode cL_law 1369 = .ok (.aload_n 3, 1) := by decide +kernel
theorem dL_law_1370 : decode cL_law 1370 = .ok (.iconst 0, 1) := by decide +kernel
theorem dL_law_1371 : decode cL_law 1371 = .ok (.laload, 1) := by decide +kernel
theorem dL_law_1372 : decode cL_law 1372 = .ok (.iload 6, 2) := by decide +kernel
theorem dL_law_1374 : decode cL_law 1374 = .ok (.i2l, 1) := by decide +kernel
theorem dL_law_1375 : decode cL_law 1375 = .ok (.lcmp, 1) := by decide +kernel
theorem dL_law_1376 : decode cL_law 1376 = .ok (.ifCond .eq 5, 3) := by decide +kernel
theorem dL_law_1379 : decode cL_law 1379 = .ok (.iconst 0, 1) := by decide +kernel
theorem dL_law_1380 : decode cL_law 1380 = .ok (.ireturn, 1) := by decide +kernel
theorem dL_law_1381 : decode cL_law 1381 = .ok (.goto 368, 3) := by decide +kernel
theorem dL_law_1384 : decode cL_law 1384 = .ok (.aload_n 1, 1) := by decide +kernel
theorem dL_law_1385 : decode cL_law 1385 = .ok (.invokevirtual 162, 3) := by decide +kernel
theorem dL_law_1388 : decode cL_law 1388 = .ok (.aload_n 2, 1) := by decide +kernel
theorem dL_law_1389 : decode cL_law 1389 = .ok (.invokevirtual 165, 3) := by decide +kernel
theorem dL_law_1392 : decode cL_law 1392 = .ok (.if_icmp .eq 357, 3) := by decide +kernel
theorem dL_law_1395 : decode cL_law 1395 = .ok (.iconst 0, 1) := by decide +kernel
theorem dL_law_1396 : decode cL_law 1396 = .ok (.ireturn, 1) := by decide +kernel
theorem dL_law_1397 : decode cL_law 1397 = .ok (.aload_n 1, 1) := by decide +kernel
theorem dL_law_1398 : decode cL_law 1398 = .ok (.aload_n 0, 1) := by decide +kernel
theorem dL_law_1399 : decode cL_law 1399 = .ok (.iload 4, 2) := by decide +kernel
theorem dL_law_1401 : decode cL_law 1401 = .ok (.iconst 1, 1) := by decide +kernel
theorem dL_law_1402 : decode cL_law 1402 = .ok (.iadd, 1) := by decide +kernel
theorem dL_law_1403 : decode cL_law 1403 = .ok (.iaload, 1) := by decide +kernel
theorem dL_law_1404 : decode cL_law 1404 = .ok (.aload_n 0, 1) := by decide +kernel
theorem dL_law_1405 : decode cL_law 1405 = .ok (.iload 4, 2) := by decide +kernel
theorem dL_law_1407 : decode cL_law 1407 = .ok (.iconst 2, 1) := by decide +kernel
theorem dL_law_1408 : decode cL_law 1408 = .ok (.iadd, 1) := by decide +kernel
theorem dL_law_1409 : decode cL_law 1409 = .ok (.iaload, 1) := by decide +kernel
theorem dL_law_1410 : decode cL_law 1410 = .ok (.aload_n 3, 1) := by decide +kernel
theorem dL_law_1411 : decode cL_law 1411 = .ok (.invokestatic 166, 3) := by decide +kernel
theorem dL_law_1414 : decode cL_law 1414 = .ok (.istore 5, 2) := by decide +kernel
theorem dL_law_1416 : decode cL_law 1416 = .ok (.aload_n 2, 1) := by decide +kernel
theorem dL_law_1417 : decode cL_law 1417 = .ok (.aload_n 0, 1) := by decide +kernel
theorem dL_law_1418 : decode cL_law 1418 = .ok (.iload 4, 2) := by decide +kernel
theorem dL_law_1420 : decode cL_law 1420 = .ok (.iconst 1, 1) := by decide +kernel
theorem dL_law_1421 : decode cL_law 1421 = .ok (.iadd, 1) := by decide +kernel
theorem dL_law_1422 : decode cL_law 1422 = .ok (.iaload, 1) := by decide +kernel
theorem dL_law_1423 : decode cL_law 1423 = .ok (.aload_n 0, 1) := by decide +kernel
theorem dL_law_1424 : decode cL_law 1424 = .ok (.iload 4, 2) := by decide +kernel
theorem dL_law_1426 : decode cL_law 1426 = .ok (.iconst 2, 1) := by decide +kernel
theorem dL_law_1427 : decode cL_law 1427 = .ok (.iadd, 1) := by decide +kernel
theorem dL_law_1428 : decode cL_law 1428 = .ok (.iaload, 1) := by decide +kernel
theorem dL_law_1429 : decode cL_law 1429 = .ok (.invokevirtual 168, 3) := by decide +kernel
theorem dL_law_1432 : decode cL_law 1432 = .ok (.istore 6, 2) := by decide +kernel
theorem dL_law_1434 : decode cL_law 1434 = .ok (.aload_n 2, 1) := by decide +kernel
theorem dL_law_1435 : decode cL_law 1435 = .ok (.invokevirtual 93, 3) := by decide +kernel
theorem dL_law_1438 : decode cL_law 1438 = .ok (.iload 5, 2) := by decide +kernel
theorem dL_law_1440 : decode cL_law 1440 = .ok (.if_icmp .eq 5, 3) := by decide +kernel
theorem dL_law_1443 : decode cL_law 1443 = .ok (.iconst 0, 1) := by decide +kernel
theorem dL_law_1444 : decode cL_law 1444 = .ok (.ireturn, 1) := by decide +kernel
theorem dL_law_1445 : decode cL_law 1445 = .ok (.iload 5, 2) := by decide +kernel
theorem dL_law_1447 : decode cL_law 1447 = .ok (.ifCond .ne 15, 3) := by decide +kernel
theorem dL_law_1450 : decode cL_law 1450 = .ok (.aload_n 3, 1) := by decide +kernel
theorem dL_law_1451 : decode cL_law 1451 = .ok (.iconst 0, 1) := by decide +kernel
theorem dL_law_1452 : decode cL_law 1452 = .ok (.laload, 1) := by decide +kernel
theorem dL_law_1453 : decode cL_law 1453 = .ok (.iload 6, 2) := by decide +kernel
theorem dL_law_1455 : decode cL_law 1455 = .ok (.i2l, 1) := by decide +kernel
theorem dL_law_1456 : decode cL_law 1456 = .ok (.lcmp, 1) := by decide +kernel
theorem dL_law_1457 : decode cL_law 1457 = .ok (.ifCond .eq 5, 3) := by decide +kernel
theorem dL_law_1460 : decode cL_law 1460 = .ok (.iconst 0, 1) := by decide +kernel
theorem dL_law_1461 : decode cL_law 1461 = .ok (.ireturn, 1) := by decide +kernel
theorem dL_law_1462 : decode cL_law 1462 = .ok (.goto 287, 3) := by decide +kernel
theorem dL_law_1465 : decode cL_law 1465 = .ok (.aload_n 1, 1) := by decide +kernel
theorem dL_law_1466 : decode cL_law 1466 = .ok (.aload_n 0, 1) := by decide +kernel
theorem dL_law_1467 : decode cL_law 1467 = .ok (.iload 4, 2) := by decide +kernel
theorem dL_law_1469 : decode cL_law 1469 = .ok (.iconst 1, 1) := by decide +kernel
theorem dL_law_1470 : decode cL_law 1470 = .ok (.iadd, 1) := by decide +kernel
theorem dL_law_1471 : decode cL_law 1471 = .ok (.iaload, 1) := by decide +kernel
theorem dL_law_1472 : decode cL_law 1472 = .ok (.aload_n 0, 1) := by decide +kernel
theorem dL_law_1473 : decode cL_law 1473 = .ok (.iload 4, 2) := by decide +kernel
theorem dL_law_1475 : decode cL_law 1475 = .ok (.iconst 2, 1) := by decide +kernel
theorem dL_law_1476 : decode cL_law 1476 = .ok (.iadd, 1) := by decide +kernel
theorem dL_law_1477 : decode cL_law 1477 = .ok (.iaload, 1) := by decide +kernel
theorem dL_law_1478 : decode cL_law 1478 = .ok (.aload_n 3, 1) := by decide +kernel
theorem dL_law_1479 : decode cL_law 1479 = .ok (.invokestatic 169, 3) := by decide +kernel
theorem dL_law_1482 : decode cL_law 1482 = .ok (.istore 5, 2) := by decide +kernel
theorem dL_law_1484 : decode cL_law 1484 = .ok (.aload_n 2, 1) := by decide +kernel
theorem dL_law_1485 : decode cL_law 1485 = .ok (.aload_n 0, 1) := by decide +kernel
theorem dL_law_1486 : decode cL_law 1486 = .ok (.iload 4, 2) := by decide +kernel
theorem dL_law_1488 : decode cL_law 1488 = .ok (.iconst 1, 1) := by decide +kernel
theorem dL_law_1489 : decode cL_law 1489 = .ok (.iadd, 1) := by decide +kernel
theorem dL_law_1490 : decode cL_law 1490 = .ok (.iaload, 1) := by decide +kernel
theorem dL_law_1491 : decode cL_law 1491 = .ok (.aload_n 0, 1) := by decide +kernel
theorem dL_law_1492 : decode cL_law 1492 = .ok (.iload 4, 2) := by decide +kernel
theorem dL_law_1494 : decode cL_law 1494 = .ok (.iconst 2, 1) := by decide +kernel
theorem dL_law_1495 : decode cL_law 1495 = .ok (.iadd, 1) := by decide +kernel
theorem dL_law_1496 : decode cL_law 1496 = .ok (.iaload, 1) := by decide +kernel
theorem dL_law_1497 : decode cL_law 1497 = .ok (.invokevirtual 171, 3) := by decide +kernel
theorem dL_law_1500 : decode cL_law 1500 = .ok (.istore 6, 2) := by decide +kernel
theorem dL_law_1502 : decode cL_law 1502 = .ok (.aload_n 2, 1) := by decide +kernel
theorem dL_law_1503 : decode cL_law 1503 = .ok (.invokevirtual 93, 3) := by decide +kernel
theorem dL_law_1506 : decode cL_law 1506 = .ok (.iload 5, 2) := by decide +kernel
theorem dL_law_1508 : decode cL_law 1508 = .ok (.if_icmp .eq 5, 3) := by decide +kernel
theorem dL_law_1511 : decode cL_law 1511 = .ok (.iconst 0, 1) := by decide +kernel
theorem dL_law_1512 : decode cL_law 1512 = .ok (.ireturn, 1) := by decide +kernel
theorem dL_law_1513 : decode cL_law 1513 = .ok (.iload 5, 2) := by decide +kernel
theorem dL_law_1515 : decode cL_law 1515 = .ok (.ifCond .ne 15, 3) := by decide +kernel
theorem dL_law_1518 : decode cL_law 1518 = .ok (.aload_n 3, 1) := by decide +kernel
theorem dL_law_1519 : decode cL_law 1519 = .ok (.iconst 0, 1) := by decide +kernel
theorem dL_law_1520 : decode cL_law 1520 = .ok (.laload, 1) := by decide +kernel
theorem dL_law_1521 : decode cL_law 1521 = .ok (.iload 6, 2) := by decide +kernel
theorem dL_law_1523 : decode cL_law 1523 = .ok (.i2l, 1) := by decide +kernel
theorem dL_law_1524 : decode cL_law 1524 = .ok (.lcmp, 1) := by decide +kernel
theorem dL_law_1525 : decode cL_law 1525 = .ok (.ifCond .eq 5, 3) := by decide +kernel
theorem dL_law_1528 : decode cL_law 1528 = .ok (.iconst 0, 1) := by decide +kernel
theorem dL_law_1529 : decode cL_law 1529 = .ok (.ireturn, 1) := by decide +kernel
theorem dL_law_1530 : decode cL_law 1530 = .ok (.goto 219, 3) := by decide +kernel
theorem dL_law_1533 : decode cL_law 1533 = .ok (.aload_n 1, 1) := by decide +kernel
theorem dL_law_1534 : decode cL_law 1534 = .ok (.aload_n 0, 1) := by decide +kernel
theorem dL_law_1535 : decode cL_law 1535 = .ok (.iload 4, 2) := by decide +kernel
theorem dL_law_1537 : decode cL_law 1537 = .ok (.iconst 1, 1) := by decide +kernel
theorem dL_law_1538 : decode cL_law 1538 = .ok (.iadd, 1) := by decide +kernel
theorem dL_law_1539 : decode cL_law 1539 = .ok (.iaload, 1) := by decide +kernel
theorem dL_law_1540 : decode cL_law 1540 = .ok (.aload_n 0, 1) := by decide +kernel
theorem dL_law_1541 : decode cL_law 1541 = .ok (.iload 4, 2) := by decide +kernel
theorem dL_law_1543 : decode cL_law 1543 = .ok (.iconst 2, 1) := by decide +kernel
theorem dL_law_1544 : decode cL_law 1544 = .ok (.iadd, 1) := by decide +kernel
theorem dL_law_1545 : decode cL_law 1545 = .ok (.iaload, 1) := by decide +kernel
theorem dL_law_1546 : decode cL_law 1546 = .ok (.aload_n 0, 1) := by decide +kernel
theorem dL_law_1547 : decode cL_law 1547 = .ok (.iload 4, 2) := by decide +kernel
theorem dL_law_1549 : decode cL_law 1549 = .ok (.iconst 3, 1) := by decide +kernel
theorem dL_law_1550 : decode cL_law 1550 = .ok (.iadd, 1) := by decide +kernel
theorem dL_law_1551 : decode cL_law 1551 = .ok (.iaload, 1) := by decide +kernel
theorem dL_law_1552 : decode cL_law 1552 = .ok (.aload_n 3, 1) := by decide +kernel
theorem dL_law_1553 : decode cL_law 1553 = .ok (.invokestatic 172, 3) := by decide +kernel
theorem dL_law_1556 : decode cL_law 1556 = .ok (.istore 5, 2) := by decide +kernel
theorem dL_law_1558 : decode cL_law 1558 = .ok (.aload_n 2, 1) := by decide +kernel
theorem dL_law_1559 : decode cL_law 1559 = .ok (.aload_n 0, 1) := by decide +kernel
theorem dL_law_1560 : decode cL_law 1560 = .ok (.iload 4, 2) := by decide +kernel
theorem dL_law_1562 : decode cL_law 1562 = .ok (.iconst 1, 1) := by decide +kernel
theorem dL_law_1563 : decode cL_law 1563 = .ok (.iadd, 1) := by decide +kernel
theorem dL_law_1564 : decode cL_law 1564 = .ok (.iaload, 1) := by decide +kernel
theorem dL_law_1565 : decode cL_law 1565 = .ok (.aload_n 0, 1) := by decide +kernel
theorem dL_law_1566 : decode cL_law 1566 = .ok (.iload 4, 2) := by decide +kernel
theorem dL_law_1568 : decode cL_law 1568 = .ok (.iconst 2, 1) := by decide +kernel
theorem dL_law_1569 : decode cL_law 1569 = .ok (.iadd, 1) := by decide +kernel
theorem dL_law_1570 : decode cL_law 1570 = .ok (.iaload, 1) := by decide +kernel
theorem dL_law_1571 : decode cL_law 1571 = .ok (.aload_n 0, 1) := by decide +kernel
theorem dL_law_1572 : decode cL_law 1572 = .ok (.iload 4, 2) := by decide +kernel
theorem dL_law_1574 : decode cL_law 1574 = .ok (.iconst 3, 1) := by decide +kernel
theorem dL_law_1575 : decode cL_law 1575 = .ok (.iadd, 1) := by decide +kernel
theorem dL_law_1576 : decode cL_law 1576 = .ok (.iaload, 1) := by decide +kernel
theorem dL_law_1577 : decode cL_law 1577 = .ok (.invokevirtual 174, 3) := by decide +kernel
theorem dL_law_1580 : decode cL_law 1580 = .ok (.istore 6, 2) := by decide +kernel
theorem dL_law_1582 : decode cL_law 1582 = .ok (.aload_n 2, 1) := by decide +kernel
theorem dL_law_1583 : decode cL_law 1583 = .ok (.invokevirtual 93, 3) := by decide +kernel
theorem dL_law_1586 : decode cL_law 1586 = .ok (.iload 5, 2) := by decide +kernel
theorem dL_law_1588 : decode cL_law 1588 = .ok (.if_icmp .eq 5, 3) := by decide +kernel
theorem dL_law_1591 : decode cL_law 1591 = .ok (.iconst 0, 1) := by decide +kernel
theorem dL_law_1592 : decode cL_law 1592 = .ok (.ireturn, 1) := by decide +kernel
theorem dL_law_1593 : decode cL_law 1593 = .ok (.iload 5, 2) := by decide +kernel
theorem dL_law_1595 : decode cL_law 1595 = .ok (.ifCond .ne 15, 3) := by decide +kernel
theorem dL_law_1598 : decode cL_law 1598 = .ok (.aload_n 3, 1) := by decide +kernel
theorem dL_law_1599 : decode cL_law 1599 = .ok (.iconst 0, 1) := by decide +kernel
theorem dL_law_1600 : decode cL_law 1600 = .ok (.laload, 1) := by decide +kernel
theorem dL_law_1601 : decode cL_law 1601 = .ok (.iload 6, 2) := by decide +kernel
theorem dL_law_1603 : decode cL_law 1603 = .ok (.i2l, 1) := by decide +kernel
theorem dL_law_1604 : decode cL_law 1604 = .ok (.lcmp, 1) := by decide +kernel
theorem dL_law_1605 : decode cL_law 1605 = .ok (.ifCond .eq 5, 3) := by decide +kernel
theorem dL_law_1608 : decode cL_law 1608 = .ok (.iconst 0, 1) := by decide +kernel
theorem dL_law_1609 : decode cL_law 1609 = .ok (.ireturn, 1) := by decide +kernel
theorem dL_law_1610 : decode cL_law 1610 = .ok (.goto 139, 3) := by decide +kernel
theorem dL_law_1613 : decode cL_law 1613 = .ok (.aload_n 1, 1) := by decide +kernel
theorem dL_law_1614 : decode cL_law 1614 = .ok (.aload_n 0, 1) := by decide +kernel
theorem dL_law_1615 : decode cL_law 1615 = .ok (.iload 4, 2) := by decide +kernel
theorem dL_law_1617 : decode cL_law 1617 = .ok (.iconst 1, 1) := by decide +kernel
theorem dL_law_1618 : decode cL_law 1618 = .ok (.iadd, 1) := by decide +kernel
theorem dL_law_1619 : decode cL_law 1619 = .ok (.iaload, 1) := by decide +kernel
theorem dL_law_1620 : decode cL_law 1620 = .ok (.aload_n 3, 1) := by decide +kernel
theorem dL_law_1621 : decode cL_law 1621 = .ok (.invokestatic 175, 3) := by decide +kernel
theorem dL_law_1624 : decode cL_law 1624 = .ok (.istore 5, 2) := by decide +kernel
theorem dL_law_1626 : decode cL_law 1626 = .ok (.aload_n 2, 1) := by decide +kernel
theorem dL_law_1627 : decode cL_law 1627 = .ok (.aload_n 0, 1) := by decide +kernel
theorem dL_law_1628 : decode cL_law 1628 = .ok (.iload 4, 2) := by decide +kernel
theorem dL_law_1630 : decode cL_law 1630 = .ok (.iconst 1, 1) := by decide +kernel
theorem dL_law_1631 : decode cL_law 1631 = .ok (.iadd, 1) := by decide +kernel
theorem dL_law_1632 : decode cL_law 1632 = .ok (.iaload, 1) := by decide +kernel
theorem dL_law_1633 : decode cL_law 1633 = .ok (.invokevirtual 177, 3) := by decide +kernel
theorem dL_law_1636 : decode cL_law 1636 = .ok (.istore 6, 2) := by decide +kernel
theorem dL_law_1638 : decode cL_law 1638 = .ok (.aload_n 2, 1) := by decide +kernel
theorem dL_law_1639 : decode cL_law 1639 = .ok (.invokevirtual 93, 3) := by decide +kernel
theorem dL_law_1642 : decode cL_law 1642 = .ok (.iload 5, 2) := by decide +kernel
theorem dL_law_1644 : decode cL_law 1644 = .ok (.if_icmp .eq 5, 3) := by decide +kernel
theorem dL_law_1647 : decode cL_law 1647 = .ok (.iconst 0, 1) := by decide +kernel
theorem dL_law_1648 : decode cL_law 1648 = .ok (.ireturn, 1) := by decide +kernel
theorem dL_law_1649 : decode cL_law 1649 = .ok (.iload 5, 2) := by decide +kernel
theorem dL_law_1651 : decode cL_law 1651 = .ok (.ifCond .ne 15, 3) := by decide +kernel
theorem dL_law_1654 : decode cL_law 1654 = .ok (.aload_n 3, 1) := by decide +kernel
theorem dL_law_1655 : decode cL_law 1655 = .ok (.iconst 0, 1) := by decide +kernel
theorem dL_law_1656 : decode cL_law 1656 = .ok (.laload, 1) := by decide +kernel
theorem dL_law_1657 : decode cL_law 1657 = .ok (.iload 6, 2) := by decide +kernel
theorem dL_law_1659 : decode cL_law 1659 = .ok (.i2l, 1) := by decide +kernel
theorem dL_law_1660 : decode cL_law 1660 = .ok (.lcmp, 1) := by decide +kernel
theorem dL_law_1661 : decode cL_law 1661 = .ok (.ifCond .eq 5, 3) := by decide +kernel
theorem dL_law_1664 : decode cL_law 1664 = .ok (.iconst 0, 1) := by decide +kernel
theorem dL_law_1665 : decode cL_law 1665 = .ok (.ireturn, 1) := by decide +kernel
theorem dL_law_1666 : decode cL_law 1666 = .ok (.goto 83, 3) := by decide +kernel
theorem dL_law_1669 : decode cL_law 1669 = .ok (.aload_n 1, 1) := by decide +kernel
theorem dL_law_1670 : decode cL_law 1670 = .ok (.aload_n 0, 1) := by decide +kernel
theorem dL_law_1671 : decode cL_law 1671 = .ok (.iload 4, 2) := by decide +kernel
theorem dL_law_1673 : decode cL_law 1673 = .ok (.iconst 1, 1) := by decide +kernel
theorem dL_law_1674 : decode cL_law 1674 = .ok (.iadd, 1) := by decide +kernel
theorem dL_law_1675 : decode cL_law 1675 = .ok (.iaload, 1) := by decide +kernel
theorem dL_law_1676 : decode cL_law 1676 = .ok (.aload_n 0, 1) := by decide +kernel
theorem dL_law_1677 : decode cL_law 1677 = .ok (.iload 4, 2) := by decide +kernel
theorem dL_law_1679 : decode cL_law 1679 = .ok (.iconst 2, 1) := by decide +kernel
theorem dL_law_1680 : decode cL_law 1680 = .ok (.iadd, 1) := by decide +kernel
theorem dL_law_1681 : decode cL_law 1681 = .ok (.iaload, 1) := by decide +kernel
theorem dL_law_1682 : decode cL_law 1682 = .ok (.aload_n 0, 1) := by decide +kernel
theorem dL_law_1683 : decode cL_law 1683 = .ok (.iload 4, 2) := by decide +kernel
theorem dL_law_1685 : decode cL_law 1685 = .ok (.iconst 3, 1) := by decide +kernel
theorem dL_law_1686 : decode cL_law 1686 = .ok (.iadd, 1) := by decide +kernel
theorem dL_law_1687 : decode cL_law 1687 = .ok (.iaload, 1) := by decide +kernel
theorem dL_law_1688 : decode cL_law 1688 = .ok (.aload_n 3, 1) := by decide +kernel
theorem dL_law_1689 : decode cL_law 1689 = .ok (.invokestatic 178, 3) := by decide +kernel
theorem dL_law_1692 : decode cL_law 1692 = .ok (.istore 5, 2) := by decide +kernel
theorem dL_law_1694 : decode cL_law 1694 = .ok (.aload_n 2, 1) := by decide +kernel
theorem dL_law_1695 : decode cL_law 1695 = .ok (.aload_n 0, 1) := by decide +kernel
theorem dL_law_1696 : decode cL_law 1696 = .ok (.iload 4, 2) := by decide +kernel
theorem dL_law_1698 : decode cL_law 1698 = .ok (.iconst 1, 1) := by decide +kernel
theorem dL_law_1699 : decode cL_law 1699 = .ok (.iadd, 1) := by decide +kernel
theorem dL_law_1700 : decode cL_law 1700 = .ok (.iaload, 1) := by decide +kernel
theorem dL_law_1701 : decode cL_law 1701 = .ok (.aload_n 0, 1) := by decide +kernel
theorem dL_law_1702 : decode cL_law 1702 = .ok (.iload 4, 2) := by decide +kernel
theorem dL_law_1704 : decode cL_law 1704 = .ok (.iconst 2, 1) := by decide +kernel
theorem dL_law_1705 : decode cL_law 1705 = .ok (.iadd, 1) := by decide +kernel
theorem dL_law_1706 : decode cL_law 1706 = .ok (.iaload, 1) := by decide +kernel
theorem dL_law_1707 : decode cL_law 1707 = .ok (.aload_n 0, 1) := by decide +kernel
theorem dL_law_1708 : decode cL_law 1708 = .ok (.iload 4, 2) := by decide +kernel
theorem dL_law_1710 : decode cL_law 1710 = .ok (.iconst 3, 1) := by decide +kernel
theorem dL_law_1711 : decode cL_law 1711 = .ok (.iadd, 1) := by decide +kernel
theorem dL_law_1712 : decode cL_law 1712 = .ok (.iaload, 1) := by decide +kernel
theorem dL_law_1713 : decode cL_law 1713 = .ok (.invokevirtual 180, 3) := by decide +kernel
theorem dL_law_1716 : decode cL_law 1716 = .ok (.istore 6, 2) := by decide +kernel
theorem dL_law_1718 : decode cL_law 1718 = .ok (.aload_n 2, 1) := by decide +kernel
theorem dL_law_1719 : decode cL_law 1719 = .ok (.invokevirtual 93, 3) := by decide +kernel
theorem dL_law_1722 : decode cL_law 1722 = .ok (.iload 5, 2) := by decide +kernel
theorem dL_law_1724 : decode cL_law 1724 = .ok (.if_icmp .eq 5, 3) := by decide +kernel
theorem dL_law_1727 : decode cL_law 1727 = .ok (.iconst 0, 1) := by decide +kernel
theorem dL_law_1728 : decode cL_law 1728 = .ok (.ireturn, 1) := by decide +kernel
theorem dL_law_1729 : decode cL_law 1729 = .ok (.iload 5, 2) := by decide +kernel
theorem dL_law_1731 : decode cL_law 1731 = .ok (.ifCond .ne 15, 3) := by decide +kernel
theorem dL_law_1734 : decode cL_law 1734 = .ok (.aload_n 3, 1) := by decide +kernel
theorem dL_law_1735 : decode cL_law 1735 = .ok (.iconst 0, 1) := by decide +kernel
theorem dL_law_1736 : decode cL_law 1736 = .ok (.laload, 1) := by decide +kernel
theorem dL_law_1737 : decode cL_law 1737 = .ok (.iload 6, 2) := by decide +kernel
theorem dL_law_1739 : decode cL_law 1739 = .ok (.i2l, 1) := by decide +kernel
theorem dL_law_1740 : decode cL_law 1740 = .ok (.lcmp, 1) := by decide +kernel
theorem dL_law_1741 : decode cL_law 1741 = .ok (.ifCond .eq 5, 3) := by decide +kernel
theorem dL_law_1744 : decode cL_law 1744 = .ok (.iconst 0, 1) := by decide +kernel
theorem dL_law_1745 : decode cL_law 1745 = .ok (.ireturn, 1) := by decide +kernel
theorem dL_law_1746 : decode cL_law 1746 = .ok (.goto 3, 3) := by decide +kernel
theorem dL_law_1749 : decode cL_law 1749 = .ok (.iinc 4 6, 3) := by decide +kernel
theorem dL_law_1752 : decode cL_law 1752 = .ok (.goto (-1729), 3) := by decide +kernel
theorem dL_law_1755 : decode cL_law 1755 = .ok (.iconst 1, 1) := by decide +kernel
theorem dL_law_1756 : decode cL_law 1756 = .ok (.ireturn, 1) := by decide +kernel
theorem dJ9_floorDiv_7cf53_0 : decode cJ9_floorDiv_7cf53 0 = .ok (.iload_n 0, 1) := by decide +kernel
theorem dJ9_floorDiv_7cf53_1 : decode cJ9_floorDiv_7cf53 1 = .ok (.iload_n 1, 1) := by decide +kernel
theorem dJ9_floorDiv_7cf53_2 : decode cJ9_floorDiv_7cf53 2 = .ok (.idiv, 1) := by decide +kernel
theorem dJ9_floorDiv_7cf53_3 : decode cJ9_floorDiv_7cf53 3 = .ok (.istore_n 2, 1) := by decide +kernel
theorem dJ9_floorDiv_7cf53_4 : decode cJ9_floorDiv_7cf53 4 = .ok (.iload_n 0, 1) := by decide +kernel
theorem dJ9_floorDiv_7cf53_5 : decode cJ9_floorDiv_7cf53 5 = .ok (.iload_n 1, 1) := by decide +kernel
theorem dJ9_floorDiv_7cf53_6 : decode cJ9_floorDiv_7cf53 6 = .ok (.ixor, 1) := by decide +kernel
theorem dJ9_floorDiv_7cf53_7 : decode cJ9_floorDiv_7cf53 7 = .ok (.ifCond .ge 14, 3) := by decide +kernel
theorem dJ9_floorDiv_7cf53_10 : decode cJ9_floorDiv_7cf53 10 = .ok (.iload_n 2, 1) := by decide +kernel
theorem dJ9_floorDiv_7cf53_11 : decode cJ9_floorDiv_7cf53 11 = .ok (.iload_n 1, 1) := by decide +kernel
theorem dJ9_floorDiv_7cf53_12 : decode cJ9_floorDiv_7cf53 12 = .ok (.imul, 1) := by decide +kernel
theorem dJ9_floorDiv_7cf53_13 : decode cJ9_floorDiv_7cf53 13 = .ok (.iload_n 0, 1) := by decide +kernel
theorem dJ9_floorDiv_7cf53_14 : decode cJ9_floorDiv_7cf53 14 = .ok (.if_icmp .eq 7, 3) := by decide +kernel
theorem dJ9_floorDiv_7cf53_17 : decode cJ9_floorDiv_7cf53 17 = .ok (.iload_n 2, 1) := by decide +kernel
theorem dJ9_floorDiv_7cf53_18 : decode cJ9_floorDiv_7cf53 18 = .ok (.iconst 1, 1) := by decide +kernel
theorem dJ9_floorDiv_7cf53_19 : decode cJ9_floorDiv_7cf53 19 = .ok (.isub, 1) := by decide +kernel
theorem dJ9_floorDiv_7cf53_20 : decode cJ9_floorDiv_7cf53 20 = .ok (.ireturn, 1) := by decide +kernel
theorem dJ9_floorDiv_7cf53_21 : decode cJ9_floorDiv_7cf53 21 = .ok (.iload_n 2, 1) := by decide +kernel
theorem dJ9_floorDiv_7cf53_22 : decode cJ9_floorDiv_7cf53 22 = .ok (.ireturn, 1) := by decide +kernel
theorem dJ9_abs_0f7a4_0 : decode cJ9_abs_0f7a4 0 = .ok (.iload_n 0, 1) := by decide +kernel
theorem dJ9_abs_0f7a4_1 : decode cJ9_abs_0f7a4 1 = .ok (.ifCond .ge 8, 3) := by decide +kernel
theorem dJ9_abs_0f7a4_4 : decode cJ9_abs_0f7a4 4 = .ok (.iload_n 0, 1) := by decide +kernel
theorem dJ9_abs_0f7a4_5 : decode cJ9_abs_0f7a4 5 = .ok (.ineg, 1) := by decide +kernel
theorem dJ9_abs_0f7a4_6 : decode cJ9_abs_0f7a4 6 = .ok (.goto 4, 3) := by decide +kernel
theorem dJ9_abs_0f7a4_9 : decode cJ9_abs_0f7a4 9 = .ok (.iload_n 0, 1) := by decide +kernel
theorem dJ9_abs_0f7a4_10 : decode cJ9_abs_0f7a4 10 = .ok (.ireturn, 1) := by decide +kernel
theorem dJ9_max_7cf53_0 : decode cJ9_max_7cf53 0 = .ok (.iload_n 0, 1) := by decide +kernel
theorem dJ9_max_7cf53_1 : decode cJ9_max_7cf53 1 = .ok (.iload_n 1, 1) := by decide +kernel
theorem dJ9_max_7cf53_2 : decode cJ9_max_7cf53 2 = .ok (.if_icmp .lt 7, 3) := by decide +kernel
theorem dJ9_max_7cf53_5 : decode cJ9_max_7cf53 5 = .ok (.iload_n 0, 1) := by decide +kernel
theorem dJ9_max_7cf53_6 : decode cJ9_max_7cf53 6 = .ok (.goto 4, 3) := by decide +kernel
theorem dJ9_max_7cf53_9 : decode cJ9_max_7cf53 9 = .ok (.iload_n 1, 1) := by decide +kernel
theorem dJ9_max_7cf53_10 : decode cJ9_max_7cf53 10 = .ok (.ireturn, 1) := by decide +kernel
theorem dJ9_min_7cf53_0 : decode cJ9_min_7cf53 0 = .ok (.iload_n 0, 1) := by decide +kernel
theorem dJ9_min_7cf53_1 : decode cJ9_min_7cf53 1 = .ok (.iload_n 1, 1) := by decide +kernel
theorem dJ9_min_7cf53_2 : decode cJ9_min_7cf53 2 = .ok (.if_icmp .gt 7, 3) := by decide +kernel
theorem dJ9_min_7cf53_5 : decode cJ9_min_7cf53 5 = .ok (.iload_n 0, 1) := by decide +kernel
theorem dJ9_min_7cf53_6 : decode cJ9_min_7cf53 6 = .ok (.goto 4, 3) := by decide +kernel
theorem dJ9_min_7cf53_9 : decode cJ9_min_7cf53 9 = .ok (.iload_n 1, 1) := by decide +kernel
theorem dJ9_min_7cf53_10 : decode cJ9_min_7cf53 10 = .ok (.ireturn, 1) := by decide +kernel
end
section
section BASE
/-! the words that every method may use: the good ones of the tables -/
def TA : List Cond := lw_tbl.filter goodWord
theorem ta {w : Cond} (i : Nat) (h : lw_tbl[i]? = some w) (g : goodWord w = true) : w ∈ TA := List.mem_filter.mpr ⟨List.mem_of_getElem? h, g⟩
theorem ta_in {w : Cond} (h : w ∈ TA) : w ∈ lw_tbl := (List.mem_filter.mp h).1
theorem ta_good {w : Cond} (h : w ∈ TA) : goodWord w = true := (List.mem_filter.mp h).2
theorem gi_ta : GoodIn TA TA := fun _ h => ⟨h, good_of_word (ta_good h)⟩
theorem gi_c {big ws : List Cond} {w : Cond} (h : w ∈ big ∧ goodWord w = true) (t : GoodIn big ws) : GoodIn big (w :: ws) := fun x hx => (List.mem_cons.mp hx).elim (fun e => by rw [e]; exact ⟨h.1, good_of_word h.2⟩) (t x)
theorem ta2 {w : Cond} (h : w ∈ TA) : w ∈ TA ∧ goodWord w = true := ⟨h, ta_good h⟩
theorem gV {own C : String} {idx n : Nat} {y : MethodName} {b : ByteArray} {r : Option FieldType} (h1 : Cond.methodLink own idx y ∈ TA) (h2 : Cond.instanceMethod y ∈ TA) (h3 : Cond.selects C y y ∈ TA) (h4 : Cond.initialized C ∈ TA) (h5 : Cond.code y b n r ∈ TA) : GoodIn TA (wsV own idx C y (.code y b n r :: TA)) :=
  gi_c (ta2 h1) (gi_c (ta2 h2) (gi_c (ta2 h3) (gi_c (ta2 h4) (gi_c (ta2 h5) gi_ta))))
theorem gS {own : String} {idx n : Nat} {y : MethodName} {b : ByteArray} {r : Option FieldType} (h1 : Cond.methodLink own idx y ∈ TA) (h2 : Cond.static y ∈ TA) (h4 : Cond.initialized own ∈ TA) (h5 : Cond.code y b n r ∈ TA) : GoodIn TA (wsS own idx y (.code y b n r :: TA)) :=
  gi_c (ta2 h1) (gi_c (ta2 h2) (gi_c (ta2 h4) (gi_c (ta2 h5) gi_ta)))
theorem gC {n : Nat} {y : MethodName} {b : ByteArray} {r : Option FieldType} (h5 : Cond.code y b n r ∈ TA) : GoodIn TA (.code y b n r :: TA) := gi_c (ta2 h5) gi_ta

/-! a body's surroundings -/
def EX (p : Program) (s : State) (m : MethodId) (args : Array Value) (meth : Method) (c : Code) (cc : ByteArray) (nL : Nat) (own : String) (ret : Option FieldType) : Prop :=
  p.tables.exec = Jvm.exec ∧ c.code = cc ∧ c.maxLocals = nL ∧ s.vm.findClass own = some m.cls ∧ (∀ w ∈ TA, w.before args s = true) ∧ meth.sig.returnType = ret ∧ meth.locks = false
theorem EX.hx {p : Program} {s : State} {m : MethodId} {args : Array Value} {meth : Method} {c : Code} {cc : ByteArray} {nL : Nat} {own : String} {ret : Option FieldType} (E : EX p s m args meth c cc nL own ret) : p.tables.exec = Jvm.exec := E.1
theorem EX.hb {p : Program} {s : State} {m : MethodId} {args : Array Value} {meth : Method} {c : Code} {cc : ByteArray} {nL : Nat} {own : String} {ret : Option FieldType} (E : EX p s m args meth c cc nL own ret) : c.code = cc := E.2.1
theorem EX.hm {p : Program} {s : State} {m : MethodId} {args : Array Value} {meth : Method} {c : Code} {cc : ByteArray} {nL : Nat} {own : String} {ret : Option FieldType} (E : EX p s m args meth c cc nL own ret) : c.maxLocals = nL := E.2.2.1
theorem EX.ho {p : Program} {s : State} {m : MethodId} {args : Array Value} {meth : Method} {c : Code} {cc : ByteArray} {nL : Nat} {own : String} {ret : Option FieldType} (E : EX p s m args meth c cc nL own ret) : s.vm.findClass own = some m.cls := E.2.2.2.1
theorem EX.ht {p : Program} {s : State} {m : MethodId} {args : Array Value} {meth : Method} {c : Code} {cc : ByteArray} {nL : Nat} {own : String} {ret : Option FieldType} (E : EX p s m args meth c cc nL own ret) : ∀ w ∈ TA, w.before args s = true := E.2.2.2.2.1
theorem EX.hr {p : Program} {s : State} {m : MethodId} {args : Array Value} {meth : Method} {c : Code} {cc : ByteArray} {nL : Nat} {own : String} {ret : Option FieldType} (E : EX p s m args meth c cc nL own ret) : meth.sig.returnType = ret := E.2.2.2.2.2.1
theorem EX.hk {p : Program} {s : State} {m : MethodId} {args : Array Value} {meth : Method} {c : Code} {cc : ByteArray} {nL : Nat} {own : String} {ret : Option FieldType} (E : EX p s m args meth c cc nL own ret) : meth.locks = false := E.2.2.2.2.2.2
theorem EX.fix {p : Program} {s : State} {m : MethodId} {args : Array Value} {meth : Method} {c : Code} {cc : ByteArray} {nL : Nat} {own : String} {ret : Option FieldType} (E : EX p s m args meth c cc nL own ret) : CallFix p m c cc nL s args TA own := ⟨E.hx, E.hb, E.hm, E.ho, E.ht⟩
abbrev rmL (k : Nat) : Room := { frames := k, cells := 0, slots := 0, locals := 40 * k }
abbrev rmX (k : Nat) : Room := { frames := k, cells := 1, slots := 6, locals := 40 * k }

/-! arrays and options -/
def rd (f : Nat → Int32) (n : Nat) (i : Int32) : Option Int32 := if i < 0 ∨ n ≤ i.toNatClampNeg then none else some (f i.toNatClampNeg)
def wr (f : Nat → Int32) (n : Nat) (i v : Int32) : Option (Nat → Int32) := if i < 0 ∨ n ≤ i.toNatClampNeg then none else some (upd f i.toNatClampNeg v)
theorem rd_some {f : Nat → Int32} {n : Nat} {i v : Int32} (h : rd f n i = some v) : vp_in i n ∧ f i.toNatClampNeg = v := by
  unfold rd at h
  by_cases c : i < 0 ∨ n ≤ i.toNatClampNeg
  · rw [if_pos c] at h; cases h
  · rw [if_neg c] at h; exact ⟨c, Option.some.inj h⟩
theorem wr_some {f g : Nat → Int32} {n : Nat} {i v : Int32} (h : wr f n i v = some g) : vp_in i n ∧ upd f i.toNatClampNeg v = g := by
  unfold wr at h
  by_cases c : i < 0 ∨ n ≤ i.toNatClampNeg
  · rw [if_pos c] at h; cases h
  · rw [if_neg c] at h; exact ⟨c, Option.some.inj h⟩
theorem obind {α β : Type} {x : Option α} {f : α → Option β} {b : β} (h : x.bind f = some b) : ∃ a, x = some a ∧ f a = some b := by
  cases x with
  | none => cases h
  | some a => exact ⟨a, rfl, h⟩
/-- how many turns a loop may take -/
def FU : Nat := 2000
/-- a cell of a row that looks at its index -/
def rAt (n : Nat) (f : Nat → Int32) (i : Int32) : Int32 := if i < 0 then 0 else if Int32.ofNat n ≤ i then 0 else f i.toNatClampNeg
def rPut (n : Nat) (f : Nat → Int32) (i v : Int32) : Nat → Int32 := if i < 0 then f else if Int32.ofNat n ≤ i then f else upd f i.toNatClampNeg v
def rFill (n : Nat) (f : Nat → Int32) (v : Int32) : Nat → Int32 := fun j => if j < n then v else f j

/-! contracts -/
abbrev Ctx : Type := State → Heap → Prop
def PX (As : List Value) (H : Heap) (KX : Ctx) : Array Value → State → Prop := va_Pc As (fun U => U.heap = H ∧ KX U H)
def Blind (KX : Ctx) : Prop := ∀ (u U : State) (H : Heap), U.vm = u.vm → KX u H → KX U H
theorem PX_blind {As : List Value} {H : Heap} {KX : Ctx} (hK : Blind KX) : FrameBlind (PX As H KX) := fun a U g mk h => ⟨h.1, h.2.1, hK U _ H rfl h.2.2⟩
abbrev MRO (l : Launch) (y : MethodName) (b : ByteArray) (n : Nat) (r : Option FieldType) (k : Nat) (As : List Value) (H : Heap) (KX : Ctx) (v : Int32) : Prop :=
  Met l y (.code y b n r :: TA) (rmL k) (PX As H KX) (vp_Si (fun z => z = v)) 0 0 (fun _ => False)
def Qrw (A : Nat → Prop) (v : Option Value) (P1 : Heap → Prop) : Array Value → State → Outcome → State → Prop := fun _ st o t => o = .returned v ∧ P1 t.heap ∧ va_F A st t
abbrev MRW (l : Launch) (y : MethodName) (b : ByteArray) (n : Nat) (r : Option FieldType) (k : Nat) (As : List Value) (H : Heap) (KX : Ctx) (A : Nat → Prop) (v : Option Value) (P1 : Heap → Prop) : Prop :=
  Met l y (.code y b n r :: TA) (rmL k) (PX As H KX) (Qrw A v P1) 0 0 A
/-- the room that a call of level k leaves -/
abbrev RmOk (R : Room) (cells slots k n : Nat) : Prop := k + 1 ≤ R.frames ∧ 8 + (n + 11) + 40 * k ≤ R.locals ∧ cells ≤ R.cells ∧ slots ≤ R.slots
section
variable {p : Program} {l : Launch} {e : Env} {R : Room} {s : State} {m : MethodId} {args : Array Value} {below : List Frame} {meth : Method} {c : Code} {H : Heap} {locs : List Loc} {cells slots : Nat} {Q : State → Prop}
variable {cc : ByteArray} {nL pc : Nat} {own : String} {ret : Option FieldType} {ls : Array Slot} {rest st0 : List Value}
theorem ro_calli {v : Int32} {a : Array Value} (hr : va_Run p l e R s m args below meth c H locs cells slots 0 0 (F0 m pc ls st0) rest (vp_Si (fun z => z = v) a) (fun _ => False))
    (kk : W p l e R s m args below meth c H locs cells slots Q (F0 m (pc + 3) ls (.int v :: rest))) : W p l e R s m args below meth c H locs cells slots Q (F0 m pc ls st0) := by
  intro T hT X
  obtain ⟨v1, st₀, t, T', L, h0, X', hL, e1, e2, ⟨r, hv, hp, hh⟩, st⟩ := hr T hT X
  cases hv
  have hp' : r = v := hp
  subst hp'
  obtain ⟨t2, a1, b1⟩ := kk T' (by rw [e1, hh, h0]) (Stand.forget X' (fun q h => (hL q h).elim))
  exact ⟨t2, st t2 a1, b1⟩
theorem rw_call {A : Nat → Prop} {v : Option Value} {P1 : Heap → Prop} {H0 : Heap} {a : Array Value} (hr : va_Run p l e R s m args below meth c H locs cells slots 0 0 (F0 m pc ls st0) rest (Qrw A v P1 a) A) (hS : va_S A H0 H locs)
    (kk : ∀ (H1 : Heap) (locs1 : List Loc), P1 H1 → va_S A H0 H1 locs1 → W p l e R s m args below meth c H1 locs1 cells slots Q (F0 m (pc + 3) ls (v.toList ++ rest))) : W p l e R s m args below meth c H locs cells slots Q (F0 m pc ls st0) := by
  intro T hT X
  obtain ⟨v1, st₀, t, T', L, h0, X', hL, e1, e2, ⟨hv, hp, hz, hk⟩, st⟩ := hr T hT X
  cases hv
  rw [h0] at hz hk
  obtain ⟨t2, a1, b1⟩ := kk T'.heap (locs ++ L) (by rw [e1]; exact hp)
    ⟨Nat.le_trans hS.1 (by rw [e1]; exact hz), fun q h1 h2 => by rw [e1, hk q (Nat.lt_of_lt_of_le h1 hS.1) h2]; exact hS.2.1 q h1 h2, fun q hq => by
      rcases List.mem_append.mp hq with h | h
      · exact hS.2.2 q h
      · exact hL q h⟩ T' rfl X'
  exact ⟨t2, st t2 a1, b1⟩
variable {y : MethodName} {b : ByteArray} {n k idx N o : Nat} {r : Option FieldType} {As : List Value} {KX : Ctx} {C host : String} {v : Int32}
abbrev Recv (s : State) (H : Heap) (o : Nat) (C : String) : Prop := ∃ cell : Cell, H[o]? = some cell ∧ cell.vm.isStatics = false ∧ s.vm.findClass C = some cell.cls
abbrev Dsc (y : MethodName) (N : Nat) : Prop := y.cls ≠ "java/lang/invoke/MethodHandle" ∧ y.cls ≠ "java/lang/invoke/VarHandle" ∧ (parseMethodDescriptor y.desc).map (fun d => d.parameters.length) = some N
theorem cv_ro (E : EX p s m args meth c cc nL own ret) (hM : MRO l y b n r k (.ref o :: As) H KX v) (g : GoodIn TA (wsV own idx C y (.code y b n r :: TA))) (hC : y.cls = C) (hd : Dsc y N) (hN : As.length = N) (hB : Blind KX) (hW : ∀ U : State, U.heap = H → s.WarmedH U.vm → KX U H)
    (hrec : Recv s H o C) (hR : RmOk R cells slots k n) (hls : ls.size = nL) (hst : st0 = As.reverse ++ .ref o :: rest) (hro : (rest.map fun v => v.category).sum ≤ 8) (hdg : decode cc pc = .ok (.invokevirtual idx, 3))
    (kk : W p l e R s m args below meth c H locs cells slots Q (F0 m (pc + 3) ls (.int v :: rest))) : W p l e R s m args below meth c H locs cells slots Q (F0 m pc ls st0) := by
  subst hst
  exact ro_calli (va_runV (As := As) (rest := rest) E.fix hM (cwV N E.ht g rfl rfl rfl ⟨hC, hd⟩ ⟨hR.1, hR.2.1⟩) ⟨PX_blind hB, hrec, fun U hU hW9 => ⟨rfl, hU, hW U hU hW9⟩⟩ rfl hN hls rfl (lv_room hro) hdg ⟨hR.2.2.1, hR.2.2.2⟩) kk
theorem cv_rw {A : Nat → Prop} {v : Option Value} {P1 : Heap → Prop} {H0 : Heap} (E : EX p s m args meth c cc nL own ret) (hM : MRW l y b n r k (.ref o :: As) H KX A v P1) (g : GoodIn TA (wsV own idx C y (.code y b n r :: TA))) (hC : y.cls = C) (hd : Dsc y N) (hN : As.length = N) (hB : Blind KX) (hW : ∀ U : State, U.heap = H → s.WarmedH U.vm → KX U H)
    (hS : va_S A H0 H locs) (hrec : Recv s H o C) (hR : RmOk R cells slots k n) (hls : ls.size = nL) (hst : st0 = As.reverse ++ .ref o :: rest) (hro : (rest.map fun v => v.category).sum ≤ 8) (hdg : decode cc pc = .ok (.invokevirtual idx, 3))
    (kk : ∀ (H1 : Heap) (locs1 : List Loc), P1 H1 → va_S A H0 H1 locs1 → W p l e R s m args below meth c H1 locs1 cells slots Q (F0 m (pc + 3) ls (v.toList ++ rest))) : W p l e R s m args below meth c H locs cells slots Q (F0 m pc ls st0) := by
  subst hst
  exact rw_call (va_runV (As := As) (rest := rest) E.fix hM (cwV N E.ht g rfl rfl rfl ⟨hC, hd⟩ ⟨hR.1, hR.2.1⟩) ⟨PX_blind hB, hrec, fun U hU hW9 => ⟨rfl, hU, hW U hU hW9⟩⟩ rfl hN hls rfl (lv_room hro) hdg ⟨hR.2.2.1, hR.2.2.2⟩) hS kk
theorem cs_ro (E : EX p s m args meth c cc nL own ret) (hM : MRO l y b n r k As H KX v) (g : GoodIn TA (wsS own idx y (.code y b n r :: TA))) (hC : y.cls = own) (hd : Dsc y N) (hN : As.length = N) (hB : Blind KX) (hW : ∀ U : State, U.heap = H → s.WarmedH U.vm → KX U H)
    (hR : RmOk R cells slots k n) (hls : ls.size = nL) (hst : st0 = As.reverse ++ rest) (hro : (rest.map fun v => v.category).sum ≤ 8) (hdg : decode cc pc = .ok (.invokestatic idx, 3))
    (kk : W p l e R s m args below meth c H locs cells slots Q (F0 m (pc + 3) ls (.int v :: rest))) : W p l e R s m args below meth c H locs cells slots Q (F0 m pc ls st0) := by
  subst hst
  exact ro_calli (va_runS (As := As) (rest := rest) E.fix hM (cwS N E.ht g rfl rfl rfl ⟨hC, hd⟩ ⟨hR.1, hR.2.1⟩) ⟨PX_blind hB, fun U hU hW9 => ⟨rfl, hU, hW U hU hW9⟩⟩ rfl hN hls rfl (lv_room hro) hdg ⟨hR.2.2.1, hR.2.2.2⟩) kk
/-- a static method of another class, public -/
theorem cq_ro (E : EX p s m args meth c cc nL own ret) (hM : MRO l y b n r k As H KX v) (h1 : Cond.methodLink own idx y ∈ TA) (h2 : Cond.static y ∈ TA) (h4 : Cond.initialized y.cls ∈ TA) (h5 : Cond.code y b n r ∈ TA) (hd : Dsc y N) (hN : As.length = N) (hB : Blind KX) (hW : ∀ U : State, U.heap = H → s.WarmedH U.vm → KX U H)
    (hR : RmOk R cells slots k n) (hls : ls.size = nL) (hst : st0 = As.reverse ++ rest) (hro : (rest.map fun v => v.category).sum ≤ 8) (hdg : decode cc pc = .ok (.invokestatic idx, 3))
    (kk : W p l e R s m args below meth c H locs cells slots Q (F0 m (pc + 3) ls (.int v :: rest))) : W p l e R s m args below meth c H locs cells slots Q (F0 m pc ls st0) := by
  subst hst
  exact ro_calli (va_runS (As := As) (rest := rest) E.fix hM ⟨callB_of N E.ht (gC h5) rfl rfl rfl (E.ht _ h4) (E.ht _ h1) hd ⟨hR.1, hR.2.1⟩, E.ht _ h2⟩ ⟨PX_blind hB, fun U hU hW9 => ⟨rfl, hU, hW U hU hW9⟩⟩ rfl hN hls rfl (lv_room hro) hdg ⟨hR.2.2.1, hR.2.2.2⟩) kk
/-- a static method of a nest mate, private -/
theorem cn_ro (E : EX p s m args meth c cc nL own ret) (hM : MRO l y b n r k As H KX v) (h1 : va_Nw (.methodLinkNest own idx y host) s) (h2 : Cond.static y ∈ TA) (h4 : Cond.initialized y.cls ∈ TA) (h5 : Cond.code y b n r ∈ TA) (hd : Dsc y N) (hN : As.length = N) (hB : Blind KX) (hW : ∀ U : State, U.heap = H → s.WarmedH U.vm → KX U H)
    (hR : RmOk R cells slots k n) (hls : ls.size = nL) (hst : st0 = As.reverse ++ rest) (hro : (rest.map fun v => v.category).sum ≤ 8) (hdg : decode cc pc = .ok (.invokestatic idx, 3))
    (kk : W p l e R s m args below meth c H locs cells slots Q (F0 m (pc + 3) ls (.int v :: rest))) : W p l e R s m args below meth c H locs cells slots Q (F0 m pc ls st0) := by
  subst hst
  exact ro_calli (va_runSN (As := As) (rest := rest) E.fix hM ⟨va_cnB N E.ht (gC h5) rfl rfl rfl h1 (E.ht _ h4) hd ⟨hR.1, hR.2.1⟩, E.ht _ h2, trivial⟩ ⟨PX_blind hB, fun U hU hW9 => ⟨rfl, hU, hW U hU hW9⟩⟩ rfl hN hls rfl (lv_room hro) hdg ⟨hR.2.2.1, hR.2.2.2⟩) kk
end
/-! a method's proof out of the walk of its body -/
theorem Mof {l : Launch} {y : MethodName} {b : ByteArray} {n : Nat} {r : Option FieldType} {rm : Room} {As : List Value} {H : Heap} {KX : Ctx} {Qc : Array Value → State → Outcome → State → Prop} {mc ms : Nat} {free : Addr → Prop} {own : String} (hy : plainName y.cls = true) (ho : y.cls = own) (hn : Nat.ble (lg_sl As).length n = true)
    (body : ∀ (p : Program) (e : Env) (s : State) (m : MethodId) (args : Array Value) (below : List Frame) (meth : Method) (c : Code) (ls : Array Slot), EX p s m args meth c b n own r → s.heap = H → KX s s.heap → lv_has ls n (lv_args 0 As) → W p l e rm s m args below meth c s.heap [] 0 0 (MQ below Qc args s mc ms free) (F0 m 0 ls [])) :
    Met l y (.code y b n r :: TA) rm (PX As H KX) Qc mc ms free := by
  refine Met.ofW (cc := b) (maxL := n) (ret := r) hy rfl ?_
  intro p e s m args below meth c s₁ B hml hv
  obtain ⟨rfl, hH, hK⟩ := hv
  have hts : ∀ w ∈ (.code y b n r :: TA : List Cond), w.before As.toArray s = true := atoms_spec (ws := (.code y b n r :: TA : List Cond)) B.pre
  have hown : s.vm.findClass own = some m.cls := by rw [← ho]; exact findClass_of_methodNamed B.named
  have hl := lv_entry As (n := n) (Nat.le_of_ble_eq_true hn)
  rw [lg_entry_eq]
  generalize (lg_sl As ++ List.replicate (n - (lg_sl As).length) Slot.unset).toArray = ls at hl ⊢
  exact body p e s m _ below meth c ls ⟨B.exec, B.bytes, hml, hown, fun w hw => hts w (List.mem_cons_of_mem _ hw), B.returns, B.notSynchronized⟩ hH (by rw [hH]; exact hK) hl
end BASE
end
section
theorem kSE_X6_beginAnew : (Cond.selects RX6 yX6_beginAnew yX6_beginAnew) ∈ TA := ta 0 (by decide +kernel) rfl
theorem kSE_X1_heldWith : (Cond.selects RX1 yX1_heldWith yX1_heldWith) ∈ TA := ta 1 (by decide +kernel) rfl
theorem kSE_X1_grown : (Cond.selects RX1 yX1_grown yX1_grown) ∈ TA := ta 3 (by decide +kernel) rfl
theorem kSE_X6_worked : (Cond.selects RX6 yX6_worked yX6_worked) ∈ TA := ta 4 (by decide +kernel) rfl
theorem kSE_X1_heldInPixel : (Cond.selects RX1 yX1_heldInPixel yX1_heldInPixel) ∈ TA := ta 5 (by decide +kernel) rfl
theorem kSE_X0_put : (Cond.selects RX0 yX0_put yX0_put) ∈ TA := ta 6 (by decide +kernel) rfl
theorem kSE_X1_settle : (Cond.selects RX1 yX1_settle yX1_settle) ∈ TA := ta 7 (by decide +kernel) rfl
theorem kSE_X6_noteGreys : (Cond.selects RX6 yX6_noteGreys yX6_noteGreys) ∈ TA := ta 8 (by decide +kernel) rfl
theorem kSE_X5_touches : (Cond.selects RX5 yX5_touches yX5_touches) ∈ TA := ta 9 (by decide +kernel) rfl
theorem kSE_X7_begin : (Cond.selects RX7 yX7_begin yX7_begin) ∈ TA := ta 10 (by decide +kernel) rfl
theorem kSE_X7_stop : (Cond.selects RX7 yX7_stop yX7_stop) ∈ TA := ta 11 (by decide +kernel) rfl
theorem kSE_X7_all : (Cond.selects RX7 yX7_all yX7_all) ∈ TA := ta 12 (by decide +kernel) rfl
theorem kSE_X7_own : (Cond.selects RX7 yX7_own yX7_own) ∈ TA := ta 13 (by decide +kernel) rfl
theorem kSE_X7_pair : (Cond.selects RX7 yX7_pair yX7_pair) ∈ TA := ta 14 (by decide +kernel) rfl
theorem kSE_X7_isCell : (Cond.selects RX7 yX7_isCell yX7_isCell) ∈ TA := ta 15 (by decide +kernel) rfl
theorem kSE_X7_worked : (Cond.selects RX7 yX7_worked yX7_worked) ∈ TA := ta 16 (by decide +kernel) rfl
theorem kSE_X7_isPixel : (Cond.selects RX7 yX7_isPixel yX7_isPixel) ∈ TA := ta 17 (by decide +kernel) rfl
theorem kSE_X7_driven : (Cond.selects RX7 yX7_driven yX7_driven) ∈ TA := ta 18 (by decide +kernel) rfl
theorem kSE_X7_driveAll : (Cond.selects RX7 yX7_driveAll yX7_driveAll) ∈ TA := ta 19 (by decide +kernel) rfl
theorem kSE_X7_relax : (Cond.selects RX7 yX7_relax yX7_relax) ∈ TA := ta 20 (by decide +kernel) rfl
theorem kSE_X7_withAll : (Cond.selects RX7 yX7_withAll yX7_withAll) ∈ TA := ta 21 (by decide +kernel) rfl
theorem kSE_X7_greyOfPixel : (Cond.selects RX7 yX7_greyOfPixel yX7_greyOfPixel) ∈ TA := ta 22 (by decide +kernel) rfl
theorem kSE_X7_greyAt : (Cond.selects RX7 yX7_greyAt yX7_greyAt) ∈ TA := ta 23 (by decide +kernel) rfl
theorem kSE_X7_windingAt : (Cond.selects RX7 yX7_windingAt yX7_windingAt) ∈ TA := ta 24 (by decide +kernel) rfl
theorem kSE_X7_directionAt : (Cond.selects RX7 yX7_directionAt yX7_directionAt) ∈ TA := ta 25 (by decide +kernel) rfl
theorem kSE_X7_isRefused : (Cond.selects RX7 yX7_isRefused yX7_isRefused) ∈ TA := ta 26 (by decide +kernel) rfl
theorem kSE_X7_flickers : (Cond.selects RX7 yX7_flickers yX7_flickers) ∈ TA := ta 27 (by decide +kernel) rfl
theorem kSE_X7_isGood : (Cond.selects RX7 yX7_isGood yX7_isGood) ∈ TA := ta 28 (by decide +kernel) rfl
theorem kIN_L : (Cond.initialized RL) ∈ TA := ta 29 (by decide +kernel) rfl
theorem kIN_X6 : (Cond.initialized RX6) ∈ TA := ta 30 (by decide +kernel) rfl
theorem kIN_X3 : (Cond.initialized RX3) ∈ TA := ta 31 (by decide +kernel) rfl
theorem kIN_X4 : (Cond.initialized RX4) ∈ TA := ta 32 (by decide +kernel) rfl
theorem kIN_X1 : (Cond.initialized RX1) ∈ TA := ta 33 (by decide +kernel) rfl
theorem kIN_X5 : (Cond.initialized RX5) ∈ TA := ta 34 (by decide +kernel) rfl
theorem kIN_X0 : (Cond.initialized RX0) ∈ TA := ta 35 (by decide +kernel) rfl
theorem kIN_X2 : (Cond.initialized RX2) ∈ TA := ta 36 (by decide +kernel) rfl
theorem kIN_X7 : (Cond.initialized RX7) ∈ TA := ta 37 (by decide +kernel) rfl
theorem kIN_J9 : (Cond.initialized RJ9) ∈ TA := ta 44 (by decide +kernel) rfl
theorem kCL_L_8 : (Cond.classLink RL 8 RX6) ∈ TA := ta 45 (by decide +kernel) rfl
theorem kIS_X6 : (Cond.instantiable RX6 9) ∈ TA := ta 46 (by decide +kernel) rfl
theorem kML_L_83 : (Cond.methodLink RL 83 yX6_init) ∈ TA := ta 47 (by decide +kernel) rfl
theorem kIM_X6_init : (Cond.instanceMethod yX6_init) ∈ TA := ta 48 (by decide +kernel) rfl
theorem kCO_X6_init : (Cond.code yX6_init cX6_init 1 none) ∈ TA := ta 49 (by decide +kernel) rfl
theorem kML_X6_3 : (Cond.methodLink RX6 3 objectInit) ∈ TA := ta 50 (by decide +kernel) rfl
theorem kIM_objectInit : (Cond.instanceMethod objectInit) ∈ TA := ta 51 (by decide +kernel) rfl
theorem kCO_objectInit : (Cond.code objectInit ⟨#[0xb1]⟩ 1 none) ∈ TA := ta 52 (by decide +kernel) rfl
theorem kCL_X6_9 : (Cond.classLink RX6 9 RX3) ∈ TA := ta 53 (by decide +kernel) rfl
theorem kIS_X3 : (Cond.instantiable RX3 9) ∈ TA := ta 54 (by decide +kernel) rfl
theorem kIM_X3_init : (Cond.instanceMethod yX3_init) ∈ TA := ta 56 (by decide +kernel) rfl
theorem kCO_X3_init : (Cond.code yX3_init cX3_init 1 none) ∈ TA := ta 57 (by decide +kernel) rfl
theorem kML_X3_3 : (Cond.methodLink RX3 3 objectInit) ∈ TA := ta 58 (by decide +kernel) rfl
theorem kCL_X3_9 : (Cond.classLink RX3 9 RX4) ∈ TA := ta 59 (by decide +kernel) rfl
theorem kIS_X4 : (Cond.instantiable RX4 1) ∈ TA := ta 60 (by decide +kernel) rfl
theorem kML_X3_11 : (Cond.methodLink RX3 11 yX4_init) ∈ TA := ta 61 (by decide +kernel) rfl
theorem kIM_X4_init : (Cond.instanceMethod yX4_init) ∈ TA := ta 62 (by decide +kernel) rfl
theorem kCO_X4_init : (Cond.code yX4_init cX4_init 2 none) ∈ TA := ta 63 (by decide +kernel) rfl
theorem kML_X4_1 : (Cond.methodLink RX4 1 objectInit) ∈ TA := ta 64 (by decide +kernel) rfl
theorem kFL_X4_7 : (Cond.fieldLink RX4 7 "NemaGrid$Row" "numbers" "[I") ∈ TA := ta 65 (by decide +kernel) rfl
theorem kAR_int : (Cond.arrayClass .int) ∈ TA := ta 69 (by decide +kernel) rfl
theorem kFL_X3_14 : (Cond.fieldLink RX3 14 "NemaGrid$Pixels" "lefts" "LNemaGrid$Row;") ∈ TA := ta 70 (by decide +kernel) rfl
theorem kFL_X3_20 : (Cond.fieldLink RX3 20 "NemaGrid$Pixels" "tops" "LNemaGrid$Row;") ∈ TA := ta 71 (by decide +kernel) rfl
theorem kFL_X3_23 : (Cond.fieldLink RX3 23 "NemaGrid$Pixels" "widths" "LNemaGrid$Row;") ∈ TA := ta 72 (by decide +kernel) rfl
theorem kFL_X3_26 : (Cond.fieldLink RX3 26 "NemaGrid$Pixels" "heights" "LNemaGrid$Row;") ∈ TA := ta 73 (by decide +kernel) rfl
theorem kFL_X3_29 : (Cond.fieldLink RX3 29 "NemaGrid$Pixels" "directions" "LNemaGrid$Row;") ∈ TA := ta 74 (by decide +kernel) rfl
theorem kFL_X3_32 : (Cond.fieldLink RX3 32 "NemaGrid$Pixels" "strengths" "LNemaGrid$Row;") ∈ TA := ta 75 (by decide +kernel) rfl
theorem kFL_X3_35 : (Cond.fieldLink RX3 35 "NemaGrid$Pixels" "noted" "LNemaGrid$Row;") ∈ TA := ta 76 (by decide +kernel) rfl
theorem kFL_X3_38 : (Cond.fieldLink RX3 38 "NemaGrid$Pixels" "notes" "LNemaGrid$Row;") ∈ TA := ta 77 (by decide +kernel) rfl
theorem kFL_X3_41 : (Cond.fieldLink RX3 41 "NemaGrid$Pixels" "count" "I") ∈ TA := ta 78 (by decide +kernel) rfl
theorem kCL_X6_16 : (Cond.classLink RX6 16 RX1) ∈ TA := ta 99 (by decide +kernel) rfl
theorem kIS_X1 : (Cond.instantiable RX1 11) ∈ TA := ta 100 (by decide +kernel) rfl
theorem kML_X6_18 : (Cond.methodLink RX6 18 yX1_init) ∈ TA := ta 101 (by decide +kernel) rfl
theorem kIM_X1_init : (Cond.instanceMethod yX1_init) ∈ TA := ta 102 (by decide +kernel) rfl
theorem kCO_X1_init : (Cond.code yX1_init cX1_init 2 none) ∈ TA := ta 103 (by decide +kernel) rfl
theorem kML_X1_3 : (Cond.methodLink RX1 3 objectInit) ∈ TA := ta 104 (by decide +kernel) rfl
theorem kCL_X1_9 : (Cond.classLink RX1 9 RX4) ∈ TA := ta 105 (by decide +kernel) rfl
theorem kML_X1_11 : (Cond.methodLink RX1 11 yX4_init) ∈ TA := ta 106 (by decide +kernel) rfl
theorem kFL_X1_14 : (Cond.fieldLink RX1 14 "NemaGrid$Matter" "directions" "LNemaGrid$Row;") ∈ TA := ta 107 (by decide +kernel) rfl
theorem kFL_X1_20 : (Cond.fieldLink RX1 20 "NemaGrid$Matter" "kinds" "LNemaGrid$Row;") ∈ TA := ta 108 (by decide +kernel) rfl
theorem kFL_X1_23 : (Cond.fieldLink RX1 23 "NemaGrid$Matter" "weakDirections" "LNemaGrid$Row;") ∈ TA := ta 109 (by decide +kernel) rfl
theorem kFL_X1_26 : (Cond.fieldLink RX1 26 "NemaGrid$Matter" "weakStrengths" "LNemaGrid$Row;") ∈ TA := ta 110 (by decide +kernel) rfl
theorem kFL_X1_29 : (Cond.fieldLink RX1 29 "NemaGrid$Matter" "pixelNumbers" "LNemaGrid$Row;") ∈ TA := ta 111 (by decide +kernel) rfl
theorem kFL_X1_45 : (Cond.fieldLink RX1 45 "NemaGrid$Matter" "pixels" "LNemaGrid$Pixels;") ∈ TA := ta 112 (by decide +kernel) rfl
theorem kFL_X1_32 : (Cond.fieldLink RX1 32 "NemaGrid$Matter" "width" "I") ∈ TA := ta 113 (by decide +kernel) rfl
theorem kFL_X1_36 : (Cond.fieldLink RX1 36 "NemaGrid$Matter" "height" "I") ∈ TA := ta 116 (by decide +kernel) rfl
theorem kFL_X1_39 : (Cond.fieldLink RX1 39 "NemaGrid$Matter" "costAcross" "I") ∈ TA := ta 119 (by decide +kernel) rfl
theorem kFL_X1_42 : (Cond.fieldLink RX1 42 "NemaGrid$Matter" "costDown" "I") ∈ TA := ta 120 (by decide +kernel) rfl
theorem kFL_X1_52 : (Cond.fieldLink RX1 52 "NemaGrid$Matter" "energyKept" "I") ∈ TA := ta 121 (by decide +kernel) rfl
theorem kCL_X6_25 : (Cond.classLink RX6 25 RX5) ∈ TA := ta 146 (by decide +kernel) rfl
theorem kIS_X5 : (Cond.instantiable RX5 1) ∈ TA := ta 147 (by decide +kernel) rfl
theorem kML_X6_27 : (Cond.methodLink RX6 27 yX5_init) ∈ TA := ta 148 (by decide +kernel) rfl
theorem kIM_X5_init : (Cond.instanceMethod yX5_init) ∈ TA := ta 149 (by decide +kernel) rfl
theorem kCO_X5_init : (Cond.code yX5_init cX5_init 2 none) ∈ TA := ta 150 (by decide +kernel) rfl
theorem kML_X5_3 : (Cond.methodLink RX5 3 objectInit) ∈ TA := ta 151 (by decide +kernel) rfl
theorem kFL_X5_9 : (Cond.fieldLink RX5 9 "NemaGrid$Windings" "matter" "LNemaGrid$Matter;") ∈ TA := ta 152 (by decide +kernel) rfl
theorem kCL_X6_34 : (Cond.classLink RX6 34 RX0) ∈ TA := ta 156 (by decide +kernel) rfl
theorem kIS_X0 : (Cond.instantiable RX0 5) ∈ TA := ta 157 (by decide +kernel) rfl
theorem kIM_X0_init : (Cond.instanceMethod yX0_init) ∈ TA := ta 159 (by decide +kernel) rfl
theorem kCO_X0_init : (Cond.code yX0_init cX0_init 1 none) ∈ TA := ta 160 (by decide +kernel) rfl
theorem kML_X0_3 : (Cond.methodLink RX0 3 objectInit) ∈ TA := ta 161 (by decide +kernel) rfl
theorem kCL_X0_9 : (Cond.classLink RX0 9 RX4) ∈ TA := ta 162 (by decide +kernel) rfl
theorem kML_X0_11 : (Cond.methodLink RX0 11 yX4_init) ∈ TA := ta 163 (by decide +kernel) rfl
theorem kFL_X0_14 : (Cond.fieldLink RX0 14 "NemaGrid$Drives" "pixelNumbers" "LNemaGrid$Row;") ∈ TA := ta 164 (by decide +kernel) rfl
theorem kFL_X0_20 : (Cond.fieldLink RX0 20 "NemaGrid$Drives" "ticks" "LNemaGrid$Row;") ∈ TA := ta 165 (by decide +kernel) rfl
theorem kFL_X0_23 : (Cond.fieldLink RX0 23 "NemaGrid$Drives" "directions" "LNemaGrid$Row;") ∈ TA := ta 166 (by decide +kernel) rfl
theorem kFL_X0_26 : (Cond.fieldLink RX0 26 "NemaGrid$Drives" "strengths" "LNemaGrid$Row;") ∈ TA := ta 167 (by decide +kernel) rfl
theorem kFL_X0_29 : (Cond.fieldLink RX0 29 "NemaGrid$Drives" "count" "I") ∈ TA := ta 168 (by decide +kernel) rfl
theorem kCL_X6_41 : (Cond.classLink RX6 41 RX2) ∈ TA := ta 181 (by decide +kernel) rfl
theorem kIS_X2 : (Cond.instantiable RX2 3) ∈ TA := ta 182 (by decide +kernel) rfl
theorem kIM_X2_init : (Cond.instanceMethod yX2_init) ∈ TA := ta 184 (by decide +kernel) rfl
theorem kCO_X2_init : (Cond.code yX2_init cX2_init 1 none) ∈ TA := ta 185 (by decide +kernel) rfl
theorem kML_X2_3 : (Cond.methodLink RX2 3 objectInit) ∈ TA := ta 186 (by decide +kernel) rfl
theorem kCL_X2_9 : (Cond.classLink RX2 9 RX4) ∈ TA := ta 187 (by decide +kernel) rfl
theorem kML_X2_11 : (Cond.methodLink RX2 11 yX4_init) ∈ TA := ta 188 (by decide +kernel) rfl
theorem kFL_X2_14 : (Cond.fieldLink RX2 14 "NemaGrid$Pictures" "plates" "LNemaGrid$Row;") ∈ TA := ta 189 (by decide +kernel) rfl
theorem kFL_X2_20 : (Cond.fieldLink RX2 20 "NemaGrid$Pictures" "greys" "LNemaGrid$Row;") ∈ TA := ta 190 (by decide +kernel) rfl
theorem kFL_X2_23 : (Cond.fieldLink RX2 23 "NemaGrid$Pictures" "count" "I") ∈ TA := ta 191 (by decide +kernel) rfl
theorem kML_X6_52 : (Cond.methodLink RX6 52 yX6_beginAnew) ∈ TA := ta 200 (by decide +kernel) rfl
theorem kIM_X6_beginAnew : (Cond.instanceMethod yX6_beginAnew) ∈ TA := ta 202 (by decide +kernel) rfl
theorem kCO_X6_beginAnew : (Cond.code yX6_beginAnew cX6_beginAnew 3 none) ∈ TA := ta 203 (by decide +kernel) rfl
theorem kML_X6_254 : (Cond.methodLink RX6 254 yX1_begin) ∈ TA := ta 204 (by decide +kernel) rfl
theorem kIM_X1_begin : (Cond.instanceMethod yX1_begin) ∈ TA := ta 205 (by decide +kernel) rfl
theorem kSE_X1_begin : (Cond.selects RX1 yX1_begin yX1_begin) ∈ TA := ta 206 (by decide +kernel) rfl
theorem kCO_X1_begin : (Cond.code yX1_begin cX1_begin 3 none) ∈ TA := ta 207 (by decide +kernel) rfl
theorem kML_X1_49 : (Cond.methodLink RX1 49 yX4_fill) ∈ TA := ta 208 (by decide +kernel) rfl
theorem kIM_X4_fill : (Cond.instanceMethod yX4_fill) ∈ TA := ta 209 (by decide +kernel) rfl
theorem kSE_X4_fill : (Cond.selects RX4 yX4_fill yX4_fill) ∈ TA := ta 210 (by decide +kernel) rfl
theorem kCO_X4_fill : (Cond.code yX4_fill cX4_fill 3 none) ∈ TA := ta 211 (by decide +kernel) rfl
theorem kFL_X6_12 : (Cond.fieldLink RX6 12 "NemaGrid" "pixels" "LNemaGrid$Pixels;") ∈ TA := ta 212 (by decide +kernel) rfl
theorem kFL_X6_21 : (Cond.fieldLink RX6 21 "NemaGrid" "matter" "LNemaGrid$Matter;") ∈ TA := ta 213 (by decide +kernel) rfl
theorem kFL_X6_30 : (Cond.fieldLink RX6 30 "NemaGrid" "windings" "LNemaGrid$Windings;") ∈ TA := ta 214 (by decide +kernel) rfl
theorem kFL_X6_37 : (Cond.fieldLink RX6 37 "NemaGrid" "drives" "LNemaGrid$Drives;") ∈ TA := ta 215 (by decide +kernel) rfl
theorem kFL_X6_44 : (Cond.fieldLink RX6 44 "NemaGrid" "pictures" "LNemaGrid$Pictures;") ∈ TA := ta 216 (by decide +kernel) rfl
theorem kFL_X6_48 : (Cond.fieldLink RX6 48 "NemaGrid" "plateDirection" "I") ∈ TA := ta 217 (by decide +kernel) rfl
theorem kFL_X6_140 : (Cond.fieldLink RX6 140 "NemaGrid" "tickNow" "I") ∈ TA := ta 218 (by decide +kernel) rfl
theorem kFL_X6_196 : (Cond.fieldLink RX6 196 "NemaGrid" "work" "I") ∈ TA := ta 219 (by decide +kernel) rfl
theorem kFL_X6_155 : (Cond.fieldLink RX6 155 "NemaGrid" "heat" "I") ∈ TA := ta 220 (by decide +kernel) rfl
theorem kML_L_129 : (Cond.methodLink RL 129 yX6_now) ∈ TA := ta 240 (by decide +kernel) rfl
theorem kIM_X6_now : (Cond.instanceMethod yX6_now) ∈ TA := ta 241 (by decide +kernel) rfl
theorem kSE_X6_now : (Cond.selects RX6 yX6_now yX6_now) ∈ TA := ta 242 (by decide +kernel) rfl
theorem kCO_X6_now : (Cond.code yX6_now cX6_now 1 (some .int)) ∈ TA := ta 243 (by decide +kernel) rfl
theorem kML_L_136 : (Cond.methodLink RL 136 yX6_energy) ∈ TA := ta 244 (by decide +kernel) rfl
theorem kIM_X6_energy : (Cond.instanceMethod yX6_energy) ∈ TA := ta 245 (by decide +kernel) rfl
theorem kSE_X6_energy : (Cond.selects RX6 yX6_energy yX6_energy) ∈ TA := ta 246 (by decide +kernel) rfl
theorem kCO_X6_energy : (Cond.code yX6_energy cX6_energy 1 (some .int)) ∈ TA := ta 247 (by decide +kernel) rfl
theorem kML_L_140 : (Cond.methodLink RL 140 yX6_energyAnew) ∈ TA := ta 248 (by decide +kernel) rfl
theorem kIM_X6_energyAnew : (Cond.instanceMethod yX6_energyAnew) ∈ TA := ta 249 (by decide +kernel) rfl
theorem kSE_X6_energyAnew : (Cond.selects RX6 yX6_energyAnew yX6_energyAnew) ∈ TA := ta 250 (by decide +kernel) rfl
theorem kCO_X6_energyAnew : (Cond.code yX6_energyAnew cX6_energyAnew 1 (some .int)) ∈ TA := ta 251 (by decide +kernel) rfl
theorem kML_X6_193 : (Cond.methodLink RX6 193 yX1_sum) ∈ TA := ta 252 (by decide +kernel) rfl
theorem kIM_X1_sum : (Cond.instanceMethod yX1_sum) ∈ TA := ta 253 (by decide +kernel) rfl
theorem kSE_X1_sum : (Cond.selects RX1 yX1_sum yX1_sum) ∈ TA := ta 254 (by decide +kernel) rfl
theorem kCO_X1_sum : (Cond.code yX1_sum cX1_sum 5 (some .int)) ∈ TA := ta 255 (by decide +kernel) rfl
theorem kML_X1_88 : (Cond.methodLink RX1 88 yX1_directionAt) ∈ TA := ta 256 (by decide +kernel) rfl
theorem kIM_X1_directionAt : (Cond.instanceMethod yX1_directionAt) ∈ TA := ta 257 (by decide +kernel) rfl
theorem kSE_X1_directionAt : (Cond.selects RX1 yX1_directionAt yX1_directionAt) ∈ TA := ta 258 (by decide +kernel) rfl
theorem kCO_X1_directionAt : (Cond.code yX1_directionAt cX1_directionAt 3 (some .int)) ∈ TA := ta 259 (by decide +kernel) rfl
theorem kST_X6_numberOf : (Cond.static yX6_numberOf) ∈ TA := ta 261 (by decide +kernel) rfl
theorem kCO_X6_numberOf : (Cond.code yX6_numberOf cX6_numberOf 2 (some .int)) ∈ TA := ta 262 (by decide +kernel) rfl
theorem kML_X1_59 : (Cond.methodLink RX1 59 yX4_at) ∈ TA := ta 263 (by decide +kernel) rfl
theorem kIM_X4_at : (Cond.instanceMethod yX4_at) ∈ TA := ta 264 (by decide +kernel) rfl
theorem kSE_X4_at : (Cond.selects RX4 yX4_at yX4_at) ∈ TA := ta 265 (by decide +kernel) rfl
theorem kCO_X4_at : (Cond.code yX4_at cX4_at 2 (some .int)) ∈ TA := ta 266 (by decide +kernel) rfl
theorem kML_X1_81 : (Cond.methodLink RX1 81 yX1_heldWith) ∈ TA := ta 267 (by decide +kernel) rfl
theorem kIM_X1_heldWith : (Cond.instanceMethod yX1_heldWith) ∈ TA := ta 269 (by decide +kernel) rfl
theorem kCO_X1_heldWith : (Cond.code yX1_heldWith cX1_heldWith 5 (some .int)) ∈ TA := ta 270 (by decide +kernel) rfl
theorem kST_X6_squareApart : (Cond.static yX6_squareApart) ∈ TA := ta 272 (by decide +kernel) rfl
theorem kCO_X6_squareApart : (Cond.code yX6_squareApart cX6_squareApart 3 (some .int)) ∈ TA := ta 273 (by decide +kernel) rfl
theorem kML_X6_260 : (Cond.methodLink RX6 260 yX6_onFrom) ∈ TA := ta 274 (by decide +kernel) rfl
theorem kST_X6_onFrom : (Cond.static yX6_onFrom) ∈ TA := ta 275 (by decide +kernel) rfl
theorem kCO_X6_onFrom : (Cond.code yX6_onFrom cX6_onFrom 2 (some .int)) ∈ TA := ta 276 (by decide +kernel) rfl
theorem kML_X1_73 : (Cond.methodLink RX1 73 yX3_fieldStrength) ∈ TA := ta 277 (by decide +kernel) rfl
theorem kIM_X3_fieldStrength : (Cond.instanceMethod yX3_fieldStrength) ∈ TA := ta 278 (by decide +kernel) rfl
theorem kSE_X3_fieldStrength : (Cond.selects RX3 yX3_fieldStrength yX3_fieldStrength) ∈ TA := ta 279 (by decide +kernel) rfl
theorem kCO_X3_fieldStrength : (Cond.code yX3_fieldStrength cX3_fieldStrength 2 (some .int)) ∈ TA := ta 280 (by decide +kernel) rfl
theorem kML_X3_49 : (Cond.methodLink RX3 49 yX4_at) ∈ TA := ta 281 (by decide +kernel) rfl
theorem kML_X1_78 : (Cond.methodLink RX1 78 yX3_fieldDirection) ∈ TA := ta 282 (by decide +kernel) rfl
theorem kIM_X3_fieldDirection : (Cond.instanceMethod yX3_fieldDirection) ∈ TA := ta 283 (by decide +kernel) rfl
theorem kSE_X3_fieldDirection : (Cond.selects RX3 yX3_fieldDirection yX3_fieldDirection) ∈ TA := ta 284 (by decide +kernel) rfl
theorem kCO_X3_fieldDirection : (Cond.code yX3_fieldDirection cX3_fieldDirection 2 (some .int)) ∈ TA := ta 285 (by decide +kernel) rfl
theorem kML_X1_84 : (Cond.methodLink RX1 84 yX1_has) ∈ TA := ta 286 (by decide +kernel) rfl
theorem kIM_X1_has : (Cond.instanceMethod yX1_has) ∈ TA := ta 287 (by decide +kernel) rfl
theorem kSE_X1_has : (Cond.selects RX1 yX1_has yX1_has) ∈ TA := ta 288 (by decide +kernel) rfl
theorem kCO_X1_has : (Cond.code yX1_has cX1_has 3 (some .boolean)) ∈ TA := ta 289 (by decide +kernel) rfl
theorem kML_L_144 : (Cond.methodLink RL 144 yX6_spent) ∈ TA := ta 290 (by decide +kernel) rfl
theorem kIM_X6_spent : (Cond.instanceMethod yX6_spent) ∈ TA := ta 291 (by decide +kernel) rfl
theorem kSE_X6_spent : (Cond.selects RX6 yX6_spent yX6_spent) ∈ TA := ta 292 (by decide +kernel) rfl
theorem kCO_X6_spent : (Cond.code yX6_spent cX6_spent 2 (some .int)) ∈ TA := ta 293 (by decide +kernel) rfl
theorem kML_L_162 : (Cond.methodLink RL 162 yX6_defects) ∈ TA := ta 294 (by decide +kernel) rfl
theorem kIM_X6_defects : (Cond.instanceMethod yX6_defects) ∈ TA := ta 295 (by decide +kernel) rfl
theorem kSE_X6_defects : (Cond.selects RX6 yX6_defects yX6_defects) ∈ TA := ta 296 (by decide +kernel) rfl
theorem kCO_X6_defects : (Cond.code yX6_defects cX6_defects 1 (some .int)) ∈ TA := ta 297 (by decide +kernel) rfl
theorem kML_X6_216 : (Cond.methodLink RX6 216 yX5_count) ∈ TA := ta 298 (by decide +kernel) rfl
theorem kIM_X5_count : (Cond.instanceMethod yX5_count) ∈ TA := ta 299 (by decide +kernel) rfl
theorem kSE_X5_count : (Cond.selects RX5 yX5_count yX5_count) ∈ TA := ta 300 (by decide +kernel) rfl
theorem kCO_X5_count : (Cond.code yX5_count cX5_count 4 (some .int)) ∈ TA := ta 301 (by decide +kernel) rfl
theorem kML_X5_25 : (Cond.methodLink RX5 25 yX5_at) ∈ TA := ta 302 (by decide +kernel) rfl
theorem kIM_X5_at : (Cond.instanceMethod yX5_at) ∈ TA := ta 303 (by decide +kernel) rfl
theorem kSE_X5_at : (Cond.selects RX5 yX5_at yX5_at) ∈ TA := ta 304 (by decide +kernel) rfl
theorem kCO_X5_at : (Cond.code yX5_at cX5_at 3 (some .int)) ∈ TA := ta 305 (by decide +kernel) rfl
theorem kML_X5_21 : (Cond.methodLink RX5 21 yX5_around) ∈ TA := ta 306 (by decide +kernel) rfl
theorem kIM_X5_around : (Cond.instanceMethod yX5_around) ∈ TA := ta 307 (by decide +kernel) rfl
theorem kSE_X5_around : (Cond.selects RX5 yX5_around yX5_around) ∈ TA := ta 308 (by decide +kernel) rfl
theorem kCO_X5_around : (Cond.code yX5_around cX5_around 7 (some .int)) ∈ TA := ta 309 (by decide +kernel) rfl
theorem kML_X5_29 : (Cond.methodLink RX5 29 yX1_directionAt) ∈ TA := ta 310 (by decide +kernel) rfl
theorem kML_X5_35 : (Cond.methodLink RX5 35 yJ9_floorDiv_7cf53) ∈ TA := ta 312 (by decide +kernel) rfl
theorem kST_J9_floorDiv_7cf53 : (Cond.static yJ9_floorDiv_7cf53) ∈ TA := ta 313 (by decide +kernel) rfl
theorem kCO_J9_floorDiv_7cf53 : (Cond.code yJ9_floorDiv_7cf53 cJ9_floorDiv_7cf53 3 (some .int)) ∈ TA := ta 314 (by decide +kernel) rfl
theorem kML_L_87 : (Cond.methodLink RL 87 yL_grid) ∈ TA := ta 315 (by decide +kernel) rfl
theorem kST_L_grid : (Cond.static yL_grid) ∈ TA := ta 316 (by decide +kernel) rfl
theorem kCW_L_grid : (Cond.codeWith yL_grid cL_grid 4 (some .int) [(0, 6, 9, 13)]) ∈ TA := ta 317 (by decide +kernel) rfl
theorem kCL_L_13 : (Cond.classLink RL 13 "java/lang/IllegalArgumentException") ∈ TA := ta 318 (by decide +kernel) rfl
theorem kML_L_7 : (Cond.methodLink RL 7 yX6_grid) ∈ TA := ta 319 (by decide +kernel) rfl
theorem kIM_X6_grid : (Cond.instanceMethod yX6_grid) ∈ TA := ta 320 (by decide +kernel) rfl
theorem kSE_X6_grid : (Cond.selects RX6 yX6_grid yX6_grid) ∈ TA := ta 321 (by decide +kernel) rfl
theorem kCO_X6_grid : (Cond.code yX6_grid cX6_grid 3 none) ∈ TA := ta 322 (by decide +kernel) rfl
theorem kML_X6_56 : (Cond.methodLink RX6 56 yX6_isIn) ∈ TA := ta 323 (by decide +kernel) rfl
theorem kST_X6_isIn : (Cond.static yX6_isIn) ∈ TA := ta 324 (by decide +kernel) rfl
theorem kCO_X6_isIn : (Cond.code yX6_isIn cX6_isIn 3 (some .boolean)) ∈ TA := ta 325 (by decide +kernel) rfl
theorem kCL_X6_60 : (Cond.classLink RX6 60 "java/lang/IllegalArgumentException") ∈ TA := ta 326 (by decide +kernel) rfl
theorem kCA_IllegalArgumentException : (Cond.castable "java/lang/IllegalArgumentException" "java/lang/IllegalArgumentException") ∈ lw_tbl := List.mem_of_getElem? (i := 328) (by decide +kernel)
theorem kAR_byte : (Cond.arrayClass .byte) ∈ TA := ta 393 (by decide +kernel) rfl
theorem kML_L_96 : (Cond.methodLink RL 96 yL_costs) ∈ TA := ta 394 (by decide +kernel) rfl
theorem kST_L_costs : (Cond.static yL_costs) ∈ TA := ta 395 (by decide +kernel) rfl
theorem kCW_L_costs : (Cond.codeWith yL_costs cL_costs 5 (some .int) [(0, 10, 13, 13)]) ∈ TA := ta 396 (by decide +kernel) rfl
theorem kML_L_15 : (Cond.methodLink RL 15 yX6_costs) ∈ TA := ta 397 (by decide +kernel) rfl
theorem kIM_X6_costs : (Cond.instanceMethod yX6_costs) ∈ TA := ta 398 (by decide +kernel) rfl
theorem kSE_X6_costs : (Cond.selects RX6 yX6_costs yX6_costs) ∈ TA := ta 399 (by decide +kernel) rfl
theorem kCO_X6_costs : (Cond.code yX6_costs cX6_costs 3 (some .int)) ∈ TA := ta 400 (by decide +kernel) rfl
theorem kML_X6_69 : (Cond.methodLink RX6 69 yX1_price) ∈ TA := ta 402 (by decide +kernel) rfl
theorem kIM_X1_price : (Cond.instanceMethod yX1_price) ∈ TA := ta 403 (by decide +kernel) rfl
theorem kSE_X1_price : (Cond.selects RX1 yX1_price yX1_price) ∈ TA := ta 404 (by decide +kernel) rfl
theorem kCO_X1_price : (Cond.code yX1_price cX1_price 3 (some .int)) ∈ TA := ta 405 (by decide +kernel) rfl
theorem kML_X1_95 : (Cond.methodLink RX1 95 yX1_sum) ∈ TA := ta 406 (by decide +kernel) rfl
theorem kML_X1_99 : (Cond.methodLink RX1 99 yX1_grown) ∈ TA := ta 407 (by decide +kernel) rfl
theorem kIM_X1_grown : (Cond.instanceMethod yX1_grown) ∈ TA := ta 409 (by decide +kernel) rfl
theorem kCO_X1_grown : (Cond.code yX1_grown cX1_grown 2 (some .int)) ∈ TA := ta 410 (by decide +kernel) rfl
theorem kML_X6_73 : (Cond.methodLink RX6 73 yX6_worked) ∈ TA := ta 411 (by decide +kernel) rfl
theorem kIM_X6_worked : (Cond.instanceMethod yX6_worked) ∈ TA := ta 413 (by decide +kernel) rfl
theorem kCO_X6_worked : (Cond.code yX6_worked cX6_worked 2 (some .int)) ∈ TA := ta 414 (by decide +kernel) rfl
theorem kML_L_100 : (Cond.methodLink RL 100 yL_turn) ∈ TA := ta 415 (by decide +kernel) rfl
theorem kST_L_turn : (Cond.static yL_turn) ∈ TA := ta 416 (by decide +kernel) rfl
theorem kCW_L_turn : (Cond.codeWith yL_turn cL_turn 6 (some .int) [(0, 12, 15, 23), (0, 12, 19, 13), (0, 12, 23, 25)]) ∈ TA := ta 417 (by decide +kernel) rfl
theorem kCL_L_23 : (Cond.classLink RL 23 "java/lang/IndexOutOfBoundsException") ∈ TA := ta 418 (by decide +kernel) rfl
theorem kCL_L_25 : (Cond.classLink RL 25 "java/lang/IllegalStateException") ∈ TA := ta 419 (by decide +kernel) rfl
theorem kML_L_19 : (Cond.methodLink RL 19 yX6_turn) ∈ TA := ta 420 (by decide +kernel) rfl
theorem kIM_X6_turn : (Cond.instanceMethod yX6_turn) ∈ TA := ta 421 (by decide +kernel) rfl
theorem kSE_X6_turn : (Cond.selects RX6 yX6_turn yX6_turn) ∈ TA := ta 422 (by decide +kernel) rfl
theorem kCO_X6_turn : (Cond.code yX6_turn cX6_turn 4 (some .int)) ∈ TA := ta 423 (by decide +kernel) rfl
theorem kML_X6_77 : (Cond.methodLink RX6 77 yX1_has) ∈ TA := ta 424 (by decide +kernel) rfl
theorem kCL_X6_81 : (Cond.classLink RX6 81 "java/lang/IndexOutOfBoundsException") ∈ TA := ta 425 (by decide +kernel) rfl
theorem kCA_IndexOutOfBoundsException : (Cond.castable "java/lang/IndexOutOfBoundsException" "java/lang/IndexOutOfBoundsException") ∈ lw_tbl := List.mem_of_getElem? (i := 427) (by decide +kernel)
theorem kML_X6_86 : (Cond.methodLink RX6 86 yX6_isDirection) ∈ TA := ta 441 (by decide +kernel) rfl
theorem kST_X6_isDirection : (Cond.static yX6_isDirection) ∈ TA := ta 442 (by decide +kernel) rfl
theorem kCO_X6_isDirection : (Cond.code yX6_isDirection cX6_isDirection 1 (some .boolean)) ∈ TA := ta 443 (by decide +kernel) rfl
theorem kML_X6_92 : (Cond.methodLink RX6 92 yX1_kindAt) ∈ TA := ta 445 (by decide +kernel) rfl
theorem kIM_X1_kindAt : (Cond.instanceMethod yX1_kindAt) ∈ TA := ta 446 (by decide +kernel) rfl
theorem kSE_X1_kindAt : (Cond.selects RX1 yX1_kindAt yX1_kindAt) ∈ TA := ta 447 (by decide +kernel) rfl
theorem kCO_X1_kindAt : (Cond.code yX1_kindAt cX1_kindAt 3 (some .int)) ∈ TA := ta 448 (by decide +kernel) rfl
theorem kCL_X6_95 : (Cond.classLink RX6 95 "java/lang/IllegalStateException") ∈ TA := ta 449 (by decide +kernel) rfl
theorem kCA_IllegalStateException : (Cond.castable "java/lang/IllegalStateException" "java/lang/IllegalStateException") ∈ lw_tbl := List.mem_of_getElem? (i := 451) (by decide +kernel)
theorem kML_X6_100 : (Cond.methodLink RX6 100 yX1_turnTo) ∈ TA := ta 465 (by decide +kernel) rfl
theorem kIM_X1_turnTo : (Cond.instanceMethod yX1_turnTo) ∈ TA := ta 466 (by decide +kernel) rfl
theorem kSE_X1_turnTo : (Cond.selects RX1 yX1_turnTo yX1_turnTo) ∈ TA := ta 467 (by decide +kernel) rfl
theorem kCO_X1_turnTo : (Cond.code yX1_turnTo cX1_turnTo 5 (some .int)) ∈ TA := ta 468 (by decide +kernel) rfl
theorem kML_X1_102 : (Cond.methodLink RX1 102 yX1_energyAt) ∈ TA := ta 469 (by decide +kernel) rfl
theorem kIM_X1_energyAt : (Cond.instanceMethod yX1_energyAt) ∈ TA := ta 470 (by decide +kernel) rfl
theorem kSE_X1_energyAt : (Cond.selects RX1 yX1_energyAt yX1_energyAt) ∈ TA := ta 471 (by decide +kernel) rfl
theorem kCO_X1_energyAt : (Cond.code yX1_energyAt cX1_energyAt 3 (some .int)) ∈ TA := ta 472 (by decide +kernel) rfl
theorem kML_X1_91 : (Cond.methodLink RX1 91 yX1_energyWith) ∈ TA := ta 473 (by decide +kernel) rfl
theorem kIM_X1_energyWith : (Cond.instanceMethod yX1_energyWith) ∈ TA := ta 474 (by decide +kernel) rfl
theorem kSE_X1_energyWith : (Cond.selects RX1 yX1_energyWith yX1_energyWith) ∈ TA := ta 475 (by decide +kernel) rfl
theorem kCO_X1_energyWith : (Cond.code yX1_energyWith cX1_energyWith 5 (some .int)) ∈ TA := ta 476 (by decide +kernel) rfl
theorem kML_X1_66 : (Cond.methodLink RX1 66 yX4_put) ∈ TA := ta 477 (by decide +kernel) rfl
theorem kIM_X4_put : (Cond.instanceMethod yX4_put) ∈ TA := ta 478 (by decide +kernel) rfl
theorem kSE_X4_put : (Cond.selects RX4 yX4_put yX4_put) ∈ TA := ta 479 (by decide +kernel) rfl
theorem kCO_X4_put : (Cond.code yX4_put cX4_put 3 none) ∈ TA := ta 480 (by decide +kernel) rfl
theorem kML_L_104 : (Cond.methodLink RL 104 yL_anchor) ∈ TA := ta 481 (by decide +kernel) rfl
theorem kST_L_anchor : (Cond.static yL_anchor) ∈ TA := ta 482 (by decide +kernel) rfl
theorem kCW_L_anchor : (Cond.codeWith yL_anchor cL_anchor 8 (some .int) [(0, 16, 19, 23), (0, 16, 23, 13)]) ∈ TA := ta 483 (by decide +kernel) rfl
theorem kML_L_27 : (Cond.methodLink RL 27 yX6_anchor) ∈ TA := ta 484 (by decide +kernel) rfl
theorem kIM_X6_anchor : (Cond.instanceMethod yX6_anchor) ∈ TA := ta 485 (by decide +kernel) rfl
theorem kSE_X6_anchor : (Cond.selects RX6 yX6_anchor yX6_anchor) ∈ TA := ta 486 (by decide +kernel) rfl
theorem kCO_X6_anchor : (Cond.code yX6_anchor cX6_anchor 6 (some .int)) ∈ TA := ta 487 (by decide +kernel) rfl
theorem kML_X6_106 : (Cond.methodLink RX6 106 yX1_hold) ∈ TA := ta 489 (by decide +kernel) rfl
theorem kIM_X1_hold : (Cond.instanceMethod yX1_hold) ∈ TA := ta 490 (by decide +kernel) rfl
theorem kSE_X1_hold : (Cond.selects RX1 yX1_hold yX1_hold) ∈ TA := ta 491 (by decide +kernel) rfl
theorem kCO_X1_hold : (Cond.code yX1_hold cX1_hold 8 (some .int)) ∈ TA := ta 492 (by decide +kernel) rfl
theorem kML_L_108 : (Cond.methodLink RL 108 yL_pixel) ∈ TA := ta 493 (by decide +kernel) rfl
theorem kST_L_pixel : (Cond.static yL_pixel) ∈ TA := ta 494 (by decide +kernel) rfl
theorem kCW_L_pixel : (Cond.codeWith yL_pixel cL_pixel 7 (some .int) [(0, 14, 17, 23), (0, 14, 21, 13), (0, 14, 25, 25)]) ∈ TA := ta 495 (by decide +kernel) rfl
theorem kML_L_31 : (Cond.methodLink RL 31 yX6_pixel) ∈ TA := ta 496 (by decide +kernel) rfl
theorem kIM_X6_pixel : (Cond.instanceMethod yX6_pixel) ∈ TA := ta 497 (by decide +kernel) rfl
theorem kSE_X6_pixel : (Cond.selects RX6 yX6_pixel yX6_pixel) ∈ TA := ta 498 (by decide +kernel) rfl
theorem kCO_X6_pixel : (Cond.code yX6_pixel cX6_pixel 6 (some .int)) ∈ TA := ta 499 (by decide +kernel) rfl
theorem kML_X6_117 : (Cond.methodLink RX6 117 yX1_hasPixelIn) ∈ TA := ta 502 (by decide +kernel) rfl
theorem kIM_X1_hasPixelIn : (Cond.instanceMethod yX1_hasPixelIn) ∈ TA := ta 503 (by decide +kernel) rfl
theorem kSE_X1_hasPixelIn : (Cond.selects RX1 yX1_hasPixelIn yX1_hasPixelIn) ∈ TA := ta 504 (by decide +kernel) rfl
theorem kCO_X1_hasPixelIn : (Cond.code yX1_hasPixelIn cX1_hasPixelIn 7 (some .boolean)) ∈ TA := ta 505 (by decide +kernel) rfl
theorem kML_X1_63 : (Cond.methodLink RX1 63 yX1_pixelAt) ∈ TA := ta 506 (by decide +kernel) rfl
theorem kIM_X1_pixelAt : (Cond.instanceMethod yX1_pixelAt) ∈ TA := ta 507 (by decide +kernel) rfl
theorem kSE_X1_pixelAt : (Cond.selects RX1 yX1_pixelAt yX1_pixelAt) ∈ TA := ta 508 (by decide +kernel) rfl
theorem kCO_X1_pixelAt : (Cond.code yX1_pixelAt cX1_pixelAt 3 (some .int)) ∈ TA := ta 509 (by decide +kernel) rfl
theorem kML_X6_123 : (Cond.methodLink RX6 123 yX3_make) ∈ TA := ta 511 (by decide +kernel) rfl
theorem kIM_X3_make : (Cond.instanceMethod yX3_make) ∈ TA := ta 512 (by decide +kernel) rfl
theorem kSE_X3_make : (Cond.selects RX3 yX3_make yX3_make) ∈ TA := ta 513 (by decide +kernel) rfl
theorem kCO_X3_make : (Cond.code yX3_make cX3_make 6 (some .int)) ∈ TA := ta 514 (by decide +kernel) rfl
theorem kML_X3_45 : (Cond.methodLink RX3 45 yX4_put) ∈ TA := ta 515 (by decide +kernel) rfl
theorem kML_X6_127 : (Cond.methodLink RX6 127 yX1_mark) ∈ TA := ta 516 (by decide +kernel) rfl
theorem kIM_X1_mark : (Cond.instanceMethod yX1_mark) ∈ TA := ta 517 (by decide +kernel) rfl
theorem kSE_X1_mark : (Cond.selects RX1 yX1_mark yX1_mark) ∈ TA := ta 518 (by decide +kernel) rfl
theorem kCO_X1_mark : (Cond.code yX1_mark cX1_mark 8 none) ∈ TA := ta 519 (by decide +kernel) rfl
theorem kML_L_112 : (Cond.methodLink RL 112 yL_drive) ∈ TA := ta 520 (by decide +kernel) rfl
theorem kST_L_drive : (Cond.static yL_drive) ∈ TA := ta 521 (by decide +kernel) rfl
theorem kCW_L_drive : (Cond.codeWith yL_drive cL_drive 6 (some .int) [(0, 12, 15, 23), (0, 12, 19, 13)]) ∈ TA := ta 522 (by decide +kernel) rfl
theorem kML_L_35 : (Cond.methodLink RL 35 yX6_drive) ∈ TA := ta 523 (by decide +kernel) rfl
theorem kIM_X6_drive : (Cond.instanceMethod yX6_drive) ∈ TA := ta 524 (by decide +kernel) rfl
theorem kSE_X6_drive : (Cond.selects RX6 yX6_drive yX6_drive) ∈ TA := ta 525 (by decide +kernel) rfl
theorem kCO_X6_drive : (Cond.code yX6_drive cX6_drive 4 (some .int)) ∈ TA := ta 526 (by decide +kernel) rfl
theorem kML_X6_131 : (Cond.methodLink RX6 131 yX3_has) ∈ TA := ta 527 (by decide +kernel) rfl
theorem kIM_X3_has : (Cond.instanceMethod yX3_has) ∈ TA := ta 528 (by decide +kernel) rfl
theorem kSE_X3_has : (Cond.selects RX3 yX3_has yX3_has) ∈ TA := ta 529 (by decide +kernel) rfl
theorem kCO_X3_has : (Cond.code yX3_has cX3_has 2 (some .boolean)) ∈ TA := ta 530 (by decide +kernel) rfl
theorem kML_X6_137 : (Cond.methodLink RX6 137 yX1_setField) ∈ TA := ta 533 (by decide +kernel) rfl
theorem kIM_X1_setField : (Cond.instanceMethod yX1_setField) ∈ TA := ta 534 (by decide +kernel) rfl
theorem kSE_X1_setField : (Cond.selects RX1 yX1_setField yX1_setField) ∈ TA := ta 535 (by decide +kernel) rfl
theorem kCO_X1_setField : (Cond.code yX1_setField cX1_setField 5 (some .int)) ∈ TA := ta 536 (by decide +kernel) rfl
theorem kML_X1_105 : (Cond.methodLink RX1 105 yX1_heldInPixel) ∈ TA := ta 537 (by decide +kernel) rfl
theorem kIM_X1_heldInPixel : (Cond.instanceMethod yX1_heldInPixel) ∈ TA := ta 539 (by decide +kernel) rfl
theorem kCO_X1_heldInPixel : (Cond.code yX1_heldInPixel cX1_heldInPixel 9 (some .int)) ∈ TA := ta 540 (by decide +kernel) rfl
theorem kML_X1_112 : (Cond.methodLink RX1 112 yX3_left) ∈ TA := ta 541 (by decide +kernel) rfl
theorem kIM_X3_left : (Cond.instanceMethod yX3_left) ∈ TA := ta 542 (by decide +kernel) rfl
theorem kSE_X3_left : (Cond.selects RX3 yX3_left yX3_left) ∈ TA := ta 543 (by decide +kernel) rfl
theorem kCO_X3_left : (Cond.code yX3_left cX3_left 2 (some .int)) ∈ TA := ta 544 (by decide +kernel) rfl
theorem kML_X1_115 : (Cond.methodLink RX1 115 yX3_top) ∈ TA := ta 545 (by decide +kernel) rfl
theorem kIM_X3_top : (Cond.instanceMethod yX3_top) ∈ TA := ta 546 (by decide +kernel) rfl
theorem kSE_X3_top : (Cond.selects RX3 yX3_top yX3_top) ∈ TA := ta 547 (by decide +kernel) rfl
theorem kCO_X3_top : (Cond.code yX3_top cX3_top 2 (some .int)) ∈ TA := ta 548 (by decide +kernel) rfl
theorem kML_X1_118 : (Cond.methodLink RX1 118 yX3_width) ∈ TA := ta 549 (by decide +kernel) rfl
theorem kIM_X3_width : (Cond.instanceMethod yX3_width) ∈ TA := ta 550 (by decide +kernel) rfl
theorem kSE_X3_width : (Cond.selects RX3 yX3_width yX3_width) ∈ TA := ta 551 (by decide +kernel) rfl
theorem kCO_X3_width : (Cond.code yX3_width cX3_width 2 (some .int)) ∈ TA := ta 552 (by decide +kernel) rfl
theorem kML_X1_120 : (Cond.methodLink RX1 120 yX3_height) ∈ TA := ta 553 (by decide +kernel) rfl
theorem kIM_X3_height : (Cond.instanceMethod yX3_height) ∈ TA := ta 554 (by decide +kernel) rfl
theorem kSE_X3_height : (Cond.selects RX3 yX3_height yX3_height) ∈ TA := ta 555 (by decide +kernel) rfl
theorem kCO_X3_height : (Cond.code yX3_height cX3_height 2 (some .int)) ∈ TA := ta 556 (by decide +kernel) rfl
theorem kML_X1_108 : (Cond.methodLink RX1 108 yX3_setField) ∈ TA := ta 557 (by decide +kernel) rfl
theorem kIM_X3_setField : (Cond.instanceMethod yX3_setField) ∈ TA := ta 558 (by decide +kernel) rfl
theorem kSE_X3_setField : (Cond.selects RX3 yX3_setField yX3_setField) ∈ TA := ta 559 (by decide +kernel) rfl
theorem kCO_X3_setField : (Cond.code yX3_setField cX3_setField 4 none) ∈ TA := ta 560 (by decide +kernel) rfl
theorem kML_L_115 : (Cond.methodLink RL 115 yL_program) ∈ TA := ta 561 (by decide +kernel) rfl
theorem kST_L_program : (Cond.static yL_program) ∈ TA := ta 562 (by decide +kernel) rfl
theorem kCW_L_program : (Cond.codeWith yL_program cL_program 7 (some .int) [(0, 14, 17, 23), (0, 14, 21, 13), (0, 14, 25, 25)]) ∈ TA := ta 563 (by decide +kernel) rfl
theorem kML_L_38 : (Cond.methodLink RL 38 yX6_program) ∈ TA := ta 564 (by decide +kernel) rfl
theorem kIM_X6_program : (Cond.instanceMethod yX6_program) ∈ TA := ta 565 (by decide +kernel) rfl
theorem kSE_X6_program : (Cond.selects RX6 yX6_program yX6_program) ∈ TA := ta 566 (by decide +kernel) rfl
theorem kCO_X6_program : (Cond.code yX6_program cX6_program 5 (some .int)) ∈ TA := ta 567 (by decide +kernel) rfl
theorem kML_X6_148 : (Cond.methodLink RX6 148 yX0_add) ∈ TA := ta 570 (by decide +kernel) rfl
theorem kIM_X0_add : (Cond.instanceMethod yX0_add) ∈ TA := ta 571 (by decide +kernel) rfl
theorem kSE_X0_add : (Cond.selects RX0 yX0_add yX0_add) ∈ TA := ta 572 (by decide +kernel) rfl
theorem kCO_X0_add : (Cond.code yX0_add cX0_add 5 (some .int)) ∈ TA := ta 573 (by decide +kernel) rfl
theorem kML_X0_33 : (Cond.methodLink RX0 33 yX0_put) ∈ TA := ta 574 (by decide +kernel) rfl
theorem kIM_X0_put : (Cond.instanceMethod yX0_put) ∈ TA := ta 576 (by decide +kernel) rfl
theorem kCO_X0_put : (Cond.code yX0_put cX0_put 6 none) ∈ TA := ta 577 (by decide +kernel) rfl
theorem kML_X0_37 : (Cond.methodLink RX0 37 yX4_put) ∈ TA := ta 578 (by decide +kernel) rfl
theorem kML_L_118 : (Cond.methodLink RL 118 yL_tick) ∈ TA := ta 579 (by decide +kernel) rfl
theorem kST_L_tick : (Cond.static yL_tick) ∈ TA := ta 580 (by decide +kernel) rfl
theorem kCW_L_tick : (Cond.codeWith yL_tick cL_tick 4 (some .int) [(0, 9, 12, 13), (0, 9, 15, 25)]) ∈ TA := ta 581 (by decide +kernel) rfl
theorem kML_L_41 : (Cond.methodLink RL 41 yX6_tick) ∈ TA := ta 582 (by decide +kernel) rfl
theorem kIM_X6_tick : (Cond.instanceMethod yX6_tick) ∈ TA := ta 583 (by decide +kernel) rfl
theorem kSE_X6_tick : (Cond.selects RX6 yX6_tick yX6_tick) ∈ TA := ta 584 (by decide +kernel) rfl
theorem kCO_X6_tick : (Cond.code yX6_tick cX6_tick 4 (some .int)) ∈ TA := ta 585 (by decide +kernel) rfl
theorem kML_X6_158 : (Cond.methodLink RX6 158 yX0_comeAt) ∈ TA := ta 588 (by decide +kernel) rfl
theorem kIM_X0_comeAt : (Cond.instanceMethod yX0_comeAt) ∈ TA := ta 589 (by decide +kernel) rfl
theorem kSE_X0_comeAt : (Cond.selects RX0 yX0_comeAt yX0_comeAt) ∈ TA := ta 590 (by decide +kernel) rfl
theorem kCO_X0_comeAt : (Cond.code yX0_comeAt cX0_comeAt 6 (some .int)) ∈ TA := ta 591 (by decide +kernel) rfl
theorem kML_X0_40 : (Cond.methodLink RX0 40 yX4_at) ∈ TA := ta 592 (by decide +kernel) rfl
theorem kML_X0_44 : (Cond.methodLink RX0 44 yX1_setField) ∈ TA := ta 593 (by decide +kernel) rfl
theorem kML_X6_162 : (Cond.methodLink RX6 162 yX1_relax) ∈ TA := ta 594 (by decide +kernel) rfl
theorem kIM_X1_relax : (Cond.instanceMethod yX1_relax) ∈ TA := ta 595 (by decide +kernel) rfl
theorem kSE_X1_relax : (Cond.selects RX1 yX1_relax yX1_relax) ∈ TA := ta 596 (by decide +kernel) rfl
theorem kCO_X1_relax : (Cond.code yX1_relax cX1_relax 4 (some .int)) ∈ TA := ta 597 (by decide +kernel) rfl
theorem kML_X1_122 : (Cond.methodLink RX1 122 yX1_kindAt) ∈ TA := ta 598 (by decide +kernel) rfl
theorem kML_X1_125 : (Cond.methodLink RX1 125 yX1_settle) ∈ TA := ta 599 (by decide +kernel) rfl
theorem kIM_X1_settle : (Cond.instanceMethod yX1_settle) ∈ TA := ta 601 (by decide +kernel) rfl
theorem kCO_X1_settle : (Cond.code yX1_settle cX1_settle 11 none) ∈ TA := ta 602 (by decide +kernel) rfl
theorem kML_X6_166 : (Cond.methodLink RX6 166 yX6_noteGreys) ∈ TA := ta 603 (by decide +kernel) rfl
theorem kIM_X6_noteGreys : (Cond.instanceMethod yX6_noteGreys) ∈ TA := ta 605 (by decide +kernel) rfl
theorem kCO_X6_noteGreys : (Cond.code yX6_noteGreys cX6_noteGreys 2 none) ∈ TA := ta 606 (by decide +kernel) rfl
theorem kML_X6_225 : (Cond.methodLink RX6 225 yX1_greyOfPixel) ∈ TA := ta 607 (by decide +kernel) rfl
theorem kIM_X1_greyOfPixel : (Cond.instanceMethod yX1_greyOfPixel) ∈ TA := ta 608 (by decide +kernel) rfl
theorem kSE_X1_greyOfPixel : (Cond.selects RX1 yX1_greyOfPixel yX1_greyOfPixel) ∈ TA := ta 609 (by decide +kernel) rfl
theorem kCO_X1_greyOfPixel : (Cond.code yX1_greyOfPixel cX1_greyOfPixel 11 (some .int)) ∈ TA := ta 610 (by decide +kernel) rfl
theorem kST_X6_greyOf : (Cond.static yX6_greyOf) ∈ TA := ta 612 (by decide +kernel) rfl
theorem kCO_X6_greyOf : (Cond.code yX6_greyOf cX6_greyOf 3 (some .int)) ∈ TA := ta 613 (by decide +kernel) rfl
theorem kML_X6_263 : (Cond.methodLink RX6 263 yJ9_abs_0f7a4) ∈ TA := ta 614 (by decide +kernel) rfl
theorem kST_J9_abs_0f7a4 : (Cond.static yJ9_abs_0f7a4) ∈ TA := ta 615 (by decide +kernel) rfl
theorem kCO_J9_abs_0f7a4 : (Cond.code yJ9_abs_0f7a4 cJ9_abs_0f7a4 1 (some .int)) ∈ TA := ta 616 (by decide +kernel) rfl
theorem kFL_X6_268 : (Cond.fieldLink RX6 268 "NemaGrid" "GREYS" "[I") ∈ TA := ta 617 (by decide +kernel) rfl
theorem kML_X6_257 : (Cond.methodLink RX6 257 yX3_note) ∈ TA := ta 619 (by decide +kernel) rfl
theorem kIM_X3_note : (Cond.instanceMethod yX3_note) ∈ TA := ta 620 (by decide +kernel) rfl
theorem kSE_X3_note : (Cond.selects RX3 yX3_note yX3_note) ∈ TA := ta 621 (by decide +kernel) rfl
theorem kCO_X3_note : (Cond.code yX3_note cX3_note 4 none) ∈ TA := ta 622 (by decide +kernel) rfl
theorem kML_L_122 : (Cond.methodLink RL 122 yL_plates) ∈ TA := ta 623 (by decide +kernel) rfl
theorem kST_L_plates : (Cond.static yL_plates) ∈ TA := ta 624 (by decide +kernel) rfl
theorem kCW_L_plates : (Cond.codeWith yL_plates cL_plates 4 (some .int) [(0, 9, 12, 13)]) ∈ TA := ta 625 (by decide +kernel) rfl
theorem kML_L_45 : (Cond.methodLink RL 45 yX6_plates) ∈ TA := ta 626 (by decide +kernel) rfl
theorem kIM_X6_plates : (Cond.instanceMethod yX6_plates) ∈ TA := ta 627 (by decide +kernel) rfl
theorem kSE_X6_plates : (Cond.selects RX6 yX6_plates yX6_plates) ∈ TA := ta 628 (by decide +kernel) rfl
theorem kCO_X6_plates : (Cond.code yX6_plates cX6_plates 3 (some .int)) ∈ TA := ta 629 (by decide +kernel) rfl
theorem kML_L_125 : (Cond.methodLink RL 125 yL_picture) ∈ TA := ta 630 (by decide +kernel) rfl
theorem kST_L_picture : (Cond.static yL_picture) ∈ TA := ta 631 (by decide +kernel) rfl
theorem kCW_L_picture : (Cond.codeWith yL_picture cL_picture 3 (some .int) [(0, 8, 11, 25)]) ∈ TA := ta 632 (by decide +kernel) rfl
theorem kML_L_48 : (Cond.methodLink RL 48 yX6_picture) ∈ TA := ta 633 (by decide +kernel) rfl
theorem kIM_X6_picture : (Cond.instanceMethod yX6_picture) ∈ TA := ta 634 (by decide +kernel) rfl
theorem kSE_X6_picture : (Cond.selects RX6 yX6_picture yX6_picture) ∈ TA := ta 635 (by decide +kernel) rfl
theorem kCO_X6_picture : (Cond.code yX6_picture cX6_picture 1 (some .int)) ∈ TA := ta 636 (by decide +kernel) rfl
theorem kML_X6_172 : (Cond.methodLink RX6 172 yX2_take) ∈ TA := ta 638 (by decide +kernel) rfl
theorem kIM_X2_take : (Cond.instanceMethod yX2_take) ∈ TA := ta 639 (by decide +kernel) rfl
theorem kSE_X2_take : (Cond.selects RX2 yX2_take yX2_take) ∈ TA := ta 640 (by decide +kernel) rfl
theorem kCO_X2_take : (Cond.code yX2_take cX2_take 6 (some .int)) ∈ TA := ta 641 (by decide +kernel) rfl
theorem kML_X2_27 : (Cond.methodLink RX2 27 yX4_put) ∈ TA := ta 642 (by decide +kernel) rfl
theorem kML_X2_43 : (Cond.methodLink RX2 43 yX1_directionAt) ∈ TA := ta 644 (by decide +kernel) rfl
theorem kML_L_133 : (Cond.methodLink RL 133 yL_told) ∈ TA := ta 646 (by decide +kernel) rfl
theorem kST_L_told : (Cond.static yL_told) ∈ TA := ta 647 (by decide +kernel) rfl
theorem kCW_L_told : (Cond.codeWith yL_told cL_told 6 (some .int) [(0, 12, 15, 23), (0, 12, 19, 13)]) ∈ TA := ta 648 (by decide +kernel) rfl
theorem kML_L_52 : (Cond.methodLink RL 52 yX6_told) ∈ TA := ta 649 (by decide +kernel) rfl
theorem kIM_X6_told : (Cond.instanceMethod yX6_told) ∈ TA := ta 650 (by decide +kernel) rfl
theorem kSE_X6_told : (Cond.selects RX6 yX6_told yX6_told) ∈ TA := ta 651 (by decide +kernel) rfl
theorem kCO_X6_told : (Cond.code yX6_told cX6_told 4 (some .int)) ∈ TA := ta 652 (by decide +kernel) rfl
theorem kML_X6_176 : (Cond.methodLink RX6 176 yX1_directionAt) ∈ TA := ta 653 (by decide +kernel) rfl
theorem kML_X6_179 : (Cond.methodLink RX6 179 yX1_pixelAt) ∈ TA := ta 654 (by decide +kernel) rfl
theorem kML_X6_182 : (Cond.methodLink RX6 182 yX6_greyOf) ∈ TA := ta 655 (by decide +kernel) rfl
theorem kML_X6_185 : (Cond.methodLink RX6 185 yX1_energyAt) ∈ TA := ta 656 (by decide +kernel) rfl
theorem kML_L_149 : (Cond.methodLink RL 149 yL_least) ∈ TA := ta 658 (by decide +kernel) rfl
theorem kST_L_least : (Cond.static yL_least) ∈ TA := ta 659 (by decide +kernel) rfl
theorem kCW_L_least : (Cond.codeWith yL_least cL_least 6 (some .int) [(0, 12, 15, 23)]) ∈ TA := ta 660 (by decide +kernel) rfl
theorem kML_L_55 : (Cond.methodLink RL 55 yX6_least) ∈ TA := ta 661 (by decide +kernel) rfl
theorem kIM_X6_least : (Cond.instanceMethod yX6_least) ∈ TA := ta 662 (by decide +kernel) rfl
theorem kSE_X6_least : (Cond.selects RX6 yX6_least yX6_least) ∈ TA := ta 663 (by decide +kernel) rfl
theorem kCO_X6_least : (Cond.code yX6_least cX6_least 4 (some .int)) ∈ TA := ta 664 (by decide +kernel) rfl
theorem kML_X6_199 : (Cond.methodLink RX6 199 yX1_leastOfTwo) ∈ TA := ta 665 (by decide +kernel) rfl
theorem kIM_X1_leastOfTwo : (Cond.instanceMethod yX1_leastOfTwo) ∈ TA := ta 666 (by decide +kernel) rfl
theorem kSE_X1_leastOfTwo : (Cond.selects RX1 yX1_leastOfTwo yX1_leastOfTwo) ∈ TA := ta 667 (by decide +kernel) rfl
theorem kCO_X1_leastOfTwo : (Cond.code yX1_leastOfTwo cX1_leastOfTwo 20 (some .int)) ∈ TA := ta 668 (by decide +kernel) rfl
theorem kML_X1_128 : (Cond.methodLink RX1 128 yJ9_min_7cf53) ∈ TA := ta 669 (by decide +kernel) rfl
theorem kST_J9_min_7cf53 : (Cond.static yJ9_min_7cf53) ∈ TA := ta 670 (by decide +kernel) rfl
theorem kCO_J9_min_7cf53 : (Cond.code yJ9_min_7cf53 cJ9_min_7cf53 2 (some .int)) ∈ TA := ta 671 (by decide +kernel) rfl
theorem kML_L_153 : (Cond.methodLink RL 153 yL_winding) ∈ TA := ta 672 (by decide +kernel) rfl
theorem kST_L_winding : (Cond.static yL_winding) ∈ TA := ta 673 (by decide +kernel) rfl
theorem kCW_L_winding : (Cond.codeWith yL_winding cL_winding 5 (some .int) [(0, 10, 13, 23)]) ∈ TA := ta 674 (by decide +kernel) rfl
theorem kML_L_59 : (Cond.methodLink RL 59 yX6_winding) ∈ TA := ta 675 (by decide +kernel) rfl
theorem kIM_X6_winding : (Cond.instanceMethod yX6_winding) ∈ TA := ta 676 (by decide +kernel) rfl
theorem kSE_X6_winding : (Cond.selects RX6 yX6_winding yX6_winding) ∈ TA := ta 677 (by decide +kernel) rfl
theorem kCO_X6_winding : (Cond.code yX6_winding cX6_winding 3 (some .int)) ∈ TA := ta 678 (by decide +kernel) rfl
theorem kML_X6_203 : (Cond.methodLink RX6 203 yX5_has) ∈ TA := ta 679 (by decide +kernel) rfl
theorem kIM_X5_has : (Cond.instanceMethod yX5_has) ∈ TA := ta 680 (by decide +kernel) rfl
theorem kSE_X5_has : (Cond.selects RX5 yX5_has yX5_has) ∈ TA := ta 681 (by decide +kernel) rfl
theorem kCO_X5_has : (Cond.code yX5_has cX5_has 3 (some .boolean)) ∈ TA := ta 682 (by decide +kernel) rfl
theorem kML_X5_15 : (Cond.methodLink RX5 15 yX1_has) ∈ TA := ta 683 (by decide +kernel) rfl
theorem kML_X6_206 : (Cond.methodLink RX6 206 yX5_at) ∈ TA := ta 685 (by decide +kernel) rfl
theorem kML_L_156 : (Cond.methodLink RL 156 yL_within) ∈ TA := ta 686 (by decide +kernel) rfl
theorem kST_L_within : (Cond.static yL_within) ∈ TA := ta 687 (by decide +kernel) rfl
theorem kCW_L_within : (Cond.codeWith yL_within cL_within 7 (some .int) [(0, 14, 17, 23), (0, 14, 21, 13)]) ∈ TA := ta 688 (by decide +kernel) rfl
theorem kML_L_62 : (Cond.methodLink RL 62 yX6_within) ∈ TA := ta 689 (by decide +kernel) rfl
theorem kIM_X6_within : (Cond.instanceMethod yX6_within) ∈ TA := ta 690 (by decide +kernel) rfl
theorem kSE_X6_within : (Cond.selects RX6 yX6_within yX6_within) ∈ TA := ta 691 (by decide +kernel) rfl
theorem kCO_X6_within : (Cond.code yX6_within cX6_within 5 (some .int)) ∈ TA := ta 692 (by decide +kernel) rfl
theorem kML_X6_211 : (Cond.methodLink RX6 211 yX5_sum) ∈ TA := ta 694 (by decide +kernel) rfl
theorem kIM_X5_sum : (Cond.instanceMethod yX5_sum) ∈ TA := ta 695 (by decide +kernel) rfl
theorem kSE_X5_sum : (Cond.selects RX5 yX5_sum yX5_sum) ∈ TA := ta 696 (by decide +kernel) rfl
theorem kCO_X5_sum : (Cond.code yX5_sum cX5_sum 8 (some .int)) ∈ TA := ta 697 (by decide +kernel) rfl
theorem kML_L_159 : (Cond.methodLink RL 159 yL_border) ∈ TA := ta 698 (by decide +kernel) rfl
theorem kST_L_border : (Cond.static yL_border) ∈ TA := ta 699 (by decide +kernel) rfl
theorem kCW_L_border : (Cond.codeWith yL_border cL_border 7 (some .int) [(0, 14, 17, 23), (0, 14, 21, 13)]) ∈ TA := ta 700 (by decide +kernel) rfl
theorem kML_L_65 : (Cond.methodLink RL 65 yX6_border) ∈ TA := ta 701 (by decide +kernel) rfl
theorem kIM_X6_border : (Cond.instanceMethod yX6_border) ∈ TA := ta 702 (by decide +kernel) rfl
theorem kSE_X6_border : (Cond.selects RX6 yX6_border yX6_border) ∈ TA := ta 703 (by decide +kernel) rfl
theorem kCO_X6_border : (Cond.code yX6_border cX6_border 5 (some .int)) ∈ TA := ta 704 (by decide +kernel) rfl
theorem kML_X6_213 : (Cond.methodLink RX6 213 yX5_around) ∈ TA := ta 705 (by decide +kernel) rfl
theorem kML_L_166 : (Cond.methodLink RL 166 yL_defect) ∈ TA := ta 706 (by decide +kernel) rfl
theorem kST_L_defect : (Cond.static yL_defect) ∈ TA := ta 707 (by decide +kernel) rfl
theorem kCW_L_defect : (Cond.codeWith yL_defect cL_defect 5 (some .int) [(0, 10, 13, 23), (0, 10, 17, 13)]) ∈ TA := ta 708 (by decide +kernel) rfl
theorem kML_L_68 : (Cond.methodLink RL 68 yX6_defect) ∈ TA := ta 709 (by decide +kernel) rfl
theorem kIM_X6_defect : (Cond.instanceMethod yX6_defect) ∈ TA := ta 710 (by decide +kernel) rfl
theorem kSE_X6_defect : (Cond.selects RX6 yX6_defect yX6_defect) ∈ TA := ta 711 (by decide +kernel) rfl
theorem kCO_X6_defect : (Cond.code yX6_defect cX6_defect 6 (some .int)) ∈ TA := ta 712 (by decide +kernel) rfl
theorem kML_X6_218 : (Cond.methodLink RX6 218 yX5_find) ∈ TA := ta 713 (by decide +kernel) rfl
theorem kIM_X5_find : (Cond.instanceMethod yX5_find) ∈ TA := ta 714 (by decide +kernel) rfl
theorem kSE_X5_find : (Cond.selects RX5 yX5_find yX5_find) ∈ TA := ta 715 (by decide +kernel) rfl
theorem kCO_X5_find : (Cond.code yX5_find cX5_find 5 (some .int)) ∈ TA := ta 716 (by decide +kernel) rfl
theorem kML_L_169 : (Cond.methodLink RL 169 yL_ofPixel) ∈ TA := ta 720 (by decide +kernel) rfl
theorem kST_L_ofPixel : (Cond.static yL_ofPixel) ∈ TA := ta 721 (by decide +kernel) rfl
theorem kCW_L_ofPixel : (Cond.codeWith yL_ofPixel cL_ofPixel 5 (some .int) [(0, 10, 13, 23), (0, 10, 17, 13)]) ∈ TA := ta 722 (by decide +kernel) rfl
theorem kML_L_71 : (Cond.methodLink RL 71 yX6_ofPixel) ∈ TA := ta 723 (by decide +kernel) rfl
theorem kIM_X6_ofPixel : (Cond.instanceMethod yX6_ofPixel) ∈ TA := ta 724 (by decide +kernel) rfl
theorem kSE_X6_ofPixel : (Cond.selects RX6 yX6_ofPixel yX6_ofPixel) ∈ TA := ta 725 (by decide +kernel) rfl
theorem kCO_X6_ofPixel : (Cond.code yX6_ofPixel cX6_ofPixel 3 (some .int)) ∈ TA := ta 726 (by decide +kernel) rfl
theorem kML_X6_228 : (Cond.methodLink RX6 228 yX3_flicker) ∈ TA := ta 727 (by decide +kernel) rfl
theorem kIM_X3_flicker : (Cond.instanceMethod yX3_flicker) ∈ TA := ta 728 (by decide +kernel) rfl
theorem kSE_X3_flicker : (Cond.selects RX3 yX3_flicker yX3_flicker) ∈ TA := ta 729 (by decide +kernel) rfl
theorem kCO_X3_flicker : (Cond.code yX3_flicker cX3_flicker 8 (some .int)) ∈ TA := ta 730 (by decide +kernel) rfl
theorem kML_X3_53 : (Cond.methodLink RX3 53 yJ9_min_7cf53) ∈ TA := ta 731 (by decide +kernel) rfl
theorem kML_X3_59 : (Cond.methodLink RX3 59 yJ9_max_7cf53) ∈ TA := ta 732 (by decide +kernel) rfl
theorem kST_J9_max_7cf53 : (Cond.static yJ9_max_7cf53) ∈ TA := ta 733 (by decide +kernel) rfl
theorem kCO_J9_max_7cf53 : (Cond.code yJ9_max_7cf53 cJ9_max_7cf53 2 (some .int)) ∈ TA := ta 734 (by decide +kernel) rfl
theorem kML_X6_231 : (Cond.methodLink RX6 231 yX5_isGood) ∈ TA := ta 735 (by decide +kernel) rfl
theorem kIM_X5_isGood : (Cond.instanceMethod yX5_isGood) ∈ TA := ta 736 (by decide +kernel) rfl
theorem kSE_X5_isGood : (Cond.selects RX5 yX5_isGood yX5_isGood) ∈ TA := ta 737 (by decide +kernel) rfl
theorem kCO_X5_isGood : (Cond.code yX5_isGood cX5_isGood 4 (some .boolean)) ∈ TA := ta 738 (by decide +kernel) rfl
theorem kML_X5_50 : (Cond.methodLink RX5 50 yX5_touches) ∈ TA := ta 739 (by decide +kernel) rfl
theorem kIM_X5_touches : (Cond.instanceMethod yX5_touches) ∈ TA := ta 741 (by decide +kernel) rfl
theorem kCO_X5_touches : (Cond.code yX5_touches cX5_touches 4 (some .boolean)) ∈ TA := ta 742 (by decide +kernel) rfl
theorem kML_X5_54 : (Cond.methodLink RX5 54 yX1_pixelAt) ∈ TA := ta 743 (by decide +kernel) rfl
theorem kML_X6_234 : (Cond.methodLink RX6 234 yX3_fieldDirection) ∈ TA := ta 744 (by decide +kernel) rfl
theorem kML_X6_237 : (Cond.methodLink RX6 237 yX3_fieldStrength) ∈ TA := ta 745 (by decide +kernel) rfl
theorem kML_L_172 : (Cond.methodLink RL 172 yL_pictured) ∈ TA := ta 746 (by decide +kernel) rfl
theorem kST_L_pictured : (Cond.static yL_pictured) ∈ TA := ta 747 (by decide +kernel) rfl
theorem kCW_L_pictured : (Cond.codeWith yL_pictured cL_pictured 6 (some .int) [(0, 12, 15, 23)]) ∈ TA := ta 748 (by decide +kernel) rfl
theorem kML_L_74 : (Cond.methodLink RL 74 yX6_pictured) ∈ TA := ta 749 (by decide +kernel) rfl
theorem kIM_X6_pictured : (Cond.instanceMethod yX6_pictured) ∈ TA := ta 750 (by decide +kernel) rfl
theorem kSE_X6_pictured : (Cond.selects RX6 yX6_pictured yX6_pictured) ∈ TA := ta 751 (by decide +kernel) rfl
theorem kCO_X6_pictured : (Cond.code yX6_pictured cX6_pictured 4 (some .int)) ∈ TA := ta 752 (by decide +kernel) rfl
theorem kML_X6_240 : (Cond.methodLink RX6 240 yX2_has) ∈ TA := ta 753 (by decide +kernel) rfl
theorem kIM_X2_has : (Cond.instanceMethod yX2_has) ∈ TA := ta 754 (by decide +kernel) rfl
theorem kSE_X2_has : (Cond.selects RX2 yX2_has yX2_has) ∈ TA := ta 755 (by decide +kernel) rfl
theorem kCO_X2_has : (Cond.code yX2_has cX2_has 2 (some .boolean)) ∈ TA := ta 756 (by decide +kernel) rfl
theorem kML_X6_243 : (Cond.methodLink RX6 243 yX2_greyAt) ∈ TA := ta 758 (by decide +kernel) rfl
theorem kIM_X2_greyAt : (Cond.instanceMethod yX2_greyAt) ∈ TA := ta 759 (by decide +kernel) rfl
theorem kSE_X2_greyAt : (Cond.selects RX2 yX2_greyAt yX2_greyAt) ∈ TA := ta 760 (by decide +kernel) rfl
theorem kCO_X2_greyAt : (Cond.code yX2_greyAt cX2_greyAt 4 (some .int)) ∈ TA := ta 761 (by decide +kernel) rfl
theorem kML_X2_49 : (Cond.methodLink RX2 49 yX4_at) ∈ TA := ta 762 (by decide +kernel) rfl
theorem kML_L_175 : (Cond.methodLink RL 175 yL_ghosts) ∈ TA := ta 763 (by decide +kernel) rfl
theorem kST_L_ghosts : (Cond.static yL_ghosts) ∈ TA := ta 764 (by decide +kernel) rfl
theorem kCW_L_ghosts : (Cond.codeWith yL_ghosts cL_ghosts 4 (some .int) [(0, 9, 12, 23)]) ∈ TA := ta 765 (by decide +kernel) rfl
theorem kML_L_77 : (Cond.methodLink RL 77 yX6_ghosts) ∈ TA := ta 766 (by decide +kernel) rfl
theorem kIM_X6_ghosts : (Cond.instanceMethod yX6_ghosts) ∈ TA := ta 767 (by decide +kernel) rfl
theorem kSE_X6_ghosts : (Cond.selects RX6 yX6_ghosts yX6_ghosts) ∈ TA := ta 768 (by decide +kernel) rfl
theorem kCO_X6_ghosts : (Cond.code yX6_ghosts cX6_ghosts 2 (some .int)) ∈ TA := ta 769 (by decide +kernel) rfl
theorem kML_X6_248 : (Cond.methodLink RX6 248 yX2_changed) ∈ TA := ta 771 (by decide +kernel) rfl
theorem kIM_X2_changed : (Cond.instanceMethod yX2_changed) ∈ TA := ta 772 (by decide +kernel) rfl
theorem kSE_X2_changed : (Cond.selects RX2 yX2_changed yX2_changed) ∈ TA := ta 773 (by decide +kernel) rfl
theorem kCO_X2_changed : (Cond.code yX2_changed cX2_changed 6 (some .int)) ∈ TA := ta 774 (by decide +kernel) rfl
theorem kML_X2_53 : (Cond.methodLink RX2 53 yX2_greyAt) ∈ TA := ta 775 (by decide +kernel) rfl
theorem kML_L_178 : (Cond.methodLink RL 178 yL_guesses) ∈ TA := ta 776 (by decide +kernel) rfl
theorem kST_L_guesses : (Cond.static yL_guesses) ∈ TA := ta 777 (by decide +kernel) rfl
theorem kCW_L_guesses : (Cond.codeWith yL_guesses cL_guesses 6 (some .int) [(0, 12, 15, 23)]) ∈ TA := ta 778 (by decide +kernel) rfl
theorem kML_L_80 : (Cond.methodLink RL 80 yX6_guesses) ∈ TA := ta 779 (by decide +kernel) rfl
theorem kIM_X6_guesses : (Cond.instanceMethod yX6_guesses) ∈ TA := ta 780 (by decide +kernel) rfl
theorem kSE_X6_guesses : (Cond.selects RX6 yX6_guesses yX6_guesses) ∈ TA := ta 781 (by decide +kernel) rfl
theorem kCO_X6_guesses : (Cond.code yX6_guesses cX6_guesses 4 (some .int)) ∈ TA := ta 782 (by decide +kernel) rfl
theorem kML_X6_251 : (Cond.methodLink RX6 251 yX2_fitting) ∈ TA := ta 783 (by decide +kernel) rfl
theorem kIM_X2_fitting : (Cond.instanceMethod yX2_fitting) ∈ TA := ta 784 (by decide +kernel) rfl
theorem kSE_X2_fitting : (Cond.selects RX2 yX2_fitting yX2_fitting) ∈ TA := ta 785 (by decide +kernel) rfl
theorem kCO_X2_fitting : (Cond.code yX2_fitting cX2_fitting 6 (some .int)) ∈ TA := ta 786 (by decide +kernel) rfl
theorem kCL_L_84 : (Cond.classLink RL 84 RX7) ∈ TA := ta 787 (by decide +kernel) rfl
theorem kIS_X7 : (Cond.instantiable RX7 27) ∈ TA := ta 788 (by decide +kernel) rfl
theorem kML_L_86 : (Cond.methodLink RL 86 yX7_init) ∈ TA := ta 789 (by decide +kernel) rfl
theorem kIM_X7_init : (Cond.instanceMethod yX7_init) ∈ TA := ta 790 (by decide +kernel) rfl
theorem kCO_X7_init : (Cond.code yX7_init cX7_init 1 none) ∈ TA := ta 791 (by decide +kernel) rfl
theorem kML_X7_1 : (Cond.methodLink RX7 1 objectInit) ∈ TA := ta 792 (by decide +kernel) rfl
theorem kML_X7_68 : (Cond.methodLink RX7 68 yX7_begin) ∈ TA := ta 793 (by decide +kernel) rfl
theorem kIM_X7_begin : (Cond.instanceMethod yX7_begin) ∈ TA := ta 795 (by decide +kernel) rfl
theorem kCO_X7_begin : (Cond.code yX7_begin cX7_begin 2 none) ∈ TA := ta 796 (by decide +kernel) rfl
theorem kFL_X7_89 : (Cond.fieldLink RX7 89 "NemaGridModel" "thrown" "I") ∈ TA := ta 797 (by decide +kernel) rfl
theorem kFL_X7_7 : (Cond.fieldLink RX7 7 "NemaGridModel" "width" "I") ∈ TA := ta 798 (by decide +kernel) rfl
theorem kFL_X7_13 : (Cond.fieldLink RX7 13 "NemaGridModel" "height" "I") ∈ TA := ta 799 (by decide +kernel) rfl
theorem kFL_X7_16 : (Cond.fieldLink RX7 16 "NemaGridModel" "across" "I") ∈ TA := ta 800 (by decide +kernel) rfl
theorem kFL_X7_19 : (Cond.fieldLink RX7 19 "NemaGridModel" "down" "I") ∈ TA := ta 801 (by decide +kernel) rfl
theorem kFL_X7_148 : (Cond.fieldLink RX7 148 "NemaGridModel" "plates" "I") ∈ TA := ta 802 (by decide +kernel) rfl
theorem kFL_X7_80 : (Cond.fieldLink RX7 80 "NemaGridModel" "now" "I") ∈ TA := ta 803 (by decide +kernel) rfl
theorem kFL_X7_83 : (Cond.fieldLink RX7 83 "NemaGridModel" "work" "I") ∈ TA := ta 804 (by decide +kernel) rfl
theorem kFL_X7_86 : (Cond.fieldLink RX7 86 "NemaGridModel" "heat" "I") ∈ TA := ta 805 (by decide +kernel) rfl
theorem kFL_X7_22 : (Cond.fieldLink RX7 22 "NemaGridModel" "direction" "[I") ∈ TA := ta 806 (by decide +kernel) rfl
theorem kFL_X7_26 : (Cond.fieldLink RX7 26 "NemaGridModel" "kind" "[I") ∈ TA := ta 807 (by decide +kernel) rfl
theorem kFL_X7_29 : (Cond.fieldLink RX7 29 "NemaGridModel" "anchorTo" "[I") ∈ TA := ta 808 (by decide +kernel) rfl
theorem kFL_X7_32 : (Cond.fieldLink RX7 32 "NemaGridModel" "strength" "[I") ∈ TA := ta 809 (by decide +kernel) rfl
theorem kFL_X7_35 : (Cond.fieldLink RX7 35 "NemaGridModel" "pixelOf" "[I") ∈ TA := ta 810 (by decide +kernel) rfl
theorem kFL_X7_71 : (Cond.fieldLink RX7 71 "NemaGridModel" "pixels" "I") ∈ TA := ta 811 (by decide +kernel) rfl
theorem kFL_X7_38 : (Cond.fieldLink RX7 38 "NemaGridModel" "fieldTo" "[I") ∈ TA := ta 812 (by decide +kernel) rfl
theorem kFL_X7_41 : (Cond.fieldLink RX7 41 "NemaGridModel" "fieldStrength" "[I") ∈ TA := ta 813 (by decide +kernel) rfl
theorem kFL_X7_44 : (Cond.fieldLink RX7 44 "NemaGridModel" "notes" "[I") ∈ TA := ta 814 (by decide +kernel) rfl
theorem kFL_X7_47 : (Cond.fieldLink RX7 47 "NemaGridModel" "noted" "[I") ∈ TA := ta 815 (by decide +kernel) rfl
theorem kFL_X7_74 : (Cond.fieldLink RX7 74 "NemaGridModel" "drives" "I") ∈ TA := ta 816 (by decide +kernel) rfl
theorem kFL_X7_50 : (Cond.fieldLink RX7 50 "NemaGridModel" "drivePixel" "[I") ∈ TA := ta 817 (by decide +kernel) rfl
theorem kFL_X7_53 : (Cond.fieldLink RX7 53 "NemaGridModel" "driveTick" "[I") ∈ TA := ta 818 (by decide +kernel) rfl
theorem kFL_X7_56 : (Cond.fieldLink RX7 56 "NemaGridModel" "driveTo" "[I") ∈ TA := ta 819 (by decide +kernel) rfl
theorem kFL_X7_59 : (Cond.fieldLink RX7 59 "NemaGridModel" "driveStrength" "[I") ∈ TA := ta 820 (by decide +kernel) rfl
theorem kFL_X7_77 : (Cond.fieldLink RX7 77 "NemaGridModel" "pictures" "I") ∈ TA := ta 821 (by decide +kernel) rfl
theorem kFL_X7_62 : (Cond.fieldLink RX7 62 "NemaGridModel" "picturePlates" "[I") ∈ TA := ta 822 (by decide +kernel) rfl
theorem kFL_X7_65 : (Cond.fieldLink RX7 65 "NemaGridModel" "pictureGrey" "[I") ∈ TA := ta 823 (by decide +kernel) rfl
theorem kML_L_93 : (Cond.methodLink RL 93 yX7_thrown) ∈ TA := ta 879 (by decide +kernel) rfl
theorem kIM_X7_thrown : (Cond.instanceMethod yX7_thrown) ∈ TA := ta 880 (by decide +kernel) rfl
theorem kSE_X7_thrown : (Cond.selects RX7 yX7_thrown yX7_thrown) ∈ TA := ta 881 (by decide +kernel) rfl
theorem kCO_X7_thrown : (Cond.code yX7_thrown cX7_thrown 1 (some .int)) ∈ TA := ta 882 (by decide +kernel) rfl
theorem kML_L_92 : (Cond.methodLink RL 92 yX7_grid) ∈ TA := ta 883 (by decide +kernel) rfl
theorem kIM_X7_grid : (Cond.instanceMethod yX7_grid) ∈ TA := ta 884 (by decide +kernel) rfl
theorem kSE_X7_grid : (Cond.selects RX7 yX7_grid yX7_grid) ∈ TA := ta 885 (by decide +kernel) rfl
theorem kCO_X7_grid : (Cond.code yX7_grid cX7_grid 3 none) ∈ TA := ta 886 (by decide +kernel) rfl
theorem kML_X7_92 : (Cond.methodLink RX7 92 yX7_in) ∈ TA := ta 887 (by decide +kernel) rfl
theorem kST_X7_in : (Cond.static yX7_in) ∈ TA := ta 888 (by decide +kernel) rfl
theorem kCO_X7_in : (Cond.code yX7_in cX7_in 3 (some .boolean)) ∈ TA := ta 889 (by decide +kernel) rfl
theorem kML_X7_122 : (Cond.methodLink RX7 122 yX7_stop) ∈ TA := ta 890 (by decide +kernel) rfl
theorem kIM_X7_stop : (Cond.instanceMethod yX7_stop) ∈ TA := ta 892 (by decide +kernel) rfl
theorem kCO_X7_stop : (Cond.code yX7_stop cX7_stop 2 (some .int)) ∈ TA := ta 893 (by decide +kernel) rfl
theorem kML_L_99 : (Cond.methodLink RL 99 yX7_costs) ∈ TA := ta 894 (by decide +kernel) rfl
theorem kIM_X7_costs : (Cond.instanceMethod yX7_costs) ∈ TA := ta 895 (by decide +kernel) rfl
theorem kSE_X7_costs : (Cond.selects RX7 yX7_costs yX7_costs) ∈ TA := ta 896 (by decide +kernel) rfl
theorem kCO_X7_costs : (Cond.code yX7_costs cX7_costs 4 (some .int)) ∈ TA := ta 897 (by decide +kernel) rfl
theorem kML_X7_118 : (Cond.methodLink RX7 118 yX7_all) ∈ TA := ta 898 (by decide +kernel) rfl
theorem kIM_X7_all : (Cond.instanceMethod yX7_all) ∈ TA := ta 900 (by decide +kernel) rfl
theorem kCO_X7_all : (Cond.code yX7_all cX7_all 5 (some .int)) ∈ TA := ta 901 (by decide +kernel) rfl
theorem kML_X7_100 : (Cond.methodLink RX7 100 yX7_cell) ∈ TA := ta 902 (by decide +kernel) rfl
theorem kST_X7_cell : (Cond.static yX7_cell) ∈ TA := ta 903 (by decide +kernel) rfl
theorem kCO_X7_cell : (Cond.code yX7_cell cX7_cell 2 (some .int)) ∈ TA := ta 904 (by decide +kernel) rfl
theorem kML_X7_110 : (Cond.methodLink RX7 110 yX7_own) ∈ TA := ta 905 (by decide +kernel) rfl
theorem kIM_X7_own : (Cond.instanceMethod yX7_own) ∈ TA := ta 907 (by decide +kernel) rfl
theorem kCO_X7_own : (Cond.code yX7_own cX7_own 7 (some .int)) ∈ TA := ta 908 (by decide +kernel) rfl
theorem kML_X7_103 : (Cond.methodLink RX7 103 yX7_square) ∈ TA := ta 909 (by decide +kernel) rfl
theorem kST_X7_square : (Cond.static yX7_square) ∈ TA := ta 910 (by decide +kernel) rfl
theorem kCO_X7_square : (Cond.code yX7_square cX7_square 3 (some .int)) ∈ TA := ta 911 (by decide +kernel) rfl
theorem kML_X7_96 : (Cond.methodLink RX7 96 yX7_on) ∈ TA := ta 912 (by decide +kernel) rfl
theorem kST_X7_on : (Cond.static yX7_on) ∈ TA := ta 913 (by decide +kernel) rfl
theorem kCO_X7_on : (Cond.code yX7_on cX7_on 2 (some .int)) ∈ TA := ta 914 (by decide +kernel) rfl
theorem kML_X7_114 : (Cond.methodLink RX7 114 yX7_pair) ∈ TA := ta 915 (by decide +kernel) rfl
theorem kIM_X7_pair : (Cond.instanceMethod yX7_pair) ∈ TA := ta 917 (by decide +kernel) rfl
theorem kCO_X7_pair : (Cond.code yX7_pair cX7_pair 6 (some .int)) ∈ TA := ta 918 (by decide +kernel) rfl
theorem kML_X7_106 : (Cond.methodLink RX7 106 yX7_isCell) ∈ TA := ta 919 (by decide +kernel) rfl
theorem kIM_X7_isCell : (Cond.instanceMethod yX7_isCell) ∈ TA := ta 921 (by decide +kernel) rfl
theorem kCO_X7_isCell : (Cond.code yX7_isCell cX7_isCell 3 (some .boolean)) ∈ TA := ta 922 (by decide +kernel) rfl
theorem kML_X7_126 : (Cond.methodLink RX7 126 yX7_worked) ∈ TA := ta 923 (by decide +kernel) rfl
theorem kIM_X7_worked : (Cond.instanceMethod yX7_worked) ∈ TA := ta 925 (by decide +kernel) rfl
theorem kCO_X7_worked : (Cond.code yX7_worked cX7_worked 3 (some .int)) ∈ TA := ta 926 (by decide +kernel) rfl
theorem kML_L_103 : (Cond.methodLink RL 103 yX7_turn) ∈ TA := ta 927 (by decide +kernel) rfl
theorem kIM_X7_turn : (Cond.instanceMethod yX7_turn) ∈ TA := ta 928 (by decide +kernel) rfl
theorem kSE_X7_turn : (Cond.selects RX7 yX7_turn yX7_turn) ∈ TA := ta 929 (by decide +kernel) rfl
theorem kCO_X7_turn : (Cond.code yX7_turn cX7_turn 5 (some .int)) ∈ TA := ta 930 (by decide +kernel) rfl
theorem kML_X7_129 : (Cond.methodLink RX7 129 yX7_isDirection) ∈ TA := ta 931 (by decide +kernel) rfl
theorem kST_X7_isDirection : (Cond.static yX7_isDirection) ∈ TA := ta 932 (by decide +kernel) rfl
theorem kCO_X7_isDirection : (Cond.code yX7_isDirection cX7_isDirection 1 (some .boolean)) ∈ TA := ta 933 (by decide +kernel) rfl
theorem kML_L_107 : (Cond.methodLink RL 107 yX7_anchor) ∈ TA := ta 934 (by decide +kernel) rfl
theorem kIM_X7_anchor : (Cond.instanceMethod yX7_anchor) ∈ TA := ta 935 (by decide +kernel) rfl
theorem kSE_X7_anchor : (Cond.selects RX7 yX7_anchor yX7_anchor) ∈ TA := ta 936 (by decide +kernel) rfl
theorem kCO_X7_anchor : (Cond.code yX7_anchor cX7_anchor 8 (some .int)) ∈ TA := ta 937 (by decide +kernel) rfl
theorem kML_L_111 : (Cond.methodLink RL 111 yX7_pixel) ∈ TA := ta 938 (by decide +kernel) rfl
theorem kIM_X7_pixel : (Cond.instanceMethod yX7_pixel) ∈ TA := ta 939 (by decide +kernel) rfl
theorem kSE_X7_pixel : (Cond.selects RX7 yX7_pixel yX7_pixel) ∈ TA := ta 940 (by decide +kernel) rfl
theorem kCO_X7_pixel : (Cond.code yX7_pixel cX7_pixel 7 (some .int)) ∈ TA := ta 941 (by decide +kernel) rfl
theorem kML_L_114 : (Cond.methodLink RL 114 yX7_drive) ∈ TA := ta 942 (by decide +kernel) rfl
theorem kIM_X7_drive : (Cond.instanceMethod yX7_drive) ∈ TA := ta 943 (by decide +kernel) rfl
theorem kSE_X7_drive : (Cond.selects RX7 yX7_drive yX7_drive) ∈ TA := ta 944 (by decide +kernel) rfl
theorem kCO_X7_drive : (Cond.code yX7_drive cX7_drive 4 (some .int)) ∈ TA := ta 945 (by decide +kernel) rfl
theorem kML_X7_133 : (Cond.methodLink RX7 133 yX7_isPixel) ∈ TA := ta 946 (by decide +kernel) rfl
theorem kIM_X7_isPixel : (Cond.instanceMethod yX7_isPixel) ∈ TA := ta 948 (by decide +kernel) rfl
theorem kCO_X7_isPixel : (Cond.code yX7_isPixel cX7_isPixel 2 (some .boolean)) ∈ TA := ta 949 (by decide +kernel) rfl
theorem kML_X7_136 : (Cond.methodLink RX7 136 yX7_driven) ∈ TA := ta 950 (by decide +kernel) rfl
theorem kIM_X7_driven : (Cond.instanceMethod yX7_driven) ∈ TA := ta 952 (by decide +kernel) rfl
theorem kCO_X7_driven : (Cond.code yX7_driven cX7_driven 5 (some .int)) ∈ TA := ta 953 (by decide +kernel) rfl
theorem kML_L_117 : (Cond.methodLink RL 117 yX7_program) ∈ TA := ta 954 (by decide +kernel) rfl
theorem kIM_X7_program : (Cond.instanceMethod yX7_program) ∈ TA := ta 955 (by decide +kernel) rfl
theorem kSE_X7_program : (Cond.selects RX7 yX7_program yX7_program) ∈ TA := ta 956 (by decide +kernel) rfl
theorem kCO_X7_program : (Cond.code yX7_program cX7_program 5 (some .int)) ∈ TA := ta 957 (by decide +kernel) rfl
theorem kML_L_121 : (Cond.methodLink RL 121 yX7_tick) ∈ TA := ta 958 (by decide +kernel) rfl
theorem kIM_X7_tick : (Cond.instanceMethod yX7_tick) ∈ TA := ta 959 (by decide +kernel) rfl
theorem kSE_X7_tick : (Cond.selects RX7 yX7_tick yX7_tick) ∈ TA := ta 960 (by decide +kernel) rfl
theorem kCO_X7_tick : (Cond.code yX7_tick cX7_tick 6 (some .int)) ∈ TA := ta 961 (by decide +kernel) rfl
theorem kML_X7_154 : (Cond.methodLink RX7 154 yX7_driveAll) ∈ TA := ta 962 (by decide +kernel) rfl
theorem kIM_X7_driveAll : (Cond.instanceMethod yX7_driveAll) ∈ TA := ta 964 (by decide +kernel) rfl
theorem kCO_X7_driveAll : (Cond.code yX7_driveAll cX7_driveAll 3 none) ∈ TA := ta 965 (by decide +kernel) rfl
theorem kML_X7_157 : (Cond.methodLink RX7 157 yX7_relax) ∈ TA := ta 966 (by decide +kernel) rfl
theorem kIM_X7_relax : (Cond.instanceMethod yX7_relax) ∈ TA := ta 968 (by decide +kernel) rfl
theorem kCO_X7_relax : (Cond.code yX7_relax cX7_relax 9 (some .int)) ∈ TA := ta 969 (by decide +kernel) rfl
theorem kML_X7_139 : (Cond.methodLink RX7 139 yX7_withAll) ∈ TA := ta 970 (by decide +kernel) rfl
theorem kIM_X7_withAll : (Cond.instanceMethod yX7_withAll) ∈ TA := ta 972 (by decide +kernel) rfl
theorem kCO_X7_withAll : (Cond.code yX7_withAll cX7_withAll 4 (some .int)) ∈ TA := ta 973 (by decide +kernel) rfl
theorem kML_X7_160 : (Cond.methodLink RX7 160 yX7_greyOfPixel) ∈ TA := ta 974 (by decide +kernel) rfl
theorem kIM_X7_greyOfPixel : (Cond.instanceMethod yX7_greyOfPixel) ∈ TA := ta 976 (by decide +kernel) rfl
theorem kCO_X7_greyOfPixel : (Cond.code yX7_greyOfPixel cX7_greyOfPixel 6 (some .int)) ∈ TA := ta 977 (by decide +kernel) rfl
theorem kML_X7_151 : (Cond.methodLink RX7 151 yX7_greyAt) ∈ TA := ta 978 (by decide +kernel) rfl
theorem kIM_X7_greyAt : (Cond.instanceMethod yX7_greyAt) ∈ TA := ta 980 (by decide +kernel) rfl
theorem kCO_X7_greyAt : (Cond.code yX7_greyAt cX7_greyAt 4 (some .int)) ∈ TA := ta 981 (by decide +kernel) rfl
theorem kML_X7_142 : (Cond.methodLink RX7 142 yX7_apart) ∈ TA := ta 982 (by decide +kernel) rfl
theorem kST_X7_apart : (Cond.static yX7_apart) ∈ TA := ta 983 (by decide +kernel) rfl
theorem kCO_X7_apart : (Cond.code yX7_apart cX7_apart 3 (some .int)) ∈ TA := ta 984 (by decide +kernel) rfl
theorem kML_X7_145 : (Cond.methodLink RX7 145 yX7_greyOf) ∈ TA := ta 985 (by decide +kernel) rfl
theorem kST_X7_greyOf : (Cond.static yX7_greyOf) ∈ TA := ta 986 (by decide +kernel) rfl
theorem kCO_X7_greyOf : (Cond.code yX7_greyOf cX7_greyOf 1 (some .int)) ∈ TA := ta 987 (by decide +kernel) rfl
theorem kML_L_124 : (Cond.methodLink RL 124 yX7_plates) ∈ TA := ta 988 (by decide +kernel) rfl
theorem kIM_X7_plates : (Cond.instanceMethod yX7_plates) ∈ TA := ta 989 (by decide +kernel) rfl
theorem kSE_X7_plates : (Cond.selects RX7 yX7_plates yX7_plates) ∈ TA := ta 990 (by decide +kernel) rfl
theorem kCO_X7_plates : (Cond.code yX7_plates cX7_plates 3 (some .int)) ∈ TA := ta 991 (by decide +kernel) rfl
theorem kML_L_128 : (Cond.methodLink RL 128 yX7_picture) ∈ TA := ta 992 (by decide +kernel) rfl
theorem kIM_X7_picture : (Cond.instanceMethod yX7_picture) ∈ TA := ta 993 (by decide +kernel) rfl
theorem kSE_X7_picture : (Cond.selects RX7 yX7_picture yX7_picture) ∈ TA := ta 994 (by decide +kernel) rfl
theorem kCO_X7_picture : (Cond.code yX7_picture cX7_picture 3 (some .int)) ∈ TA := ta 995 (by decide +kernel) rfl
theorem kML_L_132 : (Cond.methodLink RL 132 yX7_now) ∈ TA := ta 996 (by decide +kernel) rfl
theorem kIM_X7_now : (Cond.instanceMethod yX7_now) ∈ TA := ta 997 (by decide +kernel) rfl
theorem kSE_X7_now : (Cond.selects RX7 yX7_now yX7_now) ∈ TA := ta 998 (by decide +kernel) rfl
theorem kCO_X7_now : (Cond.code yX7_now cX7_now 1 (some .int)) ∈ TA := ta 999 (by decide +kernel) rfl
theorem kML_L_135 : (Cond.methodLink RL 135 yX7_told) ∈ TA := ta 1000 (by decide +kernel) rfl
theorem kIM_X7_told : (Cond.instanceMethod yX7_told) ∈ TA := ta 1001 (by decide +kernel) rfl
theorem kSE_X7_told : (Cond.selects RX7 yX7_told yX7_told) ∈ TA := ta 1002 (by decide +kernel) rfl
theorem kCO_X7_told : (Cond.code yX7_told cX7_told 5 (some .int)) ∈ TA := ta 1003 (by decide +kernel) rfl
theorem kML_L_139 : (Cond.methodLink RL 139 yX7_energy) ∈ TA := ta 1004 (by decide +kernel) rfl
theorem kIM_X7_energy : (Cond.instanceMethod yX7_energy) ∈ TA := ta 1005 (by decide +kernel) rfl
theorem kSE_X7_energy : (Cond.selects RX7 yX7_energy yX7_energy) ∈ TA := ta 1006 (by decide +kernel) rfl
theorem kCO_X7_energy : (Cond.code yX7_energy cX7_energy 1 (some .int)) ∈ TA := ta 1007 (by decide +kernel) rfl
theorem kML_L_143 : (Cond.methodLink RL 143 yX7_energyAnew) ∈ TA := ta 1008 (by decide +kernel) rfl
theorem kIM_X7_energyAnew : (Cond.instanceMethod yX7_energyAnew) ∈ TA := ta 1009 (by decide +kernel) rfl
theorem kSE_X7_energyAnew : (Cond.selects RX7 yX7_energyAnew yX7_energyAnew) ∈ TA := ta 1010 (by decide +kernel) rfl
theorem kCO_X7_energyAnew : (Cond.code yX7_energyAnew cX7_energyAnew 1 (some .int)) ∈ TA := ta 1011 (by decide +kernel) rfl
theorem kML_L_148 : (Cond.methodLink RL 148 yX7_spent) ∈ TA := ta 1012 (by decide +kernel) rfl
theorem kIM_X7_spent : (Cond.instanceMethod yX7_spent) ∈ TA := ta 1013 (by decide +kernel) rfl
theorem kSE_X7_spent : (Cond.selects RX7 yX7_spent yX7_spent) ∈ TA := ta 1014 (by decide +kernel) rfl
theorem kCO_X7_spent : (Cond.code yX7_spent cX7_spent 2 (some .int)) ∈ TA := ta 1015 (by decide +kernel) rfl
theorem kML_L_152 : (Cond.methodLink RL 152 yX7_least) ∈ TA := ta 1016 (by decide +kernel) rfl
theorem kIM_X7_least : (Cond.instanceMethod yX7_least) ∈ TA := ta 1017 (by decide +kernel) rfl
theorem kSE_X7_least : (Cond.selects RX7 yX7_least yX7_least) ∈ TA := ta 1018 (by decide +kernel) rfl
theorem kCO_X7_least : (Cond.code yX7_least cX7_least 16 (some .int)) ∈ TA := ta 1019 (by decide +kernel) rfl
theorem kCN_X7_163 : (Cond.constant RX7 163 1000000000) ∈ TA := ta 1020 (by decide +kernel) rfl
theorem kML_L_155 : (Cond.methodLink RL 155 yX7_winding) ∈ TA := ta 1021 (by decide +kernel) rfl
theorem kIM_X7_winding : (Cond.instanceMethod yX7_winding) ∈ TA := ta 1022 (by decide +kernel) rfl
theorem kSE_X7_winding : (Cond.selects RX7 yX7_winding yX7_winding) ∈ TA := ta 1023 (by decide +kernel) rfl
theorem kCO_X7_winding : (Cond.code yX7_winding cX7_winding 3 (some .int)) ∈ TA := ta 1024 (by decide +kernel) rfl
theorem kML_X7_167 : (Cond.methodLink RX7 167 yX7_windingAt) ∈ TA := ta 1025 (by decide +kernel) rfl
theorem kIM_X7_windingAt : (Cond.instanceMethod yX7_windingAt) ∈ TA := ta 1027 (by decide +kernel) rfl
theorem kCO_X7_windingAt : (Cond.code yX7_windingAt cX7_windingAt 7 (some .int)) ∈ TA := ta 1028 (by decide +kernel) rfl
theorem kML_X7_164 : (Cond.methodLink RX7 164 yX7_directionAt) ∈ TA := ta 1029 (by decide +kernel) rfl
theorem kIM_X7_directionAt : (Cond.instanceMethod yX7_directionAt) ∈ TA := ta 1031 (by decide +kernel) rfl
theorem kCO_X7_directionAt : (Cond.code yX7_directionAt cX7_directionAt 3 (some .int)) ∈ TA := ta 1032 (by decide +kernel) rfl
theorem kML_L_158 : (Cond.methodLink RL 158 yX7_within) ∈ TA := ta 1033 (by decide +kernel) rfl
theorem kIM_X7_within : (Cond.instanceMethod yX7_within) ∈ TA := ta 1034 (by decide +kernel) rfl
theorem kSE_X7_within : (Cond.selects RX7 yX7_within yX7_within) ∈ TA := ta 1035 (by decide +kernel) rfl
theorem kCO_X7_within : (Cond.code yX7_within cX7_within 8 (some .int)) ∈ TA := ta 1036 (by decide +kernel) rfl
theorem kML_X7_170 : (Cond.methodLink RX7 170 yX7_isRefused) ∈ TA := ta 1037 (by decide +kernel) rfl
theorem kIM_X7_isRefused : (Cond.instanceMethod yX7_isRefused) ∈ TA := ta 1039 (by decide +kernel) rfl
theorem kCO_X7_isRefused : (Cond.code yX7_isRefused cX7_isRefused 5 (some .boolean)) ∈ TA := ta 1040 (by decide +kernel) rfl
theorem kML_L_161 : (Cond.methodLink RL 161 yX7_border) ∈ TA := ta 1041 (by decide +kernel) rfl
theorem kIM_X7_border : (Cond.instanceMethod yX7_border) ∈ TA := ta 1042 (by decide +kernel) rfl
theorem kSE_X7_border : (Cond.selects RX7 yX7_border yX7_border) ∈ TA := ta 1043 (by decide +kernel) rfl
theorem kCO_X7_border : (Cond.code yX7_border cX7_border 7 (some .int)) ∈ TA := ta 1044 (by decide +kernel) rfl
theorem kML_L_165 : (Cond.methodLink RL 165 yX7_defects) ∈ TA := ta 1045 (by decide +kernel) rfl
theorem kIM_X7_defects : (Cond.instanceMethod yX7_defects) ∈ TA := ta 1046 (by decide +kernel) rfl
theorem kSE_X7_defects : (Cond.selects RX7 yX7_defects yX7_defects) ∈ TA := ta 1047 (by decide +kernel) rfl
theorem kCO_X7_defects : (Cond.code yX7_defects cX7_defects 4 (some .int)) ∈ TA := ta 1048 (by decide +kernel) rfl
theorem kML_L_168 : (Cond.methodLink RL 168 yX7_defect) ∈ TA := ta 1049 (by decide +kernel) rfl
theorem kIM_X7_defect : (Cond.instanceMethod yX7_defect) ∈ TA := ta 1050 (by decide +kernel) rfl
theorem kSE_X7_defect : (Cond.selects RX7 yX7_defect yX7_defect) ∈ TA := ta 1051 (by decide +kernel) rfl
theorem kCO_X7_defect : (Cond.code yX7_defect cX7_defect 8 (some .int)) ∈ TA := ta 1052 (by decide +kernel) rfl
theorem kML_L_171 : (Cond.methodLink RL 171 yX7_ofPixel) ∈ TA := ta 1053 (by decide +kernel) rfl
theorem kIM_X7_ofPixel : (Cond.instanceMethod yX7_ofPixel) ∈ TA := ta 1054 (by decide +kernel) rfl
theorem kSE_X7_ofPixel : (Cond.selects RX7 yX7_ofPixel yX7_ofPixel) ∈ TA := ta 1055 (by decide +kernel) rfl
theorem kCO_X7_ofPixel : (Cond.code yX7_ofPixel cX7_ofPixel 3 (some .int)) ∈ TA := ta 1056 (by decide +kernel) rfl
theorem kML_X7_174 : (Cond.methodLink RX7 174 yX7_flickers) ∈ TA := ta 1057 (by decide +kernel) rfl
theorem kIM_X7_flickers : (Cond.instanceMethod yX7_flickers) ∈ TA := ta 1059 (by decide +kernel) rfl
theorem kCO_X7_flickers : (Cond.code yX7_flickers cX7_flickers 7 (some .int)) ∈ TA := ta 1060 (by decide +kernel) rfl
theorem kML_X7_177 : (Cond.methodLink RX7 177 yX7_isGood) ∈ TA := ta 1061 (by decide +kernel) rfl
theorem kIM_X7_isGood : (Cond.instanceMethod yX7_isGood) ∈ TA := ta 1063 (by decide +kernel) rfl
theorem kCO_X7_isGood : (Cond.code yX7_isGood cX7_isGood 5 (some .boolean)) ∈ TA := ta 1064 (by decide +kernel) rfl
theorem kML_L_174 : (Cond.methodLink RL 174 yX7_pictured) ∈ TA := ta 1065 (by decide +kernel) rfl
theorem kIM_X7_pictured : (Cond.instanceMethod yX7_pictured) ∈ TA := ta 1066 (by decide +kernel) rfl
theorem kSE_X7_pictured : (Cond.selects RX7 yX7_pictured yX7_pictured) ∈ TA := ta 1067 (by decide +kernel) rfl
theorem kCO_X7_pictured : (Cond.code yX7_pictured cX7_pictured 4 (some .int)) ∈ TA := ta 1068 (by decide +kernel) rfl
theorem kML_L_177 : (Cond.methodLink RL 177 yX7_ghosts) ∈ TA := ta 1069 (by decide +kernel) rfl
theorem kIM_X7_ghosts : (Cond.instanceMethod yX7_ghosts) ∈ TA := ta 1070 (by decide +kernel) rfl
theorem kSE_X7_ghosts : (Cond.selects RX7 yX7_ghosts yX7_ghosts) ∈ TA := ta 1071 (by decide +kernel) rfl
theorem kCO_X7_ghosts : (Cond.code yX7_ghosts cX7_ghosts 5 (some .int)) ∈ TA := ta 1072 (by decide +kernel) rfl
theorem kML_L_180 : (Cond.methodLink RL 180 yX7_guesses) ∈ TA := ta 1073 (by decide +kernel) rfl
theorem kIM_X7_guesses : (Cond.instanceMethod yX7_guesses) ∈ TA := ta 1074 (by decide +kernel) rfl
theorem kSE_X7_guesses : (Cond.selects RX7 yX7_guesses yX7_guesses) ∈ TA := ta 1075 (by decide +kernel) rfl
theorem kCO_X7_guesses : (Cond.code yX7_guesses cX7_guesses 6 (some .int)) ∈ TA := ta 1076 (by decide +kernel) rfl
theorem kAR_long : (Cond.arrayClass .long) ∈ TA := ta 1077 (by decide +kernel) rfl
theorem inAX0 : ∀ w ∈ u_ws RX0 TX0 5, w ∈ TA := by decide +kernel
theorem inAX1 : ∀ w ∈ u_ws RX1 TX1 11, w ∈ TA := by decide +kernel
theorem inAX2 : ∀ w ∈ u_ws RX2 TX2 3, w ∈ TA := by decide +kernel
theorem inAX3 : ∀ w ∈ u_ws RX3 TX3 9, w ∈ TA := by decide +kernel
theorem inAX4 : ∀ w ∈ u_ws RX4 TX4 1, w ∈ TA := by decide +kernel
theorem inAX5 : ∀ w ∈ u_ws RX5 TX5 1, w ∈ TA := by decide +kernel
theorem inAX6 : ∀ w ∈ u_ws RX6 TX6 9, w ∈ TA := by decide +kernel
theorem inAX7 : ∀ w ∈ u_ws RX7 TX7 27, w ∈ TA := by decide +kernel
end
section
section WORLD
abbrev classes : List vw_C := [(RX0, TX0, 5), (RX1, TX1, 11), (RX2, TX2, 3), (RX3, TX3, 9), (RX4, TX4, 1), (RX5, TX5, 1), (RX6, TX6, 9), (RX7, TX7, 27)]
/-- the cells of the class: NemaGrid, Pixels, Matter, Windings, Drives, Pictures, nineteen rows, their arrays; I: the int fields, A: the arrays -/
def cw (cyI : ClassId) (ad : Nat → Nat) (I : Nat → Int32) (A : Nat → Nat → Int32) : va_W := [(ad 0, .inr (6, [.ref (ad 1), .ref (ad 2), .ref (ad 3), .ref (ad 4), .ref (ad 5), .int (I 0), .int (I 1), .int (I 2), .int (I 3)])), (ad 1, .inr (3, [.ref (ad 6), .ref (ad 7), .ref (ad 8), .ref (ad 9), .ref (ad 10), .ref (ad 11), .ref (ad 12), .ref (ad 13), .int (I 4)])), (ad 2, .inr (1, [.ref (ad 14), .ref (ad 15), .ref (ad 16), .ref (ad 17), .ref (ad 18), .ref (ad 1), .int (I 5), .int (I 6), .int (I 7), .int (I 8), .int (I 9)])), (ad 3, .inr (5, [.ref (ad 2)])), (ad 4, .inr (0, [.ref (ad 19), .ref (ad 20), .ref (ad 21), .ref (ad 22), .int (I 10)])), (ad 5, .inr (2, [.ref (ad 23), .ref (ad 24), .int (I 11)])), (ad 6, .inr (4, [.ref (ad 25)])), (ad 7, .inr (4, [.ref (ad 26)])), (ad 8, .inr (4, [.ref (ad 27)])), (ad 9, .inr (4, [.ref (ad 28)])), (ad 10, .inr (4, [.ref (ad 29)])), (ad 11, .inr (4, [.ref (ad 30)])), (ad 12, .inr (4, [.ref (ad 31)])), (ad 13, .inr (4, [.ref (ad 32)])), (ad 14, .inr (4, [.ref (ad 33)])), (ad 15, .inr (4, [.ref (ad 34)])), (ad 16, .inr (4, [.ref (ad 35)])), (ad 17, .inr (4, [.ref (ad 36)])), (ad 18, .inr (4, [.ref (ad 37)])), (ad 19, .inr (4, [.ref (ad 38)])), (ad 20, .inr (4, [.ref (ad 39)])), (ad 21, .inr (4, [.ref (ad 40)])), (ad 22, .inr (4, [.ref (ad 41)])), (ad 23, .inr (4, [.ref (ad 42)])), (ad 24, .inr (4, [.ref (ad 43)])), (ad 25, .inl (cyI, 8, .inl (A 0))), (ad 26, .inl (cyI, 8, .inl (A 1))), (ad 27, .inl (cyI, 8, .inl (A 2))), (ad 28, .inl (cyI, 8, .inl (A 3))), (ad 29, .inl (cyI, 8, .inl (A 4))), (ad 30, .inl (cyI, 8, .inl (A 5))), (ad 31, .inl (cyI, 8, .inl (A 6))), (ad 32, .inl (cyI, 64, .inl (A 7))), (ad 33, .inl (cyI, 144, .inl (A 8))), (ad 34, .inl (cyI, 144, .inl (A 9))), (ad 35, .inl (cyI, 144, .inl (A 10))), (ad 36, .inl (cyI, 144, .inl (A 11))), (ad 37, .inl (cyI, 144, .inl (A 12))), (ad 38, .inl (cyI, 40, .inl (A 13))), (ad 39, .inl (cyI, 40, .inl (A 14))), (ad 40, .inl (cyI, 40, .inl (A 15))), (ad 41, .inl (cyI, 40, .inl (A 16))), (ad 42, .inl (cyI, 10, .inl (A 17))), (ad 43, .inl (cyI, 1440, .inl (A 18)))]
/-- the cells of the reference -/
def mw (cyI : ClassId) (ad : Nat → Nat) (I : Nat → Int32) (A : Nat → Nat → Int32) : va_W := [(ad 0, .inr (7, [.int (I 0), .int (I 1), .int (I 2), .int (I 3), .int (I 4), .int (I 5), .int (I 6), .int (I 7), .int (I 8), .ref (ad 1), .ref (ad 2), .ref (ad 3), .ref (ad 4), .ref (ad 5), .int (I 9), .ref (ad 6), .ref (ad 7), .ref (ad 8), .ref (ad 9), .int (I 10), .ref (ad 10), .ref (ad 11), .ref (ad 12), .ref (ad 13), .int (I 11), .ref (ad 14), .ref (ad 15)])), (ad 1, .inl (cyI, 144, .inl (A 0))), (ad 2, .inl (cyI, 144, .inl (A 1))), (ad 3, .inl (cyI, 144, .inl (A 2))), (ad 4, .inl (cyI, 144, .inl (A 3))), (ad 5, .inl (cyI, 144, .inl (A 4))), (ad 6, .inl (cyI, 8, .inl (A 5))), (ad 7, .inl (cyI, 8, .inl (A 6))), (ad 8, .inl (cyI, 64, .inl (A 7))), (ad 9, .inl (cyI, 8, .inl (A 8))), (ad 10, .inl (cyI, 40, .inl (A 9))), (ad 11, .inl (cyI, 40, .inl (A 10))), (ad 12, .inl (cyI, 40, .inl (A 11))), (ad 13, .inl (cyI, 40, .inl (A 12))), (ad 14, .inl (cyI, 10, .inl (A 13))), (ad 15, .inl (cyI, 1440, .inl (A 14)))]
def InN (n : Nat) (ad : Nat → Nat) : Nat → Prop := fun q => ∃ i, i < n ∧ q = ad i
def AdN (n : Nat) (ad : Nat → Nat) : Prop := ∀ i j, i < n → j < n → ad i = ad j → i = j
theorem wD_of {n : Nat} {ad : Nat → Nat} {ws : va_W} (h : ws.map (·.1) = (List.range n).map ad) (N : AdN n ad) : va_D (InN n ad) ws := by
  have key : ∀ (i : Nat) (q : Nat × va_E), ws[i]? = some q → i < n ∧ ad i = q.1 := by
    intro i q hq
    have h1 : (ws.map (·.1))[i]? = some q.1 := by rw [List.getElem?_map, hq]; rfl
    rw [h, List.getElem?_map] at h1
    by_cases hi : i < n
    · rw [List.getElem?_range hi] at h1
      exact ⟨hi, Option.some.inj h1⟩
    · rw [List.getElem?_eq_none (by simpa using Nat.not_lt.mp hi)] at h1
      cases h1
  refine ⟨fun i j p q hi hj e => ?_, fun k q hq => ?_⟩
  · obtain ⟨a1, a2⟩ := key i p hi
    obtain ⟨b1, b2⟩ := key j q hj
    exact N i j a1 b1 (by rw [a2, b2, e])
  · obtain ⟨a1, a2⟩ := key k q hq
    exact ⟨k, a1, a2.symm⟩
theorem cw_D {cyI : ClassId} {ad : Nat → Nat} (N : AdN 44 ad) (I : Nat → Int32) (A : Nat → Nat → Int32) : va_D (InN 44 ad) (cw cyI ad I A) := wD_of rfl N
theorem mw_D {cyI : ClassId} {ad : Nat → Nat} (N : AdN 16 ad) (I : Nat → Int32) (A : Nat → Nat → Int32) : va_D (InN 16 ad) (mw cyI ad I A) := wD_of rfl N
def greyV : Nat → Int32 := fun j => ([0, 17, 55, 90, 99, 75, 35, 4] : List Int32).getD j 0
def nestM : List (String × Nat × MethodName × String) := [(RX6, 11, yX3_init, "NemaGrid"), (RX6, 36, yX0_init, "NemaGrid"), (RX6, 43, yX2_init, "NemaGrid"), (RX1, 55, yX6_numberOf, "NemaGrid"), (RX1, 70, yX6_squareApart, "NemaGrid"), (RX5, 32, yX6_onFrom, "NemaGrid"), (RX1, 133, yX6_greyOf, "NemaGrid"), (RX2, 39, yX6_numberOf, "NemaGrid"), (RX2, 46, yX6_greyOf, "NemaGrid"), (RX5, 47, yX6_numberOf, "NemaGrid")]
def nestF : List (String × Nat × String × String × String × String) := [(RX6, 114, "NemaGrid$Pixels", "count", "I", "NemaGrid"), (RX2, 36, "NemaGrid$Matter", "width", "I", "NemaGrid"), (RX5, 44, "NemaGrid$Matter", "width", "I", "NemaGrid"), (RX2, 31, "NemaGrid$Matter", "height", "I", "NemaGrid"), (RX5, 40, "NemaGrid$Matter", "height", "I", "NemaGrid"), (RX6, 190, "NemaGrid$Matter", "energyKept", "I", "NemaGrid"), (RX6, 145, "NemaGrid$Drives", "count", "I", "NemaGrid"), (RX6, 169, "NemaGrid$Pictures", "count", "I", "NemaGrid")]
def strsC : List (Nat × String) := [(62, "a side is 2 to 12"), (67, "a cost is 0 to 20"), (83, "no such cell"), (90, "a direction is 0 to 14"), (97, "the cell is FIXED"), (104, "a kind, direction or strength is out of its range"), (110, "a side of a pixel is 1 to 12"), (112, "a cell of the pixel is not there"), (121, "a cell is in another pixel, or there are 8"), (133, "no such pixel"), (135, "a direction or strength is out of its range"), (143, "the tick is not a later one, to 2000"), (146, "40 drives are to come"), (151, "ticks are 1 to 50"), (153, "the tick would be above 2000"), (170, "there are 10 pictures"), (188, "what is 0 to 4"), (204, "no such place"), (209, "the second corner is not further across and down"), (221, "no such defect"), (223, "what is 0 to 2"), (241, "no such picture or cell"), (246, "no such picture")]
theorem nestM_tbl : ∀ q ∈ nestM, Cond.methodLinkNest q.1 q.2.1 q.2.2.1 q.2.2.2 ∈ lw_tbl := by decide +kernel
theorem nestF_tbl : ∀ q ∈ nestF, Cond.fieldLinkNest q.1 q.2.1 q.2.2.1 q.2.2.2.1 q.2.2.2.2.1 q.2.2.2.2.2 ∈ lw_tbl := by decide +kernel
def excN : List String := ["java/lang/IllegalArgumentException", "java/lang/IndexOutOfBoundsException", "java/lang/IllegalStateException"]
def excP : List (String × String) := [("java/lang/IllegalArgumentException", "java/lang/IndexOutOfBoundsException"), ("java/lang/IllegalStateException", "java/lang/IndexOutOfBoundsException"), ("java/lang/IllegalStateException", "java/lang/IllegalArgumentException")]
/-- what the class's methods need of the state beside their own cells -/
def KC (D : va_G) (cyI : ClassId) (ad : Nat → Nat) : Ctx := fun U H =>
  va_K D classes [(cyI, .int)] U ∧ (∃ t, va_Z "NemaGrid" "GREYS" "[I" (.ref t) (InN 44 ad) U H ∧ va_T .int t 8 (fun j => .int (greyV j)) (InN 44 ad) U H) ∧
  vx_Zq Bundle.tN "UNASSIGNED_STACK" Bundle.steD (InN 44 ad) U H ∧ vx_Zq Bundle.tN "SUPPRESSED_SENTINEL" Bundle.listD (InN 44 ad) U H ∧
  (∀ q ∈ strsC, ∃ a, vk_R RX6 q.1 q.2 a U) ∧ (∀ q ∈ nestM, va_Nw (.methodLinkNest q.1 q.2.1 q.2.2.1 q.2.2.2) U) ∧ (∀ q ∈ nestF, va_Nw (.fieldLinkNest q.1 q.2.1 q.2.2.1 q.2.2.2.1 q.2.2.2.2.1 q.2.2.2.2.2) U) ∧
  (∀ q ∈ excN, va_Nw (.castable q q) U) ∧ (∀ q ∈ excP, va_Nc q.1 q.2 U)
def KM (D : va_G) (cyI : ClassId) : Ctx := fun U _ => va_K D classes [(cyI, .int)] U
theorem KC.k {D : va_G} {cyI : ClassId} {ad : Nat → Nat} {U : State} {H : Heap} (h : KC D cyI ad U H) : va_K D classes [(cyI, .int)] U := h.1
theorem KC.nm {D : va_G} {cyI : ClassId} {ad : Nat → Nat} {U : State} {H : Heap} (h : KC D cyI ad U H) : ∀ q ∈ nestM, va_Nw (.methodLinkNest q.1 q.2.1 q.2.2.1 q.2.2.2) U := h.2.2.2.2.2.1
theorem KC.nf {D : va_G} {cyI : ClassId} {ad : Nat → Nat} {U : State} {H : Heap} (h : KC D cyI ad U H) : ∀ q ∈ nestF, va_Nw (.fieldLinkNest q.1 q.2.1 q.2.2.1 q.2.2.2.1 q.2.2.2.2.1 q.2.2.2.2.2) U := h.2.2.2.2.2.2.1
theorem KC.ca {D : va_G} {cyI : ClassId} {ad : Nat → Nat} {U : State} {H : Heap} (h : KC D cyI ad U H) : ∀ q ∈ excN, va_Nw (.castable q q) U := h.2.2.2.2.2.2.2.1
theorem KC.nc {D : va_G} {cyI : ClassId} {ad : Nat → Nat} {U : State} {H : Heap} (h : KC D cyI ad U H) : ∀ q ∈ excP, va_Nc q.1 q.2 U := h.2.2.2.2.2.2.2.2
theorem nc_moved {a b : String} {u U : State} (hv : u.vm.Alike U.vm) (h : va_Nc a b u) : va_Nc a b U := by
  obtain ⟨c, t, h1, h2, h3⟩ := h
  exact ⟨c, t, by rw [hv.findClass]; exact h1, by rw [hv.findClass]; exact h2, by rw [hv.assignable]; exact h3⟩
theorem KM.k {D : va_G} {cyI : ClassId} {U : State} {H : Heap} (h : KM D cyI U H) : va_K D classes [(cyI, .int)] U := h
theorem alike_eq {u U : State} (h : U.vm = u.vm) : u.vm.Alike U.vm := by rw [h]; exact Vm.Alike.refl u.vm
theorem KC_blind {D : va_G} {cyI : ClassId} {ad : Nat → Nat} : Blind (KC D cyI ad) := by
  intro u U H hv h
  obtain ⟨h1, ⟨t, h2, h3⟩, h4, h5, h6, h7, h8, h9, h10⟩ := h
  have hA := alike_eq hv
  exact ⟨va_K.moved hA h1, ⟨t, h2.moved hA, h3.moved hA⟩, h4.moved hA, h5.moved hA, fun q hq => (h6 q hq).elim fun a ha => ⟨a, vk_R.same hv ha⟩, fun q hq => va_Nw.same rfl hv.symm (h7 q hq), fun q hq => va_Nw.same rfl hv.symm (h8 q hq), fun q hq => va_Nw.same rfl hv.symm (h9 q hq), fun q hq => nc_moved hA (h10 q hq)⟩
theorem KM_blind {D : va_G} {cyI : ClassId} : Blind (KM D cyI) := fun _ _ _ hv h => va_K.moved (alike_eq hv) h
theorem KC.warm {D : va_G} {cyI : ClassId} {ad : Nat → Nat} {s U : State} {H : Heap} (hW : s.WarmedH U.vm) (h : KC D cyI ad s H) : KC D cyI ad U H := by
  obtain ⟨h1, ⟨t, h2, h3⟩, h4, h5, h6, h7, h8, h9, h10⟩ := h
  have hA := hW.alike
  exact ⟨va_K.moved hA h1, ⟨t, h2.moved hA, h3.moved hA⟩, h4.moved hA, h5.moved hA, fun q hq => (h6 q hq).elim fun a ha => ⟨a, vk_R.warm hW ha⟩, fun q hq => va_Nw.warmM hW (h7 q hq), fun q hq => va_Nw.warmF hW (h8 q hq), fun q hq => va_Nw.warmC hW (h9 q hq), fun q hq => nc_moved hA (h10 q hq)⟩
theorem KM.warm {D : va_G} {cyI : ClassId} {s U : State} {H : Heap} (hW : s.WarmedH U.vm) (h : KM D cyI s H) : KM D cyI U H := va_K.moved hW.alike h
theorem KC.at {D : va_G} {cyI : ClassId} {ad : Nat → Nat} {s : State} {H0 H : Heap} {locs : List Loc} (h : KC D cyI ad s H0) (hS : va_S (InN 44 ad) H0 H locs) : KC D cyI ad s H := by
  obtain ⟨h1, ⟨t, h2, h3⟩, h4, h5, h6⟩ := h
  exact ⟨h1, ⟨t, h2.kept hS.2.1, h3.kept hS.2.1⟩, h4.kept hS.2.1, h5.kept hS.2.1, h6⟩
theorem KM.at {D : va_G} {cyI : ClassId} {A : Nat → Prop} {s : State} {H0 H : Heap} {locs : List Loc} (h : KM D cyI s H0) (_ : va_S A H0 H locs) : KM D cyI s H := h
section
variable {p : Program} {l : Launch} {e : Env} {R : Room} {s : State} {m : MethodId} {args : Array Value} {below : List Frame} {meth : Method} {c : Code} {H : Heap} {locs : List Loc} {cells slots : Nat} {Q : State → Prop} {cc : ByteArray} {nL pc : Nat} {ret : Option FieldType} {ls : Array Slot} {rest : List Value} {D : va_G} {cyI : ClassId} {ad : Nat → Nat} {I : Nat → Int32} {A : Nat → Nat → Int32}
theorem cw_g0 : (cw cyI ad I A)[0]? = some (ad 0, .inr (6, [.ref (ad 1), .ref (ad 2), .ref (ad 3), .ref (ad 4), .ref (ad 5), .int (I 0), .int (I 1), .int (I 2), .int (I 3)])) := rfl
theorem cw_g1 : (cw cyI ad I A)[1]? = some (ad 1, .inr (3, [.ref (ad 6), .ref (ad 7), .ref (ad 8), .ref (ad 9), .ref (ad 10), .ref (ad 11), .ref (ad 12), .ref (ad 13), .int (I 4)])) := rfl
theorem cw_g2 : (cw cyI ad I A)[2]? = some (ad 2, .inr (1, [.ref (ad 14), .ref (ad 15), .ref (ad 16), .ref (ad 17), .ref (ad 18), .ref (ad 1), .int (I 5), .int (I 6), .int (I 7), .int (I 8), .int (I 9)])) := rfl
theorem cw_g3 : (cw cyI ad I A)[3]? = some (ad 3, .inr (5, [.ref (ad 2)])) := rfl
theorem cw_g4 : (cw cyI ad I A)[4]? = some (ad 4, .inr (0, [.ref (ad 19), .ref (ad 20), .ref (ad 21), .ref (ad 22), .int (I 10)])) := rfl
theorem cw_g5 : (cw cyI ad I A)[5]? = some (ad 5, .inr (2, [.ref (ad 23), .ref (ad 24), .int (I 11)])) := rfl
theorem mw_g0 : (mw cyI ad I A)[0]? = some (ad 0, .inr (7, [.int (I 0), .int (I 1), .int (I 2), .int (I 3), .int (I 4), .int (I 5), .int (I 6), .int (I 7), .int (I 8), .ref (ad 1), .ref (ad 2), .ref (ad 3), .ref (ad 4), .ref (ad 5), .int (I 9), .ref (ad 6), .ref (ad 7), .ref (ad 8), .ref (ad 9), .int (I 10), .ref (ad 10), .ref (ad 11), .ref (ad 12), .ref (ad 13), .int (I 11), .ref (ad 14), .ref (ad 15)])) := rfl
theorem gf_X0_14 (E : EX p s m args meth c cc nL RX0 ret) (K0 : KC D cyI ad s s.heap) (P : va_P D classes (cw cyI ad I A) H) (hdg : decode cc pc = .ok (.getfield 14, 3)) (kk : W p l e R s m args below meth c H locs cells slots Q (F0 m (pc + 3) ls (.ref (ad 19) :: rest))) : W p l e R s m args below meth c H locs cells slots Q (F0 m pc ls (.ref (ad 4) :: rest)) := va_get E.hx E.hb E.ht inAX0 E.ho K0.k P 4 cw_g4 (show classes[0]? = some (RX0, TX0, 5) from rfl) 0 (by decide) (E.ht _ kFL_X0_14) (fun _ h9 => h9) rfl hdg kk
theorem gf_X0_20 (E : EX p s m args meth c cc nL RX0 ret) (K0 : KC D cyI ad s s.heap) (P : va_P D classes (cw cyI ad I A) H) (hdg : decode cc pc = .ok (.getfield 20, 3)) (kk : W p l e R s m args below meth c H locs cells slots Q (F0 m (pc + 3) ls (.ref (ad 20) :: rest))) : W p l e R s m args below meth c H locs cells slots Q (F0 m pc ls (.ref (ad 4) :: rest)) := va_get E.hx E.hb E.ht inAX0 E.ho K0.k P 4 cw_g4 (show classes[0]? = some (RX0, TX0, 5) from rfl) 1 (by decide) (E.ht _ kFL_X0_20) (fun _ h9 => h9) rfl hdg kk
theorem gf_X0_23 (E : EX p s m args meth c cc nL RX0 ret) (K0 : KC D cyI ad s s.heap) (P : va_P D classes (cw cyI ad I A) H) (hdg : decode cc pc = .ok (.getfield 23, 3)) (kk : W p l e R s m args below meth c H locs cells slots Q (F0 m (pc + 3) ls (.ref (ad 21) :: rest))) : W p l e R s m args below meth c H locs cells slots Q (F0 m pc ls (.ref (ad 4) :: rest)) := va_get E.hx E.hb E.ht inAX0 E.ho K0.k P 4 cw_g4 (show classes[0]? = some (RX0, TX0, 5) from rfl) 2 (by decide) (E.ht _ kFL_X0_23) (fun _ h9 => h9) rfl hdg kk
theorem gf_X0_26 (E : EX p s m args meth c cc nL RX0 ret) (K0 : KC D cyI ad s s.heap) (P : va_P D classes (cw cyI ad I A) H) (hdg : decode cc pc = .ok (.getfield 26, 3)) (kk : W p l e R s m args below meth c H locs cells slots Q (F0 m (pc + 3) ls (.ref (ad 22) :: rest))) : W p l e R s m args below meth c H locs cells slots Q (F0 m pc ls (.ref (ad 4) :: rest)) := va_get E.hx E.hb E.ht inAX0 E.ho K0.k P 4 cw_g4 (show classes[0]? = some (RX0, TX0, 5) from rfl) 3 (by decide) (E.ht _ kFL_X0_26) (fun _ h9 => h9) rfl hdg kk
theorem gf_X0_29 (E : EX p s m args meth c cc nL RX0 ret) (K0 : KC D cyI ad s s.heap) (P : va_P D classes (cw cyI ad I A) H) (hdg : decode cc pc = .ok (.getfield 29, 3)) (kk : W p l e R s m args below meth c H locs cells slots Q (F0 m (pc + 3) ls (.int (I 10) :: rest))) : W p l e R s m args below meth c H locs cells slots Q (F0 m pc ls (.ref (ad 4) :: rest)) := va_get E.hx E.hb E.ht inAX0 E.ho K0.k P 4 cw_g4 (show classes[0]? = some (RX0, TX0, 5) from rfl) 4 (by decide) (E.ht _ kFL_X0_29) (fun _ h9 => h9) rfl hdg kk
theorem pf_X0_29 (E : EX p s m args meth c cc nL RX0 ret) (N : AdN 44 ad) (K0 : KC D cyI ad s s.heap) (P : va_P D classes (cw cyI ad I A) H) (S : va_S (InN 44 ad) s.heap H locs) {v : Int32} (hdg : decode cc pc = .ok (.putfield 29, 3)) (kk : ∀ (H1 : Heap) (locs1 : List Loc), va_P D classes (cw cyI ad (va_up I 10 v) A) H1 → va_S (InN 44 ad) s.heap H1 locs1 → W p l e R s m args below meth c H1 locs1 cells slots Q (F0 m (pc + 3) ls rest)) : W p l e R s m args below meth c H locs cells slots Q (F0 m pc ls (.int v :: .ref (ad 4) :: rest)) := va_put E.hx E.hb E.ht inAX0 tyX0 tyX0_ok nmX0 E.ho K0.k P (cw_D N I A) S 4 cw_g4 (show classes[0]? = some (RX0, TX0, 5) from rfl) 4 (by decide) (E.ht _ kFL_X0_29) (fun _ h9 => h9) rfl (show parseFieldDescriptor (TX0 4).2.2.1 = some .int by decide +kernel) rfl rfl (Nat.le_of_ble_eq_true rfl) hdg (fun H1 l1 hP _ hS => kk H1 l1 hP hS)
theorem gf_X1_14 (E : EX p s m args meth c cc nL RX1 ret) (K0 : KC D cyI ad s s.heap) (P : va_P D classes (cw cyI ad I A) H) (hdg : decode cc pc = .ok (.getfield 14, 3)) (kk : W p l e R s m args below meth c H locs cells slots Q (F0 m (pc + 3) ls (.ref (ad 14) :: rest))) : W p l e R s m args below meth c H locs cells slots Q (F0 m pc ls (.ref (ad 2) :: rest)) := va_get E.hx E.hb E.ht inAX1 E.ho K0.k P 2 cw_g2 (show classes[1]? = some (RX1, TX1, 11) from rfl) 0 (by decide) (E.ht _ kFL_X1_14) (fun _ h9 => h9) rfl hdg kk
theorem gf_X1_20 (E : EX p s m args meth c cc nL RX1 ret) (K0 : KC D cyI ad s s.heap) (P : va_P D classes (cw cyI ad I A) H) (hdg : decode cc pc = .ok (.getfield 20, 3)) (kk : W p l e R s m args below meth c H locs cells slots Q (F0 m (pc + 3) ls (.ref (ad 15) :: rest))) : W p l e R s m args below meth c H locs cells slots Q (F0 m pc ls (.ref (ad 2) :: rest)) := va_get E.hx E.hb E.ht inAX1 E.ho K0.k P 2 cw_g2 (show classes[1]? = some (RX1, TX1, 11) from rfl) 1 (by decide) (E.ht _ kFL_X1_20) (fun _ h9 => h9) rfl hdg kk
theorem gf_X1_23 (E : EX p s m args meth c cc nL RX1 ret) (K0 : KC D cyI ad s s.heap) (P : va_P D classes (cw cyI ad I A) H) (hdg : decode cc pc = .ok (.getfield 23, 3)) (kk : W p l e R s m args below meth c H locs cells slots Q (F0 m (pc + 3) ls (.ref (ad 16) :: rest))) : W p l e R s m args below meth c H locs cells slots Q (F0 m pc ls (.ref (ad 2) :: rest)) := va_get E.hx E.hb E.ht inAX1 E.ho K0.k P 2 cw_g2 (show classes[1]? = some (RX1, TX1, 11) from rfl) 2 (by decide) (E.ht _ kFL_X1_23) (fun _ h9 => h9) rfl hdg kk
theorem gf_X1_26 (E : EX p s m args meth c cc nL RX1 ret) (K0 : KC D cyI ad s s.heap) (P : va_P D classes (cw cyI ad I A) H) (hdg : decode cc pc = .ok (.getfield 26, 3)) (kk : W p l e R s m args below meth c H locs cells slots Q (F0 m (pc + 3) ls (.ref (ad 17) :: rest))) : W p l e R s m args below meth c H locs cells slots Q (F0 m pc ls (.ref (ad 2) :: rest)) := va_get E.hx E.hb E.ht inAX1 E.ho K0.k P 2 cw_g2 (show classes[1]? = some (RX1, TX1, 11) from rfl) 3 (by decide) (E.ht _ kFL_X1_26) (fun _ h9 => h9) rfl hdg kk
theorem gf_X1_29 (E : EX p s m args meth c cc nL RX1 ret) (K0 : KC D cyI ad s s.heap) (P : va_P D classes (cw cyI ad I A) H) (hdg : decode cc pc = .ok (.getfield 29, 3)) (kk : W p l e R s m args below meth c H locs cells slots Q (F0 m (pc + 3) ls (.ref (ad 18) :: rest))) : W p l e R s m args below meth c H locs cells slots Q (F0 m pc ls (.ref (ad 2) :: rest)) := va_get E.hx E.hb E.ht inAX1 E.ho K0.k P 2 cw_g2 (show classes[1]? = some (RX1, TX1, 11) from rfl) 4 (by decide) (E.ht _ kFL_X1_29) (fun _ h9 => h9) rfl hdg kk
theorem gf_X1_32 (E : EX p s m args meth c cc nL RX1 ret) (K0 : KC D cyI ad s s.heap) (P : va_P D classes (cw cyI ad I A) H) (hdg : decode cc pc = .ok (.getfield 32, 3)) (kk : W p l e R s m args below meth c H locs cells slots Q (F0 m (pc + 3) ls (.int (I 5) :: rest))) : W p l e R s m args below meth c H locs cells slots Q (F0 m pc ls (.ref (ad 2) :: rest)) := va_get E.hx E.hb E.ht inAX1 E.ho K0.k P 2 cw_g2 (show classes[1]? = some (RX1, TX1, 11) from rfl) 6 (by decide) (E.ht _ kFL_X1_32) (fun _ h9 => h9) rfl hdg kk
theorem pf_X1_32 (E : EX p s m args meth c cc nL RX1 ret) (N : AdN 44 ad) (K0 : KC D cyI ad s s.heap) (P : va_P D classes (cw cyI ad I A) H) (S : va_S (InN 44 ad) s.heap H locs) {v : Int32} (hdg : decode cc pc = .ok (.putfield 32, 3)) (kk : ∀ (H1 : Heap) (locs1 : List Loc), va_P D classes (cw cyI ad (va_up I 5 v) A) H1 → va_S (InN 44 ad) s.heap H1 locs1 → W p l e R s m args below meth c H1 locs1 cells slots Q (F0 m (pc + 3) ls rest)) : W p l e R s m args below meth c H locs cells slots Q (F0 m pc ls (.int v :: .ref (ad 2) :: rest)) := va_put E.hx E.hb E.ht inAX1 tyX1 tyX1_ok nmX1 E.ho K0.k P (cw_D N I A) S 2 cw_g2 (show classes[1]? = some (RX1, TX1, 11) from rfl) 6 (by decide) (E.ht _ kFL_X1_32) (fun _ h9 => h9) rfl (show parseFieldDescriptor (TX1 6).2.2.1 = some .int by decide +kernel) rfl rfl (Nat.le_of_ble_eq_true rfl) hdg (fun H1 l1 hP _ hS => kk H1 l1 hP hS)
theorem gf_X1_36 (E : EX p s m args meth c cc nL RX1 ret) (K0 : KC D cyI ad s s.heap) (P : va_P D classes (cw cyI ad I A) H) (hdg : decode cc pc = .ok (.getfield 36, 3)) (kk : W p l e R s m args below meth c H locs cells slots Q (F0 m (pc + 3) ls (.int (I 6) :: rest))) : W p l e R s m args below meth c H locs cells slots Q (F0 m pc ls (.ref (ad 2) :: rest)) := va_get E.hx E.hb E.ht inAX1 E.ho K0.k P 2 cw_g2 (show classes[1]? = some (RX1, TX1, 11) from rfl) 7 (by decide) (E.ht _ kFL_X1_36) (fun _ h9 => h9) rfl hdg kk
theorem pf_X1_36 (E : EX p s m args meth c cc nL RX1 ret) (N : AdN 44 ad) (K0 : KC D cyI ad s s.heap) (P : va_P D classes (cw cyI ad I A) H) (S : va_S (InN 44 ad) s.heap H locs) {v : Int32} (hdg : decode cc pc = .ok (.putfield 36, 3)) (kk : ∀ (H1 : Heap) (locs1 : List Loc), va_P D classes (cw cyI ad (va_up I 6 v) A) H1 → va_S (InN 44 ad) s.heap H1 locs1 → W p l e R s m args below meth c H1 locs1 cells slots Q (F0 m (pc + 3) ls rest)) : W p l e R s m args below meth c H locs cells slots Q (F0 m pc ls (.int v :: .ref (ad 2) :: rest)) := va_put E.hx E.hb E.ht inAX1 tyX1 tyX1_ok nmX1 E.ho K0.k P (cw_D N I A) S 2 cw_g2 (show classes[1]? = some (RX1, TX1, 11) from rfl) 7 (by decide) (E.ht _ kFL_X1_36) (fun _ h9 => h9) rfl (show parseFieldDescriptor (TX1 7).2.2.1 = some .int by decide +kernel) rfl rfl (Nat.le_of_ble_eq_true rfl) hdg (fun H1 l1 hP _ hS => kk H1 l1 hP hS)
theorem gf_X1_39 (E : EX p s m args meth c cc nL RX1 ret) (K0 : KC D cyI ad s s.heap) (P : va_P D classes (cw cyI ad I A) H) (hdg : decode cc pc = .ok (.getfield 39, 3)) (kk : W p l e R s m args below meth c H locs cells slots Q (F0 m (pc + 3) ls (.int (I 7) :: rest))) : W p l e R s m args below meth c H locs cells slots Q (F0 m pc ls (.ref (ad 2) :: rest)) := va_get E.hx E.hb E.ht inAX1 E.ho K0.k P 2 cw_g2 (show classes[1]? = some (RX1, TX1, 11) from rfl) 8 (by decide) (E.ht _ kFL_X1_39) (fun _ h9 => h9) rfl hdg kk
theorem pf_X1_39 (E : EX p s m args meth c cc nL RX1 ret) (N : AdN 44 ad) (K0 : KC D cyI ad s s.heap) (P : va_P D classes (cw cyI ad I A) H) (S : va_S (InN 44 ad) s.heap H locs) {v : Int32} (hdg : decode cc pc = .ok (.putfield 39, 3)) (kk : ∀ (H1 : Heap) (locs1 : List Loc), va_P D classes (cw cyI ad (va_up I 7 v) A) H1 → va_S (InN 44 ad) s.heap H1 locs1 → W p l e R s m args below meth c H1 locs1 cells slots Q (F0 m (pc + 3) ls rest)) : W p l e R s m args below meth c H locs cells slots Q (F0 m pc ls (.int v :: .ref (ad 2) :: rest)) := va_put E.hx E.hb E.ht inAX1 tyX1 tyX1_ok nmX1 E.ho K0.k P (cw_D N I A) S 2 cw_g2 (show classes[1]? = some (RX1, TX1, 11) from rfl) 8 (by decide) (E.ht _ kFL_X1_39) (fun _ h9 => h9) rfl (show parseFieldDescriptor (TX1 8).2.2.1 = some .int by decide +kernel) rfl rfl (Nat.le_of_ble_eq_true rfl) hdg (fun H1 l1 hP _ hS => kk H1 l1 hP hS)
theorem gf_X1_42 (E : EX p s m args meth c cc nL RX1 ret) (K0 : KC D cyI ad s s.heap) (P : va_P D classes (cw cyI ad I A) H) (hdg : decode cc pc = .ok (.getfield 42, 3)) (kk : W p l e R s m args below meth c H locs cells slots Q (F0 m (pc + 3) ls (.int (I 8) :: rest))) : W p l e R s m args below meth c H locs cells slots Q (F0 m pc ls (.ref (ad 2) :: rest)) := va_get E.hx E.hb E.ht inAX1 E.ho K0.k P 2 cw_g2 (show classes[1]? = some (RX1, TX1, 11) from rfl) 9 (by decide) (E.ht _ kFL_X1_42) (fun _ h9 => h9) rfl hdg kk
theorem pf_X1_42 (E : EX p s m args meth c cc nL RX1 ret) (N : AdN 44 ad) (K0 : KC D cyI ad s s.heap) (P : va_P D classes (cw cyI ad I A) H) (S : va_S (InN 44 ad) s.heap H locs) {v : Int32} (hdg : decode cc pc = .ok (.putfield 42, 3)) (kk : ∀ (H1 : Heap) (locs1 : List Loc), va_P D classes (cw cyI ad (va_up I 8 v) A) H1 → va_S (InN 44 ad) s.heap H1 locs1 → W p l e R s m args below meth c H1 locs1 cells slots Q (F0 m (pc + 3) ls rest)) : W p l e R s m args below meth c H locs cells slots Q (F0 m pc ls (.int v :: .ref (ad 2) :: rest)) := va_put E.hx E.hb E.ht inAX1 tyX1 tyX1_ok nmX1 E.ho K0.k P (cw_D N I A) S 2 cw_g2 (show classes[1]? = some (RX1, TX1, 11) from rfl) 9 (by decide) (E.ht _ kFL_X1_42) (fun _ h9 => h9) rfl (show parseFieldDescriptor (TX1 9).2.2.1 = some .int by decide +kernel) rfl rfl (Nat.le_of_ble_eq_true rfl) hdg (fun H1 l1 hP _ hS => kk H1 l1 hP hS)
theorem gf_X1_45 (E : EX p s m args meth c cc nL RX1 ret) (K0 : KC D cyI ad s s.heap) (P : va_P D classes (cw cyI ad I A) H) (hdg : decode cc pc = .ok (.getfield 45, 3)) (kk : W p l e R s m args below meth c H locs cells slots Q (F0 m (pc + 3) ls (.ref (ad 1) :: rest))) : W p l e R s m args below meth c H locs cells slots Q (F0 m pc ls (.ref (ad 2) :: rest)) := va_get E.hx E.hb E.ht inAX1 E.ho K0.k P 2 cw_g2 (show classes[1]? = some (RX1, TX1, 11) from rfl) 5 (by decide) (E.ht _ kFL_X1_45) (fun _ h9 => h9) rfl hdg kk
theorem gf_X1_52 (E : EX p s m args meth c cc nL RX1 ret) (K0 : KC D cyI ad s s.heap) (P : va_P D classes (cw cyI ad I A) H) (hdg : decode cc pc = .ok (.getfield 52, 3)) (kk : W p l e R s m args below meth c H locs cells slots Q (F0 m (pc + 3) ls (.int (I 9) :: rest))) : W p l e R s m args below meth c H locs cells slots Q (F0 m pc ls (.ref (ad 2) :: rest)) := va_get E.hx E.hb E.ht inAX1 E.ho K0.k P 2 cw_g2 (show classes[1]? = some (RX1, TX1, 11) from rfl) 10 (by decide) (E.ht _ kFL_X1_52) (fun _ h9 => h9) rfl hdg kk
theorem pf_X1_52 (E : EX p s m args meth c cc nL RX1 ret) (N : AdN 44 ad) (K0 : KC D cyI ad s s.heap) (P : va_P D classes (cw cyI ad I A) H) (S : va_S (InN 44 ad) s.heap H locs) {v : Int32} (hdg : decode cc pc = .ok (.putfield 52, 3)) (kk : ∀ (H1 : Heap) (locs1 : List Loc), va_P D classes (cw cyI ad (va_up I 9 v) A) H1 → va_S (InN 44 ad) s.heap H1 locs1 → W p l e R s m args below meth c H1 locs1 cells slots Q (F0 m (pc + 3) ls rest)) : W p l e R s m args below meth c H locs cells slots Q (F0 m pc ls (.int v :: .ref (ad 2) :: rest)) := va_put E.hx E.hb E.ht inAX1 tyX1 tyX1_ok nmX1 E.ho K0.k P (cw_D N I A) S 2 cw_g2 (show classes[1]? = some (RX1, TX1, 11) from rfl) 10 (by decide) (E.ht _ kFL_X1_52) (fun _ h9 => h9) rfl (show parseFieldDescriptor (TX1 10).2.2.1 = some .int by decide +kernel) rfl rfl (Nat.le_of_ble_eq_true rfl) hdg (fun H1 l1 hP _ hS => kk H1 l1 hP hS)
theorem gf_X2_14 (E : EX p s m args meth c cc nL RX2 ret) (K0 : KC D cyI ad s s.heap) (P : va_P D classes (cw cyI ad I A) H) (hdg : decode cc pc = .ok (.getfield 14, 3)) (kk : W p l e R s m args below meth c H locs cells slots Q (F0 m (pc + 3) ls (.ref (ad 23) :: rest))) : W p l e R s m args below meth c H locs cells slots Q (F0 m pc ls (.ref (ad 5) :: rest)) := va_get E.hx E.hb E.ht inAX2 E.ho K0.k P 5 cw_g5 (show classes[2]? = some (RX2, TX2, 3) from rfl) 0 (by decide) (E.ht _ kFL_X2_14) (fun _ h9 => h9) rfl hdg kk
theorem gf_X2_20 (E : EX p s m args meth c cc nL RX2 ret) (K0 : KC D cyI ad s s.heap) (P : va_P D classes (cw cyI ad I A) H) (hdg : decode cc pc = .ok (.getfield 20, 3)) (kk : W p l e R s m args below meth c H locs cells slots Q (F0 m (pc + 3) ls (.ref (ad 24) :: rest))) : W p l e R s m args below meth c H locs cells slots Q (F0 m pc ls (.ref (ad 5) :: rest)) := va_get E.hx E.hb E.ht inAX2 E.ho K0.k P 5 cw_g5 (show classes[2]? = some (RX2, TX2, 3) from rfl) 1 (by decide) (E.ht _ kFL_X2_20) (fun _ h9 => h9) rfl hdg kk
theorem gf_X2_23 (E : EX p s m args meth c cc nL RX2 ret) (K0 : KC D cyI ad s s.heap) (P : va_P D classes (cw cyI ad I A) H) (hdg : decode cc pc = .ok (.getfield 23, 3)) (kk : W p l e R s m args below meth c H locs cells slots Q (F0 m (pc + 3) ls (.int (I 11) :: rest))) : W p l e R s m args below meth c H locs cells slots Q (F0 m pc ls (.ref (ad 5) :: rest)) := va_get E.hx E.hb E.ht inAX2 E.ho K0.k P 5 cw_g5 (show classes[2]? = some (RX2, TX2, 3) from rfl) 2 (by decide) (E.ht _ kFL_X2_23) (fun _ h9 => h9) rfl hdg kk
theorem pf_X2_23 (E : EX p s m args meth c cc nL RX2 ret) (N : AdN 44 ad) (K0 : KC D cyI ad s s.heap) (P : va_P D classes (cw cyI ad I A) H) (S : va_S (InN 44 ad) s.heap H locs) {v : Int32} (hdg : decode cc pc = .ok (.putfield 23, 3)) (kk : ∀ (H1 : Heap) (locs1 : List Loc), va_P D classes (cw cyI ad (va_up I 11 v) A) H1 → va_S (InN 44 ad) s.heap H1 locs1 → W p l e R s m args below meth c H1 locs1 cells slots Q (F0 m (pc + 3) ls rest)) : W p l e R s m args below meth c H locs cells slots Q (F0 m pc ls (.int v :: .ref (ad 5) :: rest)) := va_put E.hx E.hb E.ht inAX2 tyX2 tyX2_ok nmX2 E.ho K0.k P (cw_D N I A) S 5 cw_g5 (show classes[2]? = some (RX2, TX2, 3) from rfl) 2 (by decide) (E.ht _ kFL_X2_23) (fun _ h9 => h9) rfl (show parseFieldDescriptor (TX2 2).2.2.1 = some .int by decide +kernel) rfl rfl (Nat.le_of_ble_eq_true rfl) hdg (fun H1 l1 hP _ hS => kk H1 l1 hP hS)
theorem gf_X2_31 (E : EX p s m args meth c cc nL RX2 ret) (K0 : KC D cyI ad s s.heap) (P : va_P D classes (cw cyI ad I A) H) (hdg : decode cc pc = .ok (.getfield 31, 3)) (kk : W p l e R s m args below meth c H locs cells slots Q (F0 m (pc + 3) ls (.int (I 6) :: rest))) : W p l e R s m args below meth c H locs cells slots Q (F0 m pc ls (.ref (ad 2) :: rest)) := va_getN E.hx E.hb E.ht inAX1 E.ho K0.k P 2 cw_g2 (show classes[1]? = some (RX1, TX1, 11) from rfl) 7 (by decide) (va_Nw.use rfl (K0.nf _ (List.mem_of_getElem? (i := 3) rfl))) (fun _ h9 => h9) rfl hdg kk
theorem pf_X2_31 (E : EX p s m args meth c cc nL RX2 ret) (N : AdN 44 ad) (K0 : KC D cyI ad s s.heap) (P : va_P D classes (cw cyI ad I A) H) (S : va_S (InN 44 ad) s.heap H locs) {v : Int32} (hdg : decode cc pc = .ok (.putfield 31, 3)) (kk : ∀ (H1 : Heap) (locs1 : List Loc), va_P D classes (cw cyI ad (va_up I 6 v) A) H1 → va_S (InN 44 ad) s.heap H1 locs1 → W p l e R s m args below meth c H1 locs1 cells slots Q (F0 m (pc + 3) ls rest)) : W p l e R s m args below meth c H locs cells slots Q (F0 m pc ls (.int v :: .ref (ad 2) :: rest)) := va_putN E.hx E.hb E.ht inAX1 tyX1 tyX1_ok nmX1 E.ho K0.k P (cw_D N I A) S 2 cw_g2 (show classes[1]? = some (RX1, TX1, 11) from rfl) 7 (by decide) (va_Nw.use rfl (K0.nf _ (List.mem_of_getElem? (i := 3) rfl))) (fun _ h9 => h9) rfl (show parseFieldDescriptor (TX1 7).2.2.1 = some .int by decide +kernel) rfl rfl (Nat.le_of_ble_eq_true rfl) hdg (fun H1 l1 hP _ hS => kk H1 l1 hP hS)
theorem gf_X2_36 (E : EX p s m args meth c cc nL RX2 ret) (K0 : KC D cyI ad s s.heap) (P : va_P D classes (cw cyI ad I A) H) (hdg : decode cc pc = .ok (.getfield 36, 3)) (kk : W p l e R s m args below meth c H locs cells slots Q (F0 m (pc + 3) ls (.int (I 5) :: rest))) : W p l e R s m args below meth c H locs cells slots Q (F0 m pc ls (.ref (ad 2) :: rest)) := va_getN E.hx E.hb E.ht inAX1 E.ho K0.k P 2 cw_g2 (show classes[1]? = some (RX1, TX1, 11) from rfl) 6 (by decide) (va_Nw.use rfl (K0.nf _ (List.mem_of_getElem? (i := 1) rfl))) (fun _ h9 => h9) rfl hdg kk
theorem pf_X2_36 (E : EX p s m args meth c cc nL RX2 ret) (N : AdN 44 ad) (K0 : KC D cyI ad s s.heap) (P : va_P D classes (cw cyI ad I A) H) (S : va_S (InN 44 ad) s.heap H locs) {v : Int32} (hdg : decode cc pc = .ok (.putfield 36, 3)) (kk : ∀ (H1 : Heap) (locs1 : List Loc), va_P D classes (cw cyI ad (va_up I 5 v) A) H1 → va_S (InN 44 ad) s.heap H1 locs1 → W p l e R s m args below meth c H1 locs1 cells slots Q (F0 m (pc + 3) ls rest)) : W p l e R s m args below meth c H locs cells slots Q (F0 m pc ls (.int v :: .ref (ad 2) :: rest)) := va_putN E.hx E.hb E.ht inAX1 tyX1 tyX1_ok nmX1 E.ho K0.k P (cw_D N I A) S 2 cw_g2 (show classes[1]? = some (RX1, TX1, 11) from rfl) 6 (by decide) (va_Nw.use rfl (K0.nf _ (List.mem_of_getElem? (i := 1) rfl))) (fun _ h9 => h9) rfl (show parseFieldDescriptor (TX1 6).2.2.1 = some .int by decide +kernel) rfl rfl (Nat.le_of_ble_eq_true rfl) hdg (fun H1 l1 hP _ hS => kk H1 l1 hP hS)
theorem gf_X3_14 (E : EX p s m args meth c cc nL RX3 ret) (K0 : KC D cyI ad s s.heap) (P : va_P D classes (cw cyI ad I A) H) (hdg : decode cc pc = .ok (.getfield 14, 3)) (kk : W p l e R s m args below meth c H locs cells slots Q (F0 m (pc + 3) ls (.ref (ad 6) :: rest))) : W p l e R s m args below meth c H locs cells slots Q (F0 m pc ls (.ref (ad 1) :: rest)) := va_get E.hx E.hb E.ht inAX3 E.ho K0.k P 1 cw_g1 (show classes[3]? = some (RX3, TX3, 9) from rfl) 0 (by decide) (E.ht _ kFL_X3_14) (fun _ h9 => h9) rfl hdg kk
theorem gf_X3_20 (E : EX p s m args meth c cc nL RX3 ret) (K0 : KC D cyI ad s s.heap) (P : va_P D classes (cw cyI ad I A) H) (hdg : decode cc pc = .ok (.getfield 20, 3)) (kk : W p l e R s m args below meth c H locs cells slots Q (F0 m (pc + 3) ls (.ref (ad 7) :: rest))) : W p l e R s m args below meth c H locs cells slots Q (F0 m pc ls (.ref (ad 1) :: rest)) := va_get E.hx E.hb E.ht inAX3 E.ho K0.k P 1 cw_g1 (show classes[3]? = some (RX3, TX3, 9) from rfl) 1 (by decide) (E.ht _ kFL_X3_20) (fun _ h9 => h9) rfl hdg kk
theorem gf_X3_23 (E : EX p s m args meth c cc nL RX3 ret) (K0 : KC D cyI ad s s.heap) (P : va_P D classes (cw cyI ad I A) H) (hdg : decode cc pc = .ok (.getfield 23, 3)) (kk : W p l e R s m args below meth c H locs cells slots Q (F0 m (pc + 3) ls (.ref (ad 8) :: rest))) : W p l e R s m args below meth c H locs cells slots Q (F0 m pc ls (.ref (ad 1) :: rest)) := va_get E.hx E.hb E.ht inAX3 E.ho K0.k P 1 cw_g1 (show classes[3]? = some (RX3, TX3, 9) from rfl) 2 (by decide) (E.ht _ kFL_X3_23) (fun _ h9 => h9) rfl hdg kk
theorem gf_X3_26 (E : EX p s m args meth c cc nL RX3 ret) (K0 : KC D cyI ad s s.heap) (P : va_P D classes (cw cyI ad I A) H) (hdg : decode cc pc = .ok (.getfield 26, 3)) (kk : W p l e R s m args below meth c H locs cells slots Q (F0 m (pc + 3) ls (.ref (ad 9) :: rest))) : W p l e R s m args below meth c H locs cells slots Q (F0 m pc ls (.ref (ad 1) :: rest)) := va_get E.hx E.hb E.ht inAX3 E.ho K0.k P 1 cw_g1 (show classes[3]? = some (RX3, TX3, 9) from rfl) 3 (by decide) (E.ht _ kFL_X3_26) (fun _ h9 => h9) rfl hdg kk
theorem gf_X3_29 (E : EX p s m args meth c cc nL RX3 ret) (K0 : KC D cyI ad s s.heap) (P : va_P D classes (cw cyI ad I A) H) (hdg : decode cc pc = .ok (.getfield 29, 3)) (kk : W p l e R s m args below meth c H locs cells slots Q (F0 m (pc + 3) ls (.ref (ad 10) :: rest))) : W p l e R s m args below meth c H locs cells slots Q (F0 m pc ls (.ref (ad 1) :: rest)) := va_get E.hx E.hb E.ht inAX3 E.ho K0.k P 1 cw_g1 (show classes[3]? = some (RX3, TX3, 9) from rfl) 4 (by decide) (E.ht _ kFL_X3_29) (fun _ h9 => h9) rfl hdg kk
theorem gf_X3_32 (E : EX p s m args meth c cc nL RX3 ret) (K0 : KC D cyI ad s s.heap) (P : va_P D classes (cw cyI ad I A) H) (hdg : decode cc pc = .ok (.getfield 32, 3)) (kk : W p l e R s m args below meth c H locs cells slots Q (F0 m (pc + 3) ls (.ref (ad 11) :: rest))) : W p l e R s m args below meth c H locs cells slots Q (F0 m pc ls (.ref (ad 1) :: rest)) := va_get E.hx E.hb E.ht inAX3 E.ho K0.k P 1 cw_g1 (show classes[3]? = some (RX3, TX3, 9) from rfl) 5 (by decide) (E.ht _ kFL_X3_32) (fun _ h9 => h9) rfl hdg kk
theorem gf_X3_35 (E : EX p s m args meth c cc nL RX3 ret) (K0 : KC D cyI ad s s.heap) (P : va_P D classes (cw cyI ad I A) H) (hdg : decode cc pc = .ok (.getfield 35, 3)) (kk : W p l e R s m args below meth c H locs cells slots Q (F0 m (pc + 3) ls (.ref (ad 12) :: rest))) : W p l e R s m args below meth c H locs cells slots Q (F0 m pc ls (.ref (ad 1) :: rest)) := va_get E.hx E.hb E.ht inAX3 E.ho K0.k P 1 cw_g1 (show classes[3]? = some (RX3, TX3, 9) from rfl) 6 (by decide) (E.ht _ kFL_X3_35) (fun _ h9 => h9) rfl hdg kk
theorem gf_X3_38 (E : EX p s m args meth c cc nL RX3 ret) (K0 : KC D cyI ad s s.heap) (P : va_P D classes (cw cyI ad I A) H) (hdg : decode cc pc = .ok (.getfield 38, 3)) (kk : W p l e R s m args below meth c H locs cells slots Q (F0 m (pc + 3) ls (.ref (ad 13) :: rest))) : W p l e R s m args below meth c H locs cells slots Q (F0 m pc ls (.ref (ad 1) :: rest)) := va_get E.hx E.hb E.ht inAX3 E.ho K0.k P 1 cw_g1 (show classes[3]? = some (RX3, TX3, 9) from rfl) 7 (by decide) (E.ht _ kFL_X3_38) (fun _ h9 => h9) rfl hdg kk
theorem gf_X3_41 (E : EX p s m args meth c cc nL RX3 ret) (K0 : KC D cyI ad s s.heap) (P : va_P D classes (cw cyI ad I A) H) (hdg : decode cc pc = .ok (.getfield 41, 3)) (kk : W p l e R s m args below meth c H locs cells slots Q (F0 m (pc + 3) ls (.int (I 4) :: rest))) : W p l e R s m args below meth c H locs cells slots Q (F0 m pc ls (.ref (ad 1) :: rest)) := va_get E.hx E.hb E.ht inAX3 E.ho K0.k P 1 cw_g1 (show classes[3]? = some (RX3, TX3, 9) from rfl) 8 (by decide) (E.ht _ kFL_X3_41) (fun _ h9 => h9) rfl hdg kk
theorem pf_X3_41 (E : EX p s m args meth c cc nL RX3 ret) (N : AdN 44 ad) (K0 : KC D cyI ad s s.heap) (P : va_P D classes (cw cyI ad I A) H) (S : va_S (InN 44 ad) s.heap H locs) {v : Int32} (hdg : decode cc pc = .ok (.putfield 41, 3)) (kk : ∀ (H1 : Heap) (locs1 : List Loc), va_P D classes (cw cyI ad (va_up I 4 v) A) H1 → va_S (InN 44 ad) s.heap H1 locs1 → W p l e R s m args below meth c H1 locs1 cells slots Q (F0 m (pc + 3) ls rest)) : W p l e R s m args below meth c H locs cells slots Q (F0 m pc ls (.int v :: .ref (ad 1) :: rest)) := va_put E.hx E.hb E.ht inAX3 tyX3 tyX3_ok nmX3 E.ho K0.k P (cw_D N I A) S 1 cw_g1 (show classes[3]? = some (RX3, TX3, 9) from rfl) 8 (by decide) (E.ht _ kFL_X3_41) (fun _ h9 => h9) rfl (show parseFieldDescriptor (TX3 8).2.2.1 = some .int by decide +kernel) rfl rfl (Nat.le_of_ble_eq_true rfl) hdg (fun H1 l1 hP _ hS => kk H1 l1 hP hS)
theorem gf_X5_9 (E : EX p s m args meth c cc nL RX5 ret) (K0 : KC D cyI ad s s.heap) (P : va_P D classes (cw cyI ad I A) H) (hdg : decode cc pc = .ok (.getfield 9, 3)) (kk : W p l e R s m args below meth c H locs cells slots Q (F0 m (pc + 3) ls (.ref (ad 2) :: rest))) : W p l e R s m args below meth c H locs cells slots Q (F0 m pc ls (.ref (ad 3) :: rest)) := va_get E.hx E.hb E.ht inAX5 E.ho K0.k P 3 cw_g3 (show classes[5]? = some (RX5, TX5, 1) from rfl) 0 (by decide) (E.ht _ kFL_X5_9) (fun _ h9 => h9) rfl hdg kk
theorem gf_X5_40 (E : EX p s m args meth c cc nL RX5 ret) (K0 : KC D cyI ad s s.heap) (P : va_P D classes (cw cyI ad I A) H) (hdg : decode cc pc = .ok (.getfield 40, 3)) (kk : W p l e R s m args below meth c H locs cells slots Q (F0 m (pc + 3) ls (.int (I 6) :: rest))) : W p l e R s m args below meth c H locs cells slots Q (F0 m pc ls (.ref (ad 2) :: rest)) := va_getN E.hx E.hb E.ht inAX1 E.ho K0.k P 2 cw_g2 (show classes[1]? = some (RX1, TX1, 11) from rfl) 7 (by decide) (va_Nw.use rfl (K0.nf _ (List.mem_of_getElem? (i := 4) rfl))) (fun _ h9 => h9) rfl hdg kk
theorem pf_X5_40 (E : EX p s m args meth c cc nL RX5 ret) (N : AdN 44 ad) (K0 : KC D cyI ad s s.heap) (P : va_P D classes (cw cyI ad I A) H) (S : va_S (InN 44 ad) s.heap H locs) {v : Int32} (hdg : decode cc pc = .ok (.putfield 40, 3)) (kk : ∀ (H1 : Heap) (locs1 : List Loc), va_P D classes (cw cyI ad (va_up I 6 v) A) H1 → va_S (InN 44 ad) s.heap H1 locs1 → W p l e R s m args below meth c H1 locs1 cells slots Q (F0 m (pc + 3) ls rest)) : W p l e R s m args below meth c H locs cells slots Q (F0 m pc ls (.int v :: .ref (ad 2) :: rest)) := va_putN E.hx E.hb E.ht inAX1 tyX1 tyX1_ok nmX1 E.ho K0.k P (cw_D N I A) S 2 cw_g2 (show classes[1]? = some (RX1, TX1, 11) from rfl) 7 (by decide) (va_Nw.use rfl (K0.nf _ (List.mem_of_getElem? (i := 4) rfl))) (fun _ h9 => h9) rfl (show parseFieldDescriptor (TX1 7).2.2.1 = some .int by decide +kernel) rfl rfl (Nat.le_of_ble_eq_true rfl) hdg (fun H1 l1 hP _ hS => kk H1 l1 hP hS)
theorem gf_X5_44 (E : EX p s m args meth c cc nL RX5 ret) (K0 : KC D cyI ad s s.heap) (P : va_P D classes (cw cyI ad I A) H) (hdg : decode cc pc = .ok (.getfield 44, 3)) (kk : W p l e R s m args below meth c H locs cells slots Q (F0 m (pc + 3) ls (.int (I 5) :: rest))) : W p l e R s m args below meth c H locs cells slots Q (F0 m pc ls (.ref (ad 2) :: rest)) := va_getN E.hx E.hb E.ht inAX1 E.ho K0.k P 2 cw_g2 (show classes[1]? = some (RX1, TX1, 11) from rfl) 6 (by decide) (va_Nw.use rfl (K0.nf _ (List.mem_of_getElem? (i := 2) rfl))) (fun _ h9 => h9) rfl hdg kk
theorem pf_X5_44 (E : EX p s m args meth c cc nL RX5 ret) (N : AdN 44 ad) (K0 : KC D cyI ad s s.heap) (P : va_P D classes (cw cyI ad I A) H) (S : va_S (InN 44 ad) s.heap H locs) {v : Int32} (hdg : decode cc pc = .ok (.putfield 44, 3)) (kk : ∀ (H1 : Heap) (locs1 : List Loc), va_P D classes (cw cyI ad (va_up I 5 v) A) H1 → va_S (InN 44 ad) s.heap H1 locs1 → W p l e R s m args below meth c H1 locs1 cells slots Q (F0 m (pc + 3) ls rest)) : W p l e R s m args below meth c H locs cells slots Q (F0 m pc ls (.int v :: .ref (ad 2) :: rest)) := va_putN E.hx E.hb E.ht inAX1 tyX1 tyX1_ok nmX1 E.ho K0.k P (cw_D N I A) S 2 cw_g2 (show classes[1]? = some (RX1, TX1, 11) from rfl) 6 (by decide) (va_Nw.use rfl (K0.nf _ (List.mem_of_getElem? (i := 2) rfl))) (fun _ h9 => h9) rfl (show parseFieldDescriptor (TX1 6).2.2.1 = some .int by decide +kernel) rfl rfl (Nat.le_of_ble_eq_true rfl) hdg (fun H1 l1 hP _ hS => kk H1 l1 hP hS)
theorem gf_X6_12 (E : EX p s m args meth c cc nL RX6 ret) (K0 : KC D cyI ad s s.heap) (P : va_P D classes (cw cyI ad I A) H) (hdg : decode cc pc = .ok (.getfield 12, 3)) (kk : W p l e R s m args below meth c H locs cells slots Q (F0 m (pc + 3) ls (.ref (ad 1) :: rest))) : W p l e R s m args below meth c H locs cells slots Q (F0 m pc ls (.ref (ad 0) :: rest)) := va_get E.hx E.hb E.ht inAX6 E.ho K0.k P 0 cw_g0 (show classes[6]? = some (RX6, TX6, 9) from rfl) 0 (by decide) (E.ht _ kFL_X6_12) (fun _ h9 => h9) rfl hdg kk
theorem gf_X6_21 (E : EX p s m args meth c cc nL RX6 ret) (K0 : KC D cyI ad s s.heap) (P : va_P D classes (cw cyI ad I A) H) (hdg : decode cc pc = .ok (.getfield 21, 3)) (kk : W p l e R s m args below meth c H locs cells slots Q (F0 m (pc + 3) ls (.ref (ad 2) :: rest))) : W p l e R s m args below meth c H locs cells slots Q (F0 m pc ls (.ref (ad 0) :: rest)) := va_get E.hx E.hb E.ht inAX6 E.ho K0.k P 0 cw_g0 (show classes[6]? = some (RX6, TX6, 9) from rfl) 1 (by decide) (E.ht _ kFL_X6_21) (fun _ h9 => h9) rfl hdg kk
theorem gf_X6_30 (E : EX p s m args meth c cc nL RX6 ret) (K0 : KC D cyI ad s s.heap) (P : va_P D classes (cw cyI ad I A) H) (hdg : decode cc pc = .ok (.getfield 30, 3)) (kk : W p l e R s m args below meth c H locs cells slots Q (F0 m (pc + 3) ls (.ref (ad 3) :: rest))) : W p l e R s m args below meth c H locs cells slots Q (F0 m pc ls (.ref (ad 0) :: rest)) := va_get E.hx E.hb E.ht inAX6 E.ho K0.k P 0 cw_g0 (show classes[6]? = some (RX6, TX6, 9) from rfl) 2 (by decide) (E.ht _ kFL_X6_30) (fun _ h9 => h9) rfl hdg kk
theorem gf_X6_37 (E : EX p s m args meth c cc nL RX6 ret) (K0 : KC D cyI ad s s.heap) (P : va_P D classes (cw cyI ad I A) H) (hdg : decode cc pc = .ok (.getfield 37, 3)) (kk : W p l e R s m args below meth c H locs cells slots Q (F0 m (pc + 3) ls (.ref (ad 4) :: rest))) : W p l e R s m args below meth c H locs cells slots Q (F0 m pc ls (.ref (ad 0) :: rest)) := va_get E.hx E.hb E.ht inAX6 E.ho K0.k P 0 cw_g0 (show classes[6]? = some (RX6, TX6, 9) from rfl) 3 (by decide) (E.ht _ kFL_X6_37) (fun _ h9 => h9) rfl hdg kk
theorem gf_X6_44 (E : EX p s m args meth c cc nL RX6 ret) (K0 : KC D cyI ad s s.heap) (P : va_P D classes (cw cyI ad I A) H) (hdg : decode cc pc = .ok (.getfield 44, 3)) (kk : W p l e R s m args below meth c H locs cells slots Q (F0 m (pc + 3) ls (.ref (ad 5) :: rest))) : W p l e R s m args below meth c H locs cells slots Q (F0 m pc ls (.ref (ad 0) :: rest)) := va_get E.hx E.hb E.ht inAX6 E.ho K0.k P 0 cw_g0 (show classes[6]? = some (RX6, TX6, 9) from rfl) 4 (by decide) (E.ht _ kFL_X6_44) (fun _ h9 => h9) rfl hdg kk
theorem gf_X6_48 (E : EX p s m args meth c cc nL RX6 ret) (K0 : KC D cyI ad s s.heap) (P : va_P D classes (cw cyI ad I A) H) (hdg : decode cc pc = .ok (.getfield 48, 3)) (kk : W p l e R s m args below meth c H locs cells slots Q (F0 m (pc + 3) ls (.int (I 0) :: rest))) : W p l e R s m args below meth c H locs cells slots Q (F0 m pc ls (.ref (ad 0) :: rest)) := va_get E.hx E.hb E.ht inAX6 E.ho K0.k P 0 cw_g0 (show classes[6]? = some (RX6, TX6, 9) from rfl) 5 (by decide) (E.ht _ kFL_X6_48) (fun _ h9 => h9) rfl hdg kk
theorem pf_X6_48 (E : EX p s m args meth c cc nL RX6 ret) (N : AdN 44 ad) (K0 : KC D cyI ad s s.heap) (P : va_P D classes (cw cyI ad I A) H) (S : va_S (InN 44 ad) s.heap H locs) {v : Int32} (hdg : decode cc pc = .ok (.putfield 48, 3)) (kk : ∀ (H1 : Heap) (locs1 : List Loc), va_P D classes (cw cyI ad (va_up I 0 v) A) H1 → va_S (InN 44 ad) s.heap H1 locs1 → W p l e R s m args below meth c H1 locs1 cells slots Q (F0 m (pc + 3) ls rest)) : W p l e R s m args below meth c H locs cells slots Q (F0 m pc ls (.int v :: .ref (ad 0) :: rest)) := va_put E.hx E.hb E.ht inAX6 tyX6 tyX6_ok nmX6 E.ho K0.k P (cw_D N I A) S 0 cw_g0 (show classes[6]? = some (RX6, TX6, 9) from rfl) 5 (by decide) (E.ht _ kFL_X6_48) (fun _ h9 => h9) rfl (show parseFieldDescriptor (TX6 5).2.2.1 = some .int by decide +kernel) rfl rfl (Nat.le_of_ble_eq_true rfl) hdg (fun H1 l1 hP _ hS => kk H1 l1 hP hS)
theorem gf_X6_114 (E : EX p s m args meth c cc nL RX6 ret) (K0 : KC D cyI ad s s.heap) (P : va_P D classes (cw cyI ad I A) H) (hdg : decode cc pc = .ok (.getfield 114, 3)) (kk : W p l e R s m args below meth c H locs cells slots Q (F0 m (pc + 3) ls (.int (I 4) :: rest))) : W p l e R s m args below meth c H locs cells slots Q (F0 m pc ls (.ref (ad 1) :: rest)) := va_getN E.hx E.hb E.ht inAX3 E.ho K0.k P 1 cw_g1 (show classes[3]? = some (RX3, TX3, 9) from rfl) 8 (by decide) (va_Nw.use rfl (K0.nf _ (List.mem_of_getElem? (i := 0) rfl))) (fun _ h9 => h9) rfl hdg kk
theorem pf_X6_114 (E : EX p s m args meth c cc nL RX6 ret) (N : AdN 44 ad) (K0 : KC D cyI ad s s.heap) (P : va_P D classes (cw cyI ad I A) H) (S : va_S (InN 44 ad) s.heap H locs) {v : Int32} (hdg : decode cc pc = .ok (.putfield 114, 3)) (kk : ∀ (H1 : Heap) (locs1 : List Loc), va_P D classes (cw cyI ad (va_up I 4 v) A) H1 → va_S (InN 44 ad) s.heap H1 locs1 → W p l e R s m args below meth c H1 locs1 cells slots Q (F0 m (pc + 3) ls rest)) : W p l e R s m args below meth c H locs cells slots Q (F0 m pc ls (.int v :: .ref (ad 1) :: rest)) := va_putN E.hx E.hb E.ht inAX3 tyX3 tyX3_ok nmX3 E.ho K0.k P (cw_D N I A) S 1 cw_g1 (show classes[3]? = some (RX3, TX3, 9) from rfl) 8 (by decide) (va_Nw.use rfl (K0.nf _ (List.mem_of_getElem? (i := 0) rfl))) (fun _ h9 => h9) rfl (show parseFieldDescriptor (TX3 8).2.2.1 = some .int by decide +kernel) rfl rfl (Nat.le_of_ble_eq_true rfl) hdg (fun H1 l1 hP _ hS => kk H1 l1 hP hS)
theorem gf_X6_140 (E : EX p s m args meth c cc nL RX6 ret) (K0 : KC D cyI ad s s.heap) (P : va_P D classes (cw cyI ad I A) H) (hdg : decode cc pc = .ok (.getfield 140, 3)) (kk : W p l e R s m args below meth c H locs cells slots Q (F0 m (pc + 3) ls (.int (I 1) :: rest))) : W p l e R s m args below meth c H locs cells slots Q (F0 m pc ls (.ref (ad 0) :: rest)) := va_get E.hx E.hb E.ht inAX6 E.ho K0.k P 0 cw_g0 (show classes[6]? = some (RX6, TX6, 9) from rfl) 6 (by decide) (E.ht _ kFL_X6_140) (fun _ h9 => h9) rfl hdg kk
theorem pf_X6_140 (E : EX p s m args meth c cc nL RX6 ret) (N : AdN 44 ad) (K0 : KC D cyI ad s s.heap) (P : va_P D classes (cw cyI ad I A) H) (S : va_S (InN 44 ad) s.heap H locs) {v : Int32} (hdg : decode cc pc = .ok (.putfield 140, 3)) (kk : ∀ (H1 : Heap) (locs1 : List Loc), va_P D classes (cw cyI ad (va_up I 1 v) A) H1 → va_S (InN 44 ad) s.heap H1 locs1 → W p l e R s m args below meth c H1 locs1 cells slots Q (F0 m (pc + 3) ls rest)) : W p l e R s m args below meth c H locs cells slots Q (F0 m pc ls (.int v :: .ref (ad 0) :: rest)) := va_put E.hx E.hb E.ht inAX6 tyX6 tyX6_ok nmX6 E.ho K0.k P (cw_D N I A) S 0 cw_g0 (show classes[6]? = some (RX6, TX6, 9) from rfl) 6 (by decide) (E.ht _ kFL_X6_140) (fun _ h9 => h9) rfl (show parseFieldDescriptor (TX6 6).2.2.1 = some .int by decide +kernel) rfl rfl (Nat.le_of_ble_eq_true rfl) hdg (fun H1 l1 hP _ hS => kk H1 l1 hP hS)
theorem gf_X6_145 (E : EX p s m args meth c cc nL RX6 ret) (K0 : KC D cyI ad s s.heap) (P : va_P D classes (cw cyI ad I A) H) (hdg : decode cc pc = .ok (.getfield 145, 3)) (kk : W p l e R s m args below meth c H locs cells slots Q (F0 m (pc + 3) ls (.int (I 10) :: rest))) : W p l e R s m args below meth c H locs cells slots Q (F0 m pc ls (.ref (ad 4) :: rest)) := va_getN E.hx E.hb E.ht inAX0 E.ho K0.k P 4 cw_g4 (show classes[0]? = some (RX0, TX0, 5) from rfl) 4 (by decide) (va_Nw.use rfl (K0.nf _ (List.mem_of_getElem? (i := 6) rfl))) (fun _ h9 => h9) rfl hdg kk
theorem pf_X6_145 (E : EX p s m args meth c cc nL RX6 ret) (N : AdN 44 ad) (K0 : KC D cyI ad s s.heap) (P : va_P D classes (cw cyI ad I A) H) (S : va_S (InN 44 ad) s.heap H locs) {v : Int32} (hdg : decode cc pc = .ok (.putfield 145, 3)) (kk : ∀ (H1 : Heap) (locs1 : List Loc), va_P D classes (cw cyI ad (va_up I 10 v) A) H1 → va_S (InN 44 ad) s.heap H1 locs1 → W p l e R s m args below meth c H1 locs1 cells slots Q (F0 m (pc + 3) ls rest)) : W p l e R s m args below meth c H locs cells slots Q (F0 m pc ls (.int v :: .ref (ad 4) :: rest)) := va_putN E.hx E.hb E.ht inAX0 tyX0 tyX0_ok nmX0 E.ho K0.k P (cw_D N I A) S 4 cw_g4 (show classes[0]? = some (RX0, TX0, 5) from rfl) 4 (by decide) (va_Nw.use rfl (K0.nf _ (List.mem_of_getElem? (i := 6) rfl))) (fun _ h9 => h9) rfl (show parseFieldDescriptor (TX0 4).2.2.1 = some .int by decide +kernel) rfl rfl (Nat.le_of_ble_eq_true rfl) hdg (fun H1 l1 hP _ hS => kk H1 l1 hP hS)
theorem gf_X6_155 (E : EX p s m args meth c cc nL RX6 ret) (K0 : KC D cyI ad s s.heap) (P : va_P D classes (cw cyI ad I A) H) (hdg : decode cc pc = .ok (.getfield 155, 3)) (kk : W p l e R s m args below meth c H locs cells slots Q (F0 m (pc + 3) ls (.int (I 3) :: rest))) : W p l e R s m args below meth c H locs cells slots Q (F0 m pc ls (.ref (ad 0) :: rest)) := va_get E.hx E.hb E.ht inAX6 E.ho K0.k P 0 cw_g0 (show classes[6]? = some (RX6, TX6, 9) from rfl) 8 (by decide) (E.ht _ kFL_X6_155) (fun _ h9 => h9) rfl hdg kk
theorem pf_X6_155 (E : EX p s m args meth c cc nL RX6 ret) (N : AdN 44 ad) (K0 : KC D cyI ad s s.heap) (P : va_P D classes (cw cyI ad I A) H) (S : va_S (InN 44 ad) s.heap H locs) {v : Int32} (hdg : decode cc pc = .ok (.putfield 155, 3)) (kk : ∀ (H1 : Heap) (locs1 : List Loc), va_P D classes (cw cyI ad (va_up I 3 v) A) H1 → va_S (InN 44 ad) s.heap H1 locs1 → W p l e R s m args below meth c H1 locs1 cells slots Q (F0 m (pc + 3) ls rest)) : W p l e R s m args below meth c H locs cells slots Q (F0 m pc ls (.int v :: .ref (ad 0) :: rest)) := va_put E.hx E.hb E.ht inAX6 tyX6 tyX6_ok nmX6 E.ho K0.k P (cw_D N I A) S 0 cw_g0 (show classes[6]? = some (RX6, TX6, 9) from rfl) 8 (by decide) (E.ht _ kFL_X6_155) (fun _ h9 => h9) rfl (show parseFieldDescriptor (TX6 8).2.2.1 = some .int by decide +kernel) rfl rfl (Nat.le_of_ble_eq_true rfl) hdg (fun H1 l1 hP _ hS => kk H1 l1 hP hS)
theorem gf_X6_169 (E : EX p s m args meth c cc nL RX6 ret) (K0 : KC D cyI ad s s.heap) (P : va_P D classes (cw cyI ad I A) H) (hdg : decode cc pc = .ok (.getfield 169, 3)) (kk : W p l e R s m args below meth c H locs cells slots Q (F0 m (pc + 3) ls (.int (I 11) :: rest))) : W p l e R s m args below meth c H locs cells slots Q (F0 m pc ls (.ref (ad 5) :: rest)) := va_getN E.hx E.hb E.ht inAX2 E.ho K0.k P 5 cw_g5 (show classes[2]? = some (RX2, TX2, 3) from rfl) 2 (by decide) (va_Nw.use rfl (K0.nf _ (List.mem_of_getElem? (i := 7) rfl))) (fun _ h9 => h9) rfl hdg kk
theorem pf_X6_169 (E : EX p s m args meth c cc nL RX6 ret) (N : AdN 44 ad) (K0 : KC D cyI ad s s.heap) (P : va_P D classes (cw cyI ad I A) H) (S : va_S (InN 44 ad) s.heap H locs) {v : Int32} (hdg : decode cc pc = .ok (.putfield 169, 3)) (kk : ∀ (H1 : Heap) (locs1 : List Loc), va_P D classes (cw cyI ad (va_up I 11 v) A) H1 → va_S (InN 44 ad) s.heap H1 locs1 → W p l e R s m args below meth c H1 locs1 cells slots Q (F0 m (pc + 3) ls rest)) : W p l e R s m args below meth c H locs cells slots Q (F0 m pc ls (.int v :: .ref (ad 5) :: rest)) := va_putN E.hx E.hb E.ht inAX2 tyX2 tyX2_ok nmX2 E.ho K0.k P (cw_D N I A) S 5 cw_g5 (show classes[2]? = some (RX2, TX2, 3) from rfl) 2 (by decide) (va_Nw.use rfl (K0.nf _ (List.mem_of_getElem? (i := 7) rfl))) (fun _ h9 => h9) rfl (show parseFieldDescriptor (TX2 2).2.2.1 = some .int by decide +kernel) rfl rfl (Nat.le_of_ble_eq_true rfl) hdg (fun H1 l1 hP _ hS => kk H1 l1 hP hS)
theorem gf_X6_190 (E : EX p s m args meth c cc nL RX6 ret) (K0 : KC D cyI ad s s.heap) (P : va_P D classes (cw cyI ad I A) H) (hdg : decode cc pc = .ok (.getfield 190, 3)) (kk : W p l e R s m args below meth c H locs cells slots Q (F0 m (pc + 3) ls (.int (I 9) :: rest))) : W p l e R s m args below meth c H locs cells slots Q (F0 m pc ls (.ref (ad 2) :: rest)) := va_getN E.hx E.hb E.ht inAX1 E.ho K0.k P 2 cw_g2 (show classes[1]? = some (RX1, TX1, 11) from rfl) 10 (by decide) (va_Nw.use rfl (K0.nf _ (List.mem_of_getElem? (i := 5) rfl))) (fun _ h9 => h9) rfl hdg kk
theorem pf_X6_190 (E : EX p s m args meth c cc nL RX6 ret) (N : AdN 44 ad) (K0 : KC D cyI ad s s.heap) (P : va_P D classes (cw cyI ad I A) H) (S : va_S (InN 44 ad) s.heap H locs) {v : Int32} (hdg : decode cc pc = .ok (.putfield 190, 3)) (kk : ∀ (H1 : Heap) (locs1 : List Loc), va_P D classes (cw cyI ad (va_up I 9 v) A) H1 → va_S (InN 44 ad) s.heap H1 locs1 → W p l e R s m args below meth c H1 locs1 cells slots Q (F0 m (pc + 3) ls rest)) : W p l e R s m args below meth c H locs cells slots Q (F0 m pc ls (.int v :: .ref (ad 2) :: rest)) := va_putN E.hx E.hb E.ht inAX1 tyX1 tyX1_ok nmX1 E.ho K0.k P (cw_D N I A) S 2 cw_g2 (show classes[1]? = some (RX1, TX1, 11) from rfl) 10 (by decide) (va_Nw.use rfl (K0.nf _ (List.mem_of_getElem? (i := 5) rfl))) (fun _ h9 => h9) rfl (show parseFieldDescriptor (TX1 10).2.2.1 = some .int by decide +kernel) rfl rfl (Nat.le_of_ble_eq_true rfl) hdg (fun H1 l1 hP _ hS => kk H1 l1 hP hS)
theorem gf_X6_196 (E : EX p s m args meth c cc nL RX6 ret) (K0 : KC D cyI ad s s.heap) (P : va_P D classes (cw cyI ad I A) H) (hdg : decode cc pc = .ok (.getfield 196, 3)) (kk : W p l e R s m args below meth c H locs cells slots Q (F0 m (pc + 3) ls (.int (I 2) :: rest))) : W p l e R s m args below meth c H locs cells slots Q (F0 m pc ls (.ref (ad 0) :: rest)) := va_get E.hx E.hb E.ht inAX6 E.ho K0.k P 0 cw_g0 (show classes[6]? = some (RX6, TX6, 9) from rfl) 7 (by decide) (E.ht _ kFL_X6_196) (fun _ h9 => h9) rfl hdg kk
theorem pf_X6_196 (E : EX p s m args meth c cc nL RX6 ret) (N : AdN 44 ad) (K0 : KC D cyI ad s s.heap) (P : va_P D classes (cw cyI ad I A) H) (S : va_S (InN 44 ad) s.heap H locs) {v : Int32} (hdg : decode cc pc = .ok (.putfield 196, 3)) (kk : ∀ (H1 : Heap) (locs1 : List Loc), va_P D classes (cw cyI ad (va_up I 2 v) A) H1 → va_S (InN 44 ad) s.heap H1 locs1 → W p l e R s m args below meth c H1 locs1 cells slots Q (F0 m (pc + 3) ls rest)) : W p l e R s m args below meth c H locs cells slots Q (F0 m pc ls (.int v :: .ref (ad 0) :: rest)) := va_put E.hx E.hb E.ht inAX6 tyX6 tyX6_ok nmX6 E.ho K0.k P (cw_D N I A) S 0 cw_g0 (show classes[6]? = some (RX6, TX6, 9) from rfl) 7 (by decide) (E.ht _ kFL_X6_196) (fun _ h9 => h9) rfl (show parseFieldDescriptor (TX6 7).2.2.1 = some .int by decide +kernel) rfl rfl (Nat.le_of_ble_eq_true rfl) hdg (fun H1 l1 hP _ hS => kk H1 l1 hP hS)
theorem gf_X7_7 (E : EX p s m args meth c cc nL RX7 ret) (K0 : KM D cyI s s.heap) (P : va_P D classes (mw cyI ad I A) H) (hdg : decode cc pc = .ok (.getfield 7, 3)) (kk : W p l e R s m args below meth c H locs cells slots Q (F0 m (pc + 3) ls (.int (I 1) :: rest))) : W p l e R s m args below meth c H locs cells slots Q (F0 m pc ls (.ref (ad 0) :: rest)) := va_get E.hx E.hb E.ht inAX7 E.ho K0.k P 0 mw_g0 (show classes[7]? = some (RX7, TX7, 27) from rfl) 1 (by decide) (E.ht _ kFL_X7_7) (fun _ h9 => h9) rfl hdg kk
theorem pf_X7_7 (E : EX p s m args meth c cc nL RX7 ret) (N : AdN 16 ad) (K0 : KM D cyI s s.heap) (P : va_P D classes (mw cyI ad I A) H) (S : va_S (InN 16 ad) s.heap H locs) {v : Int32} (hdg : decode cc pc = .ok (.putfield 7, 3)) (kk : ∀ (H1 : Heap) (locs1 : List Loc), va_P D classes (mw cyI ad (va_up I 1 v) A) H1 → va_S (InN 16 ad) s.heap H1 locs1 → W p l e R s m args below meth c H1 locs1 cells slots Q (F0 m (pc + 3) ls rest)) : W p l e R s m args below meth c H locs cells slots Q (F0 m pc ls (.int v :: .ref (ad 0) :: rest)) := va_put E.hx E.hb E.ht inAX7 tyX7 tyX7_ok nmX7 E.ho K0.k P (mw_D N I A) S 0 mw_g0 (show classes[7]? = some (RX7, TX7, 27) from rfl) 1 (by decide) (E.ht _ kFL_X7_7) (fun _ h9 => h9) rfl (show parseFieldDescriptor (TX7 1).2.2.1 = some .int by decide +kernel) rfl rfl (Nat.le_of_ble_eq_true rfl) hdg (fun H1 l1 hP _ hS => kk H1 l1 hP hS)
theorem gf_X7_13 (E : EX p s m args meth c cc nL RX7 ret) (K0 : KM D cyI s s.heap) (P : va_P D classes (mw cyI ad I A) H) (hdg : decode cc pc = .ok (.getfield 13, 3)) (kk : W p l e R s m args below meth c H locs cells slots Q (F0 m (pc + 3) ls (.int (I 2) :: rest))) : W p l e R s m args below meth c H locs cells slots Q (F0 m pc ls (.ref (ad 0) :: rest)) := va_get E.hx E.hb E.ht inAX7 E.ho K0.k P 0 mw_g0 (show classes[7]? = some (RX7, TX7, 27) from rfl) 2 (by decide) (E.ht _ kFL_X7_13) (fun _ h9 => h9) rfl hdg kk
theorem pf_X7_13 (E : EX p s m args meth c cc nL RX7 ret) (N : AdN 16 ad) (K0 : KM D cyI s s.heap) (P : va_P D classes (mw cyI ad I A) H) (S : va_S (InN 16 ad) s.heap H locs) {v : Int32} (hdg : decode cc pc = .ok (.putfield 13, 3)) (kk : ∀ (H1 : Heap) (locs1 : List Loc), va_P D classes (mw cyI ad (va_up I 2 v) A) H1 → va_S (InN 16 ad) s.heap H1 locs1 → W p l e R s m args below meth c H1 locs1 cells slots Q (F0 m (pc + 3) ls rest)) : W p l e R s m args below meth c H locs cells slots Q (F0 m pc ls (.int v :: .ref (ad 0) :: rest)) := va_put E.hx E.hb E.ht inAX7 tyX7 tyX7_ok nmX7 E.ho K0.k P (mw_D N I A) S 0 mw_g0 (show classes[7]? = some (RX7, TX7, 27) from rfl) 2 (by decide) (E.ht _ kFL_X7_13) (fun _ h9 => h9) rfl (show parseFieldDescriptor (TX7 2).2.2.1 = some .int by decide +kernel) rfl rfl (Nat.le_of_ble_eq_true rfl) hdg (fun H1 l1 hP _ hS => kk H1 l1 hP hS)
theorem gf_X7_16 (E : EX p s m args meth c cc nL RX7 ret) (K0 : KM D cyI s s.heap) (P : va_P D classes (mw cyI ad I A) H) (hdg : decode cc pc = .ok (.getfield 16, 3)) (kk : W p l e R s m args below meth c H locs cells slots Q (F0 m (pc + 3) ls (.int (I 3) :: rest))) : W p l e R s m args below meth c H locs cells slots Q (F0 m pc ls (.ref (ad 0) :: rest)) := va_get E.hx E.hb E.ht inAX7 E.ho K0.k P 0 mw_g0 (show classes[7]? = some (RX7, TX7, 27) from rfl) 3 (by decide) (E.ht _ kFL_X7_16) (fun _ h9 => h9) rfl hdg kk
theorem pf_X7_16 (E : EX p s m args meth c cc nL RX7 ret) (N : AdN 16 ad) (K0 : KM D cyI s s.heap) (P : va_P D classes (mw cyI ad I A) H) (S : va_S (InN 16 ad) s.heap H locs) {v : Int32} (hdg : decode cc pc = .ok (.putfield 16, 3)) (kk : ∀ (H1 : Heap) (locs1 : List Loc), va_P D classes (mw cyI ad (va_up I 3 v) A) H1 → va_S (InN 16 ad) s.heap H1 locs1 → W p l e R s m args below meth c H1 locs1 cells slots Q (F0 m (pc + 3) ls rest)) : W p l e R s m args below meth c H locs cells slots Q (F0 m pc ls (.int v :: .ref (ad 0) :: rest)) := va_put E.hx E.hb E.ht inAX7 tyX7 tyX7_ok nmX7 E.ho K0.k P (mw_D N I A) S 0 mw_g0 (show classes[7]? = some (RX7, TX7, 27) from rfl) 3 (by decide) (E.ht _ kFL_X7_16) (fun _ h9 => h9) rfl (show parseFieldDescriptor (TX7 3).2.2.1 = some .int by decide +kernel) rfl rfl (Nat.le_of_ble_eq_true rfl) hdg (fun H1 l1 hP _ hS => kk H1 l1 hP hS)
theorem gf_X7_19 (E : EX p s m args meth c cc nL RX7 ret) (K0 : KM D cyI s s.heap) (P : va_P D classes (mw cyI ad I A) H) (hdg : decode cc pc = .ok (.getfield 19, 3)) (kk : W p l e R s m args below meth c H locs cells slots Q (F0 m (pc + 3) ls (.int (I 4) :: rest))) : W p l e R s m args below meth c H locs cells slots Q (F0 m pc ls (.ref (ad 0) :: rest)) := va_get E.hx E.hb E.ht inAX7 E.ho K0.k P 0 mw_g0 (show classes[7]? = some (RX7, TX7, 27) from rfl) 4 (by decide) (E.ht _ kFL_X7_19) (fun _ h9 => h9) rfl hdg kk
theorem pf_X7_19 (E : EX p s m args meth c cc nL RX7 ret) (N : AdN 16 ad) (K0 : KM D cyI s s.heap) (P : va_P D classes (mw cyI ad I A) H) (S : va_S (InN 16 ad) s.heap H locs) {v : Int32} (hdg : decode cc pc = .ok (.putfield 19, 3)) (kk : ∀ (H1 : Heap) (locs1 : List Loc), va_P D classes (mw cyI ad (va_up I 4 v) A) H1 → va_S (InN 16 ad) s.heap H1 locs1 → W p l e R s m args below meth c H1 locs1 cells slots Q (F0 m (pc + 3) ls rest)) : W p l e R s m args below meth c H locs cells slots Q (F0 m pc ls (.int v :: .ref (ad 0) :: rest)) := va_put E.hx E.hb E.ht inAX7 tyX7 tyX7_ok nmX7 E.ho K0.k P (mw_D N I A) S 0 mw_g0 (show classes[7]? = some (RX7, TX7, 27) from rfl) 4 (by decide) (E.ht _ kFL_X7_19) (fun _ h9 => h9) rfl (show parseFieldDescriptor (TX7 4).2.2.1 = some .int by decide +kernel) rfl rfl (Nat.le_of_ble_eq_true rfl) hdg (fun H1 l1 hP _ hS => kk H1 l1 hP hS)
theorem gf_X7_22 (E : EX p s m args meth c cc nL RX7 ret) (K0 : KM D cyI s s.heap) (P : va_P D classes (mw cyI ad I A) H) (hdg : decode cc pc = .ok (.getfield 22, 3)) (kk : W p l e R s m args below meth c H locs cells slots Q (F0 m (pc + 3) ls (.ref (ad 1) :: rest))) : W p l e R s m args below meth c H locs cells slots Q (F0 m pc ls (.ref (ad 0) :: rest)) := va_get E.hx E.hb E.ht inAX7 E.ho K0.k P 0 mw_g0 (show classes[7]? = some (RX7, TX7, 27) from rfl) 9 (by decide) (E.ht _ kFL_X7_22) (fun _ h9 => h9) rfl hdg kk
theorem gf_X7_26 (E : EX p s m args meth c cc nL RX7 ret) (K0 : KM D cyI s s.heap) (P : va_P D classes (mw cyI ad I A) H) (hdg : decode cc pc = .ok (.getfield 26, 3)) (kk : W p l e R s m args below meth c H locs cells slots Q (F0 m (pc + 3) ls (.ref (ad 2) :: rest))) : W p l e R s m args below meth c H locs cells slots Q (F0 m pc ls (.ref (ad 0) :: rest)) := va_get E.hx E.hb E.ht inAX7 E.ho K0.k P 0 mw_g0 (show classes[7]? = some (RX7, TX7, 27) from rfl) 10 (by decide) (E.ht _ kFL_X7_26) (fun _ h9 => h9) rfl hdg kk
theorem gf_X7_29 (E : EX p s m args meth c cc nL RX7 ret) (K0 : KM D cyI s s.heap) (P : va_P D classes (mw cyI ad I A) H) (hdg : decode cc pc = .ok (.getfield 29, 3)) (kk : W p l e R s m args below meth c H locs cells slots Q (F0 m (pc + 3) ls (.ref (ad 3) :: rest))) : W p l e R s m args below meth c H locs cells slots Q (F0 m pc ls (.ref (ad 0) :: rest)) := va_get E.hx E.hb E.ht inAX7 E.ho K0.k P 0 mw_g0 (show classes[7]? = some (RX7, TX7, 27) from rfl) 11 (by decide) (E.ht _ kFL_X7_29) (fun _ h9 => h9) rfl hdg kk
theorem gf_X7_32 (E : EX p s m args meth c cc nL RX7 ret) (K0 : KM D cyI s s.heap) (P : va_P D classes (mw cyI ad I A) H) (hdg : decode cc pc = .ok (.getfield 32, 3)) (kk : W p l e R s m args below meth c H locs cells slots Q (F0 m (pc + 3) ls (.ref (ad 4) :: rest))) : W p l e R s m args below meth c H locs cells slots Q (F0 m pc ls (.ref (ad 0) :: rest)) := va_get E.hx E.hb E.ht inAX7 E.ho K0.k P 0 mw_g0 (show classes[7]? = some (RX7, TX7, 27) from rfl) 12 (by decide) (E.ht _ kFL_X7_32) (fun _ h9 => h9) rfl hdg kk
theorem gf_X7_35 (E : EX p s m args meth c cc nL RX7 ret) (K0 : KM D cyI s s.heap) (P : va_P D classes (mw cyI ad I A) H) (hdg : decode cc pc = .ok (.getfield 35, 3)) (kk : W p l e R s m args below meth c H locs cells slots Q (F0 m (pc + 3) ls (.ref (ad 5) :: rest))) : W p l e R s m args below meth c H locs cells slots Q (F0 m pc ls (.ref (ad 0) :: rest)) := va_get E.hx E.hb E.ht inAX7 E.ho K0.k P 0 mw_g0 (show classes[7]? = some (RX7, TX7, 27) from rfl) 13 (by decide) (E.ht _ kFL_X7_35) (fun _ h9 => h9) rfl hdg kk
theorem gf_X7_38 (E : EX p s m args meth c cc nL RX7 ret) (K0 : KM D cyI s s.heap) (P : va_P D classes (mw cyI ad I A) H) (hdg : decode cc pc = .ok (.getfield 38, 3)) (kk : W p l e R s m args below meth c H locs cells slots Q (F0 m (pc + 3) ls (.ref (ad 6) :: rest))) : W p l e R s m args below meth c H locs cells slots Q (F0 m pc ls (.ref (ad 0) :: rest)) := va_get E.hx E.hb E.ht inAX7 E.ho K0.k P 0 mw_g0 (show classes[7]? = some (RX7, TX7, 27) from rfl) 15 (by decide) (E.ht _ kFL_X7_38) (fun _ h9 => h9) rfl hdg kk
theorem gf_X7_41 (E : EX p s m args meth c cc nL RX7 ret) (K0 : KM D cyI s s.heap) (P : va_P D classes (mw cyI ad I A) H) (hdg : decode cc pc = .ok (.getfield 41, 3)) (kk : W p l e R s m args below meth c H locs cells slots Q (F0 m (pc + 3) ls (.ref (ad 7) :: rest))) : W p l e R s m args below meth c H locs cells slots Q (F0 m pc ls (.ref (ad 0) :: rest)) := va_get E.hx E.hb E.ht inAX7 E.ho K0.k P 0 mw_g0 (show classes[7]? = some (RX7, TX7, 27) from rfl) 16 (by decide) (E.ht _ kFL_X7_41) (fun _ h9 => h9) rfl hdg kk
theorem gf_X7_44 (E : EX p s m args meth c cc nL RX7 ret) (K0 : KM D cyI s s.heap) (P : va_P D classes (mw cyI ad I A) H) (hdg : decode cc pc = .ok (.getfield 44, 3)) (kk : W p l e R s m args below meth c H locs cells slots Q (F0 m (pc + 3) ls (.ref (ad 8) :: rest))) : W p l e R s m args below meth c H locs cells slots Q (F0 m pc ls (.ref (ad 0) :: rest)) := va_get E.hx E.hb E.ht inAX7 E.ho K0.k P 0 mw_g0 (show classes[7]? = some (RX7, TX7, 27) from rfl) 17 (by decide) (E.ht _ kFL_X7_44) (fun _ h9 => h9) rfl hdg kk
theorem gf_X7_47 (E : EX p s m args meth c cc nL RX7 ret) (K0 : KM D cyI s s.heap) (P : va_P D classes (mw cyI ad I A) H) (hdg : decode cc pc = .ok (.getfield 47, 3)) (kk : W p l e R s m args below meth c H locs cells slots Q (F0 m (pc + 3) ls (.ref (ad 9) :: rest))) : W p l e R s m args below meth c H locs cells slots Q (F0 m pc ls (.ref (ad 0) :: rest)) := va_get E.hx E.hb E.ht inAX7 E.ho K0.k P 0 mw_g0 (show classes[7]? = some (RX7, TX7, 27) from rfl) 18 (by decide) (E.ht _ kFL_X7_47) (fun _ h9 => h9) rfl hdg kk
theorem gf_X7_50 (E : EX p s m args meth c cc nL RX7 ret) (K0 : KM D cyI s s.heap) (P : va_P D classes (mw cyI ad I A) H) (hdg : decode cc pc = .ok (.getfield 50, 3)) (kk : W p l e R s m args below meth c H locs cells slots Q (F0 m (pc + 3) ls (.ref (ad 10) :: rest))) : W p l e R s m args below meth c H locs cells slots Q (F0 m pc ls (.ref (ad 0) :: rest)) := va_get E.hx E.hb E.ht inAX7 E.ho K0.k P 0 mw_g0 (show classes[7]? = some (RX7, TX7, 27) from rfl) 20 (by decide) (E.ht _ kFL_X7_50) (fun _ h9 => h9) rfl hdg kk
theorem gf_X7_53 (E : EX p s m args meth c cc nL RX7 ret) (K0 : KM D cyI s s.heap) (P : va_P D classes (mw cyI ad I A) H) (hdg : decode cc pc = .ok (.getfield 53, 3)) (kk : W p l e R s m args below meth c H locs cells slots Q (F0 m (pc + 3) ls (.ref (ad 11) :: rest))) : W p l e R s m args below meth c H locs cells slots Q (F0 m pc ls (.ref (ad 0) :: rest)) := va_get E.hx E.hb E.ht inAX7 E.ho K0.k P 0 mw_g0 (show classes[7]? = some (RX7, TX7, 27) from rfl) 21 (by decide) (E.ht _ kFL_X7_53) (fun _ h9 => h9) rfl hdg kk
theorem gf_X7_56 (E : EX p s m args meth c cc nL RX7 ret) (K0 : KM D cyI s s.heap) (P : va_P D classes (mw cyI ad I A) H) (hdg : decode cc pc = .ok (.getfield 56, 3)) (kk : W p l e R s m args below meth c H locs cells slots Q (F0 m (pc + 3) ls (.ref (ad 12) :: rest))) : W p l e R s m args below meth c H locs cells slots Q (F0 m pc ls (.ref (ad 0) :: rest)) := va_get E.hx E.hb E.ht inAX7 E.ho K0.k P 0 mw_g0 (show classes[7]? = some (RX7, TX7, 27) from rfl) 22 (by decide) (E.ht _ kFL_X7_56) (fun _ h9 => h9) rfl hdg kk
theorem gf_X7_59 (E : EX p s m args meth c cc nL RX7 ret) (K0 : KM D cyI s s.heap) (P : va_P D classes (mw cyI ad I A) H) (hdg : decode cc pc = .ok (.getfield 59, 3)) (kk : W p l e R s m args below meth c H locs cells slots Q (F0 m (pc + 3) ls (.ref (ad 13) :: rest))) : W p l e R s m args below meth c H locs cells slots Q (F0 m pc ls (.ref (ad 0) :: rest)) := va_get E.hx E.hb E.ht inAX7 E.ho K0.k P 0 mw_g0 (show classes[7]? = some (RX7, TX7, 27) from rfl) 23 (by decide) (E.ht _ kFL_X7_59) (fun _ h9 => h9) rfl hdg kk
theorem gf_X7_62 (E : EX p s m args meth c cc nL RX7 ret) (K0 : KM D cyI s s.heap) (P : va_P D classes (mw cyI ad I A) H) (hdg : decode cc pc = .ok (.getfield 62, 3)) (kk : W p l e R s m args below meth c H locs cells slots Q (F0 m (pc + 3) ls (.ref (ad 14) :: rest))) : W p l e R s m args below meth c H locs cells slots Q (F0 m pc ls (.ref (ad 0) :: rest)) := va_get E.hx E.hb E.ht inAX7 E.ho K0.k P 0 mw_g0 (show classes[7]? = some (RX7, TX7, 27) from rfl) 25 (by decide) (E.ht _ kFL_X7_62) (fun _ h9 => h9) rfl hdg kk
theorem gf_X7_65 (E : EX p s m args meth c cc nL RX7 ret) (K0 : KM D cyI s s.heap) (P : va_P D classes (mw cyI ad I A) H) (hdg : decode cc pc = .ok (.getfield 65, 3)) (kk : W p l e R s m args below meth c H locs cells slots Q (F0 m (pc + 3) ls (.ref (ad 15) :: rest))) : W p l e R s m args below meth c H locs cells slots Q (F0 m pc ls (.ref (ad 0) :: rest)) := va_get E.hx E.hb E.ht inAX7 E.ho K0.k P 0 mw_g0 (show classes[7]? = some (RX7, TX7, 27) from rfl) 26 (by decide) (E.ht _ kFL_X7_65) (fun _ h9 => h9) rfl hdg kk
theorem gf_X7_71 (E : EX p s m args meth c cc nL RX7 ret) (K0 : KM D cyI s s.heap) (P : va_P D classes (mw cyI ad I A) H) (hdg : decode cc pc = .ok (.getfield 71, 3)) (kk : W p l e R s m args below meth c H locs cells slots Q (F0 m (pc + 3) ls (.int (I 9) :: rest))) : W p l e R s m args below meth c H locs cells slots Q (F0 m pc ls (.ref (ad 0) :: rest)) := va_get E.hx E.hb E.ht inAX7 E.ho K0.k P 0 mw_g0 (show classes[7]? = some (RX7, TX7, 27) from rfl) 14 (by decide) (E.ht _ kFL_X7_71) (fun _ h9 => h9) rfl hdg kk
theorem pf_X7_71 (E : EX p s m args meth c cc nL RX7 ret) (N : AdN 16 ad) (K0 : KM D cyI s s.heap) (P : va_P D classes (mw cyI ad I A) H) (S : va_S (InN 16 ad) s.heap H locs) {v : Int32} (hdg : decode cc pc = .ok (.putfield 71, 3)) (kk : ∀ (H1 : Heap) (locs1 : List Loc), va_P D classes (mw cyI ad (va_up I 9 v) A) H1 → va_S (InN 16 ad) s.heap H1 locs1 → W p l e R s m args below meth c H1 locs1 cells slots Q (F0 m (pc + 3) ls rest)) : W p l e R s m args below meth c H locs cells slots Q (F0 m pc ls (.int v :: .ref (ad 0) :: rest)) := va_put E.hx E.hb E.ht inAX7 tyX7 tyX7_ok nmX7 E.ho K0.k P (mw_D N I A) S 0 mw_g0 (show classes[7]? = some (RX7, TX7, 27) from rfl) 14 (by decide) (E.ht _ kFL_X7_71) (fun _ h9 => h9) rfl (show parseFieldDescriptor (TX7 14).2.2.1 = some .int by decide +kernel) rfl rfl (Nat.le_of_ble_eq_true rfl) hdg (fun H1 l1 hP _ hS => kk H1 l1 hP hS)
theorem gf_X7_74 (E : EX p s m args meth c cc nL RX7 ret) (K0 : KM D cyI s s.heap) (P : va_P D classes (mw cyI ad I A) H) (hdg : decode cc pc = .ok (.getfield 74, 3)) (kk : W p l e R s m args below meth c H locs cells slots Q (F0 m (pc + 3) ls (.int (I 10) :: rest))) : W p l e R s m args below meth c H locs cells slots Q (F0 m pc ls (.ref (ad 0) :: rest)) := va_get E.hx E.hb E.ht inAX7 E.ho K0.k P 0 mw_g0 (show classes[7]? = some (RX7, TX7, 27) from rfl) 19 (by decide) (E.ht _ kFL_X7_74) (fun _ h9 => h9) rfl hdg kk
theorem pf_X7_74 (E : EX p s m args meth c cc nL RX7 ret) (N : AdN 16 ad) (K0 : KM D cyI s s.heap) (P : va_P D classes (mw cyI ad I A) H) (S : va_S (InN 16 ad) s.heap H locs) {v : Int32} (hdg : decode cc pc = .ok (.putfield 74, 3)) (kk : ∀ (H1 : Heap) (locs1 : List Loc), va_P D classes (mw cyI ad (va_up I 10 v) A) H1 → va_S (InN 16 ad) s.heap H1 locs1 → W p l e R s m args below meth c H1 locs1 cells slots Q (F0 m (pc + 3) ls rest)) : W p l e R s m args below meth c H locs cells slots Q (F0 m pc ls (.int v :: .ref (ad 0) :: rest)) := va_put E.hx E.hb E.ht inAX7 tyX7 tyX7_ok nmX7 E.ho K0.k P (mw_D N I A) S 0 mw_g0 (show classes[7]? = some (RX7, TX7, 27) from rfl) 19 (by decide) (E.ht _ kFL_X7_74) (fun _ h9 => h9) rfl (show parseFieldDescriptor (TX7 19).2.2.1 = some .int by decide +kernel) rfl rfl (Nat.le_of_ble_eq_true rfl) hdg (fun H1 l1 hP _ hS => kk H1 l1 hP hS)
theorem gf_X7_77 (E : EX p s m args meth c cc nL RX7 ret) (K0 : KM D cyI s s.heap) (P : va_P D classes (mw cyI ad I A) H) (hdg : decode cc pc = .ok (.getfield 77, 3)) (kk : W p l e R s m args below meth c H locs cells slots Q (F0 m (pc + 3) ls (.int (I 11) :: rest))) : W p l e R s m args below meth c H locs cells slots Q (F0 m pc ls (.ref (ad 0) :: rest)) := va_get E.hx E.hb E.ht inAX7 E.ho K0.k P 0 mw_g0 (show classes[7]? = some (RX7, TX7, 27) from rfl) 24 (by decide) (E.ht _ kFL_X7_77) (fun _ h9 => h9) rfl hdg kk
theorem pf_X7_77 (E : EX p s m args meth c cc nL RX7 ret) (N : AdN 16 ad) (K0 : KM D cyI s s.heap) (P : va_P D classes (mw cyI ad I A) H) (S : va_S (InN 16 ad) s.heap H locs) {v : Int32} (hdg : decode cc pc = .ok (.putfield 77, 3)) (kk : ∀ (H1 : Heap) (locs1 : List Loc), va_P D classes (mw cyI ad (va_up I 11 v) A) H1 → va_S (InN 16 ad) s.heap H1 locs1 → W p l e R s m args below meth c H1 locs1 cells slots Q (F0 m (pc + 3) ls rest)) : W p l e R s m args below meth c H locs cells slots Q (F0 m pc ls (.int v :: .ref (ad 0) :: rest)) := va_put E.hx E.hb E.ht inAX7 tyX7 tyX7_ok nmX7 E.ho K0.k P (mw_D N I A) S 0 mw_g0 (show classes[7]? = some (RX7, TX7, 27) from rfl) 24 (by decide) (E.ht _ kFL_X7_77) (fun _ h9 => h9) rfl (show parseFieldDescriptor (TX7 24).2.2.1 = some .int by decide +kernel) rfl rfl (Nat.le_of_ble_eq_true rfl) hdg (fun H1 l1 hP _ hS => kk H1 l1 hP hS)
theorem gf_X7_80 (E : EX p s m args meth c cc nL RX7 ret) (K0 : KM D cyI s s.heap) (P : va_P D classes (mw cyI ad I A) H) (hdg : decode cc pc = .ok (.getfield 80, 3)) (kk : W p l e R s m args below meth c H locs cells slots Q (F0 m (pc + 3) ls (.int (I 6) :: rest))) : W p l e R s m args below meth c H locs cells slots Q (F0 m pc ls (.ref (ad 0) :: rest)) := va_get E.hx E.hb E.ht inAX7 E.ho K0.k P 0 mw_g0 (show classes[7]? = some (RX7, TX7, 27) from rfl) 6 (by decide) (E.ht _ kFL_X7_80) (fun _ h9 => h9) rfl hdg kk
theorem pf_X7_80 (E : EX p s m args meth c cc nL RX7 ret) (N : AdN 16 ad) (K0 : KM D cyI s s.heap) (P : va_P D classes (mw cyI ad I A) H) (S : va_S (InN 16 ad) s.heap H locs) {v : Int32} (hdg : decode cc pc = .ok (.putfield 80, 3)) (kk : ∀ (H1 : Heap) (locs1 : List Loc), va_P D classes (mw cyI ad (va_up I 6 v) A) H1 → va_S (InN 16 ad) s.heap H1 locs1 → W p l e R s m args below meth c H1 locs1 cells slots Q (F0 m (pc + 3) ls rest)) : W p l e R s m args below meth c H locs cells slots Q (F0 m pc ls (.int v :: .ref (ad 0) :: rest)) := va_put E.hx E.hb E.ht inAX7 tyX7 tyX7_ok nmX7 E.ho K0.k P (mw_D N I A) S 0 mw_g0 (show classes[7]? = some (RX7, TX7, 27) from rfl) 6 (by decide) (E.ht _ kFL_X7_80) (fun _ h9 => h9) rfl (show parseFieldDescriptor (TX7 6).2.2.1 = some .int by decide +kernel) rfl rfl (Nat.le_of_ble_eq_true rfl) hdg (fun H1 l1 hP _ hS => kk H1 l1 hP hS)
theorem gf_X7_83 (E : EX p s m args meth c cc nL RX7 ret) (K0 : KM D cyI s s.heap) (P : va_P D classes (mw cyI ad I A) H) (hdg : decode cc pc = .ok (.getfield 83, 3)) (kk : W p l e R s m args below meth c H locs cells slots Q (F0 m (pc + 3) ls (.int (I 7) :: rest))) : W p l e R s m args below meth c H locs cells slots Q (F0 m pc ls (.ref (ad 0) :: rest)) := va_get E.hx E.hb E.ht inAX7 E.ho K0.k P 0 mw_g0 (show classes[7]? = some (RX7, TX7, 27) from rfl) 7 (by decide) (E.ht _ kFL_X7_83) (fun _ h9 => h9) rfl hdg kk
theorem pf_X7_83 (E : EX p s m args meth c cc nL RX7 ret) (N : AdN 16 ad) (K0 : KM D cyI s s.heap) (P : va_P D classes (mw cyI ad I A) H) (S : va_S (InN 16 ad) s.heap H locs) {v : Int32} (hdg : decode cc pc = .ok (.putfield 83, 3)) (kk : ∀ (H1 : Heap) (locs1 : List Loc), va_P D classes (mw cyI ad (va_up I 7 v) A) H1 → va_S (InN 16 ad) s.heap H1 locs1 → W p l e R s m args below meth c H1 locs1 cells slots Q (F0 m (pc + 3) ls rest)) : W p l e R s m args below meth c H locs cells slots Q (F0 m pc ls (.int v :: .ref (ad 0) :: rest)) := va_put E.hx E.hb E.ht inAX7 tyX7 tyX7_ok nmX7 E.ho K0.k P (mw_D N I A) S 0 mw_g0 (show classes[7]? = some (RX7, TX7, 27) from rfl) 7 (by decide) (E.ht _ kFL_X7_83) (fun _ h9 => h9) rfl (show parseFieldDescriptor (TX7 7).2.2.1 = some .int by decide +kernel) rfl rfl (Nat.le_of_ble_eq_true rfl) hdg (fun H1 l1 hP _ hS => kk H1 l1 hP hS)
theorem gf_X7_86 (E : EX p s m args meth c cc nL RX7 ret) (K0 : KM D cyI s s.heap) (P : va_P D classes (mw cyI ad I A) H) (hdg : decode cc pc = .ok (.getfield 86, 3)) (kk : W p l e R s m args below meth c H locs cells slots Q (F0 m (pc + 3) ls (.int (I 8) :: rest))) : W p l e R s m args below meth c H locs cells slots Q (F0 m pc ls (.ref (ad 0) :: rest)) := va_get E.hx E.hb E.ht inAX7 E.ho K0.k P 0 mw_g0 (show classes[7]? = some (RX7, TX7, 27) from rfl) 8 (by decide) (E.ht _ kFL_X7_86) (fun _ h9 => h9) rfl hdg kk
theorem pf_X7_86 (E : EX p s m args meth c cc nL RX7 ret) (N : AdN 16 ad) (K0 : KM D cyI s s.heap) (P : va_P D classes (mw cyI ad I A) H) (S : va_S (InN 16 ad) s.heap H locs) {v : Int32} (hdg : decode cc pc = .ok (.putfield 86, 3)) (kk : ∀ (H1 : Heap) (locs1 : List Loc), va_P D classes (mw cyI ad (va_up I 8 v) A) H1 → va_S (InN 16 ad) s.heap H1 locs1 → W p l e R s m args below meth c H1 locs1 cells slots Q (F0 m (pc + 3) ls rest)) : W p l e R s m args below meth c H locs cells slots Q (F0 m pc ls (.int v :: .ref (ad 0) :: rest)) := va_put E.hx E.hb E.ht inAX7 tyX7 tyX7_ok nmX7 E.ho K0.k P (mw_D N I A) S 0 mw_g0 (show classes[7]? = some (RX7, TX7, 27) from rfl) 8 (by decide) (E.ht _ kFL_X7_86) (fun _ h9 => h9) rfl (show parseFieldDescriptor (TX7 8).2.2.1 = some .int by decide +kernel) rfl rfl (Nat.le_of_ble_eq_true rfl) hdg (fun H1 l1 hP _ hS => kk H1 l1 hP hS)
theorem gf_X7_89 (E : EX p s m args meth c cc nL RX7 ret) (K0 : KM D cyI s s.heap) (P : va_P D classes (mw cyI ad I A) H) (hdg : decode cc pc = .ok (.getfield 89, 3)) (kk : W p l e R s m args below meth c H locs cells slots Q (F0 m (pc + 3) ls (.int (I 0) :: rest))) : W p l e R s m args below meth c H locs cells slots Q (F0 m pc ls (.ref (ad 0) :: rest)) := va_get E.hx E.hb E.ht inAX7 E.ho K0.k P 0 mw_g0 (show classes[7]? = some (RX7, TX7, 27) from rfl) 0 (by decide) (E.ht _ kFL_X7_89) (fun _ h9 => h9) rfl hdg kk
theorem pf_X7_89 (E : EX p s m args meth c cc nL RX7 ret) (N : AdN 16 ad) (K0 : KM D cyI s s.heap) (P : va_P D classes (mw cyI ad I A) H) (S : va_S (InN 16 ad) s.heap H locs) {v : Int32} (hdg : decode cc pc = .ok (.putfield 89, 3)) (kk : ∀ (H1 : Heap) (locs1 : List Loc), va_P D classes (mw cyI ad (va_up I 0 v) A) H1 → va_S (InN 16 ad) s.heap H1 locs1 → W p l e R s m args below meth c H1 locs1 cells slots Q (F0 m (pc + 3) ls rest)) : W p l e R s m args below meth c H locs cells slots Q (F0 m pc ls (.int v :: .ref (ad 0) :: rest)) := va_put E.hx E.hb E.ht inAX7 tyX7 tyX7_ok nmX7 E.ho K0.k P (mw_D N I A) S 0 mw_g0 (show classes[7]? = some (RX7, TX7, 27) from rfl) 0 (by decide) (E.ht _ kFL_X7_89) (fun _ h9 => h9) rfl (show parseFieldDescriptor (TX7 0).2.2.1 = some .int by decide +kernel) rfl rfl (Nat.le_of_ble_eq_true rfl) hdg (fun H1 l1 hP _ hS => kk H1 l1 hP hS)
theorem gf_X7_148 (E : EX p s m args meth c cc nL RX7 ret) (K0 : KM D cyI s s.heap) (P : va_P D classes (mw cyI ad I A) H) (hdg : decode cc pc = .ok (.getfield 148, 3)) (kk : W p l e R s m args below meth c H locs cells slots Q (F0 m (pc + 3) ls (.int (I 5) :: rest))) : W p l e R s m args below meth c H locs cells slots Q (F0 m pc ls (.ref (ad 0) :: rest)) := va_get E.hx E.hb E.ht inAX7 E.ho K0.k P 0 mw_g0 (show classes[7]? = some (RX7, TX7, 27) from rfl) 5 (by decide) (E.ht _ kFL_X7_148) (fun _ h9 => h9) rfl hdg kk
theorem pf_X7_148 (E : EX p s m args meth c cc nL RX7 ret) (N : AdN 16 ad) (K0 : KM D cyI s s.heap) (P : va_P D classes (mw cyI ad I A) H) (S : va_S (InN 16 ad) s.heap H locs) {v : Int32} (hdg : decode cc pc = .ok (.putfield 148, 3)) (kk : ∀ (H1 : Heap) (locs1 : List Loc), va_P D classes (mw cyI ad (va_up I 5 v) A) H1 → va_S (InN 16 ad) s.heap H1 locs1 → W p l e R s m args below meth c H1 locs1 cells slots Q (F0 m (pc + 3) ls rest)) : W p l e R s m args below meth c H locs cells slots Q (F0 m pc ls (.int v :: .ref (ad 0) :: rest)) := va_put E.hx E.hb E.ht inAX7 tyX7 tyX7_ok nmX7 E.ho K0.k P (mw_D N I A) S 0 mw_g0 (show classes[7]? = some (RX7, TX7, 27) from rfl) 5 (by decide) (E.ht _ kFL_X7_148) (fun _ h9 => h9) rfl (show parseFieldDescriptor (TX7 5).2.2.1 = some .int by decide +kernel) rfl rfl (Nat.le_of_ble_eq_true rfl) hdg (fun H1 l1 hP _ hS => kk H1 l1 hP hS)
theorem al_0 (E : EX p s m args meth c cc nL RX7 ret) (K0 : KM D cyI s s.heap) (P : va_P D classes (mw cyI ad I A) H) {i v : Int32} (h : rd (A 0) 144 i = some v) (hdg : decode cc pc = .ok (.iaload, 1)) (kk : W p l e R s m args below meth c H locs cells slots Q (F0 m (pc + 1) ls (.int v :: rest))) : W p l e R s m args below meth c H locs cells slots Q (F0 m pc ls (.int i :: .ref (ad 1) :: rest)) := by
  obtain ⟨h1, rfl⟩ := rd_some h
  exact va_iald E.hx E.hb K0 P 1 0 rfl rfl h1 hdg kk
theorem as_0 (E : EX p s m args meth c cc nL RX7 ret) (N : AdN 16 ad) (K0 : KM D cyI s s.heap) (P : va_P D classes (mw cyI ad I A) H) (S : va_S (InN 16 ad) s.heap H locs) {i v : Int32} {g : Nat → Int32} (h : wr (A 0) 144 i v = some g) (hdg : decode cc pc = .ok (.iastore, 1)) (kk : ∀ (H1 : Heap) (locs1 : List Loc), va_P D classes (mw cyI ad I (va_up A 0 g)) H1 → va_S (InN 16 ad) s.heap H1 locs1 → W p l e R s m args below meth c H1 locs1 cells slots Q (F0 m (pc + 1) ls rest)) : W p l e R s m args below meth c H locs cells slots Q (F0 m pc ls (.int v :: .int i :: .ref (ad 1) :: rest)) := by
  obtain ⟨h1, rfl⟩ := wr_some h
  exact va_iast E.hx E.hb K0 P (mw_D N I A) S 1 0 rfl rfl h1 hdg (fun H1 l1 hP _ hS => kk H1 l1 hP hS)
theorem al_1 (E : EX p s m args meth c cc nL RX7 ret) (K0 : KM D cyI s s.heap) (P : va_P D classes (mw cyI ad I A) H) {i v : Int32} (h : rd (A 1) 144 i = some v) (hdg : decode cc pc = .ok (.iaload, 1)) (kk : W p l e R s m args below meth c H locs cells slots Q (F0 m (pc + 1) ls (.int v :: rest))) : W p l e R s m args below meth c H locs cells slots Q (F0 m pc ls (.int i :: .ref (ad 2) :: rest)) := by
  obtain ⟨h1, rfl⟩ := rd_some h
  exact va_iald E.hx E.hb K0 P 2 0 rfl rfl h1 hdg kk
theorem as_1 (E : EX p s m args meth c cc nL RX7 ret) (N : AdN 16 ad) (K0 : KM D cyI s s.heap) (P : va_P D classes (mw cyI ad I A) H) (S : va_S (InN 16 ad) s.heap H locs) {i v : Int32} {g : Nat → Int32} (h : wr (A 1) 144 i v = some g) (hdg : decode cc pc = .ok (.iastore, 1)) (kk : ∀ (H1 : Heap) (locs1 : List Loc), va_P D classes (mw cyI ad I (va_up A 1 g)) H1 → va_S (InN 16 ad) s.heap H1 locs1 → W p l e R s m args below meth c H1 locs1 cells slots Q (F0 m (pc + 1) ls rest)) : W p l e R s m args below meth c H locs cells slots Q (F0 m pc ls (.int v :: .int i :: .ref (ad 2) :: rest)) := by
  obtain ⟨h1, rfl⟩ := wr_some h
  exact va_iast E.hx E.hb K0 P (mw_D N I A) S 2 0 rfl rfl h1 hdg (fun H1 l1 hP _ hS => kk H1 l1 hP hS)
theorem al_2 (E : EX p s m args meth c cc nL RX7 ret) (K0 : KM D cyI s s.heap) (P : va_P D classes (mw cyI ad I A) H) {i v : Int32} (h : rd (A 2) 144 i = some v) (hdg : decode cc pc = .ok (.iaload, 1)) (kk : W p l e R s m args below meth c H locs cells slots Q (F0 m (pc + 1) ls (.int v :: rest))) : W p l e R s m args below meth c H locs cells slots Q (F0 m pc ls (.int i :: .ref (ad 3) :: rest)) := by
  obtain ⟨h1, rfl⟩ := rd_some h
  exact va_iald E.hx E.hb K0 P 3 0 rfl rfl h1 hdg kk
theorem as_2 (E : EX p s m args meth c cc nL RX7 ret) (N : AdN 16 ad) (K0 : KM D cyI s s.heap) (P : va_P D classes (mw cyI ad I A) H) (S : va_S (InN 16 ad) s.heap H locs) {i v : Int32} {g : Nat → Int32} (h : wr (A 2) 144 i v = some g) (hdg : decode cc pc = .ok (.iastore, 1)) (kk : ∀ (H1 : Heap) (locs1 : List Loc), va_P D classes (mw cyI ad I (va_up A 2 g)) H1 → va_S (InN 16 ad) s.heap H1 locs1 → W p l e R s m args below meth c H1 locs1 cells slots Q (F0 m (pc + 1) ls rest)) : W p l e R s m args below meth c H locs cells slots Q (F0 m pc ls (.int v :: .int i :: .ref (ad 3) :: rest)) := by
  obtain ⟨h1, rfl⟩ := wr_some h
  exact va_iast E.hx E.hb K0 P (mw_D N I A) S 3 0 rfl rfl h1 hdg (fun H1 l1 hP _ hS => kk H1 l1 hP hS)
theorem al_3 (E : EX p s m args meth c cc nL RX7 ret) (K0 : KM D cyI s s.heap) (P : va_P D classes (mw cyI ad I A) H) {i v : Int32} (h : rd (A 3) 144 i = some v) (hdg : decode cc pc = .ok (.iaload, 1)) (kk : W p l e R s m args below meth c H locs cells slots Q (F0 m (pc + 1) ls (.int v :: rest))) : W p l e R s m args below meth c H locs cells slots Q (F0 m pc ls (.int i :: .ref (ad 4) :: rest)) := by
  obtain ⟨h1, rfl⟩ := rd_some h
  exact va_iald E.hx E.hb K0 P 4 0 rfl rfl h1 hdg kk
theorem as_3 (E : EX p s m args meth c cc nL RX7 ret) (N : AdN 16 ad) (K0 : KM D cyI s s.heap) (P : va_P D classes (mw cyI ad I A) H) (S : va_S (InN 16 ad) s.heap H locs) {i v : Int32} {g : Nat → Int32} (h : wr (A 3) 144 i v = some g) (hdg : decode cc pc = .ok (.iastore, 1)) (kk : ∀ (H1 : Heap) (locs1 : List Loc), va_P D classes (mw cyI ad I (va_up A 3 g)) H1 → va_S (InN 16 ad) s.heap H1 locs1 → W p l e R s m args below meth c H1 locs1 cells slots Q (F0 m (pc + 1) ls rest)) : W p l e R s m args below meth c H locs cells slots Q (F0 m pc ls (.int v :: .int i :: .ref (ad 4) :: rest)) := by
  obtain ⟨h1, rfl⟩ := wr_some h
  exact va_iast E.hx E.hb K0 P (mw_D N I A) S 4 0 rfl rfl h1 hdg (fun H1 l1 hP _ hS => kk H1 l1 hP hS)
theorem al_4 (E : EX p s m args meth c cc nL RX7 ret) (K0 : KM D cyI s s.heap) (P : va_P D classes (mw cyI ad I A) H) {i v : Int32} (h : rd (A 4) 144 i = some v) (hdg : decode cc pc = .ok (.iaload, 1)) (kk : W p l e R s m args below meth c H locs cells slots Q (F0 m (pc + 1) ls (.int v :: rest))) : W p l e R s m args below meth c H locs cells slots Q (F0 m pc ls (.int i :: .ref (ad 5) :: rest)) := by
  obtain ⟨h1, rfl⟩ := rd_some h
  exact va_iald E.hx E.hb K0 P 5 0 rfl rfl h1 hdg kk
theorem as_4 (E : EX p s m args meth c cc nL RX7 ret) (N : AdN 16 ad) (K0 : KM D cyI s s.heap) (P : va_P D classes (mw cyI ad I A) H) (S : va_S (InN 16 ad) s.heap H locs) {i v : Int32} {g : Nat → Int32} (h : wr (A 4) 144 i v = some g) (hdg : decode cc pc = .ok (.iastore, 1)) (kk : ∀ (H1 : Heap) (locs1 : List Loc), va_P D classes (mw cyI ad I (va_up A 4 g)) H1 → va_S (InN 16 ad) s.heap H1 locs1 → W p l e R s m args below meth c H1 locs1 cells slots Q (F0 m (pc + 1) ls rest)) : W p l e R s m args below meth c H locs cells slots Q (F0 m pc ls (.int v :: .int i :: .ref (ad 5) :: rest)) := by
  obtain ⟨h1, rfl⟩ := wr_some h
  exact va_iast E.hx E.hb K0 P (mw_D N I A) S 5 0 rfl rfl h1 hdg (fun H1 l1 hP _ hS => kk H1 l1 hP hS)
theorem al_5 (E : EX p s m args meth c cc nL RX7 ret) (K0 : KM D cyI s s.heap) (P : va_P D classes (mw cyI ad I A) H) {i v : Int32} (h : rd (A 5) 8 i = some v) (hdg : decode cc pc = .ok (.iaload, 1)) (kk : W p l e R s m args below meth c H locs cells slots Q (F0 m (pc + 1) ls (.int v :: rest))) : W p l e R s m args below meth c H locs cells slots Q (F0 m pc ls (.int i :: .ref (ad 6) :: rest)) := by
  obtain ⟨h1, rfl⟩ := rd_some h
  exact va_iald E.hx E.hb K0 P 6 0 rfl rfl h1 hdg kk
theorem as_5 (E : EX p s m args meth c cc nL RX7 ret) (N : AdN 16 ad) (K0 : KM D cyI s s.heap) (P : va_P D classes (mw cyI ad I A) H) (S : va_S (InN 16 ad) s.heap H locs) {i v : Int32} {g : Nat → Int32} (h : wr (A 5) 8 i v = some g) (hdg : decode cc pc = .ok (.iastore, 1)) (kk : ∀ (H1 : Heap) (locs1 : List Loc), va_P D classes (mw cyI ad I (va_up A 5 g)) H1 → va_S (InN 16 ad) s.heap H1 locs1 → W p l e R s m args below meth c H1 locs1 cells slots Q (F0 m (pc + 1) ls rest)) : W p l e R s m args below meth c H locs cells slots Q (F0 m pc ls (.int v :: .int i :: .ref (ad 6) :: rest)) := by
  obtain ⟨h1, rfl⟩ := wr_some h
  exact va_iast E.hx E.hb K0 P (mw_D N I A) S 6 0 rfl rfl h1 hdg (fun H1 l1 hP _ hS => kk H1 l1 hP hS)
theorem al_6 (E : EX p s m args meth c cc nL RX7 ret) (K0 : KM D cyI s s.heap) (P : va_P D classes (mw cyI ad I A) H) {i v : Int32} (h : rd (A 6) 8 i = some v) (hdg : decode cc pc = .ok (.iaload, 1)) (kk : W p l e R s m args below meth c H locs cells slots Q (F0 m (pc + 1) ls (.int v :: rest))) : W p l e R s m args below meth c H locs cells slots Q (F0 m pc ls (.int i :: .ref (ad 7) :: rest)) := by
  obtain ⟨h1, rfl⟩ := rd_some h
  exact va_iald E.hx E.hb K0 P 7 0 rfl rfl h1 hdg kk
theorem as_6 (E : EX p s m args meth c cc nL RX7 ret) (N : AdN 16 ad) (K0 : KM D cyI s s.heap) (P : va_P D classes (mw cyI ad I A) H) (S : va_S (InN 16 ad) s.heap H locs) {i v : Int32} {g : Nat → Int32} (h : wr (A 6) 8 i v = some g) (hdg : decode cc pc = .ok (.iastore, 1)) (kk : ∀ (H1 : Heap) (locs1 : List Loc), va_P D classes (mw cyI ad I (va_up A 6 g)) H1 → va_S (InN 16 ad) s.heap H1 locs1 → W p l e R s m args below meth c H1 locs1 cells slots Q (F0 m (pc + 1) ls rest)) : W p l e R s m args below meth c H locs cells slots Q (F0 m pc ls (.int v :: .int i :: .ref (ad 7) :: rest)) := by
  obtain ⟨h1, rfl⟩ := wr_some h
  exact va_iast E.hx E.hb K0 P (mw_D N I A) S 7 0 rfl rfl h1 hdg (fun H1 l1 hP _ hS => kk H1 l1 hP hS)
theorem al_7 (E : EX p s m args meth c cc nL RX7 ret) (K0 : KM D cyI s s.heap) (P : va_P D classes (mw cyI ad I A) H) {i v : Int32} (h : rd (A 7) 64 i = some v) (hdg : decode cc pc = .ok (.iaload, 1)) (kk : W p l e R s m args below meth c H locs cells slots Q (F0 m (pc + 1) ls (.int v :: rest))) : W p l e R s m args below meth c H locs cells slots Q (F0 m pc ls (.int i :: .ref (ad 8) :: rest)) := by
  obtain ⟨h1, rfl⟩ := rd_some h
  exact va_iald E.hx E.hb K0 P 8 0 rfl rfl h1 hdg kk
theorem as_7 (E : EX p s m args meth c cc nL RX7 ret) (N : AdN 16 ad) (K0 : KM D cyI s s.heap) (P : va_P D classes (mw cyI ad I A) H) (S : va_S (InN 16 ad) s.heap H locs) {i v : Int32} {g : Nat → Int32} (h : wr (A 7) 64 i v = some g) (hdg : decode cc pc = .ok (.iastore, 1)) (kk : ∀ (H1 : Heap) (locs1 : List Loc), va_P D classes (mw cyI ad I (va_up A 7 g)) H1 → va_S (InN 16 ad) s.heap H1 locs1 → W p l e R s m args below meth c H1 locs1 cells slots Q (F0 m (pc + 1) ls rest)) : W p l e R s m args below meth c H locs cells slots Q (F0 m pc ls (.int v :: .int i :: .ref (ad 8) :: rest)) := by
  obtain ⟨h1, rfl⟩ := wr_some h
  exact va_iast E.hx E.hb K0 P (mw_D N I A) S 8 0 rfl rfl h1 hdg (fun H1 l1 hP _ hS => kk H1 l1 hP hS)
theorem al_8 (E : EX p s m args meth c cc nL RX7 ret) (K0 : KM D cyI s s.heap) (P : va_P D classes (mw cyI ad I A) H) {i v : Int32} (h : rd (A 8) 8 i = some v) (hdg : decode cc pc = .ok (.iaload, 1)) (kk : W p l e R s m args below meth c H locs cells slots Q (F0 m (pc + 1) ls (.int v :: rest))) : W p l e R s m args below meth c H locs cells slots Q (F0 m pc ls (.int i :: .ref (ad 9) :: rest)) := by
  obtain ⟨h1, rfl⟩ := rd_some h
  exact va_iald E.hx E.hb K0 P 9 0 rfl rfl h1 hdg kk
theorem as_8 (E : EX p s m args meth c cc nL RX7 ret) (N : AdN 16 ad) (K0 : KM D cyI s s.heap) (P : va_P D classes (mw cyI ad I A) H) (S : va_S (InN 16 ad) s.heap H locs) {i v : Int32} {g : Nat → Int32} (h : wr (A 8) 8 i v = some g) (hdg : decode cc pc = .ok (.iastore, 1)) (kk : ∀ (H1 : Heap) (locs1 : List Loc), va_P D classes (mw cyI ad I (va_up A 8 g)) H1 → va_S (InN 16 ad) s.heap H1 locs1 → W p l e R s m args below meth c H1 locs1 cells slots Q (F0 m (pc + 1) ls rest)) : W p l e R s m args below meth c H locs cells slots Q (F0 m pc ls (.int v :: .int i :: .ref (ad 9) :: rest)) := by
  obtain ⟨h1, rfl⟩ := wr_some h
  exact va_iast E.hx E.hb K0 P (mw_D N I A) S 9 0 rfl rfl h1 hdg (fun H1 l1 hP _ hS => kk H1 l1 hP hS)
theorem al_9 (E : EX p s m args meth c cc nL RX7 ret) (K0 : KM D cyI s s.heap) (P : va_P D classes (mw cyI ad I A) H) {i v : Int32} (h : rd (A 9) 40 i = some v) (hdg : decode cc pc = .ok (.iaload, 1)) (kk : W p l e R s m args below meth c H locs cells slots Q (F0 m (pc + 1) ls (.int v :: rest))) : W p l e R s m args below meth c H locs cells slots Q (F0 m pc ls (.int i :: .ref (ad 10) :: rest)) := by
  obtain ⟨h1, rfl⟩ := rd_some h
  exact va_iald E.hx E.hb K0 P 10 0 rfl rfl h1 hdg kk
theorem as_9 (E : EX p s m args meth c cc nL RX7 ret) (N : AdN 16 ad) (K0 : KM D cyI s s.heap) (P : va_P D classes (mw cyI ad I A) H) (S : va_S (InN 16 ad) s.heap H locs) {i v : Int32} {g : Nat → Int32} (h : wr (A 9) 40 i v = some g) (hdg : decode cc pc = .ok (.iastore, 1)) (kk : ∀ (H1 : Heap) (locs1 : List Loc), va_P D classes (mw cyI ad I (va_up A 9 g)) H1 → va_S (InN 16 ad) s.heap H1 locs1 → W p l e R s m args below meth c H1 locs1 cells slots Q (F0 m (pc + 1) ls rest)) : W p l e R s m args below meth c H locs cells slots Q (F0 m pc ls (.int v :: .int i :: .ref (ad 10) :: rest)) := by
  obtain ⟨h1, rfl⟩ := wr_some h
  exact va_iast E.hx E.hb K0 P (mw_D N I A) S 10 0 rfl rfl h1 hdg (fun H1 l1 hP _ hS => kk H1 l1 hP hS)
theorem al_10 (E : EX p s m args meth c cc nL RX7 ret) (K0 : KM D cyI s s.heap) (P : va_P D classes (mw cyI ad I A) H) {i v : Int32} (h : rd (A 10) 40 i = some v) (hdg : decode cc pc = .ok (.iaload, 1)) (kk : W p l e R s m args below meth c H locs cells slots Q (F0 m (pc + 1) ls (.int v :: rest))) : W p l e R s m args below meth c H locs cells slots Q (F0 m pc ls (.int i :: .ref (ad 11) :: rest)) := by
  obtain ⟨h1, rfl⟩ := rd_some h
  exact va_iald E.hx E.hb K0 P 11 0 rfl rfl h1 hdg kk
theorem as_10 (E : EX p s m args meth c cc nL RX7 ret) (N : AdN 16 ad) (K0 : KM D cyI s s.heap) (P : va_P D classes (mw cyI ad I A) H) (S : va_S (InN 16 ad) s.heap H locs) {i v : Int32} {g : Nat → Int32} (h : wr (A 10) 40 i v = some g) (hdg : decode cc pc = .ok (.iastore, 1)) (kk : ∀ (H1 : Heap) (locs1 : List Loc), va_P D classes (mw cyI ad I (va_up A 10 g)) H1 → va_S (InN 16 ad) s.heap H1 locs1 → W p l e R s m args below meth c H1 locs1 cells slots Q (F0 m (pc + 1) ls rest)) : W p l e R s m args below meth c H locs cells slots Q (F0 m pc ls (.int v :: .int i :: .ref (ad 11) :: rest)) := by
  obtain ⟨h1, rfl⟩ := wr_some h
  exact va_iast E.hx E.hb K0 P (mw_D N I A) S 11 0 rfl rfl h1 hdg (fun H1 l1 hP _ hS => kk H1 l1 hP hS)
theorem al_11 (E : EX p s m args meth c cc nL RX7 ret) (K0 : KM D cyI s s.heap) (P : va_P D classes (mw cyI ad I A) H) {i v : Int32} (h : rd (A 11) 40 i = some v) (hdg : decode cc pc = .ok (.iaload, 1)) (kk : W p l e R s m args below meth c H locs cells slots Q (F0 m (pc + 1) ls (.int v :: rest))) : W p l e R s m args below meth c H locs cells slots Q (F0 m pc ls (.int i :: .ref (ad 12) :: rest)) := by
  obtain ⟨h1, rfl⟩ := rd_some h
  exact va_iald E.hx E.hb K0 P 12 0 rfl rfl h1 hdg kk
theorem as_11 (E : EX p s m args meth c cc nL RX7 ret) (N : AdN 16 ad) (K0 : KM D cyI s s.heap) (P : va_P D classes (mw cyI ad I A) H) (S : va_S (InN 16 ad) s.heap H locs) {i v : Int32} {g : Nat → Int32} (h : wr (A 11) 40 i v = some g) (hdg : decode cc pc = .ok (.iastore, 1)) (kk : ∀ (H1 : Heap) (locs1 : List Loc), va_P D classes (mw cyI ad I (va_up A 11 g)) H1 → va_S (InN 16 ad) s.heap H1 locs1 → W p l e R s m args below meth c H1 locs1 cells slots Q (F0 m (pc + 1) ls rest)) : W p l e R s m args below meth c H locs cells slots Q (F0 m pc ls (.int v :: .int i :: .ref (ad 12) :: rest)) := by
  obtain ⟨h1, rfl⟩ := wr_some h
  exact va_iast E.hx E.hb K0 P (mw_D N I A) S 12 0 rfl rfl h1 hdg (fun H1 l1 hP _ hS => kk H1 l1 hP hS)
theorem al_12 (E : EX p s m args meth c cc nL RX7 ret) (K0 : KM D cyI s s.heap) (P : va_P D classes (mw cyI ad I A) H) {i v : Int32} (h : rd (A 12) 40 i = some v) (hdg : decode cc pc = .ok (.iaload, 1)) (kk : W p l e R s m args below meth c H locs cells slots Q (F0 m (pc + 1) ls (.int v :: rest))) : W p l e R s m args below meth c H locs cells slots Q (F0 m pc ls (.int i :: .ref (ad 13) :: rest)) := by
  obtain ⟨h1, rfl⟩ := rd_some h
  exact va_iald E.hx E.hb K0 P 13 0 rfl rfl h1 hdg kk
theorem as_12 (E : EX p s m args meth c cc nL RX7 ret) (N : AdN 16 ad) (K0 : KM D cyI s s.heap) (P : va_P D classes (mw cyI ad I A) H) (S : va_S (InN 16 ad) s.heap H locs) {i v : Int32} {g : Nat → Int32} (h : wr (A 12) 40 i v = some g) (hdg : decode cc pc = .ok (.iastore, 1)) (kk : ∀ (H1 : Heap) (locs1 : List Loc), va_P D classes (mw cyI ad I (va_up A 12 g)) H1 → va_S (InN 16 ad) s.heap H1 locs1 → W p l e R s m args below meth c H1 locs1 cells slots Q (F0 m (pc + 1) ls rest)) : W p l e R s m args below meth c H locs cells slots Q (F0 m pc ls (.int v :: .int i :: .ref (ad 13) :: rest)) := by
  obtain ⟨h1, rfl⟩ := wr_some h
  exact va_iast E.hx E.hb K0 P (mw_D N I A) S 13 0 rfl rfl h1 hdg (fun H1 l1 hP _ hS => kk H1 l1 hP hS)
theorem al_13 (E : EX p s m args meth c cc nL RX7 ret) (K0 : KM D cyI s s.heap) (P : va_P D classes (mw cyI ad I A) H) {i v : Int32} (h : rd (A 13) 10 i = some v) (hdg : decode cc pc = .ok (.iaload, 1)) (kk : W p l e R s m args below meth c H locs cells slots Q (F0 m (pc + 1) ls (.int v :: rest))) : W p l e R s m args below meth c H locs cells slots Q (F0 m pc ls (.int i :: .ref (ad 14) :: rest)) := by
  obtain ⟨h1, rfl⟩ := rd_some h
  exact va_iald E.hx E.hb K0 P 14 0 rfl rfl h1 hdg kk
theorem as_13 (E : EX p s m args meth c cc nL RX7 ret) (N : AdN 16 ad) (K0 : KM D cyI s s.heap) (P : va_P D classes (mw cyI ad I A) H) (S : va_S (InN 16 ad) s.heap H locs) {i v : Int32} {g : Nat → Int32} (h : wr (A 13) 10 i v = some g) (hdg : decode cc pc = .ok (.iastore, 1)) (kk : ∀ (H1 : Heap) (locs1 : List Loc), va_P D classes (mw cyI ad I (va_up A 13 g)) H1 → va_S (InN 16 ad) s.heap H1 locs1 → W p l e R s m args below meth c H1 locs1 cells slots Q (F0 m (pc + 1) ls rest)) : W p l e R s m args below meth c H locs cells slots Q (F0 m pc ls (.int v :: .int i :: .ref (ad 14) :: rest)) := by
  obtain ⟨h1, rfl⟩ := wr_some h
  exact va_iast E.hx E.hb K0 P (mw_D N I A) S 14 0 rfl rfl h1 hdg (fun H1 l1 hP _ hS => kk H1 l1 hP hS)
theorem al_14 (E : EX p s m args meth c cc nL RX7 ret) (K0 : KM D cyI s s.heap) (P : va_P D classes (mw cyI ad I A) H) {i v : Int32} (h : rd (A 14) 1440 i = some v) (hdg : decode cc pc = .ok (.iaload, 1)) (kk : W p l e R s m args below meth c H locs cells slots Q (F0 m (pc + 1) ls (.int v :: rest))) : W p l e R s m args below meth c H locs cells slots Q (F0 m pc ls (.int i :: .ref (ad 15) :: rest)) := by
  obtain ⟨h1, rfl⟩ := rd_some h
  exact va_iald E.hx E.hb K0 P 15 0 rfl rfl h1 hdg kk
theorem as_14 (E : EX p s m args meth c cc nL RX7 ret) (N : AdN 16 ad) (K0 : KM D cyI s s.heap) (P : va_P D classes (mw cyI ad I A) H) (S : va_S (InN 16 ad) s.heap H locs) {i v : Int32} {g : Nat → Int32} (h : wr (A 14) 1440 i v = some g) (hdg : decode cc pc = .ok (.iastore, 1)) (kk : ∀ (H1 : Heap) (locs1 : List Loc), va_P D classes (mw cyI ad I (va_up A 14 g)) H1 → va_S (InN 16 ad) s.heap H1 locs1 → W p l e R s m args below meth c H1 locs1 cells slots Q (F0 m (pc + 1) ls rest)) : W p l e R s m args below meth c H locs cells slots Q (F0 m pc ls (.int v :: .int i :: .ref (ad 15) :: rest)) := by
  obtain ⟨h1, rfl⟩ := wr_some h
  exact va_iast E.hx E.hb K0 P (mw_D N I A) S 15 0 rfl rfl h1 hdg (fun H1 l1 hP _ hS => kk H1 l1 hP hS)
end
end WORLD
end
section
section ROW
variable {p : Program} {l : Launch} {e : Env} {R : Room} {s : State} {m : MethodId} {args : Array Value} {below : List Frame} {meth : Method} {c : Code} {H : Heap} {locs : List Loc} {cells slots : Nat} {Q : State → Prop} {cc : ByteArray} {nL pc : Nat} {ret : Option FieldType} {own : String} {ls : Array Slot} {rest : List Value} {D : va_G} {cyI : ClassId} {ad : Nat → Nat} {ws : va_W} {a b n : Nat} {f : Nat → Int32}
theorem gf_row (E : EX p s m args meth c cc nL RX4 ret) (K : va_K D classes [(cyI, .int)] s) (P : va_P D classes ws H) (q0 : Nat) (he : ws[q0]? = some (b, .inr (4, [.ref a]))) (hdg : decode cc pc = .ok (.getfield 7, 3))
    (kk : W p l e R s m args below meth c H locs cells slots Q (F0 m (pc + 3) ls (.ref a :: rest))) : W p l e R s m args below meth c H locs cells slots Q (F0 m pc ls (.ref b :: rest)) :=
  va_get E.hx E.hb E.ht inAX4 E.ho K P q0 he (show classes[4]? = some (RX4, TX4, 1) from rfl) 0 (by decide) (E.ht _ kFL_X4_7) (fun _ h9 => h9) rfl hdg kk
theorem rAt_in {i : Int32} (h0 : ¬ i < 0) (h1 : ¬ Int32.ofNat n ≤ i) (hn : n < 2 ^ 31) : vp_in i n := by
  intro q
  rcases q with q | q
  · exact h0 q
  · obtain ⟨j, hj, rfl⟩ := nI_of h0
    rw [nI_clamp hj] at q
    exact h1 ((nI_leI hn hj).mpr q)
theorem c_X4_at (l : Launch) {KX : Ctx} (hKX : ∀ U H, KX U H → va_K D classes [(cyI, .int)] U) (P : va_P D classes ws H) (q0 q1 : Nat) (he : ws[q0]? = some (b, .inr (4, [.ref a]))) (ha : ws[q1]? = some (a, .inl (cyI, n, .inl f))) (hn : n < 2 ^ 31) (i : Int32) :
    MRO l yX4_at cX4_at 2 (some .int) 0 [.ref b, .int i] H KX (rAt n f i) := by
  refine Mof (own := RX4) (by decide +kernel) rfl rfl ?_
  intro p e s m args below meth c ls E hH K0 hl
  subst hH
  have K := hKX _ _ K0
  have hl : lv_has ls 2 [(0, .ref b), (1, .int i)] := hl
  obtain ⟨v, hv⟩ : ∃ v, rAt n f i = v := ⟨_, rfl⟩
  rw [hv]
  unfold rAt at hv
  refine lv_iload_n E.hx E.hb dX4_at_0 rfl (lv_at hl 1 rfl) ?_
  refine lv_if_lt (tgt := 22) E.hx E.hb dX4_at_1 (by decide) (fun c_1 => ?_) (fun c_1 => ?_)
  · rw [if_pos c_1] at hv
    refine lv_iconst (v := 0) E.hx E.hb dX4_at_22 (by decide) ?_
    exact W.iret E.hx E.hb E.hr (fun t ht _ => ⟨_, rfl, hv, ht⟩) (fun q hq => nomatch hq) dX4_at_23 E.hk
  · rw [if_neg c_1] at hv
    refine lv_iload_n E.hx E.hb dX4_at_4 rfl (lv_at hl 1 rfl) ?_
    refine lv_aload_n E.hx E.hb dX4_at_5 rfl (lv_at hl 0 rfl) ?_
    refine gf_row E K P q0 he dX4_at_6 ?_
    refine va_alen E.hx E.hb K P q1 0 ha rfl rfl dX4_at_9 ?_
    refine lv_icmp_ge (tgt := 22) E.hx E.hb dX4_at_10 (by decide) (fun c_2 => ?_) (fun c_2 => ?_)
    · rw [if_pos c_2] at hv
      refine lv_iconst (v := 0) E.hx E.hb dX4_at_22 (by decide) ?_
      exact W.iret E.hx E.hb E.hr (fun t ht _ => ⟨_, rfl, hv, ht⟩) (fun q hq => nomatch hq) dX4_at_23 E.hk
    · rw [if_neg c_2] at hv
      refine lv_aload_n E.hx E.hb dX4_at_13 rfl (lv_at hl 0 rfl) ?_
      refine gf_row E K P q0 he dX4_at_14 ?_
      refine lv_iload_n E.hx E.hb dX4_at_17 rfl (lv_at hl 1 rfl) ?_
      refine va_iald E.hx E.hb K P q1 0 ha rfl (rAt_in c_1 c_2 hn) dX4_at_18 ?_
      refine lv_goto (tgt := 23) E.hx E.hb dX4_at_19 (by decide) ?_
      exact W.iret E.hx E.hb E.hr (fun t ht _ => ⟨_, rfl, hv, ht⟩) (fun q hq => nomatch hq) dX4_at_23 E.hk
theorem c_X4_put (l : Launch) {KX : Ctx} (hKX : ∀ U H, KX U H → va_K D classes [(cyI, .int)] U) {A : Nat → Prop} (P : va_P D classes ws H) (hD : va_D A ws) (q0 q1 : Nat) (he : ws[q0]? = some (b, .inr (4, [.ref a]))) (ha : ws[q1]? = some (a, .inl (cyI, n, .inl f))) (hn : n < 2 ^ 31) (i x : Int32) :
    MRW l yX4_put cX4_put 3 none 0 [.ref b, .int i, .int x] H KX A none (fun H1 => va_P D classes (ws.set q1 (a, .inl (cyI, n, .inl (rPut n f i x)))) H1) := by
  refine Mof (own := RX4) (by decide +kernel) rfl rfl ?_
  intro p e s m args below meth c ls E hH K0 hl
  subst hH
  have K := hKX _ _ K0
  have hl : lv_has ls 3 [(0, .ref b), (1, .int i), (2, .int x)] := hl
  have S : va_S A s.heap s.heap [] := va_S.rf
  have hset : ws.set q1 (a, .inl (cyI, n, .inl f)) = ws := by
    apply List.ext_getElem?
    intro k
    rw [List.getElem?_set]
    by_cases hk : q1 = k
    · subst hk
      rw [if_pos rfl, ha]
      by_cases hlt : q1 < ws.length
      · rw [if_pos hlt]
      · rw [List.getElem?_eq_none (Nat.not_lt.mp hlt)] at ha; cases ha
    · rw [if_neg hk]
  obtain ⟨v, hv⟩ : ∃ v, rPut n f i x = v := ⟨_, rfl⟩
  rw [hv]
  unfold rPut at hv
  refine lv_iload_n E.hx E.hb dX4_put_0 rfl (lv_at hl 1 rfl) ?_
  refine lv_if_lt (tgt := 20) E.hx E.hb dX4_put_1 (by decide) (fun c_1 => ?_) (fun c_1 => ?_)
  · rw [if_pos c_1] at hv
    exact W.vret E.hx E.hb E.hr (fun t ht _ => ⟨rfl, by rw [ht, ← hv, hset]; exact P, S.F ht⟩) S.2.2 dX4_put_20 E.hk
  · rw [if_neg c_1] at hv
    refine lv_iload_n E.hx E.hb dX4_put_4 rfl (lv_at hl 1 rfl) ?_
    refine lv_aload_n E.hx E.hb dX4_put_5 rfl (lv_at hl 0 rfl) ?_
    refine gf_row E K P q0 he dX4_put_6 ?_
    refine va_alen E.hx E.hb K P q1 0 ha rfl rfl dX4_put_9 ?_
    refine lv_icmp_ge (tgt := 20) E.hx E.hb dX4_put_10 (by decide) (fun c_2 => ?_) (fun c_2 => ?_)
    · rw [if_pos c_2] at hv
      exact W.vret E.hx E.hb E.hr (fun t ht _ => ⟨rfl, by rw [ht, ← hv, hset]; exact P, S.F ht⟩) S.2.2 dX4_put_20 E.hk
    · rw [if_neg c_2] at hv
      refine lv_aload_n E.hx E.hb dX4_put_13 rfl (lv_at hl 0 rfl) ?_
      refine gf_row E K P q0 he dX4_put_14 ?_
      refine lv_iload_n E.hx E.hb dX4_put_17 rfl (lv_at hl 1 rfl) ?_
      refine lv_iload_n E.hx E.hb dX4_put_18 rfl (lv_at hl 2 rfl) ?_
      refine va_iast E.hx E.hb K P hD S q1 0 ha rfl (rAt_in c_1 c_2 hn) dX4_put_19 (fun H locs P hD S => ?_)
      rw [hv] at P
      exact W.vret E.hx E.hb E.hr (fun t ht _ => ⟨rfl, by rw [ht]; exact P, S.F ht⟩) S.2.2 dX4_put_20 E.hk
theorem rFill_0 (v : Int32) : (fun j => if j < 0 then v else f j) = f := funext fun j => if_neg (Nat.not_lt_zero j)
theorem rFill_s (v : Int32) (k : Nat) : upd (fun j => if j < k then v else f j) k v = (fun j => if j < k + 1 then v else f j) := by
  funext j
  unfold upd
  by_cases h : j = k
  · subst h; rw [if_pos rfl, if_pos (Nat.lt_succ_self _)]
  · rw [if_neg h]
    show (if j < k then v else f j) = (if j < k + 1 then v else f j)
    by_cases h2 : j < k
    · rw [if_pos h2, if_pos (by omega)]
    · rw [if_neg h2, if_neg (by omega)]
theorem set_set {α : Type} (l : List α) (k : Nat) (x y : α) : (l.set k x).set k y = l.set k y := by
  apply List.ext_getElem?
  intro j
  simp only [List.getElem?_set, List.length_set]
  by_cases h : k = j
  · simp [h]
  · simp [h]
theorem c_X4_fill (l : Launch) {KX : Ctx} (hKX : ∀ U H, KX U H → va_K D classes [(cyI, .int)] U) {A : Nat → Prop} (P : va_P D classes ws H) (hD : va_D A ws) (q0 q1 : Nat) (he : ws[q0]? = some (b, .inr (4, [.ref a]))) (hq : q0 ≠ q1) (ha : ws[q1]? = some (a, .inl (cyI, n, .inl f))) (hn : n < 2 ^ 31) (x : Int32) :
    MRW l yX4_fill cX4_fill 3 none 0 [.ref b, .int x] H KX A none (fun H1 => va_P D classes (ws.set q1 (a, .inl (cyI, n, .inl (rFill n f x)))) H1) := by
  refine Mof (own := RX4) (by decide +kernel) rfl rfl ?_
  intro p e s m args below meth c ls E hH K0 hl
  subst hH
  have K := hKX _ _ K0
  have hl : lv_has ls 3 [(0, .ref b), (1, .int x)] := hl
  have S : va_S A s.heap s.heap [] := va_S.rf
  have hq1 : q1 < ws.length := by
    by_cases hlt : q1 < ws.length
    · exact hlt
    · rw [List.getElem?_eq_none (Nat.not_lt.mp hlt)] at ha; cases ha
  have he' : ∀ g : Nat → Int32, (ws.set q1 (a, .inl (cyI, n, .inl g)))[q0]? = some (b, .inr (4, [.ref a])) := fun g => by rw [List.getElem?_set, if_neg (fun h => hq h.symm)]; exact he
  have ha' : ∀ g : Nat → Int32, (ws.set q1 (a, .inl (cyI, n, .inl g)))[q1]? = some (a, .inl (cyI, n, .inl g)) := fun g => by rw [List.getElem?_set, if_pos rfl, if_pos hq1]
  have hset : ws.set q1 (a, .inl (cyI, n, .inl f)) = ws := by
    apply List.ext_getElem?
    intro k
    rw [List.getElem?_set]
    by_cases hk : q1 = k
    · subst hk
      rw [if_pos rfl, ha, if_pos hq1]
    · rw [if_neg hk]
  have loop : ∀ (d k : Nat), k ≤ n → n - k ≤ d → ∀ (H : Heap) (locs : List Loc) (ls : Array Slot), va_P D classes (ws.set q1 (a, .inl (cyI, n, .inl (fun j => if j < k then x else f j)))) H → va_S A s.heap H locs → lv_has ls 3 [(0, .ref b), (1, .int x), (2, .int (nI k))] →
      W p l e (rmL 0) s m args below meth c H locs 0 0 (MQ below (Qrw A none (fun H1 => va_P D classes (ws.set q1 (a, .inl (cyI, n, .inl (rFill n f x)))) H1)) args s 0 0 A) (F0 m 2 ls []) := by
    intro d
    induction d with
    | zero =>
      intro k hk hd H locs ls P S hl
      have hkn : k = n := by omega
      subst hkn
      refine lv_iload_n E.hx E.hb dX4_fill_2 rfl (lv_at hl 2 rfl) ?_
      refine lv_aload_n E.hx E.hb dX4_fill_3 rfl (lv_at hl 0 rfl) ?_
      refine gf_row E K P q0 (he' _) dX4_fill_4 ?_
      refine va_alen E.hx E.hb K P q1 0 (ha' _) rfl rfl dX4_fill_7 ?_
      refine lv_icmp_ge (tgt := 24) E.hx E.hb dX4_fill_8 (by decide) (fun c_2 => ?_) (fun c_2 => ?_)
      · exact W.vret E.hx E.hb E.hr (fun t ht _ => ⟨rfl, by rw [ht]; exact P, S.F ht⟩) S.2.2 dX4_fill_24 E.hk
      · exact absurd (nI_le (Nat.le_refl _) hn) c_2
    | succ d ih =>
      intro k hk hd H locs ls P S hl
      refine lv_iload_n E.hx E.hb dX4_fill_2 rfl (lv_at hl 2 rfl) ?_
      refine lv_aload_n E.hx E.hb dX4_fill_3 rfl (lv_at hl 0 rfl) ?_
      refine gf_row E K P q0 (he' _) dX4_fill_4 ?_
      refine va_alen E.hx E.hb K P q1 0 (ha' _) rfl rfl dX4_fill_7 ?_
      refine lv_icmp_ge (tgt := 24) E.hx E.hb dX4_fill_8 (by decide) (fun c_2 => ?_) (fun c_2 => ?_)
      · have hkn : k = n := by
          rcases Nat.lt_or_ge k n with q | q
          · exact absurd c_2 (nI_ge q hn)
          · omega
        subst hkn
        exact W.vret E.hx E.hb E.hr (fun t ht _ => ⟨rfl, by rw [ht]; exact P, S.F ht⟩) S.2.2 dX4_fill_24 E.hk
      · have hlt : k < n := by
          rcases Nat.lt_or_ge k n with q | q
          · exact q
          · exact absurd (nI_le q (by omega)) c_2
        refine lv_aload_n E.hx E.hb dX4_fill_11 rfl (lv_at hl 0 rfl) ?_
        refine gf_row E K P q0 (he' _) dX4_fill_12 ?_
        refine lv_iload_n E.hx E.hb dX4_fill_15 rfl (lv_at hl 2 rfl) ?_
        refine lv_iload_n E.hx E.hb dX4_fill_16 rfl (lv_at hl 1 rfl) ?_
        refine va_iast E.hx E.hb K P (hD.set ha) S q1 0 (ha' _) rfl (vp_in_nI hlt hn) dX4_fill_17 (fun H locs P hD S => ?_)
        refine lv_iinc (v := nI k + 1) (lv' := [(2, .int (nI k + 1)), (0, .ref b), (1, .int x)]) E.hx E.hb dX4_fill_18 hl (k := 2) rfl rfl (by decide) rfl (fun ls hl => ?_)
        refine lv_goto (tgt := 2) E.hx E.hb dX4_fill_21 (by decide) ?_
        rw [nI_1] at hl
        rw [set_set, nI_clamp (by omega), rFill_s] at P
        exact ih (k + 1) (by omega) (by omega) H locs ls P S (lv_sub hl [1, 2, 0] rfl)
  refine lv_iconst (v := 0) E.hx E.hb dX4_fill_0 (by decide) ?_
  refine lv_istore_n (lv' := [(2, .int 0), (0, .ref b), (1, .int x)]) E.hx E.hb dX4_fill_1 rfl hl (by decide) rfl (fun ls hl => ?_)
  exact loop n 0 (Nat.zero_le _) (by omega) s.heap [] ls (by rw [rFill_0, hset]; exact P) S (lv_sub hl [1, 2, 0] rfl)
end ROW
-- EXTRAS
section ROWX
theorem cw_r0 {cyI : ClassId} {ad : Nat → Nat} {I : Nat → Int32} {A : Nat → Nat → Int32} : (cw cyI ad I A)[6]? = some (ad 6, .inr (4, [.ref (ad 25)])) := rfl
theorem cw_a0 {cyI : ClassId} {ad : Nat → Nat} {I : Nat → Int32} {A : Nat → Nat → Int32} : (cw cyI ad I A)[25]? = some (ad 25, .inl (cyI, 8, .inl (A 0))) := rfl
theorem cw_s0 {cyI : ClassId} {ad : Nat → Nat} {I : Nat → Int32} {A : Nat → Nat → Int32} (g : Nat → Int32) : (cw cyI ad I A).set 25 (ad 25, .inl (cyI, 8, .inl g)) = cw cyI ad I (va_up A 0 g) := rfl
theorem cw_r1 {cyI : ClassId} {ad : Nat → Nat} {I : Nat → Int32} {A : Nat → Nat → Int32} : (cw cyI ad I A)[7]? = some (ad 7, .inr (4, [.ref (ad 26)])) := rfl
theorem cw_a1 {cyI : ClassId} {ad : Nat → Nat} {I : Nat → Int32} {A : Nat → Nat → Int32} : (cw cyI ad I A)[26]? = some (ad 26, .inl (cyI, 8, .inl (A 1))) := rfl
theorem cw_s1 {cyI : ClassId} {ad : Nat → Nat} {I : Nat → Int32} {A : Nat → Nat → Int32} (g : Nat → Int32) : (cw cyI ad I A).set 26 (ad 26, .inl (cyI, 8, .inl g)) = cw cyI ad I (va_up A 1 g) := rfl
theorem cw_r2 {cyI : ClassId} {ad : Nat → Nat} {I : Nat → Int32} {A : Nat → Nat → Int32} : (cw cyI ad I A)[8]? = some (ad 8, .inr (4, [.ref (ad 27)])) := rfl
theorem cw_a2 {cyI : ClassId} {ad : Nat → Nat} {I : Nat → Int32} {A : Nat → Nat → Int32} : (cw cyI ad I A)[27]? = some (ad 27, .inl (cyI, 8, .inl (A 2))) := rfl
theorem cw_s2 {cyI : ClassId} {ad : Nat → Nat} {I : Nat → Int32} {A : Nat → Nat → Int32} (g : Nat → Int32) : (cw cyI ad I A).set 27 (ad 27, .inl (cyI, 8, .inl g)) = cw cyI ad I (va_up A 2 g) := rfl
theorem cw_r3 {cyI : ClassId} {ad : Nat → Nat} {I : Nat → Int32} {A : Nat → Nat → Int32} : (cw cyI ad I A)[9]? = some (ad 9, .inr (4, [.ref (ad 28)])) := rfl
theorem cw_a3 {cyI : ClassId} {ad : Nat → Nat} {I : Nat → Int32} {A : Nat → Nat → Int32} : (cw cyI ad I A)[28]? = some (ad 28, .inl (cyI, 8, .inl (A 3))) := rfl
theorem cw_s3 {cyI : ClassId} {ad : Nat → Nat} {I : Nat → Int32} {A : Nat → Nat → Int32} (g : Nat → Int32) : (cw cyI ad I A).set 28 (ad 28, .inl (cyI, 8, .inl g)) = cw cyI ad I (va_up A 3 g) := rfl
theorem cw_r4 {cyI : ClassId} {ad : Nat → Nat} {I : Nat → Int32} {A : Nat → Nat → Int32} : (cw cyI ad I A)[10]? = some (ad 10, .inr (4, [.ref (ad 29)])) := rfl
theorem cw_a4 {cyI : ClassId} {ad : Nat → Nat} {I : Nat → Int32} {A : Nat → Nat → Int32} : (cw cyI ad I A)[29]? = some (ad 29, .inl (cyI, 8, .inl (A 4))) := rfl
theorem cw_s4 {cyI : ClassId} {ad : Nat → Nat} {I : Nat → Int32} {A : Nat → Nat → Int32} (g : Nat → Int32) : (cw cyI ad I A).set 29 (ad 29, .inl (cyI, 8, .inl g)) = cw cyI ad I (va_up A 4 g) := rfl
theorem cw_r5 {cyI : ClassId} {ad : Nat → Nat} {I : Nat → Int32} {A : Nat → Nat → Int32} : (cw cyI ad I A)[11]? = some (ad 11, .inr (4, [.ref (ad 30)])) := rfl
theorem cw_a5 {cyI : ClassId} {ad : Nat → Nat} {I : Nat → Int32} {A : Nat → Nat → Int32} : (cw cyI ad I A)[30]? = some (ad 30, .inl (cyI, 8, .inl (A 5))) := rfl
theorem cw_s5 {cyI : ClassId} {ad : Nat → Nat} {I : Nat → Int32} {A : Nat → Nat → Int32} (g : Nat → Int32) : (cw cyI ad I A).set 30 (ad 30, .inl (cyI, 8, .inl g)) = cw cyI ad I (va_up A 5 g) := rfl
theorem cw_r6 {cyI : ClassId} {ad : Nat → Nat} {I : Nat → Int32} {A : Nat → Nat → Int32} : (cw cyI ad I A)[12]? = some (ad 12, .inr (4, [.ref (ad 31)])) := rfl
theorem cw_a6 {cyI : ClassId} {ad : Nat → Nat} {I : Nat → Int32} {A : Nat → Nat → Int32} : (cw cyI ad I A)[31]? = some (ad 31, .inl (cyI, 8, .inl (A 6))) := rfl
theorem cw_s6 {cyI : ClassId} {ad : Nat → Nat} {I : Nat → Int32} {A : Nat → Nat → Int32} (g : Nat → Int32) : (cw cyI ad I A).set 31 (ad 31, .inl (cyI, 8, .inl g)) = cw cyI ad I (va_up A 6 g) := rfl
theorem cw_r7 {cyI : ClassId} {ad : Nat → Nat} {I : Nat → Int32} {A : Nat → Nat → Int32} : (cw cyI ad I A)[13]? = some (ad 13, .inr (4, [.ref (ad 32)])) := rfl
theorem cw_a7 {cyI : ClassId} {ad : Nat → Nat} {I : Nat → Int32} {A : Nat → Nat → Int32} : (cw cyI ad I A)[32]? = some (ad 32, .inl (cyI, 64, .inl (A 7))) := rfl
theorem cw_s7 {cyI : ClassId} {ad : Nat → Nat} {I : Nat → Int32} {A : Nat → Nat → Int32} (g : Nat → Int32) : (cw cyI ad I A).set 32 (ad 32, .inl (cyI, 64, .inl g)) = cw cyI ad I (va_up A 7 g) := rfl
theorem cw_r8 {cyI : ClassId} {ad : Nat → Nat} {I : Nat → Int32} {A : Nat → Nat → Int32} : (cw cyI ad I A)[14]? = some (ad 14, .inr (4, [.ref (ad 33)])) := rfl
theorem cw_a8 {cyI : ClassId} {ad : Nat → Nat} {I : Nat → Int32} {A : Nat → Nat → Int32} : (cw cyI ad I A)[33]? = some (ad 33, .inl (cyI, 144, .inl (A 8))) := rfl
theorem cw_s8 {cyI : ClassId} {ad : Nat → Nat} {I : Nat → Int32} {A : Nat → Nat → Int32} (g : Nat → Int32) : (cw cyI ad I A).set 33 (ad 33, .inl (cyI, 144, .inl g)) = cw cyI ad I (va_up A 8 g) := rfl
theorem cw_r9 {cyI : ClassId} {ad : Nat → Nat} {I : Nat → Int32} {A : Nat → Nat → Int32} : (cw cyI ad I A)[15]? = some (ad 15, .inr (4, [.ref (ad 34)])) := rfl
theorem cw_a9 {cyI : ClassId} {ad : Nat → Nat} {I : Nat → Int32} {A : Nat → Nat → Int32} : (cw cyI ad I A)[34]? = some (ad 34, .inl (cyI, 144, .inl (A 9))) := rfl
theorem cw_s9 {cyI : ClassId} {ad : Nat → Nat} {I : Nat → Int32} {A : Nat → Nat → Int32} (g : Nat → Int32) : (cw cyI ad I A).set 34 (ad 34, .inl (cyI, 144, .inl g)) = cw cyI ad I (va_up A 9 g) := rfl
theorem cw_r10 {cyI : ClassId} {ad : Nat → Nat} {I : Nat → Int32} {A : Nat → Nat → Int32} : (cw cyI ad I A)[16]? = some (ad 16, .inr (4, [.ref (ad 35)])) := rfl
theorem cw_a10 {cyI : ClassId} {ad : Nat → Nat} {I : Nat → Int32} {A : Nat → Nat → Int32} : (cw cyI ad I A)[35]? = some (ad 35, .inl (cyI, 144, .inl (A 10))) := rfl
theorem cw_s10 {cyI : ClassId} {ad : Nat → Nat} {I : Nat → Int32} {A : Nat → Nat → Int32} (g : Nat → Int32) : (cw cyI ad I A).set 35 (ad 35, .inl (cyI, 144, .inl g)) = cw cyI ad I (va_up A 10 g) := rfl
theorem cw_r11 {cyI : ClassId} {ad : Nat → Nat} {I : Nat → Int32} {A : Nat → Nat → Int32} : (cw cyI ad I A)[17]? = some (ad 17, .inr (4, [.ref (ad 36)])) := rfl
theorem cw_a11 {cyI : ClassId} {ad : Nat → Nat} {I : Nat → Int32} {A : Nat → Nat → Int32} : (cw cyI ad I A)[36]? = some (ad 36, .inl (cyI, 144, .inl (A 11))) := rfl
theorem cw_s11 {cyI : ClassId} {ad : Nat → Nat} {I : Nat → Int32} {A : Nat → Nat → Int32} (g : Nat → Int32) : (cw cyI ad I A).set 36 (ad 36, .inl (cyI, 144, .inl g)) = cw cyI ad I (va_up A 11 g) := rfl
theorem cw_r12 {cyI : ClassId} {ad : Nat → Nat} {I : Nat → Int32} {A : Nat → Nat → Int32} : (cw cyI ad I A)[18]? = some (ad 18, .inr (4, [.ref (ad 37)])) := rfl
theorem cw_a12 {cyI : ClassId} {ad : Nat → Nat} {I : Nat → Int32} {A : Nat → Nat → Int32} : (cw cyI ad I A)[37]? = some (ad 37, .inl (cyI, 144, .inl (A 12))) := rfl
theorem cw_s12 {cyI : ClassId} {ad : Nat → Nat} {I : Nat → Int32} {A : Nat → Nat → Int32} (g : Nat → Int32) : (cw cyI ad I A).set 37 (ad 37, .inl (cyI, 144, .inl g)) = cw cyI ad I (va_up A 12 g) := rfl
theorem cw_r13 {cyI : ClassId} {ad : Nat → Nat} {I : Nat → Int32} {A : Nat → Nat → Int32} : (cw cyI ad I A)[19]? = some (ad 19, .inr (4, [.ref (ad 38)])) := rfl
theorem cw_a13 {cyI : ClassId} {ad : Nat → Nat} {I : Nat → Int32} {A : Nat → Nat → Int32} : (cw cyI ad I A)[38]? = some (ad 38, .inl (cyI, 40, .inl (A 13))) := rfl
theorem cw_s13 {cyI : ClassId} {ad : Nat → Nat} {I : Nat → Int32} {A : Nat → Nat → Int32} (g : Nat → Int32) : (cw cyI ad I A).set 38 (ad 38, .inl (cyI, 40, .inl g)) = cw cyI ad I (va_up A 13 g) := rfl
theorem cw_r14 {cyI : ClassId} {ad : Nat → Nat} {I : Nat → Int32} {A : Nat → Nat → Int32} : (cw cyI ad I A)[20]? = some (ad 20, .inr (4, [.ref (ad 39)])) := rfl
theorem cw_a14 {cyI : ClassId} {ad : Nat → Nat} {I : Nat → Int32} {A : Nat → Nat → Int32} : (cw cyI ad I A)[39]? = some (ad 39, .inl (cyI, 40, .inl (A 14))) := rfl
theorem cw_s14 {cyI : ClassId} {ad : Nat → Nat} {I : Nat → Int32} {A : Nat → Nat → Int32} (g : Nat → Int32) : (cw cyI ad I A).set 39 (ad 39, .inl (cyI, 40, .inl g)) = cw cyI ad I (va_up A 14 g) := rfl
theorem cw_r15 {cyI : ClassId} {ad : Nat → Nat} {I : Nat → Int32} {A : Nat → Nat → Int32} : (cw cyI ad I A)[21]? = some (ad 21, .inr (4, [.ref (ad 40)])) := rfl
theorem cw_a15 {cyI : ClassId} {ad : Nat → Nat} {I : Nat → Int32} {A : Nat → Nat → Int32} : (cw cyI ad I A)[40]? = some (ad 40, .inl (cyI, 40, .inl (A 15))) := rfl
theorem cw_s15 {cyI : ClassId} {ad : Nat → Nat} {I : Nat → Int32} {A : Nat → Nat → Int32} (g : Nat → Int32) : (cw cyI ad I A).set 40 (ad 40, .inl (cyI, 40, .inl g)) = cw cyI ad I (va_up A 15 g) := rfl
theorem cw_r16 {cyI : ClassId} {ad : Nat → Nat} {I : Nat → Int32} {A : Nat → Nat → Int32} : (cw cyI ad I A)[22]? = some (ad 22, .inr (4, [.ref (ad 41)])) := rfl
theorem cw_a16 {cyI : ClassId} {ad : Nat → Nat} {I : Nat → Int32} {A : Nat → Nat → Int32} : (cw cyI ad I A)[41]? = some (ad 41, .inl (cyI, 40, .inl (A 16))) := rfl
theorem cw_s16 {cyI : ClassId} {ad : Nat → Nat} {I : Nat → Int32} {A : Nat → Nat → Int32} (g : Nat → Int32) : (cw cyI ad I A).set 41 (ad 41, .inl (cyI, 40, .inl g)) = cw cyI ad I (va_up A 16 g) := rfl
theorem cw_r17 {cyI : ClassId} {ad : Nat → Nat} {I : Nat → Int32} {A : Nat → Nat → Int32} : (cw cyI ad I A)[23]? = some (ad 23, .inr (4, [.ref (ad 42)])) := rfl
theorem cw_a17 {cyI : ClassId} {ad : Nat → Nat} {I : Nat → Int32} {A : Nat → Nat → Int32} : (cw cyI ad I A)[42]? = some (ad 42, .inl (cyI, 10, .inl (A 17))) := rfl
theorem cw_s17 {cyI : ClassId} {ad : Nat → Nat} {I : Nat → Int32} {A : Nat → Nat → Int32} (g : Nat → Int32) : (cw cyI ad I A).set 42 (ad 42, .inl (cyI, 10, .inl g)) = cw cyI ad I (va_up A 17 g) := rfl
theorem cw_r18 {cyI : ClassId} {ad : Nat → Nat} {I : Nat → Int32} {A : Nat → Nat → Int32} : (cw cyI ad I A)[24]? = some (ad 24, .inr (4, [.ref (ad 43)])) := rfl
theorem cw_a18 {cyI : ClassId} {ad : Nat → Nat} {I : Nat → Int32} {A : Nat → Nat → Int32} : (cw cyI ad I A)[43]? = some (ad 43, .inl (cyI, 1440, .inl (A 18))) := rfl
theorem cw_s18 {cyI : ClassId} {ad : Nat → Nat} {I : Nat → Int32} {A : Nat → Nat → Int32} (g : Nat → Int32) : (cw cyI ad I A).set 43 (ad 43, .inl (cyI, 1440, .inl g)) = cw cyI ad I (va_up A 18 g) := rfl
theorem ds_X4_at : Dsc yX4_at 1 := ⟨by decide +kernel, by decide +kernel, by decide +kernel⟩
theorem ds_X4_put : Dsc yX4_put 2 := ⟨by decide +kernel, by decide +kernel, by decide +kernel⟩
theorem ds_X4_fill : Dsc yX4_fill 1 := ⟨by decide +kernel, by decide +kernel, by decide +kernel⟩
theorem swo {x : Int32} (hi : Nat) (hhi : hi < 2 ^ 31) (h : ∀ j : Nat, j ≤ hi → ¬ x = Int32.ofNat j) : x.toInt < 0 ∨ ((hi : Nat) : Int) < x.toInt := by
  rcases Classical.em (x < 0) with h0 | h0
  · exact Or.inl (by simpa [Int32.lt_iff_toInt_lt] using h0)
  · obtain ⟨j, hj, rfl⟩ := nI_of h0
    refine Or.inr ?_
    rw [nI_toInt hj]
    rcases Nat.lt_or_ge hi j with q | q
    · exact_mod_cast q
    · exact absurd rfl (h j q)
end ROWX
end
section
section WALK
section
variable {p : Program} {l : Launch} {e : Env} {s : State} {m : MethodId} {args : Array Value} {below : List Frame} {meth : Method} {c : Code} {D : va_G} {cyI : ClassId} {ad : Nat → Nat}
def B_X6_isIn  (x0 x1 x2 : Int32) : Int32 := if x0 < x1 then 0 else (if x2 < x0 then 0 else 1)
theorem nb_B_X6_isIn  {x0 x1 x2 : Int32} : narrow .boolean (.int (B_X6_isIn  x0 x1 x2)) = .int (B_X6_isIn  x0 x1 x2) := by
  unfold B_X6_isIn
  first | exact nb_B_X6_isIn | exact nb_B_X7_in | ((repeat' split) <;> rfl)
set_option maxHeartbeats 4000000 in
set_option maxRecDepth 100000 in
theorem w_X6_isIn (E : EX p s m args meth c cX6_isIn 3 RX6 (some .boolean)) (K0 : KC D cyI ad s s.heap)  {x0 x1 x2 : Int32} {out : Int32} (h : B_X6_isIn  x0 x1 x2 = out) {ls : Array Slot} (hl : lv_has ls 3 [(0, .int x0), (1, .int x1), (2, .int x2)]) : W p l e (rmL 0) s m args below meth c s.heap [] 0 0 (MQ below (vp_Si (fun z => z = out)) args s 0 0 (fun _ => False)) (F0 m 0 ls []) := by
  unfold B_X6_isIn at h
  refine lv_iload_n E.hx E.hb dX6_isIn_0 rfl (lv_at hl 0 rfl) ?_
  refine lv_iload_n E.hx E.hb dX6_isIn_1 rfl (lv_at hl 1 rfl) ?_
  refine lv_icmp_lt (tgt := 14) E.hx E.hb dX6_isIn_2 (by decide) (fun c_1 => ?_) (fun c_1 => ?_)
  · rw [if_pos c_1] at h
    refine lv_iconst (v := 0) E.hx E.hb dX6_isIn_14 (by decide) ?_
    exact W.zret E.hx E.hb E.hr rfl (fun t ht _ => ⟨_, rfl, h, ht⟩) (fun q hq => nomatch hq) dX6_isIn_15 E.hk
  · rw [if_neg c_1] at h
    refine lv_iload_n E.hx E.hb dX6_isIn_5 rfl (lv_at hl 0 rfl) ?_
    refine lv_iload_n E.hx E.hb dX6_isIn_6 rfl (lv_at hl 2 rfl) ?_
    refine lv_icmp_gt (tgt := 14) E.hx E.hb dX6_isIn_7 (by decide) (fun c_2 => ?_) (fun c_2 => ?_)
    · rw [if_pos c_2] at h
      refine lv_iconst (v := 0) E.hx E.hb dX6_isIn_14 (by decide) ?_
      exact W.zret E.hx E.hb E.hr rfl (fun t ht _ => ⟨_, rfl, h, ht⟩) (fun q hq => nomatch hq) dX6_isIn_15 E.hk
    · rw [if_neg c_2] at h
      refine lv_iconst (v := 1) E.hx E.hb dX6_isIn_10 (by decide) ?_
      refine lv_goto (tgt := 15) E.hx E.hb dX6_isIn_11 (by decide) ?_
      exact W.zret E.hx E.hb E.hr rfl (fun t ht _ => ⟨_, rfl, h, ht⟩) (fun q hq => nomatch hq) dX6_isIn_15 E.hk
theorem c_X6_isIn (l : Launch) {H : Heap} {D : va_G} {cyI : ClassId} {ad : Nat → Nat} (x0 x1 x2 : Int32) : MRO l yX6_isIn cX6_isIn 3 (some .boolean) 0 [.int x0, .int x1, .int x2] H (KC D cyI ad) (B_X6_isIn  x0 x1 x2) := by
  refine Mof (own := RX6) (by decide +kernel) rfl rfl ?_
  intro p e s m args below meth c ls E hH K0 hl
  subst hH
  exact w_X6_isIn E K0  rfl hl
theorem ds_X6_isIn : Dsc yX6_isIn 3 := ⟨by decide +kernel, by decide +kernel, by decide +kernel⟩
end
section
variable {p : Program} {l : Launch} {e : Env} {R : Room} {s : State} {m : MethodId} {args : Array Value} {below : List Frame} {meth : Method} {c : Code} {H : Heap} {locs : List Loc} {cells slots : Nat} {Q : State → Prop} {cc : ByteArray} {nL pc : Nat} {ret : Option FieldType} {ls : Array Slot} {rest : List Value} {D : va_G} {cyI : ClassId} {ad : Nat → Nat} {I : Nat → Int32} {A : Nat → Nat → Int32}
theorem iv_X6_56 (E : EX p s m args meth c cc nL RX6 ret) (K0 : KC D cyI ad s s.heap) (S : va_S (InN 44 ad) s.heap H locs) {a0 a1 a2 : Int32} (hR : RmOk R cells slots 0 3) (hls : ls.size = nL) (hro : (rest.map fun v => v.category).sum ≤ 8) (hdg : decode cc pc = .ok (.invokestatic 56, 3)) (kk : W p l e R s m args below meth c H locs cells slots Q (F0 m (pc + 3) ls (.int (B_X6_isIn a0 a1 a2) :: rest))) : W p l e R s m args below meth c H locs cells slots Q (F0 m pc ls (.int a2 :: .int a1 :: .int a0 :: rest)) :=
  cs_ro E (c_X6_isIn l (H := H) (D := D) (cyI := cyI) (ad := ad) a0 a1 a2 ) (gS kML_X6_56 kST_X6_isIn kIN_X6 kCO_X6_isIn) rfl ds_X6_isIn rfl KC_blind (fun U _ hW => (K0.at S).warm hW) hR hls rfl hro hdg kk
end
section
variable {p : Program} {l : Launch} {e : Env} {s : State} {m : MethodId} {args : Array Value} {below : List Frame} {meth : Method} {c : Code} {D : va_G} {cyI : ClassId} {ad : Nat → Nat}
def B_X6_isDirection  (x0 : Int32) : Int32 := (B_X6_isIn x0 0 14)
theorem nb_B_X6_isDirection  {x0 : Int32} : narrow .boolean (.int (B_X6_isDirection  x0)) = .int (B_X6_isDirection  x0) := by
  unfold B_X6_isDirection
  first | exact nb_B_X6_isIn | exact nb_B_X7_in | ((repeat' split) <;> rfl)
set_option maxHeartbeats 4000000 in
set_option maxRecDepth 100000 in
theorem w_X6_isDirection (E : EX p s m args meth c cX6_isDirection 1 RX6 (some .boolean)) (K0 : KC D cyI ad s s.heap)  {x0 : Int32} {out : Int32} (h : B_X6_isDirection  x0 = out) {ls : Array Slot} (hl : lv_has ls 1 [(0, .int x0)]) : W p l e (rmL 1) s m args below meth c s.heap [] 0 0 (MQ below (vp_Si (fun z => z = out)) args s 0 0 (fun _ => False)) (F0 m 0 ls []) := by
  unfold B_X6_isDirection at h
  refine lv_iload_n E.hx E.hb dX6_isDirection_0 rfl (lv_at hl 0 rfl) ?_
  refine lv_iconst (v := 0) E.hx E.hb dX6_isDirection_1 (by decide) ?_
  refine lv_bipush (v := 14) E.hx E.hb dX6_isDirection_2 (by decide) ?_
  refine iv_X6_56 E K0 va_S.rf (by decide) hl.1 (Nat.le_of_ble_eq_true rfl) dX6_isDirection_4 ?_
  exact W.zret E.hx E.hb E.hr (nb_B_X6_isIn) (fun t ht _ => ⟨_, rfl, h, ht⟩) (fun q hq => nomatch hq) dX6_isDirection_7 E.hk
theorem c_X6_isDirection (l : Launch) {H : Heap} {D : va_G} {cyI : ClassId} {ad : Nat → Nat} (x0 : Int32) : MRO l yX6_isDirection cX6_isDirection 1 (some .boolean) 1 [.int x0] H (KC D cyI ad) (B_X6_isDirection  x0) := by
  refine Mof (own := RX6) (by decide +kernel) rfl rfl ?_
  intro p e s m args below meth c ls E hH K0 hl
  subst hH
  exact w_X6_isDirection E K0  rfl hl
theorem ds_X6_isDirection : Dsc yX6_isDirection 1 := ⟨by decide +kernel, by decide +kernel, by decide +kernel⟩
end
section
variable {p : Program} {l : Launch} {e : Env} {s : State} {m : MethodId} {args : Array Value} {below : List Frame} {meth : Method} {c : Code} {D : va_G} {cyI : ClassId} {ad : Nat → Nat}
def B_X6_onFrom  (x0 x1 : Int32) : Int32 := (((((x1 - x0) + 7) + 15) - (((x1 - x0) + 7) + 15) / 15 * 15) - 7)
set_option maxHeartbeats 4000000 in
set_option maxRecDepth 100000 in
theorem w_X6_onFrom (E : EX p s m args meth c cX6_onFrom 2 RX6 (some .int)) (K0 : KC D cyI ad s s.heap)  {x0 x1 : Int32} {out : Int32} (h : B_X6_onFrom  x0 x1 = out) {ls : Array Slot} (hl : lv_has ls 2 [(0, .int x0), (1, .int x1)]) : W p l e (rmL 0) s m args below meth c s.heap [] 0 0 (MQ below (vp_Si (fun z => z = out)) args s 0 0 (fun _ => False)) (F0 m 0 ls []) := by
  unfold B_X6_onFrom at h
  refine lv_iload_n E.hx E.hb dX6_onFrom_0 rfl (lv_at hl 1 rfl) ?_
  refine lv_iload_n E.hx E.hb dX6_onFrom_1 rfl (lv_at hl 0 rfl) ?_
  refine lv_isub E.hx E.hb dX6_onFrom_2 ?_
  refine lv_bipush (v := 7) E.hx E.hb dX6_onFrom_3 (by decide) ?_
  refine lv_iadd E.hx E.hb dX6_onFrom_5 ?_
  refine lv_bipush (v := 15) E.hx E.hb dX6_onFrom_6 (by decide) ?_
  refine lv_iadd E.hx E.hb dX6_onFrom_8 ?_
  refine lv_bipush (v := 15) E.hx E.hb dX6_onFrom_9 (by decide) ?_
  refine lv_irem E.hx E.hb dX6_onFrom_11 (by decide) ?_
  refine lv_bipush (v := 7) E.hx E.hb dX6_onFrom_12 (by decide) ?_
  refine lv_isub E.hx E.hb dX6_onFrom_14 ?_
  exact W.iret E.hx E.hb E.hr (fun t ht _ => ⟨_, rfl, h, ht⟩) (fun q hq => nomatch hq) dX6_onFrom_15 E.hk
theorem c_X6_onFrom (l : Launch) {H : Heap} {D : va_G} {cyI : ClassId} {ad : Nat → Nat} (x0 x1 : Int32) : MRO l yX6_onFrom cX6_onFrom 2 (some .int) 0 [.int x0, .int x1] H (KC D cyI ad) (B_X6_onFrom  x0 x1) := by
  refine Mof (own := RX6) (by decide +kernel) rfl rfl ?_
  intro p e s m args below meth c ls E hH K0 hl
  subst hH
  exact w_X6_onFrom E K0  rfl hl
theorem ds_X6_onFrom : Dsc yX6_onFrom 2 := ⟨by decide +kernel, by decide +kernel, by decide +kernel⟩
end
section
variable {p : Program} {l : Launch} {e : Env} {R : Room} {s : State} {m : MethodId} {args : Array Value} {below : List Frame} {meth : Method} {c : Code} {H : Heap} {locs : List Loc} {cells slots : Nat} {Q : State → Prop} {cc : ByteArray} {nL pc : Nat} {ret : Option FieldType} {ls : Array Slot} {rest : List Value} {D : va_G} {cyI : ClassId} {ad : Nat → Nat} {I : Nat → Int32} {A : Nat → Nat → Int32}
theorem iv_X6_260 (E : EX p s m args meth c cc nL RX6 ret) (K0 : KC D cyI ad s s.heap) (S : va_S (InN 44 ad) s.heap H locs) {a0 a1 : Int32} (hR : RmOk R cells slots 0 2) (hls : ls.size = nL) (hro : (rest.map fun v => v.category).sum ≤ 8) (hdg : decode cc pc = .ok (.invokestatic 260, 3)) (kk : W p l e R s m args below meth c H locs cells slots Q (F0 m (pc + 3) ls (.int (B_X6_onFrom a0 a1) :: rest))) : W p l e R s m args below meth c H locs cells slots Q (F0 m pc ls (.int a1 :: .int a0 :: rest)) :=
  cs_ro E (c_X6_onFrom l (H := H) (D := D) (cyI := cyI) (ad := ad) a0 a1 ) (gS kML_X6_260 kST_X6_onFrom kIN_X6 kCO_X6_onFrom) rfl ds_X6_onFrom rfl KC_blind (fun U _ hW => (K0.at S).warm hW) hR hls rfl hro hdg kk
end
section
variable {p : Program} {l : Launch} {e : Env} {s : State} {m : MethodId} {args : Array Value} {below : List Frame} {meth : Method} {c : Code} {D : va_G} {cyI : ClassId} {ad : Nat → Nat}
def B_X6_squareApart  (x0 x1 : Int32) : Int32 := ((B_X6_onFrom x0 x1) * (B_X6_onFrom x0 x1))
set_option maxHeartbeats 4000000 in
set_option maxRecDepth 100000 in
theorem w_X6_squareApart (E : EX p s m args meth c cX6_squareApart 3 RX6 (some .int)) (K0 : KC D cyI ad s s.heap)  {x0 x1 : Int32} {out : Int32} (h : B_X6_squareApart  x0 x1 = out) {ls : Array Slot} (hl : lv_has ls 3 [(0, .int x0), (1, .int x1)]) : W p l e (rmL 1) s m args below meth c s.heap [] 0 0 (MQ below (vp_Si (fun z => z = out)) args s 0 0 (fun _ => False)) (F0 m 0 ls []) := by
  unfold B_X6_squareApart at h
  refine lv_iload_n E.hx E.hb dX6_squareApart_0 rfl (lv_at hl 0 rfl) ?_
  refine lv_iload_n E.hx E.hb dX6_squareApart_1 rfl (lv_at hl 1 rfl) ?_
  refine iv_X6_260 E K0 va_S.rf (by decide) hl.1 (Nat.le_of_ble_eq_true rfl) dX6_squareApart_2 ?_
  refine lv_istore_n (lv' := [(2, .int (B_X6_onFrom x0 x1)), (0, .int x0), (1, .int x1)]) E.hx E.hb dX6_squareApart_5 rfl hl (by decide) rfl (fun ls hl => ?_)
  refine lv_iload_n E.hx E.hb dX6_squareApart_6 rfl (lv_at hl 0 rfl) ?_
  refine lv_iload_n E.hx E.hb dX6_squareApart_7 rfl (lv_at hl 0 rfl) ?_
  refine lv_imul E.hx E.hb dX6_squareApart_8 ?_
  exact W.iret E.hx E.hb E.hr (fun t ht _ => ⟨_, rfl, h, ht⟩) (fun q hq => nomatch hq) dX6_squareApart_9 E.hk
theorem c_X6_squareApart (l : Launch) {H : Heap} {D : va_G} {cyI : ClassId} {ad : Nat → Nat} (x0 x1 : Int32) : MRO l yX6_squareApart cX6_squareApart 3 (some .int) 1 [.int x0, .int x1] H (KC D cyI ad) (B_X6_squareApart  x0 x1) := by
  refine Mof (own := RX6) (by decide +kernel) rfl rfl ?_
  intro p e s m args below meth c ls E hH K0 hl
  subst hH
  exact w_X6_squareApart E K0  rfl hl
theorem ds_X6_squareApart : Dsc yX6_squareApart 2 := ⟨by decide +kernel, by decide +kernel, by decide +kernel⟩
end
section
variable {p : Program} {l : Launch} {e : Env} {s : State} {m : MethodId} {args : Array Value} {below : List Frame} {meth : Method} {c : Code} {D : va_G} {cyI : ClassId} {ad : Nat → Nat}
def B_X6_numberOf  (x0 x1 : Int32) : Int32 := ((x1 * 12) + x0)
set_option maxHeartbeats 4000000 in
set_option maxRecDepth 100000 in
theorem w_X6_numberOf (E : EX p s m args meth c cX6_numberOf 2 RX6 (some .int)) (K0 : KC D cyI ad s s.heap)  {x0 x1 : Int32} {out : Int32} (h : B_X6_numberOf  x0 x1 = out) {ls : Array Slot} (hl : lv_has ls 2 [(0, .int x0), (1, .int x1)]) : W p l e (rmL 0) s m args below meth c s.heap [] 0 0 (MQ below (vp_Si (fun z => z = out)) args s 0 0 (fun _ => False)) (F0 m 0 ls []) := by
  unfold B_X6_numberOf at h
  refine lv_iload_n E.hx E.hb dX6_numberOf_0 rfl (lv_at hl 1 rfl) ?_
  refine lv_bipush (v := 12) E.hx E.hb dX6_numberOf_1 (by decide) ?_
  refine lv_imul E.hx E.hb dX6_numberOf_3 ?_
  refine lv_iload_n E.hx E.hb dX6_numberOf_4 rfl (lv_at hl 0 rfl) ?_
  refine lv_iadd E.hx E.hb dX6_numberOf_5 ?_
  exact W.iret E.hx E.hb E.hr (fun t ht _ => ⟨_, rfl, h, ht⟩) (fun q hq => nomatch hq) dX6_numberOf_6 E.hk
theorem c_X6_numberOf (l : Launch) {H : Heap} {D : va_G} {cyI : ClassId} {ad : Nat → Nat} (x0 x1 : Int32) : MRO l yX6_numberOf cX6_numberOf 2 (some .int) 0 [.int x0, .int x1] H (KC D cyI ad) (B_X6_numberOf  x0 x1) := by
  refine Mof (own := RX6) (by decide +kernel) rfl rfl ?_
  intro p e s m args below meth c ls E hH K0 hl
  subst hH
  exact w_X6_numberOf E K0  rfl hl
theorem ds_X6_numberOf : Dsc yX6_numberOf 2 := ⟨by decide +kernel, by decide +kernel, by decide +kernel⟩
end
section
variable {p : Program} {l : Launch} {e : Env} {s : State} {m : MethodId} {args : Array Value} {below : List Frame} {meth : Method} {c : Code} {D : va_G} {cyI : ClassId} {ad : Nat → Nat}
def B_J9_floorDiv_7cf53  (x0 x1 : Int32) : Option (Int32) := if x1 = 0 then none else if 0 ≤ (x0 ^^^ x1) then some ((x0 / x1)) else (if ((x0 / x1) * x1) = x0 then some ((x0 / x1)) else some (((x0 / x1) - 1)))
set_option maxHeartbeats 4000000 in
set_option maxRecDepth 100000 in
theorem w_J9_floorDiv_7cf53 (E : EX p s m args meth c cJ9_floorDiv_7cf53 3 RJ9 (some .int)) (K0 : KC D cyI ad s s.heap)  {x0 x1 : Int32} {out : Int32} (h : B_J9_floorDiv_7cf53  x0 x1 = some out) {ls : Array Slot} (hl : lv_has ls 3 [(0, .int x0), (1, .int x1)]) : W p l e (rmL 0) s m args below meth c s.heap [] 0 0 (MQ below (vp_Si (fun z => z = out)) args s 0 0 (fun _ => False)) (F0 m 0 ls []) := by
  unfold B_J9_floorDiv_7cf53 at h
  refine lv_iload_n E.hx E.hb dJ9_floorDiv_7cf53_0 rfl (lv_at hl 0 rfl) ?_
  refine lv_iload_n E.hx E.hb dJ9_floorDiv_7cf53_1 rfl (lv_at hl 1 rfl) ?_
  by_cases c_1 : x1 = 0
  · rw [if_pos c_1] at h; exact nomatch h
  rw [if_neg c_1] at h
  refine lv_idiv E.hx E.hb dJ9_floorDiv_7cf53_2 c_1 ?_
  refine lv_istore_n (lv' := [(2, .int (x0 / x1)), (0, .int x0), (1, .int x1)]) E.hx E.hb dJ9_floorDiv_7cf53_3 rfl hl (by decide) rfl (fun ls hl => ?_)
  refine lv_iload_n E.hx E.hb dJ9_floorDiv_7cf53_4 rfl (lv_at hl 1 rfl) ?_
  refine lv_iload_n E.hx E.hb dJ9_floorDiv_7cf53_5 rfl (lv_at hl 2 rfl) ?_
  refine lv_ixor E.hx E.hb dJ9_floorDiv_7cf53_6 ?_
  refine lv_if_ge (tgt := 21) E.hx E.hb dJ9_floorDiv_7cf53_7 (by decide) (fun c_2 => ?_) (fun c_2 => ?_)
  · rw [if_pos c_2] at h
    refine lv_iload_n E.hx E.hb dJ9_floorDiv_7cf53_21 rfl (lv_at hl 0 rfl) ?_
    exact W.iret E.hx E.hb E.hr (fun t ht _ => ⟨_, rfl, (Option.some.inj h), ht⟩) (fun q hq => nomatch hq) dJ9_floorDiv_7cf53_22 E.hk
  · rw [if_neg c_2] at h
    refine lv_iload_n E.hx E.hb dJ9_floorDiv_7cf53_10 rfl (lv_at hl 0 rfl) ?_
    refine lv_iload_n E.hx E.hb dJ9_floorDiv_7cf53_11 rfl (lv_at hl 2 rfl) ?_
    refine lv_imul E.hx E.hb dJ9_floorDiv_7cf53_12 ?_
    refine lv_iload_n E.hx E.hb dJ9_floorDiv_7cf53_13 rfl (lv_at hl 1 rfl) ?_
    refine lv_icmp_eq (tgt := 21) E.hx E.hb dJ9_floorDiv_7cf53_14 (by decide) (fun c_3 => ?_) (fun c_3 => ?_)
    · rw [if_pos c_3] at h
      refine lv_iload_n E.hx E.hb dJ9_floorDiv_7cf53_21 rfl (lv_at hl 0 rfl) ?_
      exact W.iret E.hx E.hb E.hr (fun t ht _ => ⟨_, rfl, (Option.some.inj h), ht⟩) (fun q hq => nomatch hq) dJ9_floorDiv_7cf53_22 E.hk
    · rw [if_neg c_3] at h
      refine lv_iload_n E.hx E.hb dJ9_floorDiv_7cf53_17 rfl (lv_at hl 0 rfl) ?_
      refine lv_iconst (v := 1) E.hx E.hb dJ9_floorDiv_7cf53_18 (by decide) ?_
      refine lv_isub E.hx E.hb dJ9_floorDiv_7cf53_19 ?_
      exact W.iret E.hx E.hb E.hr (fun t ht _ => ⟨_, rfl, (Option.some.inj h), ht⟩) (fun q hq => nomatch hq) dJ9_floorDiv_7cf53_20 E.hk
theorem c_J9_floorDiv_7cf53 (l : Launch) {H : Heap} {D : va_G} {cyI : ClassId} {ad : Nat → Nat} (x0 x1 : Int32) {out : Int32} (h : B_J9_floorDiv_7cf53  x0 x1 = some out) : MRO l yJ9_floorDiv_7cf53 cJ9_floorDiv_7cf53 3 (some .int) 0 [.int x0, .int x1] H (KC D cyI ad) out := by
  refine Mof (own := RJ9) (by decide +kernel) rfl rfl ?_
  intro p e s m args below meth c ls E hH K0 hl
  subst hH
  exact w_J9_floorDiv_7cf53 E K0  h hl
theorem ds_J9_floorDiv_7cf53 : Dsc yJ9_floorDiv_7cf53 2 := ⟨by decide +kernel, by decide +kernel, by decide +kernel⟩
end
section
variable {p : Program} {l : Launch} {e : Env} {s : State} {m : MethodId} {args : Array Value} {below : List Frame} {meth : Method} {c : Code} {D : va_G} {cyI : ClassId} {ad : Nat → Nat}
def B_J9_abs_0f7a4  (x0 : Int32) : Int32 := if 0 ≤ x0 then x0 else (-x0)
set_option maxHeartbeats 4000000 in
set_option maxRecDepth 100000 in
theorem w_J9_abs_0f7a4 (E : EX p s m args meth c cJ9_abs_0f7a4 1 RJ9 (some .int)) (K0 : KC D cyI ad s s.heap)  {x0 : Int32} {out : Int32} (h : B_J9_abs_0f7a4  x0 = out) {ls : Array Slot} (hl : lv_has ls 1 [(0, .int x0)]) : W p l e (rmL 0) s m args below meth c s.heap [] 0 0 (MQ below (vp_Si (fun z => z = out)) args s 0 0 (fun _ => False)) (F0 m 0 ls []) := by
  unfold B_J9_abs_0f7a4 at h
  refine lv_iload_n E.hx E.hb dJ9_abs_0f7a4_0 rfl (lv_at hl 0 rfl) ?_
  refine lv_if_ge (tgt := 9) E.hx E.hb dJ9_abs_0f7a4_1 (by decide) (fun c_1 => ?_) (fun c_1 => ?_)
  · rw [if_pos c_1] at h
    refine lv_iload_n E.hx E.hb dJ9_abs_0f7a4_9 rfl (lv_at hl 0 rfl) ?_
    exact W.iret E.hx E.hb E.hr (fun t ht _ => ⟨_, rfl, h, ht⟩) (fun q hq => nomatch hq) dJ9_abs_0f7a4_10 E.hk
  · rw [if_neg c_1] at h
    refine lv_iload_n E.hx E.hb dJ9_abs_0f7a4_4 rfl (lv_at hl 0 rfl) ?_
    refine lv_ineg E.hx E.hb dJ9_abs_0f7a4_5 ?_
    refine lv_goto (tgt := 10) E.hx E.hb dJ9_abs_0f7a4_6 (by decide) ?_
    exact W.iret E.hx E.hb E.hr (fun t ht _ => ⟨_, rfl, h, ht⟩) (fun q hq => nomatch hq) dJ9_abs_0f7a4_10 E.hk
theorem c_J9_abs_0f7a4 (l : Launch) {H : Heap} {D : va_G} {cyI : ClassId} {ad : Nat → Nat} (x0 : Int32) : MRO l yJ9_abs_0f7a4 cJ9_abs_0f7a4 1 (some .int) 0 [.int x0] H (KC D cyI ad) (B_J9_abs_0f7a4  x0) := by
  refine Mof (own := RJ9) (by decide +kernel) rfl rfl ?_
  intro p e s m args below meth c ls E hH K0 hl
  subst hH
  exact w_J9_abs_0f7a4 E K0  rfl hl
theorem ds_J9_abs_0f7a4 : Dsc yJ9_abs_0f7a4 1 := ⟨by decide +kernel, by decide +kernel, by decide +kernel⟩
end
section
variable {p : Program} {l : Launch} {e : Env} {s : State} {m : MethodId} {args : Array Value} {below : List Frame} {meth : Method} {c : Code} {D : va_G} {cyI : ClassId} {ad : Nat → Nat}
def B_J9_max_7cf53  (x0 x1 : Int32) : Int32 := if x0 < x1 then x1 else x0
set_option maxHeartbeats 4000000 in
set_option maxRecDepth 100000 in
theorem w_J9_max_7cf53 (E : EX p s m args meth c cJ9_max_7cf53 2 RJ9 (some .int)) (K0 : KC D cyI ad s s.heap)  {x0 x1 : Int32} {out : Int32} (h : B_J9_max_7cf53  x0 x1 = out) {ls : Array Slot} (hl : lv_has ls 2 [(0, .int x0), (1, .int x1)]) : W p l e (rmL 0) s m args below meth c s.heap [] 0 0 (MQ below (vp_Si (fun z => z = out)) args s 0 0 (fun _ => False)) (F0 m 0 ls []) := by
  unfold B_J9_max_7cf53 at h
  refine lv_iload_n E.hx E.hb dJ9_max_7cf53_0 rfl (lv_at hl 0 rfl) ?_
  refine lv_iload_n E.hx E.hb dJ9_max_7cf53_1 rfl (lv_at hl 1 rfl) ?_
  refine lv_icmp_lt (tgt := 9) E.hx E.hb dJ9_max_7cf53_2 (by decide) (fun c_1 => ?_) (fun c_1 => ?_)
  · rw [if_pos c_1] at h
    refine lv_iload_n E.hx E.hb dJ9_max_7cf53_9 rfl (lv_at hl 1 rfl) ?_
    exact W.iret E.hx E.hb E.hr (fun t ht _ => ⟨_, rfl, h, ht⟩) (fun q hq => nomatch hq) dJ9_max_7cf53_10 E.hk
  · rw [if_neg c_1] at h
    refine lv_iload_n E.hx E.hb dJ9_max_7cf53_5 rfl (lv_at hl 0 rfl) ?_
    refine lv_goto (tgt := 10) E.hx E.hb dJ9_max_7cf53_6 (by decide) ?_
    exact W.iret E.hx E.hb E.hr (fun t ht _ => ⟨_, rfl, h, ht⟩) (fun q hq => nomatch hq) dJ9_max_7cf53_10 E.hk
theorem c_J9_max_7cf53 (l : Launch) {H : Heap} {D : va_G} {cyI : ClassId} {ad : Nat → Nat} (x0 x1 : Int32) : MRO l yJ9_max_7cf53 cJ9_max_7cf53 2 (some .int) 0 [.int x0, .int x1] H (KC D cyI ad) (B_J9_max_7cf53  x0 x1) := by
  refine Mof (own := RJ9) (by decide +kernel) rfl rfl ?_
  intro p e s m args below meth c ls E hH K0 hl
  subst hH
  exact w_J9_max_7cf53 E K0  rfl hl
theorem ds_J9_max_7cf53 : Dsc yJ9_max_7cf53 2 := ⟨by decide +kernel, by decide +kernel, by decide +kernel⟩
end
section
variable {p : Program} {l : Launch} {e : Env} {s : State} {m : MethodId} {args : Array Value} {below : List Frame} {meth : Method} {c : Code} {D : va_G} {cyI : ClassId} {ad : Nat → Nat}
def B_J9_min_7cf53  (x0 x1 : Int32) : Int32 := if x1 < x0 then x1 else x0
set_option maxHeartbeats 4000000 in
set_option maxRecDepth 100000 in
theorem w_J9_min_7cf53 (E : EX p s m args meth c cJ9_min_7cf53 2 RJ9 (some .int)) (K0 : KC D cyI ad s s.heap)  {x0 x1 : Int32} {out : Int32} (h : B_J9_min_7cf53  x0 x1 = out) {ls : Array Slot} (hl : lv_has ls 2 [(0, .int x0), (1, .int x1)]) : W p l e (rmL 0) s m args below meth c s.heap [] 0 0 (MQ below (vp_Si (fun z => z = out)) args s 0 0 (fun _ => False)) (F0 m 0 ls []) := by
  unfold B_J9_min_7cf53 at h
  refine lv_iload_n E.hx E.hb dJ9_min_7cf53_0 rfl (lv_at hl 0 rfl) ?_
  refine lv_iload_n E.hx E.hb dJ9_min_7cf53_1 rfl (lv_at hl 1 rfl) ?_
  refine lv_icmp_gt (tgt := 9) E.hx E.hb dJ9_min_7cf53_2 (by decide) (fun c_1 => ?_) (fun c_1 => ?_)
  · rw [if_pos c_1] at h
    refine lv_iload_n E.hx E.hb dJ9_min_7cf53_9 rfl (lv_at hl 1 rfl) ?_
    exact W.iret E.hx E.hb E.hr (fun t ht _ => ⟨_, rfl, h, ht⟩) (fun q hq => nomatch hq) dJ9_min_7cf53_10 E.hk
  · rw [if_neg c_1] at h
    refine lv_iload_n E.hx E.hb dJ9_min_7cf53_5 rfl (lv_at hl 0 rfl) ?_
    refine lv_goto (tgt := 10) E.hx E.hb dJ9_min_7cf53_6 (by decide) ?_
    exact W.iret E.hx E.hb E.hr (fun t ht _ => ⟨_, rfl, h, ht⟩) (fun q hq => nomatch hq) dJ9_min_7cf53_10 E.hk
theorem c_J9_min_7cf53 (l : Launch) {H : Heap} {D : va_G} {cyI : ClassId} {ad : Nat → Nat} (x0 x1 : Int32) : MRO l yJ9_min_7cf53 cJ9_min_7cf53 2 (some .int) 0 [.int x0, .int x1] H (KC D cyI ad) (B_J9_min_7cf53  x0 x1) := by
  refine Mof (own := RJ9) (by decide +kernel) rfl rfl ?_
  intro p e s m args below meth c ls E hH K0 hl
  subst hH
  exact w_J9_min_7cf53 E K0  rfl hl
theorem ds_J9_min_7cf53 : Dsc yJ9_min_7cf53 2 := ⟨by decide +kernel, by decide +kernel, by decide +kernel⟩
end
section
variable {p : Program} {l : Launch} {e : Env} {s : State} {m : MethodId} {args : Array Value} {below : List Frame} {meth : Method} {c : Code} {D : va_G} {cyI : ClassId} {ad : Nat → Nat} {I : Nat → Int32} {A : Nat → Nat → Int32}
def B_X1_has (I : Nat → Int32) (A : Nat → Nat → Int32) (x1 x2 : Int32) : Int32 := if x1 < 0 then 0 else (if (I 5) ≤ x1 then 0 else (if x2 < 0 then 0 else (if (I 6) ≤ x2 then 0 else 1)))
theorem nb_B_X1_has {I : Nat → Int32} {A : Nat → Nat → Int32} {x1 x2 : Int32} : narrow .boolean (.int (B_X1_has I A x1 x2)) = .int (B_X1_has I A x1 x2) := by
  unfold B_X1_has
  first | exact nb_B_X6_isIn | exact nb_B_X7_in | ((repeat' split) <;> rfl)
set_option maxHeartbeats 4000000 in
set_option maxRecDepth 100000 in
theorem w_X1_has (E : EX p s m args meth c cX1_has 3 RX1 (some .boolean)) (K0 : KC D cyI ad s s.heap) (P : va_P D classes (cw cyI ad I A) s.heap)  {x1 x2 : Int32} {out : Int32} (h : B_X1_has I A x1 x2 = out) {ls : Array Slot} (hl : lv_has ls 3 [(0, .ref (ad 2)), (1, .int x1), (2, .int x2)]) : W p l e (rmL 0) s m args below meth c s.heap [] 0 0 (MQ below (vp_Si (fun z => z = out)) args s 0 0 (fun _ => False)) (F0 m 0 ls []) := by
  unfold B_X1_has at h
  refine lv_iload_n E.hx E.hb dX1_has_0 rfl (lv_at hl 1 rfl) ?_
  refine lv_if_lt (tgt := 28) E.hx E.hb dX1_has_1 (by decide) (fun c_1 => ?_) (fun c_1 => ?_)
  · rw [if_pos c_1] at h
    refine lv_iconst (v := 0) E.hx E.hb dX1_has_28 (by decide) ?_
    exact W.zret E.hx E.hb E.hr rfl (fun t ht _ => ⟨_, rfl, h, ht⟩) (fun q hq => nomatch hq) dX1_has_29 E.hk
  · rw [if_neg c_1] at h
    refine lv_iload_n E.hx E.hb dX1_has_4 rfl (lv_at hl 1 rfl) ?_
    refine lv_aload_n E.hx E.hb dX1_has_5 rfl (lv_at hl 0 rfl) ?_
    refine gf_X1_32 E K0 P dX1_has_6 ?_
    refine lv_icmp_ge (tgt := 28) E.hx E.hb dX1_has_9 (by decide) (fun c_2 => ?_) (fun c_2 => ?_)
    · rw [if_pos c_2] at h
      refine lv_iconst (v := 0) E.hx E.hb dX1_has_28 (by decide) ?_
      exact W.zret E.hx E.hb E.hr rfl (fun t ht _ => ⟨_, rfl, h, ht⟩) (fun q hq => nomatch hq) dX1_has_29 E.hk
    · rw [if_neg c_2] at h
      refine lv_iload_n E.hx E.hb dX1_has_12 rfl (lv_at hl 2 rfl) ?_
      refine lv_if_lt (tgt := 28) E.hx E.hb dX1_has_13 (by decide) (fun c_3 => ?_) (fun c_3 => ?_)
      · rw [if_pos c_3] at h
        refine lv_iconst (v := 0) E.hx E.hb dX1_has_28 (by decide) ?_
        exact W.zret E.hx E.hb E.hr rfl (fun t ht _ => ⟨_, rfl, h, ht⟩) (fun q hq => nomatch hq) dX1_has_29 E.hk
      · rw [if_neg c_3] at h
        refine lv_iload_n E.hx E.hb dX1_has_16 rfl (lv_at hl 2 rfl) ?_
        refine lv_aload_n E.hx E.hb dX1_has_17 rfl (lv_at hl 0 rfl) ?_
        refine gf_X1_36 E K0 P dX1_has_18 ?_
        refine lv_icmp_ge (tgt := 28) E.hx E.hb dX1_has_21 (by decide) (fun c_4 => ?_) (fun c_4 => ?_)
        · rw [if_pos c_4] at h
          refine lv_iconst (v := 0) E.hx E.hb dX1_has_28 (by decide) ?_
          exact W.zret E.hx E.hb E.hr rfl (fun t ht _ => ⟨_, rfl, h, ht⟩) (fun q hq => nomatch hq) dX1_has_29 E.hk
        · rw [if_neg c_4] at h
          refine lv_iconst (v := 1) E.hx E.hb dX1_has_24 (by decide) ?_
          refine lv_goto (tgt := 29) E.hx E.hb dX1_has_25 (by decide) ?_
          exact W.zret E.hx E.hb E.hr rfl (fun t ht _ => ⟨_, rfl, h, ht⟩) (fun q hq => nomatch hq) dX1_has_29 E.hk
theorem c_X1_has (l : Launch) {H : Heap} {D : va_G} {cyI : ClassId} {ad : Nat → Nat} {I : Nat → Int32} {A : Nat → Nat → Int32} (P : va_P D classes (cw cyI ad I A) H) (x1 x2 : Int32) : MRO l yX1_has cX1_has 3 (some .boolean) 0 [.ref (ad 2), .int x1, .int x2] H (KC D cyI ad) (B_X1_has I A x1 x2) := by
  refine Mof (own := RX1) (by decide +kernel) rfl rfl ?_
  intro p e s m args below meth c ls E hH K0 hl
  subst hH
  exact w_X1_has E K0 P rfl hl
theorem ds_X1_has : Dsc yX1_has 2 := ⟨by decide +kernel, by decide +kernel, by decide +kernel⟩
end
section
variable {p : Program} {l : Launch} {e : Env} {R : Room} {s : State} {m : MethodId} {args : Array Value} {below : List Frame} {meth : Method} {c : Code} {H : Heap} {locs : List Loc} {cells slots : Nat} {Q : State → Prop} {cc : ByteArray} {nL pc : Nat} {ret : Option FieldType} {ls : Array Slot} {rest : List Value} {D : va_G} {cyI : ClassId} {ad : Nat → Nat} {I : Nat → Int32} {A : Nat → Nat → Int32}
theorem iv_X1_55 (E : EX p s m args meth c cc nL RX1 ret) (K0 : KC D cyI ad s s.heap) (S : va_S (InN 44 ad) s.heap H locs) {a0 a1 : Int32} (hR : RmOk R cells slots 0 2) (hls : ls.size = nL) (hro : (rest.map fun v => v.category).sum ≤ 8) (hdg : decode cc pc = .ok (.invokestatic 55, 3)) (kk : W p l e R s m args below meth c H locs cells slots Q (F0 m (pc + 3) ls (.int (B_X6_numberOf a0 a1) :: rest))) : W p l e R s m args below meth c H locs cells slots Q (F0 m pc ls (.int a1 :: .int a0 :: rest)) :=
  cn_ro E (c_X6_numberOf l (H := H) (D := D) (cyI := cyI) (ad := ad) a0 a1 ) (K0.nm _ (List.mem_of_getElem? (i := 3) rfl)) kST_X6_numberOf kIN_X6 kCO_X6_numberOf ds_X6_numberOf rfl KC_blind (fun U _ hW => (K0.at S).warm hW) hR hls rfl hro hdg kk
end
section
variable {p : Program} {l : Launch} {e : Env} {R : Room} {s : State} {m : MethodId} {args : Array Value} {below : List Frame} {meth : Method} {c : Code} {H : Heap} {locs : List Loc} {cells slots : Nat} {Q : State → Prop} {cc : ByteArray} {nL pc : Nat} {ret : Option FieldType} {ls : Array Slot} {rest : List Value} {D : va_G} {cyI : ClassId} {ad : Nat → Nat} {I : Nat → Int32} {A : Nat → Nat → Int32}
theorem rat_X1_59 (E : EX p s m args meth c cc nL RX1 ret) (K0 : KC D cyI ad s s.heap) (P : va_P D classes (cw cyI ad I A) H) (S : va_S (InN 44 ad) s.heap H locs) {q0 q1 a b n : Nat} {f : Nat → Int32} (he : (cw cyI ad I A)[q0]? = some (b, .inr (4, [.ref a]))) (ha : (cw cyI ad I A)[q1]? = some (a, .inl (cyI, n, .inl f))) (hn : n < 2 ^ 31) {i : Int32} (hR : RmOk R cells slots 0 2) (hls : ls.size = nL) (hro : (rest.map fun v => v.category).sum ≤ 8) (hdg : decode cc pc = .ok (.invokevirtual 59, 3)) (kk : W p l e R s m args below meth c H locs cells slots Q (F0 m (pc + 3) ls (.int (rAt n f i) :: rest))) : W p l e R s m args below meth c H locs cells slots Q (F0 m pc ls (.int i :: .ref b :: rest)) :=
  cv_ro E (c_X4_at l (fun _ _ h => h.1) P q0 q1 he ha hn i) (gV kML_X1_59 kIM_X4_at kSE_X4_at kIN_X4 kCO_X4_at) rfl ds_X4_at rfl KC_blind (fun U _ hW => (K0.at S).warm hW) (va_recv K0.k P (show classes[4]? = some (RX4, TX4, 1) from rfl) he) hR hls rfl hro hdg kk
end
section
variable {p : Program} {l : Launch} {e : Env} {s : State} {m : MethodId} {args : Array Value} {below : List Frame} {meth : Method} {c : Code} {D : va_G} {cyI : ClassId} {ad : Nat → Nat} {I : Nat → Int32} {A : Nat → Nat → Int32}
def B_X1_directionAt (I : Nat → Int32) (A : Nat → Nat → Int32) (x1 x2 : Int32) : Int32 := (rAt 144 (A 8) ((B_X6_numberOf x1 x2)))
set_option maxHeartbeats 4000000 in
set_option maxRecDepth 100000 in
theorem w_X1_directionAt (E : EX p s m args meth c cX1_directionAt 3 RX1 (some .int)) (K0 : KC D cyI ad s s.heap) (P : va_P D classes (cw cyI ad I A) s.heap)  {x1 x2 : Int32} {out : Int32} (h : B_X1_directionAt I A x1 x2 = out) {ls : Array Slot} (hl : lv_has ls 3 [(0, .ref (ad 2)), (1, .int x1), (2, .int x2)]) : W p l e (rmL 1) s m args below meth c s.heap [] 0 0 (MQ below (vp_Si (fun z => z = out)) args s 0 0 (fun _ => False)) (F0 m 0 ls []) := by
  unfold B_X1_directionAt at h
  refine lv_aload_n E.hx E.hb dX1_directionAt_0 rfl (lv_at hl 0 rfl) ?_
  refine gf_X1_14 E K0 P dX1_directionAt_1 ?_
  refine lv_iload_n E.hx E.hb dX1_directionAt_4 rfl (lv_at hl 1 rfl) ?_
  refine lv_iload_n E.hx E.hb dX1_directionAt_5 rfl (lv_at hl 2 rfl) ?_
  refine iv_X1_55 E K0 va_S.rf (by decide) hl.1 (Nat.le_of_ble_eq_true rfl) dX1_directionAt_6 ?_
  refine rat_X1_59 E K0 P va_S.rf cw_r8 cw_a8 (by decide) (by decide) hl.1 (Nat.le_of_ble_eq_true rfl) dX1_directionAt_9 ?_
  exact W.iret E.hx E.hb E.hr (fun t ht _ => ⟨_, rfl, h, ht⟩) (fun q hq => nomatch hq) dX1_directionAt_12 E.hk
theorem c_X1_directionAt (l : Launch) {H : Heap} {D : va_G} {cyI : ClassId} {ad : Nat → Nat} {I : Nat → Int32} {A : Nat → Nat → Int32} (P : va_P D classes (cw cyI ad I A) H) (x1 x2 : Int32) : MRO l yX1_directionAt cX1_directionAt 3 (some .int) 1 [.ref (ad 2), .int x1, .int x2] H (KC D cyI ad) (B_X1_directionAt I A x1 x2) := by
  refine Mof (own := RX1) (by decide +kernel) rfl rfl ?_
  intro p e s m args below meth c ls E hH K0 hl
  subst hH
  exact w_X1_directionAt E K0 P rfl hl
theorem ds_X1_directionAt : Dsc yX1_directionAt 2 := ⟨by decide +kernel, by decide +kernel, by decide +kernel⟩
end
section
variable {p : Program} {l : Launch} {e : Env} {R : Room} {s : State} {m : MethodId} {args : Array Value} {below : List Frame} {meth : Method} {c : Code} {H : Heap} {locs : List Loc} {cells slots : Nat} {Q : State → Prop} {cc : ByteArray} {nL pc : Nat} {ret : Option FieldType} {ls : Array Slot} {rest : List Value} {D : va_G} {cyI : ClassId} {ad : Nat → Nat} {I : Nat → Int32} {A : Nat → Nat → Int32}
theorem rat_X3_49 (E : EX p s m args meth c cc nL RX3 ret) (K0 : KC D cyI ad s s.heap) (P : va_P D classes (cw cyI ad I A) H) (S : va_S (InN 44 ad) s.heap H locs) {q0 q1 a b n : Nat} {f : Nat → Int32} (he : (cw cyI ad I A)[q0]? = some (b, .inr (4, [.ref a]))) (ha : (cw cyI ad I A)[q1]? = some (a, .inl (cyI, n, .inl f))) (hn : n < 2 ^ 31) {i : Int32} (hR : RmOk R cells slots 0 2) (hls : ls.size = nL) (hro : (rest.map fun v => v.category).sum ≤ 8) (hdg : decode cc pc = .ok (.invokevirtual 49, 3)) (kk : W p l e R s m args below meth c H locs cells slots Q (F0 m (pc + 3) ls (.int (rAt n f i) :: rest))) : W p l e R s m args below meth c H locs cells slots Q (F0 m pc ls (.int i :: .ref b :: rest)) :=
  cv_ro E (c_X4_at l (fun _ _ h => h.1) P q0 q1 he ha hn i) (gV kML_X3_49 kIM_X4_at kSE_X4_at kIN_X4 kCO_X4_at) rfl ds_X4_at rfl KC_blind (fun U _ hW => (K0.at S).warm hW) (va_recv K0.k P (show classes[4]? = some (RX4, TX4, 1) from rfl) he) hR hls rfl hro hdg kk
end
section
variable {p : Program} {l : Launch} {e : Env} {s : State} {m : MethodId} {args : Array Value} {below : List Frame} {meth : Method} {c : Code} {D : va_G} {cyI : ClassId} {ad : Nat → Nat} {I : Nat → Int32} {A : Nat → Nat → Int32}
def B_X3_fieldStrength (I : Nat → Int32) (A : Nat → Nat → Int32) (x1 : Int32) : Int32 := (rAt 8 (A 5) x1)
set_option maxHeartbeats 4000000 in
set_option maxRecDepth 100000 in
theorem w_X3_fieldStrength (E : EX p s m args meth c cX3_fieldStrength 2 RX3 (some .int)) (K0 : KC D cyI ad s s.heap) (P : va_P D classes (cw cyI ad I A) s.heap)  {x1 : Int32} {out : Int32} (h : B_X3_fieldStrength I A x1 = out) {ls : Array Slot} (hl : lv_has ls 2 [(0, .ref (ad 1)), (1, .int x1)]) : W p l e (rmL 1) s m args below meth c s.heap [] 0 0 (MQ below (vp_Si (fun z => z = out)) args s 0 0 (fun _ => False)) (F0 m 0 ls []) := by
  unfold B_X3_fieldStrength at h
  refine lv_aload_n E.hx E.hb dX3_fieldStrength_0 rfl (lv_at hl 0 rfl) ?_
  refine gf_X3_32 E K0 P dX3_fieldStrength_1 ?_
  refine lv_iload_n E.hx E.hb dX3_fieldStrength_4 rfl (lv_at hl 1 rfl) ?_
  refine rat_X3_49 E K0 P va_S.rf cw_r5 cw_a5 (by decide) (by decide) hl.1 (Nat.le_of_ble_eq_true rfl) dX3_fieldStrength_5 ?_
  exact W.iret E.hx E.hb E.hr (fun t ht _ => ⟨_, rfl, h, ht⟩) (fun q hq => nomatch hq) dX3_fieldStrength_8 E.hk
theorem c_X3_fieldStrength (l : Launch) {H : Heap} {D : va_G} {cyI : ClassId} {ad : Nat → Nat} {I : Nat → Int32} {A : Nat → Nat → Int32} (P : va_P D classes (cw cyI ad I A) H) (x1 : Int32) : MRO l yX3_fieldStrength cX3_fieldStrength 2 (some .int) 1 [.ref (ad 1), .int x1] H (KC D cyI ad) (B_X3_fieldStrength I A x1) := by
  refine Mof (own := RX3) (by decide +kernel) rfl rfl ?_
  intro p e s m args below meth c ls E hH K0 hl
  subst hH
  exact w_X3_fieldStrength E K0 P rfl hl
theorem ds_X3_fieldStrength : Dsc yX3_fieldStrength 1 := ⟨by decide +kernel, by decide +kernel, by decide +kernel⟩
end
section
variable {p : Program} {l : Launch} {e : Env} {s : State} {m : MethodId} {args : Array Value} {below : List Frame} {meth : Method} {c : Code} {D : va_G} {cyI : ClassId} {ad : Nat → Nat} {I : Nat → Int32} {A : Nat → Nat → Int32}
def B_X3_fieldDirection (I : Nat → Int32) (A : Nat → Nat → Int32) (x1 : Int32) : Int32 := (rAt 8 (A 4) x1)
set_option maxHeartbeats 4000000 in
set_option maxRecDepth 100000 in
theorem w_X3_fieldDirection (E : EX p s m args meth c cX3_fieldDirection 2 RX3 (some .int)) (K0 : KC D cyI ad s s.heap) (P : va_P D classes (cw cyI ad I A) s.heap)  {x1 : Int32} {out : Int32} (h : B_X3_fieldDirection I A x1 = out) {ls : Array Slot} (hl : lv_has ls 2 [(0, .ref (ad 1)), (1, .int x1)]) : W p l e (rmL 1) s m args below meth c s.heap [] 0 0 (MQ below (vp_Si (fun z => z = out)) args s 0 0 (fun _ => False)) (F0 m 0 ls []) := by
  unfold B_X3_fieldDirection at h
  refine lv_aload_n E.hx E.hb dX3_fieldDirection_0 rfl (lv_at hl 0 rfl) ?_
  refine gf_X3_29 E K0 P dX3_fieldDirection_1 ?_
  refine lv_iload_n E.hx E.hb dX3_fieldDirection_4 rfl (lv_at hl 1 rfl) ?_
  refine rat_X3_49 E K0 P va_S.rf cw_r4 cw_a4 (by decide) (by decide) hl.1 (Nat.le_of_ble_eq_true rfl) dX3_fieldDirection_5 ?_
  exact W.iret E.hx E.hb E.hr (fun t ht _ => ⟨_, rfl, h, ht⟩) (fun q hq => nomatch hq) dX3_fieldDirection_8 E.hk
theorem c_X3_fieldDirection (l : Launch) {H : Heap} {D : va_G} {cyI : ClassId} {ad : Nat → Nat} {I : Nat → Int32} {A : Nat → Nat → Int32} (P : va_P D classes (cw cyI ad I A) H) (x1 : Int32) : MRO l yX3_fieldDirection cX3_fieldDirection 2 (some .int) 1 [.ref (ad 1), .int x1] H (KC D cyI ad) (B_X3_fieldDirection I A x1) := by
  refine Mof (own := RX3) (by decide +kernel) rfl rfl ?_
  intro p e s m args below meth c ls E hH K0 hl
  subst hH
  exact w_X3_fieldDirection E K0 P rfl hl
theorem ds_X3_fieldDirection : Dsc yX3_fieldDirection 1 := ⟨by decide +kernel, by decide +kernel, by decide +kernel⟩
end
section
variable {p : Program} {l : Launch} {e : Env} {R : Room} {s : State} {m : MethodId} {args : Array Value} {below : List Frame} {meth : Method} {c : Code} {H : Heap} {locs : List Loc} {cells slots : Nat} {Q : State → Prop} {cc : ByteArray} {nL pc : Nat} {ret : Option FieldType} {ls : Array Slot} {rest : List Value} {D : va_G} {cyI : ClassId} {ad : Nat → Nat} {I : Nat → Int32} {A : Nat → Nat → Int32}
theorem iv_X1_73 (E : EX p s m args meth c cc nL RX1 ret) (K0 : KC D cyI ad s s.heap) (P : va_P D classes (cw cyI ad I A) H) (S : va_S (InN 44 ad) s.heap H locs) {a0 : Int32} (hR : RmOk R cells slots 1 2) (hls : ls.size = nL) (hro : (rest.map fun v => v.category).sum ≤ 8) (hdg : decode cc pc = .ok (.invokevirtual 73, 3)) (kk : W p l e R s m args below meth c H locs cells slots Q (F0 m (pc + 3) ls (.int (B_X3_fieldStrength I A a0) :: rest))) : W p l e R s m args below meth c H locs cells slots Q (F0 m pc ls (.int a0 :: .ref (ad 1) :: rest)) :=
  cv_ro E (c_X3_fieldStrength l P a0 ) (gV kML_X1_73 kIM_X3_fieldStrength kSE_X3_fieldStrength kIN_X3 kCO_X3_fieldStrength) rfl ds_X3_fieldStrength rfl KC_blind (fun U _ hW => (K0.at S).warm hW) (va_recv K0.k P (show classes[3]? = some (RX3, TX3, 9) from rfl) cw_g1) hR hls rfl hro hdg kk
end
section
variable {p : Program} {l : Launch} {e : Env} {R : Room} {s : State} {m : MethodId} {args : Array Value} {below : List Frame} {meth : Method} {c : Code} {H : Heap} {locs : List Loc} {cells slots : Nat} {Q : State → Prop} {cc : ByteArray} {nL pc : Nat} {ret : Option FieldType} {ls : Array Slot} {rest : List Value} {D : va_G} {cyI : ClassId} {ad : Nat → Nat} {I : Nat → Int32} {A : Nat → Nat → Int32}
theorem iv_X1_78 (E : EX p s m args meth c cc nL RX1 ret) (K0 : KC D cyI ad s s.heap) (P : va_P D classes (cw cyI ad I A) H) (S : va_S (InN 44 ad) s.heap H locs) {a0 : Int32} (hR : RmOk R cells slots 1 2) (hls : ls.size = nL) (hro : (rest.map fun v => v.category).sum ≤ 8) (hdg : decode cc pc = .ok (.invokevirtual 78, 3)) (kk : W p l e R s m args below meth c H locs cells slots Q (F0 m (pc + 3) ls (.int (B_X3_fieldDirection I A a0) :: rest))) : W p l e R s m args below meth c H locs cells slots Q (F0 m pc ls (.int a0 :: .ref (ad 1) :: rest)) :=
  cv_ro E (c_X3_fieldDirection l P a0 ) (gV kML_X1_78 kIM_X3_fieldDirection kSE_X3_fieldDirection kIN_X3 kCO_X3_fieldDirection) rfl ds_X3_fieldDirection rfl KC_blind (fun U _ hW => (K0.at S).warm hW) (va_recv K0.k P (show classes[3]? = some (RX3, TX3, 9) from rfl) cw_g1) hR hls rfl hro hdg kk
end
section
variable {p : Program} {l : Launch} {e : Env} {R : Room} {s : State} {m : MethodId} {args : Array Value} {below : List Frame} {meth : Method} {c : Code} {H : Heap} {locs : List Loc} {cells slots : Nat} {Q : State → Prop} {cc : ByteArray} {nL pc : Nat} {ret : Option FieldType} {ls : Array Slot} {rest : List Value} {D : va_G} {cyI : ClassId} {ad : Nat → Nat} {I : Nat → Int32} {A : Nat → Nat → Int32}
theorem iv_X1_70 (E : EX p s m args meth c cc nL RX1 ret) (K0 : KC D cyI ad s s.heap) (S : va_S (InN 44 ad) s.heap H locs) {a0 a1 : Int32} (hR : RmOk R cells slots 1 3) (hls : ls.size = nL) (hro : (rest.map fun v => v.category).sum ≤ 8) (hdg : decode cc pc = .ok (.invokestatic 70, 3)) (kk : W p l e R s m args below meth c H locs cells slots Q (F0 m (pc + 3) ls (.int (B_X6_squareApart a0 a1) :: rest))) : W p l e R s m args below meth c H locs cells slots Q (F0 m pc ls (.int a1 :: .int a0 :: rest)) :=
  cn_ro E (c_X6_squareApart l (H := H) (D := D) (cyI := cyI) (ad := ad) a0 a1 ) (K0.nm _ (List.mem_of_getElem? (i := 4) rfl)) kST_X6_squareApart kIN_X6 kCO_X6_squareApart ds_X6_squareApart rfl KC_blind (fun U _ hW => (K0.at S).warm hW) hR hls rfl hro hdg kk
end
section
variable {p : Program} {l : Launch} {e : Env} {s : State} {m : MethodId} {args : Array Value} {below : List Frame} {meth : Method} {c : Code} {D : va_G} {cyI : ClassId} {ad : Nat → Nat} {I : Nat → Int32} {A : Nat → Nat → Int32}
def B_X1_heldWith_J38  (I : Nat → Int32) (A : Nat → Nat → Int32) (x1 x2 x3 : Int32) : Int32 := if (rAt 144 (A 12) x1) = (-1) then x3 else (x3 + ((B_X3_fieldStrength I A ((rAt 144 (A 12) x1))) * (B_X6_squareApart ((B_X3_fieldDirection I A ((rAt 144 (A 12) x1)))) x2)))
set_option maxHeartbeats 4000000 in
set_option maxRecDepth 100000 in
theorem w_X1_heldWith_J38 (E : EX p s m args meth c cX1_heldWith 5 RX1 (some .int)) (K0 : KC D cyI ad s s.heap) (P : va_P D classes (cw cyI ad I A) s.heap) {x1 x2 x3 : Int32} {out : Int32} (h : B_X1_heldWith_J38  I A x1 x2 x3 = out) {ls : Array Slot} (hl : lv_has ls 5 [(0, .ref (ad 2)), (1, .int x1), (2, .int x2), (3, .int x3)]) : W p l e (rmL 2) s m args below meth c s.heap [] 0 0 (MQ below (vp_Si (fun z => z = out)) args s 0 0 (fun _ => False)) (F0 m 38 ls []) := by
  unfold B_X1_heldWith_J38 at h
  refine lv_aload_n E.hx E.hb dX1_heldWith_38 rfl (lv_at hl 0 rfl) ?_
  refine gf_X1_29 E K0 P dX1_heldWith_39 ?_
  refine lv_iload_n E.hx E.hb dX1_heldWith_42 rfl (lv_at hl 1 rfl) ?_
  refine rat_X1_59 E K0 P va_S.rf cw_r12 cw_a12 (by decide) (by decide) hl.1 (Nat.le_of_ble_eq_true rfl) dX1_heldWith_43 ?_
  refine lv_istore (lv' := [(4, .int (rAt 144 (A 12) x1)), (0, .ref (ad 2)), (1, .int x1), (2, .int x2), (3, .int x3)]) E.hx E.hb dX1_heldWith_46 hl (by decide) rfl (fun ls hl => ?_)
  refine lv_iload E.hx E.hb dX1_heldWith_48 (lv_at hl 0 rfl) ?_
  refine lv_iconst (v := (-1)) E.hx E.hb dX1_heldWith_50 (by decide) ?_
  refine lv_icmp_eq (tgt := 80) E.hx E.hb dX1_heldWith_51 (by decide) (fun c_2 => ?_) (fun c_2 => ?_)
  · rw [if_pos c_2] at h
    refine lv_iload_n E.hx E.hb dX1_heldWith_80 rfl (lv_at hl 4 rfl) ?_
    exact W.iret E.hx E.hb E.hr (fun t ht _ => ⟨_, rfl, h, ht⟩) (fun q hq => nomatch hq) dX1_heldWith_81 E.hk
  · rw [if_neg c_2] at h
    refine lv_iload_n E.hx E.hb dX1_heldWith_54 rfl (lv_at hl 4 rfl) ?_
    refine lv_aload_n E.hx E.hb dX1_heldWith_55 rfl (lv_at hl 1 rfl) ?_
    refine gf_X1_45 E K0 P dX1_heldWith_56 ?_
    refine lv_iload E.hx E.hb dX1_heldWith_59 (lv_at hl 0 rfl) ?_
    refine iv_X1_73 E K0 P va_S.rf (by decide) hl.1 (Nat.le_of_ble_eq_true rfl) dX1_heldWith_61 ?_
    refine lv_aload_n E.hx E.hb dX1_heldWith_64 rfl (lv_at hl 1 rfl) ?_
    refine gf_X1_45 E K0 P dX1_heldWith_65 ?_
    refine lv_iload E.hx E.hb dX1_heldWith_68 (lv_at hl 0 rfl) ?_
    refine iv_X1_78 E K0 P va_S.rf (by decide) hl.1 (Nat.le_of_ble_eq_true rfl) dX1_heldWith_70 ?_
    refine lv_iload_n E.hx E.hb dX1_heldWith_73 rfl (lv_at hl 3 rfl) ?_
    refine iv_X1_70 E K0 va_S.rf (by decide) hl.1 (Nat.le_of_ble_eq_true rfl) dX1_heldWith_74 ?_
    refine lv_imul E.hx E.hb dX1_heldWith_77 ?_
    refine lv_iadd E.hx E.hb dX1_heldWith_78 ?_
    refine lv_istore_n (lv' := [(3, .int (x3 + ((B_X3_fieldStrength I A ((rAt 144 (A 12) x1))) * (B_X6_squareApart ((B_X3_fieldDirection I A ((rAt 144 (A 12) x1)))) x2)))), (4, .int (rAt 144 (A 12) x1)), (0, .ref (ad 2)), (1, .int x1), (2, .int x2)]) E.hx E.hb dX1_heldWith_79 rfl hl (by decide) rfl (fun ls hl => ?_)
    refine lv_iload_n E.hx E.hb dX1_heldWith_80 rfl (lv_at hl 0 rfl) ?_
    exact W.iret E.hx E.hb E.hr (fun t ht _ => ⟨_, rfl, h, ht⟩) (fun q hq => nomatch hq) dX1_heldWith_81 E.hk
def B_X1_heldWith (I : Nat → Int32) (A : Nat → Nat → Int32) (x1 x2 : Int32) : Int32 := if (rAt 144 (A 9) x1) = 2 then B_X1_heldWith_J38  I A x1 x2 ((0 + ((rAt 144 (A 11) x1) * (B_X6_squareApart ((rAt 144 (A 10) x1)) x2)))) else B_X1_heldWith_J38  I A x1 x2 0
set_option maxHeartbeats 4000000 in
set_option maxRecDepth 100000 in
theorem w_X1_heldWith (E : EX p s m args meth c cX1_heldWith 5 RX1 (some .int)) (K0 : KC D cyI ad s s.heap) (P : va_P D classes (cw cyI ad I A) s.heap)  {x1 x2 : Int32} {out : Int32} (h : B_X1_heldWith I A x1 x2 = out) {ls : Array Slot} (hl : lv_has ls 5 [(0, .ref (ad 2)), (1, .int x1), (2, .int x2)]) : W p l e (rmL 2) s m args below meth c s.heap [] 0 0 (MQ below (vp_Si (fun z => z = out)) args s 0 0 (fun _ => False)) (F0 m 0 ls []) := by
  unfold B_X1_heldWith at h
  refine lv_iconst (v := 0) E.hx E.hb dX1_heldWith_0 (by decide) ?_
  refine lv_istore_n (lv' := [(3, .int 0), (0, .ref (ad 2)), (1, .int x1), (2, .int x2)]) E.hx E.hb dX1_heldWith_1 rfl hl (by decide) rfl (fun ls hl => ?_)
  refine lv_aload_n E.hx E.hb dX1_heldWith_2 rfl (lv_at hl 1 rfl) ?_
  refine gf_X1_20 E K0 P dX1_heldWith_3 ?_
  refine lv_iload_n E.hx E.hb dX1_heldWith_6 rfl (lv_at hl 2 rfl) ?_
  refine rat_X1_59 E K0 P va_S.rf cw_r9 cw_a9 (by decide) (by decide) hl.1 (Nat.le_of_ble_eq_true rfl) dX1_heldWith_7 ?_
  refine lv_iconst (v := 2) E.hx E.hb dX1_heldWith_10 (by decide) ?_
  refine lv_icmp_ne (tgt := 38) E.hx E.hb dX1_heldWith_11 (by decide) (fun c_1 => ?_) (fun c_1 => ?_)
  · rw [if_neg c_1] at h
    exact w_X1_heldWith_J38 E K0 P h (lv_sub hl [1, 2, 3, 0] rfl)
  · rw [if_pos c_1] at h
    refine lv_iload_n E.hx E.hb dX1_heldWith_14 rfl (lv_at hl 0 rfl) ?_
    refine lv_aload_n E.hx E.hb dX1_heldWith_15 rfl (lv_at hl 1 rfl) ?_
    refine gf_X1_26 E K0 P dX1_heldWith_16 ?_
    refine lv_iload_n E.hx E.hb dX1_heldWith_19 rfl (lv_at hl 2 rfl) ?_
    refine rat_X1_59 E K0 P va_S.rf cw_r11 cw_a11 (by decide) (by decide) hl.1 (Nat.le_of_ble_eq_true rfl) dX1_heldWith_20 ?_
    refine lv_aload_n E.hx E.hb dX1_heldWith_23 rfl (lv_at hl 1 rfl) ?_
    refine gf_X1_23 E K0 P dX1_heldWith_24 ?_
    refine lv_iload_n E.hx E.hb dX1_heldWith_27 rfl (lv_at hl 2 rfl) ?_
    refine rat_X1_59 E K0 P va_S.rf cw_r10 cw_a10 (by decide) (by decide) hl.1 (Nat.le_of_ble_eq_true rfl) dX1_heldWith_28 ?_
    refine lv_iload_n E.hx E.hb dX1_heldWith_31 rfl (lv_at hl 3 rfl) ?_
    refine iv_X1_70 E K0 va_S.rf (by decide) hl.1 (Nat.le_of_ble_eq_true rfl) dX1_heldWith_32 ?_
    refine lv_imul E.hx E.hb dX1_heldWith_35 ?_
    refine lv_iadd E.hx E.hb dX1_heldWith_36 ?_
    refine lv_istore_n (lv' := [(3, .int (0 + ((rAt 144 (A 11) x1) * (B_X6_squareApart ((rAt 144 (A 10) x1)) x2)))), (0, .ref (ad 2)), (1, .int x1), (2, .int x2)]) E.hx E.hb dX1_heldWith_37 rfl hl (by decide) rfl (fun ls hl => ?_)
    exact w_X1_heldWith_J38 E K0 P h (lv_sub hl [1, 2, 3, 0] rfl)
theorem c_X1_heldWith (l : Launch) {H : Heap} {D : va_G} {cyI : ClassId} {ad : Nat → Nat} {I : Nat → Int32} {A : Nat → Nat → Int32} (P : va_P D classes (cw cyI ad I A) H) (x1 x2 : Int32) : MRO l yX1_heldWith cX1_heldWith 5 (some .int) 2 [.ref (ad 2), .int x1, .int x2] H (KC D cyI ad) (B_X1_heldWith I A x1 x2) := by
  refine Mof (own := RX1) (by decide +kernel) rfl rfl ?_
  intro p e s m args below meth c ls E hH K0 hl
  subst hH
  exact w_X1_heldWith E K0 P rfl hl
theorem ds_X1_heldWith : Dsc yX1_heldWith 2 := ⟨by decide +kernel, by decide +kernel, by decide +kernel⟩
end
section
variable {p : Program} {l : Launch} {e : Env} {R : Room} {s : State} {m : MethodId} {args : Array Value} {below : List Frame} {meth : Method} {c : Code} {H : Heap} {locs : List Loc} {cells slots : Nat} {Q : State → Prop} {cc : ByteArray} {nL pc : Nat} {ret : Option FieldType} {ls : Array Slot} {rest : List Value} {D : va_G} {cyI : ClassId} {ad : Nat → Nat} {I : Nat → Int32} {A : Nat → Nat → Int32}
theorem iv_X1_81 (E : EX p s m args meth c cc nL RX1 ret) (K0 : KC D cyI ad s s.heap) (P : va_P D classes (cw cyI ad I A) H) (S : va_S (InN 44 ad) s.heap H locs) {a0 a1 : Int32} (hR : RmOk R cells slots 2 5) (hls : ls.size = nL) (hro : (rest.map fun v => v.category).sum ≤ 8) (hdg : decode cc pc = .ok (.invokevirtual 81, 3)) (kk : W p l e R s m args below meth c H locs cells slots Q (F0 m (pc + 3) ls (.int (B_X1_heldWith I A a0 a1) :: rest))) : W p l e R s m args below meth c H locs cells slots Q (F0 m pc ls (.int a1 :: .int a0 :: .ref (ad 2) :: rest)) :=
  cv_ro E (c_X1_heldWith l P a0 a1 ) (gV kML_X1_81 kIM_X1_heldWith kSE_X1_heldWith kIN_X1 kCO_X1_heldWith) rfl ds_X1_heldWith rfl KC_blind (fun U _ hW => (K0.at S).warm hW) (va_recv K0.k P (show classes[1]? = some (RX1, TX1, 11) from rfl) cw_g2) hR hls rfl hro hdg kk
end
section
variable {p : Program} {l : Launch} {e : Env} {R : Room} {s : State} {m : MethodId} {args : Array Value} {below : List Frame} {meth : Method} {c : Code} {H : Heap} {locs : List Loc} {cells slots : Nat} {Q : State → Prop} {cc : ByteArray} {nL pc : Nat} {ret : Option FieldType} {ls : Array Slot} {rest : List Value} {D : va_G} {cyI : ClassId} {ad : Nat → Nat} {I : Nat → Int32} {A : Nat → Nat → Int32}
theorem iv_X1_84 (E : EX p s m args meth c cc nL RX1 ret) (K0 : KC D cyI ad s s.heap) (P : va_P D classes (cw cyI ad I A) H) (S : va_S (InN 44 ad) s.heap H locs) {a0 a1 : Int32} (hR : RmOk R cells slots 0 3) (hls : ls.size = nL) (hro : (rest.map fun v => v.category).sum ≤ 8) (hdg : decode cc pc = .ok (.invokevirtual 84, 3)) (kk : W p l e R s m args below meth c H locs cells slots Q (F0 m (pc + 3) ls (.int (B_X1_has I A a0 a1) :: rest))) : W p l e R s m args below meth c H locs cells slots Q (F0 m pc ls (.int a1 :: .int a0 :: .ref (ad 2) :: rest)) :=
  cv_ro E (c_X1_has l P a0 a1 ) (gV kML_X1_84 kIM_X1_has kSE_X1_has kIN_X1 kCO_X1_has) rfl ds_X1_has rfl KC_blind (fun U _ hW => (K0.at S).warm hW) (va_recv K0.k P (show classes[1]? = some (RX1, TX1, 11) from rfl) cw_g2) hR hls rfl hro hdg kk
end
section
variable {p : Program} {l : Launch} {e : Env} {R : Room} {s : State} {m : MethodId} {args : Array Value} {below : List Frame} {meth : Method} {c : Code} {H : Heap} {locs : List Loc} {cells slots : Nat} {Q : State → Prop} {cc : ByteArray} {nL pc : Nat} {ret : Option FieldType} {ls : Array Slot} {rest : List Value} {D : va_G} {cyI : ClassId} {ad : Nat → Nat} {I : Nat → Int32} {A : Nat → Nat → Int32}
theorem iv_X1_88 (E : EX p s m args meth c cc nL RX1 ret) (K0 : KC D cyI ad s s.heap) (P : va_P D classes (cw cyI ad I A) H) (S : va_S (InN 44 ad) s.heap H locs) {a0 a1 : Int32} (hR : RmOk R cells slots 1 3) (hls : ls.size = nL) (hro : (rest.map fun v => v.category).sum ≤ 8) (hdg : decode cc pc = .ok (.invokevirtual 88, 3)) (kk : W p l e R s m args below meth c H locs cells slots Q (F0 m (pc + 3) ls (.int (B_X1_directionAt I A a0 a1) :: rest))) : W p l e R s m args below meth c H locs cells slots Q (F0 m pc ls (.int a1 :: .int a0 :: .ref (ad 2) :: rest)) :=
  cv_ro E (c_X1_directionAt l P a0 a1 ) (gV kML_X1_88 kIM_X1_directionAt kSE_X1_directionAt kIN_X1 kCO_X1_directionAt) rfl ds_X1_directionAt rfl KC_blind (fun U _ hW => (K0.at S).warm hW) (va_recv K0.k P (show classes[1]? = some (RX1, TX1, 11) from rfl) cw_g2) hR hls rfl hro hdg kk
end
section
variable {p : Program} {l : Launch} {e : Env} {s : State} {m : MethodId} {args : Array Value} {below : List Frame} {meth : Method} {c : Code} {D : va_G} {cyI : ClassId} {ad : Nat → Nat} {I : Nat → Int32} {A : Nat → Nat → Int32}
def B_X1_energyWith_J111  (I : Nat → Int32) (A : Nat → Nat → Int32) (x1 x2 x3 x4 : Int32) : Int32 := if (B_X1_has I A x1 ((x2 + 1))) = 0 then x4 else (x4 + ((I 8) * (B_X6_squareApart ((B_X1_directionAt I A x1 ((x2 + 1)))) x3)))
set_option maxHeartbeats 4000000 in
set_option maxRecDepth 100000 in
theorem w_X1_energyWith_J111 (E : EX p s m args meth c cX1_energyWith 5 RX1 (some .int)) (K0 : KC D cyI ad s s.heap) (P : va_P D classes (cw cyI ad I A) s.heap) {x1 x2 x3 x4 : Int32} {out : Int32} (h : B_X1_energyWith_J111  I A x1 x2 x3 x4 = out) {ls : Array Slot} (hl : lv_has ls 5 [(0, .ref (ad 2)), (1, .int x1), (2, .int x2), (3, .int x3), (4, .int x4)]) : W p l e (rmL 3) s m args below meth c s.heap [] 0 0 (MQ below (vp_Si (fun z => z = out)) args s 0 0 (fun _ => False)) (F0 m 111 ls []) := by
  unfold B_X1_energyWith_J111 at h
  refine lv_aload_n E.hx E.hb dX1_energyWith_111 rfl (lv_at hl 0 rfl) ?_
  refine lv_iload_n E.hx E.hb dX1_energyWith_112 rfl (lv_at hl 1 rfl) ?_
  refine lv_iload_n E.hx E.hb dX1_energyWith_113 rfl (lv_at hl 2 rfl) ?_
  refine lv_iconst (v := 1) E.hx E.hb dX1_energyWith_114 (by decide) ?_
  refine lv_iadd E.hx E.hb dX1_energyWith_115 ?_
  refine iv_X1_84 E K0 P va_S.rf (by decide) hl.1 (Nat.le_of_ble_eq_true rfl) dX1_energyWith_116 ?_
  refine lv_if_eq (tgt := 144) E.hx E.hb dX1_energyWith_119 (by decide) (fun c_4 => ?_) (fun c_4 => ?_)
  · rw [if_pos c_4] at h
    refine lv_iload E.hx E.hb dX1_energyWith_144 (lv_at hl 4 rfl) ?_
    exact W.iret E.hx E.hb E.hr (fun t ht _ => ⟨_, rfl, h, ht⟩) (fun q hq => nomatch hq) dX1_energyWith_146 E.hk
  · rw [if_neg c_4] at h
    refine lv_iload E.hx E.hb dX1_energyWith_122 (lv_at hl 4 rfl) ?_
    refine lv_aload_n E.hx E.hb dX1_energyWith_124 rfl (lv_at hl 0 rfl) ?_
    refine gf_X1_42 E K0 P dX1_energyWith_125 ?_
    refine lv_aload_n E.hx E.hb dX1_energyWith_128 rfl (lv_at hl 0 rfl) ?_
    refine lv_iload_n E.hx E.hb dX1_energyWith_129 rfl (lv_at hl 1 rfl) ?_
    refine lv_iload_n E.hx E.hb dX1_energyWith_130 rfl (lv_at hl 2 rfl) ?_
    refine lv_iconst (v := 1) E.hx E.hb dX1_energyWith_131 (by decide) ?_
    refine lv_iadd E.hx E.hb dX1_energyWith_132 ?_
    refine iv_X1_88 E K0 P va_S.rf (by decide) hl.1 (Nat.le_of_ble_eq_true rfl) dX1_energyWith_133 ?_
    refine lv_iload_n E.hx E.hb dX1_energyWith_136 rfl (lv_at hl 3 rfl) ?_
    refine iv_X1_70 E K0 va_S.rf (by decide) hl.1 (Nat.le_of_ble_eq_true rfl) dX1_energyWith_137 ?_
    refine lv_imul E.hx E.hb dX1_energyWith_140 ?_
    refine lv_iadd E.hx E.hb dX1_energyWith_141 ?_
    refine lv_istore (lv' := [(4, .int (x4 + ((I 8) * (B_X6_squareApart ((B_X1_directionAt I A x1 ((x2 + 1)))) x3)))), (0, .ref (ad 2)), (1, .int x1), (2, .int x2), (3, .int x3)]) E.hx E.hb dX1_energyWith_142 hl (by decide) rfl (fun ls hl => ?_)
    refine lv_iload E.hx E.hb dX1_energyWith_144 (lv_at hl 0 rfl) ?_
    exact W.iret E.hx E.hb E.hr (fun t ht _ => ⟨_, rfl, h, ht⟩) (fun q hq => nomatch hq) dX1_energyWith_146 E.hk
def B_X1_energyWith_J78  (I : Nat → Int32) (A : Nat → Nat → Int32) (x1 x2 x3 x4 : Int32) : Int32 := if (B_X1_has I A x1 ((x2 - 1))) = 0 then B_X1_energyWith_J111  I A x1 x2 x3 x4 else B_X1_energyWith_J111  I A x1 x2 x3 ((x4 + ((I 8) * (B_X6_squareApart ((B_X1_directionAt I A x1 ((x2 - 1)))) x3))))
set_option maxHeartbeats 4000000 in
set_option maxRecDepth 100000 in
theorem w_X1_energyWith_J78 (E : EX p s m args meth c cX1_energyWith 5 RX1 (some .int)) (K0 : KC D cyI ad s s.heap) (P : va_P D classes (cw cyI ad I A) s.heap) {x1 x2 x3 x4 : Int32} {out : Int32} (h : B_X1_energyWith_J78  I A x1 x2 x3 x4 = out) {ls : Array Slot} (hl : lv_has ls 5 [(0, .ref (ad 2)), (1, .int x1), (2, .int x2), (3, .int x3), (4, .int x4)]) : W p l e (rmL 3) s m args below meth c s.heap [] 0 0 (MQ below (vp_Si (fun z => z = out)) args s 0 0 (fun _ => False)) (F0 m 78 ls []) := by
  unfold B_X1_energyWith_J78 at h
  refine lv_aload_n E.hx E.hb dX1_energyWith_78 rfl (lv_at hl 0 rfl) ?_
  refine lv_iload_n E.hx E.hb dX1_energyWith_79 rfl (lv_at hl 1 rfl) ?_
  refine lv_iload_n E.hx E.hb dX1_energyWith_80 rfl (lv_at hl 2 rfl) ?_
  refine lv_iconst (v := 1) E.hx E.hb dX1_energyWith_81 (by decide) ?_
  refine lv_isub E.hx E.hb dX1_energyWith_82 ?_
  refine iv_X1_84 E K0 P va_S.rf (by decide) hl.1 (Nat.le_of_ble_eq_true rfl) dX1_energyWith_83 ?_
  refine lv_if_eq (tgt := 111) E.hx E.hb dX1_energyWith_86 (by decide) (fun c_3 => ?_) (fun c_3 => ?_)
  · rw [if_pos c_3] at h
    exact w_X1_energyWith_J111 E K0 P h (lv_sub hl [0, 1, 2, 3, 4] rfl)
  · rw [if_neg c_3] at h
    refine lv_iload E.hx E.hb dX1_energyWith_89 (lv_at hl 4 rfl) ?_
    refine lv_aload_n E.hx E.hb dX1_energyWith_91 rfl (lv_at hl 0 rfl) ?_
    refine gf_X1_42 E K0 P dX1_energyWith_92 ?_
    refine lv_aload_n E.hx E.hb dX1_energyWith_95 rfl (lv_at hl 0 rfl) ?_
    refine lv_iload_n E.hx E.hb dX1_energyWith_96 rfl (lv_at hl 1 rfl) ?_
    refine lv_iload_n E.hx E.hb dX1_energyWith_97 rfl (lv_at hl 2 rfl) ?_
    refine lv_iconst (v := 1) E.hx E.hb dX1_energyWith_98 (by decide) ?_
    refine lv_isub E.hx E.hb dX1_energyWith_99 ?_
    refine iv_X1_88 E K0 P va_S.rf (by decide) hl.1 (Nat.le_of_ble_eq_true rfl) dX1_energyWith_100 ?_
    refine lv_iload_n E.hx E.hb dX1_energyWith_103 rfl (lv_at hl 3 rfl) ?_
    refine iv_X1_70 E K0 va_S.rf (by decide) hl.1 (Nat.le_of_ble_eq_true rfl) dX1_energyWith_104 ?_
    refine lv_imul E.hx E.hb dX1_energyWith_107 ?_
    refine lv_iadd E.hx E.hb dX1_energyWith_108 ?_
    refine lv_istore (lv' := [(4, .int (x4 + ((I 8) * (B_X6_squareApart ((B_X1_directionAt I A x1 ((x2 - 1)))) x3)))), (0, .ref (ad 2)), (1, .int x1), (2, .int x2), (3, .int x3)]) E.hx E.hb dX1_energyWith_109 hl (by decide) rfl (fun ls hl => ?_)
    exact w_X1_energyWith_J111 E K0 P h (lv_sub hl [1, 2, 3, 4, 0] rfl)
def B_X1_energyWith_J45  (I : Nat → Int32) (A : Nat → Nat → Int32) (x1 x2 x3 x4 : Int32) : Int32 := if (B_X1_has I A ((x1 + 1)) x2) = 0 then B_X1_energyWith_J78  I A x1 x2 x3 x4 else B_X1_energyWith_J78  I A x1 x2 x3 ((x4 + ((I 7) * (B_X6_squareApart ((B_X1_directionAt I A ((x1 + 1)) x2)) x3))))
set_option maxHeartbeats 4000000 in
set_option maxRecDepth 100000 in
theorem w_X1_energyWith_J45 (E : EX p s m args meth c cX1_energyWith 5 RX1 (some .int)) (K0 : KC D cyI ad s s.heap) (P : va_P D classes (cw cyI ad I A) s.heap) {x1 x2 x3 x4 : Int32} {out : Int32} (h : B_X1_energyWith_J45  I A x1 x2 x3 x4 = out) {ls : Array Slot} (hl : lv_has ls 5 [(0, .ref (ad 2)), (1, .int x1), (2, .int x2), (3, .int x3), (4, .int x4)]) : W p l e (rmL 3) s m args below meth c s.heap [] 0 0 (MQ below (vp_Si (fun z => z = out)) args s 0 0 (fun _ => False)) (F0 m 45 ls []) := by
  unfold B_X1_energyWith_J45 at h
  refine lv_aload_n E.hx E.hb dX1_energyWith_45 rfl (lv_at hl 0 rfl) ?_
  refine lv_iload_n E.hx E.hb dX1_energyWith_46 rfl (lv_at hl 1 rfl) ?_
  refine lv_iconst (v := 1) E.hx E.hb dX1_energyWith_47 (by decide) ?_
  refine lv_iadd E.hx E.hb dX1_energyWith_48 ?_
  refine lv_iload_n E.hx E.hb dX1_energyWith_49 rfl (lv_at hl 2 rfl) ?_
  refine iv_X1_84 E K0 P va_S.rf (by decide) hl.1 (Nat.le_of_ble_eq_true rfl) dX1_energyWith_50 ?_
  refine lv_if_eq (tgt := 78) E.hx E.hb dX1_energyWith_53 (by decide) (fun c_2 => ?_) (fun c_2 => ?_)
  · rw [if_pos c_2] at h
    exact w_X1_energyWith_J78 E K0 P h (lv_sub hl [0, 1, 2, 3, 4] rfl)
  · rw [if_neg c_2] at h
    refine lv_iload E.hx E.hb dX1_energyWith_56 (lv_at hl 4 rfl) ?_
    refine lv_aload_n E.hx E.hb dX1_energyWith_58 rfl (lv_at hl 0 rfl) ?_
    refine gf_X1_39 E K0 P dX1_energyWith_59 ?_
    refine lv_aload_n E.hx E.hb dX1_energyWith_62 rfl (lv_at hl 0 rfl) ?_
    refine lv_iload_n E.hx E.hb dX1_energyWith_63 rfl (lv_at hl 1 rfl) ?_
    refine lv_iconst (v := 1) E.hx E.hb dX1_energyWith_64 (by decide) ?_
    refine lv_iadd E.hx E.hb dX1_energyWith_65 ?_
    refine lv_iload_n E.hx E.hb dX1_energyWith_66 rfl (lv_at hl 2 rfl) ?_
    refine iv_X1_88 E K0 P va_S.rf (by decide) hl.1 (Nat.le_of_ble_eq_true rfl) dX1_energyWith_67 ?_
    refine lv_iload_n E.hx E.hb dX1_energyWith_70 rfl (lv_at hl 3 rfl) ?_
    refine iv_X1_70 E K0 va_S.rf (by decide) hl.1 (Nat.le_of_ble_eq_true rfl) dX1_energyWith_71 ?_
    refine lv_imul E.hx E.hb dX1_energyWith_74 ?_
    refine lv_iadd E.hx E.hb dX1_energyWith_75 ?_
    refine lv_istore (lv' := [(4, .int (x4 + ((I 7) * (B_X6_squareApart ((B_X1_directionAt I A ((x1 + 1)) x2)) x3)))), (0, .ref (ad 2)), (1, .int x1), (2, .int x2), (3, .int x3)]) E.hx E.hb dX1_energyWith_76 hl (by decide) rfl (fun ls hl => ?_)
    exact w_X1_energyWith_J78 E K0 P h (lv_sub hl [1, 2, 3, 4, 0] rfl)
def B_X1_energyWith (I : Nat → Int32) (A : Nat → Nat → Int32) (x1 x2 x3 : Int32) : Int32 := if (B_X1_has I A ((x1 - 1)) x2) = 0 then B_X1_energyWith_J45  I A x1 x2 x3 ((B_X1_heldWith I A ((B_X6_numberOf x1 x2)) x3)) else B_X1_energyWith_J45  I A x1 x2 x3 (((B_X1_heldWith I A ((B_X6_numberOf x1 x2)) x3) + ((I 7) * (B_X6_squareApart ((B_X1_directionAt I A ((x1 - 1)) x2)) x3))))
set_option maxHeartbeats 4000000 in
set_option maxRecDepth 100000 in
theorem w_X1_energyWith (E : EX p s m args meth c cX1_energyWith 5 RX1 (some .int)) (K0 : KC D cyI ad s s.heap) (P : va_P D classes (cw cyI ad I A) s.heap)  {x1 x2 x3 : Int32} {out : Int32} (h : B_X1_energyWith I A x1 x2 x3 = out) {ls : Array Slot} (hl : lv_has ls 5 [(0, .ref (ad 2)), (1, .int x1), (2, .int x2), (3, .int x3)]) : W p l e (rmL 3) s m args below meth c s.heap [] 0 0 (MQ below (vp_Si (fun z => z = out)) args s 0 0 (fun _ => False)) (F0 m 0 ls []) := by
  unfold B_X1_energyWith at h
  refine lv_aload_n E.hx E.hb dX1_energyWith_0 rfl (lv_at hl 0 rfl) ?_
  refine lv_iload_n E.hx E.hb dX1_energyWith_1 rfl (lv_at hl 1 rfl) ?_
  refine lv_iload_n E.hx E.hb dX1_energyWith_2 rfl (lv_at hl 2 rfl) ?_
  refine iv_X1_55 E K0 va_S.rf (by decide) hl.1 (Nat.le_of_ble_eq_true rfl) dX1_energyWith_3 ?_
  refine lv_iload_n E.hx E.hb dX1_energyWith_6 rfl (lv_at hl 3 rfl) ?_
  refine iv_X1_81 E K0 P va_S.rf (by decide) hl.1 (Nat.le_of_ble_eq_true rfl) dX1_energyWith_7 ?_
  refine lv_istore (lv' := [(4, .int (B_X1_heldWith I A ((B_X6_numberOf x1 x2)) x3)), (0, .ref (ad 2)), (1, .int x1), (2, .int x2), (3, .int x3)]) E.hx E.hb dX1_energyWith_10 hl (by decide) rfl (fun ls hl => ?_)
  refine lv_aload_n E.hx E.hb dX1_energyWith_12 rfl (lv_at hl 1 rfl) ?_
  refine lv_iload_n E.hx E.hb dX1_energyWith_13 rfl (lv_at hl 2 rfl) ?_
  refine lv_iconst (v := 1) E.hx E.hb dX1_energyWith_14 (by decide) ?_
  refine lv_isub E.hx E.hb dX1_energyWith_15 ?_
  refine lv_iload_n E.hx E.hb dX1_energyWith_16 rfl (lv_at hl 3 rfl) ?_
  refine iv_X1_84 E K0 P va_S.rf (by decide) hl.1 (Nat.le_of_ble_eq_true rfl) dX1_energyWith_17 ?_
  refine lv_if_eq (tgt := 45) E.hx E.hb dX1_energyWith_20 (by decide) (fun c_1 => ?_) (fun c_1 => ?_)
  · rw [if_pos c_1] at h
    exact w_X1_energyWith_J45 E K0 P h (lv_sub hl [1, 2, 3, 4, 0] rfl)
  · rw [if_neg c_1] at h
    refine lv_iload E.hx E.hb dX1_energyWith_23 (lv_at hl 0 rfl) ?_
    refine lv_aload_n E.hx E.hb dX1_energyWith_25 rfl (lv_at hl 1 rfl) ?_
    refine gf_X1_39 E K0 P dX1_energyWith_26 ?_
    refine lv_aload_n E.hx E.hb dX1_energyWith_29 rfl (lv_at hl 1 rfl) ?_
    refine lv_iload_n E.hx E.hb dX1_energyWith_30 rfl (lv_at hl 2 rfl) ?_
    refine lv_iconst (v := 1) E.hx E.hb dX1_energyWith_31 (by decide) ?_
    refine lv_isub E.hx E.hb dX1_energyWith_32 ?_
    refine lv_iload_n E.hx E.hb dX1_energyWith_33 rfl (lv_at hl 3 rfl) ?_
    refine iv_X1_88 E K0 P va_S.rf (by decide) hl.1 (Nat.le_of_ble_eq_true rfl) dX1_energyWith_34 ?_
    refine lv_iload_n E.hx E.hb dX1_energyWith_37 rfl (lv_at hl 4 rfl) ?_
    refine iv_X1_70 E K0 va_S.rf (by decide) hl.1 (Nat.le_of_ble_eq_true rfl) dX1_energyWith_38 ?_
    refine lv_imul E.hx E.hb dX1_energyWith_41 ?_
    refine lv_iadd E.hx E.hb dX1_energyWith_42 ?_
    refine lv_istore (lv' := [(4, .int ((B_X1_heldWith I A ((B_X6_numberOf x1 x2)) x3) + ((I 7) * (B_X6_squareApart ((B_X1_directionAt I A ((x1 - 1)) x2)) x3)))), (0, .ref (ad 2)), (1, .int x1), (2, .int x2), (3, .int x3)]) E.hx E.hb dX1_energyWith_43 hl (by decide) rfl (fun ls hl => ?_)
    exact w_X1_energyWith_J45 E K0 P h (lv_sub hl [1, 2, 3, 4, 0] rfl)
theorem c_X1_energyWith (l : Launch) {H : Heap} {D : va_G} {cyI : ClassId} {ad : Nat → Nat} {I : Nat → Int32} {A : Nat → Nat → Int32} (P : va_P D classes (cw cyI ad I A) H) (x1 x2 x3 : Int32) : MRO l yX1_energyWith cX1_energyWith 5 (some .int) 3 [.ref (ad 2), .int x1, .int x2, .int x3] H (KC D cyI ad) (B_X1_energyWith I A x1 x2 x3) := by
  refine Mof (own := RX1) (by decide +kernel) rfl rfl ?_
  intro p e s m args below meth c ls E hH K0 hl
  subst hH
  exact w_X1_energyWith E K0 P rfl hl
theorem ds_X1_energyWith : Dsc yX1_energyWith 3 := ⟨by decide +kernel, by decide +kernel, by decide +kernel⟩
end
section
variable {p : Program} {l : Launch} {e : Env} {s : State} {m : MethodId} {args : Array Value} {below : List Frame} {meth : Method} {c : Code} {D : va_G} {cyI : ClassId} {ad : Nat → Nat} {I : Nat → Int32} {A : Nat → Nat → Int32}
def B_X1_sum_J76 (k : Int32 → Int32 → Option (Int32)) (I : Nat → Int32) (A : Nat → Nat → Int32) (x1 x2 x3 x4 : Int32) : Option (Int32) := if (B_X1_has I A x3 ((x2 + 1))) = 0 then k x1 (x3 + 1) else k ((x1 + ((I 8) * (B_X6_squareApart x4 ((B_X1_directionAt I A x3 ((x2 + 1)))))))) (x3 + 1)
set_option maxHeartbeats 4000000 in
set_option maxRecDepth 100000 in
theorem w_X1_sum_J76 (E : EX p s m args meth c cX1_sum 5 RX1 (some .int)) (K0 : KC D cyI ad s s.heap) {k : Int32 → Int32 → Option (Int32)} {o : Int32} {out : Int32} (hk : ∀ {x1 x3 : Int32} (_ : k x1 x3 = some o) {ls : Array Slot}, lv_has ls 5 [(0, .ref (ad 2)), (1, .int x1), (2, .int x2), (3, .int x3)] → W p l e (rmL 3) s m args below meth c s.heap [] 0 0 (MQ below (vp_Si (fun z => z = out)) args s 0 0 (fun _ => False)) (F0 m 14 ls [])) (kx : ∀ {ls : Array Slot}, lv_has ls 5 [(0, .ref (ad 2)), (1, .int o), (2, .int x2)] → W p l e (rmL 3) s m args below meth c s.heap [] 0 0 (MQ below (vp_Si (fun z => z = out)) args s 0 0 (fun _ => False)) (F0 m 114 ls [])) (P : va_P D classes (cw cyI ad I A) s.heap) {x1 x2 x3 x4 : Int32} (h : B_X1_sum_J76 k I A x1 x2 x3 x4 = some o) {ls : Array Slot} (hl : lv_has ls 5 [(0, .ref (ad 2)), (1, .int x1), (2, .int x2), (3, .int x3), (4, .int x4)]) : W p l e (rmL 3) s m args below meth c s.heap [] 0 0 (MQ below (vp_Si (fun z => z = out)) args s 0 0 (fun _ => False)) (F0 m 76 ls []) := by
  unfold B_X1_sum_J76 at h
  refine lv_aload_n E.hx E.hb dX1_sum_76 rfl (lv_at hl 0 rfl) ?_
  refine lv_iload_n E.hx E.hb dX1_sum_77 rfl (lv_at hl 3 rfl) ?_
  refine lv_iload_n E.hx E.hb dX1_sum_78 rfl (lv_at hl 2 rfl) ?_
  refine lv_iconst (v := 1) E.hx E.hb dX1_sum_79 (by decide) ?_
  refine lv_iadd E.hx E.hb dX1_sum_80 ?_
  refine iv_X1_84 E K0 P va_S.rf (by decide) hl.1 (Nat.le_of_ble_eq_true rfl) dX1_sum_81 ?_
  refine lv_if_eq (tgt := 108) E.hx E.hb dX1_sum_84 (by decide) (fun c_4 => ?_) (fun c_4 => ?_)
  · rw [if_pos c_4] at h
    refine lv_iinc (v := x3 + 1) (lv' := [(3, .int (x3 + 1)), (0, .ref (ad 2)), (1, .int x1), (2, .int x2), (4, .int x4)]) E.hx E.hb dX1_sum_108 hl (k := 3) rfl rfl (by decide) rfl (fun ls hl => ?_)
    refine lv_goto (tgt := 14) E.hx E.hb dX1_sum_111 (by decide) ?_
    exact hk  h (lv_sub hl [1, 2, 3, 0] rfl)
  · rw [if_neg c_4] at h
    refine lv_iload_n E.hx E.hb dX1_sum_87 rfl (lv_at hl 1 rfl) ?_
    refine lv_aload_n E.hx E.hb dX1_sum_88 rfl (lv_at hl 0 rfl) ?_
    refine gf_X1_42 E K0 P dX1_sum_89 ?_
    refine lv_iload E.hx E.hb dX1_sum_92 (lv_at hl 4 rfl) ?_
    refine lv_aload_n E.hx E.hb dX1_sum_94 rfl (lv_at hl 0 rfl) ?_
    refine lv_iload_n E.hx E.hb dX1_sum_95 rfl (lv_at hl 3 rfl) ?_
    refine lv_iload_n E.hx E.hb dX1_sum_96 rfl (lv_at hl 2 rfl) ?_
    refine lv_iconst (v := 1) E.hx E.hb dX1_sum_97 (by decide) ?_
    refine lv_iadd E.hx E.hb dX1_sum_98 ?_
    refine iv_X1_88 E K0 P va_S.rf (by decide) hl.1 (Nat.le_of_ble_eq_true rfl) dX1_sum_99 ?_
    refine iv_X1_70 E K0 va_S.rf (by decide) hl.1 (Nat.le_of_ble_eq_true rfl) dX1_sum_102 ?_
    refine lv_imul E.hx E.hb dX1_sum_105 ?_
    refine lv_iadd E.hx E.hb dX1_sum_106 ?_
    refine lv_istore_n (lv' := [(1, .int (x1 + ((I 8) * (B_X6_squareApart x4 ((B_X1_directionAt I A x3 ((x2 + 1)))))))), (0, .ref (ad 2)), (2, .int x2), (3, .int x3), (4, .int x4)]) E.hx E.hb dX1_sum_107 rfl hl (by decide) rfl (fun ls hl => ?_)
    refine lv_iinc (v := x3 + 1) (lv' := [(3, .int (x3 + 1)), (1, .int (x1 + ((I 8) * (B_X6_squareApart x4 ((B_X1_directionAt I A x3 ((x2 + 1)))))))), (0, .ref (ad 2)), (2, .int x2), (4, .int x4)]) E.hx E.hb dX1_sum_108 hl (k := 3) rfl rfl (by decide) rfl (fun ls hl => ?_)
    refine lv_goto (tgt := 14) E.hx E.hb dX1_sum_111 (by decide) ?_
    exact hk  h (lv_sub hl [2, 1, 3, 0] rfl)
def B_X1_sum_L14 (I : Nat → Int32) (A : Nat → Nat → Int32) (x2 : Int32) : Nat → Int32 → Int32 → Option (Int32)
  | 0 => fun _ _ => none
  | n + 1 => fun x1 x3 => if (I 5) ≤ x3 then some (x1) else (if (B_X1_has I A ((x3 + 1)) x2) = 0 then B_X1_sum_J76 ((B_X1_sum_L14 I A x2 n)) I A ((x1 + (B_X1_heldWith I A ((B_X6_numberOf x3 x2)) ((B_X1_directionAt I A x3 x2))))) x2 x3 ((B_X1_directionAt I A x3 x2)) else B_X1_sum_J76 ((B_X1_sum_L14 I A x2 n)) I A (((x1 + (B_X1_heldWith I A ((B_X6_numberOf x3 x2)) ((B_X1_directionAt I A x3 x2)))) + ((I 7) * (B_X6_squareApart ((B_X1_directionAt I A x3 x2)) ((B_X1_directionAt I A ((x3 + 1)) x2)))))) x2 x3 ((B_X1_directionAt I A x3 x2)))
theorem B_X1_sum_L14_s (I : Nat → Int32) (A : Nat → Nat → Int32) (x2 x1 x3 : Int32) (n : Nat) : B_X1_sum_L14 I A x2 (n + 1) x1 x3 = if (I 5) ≤ x3 then some (x1) else (if (B_X1_has I A ((x3 + 1)) x2) = 0 then B_X1_sum_J76 ((B_X1_sum_L14 I A x2 n)) I A ((x1 + (B_X1_heldWith I A ((B_X6_numberOf x3 x2)) ((B_X1_directionAt I A x3 x2))))) x2 x3 ((B_X1_directionAt I A x3 x2)) else B_X1_sum_J76 ((B_X1_sum_L14 I A x2 n)) I A (((x1 + (B_X1_heldWith I A ((B_X6_numberOf x3 x2)) ((B_X1_directionAt I A x3 x2)))) + ((I 7) * (B_X6_squareApart ((B_X1_directionAt I A x3 x2)) ((B_X1_directionAt I A ((x3 + 1)) x2)))))) x2 x3 ((B_X1_directionAt I A x3 x2))) := rfl
set_option maxHeartbeats 4000000 in
set_option maxRecDepth 100000 in
theorem w_X1_sum_L14 (E : EX p s m args meth c cX1_sum 5 RX1 (some .int)) (K0 : KC D cyI ad s s.heap) (P : va_P D classes (cw cyI ad I A) s.heap) {x2 : Int32} {out : Int32} : ∀ (n : Nat) {x1 x3 : Int32} {o : Int32} (h : B_X1_sum_L14 I A x2 n x1 x3 = some o) {ls : Array Slot} (hl : lv_has ls 5 [(0, .ref (ad 2)), (1, .int x1), (2, .int x2), (3, .int x3)]) (kx : ∀ {ls : Array Slot}, lv_has ls 5 [(0, .ref (ad 2)), (1, .int o), (2, .int x2)] → W p l e (rmL 3) s m args below meth c s.heap [] 0 0 (MQ below (vp_Si (fun z => z = out)) args s 0 0 (fun _ => False)) (F0 m 114 ls [])), W p l e (rmL 3) s m args below meth c s.heap [] 0 0 (MQ below (vp_Si (fun z => z = out)) args s 0 0 (fun _ => False)) (F0 m 14 ls []) := by
  intro n
  induction n with
  | zero => intro x1 x3 o h ls hl kx; exact nomatch (show none = some o from h)
  | succ n ih =>
    intro x1 x3 o h ls hl kx
    rw [B_X1_sum_L14_s] at h
    refine lv_iload_n E.hx E.hb dX1_sum_14 rfl (lv_at hl 3 rfl) ?_
    refine lv_aload_n E.hx E.hb dX1_sum_15 rfl (lv_at hl 0 rfl) ?_
    refine gf_X1_32 E K0 P dX1_sum_16 ?_
    refine lv_icmp_ge (tgt := 114) E.hx E.hb dX1_sum_19 (by decide) (fun c_2 => ?_) (fun c_2 => ?_)
    · rw [if_pos c_2] at h
      cases h
      exact kx  (lv_sub hl [0, 1, 2] rfl)
    · rw [if_neg c_2] at h
      refine lv_aload_n E.hx E.hb dX1_sum_22 rfl (lv_at hl 0 rfl) ?_
      refine lv_iload_n E.hx E.hb dX1_sum_23 rfl (lv_at hl 3 rfl) ?_
      refine lv_iload_n E.hx E.hb dX1_sum_24 rfl (lv_at hl 2 rfl) ?_
      refine iv_X1_88 E K0 P va_S.rf (by decide) hl.1 (Nat.le_of_ble_eq_true rfl) dX1_sum_25 ?_
      refine lv_istore (lv' := [(4, .int (B_X1_directionAt I A x3 x2)), (0, .ref (ad 2)), (1, .int x1), (2, .int x2), (3, .int x3)]) E.hx E.hb dX1_sum_28 hl (by decide) rfl (fun ls hl => ?_)
      refine lv_iload_n E.hx E.hb dX1_sum_30 rfl (lv_at hl 2 rfl) ?_
      refine lv_aload_n E.hx E.hb dX1_sum_31 rfl (lv_at hl 1 rfl) ?_
      refine lv_iload_n E.hx E.hb dX1_sum_32 rfl (lv_at hl 4 rfl) ?_
      refine lv_iload_n E.hx E.hb dX1_sum_33 rfl (lv_at hl 3 rfl) ?_
      refine iv_X1_55 E K0 va_S.rf (by decide) hl.1 (Nat.le_of_ble_eq_true rfl) dX1_sum_34 ?_
      refine lv_iload E.hx E.hb dX1_sum_37 (lv_at hl 0 rfl) ?_
      refine iv_X1_81 E K0 P va_S.rf (by decide) hl.1 (Nat.le_of_ble_eq_true rfl) dX1_sum_39 ?_
      refine lv_iadd E.hx E.hb dX1_sum_42 ?_
      refine lv_istore_n (lv' := [(1, .int (x1 + (B_X1_heldWith I A ((B_X6_numberOf x3 x2)) ((B_X1_directionAt I A x3 x2))))), (4, .int (B_X1_directionAt I A x3 x2)), (0, .ref (ad 2)), (2, .int x2), (3, .int x3)]) E.hx E.hb dX1_sum_43 rfl hl (by decide) rfl (fun ls hl => ?_)
      refine lv_aload_n E.hx E.hb dX1_sum_44 rfl (lv_at hl 2 rfl) ?_
      refine lv_iload_n E.hx E.hb dX1_sum_45 rfl (lv_at hl 4 rfl) ?_
      refine lv_iconst (v := 1) E.hx E.hb dX1_sum_46 (by decide) ?_
      refine lv_iadd E.hx E.hb dX1_sum_47 ?_
      refine lv_iload_n E.hx E.hb dX1_sum_48 rfl (lv_at hl 3 rfl) ?_
      refine iv_X1_84 E K0 P va_S.rf (by decide) hl.1 (Nat.le_of_ble_eq_true rfl) dX1_sum_49 ?_
      refine lv_if_eq (tgt := 76) E.hx E.hb dX1_sum_52 (by decide) (fun c_3 => ?_) (fun c_3 => ?_)
      · rw [if_pos c_3] at h
        exact w_X1_sum_J76 E K0 (fun  h hl => ih  h hl kx) kx P h (lv_sub hl [2, 0, 3, 4, 1] rfl)
      · rw [if_neg c_3] at h
        refine lv_iload_n E.hx E.hb dX1_sum_55 rfl (lv_at hl 0 rfl) ?_
        refine lv_aload_n E.hx E.hb dX1_sum_56 rfl (lv_at hl 2 rfl) ?_
        refine gf_X1_39 E K0 P dX1_sum_57 ?_
        refine lv_iload E.hx E.hb dX1_sum_60 (lv_at hl 1 rfl) ?_
        refine lv_aload_n E.hx E.hb dX1_sum_62 rfl (lv_at hl 2 rfl) ?_
        refine lv_iload_n E.hx E.hb dX1_sum_63 rfl (lv_at hl 4 rfl) ?_
        refine lv_iconst (v := 1) E.hx E.hb dX1_sum_64 (by decide) ?_
        refine lv_iadd E.hx E.hb dX1_sum_65 ?_
        refine lv_iload_n E.hx E.hb dX1_sum_66 rfl (lv_at hl 3 rfl) ?_
        refine iv_X1_88 E K0 P va_S.rf (by decide) hl.1 (Nat.le_of_ble_eq_true rfl) dX1_sum_67 ?_
        refine iv_X1_70 E K0 va_S.rf (by decide) hl.1 (Nat.le_of_ble_eq_true rfl) dX1_sum_70 ?_
        refine lv_imul E.hx E.hb dX1_sum_73 ?_
        refine lv_iadd E.hx E.hb dX1_sum_74 ?_
        refine lv_istore_n (lv' := [(1, .int ((x1 + (B_X1_heldWith I A ((B_X6_numberOf x3 x2)) ((B_X1_directionAt I A x3 x2)))) + ((I 7) * (B_X6_squareApart ((B_X1_directionAt I A x3 x2)) ((B_X1_directionAt I A ((x3 + 1)) x2)))))), (4, .int (B_X1_directionAt I A x3 x2)), (0, .ref (ad 2)), (2, .int x2), (3, .int x3)]) E.hx E.hb dX1_sum_75 rfl hl (by decide) rfl (fun ls hl => ?_)
        exact w_X1_sum_J76 E K0 (fun  h hl => ih  h hl kx) kx P h (lv_sub hl [2, 0, 3, 4, 1] rfl)
def B_X1_sum_L4 (I : Nat → Int32) (A : Nat → Nat → Int32)  : Nat → Int32 → Int32 → Option (Int32)
  | 0 => fun _ _ => none
  | n + 1 => fun x1 x2 => if (I 6) ≤ x2 then some (x1) else ((B_X1_sum_L14 I A x2 FU x1 0).bind fun q_5 => (B_X1_sum_L4 I A n) q_5 (x2 + 1))
theorem B_X1_sum_L4_s (I : Nat → Int32) (A : Nat → Nat → Int32) (x1 x2 : Int32) (n : Nat) : B_X1_sum_L4 I A  (n + 1) x1 x2 = if (I 6) ≤ x2 then some (x1) else ((B_X1_sum_L14 I A x2 FU x1 0).bind fun q_5 => (B_X1_sum_L4 I A n) q_5 (x2 + 1)) := rfl
set_option maxHeartbeats 4000000 in
set_option maxRecDepth 100000 in
theorem w_X1_sum_L4 (E : EX p s m args meth c cX1_sum 5 RX1 (some .int)) (K0 : KC D cyI ad s s.heap) (P : va_P D classes (cw cyI ad I A) s.heap) {out : Int32} : ∀ (n : Nat) {x1 x2 : Int32} {o : Int32} (h : B_X1_sum_L4 I A  n x1 x2 = some o) {ls : Array Slot} (hl : lv_has ls 5 [(0, .ref (ad 2)), (1, .int x1), (2, .int x2)]) (kx : ∀ {ls : Array Slot}, lv_has ls 5 [(1, .int o)] → W p l e (rmL 3) s m args below meth c s.heap [] 0 0 (MQ below (vp_Si (fun z => z = out)) args s 0 0 (fun _ => False)) (F0 m 120 ls [])), W p l e (rmL 3) s m args below meth c s.heap [] 0 0 (MQ below (vp_Si (fun z => z = out)) args s 0 0 (fun _ => False)) (F0 m 4 ls []) := by
  intro n
  induction n with
  | zero => intro x1 x2 o h ls hl kx; exact nomatch (show none = some o from h)
  | succ n ih =>
    intro x1 x2 o h ls hl kx
    rw [B_X1_sum_L4_s] at h
    refine lv_iload_n E.hx E.hb dX1_sum_4 rfl (lv_at hl 2 rfl) ?_
    refine lv_aload_n E.hx E.hb dX1_sum_5 rfl (lv_at hl 0 rfl) ?_
    refine gf_X1_36 E K0 P dX1_sum_6 ?_
    refine lv_icmp_ge (tgt := 120) E.hx E.hb dX1_sum_9 (by decide) (fun c_1 => ?_) (fun c_1 => ?_)
    · rw [if_pos c_1] at h
      cases h
      exact kx  (lv_sub hl [1] rfl)
    · rw [if_neg c_1] at h
      refine lv_iconst (v := 0) E.hx E.hb dX1_sum_12 (by decide) ?_
      refine lv_istore_n (lv' := [(3, .int 0), (0, .ref (ad 2)), (1, .int x1), (2, .int x2)]) E.hx E.hb dX1_sum_13 rfl hl (by decide) rfl (fun ls hl => ?_)
      obtain ⟨q_5, e_6, h⟩ := obind h
      refine w_X1_sum_L14 E K0 P FU e_6 (lv_sub hl [1, 2, 3, 0] rfl) (fun {ls} hl => ?_)
      refine lv_iinc (v := x2 + 1) (lv' := [(2, .int (x2 + 1)), (0, .ref (ad 2)), (1, .int q_5)]) E.hx E.hb dX1_sum_114 hl (k := 2) rfl rfl (by decide) rfl (fun ls hl => ?_)
      refine lv_goto (tgt := 4) E.hx E.hb dX1_sum_117 (by decide) ?_
      exact ih  h (lv_sub hl [1, 2, 0] rfl) kx
def B_X1_sum (I : Nat → Int32) (A : Nat → Nat → Int32)  : Option (Int32) := (B_X1_sum_L4 I A  FU 0 0).bind fun q_7 => some q_7
set_option maxHeartbeats 4000000 in
set_option maxRecDepth 100000 in
theorem w_X1_sum (E : EX p s m args meth c cX1_sum 5 RX1 (some .int)) (K0 : KC D cyI ad s s.heap) (P : va_P D classes (cw cyI ad I A) s.heap)  {x_ : Int32} {out : Int32} (h : B_X1_sum I A  = some out) {ls : Array Slot} (hl : lv_has ls 5 [(0, .ref (ad 2))]) : W p l e (rmL 3) s m args below meth c s.heap [] 0 0 (MQ below (vp_Si (fun z => z = out)) args s 0 0 (fun _ => False)) (F0 m 0 ls []) := by
  unfold B_X1_sum at h
  refine lv_iconst (v := 0) E.hx E.hb dX1_sum_0 (by decide) ?_
  refine lv_istore_n (lv' := [(1, .int 0), (0, .ref (ad 2))]) E.hx E.hb dX1_sum_1 rfl hl (by decide) rfl (fun ls hl => ?_)
  refine lv_iconst (v := 0) E.hx E.hb dX1_sum_2 (by decide) ?_
  refine lv_istore_n (lv' := [(2, .int 0), (1, .int 0), (0, .ref (ad 2))]) E.hx E.hb dX1_sum_3 rfl hl (by decide) rfl (fun ls hl => ?_)
  obtain ⟨q_7, e_8, h⟩ := obind h
  refine w_X1_sum_L4 E K0 P FU e_8 (lv_sub hl [2, 1, 0] rfl) (fun {ls} hl => ?_)
  refine lv_iload_n E.hx E.hb dX1_sum_120 rfl (lv_at hl 0 rfl) ?_
  exact W.iret E.hx E.hb E.hr (fun t ht _ => ⟨_, rfl, (Option.some.inj h), ht⟩) (fun q hq => nomatch hq) dX1_sum_121 E.hk
theorem c_X1_sum (l : Launch) {H : Heap} {D : va_G} {cyI : ClassId} {ad : Nat → Nat} {I : Nat → Int32} {A : Nat → Nat → Int32} (P : va_P D classes (cw cyI ad I A) H)  {out : Int32} (h : B_X1_sum I A  = some out) : MRO l yX1_sum cX1_sum 5 (some .int) 3 [.ref (ad 2)] H (KC D cyI ad) out := by
  refine Mof (own := RX1) (by decide +kernel) rfl rfl ?_
  intro p e s m args below meth c ls E hH K0 hl
  subst hH
  exact w_X1_sum E K0 P h hl
theorem ds_X1_sum : Dsc yX1_sum 0 := ⟨by decide +kernel, by decide +kernel, by decide +kernel⟩
end
section
variable {p : Program} {l : Launch} {e : Env} {s : State} {m : MethodId} {args : Array Value} {below : List Frame} {meth : Method} {c : Code} {D : va_G} {cyI : ClassId} {ad : Nat → Nat} {I : Nat → Int32} {A : Nat → Nat → Int32}
def B_X1_pixelAt (I : Nat → Int32) (A : Nat → Nat → Int32) (x1 x2 : Int32) : Int32 := (rAt 144 (A 12) ((B_X6_numberOf x1 x2)))
set_option maxHeartbeats 4000000 in
set_option maxRecDepth 100000 in
theorem w_X1_pixelAt (E : EX p s m args meth c cX1_pixelAt 3 RX1 (some .int)) (K0 : KC D cyI ad s s.heap) (P : va_P D classes (cw cyI ad I A) s.heap)  {x1 x2 : Int32} {out : Int32} (h : B_X1_pixelAt I A x1 x2 = out) {ls : Array Slot} (hl : lv_has ls 3 [(0, .ref (ad 2)), (1, .int x1), (2, .int x2)]) : W p l e (rmL 1) s m args below meth c s.heap [] 0 0 (MQ below (vp_Si (fun z => z = out)) args s 0 0 (fun _ => False)) (F0 m 0 ls []) := by
  unfold B_X1_pixelAt at h
  refine lv_aload_n E.hx E.hb dX1_pixelAt_0 rfl (lv_at hl 0 rfl) ?_
  refine gf_X1_29 E K0 P dX1_pixelAt_1 ?_
  refine lv_iload_n E.hx E.hb dX1_pixelAt_4 rfl (lv_at hl 1 rfl) ?_
  refine lv_iload_n E.hx E.hb dX1_pixelAt_5 rfl (lv_at hl 2 rfl) ?_
  refine iv_X1_55 E K0 va_S.rf (by decide) hl.1 (Nat.le_of_ble_eq_true rfl) dX1_pixelAt_6 ?_
  refine rat_X1_59 E K0 P va_S.rf cw_r12 cw_a12 (by decide) (by decide) hl.1 (Nat.le_of_ble_eq_true rfl) dX1_pixelAt_9 ?_
  exact W.iret E.hx E.hb E.hr (fun t ht _ => ⟨_, rfl, h, ht⟩) (fun q hq => nomatch hq) dX1_pixelAt_12 E.hk
theorem c_X1_pixelAt (l : Launch) {H : Heap} {D : va_G} {cyI : ClassId} {ad : Nat → Nat} {I : Nat → Int32} {A : Nat → Nat → Int32} (P : va_P D classes (cw cyI ad I A) H) (x1 x2 : Int32) : MRO l yX1_pixelAt cX1_pixelAt 3 (some .int) 1 [.ref (ad 2), .int x1, .int x2] H (KC D cyI ad) (B_X1_pixelAt I A x1 x2) := by
  refine Mof (own := RX1) (by decide +kernel) rfl rfl ?_
  intro p e s m args below meth c ls E hH K0 hl
  subst hH
  exact w_X1_pixelAt E K0 P rfl hl
theorem ds_X1_pixelAt : Dsc yX1_pixelAt 2 := ⟨by decide +kernel, by decide +kernel, by decide +kernel⟩
end
section
variable {p : Program} {l : Launch} {e : Env} {R : Room} {s : State} {m : MethodId} {args : Array Value} {below : List Frame} {meth : Method} {c : Code} {H : Heap} {locs : List Loc} {cells slots : Nat} {Q : State → Prop} {cc : ByteArray} {nL pc : Nat} {ret : Option FieldType} {ls : Array Slot} {rest : List Value} {D : va_G} {cyI : ClassId} {ad : Nat → Nat} {I : Nat → Int32} {A : Nat → Nat → Int32}
theorem iv_X1_63 (E : EX p s m args meth c cc nL RX1 ret) (K0 : KC D cyI ad s s.heap) (P : va_P D classes (cw cyI ad I A) H) (S : va_S (InN 44 ad) s.heap H locs) {a0 a1 : Int32} (hR : RmOk R cells slots 1 3) (hls : ls.size = nL) (hro : (rest.map fun v => v.category).sum ≤ 8) (hdg : decode cc pc = .ok (.invokevirtual 63, 3)) (kk : W p l e R s m args below meth c H locs cells slots Q (F0 m (pc + 3) ls (.int (B_X1_pixelAt I A a0 a1) :: rest))) : W p l e R s m args below meth c H locs cells slots Q (F0 m pc ls (.int a1 :: .int a0 :: .ref (ad 2) :: rest)) :=
  cv_ro E (c_X1_pixelAt l P a0 a1 ) (gV kML_X1_63 kIM_X1_pixelAt kSE_X1_pixelAt kIN_X1 kCO_X1_pixelAt) rfl ds_X1_pixelAt rfl KC_blind (fun U _ hW => (K0.at S).warm hW) (va_recv K0.k P (show classes[1]? = some (RX1, TX1, 11) from rfl) cw_g2) hR hls rfl hro hdg kk
end
section
variable {p : Program} {l : Launch} {e : Env} {s : State} {m : MethodId} {args : Array Value} {below : List Frame} {meth : Method} {c : Code} {D : va_G} {cyI : ClassId} {ad : Nat → Nat} {I : Nat → Int32} {A : Nat → Nat → Int32}
def B_X1_hasPixelIn_L15 (I : Nat → Int32) (A : Nat → Nat → Int32) (x1 x2 x3 x4 x5 : Int32) : Nat → Int32 → Option ((Unit) ⊕ Int32)
  | 0 => fun _ => none
  | n + 1 => fun x6 => if (x1 + x3) ≤ x6 then some (.inl ()) else (if (B_X1_pixelAt I A x6 x5) = (-1) then (B_X1_hasPixelIn_L15 I A x1 x2 x3 x4 x5 n) (x6 + 1) else some (.inr 1))
theorem B_X1_hasPixelIn_L15_s (I : Nat → Int32) (A : Nat → Nat → Int32) (x1 x2 x3 x4 x5 x6 : Int32) (n : Nat) : B_X1_hasPixelIn_L15 I A x1 x2 x3 x4 x5 (n + 1) x6 = if (x1 + x3) ≤ x6 then some (.inl ()) else (if (B_X1_pixelAt I A x6 x5) = (-1) then (B_X1_hasPixelIn_L15 I A x1 x2 x3 x4 x5 n) (x6 + 1) else some (.inr 1)) := rfl
set_option maxHeartbeats 4000000 in
set_option maxRecDepth 100000 in
theorem w_X1_hasPixelIn_L15 (E : EX p s m args meth c cX1_hasPixelIn 7 RX1 (some .boolean)) (K0 : KC D cyI ad s s.heap) (P : va_P D classes (cw cyI ad I A) s.heap) {x1 x2 x3 x4 x5 : Int32} {out : Int32} : ∀ (n : Nat) {x6 : Int32} {o : (Unit) ⊕ Int32} (h : B_X1_hasPixelIn_L15 I A x1 x2 x3 x4 x5 n x6 = some o) {ls : Array Slot} (hl : lv_has ls 7 [(0, .ref (ad 2)), (1, .int x1), (2, .int x2), (3, .int x3), (4, .int x4), (5, .int x5), (6, .int x6)]) (kx : ∀ {q : Unit}, o = .inl q → ∀ {ls : Array Slot}, lv_has ls 7 [(0, .ref (ad 2)), (1, .int x1), (2, .int x2), (3, .int x3), (4, .int x4), (5, .int x5)] → W p l e (rmL 2) s m args below meth c s.heap [] 0 0 (MQ below (vp_Si (fun z => z = out)) args s 0 0 (fun _ => False)) (F0 m 43 ls [])) (kr : ∀ r : Int32, o = .inr r → r = out), W p l e (rmL 2) s m args below meth c s.heap [] 0 0 (MQ below (vp_Si (fun z => z = out)) args s 0 0 (fun _ => False)) (F0 m 15 ls []) := by
  intro n
  induction n with
  | zero => intro x6 o h ls hl kx kr; exact nomatch (show none = some o from h)
  | succ n ih =>
    intro x6 o h ls hl kx kr
    rw [B_X1_hasPixelIn_L15_s] at h
    refine lv_iload E.hx E.hb dX1_hasPixelIn_15 (lv_at hl 6 rfl) ?_
    refine lv_iload_n E.hx E.hb dX1_hasPixelIn_17 rfl (lv_at hl 1 rfl) ?_
    refine lv_iload_n E.hx E.hb dX1_hasPixelIn_18 rfl (lv_at hl 3 rfl) ?_
    refine lv_iadd E.hx E.hb dX1_hasPixelIn_19 ?_
    refine lv_icmp_ge (tgt := 43) E.hx E.hb dX1_hasPixelIn_20 (by decide) (fun c_2 => ?_) (fun c_2 => ?_)
    · rw [if_pos c_2] at h
      cases h
      exact kx rfl  (lv_sub hl [0, 1, 2, 3, 4, 5] rfl)
    · rw [if_neg c_2] at h
      refine lv_aload_n E.hx E.hb dX1_hasPixelIn_23 rfl (lv_at hl 0 rfl) ?_
      refine lv_iload E.hx E.hb dX1_hasPixelIn_24 (lv_at hl 6 rfl) ?_
      refine lv_iload E.hx E.hb dX1_hasPixelIn_26 (lv_at hl 5 rfl) ?_
      refine iv_X1_63 E K0 P va_S.rf (by decide) hl.1 (Nat.le_of_ble_eq_true rfl) dX1_hasPixelIn_28 ?_
      refine lv_iconst (v := (-1)) E.hx E.hb dX1_hasPixelIn_31 (by decide) ?_
      refine lv_icmp_eq (tgt := 37) E.hx E.hb dX1_hasPixelIn_32 (by decide) (fun c_3 => ?_) (fun c_3 => ?_)
      · rw [if_pos c_3] at h
        refine lv_iinc (v := x6 + 1) (lv' := [(6, .int (x6 + 1)), (0, .ref (ad 2)), (1, .int x1), (2, .int x2), (3, .int x3), (4, .int x4), (5, .int x5)]) E.hx E.hb dX1_hasPixelIn_37 hl (k := 6) rfl rfl (by decide) rfl (fun ls hl => ?_)
        refine lv_goto (tgt := 15) E.hx E.hb dX1_hasPixelIn_40 (by decide) ?_
        exact ih  h (lv_sub hl [1, 2, 3, 4, 5, 6, 0] rfl) kx kr
      · rw [if_neg c_3] at h
        refine lv_iconst (v := 1) E.hx E.hb dX1_hasPixelIn_35 (by decide) ?_
        exact W.zret E.hx E.hb E.hr rfl (fun t ht _ => ⟨_, rfl, (kr _ (Option.some.inj h).symm), ht⟩) (fun q hq => nomatch hq) dX1_hasPixelIn_36 E.hk
def B_X1_hasPixelIn_L3 (I : Nat → Int32) (A : Nat → Nat → Int32) (x1 x2 x3 x4 : Int32) : Nat → Int32 → Option ((Unit) ⊕ Int32)
  | 0 => fun _ => none
  | n + 1 => fun x5 => if (x2 + x4) ≤ x5 then some (.inl ()) else ((B_X1_hasPixelIn_L15 I A x1 x2 x3 x4 x5 FU x1).bind fun q_4 => match q_4 with | .inr r => some (.inr r) | .inl q_4v => (B_X1_hasPixelIn_L3 I A x1 x2 x3 x4 n) (x5 + 1))
theorem B_X1_hasPixelIn_L3_s (I : Nat → Int32) (A : Nat → Nat → Int32) (x1 x2 x3 x4 x5 : Int32) (n : Nat) : B_X1_hasPixelIn_L3 I A x1 x2 x3 x4 (n + 1) x5 = if (x2 + x4) ≤ x5 then some (.inl ()) else ((B_X1_hasPixelIn_L15 I A x1 x2 x3 x4 x5 FU x1).bind fun q_4 => match q_4 with | .inr r => some (.inr r) | .inl q_4v => (B_X1_hasPixelIn_L3 I A x1 x2 x3 x4 n) (x5 + 1)) := rfl
set_option maxHeartbeats 4000000 in
set_option maxRecDepth 100000 in
theorem w_X1_hasPixelIn_L3 (E : EX p s m args meth c cX1_hasPixelIn 7 RX1 (some .boolean)) (K0 : KC D cyI ad s s.heap) (P : va_P D classes (cw cyI ad I A) s.heap) {x1 x2 x3 x4 : Int32} {out : Int32} : ∀ (n : Nat) {x5 : Int32} {o : (Unit) ⊕ Int32} (h : B_X1_hasPixelIn_L3 I A x1 x2 x3 x4 n x5 = some o) {ls : Array Slot} (hl : lv_has ls 7 [(0, .ref (ad 2)), (1, .int x1), (2, .int x2), (3, .int x3), (4, .int x4), (5, .int x5)]) (kx : ∀ {q : Unit}, o = .inl q → ∀ {ls : Array Slot}, lv_has ls 7 [] → W p l e (rmL 2) s m args below meth c s.heap [] 0 0 (MQ below (vp_Si (fun z => z = out)) args s 0 0 (fun _ => False)) (F0 m 49 ls [])) (kr : ∀ r : Int32, o = .inr r → r = out), W p l e (rmL 2) s m args below meth c s.heap [] 0 0 (MQ below (vp_Si (fun z => z = out)) args s 0 0 (fun _ => False)) (F0 m 3 ls []) := by
  intro n
  induction n with
  | zero => intro x5 o h ls hl kx kr; exact nomatch (show none = some o from h)
  | succ n ih =>
    intro x5 o h ls hl kx kr
    rw [B_X1_hasPixelIn_L3_s] at h
    refine lv_iload E.hx E.hb dX1_hasPixelIn_3 (lv_at hl 5 rfl) ?_
    refine lv_iload_n E.hx E.hb dX1_hasPixelIn_5 rfl (lv_at hl 2 rfl) ?_
    refine lv_iload E.hx E.hb dX1_hasPixelIn_6 (lv_at hl 4 rfl) ?_
    refine lv_iadd E.hx E.hb dX1_hasPixelIn_8 ?_
    refine lv_icmp_ge (tgt := 49) E.hx E.hb dX1_hasPixelIn_9 (by decide) (fun c_1 => ?_) (fun c_1 => ?_)
    · rw [if_pos c_1] at h
      cases h
      exact kx rfl  (lv_sub hl [] rfl)
    · rw [if_neg c_1] at h
      refine lv_iload_n E.hx E.hb dX1_hasPixelIn_12 rfl (lv_at hl 1 rfl) ?_
      refine lv_istore (lv' := [(6, .int x1), (0, .ref (ad 2)), (1, .int x1), (2, .int x2), (3, .int x3), (4, .int x4), (5, .int x5)]) E.hx E.hb dX1_hasPixelIn_13 hl (by decide) rfl (fun ls hl => ?_)
      obtain ⟨q_4, e_5, h⟩ := obind h
      refine w_X1_hasPixelIn_L15 E K0 P FU e_5 (lv_sub hl [1, 2, 3, 4, 5, 6, 0] rfl) (fun {q_4v} hq {ls} hl => ?_) (fun r hr => by subst hr; exact kr r (Option.some.inj h).symm)
      subst hq
      dsimp only at h
      refine lv_iinc (v := x5 + 1) (lv' := [(5, .int (x5 + 1)), (0, .ref (ad 2)), (1, .int x1), (2, .int x2), (3, .int x3), (4, .int x4)]) E.hx E.hb dX1_hasPixelIn_43 hl (k := 5) rfl rfl (by decide) rfl (fun ls hl => ?_)
      refine lv_goto (tgt := 3) E.hx E.hb dX1_hasPixelIn_46 (by decide) ?_
      exact ih  h (lv_sub hl [1, 2, 3, 4, 5, 0] rfl) kx kr
def B_X1_hasPixelIn (I : Nat → Int32) (A : Nat → Nat → Int32) (x1 x2 x3 x4 : Int32) : Option (Int32) := (B_X1_hasPixelIn_L3 I A x1 x2 x3 x4 FU x2).bind fun q_6 => match q_6 with | .inr r => some r | .inl q_6v => some 0
set_option maxHeartbeats 4000000 in
set_option maxRecDepth 100000 in
theorem w_X1_hasPixelIn (E : EX p s m args meth c cX1_hasPixelIn 7 RX1 (some .boolean)) (K0 : KC D cyI ad s s.heap) (P : va_P D classes (cw cyI ad I A) s.heap)  {x1 x2 x3 x4 : Int32} {out : Int32} (h : B_X1_hasPixelIn I A x1 x2 x3 x4 = some out) {ls : Array Slot} (hl : lv_has ls 7 [(0, .ref (ad 2)), (1, .int x1), (2, .int x2), (3, .int x3), (4, .int x4)]) : W p l e (rmL 2) s m args below meth c s.heap [] 0 0 (MQ below (vp_Si (fun z => z = out)) args s 0 0 (fun _ => False)) (F0 m 0 ls []) := by
  unfold B_X1_hasPixelIn at h
  refine lv_iload_n E.hx E.hb dX1_hasPixelIn_0 rfl (lv_at hl 2 rfl) ?_
  refine lv_istore (lv' := [(5, .int x2), (0, .ref (ad 2)), (1, .int x1), (2, .int x2), (3, .int x3), (4, .int x4)]) E.hx E.hb dX1_hasPixelIn_1 hl (by decide) rfl (fun ls hl => ?_)
  obtain ⟨q_6, e_7, h⟩ := obind h
  refine w_X1_hasPixelIn_L3 E K0 P FU e_7 (lv_sub hl [1, 2, 3, 4, 5, 0] rfl) (fun {q_6v} hq {ls} hl => ?_) (fun r hr => by subst hr; exact Option.some.inj h)
  subst hq
  dsimp only at h
  refine lv_iconst (v := 0) E.hx E.hb dX1_hasPixelIn_49 (by decide) ?_
  exact W.zret E.hx E.hb E.hr rfl (fun t ht _ => ⟨_, rfl, (Option.some.inj h), ht⟩) (fun q hq => nomatch hq) dX1_hasPixelIn_50 E.hk
theorem c_X1_hasPixelIn (l : Launch) {H : Heap} {D : va_G} {cyI : ClassId} {ad : Nat → Nat} {I : Nat → Int32} {A : Nat → Nat → Int32} (P : va_P D classes (cw cyI ad I A) H) (x1 x2 x3 x4 : Int32) {out : Int32} (h : B_X1_hasPixelIn I A x1 x2 x3 x4 = some out) : MRO l yX1_hasPixelIn cX1_hasPixelIn 7 (some .boolean) 2 [.ref (ad 2), .int x1, .int x2, .int x3, .int x4] H (KC D cyI ad) out := by
  refine Mof (own := RX1) (by decide +kernel) rfl rfl ?_
  intro p e s m args below meth c ls E hH K0 hl
  subst hH
  exact w_X1_hasPixelIn E K0 P h hl
theorem ds_X1_hasPixelIn : Dsc yX1_hasPixelIn 4 := ⟨by decide +kernel, by decide +kernel, by decide +kernel⟩
end
end WALK
end

section THROW
theorem KC.us {D : va_G} {cyI : ClassId} {ad : Nat → Nat} {U : State} {H : Heap} (h : KC D cyI ad U H) : vx_Zq Bundle.tN "UNASSIGNED_STACK" Bundle.steD (InN 44 ad) U H := h.2.2.1
theorem KC.ss {D : va_G} {cyI : ClassId} {ad : Nat → Nat} {U : State} {H : Heap} (h : KC D cyI ad U H) : vx_Zq Bundle.tN "SUPPRESSED_SENTINEL" Bundle.listD (InN 44 ad) U H := h.2.2.2.1
theorem KC.st {D : va_G} {cyI : ClassId} {ad : Nat → Nat} {U : State} {H : Heap} (h : KC D cyI ad U H) : ∀ q ∈ strsC, ∃ a, vk_R RX6 q.1 q.2 a U := h.2.2.2.2.1
def excC : List String := ["java/lang/RuntimeException", "java/lang/Exception"]
def exN (k : Nat) : String := match k with
  | 0 => "java/lang/IllegalArgumentException"
  | 1 => "java/lang/IndexOutOfBoundsException"
  | _ => "java/lang/IllegalStateException"
abbrev OutT : Type := (Int32 × (Nat → Int32) × (Nat → Nat → Int32)) ⊕ (Nat × (Nat → Int32) × (Nat → Nat → Int32))
/-- how a method of the face ends: it returns .. -/
def QT (D : va_G) (cyI : ClassId) (ad : Nat → Nat) (vd : Bool) (out : OutT) : Array Value → State → Outcome → State → Prop := fun _ st o t =>
  ∃ (r : Int32) (I : Nat → Int32) (A : Nat → Nat → Int32), out = .inl (r, I, A) ∧ o = .returned (if vd then none else some (.int r)) ∧ va_P D classes (cw cyI ad I A) t.heap ∧ va_F (InN 44 ad) st t
/-- .. or throws -/
def XT (D : va_G) (cyI : ClassId) (ad : Nat → Nat) (out : OutT) : String → State → State → Prop := fun E st t =>
  ∃ (k : Nat) (I : Nat → Int32) (A : Nat → Nat → Int32), out = .inr (k, I, A) ∧ E = exN k ∧ va_P D classes (cw cyI ad I A) t.heap ∧ va_F (InN 44 ad) st t
theorem MofX {l : Launch} {y : MethodName} {b : ByteArray} {n : Nat} {r : Option FieldType} {rm : Room} {As : List Value} {H : Heap} {KX : Ctx} {Qc : Array Value → State → Outcome → State → Prop} {XC : String → State → State → Prop} {mc ms : Nat} {free : Addr → Prop} {own : String} (hy : plainName y.cls = true) (ho : y.cls = own) (hn : Nat.ble (lg_sl As).length n = true)
    (body : ∀ (p : Program) (e : Env) (s : State) (m : MethodId) (args : Array Value) (below : List Frame) (meth : Method) (c : Code) (ls : Array Slot), EX p s m args meth c b n own r → (∀ x ∈ c.exceptionTable.toList, False) → s.heap = H → KX s s.heap → lv_has ls n (lv_args 0 As) → W p l e rm s m args below meth c s.heap [] 0 0 (vx_MQ below Qc XC args s mc ms free) (F0 m 0 ls [])) :
    vx_Met l y (.code y b n r :: TA) rm (PX As H KX) Qc XC mc ms free := by
  refine vx_ofW (cc := b) (maxL := n) (ret := r) hy rfl ?_
  intro p e s m args below meth c s₁ B hml hno hv
  obtain ⟨rfl, hH, hK⟩ := hv
  have hts : ∀ w ∈ (.code y b n r :: TA : List Cond), w.before As.toArray s = true := atoms_spec (ws := (.code y b n r :: TA : List Cond)) B.pre
  have hown : s.vm.findClass own = some m.cls := by rw [← ho]; exact findClass_of_methodNamed B.named
  have hl := lv_entry As (n := n) (Nat.le_of_ble_eq_true hn)
  rw [lg_entry_eq]
  generalize (lg_sl As ++ List.replicate (n - (lg_sl As).length) Slot.unset).toArray = ls at hl ⊢
  exact body p e s m _ below meth c ls ⟨B.exec, B.bytes, hml, hown, fun w hw => hts w (List.mem_cons_of_mem _ hw), B.returns, B.notSynchronized⟩ hno hH (by rw [hH]; exact hK) hl
theorem P_ext {D : va_G} {cl : List vw_C} {ws : va_W} {H H1 : Heap} (P : va_P D cl ws H) (h : ∀ q : Nat, q < H.size → H1[q]? = H[q]?) : va_P D cl ws H1 := fun k q hq => (P k q hq).kept (h q.1 (P k q hq).lt)
theorem kIN_E0 : (Cond.initialized "java/lang/IllegalArgumentException") ∈ TA := ta 41 (by decide +kernel) rfl
theorem gdE0 : ∀ w ∈ (vx_atS RX6 64 "java/lang/IllegalArgumentException" excC).filter goodWord, w ∈ TA := by decide +kernel
theorem atE0 {p : Program} {s : State} {m : MethodId} {args : Array Value} {meth : Method} {c : Code} {cc : ByteArray} {nL : Nat} {ret : Option FieldType} {D : va_G} {cyI : ClassId} {ad : Nat → Nat} {H : Heap} (E : EX p s m args meth c cc nL RX6 ret) (K0 : KC D cyI ad s H) : ∀ w ∈ vx_atS RX6 64 "java/lang/IllegalArgumentException" excC, w.before args s = true :=
  vx_hat (B := [Cond.castable "java/lang/IllegalArgumentException" "java/lang/IllegalArgumentException", .declares (Bundle.initS "java/lang/RuntimeException"), .declares (Bundle.initS "java/lang/Exception"), .declares (Bundle.initS "java/lang/Throwable")]) (fun w hw => E.ht w (gdE0 w hw)) (by decide +kernel) (vx_c (va_Nw.use rfl (K0.ca "java/lang/IllegalArgumentException" (List.mem_of_getElem? (i := 0) rfl))) (vx_c (va_Nw.use rfl (K0.dc _ (List.mem_of_getElem? (i := 0) rfl))) (vx_c (va_Nw.use rfl (K0.dc _ (List.mem_of_getElem? (i := 1) rfl))) (vx_c (va_Nw.use rfl (K0.dc _ (List.mem_of_getElem? (i := 2) rfl))) vx_n))))
theorem thr_0 {p : Program} {l : Launch} {e : Env} {s : State} {m : MethodId} {args : Array Value} {below : List Frame} {meth : Method} {c : Code} {H : Heap} {locs : List Loc} {cc : ByteArray} {nL pc kk : Nat} {ret : Option FieldType} {ls : Array Slot} {D : va_G} {cyI : ClassId} {ad : Nat → Nat} {I : Nat → Int32} {A : Nat → Nat → Int32} {ix : Nat} {text : String} {vd : Bool} {out : OutT}
    (E : EX p s m args meth c cc nL RX6 ret) (hfl : l.stackTraces = false) (X0 : ∀ x ∈ c.exceptionTable.toList, False) (K0 : KC D cyI ad s s.heap) (P : va_P D classes (cw cyI ad I A) H) (S : va_S (InN 44 ad) s.heap H locs) (hs : (ix, text) ∈ strsC) (hls : ls.size = nL) (hk : Nat.ble 7 kk = true)
    (d0 : decode cc pc = .ok (.new 60, 3)) (d3 : decode cc (pc + 3) = .ok (.dup, 1)) (d4 : decode cc (pc + 4) = .ok (.ldc ix, 2)) (d6 : decode cc (pc + 6) = .ok (.invokespecial 64, 3)) (d9 : decode cc (pc + 9) = .ok (.athrow, 1)) (ho : out = .inr (0, I, A)) :
    W p l e (rmX kk) s m args below meth c H locs 0 0 (vx_MQ below (QT D cyI ad vd out) (XT D cyI ad out) args s 1 6 (InN 44 ad)) (F0 m pc ls []) := by
  obtain ⟨sa, hsa⟩ := K0.st _ hs
  have hk7 := Nat.le_of_ble_eq_true hk
  exact vx_throwS (names := excC) (A := InN 44 ad) E.hx E.hb hfl E.ho (by decide +kernel) (by decide +kernel) (E.ht _ kCL_X6_60) (E.ht _ kIN_E0) hsa (atE0 E K0) (by decide +kernel) K0.us K0.ss S (hls.trans E.hm.symm) d0 d3 d4 d6 d9 (fun x hx => (X0 x hx).elim)
    (show 2 + 3 < kk by omega) (show 0 + (13 * (2 + 1) + 43) ≤ 40 * kk by omega) (Nat.le_refl 1) (Nat.le_refl 6) E.hk
    (fun t hW h1 h2 => ⟨0, I, A, ho, rfl, P_ext P h2, Nat.le_trans S.1 h1, fun q h3 h4 => by rw [h2 q (Nat.lt_of_lt_of_le h3 S.1)]; exact S.2.1 q h3 h4⟩) S.2.2 (Nat.le_refl 1) (Nat.le_refl 6)
theorem kIN_E1 : (Cond.initialized "java/lang/IndexOutOfBoundsException") ∈ TA := ta 42 (by decide +kernel) rfl
theorem gdE1 : ∀ w ∈ (vx_atS RX6 85 "java/lang/IndexOutOfBoundsException" excC).filter goodWord, w ∈ TA := by decide +kernel
theorem atE1 {p : Program} {s : State} {m : MethodId} {args : Array Value} {meth : Method} {c : Code} {cc : ByteArray} {nL : Nat} {ret : Option FieldType} {D : va_G} {cyI : ClassId} {ad : Nat → Nat} {H : Heap} (E : EX p s m args meth c cc nL RX6 ret) (K0 : KC D cyI ad s H) : ∀ w ∈ vx_atS RX6 85 "java/lang/IndexOutOfBoundsException" excC, w.before args s = true :=
  vx_hat (B := [Cond.castable "java/lang/IndexOutOfBoundsException" "java/lang/IndexOutOfBoundsException", .declares (Bundle.initS "java/lang/RuntimeException"), .declares (Bundle.initS "java/lang/Exception"), .declares (Bundle.initS "java/lang/Throwable")]) (fun w hw => E.ht w (gdE1 w hw)) (by decide +kernel) (vx_c (va_Nw.use rfl (K0.ca "java/lang/IndexOutOfBoundsException" (List.mem_of_getElem? (i := 1) rfl))) (vx_c (va_Nw.use rfl (K0.dc _ (List.mem_of_getElem? (i := 0) rfl))) (vx_c (va_Nw.use rfl (K0.dc _ (List.mem_of_getElem? (i := 1) rfl))) (vx_c (va_Nw.use rfl (K0.dc _ (List.mem_of_getElem? (i := 2) rfl))) vx_n))))
theorem thr_1 {p : Program} {l : Launch} {e : Env} {s : State} {m : MethodId} {args : Array Value} {below : List Frame} {meth : Method} {c : Code} {H : Heap} {locs : List Loc} {cc : ByteArray} {nL pc kk : Nat} {ret : Option FieldType} {ls : Array Slot} {D : va_G} {cyI : ClassId} {ad : Nat → Nat} {I : Nat → Int32} {A : Nat → Nat → Int32} {ix : Nat} {text : String} {vd : Bool} {out : OutT}
    (E : EX p s m args meth c cc nL RX6 ret) (hfl : l.stackTraces = false) (X0 : ∀ x ∈ c.exceptionTable.toList, False) (K0 : KC D cyI ad s s.heap) (P : va_P D classes (cw cyI ad I A) H) (S : va_S (InN 44 ad) s.heap H locs) (hs : (ix, text) ∈ strsC) (hls : ls.size = nL) (hk : Nat.ble 7 kk = true)
    (d0 : decode cc pc = .ok (.new 81, 3)) (d3 : decode cc (pc + 3) = .ok (.dup, 1)) (d4 : decode cc (pc + 4) = .ok (.ldc ix, 2)) (d6 : decode cc (pc + 6) = .ok (.invokespecial 85, 3)) (d9 : decode cc (pc + 9) = .ok (.athrow, 1)) (ho : out = .inr (1, I, A)) :
    W p l e (rmX kk) s m args below meth c H locs 0 0 (vx_MQ below (QT D cyI ad vd out) (XT D cyI ad out) args s 1 6 (InN 44 ad)) (F0 m pc ls []) := by
  obtain ⟨sa, hsa⟩ := K0.st _ hs
  have hk7 := Nat.le_of_ble_eq_true hk
  exact vx_throwS (names := excC) (A := InN 44 ad) E.hx E.hb hfl E.ho (by decide +kernel) (by decide +kernel) (E.ht _ kCL_X6_81) (E.ht _ kIN_E1) hsa (atE1 E K0) (by decide +kernel) K0.us K0.ss S (hls.trans E.hm.symm) d0 d3 d4 d6 d9 (fun x hx => (X0 x hx).elim)
    (show 2 + 3 < kk by omega) (show 0 + (13 * (2 + 1) + 43) ≤ 40 * kk by omega) (Nat.le_refl 1) (Nat.le_refl 6) E.hk
    (fun t hW h1 h2 => ⟨1, I, A, ho, rfl, P_ext P h2, Nat.le_trans S.1 h1, fun q h3 h4 => by rw [h2 q (Nat.lt_of_lt_of_le h3 S.1)]; exact S.2.1 q h3 h4⟩) S.2.2 (Nat.le_refl 1) (Nat.le_refl 6)
theorem kIN_E2 : (Cond.initialized "java/lang/IllegalStateException") ∈ TA := ta 43 (by decide +kernel) rfl
theorem gdE2 : ∀ w ∈ (vx_atS RX6 99 "java/lang/IllegalStateException" excC).filter goodWord, w ∈ TA := by decide +kernel
theorem atE2 {p : Program} {s : State} {m : MethodId} {args : Array Value} {meth : Method} {c : Code} {cc : ByteArray} {nL : Nat} {ret : Option FieldType} {D : va_G} {cyI : ClassId} {ad : Nat → Nat} {H : Heap} (E : EX p s m args meth c cc nL RX6 ret) (K0 : KC D cyI ad s H) : ∀ w ∈ vx_atS RX6 99 "java/lang/IllegalStateException" excC, w.before args s = true :=
  vx_hat (B := [Cond.castable "java/lang/IllegalStateException" "java/lang/IllegalStateException", .declares (Bundle.initS "java/lang/RuntimeException"), .declares (Bundle.initS "java/lang/Exception"), .declares (Bundle.initS "java/lang/Throwable")]) (fun w hw => E.ht w (gdE2 w hw)) (by decide +kernel) (vx_c (va_Nw.use rfl (K0.ca "java/lang/IllegalStateException" (List.mem_of_getElem? (i := 2) rfl))) (vx_c (va_Nw.use rfl (K0.dc _ (List.mem_of_getElem? (i := 0) rfl))) (vx_c (va_Nw.use rfl (K0.dc _ (List.mem_of_getElem? (i := 1) rfl))) (vx_c (va_Nw.use rfl (K0.dc _ (List.mem_of_getElem? (i := 2) rfl))) vx_n))))
theorem thr_2 {p : Program} {l : Launch} {e : Env} {s : State} {m : MethodId} {args : Array Value} {below : List Frame} {meth : Method} {c : Code} {H : Heap} {locs : List Loc} {cc : ByteArray} {nL pc kk : Nat} {ret : Option FieldType} {ls : Array Slot} {D : va_G} {cyI : ClassId} {ad : Nat → Nat} {I : Nat → Int32} {A : Nat → Nat → Int32} {ix : Nat} {text : String} {vd : Bool} {out : OutT}
    (E : EX p s m args meth c cc nL RX6 ret) (hfl : l.stackTraces = false) (X0 : ∀ x ∈ c.exceptionTable.toList, False) (K0 : KC D cyI ad s s.heap) (P : va_P D classes (cw cyI ad I A) H) (S : va_S (InN 44 ad) s.heap H locs) (hs : (ix, text) ∈ strsC) (hls : ls.size = nL) (hk : Nat.ble 7 kk = true)
    (d0 : decode cc pc = .ok (.new 95, 3)) (d3 : decode cc (pc + 3) = .ok (.dup, 1)) (d4 : decode cc (pc + 4) = .ok (.ldc ix, 2)) (d6 : decode cc (pc + 6) = .ok (.invokespecial 99, 3)) (d9 : decode cc (pc + 9) = .ok (.athrow, 1)) (ho : out = .inr (2, I, A)) :
    W p l e (rmX kk) s m args below meth c H locs 0 0 (vx_MQ below (QT D cyI ad vd out) (XT D cyI ad out) args s 1 6 (InN 44 ad)) (F0 m pc ls []) := by
  obtain ⟨sa, hsa⟩ := K0.st _ hs
  have hk7 := Nat.le_of_ble_eq_true hk
  exact vx_throwS (names := excC) (A := InN 44 ad) E.hx E.hb hfl E.ho (by decide +kernel) (by decide +kernel) (E.ht _ kCL_X6_95) (E.ht _ kIN_E2) hsa (atE2 E K0) (by decide +kernel) K0.us K0.ss S (hls.trans E.hm.symm) d0 d3 d4 d6 d9 (fun x hx => (X0 x hx).elim)
    (show 2 + 3 < kk by omega) (show 0 + (13 * (2 + 1) + 43) ≤ 40 * kk by omega) (Nat.le_refl 1) (Nat.le_refl 6) E.hk
    (fun t hW h1 h2 => ⟨2, I, A, ho, rfl, P_ext P h2, Nat.le_trans S.1 h1, fun q h3 h4 => by rw [h2 q (Nat.lt_of_lt_of_le h3 S.1)]; exact S.2.1 q h3 h4⟩) S.2.2 (Nat.le_refl 1) (Nat.le_refl 6)
/-- as Mof, for a method of a class of which the machine runs others by itself -/
theorem MofF {l : Launch} {y : MethodName} {b : ByteArray} {n : Nat} {r : Option FieldType} {rm : Room} {As : List Value} {H : Heap} {KX : Ctx} {Qc : Array Value → State → Outcome → State → Prop} {mc ms : Nat} {free : Addr → Prop} {own : String} (hy : plainFor y = true) (ho : y.cls = own) (hn : Nat.ble (lg_sl As).length n = true)
    (body : ∀ (p : Program) (e : Env) (s : State) (m : MethodId) (args : Array Value) (below : List Frame) (meth : Method) (c : Code) (ls : Array Slot), EX p s m args meth c b n own r → s.heap = H → KX s s.heap → lv_has ls n (lv_args 0 As) → W p l e rm s m args below meth c s.heap [] 0 0 (MQ below Qc args s mc ms free) (F0 m 0 ls [])) :
    Met l y (.code y b n r :: TA) rm (PX As H KX) Qc mc ms free := by
  refine MetFree.of_bodySF (code := b) (maxLocals := n) (ret := r) hy ?_ ?_
  · intro args s m h hn
    obtain ⟨meth, c, h1, h2, h3, h4, h5, h6, -, -⟩ := Cond.code_spec hn (atoms_spec (ws := (.code y b n r :: TA : List Cond)) h _ List.mem_cons_self)
    exact ⟨meth, c, h1, h2, h3, h4, h5, h6⟩
  · intro p e s m args below meth c s₁ B hml hv _
    obtain ⟨rfl, hH, hK⟩ := hv
    have hts : ∀ w ∈ (.code y b n r :: TA : List Cond), w.before As.toArray s = true := atoms_spec (ws := (.code y b n r :: TA : List Cond)) B.pre
    have hown : s.vm.findClass own = some m.cls := by rw [← ho]; exact findClass_of_methodNamed B.named
    have hh0 : s₁.heap = s.heap := by rw [B.state]; rfl
    have hl := lv_entry As (n := n) (Nat.le_of_ble_eq_true hn)
    have k := body p e s m As.toArray below meth c _ ⟨B.exec, B.bytes, hml, hown, fun w hw => hts w (List.mem_cons_of_mem _ hw), B.returns, B.notSynchronized⟩ hH (by rw [hH]; exact hK) hl
    rw [← lg_entry_eq] at k
    obtain ⟨t, a1, o, b1, b2, b3⟩ := k s₁ hh0 (Stand.of_body B)
    exact ⟨t, o, a1, b1, b2, ⟨b3.1, b3.2⟩⟩
end THROW

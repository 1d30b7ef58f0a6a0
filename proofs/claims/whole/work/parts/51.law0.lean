section LAWA
/-- as KC, for any region that may be written -/
def KCg (D : va_G) (cyI : ClassId) (Ar : Nat → Prop) : Ctx := fun U H =>
  va_K D classes [(cyI, .int)] U ∧ (∃ t, va_Z "NemaGrid" "GREYS" "[I" (.ref t) Ar U H ∧ va_T .int t 8 (fun j => .int (greyV j)) Ar U H) ∧
  vx_Zq Bundle.tN "UNASSIGNED_STACK" Bundle.steD Ar U H ∧ vx_Zq Bundle.tN "SUPPRESSED_SENTINEL" Bundle.listD Ar U H ∧
  (∀ q ∈ strsC, ∃ a, vk_R RX6 q.1 q.2 a U) ∧ (∀ q ∈ nestM, va_Nw (.methodLinkNest q.1 q.2.1 q.2.2.1 q.2.2.2) U) ∧ (∀ q ∈ nestF, va_Nw (.fieldLinkNest q.1 q.2.1 q.2.2.1 q.2.2.2.1 q.2.2.2.2.1 q.2.2.2.2.2) U) ∧
  (∀ q ∈ excN, va_Nw (.castable q q) U) ∧ (∀ q ∈ excP, va_Nc q.1 q.2 U) ∧ (∀ q ∈ dclN, va_Nw (.declares ⟨q, "<init>", "(Ljava/lang/String;)V"⟩) U)
theorem KCg.to {D : va_G} {cyI : ClassId} {ad : Nat → Nat} {U : State} {H : Heap} (h : KCg D cyI (InN 44 ad) U H) : KC D cyI ad U H := h
theorem KCg.narrow {D : va_G} {cyI : ClassId} {A B : Nat → Prop} {U : State} {H : Heap} (h : KCg D cyI A U H) (hAB : ∀ q, B q → A q) : KCg D cyI B U H := by
  obtain ⟨h1, ⟨t, h2, h3⟩, h4, h5, h6⟩ := h
  exact ⟨h1, ⟨t, h2.narrow hAB, h3.narrow hAB⟩, h4.narrow hAB, h5.narrow hAB, h6⟩
theorem KCg.at {D : va_G} {cyI : ClassId} {A : Nat → Prop} {s : State} {H0 H : Heap} {locs : List Loc} (h : KCg D cyI A s H0) (hS : va_S A H0 H locs) : KCg D cyI A s H := by
  obtain ⟨h1, ⟨t, h2, h3⟩, h4, h5, h6⟩ := h
  exact ⟨h1, ⟨t, h2.kept hS.2.1, h3.kept hS.2.1⟩, h4.kept hS.2.1, h5.kept hS.2.1, h6⟩
theorem KCg.warm {D : va_G} {cyI : ClassId} {A : Nat → Prop} {s U : State} {H : Heap} (hW : s.WarmedH U.vm) (h : KCg D cyI A s H) : KCg D cyI A U H := by
  obtain ⟨h1, ⟨t, h2, h3⟩, h4, h5, h6, h7, h8, h9, h10, h11⟩ := h
  have hA := hW.alike
  exact ⟨va_K.moved hA h1, ⟨t, h2.moved hA, h3.moved hA⟩, h4.moved hA, h5.moved hA, fun q hq => (h6 q hq).elim fun a ha => ⟨a, vk_R.warm hW ha⟩, fun q hq => va_Nw.warmM hW (h7 q hq), fun q hq => va_Nw.warmF hW (h8 q hq), fun q hq => va_Nw.warmC hW (h9 q hq), fun q hq => nc_moved hA (h10 q hq), fun q hq => va_Nw.warmD hW (h11 q hq)⟩
theorem KCg_blind {D : va_G} {cyI : ClassId} {A : Nat → Prop} : Blind (KCg D cyI A) := by
  intro u U H hv h
  obtain ⟨h1, ⟨t, h2, h3⟩, h4, h5, h6, h7, h8, h9, h10, h11⟩ := h
  have hA := alike_eq hv
  exact ⟨va_K.moved hA h1, ⟨t, h2.moved hA, h3.moved hA⟩, h4.moved hA, h5.moved hA, fun q hq => (h6 q hq).elim fun a ha => ⟨a, vk_R.same hv ha⟩, fun q hq => va_Nw.same rfl hv.symm (h7 q hq), fun q hq => va_Nw.same rfl hv.symm (h8 q hq), fun q hq => va_Nw.same rfl hv.symm (h9 q hq), fun q hq => nc_moved hA (h10 q hq), fun q hq => va_Nw.same rfl hv.symm (h11 q hq)⟩
theorem P_app {D : va_G} {cl : List vw_C} {w1 w2 : va_W} {H : Heap} (h1 : va_P D cl w1 H) (h2 : va_P D cl w2 H) : va_P D cl (w1 ++ w2) H := by
  intro k q hq
  by_cases hk : k < w1.length
  · rw [List.getElem?_append_left hk] at hq
    exact h1 k q hq
  · rw [List.getElem?_append_right (by omega)] at hq
    exact h2 _ q hq
theorem P_keep {D : va_G} {cl : List vw_C} {ws : va_W} {H H1 : Heap} {A : Nat → Prop} (P : va_P D cl ws H) (hk : ∀ q : Nat, q < H.size → ¬ A q → H1[q]? = H[q]?) (hn : ∀ (k : Nat) (q : Nat × va_E), ws[k]? = some q → ¬ A q.1) : va_P D cl ws H1 := fun k q hq => (P k q hq).kept (hk q.1 (P k q hq).lt (hn k q hq))
/-- the cells of the class and the law's own array -/
def InL (ad : Nat → Nat) (o : Nat) : Nat → Prop := fun q => InN 44 ad q ∨ q = o
theorem cw_in {cyI : ClassId} {ad : Nat → Nat} {I : Nat → Int32} {A : Nat → Nat → Int32} {k : Nat} {q : Nat × va_E} (h : (cw cyI ad I A)[k]? = some q) : InN 44 ad q.1 := by
  have h1 : ((cw cyI ad I A).map (·.1))[k]? = some q.1 := by rw [List.getElem?_map, h]; rfl
  rw [show (cw cyI ad I A).map (·.1) = (List.range 44).map ad from rfl, List.getElem?_map] at h1
  by_cases hi : k < 44
  · rw [List.getElem?_range hi] at h1
    exact ⟨k, hi, (Option.some.inj h1).symm⟩
  · rw [List.getElem?_eq_none (by simpa using Nat.not_lt.mp hi)] at h1
    cases h1
theorem mw_in {cyI : ClassId} {ad : Nat → Nat} {I : Nat → Int32} {A : Nat → Nat → Int32} {k : Nat} {q : Nat × va_E} (h : (mw cyI ad I A)[k]? = some q) : InN 16 ad q.1 := by
  have h1 : ((mw cyI ad I A).map (·.1))[k]? = some q.1 := by rw [List.getElem?_map, h]; rfl
  rw [show (mw cyI ad I A).map (·.1) = (List.range 16).map ad from rfl, List.getElem?_map] at h1
  by_cases hi : k < 16
  · rw [List.getElem?_range hi] at h1
    exact ⟨k, hi, (Option.some.inj h1).symm⟩
  · rw [List.getElem?_eq_none (by simpa using Nat.not_lt.mp hi)] at h1
    cases h1
theorem one_in {o : Nat} {x : va_E} {k : Nat} {q : Nat × va_E} (h : ([(o, x)] : va_W)[k]? = some q) : q.1 = o := by
  cases k with
  | zero => cases h; rfl
  | succ k => cases h
theorem one_D {A : Nat → Prop} {o : Nat} {x : va_E} (h : A o) : va_D A [(o, x)] := by
  refine ⟨fun i j p q hi hj _ => ?_, fun k q hq => ?_⟩
  · cases i with
    | zero => cases j with
      | zero => rfl
      | succ j => cases hj
    | succ i => cases hi
  · rw [one_in hq]; exact h
/-- how a wrapper ends, as numbers -/
def QD (vd : Bool) (L : List (Nat × Nat)) (out : OutT) (z : Int32) (I : Nat → Int32) (A : Nat → Nat → Int32) (f : Nat → Int64) : Prop :=
  (∃ v, out = .inl (v, I, A) ∧ z = 0 ∧ (vd = false → f 0 = v.toInt64)) ∨ (∃ k c, out = .inr (k, I, A) ∧ (k, c) ∈ L ∧ z = nI c)
def QL (D : va_G) (cyI cyL : ClassId) (ad : Nat → Nat) (o : Nat) (vd : Bool) (L : List (Nat × Nat)) (out : OutT) : Array Value → State → Outcome → State → Prop := fun _ st oc t =>
  ∃ (z : Int32) (I : Nat → Int32) (A : Nat → Nat → Int32) (f : Nat → Int64), oc = .returned (some (.int z)) ∧ va_P D classes (cw cyI ad I A) t.heap ∧ va_P D classes [(o, .inl (cyL, 1, .inr (.inl f)))] t.heap ∧ QD vd L out z I A f ∧ va_F (InL ad o) st t
/-- what a wrapper needs of the state -/
def KL (D : va_G) (cyI cyL : ClassId) (ad : Nat → Nat) : Ctx := fun U H => KC D cyI ad U H ∧ va_K D classes [(cyI, .int), (cyL, .long)] U
theorem KL_blind {D : va_G} {cyI cyL : ClassId} {ad : Nat → Nat} : Blind (KL D cyI cyL ad) := fun u U H hv h => ⟨KC_blind u U H hv h.1, va_K.moved (alike_eq hv) h.2⟩
section
variable {p : Program} {l : Launch} {e : Env} {R : Room} {s : State} {m : MethodId} {args : Array Value} {below : List Frame} {meth : Method} {c : Code} {H H0 : Heap} {locs : List Loc} {cells slots : Nat} {Q : State → Prop}
variable {cc : ByteArray} {nL pc : Nat} {own : String} {ret : Option FieldType} {ls : Array Slot} {rest st0 : List Value} {D : va_G} {cyI cyL : ClassId} {ad : Nat → Nat}
theorem rw_call2 {A0 A1 : Nat → Prop} {v : Option Value} {P1 : Heap → Prop} {a : Array Value} (hr : va_Run p l e R s m args below meth c H locs cells slots 0 0 (F0 m pc ls st0) rest (Qrw A1 v P1 a) A1) (hS : va_S A0 H0 H locs) (hA : ∀ q, A1 q → A0 q)
    (kk : ∀ (H1 : Heap) (locs1 : List Loc), P1 H1 → H.size ≤ H1.size → (∀ q : Nat, q < H.size → ¬ A1 q → H1[q]? = H[q]?) → va_S A0 H0 H1 locs1 → W p l e R s m args below meth c H1 locs1 cells slots Q (F0 m (pc + 3) ls (v.toList ++ rest))) : W p l e R s m args below meth c H locs cells slots Q (F0 m pc ls st0) := by
  intro T hT X
  obtain ⟨v1, st₀, t, T', L, h0, X', hL, e1, e2, ⟨hv, hp, hF⟩, st⟩ := hr T hT X
  cases hv
  obtain ⟨k1, k2, k3⟩ := vx_keep h0 e1 hS (fun q _ h => hA q h) hA hL hF
  obtain ⟨t2, a1, b1⟩ := kk T'.heap (locs ++ L) (by rw [e1]; exact hp) k1 k2 k3 T' rfl X'
  exact ⟨t2, st t2 a1, b1⟩
theorem cv_rw2 {y : MethodName} {b : ByteArray} {n k idx N o : Nat} {r : Option FieldType} {As : List Value} {KX : Ctx} {C : String} {A0 A1 : Nat → Prop} {v : Option Value} {P1 : Heap → Prop} (E : EX p s m args meth c cc nL own ret) (hM : MRW l y b n r k (.ref o :: As) H KX A1 v P1) (g : GoodIn TA (wsV own idx C y (.code y b n r :: TA))) (hC : y.cls = C) (hd : Dsc y N) (hN : As.length = N) (hB : Blind KX) (hW : ∀ U : State, U.heap = H → s.WarmedH U.vm → KX U H)
    (hS : va_S A0 H0 H locs) (hA : ∀ q, A1 q → A0 q) (hrec : Recv s H o C) (hR : RmOk R cells slots k n) (hls : ls.size = nL) (hst : st0 = As.reverse ++ .ref o :: rest) (hro : (rest.map fun v => v.category).sum ≤ 8) (hdg : decode cc pc = .ok (.invokevirtual idx, 3))
    (kk : ∀ (H1 : Heap) (locs1 : List Loc), P1 H1 → H.size ≤ H1.size → (∀ q : Nat, q < H.size → ¬ A1 q → H1[q]? = H[q]?) → va_S A0 H0 H1 locs1 → W p l e R s m args below meth c H1 locs1 cells slots Q (F0 m (pc + 3) ls (v.toList ++ rest))) : W p l e R s m args below meth c H locs cells slots Q (F0 m pc ls st0) := by
  subst hst
  exact rw_call2 (va_runV (As := As) (rest := rest) E.fix hM (cwV N E.ht g rfl rfl rfl ⟨hC, hd⟩ ⟨hR.1, hR.2.1⟩) ⟨PX_blind hB, hrec, fun U hU hW9 => ⟨rfl, hU, hW U hU hW9⟩⟩ rfl hN hls rfl (lv_room hro) hdg ⟨hR.2.2.1, hR.2.2.2⟩) hS hA kk
/-- a call of the class's face, which may throw -/
theorem vt_call {A0 : Nat → Prop} {vd : Bool} {out : OutT} {a : Array Value} (hr : vx_Run p l e R s m args below meth c H locs cells slots 1 6 (F0 m pc ls st0) rest (QT D cyI ad vd out a) (XT D cyI ad out) (InN 44 ad)) (hS : va_S A0 H0 H locs) (hA : ∀ q, InN 44 ad q → A0 q)
    (kx : ∀ (k : Nat) (I : Nat → Int32) (A : Nat → Nat → Int32) (ce : Cell) (q9 : Addr) (H1 : Heap) (locs1 : List Loc), out = .inr (k, I, A) → va_P D classes (cw cyI ad I A) H1 → (∀ q : Nat, q < H.size → ¬ InN 44 ad q → H1[q]? = H[q]?) → va_S A0 H0 H1 locs1 → H1[q9]? = some ce → ce.vm = .none → s.vm.findClass (exN k) = some ce.cls → vx_W p l e R s m args below meth c H1 locs1 (cells + 1) (slots + 6) Q (F0 m pc ls rest) q9)
    (kk : ∀ (r : Int32) (I : Nat → Int32) (A : Nat → Nat → Int32) (H1 : Heap) (locs1 : List Loc), out = .inl (r, I, A) → va_P D classes (cw cyI ad I A) H1 → (∀ q : Nat, q < H.size → ¬ InN 44 ad q → H1[q]? = H[q]?) → va_S A0 H0 H1 locs1 → W p l e R s m args below meth c H1 locs1 (cells + 1) (slots + 6) Q (F0 m (pc + 3) ls ((if vd then none else some (.int r) : Option Value).toList ++ rest))) : W p l e R s m args below meth c H locs cells slots Q (F0 m pc ls st0) := by
  intro T hT X
  rcases hr T hT X with ⟨v, st₀, t, T', L, h0, X', hL, e1, e2, ⟨r, I, A, ho, hv, hP, hF⟩, st⟩ | ⟨q, st₀, t, T', L, E, ce, h0, X', hL, e1, e2, ⟨k, I, A, ho, rfl, hP, hF⟩, hce, hcv, hcl, st⟩
  · cases hv
    obtain ⟨k1, k2, k3⟩ := vx_keep h0 e1 hS (fun q _ h => hA q h) hA hL hF
    obtain ⟨t2, a1, b1⟩ := kk r I A T'.heap (locs ++ L) ho (by rw [e1]; exact hP) k2 k3 T' rfl X'
    exact ⟨t2, st t2 a1, b1⟩
  · obtain ⟨k1, k2, k3⟩ := vx_keep h0 e1 hS (fun q _ h => hA q h) hA hL hF
    obtain ⟨t2, a1, b1⟩ := kx k I A ce q T'.heap (locs ++ L) ho (by rw [e1]; exact hP) k2 k3 (by rw [e1]; exact hce) hcv hcl T' rfl X'
    exact ⟨t2, st.trans a1, b1⟩
/-- a call of a wrapper -/
theorem vl_call {A0 : Nat → Prop} {vd : Bool} {L9 : List (Nat × Nat)} {out : OutT} {o : Nat} {a : Array Value} (hr : va_Run p l e R s m args below meth c H locs cells slots 1 6 (F0 m pc ls st0) rest (QL D cyI cyL ad o vd L9 out a) (InL ad o)) (hS : va_S A0 H0 H locs) (hA : ∀ q, InL ad o q → A0 q)
    (kk : ∀ (z : Int32) (I : Nat → Int32) (A : Nat → Nat → Int32) (f : Nat → Int64) (H1 : Heap) (locs1 : List Loc), va_P D classes (cw cyI ad I A) H1 → va_P D classes [(o, .inl (cyL, 1, .inr (.inl f)))] H1 → QD vd L9 out z I A f → (∀ q : Nat, q < H.size → ¬ InL ad o q → H1[q]? = H[q]?) → va_S A0 H0 H1 locs1 → W p l e R s m args below meth c H1 locs1 (cells + 1) (slots + 6) Q (F0 m (pc + 3) ls (.int z :: rest))) : W p l e R s m args below meth c H locs cells slots Q (F0 m pc ls st0) := by
  intro T hT X
  obtain ⟨v, st₀, t, T', L, h0, X', hL, e1, e2, ⟨z, I, A, f, hv, hP, hPo, hq, hF⟩, st⟩ := hr T hT X
  cases hv
  obtain ⟨k1, k2, k3⟩ := vx_keep h0 e1 hS (fun q _ h => hA q h) hA hL hF
  obtain ⟨t2, a1, b1⟩ := kk z I A f T'.heap (locs ++ L) (by rw [e1]; exact hP) (by rw [e1]; exact hPo) hq k2 k3 T' rfl X'
  exact ⟨t2, st t2 a1, b1⟩
end
/-- class and reference together, behind a call -/
theorem good_use {vd : Bool} {L : List (Nat × Nat)} {out : OutT} {r z : Int32} {I J : Nat → Int32} {A B : Nat → Nat → Int32} {f : Nat → Int64} (hL : ∀ q ∈ L, ∀ q' ∈ L, q.1 = q'.1 → q.2 = q'.2) (hL0 : ∀ q ∈ L, 0 < q.2 ∧ q.2 < 9)
    (G : Good L (some out) (some (r, J, B))) (q : QD vd L out z I A f) : J 0 = z ∧ (z = 0 → vd = false → f 0 = r.toInt64) ∧ Rel I A J B := by
  rcases G with ⟨v, I1, A1, J1, B1, e1, e2, e3, e4⟩ | ⟨k, c, r1, I1, A1, J1, B1, e1, e2, e3, e4, e5⟩
  · cases e1
    cases e2
    rcases q with ⟨v2, q1, q2, q3⟩ | ⟨k, c, q1, -⟩
    · cases q1
      exact ⟨e3.trans q2.symm, fun _ => q3, e4⟩
    · cases q1
  · cases e1
    cases e2
    rcases q with ⟨v2, q1, -⟩ | ⟨k2, c2, q1, q2, q3⟩
    · cases q1
    · cases q1
      have : c = c2 := hL _ e3 _ q2 rfl
      subst this
      refine ⟨e4.trans q3.symm, fun h => ?_, e5⟩
      have := hL0 _ e3
      exact absurd (q3.symm.trans h) (nI_ne0 this.1 (by have := this.2; omega))
theorem goodG_use {out : OutT} {z : Int32} {I J : Nat → Int32} {A B : Nat → Nat → Int32} {f : Nat → Int64} (G : GoodG (some out) (some (J, B))) (q : QD true [(0, 1)] out z I A f) : J 0 = z ∧ Rel I A J B := by
  rcases G with ⟨v, I1, A1, J1, B1, e1, e2, e3, e4⟩ | ⟨k, c, I1, A1, J1, B1, e1, e2, e3, e4, e5⟩
  · cases e1
    cases e2
    rcases q with ⟨v2, q1, q2, q3⟩ | ⟨k, c, q1, -⟩
    · cases q1
      exact ⟨e3.trans q2.symm, e4⟩
    · cases q1
  · cases e1
    cases e2
    rcases q with ⟨v2, q1, -⟩ | ⟨k2, c2, q1, q2, q3⟩
    · cases q1
    · cases q1
      have hL : ∀ q ∈ [((0 : Nat), (1 : Nat))], ∀ q' ∈ [((0 : Nat), (1 : Nat))], q.1 = q'.1 → q.2 = q'.2 := by decide
      have : c = c2 := hL _ e3 _ q2 rfl
      subst this
      exact ⟨e4.trans q3.symm, e5⟩
end LAWA

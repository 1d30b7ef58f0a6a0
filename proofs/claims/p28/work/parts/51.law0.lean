section LAWA
theorem P_app {D : va_G} {cl : List vw_C} {w1 w2 : va_W} {H : Heap} (h1 : va_P D cl w1 H) (h2 : va_P D cl w2 H) : va_P D cl (w1 ++ w2) H := by
  intro k q hq
  by_cases hk : k < w1.length
  · rw [List.getElem?_append_left hk] at hq
    exact h1 k q hq
  · rw [List.getElem?_append_right (by omega)] at hq
    exact h2 _ q hq
theorem P_keep {D : va_G} {cl : List vw_C} {ws : va_W} {H H1 : Heap} {A : Nat → Prop} (P : va_P D cl ws H) (hk : ∀ q : Nat, q < H.size → ¬ A q → H1[q]? = H[q]?) (hn : ∀ (k : Nat) (q : Nat × va_E), ws[k]? = some q → ¬ A q.1) : va_P D cl ws H1 := fun k q hq => (P k q hq).kept (hk q.1 (P k q hq).lt (hn k q hq))
theorem cw_in {cyI : ClassId} {ad : Nat → Nat} {I : Nat → Int32} {A : Nat → Nat → Int32} {k : Nat} {q : Nat × va_E} (h : (cw cyI ad I A)[k]? = some q) : InN 44 ad q.1 := by
  have h1 : ((cw cyI ad I A).map (·.1))[k]? = some q.1 := by rw [List.getElem?_map, h]; rfl
  rw [show (cw cyI ad I A).map (·.1) = (List.range 44).map ad from rfl, List.getElem?_map] at h1
  by_cases hi : k < 44
  · rw [List.getElem?_range hi] at h1
    exact ⟨k, hi, (Option.some.inj h1).symm⟩
  · rw [List.getElem?_eq_none (by simpa using Nat.not_lt.mp hi)] at h1
    cases h1
theorem D_mono {A B : Nat → Prop} {ws : va_W} (h : va_D A ws) (hAB : ∀ q, A q → B q) : va_D B ws := ⟨h.1, fun k q hq => hAB _ (h.2 k q hq)⟩
theorem P_left {D : va_G} {cl : List vw_C} {w1 w2 : va_W} {H : Heap} (h : va_P D cl (w1 ++ w2) H) : va_P D cl w1 H := fun k q hq => h k q (by rw [List.getElem?_append_left (List.getElem?_eq_some_iff.mp hq).1]; exact hq)
theorem P_right {D : va_G} {cl : List vw_C} {w1 w2 : va_W} {H : Heap} (h : va_P D cl (w1 ++ w2) H) : va_P D cl w2 H := fun k q hq => h (w1.length + k) q (by rw [List.getElem?_append_right (by omega), Nat.add_sub_cancel_left]; exact hq)
theorem cw_at {cyI : ClassId} {ad : Nat → Nat} {I : Nat → Int32} {A : Nat → Nat → Int32} {i : Nat} (hi : i < 44) : ∃ x, (cw cyI ad I A)[i]? = some (ad i, x) := by
  have h1 : ((cw cyI ad I A).map (·.1))[i]? = some (ad i) := by
    rw [show (cw cyI ad I A).map (·.1) = (List.range 44).map ad from rfl, List.getElem?_map, List.getElem?_range hi]
    rfl
  rw [List.getElem?_map] at h1
  cases hq : (cw cyI ad I A)[i]? with
  | none => rw [hq] at h1; cases h1
  | some q =>
    rw [hq] at h1
    exact ⟨q.2, by rw [← Option.some.inj h1]⟩
theorem D_apart {A : Nat → Prop} {w1 w2 : va_W} (h : va_D A (w1 ++ w2)) {i j : Nat} {p q : Nat × va_E} (h1 : w1[i]? = some p) (h2 : w2[j]? = some q) : p.1 ≠ q.1 := fun e => by
  have hi : i < w1.length := (List.getElem?_eq_some_iff.mp h1).1
  have := h.1 i (w1.length + j) p q (by rw [List.getElem?_append_left hi]; exact h1) (by rw [List.getElem?_append_right (by omega), Nat.add_sub_cancel_left]; exact h2) e
  omega
theorem D_left {A : Nat → Prop} {w1 w2 : va_W} (h : va_D A (w1 ++ w2)) : va_D A w1 :=
  ⟨fun i j p q hi hj e => h.1 i j p q (by rw [List.getElem?_append_left (List.getElem?_eq_some_iff.mp hi).1]; exact hi) (by rw [List.getElem?_append_left (List.getElem?_eq_some_iff.mp hj).1]; exact hj) e, fun k q hq => h.2 k q (by rw [List.getElem?_append_left (List.getElem?_eq_some_iff.mp hq).1]; exact hq)⟩
theorem D_right {A : Nat → Prop} {w1 w2 : va_W} (h : va_D A (w1 ++ w2)) : va_D A w2 :=
  ⟨fun i j p q hi hj e => by
    have := h.1 (w1.length + i) (w1.length + j) p q (by rw [List.getElem?_append_right (by omega), Nat.add_sub_cancel_left]; exact hi) (by rw [List.getElem?_append_right (by omega), Nat.add_sub_cancel_left]; exact hj) e
    omega, fun k q hq => h.2 (w1.length + k) q (by rw [List.getElem?_append_right (by omega), Nat.add_sub_cancel_left]; exact hq)⟩
theorem nar {args : Array Value} {s : State} (h : (Jvm.Cond.and given_1 narrow_1).before args s = true) {w : Cond} (hw : w ∈ flatC (Jvm.Cond.and given_1 narrow_1)) : w.before args s = true := flat_of_before _ h w hw
theorem arrI {args : Array Value} {s : State} (h : (Cond.arrayClass .int).before args s = true) : ∃ cA, ArrOfT s cA .int ∧ va_RA s cA .int := by
  obtain ⟨cA, kA, comp, h1, h2, h3⟩ := Cond.arrayClass_spec h
  exact ⟨cA, fun n z => ⟨fun k h => (by cases h), kA, h2, comp, h3⟩, h1⟩
theorem D_start {args : Array Value} {s : State} (hts : ∀ w ∈ TA, w.before args s = true) : ∃ D : va_G, ∀ (k : Nat) (q : vw_C), classes[k]? = some q → u_Kn s q.1 q.2.1 q.2.2 (D.1 k) (D.2 k) := by
  obtain ⟨c0, i0, g0⟩ := u_known (C := RX0) (T := TX0) (N := 5) (n := 5) hts inAX0 (hts _ kIS_X0)
  have h0 : ∀ k : Nat, ∃ z : ClassId × (Nat → Nat), ∀ q : vw_C, classes[k]? = some q → u_Kn s q.1 q.2.1 q.2.2 z.1 z.2 := by
    intro k
    match k with
    | 0 => exact ⟨(c0, i0), fun q hq => by cases hq; exact g0⟩
    | 1 =>
      obtain ⟨c, i, g⟩ := u_known (C := RX1) (T := TX1) (N := 11) (n := 11) hts inAX1 (hts _ kIS_X1)
      exact ⟨(c, i), fun q hq => by cases hq; exact g⟩
    | 2 =>
      obtain ⟨c, i, g⟩ := u_known (C := RX2) (T := TX2) (N := 3) (n := 3) hts inAX2 (hts _ kIS_X2)
      exact ⟨(c, i), fun q hq => by cases hq; exact g⟩
    | 3 =>
      obtain ⟨c, i, g⟩ := u_known (C := RX3) (T := TX3) (N := 9) (n := 9) hts inAX3 (hts _ kIS_X3)
      exact ⟨(c, i), fun q hq => by cases hq; exact g⟩
    | 4 =>
      obtain ⟨c, i, g⟩ := u_known (C := RX4) (T := TX4) (N := 1) (n := 1) hts inAX4 (hts _ kIS_X4)
      exact ⟨(c, i), fun q hq => by cases hq; exact g⟩
    | 5 =>
      obtain ⟨c, i, g⟩ := u_known (C := RX5) (T := TX5) (N := 1) (n := 1) hts inAX5 (hts _ kIS_X5)
      exact ⟨(c, i), fun q hq => by cases hq; exact g⟩
    | 6 =>
      obtain ⟨c, i, g⟩ := u_known (C := RX6) (T := TX6) (N := 9) (n := 9) hts inAX6 (hts _ kIS_X6)
      exact ⟨(c, i), fun q hq => by cases hq; exact g⟩
    | k + 7 => exact ⟨(c0, i0), fun q hq => by simp [classes] at hq⟩
  obtain ⟨f, hf⟩ := Classical.axiomOfChoice h0
  exact ⟨(fun k => (f k).1, fun k => (f k).2), hf⟩
theorem grey_in : ∀ j, j < 8 → Cond.eq (.elem (.static "NemaGrid" "GREYS" "[I") (.int (Int32.ofNat j))) (.int (greyV j)) ∈ flatC (Jvm.Cond.and given_1 narrow_1) := by decide +kernel
section
variable {p : Program} {l : Launch} {e : Env} {R : Room} {s : State} {m : MethodId} {args : Array Value} {below : List Frame} {meth : Method} {c : Code} {H H0 : Heap} {locs : List Loc} {cells slots : Nat} {Q : State → Prop}
variable {cc : ByteArray} {nL pc : Nat} {own : String} {ret : Option FieldType} {ls : Array Slot} {rest st0 : List Value} {D : va_G} {cyI : ClassId} {ad : Nat → Nat}
theorem rw_call2 {A0 A1 : Nat → Prop} {v : Option Value} {P1 : Heap → Prop} {a : Array Value} (hr : va_Run p l e R s m args below meth c H locs cells slots 0 0 (F0 m pc ls st0) rest (Qrw A1 v P1 a) A1) (hS : va_S A0 H0 H locs) (hA : ∀ q, A1 q → A0 q)
    (kk : ∀ (H1 : Heap) (locs1 : List Loc), P1 H1 → H.size ≤ H1.size → (∀ q : Nat, q < H.size → ¬ A1 q → H1[q]? = H[q]?) → va_S A0 H0 H1 locs1 → W p l e R s m args below meth c H1 locs1 cells slots Q (F0 m (pc + 3) ls (v.toList ++ rest))) : W p l e R s m args below meth c H locs cells slots Q (F0 m pc ls st0) := by
  intro T hT X
  obtain ⟨v1, st₀, t, T', L, h0, X', hL, e1, e2, ⟨hv, hp, hF⟩, st⟩ := hr T hT X
  cases hv
  obtain ⟨k1, k2, k3⟩ := vx_keep h0 e1 hS (fun q _ h => hA q h) hA hL hF
  obtain ⟨t2, a1, b1⟩ := kk T'.heap (locs ++ L) (by rw [e1]; exact hp) k1 k2 k3 T' rfl X'
  exact ⟨t2, st t2 a1, b1⟩
theorem cv_rw2 {y : MethodName} {b : ByteArray} {n k idx N o : Nat} {r : Option FieldType} {As : List Value} {KX : Ctx} {C : String} {A0 A1 : Nat → Prop} {v : Option Value} {P1 : Heap → Prop} (E : EX p s m args meth c cc nL own ret) (hM : MRW l y b n r k (.ref o :: As) H KX A1 v P1) (g : GoodIn TA (wsV own idx C y (.code y b n r :: TA))) (hC : y.cls = C) (hd : Dsc y N) (hN : As.length = N) (hB : Blind KX) (hW : ∀ U : State, U.heap = H → s.WarmedH U.vm → KX U H)
    (hS : va_S A0 H0 H locs) (hA : ∀ q, A1 q → A0 q) (hrec : Recv s H o C) (hR : RmOk R cells slots k n) (hls : ls.size = nL) (hst : st0 = As.reverse ++ .ref o :: rest) (hro : (rest.map fun v => v.category).sum ≤ 8) (hdg : decode cc pc = .ok (.invokevirtual idx, 3))
    (kk : ∀ (H1 : Heap) (locs1 : List Loc), P1 H1 → H.size ≤ H1.size → (∀ q : Nat, q < H.size → ¬ A1 q → H1[q]? = H[q]?) → va_S A0 H0 H1 locs1 → W p l e R s m args below meth c H1 locs1 cells slots Q (F0 m (pc + 3) ls (v.toList ++ rest))) : W p l e R s m args below meth c H locs cells slots Q (F0 m pc ls st0) := by
  subst hst
  exact rw_call2 (va_runV (As := As) (rest := rest) E.fix hM (cwV N E.ht g rfl rfl rfl ⟨hC, hd⟩ ⟨hR.1, hR.2.1⟩) ⟨PX_blind hB, hrec, fun U hU hW9 => ⟨rfl, hU, hW U hU hW9⟩⟩ rfl hN hls rfl (lv_room hro) hdg ⟨hR.2.2.1, hR.2.2.2⟩) hS hA kk
end
end LAWA

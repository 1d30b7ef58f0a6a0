section ROW
variable {p : Program} {l : Launch} {e : Env} {R : Room} {s : State} {m : MethodId} {args : Array Value} {below : List Frame} {meth : Method} {c : Code} {H : Heap} {locs : List Loc} {cells slots : Nat} {Q : State → Prop} {cc : ByteArray} {nL pc : Nat} {ret : Option FieldType} {own : String} {ls : Array Slot} {rest : List Value} {D : va_G} {cyI : ClassId} {ad : Nat → Nat} {ws : va_W} {a b n : Nat} {f : Nat → Int32}
theorem gf_row (E : EX p s m args meth c cc nL RX4 ret) (K : va_K D classes [(cyI, .int)] s) (P : va_P D classes ws H) (q0 : Nat) (he : ws[q0]? = some (b, .inr (4, [.ref a]))) (hdg : decode cc pc = .ok (.getfield 7, 3))
    (kk : W p l e R s m args below meth c H locs cells slots Q (F0 m (pc + 3) ls (.ref a :: rest))) : W p l e R s m args below meth c H locs cells slots Q (F0 m pc ls (.ref b :: rest)) :=
  va_get E.hx E.hb E.ht inAX4 E.ho K P q0 he (show classes[4]? = some (RX4, TX4, 1) from rfl) 0 (by decide) (E.ht _ kFL_X4_7) (fun _ h9 => h9) rfl hdg kk
theorem rAt_in {i : Int32} (h0 : ¬ i < 0) (h1 : ¬ Int32.ofNat n ≤ i) (hn : n < 2 ^ 31) : vp_in i n := by
  intro q
  rcases q with q | q
  · exact h0 q
  · obtain ⟨j, hj, rfl⟩ := nI_of h0
    rw [nI_clamp hj] at q
    exact h1 ((nI_leI hn hj).mpr q)
theorem c_X4_at (l : Launch) {KX : Ctx} (hKX : ∀ U H, KX U H → va_K D classes [(cyI, .int)] U) (P : va_P D classes ws H) (q0 q1 : Nat) (he : ws[q0]? = some (b, .inr (4, [.ref a]))) (ha : ws[q1]? = some (a, .inl (cyI, n, .inl f))) (hn : n < 2 ^ 31) (i : Int32) :
    MRO l yX4_at cX4_at 2 (some .int) 0 [.ref b, .int i] H KX (rAt n f i) := by
  refine Mof (own := RX4) (by decide +kernel) rfl rfl ?_
  intro p e s m args below meth c ls E hH K0 hl
  subst hH
  have K := hKX _ _ K0
  have hl : lv_has ls 2 [(0, .ref b), (1, .int i)] := hl
  obtain ⟨v, hv⟩ : ∃ v, rAt n f i = v := ⟨_, rfl⟩
  rw [hv]
  unfold rAt at hv
  refine lv_iload_n E.hx E.hb dX4_at_0 rfl (lv_at hl 1 rfl) ?_
  refine lv_if_lt (tgt := 22) E.hx E.hb dX4_at_1 (by decide) (fun c_1 => ?_) (fun c_1 => ?_)
  · rw [if_pos c_1] at hv
    refine lv_iconst (v := 0) E.hx E.hb dX4_at_22 (by decide) ?_
    exact W.iret E.hx E.hb E.hr (fun t ht _ => ⟨_, rfl, hv, ht⟩) (fun q hq => nomatch hq) dX4_at_23 E.hk
  · rw [if_neg c_1] at hv
    refine lv_iload_n E.hx E.hb dX4_at_4 rfl (lv_at hl 1 rfl) ?_
    refine lv_aload_n E.hx E.hb dX4_at_5 rfl (lv_at hl 0 rfl) ?_
    refine gf_row E K P q0 he dX4_at_6 ?_
    refine va_alen E.hx E.hb K P q1 0 ha rfl rfl dX4_at_9 ?_
    refine lv_icmp_ge (tgt := 22) E.hx E.hb dX4_at_10 (by decide) (fun c_2 => ?_) (fun c_2 => ?_)
    · rw [if_pos c_2] at hv
      refine lv_iconst (v := 0) E.hx E.hb dX4_at_22 (by decide) ?_
      exact W.iret E.hx E.hb E.hr (fun t ht _ => ⟨_, rfl, hv, ht⟩) (fun q hq => nomatch hq) dX4_at_23 E.hk
    · rw [if_neg c_2] at hv
      refine lv_aload_n E.hx E.hb dX4_at_13 rfl (lv_at hl 0 rfl) ?_
      refine gf_row E K P q0 he dX4_at_14 ?_
      refine lv_iload_n E.hx E.hb dX4_at_17 rfl (lv_at hl 1 rfl) ?_
      refine va_iald E.hx E.hb K P q1 0 ha rfl (rAt_in c_1 c_2 hn) dX4_at_18 ?_
      refine lv_goto (tgt := 23) E.hx E.hb dX4_at_19 (by decide) ?_
      exact W.iret E.hx E.hb E.hr (fun t ht _ => ⟨_, rfl, hv, ht⟩) (fun q hq => nomatch hq) dX4_at_23 E.hk
theorem c_X4_put (l : Launch) {KX : Ctx} (hKX : ∀ U H, KX U H → va_K D classes [(cyI, .int)] U) {A : Nat → Prop} (P : va_P D classes ws H) (hD : va_D A ws) (q0 q1 : Nat) (he : ws[q0]? = some (b, .inr (4, [.ref a]))) (ha : ws[q1]? = some (a, .inl (cyI, n, .inl f))) (hn : n < 2 ^ 31) (i x : Int32) :
    MRW l yX4_put cX4_put 3 none 0 [.ref b, .int i, .int x] H KX A none (fun H1 => va_P D classes (ws.set q1 (a, .inl (cyI, n, .inl (rPut n f i x)))) H1) := by
  refine Mof (own := RX4) (by decide +kernel) rfl rfl ?_
  intro p e s m args below meth c ls E hH K0 hl
  subst hH
  have K := hKX _ _ K0
  have hl : lv_has ls 3 [(0, .ref b), (1, .int i), (2, .int x)] := hl
  have S : va_S A s.heap s.heap [] := va_S.rf
  have hset : ws.set q1 (a, .inl (cyI, n, .inl f)) = ws := by
    apply List.ext_getElem?
    intro k
    rw [List.getElem?_set]
    by_cases hk : q1 = k
    · subst hk
      rw [if_pos rfl, ha]
      by_cases hlt : q1 < ws.length
      · rw [if_pos hlt]
      · rw [List.getElem?_eq_none (Nat.not_lt.mp hlt)] at ha; cases ha
    · rw [if_neg hk]
  obtain ⟨v, hv⟩ : ∃ v, rPut n f i x = v := ⟨_, rfl⟩
  rw [hv]
  unfold rPut at hv
  refine lv_iload_n E.hx E.hb dX4_put_0 rfl (lv_at hl 1 rfl) ?_
  refine lv_if_lt (tgt := 20) E.hx E.hb dX4_put_1 (by decide) (fun c_1 => ?_) (fun c_1 => ?_)
  · rw [if_pos c_1] at hv
    exact W.vret E.hx E.hb E.hr (fun t ht _ => ⟨rfl, by rw [ht, ← hv, hset]; exact P, S.F ht⟩) S.2.2 dX4_put_20 E.hk
  · rw [if_neg c_1] at hv
    refine lv_iload_n E.hx E.hb dX4_put_4 rfl (lv_at hl 1 rfl) ?_
    refine lv_aload_n E.hx E.hb dX4_put_5 rfl (lv_at hl 0 rfl) ?_
    refine gf_row E K P q0 he dX4_put_6 ?_
    refine va_alen E.hx E.hb K P q1 0 ha rfl rfl dX4_put_9 ?_
    refine lv_icmp_ge (tgt := 20) E.hx E.hb dX4_put_10 (by decide) (fun c_2 => ?_) (fun c_2 => ?_)
    · rw [if_pos c_2] at hv
      exact W.vret E.hx E.hb E.hr (fun t ht _ => ⟨rfl, by rw [ht, ← hv, hset]; exact P, S.F ht⟩) S.2.2 dX4_put_20 E.hk
    · rw [if_neg c_2] at hv
      refine lv_aload_n E.hx E.hb dX4_put_13 rfl (lv_at hl 0 rfl) ?_
      refine gf_row E K P q0 he dX4_put_14 ?_
      refine lv_iload_n E.hx E.hb dX4_put_17 rfl (lv_at hl 1 rfl) ?_
      refine lv_iload_n E.hx E.hb dX4_put_18 rfl (lv_at hl 2 rfl) ?_
      refine va_iast E.hx E.hb K P hD S q1 0 ha rfl (rAt_in c_1 c_2 hn) dX4_put_19 (fun H locs P hD S => ?_)
      rw [hv] at P
      exact W.vret E.hx E.hb E.hr (fun t ht _ => ⟨rfl, by rw [ht]; exact P, S.F ht⟩) S.2.2 dX4_put_20 E.hk
theorem rFill_0 (v : Int32) : (fun j => if j < 0 then v else f j) = f := funext fun j => if_neg (Nat.not_lt_zero j)
theorem rFill_s (v : Int32) (k : Nat) : upd (fun j => if j < k then v else f j) k v = (fun j => if j < k + 1 then v else f j) := by
  funext j
  unfold upd
  by_cases h : j = k
  · subst h; rw [if_pos rfl, if_pos (Nat.lt_succ_self _)]
  · rw [if_neg h]
    show (if j < k then v else f j) = (if j < k + 1 then v else f j)
    by_cases h2 : j < k
    · rw [if_pos h2, if_pos (by omega)]
    · rw [if_neg h2, if_neg (by omega)]
theorem set_set {α : Type} (l : List α) (k : Nat) (x y : α) : (l.set k x).set k y = l.set k y := by
  apply List.ext_getElem?
  intro j
  simp only [List.getElem?_set, List.length_set]
  by_cases h : k = j
  · simp [h]
  · simp [h]
theorem c_X4_fill (l : Launch) {KX : Ctx} (hKX : ∀ U H, KX U H → va_K D classes [(cyI, .int)] U) {A : Nat → Prop} (P : va_P D classes ws H) (hD : va_D A ws) (q0 q1 : Nat) (he : ws[q0]? = some (b, .inr (4, [.ref a]))) (hq : q0 ≠ q1) (ha : ws[q1]? = some (a, .inl (cyI, n, .inl f))) (hn : n < 2 ^ 31) (x : Int32) :
    MRW l yX4_fill cX4_fill 3 none 0 [.ref b, .int x] H KX A none (fun H1 => va_P D classes (ws.set q1 (a, .inl (cyI, n, .inl (rFill n f x)))) H1) := by
  refine Mof (own := RX4) (by decide +kernel) rfl rfl ?_
  intro p e s m args below meth c ls E hH K0 hl
  subst hH
  have K := hKX _ _ K0
  have hl : lv_has ls 3 [(0, .ref b), (1, .int x)] := hl
  have S : va_S A s.heap s.heap [] := va_S.rf
  have hq1 : q1 < ws.length := by
    by_cases hlt : q1 < ws.length
    · exact hlt
    · rw [List.getElem?_eq_none (Nat.not_lt.mp hlt)] at ha; cases ha
  have he' : ∀ g : Nat → Int32, (ws.set q1 (a, .inl (cyI, n, .inl g)))[q0]? = some (b, .inr (4, [.ref a])) := fun g => by rw [List.getElem?_set, if_neg (fun h => hq h.symm)]; exact he
  have ha' : ∀ g : Nat → Int32, (ws.set q1 (a, .inl (cyI, n, .inl g)))[q1]? = some (a, .inl (cyI, n, .inl g)) := fun g => by rw [List.getElem?_set, if_pos rfl, if_pos hq1]
  have hset : ws.set q1 (a, .inl (cyI, n, .inl f)) = ws := by
    apply List.ext_getElem?
    intro k
    rw [List.getElem?_set]
    by_cases hk : q1 = k
    · subst hk
      rw [if_pos rfl, ha, if_pos hq1]
    · rw [if_neg hk]
  have loop : ∀ (d k : Nat), k ≤ n → n - k ≤ d → ∀ (H : Heap) (locs : List Loc) (ls : Array Slot), va_P D classes (ws.set q1 (a, .inl (cyI, n, .inl (fun j => if j < k then x else f j)))) H → va_S A s.heap H locs → lv_has ls 3 [(0, .ref b), (1, .int x), (2, .int (nI k))] →
      W p l e (rmL 0) s m args below meth c H locs 0 0 (MQ below (Qrw A none (fun H1 => va_P D classes (ws.set q1 (a, .inl (cyI, n, .inl (rFill n f x)))) H1)) args s 0 0 A) (F0 m 2 ls []) := by
    intro d
    induction d with
    | zero =>
      intro k hk hd H locs ls P S hl
      have hkn : k = n := by omega
      subst hkn
      refine lv_iload_n E.hx E.hb dX4_fill_2 rfl (lv_at hl 2 rfl) ?_
      refine lv_aload_n E.hx E.hb dX4_fill_3 rfl (lv_at hl 0 rfl) ?_
      refine gf_row E K P q0 (he' _) dX4_fill_4 ?_
      refine va_alen E.hx E.hb K P q1 0 (ha' _) rfl rfl dX4_fill_7 ?_
      refine lv_icmp_ge (tgt := 24) E.hx E.hb dX4_fill_8 (by decide) (fun c_2 => ?_) (fun c_2 => ?_)
      · exact W.vret E.hx E.hb E.hr (fun t ht _ => ⟨rfl, by rw [ht]; exact P, S.F ht⟩) S.2.2 dX4_fill_24 E.hk
      · exact absurd (nI_le (Nat.le_refl _) hn) c_2
    | succ d ih =>
      intro k hk hd H locs ls P S hl
      refine lv_iload_n E.hx E.hb dX4_fill_2 rfl (lv_at hl 2 rfl) ?_
      refine lv_aload_n E.hx E.hb dX4_fill_3 rfl (lv_at hl 0 rfl) ?_
      refine gf_row E K P q0 (he' _) dX4_fill_4 ?_
      refine va_alen E.hx E.hb K P q1 0 (ha' _) rfl rfl dX4_fill_7 ?_
      refine lv_icmp_ge (tgt := 24) E.hx E.hb dX4_fill_8 (by decide) (fun c_2 => ?_) (fun c_2 => ?_)
      · have hkn : k = n := by
          rcases Nat.lt_or_ge k n with q | q
          · exact absurd c_2 (nI_ge q hn)
          · omega
        subst hkn
        exact W.vret E.hx E.hb E.hr (fun t ht _ => ⟨rfl, by rw [ht]; exact P, S.F ht⟩) S.2.2 dX4_fill_24 E.hk
      · have hlt : k < n := by
          rcases Nat.lt_or_ge k n with q | q
          · exact q
          · exact absurd (nI_le q (by omega)) c_2
        refine lv_aload_n E.hx E.hb dX4_fill_11 rfl (lv_at hl 0 rfl) ?_
        refine gf_row E K P q0 (he' _) dX4_fill_12 ?_
        refine lv_iload_n E.hx E.hb dX4_fill_15 rfl (lv_at hl 2 rfl) ?_
        refine lv_iload_n E.hx E.hb dX4_fill_16 rfl (lv_at hl 1 rfl) ?_
        refine va_iast E.hx E.hb K P (hD.set ha) S q1 0 (ha' _) rfl (vp_in_nI hlt hn) dX4_fill_17 (fun H locs P hD S => ?_)
        refine lv_iinc (v := nI k + 1) (lv' := [(2, .int (nI k + 1)), (0, .ref b), (1, .int x)]) E.hx E.hb dX4_fill_18 hl (k := 2) rfl rfl (by decide) rfl (fun ls hl => ?_)
        refine lv_goto (tgt := 2) E.hx E.hb dX4_fill_21 (by decide) ?_
        rw [nI_1] at hl
        rw [set_set, nI_clamp (by omega), rFill_s] at P
        exact ih (k + 1) (by omega) (by omega) H locs ls P S (lv_sub hl [1, 2, 0] rfl)
  refine lv_iconst (v := 0) E.hx E.hb dX4_fill_0 (by decide) ?_
  refine lv_istore_n (lv' := [(2, .int 0), (0, .ref b), (1, .int x)]) E.hx E.hb dX4_fill_1 rfl hl (by decide) rfl (fun ls hl => ?_)
  exact loop n 0 (Nat.zero_le _) (by omega) s.heap [] ls (by rw [rFill_0, hset]; exact P) S (lv_sub hl [1, 2, 0] rfl)
end ROW
-- EXTRAS
section ROWX
theorem cw_r0 {cyI : ClassId} {ad : Nat → Nat} {I : Nat → Int32} {A : Nat → Nat → Int32} : (cw cyI ad I A)[6]? = some (ad 6, .inr (4, [.ref (ad 25)])) := rfl
theorem cw_a0 {cyI : ClassId} {ad : Nat → Nat} {I : Nat → Int32} {A : Nat → Nat → Int32} : (cw cyI ad I A)[25]? = some (ad 25, .inl (cyI, 8, .inl (A 0))) := rfl
theorem cw_s0 {cyI : ClassId} {ad : Nat → Nat} {I : Nat → Int32} {A : Nat → Nat → Int32} (g : Nat → Int32) : (cw cyI ad I A).set 25 (ad 25, .inl (cyI, 8, .inl g)) = cw cyI ad I (va_up A 0 g) := rfl
theorem cw_r1 {cyI : ClassId} {ad : Nat → Nat} {I : Nat → Int32} {A : Nat → Nat → Int32} : (cw cyI ad I A)[7]? = some (ad 7, .inr (4, [.ref (ad 26)])) := rfl
theorem cw_a1 {cyI : ClassId} {ad : Nat → Nat} {I : Nat → Int32} {A : Nat → Nat → Int32} : (cw cyI ad I A)[26]? = some (ad 26, .inl (cyI, 8, .inl (A 1))) := rfl
theorem cw_s1 {cyI : ClassId} {ad : Nat → Nat} {I : Nat → Int32} {A : Nat → Nat → Int32} (g : Nat → Int32) : (cw cyI ad I A).set 26 (ad 26, .inl (cyI, 8, .inl g)) = cw cyI ad I (va_up A 1 g) := rfl
theorem cw_r2 {cyI : ClassId} {ad : Nat → Nat} {I : Nat → Int32} {A : Nat → Nat → Int32} : (cw cyI ad I A)[8]? = some (ad 8, .inr (4, [.ref (ad 27)])) := rfl
theorem cw_a2 {cyI : ClassId} {ad : Nat → Nat} {I : Nat → Int32} {A : Nat → Nat → Int32} : (cw cyI ad I A)[27]? = some (ad 27, .inl (cyI, 8, .inl (A 2))) := rfl
theorem cw_s2 {cyI : ClassId} {ad : Nat → Nat} {I : Nat → Int32} {A : Nat → Nat → Int32} (g : Nat → Int32) : (cw cyI ad I A).set 27 (ad 27, .inl (cyI, 8, .inl g)) = cw cyI ad I (va_up A 2 g) := rfl
theorem cw_r3 {cyI : ClassId} {ad : Nat → Nat} {I : Nat → Int32} {A : Nat → Nat → Int32} : (cw cyI ad I A)[9]? = some (ad 9, .inr (4, [.ref (ad 28)])) := rfl
theorem cw_a3 {cyI : ClassId} {ad : Nat → Nat} {I : Nat → Int32} {A : Nat → Nat → Int32} : (cw cyI ad I A)[28]? = some (ad 28, .inl (cyI, 8, .inl (A 3))) := rfl
theorem cw_s3 {cyI : ClassId} {ad : Nat → Nat} {I : Nat → Int32} {A : Nat → Nat → Int32} (g : Nat → Int32) : (cw cyI ad I A).set 28 (ad 28, .inl (cyI, 8, .inl g)) = cw cyI ad I (va_up A 3 g) := rfl
theorem cw_r4 {cyI : ClassId} {ad : Nat → Nat} {I : Nat → Int32} {A : Nat → Nat → Int32} : (cw cyI ad I A)[10]? = some (ad 10, .inr (4, [.ref (ad 29)])) := rfl
theorem cw_a4 {cyI : ClassId} {ad : Nat → Nat} {I : Nat → Int32} {A : Nat → Nat → Int32} : (cw cyI ad I A)[29]? = some (ad 29, .inl (cyI, 8, .inl (A 4))) := rfl
theorem cw_s4 {cyI : ClassId} {ad : Nat → Nat} {I : Nat → Int32} {A : Nat → Nat → Int32} (g : Nat → Int32) : (cw cyI ad I A).set 29 (ad 29, .inl (cyI, 8, .inl g)) = cw cyI ad I (va_up A 4 g) := rfl
theorem cw_r5 {cyI : ClassId} {ad : Nat → Nat} {I : Nat → Int32} {A : Nat → Nat → Int32} : (cw cyI ad I A)[11]? = some (ad 11, .inr (4, [.ref (ad 30)])) := rfl
theorem cw_a5 {cyI : ClassId} {ad : Nat → Nat} {I : Nat → Int32} {A : Nat → Nat → Int32} : (cw cyI ad I A)[30]? = some (ad 30, .inl (cyI, 8, .inl (A 5))) := rfl
theorem cw_s5 {cyI : ClassId} {ad : Nat → Nat} {I : Nat → Int32} {A : Nat → Nat → Int32} (g : Nat → Int32) : (cw cyI ad I A).set 30 (ad 30, .inl (cyI, 8, .inl g)) = cw cyI ad I (va_up A 5 g) := rfl
theorem cw_r6 {cyI : ClassId} {ad : Nat → Nat} {I : Nat → Int32} {A : Nat → Nat → Int32} : (cw cyI ad I A)[12]? = some (ad 12, .inr (4, [.ref (ad 31)])) := rfl
theorem cw_a6 {cyI : ClassId} {ad : Nat → Nat} {I : Nat → Int32} {A : Nat → Nat → Int32} : (cw cyI ad I A)[31]? = some (ad 31, .inl (cyI, 8, .inl (A 6))) := rfl
theorem cw_s6 {cyI : ClassId} {ad : Nat → Nat} {I : Nat → Int32} {A : Nat → Nat → Int32} (g : Nat → Int32) : (cw cyI ad I A).set 31 (ad 31, .inl (cyI, 8, .inl g)) = cw cyI ad I (va_up A 6 g) := rfl
theorem cw_r7 {cyI : ClassId} {ad : Nat → Nat} {I : Nat → Int32} {A : Nat → Nat → Int32} : (cw cyI ad I A)[13]? = some (ad 13, .inr (4, [.ref (ad 32)])) := rfl
theorem cw_a7 {cyI : ClassId} {ad : Nat → Nat} {I : Nat → Int32} {A : Nat → Nat → Int32} : (cw cyI ad I A)[32]? = some (ad 32, .inl (cyI, 64, .inl (A 7))) := rfl
theorem cw_s7 {cyI : ClassId} {ad : Nat → Nat} {I : Nat → Int32} {A : Nat → Nat → Int32} (g : Nat → Int32) : (cw cyI ad I A).set 32 (ad 32, .inl (cyI, 64, .inl g)) = cw cyI ad I (va_up A 7 g) := rfl
theorem cw_r8 {cyI : ClassId} {ad : Nat → Nat} {I : Nat → Int32} {A : Nat → Nat → Int32} : (cw cyI ad I A)[14]? = some (ad 14, .inr (4, [.ref (ad 33)])) := rfl
theorem cw_a8 {cyI : ClassId} {ad : Nat → Nat} {I : Nat → Int32} {A : Nat → Nat → Int32} : (cw cyI ad I A)[33]? = some (ad 33, .inl (cyI, 144, .inl (A 8))) := rfl
theorem cw_s8 {cyI : ClassId} {ad : Nat → Nat} {I : Nat → Int32} {A : Nat → Nat → Int32} (g : Nat → Int32) : (cw cyI ad I A).set 33 (ad 33, .inl (cyI, 144, .inl g)) = cw cyI ad I (va_up A 8 g) := rfl
theorem cw_r9 {cyI : ClassId} {ad : Nat → Nat} {I : Nat → Int32} {A : Nat → Nat → Int32} : (cw cyI ad I A)[15]? = some (ad 15, .inr (4, [.ref (ad 34)])) := rfl
theorem cw_a9 {cyI : ClassId} {ad : Nat → Nat} {I : Nat → Int32} {A : Nat → Nat → Int32} : (cw cyI ad I A)[34]? = some (ad 34, .inl (cyI, 144, .inl (A 9))) := rfl
theorem cw_s9 {cyI : ClassId} {ad : Nat → Nat} {I : Nat → Int32} {A : Nat → Nat → Int32} (g : Nat → Int32) : (cw cyI ad I A).set 34 (ad 34, .inl (cyI, 144, .inl g)) = cw cyI ad I (va_up A 9 g) := rfl
theorem cw_r10 {cyI : ClassId} {ad : Nat → Nat} {I : Nat → Int32} {A : Nat → Nat → Int32} : (cw cyI ad I A)[16]? = some (ad 16, .inr (4, [.ref (ad 35)])) := rfl
theorem cw_a10 {cyI : ClassId} {ad : Nat → Nat} {I : Nat → Int32} {A : Nat → Nat → Int32} : (cw cyI ad I A)[35]? = some (ad 35, .inl (cyI, 144, .inl (A 10))) := rfl
theorem cw_s10 {cyI : ClassId} {ad : Nat → Nat} {I : Nat → Int32} {A : Nat → Nat → Int32} (g : Nat → Int32) : (cw cyI ad I A).set 35 (ad 35, .inl (cyI, 144, .inl g)) = cw cyI ad I (va_up A 10 g) := rfl
theorem cw_r11 {cyI : ClassId} {ad : Nat → Nat} {I : Nat → Int32} {A : Nat → Nat → Int32} : (cw cyI ad I A)[17]? = some (ad 17, .inr (4, [.ref (ad 36)])) := rfl
theorem cw_a11 {cyI : ClassId} {ad : Nat → Nat} {I : Nat → Int32} {A : Nat → Nat → Int32} : (cw cyI ad I A)[36]? = some (ad 36, .inl (cyI, 144, .inl (A 11))) := rfl
theorem cw_s11 {cyI : ClassId} {ad : Nat → Nat} {I : Nat → Int32} {A : Nat → Nat → Int32} (g : Nat → Int32) : (cw cyI ad I A).set 36 (ad 36, .inl (cyI, 144, .inl g)) = cw cyI ad I (va_up A 11 g) := rfl
theorem cw_r12 {cyI : ClassId} {ad : Nat → Nat} {I : Nat → Int32} {A : Nat → Nat → Int32} : (cw cyI ad I A)[18]? = some (ad 18, .inr (4, [.ref (ad 37)])) := rfl
theorem cw_a12 {cyI : ClassId} {ad : Nat → Nat} {I : Nat → Int32} {A : Nat → Nat → Int32} : (cw cyI ad I A)[37]? = some (ad 37, .inl (cyI, 144, .inl (A 12))) := rfl
theorem cw_s12 {cyI : ClassId} {ad : Nat → Nat} {I : Nat → Int32} {A : Nat → Nat → Int32} (g : Nat → Int32) : (cw cyI ad I A).set 37 (ad 37, .inl (cyI, 144, .inl g)) = cw cyI ad I (va_up A 12 g) := rfl
theorem cw_r13 {cyI : ClassId} {ad : Nat → Nat} {I : Nat → Int32} {A : Nat → Nat → Int32} : (cw cyI ad I A)[19]? = some (ad 19, .inr (4, [.ref (ad 38)])) := rfl
theorem cw_a13 {cyI : ClassId} {ad : Nat → Nat} {I : Nat → Int32} {A : Nat → Nat → Int32} : (cw cyI ad I A)[38]? = some (ad 38, .inl (cyI, 40, .inl (A 13))) := rfl
theorem cw_s13 {cyI : ClassId} {ad : Nat → Nat} {I : Nat → Int32} {A : Nat → Nat → Int32} (g : Nat → Int32) : (cw cyI ad I A).set 38 (ad 38, .inl (cyI, 40, .inl g)) = cw cyI ad I (va_up A 13 g) := rfl
theorem cw_r14 {cyI : ClassId} {ad : Nat → Nat} {I : Nat → Int32} {A : Nat → Nat → Int32} : (cw cyI ad I A)[20]? = some (ad 20, .inr (4, [.ref (ad 39)])) := rfl
theorem cw_a14 {cyI : ClassId} {ad : Nat → Nat} {I : Nat → Int32} {A : Nat → Nat → Int32} : (cw cyI ad I A)[39]? = some (ad 39, .inl (cyI, 40, .inl (A 14))) := rfl
theorem cw_s14 {cyI : ClassId} {ad : Nat → Nat} {I : Nat → Int32} {A : Nat → Nat → Int32} (g : Nat → Int32) : (cw cyI ad I A).set 39 (ad 39, .inl (cyI, 40, .inl g)) = cw cyI ad I (va_up A 14 g) := rfl
theorem cw_r15 {cyI : ClassId} {ad : Nat → Nat} {I : Nat → Int32} {A : Nat → Nat → Int32} : (cw cyI ad I A)[21]? = some (ad 21, .inr (4, [.ref (ad 40)])) := rfl
theorem cw_a15 {cyI : ClassId} {ad : Nat → Nat} {I : Nat → Int32} {A : Nat → Nat → Int32} : (cw cyI ad I A)[40]? = some (ad 40, .inl (cyI, 40, .inl (A 15))) := rfl
theorem cw_s15 {cyI : ClassId} {ad : Nat → Nat} {I : Nat → Int32} {A : Nat → Nat → Int32} (g : Nat → Int32) : (cw cyI ad I A).set 40 (ad 40, .inl (cyI, 40, .inl g)) = cw cyI ad I (va_up A 15 g) := rfl
theorem cw_r16 {cyI : ClassId} {ad : Nat → Nat} {I : Nat → Int32} {A : Nat → Nat → Int32} : (cw cyI ad I A)[22]? = some (ad 22, .inr (4, [.ref (ad 41)])) := rfl
theorem cw_a16 {cyI : ClassId} {ad : Nat → Nat} {I : Nat → Int32} {A : Nat → Nat → Int32} : (cw cyI ad I A)[41]? = some (ad 41, .inl (cyI, 40, .inl (A 16))) := rfl
theorem cw_s16 {cyI : ClassId} {ad : Nat → Nat} {I : Nat → Int32} {A : Nat → Nat → Int32} (g : Nat → Int32) : (cw cyI ad I A).set 41 (ad 41, .inl (cyI, 40, .inl g)) = cw cyI ad I (va_up A 16 g) := rfl
theorem cw_r17 {cyI : ClassId} {ad : Nat → Nat} {I : Nat → Int32} {A : Nat → Nat → Int32} : (cw cyI ad I A)[23]? = some (ad 23, .inr (4, [.ref (ad 42)])) := rfl
theorem cw_a17 {cyI : ClassId} {ad : Nat → Nat} {I : Nat → Int32} {A : Nat → Nat → Int32} : (cw cyI ad I A)[42]? = some (ad 42, .inl (cyI, 10, .inl (A 17))) := rfl
theorem cw_s17 {cyI : ClassId} {ad : Nat → Nat} {I : Nat → Int32} {A : Nat → Nat → Int32} (g : Nat → Int32) : (cw cyI ad I A).set 42 (ad 42, .inl (cyI, 10, .inl g)) = cw cyI ad I (va_up A 17 g) := rfl
theorem cw_r18 {cyI : ClassId} {ad : Nat → Nat} {I : Nat → Int32} {A : Nat → Nat → Int32} : (cw cyI ad I A)[24]? = some (ad 24, .inr (4, [.ref (ad 43)])) := rfl
theorem cw_a18 {cyI : ClassId} {ad : Nat → Nat} {I : Nat → Int32} {A : Nat → Nat → Int32} : (cw cyI ad I A)[43]? = some (ad 43, .inl (cyI, 1440, .inl (A 18))) := rfl
theorem cw_s18 {cyI : ClassId} {ad : Nat → Nat} {I : Nat → Int32} {A : Nat → Nat → Int32} (g : Nat → Int32) : (cw cyI ad I A).set 43 (ad 43, .inl (cyI, 1440, .inl g)) = cw cyI ad I (va_up A 18 g) := rfl
theorem ds_X4_at : Dsc yX4_at 1 := ⟨by decide +kernel, by decide +kernel, by decide +kernel⟩
theorem ds_X4_put : Dsc yX4_put 2 := ⟨by decide +kernel, by decide +kernel, by decide +kernel⟩
theorem ds_X4_fill : Dsc yX4_fill 1 := ⟨by decide +kernel, by decide +kernel, by decide +kernel⟩
theorem swo {x : Int32} (hi : Nat) (hhi : hi < 2 ^ 31) (h : ∀ j : Nat, j ≤ hi → ¬ x = Int32.ofNat j) : x.toInt < 0 ∨ ((hi : Nat) : Int) < x.toInt := by
  rcases Classical.em (x < 0) with h0 | h0
  · exact Or.inl (by simpa [Int32.lt_iff_toInt_lt] using h0)
  · obtain ⟨j, hj, rfl⟩ := nI_of h0
    refine Or.inr ?_
    rw [nI_toInt hj]
    rcases Nat.lt_or_ge hi j with q | q
    · exact_mod_cast q
    · exact absurd rfl (h j q)
end ROWX
section MOFF
/-- as Mof, for a method of a class of which the machine runs others by itself -/
theorem MofF {l : Launch} {y : MethodName} {b : ByteArray} {n : Nat} {r : Option FieldType} {rm : Room} {As : List Value} {H : Heap} {KX : Ctx} {Qc : Array Value → State → Outcome → State → Prop} {mc ms : Nat} {free : Addr → Prop} {own : String} (hy : plainFor y = true) (ho : y.cls = own) (hn : Nat.ble (lg_sl As).length n = true)
    (body : ∀ (p : Program) (e : Env) (s : State) (m : MethodId) (args : Array Value) (below : List Frame) (meth : Method) (c : Code) (ls : Array Slot), EX p s m args meth c b n own r → s.heap = H → KX s s.heap → lv_has ls n (lv_args 0 As) → W p l e rm s m args below meth c s.heap [] 0 0 (MQ below Qc args s mc ms free) (F0 m 0 ls [])) :
    Met l y (.code y b n r :: TA) rm (PX As H KX) Qc mc ms free := by
  refine MetFree.of_bodySF (code := b) (maxLocals := n) (ret := r) hy ?_ ?_
  · intro args s m h hn
    obtain ⟨meth, c, h1, h2, h3, h4, h5, h6, -, -⟩ := Cond.code_spec hn (atoms_spec (ws := (.code y b n r :: TA : List Cond)) h _ List.mem_cons_self)
    exact ⟨meth, c, h1, h2, h3, h4, h5, h6⟩
  · intro p e s m args below meth c s₁ B hml hv _
    obtain ⟨rfl, hH, hK⟩ := hv
    have hts : ∀ w ∈ (.code y b n r :: TA : List Cond), w.before As.toArray s = true := atoms_spec (ws := (.code y b n r :: TA : List Cond)) B.pre
    have hown : s.vm.findClass own = some m.cls := by rw [← ho]; exact findClass_of_methodNamed B.named
    have hh0 : s₁.heap = s.heap := by rw [B.state]; rfl
    have hl := lv_entry As (n := n) (Nat.le_of_ble_eq_true hn)
    have k := body p e s m As.toArray below meth c _ ⟨B.exec, B.bytes, hml, hown, fun w hw => hts w (List.mem_cons_of_mem _ hw), B.returns, B.notSynchronized⟩ hH (by rw [hH]; exact hK) hl
    rw [← lg_entry_eq] at k
    obtain ⟨t, a1, o, b1, b2, b3⟩ := k s₁ hh0 (Stand.of_body B)
    exact ⟨t, o, a1, b1, b2, ⟨b3.1, b3.2⟩⟩
end MOFF

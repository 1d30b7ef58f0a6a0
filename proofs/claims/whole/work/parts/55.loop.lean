def R_law : String := "NemaGridLaw"
def lw_P (b : Addr) (xs : List Int32) (args : Array Value) (s : State) : Prop := args = #[.ref b] ∧ s.IntsAt b xs ∧ xs.length ≤ 3072 ∧ (Jvm.Cond.and given_1 narrow_1).before args s = true
def lw_Q (_ : Array Value) (s : State) (o : Outcome) (t : State) : Prop := o = .returned (some (.int 1)) ∧ Framed s o t [] 601024 7293034
def lw_Z (below : List Frame) (a : Array Value) (s : State) : State → Prop := fun t => ∃ o, t.status = .running ∧ Ended t below o ∧ lw_Q a s o t
/-- the law's own end, with 1 on the stack, nothing written that was there before, its room as the claim has it -/
theorem lw_ret {p : Program} {l : Launch} {e : Env} {s : State} {m : MethodId} {below : List Frame} {meth : Method} {c : Code} {b : Nat} (hx : p.tables.exec = Jvm.exec) (hb : c.code = code) (hr : meth.sig.returnType = ret) (hlocks : meth.locks = false) {pc : Nat} {H : Heap} {ls : Array Slot} (hdg : decode code pc = .ok (.ireturn, 1)) : W p l e room_1 s m #[Value.ref b] below meth c H [] 601024 7293034 (lw_Z below #[Value.ref b] s) (F0 m pc ls [.int 1]) := by
  intro T hT X
  obtain ⟨fs, hret, hrun, hended, hW, hframe⟩ := X.leave (v := some (.int 1)) (hlocks := hlocks) (fun h => by rw [hr] at h; cases h)
  have hmeth' : T.vm.method? m = some meth := X.method'
  refine ⟨T.setFrames fs, ?_, .returned (some (.int 1)), hrun, hended, rfl, ⟨_, rfl⟩, hW, hframe⟩
  jvm_step X.here [X.here.top, hx, hb, hdg, hmeth', hr, ret, narrow_b1]
  (try refine ⟨rfl, ?_⟩); (try refine ⟨rfl, ?_⟩)
  first | (intro acts; rw [hret _ acts rfl rfl rfl]) | rw [hret _ _ rfl rfl rfl]
  exact Steps.refl _
/-- what holds at the law's entry: the machine, the code, the tables' words (any of lw_tbl by 'hts w (by decide +kernel)'), the script of L ints xs at the cell b, what the Statement gives of the start (any of its parts by flat_of_before) -/
def lw_At (p : Program) (s : State) (m : MethodId) (meth : Method) (c : Code) (b L : Nat) (xs : Nat → Int32) : Prop :=
  p.tables.exec = Jvm.exec ∧ c.code = code ∧ meth.sig.returnType = ret ∧ c.maxLocals = 7 ∧ s.vm.findClass R_law = some m.cls ∧ (∀ w ∈ lw_tbl, w.before #[Value.ref b] s = true) ∧ va_X b L xs s s.heap ∧ b < s.heap.size ∧ meth.locks = false ∧ (Jvm.Cond.and given_1 narrow_1).before #[Value.ref b] s = true
section LAWC

theorem law_go {L i : Nat} (hL : L ≤ 3072) (hi : i ≤ L) (h : ¬ Int32.ofNat L - 6 < nI i) : i + 6 ≤ L := by
  rcases Nat.lt_or_ge L (i + 6) with q | q
  · refine absurd ?_ h
    rw [Int32.lt_iff_toInt_lt, Int32.toInt_sub, show (Int32.ofNat L).toInt = (L : Int) from nI_toInt (by omega), nI_toInt (by omega), show (6 : Int32).toInt = 6 from rfl, Int.bmod_eq_of_le (by omega) (by omega)]
    omega
  · exact q
set_option maxHeartbeats 4000000 in
set_option maxRecDepth 100000 in
theorem law_loop {p : Program} {l : Launch} {e : Env} {s : State} {m : MethodId} {below : List Frame} {meth : Method} {c : Code} {D : va_G} {cyI cyL : ClassId} {ad am : Nat → Nat} {o b L : Nat} {xs : Nat → Int32} (C : LW p l s m #[Value.ref b] meth c D cyI cyL ad am o b L xs) (hL : L ≤ 3072) :
    ∀ (n i cells slots : Nat) (I J : Nat → Int32) (A B : Nat → Nat → Int32) (f : Nat → Int64) (H : Heap) (locs : List Loc) (ls : Array Slot), i ≤ L → L + 1 ≤ i + 6 * n → cells + n ≤ 601024 → slots + 6 * n ≤ 7293034 → LT s D cyI cyL ad am o I A J B f H locs → lv_has ls 7 [(0, .ref b), (1, .ref (ad 0)), (2, .ref (am 0)), (3, .ref o), (4, .int (nI i))] → W p l e room_1 s m #[Value.ref b] below meth c H locs cells slots (lw_Z below #[Value.ref b] s) (F0 m 23 ls []) := by
  obtain ⟨E, hX, hbl, -⟩ := id C
  have hbA : ¬ (fun q : Nat => s.heap.size ≤ q) b := Nat.not_le.mpr hbl
  intro n
  induction n with
  | zero =>
    intro i cells slots I J A B f H locs ls h1 h2
    exact absurd h2 (by omega)
  | succ n ih =>
    intro i cells slots I J A B f H locs ls hi hn hc hs T hl
    have S := T.2.2.2.1
    refine lv_iload E.hx E.hb dL_law_23 (lv_at hl 4 rfl) ?_
    refine lv_aload_n E.hx E.hb dL_law_25 rfl (lv_at hl 0 rfl) ?_
    refine va_slen E.hx E.hb hX hbl hbA S dL_law_26 ?_
    refine lv_bipush (v := 6) E.hx E.hb dL_law_27 (by decide) ?_
    refine lv_isub E.hx E.hb dL_law_29 ?_
    refine lv_icmp_gt (tgt := 1755) E.hx E.hb dL_law_30 (by decide) (fun c_1 => ?_) (fun c_1 => ?_)
    · refine lv_iconst (v := 1) E.hx E.hb dL_law_1755 (by decide) ?_
      refine va_forget (fun q hq => S.2.2 q hq) ?_
      refine W.widen (k := 601024) (n := 7293034) (by omega) (by omega) ?_
      exact lw_ret E.hx E.hb E.hr E.hk dL_law_1756
    · have hi6 : i + 6 ≤ L := law_go hL hi c_1
      have hk : ∀ (I : Nat → Int32) (A : Nat → Nat → Int32) (J : Nat → Int32) (B : Nat → Nat → Int32) (f : Nat → Int64) (H : Heap) (locs : List Loc) (ls : Array Slot), LT s D cyI cyL ad am o I A J B f H locs → lv_has ls 7 [(0, .ref b), (1, .ref (ad 0)), (2, .ref (am 0)), (3, .ref o), (4, .int (nI i))] → W p l e room_1 s m #[Value.ref b] below meth c H locs (cells + 1) (slots + 6) (lw_Z below #[Value.ref b] s) (F0 m 1749 ls []) := by
        intro I A J B f H locs ls T hl
        refine lv_iinc (v := nI (i + 6)) (lv' := [(4, .int (nI (i + 6))), (0, .ref b), (1, .ref (ad 0)), (2, .ref (am 0)), (3, .ref o)]) E.hx E.hb dL_law_1749 hl (k := 4) rfl (nI_add i 6) (by decide) rfl (fun ls hl => ?_)
        refine lv_goto (tgt := 23) E.hx E.hb dL_law_1752 (by decide) ?_
        exact ih (i + 6) (cells + 1) (slots + 6) I J A B f H locs ls hi6 (by omega) (by omega) (by omega) T (lv_sub hl [1, 2, 3, 4, 0] rfl)
      have hc1 : cells + 1 ≤ 601024 := by omega
      have hs1 : slots + 6 ≤ 7293034 := by omega
      refine lv_aload_n E.hx E.hb dL_law_33 rfl (lv_at hl 0 rfl) ?_
      refine lv_iload E.hx E.hb dL_law_34 (lv_at hl 4 rfl) ?_
      refine va_sld E.hx E.hb hX hbl hbA S (vp_in_nI (n := i) (N := L) (by omega) (by omega)) dL_law_36 ?_
      rw [nI_clamp (show i < 2 ^ 31 by omega)]
      refine lv_bipush (v := 31) E.hx E.hb dL_law_37 (by decide) ?_
      refine lv_iand E.hx E.hb dL_law_39 ?_
      generalize xs i &&& 31 = k
      by_cases c0 : k = 0
      · refine lv_tableIn (off := 116) (tgt := 156) E.hx E.hb dL_law_40 (by rw [c0]; decide) (by rw [c0]; decide) (by rw [c0]; rfl) (by decide) ?_
        exact law_c0 C T hi6 hL hc1 hs1 hk hl
      by_cases c1 : k = 1
      · refine lv_tableIn (off := 164) (tgt := 204) E.hx E.hb dL_law_40 (by rw [c1]; decide) (by rw [c1]; decide) (by rw [c1]; rfl) (by decide) ?_
        exact law_c1 C T hi6 hL hc1 hs1 hk hl
      by_cases c2 : k = 2
      · refine lv_tableIn (off := 232) (tgt := 272) E.hx E.hb dL_law_40 (by rw [c2]; decide) (by rw [c2]; decide) (by rw [c2]; rfl) (by decide) ?_
        exact law_c2 C T hi6 hL hc1 hs1 hk hl
      by_cases c3 : k = 3
      · refine lv_tableIn (off := 312) (tgt := 352) E.hx E.hb dL_law_40 (by rw [c3]; decide) (by rw [c3]; decide) (by rw [c3]; rfl) (by decide) ?_
        exact law_c3 C T hi6 hL hc1 hs1 hk hl
      by_cases c4 : k = 4
      · refine lv_tableIn (off := 416) (tgt := 456) E.hx E.hb dL_law_40 (by rw [c4]; decide) (by rw [c4]; decide) (by rw [c4]; rfl) (by decide) ?_
        exact law_c4 C T hi6 hL hc1 hs1 hk hl
      by_cases c5 : k = 5
      · refine lv_tableIn (off := 508) (tgt := 548) E.hx E.hb dL_law_40 (by rw [c5]; decide) (by rw [c5]; decide) (by rw [c5]; rfl) (by decide) ?_
        exact law_c5 C T hi6 hL hc1 hs1 hk hl
      by_cases c6 : k = 6
      · refine lv_tableIn (off := 588) (tgt := 628) E.hx E.hb dL_law_40 (by rw [c6]; decide) (by rw [c6]; decide) (by rw [c6]; rfl) (by decide) ?_
        exact law_c6 C T hi6 hL hc1 hs1 hk hl
      by_cases c7 : k = 7
      · refine lv_tableIn (off := 680) (tgt := 720) E.hx E.hb dL_law_40 (by rw [c7]; decide) (by rw [c7]; decide) (by rw [c7]; rfl) (by decide) ?_
        exact law_c7 C T hi6 hL hc1 hs1 hk hl
      by_cases c8 : k = 8
      · refine lv_tableIn (off := 736) (tgt := 776) E.hx E.hb dL_law_40 (by rw [c8]; decide) (by rw [c8]; decide) (by rw [c8]; rfl) (by decide) ?_
        exact law_c8 C T hi6 hL hc1 hs1 hk hl
      by_cases c9 : k = 9
      · refine lv_tableIn (off := 792) (tgt := 832) E.hx E.hb dL_law_40 (by rw [c9]; decide) (by rw [c9]; decide) (by rw [c9]; rfl) (by decide) ?_
        exact law_c9 C T hi6 hL hc1 hs1 hk hl
      by_cases c10 : k = 10
      · refine lv_tableIn (off := 836) (tgt := 876) E.hx E.hb dL_law_40 (by rw [c10]; decide) (by rw [c10]; decide) (by rw [c10]; rfl) (by decide) ?_
        exact law_c10 C T hi6 hL hc1 hs1 hk hl
      by_cases c11 : k = 11
      · refine lv_tableIn (off := 849) (tgt := 889) E.hx E.hb dL_law_40 (by rw [c11]; decide) (by rw [c11]; decide) (by rw [c11]; rfl) (by decide) ?_
        exact law_c11 C T hi6 hL hc1 hs1 hk hl
      by_cases c12 : k = 12
      · refine lv_tableIn (off := 929) (tgt := 969) E.hx E.hb dL_law_40 (by rw [c12]; decide) (by rw [c12]; decide) (by rw [c12]; rfl) (by decide) ?_
        exact law_c12 C T hi6 hL hc1 hs1 hk hl
      by_cases c13 : k = 13
      · refine lv_tableIn (off := 942) (tgt := 982) E.hx E.hb dL_law_40 (by rw [c13]; decide) (by rw [c13]; decide) (by rw [c13]; rfl) (by decide) ?_
        exact law_c13 C T hi6 hL hc1 hs1 hk hl
      by_cases c14 : k = 14
      · refine lv_tableIn (off := 955) (tgt := 995) E.hx E.hb dL_law_40 (by rw [c14]; decide) (by rw [c14]; decide) (by rw [c14]; rfl) (by decide) ?_
        exact law_c14 C T hi6 hL hc1 hs1 hk hl
      by_cases c15 : k = 15
      · refine lv_tableIn (off := 996) (tgt := 1036) E.hx E.hb dL_law_40 (by rw [c15]; decide) (by rw [c15]; decide) (by rw [c15]; rfl) (by decide) ?_
        exact law_c15 C T hi6 hL hc1 hs1 hk hl
      by_cases c16 : k = 16
      · refine lv_tableIn (off := 1092) (tgt := 1132) E.hx E.hb dL_law_40 (by rw [c16]; decide) (by rw [c16]; decide) (by rw [c16]; rfl) (by decide) ?_
        exact law_c16 C T hi6 hL hc1 hs1 hk hl
      by_cases c17 : k = 17
      · refine lv_tableIn (off := 1160) (tgt := 1200) E.hx E.hb dL_law_40 (by rw [c17]; decide) (by rw [c17]; decide) (by rw [c17]; rfl) (by decide) ?_
        exact law_c17 C T hi6 hL hc1 hs1 hk hl
      by_cases c18 : k = 18
      · refine lv_tableIn (off := 1252) (tgt := 1292) E.hx E.hb dL_law_40 (by rw [c18]; decide) (by rw [c18]; decide) (by rw [c18]; rfl) (by decide) ?_
        exact law_c18 C T hi6 hL hc1 hs1 hk hl
      by_cases c19 : k = 19
      · refine lv_tableIn (off := 1344) (tgt := 1384) E.hx E.hb dL_law_40 (by rw [c19]; decide) (by rw [c19]; decide) (by rw [c19]; rfl) (by decide) ?_
        exact law_c19 C T hi6 hL hc1 hs1 hk hl
      by_cases c20 : k = 20
      · refine lv_tableIn (off := 1357) (tgt := 1397) E.hx E.hb dL_law_40 (by rw [c20]; decide) (by rw [c20]; decide) (by rw [c20]; rfl) (by decide) ?_
        exact law_c20 C T hi6 hL hc1 hs1 hk hl
      by_cases c21 : k = 21
      · refine lv_tableIn (off := 1425) (tgt := 1465) E.hx E.hb dL_law_40 (by rw [c21]; decide) (by rw [c21]; decide) (by rw [c21]; rfl) (by decide) ?_
        exact law_c21 C T hi6 hL hc1 hs1 hk hl
      by_cases c22 : k = 22
      · refine lv_tableIn (off := 1493) (tgt := 1533) E.hx E.hb dL_law_40 (by rw [c22]; decide) (by rw [c22]; decide) (by rw [c22]; rfl) (by decide) ?_
        exact law_c22 C T hi6 hL hc1 hs1 hk hl
      by_cases c23 : k = 23
      · refine lv_tableIn (off := 1573) (tgt := 1613) E.hx E.hb dL_law_40 (by rw [c23]; decide) (by rw [c23]; decide) (by rw [c23]; rfl) (by decide) ?_
        exact law_c23 C T hi6 hL hc1 hs1 hk hl
      by_cases c24 : k = 24
      · refine lv_tableIn (off := 1629) (tgt := 1669) E.hx E.hb dL_law_40 (by rw [c24]; decide) (by rw [c24]; decide) (by rw [c24]; rfl) (by decide) ?_
        exact law_c24 C T hi6 hL hc1 hs1 hk hl
      refine lv_tableOut (tgt := 1749) E.hx E.hb dL_law_40 (swo 24 (by decide) (by intro j hj; rcases (show j = 0 ∨ j = 1 ∨ j = 2 ∨ j = 3 ∨ j = 4 ∨ j = 5 ∨ j = 6 ∨ j = 7 ∨ j = 8 ∨ j = 9 ∨ j = 10 ∨ j = 11 ∨ j = 12 ∨ j = 13 ∨ j = 14 ∨ j = 15 ∨ j = 16 ∨ j = 17 ∨ j = 18 ∨ j = 19 ∨ j = 20 ∨ j = 21 ∨ j = 22 ∨ j = 23 ∨ j = 24 by omega) with rfl | rfl | rfl | rfl | rfl | rfl | rfl | rfl | rfl | rfl | rfl | rfl | rfl | rfl | rfl | rfl | rfl | rfl | rfl | rfl | rfl | rfl | rfl | rfl | rfl <;> assumption)) (by decide) ?_
      refine W.widen (k := cells + 1) (n := slots + 6) (by omega) (by omega) ?_
      exact hk _ _ _ _ _ _ _ _ T hl
end LAWC

section LAWB
theorem gSW {own : String} {idx n : Nat} {y : MethodName} {b : ByteArray} {r : Option FieldType} {hh : List (Nat × Nat × Nat × Nat)} (h1 : Cond.methodLink own idx y ∈ TA) (h2 : Cond.static y ∈ TA) (h4 : Cond.initialized y.cls ∈ TA) (h5 : Cond.codeWith y b n r hh ∈ TA) : GoodIn TA (va_wsS own idx y (.codeWith y b n r hh :: TA)) :=
  gi_c (ta2 h1) (gi_c (ta2 h2) (gi_c (ta2 h4) (gi_c (ta2 h5) gi_ta)))
theorem lgc {a b : Int64} (h : a = b) : lg_cmp a b = 0 := by
  subst h
  simp [lg_cmp]
def bz (v : Int32) : Int32 := if v = 0 then 0 else 1
/-- what stays as it is, in the law -/
def LW (p : Program) (l : Launch) (s : State) (m : MethodId) (args : Array Value) (meth : Method) (c : Code) (D : va_G) (cyI cyL : ClassId) (ad am : Nat → Nat) (o b L : Nat) (xs : Nat → Int32) : Prop :=
  EX p s m args meth c code 7 RL ret ∧ va_X b L xs s s.heap ∧ b < s.heap.size ∧ l.stackTraces = false ∧ AdN 44 ad ∧ AdN 16 am ∧ (∀ q, InN 44 ad q → s.heap.size ≤ q) ∧ (∀ q, InN 16 am q → s.heap.size ≤ q) ∧ s.heap.size ≤ o ∧
  (∀ q, InN 44 ad q → ¬ InN 16 am q) ∧ ¬ InN 44 ad o ∧ ¬ InN 16 am o ∧ KCg D cyI (fun q => s.heap.size ≤ q) s s.heap ∧ va_K D classes [(cyI, .int), (cyL, .long)] s
/-- where class and reference stand, in the law -/
def LT (s : State) (D : va_G) (cyI cyL : ClassId) (ad am : Nat → Nat) (o : Nat) (I : Nat → Int32) (A : Nat → Nat → Int32) (J : Nat → Int32) (B : Nat → Nat → Int32) (f : Nat → Int64) (H : Heap) (locs : List Loc) : Prop :=
  va_P D classes (cw cyI ad I A) H ∧ va_P D classes (mw cyI am J B) H ∧ va_P D classes [(o, .inl (cyL, 1, .inr (.inl f)))] H ∧ va_S (fun q => s.heap.size ≤ q) s.heap H locs ∧ Rel I A J B
theorem good_ex {L : List (Nat × Nat)} {oo : Option OutT} {q : Option (Int32 × (Nat → Int32) × (Nat → Nat → Int32))} (G : Good L oo q) : ∃ out r J B, oo = some out ∧ q = some (r, J, B) ∧ Good L (some out) (some (r, J, B)) := by
  rcases id G with ⟨v, I, A, J, B, e1, e2, -⟩ | ⟨k, c, r, I, A, J, B, e1, e2, -⟩
  · refine ⟨_, _, _, _, e1, e2, ?_⟩
    rw [e1, e2] at G
    exact G
  · refine ⟨_, _, _, _, e1, e2, ?_⟩
    rw [e1, e2] at G
    exact G
theorem goodG_ex {oo : Option OutT} {q : Option ((Nat → Int32) × (Nat → Nat → Int32))} (G : GoodG oo q) : ∃ out J B, oo = some out ∧ q = some (J, B) ∧ GoodG (some out) (some (J, B)) := by
  rcases id G with ⟨v, I, A, J, B, e1, e2, -⟩ | ⟨k, c, I, A, J, B, e1, e2, -⟩
  · refine ⟨_, _, _, e1, e2, ?_⟩
    rw [e1, e2] at G
    exact G
  · refine ⟨_, _, _, e1, e2, ?_⟩
    rw [e1, e2] at G
    exact G
section
variable {p : Program} {l : Launch} {e : Env} {R : Room} {s : State} {m : MethodId} {args : Array Value} {below : List Frame} {meth : Method} {c : Code} {H : Heap} {locs : List Loc} {cells slots : Nat} {Q : State → Prop} {cc : ByteArray} {nL pc : Nat} {own : String} {rt : Option FieldType} {ls : Array Slot} {rest : List Value}
theorem lw_bool (E : EX p s m args meth c cc nL own rt) {v : Int32} {o1 o2 : Int} {tgt : Nat} (d1 : decode cc pc = .ok (.ifCond .eq o1, 3)) (h1 : (pc : Int) + o1 = (tgt : Int)) (d2 : decode cc (pc + 3) = .ok (.iconst 1, 1)) (d3 : decode cc (pc + 3 + 1) = .ok (.goto o2, 3)) (h2 : ((pc + 3 + 1 : Nat) : Int) + o2 = ((tgt + 1 : Nat) : Int)) (d4 : decode cc tgt = .ok (.iconst 0, 1))
    (kk : W p l e R s m args below meth c H locs cells slots Q (F0 m (tgt + 1) ls (.int (bz v) :: rest))) : W p l e R s m args below meth c H locs cells slots Q (F0 m pc ls (.int v :: rest)) := by
  unfold bz at kk
  refine lv_if_eq (tgt := tgt) E.hx E.hb d1 h1 (fun q => ?_) (fun q => ?_)
  · rw [if_pos q] at kk
    refine lv_iconst (v := 0) E.hx E.hb d4 (by decide) ?_
    exact kk
  · rw [if_neg q] at kk
    refine lv_iconst (v := 1) E.hx E.hb d2 (by decide) ?_
    refine lv_goto (tgt := tgt + 1) E.hx E.hb d3 h2 ?_
    exact kk
end
theorem ds_L_grid : Dsc yL_grid 3 := ⟨by decide +kernel, by decide +kernel, by decide +kernel⟩
theorem ds_L_costs : Dsc yL_costs 4 := ⟨by decide +kernel, by decide +kernel, by decide +kernel⟩
theorem ds_L_turn : Dsc yL_turn 5 := ⟨by decide +kernel, by decide +kernel, by decide +kernel⟩
theorem ds_L_anchor : Dsc yL_anchor 7 := ⟨by decide +kernel, by decide +kernel, by decide +kernel⟩
theorem ds_L_pixel : Dsc yL_pixel 6 := ⟨by decide +kernel, by decide +kernel, by decide +kernel⟩
theorem ds_L_drive : Dsc yL_drive 5 := ⟨by decide +kernel, by decide +kernel, by decide +kernel⟩
theorem ds_L_program : Dsc yL_program 6 := ⟨by decide +kernel, by decide +kernel, by decide +kernel⟩
theorem ds_L_tick : Dsc yL_tick 3 := ⟨by decide +kernel, by decide +kernel, by decide +kernel⟩
theorem ds_L_plates : Dsc yL_plates 3 := ⟨by decide +kernel, by decide +kernel, by decide +kernel⟩
theorem ds_L_picture : Dsc yL_picture 2 := ⟨by decide +kernel, by decide +kernel, by decide +kernel⟩
theorem ds_L_told : Dsc yL_told 5 := ⟨by decide +kernel, by decide +kernel, by decide +kernel⟩
theorem ds_L_least : Dsc yL_least 5 := ⟨by decide +kernel, by decide +kernel, by decide +kernel⟩
theorem ds_L_winding : Dsc yL_winding 4 := ⟨by decide +kernel, by decide +kernel, by decide +kernel⟩
theorem ds_L_within : Dsc yL_within 6 := ⟨by decide +kernel, by decide +kernel, by decide +kernel⟩
theorem ds_L_border : Dsc yL_border 6 := ⟨by decide +kernel, by decide +kernel, by decide +kernel⟩
theorem ds_L_defect : Dsc yL_defect 4 := ⟨by decide +kernel, by decide +kernel, by decide +kernel⟩
theorem ds_L_ofPixel : Dsc yL_ofPixel 4 := ⟨by decide +kernel, by decide +kernel, by decide +kernel⟩
theorem ds_L_pictured : Dsc yL_pictured 5 := ⟨by decide +kernel, by decide +kernel, by decide +kernel⟩
theorem ds_L_ghosts : Dsc yL_ghosts 3 := ⟨by decide +kernel, by decide +kernel, by decide +kernel⟩
theorem ds_L_guesses : Dsc yL_guesses 5 := ⟨by decide +kernel, by decide +kernel, by decide +kernel⟩
section
variable {p : Program} {l : Launch} {e : Env} {s : State} {m : MethodId} {args : Array Value} {below : List Frame} {meth : Method} {c : Code} {Q : State → Prop} {D : va_G} {cyI cyL : ClassId} {ad am : Nat → Nat} {o b L i : Nat} {xs : Nat → Int32} {I J : Nat → Int32} {A B : Nat → Nat → Int32} {f : Nat → Int64} {H : Heap} {locs : List Loc} {cells slots : Nat} {ls : Array Slot}
set_option maxHeartbeats 4000000 in
set_option maxRecDepth 100000 in
theorem law_c0 (C : LW p l s m args meth c D cyI cyL ad am o b L xs) (T : LT s D cyI cyL ad am o I A J B f H locs) (hi : i + 6 ≤ L) (hL : L ≤ 3072) (hc : cells + 1 ≤ 601024) (hs : slots + 6 ≤ 7293034) (hk : ∀ (I : Nat → Int32) (A : Nat → Nat → Int32) (J : Nat → Int32) (B : Nat → Nat → Int32) (f : Nat → Int64) (H : Heap) (locs : List Loc) (ls : Array Slot), LT s D cyI cyL ad am o I A J B f H locs → lv_has ls 7 [(0, .ref b), (1, .ref (ad 0)), (2, .ref (am 0)), (3, .ref o), (4, .int (nI i))] → W p l e room_1 s m args below meth c H locs (cells + 1) (slots + 6) Q (F0 m 1749 ls [])) (hl : lv_has ls 7 [(0, .ref b), (1, .ref (ad 0)), (2, .ref (am 0)), (3, .ref o), (4, .int (nI i))]) : W p l e room_1 s m args below meth c H locs cells slots Q (F0 m 156 ls []) := by
  obtain ⟨E, hX, hbl, hfl, N1, N2, r1, r2, r3, d12, d13, d23, KG, KA⟩ := C
  obtain ⟨P1, P2, P3, S, R⟩ := T
  have hbA : ¬ (fun q : Nat => s.heap.size ≤ q) b := Nat.not_le.mpr hbl
  have hc1 : cells + 1 ≤ room_1.cells := hc
  have hs1 : slots + 6 ≤ room_1.slots := hs
  have hc0 : cells ≤ room_1.cells := Nat.le_trans (Nat.le_succ cells) hc
  have hs0 : slots ≤ room_1.slots := Nat.le_trans (Nat.le_add_right slots 6) hs
  have G := st_grid R (xs (i + 1)) (xs (i + 2))
  obtain ⟨out, J1, B1, e1, e2, G⟩ := goodG_ex G
  refine lv_aload_n E.hx E.hb dL_law_156 rfl (lv_at hl 1 rfl) ?_
  refine lv_aload_n E.hx E.hb dL_law_157 rfl (lv_at hl 0 rfl) ?_
  refine lv_iload E.hx E.hb dL_law_158 (lv_at hl 4 rfl) ?_
  refine lv_iconst (v := 1) E.hx E.hb dL_law_160 (by decide) ?_
  refine lv_iadd E.hx E.hb dL_law_161 ?_
  rw [show nI i + 1 = nI (i + 1) from nI_add i 1]
  refine va_sld E.hx E.hb hX hbl hbA S (vp_in_nI (n := i + 1) (N := L) (by omega) (by omega)) dL_law_162 ?_
  rw [nI_clamp (show i + 1 < 2 ^ 31 by omega)]
  refine lv_aload_n E.hx E.hb dL_law_163 rfl (lv_at hl 0 rfl) ?_
  refine lv_iload E.hx E.hb dL_law_164 (lv_at hl 4 rfl) ?_
  refine lv_iconst (v := 2) E.hx E.hb dL_law_166 (by decide) ?_
  refine lv_iadd E.hx E.hb dL_law_167 ?_
  rw [show nI i + 2 = nI (i + 2) from nI_add i 2]
  refine va_sld E.hx E.hb hX hbl hbA S (vp_in_nI (n := i + 2) (N := L) (by omega) (by omega)) dL_law_168 ?_
  rw [nI_clamp (show i + 2 < 2 ^ 31 by omega)]
  refine vl_call (vx_runSW (As := [.ref (ad 0), .int (xs (i + 1)), .int (xs (i + 2))]) (rest := []) E.fix (c_L_grid l hfl N1 P1 P3 d13 e1 (goodG_hx G)) (vx_cwSW 3 E.ht (gSW kML_L_87 kST_L_grid kIN_L kCW_L_grid) rfl rfl rfl ds_L_grid ⟨Nat.le_of_ble_eq_true rfl, Nat.le_of_ble_eq_true rfl⟩) ⟨PX_blind KL_blind, fun U hU hW9 => ⟨rfl, hU, (((KG.at S).narrow r1).warm hW9).to, va_K.moved hW9.alike KA⟩⟩ rfl rfl hl.1 rfl (lv_room (Nat.le_of_ble_eq_true rfl)) dL_law_169 ⟨hc1, hs1⟩) S (fun q hq => hq.elim (fun h9 => r1 q h9) (fun h9 => by rw [h9]; exact r3)) (fun z I1 A1 f1 H1 locs1 P1 P3 hq hk1 S => ?_)
  have P2 := P_keep P2 hk1 (fun k q hq9 h9 => h9.elim (fun h9 => d12 _ h9 (mw_in hq9)) (fun h9 => d23 (by rw [← h9]; exact mw_in hq9)))
  refine lv_istore (lv' := [(5, .int z), (0, .ref b), (1, .ref (ad 0)), (2, .ref (am 0)), (3, .ref o), (4, .int (nI i))]) E.hx E.hb dL_law_172 hl (by decide) rfl (fun ls hl => ?_)
  refine lv_aload_n E.hx E.hb dL_law_174 rfl (lv_at hl 3 rfl) ?_
  refine lv_aload_n E.hx E.hb dL_law_175 rfl (lv_at hl 1 rfl) ?_
  refine lv_iload E.hx E.hb dL_law_176 (lv_at hl 5 rfl) ?_
  refine lv_iconst (v := 1) E.hx E.hb dL_law_178 (by decide) ?_
  refine lv_iadd E.hx E.hb dL_law_179 ?_
  rw [show nI i + 1 = nI (i + 1) from nI_add i 1]
  refine va_sld E.hx E.hb hX hbl hbA S (vp_in_nI (n := i + 1) (N := L) (by omega) (by omega)) dL_law_180 ?_
  rw [nI_clamp (show i + 1 < 2 ^ 31 by omega)]
  refine lv_aload_n E.hx E.hb dL_law_181 rfl (lv_at hl 1 rfl) ?_
  refine lv_iload E.hx E.hb dL_law_182 (lv_at hl 5 rfl) ?_
  refine lv_iconst (v := 2) E.hx E.hb dL_law_184 (by decide) ?_
  refine lv_iadd E.hx E.hb dL_law_185 ?_
  rw [show nI i + 2 = nI (i + 2) from nI_add i 2]
  refine va_sld E.hx E.hb hX hbl hbA S (vp_in_nI (n := i + 2) (N := L) (by omega) (by omega)) dL_law_186 ?_
  rw [nI_clamp (show i + 2 < 2 ^ 31 by omega)]
  refine cv_rw2 E (c_X7_grid l N2 P2 (xs (i + 1)) (xs (i + 2)) e2) (gV kML_L_92 kIM_X7_grid kSE_X7_grid kIN_X7 kCO_X7_grid) rfl ds_X7_grid rfl KM_blind (fun U _ hW => va_K.moved hW.alike KG.1) S r2 (va_recv KG.1 P2 (show classes[7]? = some (RX7, TX7, 27) from rfl) mw_g0) ⟨Nat.le_of_ble_eq_true rfl, Nat.le_of_ble_eq_true rfl, hc1, hs1⟩ hl.1 rfl (Nat.le_of_ble_eq_true rfl) dL_law_187 (fun H2 locs2 P2 hz2 hk2 S => ?_)
  refine W.eq (g2 := F0 m 190 ls []) rfl ?_
  have P1 := P_keep P1 hk2 (fun k q hq h9 => d12 _ (cw_in hq) h9)
  have P3 := P_keep P3 hk2 (fun k q hq => by rw [one_in hq]; exact d23)
  have G2 := goodG_use G hq
  refine lv_aload_n E.hx E.hb dL_law_190 rfl (lv_at hl 3 rfl) ?_
  refine cv_ro E (c_X7_thrown l P2) (gV kML_L_93 kIM_X7_thrown kSE_X7_thrown kIN_X7 kCO_X7_thrown) rfl ds_X7_thrown rfl KM_blind (fun U _ hW => va_K.moved hW.alike KG.1) (va_recv KG.1 P2 (show classes[7]? = some (RX7, TX7, 27) from rfl) mw_g0) ⟨Nat.le_of_ble_eq_true rfl, Nat.le_of_ble_eq_true rfl, hc1, hs1⟩ hl.1 rfl (Nat.le_of_ble_eq_true rfl) dL_law_191 ?_
  refine lv_iload E.hx E.hb dL_law_194 (lv_at hl 0 rfl) ?_
  refine lv_icmp_eq (tgt := 201) E.hx E.hb dL_law_196 (by decide) (fun c_1 => ?_) (fun c_1 => ?_)
  · refine lv_goto (tgt := 1749) E.hx E.hb dL_law_201 (by decide) ?_
    exact hk _ _ _ _ _ _ _ _ ⟨P1, P2, P3, S, G2.2⟩ (lv_sub hl [1, 2, 3, 4, 5] rfl)
  · exact absurd G2.1 c_1
set_option maxHeartbeats 4000000 in
set_option maxRecDepth 100000 in
theorem law_c1 (C : LW p l s m args meth c D cyI cyL ad am o b L xs) (T : LT s D cyI cyL ad am o I A J B f H locs) (hi : i + 6 ≤ L) (hL : L ≤ 3072) (hc : cells + 1 ≤ 601024) (hs : slots + 6 ≤ 7293034) (hk : ∀ (I : Nat → Int32) (A : Nat → Nat → Int32) (J : Nat → Int32) (B : Nat → Nat → Int32) (f : Nat → Int64) (H : Heap) (locs : List Loc) (ls : Array Slot), LT s D cyI cyL ad am o I A J B f H locs → lv_has ls 7 [(0, .ref b), (1, .ref (ad 0)), (2, .ref (am 0)), (3, .ref o), (4, .int (nI i))] → W p l e room_1 s m args below meth c H locs (cells + 1) (slots + 6) Q (F0 m 1749 ls [])) (hl : lv_has ls 7 [(0, .ref b), (1, .ref (ad 0)), (2, .ref (am 0)), (3, .ref o), (4, .int (nI i))]) : W p l e room_1 s m args below meth c H locs cells slots Q (F0 m 204 ls []) := by
  obtain ⟨E, hX, hbl, hfl, N1, N2, r1, r2, r3, d12, d13, d23, KG, KA⟩ := C
  obtain ⟨P1, P2, P3, S, R⟩ := T
  have hbA : ¬ (fun q : Nat => s.heap.size ≤ q) b := Nat.not_le.mpr hbl
  have hc1 : cells + 1 ≤ room_1.cells := hc
  have hs1 : slots + 6 ≤ room_1.slots := hs
  have hc0 : cells ≤ room_1.cells := Nat.le_trans (Nat.le_succ cells) hc
  have hs0 : slots ≤ room_1.slots := Nat.le_trans (Nat.le_add_right slots 6) hs
  have G := st_costs R (xs (i + 1)) (xs (i + 2))
  obtain ⟨out, r, J1, B1, e1, e2, G⟩ := good_ex G
  refine lv_aload_n E.hx E.hb dL_law_204 rfl (lv_at hl 1 rfl) ?_
  refine lv_aload_n E.hx E.hb dL_law_205 rfl (lv_at hl 0 rfl) ?_
  refine lv_iload E.hx E.hb dL_law_206 (lv_at hl 4 rfl) ?_
  refine lv_iconst (v := 1) E.hx E.hb dL_law_208 (by decide) ?_
  refine lv_iadd E.hx E.hb dL_law_209 ?_
  rw [show nI i + 1 = nI (i + 1) from nI_add i 1]
  refine va_sld E.hx E.hb hX hbl hbA S (vp_in_nI (n := i + 1) (N := L) (by omega) (by omega)) dL_law_210 ?_
  rw [nI_clamp (show i + 1 < 2 ^ 31 by omega)]
  refine lv_aload_n E.hx E.hb dL_law_211 rfl (lv_at hl 0 rfl) ?_
  refine lv_iload E.hx E.hb dL_law_212 (lv_at hl 4 rfl) ?_
  refine lv_iconst (v := 2) E.hx E.hb dL_law_214 (by decide) ?_
  refine lv_iadd E.hx E.hb dL_law_215 ?_
  rw [show nI i + 2 = nI (i + 2) from nI_add i 2]
  refine va_sld E.hx E.hb hX hbl hbA S (vp_in_nI (n := i + 2) (N := L) (by omega) (by omega)) dL_law_216 ?_
  rw [nI_clamp (show i + 2 < 2 ^ 31 by omega)]
  refine lv_aload_n E.hx E.hb dL_law_217 rfl (lv_at hl 3 rfl) ?_
  refine vl_call (vx_runSW (As := [.ref (ad 0), .int (xs (i + 1)), .int (xs (i + 2)), .ref o]) (rest := []) E.fix (c_L_costs l hfl N1 P1 P3 d13 e1 (good_hx G)) (vx_cwSW 4 E.ht (gSW kML_L_96 kST_L_costs kIN_L kCW_L_costs) rfl rfl rfl ds_L_costs ⟨Nat.le_of_ble_eq_true rfl, Nat.le_of_ble_eq_true rfl⟩) ⟨PX_blind KL_blind, fun U hU hW9 => ⟨rfl, hU, (((KG.at S).narrow r1).warm hW9).to, va_K.moved hW9.alike KA⟩⟩ rfl rfl hl.1 rfl (lv_room (Nat.le_of_ble_eq_true rfl)) dL_law_218 ⟨hc1, hs1⟩) S (fun q hq => hq.elim (fun h9 => r1 q h9) (fun h9 => by rw [h9]; exact r3)) (fun z I1 A1 f1 H1 locs1 P1 P3 hq hk1 S => ?_)
  have P2 := P_keep P2 hk1 (fun k q hq9 h9 => h9.elim (fun h9 => d12 _ h9 (mw_in hq9)) (fun h9 => d23 (by rw [← h9]; exact mw_in hq9)))
  refine lv_istore (lv' := [(5, .int z), (0, .ref b), (1, .ref (ad 0)), (2, .ref (am 0)), (3, .ref o), (4, .int (nI i))]) E.hx E.hb dL_law_221 hl (by decide) rfl (fun ls hl => ?_)
  refine lv_aload_n E.hx E.hb dL_law_223 rfl (lv_at hl 3 rfl) ?_
  refine lv_aload_n E.hx E.hb dL_law_224 rfl (lv_at hl 1 rfl) ?_
  refine lv_iload E.hx E.hb dL_law_225 (lv_at hl 5 rfl) ?_
  refine lv_iconst (v := 1) E.hx E.hb dL_law_227 (by decide) ?_
  refine lv_iadd E.hx E.hb dL_law_228 ?_
  rw [show nI i + 1 = nI (i + 1) from nI_add i 1]
  refine va_sld E.hx E.hb hX hbl hbA S (vp_in_nI (n := i + 1) (N := L) (by omega) (by omega)) dL_law_229 ?_
  rw [nI_clamp (show i + 1 < 2 ^ 31 by omega)]
  refine lv_aload_n E.hx E.hb dL_law_230 rfl (lv_at hl 1 rfl) ?_
  refine lv_iload E.hx E.hb dL_law_231 (lv_at hl 5 rfl) ?_
  refine lv_iconst (v := 2) E.hx E.hb dL_law_233 (by decide) ?_
  refine lv_iadd E.hx E.hb dL_law_234 ?_
  rw [show nI i + 2 = nI (i + 2) from nI_add i 2]
  refine va_sld E.hx E.hb hX hbl hbA S (vp_in_nI (n := i + 2) (N := L) (by omega) (by omega)) dL_law_235 ?_
  rw [nI_clamp (show i + 2 < 2 ^ 31 by omega)]
  refine cv_rw2 E (c_X7_costs l N2 P2 (xs (i + 1)) (xs (i + 2)) e2) (gV kML_L_99 kIM_X7_costs kSE_X7_costs kIN_X7 kCO_X7_costs) rfl ds_X7_costs rfl KM_blind (fun U _ hW => va_K.moved hW.alike KG.1) S r2 (va_recv KG.1 P2 (show classes[7]? = some (RX7, TX7, 27) from rfl) mw_g0) ⟨Nat.le_of_ble_eq_true rfl, Nat.le_of_ble_eq_true rfl, hc1, hs1⟩ hl.1 rfl (Nat.le_of_ble_eq_true rfl) dL_law_236 (fun H2 locs2 P2 hz2 hk2 S => ?_)
  refine W.eq (g2 := F0 m 239 ls [.int r]) rfl ?_
  have P1 := P_keep P1 hk2 (fun k q hq h9 => d12 _ (cw_in hq) h9)
  have P3 := P_keep P3 hk2 (fun k q hq => by rw [one_in hq]; exact d23)
  refine lv_istore (lv' := [(6, .int r), (5, .int z), (0, .ref b), (1, .ref (ad 0)), (2, .ref (am 0)), (3, .ref o), (4, .int (nI i))]) E.hx E.hb dL_law_239 hl (by decide) rfl (fun ls hl => ?_)
  have G2 := good_use (by decide) (by decide) G hq
  refine lv_aload_n E.hx E.hb dL_law_241 rfl (lv_at hl 4 rfl) ?_
  refine cv_ro E (c_X7_thrown l P2) (gV kML_L_93 kIM_X7_thrown kSE_X7_thrown kIN_X7 kCO_X7_thrown) rfl ds_X7_thrown rfl KM_blind (fun U _ hW => va_K.moved hW.alike KG.1) (va_recv KG.1 P2 (show classes[7]? = some (RX7, TX7, 27) from rfl) mw_g0) ⟨Nat.le_of_ble_eq_true rfl, Nat.le_of_ble_eq_true rfl, hc1, hs1⟩ hl.1 rfl (Nat.le_of_ble_eq_true rfl) dL_law_242 ?_
  refine lv_iload E.hx E.hb dL_law_245 (lv_at hl 1 rfl) ?_
  refine lv_icmp_eq (tgt := 252) E.hx E.hb dL_law_247 (by decide) (fun c_1 => ?_) (fun c_1 => ?_)
  · refine lv_iload E.hx E.hb dL_law_252 (lv_at hl 1 rfl) ?_
    refine lv_if_ne (tgt := 269) E.hx E.hb dL_law_254 (by decide) (fun c_2 => ?_) (fun c_2 => ?_)
    · refine lv_goto (tgt := 1749) E.hx E.hb dL_law_269 (by decide) ?_
      exact hk _ _ _ _ _ _ _ _ ⟨P1, P2, P3, S, G2.2.2⟩ (lv_sub hl [2, 3, 4, 5, 6] rfl)
    · refine lv_aload_n E.hx E.hb dL_law_257 rfl (lv_at hl 5 rfl) ?_
      refine lv_iconst (v := 0) E.hx E.hb dL_law_258 (by decide) ?_
      refine va_lald E.hx E.hb KA P3 0 1 rfl rfl (vp_in_nI (n := 0) (N := 1) (by decide) (by decide)) dL_law_259 ?_
      refine lv_iload E.hx E.hb dL_law_260 (lv_at hl 0 rfl) ?_
      refine lv_i2l (v := r.toInt64) E.hx E.hb dL_law_262 rfl ?_
      refine W.lcmp E.hx E.hb dL_law_263 ?_
      refine lv_if_eq (tgt := 269) E.hx E.hb dL_law_264 (by decide) (fun c_3 => ?_) (fun c_3 => ?_)
      · refine lv_goto (tgt := 1749) E.hx E.hb dL_law_269 (by decide) ?_
        exact hk _ _ _ _ _ _ _ _ ⟨P1, P2, P3, S, G2.2.2⟩ (lv_sub hl [2, 3, 4, 5, 6] rfl)
      · exact absurd (lgc (G2.2.1 c_2 rfl)) c_3
  · exact absurd G2.1 c_1
set_option maxHeartbeats 4000000 in
set_option maxRecDepth 100000 in
theorem law_c2 (C : LW p l s m args meth c D cyI cyL ad am o b L xs) (T : LT s D cyI cyL ad am o I A J B f H locs) (hi : i + 6 ≤ L) (hL : L ≤ 3072) (hc : cells + 1 ≤ 601024) (hs : slots + 6 ≤ 7293034) (hk : ∀ (I : Nat → Int32) (A : Nat → Nat → Int32) (J : Nat → Int32) (B : Nat → Nat → Int32) (f : Nat → Int64) (H : Heap) (locs : List Loc) (ls : Array Slot), LT s D cyI cyL ad am o I A J B f H locs → lv_has ls 7 [(0, .ref b), (1, .ref (ad 0)), (2, .ref (am 0)), (3, .ref o), (4, .int (nI i))] → W p l e room_1 s m args below meth c H locs (cells + 1) (slots + 6) Q (F0 m 1749 ls [])) (hl : lv_has ls 7 [(0, .ref b), (1, .ref (ad 0)), (2, .ref (am 0)), (3, .ref o), (4, .int (nI i))]) : W p l e room_1 s m args below meth c H locs cells slots Q (F0 m 272 ls []) := by
  obtain ⟨E, hX, hbl, hfl, N1, N2, r1, r2, r3, d12, d13, d23, KG, KA⟩ := C
  obtain ⟨P1, P2, P3, S, R⟩ := T
  have hbA : ¬ (fun q : Nat => s.heap.size ≤ q) b := Nat.not_le.mpr hbl
  have hc1 : cells + 1 ≤ room_1.cells := hc
  have hs1 : slots + 6 ≤ room_1.slots := hs
  have hc0 : cells ≤ room_1.cells := Nat.le_trans (Nat.le_succ cells) hc
  have hs0 : slots ≤ room_1.slots := Nat.le_trans (Nat.le_add_right slots 6) hs
  have G := st_turn R (xs (i + 1)) (xs (i + 2)) (xs (i + 3))
  obtain ⟨out, r, J1, B1, e1, e2, G⟩ := good_ex G
  refine lv_aload_n E.hx E.hb dL_law_272 rfl (lv_at hl 1 rfl) ?_
  refine lv_aload_n E.hx E.hb dL_law_273 rfl (lv_at hl 0 rfl) ?_
  refine lv_iload E.hx E.hb dL_law_274 (lv_at hl 4 rfl) ?_
  refine lv_iconst (v := 1) E.hx E.hb dL_law_276 (by decide) ?_
  refine lv_iadd E.hx E.hb dL_law_277 ?_
  rw [show nI i + 1 = nI (i + 1) from nI_add i 1]
  refine va_sld E.hx E.hb hX hbl hbA S (vp_in_nI (n := i + 1) (N := L) (by omega) (by omega)) dL_law_278 ?_
  rw [nI_clamp (show i + 1 < 2 ^ 31 by omega)]
  refine lv_aload_n E.hx E.hb dL_law_279 rfl (lv_at hl 0 rfl) ?_
  refine lv_iload E.hx E.hb dL_law_280 (lv_at hl 4 rfl) ?_
  refine lv_iconst (v := 2) E.hx E.hb dL_law_282 (by decide) ?_
  refine lv_iadd E.hx E.hb dL_law_283 ?_
  rw [show nI i + 2 = nI (i + 2) from nI_add i 2]
  refine va_sld E.hx E.hb hX hbl hbA S (vp_in_nI (n := i + 2) (N := L) (by omega) (by omega)) dL_law_284 ?_
  rw [nI_clamp (show i + 2 < 2 ^ 31 by omega)]
  refine lv_aload_n E.hx E.hb dL_law_285 rfl (lv_at hl 0 rfl) ?_
  refine lv_iload E.hx E.hb dL_law_286 (lv_at hl 4 rfl) ?_
  refine lv_iconst (v := 3) E.hx E.hb dL_law_288 (by decide) ?_
  refine lv_iadd E.hx E.hb dL_law_289 ?_
  rw [show nI i + 3 = nI (i + 3) from nI_add i 3]
  refine va_sld E.hx E.hb hX hbl hbA S (vp_in_nI (n := i + 3) (N := L) (by omega) (by omega)) dL_law_290 ?_
  rw [nI_clamp (show i + 3 < 2 ^ 31 by omega)]
  refine lv_aload_n E.hx E.hb dL_law_291 rfl (lv_at hl 3 rfl) ?_
  refine vl_call (vx_runSW (As := [.ref (ad 0), .int (xs (i + 1)), .int (xs (i + 2)), .int (xs (i + 3)), .ref o]) (rest := []) E.fix (c_L_turn l hfl N1 P1 P3 d13 e1 (good_hx G)) (vx_cwSW 5 E.ht (gSW kML_L_100 kST_L_turn kIN_L kCW_L_turn) rfl rfl rfl ds_L_turn ⟨Nat.le_of_ble_eq_true rfl, Nat.le_of_ble_eq_true rfl⟩) ⟨PX_blind KL_blind, fun U hU hW9 => ⟨rfl, hU, (((KG.at S).narrow r1).warm hW9).to, va_K.moved hW9.alike KA⟩⟩ rfl rfl hl.1 rfl (lv_room (Nat.le_of_ble_eq_true rfl)) dL_law_292 ⟨hc1, hs1⟩) S (fun q hq => hq.elim (fun h9 => r1 q h9) (fun h9 => by rw [h9]; exact r3)) (fun z I1 A1 f1 H1 locs1 P1 P3 hq hk1 S => ?_)
  have P2 := P_keep P2 hk1 (fun k q hq9 h9 => h9.elim (fun h9 => d12 _ h9 (mw_in hq9)) (fun h9 => d23 (by rw [← h9]; exact mw_in hq9)))
  refine lv_istore (lv' := [(5, .int z), (0, .ref b), (1, .ref (ad 0)), (2, .ref (am 0)), (3, .ref o), (4, .int (nI i))]) E.hx E.hb dL_law_295 hl (by decide) rfl (fun ls hl => ?_)
  refine lv_aload_n E.hx E.hb dL_law_297 rfl (lv_at hl 3 rfl) ?_
  refine lv_aload_n E.hx E.hb dL_law_298 rfl (lv_at hl 1 rfl) ?_
  refine lv_iload E.hx E.hb dL_law_299 (lv_at hl 5 rfl) ?_
  refine lv_iconst (v := 1) E.hx E.hb dL_law_301 (by decide) ?_
  refine lv_iadd E.hx E.hb dL_law_302 ?_
  rw [show nI i + 1 = nI (i + 1) from nI_add i 1]
  refine va_sld E.hx E.hb hX hbl hbA S (vp_in_nI (n := i + 1) (N := L) (by omega) (by omega)) dL_law_303 ?_
  rw [nI_clamp (show i + 1 < 2 ^ 31 by omega)]
  refine lv_aload_n E.hx E.hb dL_law_304 rfl (lv_at hl 1 rfl) ?_
  refine lv_iload E.hx E.hb dL_law_305 (lv_at hl 5 rfl) ?_
  refine lv_iconst (v := 2) E.hx E.hb dL_law_307 (by decide) ?_
  refine lv_iadd E.hx E.hb dL_law_308 ?_
  rw [show nI i + 2 = nI (i + 2) from nI_add i 2]
  refine va_sld E.hx E.hb hX hbl hbA S (vp_in_nI (n := i + 2) (N := L) (by omega) (by omega)) dL_law_309 ?_
  rw [nI_clamp (show i + 2 < 2 ^ 31 by omega)]
  refine lv_aload_n E.hx E.hb dL_law_310 rfl (lv_at hl 1 rfl) ?_
  refine lv_iload E.hx E.hb dL_law_311 (lv_at hl 5 rfl) ?_
  refine lv_iconst (v := 3) E.hx E.hb dL_law_313 (by decide) ?_
  refine lv_iadd E.hx E.hb dL_law_314 ?_
  rw [show nI i + 3 = nI (i + 3) from nI_add i 3]
  refine va_sld E.hx E.hb hX hbl hbA S (vp_in_nI (n := i + 3) (N := L) (by omega) (by omega)) dL_law_315 ?_
  rw [nI_clamp (show i + 3 < 2 ^ 31 by omega)]
  refine cv_rw2 E (c_X7_turn l N2 P2 (xs (i + 1)) (xs (i + 2)) (xs (i + 3)) e2) (gV kML_L_103 kIM_X7_turn kSE_X7_turn kIN_X7 kCO_X7_turn) rfl ds_X7_turn rfl KM_blind (fun U _ hW => va_K.moved hW.alike KG.1) S r2 (va_recv KG.1 P2 (show classes[7]? = some (RX7, TX7, 27) from rfl) mw_g0) ⟨Nat.le_of_ble_eq_true rfl, Nat.le_of_ble_eq_true rfl, hc1, hs1⟩ hl.1 rfl (Nat.le_of_ble_eq_true rfl) dL_law_316 (fun H2 locs2 P2 hz2 hk2 S => ?_)
  refine W.eq (g2 := F0 m 319 ls [.int r]) rfl ?_
  have P1 := P_keep P1 hk2 (fun k q hq h9 => d12 _ (cw_in hq) h9)
  have P3 := P_keep P3 hk2 (fun k q hq => by rw [one_in hq]; exact d23)
  refine lv_istore (lv' := [(6, .int r), (5, .int z), (0, .ref b), (1, .ref (ad 0)), (2, .ref (am 0)), (3, .ref o), (4, .int (nI i))]) E.hx E.hb dL_law_319 hl (by decide) rfl (fun ls hl => ?_)
  have G2 := good_use (by decide) (by decide) G hq
  refine lv_aload_n E.hx E.hb dL_law_321 rfl (lv_at hl 4 rfl) ?_
  refine cv_ro E (c_X7_thrown l P2) (gV kML_L_93 kIM_X7_thrown kSE_X7_thrown kIN_X7 kCO_X7_thrown) rfl ds_X7_thrown rfl KM_blind (fun U _ hW => va_K.moved hW.alike KG.1) (va_recv KG.1 P2 (show classes[7]? = some (RX7, TX7, 27) from rfl) mw_g0) ⟨Nat.le_of_ble_eq_true rfl, Nat.le_of_ble_eq_true rfl, hc1, hs1⟩ hl.1 rfl (Nat.le_of_ble_eq_true rfl) dL_law_322 ?_
  refine lv_iload E.hx E.hb dL_law_325 (lv_at hl 1 rfl) ?_
  refine lv_icmp_eq (tgt := 332) E.hx E.hb dL_law_327 (by decide) (fun c_1 => ?_) (fun c_1 => ?_)
  · refine lv_iload E.hx E.hb dL_law_332 (lv_at hl 1 rfl) ?_
    refine lv_if_ne (tgt := 349) E.hx E.hb dL_law_334 (by decide) (fun c_2 => ?_) (fun c_2 => ?_)
    · refine lv_goto (tgt := 1749) E.hx E.hb dL_law_349 (by decide) ?_
      exact hk _ _ _ _ _ _ _ _ ⟨P1, P2, P3, S, G2.2.2⟩ (lv_sub hl [2, 3, 4, 5, 6] rfl)
    · refine lv_aload_n E.hx E.hb dL_law_337 rfl (lv_at hl 5 rfl) ?_
      refine lv_iconst (v := 0) E.hx E.hb dL_law_338 (by decide) ?_
      refine va_lald E.hx E.hb KA P3 0 1 rfl rfl (vp_in_nI (n := 0) (N := 1) (by decide) (by decide)) dL_law_339 ?_
      refine lv_iload E.hx E.hb dL_law_340 (lv_at hl 0 rfl) ?_
      refine lv_i2l (v := r.toInt64) E.hx E.hb dL_law_342 rfl ?_
      refine W.lcmp E.hx E.hb dL_law_343 ?_
      refine lv_if_eq (tgt := 349) E.hx E.hb dL_law_344 (by decide) (fun c_3 => ?_) (fun c_3 => ?_)
      · refine lv_goto (tgt := 1749) E.hx E.hb dL_law_349 (by decide) ?_
        exact hk _ _ _ _ _ _ _ _ ⟨P1, P2, P3, S, G2.2.2⟩ (lv_sub hl [2, 3, 4, 5, 6] rfl)
      · exact absurd (lgc (G2.2.1 c_2 rfl)) c_3
  · exact absurd G2.1 c_1
set_option maxHeartbeats 4000000 in
set_option maxRecDepth 100000 in
theorem law_c3 (C : LW p l s m args meth c D cyI cyL ad am o b L xs) (T : LT s D cyI cyL ad am o I A J B f H locs) (hi : i + 6 ≤ L) (hL : L ≤ 3072) (hc : cells + 1 ≤ 601024) (hs : slots + 6 ≤ 7293034) (hk : ∀ (I : Nat → Int32) (A : Nat → Nat → Int32) (J : Nat → Int32) (B : Nat → Nat → Int32) (f : Nat → Int64) (H : Heap) (locs : List Loc) (ls : Array Slot), LT s D cyI cyL ad am o I A J B f H locs → lv_has ls 7 [(0, .ref b), (1, .ref (ad 0)), (2, .ref (am 0)), (3, .ref o), (4, .int (nI i))] → W p l e room_1 s m args below meth c H locs (cells + 1) (slots + 6) Q (F0 m 1749 ls [])) (hl : lv_has ls 7 [(0, .ref b), (1, .ref (ad 0)), (2, .ref (am 0)), (3, .ref o), (4, .int (nI i))]) : W p l e room_1 s m args below meth c H locs cells slots Q (F0 m 352 ls []) := by
  obtain ⟨E, hX, hbl, hfl, N1, N2, r1, r2, r3, d12, d13, d23, KG, KA⟩ := C
  obtain ⟨P1, P2, P3, S, R⟩ := T
  have hbA : ¬ (fun q : Nat => s.heap.size ≤ q) b := Nat.not_le.mpr hbl
  have hc1 : cells + 1 ≤ room_1.cells := hc
  have hs1 : slots + 6 ≤ room_1.slots := hs
  have hc0 : cells ≤ room_1.cells := Nat.le_trans (Nat.le_succ cells) hc
  have hs0 : slots ≤ room_1.slots := Nat.le_trans (Nat.le_add_right slots 6) hs
  have G := st_anchor R (xs (i + 1)) (xs (i + 2)) (xs (i + 3)) (xs (i + 4)) (xs (i + 5))
  obtain ⟨out, r, J1, B1, e1, e2, G⟩ := good_ex G
  refine lv_aload_n E.hx E.hb dL_law_352 rfl (lv_at hl 1 rfl) ?_
  refine lv_aload_n E.hx E.hb dL_law_353 rfl (lv_at hl 0 rfl) ?_
  refine lv_iload E.hx E.hb dL_law_354 (lv_at hl 4 rfl) ?_
  refine lv_iconst (v := 1) E.hx E.hb dL_law_356 (by decide) ?_
  refine lv_iadd E.hx E.hb dL_law_357 ?_
  rw [show nI i + 1 = nI (i + 1) from nI_add i 1]
  refine va_sld E.hx E.hb hX hbl hbA S (vp_in_nI (n := i + 1) (N := L) (by omega) (by omega)) dL_law_358 ?_
  rw [nI_clamp (show i + 1 < 2 ^ 31 by omega)]
  refine lv_aload_n E.hx E.hb dL_law_359 rfl (lv_at hl 0 rfl) ?_
  refine lv_iload E.hx E.hb dL_law_360 (lv_at hl 4 rfl) ?_
  refine lv_iconst (v := 2) E.hx E.hb dL_law_362 (by decide) ?_
  refine lv_iadd E.hx E.hb dL_law_363 ?_
  rw [show nI i + 2 = nI (i + 2) from nI_add i 2]
  refine va_sld E.hx E.hb hX hbl hbA S (vp_in_nI (n := i + 2) (N := L) (by omega) (by omega)) dL_law_364 ?_
  rw [nI_clamp (show i + 2 < 2 ^ 31 by omega)]
  refine lv_aload_n E.hx E.hb dL_law_365 rfl (lv_at hl 0 rfl) ?_
  refine lv_iload E.hx E.hb dL_law_366 (lv_at hl 4 rfl) ?_
  refine lv_iconst (v := 3) E.hx E.hb dL_law_368 (by decide) ?_
  refine lv_iadd E.hx E.hb dL_law_369 ?_
  rw [show nI i + 3 = nI (i + 3) from nI_add i 3]
  refine va_sld E.hx E.hb hX hbl hbA S (vp_in_nI (n := i + 3) (N := L) (by omega) (by omega)) dL_law_370 ?_
  rw [nI_clamp (show i + 3 < 2 ^ 31 by omega)]
  refine lv_aload_n E.hx E.hb dL_law_371 rfl (lv_at hl 0 rfl) ?_
  refine lv_iload E.hx E.hb dL_law_372 (lv_at hl 4 rfl) ?_
  refine lv_iconst (v := 4) E.hx E.hb dL_law_374 (by decide) ?_
  refine lv_iadd E.hx E.hb dL_law_375 ?_
  rw [show nI i + 4 = nI (i + 4) from nI_add i 4]
  refine va_sld E.hx E.hb hX hbl hbA S (vp_in_nI (n := i + 4) (N := L) (by omega) (by omega)) dL_law_376 ?_
  rw [nI_clamp (show i + 4 < 2 ^ 31 by omega)]
  refine lv_aload_n E.hx E.hb dL_law_377 rfl (lv_at hl 0 rfl) ?_
  refine lv_iload E.hx E.hb dL_law_378 (lv_at hl 4 rfl) ?_
  refine lv_iconst (v := 5) E.hx E.hb dL_law_380 (by decide) ?_
  refine lv_iadd E.hx E.hb dL_law_381 ?_
  rw [show nI i + 5 = nI (i + 5) from nI_add i 5]
  refine va_sld E.hx E.hb hX hbl hbA S (vp_in_nI (n := i + 5) (N := L) (by omega) (by omega)) dL_law_382 ?_
  rw [nI_clamp (show i + 5 < 2 ^ 31 by omega)]
  refine lv_aload_n E.hx E.hb dL_law_383 rfl (lv_at hl 3 rfl) ?_
  refine vl_call (vx_runSW (As := [.ref (ad 0), .int (xs (i + 1)), .int (xs (i + 2)), .int (xs (i + 3)), .int (xs (i + 4)), .int (xs (i + 5)), .ref o]) (rest := []) E.fix (c_L_anchor l hfl N1 P1 P3 d13 e1 (good_hx G)) (vx_cwSW 7 E.ht (gSW kML_L_104 kST_L_anchor kIN_L kCW_L_anchor) rfl rfl rfl ds_L_anchor ⟨Nat.le_of_ble_eq_true rfl, Nat.le_of_ble_eq_true rfl⟩) ⟨PX_blind KL_blind, fun U hU hW9 => ⟨rfl, hU, (((KG.at S).narrow r1).warm hW9).to, va_K.moved hW9.alike KA⟩⟩ rfl rfl hl.1 rfl (lv_room (Nat.le_of_ble_eq_true rfl)) dL_law_384 ⟨hc1, hs1⟩) S (fun q hq => hq.elim (fun h9 => r1 q h9) (fun h9 => by rw [h9]; exact r3)) (fun z I1 A1 f1 H1 locs1 P1 P3 hq hk1 S => ?_)
  have P2 := P_keep P2 hk1 (fun k q hq9 h9 => h9.elim (fun h9 => d12 _ h9 (mw_in hq9)) (fun h9 => d23 (by rw [← h9]; exact mw_in hq9)))
  refine lv_istore (lv' := [(5, .int z), (0, .ref b), (1, .ref (ad 0)), (2, .ref (am 0)), (3, .ref o), (4, .int (nI i))]) E.hx E.hb dL_law_387 hl (by decide) rfl (fun ls hl => ?_)
  refine lv_aload_n E.hx E.hb dL_law_389 rfl (lv_at hl 3 rfl) ?_
  refine lv_aload_n E.hx E.hb dL_law_390 rfl (lv_at hl 1 rfl) ?_
  refine lv_iload E.hx E.hb dL_law_391 (lv_at hl 5 rfl) ?_
  refine lv_iconst (v := 1) E.hx E.hb dL_law_393 (by decide) ?_
  refine lv_iadd E.hx E.hb dL_law_394 ?_
  rw [show nI i + 1 = nI (i + 1) from nI_add i 1]
  refine va_sld E.hx E.hb hX hbl hbA S (vp_in_nI (n := i + 1) (N := L) (by omega) (by omega)) dL_law_395 ?_
  rw [nI_clamp (show i + 1 < 2 ^ 31 by omega)]
  refine lv_aload_n E.hx E.hb dL_law_396 rfl (lv_at hl 1 rfl) ?_
  refine lv_iload E.hx E.hb dL_law_397 (lv_at hl 5 rfl) ?_
  refine lv_iconst (v := 2) E.hx E.hb dL_law_399 (by decide) ?_
  refine lv_iadd E.hx E.hb dL_law_400 ?_
  rw [show nI i + 2 = nI (i + 2) from nI_add i 2]
  refine va_sld E.hx E.hb hX hbl hbA S (vp_in_nI (n := i + 2) (N := L) (by omega) (by omega)) dL_law_401 ?_
  rw [nI_clamp (show i + 2 < 2 ^ 31 by omega)]
  refine lv_aload_n E.hx E.hb dL_law_402 rfl (lv_at hl 1 rfl) ?_
  refine lv_iload E.hx E.hb dL_law_403 (lv_at hl 5 rfl) ?_
  refine lv_iconst (v := 3) E.hx E.hb dL_law_405 (by decide) ?_
  refine lv_iadd E.hx E.hb dL_law_406 ?_
  rw [show nI i + 3 = nI (i + 3) from nI_add i 3]
  refine va_sld E.hx E.hb hX hbl hbA S (vp_in_nI (n := i + 3) (N := L) (by omega) (by omega)) dL_law_407 ?_
  rw [nI_clamp (show i + 3 < 2 ^ 31 by omega)]
  refine lv_aload_n E.hx E.hb dL_law_408 rfl (lv_at hl 1 rfl) ?_
  refine lv_iload E.hx E.hb dL_law_409 (lv_at hl 5 rfl) ?_
  refine lv_iconst (v := 4) E.hx E.hb dL_law_411 (by decide) ?_
  refine lv_iadd E.hx E.hb dL_law_412 ?_
  rw [show nI i + 4 = nI (i + 4) from nI_add i 4]
  refine va_sld E.hx E.hb hX hbl hbA S (vp_in_nI (n := i + 4) (N := L) (by omega) (by omega)) dL_law_413 ?_
  rw [nI_clamp (show i + 4 < 2 ^ 31 by omega)]
  refine lv_aload_n E.hx E.hb dL_law_414 rfl (lv_at hl 1 rfl) ?_
  refine lv_iload E.hx E.hb dL_law_415 (lv_at hl 5 rfl) ?_
  refine lv_iconst (v := 5) E.hx E.hb dL_law_417 (by decide) ?_
  refine lv_iadd E.hx E.hb dL_law_418 ?_
  rw [show nI i + 5 = nI (i + 5) from nI_add i 5]
  refine va_sld E.hx E.hb hX hbl hbA S (vp_in_nI (n := i + 5) (N := L) (by omega) (by omega)) dL_law_419 ?_
  rw [nI_clamp (show i + 5 < 2 ^ 31 by omega)]
  refine cv_rw2 E (c_X7_anchor l N2 P2 (xs (i + 1)) (xs (i + 2)) (xs (i + 3)) (xs (i + 4)) (xs (i + 5)) e2) (gV kML_L_107 kIM_X7_anchor kSE_X7_anchor kIN_X7 kCO_X7_anchor) rfl ds_X7_anchor rfl KM_blind (fun U _ hW => va_K.moved hW.alike KG.1) S r2 (va_recv KG.1 P2 (show classes[7]? = some (RX7, TX7, 27) from rfl) mw_g0) ⟨Nat.le_of_ble_eq_true rfl, Nat.le_of_ble_eq_true rfl, hc1, hs1⟩ hl.1 rfl (Nat.le_of_ble_eq_true rfl) dL_law_420 (fun H2 locs2 P2 hz2 hk2 S => ?_)
  refine W.eq (g2 := F0 m 423 ls [.int r]) rfl ?_
  have P1 := P_keep P1 hk2 (fun k q hq h9 => d12 _ (cw_in hq) h9)
  have P3 := P_keep P3 hk2 (fun k q hq => by rw [one_in hq]; exact d23)
  refine lv_istore (lv' := [(6, .int r), (5, .int z), (0, .ref b), (1, .ref (ad 0)), (2, .ref (am 0)), (3, .ref o), (4, .int (nI i))]) E.hx E.hb dL_law_423 hl (by decide) rfl (fun ls hl => ?_)
  have G2 := good_use (by decide) (by decide) G hq
  refine lv_aload_n E.hx E.hb dL_law_425 rfl (lv_at hl 4 rfl) ?_
  refine cv_ro E (c_X7_thrown l P2) (gV kML_L_93 kIM_X7_thrown kSE_X7_thrown kIN_X7 kCO_X7_thrown) rfl ds_X7_thrown rfl KM_blind (fun U _ hW => va_K.moved hW.alike KG.1) (va_recv KG.1 P2 (show classes[7]? = some (RX7, TX7, 27) from rfl) mw_g0) ⟨Nat.le_of_ble_eq_true rfl, Nat.le_of_ble_eq_true rfl, hc1, hs1⟩ hl.1 rfl (Nat.le_of_ble_eq_true rfl) dL_law_426 ?_
  refine lv_iload E.hx E.hb dL_law_429 (lv_at hl 1 rfl) ?_
  refine lv_icmp_eq (tgt := 436) E.hx E.hb dL_law_431 (by decide) (fun c_1 => ?_) (fun c_1 => ?_)
  · refine lv_iload E.hx E.hb dL_law_436 (lv_at hl 1 rfl) ?_
    refine lv_if_ne (tgt := 453) E.hx E.hb dL_law_438 (by decide) (fun c_2 => ?_) (fun c_2 => ?_)
    · refine lv_goto (tgt := 1749) E.hx E.hb dL_law_453 (by decide) ?_
      exact hk _ _ _ _ _ _ _ _ ⟨P1, P2, P3, S, G2.2.2⟩ (lv_sub hl [2, 3, 4, 5, 6] rfl)
    · refine lv_aload_n E.hx E.hb dL_law_441 rfl (lv_at hl 5 rfl) ?_
      refine lv_iconst (v := 0) E.hx E.hb dL_law_442 (by decide) ?_
      refine va_lald E.hx E.hb KA P3 0 1 rfl rfl (vp_in_nI (n := 0) (N := 1) (by decide) (by decide)) dL_law_443 ?_
      refine lv_iload E.hx E.hb dL_law_444 (lv_at hl 0 rfl) ?_
      refine lv_i2l (v := r.toInt64) E.hx E.hb dL_law_446 rfl ?_
      refine W.lcmp E.hx E.hb dL_law_447 ?_
      refine lv_if_eq (tgt := 453) E.hx E.hb dL_law_448 (by decide) (fun c_3 => ?_) (fun c_3 => ?_)
      · refine lv_goto (tgt := 1749) E.hx E.hb dL_law_453 (by decide) ?_
        exact hk _ _ _ _ _ _ _ _ ⟨P1, P2, P3, S, G2.2.2⟩ (lv_sub hl [2, 3, 4, 5, 6] rfl)
      · exact absurd (lgc (G2.2.1 c_2 rfl)) c_3
  · exact absurd G2.1 c_1
set_option maxHeartbeats 4000000 in
set_option maxRecDepth 100000 in
theorem law_c4 (C : LW p l s m args meth c D cyI cyL ad am o b L xs) (T : LT s D cyI cyL ad am o I A J B f H locs) (hi : i + 6 ≤ L) (hL : L ≤ 3072) (hc : cells + 1 ≤ 601024) (hs : slots + 6 ≤ 7293034) (hk : ∀ (I : Nat → Int32) (A : Nat → Nat → Int32) (J : Nat → Int32) (B : Nat → Nat → Int32) (f : Nat → Int64) (H : Heap) (locs : List Loc) (ls : Array Slot), LT s D cyI cyL ad am o I A J B f H locs → lv_has ls 7 [(0, .ref b), (1, .ref (ad 0)), (2, .ref (am 0)), (3, .ref o), (4, .int (nI i))] → W p l e room_1 s m args below meth c H locs (cells + 1) (slots + 6) Q (F0 m 1749 ls [])) (hl : lv_has ls 7 [(0, .ref b), (1, .ref (ad 0)), (2, .ref (am 0)), (3, .ref o), (4, .int (nI i))]) : W p l e room_1 s m args below meth c H locs cells slots Q (F0 m 456 ls []) := by
  obtain ⟨E, hX, hbl, hfl, N1, N2, r1, r2, r3, d12, d13, d23, KG, KA⟩ := C
  obtain ⟨P1, P2, P3, S, R⟩ := T
  have hbA : ¬ (fun q : Nat => s.heap.size ≤ q) b := Nat.not_le.mpr hbl
  have hc1 : cells + 1 ≤ room_1.cells := hc
  have hs1 : slots + 6 ≤ room_1.slots := hs
  have hc0 : cells ≤ room_1.cells := Nat.le_trans (Nat.le_succ cells) hc
  have hs0 : slots ≤ room_1.slots := Nat.le_trans (Nat.le_add_right slots 6) hs
  have G := st_pixel R (xs (i + 1)) (xs (i + 2)) (xs (i + 3)) (xs (i + 4))
  obtain ⟨out, r, J1, B1, e1, e2, G⟩ := good_ex G
  refine lv_aload_n E.hx E.hb dL_law_456 rfl (lv_at hl 1 rfl) ?_
  refine lv_aload_n E.hx E.hb dL_law_457 rfl (lv_at hl 0 rfl) ?_
  refine lv_iload E.hx E.hb dL_law_458 (lv_at hl 4 rfl) ?_
  refine lv_iconst (v := 1) E.hx E.hb dL_law_460 (by decide) ?_
  refine lv_iadd E.hx E.hb dL_law_461 ?_
  rw [show nI i + 1 = nI (i + 1) from nI_add i 1]
  refine va_sld E.hx E.hb hX hbl hbA S (vp_in_nI (n := i + 1) (N := L) (by omega) (by omega)) dL_law_462 ?_
  rw [nI_clamp (show i + 1 < 2 ^ 31 by omega)]
  refine lv_aload_n E.hx E.hb dL_law_463 rfl (lv_at hl 0 rfl) ?_
  refine lv_iload E.hx E.hb dL_law_464 (lv_at hl 4 rfl) ?_
  refine lv_iconst (v := 2) E.hx E.hb dL_law_466 (by decide) ?_
  refine lv_iadd E.hx E.hb dL_law_467 ?_
  rw [show nI i + 2 = nI (i + 2) from nI_add i 2]
  refine va_sld E.hx E.hb hX hbl hbA S (vp_in_nI (n := i + 2) (N := L) (by omega) (by omega)) dL_law_468 ?_
  rw [nI_clamp (show i + 2 < 2 ^ 31 by omega)]
  refine lv_aload_n E.hx E.hb dL_law_469 rfl (lv_at hl 0 rfl) ?_
  refine lv_iload E.hx E.hb dL_law_470 (lv_at hl 4 rfl) ?_
  refine lv_iconst (v := 3) E.hx E.hb dL_law_472 (by decide) ?_
  refine lv_iadd E.hx E.hb dL_law_473 ?_
  rw [show nI i + 3 = nI (i + 3) from nI_add i 3]
  refine va_sld E.hx E.hb hX hbl hbA S (vp_in_nI (n := i + 3) (N := L) (by omega) (by omega)) dL_law_474 ?_
  rw [nI_clamp (show i + 3 < 2 ^ 31 by omega)]
  refine lv_aload_n E.hx E.hb dL_law_475 rfl (lv_at hl 0 rfl) ?_
  refine lv_iload E.hx E.hb dL_law_476 (lv_at hl 4 rfl) ?_
  refine lv_iconst (v := 4) E.hx E.hb dL_law_478 (by decide) ?_
  refine lv_iadd E.hx E.hb dL_law_479 ?_
  rw [show nI i + 4 = nI (i + 4) from nI_add i 4]
  refine va_sld E.hx E.hb hX hbl hbA S (vp_in_nI (n := i + 4) (N := L) (by omega) (by omega)) dL_law_480 ?_
  rw [nI_clamp (show i + 4 < 2 ^ 31 by omega)]
  refine lv_aload_n E.hx E.hb dL_law_481 rfl (lv_at hl 3 rfl) ?_
  refine vl_call (vx_runSW (As := [.ref (ad 0), .int (xs (i + 1)), .int (xs (i + 2)), .int (xs (i + 3)), .int (xs (i + 4)), .ref o]) (rest := []) E.fix (c_L_pixel l hfl N1 P1 P3 d13 e1 (good_hx G)) (vx_cwSW 6 E.ht (gSW kML_L_108 kST_L_pixel kIN_L kCW_L_pixel) rfl rfl rfl ds_L_pixel ⟨Nat.le_of_ble_eq_true rfl, Nat.le_of_ble_eq_true rfl⟩) ⟨PX_blind KL_blind, fun U hU hW9 => ⟨rfl, hU, (((KG.at S).narrow r1).warm hW9).to, va_K.moved hW9.alike KA⟩⟩ rfl rfl hl.1 rfl (lv_room (Nat.le_of_ble_eq_true rfl)) dL_law_482 ⟨hc1, hs1⟩) S (fun q hq => hq.elim (fun h9 => r1 q h9) (fun h9 => by rw [h9]; exact r3)) (fun z I1 A1 f1 H1 locs1 P1 P3 hq hk1 S => ?_)
  have P2 := P_keep P2 hk1 (fun k q hq9 h9 => h9.elim (fun h9 => d12 _ h9 (mw_in hq9)) (fun h9 => d23 (by rw [← h9]; exact mw_in hq9)))
  refine lv_istore (lv' := [(5, .int z), (0, .ref b), (1, .ref (ad 0)), (2, .ref (am 0)), (3, .ref o), (4, .int (nI i))]) E.hx E.hb dL_law_485 hl (by decide) rfl (fun ls hl => ?_)
  refine lv_aload_n E.hx E.hb dL_law_487 rfl (lv_at hl 3 rfl) ?_
  refine lv_aload_n E.hx E.hb dL_law_488 rfl (lv_at hl 1 rfl) ?_
  refine lv_iload E.hx E.hb dL_law_489 (lv_at hl 5 rfl) ?_
  refine lv_iconst (v := 1) E.hx E.hb dL_law_491 (by decide) ?_
  refine lv_iadd E.hx E.hb dL_law_492 ?_
  rw [show nI i + 1 = nI (i + 1) from nI_add i 1]
  refine va_sld E.hx E.hb hX hbl hbA S (vp_in_nI (n := i + 1) (N := L) (by omega) (by omega)) dL_law_493 ?_
  rw [nI_clamp (show i + 1 < 2 ^ 31 by omega)]
  refine lv_aload_n E.hx E.hb dL_law_494 rfl (lv_at hl 1 rfl) ?_
  refine lv_iload E.hx E.hb dL_law_495 (lv_at hl 5 rfl) ?_
  refine lv_iconst (v := 2) E.hx E.hb dL_law_497 (by decide) ?_
  refine lv_iadd E.hx E.hb dL_law_498 ?_
  rw [show nI i + 2 = nI (i + 2) from nI_add i 2]
  refine va_sld E.hx E.hb hX hbl hbA S (vp_in_nI (n := i + 2) (N := L) (by omega) (by omega)) dL_law_499 ?_
  rw [nI_clamp (show i + 2 < 2 ^ 31 by omega)]
  refine lv_aload_n E.hx E.hb dL_law_500 rfl (lv_at hl 1 rfl) ?_
  refine lv_iload E.hx E.hb dL_law_501 (lv_at hl 5 rfl) ?_
  refine lv_iconst (v := 3) E.hx E.hb dL_law_503 (by decide) ?_
  refine lv_iadd E.hx E.hb dL_law_504 ?_
  rw [show nI i + 3 = nI (i + 3) from nI_add i 3]
  refine va_sld E.hx E.hb hX hbl hbA S (vp_in_nI (n := i + 3) (N := L) (by omega) (by omega)) dL_law_505 ?_
  rw [nI_clamp (show i + 3 < 2 ^ 31 by omega)]
  refine lv_aload_n E.hx E.hb dL_law_506 rfl (lv_at hl 1 rfl) ?_
  refine lv_iload E.hx E.hb dL_law_507 (lv_at hl 5 rfl) ?_
  refine lv_iconst (v := 4) E.hx E.hb dL_law_509 (by decide) ?_
  refine lv_iadd E.hx E.hb dL_law_510 ?_
  rw [show nI i + 4 = nI (i + 4) from nI_add i 4]
  refine va_sld E.hx E.hb hX hbl hbA S (vp_in_nI (n := i + 4) (N := L) (by omega) (by omega)) dL_law_511 ?_
  rw [nI_clamp (show i + 4 < 2 ^ 31 by omega)]
  refine cv_rw2 E (c_X7_pixel l N2 P2 (xs (i + 1)) (xs (i + 2)) (xs (i + 3)) (xs (i + 4)) e2) (gV kML_L_111 kIM_X7_pixel kSE_X7_pixel kIN_X7 kCO_X7_pixel) rfl ds_X7_pixel rfl KM_blind (fun U _ hW => va_K.moved hW.alike KG.1) S r2 (va_recv KG.1 P2 (show classes[7]? = some (RX7, TX7, 27) from rfl) mw_g0) ⟨Nat.le_of_ble_eq_true rfl, Nat.le_of_ble_eq_true rfl, hc1, hs1⟩ hl.1 rfl (Nat.le_of_ble_eq_true rfl) dL_law_512 (fun H2 locs2 P2 hz2 hk2 S => ?_)
  refine W.eq (g2 := F0 m 515 ls [.int r]) rfl ?_
  have P1 := P_keep P1 hk2 (fun k q hq h9 => d12 _ (cw_in hq) h9)
  have P3 := P_keep P3 hk2 (fun k q hq => by rw [one_in hq]; exact d23)
  refine lv_istore (lv' := [(6, .int r), (5, .int z), (0, .ref b), (1, .ref (ad 0)), (2, .ref (am 0)), (3, .ref o), (4, .int (nI i))]) E.hx E.hb dL_law_515 hl (by decide) rfl (fun ls hl => ?_)
  have G2 := good_use (by decide) (by decide) G hq
  refine lv_aload_n E.hx E.hb dL_law_517 rfl (lv_at hl 4 rfl) ?_
  refine cv_ro E (c_X7_thrown l P2) (gV kML_L_93 kIM_X7_thrown kSE_X7_thrown kIN_X7 kCO_X7_thrown) rfl ds_X7_thrown rfl KM_blind (fun U _ hW => va_K.moved hW.alike KG.1) (va_recv KG.1 P2 (show classes[7]? = some (RX7, TX7, 27) from rfl) mw_g0) ⟨Nat.le_of_ble_eq_true rfl, Nat.le_of_ble_eq_true rfl, hc1, hs1⟩ hl.1 rfl (Nat.le_of_ble_eq_true rfl) dL_law_518 ?_
  refine lv_iload E.hx E.hb dL_law_521 (lv_at hl 1 rfl) ?_
  refine lv_icmp_eq (tgt := 528) E.hx E.hb dL_law_523 (by decide) (fun c_1 => ?_) (fun c_1 => ?_)
  · refine lv_iload E.hx E.hb dL_law_528 (lv_at hl 1 rfl) ?_
    refine lv_if_ne (tgt := 545) E.hx E.hb dL_law_530 (by decide) (fun c_2 => ?_) (fun c_2 => ?_)
    · refine lv_goto (tgt := 1749) E.hx E.hb dL_law_545 (by decide) ?_
      exact hk _ _ _ _ _ _ _ _ ⟨P1, P2, P3, S, G2.2.2⟩ (lv_sub hl [2, 3, 4, 5, 6] rfl)
    · refine lv_aload_n E.hx E.hb dL_law_533 rfl (lv_at hl 5 rfl) ?_
      refine lv_iconst (v := 0) E.hx E.hb dL_law_534 (by decide) ?_
      refine va_lald E.hx E.hb KA P3 0 1 rfl rfl (vp_in_nI (n := 0) (N := 1) (by decide) (by decide)) dL_law_535 ?_
      refine lv_iload E.hx E.hb dL_law_536 (lv_at hl 0 rfl) ?_
      refine lv_i2l (v := r.toInt64) E.hx E.hb dL_law_538 rfl ?_
      refine W.lcmp E.hx E.hb dL_law_539 ?_
      refine lv_if_eq (tgt := 545) E.hx E.hb dL_law_540 (by decide) (fun c_3 => ?_) (fun c_3 => ?_)
      · refine lv_goto (tgt := 1749) E.hx E.hb dL_law_545 (by decide) ?_
        exact hk _ _ _ _ _ _ _ _ ⟨P1, P2, P3, S, G2.2.2⟩ (lv_sub hl [2, 3, 4, 5, 6] rfl)
      · exact absurd (lgc (G2.2.1 c_2 rfl)) c_3
  · exact absurd G2.1 c_1
set_option maxHeartbeats 4000000 in
set_option maxRecDepth 100000 in
theorem law_c5 (C : LW p l s m args meth c D cyI cyL ad am o b L xs) (T : LT s D cyI cyL ad am o I A J B f H locs) (hi : i + 6 ≤ L) (hL : L ≤ 3072) (hc : cells + 1 ≤ 601024) (hs : slots + 6 ≤ 7293034) (hk : ∀ (I : Nat → Int32) (A : Nat → Nat → Int32) (J : Nat → Int32) (B : Nat → Nat → Int32) (f : Nat → Int64) (H : Heap) (locs : List Loc) (ls : Array Slot), LT s D cyI cyL ad am o I A J B f H locs → lv_has ls 7 [(0, .ref b), (1, .ref (ad 0)), (2, .ref (am 0)), (3, .ref o), (4, .int (nI i))] → W p l e room_1 s m args below meth c H locs (cells + 1) (slots + 6) Q (F0 m 1749 ls [])) (hl : lv_has ls 7 [(0, .ref b), (1, .ref (ad 0)), (2, .ref (am 0)), (3, .ref o), (4, .int (nI i))]) : W p l e room_1 s m args below meth c H locs cells slots Q (F0 m 548 ls []) := by
  obtain ⟨E, hX, hbl, hfl, N1, N2, r1, r2, r3, d12, d13, d23, KG, KA⟩ := C
  obtain ⟨P1, P2, P3, S, R⟩ := T
  have hbA : ¬ (fun q : Nat => s.heap.size ≤ q) b := Nat.not_le.mpr hbl
  have hc1 : cells + 1 ≤ room_1.cells := hc
  have hs1 : slots + 6 ≤ room_1.slots := hs
  have hc0 : cells ≤ room_1.cells := Nat.le_trans (Nat.le_succ cells) hc
  have hs0 : slots ≤ room_1.slots := Nat.le_trans (Nat.le_add_right slots 6) hs
  have G := st_drive R (xs (i + 1)) (xs (i + 2)) (xs (i + 3))
  obtain ⟨out, r, J1, B1, e1, e2, G⟩ := good_ex G
  refine lv_aload_n E.hx E.hb dL_law_548 rfl (lv_at hl 1 rfl) ?_
  refine lv_aload_n E.hx E.hb dL_law_549 rfl (lv_at hl 0 rfl) ?_
  refine lv_iload E.hx E.hb dL_law_550 (lv_at hl 4 rfl) ?_
  refine lv_iconst (v := 1) E.hx E.hb dL_law_552 (by decide) ?_
  refine lv_iadd E.hx E.hb dL_law_553 ?_
  rw [show nI i + 1 = nI (i + 1) from nI_add i 1]
  refine va_sld E.hx E.hb hX hbl hbA S (vp_in_nI (n := i + 1) (N := L) (by omega) (by omega)) dL_law_554 ?_
  rw [nI_clamp (show i + 1 < 2 ^ 31 by omega)]
  refine lv_aload_n E.hx E.hb dL_law_555 rfl (lv_at hl 0 rfl) ?_
  refine lv_iload E.hx E.hb dL_law_556 (lv_at hl 4 rfl) ?_
  refine lv_iconst (v := 2) E.hx E.hb dL_law_558 (by decide) ?_
  refine lv_iadd E.hx E.hb dL_law_559 ?_
  rw [show nI i + 2 = nI (i + 2) from nI_add i 2]
  refine va_sld E.hx E.hb hX hbl hbA S (vp_in_nI (n := i + 2) (N := L) (by omega) (by omega)) dL_law_560 ?_
  rw [nI_clamp (show i + 2 < 2 ^ 31 by omega)]
  refine lv_aload_n E.hx E.hb dL_law_561 rfl (lv_at hl 0 rfl) ?_
  refine lv_iload E.hx E.hb dL_law_562 (lv_at hl 4 rfl) ?_
  refine lv_iconst (v := 3) E.hx E.hb dL_law_564 (by decide) ?_
  refine lv_iadd E.hx E.hb dL_law_565 ?_
  rw [show nI i + 3 = nI (i + 3) from nI_add i 3]
  refine va_sld E.hx E.hb hX hbl hbA S (vp_in_nI (n := i + 3) (N := L) (by omega) (by omega)) dL_law_566 ?_
  rw [nI_clamp (show i + 3 < 2 ^ 31 by omega)]
  refine lv_aload_n E.hx E.hb dL_law_567 rfl (lv_at hl 3 rfl) ?_
  refine vl_call (vx_runSW (As := [.ref (ad 0), .int (xs (i + 1)), .int (xs (i + 2)), .int (xs (i + 3)), .ref o]) (rest := []) E.fix (c_L_drive l hfl N1 P1 P3 d13 e1 (good_hx G)) (vx_cwSW 5 E.ht (gSW kML_L_112 kST_L_drive kIN_L kCW_L_drive) rfl rfl rfl ds_L_drive ⟨Nat.le_of_ble_eq_true rfl, Nat.le_of_ble_eq_true rfl⟩) ⟨PX_blind KL_blind, fun U hU hW9 => ⟨rfl, hU, (((KG.at S).narrow r1).warm hW9).to, va_K.moved hW9.alike KA⟩⟩ rfl rfl hl.1 rfl (lv_room (Nat.le_of_ble_eq_true rfl)) dL_law_568 ⟨hc1, hs1⟩) S (fun q hq => hq.elim (fun h9 => r1 q h9) (fun h9 => by rw [h9]; exact r3)) (fun z I1 A1 f1 H1 locs1 P1 P3 hq hk1 S => ?_)
  have P2 := P_keep P2 hk1 (fun k q hq9 h9 => h9.elim (fun h9 => d12 _ h9 (mw_in hq9)) (fun h9 => d23 (by rw [← h9]; exact mw_in hq9)))
  refine lv_istore (lv' := [(5, .int z), (0, .ref b), (1, .ref (ad 0)), (2, .ref (am 0)), (3, .ref o), (4, .int (nI i))]) E.hx E.hb dL_law_571 hl (by decide) rfl (fun ls hl => ?_)
  refine lv_aload_n E.hx E.hb dL_law_573 rfl (lv_at hl 3 rfl) ?_
  refine lv_aload_n E.hx E.hb dL_law_574 rfl (lv_at hl 1 rfl) ?_
  refine lv_iload E.hx E.hb dL_law_575 (lv_at hl 5 rfl) ?_
  refine lv_iconst (v := 1) E.hx E.hb dL_law_577 (by decide) ?_
  refine lv_iadd E.hx E.hb dL_law_578 ?_
  rw [show nI i + 1 = nI (i + 1) from nI_add i 1]
  refine va_sld E.hx E.hb hX hbl hbA S (vp_in_nI (n := i + 1) (N := L) (by omega) (by omega)) dL_law_579 ?_
  rw [nI_clamp (show i + 1 < 2 ^ 31 by omega)]
  refine lv_aload_n E.hx E.hb dL_law_580 rfl (lv_at hl 1 rfl) ?_
  refine lv_iload E.hx E.hb dL_law_581 (lv_at hl 5 rfl) ?_
  refine lv_iconst (v := 2) E.hx E.hb dL_law_583 (by decide) ?_
  refine lv_iadd E.hx E.hb dL_law_584 ?_
  rw [show nI i + 2 = nI (i + 2) from nI_add i 2]
  refine va_sld E.hx E.hb hX hbl hbA S (vp_in_nI (n := i + 2) (N := L) (by omega) (by omega)) dL_law_585 ?_
  rw [nI_clamp (show i + 2 < 2 ^ 31 by omega)]
  refine lv_aload_n E.hx E.hb dL_law_586 rfl (lv_at hl 1 rfl) ?_
  refine lv_iload E.hx E.hb dL_law_587 (lv_at hl 5 rfl) ?_
  refine lv_iconst (v := 3) E.hx E.hb dL_law_589 (by decide) ?_
  refine lv_iadd E.hx E.hb dL_law_590 ?_
  rw [show nI i + 3 = nI (i + 3) from nI_add i 3]
  refine va_sld E.hx E.hb hX hbl hbA S (vp_in_nI (n := i + 3) (N := L) (by omega) (by omega)) dL_law_591 ?_
  rw [nI_clamp (show i + 3 < 2 ^ 31 by omega)]
  refine cv_rw2 E (c_X7_drive l N2 P2 (xs (i + 1)) (xs (i + 2)) (xs (i + 3)) e2) (gV kML_L_114 kIM_X7_drive kSE_X7_drive kIN_X7 kCO_X7_drive) rfl ds_X7_drive rfl KM_blind (fun U _ hW => va_K.moved hW.alike KG.1) S r2 (va_recv KG.1 P2 (show classes[7]? = some (RX7, TX7, 27) from rfl) mw_g0) ⟨Nat.le_of_ble_eq_true rfl, Nat.le_of_ble_eq_true rfl, hc1, hs1⟩ hl.1 rfl (Nat.le_of_ble_eq_true rfl) dL_law_592 (fun H2 locs2 P2 hz2 hk2 S => ?_)
  refine W.eq (g2 := F0 m 595 ls [.int r]) rfl ?_
  have P1 := P_keep P1 hk2 (fun k q hq h9 => d12 _ (cw_in hq) h9)
  have P3 := P_keep P3 hk2 (fun k q hq => by rw [one_in hq]; exact d23)
  refine lv_istore (lv' := [(6, .int r), (5, .int z), (0, .ref b), (1, .ref (ad 0)), (2, .ref (am 0)), (3, .ref o), (4, .int (nI i))]) E.hx E.hb dL_law_595 hl (by decide) rfl (fun ls hl => ?_)
  have G2 := good_use (by decide) (by decide) G hq
  refine lv_aload_n E.hx E.hb dL_law_597 rfl (lv_at hl 4 rfl) ?_
  refine cv_ro E (c_X7_thrown l P2) (gV kML_L_93 kIM_X7_thrown kSE_X7_thrown kIN_X7 kCO_X7_thrown) rfl ds_X7_thrown rfl KM_blind (fun U _ hW => va_K.moved hW.alike KG.1) (va_recv KG.1 P2 (show classes[7]? = some (RX7, TX7, 27) from rfl) mw_g0) ⟨Nat.le_of_ble_eq_true rfl, Nat.le_of_ble_eq_true rfl, hc1, hs1⟩ hl.1 rfl (Nat.le_of_ble_eq_true rfl) dL_law_598 ?_
  refine lv_iload E.hx E.hb dL_law_601 (lv_at hl 1 rfl) ?_
  refine lv_icmp_eq (tgt := 608) E.hx E.hb dL_law_603 (by decide) (fun c_1 => ?_) (fun c_1 => ?_)
  · refine lv_iload E.hx E.hb dL_law_608 (lv_at hl 1 rfl) ?_
    refine lv_if_ne (tgt := 625) E.hx E.hb dL_law_610 (by decide) (fun c_2 => ?_) (fun c_2 => ?_)
    · refine lv_goto (tgt := 1749) E.hx E.hb dL_law_625 (by decide) ?_
      exact hk _ _ _ _ _ _ _ _ ⟨P1, P2, P3, S, G2.2.2⟩ (lv_sub hl [2, 3, 4, 5, 6] rfl)
    · refine lv_aload_n E.hx E.hb dL_law_613 rfl (lv_at hl 5 rfl) ?_
      refine lv_iconst (v := 0) E.hx E.hb dL_law_614 (by decide) ?_
      refine va_lald E.hx E.hb KA P3 0 1 rfl rfl (vp_in_nI (n := 0) (N := 1) (by decide) (by decide)) dL_law_615 ?_
      refine lv_iload E.hx E.hb dL_law_616 (lv_at hl 0 rfl) ?_
      refine lv_i2l (v := r.toInt64) E.hx E.hb dL_law_618 rfl ?_
      refine W.lcmp E.hx E.hb dL_law_619 ?_
      refine lv_if_eq (tgt := 625) E.hx E.hb dL_law_620 (by decide) (fun c_3 => ?_) (fun c_3 => ?_)
      · refine lv_goto (tgt := 1749) E.hx E.hb dL_law_625 (by decide) ?_
        exact hk _ _ _ _ _ _ _ _ ⟨P1, P2, P3, S, G2.2.2⟩ (lv_sub hl [2, 3, 4, 5, 6] rfl)
      · exact absurd (lgc (G2.2.1 c_2 rfl)) c_3
  · exact absurd G2.1 c_1
set_option maxHeartbeats 4000000 in
set_option maxRecDepth 100000 in
theorem law_c6 (C : LW p l s m args meth c D cyI cyL ad am o b L xs) (T : LT s D cyI cyL ad am o I A J B f H locs) (hi : i + 6 ≤ L) (hL : L ≤ 3072) (hc : cells + 1 ≤ 601024) (hs : slots + 6 ≤ 7293034) (hk : ∀ (I : Nat → Int32) (A : Nat → Nat → Int32) (J : Nat → Int32) (B : Nat → Nat → Int32) (f : Nat → Int64) (H : Heap) (locs : List Loc) (ls : Array Slot), LT s D cyI cyL ad am o I A J B f H locs → lv_has ls 7 [(0, .ref b), (1, .ref (ad 0)), (2, .ref (am 0)), (3, .ref o), (4, .int (nI i))] → W p l e room_1 s m args below meth c H locs (cells + 1) (slots + 6) Q (F0 m 1749 ls [])) (hl : lv_has ls 7 [(0, .ref b), (1, .ref (ad 0)), (2, .ref (am 0)), (3, .ref o), (4, .int (nI i))]) : W p l e room_1 s m args below meth c H locs cells slots Q (F0 m 628 ls []) := by
  obtain ⟨E, hX, hbl, hfl, N1, N2, r1, r2, r3, d12, d13, d23, KG, KA⟩ := C
  obtain ⟨P1, P2, P3, S, R⟩ := T
  have hbA : ¬ (fun q : Nat => s.heap.size ≤ q) b := Nat.not_le.mpr hbl
  have hc1 : cells + 1 ≤ room_1.cells := hc
  have hs1 : slots + 6 ≤ room_1.slots := hs
  have hc0 : cells ≤ room_1.cells := Nat.le_trans (Nat.le_succ cells) hc
  have hs0 : slots ≤ room_1.slots := Nat.le_trans (Nat.le_add_right slots 6) hs
  have G := st_program R (xs (i + 1)) (xs (i + 2)) (xs (i + 3)) (xs (i + 4))
  obtain ⟨out, r, J1, B1, e1, e2, G⟩ := good_ex G
  refine lv_aload_n E.hx E.hb dL_law_628 rfl (lv_at hl 1 rfl) ?_
  refine lv_aload_n E.hx E.hb dL_law_629 rfl (lv_at hl 0 rfl) ?_
  refine lv_iload E.hx E.hb dL_law_630 (lv_at hl 4 rfl) ?_
  refine lv_iconst (v := 1) E.hx E.hb dL_law_632 (by decide) ?_
  refine lv_iadd E.hx E.hb dL_law_633 ?_
  rw [show nI i + 1 = nI (i + 1) from nI_add i 1]
  refine va_sld E.hx E.hb hX hbl hbA S (vp_in_nI (n := i + 1) (N := L) (by omega) (by omega)) dL_law_634 ?_
  rw [nI_clamp (show i + 1 < 2 ^ 31 by omega)]
  refine lv_aload_n E.hx E.hb dL_law_635 rfl (lv_at hl 0 rfl) ?_
  refine lv_iload E.hx E.hb dL_law_636 (lv_at hl 4 rfl) ?_
  refine lv_iconst (v := 2) E.hx E.hb dL_law_638 (by decide) ?_
  refine lv_iadd E.hx E.hb dL_law_639 ?_
  rw [show nI i + 2 = nI (i + 2) from nI_add i 2]
  refine va_sld E.hx E.hb hX hbl hbA S (vp_in_nI (n := i + 2) (N := L) (by omega) (by omega)) dL_law_640 ?_
  rw [nI_clamp (show i + 2 < 2 ^ 31 by omega)]
  refine lv_aload_n E.hx E.hb dL_law_641 rfl (lv_at hl 0 rfl) ?_
  refine lv_iload E.hx E.hb dL_law_642 (lv_at hl 4 rfl) ?_
  refine lv_iconst (v := 3) E.hx E.hb dL_law_644 (by decide) ?_
  refine lv_iadd E.hx E.hb dL_law_645 ?_
  rw [show nI i + 3 = nI (i + 3) from nI_add i 3]
  refine va_sld E.hx E.hb hX hbl hbA S (vp_in_nI (n := i + 3) (N := L) (by omega) (by omega)) dL_law_646 ?_
  rw [nI_clamp (show i + 3 < 2 ^ 31 by omega)]
  refine lv_aload_n E.hx E.hb dL_law_647 rfl (lv_at hl 0 rfl) ?_
  refine lv_iload E.hx E.hb dL_law_648 (lv_at hl 4 rfl) ?_
  refine lv_iconst (v := 4) E.hx E.hb dL_law_650 (by decide) ?_
  refine lv_iadd E.hx E.hb dL_law_651 ?_
  rw [show nI i + 4 = nI (i + 4) from nI_add i 4]
  refine va_sld E.hx E.hb hX hbl hbA S (vp_in_nI (n := i + 4) (N := L) (by omega) (by omega)) dL_law_652 ?_
  rw [nI_clamp (show i + 4 < 2 ^ 31 by omega)]
  refine lv_aload_n E.hx E.hb dL_law_653 rfl (lv_at hl 3 rfl) ?_
  refine vl_call (vx_runSW (As := [.ref (ad 0), .int (xs (i + 1)), .int (xs (i + 2)), .int (xs (i + 3)), .int (xs (i + 4)), .ref o]) (rest := []) E.fix (c_L_program l hfl N1 P1 P3 d13 e1 (good_hx G)) (vx_cwSW 6 E.ht (gSW kML_L_115 kST_L_program kIN_L kCW_L_program) rfl rfl rfl ds_L_program ⟨Nat.le_of_ble_eq_true rfl, Nat.le_of_ble_eq_true rfl⟩) ⟨PX_blind KL_blind, fun U hU hW9 => ⟨rfl, hU, (((KG.at S).narrow r1).warm hW9).to, va_K.moved hW9.alike KA⟩⟩ rfl rfl hl.1 rfl (lv_room (Nat.le_of_ble_eq_true rfl)) dL_law_654 ⟨hc1, hs1⟩) S (fun q hq => hq.elim (fun h9 => r1 q h9) (fun h9 => by rw [h9]; exact r3)) (fun z I1 A1 f1 H1 locs1 P1 P3 hq hk1 S => ?_)
  have P2 := P_keep P2 hk1 (fun k q hq9 h9 => h9.elim (fun h9 => d12 _ h9 (mw_in hq9)) (fun h9 => d23 (by rw [← h9]; exact mw_in hq9)))
  refine lv_istore (lv' := [(5, .int z), (0, .ref b), (1, .ref (ad 0)), (2, .ref (am 0)), (3, .ref o), (4, .int (nI i))]) E.hx E.hb dL_law_657 hl (by decide) rfl (fun ls hl => ?_)
  refine lv_aload_n E.hx E.hb dL_law_659 rfl (lv_at hl 3 rfl) ?_
  refine lv_aload_n E.hx E.hb dL_law_660 rfl (lv_at hl 1 rfl) ?_
  refine lv_iload E.hx E.hb dL_law_661 (lv_at hl 5 rfl) ?_
  refine lv_iconst (v := 1) E.hx E.hb dL_law_663 (by decide) ?_
  refine lv_iadd E.hx E.hb dL_law_664 ?_
  rw [show nI i + 1 = nI (i + 1) from nI_add i 1]
  refine va_sld E.hx E.hb hX hbl hbA S (vp_in_nI (n := i + 1) (N := L) (by omega) (by omega)) dL_law_665 ?_
  rw [nI_clamp (show i + 1 < 2 ^ 31 by omega)]
  refine lv_aload_n E.hx E.hb dL_law_666 rfl (lv_at hl 1 rfl) ?_
  refine lv_iload E.hx E.hb dL_law_667 (lv_at hl 5 rfl) ?_
  refine lv_iconst (v := 2) E.hx E.hb dL_law_669 (by decide) ?_
  refine lv_iadd E.hx E.hb dL_law_670 ?_
  rw [show nI i + 2 = nI (i + 2) from nI_add i 2]
  refine va_sld E.hx E.hb hX hbl hbA S (vp_in_nI (n := i + 2) (N := L) (by omega) (by omega)) dL_law_671 ?_
  rw [nI_clamp (show i + 2 < 2 ^ 31 by omega)]
  refine lv_aload_n E.hx E.hb dL_law_672 rfl (lv_at hl 1 rfl) ?_
  refine lv_iload E.hx E.hb dL_law_673 (lv_at hl 5 rfl) ?_
  refine lv_iconst (v := 3) E.hx E.hb dL_law_675 (by decide) ?_
  refine lv_iadd E.hx E.hb dL_law_676 ?_
  rw [show nI i + 3 = nI (i + 3) from nI_add i 3]
  refine va_sld E.hx E.hb hX hbl hbA S (vp_in_nI (n := i + 3) (N := L) (by omega) (by omega)) dL_law_677 ?_
  rw [nI_clamp (show i + 3 < 2 ^ 31 by omega)]
  refine lv_aload_n E.hx E.hb dL_law_678 rfl (lv_at hl 1 rfl) ?_
  refine lv_iload E.hx E.hb dL_law_679 (lv_at hl 5 rfl) ?_
  refine lv_iconst (v := 4) E.hx E.hb dL_law_681 (by decide) ?_
  refine lv_iadd E.hx E.hb dL_law_682 ?_
  rw [show nI i + 4 = nI (i + 4) from nI_add i 4]
  refine va_sld E.hx E.hb hX hbl hbA S (vp_in_nI (n := i + 4) (N := L) (by omega) (by omega)) dL_law_683 ?_
  rw [nI_clamp (show i + 4 < 2 ^ 31 by omega)]
  refine cv_rw2 E (c_X7_program l N2 P2 (xs (i + 1)) (xs (i + 2)) (xs (i + 3)) (xs (i + 4)) e2) (gV kML_L_117 kIM_X7_program kSE_X7_program kIN_X7 kCO_X7_program) rfl ds_X7_program rfl KM_blind (fun U _ hW => va_K.moved hW.alike KG.1) S r2 (va_recv KG.1 P2 (show classes[7]? = some (RX7, TX7, 27) from rfl) mw_g0) ⟨Nat.le_of_ble_eq_true rfl, Nat.le_of_ble_eq_true rfl, hc1, hs1⟩ hl.1 rfl (Nat.le_of_ble_eq_true rfl) dL_law_684 (fun H2 locs2 P2 hz2 hk2 S => ?_)
  refine W.eq (g2 := F0 m 687 ls [.int r]) rfl ?_
  have P1 := P_keep P1 hk2 (fun k q hq h9 => d12 _ (cw_in hq) h9)
  have P3 := P_keep P3 hk2 (fun k q hq => by rw [one_in hq]; exact d23)
  refine lv_istore (lv' := [(6, .int r), (5, .int z), (0, .ref b), (1, .ref (ad 0)), (2, .ref (am 0)), (3, .ref o), (4, .int (nI i))]) E.hx E.hb dL_law_687 hl (by decide) rfl (fun ls hl => ?_)
  have G2 := good_use (by decide) (by decide) G hq
  refine lv_aload_n E.hx E.hb dL_law_689 rfl (lv_at hl 4 rfl) ?_
  refine cv_ro E (c_X7_thrown l P2) (gV kML_L_93 kIM_X7_thrown kSE_X7_thrown kIN_X7 kCO_X7_thrown) rfl ds_X7_thrown rfl KM_blind (fun U _ hW => va_K.moved hW.alike KG.1) (va_recv KG.1 P2 (show classes[7]? = some (RX7, TX7, 27) from rfl) mw_g0) ⟨Nat.le_of_ble_eq_true rfl, Nat.le_of_ble_eq_true rfl, hc1, hs1⟩ hl.1 rfl (Nat.le_of_ble_eq_true rfl) dL_law_690 ?_
  refine lv_iload E.hx E.hb dL_law_693 (lv_at hl 1 rfl) ?_
  refine lv_icmp_eq (tgt := 700) E.hx E.hb dL_law_695 (by decide) (fun c_1 => ?_) (fun c_1 => ?_)
  · refine lv_iload E.hx E.hb dL_law_700 (lv_at hl 1 rfl) ?_
    refine lv_if_ne (tgt := 717) E.hx E.hb dL_law_702 (by decide) (fun c_2 => ?_) (fun c_2 => ?_)
    · refine lv_goto (tgt := 1749) E.hx E.hb dL_law_717 (by decide) ?_
      exact hk _ _ _ _ _ _ _ _ ⟨P1, P2, P3, S, G2.2.2⟩ (lv_sub hl [2, 3, 4, 5, 6] rfl)
    · refine lv_aload_n E.hx E.hb dL_law_705 rfl (lv_at hl 5 rfl) ?_
      refine lv_iconst (v := 0) E.hx E.hb dL_law_706 (by decide) ?_
      refine va_lald E.hx E.hb KA P3 0 1 rfl rfl (vp_in_nI (n := 0) (N := 1) (by decide) (by decide)) dL_law_707 ?_
      refine lv_iload E.hx E.hb dL_law_708 (lv_at hl 0 rfl) ?_
      refine lv_i2l (v := r.toInt64) E.hx E.hb dL_law_710 rfl ?_
      refine W.lcmp E.hx E.hb dL_law_711 ?_
      refine lv_if_eq (tgt := 717) E.hx E.hb dL_law_712 (by decide) (fun c_3 => ?_) (fun c_3 => ?_)
      · refine lv_goto (tgt := 1749) E.hx E.hb dL_law_717 (by decide) ?_
        exact hk _ _ _ _ _ _ _ _ ⟨P1, P2, P3, S, G2.2.2⟩ (lv_sub hl [2, 3, 4, 5, 6] rfl)
      · exact absurd (lgc (G2.2.1 c_2 rfl)) c_3
  · exact absurd G2.1 c_1
set_option maxHeartbeats 4000000 in
set_option maxRecDepth 100000 in
theorem law_c7 (C : LW p l s m args meth c D cyI cyL ad am o b L xs) (T : LT s D cyI cyL ad am o I A J B f H locs) (hi : i + 6 ≤ L) (hL : L ≤ 3072) (hc : cells + 1 ≤ 601024) (hs : slots + 6 ≤ 7293034) (hk : ∀ (I : Nat → Int32) (A : Nat → Nat → Int32) (J : Nat → Int32) (B : Nat → Nat → Int32) (f : Nat → Int64) (H : Heap) (locs : List Loc) (ls : Array Slot), LT s D cyI cyL ad am o I A J B f H locs → lv_has ls 7 [(0, .ref b), (1, .ref (ad 0)), (2, .ref (am 0)), (3, .ref o), (4, .int (nI i))] → W p l e room_1 s m args below meth c H locs (cells + 1) (slots + 6) Q (F0 m 1749 ls [])) (hl : lv_has ls 7 [(0, .ref b), (1, .ref (ad 0)), (2, .ref (am 0)), (3, .ref o), (4, .int (nI i))]) : W p l e room_1 s m args below meth c H locs cells slots Q (F0 m 720 ls []) := by
  obtain ⟨E, hX, hbl, hfl, N1, N2, r1, r2, r3, d12, d13, d23, KG, KA⟩ := C
  obtain ⟨P1, P2, P3, S, R⟩ := T
  have hbA : ¬ (fun q : Nat => s.heap.size ≤ q) b := Nat.not_le.mpr hbl
  have hc1 : cells + 1 ≤ room_1.cells := hc
  have hs1 : slots + 6 ≤ room_1.slots := hs
  have hc0 : cells ≤ room_1.cells := Nat.le_trans (Nat.le_succ cells) hc
  have hs0 : slots ≤ room_1.slots := Nat.le_trans (Nat.le_add_right slots 6) hs
  have G := st_tick R (xs (i + 1))
  obtain ⟨out, r, J1, B1, e1, e2, G⟩ := good_ex G
  refine lv_aload_n E.hx E.hb dL_law_720 rfl (lv_at hl 1 rfl) ?_
  refine lv_aload_n E.hx E.hb dL_law_721 rfl (lv_at hl 0 rfl) ?_
  refine lv_iload E.hx E.hb dL_law_722 (lv_at hl 4 rfl) ?_
  refine lv_iconst (v := 1) E.hx E.hb dL_law_724 (by decide) ?_
  refine lv_iadd E.hx E.hb dL_law_725 ?_
  rw [show nI i + 1 = nI (i + 1) from nI_add i 1]
  refine va_sld E.hx E.hb hX hbl hbA S (vp_in_nI (n := i + 1) (N := L) (by omega) (by omega)) dL_law_726 ?_
  rw [nI_clamp (show i + 1 < 2 ^ 31 by omega)]
  refine lv_aload_n E.hx E.hb dL_law_727 rfl (lv_at hl 3 rfl) ?_
  refine vl_call (vx_runSW (As := [.ref (ad 0), .int (xs (i + 1)), .ref o]) (rest := []) E.fix (c_L_tick l hfl N1 P1 P3 d13 e1 (good_hx G)) (vx_cwSW 3 E.ht (gSW kML_L_118 kST_L_tick kIN_L kCW_L_tick) rfl rfl rfl ds_L_tick ⟨Nat.le_of_ble_eq_true rfl, Nat.le_of_ble_eq_true rfl⟩) ⟨PX_blind KL_blind, fun U hU hW9 => ⟨rfl, hU, (((KG.at S).narrow r1).warm hW9).to, va_K.moved hW9.alike KA⟩⟩ rfl rfl hl.1 rfl (lv_room (Nat.le_of_ble_eq_true rfl)) dL_law_728 ⟨hc1, hs1⟩) S (fun q hq => hq.elim (fun h9 => r1 q h9) (fun h9 => by rw [h9]; exact r3)) (fun z I1 A1 f1 H1 locs1 P1 P3 hq hk1 S => ?_)
  have P2 := P_keep P2 hk1 (fun k q hq9 h9 => h9.elim (fun h9 => d12 _ h9 (mw_in hq9)) (fun h9 => d23 (by rw [← h9]; exact mw_in hq9)))
  refine lv_istore (lv' := [(5, .int z), (0, .ref b), (1, .ref (ad 0)), (2, .ref (am 0)), (3, .ref o), (4, .int (nI i))]) E.hx E.hb dL_law_731 hl (by decide) rfl (fun ls hl => ?_)
  refine lv_aload_n E.hx E.hb dL_law_733 rfl (lv_at hl 3 rfl) ?_
  refine lv_aload_n E.hx E.hb dL_law_734 rfl (lv_at hl 1 rfl) ?_
  refine lv_iload E.hx E.hb dL_law_735 (lv_at hl 5 rfl) ?_
  refine lv_iconst (v := 1) E.hx E.hb dL_law_737 (by decide) ?_
  refine lv_iadd E.hx E.hb dL_law_738 ?_
  rw [show nI i + 1 = nI (i + 1) from nI_add i 1]
  refine va_sld E.hx E.hb hX hbl hbA S (vp_in_nI (n := i + 1) (N := L) (by omega) (by omega)) dL_law_739 ?_
  rw [nI_clamp (show i + 1 < 2 ^ 31 by omega)]
  refine cv_rw2 E (c_X7_tick l N2 P2 (xs (i + 1)) e2) (gV kML_L_121 kIM_X7_tick kSE_X7_tick kIN_X7 kCO_X7_tick) rfl ds_X7_tick rfl KM_blind (fun U _ hW => va_K.moved hW.alike KG.1) S r2 (va_recv KG.1 P2 (show classes[7]? = some (RX7, TX7, 27) from rfl) mw_g0) ⟨Nat.le_of_ble_eq_true rfl, Nat.le_of_ble_eq_true rfl, hc1, hs1⟩ hl.1 rfl (Nat.le_of_ble_eq_true rfl) dL_law_740 (fun H2 locs2 P2 hz2 hk2 S => ?_)
  refine W.eq (g2 := F0 m 743 ls [.int r]) rfl ?_
  have P1 := P_keep P1 hk2 (fun k q hq h9 => d12 _ (cw_in hq) h9)
  have P3 := P_keep P3 hk2 (fun k q hq => by rw [one_in hq]; exact d23)
  refine lv_istore (lv' := [(6, .int r), (5, .int z), (0, .ref b), (1, .ref (ad 0)), (2, .ref (am 0)), (3, .ref o), (4, .int (nI i))]) E.hx E.hb dL_law_743 hl (by decide) rfl (fun ls hl => ?_)
  have G2 := good_use (by decide) (by decide) G hq
  refine lv_aload_n E.hx E.hb dL_law_745 rfl (lv_at hl 4 rfl) ?_
  refine cv_ro E (c_X7_thrown l P2) (gV kML_L_93 kIM_X7_thrown kSE_X7_thrown kIN_X7 kCO_X7_thrown) rfl ds_X7_thrown rfl KM_blind (fun U _ hW => va_K.moved hW.alike KG.1) (va_recv KG.1 P2 (show classes[7]? = some (RX7, TX7, 27) from rfl) mw_g0) ⟨Nat.le_of_ble_eq_true rfl, Nat.le_of_ble_eq_true rfl, hc1, hs1⟩ hl.1 rfl (Nat.le_of_ble_eq_true rfl) dL_law_746 ?_
  refine lv_iload E.hx E.hb dL_law_749 (lv_at hl 1 rfl) ?_
  refine lv_icmp_eq (tgt := 756) E.hx E.hb dL_law_751 (by decide) (fun c_1 => ?_) (fun c_1 => ?_)
  · refine lv_iload E.hx E.hb dL_law_756 (lv_at hl 1 rfl) ?_
    refine lv_if_ne (tgt := 773) E.hx E.hb dL_law_758 (by decide) (fun c_2 => ?_) (fun c_2 => ?_)
    · refine lv_goto (tgt := 1749) E.hx E.hb dL_law_773 (by decide) ?_
      exact hk _ _ _ _ _ _ _ _ ⟨P1, P2, P3, S, G2.2.2⟩ (lv_sub hl [2, 3, 4, 5, 6] rfl)
    · refine lv_aload_n E.hx E.hb dL_law_761 rfl (lv_at hl 5 rfl) ?_
      refine lv_iconst (v := 0) E.hx E.hb dL_law_762 (by decide) ?_
      refine va_lald E.hx E.hb KA P3 0 1 rfl rfl (vp_in_nI (n := 0) (N := 1) (by decide) (by decide)) dL_law_763 ?_
      refine lv_iload E.hx E.hb dL_law_764 (lv_at hl 0 rfl) ?_
      refine lv_i2l (v := r.toInt64) E.hx E.hb dL_law_766 rfl ?_
      refine W.lcmp E.hx E.hb dL_law_767 ?_
      refine lv_if_eq (tgt := 773) E.hx E.hb dL_law_768 (by decide) (fun c_3 => ?_) (fun c_3 => ?_)
      · refine lv_goto (tgt := 1749) E.hx E.hb dL_law_773 (by decide) ?_
        exact hk _ _ _ _ _ _ _ _ ⟨P1, P2, P3, S, G2.2.2⟩ (lv_sub hl [2, 3, 4, 5, 6] rfl)
      · exact absurd (lgc (G2.2.1 c_2 rfl)) c_3
  · exact absurd G2.1 c_1
set_option maxHeartbeats 4000000 in
set_option maxRecDepth 100000 in
theorem law_c8 (C : LW p l s m args meth c D cyI cyL ad am o b L xs) (T : LT s D cyI cyL ad am o I A J B f H locs) (hi : i + 6 ≤ L) (hL : L ≤ 3072) (hc : cells + 1 ≤ 601024) (hs : slots + 6 ≤ 7293034) (hk : ∀ (I : Nat → Int32) (A : Nat → Nat → Int32) (J : Nat → Int32) (B : Nat → Nat → Int32) (f : Nat → Int64) (H : Heap) (locs : List Loc) (ls : Array Slot), LT s D cyI cyL ad am o I A J B f H locs → lv_has ls 7 [(0, .ref b), (1, .ref (ad 0)), (2, .ref (am 0)), (3, .ref o), (4, .int (nI i))] → W p l e room_1 s m args below meth c H locs (cells + 1) (slots + 6) Q (F0 m 1749 ls [])) (hl : lv_has ls 7 [(0, .ref b), (1, .ref (ad 0)), (2, .ref (am 0)), (3, .ref o), (4, .int (nI i))]) : W p l e room_1 s m args below meth c H locs cells slots Q (F0 m 776 ls []) := by
  obtain ⟨E, hX, hbl, hfl, N1, N2, r1, r2, r3, d12, d13, d23, KG, KA⟩ := C
  obtain ⟨P1, P2, P3, S, R⟩ := T
  have hbA : ¬ (fun q : Nat => s.heap.size ≤ q) b := Nat.not_le.mpr hbl
  have hc1 : cells + 1 ≤ room_1.cells := hc
  have hs1 : slots + 6 ≤ room_1.slots := hs
  have hc0 : cells ≤ room_1.cells := Nat.le_trans (Nat.le_succ cells) hc
  have hs0 : slots ≤ room_1.slots := Nat.le_trans (Nat.le_add_right slots 6) hs
  have G := st_plates R (xs (i + 1))
  obtain ⟨out, r, J1, B1, e1, e2, G⟩ := good_ex G
  refine lv_aload_n E.hx E.hb dL_law_776 rfl (lv_at hl 1 rfl) ?_
  refine lv_aload_n E.hx E.hb dL_law_777 rfl (lv_at hl 0 rfl) ?_
  refine lv_iload E.hx E.hb dL_law_778 (lv_at hl 4 rfl) ?_
  refine lv_iconst (v := 1) E.hx E.hb dL_law_780 (by decide) ?_
  refine lv_iadd E.hx E.hb dL_law_781 ?_
  rw [show nI i + 1 = nI (i + 1) from nI_add i 1]
  refine va_sld E.hx E.hb hX hbl hbA S (vp_in_nI (n := i + 1) (N := L) (by omega) (by omega)) dL_law_782 ?_
  rw [nI_clamp (show i + 1 < 2 ^ 31 by omega)]
  refine lv_aload_n E.hx E.hb dL_law_783 rfl (lv_at hl 3 rfl) ?_
  refine vl_call (vx_runSW (As := [.ref (ad 0), .int (xs (i + 1)), .ref o]) (rest := []) E.fix (c_L_plates l hfl N1 P1 P3 d13 e1 (good_hx G)) (vx_cwSW 3 E.ht (gSW kML_L_122 kST_L_plates kIN_L kCW_L_plates) rfl rfl rfl ds_L_plates ⟨Nat.le_of_ble_eq_true rfl, Nat.le_of_ble_eq_true rfl⟩) ⟨PX_blind KL_blind, fun U hU hW9 => ⟨rfl, hU, (((KG.at S).narrow r1).warm hW9).to, va_K.moved hW9.alike KA⟩⟩ rfl rfl hl.1 rfl (lv_room (Nat.le_of_ble_eq_true rfl)) dL_law_784 ⟨hc1, hs1⟩) S (fun q hq => hq.elim (fun h9 => r1 q h9) (fun h9 => by rw [h9]; exact r3)) (fun z I1 A1 f1 H1 locs1 P1 P3 hq hk1 S => ?_)
  have P2 := P_keep P2 hk1 (fun k q hq9 h9 => h9.elim (fun h9 => d12 _ h9 (mw_in hq9)) (fun h9 => d23 (by rw [← h9]; exact mw_in hq9)))
  refine lv_istore (lv' := [(5, .int z), (0, .ref b), (1, .ref (ad 0)), (2, .ref (am 0)), (3, .ref o), (4, .int (nI i))]) E.hx E.hb dL_law_787 hl (by decide) rfl (fun ls hl => ?_)
  refine lv_aload_n E.hx E.hb dL_law_789 rfl (lv_at hl 3 rfl) ?_
  refine lv_aload_n E.hx E.hb dL_law_790 rfl (lv_at hl 1 rfl) ?_
  refine lv_iload E.hx E.hb dL_law_791 (lv_at hl 5 rfl) ?_
  refine lv_iconst (v := 1) E.hx E.hb dL_law_793 (by decide) ?_
  refine lv_iadd E.hx E.hb dL_law_794 ?_
  rw [show nI i + 1 = nI (i + 1) from nI_add i 1]
  refine va_sld E.hx E.hb hX hbl hbA S (vp_in_nI (n := i + 1) (N := L) (by omega) (by omega)) dL_law_795 ?_
  rw [nI_clamp (show i + 1 < 2 ^ 31 by omega)]
  refine cv_rw2 E (c_X7_plates l N2 P2 (xs (i + 1)) e2) (gV kML_L_124 kIM_X7_plates kSE_X7_plates kIN_X7 kCO_X7_plates) rfl ds_X7_plates rfl KM_blind (fun U _ hW => va_K.moved hW.alike KG.1) S r2 (va_recv KG.1 P2 (show classes[7]? = some (RX7, TX7, 27) from rfl) mw_g0) ⟨Nat.le_of_ble_eq_true rfl, Nat.le_of_ble_eq_true rfl, hc1, hs1⟩ hl.1 rfl (Nat.le_of_ble_eq_true rfl) dL_law_796 (fun H2 locs2 P2 hz2 hk2 S => ?_)
  refine W.eq (g2 := F0 m 799 ls [.int r]) rfl ?_
  have P1 := P_keep P1 hk2 (fun k q hq h9 => d12 _ (cw_in hq) h9)
  have P3 := P_keep P3 hk2 (fun k q hq => by rw [one_in hq]; exact d23)
  refine lv_istore (lv' := [(6, .int r), (5, .int z), (0, .ref b), (1, .ref (ad 0)), (2, .ref (am 0)), (3, .ref o), (4, .int (nI i))]) E.hx E.hb dL_law_799 hl (by decide) rfl (fun ls hl => ?_)
  have G2 := good_use (by decide) (by decide) G hq
  refine lv_aload_n E.hx E.hb dL_law_801 rfl (lv_at hl 4 rfl) ?_
  refine cv_ro E (c_X7_thrown l P2) (gV kML_L_93 kIM_X7_thrown kSE_X7_thrown kIN_X7 kCO_X7_thrown) rfl ds_X7_thrown rfl KM_blind (fun U _ hW => va_K.moved hW.alike KG.1) (va_recv KG.1 P2 (show classes[7]? = some (RX7, TX7, 27) from rfl) mw_g0) ⟨Nat.le_of_ble_eq_true rfl, Nat.le_of_ble_eq_true rfl, hc1, hs1⟩ hl.1 rfl (Nat.le_of_ble_eq_true rfl) dL_law_802 ?_
  refine lv_iload E.hx E.hb dL_law_805 (lv_at hl 1 rfl) ?_
  refine lv_icmp_eq (tgt := 812) E.hx E.hb dL_law_807 (by decide) (fun c_1 => ?_) (fun c_1 => ?_)
  · refine lv_iload E.hx E.hb dL_law_812 (lv_at hl 1 rfl) ?_
    refine lv_if_ne (tgt := 829) E.hx E.hb dL_law_814 (by decide) (fun c_2 => ?_) (fun c_2 => ?_)
    · refine lv_goto (tgt := 1749) E.hx E.hb dL_law_829 (by decide) ?_
      exact hk _ _ _ _ _ _ _ _ ⟨P1, P2, P3, S, G2.2.2⟩ (lv_sub hl [2, 3, 4, 5, 6] rfl)
    · refine lv_aload_n E.hx E.hb dL_law_817 rfl (lv_at hl 5 rfl) ?_
      refine lv_iconst (v := 0) E.hx E.hb dL_law_818 (by decide) ?_
      refine va_lald E.hx E.hb KA P3 0 1 rfl rfl (vp_in_nI (n := 0) (N := 1) (by decide) (by decide)) dL_law_819 ?_
      refine lv_iload E.hx E.hb dL_law_820 (lv_at hl 0 rfl) ?_
      refine lv_i2l (v := r.toInt64) E.hx E.hb dL_law_822 rfl ?_
      refine W.lcmp E.hx E.hb dL_law_823 ?_
      refine lv_if_eq (tgt := 829) E.hx E.hb dL_law_824 (by decide) (fun c_3 => ?_) (fun c_3 => ?_)
      · refine lv_goto (tgt := 1749) E.hx E.hb dL_law_829 (by decide) ?_
        exact hk _ _ _ _ _ _ _ _ ⟨P1, P2, P3, S, G2.2.2⟩ (lv_sub hl [2, 3, 4, 5, 6] rfl)
      · exact absurd (lgc (G2.2.1 c_2 rfl)) c_3
  · exact absurd G2.1 c_1
set_option maxHeartbeats 4000000 in
set_option maxRecDepth 100000 in
theorem law_c9 (C : LW p l s m args meth c D cyI cyL ad am o b L xs) (T : LT s D cyI cyL ad am o I A J B f H locs) (hi : i + 6 ≤ L) (hL : L ≤ 3072) (hc : cells + 1 ≤ 601024) (hs : slots + 6 ≤ 7293034) (hk : ∀ (I : Nat → Int32) (A : Nat → Nat → Int32) (J : Nat → Int32) (B : Nat → Nat → Int32) (f : Nat → Int64) (H : Heap) (locs : List Loc) (ls : Array Slot), LT s D cyI cyL ad am o I A J B f H locs → lv_has ls 7 [(0, .ref b), (1, .ref (ad 0)), (2, .ref (am 0)), (3, .ref o), (4, .int (nI i))] → W p l e room_1 s m args below meth c H locs (cells + 1) (slots + 6) Q (F0 m 1749 ls [])) (hl : lv_has ls 7 [(0, .ref b), (1, .ref (ad 0)), (2, .ref (am 0)), (3, .ref o), (4, .int (nI i))]) : W p l e room_1 s m args below meth c H locs cells slots Q (F0 m 832 ls []) := by
  obtain ⟨E, hX, hbl, hfl, N1, N2, r1, r2, r3, d12, d13, d23, KG, KA⟩ := C
  obtain ⟨P1, P2, P3, S, R⟩ := T
  have hbA : ¬ (fun q : Nat => s.heap.size ≤ q) b := Nat.not_le.mpr hbl
  have hc1 : cells + 1 ≤ room_1.cells := hc
  have hs1 : slots + 6 ≤ room_1.slots := hs
  have hc0 : cells ≤ room_1.cells := Nat.le_trans (Nat.le_succ cells) hc
  have hs0 : slots ≤ room_1.slots := Nat.le_trans (Nat.le_add_right slots 6) hs
  have G := st_picture R 
  obtain ⟨out, r, J1, B1, e1, e2, G⟩ := good_ex G
  refine lv_aload_n E.hx E.hb dL_law_832 rfl (lv_at hl 1 rfl) ?_
  refine lv_aload_n E.hx E.hb dL_law_833 rfl (lv_at hl 3 rfl) ?_
  refine vl_call (vx_runSW (As := [.ref (ad 0), .ref o]) (rest := []) E.fix (c_L_picture l hfl N1 P1 P3 d13 e1 (good_hx G)) (vx_cwSW 2 E.ht (gSW kML_L_125 kST_L_picture kIN_L kCW_L_picture) rfl rfl rfl ds_L_picture ⟨Nat.le_of_ble_eq_true rfl, Nat.le_of_ble_eq_true rfl⟩) ⟨PX_blind KL_blind, fun U hU hW9 => ⟨rfl, hU, (((KG.at S).narrow r1).warm hW9).to, va_K.moved hW9.alike KA⟩⟩ rfl rfl hl.1 rfl (lv_room (Nat.le_of_ble_eq_true rfl)) dL_law_834 ⟨hc1, hs1⟩) S (fun q hq => hq.elim (fun h9 => r1 q h9) (fun h9 => by rw [h9]; exact r3)) (fun z I1 A1 f1 H1 locs1 P1 P3 hq hk1 S => ?_)
  have P2 := P_keep P2 hk1 (fun k q hq9 h9 => h9.elim (fun h9 => d12 _ h9 (mw_in hq9)) (fun h9 => d23 (by rw [← h9]; exact mw_in hq9)))
  refine lv_istore (lv' := [(5, .int z), (0, .ref b), (1, .ref (ad 0)), (2, .ref (am 0)), (3, .ref o), (4, .int (nI i))]) E.hx E.hb dL_law_837 hl (by decide) rfl (fun ls hl => ?_)
  refine lv_aload_n E.hx E.hb dL_law_839 rfl (lv_at hl 3 rfl) ?_
  refine cv_rw2 E (c_X7_picture l N2 P2  e2) (gV kML_L_128 kIM_X7_picture kSE_X7_picture kIN_X7 kCO_X7_picture) rfl ds_X7_picture rfl KM_blind (fun U _ hW => va_K.moved hW.alike KG.1) S r2 (va_recv KG.1 P2 (show classes[7]? = some (RX7, TX7, 27) from rfl) mw_g0) ⟨Nat.le_of_ble_eq_true rfl, Nat.le_of_ble_eq_true rfl, hc1, hs1⟩ hl.1 rfl (Nat.le_of_ble_eq_true rfl) dL_law_840 (fun H2 locs2 P2 hz2 hk2 S => ?_)
  refine W.eq (g2 := F0 m 843 ls [.int r]) rfl ?_
  have P1 := P_keep P1 hk2 (fun k q hq h9 => d12 _ (cw_in hq) h9)
  have P3 := P_keep P3 hk2 (fun k q hq => by rw [one_in hq]; exact d23)
  refine lv_istore (lv' := [(6, .int r), (5, .int z), (0, .ref b), (1, .ref (ad 0)), (2, .ref (am 0)), (3, .ref o), (4, .int (nI i))]) E.hx E.hb dL_law_843 hl (by decide) rfl (fun ls hl => ?_)
  have G2 := good_use (by decide) (by decide) G hq
  refine lv_aload_n E.hx E.hb dL_law_845 rfl (lv_at hl 4 rfl) ?_
  refine cv_ro E (c_X7_thrown l P2) (gV kML_L_93 kIM_X7_thrown kSE_X7_thrown kIN_X7 kCO_X7_thrown) rfl ds_X7_thrown rfl KM_blind (fun U _ hW => va_K.moved hW.alike KG.1) (va_recv KG.1 P2 (show classes[7]? = some (RX7, TX7, 27) from rfl) mw_g0) ⟨Nat.le_of_ble_eq_true rfl, Nat.le_of_ble_eq_true rfl, hc1, hs1⟩ hl.1 rfl (Nat.le_of_ble_eq_true rfl) dL_law_846 ?_
  refine lv_iload E.hx E.hb dL_law_849 (lv_at hl 1 rfl) ?_
  refine lv_icmp_eq (tgt := 856) E.hx E.hb dL_law_851 (by decide) (fun c_1 => ?_) (fun c_1 => ?_)
  · refine lv_iload E.hx E.hb dL_law_856 (lv_at hl 1 rfl) ?_
    refine lv_if_ne (tgt := 873) E.hx E.hb dL_law_858 (by decide) (fun c_2 => ?_) (fun c_2 => ?_)
    · refine lv_goto (tgt := 1749) E.hx E.hb dL_law_873 (by decide) ?_
      exact hk _ _ _ _ _ _ _ _ ⟨P1, P2, P3, S, G2.2.2⟩ (lv_sub hl [2, 3, 4, 5, 6] rfl)
    · refine lv_aload_n E.hx E.hb dL_law_861 rfl (lv_at hl 5 rfl) ?_
      refine lv_iconst (v := 0) E.hx E.hb dL_law_862 (by decide) ?_
      refine va_lald E.hx E.hb KA P3 0 1 rfl rfl (vp_in_nI (n := 0) (N := 1) (by decide) (by decide)) dL_law_863 ?_
      refine lv_iload E.hx E.hb dL_law_864 (lv_at hl 0 rfl) ?_
      refine lv_i2l (v := r.toInt64) E.hx E.hb dL_law_866 rfl ?_
      refine W.lcmp E.hx E.hb dL_law_867 ?_
      refine lv_if_eq (tgt := 873) E.hx E.hb dL_law_868 (by decide) (fun c_3 => ?_) (fun c_3 => ?_)
      · refine lv_goto (tgt := 1749) E.hx E.hb dL_law_873 (by decide) ?_
        exact hk _ _ _ _ _ _ _ _ ⟨P1, P2, P3, S, G2.2.2⟩ (lv_sub hl [2, 3, 4, 5, 6] rfl)
      · exact absurd (lgc (G2.2.1 c_2 rfl)) c_3
  · exact absurd G2.1 c_1
set_option maxHeartbeats 4000000 in
set_option maxRecDepth 100000 in
theorem law_c10 (C : LW p l s m args meth c D cyI cyL ad am o b L xs) (T : LT s D cyI cyL ad am o I A J B f H locs) (hi : i + 6 ≤ L) (hL : L ≤ 3072) (hc : cells + 1 ≤ 601024) (hs : slots + 6 ≤ 7293034) (hk : ∀ (I : Nat → Int32) (A : Nat → Nat → Int32) (J : Nat → Int32) (B : Nat → Nat → Int32) (f : Nat → Int64) (H : Heap) (locs : List Loc) (ls : Array Slot), LT s D cyI cyL ad am o I A J B f H locs → lv_has ls 7 [(0, .ref b), (1, .ref (ad 0)), (2, .ref (am 0)), (3, .ref o), (4, .int (nI i))] → W p l e room_1 s m args below meth c H locs (cells + 1) (slots + 6) Q (F0 m 1749 ls [])) (hl : lv_has ls 7 [(0, .ref b), (1, .ref (ad 0)), (2, .ref (am 0)), (3, .ref o), (4, .int (nI i))]) : W p l e room_1 s m args below meth c H locs cells slots Q (F0 m 876 ls []) := by
  obtain ⟨E, hX, hbl, hfl, N1, N2, r1, r2, r3, d12, d13, d23, KG, KA⟩ := C
  obtain ⟨P1, P2, P3, S, R⟩ := T
  have hbA : ¬ (fun q : Nat => s.heap.size ≤ q) b := Nat.not_le.mpr hbl
  have hc1 : cells + 1 ≤ room_1.cells := hc
  have hs1 : slots + 6 ≤ room_1.slots := hs
  have hc0 : cells ≤ room_1.cells := Nat.le_trans (Nat.le_succ cells) hc
  have hs0 : slots ≤ room_1.slots := Nat.le_trans (Nat.le_add_right slots 6) hs
  obtain ⟨J1, B1, e2, R1⟩ := st_now R 
  refine lv_aload_n E.hx E.hb dL_law_876 rfl (lv_at hl 1 rfl) ?_
  refine cv_ro E (c_X6_now l P1 ) (gV kML_L_129 kIM_X6_now kSE_X6_now kIN_X6 kCO_X6_now) rfl ds_X6_now rfl KC_blind (fun U _ hW => (((KG.at S).narrow r1).warm hW).to) (va_recv KG.1 P1 (show classes[6]? = some (RX6, TX6, 9) from rfl) cw_g0) ⟨Nat.le_of_ble_eq_true rfl, Nat.le_of_ble_eq_true rfl, hc0, hs0⟩ hl.1 rfl (Nat.le_of_ble_eq_true rfl) dL_law_877 ?_
  refine lv_aload_n E.hx E.hb dL_law_880 rfl (lv_at hl 2 rfl) ?_
  refine cv_rw2 E (c_X7_now l N2 P2  e2) (gV kML_L_132 kIM_X7_now kSE_X7_now kIN_X7 kCO_X7_now) rfl ds_X7_now rfl KM_blind (fun U _ hW => va_K.moved hW.alike KG.1) S r2 (va_recv KG.1 P2 (show classes[7]? = some (RX7, TX7, 27) from rfl) mw_g0) ⟨Nat.le_of_ble_eq_true rfl, Nat.le_of_ble_eq_true rfl, hc0, hs0⟩ hl.1 rfl (Nat.le_of_ble_eq_true rfl) dL_law_881 (fun H2 locs2 P2 hz2 hk2 S => ?_)
  refine W.eq (g2 := F0 m 884 ls [.int (B_X6_now I A ), .int (B_X6_now I A )]) rfl ?_
  have P1 := P_keep P1 hk2 (fun k q hq h9 => d12 _ (cw_in hq) h9)
  have P3 := P_keep P3 hk2 (fun k q hq => by rw [one_in hq]; exact d23)
  refine lv_icmp_eq (tgt := 1749) E.hx E.hb dL_law_884 (by decide) (fun c_1 => ?_) (fun c_1 => ?_)
  · refine W.widen (k := cells + 1) (n := slots + 6) (Nat.le_succ _) (Nat.le_add_right _ _) ?_
    exact hk _ _ _ _ _ _ _ _ ⟨P1, P2, P3, S, R1⟩ hl
  · exact absurd rfl c_1
set_option maxHeartbeats 4000000 in
set_option maxRecDepth 100000 in
theorem law_c11 (C : LW p l s m args meth c D cyI cyL ad am o b L xs) (T : LT s D cyI cyL ad am o I A J B f H locs) (hi : i + 6 ≤ L) (hL : L ≤ 3072) (hc : cells + 1 ≤ 601024) (hs : slots + 6 ≤ 7293034) (hk : ∀ (I : Nat → Int32) (A : Nat → Nat → Int32) (J : Nat → Int32) (B : Nat → Nat → Int32) (f : Nat → Int64) (H : Heap) (locs : List Loc) (ls : Array Slot), LT s D cyI cyL ad am o I A J B f H locs → lv_has ls 7 [(0, .ref b), (1, .ref (ad 0)), (2, .ref (am 0)), (3, .ref o), (4, .int (nI i))] → W p l e room_1 s m args below meth c H locs (cells + 1) (slots + 6) Q (F0 m 1749 ls [])) (hl : lv_has ls 7 [(0, .ref b), (1, .ref (ad 0)), (2, .ref (am 0)), (3, .ref o), (4, .int (nI i))]) : W p l e room_1 s m args below meth c H locs cells slots Q (F0 m 889 ls []) := by
  obtain ⟨E, hX, hbl, hfl, N1, N2, r1, r2, r3, d12, d13, d23, KG, KA⟩ := C
  obtain ⟨P1, P2, P3, S, R⟩ := T
  have hbA : ¬ (fun q : Nat => s.heap.size ≤ q) b := Nat.not_le.mpr hbl
  have hc1 : cells + 1 ≤ room_1.cells := hc
  have hs1 : slots + 6 ≤ room_1.slots := hs
  have hc0 : cells ≤ room_1.cells := Nat.le_trans (Nat.le_succ cells) hc
  have hs0 : slots ≤ room_1.slots := Nat.le_trans (Nat.le_add_right slots 6) hs
  have G := st_told R (xs (i + 1)) (xs (i + 2)) (xs (i + 3))
  obtain ⟨out, r, J1, B1, e1, e2, G⟩ := good_ex G
  refine lv_aload_n E.hx E.hb dL_law_889 rfl (lv_at hl 1 rfl) ?_
  refine lv_aload_n E.hx E.hb dL_law_890 rfl (lv_at hl 0 rfl) ?_
  refine lv_iload E.hx E.hb dL_law_891 (lv_at hl 4 rfl) ?_
  refine lv_iconst (v := 1) E.hx E.hb dL_law_893 (by decide) ?_
  refine lv_iadd E.hx E.hb dL_law_894 ?_
  rw [show nI i + 1 = nI (i + 1) from nI_add i 1]
  refine va_sld E.hx E.hb hX hbl hbA S (vp_in_nI (n := i + 1) (N := L) (by omega) (by omega)) dL_law_895 ?_
  rw [nI_clamp (show i + 1 < 2 ^ 31 by omega)]
  refine lv_aload_n E.hx E.hb dL_law_896 rfl (lv_at hl 0 rfl) ?_
  refine lv_iload E.hx E.hb dL_law_897 (lv_at hl 4 rfl) ?_
  refine lv_iconst (v := 2) E.hx E.hb dL_law_899 (by decide) ?_
  refine lv_iadd E.hx E.hb dL_law_900 ?_
  rw [show nI i + 2 = nI (i + 2) from nI_add i 2]
  refine va_sld E.hx E.hb hX hbl hbA S (vp_in_nI (n := i + 2) (N := L) (by omega) (by omega)) dL_law_901 ?_
  rw [nI_clamp (show i + 2 < 2 ^ 31 by omega)]
  refine lv_aload_n E.hx E.hb dL_law_902 rfl (lv_at hl 0 rfl) ?_
  refine lv_iload E.hx E.hb dL_law_903 (lv_at hl 4 rfl) ?_
  refine lv_iconst (v := 3) E.hx E.hb dL_law_905 (by decide) ?_
  refine lv_iadd E.hx E.hb dL_law_906 ?_
  rw [show nI i + 3 = nI (i + 3) from nI_add i 3]
  refine va_sld E.hx E.hb hX hbl hbA S (vp_in_nI (n := i + 3) (N := L) (by omega) (by omega)) dL_law_907 ?_
  rw [nI_clamp (show i + 3 < 2 ^ 31 by omega)]
  refine lv_aload_n E.hx E.hb dL_law_908 rfl (lv_at hl 3 rfl) ?_
  refine vl_call (vx_runSW (As := [.ref (ad 0), .int (xs (i + 1)), .int (xs (i + 2)), .int (xs (i + 3)), .ref o]) (rest := []) E.fix (c_L_told l hfl N1 P1 P3 d13 e1 (good_hx G)) (vx_cwSW 5 E.ht (gSW kML_L_133 kST_L_told kIN_L kCW_L_told) rfl rfl rfl ds_L_told ⟨Nat.le_of_ble_eq_true rfl, Nat.le_of_ble_eq_true rfl⟩) ⟨PX_blind KL_blind, fun U hU hW9 => ⟨rfl, hU, (((KG.at S).narrow r1).warm hW9).to, va_K.moved hW9.alike KA⟩⟩ rfl rfl hl.1 rfl (lv_room (Nat.le_of_ble_eq_true rfl)) dL_law_909 ⟨hc1, hs1⟩) S (fun q hq => hq.elim (fun h9 => r1 q h9) (fun h9 => by rw [h9]; exact r3)) (fun z I1 A1 f1 H1 locs1 P1 P3 hq hk1 S => ?_)
  have P2 := P_keep P2 hk1 (fun k q hq9 h9 => h9.elim (fun h9 => d12 _ h9 (mw_in hq9)) (fun h9 => d23 (by rw [← h9]; exact mw_in hq9)))
  refine lv_istore (lv' := [(5, .int z), (0, .ref b), (1, .ref (ad 0)), (2, .ref (am 0)), (3, .ref o), (4, .int (nI i))]) E.hx E.hb dL_law_912 hl (by decide) rfl (fun ls hl => ?_)
  refine lv_aload_n E.hx E.hb dL_law_914 rfl (lv_at hl 3 rfl) ?_
  refine lv_aload_n E.hx E.hb dL_law_915 rfl (lv_at hl 1 rfl) ?_
  refine lv_iload E.hx E.hb dL_law_916 (lv_at hl 5 rfl) ?_
  refine lv_iconst (v := 1) E.hx E.hb dL_law_918 (by decide) ?_
  refine lv_iadd E.hx E.hb dL_law_919 ?_
  rw [show nI i + 1 = nI (i + 1) from nI_add i 1]
  refine va_sld E.hx E.hb hX hbl hbA S (vp_in_nI (n := i + 1) (N := L) (by omega) (by omega)) dL_law_920 ?_
  rw [nI_clamp (show i + 1 < 2 ^ 31 by omega)]
  refine lv_aload_n E.hx E.hb dL_law_921 rfl (lv_at hl 1 rfl) ?_
  refine lv_iload E.hx E.hb dL_law_922 (lv_at hl 5 rfl) ?_
  refine lv_iconst (v := 2) E.hx E.hb dL_law_924 (by decide) ?_
  refine lv_iadd E.hx E.hb dL_law_925 ?_
  rw [show nI i + 2 = nI (i + 2) from nI_add i 2]
  refine va_sld E.hx E.hb hX hbl hbA S (vp_in_nI (n := i + 2) (N := L) (by omega) (by omega)) dL_law_926 ?_
  rw [nI_clamp (show i + 2 < 2 ^ 31 by omega)]
  refine lv_aload_n E.hx E.hb dL_law_927 rfl (lv_at hl 1 rfl) ?_
  refine lv_iload E.hx E.hb dL_law_928 (lv_at hl 5 rfl) ?_
  refine lv_iconst (v := 3) E.hx E.hb dL_law_930 (by decide) ?_
  refine lv_iadd E.hx E.hb dL_law_931 ?_
  rw [show nI i + 3 = nI (i + 3) from nI_add i 3]
  refine va_sld E.hx E.hb hX hbl hbA S (vp_in_nI (n := i + 3) (N := L) (by omega) (by omega)) dL_law_932 ?_
  rw [nI_clamp (show i + 3 < 2 ^ 31 by omega)]
  refine cv_rw2 E (c_X7_told l N2 P2 (xs (i + 1)) (xs (i + 2)) (xs (i + 3)) e2) (gV kML_L_135 kIM_X7_told kSE_X7_told kIN_X7 kCO_X7_told) rfl ds_X7_told rfl KM_blind (fun U _ hW => va_K.moved hW.alike KG.1) S r2 (va_recv KG.1 P2 (show classes[7]? = some (RX7, TX7, 27) from rfl) mw_g0) ⟨Nat.le_of_ble_eq_true rfl, Nat.le_of_ble_eq_true rfl, hc1, hs1⟩ hl.1 rfl (Nat.le_of_ble_eq_true rfl) dL_law_933 (fun H2 locs2 P2 hz2 hk2 S => ?_)
  refine W.eq (g2 := F0 m 936 ls [.int r]) rfl ?_
  have P1 := P_keep P1 hk2 (fun k q hq h9 => d12 _ (cw_in hq) h9)
  have P3 := P_keep P3 hk2 (fun k q hq => by rw [one_in hq]; exact d23)
  refine lv_istore (lv' := [(6, .int r), (5, .int z), (0, .ref b), (1, .ref (ad 0)), (2, .ref (am 0)), (3, .ref o), (4, .int (nI i))]) E.hx E.hb dL_law_936 hl (by decide) rfl (fun ls hl => ?_)
  have G2 := good_use (by decide) (by decide) G hq
  refine lv_aload_n E.hx E.hb dL_law_938 rfl (lv_at hl 4 rfl) ?_
  refine cv_ro E (c_X7_thrown l P2) (gV kML_L_93 kIM_X7_thrown kSE_X7_thrown kIN_X7 kCO_X7_thrown) rfl ds_X7_thrown rfl KM_blind (fun U _ hW => va_K.moved hW.alike KG.1) (va_recv KG.1 P2 (show classes[7]? = some (RX7, TX7, 27) from rfl) mw_g0) ⟨Nat.le_of_ble_eq_true rfl, Nat.le_of_ble_eq_true rfl, hc1, hs1⟩ hl.1 rfl (Nat.le_of_ble_eq_true rfl) dL_law_939 ?_
  refine lv_iload E.hx E.hb dL_law_942 (lv_at hl 1 rfl) ?_
  refine lv_icmp_eq (tgt := 949) E.hx E.hb dL_law_944 (by decide) (fun c_1 => ?_) (fun c_1 => ?_)
  · refine lv_iload E.hx E.hb dL_law_949 (lv_at hl 1 rfl) ?_
    refine lv_if_ne (tgt := 966) E.hx E.hb dL_law_951 (by decide) (fun c_2 => ?_) (fun c_2 => ?_)
    · refine lv_goto (tgt := 1749) E.hx E.hb dL_law_966 (by decide) ?_
      exact hk _ _ _ _ _ _ _ _ ⟨P1, P2, P3, S, G2.2.2⟩ (lv_sub hl [2, 3, 4, 5, 6] rfl)
    · refine lv_aload_n E.hx E.hb dL_law_954 rfl (lv_at hl 5 rfl) ?_
      refine lv_iconst (v := 0) E.hx E.hb dL_law_955 (by decide) ?_
      refine va_lald E.hx E.hb KA P3 0 1 rfl rfl (vp_in_nI (n := 0) (N := 1) (by decide) (by decide)) dL_law_956 ?_
      refine lv_iload E.hx E.hb dL_law_957 (lv_at hl 0 rfl) ?_
      refine lv_i2l (v := r.toInt64) E.hx E.hb dL_law_959 rfl ?_
      refine W.lcmp E.hx E.hb dL_law_960 ?_
      refine lv_if_eq (tgt := 966) E.hx E.hb dL_law_961 (by decide) (fun c_3 => ?_) (fun c_3 => ?_)
      · refine lv_goto (tgt := 1749) E.hx E.hb dL_law_966 (by decide) ?_
        exact hk _ _ _ _ _ _ _ _ ⟨P1, P2, P3, S, G2.2.2⟩ (lv_sub hl [2, 3, 4, 5, 6] rfl)
      · exact absurd (lgc (G2.2.1 c_2 rfl)) c_3
  · exact absurd G2.1 c_1
set_option maxHeartbeats 4000000 in
set_option maxRecDepth 100000 in
theorem law_c12 (C : LW p l s m args meth c D cyI cyL ad am o b L xs) (T : LT s D cyI cyL ad am o I A J B f H locs) (hi : i + 6 ≤ L) (hL : L ≤ 3072) (hc : cells + 1 ≤ 601024) (hs : slots + 6 ≤ 7293034) (hk : ∀ (I : Nat → Int32) (A : Nat → Nat → Int32) (J : Nat → Int32) (B : Nat → Nat → Int32) (f : Nat → Int64) (H : Heap) (locs : List Loc) (ls : Array Slot), LT s D cyI cyL ad am o I A J B f H locs → lv_has ls 7 [(0, .ref b), (1, .ref (ad 0)), (2, .ref (am 0)), (3, .ref o), (4, .int (nI i))] → W p l e room_1 s m args below meth c H locs (cells + 1) (slots + 6) Q (F0 m 1749 ls [])) (hl : lv_has ls 7 [(0, .ref b), (1, .ref (ad 0)), (2, .ref (am 0)), (3, .ref o), (4, .int (nI i))]) : W p l e room_1 s m args below meth c H locs cells slots Q (F0 m 969 ls []) := by
  obtain ⟨E, hX, hbl, hfl, N1, N2, r1, r2, r3, d12, d13, d23, KG, KA⟩ := C
  obtain ⟨P1, P2, P3, S, R⟩ := T
  have hbA : ¬ (fun q : Nat => s.heap.size ≤ q) b := Nat.not_le.mpr hbl
  have hc1 : cells + 1 ≤ room_1.cells := hc
  have hs1 : slots + 6 ≤ room_1.slots := hs
  have hc0 : cells ≤ room_1.cells := Nat.le_trans (Nat.le_succ cells) hc
  have hs0 : slots ≤ room_1.slots := Nat.le_trans (Nat.le_add_right slots 6) hs
  obtain ⟨J1, B1, e2, R1⟩ := st_energy R 
  refine lv_aload_n E.hx E.hb dL_law_969 rfl (lv_at hl 1 rfl) ?_
  refine cv_ro E (c_X6_energy l P1 ) (gV kML_L_136 kIM_X6_energy kSE_X6_energy kIN_X6 kCO_X6_energy) rfl ds_X6_energy rfl KC_blind (fun U _ hW => (((KG.at S).narrow r1).warm hW).to) (va_recv KG.1 P1 (show classes[6]? = some (RX6, TX6, 9) from rfl) cw_g0) ⟨Nat.le_of_ble_eq_true rfl, Nat.le_of_ble_eq_true rfl, hc0, hs0⟩ hl.1 rfl (Nat.le_of_ble_eq_true rfl) dL_law_970 ?_
  refine lv_aload_n E.hx E.hb dL_law_973 rfl (lv_at hl 2 rfl) ?_
  refine cv_rw2 E (c_X7_energy l N2 P2  e2) (gV kML_L_139 kIM_X7_energy kSE_X7_energy kIN_X7 kCO_X7_energy) rfl ds_X7_energy rfl KM_blind (fun U _ hW => va_K.moved hW.alike KG.1) S r2 (va_recv KG.1 P2 (show classes[7]? = some (RX7, TX7, 27) from rfl) mw_g0) ⟨Nat.le_of_ble_eq_true rfl, Nat.le_of_ble_eq_true rfl, hc0, hs0⟩ hl.1 rfl (Nat.le_of_ble_eq_true rfl) dL_law_974 (fun H2 locs2 P2 hz2 hk2 S => ?_)
  refine W.eq (g2 := F0 m 977 ls [.int (B_X6_energy I A ), .int (B_X6_energy I A )]) rfl ?_
  have P1 := P_keep P1 hk2 (fun k q hq h9 => d12 _ (cw_in hq) h9)
  have P3 := P_keep P3 hk2 (fun k q hq => by rw [one_in hq]; exact d23)
  refine lv_icmp_eq (tgt := 1749) E.hx E.hb dL_law_977 (by decide) (fun c_1 => ?_) (fun c_1 => ?_)
  · refine W.widen (k := cells + 1) (n := slots + 6) (Nat.le_succ _) (Nat.le_add_right _ _) ?_
    exact hk _ _ _ _ _ _ _ _ ⟨P1, P2, P3, S, R1⟩ hl
  · exact absurd rfl c_1
set_option maxHeartbeats 4000000 in
set_option maxRecDepth 100000 in
theorem law_c13 (C : LW p l s m args meth c D cyI cyL ad am o b L xs) (T : LT s D cyI cyL ad am o I A J B f H locs) (hi : i + 6 ≤ L) (hL : L ≤ 3072) (hc : cells + 1 ≤ 601024) (hs : slots + 6 ≤ 7293034) (hk : ∀ (I : Nat → Int32) (A : Nat → Nat → Int32) (J : Nat → Int32) (B : Nat → Nat → Int32) (f : Nat → Int64) (H : Heap) (locs : List Loc) (ls : Array Slot), LT s D cyI cyL ad am o I A J B f H locs → lv_has ls 7 [(0, .ref b), (1, .ref (ad 0)), (2, .ref (am 0)), (3, .ref o), (4, .int (nI i))] → W p l e room_1 s m args below meth c H locs (cells + 1) (slots + 6) Q (F0 m 1749 ls [])) (hl : lv_has ls 7 [(0, .ref b), (1, .ref (ad 0)), (2, .ref (am 0)), (3, .ref o), (4, .int (nI i))]) : W p l e room_1 s m args below meth c H locs cells slots Q (F0 m 982 ls []) := by
  obtain ⟨E, hX, hbl, hfl, N1, N2, r1, r2, r3, d12, d13, d23, KG, KA⟩ := C
  obtain ⟨P1, P2, P3, S, R⟩ := T
  have hbA : ¬ (fun q : Nat => s.heap.size ≤ q) b := Nat.not_le.mpr hbl
  have hc1 : cells + 1 ≤ room_1.cells := hc
  have hs1 : slots + 6 ≤ room_1.slots := hs
  have hc0 : cells ≤ room_1.cells := Nat.le_trans (Nat.le_succ cells) hc
  have hs0 : slots ≤ room_1.slots := Nat.le_trans (Nat.le_add_right slots 6) hs
  obtain ⟨v, e1, J1, B1, e2, R1⟩ := st_energyAnew R
  refine lv_aload_n E.hx E.hb dL_law_982 rfl (lv_at hl 1 rfl) ?_
  refine cv_ro E (c_X6_energyAnew l P1 e1) (gV kML_L_140 kIM_X6_energyAnew kSE_X6_energyAnew kIN_X6 kCO_X6_energyAnew) rfl ds_X6_energyAnew rfl KC_blind (fun U _ hW => (((KG.at S).narrow r1).warm hW).to) (va_recv KG.1 P1 (show classes[6]? = some (RX6, TX6, 9) from rfl) cw_g0) ⟨Nat.le_of_ble_eq_true rfl, Nat.le_of_ble_eq_true rfl, hc0, hs0⟩ hl.1 rfl (Nat.le_of_ble_eq_true rfl) dL_law_983 ?_
  refine lv_aload_n E.hx E.hb dL_law_986 rfl (lv_at hl 2 rfl) ?_
  refine cv_rw2 E (c_X7_energyAnew l N2 P2  e2) (gV kML_L_143 kIM_X7_energyAnew kSE_X7_energyAnew kIN_X7 kCO_X7_energyAnew) rfl ds_X7_energyAnew rfl KM_blind (fun U _ hW => va_K.moved hW.alike KG.1) S r2 (va_recv KG.1 P2 (show classes[7]? = some (RX7, TX7, 27) from rfl) mw_g0) ⟨Nat.le_of_ble_eq_true rfl, Nat.le_of_ble_eq_true rfl, hc0, hs0⟩ hl.1 rfl (Nat.le_of_ble_eq_true rfl) dL_law_987 (fun H2 locs2 P2 hz2 hk2 S => ?_)
  refine W.eq (g2 := F0 m 990 ls [.int v, .int v]) rfl ?_
  have P1 := P_keep P1 hk2 (fun k q hq h9 => d12 _ (cw_in hq) h9)
  have P3 := P_keep P3 hk2 (fun k q hq => by rw [one_in hq]; exact d23)
  refine lv_icmp_eq (tgt := 1749) E.hx E.hb dL_law_990 (by decide) (fun c_1 => ?_) (fun c_1 => ?_)
  · refine W.widen (k := cells + 1) (n := slots + 6) (Nat.le_succ _) (Nat.le_add_right _ _) ?_
    exact hk _ _ _ _ _ _ _ _ ⟨P1, P2, P3, S, R1⟩ hl
  · exact absurd rfl c_1
set_option maxHeartbeats 4000000 in
set_option maxRecDepth 100000 in
theorem law_c14 (C : LW p l s m args meth c D cyI cyL ad am o b L xs) (T : LT s D cyI cyL ad am o I A J B f H locs) (hi : i + 6 ≤ L) (hL : L ≤ 3072) (hc : cells + 1 ≤ 601024) (hs : slots + 6 ≤ 7293034) (hk : ∀ (I : Nat → Int32) (A : Nat → Nat → Int32) (J : Nat → Int32) (B : Nat → Nat → Int32) (f : Nat → Int64) (H : Heap) (locs : List Loc) (ls : Array Slot), LT s D cyI cyL ad am o I A J B f H locs → lv_has ls 7 [(0, .ref b), (1, .ref (ad 0)), (2, .ref (am 0)), (3, .ref o), (4, .int (nI i))] → W p l e room_1 s m args below meth c H locs (cells + 1) (slots + 6) Q (F0 m 1749 ls [])) (hl : lv_has ls 7 [(0, .ref b), (1, .ref (ad 0)), (2, .ref (am 0)), (3, .ref o), (4, .int (nI i))]) : W p l e room_1 s m args below meth c H locs cells slots Q (F0 m 995 ls []) := by
  obtain ⟨E, hX, hbl, hfl, N1, N2, r1, r2, r3, d12, d13, d23, KG, KA⟩ := C
  obtain ⟨P1, P2, P3, S, R⟩ := T
  have hbA : ¬ (fun q : Nat => s.heap.size ≤ q) b := Nat.not_le.mpr hbl
  have hc1 : cells + 1 ≤ room_1.cells := hc
  have hs1 : slots + 6 ≤ room_1.slots := hs
  have hc0 : cells ≤ room_1.cells := Nat.le_trans (Nat.le_succ cells) hc
  have hs0 : slots ≤ room_1.slots := Nat.le_trans (Nat.le_add_right slots 6) hs
  obtain ⟨J1, B1, e2, R1⟩ := st_spent R (bz (xs (i + 1)))
  refine lv_aload_n E.hx E.hb dL_law_995 rfl (lv_at hl 1 rfl) ?_
  refine lv_aload_n E.hx E.hb dL_law_996 rfl (lv_at hl 0 rfl) ?_
  refine lv_iload E.hx E.hb dL_law_997 (lv_at hl 4 rfl) ?_
  refine lv_iconst (v := 1) E.hx E.hb dL_law_999 (by decide) ?_
  refine lv_iadd E.hx E.hb dL_law_1000 ?_
  rw [show nI i + 1 = nI (i + 1) from nI_add i 1]
  refine va_sld E.hx E.hb hX hbl hbA S (vp_in_nI (n := i + 1) (N := L) (by omega) (by omega)) dL_law_1001 ?_
  rw [nI_clamp (show i + 1 < 2 ^ 31 by omega)]
  refine lw_bool E (tgt := 1009) dL_law_1002 (by decide) dL_law_1005 dL_law_1006 (by decide) dL_law_1009 ?_
  refine cv_ro E (c_X6_spent l P1 (bz (xs (i + 1)))) (gV kML_L_144 kIM_X6_spent kSE_X6_spent kIN_X6 kCO_X6_spent) rfl ds_X6_spent rfl KC_blind (fun U _ hW => (((KG.at S).narrow r1).warm hW).to) (va_recv KG.1 P1 (show classes[6]? = some (RX6, TX6, 9) from rfl) cw_g0) ⟨Nat.le_of_ble_eq_true rfl, Nat.le_of_ble_eq_true rfl, hc0, hs0⟩ hl.1 rfl (Nat.le_of_ble_eq_true rfl) dL_law_1010 ?_
  refine lv_aload_n E.hx E.hb dL_law_1013 rfl (lv_at hl 2 rfl) ?_
  refine lv_aload_n E.hx E.hb dL_law_1014 rfl (lv_at hl 0 rfl) ?_
  refine lv_iload E.hx E.hb dL_law_1015 (lv_at hl 4 rfl) ?_
  refine lv_iconst (v := 1) E.hx E.hb dL_law_1017 (by decide) ?_
  refine lv_iadd E.hx E.hb dL_law_1018 ?_
  rw [show nI i + 1 = nI (i + 1) from nI_add i 1]
  refine va_sld E.hx E.hb hX hbl hbA S (vp_in_nI (n := i + 1) (N := L) (by omega) (by omega)) dL_law_1019 ?_
  rw [nI_clamp (show i + 1 < 2 ^ 31 by omega)]
  refine lw_bool E (tgt := 1027) dL_law_1020 (by decide) dL_law_1023 dL_law_1024 (by decide) dL_law_1027 ?_
  refine cv_rw2 E (c_X7_spent l N2 P2 (bz (xs (i + 1))) e2) (gV kML_L_148 kIM_X7_spent kSE_X7_spent kIN_X7 kCO_X7_spent) rfl ds_X7_spent rfl KM_blind (fun U _ hW => va_K.moved hW.alike KG.1) S r2 (va_recv KG.1 P2 (show classes[7]? = some (RX7, TX7, 27) from rfl) mw_g0) ⟨Nat.le_of_ble_eq_true rfl, Nat.le_of_ble_eq_true rfl, hc0, hs0⟩ hl.1 rfl (Nat.le_of_ble_eq_true rfl) dL_law_1028 (fun H2 locs2 P2 hz2 hk2 S => ?_)
  refine W.eq (g2 := F0 m 1031 ls [.int (B_X6_spent I A (bz (xs (i + 1)))), .int (B_X6_spent I A (bz (xs (i + 1))))]) rfl ?_
  have P1 := P_keep P1 hk2 (fun k q hq h9 => d12 _ (cw_in hq) h9)
  have P3 := P_keep P3 hk2 (fun k q hq => by rw [one_in hq]; exact d23)
  refine lv_icmp_eq (tgt := 1749) E.hx E.hb dL_law_1031 (by decide) (fun c_1 => ?_) (fun c_1 => ?_)
  · refine W.widen (k := cells + 1) (n := slots + 6) (Nat.le_succ _) (Nat.le_add_right _ _) ?_
    exact hk _ _ _ _ _ _ _ _ ⟨P1, P2, P3, S, R1⟩ hl
  · exact absurd rfl c_1
set_option maxHeartbeats 4000000 in
set_option maxRecDepth 100000 in
theorem law_c15 (C : LW p l s m args meth c D cyI cyL ad am o b L xs) (T : LT s D cyI cyL ad am o I A J B f H locs) (hi : i + 6 ≤ L) (hL : L ≤ 3072) (hc : cells + 1 ≤ 601024) (hs : slots + 6 ≤ 7293034) (hk : ∀ (I : Nat → Int32) (A : Nat → Nat → Int32) (J : Nat → Int32) (B : Nat → Nat → Int32) (f : Nat → Int64) (H : Heap) (locs : List Loc) (ls : Array Slot), LT s D cyI cyL ad am o I A J B f H locs → lv_has ls 7 [(0, .ref b), (1, .ref (ad 0)), (2, .ref (am 0)), (3, .ref o), (4, .int (nI i))] → W p l e room_1 s m args below meth c H locs (cells + 1) (slots + 6) Q (F0 m 1749 ls [])) (hl : lv_has ls 7 [(0, .ref b), (1, .ref (ad 0)), (2, .ref (am 0)), (3, .ref o), (4, .int (nI i))]) : W p l e room_1 s m args below meth c H locs cells slots Q (F0 m 1036 ls []) := by
  obtain ⟨E, hX, hbl, hfl, N1, N2, r1, r2, r3, d12, d13, d23, KG, KA⟩ := C
  obtain ⟨P1, P2, P3, S, R⟩ := T
  have hbA : ¬ (fun q : Nat => s.heap.size ≤ q) b := Nat.not_le.mpr hbl
  have hc1 : cells + 1 ≤ room_1.cells := hc
  have hs1 : slots + 6 ≤ room_1.slots := hs
  have hc0 : cells ≤ room_1.cells := Nat.le_trans (Nat.le_succ cells) hc
  have hs0 : slots ≤ room_1.slots := Nat.le_trans (Nat.le_add_right slots 6) hs
  have G := st_least R (xs (i + 1)) (xs (i + 2)) (bz (xs (i + 3)))
  obtain ⟨out, r, J1, B1, e1, e2, G⟩ := good_ex G
  refine lv_aload_n E.hx E.hb dL_law_1036 rfl (lv_at hl 1 rfl) ?_
  refine lv_aload_n E.hx E.hb dL_law_1037 rfl (lv_at hl 0 rfl) ?_
  refine lv_iload E.hx E.hb dL_law_1038 (lv_at hl 4 rfl) ?_
  refine lv_iconst (v := 1) E.hx E.hb dL_law_1040 (by decide) ?_
  refine lv_iadd E.hx E.hb dL_law_1041 ?_
  rw [show nI i + 1 = nI (i + 1) from nI_add i 1]
  refine va_sld E.hx E.hb hX hbl hbA S (vp_in_nI (n := i + 1) (N := L) (by omega) (by omega)) dL_law_1042 ?_
  rw [nI_clamp (show i + 1 < 2 ^ 31 by omega)]
  refine lv_aload_n E.hx E.hb dL_law_1043 rfl (lv_at hl 0 rfl) ?_
  refine lv_iload E.hx E.hb dL_law_1044 (lv_at hl 4 rfl) ?_
  refine lv_iconst (v := 2) E.hx E.hb dL_law_1046 (by decide) ?_
  refine lv_iadd E.hx E.hb dL_law_1047 ?_
  rw [show nI i + 2 = nI (i + 2) from nI_add i 2]
  refine va_sld E.hx E.hb hX hbl hbA S (vp_in_nI (n := i + 2) (N := L) (by omega) (by omega)) dL_law_1048 ?_
  rw [nI_clamp (show i + 2 < 2 ^ 31 by omega)]
  refine lv_aload_n E.hx E.hb dL_law_1049 rfl (lv_at hl 0 rfl) ?_
  refine lv_iload E.hx E.hb dL_law_1050 (lv_at hl 4 rfl) ?_
  refine lv_iconst (v := 3) E.hx E.hb dL_law_1052 (by decide) ?_
  refine lv_iadd E.hx E.hb dL_law_1053 ?_
  rw [show nI i + 3 = nI (i + 3) from nI_add i 3]
  refine va_sld E.hx E.hb hX hbl hbA S (vp_in_nI (n := i + 3) (N := L) (by omega) (by omega)) dL_law_1054 ?_
  rw [nI_clamp (show i + 3 < 2 ^ 31 by omega)]
  refine lw_bool E (tgt := 1062) dL_law_1055 (by decide) dL_law_1058 dL_law_1059 (by decide) dL_law_1062 ?_
  refine lv_aload_n E.hx E.hb dL_law_1063 rfl (lv_at hl 3 rfl) ?_
  refine vl_call (vx_runSW (As := [.ref (ad 0), .int (xs (i + 1)), .int (xs (i + 2)), .int (bz (xs (i + 3))), .ref o]) (rest := []) E.fix (c_L_least l hfl N1 P1 P3 d13 e1 (good_hx G)) (vx_cwSW 5 E.ht (gSW kML_L_149 kST_L_least kIN_L kCW_L_least) rfl rfl rfl ds_L_least ⟨Nat.le_of_ble_eq_true rfl, Nat.le_of_ble_eq_true rfl⟩) ⟨PX_blind KL_blind, fun U hU hW9 => ⟨rfl, hU, (((KG.at S).narrow r1).warm hW9).to, va_K.moved hW9.alike KA⟩⟩ rfl rfl hl.1 rfl (lv_room (Nat.le_of_ble_eq_true rfl)) dL_law_1064 ⟨hc1, hs1⟩) S (fun q hq => hq.elim (fun h9 => r1 q h9) (fun h9 => by rw [h9]; exact r3)) (fun z I1 A1 f1 H1 locs1 P1 P3 hq hk1 S => ?_)
  have P2 := P_keep P2 hk1 (fun k q hq9 h9 => h9.elim (fun h9 => d12 _ h9 (mw_in hq9)) (fun h9 => d23 (by rw [← h9]; exact mw_in hq9)))
  refine lv_istore (lv' := [(5, .int z), (0, .ref b), (1, .ref (ad 0)), (2, .ref (am 0)), (3, .ref o), (4, .int (nI i))]) E.hx E.hb dL_law_1067 hl (by decide) rfl (fun ls hl => ?_)
  refine lv_aload_n E.hx E.hb dL_law_1069 rfl (lv_at hl 3 rfl) ?_
  refine lv_aload_n E.hx E.hb dL_law_1070 rfl (lv_at hl 1 rfl) ?_
  refine lv_iload E.hx E.hb dL_law_1071 (lv_at hl 5 rfl) ?_
  refine lv_iconst (v := 1) E.hx E.hb dL_law_1073 (by decide) ?_
  refine lv_iadd E.hx E.hb dL_law_1074 ?_
  rw [show nI i + 1 = nI (i + 1) from nI_add i 1]
  refine va_sld E.hx E.hb hX hbl hbA S (vp_in_nI (n := i + 1) (N := L) (by omega) (by omega)) dL_law_1075 ?_
  rw [nI_clamp (show i + 1 < 2 ^ 31 by omega)]
  refine lv_aload_n E.hx E.hb dL_law_1076 rfl (lv_at hl 1 rfl) ?_
  refine lv_iload E.hx E.hb dL_law_1077 (lv_at hl 5 rfl) ?_
  refine lv_iconst (v := 2) E.hx E.hb dL_law_1079 (by decide) ?_
  refine lv_iadd E.hx E.hb dL_law_1080 ?_
  rw [show nI i + 2 = nI (i + 2) from nI_add i 2]
  refine va_sld E.hx E.hb hX hbl hbA S (vp_in_nI (n := i + 2) (N := L) (by omega) (by omega)) dL_law_1081 ?_
  rw [nI_clamp (show i + 2 < 2 ^ 31 by omega)]
  refine lv_aload_n E.hx E.hb dL_law_1082 rfl (lv_at hl 1 rfl) ?_
  refine lv_iload E.hx E.hb dL_law_1083 (lv_at hl 5 rfl) ?_
  refine lv_iconst (v := 3) E.hx E.hb dL_law_1085 (by decide) ?_
  refine lv_iadd E.hx E.hb dL_law_1086 ?_
  rw [show nI i + 3 = nI (i + 3) from nI_add i 3]
  refine va_sld E.hx E.hb hX hbl hbA S (vp_in_nI (n := i + 3) (N := L) (by omega) (by omega)) dL_law_1087 ?_
  rw [nI_clamp (show i + 3 < 2 ^ 31 by omega)]
  refine lw_bool E (tgt := 1095) dL_law_1088 (by decide) dL_law_1091 dL_law_1092 (by decide) dL_law_1095 ?_
  refine cv_rw2 E (c_X7_least l N2 P2 (xs (i + 1)) (xs (i + 2)) (bz (xs (i + 3))) e2) (gV kML_L_152 kIM_X7_least kSE_X7_least kIN_X7 kCO_X7_least) rfl ds_X7_least rfl KM_blind (fun U _ hW => va_K.moved hW.alike KG.1) S r2 (va_recv KG.1 P2 (show classes[7]? = some (RX7, TX7, 27) from rfl) mw_g0) ⟨Nat.le_of_ble_eq_true rfl, Nat.le_of_ble_eq_true rfl, hc1, hs1⟩ hl.1 rfl (Nat.le_of_ble_eq_true rfl) dL_law_1096 (fun H2 locs2 P2 hz2 hk2 S => ?_)
  refine W.eq (g2 := F0 m 1099 ls [.int r]) rfl ?_
  have P1 := P_keep P1 hk2 (fun k q hq h9 => d12 _ (cw_in hq) h9)
  have P3 := P_keep P3 hk2 (fun k q hq => by rw [one_in hq]; exact d23)
  refine lv_istore (lv' := [(6, .int r), (5, .int z), (0, .ref b), (1, .ref (ad 0)), (2, .ref (am 0)), (3, .ref o), (4, .int (nI i))]) E.hx E.hb dL_law_1099 hl (by decide) rfl (fun ls hl => ?_)
  have G2 := good_use (by decide) (by decide) G hq
  refine lv_aload_n E.hx E.hb dL_law_1101 rfl (lv_at hl 4 rfl) ?_
  refine cv_ro E (c_X7_thrown l P2) (gV kML_L_93 kIM_X7_thrown kSE_X7_thrown kIN_X7 kCO_X7_thrown) rfl ds_X7_thrown rfl KM_blind (fun U _ hW => va_K.moved hW.alike KG.1) (va_recv KG.1 P2 (show classes[7]? = some (RX7, TX7, 27) from rfl) mw_g0) ⟨Nat.le_of_ble_eq_true rfl, Nat.le_of_ble_eq_true rfl, hc1, hs1⟩ hl.1 rfl (Nat.le_of_ble_eq_true rfl) dL_law_1102 ?_
  refine lv_iload E.hx E.hb dL_law_1105 (lv_at hl 1 rfl) ?_
  refine lv_icmp_eq (tgt := 1112) E.hx E.hb dL_law_1107 (by decide) (fun c_1 => ?_) (fun c_1 => ?_)
  · refine lv_iload E.hx E.hb dL_law_1112 (lv_at hl 1 rfl) ?_
    refine lv_if_ne (tgt := 1129) E.hx E.hb dL_law_1114 (by decide) (fun c_2 => ?_) (fun c_2 => ?_)
    · refine lv_goto (tgt := 1749) E.hx E.hb dL_law_1129 (by decide) ?_
      exact hk _ _ _ _ _ _ _ _ ⟨P1, P2, P3, S, G2.2.2⟩ (lv_sub hl [2, 3, 4, 5, 6] rfl)
    · refine lv_aload_n E.hx E.hb dL_law_1117 rfl (lv_at hl 5 rfl) ?_
      refine lv_iconst (v := 0) E.hx E.hb dL_law_1118 (by decide) ?_
      refine va_lald E.hx E.hb KA P3 0 1 rfl rfl (vp_in_nI (n := 0) (N := 1) (by decide) (by decide)) dL_law_1119 ?_
      refine lv_iload E.hx E.hb dL_law_1120 (lv_at hl 0 rfl) ?_
      refine lv_i2l (v := r.toInt64) E.hx E.hb dL_law_1122 rfl ?_
      refine W.lcmp E.hx E.hb dL_law_1123 ?_
      refine lv_if_eq (tgt := 1129) E.hx E.hb dL_law_1124 (by decide) (fun c_3 => ?_) (fun c_3 => ?_)
      · refine lv_goto (tgt := 1749) E.hx E.hb dL_law_1129 (by decide) ?_
        exact hk _ _ _ _ _ _ _ _ ⟨P1, P2, P3, S, G2.2.2⟩ (lv_sub hl [2, 3, 4, 5, 6] rfl)
      · exact absurd (lgc (G2.2.1 c_2 rfl)) c_3
  · exact absurd G2.1 c_1
set_option maxHeartbeats 4000000 in
set_option maxRecDepth 100000 in
theorem law_c16 (C : LW p l s m args meth c D cyI cyL ad am o b L xs) (T : LT s D cyI cyL ad am o I A J B f H locs) (hi : i + 6 ≤ L) (hL : L ≤ 3072) (hc : cells + 1 ≤ 601024) (hs : slots + 6 ≤ 7293034) (hk : ∀ (I : Nat → Int32) (A : Nat → Nat → Int32) (J : Nat → Int32) (B : Nat → Nat → Int32) (f : Nat → Int64) (H : Heap) (locs : List Loc) (ls : Array Slot), LT s D cyI cyL ad am o I A J B f H locs → lv_has ls 7 [(0, .ref b), (1, .ref (ad 0)), (2, .ref (am 0)), (3, .ref o), (4, .int (nI i))] → W p l e room_1 s m args below meth c H locs (cells + 1) (slots + 6) Q (F0 m 1749 ls [])) (hl : lv_has ls 7 [(0, .ref b), (1, .ref (ad 0)), (2, .ref (am 0)), (3, .ref o), (4, .int (nI i))]) : W p l e room_1 s m args below meth c H locs cells slots Q (F0 m 1132 ls []) := by
  obtain ⟨E, hX, hbl, hfl, N1, N2, r1, r2, r3, d12, d13, d23, KG, KA⟩ := C
  obtain ⟨P1, P2, P3, S, R⟩ := T
  have hbA : ¬ (fun q : Nat => s.heap.size ≤ q) b := Nat.not_le.mpr hbl
  have hc1 : cells + 1 ≤ room_1.cells := hc
  have hs1 : slots + 6 ≤ room_1.slots := hs
  have hc0 : cells ≤ room_1.cells := Nat.le_trans (Nat.le_succ cells) hc
  have hs0 : slots ≤ room_1.slots := Nat.le_trans (Nat.le_add_right slots 6) hs
  have G := st_winding R (xs (i + 1)) (xs (i + 2))
  obtain ⟨out, r, J1, B1, e1, e2, G⟩ := good_ex G
  refine lv_aload_n E.hx E.hb dL_law_1132 rfl (lv_at hl 1 rfl) ?_
  refine lv_aload_n E.hx E.hb dL_law_1133 rfl (lv_at hl 0 rfl) ?_
  refine lv_iload E.hx E.hb dL_law_1134 (lv_at hl 4 rfl) ?_
  refine lv_iconst (v := 1) E.hx E.hb dL_law_1136 (by decide) ?_
  refine lv_iadd E.hx E.hb dL_law_1137 ?_
  rw [show nI i + 1 = nI (i + 1) from nI_add i 1]
  refine va_sld E.hx E.hb hX hbl hbA S (vp_in_nI (n := i + 1) (N := L) (by omega) (by omega)) dL_law_1138 ?_
  rw [nI_clamp (show i + 1 < 2 ^ 31 by omega)]
  refine lv_aload_n E.hx E.hb dL_law_1139 rfl (lv_at hl 0 rfl) ?_
  refine lv_iload E.hx E.hb dL_law_1140 (lv_at hl 4 rfl) ?_
  refine lv_iconst (v := 2) E.hx E.hb dL_law_1142 (by decide) ?_
  refine lv_iadd E.hx E.hb dL_law_1143 ?_
  rw [show nI i + 2 = nI (i + 2) from nI_add i 2]
  refine va_sld E.hx E.hb hX hbl hbA S (vp_in_nI (n := i + 2) (N := L) (by omega) (by omega)) dL_law_1144 ?_
  rw [nI_clamp (show i + 2 < 2 ^ 31 by omega)]
  refine lv_aload_n E.hx E.hb dL_law_1145 rfl (lv_at hl 3 rfl) ?_
  refine vl_call (vx_runSW (As := [.ref (ad 0), .int (xs (i + 1)), .int (xs (i + 2)), .ref o]) (rest := []) E.fix (c_L_winding l hfl N1 P1 P3 d13 e1 (good_hx G)) (vx_cwSW 4 E.ht (gSW kML_L_153 kST_L_winding kIN_L kCW_L_winding) rfl rfl rfl ds_L_winding ⟨Nat.le_of_ble_eq_true rfl, Nat.le_of_ble_eq_true rfl⟩) ⟨PX_blind KL_blind, fun U hU hW9 => ⟨rfl, hU, (((KG.at S).narrow r1).warm hW9).to, va_K.moved hW9.alike KA⟩⟩ rfl rfl hl.1 rfl (lv_room (Nat.le_of_ble_eq_true rfl)) dL_law_1146 ⟨hc1, hs1⟩) S (fun q hq => hq.elim (fun h9 => r1 q h9) (fun h9 => by rw [h9]; exact r3)) (fun z I1 A1 f1 H1 locs1 P1 P3 hq hk1 S => ?_)
  have P2 := P_keep P2 hk1 (fun k q hq9 h9 => h9.elim (fun h9 => d12 _ h9 (mw_in hq9)) (fun h9 => d23 (by rw [← h9]; exact mw_in hq9)))
  refine lv_istore (lv' := [(5, .int z), (0, .ref b), (1, .ref (ad 0)), (2, .ref (am 0)), (3, .ref o), (4, .int (nI i))]) E.hx E.hb dL_law_1149 hl (by decide) rfl (fun ls hl => ?_)
  refine lv_aload_n E.hx E.hb dL_law_1151 rfl (lv_at hl 3 rfl) ?_
  refine lv_aload_n E.hx E.hb dL_law_1152 rfl (lv_at hl 1 rfl) ?_
  refine lv_iload E.hx E.hb dL_law_1153 (lv_at hl 5 rfl) ?_
  refine lv_iconst (v := 1) E.hx E.hb dL_law_1155 (by decide) ?_
  refine lv_iadd E.hx E.hb dL_law_1156 ?_
  rw [show nI i + 1 = nI (i + 1) from nI_add i 1]
  refine va_sld E.hx E.hb hX hbl hbA S (vp_in_nI (n := i + 1) (N := L) (by omega) (by omega)) dL_law_1157 ?_
  rw [nI_clamp (show i + 1 < 2 ^ 31 by omega)]
  refine lv_aload_n E.hx E.hb dL_law_1158 rfl (lv_at hl 1 rfl) ?_
  refine lv_iload E.hx E.hb dL_law_1159 (lv_at hl 5 rfl) ?_
  refine lv_iconst (v := 2) E.hx E.hb dL_law_1161 (by decide) ?_
  refine lv_iadd E.hx E.hb dL_law_1162 ?_
  rw [show nI i + 2 = nI (i + 2) from nI_add i 2]
  refine va_sld E.hx E.hb hX hbl hbA S (vp_in_nI (n := i + 2) (N := L) (by omega) (by omega)) dL_law_1163 ?_
  rw [nI_clamp (show i + 2 < 2 ^ 31 by omega)]
  refine cv_rw2 E (c_X7_winding l N2 P2 (xs (i + 1)) (xs (i + 2)) e2) (gV kML_L_155 kIM_X7_winding kSE_X7_winding kIN_X7 kCO_X7_winding) rfl ds_X7_winding rfl KM_blind (fun U _ hW => va_K.moved hW.alike KG.1) S r2 (va_recv KG.1 P2 (show classes[7]? = some (RX7, TX7, 27) from rfl) mw_g0) ⟨Nat.le_of_ble_eq_true rfl, Nat.le_of_ble_eq_true rfl, hc1, hs1⟩ hl.1 rfl (Nat.le_of_ble_eq_true rfl) dL_law_1164 (fun H2 locs2 P2 hz2 hk2 S => ?_)
  refine W.eq (g2 := F0 m 1167 ls [.int r]) rfl ?_
  have P1 := P_keep P1 hk2 (fun k q hq h9 => d12 _ (cw_in hq) h9)
  have P3 := P_keep P3 hk2 (fun k q hq => by rw [one_in hq]; exact d23)
  refine lv_istore (lv' := [(6, .int r), (5, .int z), (0, .ref b), (1, .ref (ad 0)), (2, .ref (am 0)), (3, .ref o), (4, .int (nI i))]) E.hx E.hb dL_law_1167 hl (by decide) rfl (fun ls hl => ?_)
  have G2 := good_use (by decide) (by decide) G hq
  refine lv_aload_n E.hx E.hb dL_law_1169 rfl (lv_at hl 4 rfl) ?_
  refine cv_ro E (c_X7_thrown l P2) (gV kML_L_93 kIM_X7_thrown kSE_X7_thrown kIN_X7 kCO_X7_thrown) rfl ds_X7_thrown rfl KM_blind (fun U _ hW => va_K.moved hW.alike KG.1) (va_recv KG.1 P2 (show classes[7]? = some (RX7, TX7, 27) from rfl) mw_g0) ⟨Nat.le_of_ble_eq_true rfl, Nat.le_of_ble_eq_true rfl, hc1, hs1⟩ hl.1 rfl (Nat.le_of_ble_eq_true rfl) dL_law_1170 ?_
  refine lv_iload E.hx E.hb dL_law_1173 (lv_at hl 1 rfl) ?_
  refine lv_icmp_eq (tgt := 1180) E.hx E.hb dL_law_1175 (by decide) (fun c_1 => ?_) (fun c_1 => ?_)
  · refine lv_iload E.hx E.hb dL_law_1180 (lv_at hl 1 rfl) ?_
    refine lv_if_ne (tgt := 1197) E.hx E.hb dL_law_1182 (by decide) (fun c_2 => ?_) (fun c_2 => ?_)
    · refine lv_goto (tgt := 1749) E.hx E.hb dL_law_1197 (by decide) ?_
      exact hk _ _ _ _ _ _ _ _ ⟨P1, P2, P3, S, G2.2.2⟩ (lv_sub hl [2, 3, 4, 5, 6] rfl)
    · refine lv_aload_n E.hx E.hb dL_law_1185 rfl (lv_at hl 5 rfl) ?_
      refine lv_iconst (v := 0) E.hx E.hb dL_law_1186 (by decide) ?_
      refine va_lald E.hx E.hb KA P3 0 1 rfl rfl (vp_in_nI (n := 0) (N := 1) (by decide) (by decide)) dL_law_1187 ?_
      refine lv_iload E.hx E.hb dL_law_1188 (lv_at hl 0 rfl) ?_
      refine lv_i2l (v := r.toInt64) E.hx E.hb dL_law_1190 rfl ?_
      refine W.lcmp E.hx E.hb dL_law_1191 ?_
      refine lv_if_eq (tgt := 1197) E.hx E.hb dL_law_1192 (by decide) (fun c_3 => ?_) (fun c_3 => ?_)
      · refine lv_goto (tgt := 1749) E.hx E.hb dL_law_1197 (by decide) ?_
        exact hk _ _ _ _ _ _ _ _ ⟨P1, P2, P3, S, G2.2.2⟩ (lv_sub hl [2, 3, 4, 5, 6] rfl)
      · exact absurd (lgc (G2.2.1 c_2 rfl)) c_3
  · exact absurd G2.1 c_1
set_option maxHeartbeats 4000000 in
set_option maxRecDepth 100000 in
theorem law_c17 (C : LW p l s m args meth c D cyI cyL ad am o b L xs) (T : LT s D cyI cyL ad am o I A J B f H locs) (hi : i + 6 ≤ L) (hL : L ≤ 3072) (hc : cells + 1 ≤ 601024) (hs : slots + 6 ≤ 7293034) (hk : ∀ (I : Nat → Int32) (A : Nat → Nat → Int32) (J : Nat → Int32) (B : Nat → Nat → Int32) (f : Nat → Int64) (H : Heap) (locs : List Loc) (ls : Array Slot), LT s D cyI cyL ad am o I A J B f H locs → lv_has ls 7 [(0, .ref b), (1, .ref (ad 0)), (2, .ref (am 0)), (3, .ref o), (4, .int (nI i))] → W p l e room_1 s m args below meth c H locs (cells + 1) (slots + 6) Q (F0 m 1749 ls [])) (hl : lv_has ls 7 [(0, .ref b), (1, .ref (ad 0)), (2, .ref (am 0)), (3, .ref o), (4, .int (nI i))]) : W p l e room_1 s m args below meth c H locs cells slots Q (F0 m 1200 ls []) := by
  obtain ⟨E, hX, hbl, hfl, N1, N2, r1, r2, r3, d12, d13, d23, KG, KA⟩ := C
  obtain ⟨P1, P2, P3, S, R⟩ := T
  have hbA : ¬ (fun q : Nat => s.heap.size ≤ q) b := Nat.not_le.mpr hbl
  have hc1 : cells + 1 ≤ room_1.cells := hc
  have hs1 : slots + 6 ≤ room_1.slots := hs
  have hc0 : cells ≤ room_1.cells := Nat.le_trans (Nat.le_succ cells) hc
  have hs0 : slots ≤ room_1.slots := Nat.le_trans (Nat.le_add_right slots 6) hs
  have G := st_within R (xs (i + 1)) (xs (i + 2)) (xs (i + 3)) (xs (i + 4))
  obtain ⟨out, r, J1, B1, e1, e2, G⟩ := good_ex G
  refine lv_aload_n E.hx E.hb dL_law_1200 rfl (lv_at hl 1 rfl) ?_
  refine lv_aload_n E.hx E.hb dL_law_1201 rfl (lv_at hl 0 rfl) ?_
  refine lv_iload E.hx E.hb dL_law_1202 (lv_at hl 4 rfl) ?_
  refine lv_iconst (v := 1) E.hx E.hb dL_law_1204 (by decide) ?_
  refine lv_iadd E.hx E.hb dL_law_1205 ?_
  rw [show nI i + 1 = nI (i + 1) from nI_add i 1]
  refine va_sld E.hx E.hb hX hbl hbA S (vp_in_nI (n := i + 1) (N := L) (by omega) (by omega)) dL_law_1206 ?_
  rw [nI_clamp (show i + 1 < 2 ^ 31 by omega)]
  refine lv_aload_n E.hx E.hb dL_law_1207 rfl (lv_at hl 0 rfl) ?_
  refine lv_iload E.hx E.hb dL_law_1208 (lv_at hl 4 rfl) ?_
  refine lv_iconst (v := 2) E.hx E.hb dL_law_1210 (by decide) ?_
  refine lv_iadd E.hx E.hb dL_law_1211 ?_
  rw [show nI i + 2 = nI (i + 2) from nI_add i 2]
  refine va_sld E.hx E.hb hX hbl hbA S (vp_in_nI (n := i + 2) (N := L) (by omega) (by omega)) dL_law_1212 ?_
  rw [nI_clamp (show i + 2 < 2 ^ 31 by omega)]
  refine lv_aload_n E.hx E.hb dL_law_1213 rfl (lv_at hl 0 rfl) ?_
  refine lv_iload E.hx E.hb dL_law_1214 (lv_at hl 4 rfl) ?_
  refine lv_iconst (v := 3) E.hx E.hb dL_law_1216 (by decide) ?_
  refine lv_iadd E.hx E.hb dL_law_1217 ?_
  rw [show nI i + 3 = nI (i + 3) from nI_add i 3]
  refine va_sld E.hx E.hb hX hbl hbA S (vp_in_nI (n := i + 3) (N := L) (by omega) (by omega)) dL_law_1218 ?_
  rw [nI_clamp (show i + 3 < 2 ^ 31 by omega)]
  refine lv_aload_n E.hx E.hb dL_law_1219 rfl (lv_at hl 0 rfl) ?_
  refine lv_iload E.hx E.hb dL_law_1220 (lv_at hl 4 rfl) ?_
  refine lv_iconst (v := 4) E.hx E.hb dL_law_1222 (by decide) ?_
  refine lv_iadd E.hx E.hb dL_law_1223 ?_
  rw [show nI i + 4 = nI (i + 4) from nI_add i 4]
  refine va_sld E.hx E.hb hX hbl hbA S (vp_in_nI (n := i + 4) (N := L) (by omega) (by omega)) dL_law_1224 ?_
  rw [nI_clamp (show i + 4 < 2 ^ 31 by omega)]
  refine lv_aload_n E.hx E.hb dL_law_1225 rfl (lv_at hl 3 rfl) ?_
  refine vl_call (vx_runSW (As := [.ref (ad 0), .int (xs (i + 1)), .int (xs (i + 2)), .int (xs (i + 3)), .int (xs (i + 4)), .ref o]) (rest := []) E.fix (c_L_within l hfl N1 P1 P3 d13 e1 (good_hx G)) (vx_cwSW 6 E.ht (gSW kML_L_156 kST_L_within kIN_L kCW_L_within) rfl rfl rfl ds_L_within ⟨Nat.le_of_ble_eq_true rfl, Nat.le_of_ble_eq_true rfl⟩) ⟨PX_blind KL_blind, fun U hU hW9 => ⟨rfl, hU, (((KG.at S).narrow r1).warm hW9).to, va_K.moved hW9.alike KA⟩⟩ rfl rfl hl.1 rfl (lv_room (Nat.le_of_ble_eq_true rfl)) dL_law_1226 ⟨hc1, hs1⟩) S (fun q hq => hq.elim (fun h9 => r1 q h9) (fun h9 => by rw [h9]; exact r3)) (fun z I1 A1 f1 H1 locs1 P1 P3 hq hk1 S => ?_)
  have P2 := P_keep P2 hk1 (fun k q hq9 h9 => h9.elim (fun h9 => d12 _ h9 (mw_in hq9)) (fun h9 => d23 (by rw [← h9]; exact mw_in hq9)))
  refine lv_istore (lv' := [(5, .int z), (0, .ref b), (1, .ref (ad 0)), (2, .ref (am 0)), (3, .ref o), (4, .int (nI i))]) E.hx E.hb dL_law_1229 hl (by decide) rfl (fun ls hl => ?_)
  refine lv_aload_n E.hx E.hb dL_law_1231 rfl (lv_at hl 3 rfl) ?_
  refine lv_aload_n E.hx E.hb dL_law_1232 rfl (lv_at hl 1 rfl) ?_
  refine lv_iload E.hx E.hb dL_law_1233 (lv_at hl 5 rfl) ?_
  refine lv_iconst (v := 1) E.hx E.hb dL_law_1235 (by decide) ?_
  refine lv_iadd E.hx E.hb dL_law_1236 ?_
  rw [show nI i + 1 = nI (i + 1) from nI_add i 1]
  refine va_sld E.hx E.hb hX hbl hbA S (vp_in_nI (n := i + 1) (N := L) (by omega) (by omega)) dL_law_1237 ?_
  rw [nI_clamp (show i + 1 < 2 ^ 31 by omega)]
  refine lv_aload_n E.hx E.hb dL_law_1238 rfl (lv_at hl 1 rfl) ?_
  refine lv_iload E.hx E.hb dL_law_1239 (lv_at hl 5 rfl) ?_
  refine lv_iconst (v := 2) E.hx E.hb dL_law_1241 (by decide) ?_
  refine lv_iadd E.hx E.hb dL_law_1242 ?_
  rw [show nI i + 2 = nI (i + 2) from nI_add i 2]
  refine va_sld E.hx E.hb hX hbl hbA S (vp_in_nI (n := i + 2) (N := L) (by omega) (by omega)) dL_law_1243 ?_
  rw [nI_clamp (show i + 2 < 2 ^ 31 by omega)]
  refine lv_aload_n E.hx E.hb dL_law_1244 rfl (lv_at hl 1 rfl) ?_
  refine lv_iload E.hx E.hb dL_law_1245 (lv_at hl 5 rfl) ?_
  refine lv_iconst (v := 3) E.hx E.hb dL_law_1247 (by decide) ?_
  refine lv_iadd E.hx E.hb dL_law_1248 ?_
  rw [show nI i + 3 = nI (i + 3) from nI_add i 3]
  refine va_sld E.hx E.hb hX hbl hbA S (vp_in_nI (n := i + 3) (N := L) (by omega) (by omega)) dL_law_1249 ?_
  rw [nI_clamp (show i + 3 < 2 ^ 31 by omega)]
  refine lv_aload_n E.hx E.hb dL_law_1250 rfl (lv_at hl 1 rfl) ?_
  refine lv_iload E.hx E.hb dL_law_1251 (lv_at hl 5 rfl) ?_
  refine lv_iconst (v := 4) E.hx E.hb dL_law_1253 (by decide) ?_
  refine lv_iadd E.hx E.hb dL_law_1254 ?_
  rw [show nI i + 4 = nI (i + 4) from nI_add i 4]
  refine va_sld E.hx E.hb hX hbl hbA S (vp_in_nI (n := i + 4) (N := L) (by omega) (by omega)) dL_law_1255 ?_
  rw [nI_clamp (show i + 4 < 2 ^ 31 by omega)]
  refine cv_rw2 E (c_X7_within l N2 P2 (xs (i + 1)) (xs (i + 2)) (xs (i + 3)) (xs (i + 4)) e2) (gV kML_L_158 kIM_X7_within kSE_X7_within kIN_X7 kCO_X7_within) rfl ds_X7_within rfl KM_blind (fun U _ hW => va_K.moved hW.alike KG.1) S r2 (va_recv KG.1 P2 (show classes[7]? = some (RX7, TX7, 27) from rfl) mw_g0) ⟨Nat.le_of_ble_eq_true rfl, Nat.le_of_ble_eq_true rfl, hc1, hs1⟩ hl.1 rfl (Nat.le_of_ble_eq_true rfl) dL_law_1256 (fun H2 locs2 P2 hz2 hk2 S => ?_)
  refine W.eq (g2 := F0 m 1259 ls [.int r]) rfl ?_
  have P1 := P_keep P1 hk2 (fun k q hq h9 => d12 _ (cw_in hq) h9)
  have P3 := P_keep P3 hk2 (fun k q hq => by rw [one_in hq]; exact d23)
  refine lv_istore (lv' := [(6, .int r), (5, .int z), (0, .ref b), (1, .ref (ad 0)), (2, .ref (am 0)), (3, .ref o), (4, .int (nI i))]) E.hx E.hb dL_law_1259 hl (by decide) rfl (fun ls hl => ?_)
  have G2 := good_use (by decide) (by decide) G hq
  refine lv_aload_n E.hx E.hb dL_law_1261 rfl (lv_at hl 4 rfl) ?_
  refine cv_ro E (c_X7_thrown l P2) (gV kML_L_93 kIM_X7_thrown kSE_X7_thrown kIN_X7 kCO_X7_thrown) rfl ds_X7_thrown rfl KM_blind (fun U _ hW => va_K.moved hW.alike KG.1) (va_recv KG.1 P2 (show classes[7]? = some (RX7, TX7, 27) from rfl) mw_g0) ⟨Nat.le_of_ble_eq_true rfl, Nat.le_of_ble_eq_true rfl, hc1, hs1⟩ hl.1 rfl (Nat.le_of_ble_eq_true rfl) dL_law_1262 ?_
  refine lv_iload E.hx E.hb dL_law_1265 (lv_at hl 1 rfl) ?_
  refine lv_icmp_eq (tgt := 1272) E.hx E.hb dL_law_1267 (by decide) (fun c_1 => ?_) (fun c_1 => ?_)
  · refine lv_iload E.hx E.hb dL_law_1272 (lv_at hl 1 rfl) ?_
    refine lv_if_ne (tgt := 1289) E.hx E.hb dL_law_1274 (by decide) (fun c_2 => ?_) (fun c_2 => ?_)
    · refine lv_goto (tgt := 1749) E.hx E.hb dL_law_1289 (by decide) ?_
      exact hk _ _ _ _ _ _ _ _ ⟨P1, P2, P3, S, G2.2.2⟩ (lv_sub hl [2, 3, 4, 5, 6] rfl)
    · refine lv_aload_n E.hx E.hb dL_law_1277 rfl (lv_at hl 5 rfl) ?_
      refine lv_iconst (v := 0) E.hx E.hb dL_law_1278 (by decide) ?_
      refine va_lald E.hx E.hb KA P3 0 1 rfl rfl (vp_in_nI (n := 0) (N := 1) (by decide) (by decide)) dL_law_1279 ?_
      refine lv_iload E.hx E.hb dL_law_1280 (lv_at hl 0 rfl) ?_
      refine lv_i2l (v := r.toInt64) E.hx E.hb dL_law_1282 rfl ?_
      refine W.lcmp E.hx E.hb dL_law_1283 ?_
      refine lv_if_eq (tgt := 1289) E.hx E.hb dL_law_1284 (by decide) (fun c_3 => ?_) (fun c_3 => ?_)
      · refine lv_goto (tgt := 1749) E.hx E.hb dL_law_1289 (by decide) ?_
        exact hk _ _ _ _ _ _ _ _ ⟨P1, P2, P3, S, G2.2.2⟩ (lv_sub hl [2, 3, 4, 5, 6] rfl)
      · exact absurd (lgc (G2.2.1 c_2 rfl)) c_3
  · exact absurd G2.1 c_1
set_option maxHeartbeats 4000000 in
set_option maxRecDepth 100000 in
theorem law_c18 (C : LW p l s m args meth c D cyI cyL ad am o b L xs) (T : LT s D cyI cyL ad am o I A J B f H locs) (hi : i + 6 ≤ L) (hL : L ≤ 3072) (hc : cells + 1 ≤ 601024) (hs : slots + 6 ≤ 7293034) (hk : ∀ (I : Nat → Int32) (A : Nat → Nat → Int32) (J : Nat → Int32) (B : Nat → Nat → Int32) (f : Nat → Int64) (H : Heap) (locs : List Loc) (ls : Array Slot), LT s D cyI cyL ad am o I A J B f H locs → lv_has ls 7 [(0, .ref b), (1, .ref (ad 0)), (2, .ref (am 0)), (3, .ref o), (4, .int (nI i))] → W p l e room_1 s m args below meth c H locs (cells + 1) (slots + 6) Q (F0 m 1749 ls [])) (hl : lv_has ls 7 [(0, .ref b), (1, .ref (ad 0)), (2, .ref (am 0)), (3, .ref o), (4, .int (nI i))]) : W p l e room_1 s m args below meth c H locs cells slots Q (F0 m 1292 ls []) := by
  obtain ⟨E, hX, hbl, hfl, N1, N2, r1, r2, r3, d12, d13, d23, KG, KA⟩ := C
  obtain ⟨P1, P2, P3, S, R⟩ := T
  have hbA : ¬ (fun q : Nat => s.heap.size ≤ q) b := Nat.not_le.mpr hbl
  have hc1 : cells + 1 ≤ room_1.cells := hc
  have hs1 : slots + 6 ≤ room_1.slots := hs
  have hc0 : cells ≤ room_1.cells := Nat.le_trans (Nat.le_succ cells) hc
  have hs0 : slots ≤ room_1.slots := Nat.le_trans (Nat.le_add_right slots 6) hs
  have G := st_border R (xs (i + 1)) (xs (i + 2)) (xs (i + 3)) (xs (i + 4))
  obtain ⟨out, r, J1, B1, e1, e2, G⟩ := good_ex G
  refine lv_aload_n E.hx E.hb dL_law_1292 rfl (lv_at hl 1 rfl) ?_
  refine lv_aload_n E.hx E.hb dL_law_1293 rfl (lv_at hl 0 rfl) ?_
  refine lv_iload E.hx E.hb dL_law_1294 (lv_at hl 4 rfl) ?_
  refine lv_iconst (v := 1) E.hx E.hb dL_law_1296 (by decide) ?_
  refine lv_iadd E.hx E.hb dL_law_1297 ?_
  rw [show nI i + 1 = nI (i + 1) from nI_add i 1]
  refine va_sld E.hx E.hb hX hbl hbA S (vp_in_nI (n := i + 1) (N := L) (by omega) (by omega)) dL_law_1298 ?_
  rw [nI_clamp (show i + 1 < 2 ^ 31 by omega)]
  refine lv_aload_n E.hx E.hb dL_law_1299 rfl (lv_at hl 0 rfl) ?_
  refine lv_iload E.hx E.hb dL_law_1300 (lv_at hl 4 rfl) ?_
  refine lv_iconst (v := 2) E.hx E.hb dL_law_1302 (by decide) ?_
  refine lv_iadd E.hx E.hb dL_law_1303 ?_
  rw [show nI i + 2 = nI (i + 2) from nI_add i 2]
  refine va_sld E.hx E.hb hX hbl hbA S (vp_in_nI (n := i + 2) (N := L) (by omega) (by omega)) dL_law_1304 ?_
  rw [nI_clamp (show i + 2 < 2 ^ 31 by omega)]
  refine lv_aload_n E.hx E.hb dL_law_1305 rfl (lv_at hl 0 rfl) ?_
  refine lv_iload E.hx E.hb dL_law_1306 (lv_at hl 4 rfl) ?_
  refine lv_iconst (v := 3) E.hx E.hb dL_law_1308 (by decide) ?_
  refine lv_iadd E.hx E.hb dL_law_1309 ?_
  rw [show nI i + 3 = nI (i + 3) from nI_add i 3]
  refine va_sld E.hx E.hb hX hbl hbA S (vp_in_nI (n := i + 3) (N := L) (by omega) (by omega)) dL_law_1310 ?_
  rw [nI_clamp (show i + 3 < 2 ^ 31 by omega)]
  refine lv_aload_n E.hx E.hb dL_law_1311 rfl (lv_at hl 0 rfl) ?_
  refine lv_iload E.hx E.hb dL_law_1312 (lv_at hl 4 rfl) ?_
  refine lv_iconst (v := 4) E.hx E.hb dL_law_1314 (by decide) ?_
  refine lv_iadd E.hx E.hb dL_law_1315 ?_
  rw [show nI i + 4 = nI (i + 4) from nI_add i 4]
  refine va_sld E.hx E.hb hX hbl hbA S (vp_in_nI (n := i + 4) (N := L) (by omega) (by omega)) dL_law_1316 ?_
  rw [nI_clamp (show i + 4 < 2 ^ 31 by omega)]
  refine lv_aload_n E.hx E.hb dL_law_1317 rfl (lv_at hl 3 rfl) ?_
  refine vl_call (vx_runSW (As := [.ref (ad 0), .int (xs (i + 1)), .int (xs (i + 2)), .int (xs (i + 3)), .int (xs (i + 4)), .ref o]) (rest := []) E.fix (c_L_border l hfl N1 P1 P3 d13 e1 (good_hx G)) (vx_cwSW 6 E.ht (gSW kML_L_159 kST_L_border kIN_L kCW_L_border) rfl rfl rfl ds_L_border ⟨Nat.le_of_ble_eq_true rfl, Nat.le_of_ble_eq_true rfl⟩) ⟨PX_blind KL_blind, fun U hU hW9 => ⟨rfl, hU, (((KG.at S).narrow r1).warm hW9).to, va_K.moved hW9.alike KA⟩⟩ rfl rfl hl.1 rfl (lv_room (Nat.le_of_ble_eq_true rfl)) dL_law_1318 ⟨hc1, hs1⟩) S (fun q hq => hq.elim (fun h9 => r1 q h9) (fun h9 => by rw [h9]; exact r3)) (fun z I1 A1 f1 H1 locs1 P1 P3 hq hk1 S => ?_)
  have P2 := P_keep P2 hk1 (fun k q hq9 h9 => h9.elim (fun h9 => d12 _ h9 (mw_in hq9)) (fun h9 => d23 (by rw [← h9]; exact mw_in hq9)))
  refine lv_istore (lv' := [(5, .int z), (0, .ref b), (1, .ref (ad 0)), (2, .ref (am 0)), (3, .ref o), (4, .int (nI i))]) E.hx E.hb dL_law_1321 hl (by decide) rfl (fun ls hl => ?_)
  refine lv_aload_n E.hx E.hb dL_law_1323 rfl (lv_at hl 3 rfl) ?_
  refine lv_aload_n E.hx E.hb dL_law_1324 rfl (lv_at hl 1 rfl) ?_
  refine lv_iload E.hx E.hb dL_law_1325 (lv_at hl 5 rfl) ?_
  refine lv_iconst (v := 1) E.hx E.hb dL_law_1327 (by decide) ?_
  refine lv_iadd E.hx E.hb dL_law_1328 ?_
  rw [show nI i + 1 = nI (i + 1) from nI_add i 1]
  refine va_sld E.hx E.hb hX hbl hbA S (vp_in_nI (n := i + 1) (N := L) (by omega) (by omega)) dL_law_1329 ?_
  rw [nI_clamp (show i + 1 < 2 ^ 31 by omega)]
  refine lv_aload_n E.hx E.hb dL_law_1330 rfl (lv_at hl 1 rfl) ?_
  refine lv_iload E.hx E.hb dL_law_1331 (lv_at hl 5 rfl) ?_
  refine lv_iconst (v := 2) E.hx E.hb dL_law_1333 (by decide) ?_
  refine lv_iadd E.hx E.hb dL_law_1334 ?_
  rw [show nI i + 2 = nI (i + 2) from nI_add i 2]
  refine va_sld E.hx E.hb hX hbl hbA S (vp_in_nI (n := i + 2) (N := L) (by omega) (by omega)) dL_law_1335 ?_
  rw [nI_clamp (show i + 2 < 2 ^ 31 by omega)]
  refine lv_aload_n E.hx E.hb dL_law_1336 rfl (lv_at hl 1 rfl) ?_
  refine lv_iload E.hx E.hb dL_law_1337 (lv_at hl 5 rfl) ?_
  refine lv_iconst (v := 3) E.hx E.hb dL_law_1339 (by decide) ?_
  refine lv_iadd E.hx E.hb dL_law_1340 ?_
  rw [show nI i + 3 = nI (i + 3) from nI_add i 3]
  refine va_sld E.hx E.hb hX hbl hbA S (vp_in_nI (n := i + 3) (N := L) (by omega) (by omega)) dL_law_1341 ?_
  rw [nI_clamp (show i + 3 < 2 ^ 31 by omega)]
  refine lv_aload_n E.hx E.hb dL_law_1342 rfl (lv_at hl 1 rfl) ?_
  refine lv_iload E.hx E.hb dL_law_1343 (lv_at hl 5 rfl) ?_
  refine lv_iconst (v := 4) E.hx E.hb dL_law_1345 (by decide) ?_
  refine lv_iadd E.hx E.hb dL_law_1346 ?_
  rw [show nI i + 4 = nI (i + 4) from nI_add i 4]
  refine va_sld E.hx E.hb hX hbl hbA S (vp_in_nI (n := i + 4) (N := L) (by omega) (by omega)) dL_law_1347 ?_
  rw [nI_clamp (show i + 4 < 2 ^ 31 by omega)]
  refine cv_rw2 E (c_X7_border l N2 P2 (xs (i + 1)) (xs (i + 2)) (xs (i + 3)) (xs (i + 4)) e2) (gV kML_L_161 kIM_X7_border kSE_X7_border kIN_X7 kCO_X7_border) rfl ds_X7_border rfl KM_blind (fun U _ hW => va_K.moved hW.alike KG.1) S r2 (va_recv KG.1 P2 (show classes[7]? = some (RX7, TX7, 27) from rfl) mw_g0) ⟨Nat.le_of_ble_eq_true rfl, Nat.le_of_ble_eq_true rfl, hc1, hs1⟩ hl.1 rfl (Nat.le_of_ble_eq_true rfl) dL_law_1348 (fun H2 locs2 P2 hz2 hk2 S => ?_)
  refine W.eq (g2 := F0 m 1351 ls [.int r]) rfl ?_
  have P1 := P_keep P1 hk2 (fun k q hq h9 => d12 _ (cw_in hq) h9)
  have P3 := P_keep P3 hk2 (fun k q hq => by rw [one_in hq]; exact d23)
  refine lv_istore (lv' := [(6, .int r), (5, .int z), (0, .ref b), (1, .ref (ad 0)), (2, .ref (am 0)), (3, .ref o), (4, .int (nI i))]) E.hx E.hb dL_law_1351 hl (by decide) rfl (fun ls hl => ?_)
  have G2 := good_use (by decide) (by decide) G hq
  refine lv_aload_n E.hx E.hb dL_law_1353 rfl (lv_at hl 4 rfl) ?_
  refine cv_ro E (c_X7_thrown l P2) (gV kML_L_93 kIM_X7_thrown kSE_X7_thrown kIN_X7 kCO_X7_thrown) rfl ds_X7_thrown rfl KM_blind (fun U _ hW => va_K.moved hW.alike KG.1) (va_recv KG.1 P2 (show classes[7]? = some (RX7, TX7, 27) from rfl) mw_g0) ⟨Nat.le_of_ble_eq_true rfl, Nat.le_of_ble_eq_true rfl, hc1, hs1⟩ hl.1 rfl (Nat.le_of_ble_eq_true rfl) dL_law_1354 ?_
  refine lv_iload E.hx E.hb dL_law_1357 (lv_at hl 1 rfl) ?_
  refine lv_icmp_eq (tgt := 1364) E.hx E.hb dL_law_1359 (by decide) (fun c_1 => ?_) (fun c_1 => ?_)
  · refine lv_iload E.hx E.hb dL_law_1364 (lv_at hl 1 rfl) ?_
    refine lv_if_ne (tgt := 1381) E.hx E.hb dL_law_1366 (by decide) (fun c_2 => ?_) (fun c_2 => ?_)
    · refine lv_goto (tgt := 1749) E.hx E.hb dL_law_1381 (by decide) ?_
      exact hk _ _ _ _ _ _ _ _ ⟨P1, P2, P3, S, G2.2.2⟩ (lv_sub hl [2, 3, 4, 5, 6] rfl)
    · refine lv_aload_n E.hx E.hb dL_law_1369 rfl (lv_at hl 5 rfl) ?_
      refine lv_iconst (v := 0) E.hx E.hb dL_law_1370 (by decide) ?_
      refine va_lald E.hx E.hb KA P3 0 1 rfl rfl (vp_in_nI (n := 0) (N := 1) (by decide) (by decide)) dL_law_1371 ?_
      refine lv_iload E.hx E.hb dL_law_1372 (lv_at hl 0 rfl) ?_
      refine lv_i2l (v := r.toInt64) E.hx E.hb dL_law_1374 rfl ?_
      refine W.lcmp E.hx E.hb dL_law_1375 ?_
      refine lv_if_eq (tgt := 1381) E.hx E.hb dL_law_1376 (by decide) (fun c_3 => ?_) (fun c_3 => ?_)
      · refine lv_goto (tgt := 1749) E.hx E.hb dL_law_1381 (by decide) ?_
        exact hk _ _ _ _ _ _ _ _ ⟨P1, P2, P3, S, G2.2.2⟩ (lv_sub hl [2, 3, 4, 5, 6] rfl)
      · exact absurd (lgc (G2.2.1 c_2 rfl)) c_3
  · exact absurd G2.1 c_1
set_option maxHeartbeats 4000000 in
set_option maxRecDepth 100000 in
theorem law_c19 (C : LW p l s m args meth c D cyI cyL ad am o b L xs) (T : LT s D cyI cyL ad am o I A J B f H locs) (hi : i + 6 ≤ L) (hL : L ≤ 3072) (hc : cells + 1 ≤ 601024) (hs : slots + 6 ≤ 7293034) (hk : ∀ (I : Nat → Int32) (A : Nat → Nat → Int32) (J : Nat → Int32) (B : Nat → Nat → Int32) (f : Nat → Int64) (H : Heap) (locs : List Loc) (ls : Array Slot), LT s D cyI cyL ad am o I A J B f H locs → lv_has ls 7 [(0, .ref b), (1, .ref (ad 0)), (2, .ref (am 0)), (3, .ref o), (4, .int (nI i))] → W p l e room_1 s m args below meth c H locs (cells + 1) (slots + 6) Q (F0 m 1749 ls [])) (hl : lv_has ls 7 [(0, .ref b), (1, .ref (ad 0)), (2, .ref (am 0)), (3, .ref o), (4, .int (nI i))]) : W p l e room_1 s m args below meth c H locs cells slots Q (F0 m 1384 ls []) := by
  obtain ⟨E, hX, hbl, hfl, N1, N2, r1, r2, r3, d12, d13, d23, KG, KA⟩ := C
  obtain ⟨P1, P2, P3, S, R⟩ := T
  have hbA : ¬ (fun q : Nat => s.heap.size ≤ q) b := Nat.not_le.mpr hbl
  have hc1 : cells + 1 ≤ room_1.cells := hc
  have hs1 : slots + 6 ≤ room_1.slots := hs
  have hc0 : cells ≤ room_1.cells := Nat.le_trans (Nat.le_succ cells) hc
  have hs0 : slots ≤ room_1.slots := Nat.le_trans (Nat.le_add_right slots 6) hs
  obtain ⟨v, e1, J1, B1, e2, R1⟩ := st_defects R
  refine lv_aload_n E.hx E.hb dL_law_1384 rfl (lv_at hl 1 rfl) ?_
  refine cv_ro E (c_X6_defects l P1 e1) (gV kML_L_162 kIM_X6_defects kSE_X6_defects kIN_X6 kCO_X6_defects) rfl ds_X6_defects rfl KC_blind (fun U _ hW => (((KG.at S).narrow r1).warm hW).to) (va_recv KG.1 P1 (show classes[6]? = some (RX6, TX6, 9) from rfl) cw_g0) ⟨Nat.le_of_ble_eq_true rfl, Nat.le_of_ble_eq_true rfl, hc0, hs0⟩ hl.1 rfl (Nat.le_of_ble_eq_true rfl) dL_law_1385 ?_
  refine lv_aload_n E.hx E.hb dL_law_1388 rfl (lv_at hl 2 rfl) ?_
  refine cv_rw2 E (c_X7_defects l N2 P2  e2) (gV kML_L_165 kIM_X7_defects kSE_X7_defects kIN_X7 kCO_X7_defects) rfl ds_X7_defects rfl KM_blind (fun U _ hW => va_K.moved hW.alike KG.1) S r2 (va_recv KG.1 P2 (show classes[7]? = some (RX7, TX7, 27) from rfl) mw_g0) ⟨Nat.le_of_ble_eq_true rfl, Nat.le_of_ble_eq_true rfl, hc0, hs0⟩ hl.1 rfl (Nat.le_of_ble_eq_true rfl) dL_law_1389 (fun H2 locs2 P2 hz2 hk2 S => ?_)
  refine W.eq (g2 := F0 m 1392 ls [.int v, .int v]) rfl ?_
  have P1 := P_keep P1 hk2 (fun k q hq h9 => d12 _ (cw_in hq) h9)
  have P3 := P_keep P3 hk2 (fun k q hq => by rw [one_in hq]; exact d23)
  refine lv_icmp_eq (tgt := 1749) E.hx E.hb dL_law_1392 (by decide) (fun c_1 => ?_) (fun c_1 => ?_)
  · refine W.widen (k := cells + 1) (n := slots + 6) (Nat.le_succ _) (Nat.le_add_right _ _) ?_
    exact hk _ _ _ _ _ _ _ _ ⟨P1, P2, P3, S, R1⟩ hl
  · exact absurd rfl c_1
set_option maxHeartbeats 4000000 in
set_option maxRecDepth 100000 in
theorem law_c20 (C : LW p l s m args meth c D cyI cyL ad am o b L xs) (T : LT s D cyI cyL ad am o I A J B f H locs) (hi : i + 6 ≤ L) (hL : L ≤ 3072) (hc : cells + 1 ≤ 601024) (hs : slots + 6 ≤ 7293034) (hk : ∀ (I : Nat → Int32) (A : Nat → Nat → Int32) (J : Nat → Int32) (B : Nat → Nat → Int32) (f : Nat → Int64) (H : Heap) (locs : List Loc) (ls : Array Slot), LT s D cyI cyL ad am o I A J B f H locs → lv_has ls 7 [(0, .ref b), (1, .ref (ad 0)), (2, .ref (am 0)), (3, .ref o), (4, .int (nI i))] → W p l e room_1 s m args below meth c H locs (cells + 1) (slots + 6) Q (F0 m 1749 ls [])) (hl : lv_has ls 7 [(0, .ref b), (1, .ref (ad 0)), (2, .ref (am 0)), (3, .ref o), (4, .int (nI i))]) : W p l e room_1 s m args below meth c H locs cells slots Q (F0 m 1397 ls []) := by
  obtain ⟨E, hX, hbl, hfl, N1, N2, r1, r2, r3, d12, d13, d23, KG, KA⟩ := C
  obtain ⟨P1, P2, P3, S, R⟩ := T
  have hbA : ¬ (fun q : Nat => s.heap.size ≤ q) b := Nat.not_le.mpr hbl
  have hc1 : cells + 1 ≤ room_1.cells := hc
  have hs1 : slots + 6 ≤ room_1.slots := hs
  have hc0 : cells ≤ room_1.cells := Nat.le_trans (Nat.le_succ cells) hc
  have hs0 : slots ≤ room_1.slots := Nat.le_trans (Nat.le_add_right slots 6) hs
  have G := st_defect R (xs (i + 1)) (xs (i + 2))
  obtain ⟨out, r, J1, B1, e1, e2, G⟩ := good_ex G
  refine lv_aload_n E.hx E.hb dL_law_1397 rfl (lv_at hl 1 rfl) ?_
  refine lv_aload_n E.hx E.hb dL_law_1398 rfl (lv_at hl 0 rfl) ?_
  refine lv_iload E.hx E.hb dL_law_1399 (lv_at hl 4 rfl) ?_
  refine lv_iconst (v := 1) E.hx E.hb dL_law_1401 (by decide) ?_
  refine lv_iadd E.hx E.hb dL_law_1402 ?_
  rw [show nI i + 1 = nI (i + 1) from nI_add i 1]
  refine va_sld E.hx E.hb hX hbl hbA S (vp_in_nI (n := i + 1) (N := L) (by omega) (by omega)) dL_law_1403 ?_
  rw [nI_clamp (show i + 1 < 2 ^ 31 by omega)]
  refine lv_aload_n E.hx E.hb dL_law_1404 rfl (lv_at hl 0 rfl) ?_
  refine lv_iload E.hx E.hb dL_law_1405 (lv_at hl 4 rfl) ?_
  refine lv_iconst (v := 2) E.hx E.hb dL_law_1407 (by decide) ?_
  refine lv_iadd E.hx E.hb dL_law_1408 ?_
  rw [show nI i + 2 = nI (i + 2) from nI_add i 2]
  refine va_sld E.hx E.hb hX hbl hbA S (vp_in_nI (n := i + 2) (N := L) (by omega) (by omega)) dL_law_1409 ?_
  rw [nI_clamp (show i + 2 < 2 ^ 31 by omega)]
  refine lv_aload_n E.hx E.hb dL_law_1410 rfl (lv_at hl 3 rfl) ?_
  refine vl_call (vx_runSW (As := [.ref (ad 0), .int (xs (i + 1)), .int (xs (i + 2)), .ref o]) (rest := []) E.fix (c_L_defect l hfl N1 P1 P3 d13 e1 (good_hx G)) (vx_cwSW 4 E.ht (gSW kML_L_166 kST_L_defect kIN_L kCW_L_defect) rfl rfl rfl ds_L_defect ⟨Nat.le_of_ble_eq_true rfl, Nat.le_of_ble_eq_true rfl⟩) ⟨PX_blind KL_blind, fun U hU hW9 => ⟨rfl, hU, (((KG.at S).narrow r1).warm hW9).to, va_K.moved hW9.alike KA⟩⟩ rfl rfl hl.1 rfl (lv_room (Nat.le_of_ble_eq_true rfl)) dL_law_1411 ⟨hc1, hs1⟩) S (fun q hq => hq.elim (fun h9 => r1 q h9) (fun h9 => by rw [h9]; exact r3)) (fun z I1 A1 f1 H1 locs1 P1 P3 hq hk1 S => ?_)
  have P2 := P_keep P2 hk1 (fun k q hq9 h9 => h9.elim (fun h9 => d12 _ h9 (mw_in hq9)) (fun h9 => d23 (by rw [← h9]; exact mw_in hq9)))
  refine lv_istore (lv' := [(5, .int z), (0, .ref b), (1, .ref (ad 0)), (2, .ref (am 0)), (3, .ref o), (4, .int (nI i))]) E.hx E.hb dL_law_1414 hl (by decide) rfl (fun ls hl => ?_)
  refine lv_aload_n E.hx E.hb dL_law_1416 rfl (lv_at hl 3 rfl) ?_
  refine lv_aload_n E.hx E.hb dL_law_1417 rfl (lv_at hl 1 rfl) ?_
  refine lv_iload E.hx E.hb dL_law_1418 (lv_at hl 5 rfl) ?_
  refine lv_iconst (v := 1) E.hx E.hb dL_law_1420 (by decide) ?_
  refine lv_iadd E.hx E.hb dL_law_1421 ?_
  rw [show nI i + 1 = nI (i + 1) from nI_add i 1]
  refine va_sld E.hx E.hb hX hbl hbA S (vp_in_nI (n := i + 1) (N := L) (by omega) (by omega)) dL_law_1422 ?_
  rw [nI_clamp (show i + 1 < 2 ^ 31 by omega)]
  refine lv_aload_n E.hx E.hb dL_law_1423 rfl (lv_at hl 1 rfl) ?_
  refine lv_iload E.hx E.hb dL_law_1424 (lv_at hl 5 rfl) ?_
  refine lv_iconst (v := 2) E.hx E.hb dL_law_1426 (by decide) ?_
  refine lv_iadd E.hx E.hb dL_law_1427 ?_
  rw [show nI i + 2 = nI (i + 2) from nI_add i 2]
  refine va_sld E.hx E.hb hX hbl hbA S (vp_in_nI (n := i + 2) (N := L) (by omega) (by omega)) dL_law_1428 ?_
  rw [nI_clamp (show i + 2 < 2 ^ 31 by omega)]
  refine cv_rw2 E (c_X7_defect l N2 P2 (xs (i + 1)) (xs (i + 2)) e2) (gV kML_L_168 kIM_X7_defect kSE_X7_defect kIN_X7 kCO_X7_defect) rfl ds_X7_defect rfl KM_blind (fun U _ hW => va_K.moved hW.alike KG.1) S r2 (va_recv KG.1 P2 (show classes[7]? = some (RX7, TX7, 27) from rfl) mw_g0) ⟨Nat.le_of_ble_eq_true rfl, Nat.le_of_ble_eq_true rfl, hc1, hs1⟩ hl.1 rfl (Nat.le_of_ble_eq_true rfl) dL_law_1429 (fun H2 locs2 P2 hz2 hk2 S => ?_)
  refine W.eq (g2 := F0 m 1432 ls [.int r]) rfl ?_
  have P1 := P_keep P1 hk2 (fun k q hq h9 => d12 _ (cw_in hq) h9)
  have P3 := P_keep P3 hk2 (fun k q hq => by rw [one_in hq]; exact d23)
  refine lv_istore (lv' := [(6, .int r), (5, .int z), (0, .ref b), (1, .ref (ad 0)), (2, .ref (am 0)), (3, .ref o), (4, .int (nI i))]) E.hx E.hb dL_law_1432 hl (by decide) rfl (fun ls hl => ?_)
  have G2 := good_use (by decide) (by decide) G hq
  refine lv_aload_n E.hx E.hb dL_law_1434 rfl (lv_at hl 4 rfl) ?_
  refine cv_ro E (c_X7_thrown l P2) (gV kML_L_93 kIM_X7_thrown kSE_X7_thrown kIN_X7 kCO_X7_thrown) rfl ds_X7_thrown rfl KM_blind (fun U _ hW => va_K.moved hW.alike KG.1) (va_recv KG.1 P2 (show classes[7]? = some (RX7, TX7, 27) from rfl) mw_g0) ⟨Nat.le_of_ble_eq_true rfl, Nat.le_of_ble_eq_true rfl, hc1, hs1⟩ hl.1 rfl (Nat.le_of_ble_eq_true rfl) dL_law_1435 ?_
  refine lv_iload E.hx E.hb dL_law_1438 (lv_at hl 1 rfl) ?_
  refine lv_icmp_eq (tgt := 1445) E.hx E.hb dL_law_1440 (by decide) (fun c_1 => ?_) (fun c_1 => ?_)
  · refine lv_iload E.hx E.hb dL_law_1445 (lv_at hl 1 rfl) ?_
    refine lv_if_ne (tgt := 1462) E.hx E.hb dL_law_1447 (by decide) (fun c_2 => ?_) (fun c_2 => ?_)
    · refine lv_goto (tgt := 1749) E.hx E.hb dL_law_1462 (by decide) ?_
      exact hk _ _ _ _ _ _ _ _ ⟨P1, P2, P3, S, G2.2.2⟩ (lv_sub hl [2, 3, 4, 5, 6] rfl)
    · refine lv_aload_n E.hx E.hb dL_law_1450 rfl (lv_at hl 5 rfl) ?_
      refine lv_iconst (v := 0) E.hx E.hb dL_law_1451 (by decide) ?_
      refine va_lald E.hx E.hb KA P3 0 1 rfl rfl (vp_in_nI (n := 0) (N := 1) (by decide) (by decide)) dL_law_1452 ?_
      refine lv_iload E.hx E.hb dL_law_1453 (lv_at hl 0 rfl) ?_
      refine lv_i2l (v := r.toInt64) E.hx E.hb dL_law_1455 rfl ?_
      refine W.lcmp E.hx E.hb dL_law_1456 ?_
      refine lv_if_eq (tgt := 1462) E.hx E.hb dL_law_1457 (by decide) (fun c_3 => ?_) (fun c_3 => ?_)
      · refine lv_goto (tgt := 1749) E.hx E.hb dL_law_1462 (by decide) ?_
        exact hk _ _ _ _ _ _ _ _ ⟨P1, P2, P3, S, G2.2.2⟩ (lv_sub hl [2, 3, 4, 5, 6] rfl)
      · exact absurd (lgc (G2.2.1 c_2 rfl)) c_3
  · exact absurd G2.1 c_1
set_option maxHeartbeats 4000000 in
set_option maxRecDepth 100000 in
theorem law_c21 (C : LW p l s m args meth c D cyI cyL ad am o b L xs) (T : LT s D cyI cyL ad am o I A J B f H locs) (hi : i + 6 ≤ L) (hL : L ≤ 3072) (hc : cells + 1 ≤ 601024) (hs : slots + 6 ≤ 7293034) (hk : ∀ (I : Nat → Int32) (A : Nat → Nat → Int32) (J : Nat → Int32) (B : Nat → Nat → Int32) (f : Nat → Int64) (H : Heap) (locs : List Loc) (ls : Array Slot), LT s D cyI cyL ad am o I A J B f H locs → lv_has ls 7 [(0, .ref b), (1, .ref (ad 0)), (2, .ref (am 0)), (3, .ref o), (4, .int (nI i))] → W p l e room_1 s m args below meth c H locs (cells + 1) (slots + 6) Q (F0 m 1749 ls [])) (hl : lv_has ls 7 [(0, .ref b), (1, .ref (ad 0)), (2, .ref (am 0)), (3, .ref o), (4, .int (nI i))]) : W p l e room_1 s m args below meth c H locs cells slots Q (F0 m 1465 ls []) := by
  obtain ⟨E, hX, hbl, hfl, N1, N2, r1, r2, r3, d12, d13, d23, KG, KA⟩ := C
  obtain ⟨P1, P2, P3, S, R⟩ := T
  have hbA : ¬ (fun q : Nat => s.heap.size ≤ q) b := Nat.not_le.mpr hbl
  have hc1 : cells + 1 ≤ room_1.cells := hc
  have hs1 : slots + 6 ≤ room_1.slots := hs
  have hc0 : cells ≤ room_1.cells := Nat.le_trans (Nat.le_succ cells) hc
  have hs0 : slots ≤ room_1.slots := Nat.le_trans (Nat.le_add_right slots 6) hs
  have G := st_ofPixel R (xs (i + 1)) (xs (i + 2))
  obtain ⟨out, r, J1, B1, e1, e2, G⟩ := good_ex G
  refine lv_aload_n E.hx E.hb dL_law_1465 rfl (lv_at hl 1 rfl) ?_
  refine lv_aload_n E.hx E.hb dL_law_1466 rfl (lv_at hl 0 rfl) ?_
  refine lv_iload E.hx E.hb dL_law_1467 (lv_at hl 4 rfl) ?_
  refine lv_iconst (v := 1) E.hx E.hb dL_law_1469 (by decide) ?_
  refine lv_iadd E.hx E.hb dL_law_1470 ?_
  rw [show nI i + 1 = nI (i + 1) from nI_add i 1]
  refine va_sld E.hx E.hb hX hbl hbA S (vp_in_nI (n := i + 1) (N := L) (by omega) (by omega)) dL_law_1471 ?_
  rw [nI_clamp (show i + 1 < 2 ^ 31 by omega)]
  refine lv_aload_n E.hx E.hb dL_law_1472 rfl (lv_at hl 0 rfl) ?_
  refine lv_iload E.hx E.hb dL_law_1473 (lv_at hl 4 rfl) ?_
  refine lv_iconst (v := 2) E.hx E.hb dL_law_1475 (by decide) ?_
  refine lv_iadd E.hx E.hb dL_law_1476 ?_
  rw [show nI i + 2 = nI (i + 2) from nI_add i 2]
  refine va_sld E.hx E.hb hX hbl hbA S (vp_in_nI (n := i + 2) (N := L) (by omega) (by omega)) dL_law_1477 ?_
  rw [nI_clamp (show i + 2 < 2 ^ 31 by omega)]
  refine lv_aload_n E.hx E.hb dL_law_1478 rfl (lv_at hl 3 rfl) ?_
  refine vl_call (vx_runSW (As := [.ref (ad 0), .int (xs (i + 1)), .int (xs (i + 2)), .ref o]) (rest := []) E.fix (c_L_ofPixel l hfl N1 P1 P3 d13 e1 (good_hx G)) (vx_cwSW 4 E.ht (gSW kML_L_169 kST_L_ofPixel kIN_L kCW_L_ofPixel) rfl rfl rfl ds_L_ofPixel ⟨Nat.le_of_ble_eq_true rfl, Nat.le_of_ble_eq_true rfl⟩) ⟨PX_blind KL_blind, fun U hU hW9 => ⟨rfl, hU, (((KG.at S).narrow r1).warm hW9).to, va_K.moved hW9.alike KA⟩⟩ rfl rfl hl.1 rfl (lv_room (Nat.le_of_ble_eq_true rfl)) dL_law_1479 ⟨hc1, hs1⟩) S (fun q hq => hq.elim (fun h9 => r1 q h9) (fun h9 => by rw [h9]; exact r3)) (fun z I1 A1 f1 H1 locs1 P1 P3 hq hk1 S => ?_)
  have P2 := P_keep P2 hk1 (fun k q hq9 h9 => h9.elim (fun h9 => d12 _ h9 (mw_in hq9)) (fun h9 => d23 (by rw [← h9]; exact mw_in hq9)))
  refine lv_istore (lv' := [(5, .int z), (0, .ref b), (1, .ref (ad 0)), (2, .ref (am 0)), (3, .ref o), (4, .int (nI i))]) E.hx E.hb dL_law_1482 hl (by decide) rfl (fun ls hl => ?_)
  refine lv_aload_n E.hx E.hb dL_law_1484 rfl (lv_at hl 3 rfl) ?_
  refine lv_aload_n E.hx E.hb dL_law_1485 rfl (lv_at hl 1 rfl) ?_
  refine lv_iload E.hx E.hb dL_law_1486 (lv_at hl 5 rfl) ?_
  refine lv_iconst (v := 1) E.hx E.hb dL_law_1488 (by decide) ?_
  refine lv_iadd E.hx E.hb dL_law_1489 ?_
  rw [show nI i + 1 = nI (i + 1) from nI_add i 1]
  refine va_sld E.hx E.hb hX hbl hbA S (vp_in_nI (n := i + 1) (N := L) (by omega) (by omega)) dL_law_1490 ?_
  rw [nI_clamp (show i + 1 < 2 ^ 31 by omega)]
  refine lv_aload_n E.hx E.hb dL_law_1491 rfl (lv_at hl 1 rfl) ?_
  refine lv_iload E.hx E.hb dL_law_1492 (lv_at hl 5 rfl) ?_
  refine lv_iconst (v := 2) E.hx E.hb dL_law_1494 (by decide) ?_
  refine lv_iadd E.hx E.hb dL_law_1495 ?_
  rw [show nI i + 2 = nI (i + 2) from nI_add i 2]
  refine va_sld E.hx E.hb hX hbl hbA S (vp_in_nI (n := i + 2) (N := L) (by omega) (by omega)) dL_law_1496 ?_
  rw [nI_clamp (show i + 2 < 2 ^ 31 by omega)]
  refine cv_rw2 E (c_X7_ofPixel l N2 P2 (xs (i + 1)) (xs (i + 2)) e2) (gV kML_L_171 kIM_X7_ofPixel kSE_X7_ofPixel kIN_X7 kCO_X7_ofPixel) rfl ds_X7_ofPixel rfl KM_blind (fun U _ hW => va_K.moved hW.alike KG.1) S r2 (va_recv KG.1 P2 (show classes[7]? = some (RX7, TX7, 27) from rfl) mw_g0) ⟨Nat.le_of_ble_eq_true rfl, Nat.le_of_ble_eq_true rfl, hc1, hs1⟩ hl.1 rfl (Nat.le_of_ble_eq_true rfl) dL_law_1497 (fun H2 locs2 P2 hz2 hk2 S => ?_)
  refine W.eq (g2 := F0 m 1500 ls [.int r]) rfl ?_
  have P1 := P_keep P1 hk2 (fun k q hq h9 => d12 _ (cw_in hq) h9)
  have P3 := P_keep P3 hk2 (fun k q hq => by rw [one_in hq]; exact d23)
  refine lv_istore (lv' := [(6, .int r), (5, .int z), (0, .ref b), (1, .ref (ad 0)), (2, .ref (am 0)), (3, .ref o), (4, .int (nI i))]) E.hx E.hb dL_law_1500 hl (by decide) rfl (fun ls hl => ?_)
  have G2 := good_use (by decide) (by decide) G hq
  refine lv_aload_n E.hx E.hb dL_law_1502 rfl (lv_at hl 4 rfl) ?_
  refine cv_ro E (c_X7_thrown l P2) (gV kML_L_93 kIM_X7_thrown kSE_X7_thrown kIN_X7 kCO_X7_thrown) rfl ds_X7_thrown rfl KM_blind (fun U _ hW => va_K.moved hW.alike KG.1) (va_recv KG.1 P2 (show classes[7]? = some (RX7, TX7, 27) from rfl) mw_g0) ⟨Nat.le_of_ble_eq_true rfl, Nat.le_of_ble_eq_true rfl, hc1, hs1⟩ hl.1 rfl (Nat.le_of_ble_eq_true rfl) dL_law_1503 ?_
  refine lv_iload E.hx E.hb dL_law_1506 (lv_at hl 1 rfl) ?_
  refine lv_icmp_eq (tgt := 1513) E.hx E.hb dL_law_1508 (by decide) (fun c_1 => ?_) (fun c_1 => ?_)
  · refine lv_iload E.hx E.hb dL_law_1513 (lv_at hl 1 rfl) ?_
    refine lv_if_ne (tgt := 1530) E.hx E.hb dL_law_1515 (by decide) (fun c_2 => ?_) (fun c_2 => ?_)
    · refine lv_goto (tgt := 1749) E.hx E.hb dL_law_1530 (by decide) ?_
      exact hk _ _ _ _ _ _ _ _ ⟨P1, P2, P3, S, G2.2.2⟩ (lv_sub hl [2, 3, 4, 5, 6] rfl)
    · refine lv_aload_n E.hx E.hb dL_law_1518 rfl (lv_at hl 5 rfl) ?_
      refine lv_iconst (v := 0) E.hx E.hb dL_law_1519 (by decide) ?_
      refine va_lald E.hx E.hb KA P3 0 1 rfl rfl (vp_in_nI (n := 0) (N := 1) (by decide) (by decide)) dL_law_1520 ?_
      refine lv_iload E.hx E.hb dL_law_1521 (lv_at hl 0 rfl) ?_
      refine lv_i2l (v := r.toInt64) E.hx E.hb dL_law_1523 rfl ?_
      refine W.lcmp E.hx E.hb dL_law_1524 ?_
      refine lv_if_eq (tgt := 1530) E.hx E.hb dL_law_1525 (by decide) (fun c_3 => ?_) (fun c_3 => ?_)
      · refine lv_goto (tgt := 1749) E.hx E.hb dL_law_1530 (by decide) ?_
        exact hk _ _ _ _ _ _ _ _ ⟨P1, P2, P3, S, G2.2.2⟩ (lv_sub hl [2, 3, 4, 5, 6] rfl)
      · exact absurd (lgc (G2.2.1 c_2 rfl)) c_3
  · exact absurd G2.1 c_1
set_option maxHeartbeats 4000000 in
set_option maxRecDepth 100000 in
theorem law_c22 (C : LW p l s m args meth c D cyI cyL ad am o b L xs) (T : LT s D cyI cyL ad am o I A J B f H locs) (hi : i + 6 ≤ L) (hL : L ≤ 3072) (hc : cells + 1 ≤ 601024) (hs : slots + 6 ≤ 7293034) (hk : ∀ (I : Nat → Int32) (A : Nat → Nat → Int32) (J : Nat → Int32) (B : Nat → Nat → Int32) (f : Nat → Int64) (H : Heap) (locs : List Loc) (ls : Array Slot), LT s D cyI cyL ad am o I A J B f H locs → lv_has ls 7 [(0, .ref b), (1, .ref (ad 0)), (2, .ref (am 0)), (3, .ref o), (4, .int (nI i))] → W p l e room_1 s m args below meth c H locs (cells + 1) (slots + 6) Q (F0 m 1749 ls [])) (hl : lv_has ls 7 [(0, .ref b), (1, .ref (ad 0)), (2, .ref (am 0)), (3, .ref o), (4, .int (nI i))]) : W p l e room_1 s m args below meth c H locs cells slots Q (F0 m 1533 ls []) := by
  obtain ⟨E, hX, hbl, hfl, N1, N2, r1, r2, r3, d12, d13, d23, KG, KA⟩ := C
  obtain ⟨P1, P2, P3, S, R⟩ := T
  have hbA : ¬ (fun q : Nat => s.heap.size ≤ q) b := Nat.not_le.mpr hbl
  have hc1 : cells + 1 ≤ room_1.cells := hc
  have hs1 : slots + 6 ≤ room_1.slots := hs
  have hc0 : cells ≤ room_1.cells := Nat.le_trans (Nat.le_succ cells) hc
  have hs0 : slots ≤ room_1.slots := Nat.le_trans (Nat.le_add_right slots 6) hs
  have G := st_pictured R (xs (i + 1)) (xs (i + 2)) (xs (i + 3))
  obtain ⟨out, r, J1, B1, e1, e2, G⟩ := good_ex G
  refine lv_aload_n E.hx E.hb dL_law_1533 rfl (lv_at hl 1 rfl) ?_
  refine lv_aload_n E.hx E.hb dL_law_1534 rfl (lv_at hl 0 rfl) ?_
  refine lv_iload E.hx E.hb dL_law_1535 (lv_at hl 4 rfl) ?_
  refine lv_iconst (v := 1) E.hx E.hb dL_law_1537 (by decide) ?_
  refine lv_iadd E.hx E.hb dL_law_1538 ?_
  rw [show nI i + 1 = nI (i + 1) from nI_add i 1]
  refine va_sld E.hx E.hb hX hbl hbA S (vp_in_nI (n := i + 1) (N := L) (by omega) (by omega)) dL_law_1539 ?_
  rw [nI_clamp (show i + 1 < 2 ^ 31 by omega)]
  refine lv_aload_n E.hx E.hb dL_law_1540 rfl (lv_at hl 0 rfl) ?_
  refine lv_iload E.hx E.hb dL_law_1541 (lv_at hl 4 rfl) ?_
  refine lv_iconst (v := 2) E.hx E.hb dL_law_1543 (by decide) ?_
  refine lv_iadd E.hx E.hb dL_law_1544 ?_
  rw [show nI i + 2 = nI (i + 2) from nI_add i 2]
  refine va_sld E.hx E.hb hX hbl hbA S (vp_in_nI (n := i + 2) (N := L) (by omega) (by omega)) dL_law_1545 ?_
  rw [nI_clamp (show i + 2 < 2 ^ 31 by omega)]
  refine lv_aload_n E.hx E.hb dL_law_1546 rfl (lv_at hl 0 rfl) ?_
  refine lv_iload E.hx E.hb dL_law_1547 (lv_at hl 4 rfl) ?_
  refine lv_iconst (v := 3) E.hx E.hb dL_law_1549 (by decide) ?_
  refine lv_iadd E.hx E.hb dL_law_1550 ?_
  rw [show nI i + 3 = nI (i + 3) from nI_add i 3]
  refine va_sld E.hx E.hb hX hbl hbA S (vp_in_nI (n := i + 3) (N := L) (by omega) (by omega)) dL_law_1551 ?_
  rw [nI_clamp (show i + 3 < 2 ^ 31 by omega)]
  refine lv_aload_n E.hx E.hb dL_law_1552 rfl (lv_at hl 3 rfl) ?_
  refine vl_call (vx_runSW (As := [.ref (ad 0), .int (xs (i + 1)), .int (xs (i + 2)), .int (xs (i + 3)), .ref o]) (rest := []) E.fix (c_L_pictured l hfl N1 P1 P3 d13 e1 (good_hx G)) (vx_cwSW 5 E.ht (gSW kML_L_172 kST_L_pictured kIN_L kCW_L_pictured) rfl rfl rfl ds_L_pictured ⟨Nat.le_of_ble_eq_true rfl, Nat.le_of_ble_eq_true rfl⟩) ⟨PX_blind KL_blind, fun U hU hW9 => ⟨rfl, hU, (((KG.at S).narrow r1).warm hW9).to, va_K.moved hW9.alike KA⟩⟩ rfl rfl hl.1 rfl (lv_room (Nat.le_of_ble_eq_true rfl)) dL_law_1553 ⟨hc1, hs1⟩) S (fun q hq => hq.elim (fun h9 => r1 q h9) (fun h9 => by rw [h9]; exact r3)) (fun z I1 A1 f1 H1 locs1 P1 P3 hq hk1 S => ?_)
  have P2 := P_keep P2 hk1 (fun k q hq9 h9 => h9.elim (fun h9 => d12 _ h9 (mw_in hq9)) (fun h9 => d23 (by rw [← h9]; exact mw_in hq9)))
  refine lv_istore (lv' := [(5, .int z), (0, .ref b), (1, .ref (ad 0)), (2, .ref (am 0)), (3, .ref o), (4, .int (nI i))]) E.hx E.hb dL_law_1556 hl (by decide) rfl (fun ls hl => ?_)
  refine lv_aload_n E.hx E.hb dL_law_1558 rfl (lv_at hl 3 rfl) ?_
  refine lv_aload_n E.hx E.hb dL_law_1559 rfl (lv_at hl 1 rfl) ?_
  refine lv_iload E.hx E.hb dL_law_1560 (lv_at hl 5 rfl) ?_
  refine lv_iconst (v := 1) E.hx E.hb dL_law_1562 (by decide) ?_
  refine lv_iadd E.hx E.hb dL_law_1563 ?_
  rw [show nI i + 1 = nI (i + 1) from nI_add i 1]
  refine va_sld E.hx E.hb hX hbl hbA S (vp_in_nI (n := i + 1) (N := L) (by omega) (by omega)) dL_law_1564 ?_
  rw [nI_clamp (show i + 1 < 2 ^ 31 by omega)]
  refine lv_aload_n E.hx E.hb dL_law_1565 rfl (lv_at hl 1 rfl) ?_
  refine lv_iload E.hx E.hb dL_law_1566 (lv_at hl 5 rfl) ?_
  refine lv_iconst (v := 2) E.hx E.hb dL_law_1568 (by decide) ?_
  refine lv_iadd E.hx E.hb dL_law_1569 ?_
  rw [show nI i + 2 = nI (i + 2) from nI_add i 2]
  refine va_sld E.hx E.hb hX hbl hbA S (vp_in_nI (n := i + 2) (N := L) (by omega) (by omega)) dL_law_1570 ?_
  rw [nI_clamp (show i + 2 < 2 ^ 31 by omega)]
  refine lv_aload_n E.hx E.hb dL_law_1571 rfl (lv_at hl 1 rfl) ?_
  refine lv_iload E.hx E.hb dL_law_1572 (lv_at hl 5 rfl) ?_
  refine lv_iconst (v := 3) E.hx E.hb dL_law_1574 (by decide) ?_
  refine lv_iadd E.hx E.hb dL_law_1575 ?_
  rw [show nI i + 3 = nI (i + 3) from nI_add i 3]
  refine va_sld E.hx E.hb hX hbl hbA S (vp_in_nI (n := i + 3) (N := L) (by omega) (by omega)) dL_law_1576 ?_
  rw [nI_clamp (show i + 3 < 2 ^ 31 by omega)]
  refine cv_rw2 E (c_X7_pictured l N2 P2 (xs (i + 1)) (xs (i + 2)) (xs (i + 3)) e2) (gV kML_L_174 kIM_X7_pictured kSE_X7_pictured kIN_X7 kCO_X7_pictured) rfl ds_X7_pictured rfl KM_blind (fun U _ hW => va_K.moved hW.alike KG.1) S r2 (va_recv KG.1 P2 (show classes[7]? = some (RX7, TX7, 27) from rfl) mw_g0) ⟨Nat.le_of_ble_eq_true rfl, Nat.le_of_ble_eq_true rfl, hc1, hs1⟩ hl.1 rfl (Nat.le_of_ble_eq_true rfl) dL_law_1577 (fun H2 locs2 P2 hz2 hk2 S => ?_)
  refine W.eq (g2 := F0 m 1580 ls [.int r]) rfl ?_
  have P1 := P_keep P1 hk2 (fun k q hq h9 => d12 _ (cw_in hq) h9)
  have P3 := P_keep P3 hk2 (fun k q hq => by rw [one_in hq]; exact d23)
  refine lv_istore (lv' := [(6, .int r), (5, .int z), (0, .ref b), (1, .ref (ad 0)), (2, .ref (am 0)), (3, .ref o), (4, .int (nI i))]) E.hx E.hb dL_law_1580 hl (by decide) rfl (fun ls hl => ?_)
  have G2 := good_use (by decide) (by decide) G hq
  refine lv_aload_n E.hx E.hb dL_law_1582 rfl (lv_at hl 4 rfl) ?_
  refine cv_ro E (c_X7_thrown l P2) (gV kML_L_93 kIM_X7_thrown kSE_X7_thrown kIN_X7 kCO_X7_thrown) rfl ds_X7_thrown rfl KM_blind (fun U _ hW => va_K.moved hW.alike KG.1) (va_recv KG.1 P2 (show classes[7]? = some (RX7, TX7, 27) from rfl) mw_g0) ⟨Nat.le_of_ble_eq_true rfl, Nat.le_of_ble_eq_true rfl, hc1, hs1⟩ hl.1 rfl (Nat.le_of_ble_eq_true rfl) dL_law_1583 ?_
  refine lv_iload E.hx E.hb dL_law_1586 (lv_at hl 1 rfl) ?_
  refine lv_icmp_eq (tgt := 1593) E.hx E.hb dL_law_1588 (by decide) (fun c_1 => ?_) (fun c_1 => ?_)
  · refine lv_iload E.hx E.hb dL_law_1593 (lv_at hl 1 rfl) ?_
    refine lv_if_ne (tgt := 1610) E.hx E.hb dL_law_1595 (by decide) (fun c_2 => ?_) (fun c_2 => ?_)
    · refine lv_goto (tgt := 1749) E.hx E.hb dL_law_1610 (by decide) ?_
      exact hk _ _ _ _ _ _ _ _ ⟨P1, P2, P3, S, G2.2.2⟩ (lv_sub hl [2, 3, 4, 5, 6] rfl)
    · refine lv_aload_n E.hx E.hb dL_law_1598 rfl (lv_at hl 5 rfl) ?_
      refine lv_iconst (v := 0) E.hx E.hb dL_law_1599 (by decide) ?_
      refine va_lald E.hx E.hb KA P3 0 1 rfl rfl (vp_in_nI (n := 0) (N := 1) (by decide) (by decide)) dL_law_1600 ?_
      refine lv_iload E.hx E.hb dL_law_1601 (lv_at hl 0 rfl) ?_
      refine lv_i2l (v := r.toInt64) E.hx E.hb dL_law_1603 rfl ?_
      refine W.lcmp E.hx E.hb dL_law_1604 ?_
      refine lv_if_eq (tgt := 1610) E.hx E.hb dL_law_1605 (by decide) (fun c_3 => ?_) (fun c_3 => ?_)
      · refine lv_goto (tgt := 1749) E.hx E.hb dL_law_1610 (by decide) ?_
        exact hk _ _ _ _ _ _ _ _ ⟨P1, P2, P3, S, G2.2.2⟩ (lv_sub hl [2, 3, 4, 5, 6] rfl)
      · exact absurd (lgc (G2.2.1 c_2 rfl)) c_3
  · exact absurd G2.1 c_1
set_option maxHeartbeats 4000000 in
set_option maxRecDepth 100000 in
theorem law_c23 (C : LW p l s m args meth c D cyI cyL ad am o b L xs) (T : LT s D cyI cyL ad am o I A J B f H locs) (hi : i + 6 ≤ L) (hL : L ≤ 3072) (hc : cells + 1 ≤ 601024) (hs : slots + 6 ≤ 7293034) (hk : ∀ (I : Nat → Int32) (A : Nat → Nat → Int32) (J : Nat → Int32) (B : Nat → Nat → Int32) (f : Nat → Int64) (H : Heap) (locs : List Loc) (ls : Array Slot), LT s D cyI cyL ad am o I A J B f H locs → lv_has ls 7 [(0, .ref b), (1, .ref (ad 0)), (2, .ref (am 0)), (3, .ref o), (4, .int (nI i))] → W p l e room_1 s m args below meth c H locs (cells + 1) (slots + 6) Q (F0 m 1749 ls [])) (hl : lv_has ls 7 [(0, .ref b), (1, .ref (ad 0)), (2, .ref (am 0)), (3, .ref o), (4, .int (nI i))]) : W p l e room_1 s m args below meth c H locs cells slots Q (F0 m 1613 ls []) := by
  obtain ⟨E, hX, hbl, hfl, N1, N2, r1, r2, r3, d12, d13, d23, KG, KA⟩ := C
  obtain ⟨P1, P2, P3, S, R⟩ := T
  have hbA : ¬ (fun q : Nat => s.heap.size ≤ q) b := Nat.not_le.mpr hbl
  have hc1 : cells + 1 ≤ room_1.cells := hc
  have hs1 : slots + 6 ≤ room_1.slots := hs
  have hc0 : cells ≤ room_1.cells := Nat.le_trans (Nat.le_succ cells) hc
  have hs0 : slots ≤ room_1.slots := Nat.le_trans (Nat.le_add_right slots 6) hs
  have G := st_ghosts R (xs (i + 1))
  obtain ⟨out, r, J1, B1, e1, e2, G⟩ := good_ex G
  refine lv_aload_n E.hx E.hb dL_law_1613 rfl (lv_at hl 1 rfl) ?_
  refine lv_aload_n E.hx E.hb dL_law_1614 rfl (lv_at hl 0 rfl) ?_
  refine lv_iload E.hx E.hb dL_law_1615 (lv_at hl 4 rfl) ?_
  refine lv_iconst (v := 1) E.hx E.hb dL_law_1617 (by decide) ?_
  refine lv_iadd E.hx E.hb dL_law_1618 ?_
  rw [show nI i + 1 = nI (i + 1) from nI_add i 1]
  refine va_sld E.hx E.hb hX hbl hbA S (vp_in_nI (n := i + 1) (N := L) (by omega) (by omega)) dL_law_1619 ?_
  rw [nI_clamp (show i + 1 < 2 ^ 31 by omega)]
  refine lv_aload_n E.hx E.hb dL_law_1620 rfl (lv_at hl 3 rfl) ?_
  refine vl_call (vx_runSW (As := [.ref (ad 0), .int (xs (i + 1)), .ref o]) (rest := []) E.fix (c_L_ghosts l hfl N1 P1 P3 d13 e1 (good_hx G)) (vx_cwSW 3 E.ht (gSW kML_L_175 kST_L_ghosts kIN_L kCW_L_ghosts) rfl rfl rfl ds_L_ghosts ⟨Nat.le_of_ble_eq_true rfl, Nat.le_of_ble_eq_true rfl⟩) ⟨PX_blind KL_blind, fun U hU hW9 => ⟨rfl, hU, (((KG.at S).narrow r1).warm hW9).to, va_K.moved hW9.alike KA⟩⟩ rfl rfl hl.1 rfl (lv_room (Nat.le_of_ble_eq_true rfl)) dL_law_1621 ⟨hc1, hs1⟩) S (fun q hq => hq.elim (fun h9 => r1 q h9) (fun h9 => by rw [h9]; exact r3)) (fun z I1 A1 f1 H1 locs1 P1 P3 hq hk1 S => ?_)
  have P2 := P_keep P2 hk1 (fun k q hq9 h9 => h9.elim (fun h9 => d12 _ h9 (mw_in hq9)) (fun h9 => d23 (by rw [← h9]; exact mw_in hq9)))
  refine lv_istore (lv' := [(5, .int z), (0, .ref b), (1, .ref (ad 0)), (2, .ref (am 0)), (3, .ref o), (4, .int (nI i))]) E.hx E.hb dL_law_1624 hl (by decide) rfl (fun ls hl => ?_)
  refine lv_aload_n E.hx E.hb dL_law_1626 rfl (lv_at hl 3 rfl) ?_
  refine lv_aload_n E.hx E.hb dL_law_1627 rfl (lv_at hl 1 rfl) ?_
  refine lv_iload E.hx E.hb dL_law_1628 (lv_at hl 5 rfl) ?_
  refine lv_iconst (v := 1) E.hx E.hb dL_law_1630 (by decide) ?_
  refine lv_iadd E.hx E.hb dL_law_1631 ?_
  rw [show nI i + 1 = nI (i + 1) from nI_add i 1]
  refine va_sld E.hx E.hb hX hbl hbA S (vp_in_nI (n := i + 1) (N := L) (by omega) (by omega)) dL_law_1632 ?_
  rw [nI_clamp (show i + 1 < 2 ^ 31 by omega)]
  refine cv_rw2 E (c_X7_ghosts l N2 P2 (xs (i + 1)) e2) (gV kML_L_177 kIM_X7_ghosts kSE_X7_ghosts kIN_X7 kCO_X7_ghosts) rfl ds_X7_ghosts rfl KM_blind (fun U _ hW => va_K.moved hW.alike KG.1) S r2 (va_recv KG.1 P2 (show classes[7]? = some (RX7, TX7, 27) from rfl) mw_g0) ⟨Nat.le_of_ble_eq_true rfl, Nat.le_of_ble_eq_true rfl, hc1, hs1⟩ hl.1 rfl (Nat.le_of_ble_eq_true rfl) dL_law_1633 (fun H2 locs2 P2 hz2 hk2 S => ?_)
  refine W.eq (g2 := F0 m 1636 ls [.int r]) rfl ?_
  have P1 := P_keep P1 hk2 (fun k q hq h9 => d12 _ (cw_in hq) h9)
  have P3 := P_keep P3 hk2 (fun k q hq => by rw [one_in hq]; exact d23)
  refine lv_istore (lv' := [(6, .int r), (5, .int z), (0, .ref b), (1, .ref (ad 0)), (2, .ref (am 0)), (3, .ref o), (4, .int (nI i))]) E.hx E.hb dL_law_1636 hl (by decide) rfl (fun ls hl => ?_)
  have G2 := good_use (by decide) (by decide) G hq
  refine lv_aload_n E.hx E.hb dL_law_1638 rfl (lv_at hl 4 rfl) ?_
  refine cv_ro E (c_X7_thrown l P2) (gV kML_L_93 kIM_X7_thrown kSE_X7_thrown kIN_X7 kCO_X7_thrown) rfl ds_X7_thrown rfl KM_blind (fun U _ hW => va_K.moved hW.alike KG.1) (va_recv KG.1 P2 (show classes[7]? = some (RX7, TX7, 27) from rfl) mw_g0) ⟨Nat.le_of_ble_eq_true rfl, Nat.le_of_ble_eq_true rfl, hc1, hs1⟩ hl.1 rfl (Nat.le_of_ble_eq_true rfl) dL_law_1639 ?_
  refine lv_iload E.hx E.hb dL_law_1642 (lv_at hl 1 rfl) ?_
  refine lv_icmp_eq (tgt := 1649) E.hx E.hb dL_law_1644 (by decide) (fun c_1 => ?_) (fun c_1 => ?_)
  · refine lv_iload E.hx E.hb dL_law_1649 (lv_at hl 1 rfl) ?_
    refine lv_if_ne (tgt := 1666) E.hx E.hb dL_law_1651 (by decide) (fun c_2 => ?_) (fun c_2 => ?_)
    · refine lv_goto (tgt := 1749) E.hx E.hb dL_law_1666 (by decide) ?_
      exact hk _ _ _ _ _ _ _ _ ⟨P1, P2, P3, S, G2.2.2⟩ (lv_sub hl [2, 3, 4, 5, 6] rfl)
    · refine lv_aload_n E.hx E.hb dL_law_1654 rfl (lv_at hl 5 rfl) ?_
      refine lv_iconst (v := 0) E.hx E.hb dL_law_1655 (by decide) ?_
      refine va_lald E.hx E.hb KA P3 0 1 rfl rfl (vp_in_nI (n := 0) (N := 1) (by decide) (by decide)) dL_law_1656 ?_
      refine lv_iload E.hx E.hb dL_law_1657 (lv_at hl 0 rfl) ?_
      refine lv_i2l (v := r.toInt64) E.hx E.hb dL_law_1659 rfl ?_
      refine W.lcmp E.hx E.hb dL_law_1660 ?_
      refine lv_if_eq (tgt := 1666) E.hx E.hb dL_law_1661 (by decide) (fun c_3 => ?_) (fun c_3 => ?_)
      · refine lv_goto (tgt := 1749) E.hx E.hb dL_law_1666 (by decide) ?_
        exact hk _ _ _ _ _ _ _ _ ⟨P1, P2, P3, S, G2.2.2⟩ (lv_sub hl [2, 3, 4, 5, 6] rfl)
      · exact absurd (lgc (G2.2.1 c_2 rfl)) c_3
  · exact absurd G2.1 c_1
set_option maxHeartbeats 4000000 in
set_option maxRecDepth 100000 in
theorem law_c24 (C : LW p l s m args meth c D cyI cyL ad am o b L xs) (T : LT s D cyI cyL ad am o I A J B f H locs) (hi : i + 6 ≤ L) (hL : L ≤ 3072) (hc : cells + 1 ≤ 601024) (hs : slots + 6 ≤ 7293034) (hk : ∀ (I : Nat → Int32) (A : Nat → Nat → Int32) (J : Nat → Int32) (B : Nat → Nat → Int32) (f : Nat → Int64) (H : Heap) (locs : List Loc) (ls : Array Slot), LT s D cyI cyL ad am o I A J B f H locs → lv_has ls 7 [(0, .ref b), (1, .ref (ad 0)), (2, .ref (am 0)), (3, .ref o), (4, .int (nI i))] → W p l e room_1 s m args below meth c H locs (cells + 1) (slots + 6) Q (F0 m 1749 ls [])) (hl : lv_has ls 7 [(0, .ref b), (1, .ref (ad 0)), (2, .ref (am 0)), (3, .ref o), (4, .int (nI i))]) : W p l e room_1 s m args below meth c H locs cells slots Q (F0 m 1669 ls []) := by
  obtain ⟨E, hX, hbl, hfl, N1, N2, r1, r2, r3, d12, d13, d23, KG, KA⟩ := C
  obtain ⟨P1, P2, P3, S, R⟩ := T
  have hbA : ¬ (fun q : Nat => s.heap.size ≤ q) b := Nat.not_le.mpr hbl
  have hc1 : cells + 1 ≤ room_1.cells := hc
  have hs1 : slots + 6 ≤ room_1.slots := hs
  have hc0 : cells ≤ room_1.cells := Nat.le_trans (Nat.le_succ cells) hc
  have hs0 : slots ≤ room_1.slots := Nat.le_trans (Nat.le_add_right slots 6) hs
  have G := st_guesses R (xs (i + 1)) (xs (i + 2)) (xs (i + 3))
  obtain ⟨out, r, J1, B1, e1, e2, G⟩ := good_ex G
  refine lv_aload_n E.hx E.hb dL_law_1669 rfl (lv_at hl 1 rfl) ?_
  refine lv_aload_n E.hx E.hb dL_law_1670 rfl (lv_at hl 0 rfl) ?_
  refine lv_iload E.hx E.hb dL_law_1671 (lv_at hl 4 rfl) ?_
  refine lv_iconst (v := 1) E.hx E.hb dL_law_1673 (by decide) ?_
  refine lv_iadd E.hx E.hb dL_law_1674 ?_
  rw [show nI i + 1 = nI (i + 1) from nI_add i 1]
  refine va_sld E.hx E.hb hX hbl hbA S (vp_in_nI (n := i + 1) (N := L) (by omega) (by omega)) dL_law_1675 ?_
  rw [nI_clamp (show i + 1 < 2 ^ 31 by omega)]
  refine lv_aload_n E.hx E.hb dL_law_1676 rfl (lv_at hl 0 rfl) ?_
  refine lv_iload E.hx E.hb dL_law_1677 (lv_at hl 4 rfl) ?_
  refine lv_iconst (v := 2) E.hx E.hb dL_law_1679 (by decide) ?_
  refine lv_iadd E.hx E.hb dL_law_1680 ?_
  rw [show nI i + 2 = nI (i + 2) from nI_add i 2]
  refine va_sld E.hx E.hb hX hbl hbA S (vp_in_nI (n := i + 2) (N := L) (by omega) (by omega)) dL_law_1681 ?_
  rw [nI_clamp (show i + 2 < 2 ^ 31 by omega)]
  refine lv_aload_n E.hx E.hb dL_law_1682 rfl (lv_at hl 0 rfl) ?_
  refine lv_iload E.hx E.hb dL_law_1683 (lv_at hl 4 rfl) ?_
  refine lv_iconst (v := 3) E.hx E.hb dL_law_1685 (by decide) ?_
  refine lv_iadd E.hx E.hb dL_law_1686 ?_
  rw [show nI i + 3 = nI (i + 3) from nI_add i 3]
  refine va_sld E.hx E.hb hX hbl hbA S (vp_in_nI (n := i + 3) (N := L) (by omega) (by omega)) dL_law_1687 ?_
  rw [nI_clamp (show i + 3 < 2 ^ 31 by omega)]
  refine lv_aload_n E.hx E.hb dL_law_1688 rfl (lv_at hl 3 rfl) ?_
  refine vl_call (vx_runSW (As := [.ref (ad 0), .int (xs (i + 1)), .int (xs (i + 2)), .int (xs (i + 3)), .ref o]) (rest := []) E.fix (c_L_guesses l hfl N1 P1 P3 d13 e1 (good_hx G)) (vx_cwSW 5 E.ht (gSW kML_L_178 kST_L_guesses kIN_L kCW_L_guesses) rfl rfl rfl ds_L_guesses ⟨Nat.le_of_ble_eq_true rfl, Nat.le_of_ble_eq_true rfl⟩) ⟨PX_blind KL_blind, fun U hU hW9 => ⟨rfl, hU, (((KG.at S).narrow r1).warm hW9).to, va_K.moved hW9.alike KA⟩⟩ rfl rfl hl.1 rfl (lv_room (Nat.le_of_ble_eq_true rfl)) dL_law_1689 ⟨hc1, hs1⟩) S (fun q hq => hq.elim (fun h9 => r1 q h9) (fun h9 => by rw [h9]; exact r3)) (fun z I1 A1 f1 H1 locs1 P1 P3 hq hk1 S => ?_)
  have P2 := P_keep P2 hk1 (fun k q hq9 h9 => h9.elim (fun h9 => d12 _ h9 (mw_in hq9)) (fun h9 => d23 (by rw [← h9]; exact mw_in hq9)))
  refine lv_istore (lv' := [(5, .int z), (0, .ref b), (1, .ref (ad 0)), (2, .ref (am 0)), (3, .ref o), (4, .int (nI i))]) E.hx E.hb dL_law_1692 hl (by decide) rfl (fun ls hl => ?_)
  refine lv_aload_n E.hx E.hb dL_law_1694 rfl (lv_at hl 3 rfl) ?_
  refine lv_aload_n E.hx E.hb dL_law_1695 rfl (lv_at hl 1 rfl) ?_
  refine lv_iload E.hx E.hb dL_law_1696 (lv_at hl 5 rfl) ?_
  refine lv_iconst (v := 1) E.hx E.hb dL_law_1698 (by decide) ?_
  refine lv_iadd E.hx E.hb dL_law_1699 ?_
  rw [show nI i + 1 = nI (i + 1) from nI_add i 1]
  refine va_sld E.hx E.hb hX hbl hbA S (vp_in_nI (n := i + 1) (N := L) (by omega) (by omega)) dL_law_1700 ?_
  rw [nI_clamp (show i + 1 < 2 ^ 31 by omega)]
  refine lv_aload_n E.hx E.hb dL_law_1701 rfl (lv_at hl 1 rfl) ?_
  refine lv_iload E.hx E.hb dL_law_1702 (lv_at hl 5 rfl) ?_
  refine lv_iconst (v := 2) E.hx E.hb dL_law_1704 (by decide) ?_
  refine lv_iadd E.hx E.hb dL_law_1705 ?_
  rw [show nI i + 2 = nI (i + 2) from nI_add i 2]
  refine va_sld E.hx E.hb hX hbl hbA S (vp_in_nI (n := i + 2) (N := L) (by omega) (by omega)) dL_law_1706 ?_
  rw [nI_clamp (show i + 2 < 2 ^ 31 by omega)]
  refine lv_aload_n E.hx E.hb dL_law_1707 rfl (lv_at hl 1 rfl) ?_
  refine lv_iload E.hx E.hb dL_law_1708 (lv_at hl 5 rfl) ?_
  refine lv_iconst (v := 3) E.hx E.hb dL_law_1710 (by decide) ?_
  refine lv_iadd E.hx E.hb dL_law_1711 ?_
  rw [show nI i + 3 = nI (i + 3) from nI_add i 3]
  refine va_sld E.hx E.hb hX hbl hbA S (vp_in_nI (n := i + 3) (N := L) (by omega) (by omega)) dL_law_1712 ?_
  rw [nI_clamp (show i + 3 < 2 ^ 31 by omega)]
  refine cv_rw2 E (c_X7_guesses l N2 P2 (xs (i + 1)) (xs (i + 2)) (xs (i + 3)) e2) (gV kML_L_180 kIM_X7_guesses kSE_X7_guesses kIN_X7 kCO_X7_guesses) rfl ds_X7_guesses rfl KM_blind (fun U _ hW => va_K.moved hW.alike KG.1) S r2 (va_recv KG.1 P2 (show classes[7]? = some (RX7, TX7, 27) from rfl) mw_g0) ⟨Nat.le_of_ble_eq_true rfl, Nat.le_of_ble_eq_true rfl, hc1, hs1⟩ hl.1 rfl (Nat.le_of_ble_eq_true rfl) dL_law_1713 (fun H2 locs2 P2 hz2 hk2 S => ?_)
  refine W.eq (g2 := F0 m 1716 ls [.int r]) rfl ?_
  have P1 := P_keep P1 hk2 (fun k q hq h9 => d12 _ (cw_in hq) h9)
  have P3 := P_keep P3 hk2 (fun k q hq => by rw [one_in hq]; exact d23)
  refine lv_istore (lv' := [(6, .int r), (5, .int z), (0, .ref b), (1, .ref (ad 0)), (2, .ref (am 0)), (3, .ref o), (4, .int (nI i))]) E.hx E.hb dL_law_1716 hl (by decide) rfl (fun ls hl => ?_)
  have G2 := good_use (by decide) (by decide) G hq
  refine lv_aload_n E.hx E.hb dL_law_1718 rfl (lv_at hl 4 rfl) ?_
  refine cv_ro E (c_X7_thrown l P2) (gV kML_L_93 kIM_X7_thrown kSE_X7_thrown kIN_X7 kCO_X7_thrown) rfl ds_X7_thrown rfl KM_blind (fun U _ hW => va_K.moved hW.alike KG.1) (va_recv KG.1 P2 (show classes[7]? = some (RX7, TX7, 27) from rfl) mw_g0) ⟨Nat.le_of_ble_eq_true rfl, Nat.le_of_ble_eq_true rfl, hc1, hs1⟩ hl.1 rfl (Nat.le_of_ble_eq_true rfl) dL_law_1719 ?_
  refine lv_iload E.hx E.hb dL_law_1722 (lv_at hl 1 rfl) ?_
  refine lv_icmp_eq (tgt := 1729) E.hx E.hb dL_law_1724 (by decide) (fun c_1 => ?_) (fun c_1 => ?_)
  · refine lv_iload E.hx E.hb dL_law_1729 (lv_at hl 1 rfl) ?_
    refine lv_if_ne (tgt := 1746) E.hx E.hb dL_law_1731 (by decide) (fun c_2 => ?_) (fun c_2 => ?_)
    · refine lv_goto (tgt := 1749) E.hx E.hb dL_law_1746 (by decide) ?_
      exact hk _ _ _ _ _ _ _ _ ⟨P1, P2, P3, S, G2.2.2⟩ (lv_sub hl [2, 3, 4, 5, 6] rfl)
    · refine lv_aload_n E.hx E.hb dL_law_1734 rfl (lv_at hl 5 rfl) ?_
      refine lv_iconst (v := 0) E.hx E.hb dL_law_1735 (by decide) ?_
      refine va_lald E.hx E.hb KA P3 0 1 rfl rfl (vp_in_nI (n := 0) (N := 1) (by decide) (by decide)) dL_law_1736 ?_
      refine lv_iload E.hx E.hb dL_law_1737 (lv_at hl 0 rfl) ?_
      refine lv_i2l (v := r.toInt64) E.hx E.hb dL_law_1739 rfl ?_
      refine W.lcmp E.hx E.hb dL_law_1740 ?_
      refine lv_if_eq (tgt := 1746) E.hx E.hb dL_law_1741 (by decide) (fun c_3 => ?_) (fun c_3 => ?_)
      · refine lv_goto (tgt := 1749) E.hx E.hb dL_law_1746 (by decide) ?_
        exact hk _ _ _ _ _ _ _ _ ⟨P1, P2, P3, S, G2.2.2⟩ (lv_sub hl [2, 3, 4, 5, 6] rfl)
      · exact absurd (lgc (G2.2.1 c_2 rfl)) c_3
  · exact absurd G2.1 c_1
end
end LAWB

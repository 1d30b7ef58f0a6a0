section LAWW
section
variable {p : Program} {l : Launch} {e : Env} {s : State} {m : MethodId} {below : List Frame} {meth : Method} {c : Code} {D : va_G} {cyI : ClassId} {ad : Nat → Nat} {b L : Nat} {xs : Nat → Int32}
def B_L_law_L831 (L : Nat) (xs : Nat → Int32) (I : Nat → Int32) (A B : Nat → Nat → Int32) (x3 x4 x5 x6 x7 x12 x22 x23 : Int32) : Nat → Int32 → Int32 → Option (Int32)
  | 0 => fun _ _ => none
  | n + 1 => fun x24 x25 => if x22 ≤ x25 then some x24 else ((B_X6_defect I A x25 0).bind fun r_34 => (rd (B 0) 8 x23).bind fun v_36 => (B_X6_defect I A x25 1).bind fun r_38 => (rd (B 1) 8 x23).bind fun v_40 => if (r_34 - v_36) < (-1) then (B_L_law_L831 L xs I A B x3 x4 x5 x6 x7 x12 x22 x23 n) ((x24 &&& 1)) ((x25 + 1)) else ((rd (B 2) 8 x23).bind fun v_43 => if v_43 ≤ (r_34 - v_36) then (B_L_law_L831 L xs I A B x3 x4 x5 x6 x7 x12 x22 x23 n) ((x24 &&& 1)) ((x25 + 1)) else (if (r_38 - v_40) < (-1) then (B_L_law_L831 L xs I A B x3 x4 x5 x6 x7 x12 x22 x23 n) ((x24 &&& 1)) ((x25 + 1)) else ((rd (B 3) 8 x23).bind fun v_47 => if (r_38 - v_40) < v_47 then (B_L_law_L831 L xs I A B x3 x4 x5 x6 x7 x12 x22 x23 n) ((x24 &&& 0)) ((x25 + 1)) else (B_L_law_L831 L xs I A B x3 x4 x5 x6 x7 x12 x22 x23 n) ((x24 &&& 1)) ((x25 + 1))))))
theorem B_L_law_L831_s (L : Nat) (xs : Nat → Int32) (I : Nat → Int32) (A B : Nat → Nat → Int32) (x3 x4 x5 x6 x7 x12 x22 x23 x24 x25 : Int32) (n : Nat) : B_L_law_L831 L xs I A B x3 x4 x5 x6 x7 x12 x22 x23 (n + 1) x24 x25 = if x22 ≤ x25 then some x24 else ((B_X6_defect I A x25 0).bind fun r_34 => (rd (B 0) 8 x23).bind fun v_36 => (B_X6_defect I A x25 1).bind fun r_38 => (rd (B 1) 8 x23).bind fun v_40 => if (r_34 - v_36) < (-1) then (B_L_law_L831 L xs I A B x3 x4 x5 x6 x7 x12 x22 x23 n) ((x24 &&& 1)) ((x25 + 1)) else ((rd (B 2) 8 x23).bind fun v_43 => if v_43 ≤ (r_34 - v_36) then (B_L_law_L831 L xs I A B x3 x4 x5 x6 x7 x12 x22 x23 n) ((x24 &&& 1)) ((x25 + 1)) else (if (r_38 - v_40) < (-1) then (B_L_law_L831 L xs I A B x3 x4 x5 x6 x7 x12 x22 x23 n) ((x24 &&& 1)) ((x25 + 1)) else ((rd (B 3) 8 x23).bind fun v_47 => if (r_38 - v_40) < v_47 then (B_L_law_L831 L xs I A B x3 x4 x5 x6 x7 x12 x22 x23 n) ((x24 &&& 0)) ((x25 + 1)) else (B_L_law_L831 L xs I A B x3 x4 x5 x6 x7 x12 x22 x23 n) ((x24 &&& 1)) ((x25 + 1)))))) := rfl
set_option maxHeartbeats 4000000 in
set_option maxRecDepth 100000 in
theorem w_L_law_L831 (C : LW p l s m #[Value.ref b] meth c D cyI ad b L xs) {I : Nat → Int32} {A B : Nat → Nat → Int32} {H : Heap} {locs : List Loc} (T : LT s D cyI ad I A B H locs) {x3 x4 x5 x6 x7 x12 x22 x23 : Int32} : ∀ (n : Nat) {x24 x25 : Int32} {o : Int32} (h : B_L_law_L831 L xs I A B x3 x4 x5 x6 x7 x12 x22 x23 n x24 x25 = some o) {ls : Array Slot} (hl : lv_has ls 28 [(0, .ref b), (1, .ref (ad 0)), (3, .int x3), (4, .int x4), (5, .int x5), (6, .int x6), (7, .int x7), (8, .ref (ad 44)), (9, .ref (ad 45)), (10, .ref (ad 46)), (11, .ref (ad 47)), (12, .int x12), (22, .int x22), (23, .int x23), (24, .int x24), (25, .int x25)]) (kx : ∀ {ls : Array Slot}, lv_has ls 28 [(0, .ref b), (1, .ref (ad 0)), (3, .int x3), (4, .int x4), (5, .int x5), (6, .int x6), (7, .int x7), (8, .ref (ad 44)), (9, .ref (ad 45)), (10, .ref (ad 46)), (11, .ref (ad 47)), (12, .int x12), (22, .int x22), (23, .int x23), (24, .int o)] → W p l e room_1 s m #[Value.ref b] below meth c H locs 48 2539 (lw_Z below #[Value.ref b] s) (F0 m 916 ls [])), W p l e room_1 s m #[Value.ref b] below meth c H locs 48 2539 (lw_Z below #[Value.ref b] s) (F0 m 831 ls []) := by
  intro n
  induction n with
  | zero => intro x24 x25 o h ls hl kx; exact nomatch (show none = some o from h)
  | succ n ih =>
    intro x24 x25 o h ls hl kx
    rw [B_L_law_L831_s] at h
    refine lv_iload C.E.hx C.E.hb dL_law_831 (lv_at hl 15 rfl) ?_
    refine lv_iload C.E.hx C.E.hb dL_law_833 (lv_at hl 12 rfl) ?_
    refine lv_icmp_ge (tgt := 916) C.E.hx C.E.hb dL_law_835 (by decide) (fun c_33 => ?_) (fun c_33 => ?_)
    · rw [if_pos c_33] at h
      cases h
      exact kx (lv_sub hl [0, 1, 2, 3, 4, 5, 6, 7, 8, 9, 10, 11, 12, 13, 14] rfl)
    · rw [if_neg c_33] at h
      refine lv_aload_n C.E.hx C.E.hb dL_law_838 rfl (lv_at hl 1 rfl) ?_
      refine lv_iload C.E.hx C.E.hb dL_law_839 (lv_at hl 15 rfl) ?_
      refine lv_iconst (v := 0) C.E.hx C.E.hb dL_law_841 (by decide) ?_
      obtain ⟨r_34, e_35, h⟩ := obind h
      refine lc_77 C T e_35 hl.1 (Nat.le_of_ble_eq_true rfl) dL_law_842 ?_
      refine lv_aload C.E.hx C.E.hb dL_law_845 (lv_at hl 7 rfl) ?_
      refine lv_iload C.E.hx C.E.hb dL_law_847 (lv_at hl 13 rfl) ?_
      obtain ⟨v_36, e_37, h⟩ := obind h
      refine la_0 C T e_37 dL_law_849 ?_
      refine lv_isub C.E.hx C.E.hb dL_law_850 ?_
      refine lv_istore (lv' := [(26, .int (r_34 - v_36)), (0, .ref b), (1, .ref (ad 0)), (3, .int x3), (4, .int x4), (5, .int x5), (6, .int x6), (7, .int x7), (8, .ref (ad 44)), (9, .ref (ad 45)), (10, .ref (ad 46)), (11, .ref (ad 47)), (12, .int x12), (22, .int x22), (23, .int x23), (24, .int x24), (25, .int x25)]) C.E.hx C.E.hb dL_law_851 hl (by decide) rfl (fun ls hl => ?_)
      refine lv_aload_n C.E.hx C.E.hb dL_law_853 rfl (lv_at hl 2 rfl) ?_
      refine lv_iload C.E.hx C.E.hb dL_law_854 (lv_at hl 16 rfl) ?_
      refine lv_iconst (v := 1) C.E.hx C.E.hb dL_law_856 (by decide) ?_
      obtain ⟨r_38, e_39, h⟩ := obind h
      refine lc_77 C T e_39 hl.1 (Nat.le_of_ble_eq_true rfl) dL_law_857 ?_
      refine lv_aload C.E.hx C.E.hb dL_law_860 (lv_at hl 9 rfl) ?_
      refine lv_iload C.E.hx C.E.hb dL_law_862 (lv_at hl 14 rfl) ?_
      obtain ⟨v_40, e_41, h⟩ := obind h
      refine la_1 C T e_41 dL_law_864 ?_
      refine lv_isub C.E.hx C.E.hb dL_law_865 ?_
      refine lv_istore (lv' := [(27, .int (r_38 - v_40)), (26, .int (r_34 - v_36)), (0, .ref b), (1, .ref (ad 0)), (3, .int x3), (4, .int x4), (5, .int x5), (6, .int x6), (7, .int x7), (8, .ref (ad 44)), (9, .ref (ad 45)), (10, .ref (ad 46)), (11, .ref (ad 47)), (12, .int x12), (22, .int x22), (23, .int x23), (24, .int x24), (25, .int x25)]) C.E.hx C.E.hb dL_law_866 hl (by decide) rfl (fun ls hl => ?_)
      refine lv_iload C.E.hx C.E.hb dL_law_868 (lv_at hl 16 rfl) ?_
      refine lv_iload C.E.hx C.E.hb dL_law_870 (lv_at hl 1 rfl) ?_
      refine lv_iconst (v := (-1)) C.E.hx C.E.hb dL_law_872 (by decide) ?_
      refine lv_icmp_lt (tgt := 902) C.E.hx C.E.hb dL_law_873 (by decide) (fun c_42 => ?_) (fun c_42 => ?_)
      · rw [if_pos c_42] at h
        refine lv_iconst (v := 1) C.E.hx C.E.hb dL_law_902 (by decide) ?_
        refine lv_goto (tgt := 907) C.E.hx C.E.hb dL_law_903 (by decide) ?_
        refine lv_iand C.E.hx C.E.hb dL_law_907 ?_
        refine lv_istore (lv' := [(24, .int (x24 &&& 1)), (27, .int (r_38 - v_40)), (26, .int (r_34 - v_36)), (0, .ref b), (1, .ref (ad 0)), (3, .int x3), (4, .int x4), (5, .int x5), (6, .int x6), (7, .int x7), (8, .ref (ad 44)), (9, .ref (ad 45)), (10, .ref (ad 46)), (11, .ref (ad 47)), (12, .int x12), (22, .int x22), (23, .int x23), (25, .int x25)]) C.E.hx C.E.hb dL_law_908 hl (by decide) rfl (fun ls hl => ?_)
        refine lv_iinc (v := (x25 + 1)) (lv' := [(25, .int (x25 + 1)), (24, .int (x24 &&& 1)), (27, .int (r_38 - v_40)), (26, .int (r_34 - v_36)), (0, .ref b), (1, .ref (ad 0)), (3, .int x3), (4, .int x4), (5, .int x5), (6, .int x6), (7, .int x7), (8, .ref (ad 44)), (9, .ref (ad 45)), (10, .ref (ad 46)), (11, .ref (ad 47)), (12, .int x12), (22, .int x22), (23, .int x23)]) C.E.hx C.E.hb dL_law_910 hl (k := 17) rfl rfl (by decide) rfl (fun ls hl => ?_)
        refine lv_goto (tgt := 831) C.E.hx C.E.hb dL_law_913 (by decide) ?_
        exact ih h (lv_sub hl [4, 5, 6, 7, 8, 9, 10, 11, 12, 13, 14, 15, 16, 17, 1, 0] rfl) kx
      · rw [if_neg c_42] at h
        refine lv_iload C.E.hx C.E.hb dL_law_876 (lv_at hl 1 rfl) ?_
        refine lv_aload C.E.hx C.E.hb dL_law_878 (lv_at hl 11 rfl) ?_
        refine lv_iload C.E.hx C.E.hb dL_law_880 (lv_at hl 15 rfl) ?_
        obtain ⟨v_43, e_44, h⟩ := obind h
        refine la_2 C T e_44 dL_law_882 ?_
        refine lv_icmp_ge (tgt := 902) C.E.hx C.E.hb dL_law_883 (by decide) (fun c_45 => ?_) (fun c_45 => ?_)
        · rw [if_pos c_45] at h
          refine lv_iconst (v := 1) C.E.hx C.E.hb dL_law_902 (by decide) ?_
          refine lv_goto (tgt := 907) C.E.hx C.E.hb dL_law_903 (by decide) ?_
          refine lv_iand C.E.hx C.E.hb dL_law_907 ?_
          refine lv_istore (lv' := [(24, .int (x24 &&& 1)), (27, .int (r_38 - v_40)), (26, .int (r_34 - v_36)), (0, .ref b), (1, .ref (ad 0)), (3, .int x3), (4, .int x4), (5, .int x5), (6, .int x6), (7, .int x7), (8, .ref (ad 44)), (9, .ref (ad 45)), (10, .ref (ad 46)), (11, .ref (ad 47)), (12, .int x12), (22, .int x22), (23, .int x23), (25, .int x25)]) C.E.hx C.E.hb dL_law_908 hl (by decide) rfl (fun ls hl => ?_)
          refine lv_iinc (v := (x25 + 1)) (lv' := [(25, .int (x25 + 1)), (24, .int (x24 &&& 1)), (27, .int (r_38 - v_40)), (26, .int (r_34 - v_36)), (0, .ref b), (1, .ref (ad 0)), (3, .int x3), (4, .int x4), (5, .int x5), (6, .int x6), (7, .int x7), (8, .ref (ad 44)), (9, .ref (ad 45)), (10, .ref (ad 46)), (11, .ref (ad 47)), (12, .int x12), (22, .int x22), (23, .int x23)]) C.E.hx C.E.hb dL_law_910 hl (k := 17) rfl rfl (by decide) rfl (fun ls hl => ?_)
          refine lv_goto (tgt := 831) C.E.hx C.E.hb dL_law_913 (by decide) ?_
          exact ih h (lv_sub hl [4, 5, 6, 7, 8, 9, 10, 11, 12, 13, 14, 15, 16, 17, 1, 0] rfl) kx
        · rw [if_neg c_45] at h
          refine lv_iload C.E.hx C.E.hb dL_law_886 (lv_at hl 0 rfl) ?_
          refine lv_iconst (v := (-1)) C.E.hx C.E.hb dL_law_888 (by decide) ?_
          refine lv_icmp_lt (tgt := 902) C.E.hx C.E.hb dL_law_889 (by decide) (fun c_46 => ?_) (fun c_46 => ?_)
          · rw [if_pos c_46] at h
            refine lv_iconst (v := 1) C.E.hx C.E.hb dL_law_902 (by decide) ?_
            refine lv_goto (tgt := 907) C.E.hx C.E.hb dL_law_903 (by decide) ?_
            refine lv_iand C.E.hx C.E.hb dL_law_907 ?_
            refine lv_istore (lv' := [(24, .int (x24 &&& 1)), (27, .int (r_38 - v_40)), (26, .int (r_34 - v_36)), (0, .ref b), (1, .ref (ad 0)), (3, .int x3), (4, .int x4), (5, .int x5), (6, .int x6), (7, .int x7), (8, .ref (ad 44)), (9, .ref (ad 45)), (10, .ref (ad 46)), (11, .ref (ad 47)), (12, .int x12), (22, .int x22), (23, .int x23), (25, .int x25)]) C.E.hx C.E.hb dL_law_908 hl (by decide) rfl (fun ls hl => ?_)
            refine lv_iinc (v := (x25 + 1)) (lv' := [(25, .int (x25 + 1)), (24, .int (x24 &&& 1)), (27, .int (r_38 - v_40)), (26, .int (r_34 - v_36)), (0, .ref b), (1, .ref (ad 0)), (3, .int x3), (4, .int x4), (5, .int x5), (6, .int x6), (7, .int x7), (8, .ref (ad 44)), (9, .ref (ad 45)), (10, .ref (ad 46)), (11, .ref (ad 47)), (12, .int x12), (22, .int x22), (23, .int x23)]) C.E.hx C.E.hb dL_law_910 hl (k := 17) rfl rfl (by decide) rfl (fun ls hl => ?_)
            refine lv_goto (tgt := 831) C.E.hx C.E.hb dL_law_913 (by decide) ?_
            exact ih h (lv_sub hl [4, 5, 6, 7, 8, 9, 10, 11, 12, 13, 14, 15, 16, 17, 1, 0] rfl) kx
          · rw [if_neg c_46] at h
            refine lv_iload C.E.hx C.E.hb dL_law_892 (lv_at hl 0 rfl) ?_
            refine lv_aload C.E.hx C.E.hb dL_law_894 (lv_at hl 12 rfl) ?_
            refine lv_iload C.E.hx C.E.hb dL_law_896 (lv_at hl 15 rfl) ?_
            obtain ⟨v_47, e_48, h⟩ := obind h
            refine la_3 C T e_48 dL_law_898 ?_
            refine lv_icmp_lt (tgt := 906) C.E.hx C.E.hb dL_law_899 (by decide) (fun c_49 => ?_) (fun c_49 => ?_)
            · rw [if_pos c_49] at h
              refine lv_iconst (v := 0) C.E.hx C.E.hb dL_law_906 (by decide) ?_
              refine lv_iand C.E.hx C.E.hb dL_law_907 ?_
              refine lv_istore (lv' := [(24, .int (x24 &&& 0)), (27, .int (r_38 - v_40)), (26, .int (r_34 - v_36)), (0, .ref b), (1, .ref (ad 0)), (3, .int x3), (4, .int x4), (5, .int x5), (6, .int x6), (7, .int x7), (8, .ref (ad 44)), (9, .ref (ad 45)), (10, .ref (ad 46)), (11, .ref (ad 47)), (12, .int x12), (22, .int x22), (23, .int x23), (25, .int x25)]) C.E.hx C.E.hb dL_law_908 hl (by decide) rfl (fun ls hl => ?_)
              refine lv_iinc (v := (x25 + 1)) (lv' := [(25, .int (x25 + 1)), (24, .int (x24 &&& 0)), (27, .int (r_38 - v_40)), (26, .int (r_34 - v_36)), (0, .ref b), (1, .ref (ad 0)), (3, .int x3), (4, .int x4), (5, .int x5), (6, .int x6), (7, .int x7), (8, .ref (ad 44)), (9, .ref (ad 45)), (10, .ref (ad 46)), (11, .ref (ad 47)), (12, .int x12), (22, .int x22), (23, .int x23)]) C.E.hx C.E.hb dL_law_910 hl (k := 17) rfl rfl (by decide) rfl (fun ls hl => ?_)
              refine lv_goto (tgt := 831) C.E.hx C.E.hb dL_law_913 (by decide) ?_
              exact ih h (lv_sub hl [4, 5, 6, 7, 8, 9, 10, 11, 12, 13, 14, 15, 16, 17, 1, 0] rfl) kx
            · rw [if_neg c_49] at h
              refine lv_iconst (v := 1) C.E.hx C.E.hb dL_law_902 (by decide) ?_
              refine lv_goto (tgt := 907) C.E.hx C.E.hb dL_law_903 (by decide) ?_
              refine lv_iand C.E.hx C.E.hb dL_law_907 ?_
              refine lv_istore (lv' := [(24, .int (x24 &&& 1)), (27, .int (r_38 - v_40)), (26, .int (r_34 - v_36)), (0, .ref b), (1, .ref (ad 0)), (3, .int x3), (4, .int x4), (5, .int x5), (6, .int x6), (7, .int x7), (8, .ref (ad 44)), (9, .ref (ad 45)), (10, .ref (ad 46)), (11, .ref (ad 47)), (12, .int x12), (22, .int x22), (23, .int x23), (25, .int x25)]) C.E.hx C.E.hb dL_law_908 hl (by decide) rfl (fun ls hl => ?_)
              refine lv_iinc (v := (x25 + 1)) (lv' := [(25, .int (x25 + 1)), (24, .int (x24 &&& 1)), (27, .int (r_38 - v_40)), (26, .int (r_34 - v_36)), (0, .ref b), (1, .ref (ad 0)), (3, .int x3), (4, .int x4), (5, .int x5), (6, .int x6), (7, .int x7), (8, .ref (ad 44)), (9, .ref (ad 45)), (10, .ref (ad 46)), (11, .ref (ad 47)), (12, .int x12), (22, .int x22), (23, .int x23)]) C.E.hx C.E.hb dL_law_910 hl (k := 17) rfl rfl (by decide) rfl (fun ls hl => ?_)
              refine lv_goto (tgt := 831) C.E.hx C.E.hb dL_law_913 (by decide) ?_
              exact ih h (lv_sub hl [4, 5, 6, 7, 8, 9, 10, 11, 12, 13, 14, 15, 16, 17, 1, 0] rfl) kx
def B_L_law_J942 (L : Nat) (xs : Nat → Int32) (k : Int32 → Option (Unit)) (I : Nat → Int32) (A B : Nat → Nat → Int32) (x3 x4 x5 x6 x7 x12 x22 x23 x25 t0 t1 : Int32) : Option (Unit) := if t0 = t1 then (if x25 < 0 then none else (if x25 ≤ 99 then k ((x23 + 1)) else none)) else none
set_option maxHeartbeats 4000000 in
set_option maxRecDepth 100000 in
theorem w_L_law_J942 (C : LW p l s m #[Value.ref b] meth c D cyI ad b L xs) {I : Nat → Int32} {A B : Nat → Nat → Int32} {H : Heap} {locs : List Loc} (T : LT s D cyI ad I A B H locs) {x3 x4 x5 x6 x7 x12 x22 x23 x25 t0 t1 : Int32} {k : Int32 → Option (Unit)} {o : Unit} (hk : ∀ {x23 : Int32} (_ : k x23 = some o) {ls : Array Slot}, lv_has ls 28 [(0, .ref b), (1, .ref (ad 0)), (3, .int x3), (4, .int x4), (5, .int x5), (6, .int x6), (7, .int x7), (8, .ref (ad 44)), (9, .ref (ad 45)), (10, .ref (ad 46)), (11, .ref (ad 47)), (12, .int x12), (22, .int x22), (23, .int x23)] → W p l e room_1 s m #[Value.ref b] below meth c H locs 48 2539 (lw_Z below #[Value.ref b] s) (F0 m 818 ls [])) (kx : ∀ {ls : Array Slot}, lv_has ls 28 [(0, .ref b), (1, .ref (ad 0)), (3, .int x3), (4, .int x4), (5, .int x5), (6, .int x6), (7, .int x7), (8, .ref (ad 44)), (9, .ref (ad 45)), (10, .ref (ad 46)), (11, .ref (ad 47)), (12, .int x12)] → W p l e room_1 s m #[Value.ref b] below meth c H locs 48 2539 (lw_Z below #[Value.ref b] s) (F0 m 965 ls [])) (h : B_L_law_J942 L xs k I A B x3 x4 x5 x6 x7 x12 x22 x23 x25 t0 t1 = some o) {ls : Array Slot} (hl : lv_has ls 28 [(0, .ref b), (1, .ref (ad 0)), (3, .int x3), (4, .int x4), (5, .int x5), (6, .int x6), (7, .int x7), (8, .ref (ad 44)), (9, .ref (ad 45)), (10, .ref (ad 46)), (11, .ref (ad 47)), (12, .int x12), (22, .int x22), (23, .int x23), (25, .int x25)]) : W p l e room_1 s m #[Value.ref b] below meth c H locs 48 2539 (lw_Z below #[Value.ref b] s) (F0 m 942 ls [.int t1, .int t0]) := by
  unfold B_L_law_J942 at h
  refine lv_icmp_ne (tgt := 957) C.E.hx C.E.hb dL_law_942 (by decide) (fun c_57 => ?_) (fun c_57 => ?_)
  · rw [if_neg c_57] at h
    exact nomatch h
  · rw [if_pos c_57] at h
    refine lv_iload C.E.hx C.E.hb dL_law_945 (lv_at hl 14 rfl) ?_
    refine lv_if_lt (tgt := 957) C.E.hx C.E.hb dL_law_947 (by decide) (fun c_58 => ?_) (fun c_58 => ?_)
    · rw [if_pos c_58] at h
      exact nomatch h
    · rw [if_neg c_58] at h
      refine lv_iload C.E.hx C.E.hb dL_law_950 (lv_at hl 14 rfl) ?_
      refine lv_bipush (v := 99) C.E.hx C.E.hb dL_law_952 (by decide) ?_
      refine lv_icmp_le (tgt := 959) C.E.hx C.E.hb dL_law_954 (by decide) (fun c_59 => ?_) (fun c_59 => ?_)
      · rw [if_pos c_59] at h
        refine lv_iinc (v := (x23 + 1)) (lv' := [(23, .int (x23 + 1)), (0, .ref b), (1, .ref (ad 0)), (3, .int x3), (4, .int x4), (5, .int x5), (6, .int x6), (7, .int x7), (8, .ref (ad 44)), (9, .ref (ad 45)), (10, .ref (ad 46)), (11, .ref (ad 47)), (12, .int x12), (22, .int x22), (25, .int x25)]) C.E.hx C.E.hb dL_law_959 hl (k := 13) rfl rfl (by decide) rfl (fun ls hl => ?_)
        refine lv_goto (tgt := 818) C.E.hx C.E.hb dL_law_962 (by decide) ?_
        exact hk h (lv_sub hl [1, 2, 3, 4, 5, 6, 7, 8, 9, 10, 11, 12, 13, 0] rfl)
      · rw [if_neg c_59] at h
        exact nomatch h
def B_L_law_L818 (L : Nat) (xs : Nat → Int32) (I : Nat → Int32) (A B : Nat → Nat → Int32) (x3 x4 x5 x6 x7 x12 x22 : Int32) : Nat → Int32 → Option (Unit)
  | 0 => fun _ => none
  | n + 1 => fun x23 => if x5 ≤ x23 then some () else ((B_L_law_L831 L xs I A B x3 x4 x5 x6 x7 x12 x22 x23 FU 1 0).bind fun q_50 => (B_X6_ofPixel I A x23 1).bind fun r_52 => (B_X6_ofPixel I A x23 2).bind fun r_54 => if q_50 = 0 then B_L_law_J942 L xs ((B_L_law_L818 L xs I A B x3 x4 x5 x6 x7 x12 x22 n)) I A B x3 x4 x5 x6 x7 x12 x22 x23 r_52 r_54 0 else B_L_law_J942 L xs ((B_L_law_L818 L xs I A B x3 x4 x5 x6 x7 x12 x22 n)) I A B x3 x4 x5 x6 x7 x12 x22 x23 r_52 r_54 1)
theorem B_L_law_L818_s (L : Nat) (xs : Nat → Int32) (I : Nat → Int32) (A B : Nat → Nat → Int32) (x3 x4 x5 x6 x7 x12 x22 x23 : Int32) (n : Nat) : B_L_law_L818 L xs I A B x3 x4 x5 x6 x7 x12 x22 (n + 1) x23 = if x5 ≤ x23 then some () else ((B_L_law_L831 L xs I A B x3 x4 x5 x6 x7 x12 x22 x23 FU 1 0).bind fun q_50 => (B_X6_ofPixel I A x23 1).bind fun r_52 => (B_X6_ofPixel I A x23 2).bind fun r_54 => if q_50 = 0 then B_L_law_J942 L xs ((B_L_law_L818 L xs I A B x3 x4 x5 x6 x7 x12 x22 n)) I A B x3 x4 x5 x6 x7 x12 x22 x23 r_52 r_54 0 else B_L_law_J942 L xs ((B_L_law_L818 L xs I A B x3 x4 x5 x6 x7 x12 x22 n)) I A B x3 x4 x5 x6 x7 x12 x22 x23 r_52 r_54 1) := rfl
set_option maxHeartbeats 4000000 in
set_option maxRecDepth 100000 in
theorem w_L_law_L818 (C : LW p l s m #[Value.ref b] meth c D cyI ad b L xs) {I : Nat → Int32} {A B : Nat → Nat → Int32} {H : Heap} {locs : List Loc} (T : LT s D cyI ad I A B H locs) {x3 x4 x5 x6 x7 x12 x22 : Int32} : ∀ (n : Nat) {x23 : Int32} {o : Unit} (h : B_L_law_L818 L xs I A B x3 x4 x5 x6 x7 x12 x22 n x23 = some o) {ls : Array Slot} (hl : lv_has ls 28 [(0, .ref b), (1, .ref (ad 0)), (3, .int x3), (4, .int x4), (5, .int x5), (6, .int x6), (7, .int x7), (8, .ref (ad 44)), (9, .ref (ad 45)), (10, .ref (ad 46)), (11, .ref (ad 47)), (12, .int x12), (22, .int x22), (23, .int x23)]) (kx : ∀ {ls : Array Slot}, lv_has ls 28 [(0, .ref b), (1, .ref (ad 0)), (3, .int x3), (4, .int x4), (5, .int x5), (6, .int x6), (7, .int x7), (8, .ref (ad 44)), (9, .ref (ad 45)), (10, .ref (ad 46)), (11, .ref (ad 47)), (12, .int x12)] → W p l e room_1 s m #[Value.ref b] below meth c H locs 48 2539 (lw_Z below #[Value.ref b] s) (F0 m 965 ls [])), W p l e room_1 s m #[Value.ref b] below meth c H locs 48 2539 (lw_Z below #[Value.ref b] s) (F0 m 818 ls []) := by
  intro n
  induction n with
  | zero => intro x23 o h ls hl kx; exact nomatch (show none = some o from h)
  | succ n ih =>
    intro x23 o h ls hl kx
    rw [B_L_law_L818_s] at h
    refine lv_iload C.E.hx C.E.hb dL_law_818 (lv_at hl 13 rfl) ?_
    refine lv_iload C.E.hx C.E.hb dL_law_820 (lv_at hl 4 rfl) ?_
    refine lv_icmp_ge (tgt := 965) C.E.hx C.E.hb dL_law_822 (by decide) (fun c_32 => ?_) (fun c_32 => ?_)
    · rw [if_pos c_32] at h
      cases h
      exact kx (lv_sub hl [0, 1, 2, 3, 4, 5, 6, 7, 8, 9, 10, 11] rfl)
    · rw [if_neg c_32] at h
      refine lv_iconst (v := 1) C.E.hx C.E.hb dL_law_825 (by decide) ?_
      refine lv_istore (lv' := [(24, .int 1), (0, .ref b), (1, .ref (ad 0)), (3, .int x3), (4, .int x4), (5, .int x5), (6, .int x6), (7, .int x7), (8, .ref (ad 44)), (9, .ref (ad 45)), (10, .ref (ad 46)), (11, .ref (ad 47)), (12, .int x12), (22, .int x22), (23, .int x23)]) C.E.hx C.E.hb dL_law_826 hl (by decide) rfl (fun ls hl => ?_)
      refine lv_iconst (v := 0) C.E.hx C.E.hb dL_law_828 (by decide) ?_
      refine lv_istore (lv' := [(25, .int 0), (24, .int 1), (0, .ref b), (1, .ref (ad 0)), (3, .int x3), (4, .int x4), (5, .int x5), (6, .int x6), (7, .int x7), (8, .ref (ad 44)), (9, .ref (ad 45)), (10, .ref (ad 46)), (11, .ref (ad 47)), (12, .int x12), (22, .int x22), (23, .int x23)]) C.E.hx C.E.hb dL_law_829 hl (by decide) rfl (fun ls hl => ?_)
      obtain ⟨q_50, e_51, h⟩ := obind h
      refine w_L_law_L831 C T FU e_51 (lv_sub hl [2, 3, 4, 5, 6, 7, 8, 9, 10, 11, 12, 13, 14, 15, 1, 0] rfl) (fun {ls} hl => ?_)
      refine lv_aload_n C.E.hx C.E.hb dL_law_916 rfl (lv_at hl 1 rfl) ?_
      refine lv_iload C.E.hx C.E.hb dL_law_917 (lv_at hl 13 rfl) ?_
      refine lv_iconst (v := 1) C.E.hx C.E.hb dL_law_919 (by decide) ?_
      obtain ⟨r_52, e_53, h⟩ := obind h
      refine lc_80 C T e_53 hl.1 (Nat.le_of_ble_eq_true rfl) dL_law_920 ?_
      refine lv_istore (lv' := [(25, .int r_52), (0, .ref b), (1, .ref (ad 0)), (3, .int x3), (4, .int x4), (5, .int x5), (6, .int x6), (7, .int x7), (8, .ref (ad 44)), (9, .ref (ad 45)), (10, .ref (ad 46)), (11, .ref (ad 47)), (12, .int x12), (22, .int x22), (23, .int x23), (24, .int q_50)]) C.E.hx C.E.hb dL_law_923 hl (by decide) rfl (fun ls hl => ?_)
      refine lv_aload_n C.E.hx C.E.hb dL_law_925 rfl (lv_at hl 2 rfl) ?_
      refine lv_iload C.E.hx C.E.hb dL_law_926 (lv_at hl 14 rfl) ?_
      refine lv_iconst (v := 2) C.E.hx C.E.hb dL_law_928 (by decide) ?_
      obtain ⟨r_54, e_55, h⟩ := obind h
      refine lc_80 C T e_55 hl.1 (Nat.le_of_ble_eq_true rfl) dL_law_929 ?_
      refine lv_iload C.E.hx C.E.hb dL_law_932 (lv_at hl 15 rfl) ?_
      refine lv_if_eq (tgt := 941) C.E.hx C.E.hb dL_law_934 (by decide) (fun c_56 => ?_) (fun c_56 => ?_)
      · rw [if_pos c_56] at h
        refine lv_iconst (v := 0) C.E.hx C.E.hb dL_law_941 (by decide) ?_
        exact w_L_law_J942 C T (fun {_} h {ls} hl => ih h hl kx) kx h (lv_sub hl [1, 2, 3, 4, 5, 6, 7, 8, 9, 10, 11, 12, 13, 14, 0] rfl)
      · rw [if_neg c_56] at h
        refine lv_iconst (v := 1) C.E.hx C.E.hb dL_law_937 (by decide) ?_
        refine lv_goto (tgt := 942) C.E.hx C.E.hb dL_law_938 (by decide) ?_
        exact w_L_law_J942 C T (fun {_} h {ls} hl => ih h hl kx) kx h (lv_sub hl [1, 2, 3, 4, 5, 6, 7, 8, 9, 10, 11, 12, 13, 14, 0] rfl)
def B_L_law_J809 (L : Nat) (xs : Nat → Int32) (k : Int32 → Int32 → Int32 → Int32 → (Nat → Int32) → (Nat → Nat → Int32) → (Nat → Nat → Int32) → Option ((Nat → Int32) × (Nat → Nat → Int32) × (Nat → Nat → Int32))) (I : Nat → Int32) (A B : Nat → Nat → Int32) (x3 x4 x5 x6 x7 x12 : Int32) : Option ((Nat → Int32) × (Nat → Nat → Int32) × (Nat → Nat → Int32)) := (B_X6_defects I A).bind fun r_30 => (B_L_law_L818 L xs I A B x3 x4 x5 x6 x7 x12 r_30 FU 0).bind fun q_60 => k x5 x6 x7 ((x12 + 1)) I A B
set_option maxHeartbeats 4000000 in
set_option maxRecDepth 100000 in
theorem w_L_law_J809 (C : LW p l s m #[Value.ref b] meth c D cyI ad b L xs) {I : Nat → Int32} {A B : Nat → Nat → Int32} {H : Heap} {locs : List Loc} (T : LT s D cyI ad I A B H locs) {x3 x4 x5 x6 x7 x12 : Int32} {k : Int32 → Int32 → Int32 → Int32 → (Nat → Int32) → (Nat → Nat → Int32) → (Nat → Nat → Int32) → Option ((Nat → Int32) × (Nat → Nat → Int32) × (Nat → Nat → Int32))} {o : (Nat → Int32) × (Nat → Nat → Int32) × (Nat → Nat → Int32)} (hk : ∀ {x5 x6 x7 x12 : Int32} {I : Nat → Int32} {A B : Nat → Nat → Int32} {H : Heap} {locs : List Loc} (_ : LT s D cyI ad I A B H locs) (_ : k x5 x6 x7 x12 I A B = some o) {ls : Array Slot}, lv_has ls 28 [(0, .ref b), (1, .ref (ad 0)), (3, .int x3), (4, .int x4), (5, .int x5), (6, .int x6), (7, .int x7), (8, .ref (ad 44)), (9, .ref (ad 45)), (10, .ref (ad 46)), (11, .ref (ad 47)), (12, .int x12)] → W p l e room_1 s m #[Value.ref b] below meth c H locs 48 2539 (lw_Z below #[Value.ref b] s) (F0 m 81 ls [])) (kx : ∀ {H : Heap} {locs : List Loc} (_ : LT s D cyI ad o.1 o.2.1 o.2.2 H locs) {ls : Array Slot}, lv_has ls 28 [] → W p l e room_1 s m #[Value.ref b] below meth c H locs 48 2539 (lw_Z below #[Value.ref b] s) (F0 m 971 ls [])) (h : B_L_law_J809 L xs k I A B x3 x4 x5 x6 x7 x12 = some o) {ls : Array Slot} (hl : lv_has ls 28 [(0, .ref b), (1, .ref (ad 0)), (3, .int x3), (4, .int x4), (5, .int x5), (6, .int x6), (7, .int x7), (8, .ref (ad 44)), (9, .ref (ad 45)), (10, .ref (ad 46)), (11, .ref (ad 47)), (12, .int x12)]) : W p l e room_1 s m #[Value.ref b] below meth c H locs 48 2539 (lw_Z below #[Value.ref b] s) (F0 m 809 ls []) := by
  unfold B_L_law_J809 at h
  refine lv_aload_n C.E.hx C.E.hb dL_law_809 rfl (lv_at hl 1 rfl) ?_
  obtain ⟨r_30, e_31, h⟩ := obind h
  refine lc_74 C T e_31 hl.1 (Nat.le_of_ble_eq_true rfl) dL_law_810 ?_
  refine lv_istore (lv' := [(22, .int r_30), (0, .ref b), (1, .ref (ad 0)), (3, .int x3), (4, .int x4), (5, .int x5), (6, .int x6), (7, .int x7), (8, .ref (ad 44)), (9, .ref (ad 45)), (10, .ref (ad 46)), (11, .ref (ad 47)), (12, .int x12)]) C.E.hx C.E.hb dL_law_813 hl (by decide) rfl (fun ls hl => ?_)
  refine lv_iconst (v := 0) C.E.hx C.E.hb dL_law_815 (by decide) ?_
  refine lv_istore (lv' := [(23, .int 0), (22, .int r_30), (0, .ref b), (1, .ref (ad 0)), (3, .int x3), (4, .int x4), (5, .int x5), (6, .int x6), (7, .int x7), (8, .ref (ad 44)), (9, .ref (ad 45)), (10, .ref (ad 46)), (11, .ref (ad 47)), (12, .int x12)]) C.E.hx C.E.hb dL_law_816 hl (by decide) rfl (fun ls hl => ?_)
  obtain ⟨q_60, e_61, h⟩ := obind h
  refine w_L_law_L818 C T FU e_61 (lv_sub hl [2, 3, 4, 5, 6, 7, 8, 9, 10, 11, 12, 13, 1, 0] rfl) (fun {ls} hl => ?_)
  refine lv_iinc (v := (x12 + 1)) (lv' := [(12, .int (x12 + 1)), (0, .ref b), (1, .ref (ad 0)), (3, .int x3), (4, .int x4), (5, .int x5), (6, .int x6), (7, .int x7), (8, .ref (ad 44)), (9, .ref (ad 45)), (10, .ref (ad 46)), (11, .ref (ad 47))]) C.E.hx C.E.hb dL_law_965 hl (k := 11) rfl rfl (by decide) rfl (fun ls hl => ?_)
  refine lv_goto (tgt := 81) C.E.hx C.E.hb dL_law_968 (by decide) ?_
  exact hk T h (lv_sub hl [1, 2, 3, 4, 5, 6, 7, 8, 9, 10, 11, 0] rfl)
def B_L_law_L741 (L : Nat) (xs : Nat → Int32) (I : Nat → Int32) (A B : Nat → Nat → Int32) (x3 x4 x5 x6 x7 x12 x14 x15 x20 x21 x23 : Int32) : Nat → Int32 → Int32 → Option (Int32)
  | 0 => fun _ _ => none
  | n + 1 => fun x22 x24 => if x20 ≤ x24 then some x22 else ((B_X6_winding I A x24 x23).bind fun r_65 => (B_L_law_L741 L xs I A B x3 x4 x5 x6 x7 x12 x14 x15 x20 x21 x23 n) ((x22 + r_65)) ((x24 + 1)))
theorem B_L_law_L741_s (L : Nat) (xs : Nat → Int32) (I : Nat → Int32) (A B : Nat → Nat → Int32) (x3 x4 x5 x6 x7 x12 x14 x15 x20 x21 x23 x22 x24 : Int32) (n : Nat) : B_L_law_L741 L xs I A B x3 x4 x5 x6 x7 x12 x14 x15 x20 x21 x23 (n + 1) x22 x24 = if x20 ≤ x24 then some x22 else ((B_X6_winding I A x24 x23).bind fun r_65 => (B_L_law_L741 L xs I A B x3 x4 x5 x6 x7 x12 x14 x15 x20 x21 x23 n) ((x22 + r_65)) ((x24 + 1))) := rfl
set_option maxHeartbeats 4000000 in
set_option maxRecDepth 100000 in
theorem w_L_law_L741 (C : LW p l s m #[Value.ref b] meth c D cyI ad b L xs) {I : Nat → Int32} {A B : Nat → Nat → Int32} {H : Heap} {locs : List Loc} (T : LT s D cyI ad I A B H locs) {x3 x4 x5 x6 x7 x12 x14 x15 x20 x21 x23 : Int32} : ∀ (n : Nat) {x22 x24 : Int32} {o : Int32} (h : B_L_law_L741 L xs I A B x3 x4 x5 x6 x7 x12 x14 x15 x20 x21 x23 n x22 x24 = some o) {ls : Array Slot} (hl : lv_has ls 28 [(0, .ref b), (1, .ref (ad 0)), (3, .int x3), (4, .int x4), (5, .int x5), (6, .int x6), (7, .int x7), (8, .ref (ad 44)), (9, .ref (ad 45)), (10, .ref (ad 46)), (11, .ref (ad 47)), (12, .int x12), (14, .int x14), (15, .int x15), (20, .int x20), (21, .int x21), (22, .int x22), (23, .int x23), (24, .int x24)]) (kx : ∀ {ls : Array Slot}, lv_has ls 28 [(0, .ref b), (1, .ref (ad 0)), (3, .int x3), (4, .int x4), (5, .int x5), (6, .int x6), (7, .int x7), (8, .ref (ad 44)), (9, .ref (ad 45)), (10, .ref (ad 46)), (11, .ref (ad 47)), (12, .int x12), (14, .int x14), (15, .int x15), (20, .int x20), (21, .int x21), (22, .int o), (23, .int x23)] → W p l e room_1 s m #[Value.ref b] below meth c H locs 48 2539 (lw_Z below #[Value.ref b] s) (F0 m 767 ls [])), W p l e room_1 s m #[Value.ref b] below meth c H locs 48 2539 (lw_Z below #[Value.ref b] s) (F0 m 741 ls []) := by
  intro n
  induction n with
  | zero => intro x22 x24 o h ls hl kx; exact nomatch (show none = some o from h)
  | succ n ih =>
    intro x22 x24 o h ls hl kx
    rw [B_L_law_L741_s] at h
    refine lv_iload C.E.hx C.E.hb dL_law_741 (lv_at hl 18 rfl) ?_
    refine lv_iload C.E.hx C.E.hb dL_law_743 (lv_at hl 14 rfl) ?_
    refine lv_icmp_ge (tgt := 767) C.E.hx C.E.hb dL_law_745 (by decide) (fun c_64 => ?_) (fun c_64 => ?_)
    · rw [if_pos c_64] at h
      cases h
      exact kx (lv_sub hl [0, 1, 2, 3, 4, 5, 6, 7, 8, 9, 10, 11, 12, 13, 14, 15, 16, 17] rfl)
    · rw [if_neg c_64] at h
      refine lv_iload C.E.hx C.E.hb dL_law_748 (lv_at hl 16 rfl) ?_
      refine lv_aload_n C.E.hx C.E.hb dL_law_750 rfl (lv_at hl 1 rfl) ?_
      refine lv_iload C.E.hx C.E.hb dL_law_751 (lv_at hl 18 rfl) ?_
      refine lv_iload C.E.hx C.E.hb dL_law_753 (lv_at hl 17 rfl) ?_
      obtain ⟨r_65, e_66, h⟩ := obind h
      refine lc_65 C T e_66 hl.1 (Nat.le_of_ble_eq_true rfl) dL_law_755 ?_
      refine lv_iadd C.E.hx C.E.hb dL_law_758 ?_
      refine lv_istore (lv' := [(22, .int (x22 + r_65)), (0, .ref b), (1, .ref (ad 0)), (3, .int x3), (4, .int x4), (5, .int x5), (6, .int x6), (7, .int x7), (8, .ref (ad 44)), (9, .ref (ad 45)), (10, .ref (ad 46)), (11, .ref (ad 47)), (12, .int x12), (14, .int x14), (15, .int x15), (20, .int x20), (21, .int x21), (23, .int x23), (24, .int x24)]) C.E.hx C.E.hb dL_law_759 hl (by decide) rfl (fun ls hl => ?_)
      refine lv_iinc (v := (x24 + 1)) (lv' := [(24, .int (x24 + 1)), (22, .int (x22 + r_65)), (0, .ref b), (1, .ref (ad 0)), (3, .int x3), (4, .int x4), (5, .int x5), (6, .int x6), (7, .int x7), (8, .ref (ad 44)), (9, .ref (ad 45)), (10, .ref (ad 46)), (11, .ref (ad 47)), (12, .int x12), (14, .int x14), (15, .int x15), (20, .int x20), (21, .int x21), (23, .int x23)]) C.E.hx C.E.hb dL_law_761 hl (k := 18) rfl rfl (by decide) rfl (fun ls hl => ?_)
      refine lv_goto (tgt := 741) C.E.hx C.E.hb dL_law_764 (by decide) ?_
      exact ih h (lv_sub hl [2, 3, 4, 5, 6, 7, 8, 9, 10, 11, 12, 13, 14, 15, 16, 17, 1, 18, 0] rfl) kx
def B_L_law_L730 (L : Nat) (xs : Nat → Int32) (I : Nat → Int32) (A B : Nat → Nat → Int32) (x3 x4 x5 x6 x7 x12 x14 x15 x20 x21 : Int32) : Nat → Int32 → Int32 → Option (Int32)
  | 0 => fun _ _ => none
  | n + 1 => fun x22 x23 => if x21 ≤ x23 then some x22 else ((B_L_law_L741 L xs I A B x3 x4 x5 x6 x7 x12 x14 x15 x20 x21 x23 FU x22 x14).bind fun q_67 => (B_L_law_L730 L xs I A B x3 x4 x5 x6 x7 x12 x14 x15 x20 x21 n) q_67 ((x23 + 1)))
theorem B_L_law_L730_s (L : Nat) (xs : Nat → Int32) (I : Nat → Int32) (A B : Nat → Nat → Int32) (x3 x4 x5 x6 x7 x12 x14 x15 x20 x21 x22 x23 : Int32) (n : Nat) : B_L_law_L730 L xs I A B x3 x4 x5 x6 x7 x12 x14 x15 x20 x21 (n + 1) x22 x23 = if x21 ≤ x23 then some x22 else ((B_L_law_L741 L xs I A B x3 x4 x5 x6 x7 x12 x14 x15 x20 x21 x23 FU x22 x14).bind fun q_67 => (B_L_law_L730 L xs I A B x3 x4 x5 x6 x7 x12 x14 x15 x20 x21 n) q_67 ((x23 + 1))) := rfl
set_option maxHeartbeats 4000000 in
set_option maxRecDepth 100000 in
theorem w_L_law_L730 (C : LW p l s m #[Value.ref b] meth c D cyI ad b L xs) {I : Nat → Int32} {A B : Nat → Nat → Int32} {H : Heap} {locs : List Loc} (T : LT s D cyI ad I A B H locs) {x3 x4 x5 x6 x7 x12 x14 x15 x20 x21 : Int32} : ∀ (n : Nat) {x22 x23 : Int32} {o : Int32} (h : B_L_law_L730 L xs I A B x3 x4 x5 x6 x7 x12 x14 x15 x20 x21 n x22 x23 = some o) {ls : Array Slot} (hl : lv_has ls 28 [(0, .ref b), (1, .ref (ad 0)), (3, .int x3), (4, .int x4), (5, .int x5), (6, .int x6), (7, .int x7), (8, .ref (ad 44)), (9, .ref (ad 45)), (10, .ref (ad 46)), (11, .ref (ad 47)), (12, .int x12), (14, .int x14), (15, .int x15), (20, .int x20), (21, .int x21), (22, .int x22), (23, .int x23)]) (kx : ∀ {ls : Array Slot}, lv_has ls 28 [(0, .ref b), (1, .ref (ad 0)), (3, .int x3), (4, .int x4), (5, .int x5), (6, .int x6), (7, .int x7), (8, .ref (ad 44)), (9, .ref (ad 45)), (10, .ref (ad 46)), (11, .ref (ad 47)), (12, .int x12), (14, .int x14), (15, .int x15), (20, .int x20), (21, .int x21), (22, .int o)] → W p l e room_1 s m #[Value.ref b] below meth c H locs 48 2539 (lw_Z below #[Value.ref b] s) (F0 m 773 ls [])), W p l e room_1 s m #[Value.ref b] below meth c H locs 48 2539 (lw_Z below #[Value.ref b] s) (F0 m 730 ls []) := by
  intro n
  induction n with
  | zero => intro x22 x23 o h ls hl kx; exact nomatch (show none = some o from h)
  | succ n ih =>
    intro x22 x23 o h ls hl kx
    rw [B_L_law_L730_s] at h
    refine lv_iload C.E.hx C.E.hb dL_law_730 (lv_at hl 17 rfl) ?_
    refine lv_iload C.E.hx C.E.hb dL_law_732 (lv_at hl 15 rfl) ?_
    refine lv_icmp_ge (tgt := 773) C.E.hx C.E.hb dL_law_734 (by decide) (fun c_63 => ?_) (fun c_63 => ?_)
    · rw [if_pos c_63] at h
      cases h
      exact kx (lv_sub hl [0, 1, 2, 3, 4, 5, 6, 7, 8, 9, 10, 11, 12, 13, 14, 15, 16] rfl)
    · rw [if_neg c_63] at h
      refine lv_iload C.E.hx C.E.hb dL_law_737 (lv_at hl 12 rfl) ?_
      refine lv_istore (lv' := [(24, .int x14), (0, .ref b), (1, .ref (ad 0)), (3, .int x3), (4, .int x4), (5, .int x5), (6, .int x6), (7, .int x7), (8, .ref (ad 44)), (9, .ref (ad 45)), (10, .ref (ad 46)), (11, .ref (ad 47)), (12, .int x12), (14, .int x14), (15, .int x15), (20, .int x20), (21, .int x21), (22, .int x22), (23, .int x23)]) C.E.hx C.E.hb dL_law_739 hl (by decide) rfl (fun ls hl => ?_)
      obtain ⟨q_67, e_68, h⟩ := obind h
      refine w_L_law_L741 C T FU e_68 (lv_sub hl [1, 2, 3, 4, 5, 6, 7, 8, 9, 10, 11, 12, 13, 14, 15, 16, 17, 18, 0] rfl) (fun {ls} hl => ?_)
      refine lv_iinc (v := (x23 + 1)) (lv' := [(23, .int (x23 + 1)), (0, .ref b), (1, .ref (ad 0)), (3, .int x3), (4, .int x4), (5, .int x5), (6, .int x6), (7, .int x7), (8, .ref (ad 44)), (9, .ref (ad 45)), (10, .ref (ad 46)), (11, .ref (ad 47)), (12, .int x12), (14, .int x14), (15, .int x15), (20, .int x20), (21, .int x21), (22, .int q_67)]) C.E.hx C.E.hb dL_law_767 hl (k := 17) rfl rfl (by decide) rfl (fun ls hl => ?_)
      refine lv_goto (tgt := 730) C.E.hx C.E.hb dL_law_770 (by decide) ?_
      exact ih h (lv_sub hl [1, 2, 3, 4, 5, 6, 7, 8, 9, 10, 11, 12, 13, 14, 15, 16, 17, 0] rfl) kx
def B_L_law_J680 (L : Nat) (xs : Nat → Int32) (k : Int32 → Int32 → Int32 → Int32 → (Nat → Int32) → (Nat → Nat → Int32) → (Nat → Nat → Int32) → Option ((Nat → Int32) × (Nat → Nat → Int32) × (Nat → Nat → Int32))) (I : Nat → Int32) (A B : Nat → Nat → Int32) (x2 x3 x4 x5 x6 x7 x12 x14 x15 : Int32) : Option ((Nat → Int32) × (Nat → Nat → Int32) × (Nat → Nat → Int32)) := (B_L_at ((x2 >>> (2 &&& 31))) x3).bind fun r_25 => (B_L_at ((x2 >>> (6 &&& 31))) x4).bind fun r_27 => if x3 ≤ ((x14 + 1) + r_25) then B_L_law_J809 L xs k I A B x3 x4 x5 x6 x7 x12 else (if x4 ≤ ((x15 + 1) + r_27) then B_L_law_J809 L xs k I A B x3 x4 x5 x6 x7 x12 else ((B_L_law_L730 L xs I A B x3 x4 x5 x6 x7 x12 x14 x15 (((x14 + 1) + r_25)) (((x15 + 1) + r_27)) FU 0 x15).bind fun q_69 => (B_X6_within I A x14 x15 (((x14 + 1) + r_25)) (((x15 + 1) + r_27))).bind fun r_71 => if r_71 = q_69 then ((B_X6_border I A x14 x15 (((x14 + 1) + r_25)) (((x15 + 1) + r_27))).bind fun r_74 => if r_74 = q_69 then B_L_law_J809 L xs k I A B x3 x4 x5 x6 x7 x12 else none) else none))
set_option maxHeartbeats 4000000 in
set_option maxRecDepth 100000 in
theorem w_L_law_J680 (C : LW p l s m #[Value.ref b] meth c D cyI ad b L xs) {I : Nat → Int32} {A B : Nat → Nat → Int32} {H : Heap} {locs : List Loc} (T : LT s D cyI ad I A B H locs) {x2 x3 x4 x5 x6 x7 x12 x14 x15 : Int32} {k : Int32 → Int32 → Int32 → Int32 → (Nat → Int32) → (Nat → Nat → Int32) → (Nat → Nat → Int32) → Option ((Nat → Int32) × (Nat → Nat → Int32) × (Nat → Nat → Int32))} {o : (Nat → Int32) × (Nat → Nat → Int32) × (Nat → Nat → Int32)} (hk : ∀ {x5 x6 x7 x12 : Int32} {I : Nat → Int32} {A B : Nat → Nat → Int32} {H : Heap} {locs : List Loc} (_ : LT s D cyI ad I A B H locs) (_ : k x5 x6 x7 x12 I A B = some o) {ls : Array Slot}, lv_has ls 28 [(0, .ref b), (1, .ref (ad 0)), (3, .int x3), (4, .int x4), (5, .int x5), (6, .int x6), (7, .int x7), (8, .ref (ad 44)), (9, .ref (ad 45)), (10, .ref (ad 46)), (11, .ref (ad 47)), (12, .int x12)] → W p l e room_1 s m #[Value.ref b] below meth c H locs 48 2539 (lw_Z below #[Value.ref b] s) (F0 m 81 ls [])) (kx : ∀ {H : Heap} {locs : List Loc} (_ : LT s D cyI ad o.1 o.2.1 o.2.2 H locs) {ls : Array Slot}, lv_has ls 28 [] → W p l e room_1 s m #[Value.ref b] below meth c H locs 48 2539 (lw_Z below #[Value.ref b] s) (F0 m 971 ls [])) (h : B_L_law_J680 L xs k I A B x2 x3 x4 x5 x6 x7 x12 x14 x15 = some o) {ls : Array Slot} (hl : lv_has ls 28 [(0, .ref b), (1, .ref (ad 0)), (2, .int x2), (3, .int x3), (4, .int x4), (5, .int x5), (6, .int x6), (7, .int x7), (8, .ref (ad 44)), (9, .ref (ad 45)), (10, .ref (ad 46)), (11, .ref (ad 47)), (12, .int x12), (14, .int x14), (15, .int x15)]) : W p l e room_1 s m #[Value.ref b] below meth c H locs 48 2539 (lw_Z below #[Value.ref b] s) (F0 m 680 ls []) := by
  unfold B_L_law_J680 at h
  refine lv_iload C.E.hx C.E.hb dL_law_680 (lv_at hl 13 rfl) ?_
  refine lv_iconst (v := 1) C.E.hx C.E.hb dL_law_682 (by decide) ?_
  refine lv_iadd C.E.hx C.E.hb dL_law_683 ?_
  refine lv_iload_n C.E.hx C.E.hb dL_law_684 rfl (lv_at hl 2 rfl) ?_
  refine lv_iconst (v := 2) C.E.hx C.E.hb dL_law_685 (by decide) ?_
  refine lv_ishr C.E.hx C.E.hb dL_law_686 ?_
  refine lv_iload_n C.E.hx C.E.hb dL_law_687 rfl (lv_at hl 3 rfl) ?_
  obtain ⟨r_25, e_26, h⟩ := obind h
  refine lc_at C e_26 hl.1 (Nat.le_of_ble_eq_true rfl) dL_law_688 ?_
  refine lv_iadd C.E.hx C.E.hb dL_law_691 ?_
  refine lv_istore (lv' := [(20, .int ((x14 + 1) + r_25)), (0, .ref b), (1, .ref (ad 0)), (2, .int x2), (3, .int x3), (4, .int x4), (5, .int x5), (6, .int x6), (7, .int x7), (8, .ref (ad 44)), (9, .ref (ad 45)), (10, .ref (ad 46)), (11, .ref (ad 47)), (12, .int x12), (14, .int x14), (15, .int x15)]) C.E.hx C.E.hb dL_law_692 hl (by decide) rfl (fun ls hl => ?_)
  refine lv_iload C.E.hx C.E.hb dL_law_694 (lv_at hl 15 rfl) ?_
  refine lv_iconst (v := 1) C.E.hx C.E.hb dL_law_696 (by decide) ?_
  refine lv_iadd C.E.hx C.E.hb dL_law_697 ?_
  refine lv_iload_n C.E.hx C.E.hb dL_law_698 rfl (lv_at hl 3 rfl) ?_
  refine lv_bipush (v := 6) C.E.hx C.E.hb dL_law_699 (by decide) ?_
  refine lv_ishr C.E.hx C.E.hb dL_law_701 ?_
  refine lv_iload C.E.hx C.E.hb dL_law_702 (lv_at hl 5 rfl) ?_
  obtain ⟨r_27, e_28, h⟩ := obind h
  refine lc_at C e_28 hl.1 (Nat.le_of_ble_eq_true rfl) dL_law_704 ?_
  refine lv_iadd C.E.hx C.E.hb dL_law_707 ?_
  refine lv_istore (lv' := [(21, .int ((x15 + 1) + r_27)), (20, .int ((x14 + 1) + r_25)), (0, .ref b), (1, .ref (ad 0)), (2, .int x2), (3, .int x3), (4, .int x4), (5, .int x5), (6, .int x6), (7, .int x7), (8, .ref (ad 44)), (9, .ref (ad 45)), (10, .ref (ad 46)), (11, .ref (ad 47)), (12, .int x12), (14, .int x14), (15, .int x15)]) C.E.hx C.E.hb dL_law_708 hl (by decide) rfl (fun ls hl => ?_)
  refine lv_iload C.E.hx C.E.hb dL_law_710 (lv_at hl 1 rfl) ?_
  refine lv_iload_n C.E.hx C.E.hb dL_law_712 rfl (lv_at hl 5 rfl) ?_
  refine lv_icmp_ge (tgt := 809) C.E.hx C.E.hb dL_law_713 (by decide) (fun c_29 => ?_) (fun c_29 => ?_)
  · rw [if_pos c_29] at h
    exact w_L_law_J809 C T hk kx h (lv_sub hl [2, 3, 5, 6, 7, 8, 9, 10, 11, 12, 13, 14] rfl)
  · rw [if_neg c_29] at h
    refine lv_iload C.E.hx C.E.hb dL_law_716 (lv_at hl 0 rfl) ?_
    refine lv_iload C.E.hx C.E.hb dL_law_718 (lv_at hl 6 rfl) ?_
    refine lv_icmp_ge (tgt := 809) C.E.hx C.E.hb dL_law_720 (by decide) (fun c_62 => ?_) (fun c_62 => ?_)
    · rw [if_pos c_62] at h
      exact w_L_law_J809 C T hk kx h (lv_sub hl [2, 3, 5, 6, 7, 8, 9, 10, 11, 12, 13, 14] rfl)
    · rw [if_neg c_62] at h
      refine lv_iconst (v := 0) C.E.hx C.E.hb dL_law_723 (by decide) ?_
      refine lv_istore (lv' := [(22, .int 0), (21, .int ((x15 + 1) + r_27)), (20, .int ((x14 + 1) + r_25)), (0, .ref b), (1, .ref (ad 0)), (2, .int x2), (3, .int x3), (4, .int x4), (5, .int x5), (6, .int x6), (7, .int x7), (8, .ref (ad 44)), (9, .ref (ad 45)), (10, .ref (ad 46)), (11, .ref (ad 47)), (12, .int x12), (14, .int x14), (15, .int x15)]) C.E.hx C.E.hb dL_law_724 hl (by decide) rfl (fun ls hl => ?_)
      refine lv_iload C.E.hx C.E.hb dL_law_726 (lv_at hl 17 rfl) ?_
      refine lv_istore (lv' := [(23, .int x15), (22, .int 0), (21, .int ((x15 + 1) + r_27)), (20, .int ((x14 + 1) + r_25)), (0, .ref b), (1, .ref (ad 0)), (2, .int x2), (3, .int x3), (4, .int x4), (5, .int x5), (6, .int x6), (7, .int x7), (8, .ref (ad 44)), (9, .ref (ad 45)), (10, .ref (ad 46)), (11, .ref (ad 47)), (12, .int x12), (14, .int x14), (15, .int x15)]) C.E.hx C.E.hb dL_law_728 hl (by decide) rfl (fun ls hl => ?_)
      obtain ⟨q_69, e_70, h⟩ := obind h
      refine w_L_law_L730 C T FU e_70 (lv_sub hl [4, 5, 7, 8, 9, 10, 11, 12, 13, 14, 15, 16, 17, 18, 3, 2, 1, 0] rfl) (fun {ls} hl => ?_)
      refine lv_aload_n C.E.hx C.E.hb dL_law_773 rfl (lv_at hl 1 rfl) ?_
      refine lv_iload C.E.hx C.E.hb dL_law_774 (lv_at hl 12 rfl) ?_
      refine lv_iload C.E.hx C.E.hb dL_law_776 (lv_at hl 13 rfl) ?_
      refine lv_iload C.E.hx C.E.hb dL_law_778 (lv_at hl 14 rfl) ?_
      refine lv_iload C.E.hx C.E.hb dL_law_780 (lv_at hl 15 rfl) ?_
      obtain ⟨r_71, e_72, h⟩ := obind h
      refine lc_68 C T e_72 hl.1 (Nat.le_of_ble_eq_true rfl) dL_law_782 ?_
      refine lv_iload C.E.hx C.E.hb dL_law_785 (lv_at hl 16 rfl) ?_
      refine lv_icmp_ne (tgt := 807) C.E.hx C.E.hb dL_law_787 (by decide) (fun c_73 => ?_) (fun c_73 => ?_)
      · rw [if_neg c_73] at h
        exact nomatch h
      · rw [if_pos c_73] at h
        refine lv_aload_n C.E.hx C.E.hb dL_law_790 rfl (lv_at hl 1 rfl) ?_
        refine lv_iload C.E.hx C.E.hb dL_law_791 (lv_at hl 12 rfl) ?_
        refine lv_iload C.E.hx C.E.hb dL_law_793 (lv_at hl 13 rfl) ?_
        refine lv_iload C.E.hx C.E.hb dL_law_795 (lv_at hl 14 rfl) ?_
        refine lv_iload C.E.hx C.E.hb dL_law_797 (lv_at hl 15 rfl) ?_
        obtain ⟨r_74, e_75, h⟩ := obind h
        refine lc_71 C T e_75 hl.1 (Nat.le_of_ble_eq_true rfl) dL_law_799 ?_
        refine lv_iload C.E.hx C.E.hb dL_law_802 (lv_at hl 16 rfl) ?_
        refine lv_icmp_eq (tgt := 809) C.E.hx C.E.hb dL_law_804 (by decide) (fun c_76 => ?_) (fun c_76 => ?_)
        · rw [if_pos c_76] at h
          exact w_L_law_J809 C T hk kx h (lv_sub hl [0, 1, 2, 3, 4, 5, 6, 7, 8, 9, 10, 11] rfl)
        · rw [if_neg c_76] at h
          exact nomatch h
def B_L_law_J653 (L : Nat) (xs : Nat → Int32) (k : Int32 → Int32 → Int32 → Int32 → (Nat → Int32) → (Nat → Nat → Int32) → (Nat → Nat → Int32) → Option ((Nat → Int32) × (Nat → Nat → Int32) × (Nat → Nat → Int32))) (I : Nat → Int32) (A B : Nat → Nat → Int32) (x2 x3 x4 x5 x6 x7 x12 x13 x14 x15 x17 x18 : Int32) : Option ((Nat → Int32) × (Nat → Nat → Int32) × (Nat → Nat → Int32)) := if 7 ≤ x13 then B_L_law_J680 L xs k I A B x2 x3 x4 x5 x6 x7 x12 x14 x15 else (if (B_X6_spent I A 0) = ((x18 + (B_X6_energy I A)) - x17) then B_L_law_J680 L xs k I A B x2 x3 x4 x5 x6 x7 x12 x14 x15 else none)
set_option maxHeartbeats 4000000 in
set_option maxRecDepth 100000 in
theorem w_L_law_J653 (C : LW p l s m #[Value.ref b] meth c D cyI ad b L xs) {I : Nat → Int32} {A B : Nat → Nat → Int32} {H : Heap} {locs : List Loc} (T : LT s D cyI ad I A B H locs) {x2 x3 x4 x5 x6 x7 x12 x13 x14 x15 x17 x18 : Int32} {k : Int32 → Int32 → Int32 → Int32 → (Nat → Int32) → (Nat → Nat → Int32) → (Nat → Nat → Int32) → Option ((Nat → Int32) × (Nat → Nat → Int32) × (Nat → Nat → Int32))} {o : (Nat → Int32) × (Nat → Nat → Int32) × (Nat → Nat → Int32)} (hk : ∀ {x5 x6 x7 x12 : Int32} {I : Nat → Int32} {A B : Nat → Nat → Int32} {H : Heap} {locs : List Loc} (_ : LT s D cyI ad I A B H locs) (_ : k x5 x6 x7 x12 I A B = some o) {ls : Array Slot}, lv_has ls 28 [(0, .ref b), (1, .ref (ad 0)), (3, .int x3), (4, .int x4), (5, .int x5), (6, .int x6), (7, .int x7), (8, .ref (ad 44)), (9, .ref (ad 45)), (10, .ref (ad 46)), (11, .ref (ad 47)), (12, .int x12)] → W p l e room_1 s m #[Value.ref b] below meth c H locs 48 2539 (lw_Z below #[Value.ref b] s) (F0 m 81 ls [])) (kx : ∀ {H : Heap} {locs : List Loc} (_ : LT s D cyI ad o.1 o.2.1 o.2.2 H locs) {ls : Array Slot}, lv_has ls 28 [] → W p l e room_1 s m #[Value.ref b] below meth c H locs 48 2539 (lw_Z below #[Value.ref b] s) (F0 m 971 ls [])) (h : B_L_law_J653 L xs k I A B x2 x3 x4 x5 x6 x7 x12 x13 x14 x15 x17 x18 = some o) {ls : Array Slot} (hl : lv_has ls 28 [(0, .ref b), (1, .ref (ad 0)), (2, .int x2), (3, .int x3), (4, .int x4), (5, .int x5), (6, .int x6), (7, .int x7), (8, .ref (ad 44)), (9, .ref (ad 45)), (10, .ref (ad 46)), (11, .ref (ad 47)), (12, .int x12), (13, .int x13), (14, .int x14), (15, .int x15), (17, .int x17), (18, .int x18)]) : W p l e room_1 s m #[Value.ref b] below meth c H locs 48 2539 (lw_Z below #[Value.ref b] s) (F0 m 653 ls []) := by
  unfold B_L_law_J653 at h
  refine lv_iload C.E.hx C.E.hb dL_law_653 (lv_at hl 13 rfl) ?_
  refine lv_bipush (v := 7) C.E.hx C.E.hb dL_law_655 (by decide) ?_
  refine lv_icmp_ge (tgt := 680) C.E.hx C.E.hb dL_law_657 (by decide) (fun c_24 => ?_) (fun c_24 => ?_)
  · rw [if_pos c_24] at h
    exact w_L_law_J680 C T hk kx h (lv_sub hl [0, 1, 2, 3, 4, 5, 6, 7, 8, 9, 10, 11, 12, 14, 15] rfl)
  · rw [if_neg c_24] at h
    refine lv_aload_n C.E.hx C.E.hb dL_law_660 rfl (lv_at hl 1 rfl) ?_
    refine lv_iconst (v := 0) C.E.hx C.E.hb dL_law_661 (by decide) ?_
    refine lc_30 C T hl.1 (Nat.le_of_ble_eq_true rfl) dL_law_662 ?_
    refine lv_iload C.E.hx C.E.hb dL_law_665 (lv_at hl 17 rfl) ?_
    refine lv_aload_n C.E.hx C.E.hb dL_law_667 rfl (lv_at hl 1 rfl) ?_
    refine lc_26 C T hl.1 (Nat.le_of_ble_eq_true rfl) dL_law_668 ?_
    refine lv_iadd C.E.hx C.E.hb dL_law_671 ?_
    refine lv_iload C.E.hx C.E.hb dL_law_672 (lv_at hl 16 rfl) ?_
    refine lv_isub C.E.hx C.E.hb dL_law_674 ?_
    refine lv_icmp_eq (tgt := 680) C.E.hx C.E.hb dL_law_675 (by decide) (fun c_77 => ?_) (fun c_77 => ?_)
    · rw [if_pos c_77] at h
      exact w_L_law_J680 C T hk kx h (lv_sub hl [0, 1, 2, 3, 4, 5, 6, 7, 8, 9, 10, 11, 12, 14, 15] rfl)
    · rw [if_neg c_77] at h
      exact nomatch h
def B_L_law_J598 (L : Nat) (xs : Nat → Int32) (k : Int32 → Int32 → Int32 → Int32 → (Nat → Int32) → (Nat → Nat → Int32) → (Nat → Nat → Int32) → Option ((Nat → Int32) × (Nat → Nat → Int32) × (Nat → Nat → Int32))) (I : Nat → Int32) (A B : Nat → Nat → Int32) (x2 x3 x4 x5 x6 x7 x12 x13 x14 x15 x17 x18 x19 : Int32) : Option ((Nat → Int32) × (Nat → Nat → Int32) × (Nat → Nat → Int32)) := if (B_X6_energy I A) = ((B_X6_spent I A 0) - (B_X6_spent I A 1)) then ((B_X6_energyAnew I A).bind fun r_19 => if r_19 = (B_X6_energy I A) then (if 0 ≤ (B_X6_energy I A) then (if 7 ≤ x13 then B_L_law_J653 L xs k I A B x2 x3 x4 x5 x6 x7 x12 x13 x14 x15 x17 x18 else (if (B_X6_spent I A 1) = x19 then B_L_law_J653 L xs k I A B x2 x3 x4 x5 x6 x7 x12 x13 x14 x15 x17 x18 else none)) else none) else none) else none
set_option maxHeartbeats 4000000 in
set_option maxRecDepth 100000 in
theorem w_L_law_J598 (C : LW p l s m #[Value.ref b] meth c D cyI ad b L xs) {I : Nat → Int32} {A B : Nat → Nat → Int32} {H : Heap} {locs : List Loc} (T : LT s D cyI ad I A B H locs) {x2 x3 x4 x5 x6 x7 x12 x13 x14 x15 x17 x18 x19 : Int32} {k : Int32 → Int32 → Int32 → Int32 → (Nat → Int32) → (Nat → Nat → Int32) → (Nat → Nat → Int32) → Option ((Nat → Int32) × (Nat → Nat → Int32) × (Nat → Nat → Int32))} {o : (Nat → Int32) × (Nat → Nat → Int32) × (Nat → Nat → Int32)} (hk : ∀ {x5 x6 x7 x12 : Int32} {I : Nat → Int32} {A B : Nat → Nat → Int32} {H : Heap} {locs : List Loc} (_ : LT s D cyI ad I A B H locs) (_ : k x5 x6 x7 x12 I A B = some o) {ls : Array Slot}, lv_has ls 28 [(0, .ref b), (1, .ref (ad 0)), (3, .int x3), (4, .int x4), (5, .int x5), (6, .int x6), (7, .int x7), (8, .ref (ad 44)), (9, .ref (ad 45)), (10, .ref (ad 46)), (11, .ref (ad 47)), (12, .int x12)] → W p l e room_1 s m #[Value.ref b] below meth c H locs 48 2539 (lw_Z below #[Value.ref b] s) (F0 m 81 ls [])) (kx : ∀ {H : Heap} {locs : List Loc} (_ : LT s D cyI ad o.1 o.2.1 o.2.2 H locs) {ls : Array Slot}, lv_has ls 28 [] → W p l e room_1 s m #[Value.ref b] below meth c H locs 48 2539 (lw_Z below #[Value.ref b] s) (F0 m 971 ls [])) (h : B_L_law_J598 L xs k I A B x2 x3 x4 x5 x6 x7 x12 x13 x14 x15 x17 x18 x19 = some o) {ls : Array Slot} (hl : lv_has ls 28 [(0, .ref b), (1, .ref (ad 0)), (2, .int x2), (3, .int x3), (4, .int x4), (5, .int x5), (6, .int x6), (7, .int x7), (8, .ref (ad 44)), (9, .ref (ad 45)), (10, .ref (ad 46)), (11, .ref (ad 47)), (12, .int x12), (13, .int x13), (14, .int x14), (15, .int x15), (17, .int x17), (18, .int x18), (19, .int x19)]) : W p l e room_1 s m #[Value.ref b] below meth c H locs 48 2539 (lw_Z below #[Value.ref b] s) (F0 m 598 ls []) := by
  unfold B_L_law_J598 at h
  refine lv_aload_n C.E.hx C.E.hb dL_law_598 rfl (lv_at hl 1 rfl) ?_
  refine lc_26 C T hl.1 (Nat.le_of_ble_eq_true rfl) dL_law_599 ?_
  refine lv_aload_n C.E.hx C.E.hb dL_law_602 rfl (lv_at hl 1 rfl) ?_
  refine lv_iconst (v := 0) C.E.hx C.E.hb dL_law_603 (by decide) ?_
  refine lc_30 C T hl.1 (Nat.le_of_ble_eq_true rfl) dL_law_604 ?_
  refine lv_aload_n C.E.hx C.E.hb dL_law_607 rfl (lv_at hl 1 rfl) ?_
  refine lv_iconst (v := 1) C.E.hx C.E.hb dL_law_608 (by decide) ?_
  refine lc_30 C T hl.1 (Nat.le_of_ble_eq_true rfl) dL_law_609 ?_
  refine lv_isub C.E.hx C.E.hb dL_law_612 ?_
  refine lv_icmp_ne (tgt := 634) C.E.hx C.E.hb dL_law_613 (by decide) (fun c_18 => ?_) (fun c_18 => ?_)
  · rw [if_neg c_18] at h
    exact nomatch h
  · rw [if_pos c_18] at h
    refine lv_aload_n C.E.hx C.E.hb dL_law_616 rfl (lv_at hl 1 rfl) ?_
    obtain ⟨r_19, e_20, h⟩ := obind h
    refine lc_62 C T e_20 hl.1 (Nat.le_of_ble_eq_true rfl) dL_law_617 ?_
    refine lv_aload_n C.E.hx C.E.hb dL_law_620 rfl (lv_at hl 1 rfl) ?_
    refine lc_26 C T hl.1 (Nat.le_of_ble_eq_true rfl) dL_law_621 ?_
    refine lv_icmp_ne (tgt := 634) C.E.hx C.E.hb dL_law_624 (by decide) (fun c_21 => ?_) (fun c_21 => ?_)
    · rw [if_neg c_21] at h
      exact nomatch h
    · rw [if_pos c_21] at h
      refine lv_aload_n C.E.hx C.E.hb dL_law_627 rfl (lv_at hl 1 rfl) ?_
      refine lc_26 C T hl.1 (Nat.le_of_ble_eq_true rfl) dL_law_628 ?_
      refine lv_if_ge (tgt := 636) C.E.hx C.E.hb dL_law_631 (by decide) (fun c_22 => ?_) (fun c_22 => ?_)
      · rw [if_pos c_22] at h
        refine lv_iload C.E.hx C.E.hb dL_law_636 (lv_at hl 13 rfl) ?_
        refine lv_bipush (v := 7) C.E.hx C.E.hb dL_law_638 (by decide) ?_
        refine lv_icmp_ge (tgt := 653) C.E.hx C.E.hb dL_law_640 (by decide) (fun c_23 => ?_) (fun c_23 => ?_)
        · rw [if_pos c_23] at h
          exact w_L_law_J653 C T hk kx h (lv_sub hl [0, 1, 2, 3, 4, 5, 6, 7, 8, 9, 10, 11, 12, 13, 14, 15, 16, 17] rfl)
        · rw [if_neg c_23] at h
          refine lv_aload_n C.E.hx C.E.hb dL_law_643 rfl (lv_at hl 1 rfl) ?_
          refine lv_iconst (v := 1) C.E.hx C.E.hb dL_law_644 (by decide) ?_
          refine lc_30 C T hl.1 (Nat.le_of_ble_eq_true rfl) dL_law_645 ?_
          refine lv_iload C.E.hx C.E.hb dL_law_648 (lv_at hl 18 rfl) ?_
          refine lv_icmp_ne (tgt := 678) C.E.hx C.E.hb dL_law_650 (by decide) (fun c_78 => ?_) (fun c_78 => ?_)
          · rw [if_neg c_78] at h
            exact nomatch h
          · rw [if_pos c_78] at h
            exact w_L_law_J653 C T hk kx h (lv_sub hl [0, 1, 2, 3, 4, 5, 6, 7, 8, 9, 10, 11, 12, 13, 14, 15, 16, 17] rfl)
      · rw [if_neg c_22] at h
        exact nomatch h
def B_L_law_J535 (L : Nat) (xs : Nat → Int32) (k : Int32 → Int32 → Int32 → Int32 → (Nat → Int32) → (Nat → Nat → Int32) → (Nat → Nat → Int32) → Option ((Nat → Int32) × (Nat → Nat → Int32) × (Nat → Nat → Int32))) (I : Nat → Int32) (A B : Nat → Nat → Int32) (x2 x3 x4 x5 x6 x7 x12 x13 x14 x15 x17 x18 x19 : Int32) : Option ((Nat → Int32) × (Nat → Nat → Int32) × (Nat → Nat → Int32)) := if x13 ≤ 6 then B_L_law_J598 L xs k I A B x2 x3 x4 x5 x6 x7 x12 x13 x14 x15 x17 x18 x19 else ((B_L_at ((x2 >>> (16 &&& 31))) 3).bind fun r_79 => (B_X6_tick I A ((1 + r_79))).bind fun q_81 => if q_81.1 < 0 then none else (if (B_X6_spent q_81.2.1 q_81.2.2 1) = (x19 + q_81.1) then (if (B_X6_now q_81.2.1 q_81.2.2) = (x7 + (1 + r_79)) then B_L_law_J598 L xs k q_81.2.1 q_81.2.2 B x2 x3 x4 x5 x6 ((x7 + (1 + r_79))) x12 x13 x14 x15 x17 x18 x19 else none) else none))
set_option maxHeartbeats 4000000 in
set_option maxRecDepth 100000 in
theorem w_L_law_J535 (C : LW p l s m #[Value.ref b] meth c D cyI ad b L xs) {I : Nat → Int32} {A B : Nat → Nat → Int32} {H : Heap} {locs : List Loc} (T : LT s D cyI ad I A B H locs) {x2 x3 x4 x5 x6 x7 x12 x13 x14 x15 x17 x18 x19 : Int32} {k : Int32 → Int32 → Int32 → Int32 → (Nat → Int32) → (Nat → Nat → Int32) → (Nat → Nat → Int32) → Option ((Nat → Int32) × (Nat → Nat → Int32) × (Nat → Nat → Int32))} {o : (Nat → Int32) × (Nat → Nat → Int32) × (Nat → Nat → Int32)} (hk : ∀ {x5 x6 x7 x12 : Int32} {I : Nat → Int32} {A B : Nat → Nat → Int32} {H : Heap} {locs : List Loc} (_ : LT s D cyI ad I A B H locs) (_ : k x5 x6 x7 x12 I A B = some o) {ls : Array Slot}, lv_has ls 28 [(0, .ref b), (1, .ref (ad 0)), (3, .int x3), (4, .int x4), (5, .int x5), (6, .int x6), (7, .int x7), (8, .ref (ad 44)), (9, .ref (ad 45)), (10, .ref (ad 46)), (11, .ref (ad 47)), (12, .int x12)] → W p l e room_1 s m #[Value.ref b] below meth c H locs 48 2539 (lw_Z below #[Value.ref b] s) (F0 m 81 ls [])) (kx : ∀ {H : Heap} {locs : List Loc} (_ : LT s D cyI ad o.1 o.2.1 o.2.2 H locs) {ls : Array Slot}, lv_has ls 28 [] → W p l e room_1 s m #[Value.ref b] below meth c H locs 48 2539 (lw_Z below #[Value.ref b] s) (F0 m 971 ls [])) (h : B_L_law_J535 L xs k I A B x2 x3 x4 x5 x6 x7 x12 x13 x14 x15 x17 x18 x19 = some o) {ls : Array Slot} (hl : lv_has ls 28 [(0, .ref b), (1, .ref (ad 0)), (2, .int x2), (3, .int x3), (4, .int x4), (5, .int x5), (6, .int x6), (7, .int x7), (8, .ref (ad 44)), (9, .ref (ad 45)), (10, .ref (ad 46)), (11, .ref (ad 47)), (12, .int x12), (13, .int x13), (14, .int x14), (15, .int x15), (17, .int x17), (18, .int x18), (19, .int x19)]) : W p l e room_1 s m #[Value.ref b] below meth c H locs 48 2539 (lw_Z below #[Value.ref b] s) (F0 m 535 ls []) := by
  unfold B_L_law_J535 at h
  refine lv_iload C.E.hx C.E.hb dL_law_535 (lv_at hl 13 rfl) ?_
  refine lv_bipush (v := 6) C.E.hx C.E.hb dL_law_537 (by decide) ?_
  refine lv_icmp_le (tgt := 598) C.E.hx C.E.hb dL_law_539 (by decide) (fun c_17 => ?_) (fun c_17 => ?_)
  · rw [if_pos c_17] at h
    exact w_L_law_J598 C T hk kx h (lv_sub hl [0, 1, 2, 3, 4, 5, 6, 7, 8, 9, 10, 11, 12, 13, 14, 15, 16, 17, 18] rfl)
  · rw [if_neg c_17] at h
    refine lv_iconst (v := 1) C.E.hx C.E.hb dL_law_542 (by decide) ?_
    refine lv_iload_n C.E.hx C.E.hb dL_law_543 rfl (lv_at hl 2 rfl) ?_
    refine lv_bipush (v := 16) C.E.hx C.E.hb dL_law_544 (by decide) ?_
    refine lv_ishr C.E.hx C.E.hb dL_law_546 ?_
    refine lv_iconst (v := 3) C.E.hx C.E.hb dL_law_547 (by decide) ?_
    obtain ⟨r_79, e_80, h⟩ := obind h
    refine lc_at C e_80 hl.1 (Nat.le_of_ble_eq_true rfl) dL_law_548 ?_
    refine lv_iadd C.E.hx C.E.hb dL_law_551 ?_
    refine lv_istore (lv' := [(20, .int (1 + r_79)), (0, .ref b), (1, .ref (ad 0)), (2, .int x2), (3, .int x3), (4, .int x4), (5, .int x5), (6, .int x6), (7, .int x7), (8, .ref (ad 44)), (9, .ref (ad 45)), (10, .ref (ad 46)), (11, .ref (ad 47)), (12, .int x12), (13, .int x13), (14, .int x14), (15, .int x15), (17, .int x17), (18, .int x18), (19, .int x19)]) C.E.hx C.E.hb dL_law_552 hl (by decide) rfl (fun ls hl => ?_)
    refine lv_iload C.E.hx C.E.hb dL_law_554 (lv_at hl 8 rfl) ?_
    refine lv_iload C.E.hx C.E.hb dL_law_556 (lv_at hl 0 rfl) ?_
    refine lv_iadd C.E.hx C.E.hb dL_law_558 ?_
    refine lv_istore (lv' := [(7, .int (x7 + (1 + r_79))), (20, .int (1 + r_79)), (0, .ref b), (1, .ref (ad 0)), (2, .int x2), (3, .int x3), (4, .int x4), (5, .int x5), (6, .int x6), (8, .ref (ad 44)), (9, .ref (ad 45)), (10, .ref (ad 46)), (11, .ref (ad 47)), (12, .int x12), (13, .int x13), (14, .int x14), (15, .int x15), (17, .int x17), (18, .int x18), (19, .int x19)]) C.E.hx C.E.hb dL_law_559 hl (by decide) rfl (fun ls hl => ?_)
    refine lv_aload_n C.E.hx C.E.hb dL_law_561 rfl (lv_at hl 3 rfl) ?_
    refine lv_iload C.E.hx C.E.hb dL_law_562 (lv_at hl 1 rfl) ?_
    obtain ⟨q_81, e_82, h⟩ := obind h
    refine lc_55 C T e_82 hl.1 (Nat.le_of_ble_eq_true rfl) dL_law_564 (fun H locs T => ?_)
    refine lv_istore (lv' := [(21, .int q_81.1), (7, .int (x7 + (1 + r_79))), (20, .int (1 + r_79)), (0, .ref b), (1, .ref (ad 0)), (2, .int x2), (3, .int x3), (4, .int x4), (5, .int x5), (6, .int x6), (8, .ref (ad 44)), (9, .ref (ad 45)), (10, .ref (ad 46)), (11, .ref (ad 47)), (12, .int x12), (13, .int x13), (14, .int x14), (15, .int x15), (17, .int x17), (18, .int x18), (19, .int x19)]) C.E.hx C.E.hb dL_law_567 hl (by decide) rfl (fun ls hl => ?_)
    refine lv_iload C.E.hx C.E.hb dL_law_569 (lv_at hl 0 rfl) ?_
    refine lv_if_lt (tgt := 596) C.E.hx C.E.hb dL_law_571 (by decide) (fun c_83 => ?_) (fun c_83 => ?_)
    · rw [if_pos c_83] at h
      exact nomatch h
    · rw [if_neg c_83] at h
      refine lv_aload_n C.E.hx C.E.hb dL_law_574 rfl (lv_at hl 4 rfl) ?_
      refine lv_iconst (v := 1) C.E.hx C.E.hb dL_law_575 (by decide) ?_
      refine lc_30 C T hl.1 (Nat.le_of_ble_eq_true rfl) dL_law_576 ?_
      refine lv_iload C.E.hx C.E.hb dL_law_579 (lv_at hl 20 rfl) ?_
      refine lv_iload C.E.hx C.E.hb dL_law_581 (lv_at hl 0 rfl) ?_
      refine lv_iadd C.E.hx C.E.hb dL_law_583 ?_
      refine lv_icmp_ne (tgt := 596) C.E.hx C.E.hb dL_law_584 (by decide) (fun c_84 => ?_) (fun c_84 => ?_)
      · rw [if_neg c_84] at h
        exact nomatch h
      · rw [if_pos c_84] at h
        refine lv_aload_n C.E.hx C.E.hb dL_law_587 rfl (lv_at hl 4 rfl) ?_
        refine lc_59 C T hl.1 (Nat.le_of_ble_eq_true rfl) dL_law_588 ?_
        refine lv_iload C.E.hx C.E.hb dL_law_591 (lv_at hl 1 rfl) ?_
        refine lv_icmp_eq (tgt := 598) C.E.hx C.E.hb dL_law_593 (by decide) (fun c_85 => ?_) (fun c_85 => ?_)
        · rw [if_pos c_85] at h
          exact w_L_law_J598 C T hk kx h (lv_sub hl [3, 4, 5, 6, 7, 8, 9, 1, 10, 11, 12, 13, 14, 15, 16, 17, 18, 19, 20] rfl)
        · rw [if_neg c_85] at h
          exact nomatch h
def B_L_law_J473 (L : Nat) (xs : Nat → Int32) (k : Int32 → Int32 → Int32 → Int32 → (Nat → Int32) → (Nat → Nat → Int32) → (Nat → Nat → Int32) → Option ((Nat → Int32) × (Nat → Nat → Int32) × (Nat → Nat → Int32))) (I : Nat → Int32) (A B : Nat → Nat → Int32) (x2 x3 x4 x5 x6 x7 x12 x13 x14 x15 x16 x17 x18 x19 : Int32) : Option ((Nat → Int32) × (Nat → Nat → Int32) × (Nat → Nat → Int32)) := if x13 = 6 then (if x5 ≤ 0 then B_L_law_J535 L xs k I A B x2 x3 x4 x5 x6 x7 x12 x13 x14 x15 x17 x18 x19 else (if 35 ≤ x6 then B_L_law_J535 L xs k I A B x2 x3 x4 x5 x6 x7 x12 x13 x14 x15 x17 x18 x19 else ((B_L_at ((x2 >>> (16 &&& 31))) x5).bind fun r_88 => (B_L_at ((x2 >>> (20 &&& 31))) 3).bind fun r_90 => (B_L_at ((x2 >>> (4 &&& 31))) 101).bind fun r_92 => (B_X6_program I A r_88 (((x7 + 1) + r_90)) x16 r_92).bind fun q_94 => B_L_law_J598 L xs k q_94.2.1 q_94.2.2 B x2 x3 x4 x5 ((x6 + 1)) x7 x12 x13 x14 x15 x17 x18 x19))) else B_L_law_J535 L xs k I A B x2 x3 x4 x5 x6 x7 x12 x13 x14 x15 x17 x18 x19
set_option maxHeartbeats 4000000 in
set_option maxRecDepth 100000 in
theorem w_L_law_J473 (C : LW p l s m #[Value.ref b] meth c D cyI ad b L xs) {I : Nat → Int32} {A B : Nat → Nat → Int32} {H : Heap} {locs : List Loc} (T : LT s D cyI ad I A B H locs) {x2 x3 x4 x5 x6 x7 x12 x13 x14 x15 x16 x17 x18 x19 : Int32} {k : Int32 → Int32 → Int32 → Int32 → (Nat → Int32) → (Nat → Nat → Int32) → (Nat → Nat → Int32) → Option ((Nat → Int32) × (Nat → Nat → Int32) × (Nat → Nat → Int32))} {o : (Nat → Int32) × (Nat → Nat → Int32) × (Nat → Nat → Int32)} (hk : ∀ {x5 x6 x7 x12 : Int32} {I : Nat → Int32} {A B : Nat → Nat → Int32} {H : Heap} {locs : List Loc} (_ : LT s D cyI ad I A B H locs) (_ : k x5 x6 x7 x12 I A B = some o) {ls : Array Slot}, lv_has ls 28 [(0, .ref b), (1, .ref (ad 0)), (3, .int x3), (4, .int x4), (5, .int x5), (6, .int x6), (7, .int x7), (8, .ref (ad 44)), (9, .ref (ad 45)), (10, .ref (ad 46)), (11, .ref (ad 47)), (12, .int x12)] → W p l e room_1 s m #[Value.ref b] below meth c H locs 48 2539 (lw_Z below #[Value.ref b] s) (F0 m 81 ls [])) (kx : ∀ {H : Heap} {locs : List Loc} (_ : LT s D cyI ad o.1 o.2.1 o.2.2 H locs) {ls : Array Slot}, lv_has ls 28 [] → W p l e room_1 s m #[Value.ref b] below meth c H locs 48 2539 (lw_Z below #[Value.ref b] s) (F0 m 971 ls [])) (h : B_L_law_J473 L xs k I A B x2 x3 x4 x5 x6 x7 x12 x13 x14 x15 x16 x17 x18 x19 = some o) {ls : Array Slot} (hl : lv_has ls 28 [(0, .ref b), (1, .ref (ad 0)), (2, .int x2), (3, .int x3), (4, .int x4), (5, .int x5), (6, .int x6), (7, .int x7), (8, .ref (ad 44)), (9, .ref (ad 45)), (10, .ref (ad 46)), (11, .ref (ad 47)), (12, .int x12), (13, .int x13), (14, .int x14), (15, .int x15), (16, .int x16), (17, .int x17), (18, .int x18), (19, .int x19)]) : W p l e room_1 s m #[Value.ref b] below meth c H locs 48 2539 (lw_Z below #[Value.ref b] s) (F0 m 473 ls []) := by
  unfold B_L_law_J473 at h
  refine lv_iload C.E.hx C.E.hb dL_law_473 (lv_at hl 13 rfl) ?_
  refine lv_bipush (v := 6) C.E.hx C.E.hb dL_law_475 (by decide) ?_
  refine lv_icmp_ne (tgt := 535) C.E.hx C.E.hb dL_law_477 (by decide) (fun c_16 => ?_) (fun c_16 => ?_)
  · rw [if_neg c_16] at h
    exact w_L_law_J535 C T hk kx h (lv_sub hl [0, 1, 2, 3, 4, 5, 6, 7, 8, 9, 10, 11, 12, 13, 14, 15, 17, 18, 19] rfl)
  · rw [if_pos c_16] at h
    refine lv_iload C.E.hx C.E.hb dL_law_480 (lv_at hl 5 rfl) ?_
    refine lv_if_le (tgt := 535) C.E.hx C.E.hb dL_law_482 (by decide) (fun c_86 => ?_) (fun c_86 => ?_)
    · rw [if_pos c_86] at h
      exact w_L_law_J535 C T hk kx h (lv_sub hl [0, 1, 2, 3, 4, 5, 6, 7, 8, 9, 10, 11, 12, 13, 14, 15, 17, 18, 19] rfl)
    · rw [if_neg c_86] at h
      refine lv_iload C.E.hx C.E.hb dL_law_485 (lv_at hl 6 rfl) ?_
      refine lv_bipush (v := 35) C.E.hx C.E.hb dL_law_487 (by decide) ?_
      refine lv_icmp_ge (tgt := 535) C.E.hx C.E.hb dL_law_489 (by decide) (fun c_87 => ?_) (fun c_87 => ?_)
      · rw [if_pos c_87] at h
        exact w_L_law_J535 C T hk kx h (lv_sub hl [0, 1, 2, 3, 4, 5, 6, 7, 8, 9, 10, 11, 12, 13, 14, 15, 17, 18, 19] rfl)
      · rw [if_neg c_87] at h
        refine lv_iinc (v := (x6 + 1)) (lv' := [(6, .int (x6 + 1)), (0, .ref b), (1, .ref (ad 0)), (2, .int x2), (3, .int x3), (4, .int x4), (5, .int x5), (7, .int x7), (8, .ref (ad 44)), (9, .ref (ad 45)), (10, .ref (ad 46)), (11, .ref (ad 47)), (12, .int x12), (13, .int x13), (14, .int x14), (15, .int x15), (16, .int x16), (17, .int x17), (18, .int x18), (19, .int x19)]) C.E.hx C.E.hb dL_law_492 hl (k := 6) rfl rfl (by decide) rfl (fun ls hl => ?_)
        refine lv_aload_n C.E.hx C.E.hb dL_law_495 rfl (lv_at hl 2 rfl) ?_
        refine lv_iload_n C.E.hx C.E.hb dL_law_496 rfl (lv_at hl 3 rfl) ?_
        refine lv_bipush (v := 16) C.E.hx C.E.hb dL_law_497 (by decide) ?_
        refine lv_ishr C.E.hx C.E.hb dL_law_499 ?_
        refine lv_iload C.E.hx C.E.hb dL_law_500 (lv_at hl 6 rfl) ?_
        obtain ⟨r_88, e_89, h⟩ := obind h
        refine lc_at C e_89 hl.1 (Nat.le_of_ble_eq_true rfl) dL_law_502 ?_
        refine lv_iload C.E.hx C.E.hb dL_law_505 (lv_at hl 7 rfl) ?_
        refine lv_iconst (v := 1) C.E.hx C.E.hb dL_law_507 (by decide) ?_
        refine lv_iadd C.E.hx C.E.hb dL_law_508 ?_
        refine lv_iload_n C.E.hx C.E.hb dL_law_509 rfl (lv_at hl 3 rfl) ?_
        refine lv_bipush (v := 20) C.E.hx C.E.hb dL_law_510 (by decide) ?_
        refine lv_ishr C.E.hx C.E.hb dL_law_512 ?_
        refine lv_iconst (v := 3) C.E.hx C.E.hb dL_law_513 (by decide) ?_
        obtain ⟨r_90, e_91, h⟩ := obind h
        refine lc_at C e_91 hl.1 (Nat.le_of_ble_eq_true rfl) dL_law_514 ?_
        refine lv_iadd C.E.hx C.E.hb dL_law_517 ?_
        refine lv_iload C.E.hx C.E.hb dL_law_518 (lv_at hl 16 rfl) ?_
        refine lv_iload_n C.E.hx C.E.hb dL_law_520 rfl (lv_at hl 3 rfl) ?_
        refine lv_iconst (v := 4) C.E.hx C.E.hb dL_law_521 (by decide) ?_
        refine lv_ishr C.E.hx C.E.hb dL_law_522 ?_
        refine lv_bipush (v := 101) C.E.hx C.E.hb dL_law_523 (by decide) ?_
        obtain ⟨r_92, e_93, h⟩ := obind h
        refine lc_at C e_93 hl.1 (Nat.le_of_ble_eq_true rfl) dL_law_525 ?_
        obtain ⟨q_94, e_95, h⟩ := obind h
        refine lc_52 C T e_95 hl.1 (Nat.le_of_ble_eq_true rfl) dL_law_528 (fun H locs T => ?_)
        refine lv_pop C.E.hx C.E.hb dL_law_531 rfl ?_
        refine lv_goto (tgt := 598) C.E.hx C.E.hb dL_law_532 (by decide) ?_
        exact w_L_law_J598 C T hk kx h (lv_sub hl [1, 2, 3, 4, 5, 6, 0, 7, 8, 9, 10, 11, 12, 13, 14, 15, 17, 18, 19] rfl)
def B_L_law_J427 (L : Nat) (xs : Nat → Int32) (k : Int32 → Int32 → Int32 → Int32 → (Nat → Int32) → (Nat → Nat → Int32) → (Nat → Nat → Int32) → Option ((Nat → Int32) × (Nat → Nat → Int32) × (Nat → Nat → Int32))) (I : Nat → Int32) (A B : Nat → Nat → Int32) (x2 x3 x4 x5 x6 x7 x12 x13 x14 x15 x16 x17 x18 x19 : Int32) : Option ((Nat → Int32) × (Nat → Nat → Int32) × (Nat → Nat → Int32)) := if x13 = 5 then (if x5 ≤ 0 then B_L_law_J473 L xs k I A B x2 x3 x4 x5 x6 x7 x12 x13 x14 x15 x16 x17 x18 x19 else ((B_L_at ((x2 >>> (16 &&& 31))) x5).bind fun r_97 => (B_L_at ((x2 >>> (4 &&& 31))) 101).bind fun r_99 => (B_X6_drive I A r_97 x16 r_99).bind fun q_101 => if q_101.1 = ((B_X6_energy q_101.2.1 q_101.2.2) - x17) then B_L_law_J598 L xs k q_101.2.1 q_101.2.2 B x2 x3 x4 x5 x6 x7 x12 x13 x14 x15 x17 x18 x19 else none)) else B_L_law_J473 L xs k I A B x2 x3 x4 x5 x6 x7 x12 x13 x14 x15 x16 x17 x18 x19
set_option maxHeartbeats 4000000 in
set_option maxRecDepth 100000 in
theorem w_L_law_J427 (C : LW p l s m #[Value.ref b] meth c D cyI ad b L xs) {I : Nat → Int32} {A B : Nat → Nat → Int32} {H : Heap} {locs : List Loc} (T : LT s D cyI ad I A B H locs) {x2 x3 x4 x5 x6 x7 x12 x13 x14 x15 x16 x17 x18 x19 : Int32} {k : Int32 → Int32 → Int32 → Int32 → (Nat → Int32) → (Nat → Nat → Int32) → (Nat → Nat → Int32) → Option ((Nat → Int32) × (Nat → Nat → Int32) × (Nat → Nat → Int32))} {o : (Nat → Int32) × (Nat → Nat → Int32) × (Nat → Nat → Int32)} (hk : ∀ {x5 x6 x7 x12 : Int32} {I : Nat → Int32} {A B : Nat → Nat → Int32} {H : Heap} {locs : List Loc} (_ : LT s D cyI ad I A B H locs) (_ : k x5 x6 x7 x12 I A B = some o) {ls : Array Slot}, lv_has ls 28 [(0, .ref b), (1, .ref (ad 0)), (3, .int x3), (4, .int x4), (5, .int x5), (6, .int x6), (7, .int x7), (8, .ref (ad 44)), (9, .ref (ad 45)), (10, .ref (ad 46)), (11, .ref (ad 47)), (12, .int x12)] → W p l e room_1 s m #[Value.ref b] below meth c H locs 48 2539 (lw_Z below #[Value.ref b] s) (F0 m 81 ls [])) (kx : ∀ {H : Heap} {locs : List Loc} (_ : LT s D cyI ad o.1 o.2.1 o.2.2 H locs) {ls : Array Slot}, lv_has ls 28 [] → W p l e room_1 s m #[Value.ref b] below meth c H locs 48 2539 (lw_Z below #[Value.ref b] s) (F0 m 971 ls [])) (h : B_L_law_J427 L xs k I A B x2 x3 x4 x5 x6 x7 x12 x13 x14 x15 x16 x17 x18 x19 = some o) {ls : Array Slot} (hl : lv_has ls 28 [(0, .ref b), (1, .ref (ad 0)), (2, .int x2), (3, .int x3), (4, .int x4), (5, .int x5), (6, .int x6), (7, .int x7), (8, .ref (ad 44)), (9, .ref (ad 45)), (10, .ref (ad 46)), (11, .ref (ad 47)), (12, .int x12), (13, .int x13), (14, .int x14), (15, .int x15), (16, .int x16), (17, .int x17), (18, .int x18), (19, .int x19)]) : W p l e room_1 s m #[Value.ref b] below meth c H locs 48 2539 (lw_Z below #[Value.ref b] s) (F0 m 427 ls []) := by
  unfold B_L_law_J427 at h
  refine lv_iload C.E.hx C.E.hb dL_law_427 (lv_at hl 13 rfl) ?_
  refine lv_iconst (v := 5) C.E.hx C.E.hb dL_law_429 (by decide) ?_
  refine lv_icmp_ne (tgt := 473) C.E.hx C.E.hb dL_law_430 (by decide) (fun c_15 => ?_) (fun c_15 => ?_)
  · rw [if_neg c_15] at h
    exact w_L_law_J473 C T hk kx h (lv_sub hl [0, 1, 2, 3, 4, 5, 6, 7, 8, 9, 10, 11, 12, 13, 14, 15, 16, 17, 18, 19] rfl)
  · rw [if_pos c_15] at h
    refine lv_iload C.E.hx C.E.hb dL_law_433 (lv_at hl 5 rfl) ?_
    refine lv_if_le (tgt := 473) C.E.hx C.E.hb dL_law_435 (by decide) (fun c_96 => ?_) (fun c_96 => ?_)
    · rw [if_pos c_96] at h
      exact w_L_law_J473 C T hk kx h (lv_sub hl [0, 1, 2, 3, 4, 5, 6, 7, 8, 9, 10, 11, 12, 13, 14, 15, 16, 17, 18, 19] rfl)
    · rw [if_neg c_96] at h
      refine lv_aload_n C.E.hx C.E.hb dL_law_438 rfl (lv_at hl 1 rfl) ?_
      refine lv_iload_n C.E.hx C.E.hb dL_law_439 rfl (lv_at hl 2 rfl) ?_
      refine lv_bipush (v := 16) C.E.hx C.E.hb dL_law_440 (by decide) ?_
      refine lv_ishr C.E.hx C.E.hb dL_law_442 ?_
      refine lv_iload C.E.hx C.E.hb dL_law_443 (lv_at hl 5 rfl) ?_
      obtain ⟨r_97, e_98, h⟩ := obind h
      refine lc_at C e_98 hl.1 (Nat.le_of_ble_eq_true rfl) dL_law_445 ?_
      refine lv_iload C.E.hx C.E.hb dL_law_448 (lv_at hl 16 rfl) ?_
      refine lv_iload_n C.E.hx C.E.hb dL_law_450 rfl (lv_at hl 2 rfl) ?_
      refine lv_iconst (v := 4) C.E.hx C.E.hb dL_law_451 (by decide) ?_
      refine lv_ishr C.E.hx C.E.hb dL_law_452 ?_
      refine lv_bipush (v := 101) C.E.hx C.E.hb dL_law_453 (by decide) ?_
      obtain ⟨r_99, e_100, h⟩ := obind h
      refine lc_at C e_100 hl.1 (Nat.le_of_ble_eq_true rfl) dL_law_455 ?_
      obtain ⟨q_101, e_102, h⟩ := obind h
      refine lc_49 C T e_102 hl.1 (Nat.le_of_ble_eq_true rfl) dL_law_458 (fun H locs T => ?_)
      refine lv_aload_n C.E.hx C.E.hb dL_law_461 rfl (lv_at hl 1 rfl) ?_
      refine lc_26 C T hl.1 (Nat.le_of_ble_eq_true rfl) dL_law_462 ?_
      refine lv_iload C.E.hx C.E.hb dL_law_465 (lv_at hl 17 rfl) ?_
      refine lv_isub C.E.hx C.E.hb dL_law_467 ?_
      refine lv_icmp_eq (tgt := 598) C.E.hx C.E.hb dL_law_468 (by decide) (fun c_103 => ?_) (fun c_103 => ?_)
      · rw [if_pos c_103] at h
        exact w_L_law_J598 C T hk kx h (lv_sub hl [0, 1, 2, 3, 4, 5, 6, 7, 8, 9, 10, 11, 12, 13, 14, 15, 17, 18, 19] rfl)
      · rw [if_neg c_103] at h
        exact nomatch h
def B_L_law_L316 (L : Nat) (xs : Nat → Int32) (I : Nat → Int32) (A B : Nat → Nat → Int32) (x2 x3 x4 x5 x6 x7 x12 x13 x14 x15 x17 x18 x19 x21 x22 x23 : Int32) : Nat → Int32 → Int32 → Option (Int32)
  | 0 => fun _ _ => none
  | n + 1 => fun x20 x24 => if x21 ≤ x24 then some x20 else ((B_X6_told I A x24 x23 2).bind fun r_109 => if 0 ≤ r_109 then (B_L_law_L316 L xs I A B x2 x3 x4 x5 x6 x7 x12 x13 x14 x15 x17 x18 x19 x21 x22 x23 n) ((x20 &&& 0)) ((x24 + 1)) else (B_L_law_L316 L xs I A B x2 x3 x4 x5 x6 x7 x12 x13 x14 x15 x17 x18 x19 x21 x22 x23 n) ((x20 &&& 1)) ((x24 + 1)))
theorem B_L_law_L316_s (L : Nat) (xs : Nat → Int32) (I : Nat → Int32) (A B : Nat → Nat → Int32) (x2 x3 x4 x5 x6 x7 x12 x13 x14 x15 x17 x18 x19 x21 x22 x23 x20 x24 : Int32) (n : Nat) : B_L_law_L316 L xs I A B x2 x3 x4 x5 x6 x7 x12 x13 x14 x15 x17 x18 x19 x21 x22 x23 (n + 1) x20 x24 = if x21 ≤ x24 then some x20 else ((B_X6_told I A x24 x23 2).bind fun r_109 => if 0 ≤ r_109 then (B_L_law_L316 L xs I A B x2 x3 x4 x5 x6 x7 x12 x13 x14 x15 x17 x18 x19 x21 x22 x23 n) ((x20 &&& 0)) ((x24 + 1)) else (B_L_law_L316 L xs I A B x2 x3 x4 x5 x6 x7 x12 x13 x14 x15 x17 x18 x19 x21 x22 x23 n) ((x20 &&& 1)) ((x24 + 1))) := rfl
set_option maxHeartbeats 4000000 in
set_option maxRecDepth 100000 in
theorem w_L_law_L316 (C : LW p l s m #[Value.ref b] meth c D cyI ad b L xs) {I : Nat → Int32} {A B : Nat → Nat → Int32} {H : Heap} {locs : List Loc} (T : LT s D cyI ad I A B H locs) {x2 x3 x4 x5 x6 x7 x12 x13 x14 x15 x17 x18 x19 x21 x22 x23 : Int32} : ∀ (n : Nat) {x20 x24 : Int32} {o : Int32} (h : B_L_law_L316 L xs I A B x2 x3 x4 x5 x6 x7 x12 x13 x14 x15 x17 x18 x19 x21 x22 x23 n x20 x24 = some o) {ls : Array Slot} (hl : lv_has ls 28 [(0, .ref b), (1, .ref (ad 0)), (2, .int x2), (3, .int x3), (4, .int x4), (5, .int x5), (6, .int x6), (7, .int x7), (8, .ref (ad 44)), (9, .ref (ad 45)), (10, .ref (ad 46)), (11, .ref (ad 47)), (12, .int x12), (13, .int x13), (14, .int x14), (15, .int x15), (17, .int x17), (18, .int x18), (19, .int x19), (20, .int x20), (21, .int x21), (22, .int x22), (23, .int x23), (24, .int x24)]) (kx : ∀ {ls : Array Slot}, lv_has ls 28 [(0, .ref b), (1, .ref (ad 0)), (2, .int x2), (3, .int x3), (4, .int x4), (5, .int x5), (6, .int x6), (7, .int x7), (8, .ref (ad 44)), (9, .ref (ad 45)), (10, .ref (ad 46)), (11, .ref (ad 47)), (12, .int x12), (13, .int x13), (14, .int x14), (15, .int x15), (17, .int x17), (18, .int x18), (19, .int x19), (20, .int o), (21, .int x21), (22, .int x22), (23, .int x23)] → W p l e room_1 s m #[Value.ref b] below meth c H locs 48 2539 (lw_Z below #[Value.ref b] s) (F0 m 351 ls [])), W p l e room_1 s m #[Value.ref b] below meth c H locs 48 2539 (lw_Z below #[Value.ref b] s) (F0 m 316 ls []) := by
  intro n
  induction n with
  | zero => intro x20 x24 o h ls hl kx; exact nomatch (show none = some o from h)
  | succ n ih =>
    intro x20 x24 o h ls hl kx
    rw [B_L_law_L316_s] at h
    refine lv_iload C.E.hx C.E.hb dL_law_316 (lv_at hl 23 rfl) ?_
    refine lv_iload C.E.hx C.E.hb dL_law_318 (lv_at hl 20 rfl) ?_
    refine lv_icmp_ge (tgt := 351) C.E.hx C.E.hb dL_law_320 (by decide) (fun c_108 => ?_) (fun c_108 => ?_)
    · rw [if_pos c_108] at h
      cases h
      exact kx (lv_sub hl [0, 1, 2, 3, 4, 5, 6, 7, 8, 9, 10, 11, 12, 13, 14, 15, 16, 17, 18, 19, 20, 21, 22] rfl)
    · rw [if_neg c_108] at h
      refine lv_iload C.E.hx C.E.hb dL_law_323 (lv_at hl 19 rfl) ?_
      refine lv_aload_n C.E.hx C.E.hb dL_law_325 rfl (lv_at hl 1 rfl) ?_
      refine lv_iload C.E.hx C.E.hb dL_law_326 (lv_at hl 23 rfl) ?_
      refine lv_iload C.E.hx C.E.hb dL_law_328 (lv_at hl 22 rfl) ?_
      refine lv_iconst (v := 2) C.E.hx C.E.hb dL_law_330 (by decide) ?_
      obtain ⟨r_109, e_110, h⟩ := obind h
      refine lc_34 C T e_110 hl.1 (Nat.le_of_ble_eq_true rfl) dL_law_331 ?_
      refine lv_if_ge (tgt := 341) C.E.hx C.E.hb dL_law_334 (by decide) (fun c_111 => ?_) (fun c_111 => ?_)
      · rw [if_pos c_111] at h
        refine lv_iconst (v := 0) C.E.hx C.E.hb dL_law_341 (by decide) ?_
        refine lv_iand C.E.hx C.E.hb dL_law_342 ?_
        refine lv_istore (lv' := [(20, .int (x20 &&& 0)), (0, .ref b), (1, .ref (ad 0)), (2, .int x2), (3, .int x3), (4, .int x4), (5, .int x5), (6, .int x6), (7, .int x7), (8, .ref (ad 44)), (9, .ref (ad 45)), (10, .ref (ad 46)), (11, .ref (ad 47)), (12, .int x12), (13, .int x13), (14, .int x14), (15, .int x15), (17, .int x17), (18, .int x18), (19, .int x19), (21, .int x21), (22, .int x22), (23, .int x23), (24, .int x24)]) C.E.hx C.E.hb dL_law_343 hl (by decide) rfl (fun ls hl => ?_)
        refine lv_iinc (v := (x24 + 1)) (lv' := [(24, .int (x24 + 1)), (20, .int (x20 &&& 0)), (0, .ref b), (1, .ref (ad 0)), (2, .int x2), (3, .int x3), (4, .int x4), (5, .int x5), (6, .int x6), (7, .int x7), (8, .ref (ad 44)), (9, .ref (ad 45)), (10, .ref (ad 46)), (11, .ref (ad 47)), (12, .int x12), (13, .int x13), (14, .int x14), (15, .int x15), (17, .int x17), (18, .int x18), (19, .int x19), (21, .int x21), (22, .int x22), (23, .int x23)]) C.E.hx C.E.hb dL_law_345 hl (k := 23) rfl rfl (by decide) rfl (fun ls hl => ?_)
        refine lv_goto (tgt := 316) C.E.hx C.E.hb dL_law_348 (by decide) ?_
        exact ih h (lv_sub hl [2, 3, 4, 5, 6, 7, 8, 9, 10, 11, 12, 13, 14, 15, 16, 17, 18, 19, 20, 1, 21, 22, 23, 0] rfl) kx
      · rw [if_neg c_111] at h
        refine lv_iconst (v := 1) C.E.hx C.E.hb dL_law_337 (by decide) ?_
        refine lv_goto (tgt := 342) C.E.hx C.E.hb dL_law_338 (by decide) ?_
        refine lv_iand C.E.hx C.E.hb dL_law_342 ?_
        refine lv_istore (lv' := [(20, .int (x20 &&& 1)), (0, .ref b), (1, .ref (ad 0)), (2, .int x2), (3, .int x3), (4, .int x4), (5, .int x5), (6, .int x6), (7, .int x7), (8, .ref (ad 44)), (9, .ref (ad 45)), (10, .ref (ad 46)), (11, .ref (ad 47)), (12, .int x12), (13, .int x13), (14, .int x14), (15, .int x15), (17, .int x17), (18, .int x18), (19, .int x19), (21, .int x21), (22, .int x22), (23, .int x23), (24, .int x24)]) C.E.hx C.E.hb dL_law_343 hl (by decide) rfl (fun ls hl => ?_)
        refine lv_iinc (v := (x24 + 1)) (lv' := [(24, .int (x24 + 1)), (20, .int (x20 &&& 1)), (0, .ref b), (1, .ref (ad 0)), (2, .int x2), (3, .int x3), (4, .int x4), (5, .int x5), (6, .int x6), (7, .int x7), (8, .ref (ad 44)), (9, .ref (ad 45)), (10, .ref (ad 46)), (11, .ref (ad 47)), (12, .int x12), (13, .int x13), (14, .int x14), (15, .int x15), (17, .int x17), (18, .int x18), (19, .int x19), (21, .int x21), (22, .int x22), (23, .int x23)]) C.E.hx C.E.hb dL_law_345 hl (k := 23) rfl rfl (by decide) rfl (fun ls hl => ?_)
        refine lv_goto (tgt := 316) C.E.hx C.E.hb dL_law_348 (by decide) ?_
        exact ih h (lv_sub hl [2, 3, 4, 5, 6, 7, 8, 9, 10, 11, 12, 13, 14, 15, 16, 17, 18, 19, 20, 1, 21, 22, 23, 0] rfl) kx
def B_L_law_L305 (L : Nat) (xs : Nat → Int32) (I : Nat → Int32) (A B : Nat → Nat → Int32) (x2 x3 x4 x5 x6 x7 x12 x13 x14 x15 x17 x18 x19 x21 x22 : Int32) : Nat → Int32 → Int32 → Option (Int32)
  | 0 => fun _ _ => none
  | n + 1 => fun x20 x23 => if x22 ≤ x23 then some x20 else ((B_L_law_L316 L xs I A B x2 x3 x4 x5 x6 x7 x12 x13 x14 x15 x17 x18 x19 x21 x22 x23 FU x20 x14).bind fun q_112 => (B_L_law_L305 L xs I A B x2 x3 x4 x5 x6 x7 x12 x13 x14 x15 x17 x18 x19 x21 x22 n) q_112 ((x23 + 1)))
theorem B_L_law_L305_s (L : Nat) (xs : Nat → Int32) (I : Nat → Int32) (A B : Nat → Nat → Int32) (x2 x3 x4 x5 x6 x7 x12 x13 x14 x15 x17 x18 x19 x21 x22 x20 x23 : Int32) (n : Nat) : B_L_law_L305 L xs I A B x2 x3 x4 x5 x6 x7 x12 x13 x14 x15 x17 x18 x19 x21 x22 (n + 1) x20 x23 = if x22 ≤ x23 then some x20 else ((B_L_law_L316 L xs I A B x2 x3 x4 x5 x6 x7 x12 x13 x14 x15 x17 x18 x19 x21 x22 x23 FU x20 x14).bind fun q_112 => (B_L_law_L305 L xs I A B x2 x3 x4 x5 x6 x7 x12 x13 x14 x15 x17 x18 x19 x21 x22 n) q_112 ((x23 + 1))) := rfl
set_option maxHeartbeats 4000000 in
set_option maxRecDepth 100000 in
theorem w_L_law_L305 (C : LW p l s m #[Value.ref b] meth c D cyI ad b L xs) {I : Nat → Int32} {A B : Nat → Nat → Int32} {H : Heap} {locs : List Loc} (T : LT s D cyI ad I A B H locs) {x2 x3 x4 x5 x6 x7 x12 x13 x14 x15 x17 x18 x19 x21 x22 : Int32} : ∀ (n : Nat) {x20 x23 : Int32} {o : Int32} (h : B_L_law_L305 L xs I A B x2 x3 x4 x5 x6 x7 x12 x13 x14 x15 x17 x18 x19 x21 x22 n x20 x23 = some o) {ls : Array Slot} (hl : lv_has ls 28 [(0, .ref b), (1, .ref (ad 0)), (2, .int x2), (3, .int x3), (4, .int x4), (5, .int x5), (6, .int x6), (7, .int x7), (8, .ref (ad 44)), (9, .ref (ad 45)), (10, .ref (ad 46)), (11, .ref (ad 47)), (12, .int x12), (13, .int x13), (14, .int x14), (15, .int x15), (17, .int x17), (18, .int x18), (19, .int x19), (20, .int x20), (21, .int x21), (22, .int x22), (23, .int x23)]) (kx : ∀ {ls : Array Slot}, lv_has ls 28 [(0, .ref b), (1, .ref (ad 0)), (2, .int x2), (3, .int x3), (4, .int x4), (5, .int x5), (6, .int x6), (7, .int x7), (8, .ref (ad 44)), (9, .ref (ad 45)), (10, .ref (ad 46)), (11, .ref (ad 47)), (12, .int x12), (13, .int x13), (14, .int x14), (15, .int x15), (17, .int x17), (18, .int x18), (19, .int x19), (20, .int o), (21, .int x21), (22, .int x22)] → W p l e room_1 s m #[Value.ref b] below meth c H locs 48 2539 (lw_Z below #[Value.ref b] s) (F0 m 357 ls [])), W p l e room_1 s m #[Value.ref b] below meth c H locs 48 2539 (lw_Z below #[Value.ref b] s) (F0 m 305 ls []) := by
  intro n
  induction n with
  | zero => intro x20 x23 o h ls hl kx; exact nomatch (show none = some o from h)
  | succ n ih =>
    intro x20 x23 o h ls hl kx
    rw [B_L_law_L305_s] at h
    refine lv_iload C.E.hx C.E.hb dL_law_305 (lv_at hl 22 rfl) ?_
    refine lv_iload C.E.hx C.E.hb dL_law_307 (lv_at hl 21 rfl) ?_
    refine lv_icmp_ge (tgt := 357) C.E.hx C.E.hb dL_law_309 (by decide) (fun c_107 => ?_) (fun c_107 => ?_)
    · rw [if_pos c_107] at h
      cases h
      exact kx (lv_sub hl [0, 1, 2, 3, 4, 5, 6, 7, 8, 9, 10, 11, 12, 13, 14, 15, 16, 17, 18, 19, 20, 21] rfl)
    · rw [if_neg c_107] at h
      refine lv_iload C.E.hx C.E.hb dL_law_312 (lv_at hl 14 rfl) ?_
      refine lv_istore (lv' := [(24, .int x14), (0, .ref b), (1, .ref (ad 0)), (2, .int x2), (3, .int x3), (4, .int x4), (5, .int x5), (6, .int x6), (7, .int x7), (8, .ref (ad 44)), (9, .ref (ad 45)), (10, .ref (ad 46)), (11, .ref (ad 47)), (12, .int x12), (13, .int x13), (14, .int x14), (15, .int x15), (17, .int x17), (18, .int x18), (19, .int x19), (20, .int x20), (21, .int x21), (22, .int x22), (23, .int x23)]) C.E.hx C.E.hb dL_law_314 hl (by decide) rfl (fun ls hl => ?_)
      obtain ⟨q_112, e_113, h⟩ := obind h
      refine w_L_law_L316 C T FU e_113 (lv_sub hl [1, 2, 3, 4, 5, 6, 7, 8, 9, 10, 11, 12, 13, 14, 15, 16, 17, 18, 19, 20, 21, 22, 23, 0] rfl) (fun {ls} hl => ?_)
      refine lv_iinc (v := (x23 + 1)) (lv' := [(23, .int (x23 + 1)), (0, .ref b), (1, .ref (ad 0)), (2, .int x2), (3, .int x3), (4, .int x4), (5, .int x5), (6, .int x6), (7, .int x7), (8, .ref (ad 44)), (9, .ref (ad 45)), (10, .ref (ad 46)), (11, .ref (ad 47)), (12, .int x12), (13, .int x13), (14, .int x14), (15, .int x15), (17, .int x17), (18, .int x18), (19, .int x19), (20, .int q_112), (21, .int x21), (22, .int x22)]) C.E.hx C.E.hb dL_law_351 hl (k := 22) rfl rfl (by decide) rfl (fun ls hl => ?_)
      refine lv_goto (tgt := 305) C.E.hx C.E.hb dL_law_354 (by decide) ?_
      exact ih h (lv_sub hl [1, 2, 3, 4, 5, 6, 7, 8, 9, 10, 11, 12, 13, 14, 15, 16, 17, 18, 19, 20, 21, 22, 0] rfl) kx
def B_L_law_J424 (L : Nat) (xs : Nat → Int32) (k : Int32 → Int32 → Int32 → Int32 → (Nat → Int32) → (Nat → Nat → Int32) → (Nat → Nat → Int32) → Option ((Nat → Int32) × (Nat → Nat → Int32) × (Nat → Nat → Int32))) (I : Nat → Int32) (A B : Nat → Nat → Int32) (x2 x3 x4 x5 x6 x7 x12 x13 x14 x15 x17 x18 x19 : Int32) : Option ((Nat → Int32) × (Nat → Nat → Int32) × (Nat → Nat → Int32)) := B_L_law_J598 L xs k I A B x2 x3 x4 x5 x6 x7 x12 x13 x14 x15 x17 x18 x19
set_option maxHeartbeats 4000000 in
set_option maxRecDepth 100000 in
theorem w_L_law_J424 (C : LW p l s m #[Value.ref b] meth c D cyI ad b L xs) {I : Nat → Int32} {A B : Nat → Nat → Int32} {H : Heap} {locs : List Loc} (T : LT s D cyI ad I A B H locs) {x2 x3 x4 x5 x6 x7 x12 x13 x14 x15 x17 x18 x19 : Int32} {k : Int32 → Int32 → Int32 → Int32 → (Nat → Int32) → (Nat → Nat → Int32) → (Nat → Nat → Int32) → Option ((Nat → Int32) × (Nat → Nat → Int32) × (Nat → Nat → Int32))} {o : (Nat → Int32) × (Nat → Nat → Int32) × (Nat → Nat → Int32)} (hk : ∀ {x5 x6 x7 x12 : Int32} {I : Nat → Int32} {A B : Nat → Nat → Int32} {H : Heap} {locs : List Loc} (_ : LT s D cyI ad I A B H locs) (_ : k x5 x6 x7 x12 I A B = some o) {ls : Array Slot}, lv_has ls 28 [(0, .ref b), (1, .ref (ad 0)), (3, .int x3), (4, .int x4), (5, .int x5), (6, .int x6), (7, .int x7), (8, .ref (ad 44)), (9, .ref (ad 45)), (10, .ref (ad 46)), (11, .ref (ad 47)), (12, .int x12)] → W p l e room_1 s m #[Value.ref b] below meth c H locs 48 2539 (lw_Z below #[Value.ref b] s) (F0 m 81 ls [])) (kx : ∀ {H : Heap} {locs : List Loc} (_ : LT s D cyI ad o.1 o.2.1 o.2.2 H locs) {ls : Array Slot}, lv_has ls 28 [] → W p l e room_1 s m #[Value.ref b] below meth c H locs 48 2539 (lw_Z below #[Value.ref b] s) (F0 m 971 ls [])) (h : B_L_law_J424 L xs k I A B x2 x3 x4 x5 x6 x7 x12 x13 x14 x15 x17 x18 x19 = some o) {ls : Array Slot} (hl : lv_has ls 28 [(0, .ref b), (1, .ref (ad 0)), (2, .int x2), (3, .int x3), (4, .int x4), (5, .int x5), (6, .int x6), (7, .int x7), (8, .ref (ad 44)), (9, .ref (ad 45)), (10, .ref (ad 46)), (11, .ref (ad 47)), (12, .int x12), (13, .int x13), (14, .int x14), (15, .int x15), (17, .int x17), (18, .int x18), (19, .int x19)]) : W p l e room_1 s m #[Value.ref b] below meth c H locs 48 2539 (lw_Z below #[Value.ref b] s) (F0 m 424 ls []) := by
  unfold B_L_law_J424 at h
  refine lv_goto (tgt := 598) C.E.hx C.E.hb dL_law_424 (by decide) ?_
  exact w_L_law_J598 C T hk kx h (lv_sub hl [0, 1, 2, 3, 4, 5, 6, 7, 8, 9, 10, 11, 12, 13, 14, 15, 16, 17, 18] rfl)
def B_L_law_J299 (L : Nat) (xs : Nat → Int32) (k : Int32 → Int32 → Int32 → Int32 → (Nat → Int32) → (Nat → Nat → Int32) → (Nat → Nat → Int32) → Option ((Nat → Int32) × (Nat → Nat → Int32) × (Nat → Nat → Int32))) (I : Nat → Int32) (A B : Nat → Nat → Int32) (x2 x3 x4 x5 x6 x7 x12 x13 x14 x15 x17 x18 x19 x20 x21 t0 : Int32) : Option ((Nat → Int32) × (Nat → Nat → Int32) × (Nat → Nat → Int32)) := (B_L_law_L305 L xs I A B x2 x3 x4 x5 x6 x7 x12 x13 x14 x15 x17 x18 x19 x21 t0 FU x20 x15).bind fun q_114 => if q_114 = 0 then B_L_law_J424 L xs k I A B x2 x3 x4 x5 x6 x7 x12 x13 x14 x15 x17 x18 x19 else ((B_X6_pixel I A x14 x15 ((x21 - x14)) ((t0 - x15))).bind fun q_117 => if q_117.1 = x5 then ((wr (B 0) 8 x5 x14).bind fun g_120 => (wr (((va_up B 0 g_120)) 1) 8 x5 x15).bind fun g_122 => (wr (((va_up ((va_up B 0 g_120)) 1 g_122)) 2) 8 x5 ((x21 - x14))).bind fun g_124 => (wr (((va_up ((va_up ((va_up B 0 g_120)) 1 g_122)) 2 g_124)) 3) 8 x5 ((t0 - x15))).bind fun g_126 => B_L_law_J424 L xs k q_117.2.1 q_117.2.2 ((va_up ((va_up ((va_up ((va_up B 0 g_120)) 1 g_122)) 2 g_124)) 3 g_126)) x2 x3 x4 ((x5 + 1)) x6 x7 x12 x13 x14 x15 x17 x18 x19) else none)
set_option maxHeartbeats 4000000 in
set_option maxRecDepth 100000 in
theorem w_L_law_J299 (C : LW p l s m #[Value.ref b] meth c D cyI ad b L xs) {I : Nat → Int32} {A B : Nat → Nat → Int32} {H : Heap} {locs : List Loc} (T : LT s D cyI ad I A B H locs) {x2 x3 x4 x5 x6 x7 x12 x13 x14 x15 x17 x18 x19 x20 x21 t0 : Int32} {k : Int32 → Int32 → Int32 → Int32 → (Nat → Int32) → (Nat → Nat → Int32) → (Nat → Nat → Int32) → Option ((Nat → Int32) × (Nat → Nat → Int32) × (Nat → Nat → Int32))} {o : (Nat → Int32) × (Nat → Nat → Int32) × (Nat → Nat → Int32)} (hk : ∀ {x5 x6 x7 x12 : Int32} {I : Nat → Int32} {A B : Nat → Nat → Int32} {H : Heap} {locs : List Loc} (_ : LT s D cyI ad I A B H locs) (_ : k x5 x6 x7 x12 I A B = some o) {ls : Array Slot}, lv_has ls 28 [(0, .ref b), (1, .ref (ad 0)), (3, .int x3), (4, .int x4), (5, .int x5), (6, .int x6), (7, .int x7), (8, .ref (ad 44)), (9, .ref (ad 45)), (10, .ref (ad 46)), (11, .ref (ad 47)), (12, .int x12)] → W p l e room_1 s m #[Value.ref b] below meth c H locs 48 2539 (lw_Z below #[Value.ref b] s) (F0 m 81 ls [])) (kx : ∀ {H : Heap} {locs : List Loc} (_ : LT s D cyI ad o.1 o.2.1 o.2.2 H locs) {ls : Array Slot}, lv_has ls 28 [] → W p l e room_1 s m #[Value.ref b] below meth c H locs 48 2539 (lw_Z below #[Value.ref b] s) (F0 m 971 ls [])) (h : B_L_law_J299 L xs k I A B x2 x3 x4 x5 x6 x7 x12 x13 x14 x15 x17 x18 x19 x20 x21 t0 = some o) {ls : Array Slot} (hl : lv_has ls 28 [(0, .ref b), (1, .ref (ad 0)), (2, .int x2), (3, .int x3), (4, .int x4), (5, .int x5), (6, .int x6), (7, .int x7), (8, .ref (ad 44)), (9, .ref (ad 45)), (10, .ref (ad 46)), (11, .ref (ad 47)), (12, .int x12), (13, .int x13), (14, .int x14), (15, .int x15), (17, .int x17), (18, .int x18), (19, .int x19), (20, .int x20), (21, .int x21)]) : W p l e room_1 s m #[Value.ref b] below meth c H locs 48 2539 (lw_Z below #[Value.ref b] s) (F0 m 299 ls [.int t0]) := by
  unfold B_L_law_J299 at h
  refine lv_istore (lv' := [(22, .int t0), (0, .ref b), (1, .ref (ad 0)), (2, .int x2), (3, .int x3), (4, .int x4), (5, .int x5), (6, .int x6), (7, .int x7), (8, .ref (ad 44)), (9, .ref (ad 45)), (10, .ref (ad 46)), (11, .ref (ad 47)), (12, .int x12), (13, .int x13), (14, .int x14), (15, .int x15), (17, .int x17), (18, .int x18), (19, .int x19), (20, .int x20), (21, .int x21)]) C.E.hx C.E.hb dL_law_299 hl (by decide) rfl (fun ls hl => ?_)
  refine lv_iload C.E.hx C.E.hb dL_law_301 (lv_at hl 16 rfl) ?_
  refine lv_istore (lv' := [(23, .int x15), (22, .int t0), (0, .ref b), (1, .ref (ad 0)), (2, .int x2), (3, .int x3), (4, .int x4), (5, .int x5), (6, .int x6), (7, .int x7), (8, .ref (ad 44)), (9, .ref (ad 45)), (10, .ref (ad 46)), (11, .ref (ad 47)), (12, .int x12), (13, .int x13), (14, .int x14), (15, .int x15), (17, .int x17), (18, .int x18), (19, .int x19), (20, .int x20), (21, .int x21)]) C.E.hx C.E.hb dL_law_303 hl (by decide) rfl (fun ls hl => ?_)
  obtain ⟨q_114, e_115, h⟩ := obind h
  refine w_L_law_L305 C T FU e_115 (lv_sub hl [2, 3, 4, 5, 6, 7, 8, 9, 10, 11, 12, 13, 14, 15, 16, 17, 18, 19, 20, 21, 22, 1, 0] rfl) (fun {ls} hl => ?_)
  refine lv_iload C.E.hx C.E.hb dL_law_357 (lv_at hl 19 rfl) ?_
  refine lv_if_eq (tgt := 424) C.E.hx C.E.hb dL_law_359 (by decide) (fun c_116 => ?_) (fun c_116 => ?_)
  · rw [if_pos c_116] at h
    exact w_L_law_J424 C T hk kx h (lv_sub hl [0, 1, 2, 3, 4, 5, 6, 7, 8, 9, 10, 11, 12, 13, 14, 15, 16, 17, 18] rfl)
  · rw [if_neg c_116] at h
    refine lv_aload_n C.E.hx C.E.hb dL_law_362 rfl (lv_at hl 1 rfl) ?_
    refine lv_iload C.E.hx C.E.hb dL_law_363 (lv_at hl 14 rfl) ?_
    refine lv_iload C.E.hx C.E.hb dL_law_365 (lv_at hl 15 rfl) ?_
    refine lv_iload C.E.hx C.E.hb dL_law_367 (lv_at hl 20 rfl) ?_
    refine lv_iload C.E.hx C.E.hb dL_law_369 (lv_at hl 14 rfl) ?_
    refine lv_isub C.E.hx C.E.hb dL_law_371 ?_
    refine lv_iload C.E.hx C.E.hb dL_law_372 (lv_at hl 21 rfl) ?_
    refine lv_iload C.E.hx C.E.hb dL_law_374 (lv_at hl 15 rfl) ?_
    refine lv_isub C.E.hx C.E.hb dL_law_376 ?_
    obtain ⟨q_117, e_118, h⟩ := obind h
    refine lc_45 C T e_118 hl.1 (Nat.le_of_ble_eq_true rfl) dL_law_377 (fun H locs T => ?_)
    refine lv_iload C.E.hx C.E.hb dL_law_380 (lv_at hl 5 rfl) ?_
    refine lv_icmp_eq (tgt := 387) C.E.hx C.E.hb dL_law_382 (by decide) (fun c_119 => ?_) (fun c_119 => ?_)
    · rw [if_pos c_119] at h
      refine lv_aload C.E.hx C.E.hb dL_law_387 (lv_at hl 8 rfl) ?_
      refine lv_iload C.E.hx C.E.hb dL_law_389 (lv_at hl 5 rfl) ?_
      refine lv_iload C.E.hx C.E.hb dL_law_391 (lv_at hl 14 rfl) ?_
      obtain ⟨g_120, e_121, h⟩ := obind h
      refine ls_0 C T e_121 dL_law_393 (fun H locs T => ?_)
      refine lv_aload C.E.hx C.E.hb dL_law_394 (lv_at hl 9 rfl) ?_
      refine lv_iload C.E.hx C.E.hb dL_law_396 (lv_at hl 5 rfl) ?_
      refine lv_iload C.E.hx C.E.hb dL_law_398 (lv_at hl 15 rfl) ?_
      obtain ⟨g_122, e_123, h⟩ := obind h
      refine ls_1 C T e_123 dL_law_400 (fun H locs T => ?_)
      refine lv_aload C.E.hx C.E.hb dL_law_401 (lv_at hl 10 rfl) ?_
      refine lv_iload C.E.hx C.E.hb dL_law_403 (lv_at hl 5 rfl) ?_
      refine lv_iload C.E.hx C.E.hb dL_law_405 (lv_at hl 20 rfl) ?_
      refine lv_iload C.E.hx C.E.hb dL_law_407 (lv_at hl 14 rfl) ?_
      refine lv_isub C.E.hx C.E.hb dL_law_409 ?_
      obtain ⟨g_124, e_125, h⟩ := obind h
      refine ls_2 C T e_125 dL_law_410 (fun H locs T => ?_)
      refine lv_aload C.E.hx C.E.hb dL_law_411 (lv_at hl 11 rfl) ?_
      refine lv_iload C.E.hx C.E.hb dL_law_413 (lv_at hl 5 rfl) ?_
      refine lv_iload C.E.hx C.E.hb dL_law_415 (lv_at hl 21 rfl) ?_
      refine lv_iload C.E.hx C.E.hb dL_law_417 (lv_at hl 15 rfl) ?_
      refine lv_isub C.E.hx C.E.hb dL_law_419 ?_
      obtain ⟨g_126, e_127, h⟩ := obind h
      refine ls_3 C T e_127 dL_law_420 (fun H locs T => ?_)
      refine lv_iinc (v := (x5 + 1)) (lv' := [(5, .int (x5 + 1)), (0, .ref b), (1, .ref (ad 0)), (2, .int x2), (3, .int x3), (4, .int x4), (6, .int x6), (7, .int x7), (8, .ref (ad 44)), (9, .ref (ad 45)), (10, .ref (ad 46)), (11, .ref (ad 47)), (12, .int x12), (13, .int x13), (14, .int x14), (15, .int x15), (17, .int x17), (18, .int x18), (19, .int x19), (20, .int q_114), (21, .int x21), (22, .int t0)]) C.E.hx C.E.hb dL_law_421 hl (k := 5) rfl rfl (by decide) rfl (fun ls hl => ?_)
      exact w_L_law_J424 C T hk kx h (lv_sub hl [1, 2, 3, 4, 5, 0, 6, 7, 8, 9, 10, 11, 12, 13, 14, 15, 16, 17, 18] rfl)
    · rw [if_neg c_119] at h
      exact nomatch h
def B_L_law_J279 (L : Nat) (xs : Nat → Int32) (k : Int32 → Int32 → Int32 → Int32 → (Nat → Int32) → (Nat → Nat → Int32) → (Nat → Nat → Int32) → Option ((Nat → Int32) × (Nat → Nat → Int32) × (Nat → Nat → Int32))) (I : Nat → Int32) (A B : Nat → Nat → Int32) (x2 x3 x4 x5 x6 x7 x12 x13 x14 x15 x17 x18 x19 x20 t0 : Int32) : Option ((Nat → Int32) × (Nat → Nat → Int32) × (Nat → Nat → Int32)) := if x4 ≤ (x15 + 2) then B_L_law_J299 L xs k I A B x2 x3 x4 x5 x6 x7 x12 x13 x14 x15 x17 x18 x19 x20 t0 x4 else B_L_law_J299 L xs k I A B x2 x3 x4 x5 x6 x7 x12 x13 x14 x15 x17 x18 x19 x20 t0 ((x15 + 2))
set_option maxHeartbeats 4000000 in
set_option maxRecDepth 100000 in
theorem w_L_law_J279 (C : LW p l s m #[Value.ref b] meth c D cyI ad b L xs) {I : Nat → Int32} {A B : Nat → Nat → Int32} {H : Heap} {locs : List Loc} (T : LT s D cyI ad I A B H locs) {x2 x3 x4 x5 x6 x7 x12 x13 x14 x15 x17 x18 x19 x20 t0 : Int32} {k : Int32 → Int32 → Int32 → Int32 → (Nat → Int32) → (Nat → Nat → Int32) → (Nat → Nat → Int32) → Option ((Nat → Int32) × (Nat → Nat → Int32) × (Nat → Nat → Int32))} {o : (Nat → Int32) × (Nat → Nat → Int32) × (Nat → Nat → Int32)} (hk : ∀ {x5 x6 x7 x12 : Int32} {I : Nat → Int32} {A B : Nat → Nat → Int32} {H : Heap} {locs : List Loc} (_ : LT s D cyI ad I A B H locs) (_ : k x5 x6 x7 x12 I A B = some o) {ls : Array Slot}, lv_has ls 28 [(0, .ref b), (1, .ref (ad 0)), (3, .int x3), (4, .int x4), (5, .int x5), (6, .int x6), (7, .int x7), (8, .ref (ad 44)), (9, .ref (ad 45)), (10, .ref (ad 46)), (11, .ref (ad 47)), (12, .int x12)] → W p l e room_1 s m #[Value.ref b] below meth c H locs 48 2539 (lw_Z below #[Value.ref b] s) (F0 m 81 ls [])) (kx : ∀ {H : Heap} {locs : List Loc} (_ : LT s D cyI ad o.1 o.2.1 o.2.2 H locs) {ls : Array Slot}, lv_has ls 28 [] → W p l e room_1 s m #[Value.ref b] below meth c H locs 48 2539 (lw_Z below #[Value.ref b] s) (F0 m 971 ls [])) (h : B_L_law_J279 L xs k I A B x2 x3 x4 x5 x6 x7 x12 x13 x14 x15 x17 x18 x19 x20 t0 = some o) {ls : Array Slot} (hl : lv_has ls 28 [(0, .ref b), (1, .ref (ad 0)), (2, .int x2), (3, .int x3), (4, .int x4), (5, .int x5), (6, .int x6), (7, .int x7), (8, .ref (ad 44)), (9, .ref (ad 45)), (10, .ref (ad 46)), (11, .ref (ad 47)), (12, .int x12), (13, .int x13), (14, .int x14), (15, .int x15), (17, .int x17), (18, .int x18), (19, .int x19), (20, .int x20)]) : W p l e room_1 s m #[Value.ref b] below meth c H locs 48 2539 (lw_Z below #[Value.ref b] s) (F0 m 279 ls [.int t0]) := by
  unfold B_L_law_J279 at h
  refine lv_istore (lv' := [(21, .int t0), (0, .ref b), (1, .ref (ad 0)), (2, .int x2), (3, .int x3), (4, .int x4), (5, .int x5), (6, .int x6), (7, .int x7), (8, .ref (ad 44)), (9, .ref (ad 45)), (10, .ref (ad 46)), (11, .ref (ad 47)), (12, .int x12), (13, .int x13), (14, .int x14), (15, .int x15), (17, .int x17), (18, .int x18), (19, .int x19), (20, .int x20)]) C.E.hx C.E.hb dL_law_279 hl (by decide) rfl (fun ls hl => ?_)
  refine lv_iload C.E.hx C.E.hb dL_law_281 (lv_at hl 16 rfl) ?_
  refine lv_iconst (v := 2) C.E.hx C.E.hb dL_law_283 (by decide) ?_
  refine lv_iadd C.E.hx C.E.hb dL_law_284 ?_
  refine lv_iload C.E.hx C.E.hb dL_law_285 (lv_at hl 5 rfl) ?_
  refine lv_icmp_ge (tgt := 297) C.E.hx C.E.hb dL_law_287 (by decide) (fun c_106 => ?_) (fun c_106 => ?_)
  · rw [if_pos c_106] at h
    refine lv_iload C.E.hx C.E.hb dL_law_297 (lv_at hl 5 rfl) ?_
    exact w_L_law_J299 C T hk kx h (lv_sub hl [1, 2, 3, 4, 5, 6, 7, 8, 9, 10, 11, 12, 13, 14, 15, 16, 17, 18, 19, 20, 0] rfl)
  · rw [if_neg c_106] at h
    refine lv_iload C.E.hx C.E.hb dL_law_290 (lv_at hl 16 rfl) ?_
    refine lv_iconst (v := 2) C.E.hx C.E.hb dL_law_292 (by decide) ?_
    refine lv_iadd C.E.hx C.E.hb dL_law_293 ?_
    refine lv_goto (tgt := 299) C.E.hx C.E.hb dL_law_294 (by decide) ?_
    exact w_L_law_J299 C T hk kx h (lv_sub hl [1, 2, 3, 4, 5, 6, 7, 8, 9, 10, 11, 12, 13, 14, 15, 16, 17, 18, 19, 20, 0] rfl)
def B_L_law_J200 (L : Nat) (xs : Nat → Int32) (k : Int32 → Int32 → Int32 → Int32 → (Nat → Int32) → (Nat → Nat → Int32) → (Nat → Nat → Int32) → Option ((Nat → Int32) × (Nat → Nat → Int32) × (Nat → Nat → Int32))) (I : Nat → Int32) (A B : Nat → Nat → Int32) (x2 x3 x4 x5 x6 x7 x12 x13 x14 x15 x16 x17 x18 x19 : Int32) : Option ((Nat → Int32) × (Nat → Nat → Int32) × (Nat → Nat → Int32)) := if x13 = 3 then ((B_L_at ((x2 >>> (20 &&& 31))) 3).bind fun r_128 => (B_L_at ((x2 >>> (16 &&& 31))) 100).bind fun r_130 => (B_X6_anchor I A x14 x15 r_128 x16 ((1 + r_130))).bind fun q_132 => if q_132.1 = ((B_X6_energy q_132.2.1 q_132.2.2) - x17) then B_L_law_J598 L xs k q_132.2.1 q_132.2.2 B x2 x3 x4 x5 x6 x7 x12 x13 x14 x15 x17 x18 x19 else none) else (if x13 = 4 then (if 8 ≤ x5 then B_L_law_J427 L xs k I A B x2 x3 x4 x5 x6 x7 x12 x13 x14 x15 x16 x17 x18 x19 else (if x3 ≤ (x14 + 2) then B_L_law_J279 L xs k I A B x2 x3 x4 x5 x6 x7 x12 x13 x14 x15 x17 x18 x19 1 x3 else B_L_law_J279 L xs k I A B x2 x3 x4 x5 x6 x7 x12 x13 x14 x15 x17 x18 x19 1 ((x14 + 2)))) else B_L_law_J427 L xs k I A B x2 x3 x4 x5 x6 x7 x12 x13 x14 x15 x16 x17 x18 x19)
set_option maxHeartbeats 4000000 in
set_option maxRecDepth 100000 in
theorem w_L_law_J200 (C : LW p l s m #[Value.ref b] meth c D cyI ad b L xs) {I : Nat → Int32} {A B : Nat → Nat → Int32} {H : Heap} {locs : List Loc} (T : LT s D cyI ad I A B H locs) {x2 x3 x4 x5 x6 x7 x12 x13 x14 x15 x16 x17 x18 x19 : Int32} {k : Int32 → Int32 → Int32 → Int32 → (Nat → Int32) → (Nat → Nat → Int32) → (Nat → Nat → Int32) → Option ((Nat → Int32) × (Nat → Nat → Int32) × (Nat → Nat → Int32))} {o : (Nat → Int32) × (Nat → Nat → Int32) × (Nat → Nat → Int32)} (hk : ∀ {x5 x6 x7 x12 : Int32} {I : Nat → Int32} {A B : Nat → Nat → Int32} {H : Heap} {locs : List Loc} (_ : LT s D cyI ad I A B H locs) (_ : k x5 x6 x7 x12 I A B = some o) {ls : Array Slot}, lv_has ls 28 [(0, .ref b), (1, .ref (ad 0)), (3, .int x3), (4, .int x4), (5, .int x5), (6, .int x6), (7, .int x7), (8, .ref (ad 44)), (9, .ref (ad 45)), (10, .ref (ad 46)), (11, .ref (ad 47)), (12, .int x12)] → W p l e room_1 s m #[Value.ref b] below meth c H locs 48 2539 (lw_Z below #[Value.ref b] s) (F0 m 81 ls [])) (kx : ∀ {H : Heap} {locs : List Loc} (_ : LT s D cyI ad o.1 o.2.1 o.2.2 H locs) {ls : Array Slot}, lv_has ls 28 [] → W p l e room_1 s m #[Value.ref b] below meth c H locs 48 2539 (lw_Z below #[Value.ref b] s) (F0 m 971 ls [])) (h : B_L_law_J200 L xs k I A B x2 x3 x4 x5 x6 x7 x12 x13 x14 x15 x16 x17 x18 x19 = some o) {ls : Array Slot} (hl : lv_has ls 28 [(0, .ref b), (1, .ref (ad 0)), (2, .int x2), (3, .int x3), (4, .int x4), (5, .int x5), (6, .int x6), (7, .int x7), (8, .ref (ad 44)), (9, .ref (ad 45)), (10, .ref (ad 46)), (11, .ref (ad 47)), (12, .int x12), (13, .int x13), (14, .int x14), (15, .int x15), (16, .int x16), (17, .int x17), (18, .int x18), (19, .int x19)]) : W p l e room_1 s m #[Value.ref b] below meth c H locs 48 2539 (lw_Z below #[Value.ref b] s) (F0 m 200 ls []) := by
  unfold B_L_law_J200 at h
  refine lv_iload C.E.hx C.E.hb dL_law_200 (lv_at hl 13 rfl) ?_
  refine lv_iconst (v := 3) C.E.hx C.E.hb dL_law_202 (by decide) ?_
  refine lv_icmp_ne (tgt := 247) C.E.hx C.E.hb dL_law_203 (by decide) (fun c_13 => ?_) (fun c_13 => ?_)
  · rw [if_neg c_13] at h
    refine lv_iload C.E.hx C.E.hb dL_law_247 (lv_at hl 13 rfl) ?_
    refine lv_iconst (v := 4) C.E.hx C.E.hb dL_law_249 (by decide) ?_
    refine lv_icmp_ne (tgt := 427) C.E.hx C.E.hb dL_law_250 (by decide) (fun c_14 => ?_) (fun c_14 => ?_)
    · rw [if_neg c_14] at h
      exact w_L_law_J427 C T hk kx h (lv_sub hl [0, 1, 2, 3, 4, 5, 6, 7, 8, 9, 10, 11, 12, 13, 14, 15, 16, 17, 18, 19] rfl)
    · rw [if_pos c_14] at h
      refine lv_iload C.E.hx C.E.hb dL_law_253 (lv_at hl 5 rfl) ?_
      refine lv_bipush (v := 8) C.E.hx C.E.hb dL_law_255 (by decide) ?_
      refine lv_icmp_ge (tgt := 427) C.E.hx C.E.hb dL_law_257 (by decide) (fun c_104 => ?_) (fun c_104 => ?_)
      · rw [if_pos c_104] at h
        exact w_L_law_J427 C T hk kx h (lv_sub hl [0, 1, 2, 3, 4, 5, 6, 7, 8, 9, 10, 11, 12, 13, 14, 15, 16, 17, 18, 19] rfl)
      · rw [if_neg c_104] at h
        refine lv_iconst (v := 1) C.E.hx C.E.hb dL_law_260 (by decide) ?_
        refine lv_istore (lv' := [(20, .int 1), (0, .ref b), (1, .ref (ad 0)), (2, .int x2), (3, .int x3), (4, .int x4), (5, .int x5), (6, .int x6), (7, .int x7), (8, .ref (ad 44)), (9, .ref (ad 45)), (10, .ref (ad 46)), (11, .ref (ad 47)), (12, .int x12), (13, .int x13), (14, .int x14), (15, .int x15), (16, .int x16), (17, .int x17), (18, .int x18), (19, .int x19)]) C.E.hx C.E.hb dL_law_261 hl (by decide) rfl (fun ls hl => ?_)
        refine lv_iload C.E.hx C.E.hb dL_law_263 (lv_at hl 15 rfl) ?_
        refine lv_iconst (v := 2) C.E.hx C.E.hb dL_law_265 (by decide) ?_
        refine lv_iadd C.E.hx C.E.hb dL_law_266 ?_
        refine lv_iload_n C.E.hx C.E.hb dL_law_267 rfl (lv_at hl 4 rfl) ?_
        refine lv_icmp_ge (tgt := 278) C.E.hx C.E.hb dL_law_268 (by decide) (fun c_105 => ?_) (fun c_105 => ?_)
        · rw [if_pos c_105] at h
          refine lv_iload_n C.E.hx C.E.hb dL_law_278 rfl (lv_at hl 4 rfl) ?_
          exact w_L_law_J279 C T hk kx h (lv_sub hl [1, 2, 3, 4, 5, 6, 7, 8, 9, 10, 11, 12, 13, 14, 15, 16, 18, 19, 20, 0] rfl)
        · rw [if_neg c_105] at h
          refine lv_iload C.E.hx C.E.hb dL_law_271 (lv_at hl 15 rfl) ?_
          refine lv_iconst (v := 2) C.E.hx C.E.hb dL_law_273 (by decide) ?_
          refine lv_iadd C.E.hx C.E.hb dL_law_274 ?_
          refine lv_goto (tgt := 279) C.E.hx C.E.hb dL_law_275 (by decide) ?_
          exact w_L_law_J279 C T hk kx h (lv_sub hl [1, 2, 3, 4, 5, 6, 7, 8, 9, 10, 11, 12, 13, 14, 15, 16, 18, 19, 20, 0] rfl)
  · rw [if_pos c_13] at h
    refine lv_aload_n C.E.hx C.E.hb dL_law_206 rfl (lv_at hl 1 rfl) ?_
    refine lv_iload C.E.hx C.E.hb dL_law_207 (lv_at hl 14 rfl) ?_
    refine lv_iload C.E.hx C.E.hb dL_law_209 (lv_at hl 15 rfl) ?_
    refine lv_iload_n C.E.hx C.E.hb dL_law_211 rfl (lv_at hl 2 rfl) ?_
    refine lv_bipush (v := 20) C.E.hx C.E.hb dL_law_212 (by decide) ?_
    refine lv_ishr C.E.hx C.E.hb dL_law_214 ?_
    refine lv_iconst (v := 3) C.E.hx C.E.hb dL_law_215 (by decide) ?_
    obtain ⟨r_128, e_129, h⟩ := obind h
    refine lc_at C e_129 hl.1 (Nat.le_of_ble_eq_true rfl) dL_law_216 ?_
    refine lv_iload C.E.hx C.E.hb dL_law_219 (lv_at hl 16 rfl) ?_
    refine lv_iconst (v := 1) C.E.hx C.E.hb dL_law_221 (by decide) ?_
    refine lv_iload_n C.E.hx C.E.hb dL_law_222 rfl (lv_at hl 2 rfl) ?_
    refine lv_bipush (v := 16) C.E.hx C.E.hb dL_law_223 (by decide) ?_
    refine lv_ishr C.E.hx C.E.hb dL_law_225 ?_
    refine lv_bipush (v := 100) C.E.hx C.E.hb dL_law_226 (by decide) ?_
    obtain ⟨r_130, e_131, h⟩ := obind h
    refine lc_at C e_131 hl.1 (Nat.le_of_ble_eq_true rfl) dL_law_228 ?_
    refine lv_iadd C.E.hx C.E.hb dL_law_231 ?_
    obtain ⟨q_132, e_133, h⟩ := obind h
    refine lc_41 C T e_133 hl.1 (Nat.le_of_ble_eq_true rfl) dL_law_232 (fun H locs T => ?_)
    refine lv_aload_n C.E.hx C.E.hb dL_law_235 rfl (lv_at hl 1 rfl) ?_
    refine lc_26 C T hl.1 (Nat.le_of_ble_eq_true rfl) dL_law_236 ?_
    refine lv_iload C.E.hx C.E.hb dL_law_239 (lv_at hl 17 rfl) ?_
    refine lv_isub C.E.hx C.E.hb dL_law_241 ?_
    refine lv_icmp_eq (tgt := 598) C.E.hx C.E.hb dL_law_242 (by decide) (fun c_134 => ?_) (fun c_134 => ?_)
    · rw [if_pos c_134] at h
      exact w_L_law_J598 C T hk kx h (lv_sub hl [0, 1, 2, 3, 4, 5, 6, 7, 8, 9, 10, 11, 12, 13, 14, 15, 17, 18, 19] rfl)
    · rw [if_neg c_134] at h
      exact nomatch h
def B_L_law_L81 (L : Nat) (xs : Nat → Int32)  (x3 x4 : Int32) : Nat → Int32 → Int32 → Int32 → Int32 → (Nat → Int32) → (Nat → Nat → Int32) → (Nat → Nat → Int32) → Option ((Nat → Int32) × (Nat → Nat → Int32) × (Nat → Nat → Int32))
  | 0 => fun _ _ _ _ _ _ _ => none
  | n + 1 => fun x5 x6 x7 x12 I A B => if 50 ≤ x12 then some (I, A, B) else ((B_L_cell L xs ((1 + x12))).bind fun r_2 => (B_L_at ((r_2 &&& 2147483647)) 9).bind fun r_4 => (B_L_at (((r_2 &&& 2147483647) >>> (4 &&& 31))) x3).bind fun r_6 => (B_L_at (((r_2 &&& 2147483647) >>> (8 &&& 31))) x4).bind fun r_8 => (B_L_at (((r_2 &&& 2147483647) >>> (12 &&& 31))) 15).bind fun r_10 => if 3 ≤ r_4 then B_L_law_J200 L xs ((B_L_law_L81 L xs x3 x4 n)) I A B ((r_2 &&& 2147483647)) x3 x4 x5 x6 x7 x12 r_4 r_6 r_8 r_10 ((B_X6_energy I A)) ((B_X6_spent I A 0)) ((B_X6_spent I A 1)) else ((B_X6_told I A r_6 r_8 1).bind fun r_135 => if r_135 = 1 then B_L_law_J200 L xs ((B_L_law_L81 L xs x3 x4 n)) I A B ((r_2 &&& 2147483647)) x3 x4 x5 x6 x7 x12 r_4 r_6 r_8 r_10 ((B_X6_energy I A)) ((B_X6_spent I A 0)) ((B_X6_spent I A 1)) else ((B_X6_turn I A r_6 r_8 r_10).bind fun q_138 => if q_138.1 = ((B_X6_energy q_138.2.1 q_138.2.2) - (B_X6_energy I A)) then B_L_law_J598 L xs ((B_L_law_L81 L xs x3 x4 n)) q_138.2.1 q_138.2.2 B ((r_2 &&& 2147483647)) x3 x4 x5 x6 x7 x12 r_4 r_6 r_8 ((B_X6_energy I A)) ((B_X6_spent I A 0)) ((B_X6_spent I A 1)) else none)))
theorem B_L_law_L81_s (L : Nat) (xs : Nat → Int32) (I : Nat → Int32) (A B : Nat → Nat → Int32) (x3 x4 x5 x6 x7 x12 : Int32) (n : Nat) : B_L_law_L81 L xs  x3 x4 (n + 1) x5 x6 x7 x12 I A B = if 50 ≤ x12 then some (I, A, B) else ((B_L_cell L xs ((1 + x12))).bind fun r_2 => (B_L_at ((r_2 &&& 2147483647)) 9).bind fun r_4 => (B_L_at (((r_2 &&& 2147483647) >>> (4 &&& 31))) x3).bind fun r_6 => (B_L_at (((r_2 &&& 2147483647) >>> (8 &&& 31))) x4).bind fun r_8 => (B_L_at (((r_2 &&& 2147483647) >>> (12 &&& 31))) 15).bind fun r_10 => if 3 ≤ r_4 then B_L_law_J200 L xs ((B_L_law_L81 L xs x3 x4 n)) I A B ((r_2 &&& 2147483647)) x3 x4 x5 x6 x7 x12 r_4 r_6 r_8 r_10 ((B_X6_energy I A)) ((B_X6_spent I A 0)) ((B_X6_spent I A 1)) else ((B_X6_told I A r_6 r_8 1).bind fun r_135 => if r_135 = 1 then B_L_law_J200 L xs ((B_L_law_L81 L xs x3 x4 n)) I A B ((r_2 &&& 2147483647)) x3 x4 x5 x6 x7 x12 r_4 r_6 r_8 r_10 ((B_X6_energy I A)) ((B_X6_spent I A 0)) ((B_X6_spent I A 1)) else ((B_X6_turn I A r_6 r_8 r_10).bind fun q_138 => if q_138.1 = ((B_X6_energy q_138.2.1 q_138.2.2) - (B_X6_energy I A)) then B_L_law_J598 L xs ((B_L_law_L81 L xs x3 x4 n)) q_138.2.1 q_138.2.2 B ((r_2 &&& 2147483647)) x3 x4 x5 x6 x7 x12 r_4 r_6 r_8 ((B_X6_energy I A)) ((B_X6_spent I A 0)) ((B_X6_spent I A 1)) else none))) := rfl
set_option maxHeartbeats 4000000 in
set_option maxRecDepth 100000 in
theorem w_L_law_L81 (C : LW p l s m #[Value.ref b] meth c D cyI ad b L xs) {x3 x4 : Int32} : ∀ (n : Nat) {x5 x6 x7 x12 : Int32} {I : Nat → Int32} {A B : Nat → Nat → Int32} {H : Heap} {locs : List Loc} (T : LT s D cyI ad I A B H locs) {o : (Nat → Int32) × (Nat → Nat → Int32) × (Nat → Nat → Int32)} (h : B_L_law_L81 L xs  x3 x4 n x5 x6 x7 x12 I A B = some o) {ls : Array Slot} (hl : lv_has ls 28 [(0, .ref b), (1, .ref (ad 0)), (3, .int x3), (4, .int x4), (5, .int x5), (6, .int x6), (7, .int x7), (8, .ref (ad 44)), (9, .ref (ad 45)), (10, .ref (ad 46)), (11, .ref (ad 47)), (12, .int x12)]) (kx : ∀ {H : Heap} {locs : List Loc} (_ : LT s D cyI ad o.1 o.2.1 o.2.2 H locs) {ls : Array Slot}, lv_has ls 28 [] → W p l e room_1 s m #[Value.ref b] below meth c H locs 48 2539 (lw_Z below #[Value.ref b] s) (F0 m 971 ls [])), W p l e room_1 s m #[Value.ref b] below meth c H locs 48 2539 (lw_Z below #[Value.ref b] s) (F0 m 81 ls []) := by
  intro n
  induction n with
  | zero => intro x5 x6 x7 x12 I A B H locs T o h ls hl kx; exact nomatch (show none = some o from h)
  | succ n ih =>
    intro x5 x6 x7 x12 I A B H locs T o h ls hl kx
    rw [B_L_law_L81_s] at h
    refine lv_iload C.E.hx C.E.hb dL_law_81 (lv_at hl 11 rfl) ?_
    refine lv_bipush (v := 50) C.E.hx C.E.hb dL_law_83 (by decide) ?_
    refine lv_icmp_ge (tgt := 971) C.E.hx C.E.hb dL_law_85 (by decide) (fun c_1 => ?_) (fun c_1 => ?_)
    · rw [if_pos c_1] at h
      cases h
      exact kx T (lv_sub hl [] rfl)
    · rw [if_neg c_1] at h
      refine lv_aload_n C.E.hx C.E.hb dL_law_88 rfl (lv_at hl 0 rfl) ?_
      refine lv_iconst (v := 1) C.E.hx C.E.hb dL_law_89 (by decide) ?_
      refine lv_iload C.E.hx C.E.hb dL_law_90 (lv_at hl 11 rfl) ?_
      refine lv_iadd C.E.hx C.E.hb dL_law_92 ?_
      obtain ⟨r_2, e_3, h⟩ := obind h
      refine lc_cell C T e_3 hl.1 (Nat.le_of_ble_eq_true rfl) dL_law_93 ?_
      refine lv_ldc (v := 2147483647) C.E.hx C.E.hb C.E.ho (C.E.ht _ kCN_L_17) dL_law_96 ?_
      refine lv_iand C.E.hx C.E.hb dL_law_98 ?_
      refine lv_istore_n (lv' := [(2, .int (r_2 &&& 2147483647)), (0, .ref b), (1, .ref (ad 0)), (3, .int x3), (4, .int x4), (5, .int x5), (6, .int x6), (7, .int x7), (8, .ref (ad 44)), (9, .ref (ad 45)), (10, .ref (ad 46)), (11, .ref (ad 47)), (12, .int x12)]) C.E.hx C.E.hb dL_law_99 rfl hl (by decide) rfl (fun ls hl => ?_)
      refine lv_iload_n C.E.hx C.E.hb dL_law_100 rfl (lv_at hl 0 rfl) ?_
      refine lv_bipush (v := 9) C.E.hx C.E.hb dL_law_101 (by decide) ?_
      obtain ⟨r_4, e_5, h⟩ := obind h
      refine lc_at C e_5 hl.1 (Nat.le_of_ble_eq_true rfl) dL_law_103 ?_
      refine lv_istore (lv' := [(13, .int r_4), (2, .int (r_2 &&& 2147483647)), (0, .ref b), (1, .ref (ad 0)), (3, .int x3), (4, .int x4), (5, .int x5), (6, .int x6), (7, .int x7), (8, .ref (ad 44)), (9, .ref (ad 45)), (10, .ref (ad 46)), (11, .ref (ad 47)), (12, .int x12)]) C.E.hx C.E.hb dL_law_106 hl (by decide) rfl (fun ls hl => ?_)
      refine lv_iload_n C.E.hx C.E.hb dL_law_108 rfl (lv_at hl 1 rfl) ?_
      refine lv_iconst (v := 4) C.E.hx C.E.hb dL_law_109 (by decide) ?_
      refine lv_ishr C.E.hx C.E.hb dL_law_110 ?_
      refine lv_iload_n C.E.hx C.E.hb dL_law_111 rfl (lv_at hl 4 rfl) ?_
      obtain ⟨r_6, e_7, h⟩ := obind h
      refine lc_at C e_7 hl.1 (Nat.le_of_ble_eq_true rfl) dL_law_112 ?_
      refine lv_istore (lv' := [(14, .int r_6), (13, .int r_4), (2, .int (r_2 &&& 2147483647)), (0, .ref b), (1, .ref (ad 0)), (3, .int x3), (4, .int x4), (5, .int x5), (6, .int x6), (7, .int x7), (8, .ref (ad 44)), (9, .ref (ad 45)), (10, .ref (ad 46)), (11, .ref (ad 47)), (12, .int x12)]) C.E.hx C.E.hb dL_law_115 hl (by decide) rfl (fun ls hl => ?_)
      refine lv_iload_n C.E.hx C.E.hb dL_law_117 rfl (lv_at hl 2 rfl) ?_
      refine lv_bipush (v := 8) C.E.hx C.E.hb dL_law_118 (by decide) ?_
      refine lv_ishr C.E.hx C.E.hb dL_law_120 ?_
      refine lv_iload C.E.hx C.E.hb dL_law_121 (lv_at hl 6 rfl) ?_
      obtain ⟨r_8, e_9, h⟩ := obind h
      refine lc_at C e_9 hl.1 (Nat.le_of_ble_eq_true rfl) dL_law_123 ?_
      refine lv_istore (lv' := [(15, .int r_8), (14, .int r_6), (13, .int r_4), (2, .int (r_2 &&& 2147483647)), (0, .ref b), (1, .ref (ad 0)), (3, .int x3), (4, .int x4), (5, .int x5), (6, .int x6), (7, .int x7), (8, .ref (ad 44)), (9, .ref (ad 45)), (10, .ref (ad 46)), (11, .ref (ad 47)), (12, .int x12)]) C.E.hx C.E.hb dL_law_126 hl (by decide) rfl (fun ls hl => ?_)
      refine lv_iload_n C.E.hx C.E.hb dL_law_128 rfl (lv_at hl 3 rfl) ?_
      refine lv_bipush (v := 12) C.E.hx C.E.hb dL_law_129 (by decide) ?_
      refine lv_ishr C.E.hx C.E.hb dL_law_131 ?_
      refine lv_bipush (v := 15) C.E.hx C.E.hb dL_law_132 (by decide) ?_
      obtain ⟨r_10, e_11, h⟩ := obind h
      refine lc_at C e_11 hl.1 (Nat.le_of_ble_eq_true rfl) dL_law_134 ?_
      refine lv_istore (lv' := [(16, .int r_10), (15, .int r_8), (14, .int r_6), (13, .int r_4), (2, .int (r_2 &&& 2147483647)), (0, .ref b), (1, .ref (ad 0)), (3, .int x3), (4, .int x4), (5, .int x5), (6, .int x6), (7, .int x7), (8, .ref (ad 44)), (9, .ref (ad 45)), (10, .ref (ad 46)), (11, .ref (ad 47)), (12, .int x12)]) C.E.hx C.E.hb dL_law_137 hl (by decide) rfl (fun ls hl => ?_)
      refine lv_aload_n C.E.hx C.E.hb dL_law_139 rfl (lv_at hl 6 rfl) ?_
      refine lc_26 C T hl.1 (Nat.le_of_ble_eq_true rfl) dL_law_140 ?_
      refine lv_istore (lv' := [(17, .int (B_X6_energy I A)), (16, .int r_10), (15, .int r_8), (14, .int r_6), (13, .int r_4), (2, .int (r_2 &&& 2147483647)), (0, .ref b), (1, .ref (ad 0)), (3, .int x3), (4, .int x4), (5, .int x5), (6, .int x6), (7, .int x7), (8, .ref (ad 44)), (9, .ref (ad 45)), (10, .ref (ad 46)), (11, .ref (ad 47)), (12, .int x12)]) C.E.hx C.E.hb dL_law_143 hl (by decide) rfl (fun ls hl => ?_)
      refine lv_aload_n C.E.hx C.E.hb dL_law_145 rfl (lv_at hl 7 rfl) ?_
      refine lv_iconst (v := 0) C.E.hx C.E.hb dL_law_146 (by decide) ?_
      refine lc_30 C T hl.1 (Nat.le_of_ble_eq_true rfl) dL_law_147 ?_
      refine lv_istore (lv' := [(18, .int (B_X6_spent I A 0)), (17, .int (B_X6_energy I A)), (16, .int r_10), (15, .int r_8), (14, .int r_6), (13, .int r_4), (2, .int (r_2 &&& 2147483647)), (0, .ref b), (1, .ref (ad 0)), (3, .int x3), (4, .int x4), (5, .int x5), (6, .int x6), (7, .int x7), (8, .ref (ad 44)), (9, .ref (ad 45)), (10, .ref (ad 46)), (11, .ref (ad 47)), (12, .int x12)]) C.E.hx C.E.hb dL_law_150 hl (by decide) rfl (fun ls hl => ?_)
      refine lv_aload_n C.E.hx C.E.hb dL_law_152 rfl (lv_at hl 8 rfl) ?_
      refine lv_iconst (v := 1) C.E.hx C.E.hb dL_law_153 (by decide) ?_
      refine lc_30 C T hl.1 (Nat.le_of_ble_eq_true rfl) dL_law_154 ?_
      refine lv_istore (lv' := [(19, .int (B_X6_spent I A 1)), (18, .int (B_X6_spent I A 0)), (17, .int (B_X6_energy I A)), (16, .int r_10), (15, .int r_8), (14, .int r_6), (13, .int r_4), (2, .int (r_2 &&& 2147483647)), (0, .ref b), (1, .ref (ad 0)), (3, .int x3), (4, .int x4), (5, .int x5), (6, .int x6), (7, .int x7), (8, .ref (ad 44)), (9, .ref (ad 45)), (10, .ref (ad 46)), (11, .ref (ad 47)), (12, .int x12)]) C.E.hx C.E.hb dL_law_157 hl (by decide) rfl (fun ls hl => ?_)
      refine lv_iload C.E.hx C.E.hb dL_law_159 (lv_at hl 6 rfl) ?_
      refine lv_iconst (v := 3) C.E.hx C.E.hb dL_law_161 (by decide) ?_
      refine lv_icmp_ge (tgt := 200) C.E.hx C.E.hb dL_law_162 (by decide) (fun c_12 => ?_) (fun c_12 => ?_)
      · rw [if_pos c_12] at h
        exact w_L_law_J200 C T (fun {_} {_} {_} {_} {_} {_} {_} {_} {_} T h {ls} hl => ih T h hl kx) kx h (lv_sub hl [8, 9, 7, 10, 11, 12, 13, 14, 15, 16, 17, 18, 19, 6, 5, 4, 3, 2, 1, 0] rfl)
      · rw [if_neg c_12] at h
        refine lv_aload_n C.E.hx C.E.hb dL_law_165 rfl (lv_at hl 9 rfl) ?_
        refine lv_iload C.E.hx C.E.hb dL_law_166 (lv_at hl 5 rfl) ?_
        refine lv_iload C.E.hx C.E.hb dL_law_168 (lv_at hl 4 rfl) ?_
        refine lv_iconst (v := 1) C.E.hx C.E.hb dL_law_170 (by decide) ?_
        obtain ⟨r_135, e_136, h⟩ := obind h
        refine lc_34 C T e_136 hl.1 (Nat.le_of_ble_eq_true rfl) dL_law_171 ?_
        refine lv_iconst (v := 1) C.E.hx C.E.hb dL_law_174 (by decide) ?_
        refine lv_icmp_eq (tgt := 200) C.E.hx C.E.hb dL_law_175 (by decide) (fun c_137 => ?_) (fun c_137 => ?_)
        · rw [if_pos c_137] at h
          exact w_L_law_J200 C T (fun {_} {_} {_} {_} {_} {_} {_} {_} {_} T h {ls} hl => ih T h hl kx) kx h (lv_sub hl [8, 9, 7, 10, 11, 12, 13, 14, 15, 16, 17, 18, 19, 6, 5, 4, 3, 2, 1, 0] rfl)
        · rw [if_neg c_137] at h
          refine lv_aload_n C.E.hx C.E.hb dL_law_178 rfl (lv_at hl 9 rfl) ?_
          refine lv_iload C.E.hx C.E.hb dL_law_179 (lv_at hl 5 rfl) ?_
          refine lv_iload C.E.hx C.E.hb dL_law_181 (lv_at hl 4 rfl) ?_
          refine lv_iload C.E.hx C.E.hb dL_law_183 (lv_at hl 3 rfl) ?_
          obtain ⟨q_138, e_139, h⟩ := obind h
          refine lc_38 C T e_139 hl.1 (Nat.le_of_ble_eq_true rfl) dL_law_185 (fun H locs T => ?_)
          refine lv_aload_n C.E.hx C.E.hb dL_law_188 rfl (lv_at hl 9 rfl) ?_
          refine lc_26 C T hl.1 (Nat.le_of_ble_eq_true rfl) dL_law_189 ?_
          refine lv_iload C.E.hx C.E.hb dL_law_192 (lv_at hl 2 rfl) ?_
          refine lv_isub C.E.hx C.E.hb dL_law_194 ?_
          refine lv_icmp_eq (tgt := 598) C.E.hx C.E.hb dL_law_195 (by decide) (fun c_140 => ?_) (fun c_140 => ?_)
          · rw [if_pos c_140] at h
            exact w_L_law_J598 C T (fun {_} {_} {_} {_} {_} {_} {_} {_} {_} T h {ls} hl => ih T h hl kx) kx h (lv_sub hl [8, 9, 7, 10, 11, 12, 13, 14, 15, 16, 17, 18, 19, 6, 5, 4, 2, 1, 0] rfl)
          · rw [if_neg c_140] at h
            exact nomatch h
end
end LAWW

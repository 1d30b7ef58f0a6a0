section LEAST3
theorem if_eq0 {c : Prop} (i : Decidable c) {u v : Int32} (e : c → u = v) : (if c then u else 0) = (if c then v else 0) := by
  by_cases q : c
  · rw [if_pos q, if_pos q, e q]
  · rw [if_neg q, if_neg q]
theorem ring3 (a b c d e f f' : Int32) : a + b + f' + d + e = (a + b + f + d + e) - f + f' := by grind
theorem ewR {w h x y : Nat} {p q hv d : Int32} {D D2 : Nat → Nat → Int32} (hD : ∀ a b, a < w → b < h → ¬ (a = x ∧ b = y) → ¬ (a = x + 1 ∧ b = y) → D2 a b = D a b) (hx : x + 1 < w) (hy : y < h) :
    ew w h p q D2 x y hv d = ew w h p q D x y hv d - p * B_X6_squareApart (D (x + 1) y) d + p * B_X6_squareApart (D2 (x + 1) y) d := by
  unfold ew
  rw [if_pos hx, if_pos hx, if_eq0 _ (fun z : 0 < x => by rw [hD (x - 1) y (by omega) (by omega) (by omega) (by omega)]), if_eq0 _ (fun z : 0 < y => by rw [hD x (y - 1) (by omega) (by omega) (by omega) (by omega)]), if_eq0 _ (fun z : y + 1 < h => by rw [hD x (y + 1) (by omega) (by omega) (by omega) (by omega)])]
  generalize (if 0 < x then p * B_X6_squareApart (D (x - 1) y) d else 0) = a
  generalize (if 0 < y then q * B_X6_squareApart (D x (y - 1)) d else 0) = b
  generalize (if y + 1 < h then q * B_X6_squareApart (D x (y + 1)) d else 0) = c
  generalize p * B_X6_squareApart (D (x + 1) y) d = e
  generalize p * B_X6_squareApart (D2 (x + 1) y) d = f
  grind
theorem ewR2 {w h x y : Nat} {p q hv d : Int32} {D D2 : Nat → Nat → Int32} (hD : ∀ a b, a < w → b < h → ¬ (a = x ∧ b = y) → ¬ (a = x + 1 ∧ b = y) → D2 a b = D a b) (hx : x + 1 < w) (hy : y < h) :
    ew w h p q D2 (x + 1) y hv d = ew w h p q D (x + 1) y hv d - p * B_X6_squareApart (D x y) d + p * B_X6_squareApart (D2 x y) d := by
  unfold ew
  rw [if_pos (Nat.succ_pos x), if_pos (Nat.succ_pos x), Nat.add_sub_cancel, if_eq0 _ (fun z : x + 1 + 1 < w => by rw [hD (x + 1 + 1) y (by omega) (by omega) (by omega) (by omega)]), if_eq0 _ (fun z : 0 < y => by rw [hD (x + 1) (y - 1) (by omega) (by omega) (by omega) (by omega)]), if_eq0 _ (fun z : y + 1 < h => by rw [hD (x + 1) (y + 1) (by omega) (by omega) (by omega) (by omega)])]
  generalize (if x + 1 + 1 < w then p * B_X6_squareApart (D (x + 1 + 1) y) d else 0) = a
  generalize (if 0 < y then q * B_X6_squareApart (D (x + 1) (y - 1)) d else 0) = b
  generalize (if y + 1 < h then q * B_X6_squareApart (D (x + 1) (y + 1)) d else 0) = c
  generalize p * B_X6_squareApart (D x y) d = e
  generalize p * B_X6_squareApart (D2 x y) d = f
  grind
theorem ewD {w h x y : Nat} {p q hv d : Int32} {D D2 : Nat → Nat → Int32} (hD : ∀ a b, a < w → b < h → ¬ (a = x ∧ b = y) → ¬ (a = x ∧ b = y + 1) → D2 a b = D a b) (hx : x < w) (hy : y + 1 < h) :
    ew w h p q D2 x y hv d = ew w h p q D x y hv d - q * B_X6_squareApart (D x (y + 1)) d + q * B_X6_squareApart (D2 x (y + 1)) d := by
  unfold ew
  rw [if_pos hy, if_pos hy, if_eq0 _ (fun z : 0 < x => by rw [hD (x - 1) y (by omega) (by omega) (by omega) (by omega)]), if_eq0 _ (fun z : 0 < y => by rw [hD x (y - 1) (by omega) (by omega) (by omega) (by omega)]), if_eq0 _ (fun z : x + 1 < w => by rw [hD (x + 1) y (by omega) (by omega) (by omega) (by omega)])]
  generalize (if 0 < x then p * B_X6_squareApart (D (x - 1) y) d else 0) = a
  generalize (if 0 < y then q * B_X6_squareApart (D x (y - 1)) d else 0) = b
  generalize (if x + 1 < w then p * B_X6_squareApart (D (x + 1) y) d else 0) = c
  generalize q * B_X6_squareApart (D x (y + 1)) d = e
  generalize q * B_X6_squareApart (D2 x (y + 1)) d = f
  grind
theorem ewD2 {w h x y : Nat} {p q hv d : Int32} {D D2 : Nat → Nat → Int32} (hD : ∀ a b, a < w → b < h → ¬ (a = x ∧ b = y) → ¬ (a = x ∧ b = y + 1) → D2 a b = D a b) (hx : x < w) (hy : y + 1 < h) :
    ew w h p q D2 x (y + 1) hv d = ew w h p q D x (y + 1) hv d - q * B_X6_squareApart (D x y) d + q * B_X6_squareApart (D2 x y) d := by
  unfold ew
  rw [if_pos (Nat.succ_pos y), if_pos (Nat.succ_pos y), Nat.add_sub_cancel, if_eq0 _ (fun z : 0 < x => by rw [hD (x - 1) (y + 1) (by omega) (by omega) (by omega) (by omega)]), if_eq0 _ (fun z : x + 1 < w => by rw [hD (x + 1) (y + 1) (by omega) (by omega) (by omega) (by omega)]), if_eq0 _ (fun z : y + 1 + 1 < h => by rw [hD x (y + 1 + 1) (by omega) (by omega) (by omega) (by omega)])]
  generalize (if 0 < x then p * B_X6_squareApart (D (x - 1) (y + 1)) d else 0) = a
  generalize (if x + 1 < w then p * B_X6_squareApart (D (x + 1) (y + 1)) d else 0) = b
  generalize (if y + 1 + 1 < h then q * B_X6_squareApart (D x (y + 1 + 1)) d else 0) = c
  generalize q * B_X6_squareApart (D x y) d = e
  generalize q * B_X6_squareApart (D2 x y) d = f
  grind
section
variable {w h np : Nat} {I J : Nat → Int32} {A B : Nat → Nat → Int32}
/-- two cells have other directions -/
theorem Co.two (C : Co w h np I A J B) {c c' : Nat} {u v : Int32} (hu : up 14 u) (hv : up 14 v) {f : Nat → Int32} (hf : ∀ j, j ≠ c → j ≠ c' → f j = B 0 j) (fc : f c = u) (fc' : f c' = v) : Co w h np I (va_up A 8 (upd (upd (A 8) c u) c' v)) J (va_up B 0 f) := by
  refine ⟨C.geo, C.cost, ?_, C.kind, C.pix, C.field, C.np8⟩
  intro j hj
  show up 14 (upd (upd (A 8) c u) c' v j) ∧ f j = upd (upd (A 8) c u) c' v j
  rw [upd_at, upd_at]
  by_cases e : j = c'
  · rw [if_pos e, e, fc']
    exact ⟨hv, rfl⟩
  · rw [if_neg e]
    by_cases e2 : j = c
    · rw [if_pos e2, e2, fc]
      exact ⟨hu, rfl⟩
    · rw [if_neg e2, hf j e2 e]
      exact C.dir j hj
theorem vS2_fold {E1 E2 a b c u : Int32} (h1 : E1 = u - a + c) {E1' v : Int32} (h2 : E2 = v - b + c) (e : E1' = c) : E1 + E2 - E1' = (u - a) + (v - b) + c := by
  subst h1 h2 e
  grind
theorem Co.bothR (C : Co w h np I A J B) {x y : Nat} (hx : x + 1 < w) (hy : y < h) : ∀ (u v : Int32) (f : Nat → Int32), up 14 u → up 14 v → (∀ j, j ≠ 12 * y + x → j ≠ 12 * y + (x + 1) → f j = B 0 j) → f (12 * y + x) = u → f (12 * y + (x + 1)) = v → ∃ e1 e2 e3, B_X7_withAll J (va_up B 0 f) (nI x) (nI y) u = some e1 ∧ B_X7_withAll J (va_up B 0 f) (nI (x + 1)) (nI y) v = some e2 ∧ B_X7_pair J (va_up B 0 f) (nI x) (nI y) u (nI (x + 1) - nI x) (nI y - nI y) = some e3 ∧ e1 + e2 - e3 = vS2 I A x y (x + 1) y (I 7) u v := by
  intro u v f hu hv hf fc fc'
  have w12 := C.w12
  have hx0 : x < w := by omega
  have C2 := C.two hu hv hf fc fc'
  have hD : ∀ a b, a < w → b < h → ¬ (a = x ∧ b = y) → ¬ (a = x + 1 ∧ b = y) → dd (va_up A 8 (upd (upd (A 8) (12 * y + x) u) (12 * y + (x + 1)) v)) a b = dd A a b := by
    intro a b ha hb h1 h2
    show upd (upd (A 8) (12 * y + x) u) (12 * y + (x + 1)) v (12 * b + a) = A 8 (12 * b + a)
    rw [upd_at, if_neg (by omega), upd_at, if_neg (by omega)]
  have d1 : dd (va_up A 8 (upd (upd (A 8) (12 * y + x) u) (12 * y + (x + 1)) v)) x y = u := by
    show upd (upd (A 8) (12 * y + x) u) (12 * y + (x + 1)) v (12 * y + x) = u
    rw [upd_at, if_neg (by omega), upd_at, if_pos rfl]
  have d2 : dd (va_up A 8 (upd (upd (A 8) (12 * y + x) u) (12 * y + (x + 1)) v)) (x + 1) y = v := if_pos rfl
  refine ⟨_, _, _, C2.wA hx0 hy hu, C2.wA hx hy hv, by rw [nI_sub (Nat.le_succ x), show x + 1 - x = 1 by omega, Int32.sub_self]; exact C2.pR hx0 hy u, ?_⟩
  unfold vS2
  have k1 := ewR (p := I 7) (q := I 8) (hv := hd A (12 * y + x) u) (d := u) hD hx hy
  have k2 := ewR2 (p := I 7) (q := I 8) (hv := hd A (12 * y + (x + 1)) v) (d := v) hD hx hy
  rw [d2, sq_sym (C.dup hx hy) hu, sq_sym hv hu] at k1
  rw [d1] at k2
  rw [C2.eW hx0 hy, C2.eW hx hy, C.eW hx0 hy, C.eW hx hy, if_pos hx, d2]
  exact vS2_fold k1 k2 rfl
theorem Co.bothD (C : Co w h np I A J B) {x y : Nat} (hx : x < w) (hy : y + 1 < h) : ∀ (u v : Int32) (f : Nat → Int32), up 14 u → up 14 v → (∀ j, j ≠ 12 * y + x → j ≠ 12 * (y + 1) + x → f j = B 0 j) → f (12 * y + x) = u → f (12 * (y + 1) + x) = v → ∃ e1 e2 e3, B_X7_withAll J (va_up B 0 f) (nI x) (nI y) u = some e1 ∧ B_X7_withAll J (va_up B 0 f) (nI x) (nI (y + 1)) v = some e2 ∧ B_X7_pair J (va_up B 0 f) (nI x) (nI y) u (nI x - nI x) (nI (y + 1) - nI y) = some e3 ∧ e1 + e2 - e3 = vS2 I A x y x (y + 1) (I 8) u v := by
  intro u v f hu hv hf fc fc'
  have w12 := C.w12
  have hy0 : y < h := by omega
  have C2 := C.two hu hv hf fc fc'
  have hD : ∀ a b, a < w → b < h → ¬ (a = x ∧ b = y) → ¬ (a = x ∧ b = y + 1) → dd (va_up A 8 (upd (upd (A 8) (12 * y + x) u) (12 * (y + 1) + x) v)) a b = dd A a b := by
    intro a b ha hb h1 h2
    show upd (upd (A 8) (12 * y + x) u) (12 * (y + 1) + x) v (12 * b + a) = A 8 (12 * b + a)
    rw [upd_at, if_neg (by omega), upd_at, if_neg (by omega)]
  have d1 : dd (va_up A 8 (upd (upd (A 8) (12 * y + x) u) (12 * (y + 1) + x) v)) x y = u := by
    show upd (upd (A 8) (12 * y + x) u) (12 * (y + 1) + x) v (12 * y + x) = u
    rw [upd_at, if_neg (by omega), upd_at, if_pos rfl]
  have d2 : dd (va_up A 8 (upd (upd (A 8) (12 * y + x) u) (12 * (y + 1) + x) v)) x (y + 1) = v := if_pos rfl
  refine ⟨_, _, _, C2.wA hx hy0 hu, C2.wA hx hy hv, by rw [nI_sub (Nat.le_succ y), show y + 1 - y = 1 by omega, Int32.sub_self]; exact C2.pD hx hy0 u, ?_⟩
  unfold vS2
  have k1 := ewD (p := I 7) (q := I 8) (hv := hd A (12 * y + x) u) (d := u) hD hx hy
  have k2 := ewD2 (p := I 7) (q := I 8) (hv := hd A (12 * (y + 1) + x) v) (d := v) hD hx hy
  rw [d2, sq_sym (C.dup hx hy) hu, sq_sym hv hu] at k1
  rw [d1] at k2
  rw [C2.eW hx hy0, C2.eW hx hy, C.eW hx hy0, C.eW hx hy, if_pos hy, d2]
  exact vS2_fold k1 k2 rfl
/-- both find the same -/
theorem least_same (C : Co w h np I A J B) {x y x' y' d1 d2 : Nat} (hx : x < w) (hy : y < h) (hx' : x' < w) (hy' : y' < h) {q : Int32} (hq : up 20 q) (hd1 : d1 ≤ 14) (hd2 : d2 ≤ 14) (e1 : dd A x y = nI d1) (e2 : dd A x' y' = nI d2) {r s : Int32}
    (hr : IsMin (vS2 I A x y x' y' q) (loF (A 9 (12 * y + x)) d1) (hiF (A 9 (12 * y + x)) d1) (loF (A 9 (12 * y' + x')) d2) (hiF (A 9 (12 * y' + x')) d2) r)
    (s1 : ∀ a b, loF (A 9 (12 * y + x)) d1 ≤ a → a ≤ hiF (A 9 (12 * y + x)) d1 → loF (A 9 (12 * y' + x')) d2 ≤ b → b ≤ hiF (A 9 (12 * y' + x')) d2 → s ≤ vS2 I A x y x' y' q (nI a) (nI b))
    (s2 : s = 1000000000 ∨ ∃ a b, loF (A 9 (12 * y + x)) d1 ≤ a ∧ a ≤ hiF (A 9 (12 * y + x)) d1 ∧ loF (A 9 (12 * y' + x')) d2 ≤ b ∧ b ≤ hiF (A 9 (12 * y' + x')) d2 ∧ s = vS2 I A x y x' y' q (nI a) (nI b)) : r = s := by
  have hv : vS2 I A x y x' y' q (nI d1) (nI d2) ≤ 1000000000 := by
    unfold vS2
    rw [e1, e2]
    obtain ⟨a, ha, ea⟩ := C.eUp hx hy (up_nI hd1)
    obtain ⟨b, hb, eb⟩ := C.eUp hx' hy' (up_nI hd2)
    obtain ⟨c, hc, ec⟩ := up_mul hq (sq_up (up_nI hd1) (up_nI hd2))
    rw [ea, eb, ec]
    have : (nI a - nI c) + (nI b - nI c) + nI c = nI (a + b) - nI c := by
      rw [← nI_add]
      grind
    rw [this, Int32.le_iff_toInt_le, Int32.toInt_sub, nI_toInt (by omega), nI_toInt (by omega)]
    have h9 : (1000000000 : Int32).toInt = 1000000000 := by decide
    rw [h9, Int.bmod_eq_of_le (by omega) (by omega)]
    omega
  rcases s2 with s2 | s2
  · have k := s1 d1 d2 lo_le (le_hi hd1) lo_le (le_hi hd2)
    have k2 : s = vS2 I A x y x' y' q (nI d1) (nI d2) := Int32.le_antisymm k (by rw [s2]; exact hv)
    exact IsMin.eq hr ⟨s1, d1, d2, lo_le, le_hi hd1, lo_le, le_hi hd2, k2⟩
  · exact IsMin.eq hr ⟨s1, s2⟩
/-- the reference puts the directions back -/
theorem Co.back (C : Co w h np I A J B) {c c' d1 d2 : Nat} {f : Nat → Int32} (hf : ∀ j, j ≠ c → j ≠ c' → f j = B 0 j) (c1 : c < 144) (c2 : c' < 144) (e1 : A 8 c = nI d1) (e2 : A 8 c' = nI d2) : DirP (A 8) (upd (upd f c (nI d1)) c' (nI d2)) := by
  intro j hj
  refine ⟨(C.dir j hj).1, ?_⟩
  rw [upd_at, upd_at]
  by_cases z : j = c'
  · rw [if_pos z, z, e2]
  · rw [if_neg z]
    by_cases z2 : j = c
    · rw [if_pos z2, z2, e1]
    · rw [if_neg z2, hf j z2 z]
      exact (C.dir j hj).2
end
theorem st_least {I J : Nat → Int32} {A B : Nat → Nat → Int32} (R : Rel I A J B) (x1 x2 x3 : Int32) : Good [(1, 1)] (B_X6_least I A x1 x2 x3) (B_X7_least J B x1 x2 x3) := by
  unfold B_X6_least B_X7_least B_X6_least_J27 B_X6_least_J38 B_X7_least_J16 B_X7_least_J29 B_X7_least_J51
  obtain ⟨J0, hJ, h0, R⟩ := th0 R
  rw [hJ]
  clear hJ
  have RR := R
  obtain ⟨w, h, np, nd, nq, t, C, S, E, F1, F2⟩ := R
  have w12 := C.w12
  have h12 := C.h12
  -- one shape for both sides
  have fin : ∀ (x y x' y' : Nat) (q : Int32), x < w → y < h → x' < w → y' < h → 12 * y + x ≠ 12 * y' + x' → up 20 q →
      (∀ (u v : Int32) (f : Nat → Int32), up 14 u → up 14 v → (∀ j, j ≠ 12 * y + x → j ≠ 12 * y' + x' → f j = B 0 j) → f (12 * y + x) = u → f (12 * y' + x') = v → ∃ e1 e2 e3, B_X7_withAll J0 (va_up B 0 f) (nI x) (nI y) u = some e1 ∧ B_X7_withAll J0 (va_up B 0 f) (nI x') (nI y') v = some e2 ∧ B_X7_pair J0 (va_up B 0 f) (nI x) (nI y) u (nI x' - nI x) (nI y' - nI y) = some e3 ∧ e1 + e2 - e3 = vS2 I A x y x' y' q u v) →
      Good [(1, 1)] ((B_X1_leastOfTwo_J41 I A (nI x) (nI y) (nI x') (nI y') q).bind fun r_5 => some (.inl (r_5, I, A))) ((rd (B 0) 144 (B_X7_cell (nI x) (nI y))).bind fun v_7 => (rd (B 0) 144 (B_X7_cell (nI x') (nI y'))).bind fun v_9 => (B_X7_least_L98 (nI x) (nI y) (nI x') (nI y') (B_X7_cell (nI x) (nI y)) (B_X7_cell (nI x') (nI y')) v_7 v_9 FU 1000000000 0 J0 B).bind fun q_32 => (wr (q_32.2.2 0) 144 (B_X7_cell (nI x) (nI y)) v_7).bind fun g_34 => (wr (((va_up q_32.2.2 0 g_34)) 0) 144 (B_X7_cell (nI x') (nI y')) v_9).bind fun g_36 => some (q_32.1, q_32.2.1, (va_up ((va_up q_32.2.2 0 g_34)) 0 g_36))) := by
    intro x y x' y' q hx hy hx' hy' hne hq hb
    obtain ⟨d1, hd1, ed1⟩ := C.dup hx hy
    obtain ⟨d2, hd2, ed2⟩ := C.dup hx' hy'
    obtain ⟨r, er, hr⟩ := C.leastC hx hy hx' hy' q hd1 hd2 ed1 ed2
    obtain ⟨s, f, es, hf, s1, s2⟩ := C.leastM hx hy hx' hy' hne hd1 hd2 hb
    have hrs := least_same C hx hy hx' hy' hq hd1 hd2 ed1 ed2 hr s1 s2
    subst hrs
    have c1 := C.cell hx hy
    have c2 := C.cell hx' hy'
    rw [er, bind_some', C.rdDir hx hy, bind_some', C.rdDir hx' hy', bind_some', ed1, ed2, nn_cell, nn_cell, es, bind_some']
    dsimp only
    rw [wr_nI c1 (by decide), bind_some', wr_nI c2 (by decide), bind_some']
    exact good_r ⟨w, h, np, nd, nq, t, ⟨C.geo, C.cost, C.back hf c1 c2 ed1 ed2, C.kind, C.pix, C.field, C.np8⟩, S, E, F1, F2⟩ h0
  rw [C.isCell]
  rcases C.has x1 x2 with e | ⟨e, x, y, hx, hy, rfl, rfl⟩
  · rw [e, if00]
    by_cases z : x3 = 0
    · rw [if_pos z, if_pos z, if00]
      exact good_x RR (by decide)
    · rw [if_neg z, if_neg z, if00]
      exact good_x RR (by decide)
  rw [e]
  simp only [if10]
  by_cases z : x3 = 0
  · simp only [if_pos z]
    rw [C.isCell, nI_1]
    by_cases hy2 : y + 1 < h
    · rw [C.hin hx hy2, if10, if10]
      unfold B_X1_leastOfTwo B_X1_leastOfTwo_J11 B_X1_leastOfTwo_J24
      rw [if_pos z, if_pos z, if_pos z, nI_1]
      exact fin x y x (y + 1) (I 8) hx hy hx hy2 (by omega) C.cost.2.1 (C.bothD hx hy2)
    · rw [C.hoy (show h ≤ y + 1 by omega) (by omega), if00, if00]
      exact good_x RR (by decide)
  · simp only [if_neg z]
    rw [C.isCell, nI_1]
    by_cases hx2 : x + 1 < w
    · rw [C.hin hx2 hy, if10, if10]
      unfold B_X1_leastOfTwo B_X1_leastOfTwo_J11 B_X1_leastOfTwo_J24
      rw [if_neg z, if_neg z, if_neg z, nI_1]
      exact fin x y (x + 1) y (I 7) hx hy hx2 hy (by omega) C.cost.1 (C.bothR hx2 hy)
    · rw [C.hox (show w ≤ x + 1 by omega) (by omega), if00, if00]
      exact good_x RR (by decide)
end LEAST3

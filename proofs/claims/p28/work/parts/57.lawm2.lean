section LAWM2
section
variable {w h k np nd t pr L : Nat} {xs : Nat → Int32} {I : Nat → Int32} {A B : Nat → Nat → Int32}
/-- behind a call that works -/
theorem Lq.work (Q : Lq w h k np nd t pr I A B) {g : Int32} {I' : Nat → Int32} {A' : Nat → Nat → Int32} (V : Inv w h np nd t I' A') (W : Wk g I I' A A') : Lq w h (k + 1) np nd t pr I' A' B ∧ I' 3 = I 3 ∧ I' 2 = I 2 + I' 9 - I 9 ∧ g = I' 9 - I 9 := by
  obtain ⟨w1, w2, w3, k0, k1, k2, k3⟩ := W
  refine ⟨⟨V, Q.2.1, Q.2.2.1, by have := Q.2.2.2.1; omega, fun p hp => ?_⟩, w3, ?_, ?_⟩
  · rw [k0, k1, k2, k3]
    exact Q.2.2.2.2 p hp
  · rw [w1, w2]
    generalize I 2 = a
    generalize I 9 = b
    grind
  · rw [w1, add_sub_l]
theorem j535 (Q : Lq w h k np nd t pr I A B) (hk : k < 50) (K : KT3) (x2 x12 : Int32) {act a b : Nat} (hact : act ≤ 8) (ha : a < w) (hb : b < h) :
    Res w h k x12 K (B_L_law_J535 L xs K I A B x2 (nI w) (nI h) (nI np) (nI pr) (nI t) x12 (nI act) (nI a) (nI b) (I 9) (I 2) (I 3)) := by
  unfold B_L_law_J535
  by_cases c : act ≤ 6
  · rw [if_pos (show nI act ≤ (6 : Int32) from nI_le (b := 6) c (by decide))]
    refine j598 Q.up K x2 x12 hact ha hb (fun _ => ⟨rfl, ?_⟩)
    generalize I 2 = a
    generalize I 9 = b
    grind
  · rw [if_neg (show ¬ nI act ≤ (6 : Int32) from nI_ge (a := 6) (by omega) (by omega))]
    obtain ⟨m, hm, em⟩ := at_ok (n := 3) (by decide) (by decide) (x2 >>> (16 &&& 31))
    have t3 := Q.2.2.2.1
    obtain ⟨f, nd', I', A', e, hnd, V, uf, h3, kp⟩ := st_tick Q.1 (m := 1 + m) (by omega) (by omega) (by omega)
    rw [show (3 : Int32) = nI 3 from rfl, em, bind_some', show (1 : Int32) = nI 1 from rfl, nI_add, e, bind_some', nI_add]
    obtain ⟨f', hf, rfl⟩ := uf
    have e1 : B_X6_spent I' A' (nI 1) = I' 3 := rfl
    have e2 : B_X6_now I' A' = nI (t + (1 + m)) := V.2.1.2.2.1.1
    dsimp only
    rw [if_neg (nI_pos (by omega)), e1, if_pos h3, e2, if_pos rfl]
    have Q' : Lq w h (k + 1) np nd' (t + (1 + m)) pr I' A' B := by
      refine ⟨V, by have := Q.2.1; omega, Q.2.2.1, by omega, fun p hp => ?_⟩
      rw [kp.1, kp.2.1, kp.2.2.1, kp.2.2.2]
      exact Q.2.2.2.2 p hp
    exact j598 Q' K x2 x12 hact ha hb (fun z => absurd z (by omega))
theorem j473 (Q : Lq w h k np nd t pr I A B) (hk : k < 50) (K : KT3) (x2 x12 : Int32) {act a b d : Nat} (hact : act ≤ 8) (ha : a < w) (hb : b < h) (hd : d < 15) :
    Res w h k x12 K (B_L_law_J473 L xs K I A B x2 (nI w) (nI h) (nI np) (nI pr) (nI t) x12 (nI act) (nI a) (nI b) (nI d) (I 9) (I 2) (I 3)) := by
  unfold B_L_law_J473
  have np8 := Q.1.1.np8
  have J := j535 (L := L) (xs := xs) Q hk K x2 x12 hact ha hb
  by_cases c : nI act = 6
  · rw [if_pos c]
    by_cases c1 : np ≤ 0
    · rw [if_pos (show nI np ≤ 0 from nI_le (b := 0) c1 (by decide))]
      exact J
    rw [if_neg (nI_nle (by omega) (by omega))]
    by_cases c2 : 35 ≤ pr
    · rw [if_pos (show (35 : Int32) ≤ nI pr from nI_le (a := 35) c2 (by have := Q.2.2.1; omega))]
      exact J
    rw [if_neg (show ¬ (35 : Int32) ≤ nI pr from nI_ge (b := 35) (by omega) (by decide))]
    obtain ⟨p, hp, ep⟩ := at_ok (n := np) (by omega) (by omega) (x2 >>> (16 &&& 31))
    obtain ⟨m, hm, em⟩ := at_ok (n := 3) (by decide) (by decide) (x2 >>> (20 &&& 31))
    obtain ⟨s, hs, es⟩ := at_ok (n := 101) (by decide) (by decide) (x2 >>> (4 &&& 31))
    have t3 := Q.2.2.2.1
    obtain ⟨g, I', A', e, V, i9, i2, i3, kp⟩ := st_program Q.1 (by have := Q.2.1; omega) (k := t + 1 + m) (d := d) (s := s) hp (by omega) (by omega) (by omega) (by omega)
    rw [ep, bind_some', show (3 : Int32) = nI 3 from rfl, em, bind_some', show (101 : Int32) = nI 101 from rfl, es, bind_some', nI_1, nI_1, nI_add, e, bind_some']
    dsimp only
    have Q' : Lq w h (k + 1) np (nd + 1) t (pr + 1) I' A' B := by
      refine ⟨V, by have := Q.2.1; omega, by omega, by omega, fun p hp => ?_⟩
      rw [kp.1, kp.2.1, kp.2.2.1, kp.2.2.2]
      exact Q.2.2.2.2 p hp
    refine j598 Q' K x2 x12 hact ha hb (fun _ => ⟨i3, ?_⟩)
    rw [i2, i9]
    generalize I 2 = a
    generalize I 9 = b
    grind
  · rw [if_neg c]
    exact J
theorem j427 (Q : Lq w h k np nd t pr I A B) (hk : k < 50) (K : KT3) (x2 x12 : Int32) {act a b d : Nat} (hact : act ≤ 8) (ha : a < w) (hb : b < h) (hd : d < 15) :
    Res w h k x12 K (B_L_law_J427 L xs K I A B x2 (nI w) (nI h) (nI np) (nI pr) (nI t) x12 (nI act) (nI a) (nI b) (nI d) (I 9) (I 2) (I 3)) := by
  unfold B_L_law_J427
  have np8 := Q.1.1.np8
  have J := j473 (L := L) (xs := xs) Q hk K x2 x12 hact ha hb hd
  by_cases c : nI act = 5
  · rw [if_pos c]
    by_cases c1 : np ≤ 0
    · rw [if_pos (show nI np ≤ 0 from nI_le (b := 0) c1 (by decide))]
      exact J
    rw [if_neg (nI_nle (by omega) (by omega))]
    obtain ⟨p, hp, ep⟩ := at_ok (n := np) (by omega) (by omega) (x2 >>> (16 &&& 31))
    obtain ⟨s, hs, es⟩ := at_ok (n := 101) (by decide) (by decide) (x2 >>> (4 &&& 31))
    obtain ⟨g, I', A', e, V, W⟩ := st_drive Q.1 (d := d) (s := s) hp (by omega) (by omega)
    obtain ⟨Q', i3, i2, hg⟩ := Q.work V W
    rw [ep, bind_some', show (101 : Int32) = nI 101 from rfl, es, bind_some', e, bind_some']
    dsimp only
    rw [if_pos (show g = B_X6_energy I' A' - I 9 from hg)]
    exact j598 Q' K x2 x12 hact ha hb (fun _ => ⟨i3, i2⟩)
  · rw [if_neg c]
    exact J
theorem l305 (C : Co w h np I A) (x2 x3 x4 x5 x6 x7 x12 x13 x17 x18 x19 : Int32) {a b c d : Nat} (hac : a < c) (hbd : b < d) (hc : c ≤ w) (hd : d ≤ h) :
    ∃ r, B_L_law_L305 L xs I A B x2 x3 x4 x5 x6 x7 x12 x13 (nI a) (nI b) x17 x18 x19 (nI c) (nI d) FU 1 (nI b) = some r ∧ (r = 0 ∨ (r = 1 ∧ ∀ x y, a ≤ x → x < c → b ≤ y → y < d → A 12 (12 * y + x) = -1)) := by
  have w12 := C.w12
  have h12 := C.h12
  have np8 := C.np8
  have row : ∀ y, b ≤ y → y < d → ∀ z, z = 0 ∨ z = 1 → ∃ r, B_L_law_L316 L xs I A B x2 x3 x4 x5 x6 x7 x12 x13 (nI a) (nI b) x17 x18 x19 (nI c) (nI d) (nI y) FU z (nI a) = some r ∧ (r = 0 ∨ (r = 1 ∧ z = 1 ∧ ∀ x, a ≤ x → x < c → A 12 (12 * y + x) = -1)) := by
    intro y hby hyd z hz
    refine ng_lp0 (F := fun n (s : Int32 × Int32) => B_L_law_L316 L xs I A B x2 x3 x4 x5 x6 x7 x12 x13 (nI a) (nI b) x17 x18 x19 (nI c) (nI d) (nI y) n s.1 s.2) (s := (z, nI a))
      (fun k s => s.2 = nI (a + k) ∧ (s.1 = 0 ∨ (s.1 = 1 ∧ z = 1 ∧ ∀ x, a ≤ x → x < a + k → A 12 (12 * y + x) = -1))) (c - a) _ (by omega) ⟨rfl, ?_⟩ ?_ ?_
    · rcases hz with q | q
      · exact Or.inl q
      · exact Or.inr ⟨q, q, fun x h1 h2 => by omega⟩
    · rintro k n ⟨v, i⟩ hk ⟨e, P⟩
      dsimp only at e P ⊢
      subst e
      rw [B_L_law_L316_s, if_neg (nI_ge (show a + k < c by omega) (by omega)), st_told2 C (show a + k < w by omega) (show y < h by omega), bind_some', nI_1]
      have a1 : v &&& 1 = v := by
        rcases P with rfl | ⟨rfl, -⟩ <;> decide
      have a0 : v &&& 0 = 0 := by
        rcases P with rfl | ⟨rfl, -⟩ <;> decide
      rw [a1, a0]
      rcases C.pix _ (C.cell (show a + k < w by omega) (show y < h by omega)) with q | ⟨p, hp, q⟩
      · rw [q, if_neg (by decide)]
        refine ⟨(v, nI (a + k + 1)), rfl, rfl, ?_⟩
        rcases P with P | ⟨p1, p2, p3⟩
        · exact Or.inl P
        · refine Or.inr ⟨p1, p2, fun x h1 h2 => ?_⟩
          by_cases ex : x = a + k
          · rw [ex]; exact q
          · exact p3 x h1 (by omega)
      · rw [q, if_pos (nI_pos' (by omega))]
        exact ⟨(0, nI (a + k + 1)), rfl, rfl, Or.inl rfl⟩
    · rintro n ⟨v, i⟩ ⟨e, P⟩
      dsimp only at e P ⊢
      subst e
      refine ⟨v, ?_, ?_⟩
      · rw [B_L_law_L316_s, if_pos (nI_le (show c ≤ a + (c - a) by omega) (by omega))]
      · rcases P with P | ⟨p1, p2, p3⟩
        · exact Or.inl P
        · exact Or.inr ⟨p1, p2, fun x h1 h2 => p3 x h1 (by omega)⟩
  refine ng_lp0 (F := fun n (s : Int32 × Int32) => B_L_law_L305 L xs I A B x2 x3 x4 x5 x6 x7 x12 x13 (nI a) (nI b) x17 x18 x19 (nI c) (nI d) n s.1 s.2) (s := (1, nI b))
    (fun k s => s.2 = nI (b + k) ∧ (s.1 = 0 ∨ (s.1 = 1 ∧ ∀ x y, a ≤ x → x < c → b ≤ y → y < b + k → A 12 (12 * y + x) = -1))) (d - b) _ (by omega) ⟨rfl, Or.inr ⟨rfl, fun x y h1 h2 h3 h4 => by omega⟩⟩ ?_ ?_
  · rintro k n ⟨v, i⟩ hk ⟨e, P⟩
    dsimp only at e P ⊢
    subst e
    obtain ⟨r, e, z⟩ := row (b + k) (by omega) (by omega) v (by rcases P with q | q; exact Or.inl q; exact Or.inr q.1)
    rw [B_L_law_L305_s, if_neg (nI_ge (show b + k < d by omega) (by omega)), e, bind_some', nI_1]
    refine ⟨(r, nI (b + k + 1)), rfl, rfl, ?_⟩
    rcases z with z | ⟨z1, z2, z3⟩
    · exact Or.inl z
    · rcases P with P | ⟨p1, p2⟩
      · rw [P] at z2; exact absurd z2 (by decide)
      · refine Or.inr ⟨z1, fun x y h1 h2 h3 h4 => ?_⟩
        by_cases ey : y = b + k
        · rw [ey]; exact z3 x h1 h2
        · exact p2 x y h1 h2 h3 (by omega)
  · rintro n ⟨v, i⟩ ⟨e, P⟩
    dsimp only at e P ⊢
    subst e
    refine ⟨v, ?_, ?_⟩
    · rw [B_L_law_L305_s, if_pos (nI_le (show d ≤ b + (d - b) by omega) (by omega))]
    · rcases P with P | ⟨p1, p2⟩
      · exact Or.inl P
      · exact Or.inr ⟨p1, fun x y h1 h2 h3 h4 => p2 x y h1 h2 h3 (by omega)⟩
theorem j299 (Q : Lq w h k np nd t pr I A B) (hnp : np < 8) (K : KT3) (x2 x12 : Int32) {act a b c d : Nat} (hact : act ≤ 8) (hac : a < c) (hbd : b < d) (hc : c ≤ w) (hd : d ≤ h) :
    Res w h k x12 K (B_L_law_J299 L xs K I A B x2 (nI w) (nI h) (nI np) (nI pr) (nI t) x12 (nI act) (nI a) (nI b) (I 9) (I 2) (I 3) 1 (nI c) (nI d)) := by
  have C := Q.1.1
  unfold B_L_law_J299 B_L_law_J424
  obtain ⟨r, e, z⟩ := l305 (L := L) (xs := xs) (B := B) C x2 (nI w) (nI h) (nI np) (nI pr) (nI t) x12 (nI act) (I 9) (I 2) (I 3) hac hbd hc hd
  rw [e, bind_some']
  rcases z with rfl | ⟨rfl, z⟩
  · rw [if00]
    refine j598 Q.up K x2 x12 hact (by omega) (by omega) (fun _ => ⟨rfl, ?_⟩)
    generalize I 2 = a
    generalize I 9 = b
    grind
  · rw [if10]
    obtain ⟨I', A', e, V, i9, i2, i3, m0, m1, m2, m3⟩ := st_pixel Q.1 hnp (x := a) (y := b) (u := c - a) (v := d - b) (by omega) (by omega) (by omega) (by omega) (by
      rintro q ⟨j, i, hj, hi, rfl⟩
      exact z (a + i) (b + j) (by omega) (by omega) (by omega) (by omega))
    rw [nI_sub (by omega), nI_sub (by omega), e, bind_some']
    dsimp only
    rw [if_pos rfl, wr_nI hnp (by decide), bind_some', wr_nI hnp (by decide), bind_some', wr_nI hnp (by decide), bind_some', wr_nI hnp (by decide), bind_some', nI_1]
    have Q' : Lq w h (k + 1) (np + 1) nd t pr I' A' (va_up (va_up (va_up (va_up B 0 (upd (B 0) np (nI a))) 1 (upd (B 1) np (nI b))) 2 (upd (B 2) np (nI (c - a)))) 3 (upd (B 3) np (nI (d - b)))) := by
      refine ⟨V, Q.2.1, Q.2.2.1, by have := Q.2.2.2.1; omega, fun p hp => ?_⟩
      show upd (B 0) np (nI a) p = _ ∧ upd (B 1) np (nI b) p = _ ∧ upd (B 2) np (nI (c - a)) p = _ ∧ upd (B 3) np (nI (d - b)) p = _
      rw [m0, m1, m2, m3]
      simp only [upd_at]
      by_cases ep : p = np
      · simp only [if_pos ep]
        exact ⟨trivial, trivial, trivial, trivial⟩
      · simp only [if_neg ep]
        exact Q.2.2.2.2 p (by omega)
    refine j598 Q' K x2 x12 hact (by omega) (by omega) (fun _ => ⟨i3, ?_⟩)
    rw [i2, i9]
    generalize I 2 = a
    generalize I 9 = b
    grind
theorem j200 (Q : Lq w h k np nd t pr I A B) (hk : k < 50) (K : KT3) (x2 x12 : Int32) {act a b d : Nat} (hact : act ≤ 8) (ha : a < w) (hb : b < h) (hd : d < 15) :
    Res w h k x12 K (B_L_law_J200 L xs K I A B x2 (nI w) (nI h) (nI np) (nI pr) (nI t) x12 (nI act) (nI a) (nI b) (nI d) (I 9) (I 2) (I 3)) := by
  have w12 := Q.1.1.w12
  have h12 := Q.1.1.h12
  have np8 := Q.1.1.np8
  unfold B_L_law_J200
  have J := j427 (L := L) (xs := xs) Q hk K x2 x12 hact ha hb hd
  by_cases c : nI act = 3
  · rw [if_pos c]
    obtain ⟨kd, hkd, ek⟩ := at_ok (n := 3) (by decide) (by decide) (x2 >>> (20 &&& 31))
    obtain ⟨s, hs, es⟩ := at_ok (n := 100) (by decide) (by decide) (x2 >>> (16 &&& 31))
    obtain ⟨g, I', A', e, V, W⟩ := st_anchor Q.1 (k := kd) (d := d) (s := 1 + s) ha hb (by omega) (by omega) (by omega) (by omega)
    obtain ⟨Q', i3, i2, hg⟩ := Q.work V W
    rw [show (3 : Int32) = nI 3 from rfl, ek, bind_some', show (100 : Int32) = nI 100 from rfl, es, bind_some', show (1 : Int32) = nI 1 from rfl, nI_add, e, bind_some']
    dsimp only
    rw [if_pos (show g = B_X6_energy I' A' - I 9 from hg)]
    exact j598 Q' K x2 x12 hact ha hb (fun _ => ⟨i3, i2⟩)
  rw [if_neg c]
  by_cases c4 : nI act = 4
  · rw [if_pos c4]
    by_cases c8 : 8 ≤ np
    · rw [if_pos (show (8 : Int32) ≤ nI np from nI_le (a := 8) c8 (by omega))]
      exact J
    rw [if_neg (show ¬ (8 : Int32) ≤ nI np from nI_ge (b := 8) (by omega) (by decide)), show (2 : Int32) = nI 2 from rfl, nI_add]
    have J279 : ∀ c, a < c → c ≤ w → Res w h k x12 K (B_L_law_J279 L xs K I A B x2 (nI w) (nI h) (nI np) (nI pr) (nI t) x12 (nI act) (nI a) (nI b) (I 9) (I 2) (I 3) 1 (nI c)) := by
      intro c hac hcw
      unfold B_L_law_J279
      rw [show (2 : Int32) = nI 2 from rfl, nI_add]
      by_cases z : h ≤ b + 2
      · rw [if_pos (nI_le z (by omega))]
        exact j299 Q (by omega) K x2 x12 hact hac hb hcw (Nat.le_refl _)
      · rw [if_neg (nI_ge (show b + 2 < h by omega) (by omega))]
        exact j299 Q (by omega) K x2 x12 hact hac (by omega) hcw (by omega)
    by_cases z : w ≤ a + 2
    · rw [if_pos (nI_le z (by omega))]
      exact J279 w ha (Nat.le_refl _)
    · rw [if_neg (nI_ge (show a + 2 < w by omega) (by omega))]
      exact J279 (a + 2) (by omega) (by omega)
  rw [if_neg c4]
  exact J
/-- THE LAW'S FIFTY TURNS -/
theorem l81 (Q : Lq w h 0 np nd t pr I A B) : ∃ r, B_L_law_L81 L xs (nI w) (nI h) FU (nI np) (nI pr) (nI t) 0 I A B = some r := by
  have : ∃ r, B_L_law_L81 L xs (nI w) (nI h) FU (nI np) (nI pr) (nI t) 0 I A B = some r ∧ True := by
    refine ng_lp0 (F := fun n (s : Int32 × Int32 × Int32 × Int32 × (Nat → Int32) × (Nat → Nat → Int32) × (Nat → Nat → Int32)) => B_L_law_L81 L xs (nI w) (nI h) n s.1 s.2.1 s.2.2.1 s.2.2.2.1 s.2.2.2.2.1 s.2.2.2.2.2.1 s.2.2.2.2.2.2) (s := (nI np, nI pr, nI t, 0, I, A, B))
      (fun k s => ∃ np nd t pr I A B, s = (nI np, nI pr, nI t, nI k, I, A, B) ∧ Lq w h k np nd t pr I A B) 50 _ (by decide) ⟨np, nd, t, pr, I, A, B, rfl, Q⟩ ?_ ?_
    · rintro k n s hk ⟨np, nd, t, pr, I, A, B, rfl, Q⟩
      have C := Q.1.1
      have w12 := C.w12
      have h12 := C.h12
      have w2 := C.w2
      have h2 := C.h2
      have step : Res w h k (nI k) (B_L_law_L81 L xs (nI w) (nI h) n) (B_L_law_L81 L xs (nI w) (nI h) (n + 1) (nI np) (nI pr) (nI t) (nI k) I A B) := by
        obtain ⟨r, er⟩ := cell_ok L xs (j := 1 + k) (by omega)
        obtain ⟨act, hact, eact⟩ := at_ok (n := 9) (by decide) (by decide) (r &&& 2147483647)
        obtain ⟨a, ha, ea⟩ := at_ok (n := w) (by omega) (by omega) ((r &&& 2147483647) >>> (4 &&& 31))
        obtain ⟨b, hb, eb⟩ := at_ok (n := h) (by omega) (by omega) ((r &&& 2147483647) >>> (8 &&& 31))
        obtain ⟨d, hd, ed⟩ := at_ok (n := 15) (by decide) (by decide) ((r &&& 2147483647) >>> (12 &&& 31))
        have ec : B_L_cell L xs (1 + nI k) = some r := by rw [show (1 : Int32) = nI 1 from rfl, nI_add]; exact er
        have eact' : B_L_at (r &&& 2147483647) 9 = some (nI act) := eact
        have ed' : B_L_at ((r &&& 2147483647) >>> (12 &&& 31)) 15 = some (nI d) := ed
        rw [B_L_law_L81_s, if_neg (show ¬ (50 : Int32) ≤ nI k from nI_ge (b := 50) hk (by decide)), ec, bind_some', eact', bind_some', ea, bind_some', eb, bind_some', ed', bind_some']
        have J := j200 (L := L) (xs := xs) Q hk (B_L_law_L81 L xs (nI w) (nI h) n) (r &&& 2147483647) (nI k) (act := act) (by omega) ha hb hd
        have e0 : B_X6_spent I A 0 = I 2 := rfl
        have e1 : B_X6_spent I A 1 = I 3 := rfl
        have e2 : B_X6_energy I A = I 9 := rfl
        rw [e0, e1, e2]
        by_cases c3 : (3 : Int32) ≤ nI act
        · rw [if_pos c3]
          exact J
        rw [if_neg c3, st_told1 C ha hb, bind_some']
        by_cases c1 : A 9 (12 * b + a) = 1
        · rw [if_pos c1]
          exact J
        rw [if_neg c1]
        obtain ⟨g, I', A', e, V, W⟩ := st_turn Q.1 (d := d) ha hb (by omega) c1
        obtain ⟨Q', i3, i2, hg⟩ := Q.work V W
        rw [e, bind_some']
        dsimp only
        rw [if_pos (show g = B_X6_energy I' A' - I 9 from hg)]
        exact j598 Q' (B_L_law_L81 L xs (nI w) (nI h) n) (r &&& 2147483647) (nI k) (act := act) (by omega) ha hb (fun _ => ⟨i3, i2⟩)
      obtain ⟨np', nd', t', pr', I', A', B', e, Q'⟩ := step
      refine ⟨(nI np', nI pr', nI t', nI (k + 1), I', A', B'), ?_, np', nd', t', pr', I', A', B', rfl, Q'⟩
      dsimp only
      rw [e, nI_1]
    · rintro n s ⟨np, nd, t, pr, I, A, B, rfl, Q⟩
      refine ⟨(I, A, B), ?_, trivial⟩
      dsimp only
      rw [B_L_law_L81_s, if_pos (show (50 : Int32) ≤ nI 50 by decide)]
  obtain ⟨r, e, -⟩ := this
  exact ⟨r, e⟩
end
end LAWM2

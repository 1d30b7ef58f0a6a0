section PIXEL
theorem mod_sub (k u : Nat) : k - k / u * u = k % u := by
  have h1 := Nat.div_add_mod k u
  rw [Nat.mul_comm] at h1
  omega
theorem nn_idx {x y u k : Nat} (hk : k < 2 ^ 31) (hu : u < 2 ^ 31) : B_X7_cell (nI x + (nI k - nI k / nI u * nI u)) (nI y + (nI k / nI u)) = nI (12 * (y + k / u) + (x + k % u)) := by
  rw [nI_div hk hu, nI_mul, nI_sub (Nat.div_mul_le_self k u), mod_sub, nI_add, nI_add, nn_cell]
/-- the cells of a rectangle -/
def inR (x y u v c : Nat) : Prop := ∃ j i, j < v ∧ i < u ∧ c = 12 * (y + j) + (x + i)
theorem inR_k {x y u v k : Nat} (u1 : 1 ≤ u) (hk : k < u * v) : inR x y u v (12 * (y + k / u) + (x + k % u)) := ⟨k / u, k % u, Nat.div_lt_of_lt_mul hk, Nat.mod_lt _ u1, rfl⟩
theorem inR_of {x y u v c : Nat} (h : inR x y u v c) : ∃ k, k < u * v ∧ c = 12 * (y + k / u) + (x + k % u) := by
  obtain ⟨j, i, hj, hi, rfl⟩ := h
  have u0 : 0 < u := by omega
  refine ⟨i + u * j, ?_, ?_⟩
  · have : u * (j + 1) ≤ u * v := Nat.mul_le_mul_left u hj
    rw [Nat.mul_add] at this
    omega
  · rw [Nat.add_mul_div_left _ _ u0, Nat.div_eq_of_lt hi, Nat.add_mul_mod_self_left, Nat.mod_eq_of_lt hi, Nat.zero_add]
theorem inR_xy {x y u v X Y : Nat} (hxu : x + u ≤ 12) (hX : X < 12) : inR x y u v (12 * Y + X) ↔ (x ≤ X ∧ X < x + u ∧ y ≤ Y ∧ Y < y + v) := by
  constructor
  · rintro ⟨j, i, hj, hi, e⟩
    omega
  · rintro ⟨h1, h2, h3, h4⟩
    exact ⟨Y - y, X - x, by omega, by omega, by omega⟩
/-- an array with a rectangle filled -/
def Fil (x y u v : Nat) (p : Int32) (g f : Nat → Int32) : Prop := (∀ c, inR x y u v c → f c = p) ∧ ∀ c, ¬ inR x y u v c → f c = g c
section
variable {w h np : Nat} {I J : Nat → Int32} {A B : Nat → Nat → Int32} {x y u v : Nat}
theorem Co.cR (C : Co w h np I A J B) (hxu : x + u ≤ w) (hyv : y + v ≤ h) {c : Nat} (hc : inR x y u v c) : c < 144 := by
  have w12 := C.w12
  have h12 := C.h12
  obtain ⟨j, i, hj, hi, rfl⟩ := hc
  omega
theorem Co.uv (C : Co w h np I A J B) (hxu : x + u ≤ w) (hyv : y + v ≤ h) : u * v ≤ 144 := by
  have w12 := C.w12
  have h12 := C.h12
  exact Nat.mul_le_mul (show u ≤ 12 by omega) (show v ≤ 12 by omega)
theorem Co.chk (C : Co w h np I A J B) (hxu : x + u ≤ w) (hyv : y + v ≤ h) (u1 : 1 ≤ u) {t0 : Int32} (h01 : t0 = 0 ∨ t0 = 1) :
    ∃ f, B_X7_pixel_L84 (nI x) (nI y) (nI u) (nI v) FU t0 0 J B = some (f, J, B) ∧ ((f = 1 ∧ t0 = 1 ∧ ∀ c, inR x y u v c → A 12 c = -1) ∨ (f = 0 ∧ (t0 = 0 ∨ ∃ c, inR x y u v c ∧ A 12 c ≠ -1))) := by
  have w12 := C.w12
  have h12 := C.h12
  have huv := C.uv hxu hyv
  have : ∃ r, B_X7_pixel_L84 (nI x) (nI y) (nI u) (nI v) FU t0 0 J B = some r ∧ ∃ f, r = (f, J, B) ∧ ((f = 1 ∧ t0 = 1 ∧ ∀ k, k < u * v → A 12 (12 * (y + k / u) + (x + k % u)) = -1) ∨ (f = 0 ∧ (t0 = 0 ∨ ∃ k, k < u * v ∧ A 12 (12 * (y + k / u) + (x + k % u)) ≠ -1))) := by
    refine ng_lp0 (F := fun n (s : Int32 × Int32) => B_X7_pixel_L84 (nI x) (nI y) (nI u) (nI v) n s.1 s.2 J B) (s := (t0, 0)) (fun k s => s.2 = nI k ∧ ((s.1 = 1 ∧ t0 = 1 ∧ ∀ k', k' < k → A 12 (12 * (y + k' / u) + (x + k' % u)) = -1) ∨ (s.1 = 0 ∧ (t0 = 0 ∨ ∃ k', k' < k ∧ A 12 (12 * (y + k' / u) + (x + k' % u)) ≠ -1)))) (u * v) _ (by omega) ⟨rfl, ?_⟩ ?_ ?_
    · rcases h01 with q | q
      · exact Or.inr ⟨q, Or.inl q⟩
      · exact Or.inl ⟨q, q, fun k' hk' => absurd hk' (Nat.not_lt_zero _)⟩
    · intro k n s hk hP
      obtain ⟨f, z⟩ := s
      obtain ⟨h1, h2⟩ := hP
      dsimp only at h1 h2
      subst h1
      have hc := C.cR hxu hyv (inR_k (x := x) (y := y) u1 hk)
      have step : B_X7_pixel_L84 (nI x) (nI y) (nI u) (nI v) (n + 1) f (nI k) J B = (if f = 0 then B_X7_pixel_L84 (nI x) (nI y) (nI u) (nI v) n 0 (nI (k + 1)) J B else if A 12 (12 * (y + k / u) + (x + k % u)) = -1 then B_X7_pixel_L84 (nI x) (nI y) (nI u) (nI v) n 1 (nI (k + 1)) J B else B_X7_pixel_L84 (nI x) (nI y) (nI u) (nI v) n 0 (nI (k + 1)) J B) := by
        rw [B_X7_pixel_L84_s, nI_mul, if_neg (nI_ge hk (by omega)), if_neg (nI_ne0 (show 0 < u by omega) (by omega)), if_neg (nI_ne0 (show 0 < u by omega) (by omega)), nn_idx (by omega) (by omega), rd_nI hc (by decide), bind_some', (C.pix _ hc).1, nI_1]
      dsimp only
      rcases h2 with ⟨rfl, q1, q2⟩ | ⟨rfl, q1⟩
      · by_cases e : A 12 (12 * (y + k / u) + (x + k % u)) = -1
        · refine ⟨(1, nI (k + 1)), ?_, rfl, Or.inl ⟨rfl, q1, fun k' hk' => ?_⟩⟩
          · rw [step, if10, if_pos e]
          · by_cases e2 : k' = k
            · rw [e2]; exact e
            · exact q2 k' (by omega)
        · refine ⟨(0, nI (k + 1)), ?_, rfl, Or.inr ⟨rfl, Or.inr ⟨k, by omega, e⟩⟩⟩
          rw [step, if10, if_neg e]
      · refine ⟨(0, nI (k + 1)), ?_, rfl, Or.inr ⟨rfl, ?_⟩⟩
        · rw [step, if00]
        · rcases q1 with q1 | ⟨k', hk', q1⟩
          · exact Or.inl q1
          · exact Or.inr ⟨k', by omega, q1⟩
    · intro n s hP
      obtain ⟨f, z⟩ := s
      obtain ⟨h1, h2⟩ := hP
      dsimp only at h1 h2
      subst h1
      refine ⟨(f, J, B), ?_, f, rfl, h2⟩
      dsimp only
      rw [B_X7_pixel_L84_s, nI_mul, if_pos (nI_le (Nat.le_refl _) (by omega))]
  obtain ⟨r, e, f, rfl, q⟩ := this
  refine ⟨f, e, ?_⟩
  rcases q with ⟨q1, q2, q3⟩ | ⟨q1, q2⟩
  · refine Or.inl ⟨q1, q2, fun c hc => ?_⟩
    obtain ⟨k, hk, rfl⟩ := inR_of hc
    exact q3 k hk
  · refine Or.inr ⟨q1, ?_⟩
    rcases q2 with q2 | ⟨k, hk, q2⟩
    · exact Or.inl q2
    · exact Or.inr ⟨_, inR_k u1 hk, q2⟩
theorem Co.fillM (C : Co w h np I A J B) (hxu : x + u ≤ w) (hyv : y + v ≤ h) (u1 : 1 ≤ u) : ∃ f, B_X7_pixel_L149 (nI x) (nI y) (nI u) (nI v) FU 0 J B = some (J, va_up B 4 f) ∧ Fil x y u v (J 9) (B 4) f := by
  have w12 := C.w12
  have h12 := C.h12
  have huv := C.uv hxu hyv
  have eB : B = va_up B 4 (B 4) := by
    funext j
    unfold va_up
    by_cases e : j = 4
    · rw [if_pos e, e]
    · rw [if_neg e]
  have : ∃ r, B_X7_pixel_L149 (nI x) (nI y) (nI u) (nI v) FU 0 J B = some r ∧ ∃ f, r = (J, va_up B 4 f) ∧ (∀ k, k < u * v → f (12 * (y + k / u) + (x + k % u)) = J 9) ∧ ∀ c, (∀ k, k < u * v → c ≠ 12 * (y + k / u) + (x + k % u)) → f c = B 4 c := by
    refine ng_lp0 (F := fun n (s : Int32 × (Nat → Int32) × (Nat → Nat → Int32)) => B_X7_pixel_L149 (nI x) (nI y) (nI u) (nI v) n s.1 s.2.1 s.2.2) (s := (0, J, B)) (fun k s => ∃ f, s = (nI k, J, va_up B 4 f) ∧ (∀ k', k' < k → f (12 * (y + k' / u) + (x + k' % u)) = J 9) ∧ ∀ c, (∀ k', k' < k → c ≠ 12 * (y + k' / u) + (x + k' % u)) → f c = B 4 c) (u * v) _ (by omega) ⟨B 4, by rw [← eB]; rfl, fun k' hk' => absurd hk' (Nat.not_lt_zero _), fun _ _ => rfl⟩ ?_ ?_
    · rintro k n s hk ⟨f, rfl, q1, q2⟩
      have hc := C.cR hxu hyv (inR_k (x := x) (y := y) u1 hk)
      refine ⟨(nI (k + 1), J, va_up B 4 (upd f (12 * (y + k / u) + (x + k % u)) (J 9))), ?_, _, rfl, ?_, ?_⟩
      · dsimp only
        rw [B_X7_pixel_L149_s, nI_mul, if_neg (nI_ge hk (by omega)), if_neg (nI_ne0 (show 0 < u by omega) (by omega)), if_neg (nI_ne0 (show 0 < u by omega) (by omega)), nn_idx (by omega) (by omega), wr_nI hc (by decide), bind_some', nI_1, va_up2]
        rfl
      · intro k' hk'
        rw [upd_at]
        by_cases e : 12 * (y + k' / u) + (x + k' % u) = 12 * (y + k / u) + (x + k % u)
        · rw [if_pos e]
        · rw [if_neg e]
          refine q1 k' ?_
          by_cases e2 : k' = k
          · exact absurd (by rw [e2]) e
          · omega
      · intro c hc'
        rw [upd_at, if_neg (hc' k (by omega))]
        exact q2 c (fun k' hk' => hc' k' (by omega))
    · rintro n s ⟨f, rfl, q1, q2⟩
      refine ⟨_, ?_, f, rfl, q1, q2⟩
      dsimp only
      rw [B_X7_pixel_L149_s, nI_mul, if_pos (nI_le (Nat.le_refl _) (by omega))]
  obtain ⟨r, e, f, rfl, q1, q2⟩ := this
  refine ⟨f, e, ?_, ?_⟩
  · intro c hc
    obtain ⟨k, hk, rfl⟩ := inR_of hc
    exact q1 k hk
  · intro c hc
    exact q2 c (fun k hk e => hc (e ▸ inR_k u1 hk))
theorem Co.chkC (C : Co w h np I A J B) (hxu : x + u ≤ w) (hyv : y + v ≤ h) : (B_X1_hasPixelIn I A (nI x) (nI y) (nI u) (nI v) = some 0 ∧ ∀ c, inR x y u v c → A 12 c = -1) ∨ (B_X1_hasPixelIn I A (nI x) (nI y) (nI u) (nI v) = some 1 ∧ ∃ c, inR x y u v c ∧ A 12 c ≠ -1) := by
  have w12 := C.w12
  have h12 := C.h12
  have row : ∀ j, j < v → ∃ r, B_X1_hasPixelIn_L15 I A (nI x) (nI y) (nI u) (nI v) (nI (y + j)) FU (nI x) = some r ∧ ((r = .inl () ∧ ∀ i, i < u → A 12 (12 * (y + j) + (x + i)) = -1) ∨ (r = .inr 1 ∧ ∃ i, i < u ∧ A 12 (12 * (y + j) + (x + i)) ≠ -1)) := by
    intro j hj
    refine ng_le0 (F := fun n (s : Int32) => B_X1_hasPixelIn_L15 I A (nI x) (nI y) (nI u) (nI v) (nI (y + j)) n s) (s := nI x) (fun k s => s = nI (x + k) ∧ ∀ i, i < k → A 12 (12 * (y + j) + (x + i)) = -1) u _ (by omega) ⟨rfl, fun i hi => absurd hi (Nat.not_lt_zero _)⟩ ?_ ?_
    · rintro k n s hk ⟨rfl, q⟩

      rw [B_X1_hasPixelIn_L15_s, nI_add, if_neg (nI_ge (show x + k < x + u by omega) (by omega)), C.pixAt (show x + k < w by omega) (show y + j < h by omega), nI_1]
      by_cases e : A 12 (12 * (y + j) + (x + k)) = -1
      · rw [if_pos e]
        refine Or.inl ⟨nI (x + k + 1), rfl, rfl, fun i hi => ?_⟩
        by_cases e2 : i = k
        · rw [e2]; exact e
        · exact q i (by omega)
      · rw [if_neg e]
        exact Or.inr ⟨_, rfl, Or.inr ⟨rfl, k, hk, e⟩⟩
    · rintro n s ⟨rfl, q⟩
      refine ⟨.inl (), ?_, Or.inl ⟨rfl, q⟩⟩

      rw [B_X1_hasPixelIn_L15_s, nI_add, if_pos (nI_le (Nat.le_refl _) (by omega))]
  have all : ∃ r, B_X1_hasPixelIn_L3 I A (nI x) (nI y) (nI u) (nI v) FU (nI y) = some r ∧ ((r = .inl () ∧ ∀ j i, j < v → i < u → A 12 (12 * (y + j) + (x + i)) = -1) ∨ (r = .inr 1 ∧ ∃ j i, j < v ∧ i < u ∧ A 12 (12 * (y + j) + (x + i)) ≠ -1)) := by
    refine ng_le0 (F := fun n (s : Int32) => B_X1_hasPixelIn_L3 I A (nI x) (nI y) (nI u) (nI v) n s) (s := nI y) (fun k s => s = nI (y + k) ∧ ∀ j i, j < k → i < u → A 12 (12 * (y + j) + (x + i)) = -1) v _ (by omega) ⟨rfl, fun j i hj => absurd hj (Nat.not_lt_zero _)⟩ ?_ ?_
    · rintro k n s hk ⟨rfl, q⟩

      obtain ⟨r, e, z⟩ := row k hk
      rw [B_X1_hasPixelIn_L3_s, nI_add, if_neg (nI_ge (show y + k < y + v by omega) (by omega)), e, bind_some', nI_1]
      rcases z with ⟨rfl, z⟩ | ⟨rfl, i, hi, z⟩
      · refine Or.inl ⟨nI (y + k + 1), rfl, rfl, fun j i hj hi => ?_⟩
        by_cases e2 : j = k
        · rw [e2]; exact z i hi
        · exact q j i (by omega) hi
      · exact Or.inr ⟨_, rfl, Or.inr ⟨rfl, k, i, hk, hi, z⟩⟩
    · rintro n s ⟨rfl, q⟩
      refine ⟨.inl (), ?_, Or.inl ⟨rfl, q⟩⟩

      rw [B_X1_hasPixelIn_L3_s, nI_add, if_pos (nI_le (Nat.le_refl _) (by omega))]
  obtain ⟨r, e, z⟩ := all
  unfold B_X1_hasPixelIn
  rw [e, bind_some']
  rcases z with ⟨rfl, z⟩ | ⟨rfl, j, i, hj, hi, z⟩
  · refine Or.inl ⟨rfl, ?_⟩
    rintro c ⟨j, i, hj, hi, rfl⟩
    exact z j i hj hi
  · exact Or.inr ⟨rfl, _, ⟨j, i, hj, hi, rfl⟩, z⟩
theorem fillC (hxu : x + u ≤ 12) (hyv : y + v ≤ 12) (p : Int32) (I : Nat → Int32) (A : Nat → Nat → Int32) : ∃ f, B_X1_mark I A (nI x) (nI y) (nI u) (nI v) p = some (I, va_up A 12 f) ∧ Fil x y u v p (A 12) f := by
  have eA : A = va_up A 12 (A 12) := by
    funext j
    unfold va_up
    by_cases e : j = 12
    · rw [if_pos e, e]
    · rw [if_neg e]
  have row : ∀ j, j < v → ∀ g, ∃ r, B_X1_mark_L15 (nI x) (nI y) (nI u) (nI v) p (nI (y + j)) FU (nI x) I (va_up A 12 g) = some r ∧ ∃ f, r = (I, va_up A 12 f) ∧ (∀ i, i < u → f (12 * (y + j) + (x + i)) = p) ∧ ∀ c, (∀ i, i < u → c ≠ 12 * (y + j) + (x + i)) → f c = g c := by
    intro j hj g
    refine ng_lp0 (F := fun n (s : Int32 × (Nat → Int32) × (Nat → Nat → Int32)) => B_X1_mark_L15 (nI x) (nI y) (nI u) (nI v) p (nI (y + j)) n s.1 s.2.1 s.2.2) (s := (nI x, I, va_up A 12 g)) (fun k s => ∃ f, s = (nI (x + k), I, va_up A 12 f) ∧ (∀ i, i < k → f (12 * (y + j) + (x + i)) = p) ∧ ∀ c, (∀ i, i < k → c ≠ 12 * (y + j) + (x + i)) → f c = g c) u _ (by omega) ⟨g, rfl, fun i hi => absurd hi (Nat.not_lt_zero _), fun _ _ => rfl⟩ ?_ ?_
    · rintro k n s hk ⟨f, rfl, q1, q2⟩
      refine ⟨(nI (x + k + 1), I, va_up A 12 (upd f (12 * (y + j) + (x + k)) p)), ?_, _, rfl, ?_, ?_⟩
      · dsimp only
        rw [B_X1_mark_L15_s, nI_add, if_neg (nI_ge (show x + k < x + u by omega) (by omega)), nn_num, rPut_nI (show 12 * (y + j) + (x + k) < 144 by omega) (by decide), nI_1, va_up2]
        rfl
      · intro i hi
        rw [upd_at]
        by_cases e : 12 * (y + j) + (x + i) = 12 * (y + j) + (x + k)
        · rw [if_pos e]
        · rw [if_neg e]
          exact q1 i (by omega)
      · intro c hc
        rw [upd_at, if_neg (hc k (by omega))]
        exact q2 c (fun i hi => hc i (by omega))
    · rintro n s ⟨f, rfl, q1, q2⟩
      refine ⟨_, ?_, f, rfl, q1, q2⟩
      dsimp only
      rw [B_X1_mark_L15_s, nI_add, if_pos (nI_le (Nat.le_refl _) (by omega))]
  have all : ∃ r, B_X1_mark_L3 (nI x) (nI y) (nI u) (nI v) p FU (nI y) I A = some r ∧ ∃ f, r = (I, va_up A 12 f) ∧ (∀ j i, j < v → i < u → f (12 * (y + j) + (x + i)) = p) ∧ ∀ c, (∀ j i, j < v → i < u → c ≠ 12 * (y + j) + (x + i)) → f c = A 12 c := by
    refine ng_lp0 (F := fun n (s : Int32 × (Nat → Int32) × (Nat → Nat → Int32)) => B_X1_mark_L3 (nI x) (nI y) (nI u) (nI v) p n s.1 s.2.1 s.2.2) (s := (nI y, I, A)) (fun k s => ∃ f, s = (nI (y + k), I, va_up A 12 f) ∧ (∀ j i, j < k → i < u → f (12 * (y + j) + (x + i)) = p) ∧ ∀ c, (∀ j i, j < k → i < u → c ≠ 12 * (y + j) + (x + i)) → f c = A 12 c) v _ (by omega) ⟨A 12, by rw [← eA]; rfl, fun j i hj => absurd hj (Nat.not_lt_zero _), fun _ _ => rfl⟩ ?_ ?_
    · rintro k n s hk ⟨g, rfl, q1, q2⟩
      obtain ⟨r, e, f, rfl, z1, z2⟩ := row k hk g
      refine ⟨(nI (y + k + 1), I, va_up A 12 f), ?_, _, rfl, ?_, ?_⟩
      · dsimp only
        rw [B_X1_mark_L3_s, nI_add, if_neg (nI_ge (show y + k < y + v by omega) (by omega)), e, bind_some', nI_1]
      · intro j i hj hi
        by_cases e2 : j = k
        · rw [e2]; exact z1 i hi
        · rw [z2 _ (fun i' hi' => by omega)]
          exact q1 j i (by omega) hi
      · intro c hc
        rw [z2 c (fun i hi => hc k i (by omega) hi)]
        exact q2 c (fun j i hj hi => hc j i (by omega) hi)
    · rintro n s ⟨f, rfl, q1, q2⟩
      refine ⟨_, ?_, f, rfl, q1, q2⟩
      dsimp only
      rw [B_X1_mark_L3_s, nI_add, if_pos (nI_le (Nat.le_refl _) (by omega))]
  obtain ⟨r, e, f, rfl, q1, q2⟩ := all
  refine ⟨f, ?_, ?_, ?_⟩
  · unfold B_X1_mark
    rw [e, bind_some']
  · rintro c ⟨j, i, hj, hi, rfl⟩
    exact q1 j i hj hi
  · intro c hc
    exact q2 c (fun j i hj hi e => hc ⟨j, i, hj, hi, e⟩)
end
end PIXEL

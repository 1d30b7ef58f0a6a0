section PIXEL
/-- the cells of a rectangle -/
def inR (x y u v c : Nat) : Prop := ∃ j i, j < v ∧ i < u ∧ c = 12 * (y + j) + (x + i)
theorem inR_k {x y u v k : Nat} (u1 : 1 ≤ u) (hk : k < u * v) : inR x y u v (12 * (y + k / u) + (x + k % u)) := ⟨k / u, k % u, Nat.div_lt_of_lt_mul hk, Nat.mod_lt _ u1, rfl⟩
theorem inR_of {x y u v c : Nat} (h : inR x y u v c) : ∃ k, k < u * v ∧ c = 12 * (y + k / u) + (x + k % u) := by
  obtain ⟨j, i, hj, hi, rfl⟩ := h
  have u0 : 0 < u := by omega
  refine ⟨i + u * j, ?_, ?_⟩
  · have : u * (j + 1) ≤ u * v := Nat.mul_le_mul_left u hj
    rw [Nat.mul_add] at this
    omega
  · rw [Nat.add_mul_div_left _ _ u0, Nat.div_eq_of_lt hi, Nat.add_mul_mod_self_left, Nat.mod_eq_of_lt hi, Nat.zero_add]
theorem inR_xy {x y u v X Y : Nat} (hxu : x + u ≤ 12) (hX : X < 12) : inR x y u v (12 * Y + X) ↔ (x ≤ X ∧ X < x + u ∧ y ≤ Y ∧ Y < y + v) := by
  constructor
  · rintro ⟨j, i, hj, hi, e⟩
    omega
  · rintro ⟨h1, h2, h3, h4⟩
    exact ⟨Y - y, X - x, by omega, by omega, by omega⟩
/-- an array with a rectangle filled -/
def Fil (x y u v : Nat) (p : Int32) (g f : Nat → Int32) : Prop := (∀ c, inR x y u v c → f c = p) ∧ ∀ c, ¬ inR x y u v c → f c = g c
section
variable {w h np : Nat} {I : Nat → Int32} {A : Nat → Nat → Int32} {x y u v : Nat}
theorem Co.cR (C : Co w h np I A) (hxu : x + u ≤ w) (hyv : y + v ≤ h) {c : Nat} (hc : inR x y u v c) : c < 144 := by
  have w12 := C.w12
  have h12 := C.h12
  obtain ⟨j, i, hj, hi, rfl⟩ := hc
  omega
theorem Co.chkC (C : Co w h np I A) (hxu : x + u ≤ w) (hyv : y + v ≤ h) : (B_X1_hasPixelIn I A (nI x) (nI y) (nI u) (nI v) = some 0 ∧ ∀ c, inR x y u v c → A 12 c = -1) ∨ (B_X1_hasPixelIn I A (nI x) (nI y) (nI u) (nI v) = some 1 ∧ ∃ c, inR x y u v c ∧ A 12 c ≠ -1) := by
  have w12 := C.w12
  have h12 := C.h12
  have row : ∀ j, j < v → ∃ r, B_X1_hasPixelIn_L15 I A (nI x) (nI y) (nI u) (nI v) (nI (y + j)) FU (nI x) = some r ∧ ((r = .inl () ∧ ∀ i, i < u → A 12 (12 * (y + j) + (x + i)) = -1) ∨ (r = .inr 1 ∧ ∃ i, i < u ∧ A 12 (12 * (y + j) + (x + i)) ≠ -1)) := by
    intro j hj
    refine ng_le0 (F := fun n (s : Int32) => B_X1_hasPixelIn_L15 I A (nI x) (nI y) (nI u) (nI v) (nI (y + j)) n s) (s := nI x) (fun k s => s = nI (x + k) ∧ ∀ i, i < k → A 12 (12 * (y + j) + (x + i)) = -1) u _ (by omega) ⟨rfl, fun i hi => absurd hi (Nat.not_lt_zero _)⟩ ?_ ?_
    · rintro k n s hk ⟨rfl, q⟩

      rw [B_X1_hasPixelIn_L15_s, nI_add, if_neg (nI_ge (show x + k < x + u by omega) (by omega)), C.pixAt (show x + k < w by omega) (show y + j < h by omega), nI_1]
      by_cases e : A 12 (12 * (y + j) + (x + k)) = -1
      · rw [if_pos e]
        refine Or.inl ⟨nI (x + k + 1), rfl, rfl, fun i hi => ?_⟩
        by_cases e2 : i = k
        · rw [e2]; exact e
        · exact q i (by omega)
      · rw [if_neg e]
        exact Or.inr ⟨_, rfl, Or.inr ⟨rfl, k, hk, e⟩⟩
    · rintro n s ⟨rfl, q⟩
      refine ⟨.inl (), ?_, Or.inl ⟨rfl, q⟩⟩

      rw [B_X1_hasPixelIn_L15_s, nI_add, if_pos (nI_le (Nat.le_refl _) (by omega))]
  have all : ∃ r, B_X1_hasPixelIn_L3 I A (nI x) (nI y) (nI u) (nI v) FU (nI y) = some r ∧ ((r = .inl () ∧ ∀ j i, j < v → i < u → A 12 (12 * (y + j) + (x + i)) = -1) ∨ (r = .inr 1 ∧ ∃ j i, j < v ∧ i < u ∧ A 12 (12 * (y + j) + (x + i)) ≠ -1)) := by
    refine ng_le0 (F := fun n (s : Int32) => B_X1_hasPixelIn_L3 I A (nI x) (nI y) (nI u) (nI v) n s) (s := nI y) (fun k s => s = nI (y + k) ∧ ∀ j i, j < k → i < u → A 12 (12 * (y + j) + (x + i)) = -1) v _ (by omega) ⟨rfl, fun j i hj => absurd hj (Nat.not_lt_zero _)⟩ ?_ ?_
    · rintro k n s hk ⟨rfl, q⟩

      obtain ⟨r, e, z⟩ := row k hk
      rw [B_X1_hasPixelIn_L3_s, nI_add, if_neg (nI_ge (show y + k < y + v by omega) (by omega)), e, bind_some', nI_1]
      rcases z with ⟨rfl, z⟩ | ⟨rfl, i, hi, z⟩
      · refine Or.inl ⟨nI (y + k + 1), rfl, rfl, fun j i hj hi => ?_⟩
        by_cases e2 : j = k
        · rw [e2]; exact z i hi
        · exact q j i (by omega) hi
      · exact Or.inr ⟨_, rfl, Or.inr ⟨rfl, k, i, hk, hi, z⟩⟩
    · rintro n s ⟨rfl, q⟩
      refine ⟨.inl (), ?_, Or.inl ⟨rfl, q⟩⟩

      rw [B_X1_hasPixelIn_L3_s, nI_add, if_pos (nI_le (Nat.le_refl _) (by omega))]
  obtain ⟨r, e, z⟩ := all
  unfold B_X1_hasPixelIn
  rw [e, bind_some']
  rcases z with ⟨rfl, z⟩ | ⟨rfl, j, i, hj, hi, z⟩
  · refine Or.inl ⟨rfl, ?_⟩
    rintro c ⟨j, i, hj, hi, rfl⟩
    exact z j i hj hi
  · exact Or.inr ⟨rfl, _, ⟨j, i, hj, hi, rfl⟩, z⟩
theorem fillC (hxu : x + u ≤ 12) (hyv : y + v ≤ 12) (p : Int32) (I : Nat → Int32) (A : Nat → Nat → Int32) : ∃ f, B_X1_mark I A (nI x) (nI y) (nI u) (nI v) p = some (I, va_up A 12 f) ∧ Fil x y u v p (A 12) f := by
  have eA : A = va_up A 12 (A 12) := by
    funext j
    unfold va_up
    by_cases e : j = 12
    · rw [if_pos e, e]
    · rw [if_neg e]
  have row : ∀ j, j < v → ∀ g, ∃ r, B_X1_mark_L15 (nI x) (nI y) (nI u) (nI v) p (nI (y + j)) FU (nI x) I (va_up A 12 g) = some r ∧ ∃ f, r = (I, va_up A 12 f) ∧ (∀ i, i < u → f (12 * (y + j) + (x + i)) = p) ∧ ∀ c, (∀ i, i < u → c ≠ 12 * (y + j) + (x + i)) → f c = g c := by
    intro j hj g
    refine ng_lp0 (F := fun n (s : Int32 × (Nat → Int32) × (Nat → Nat → Int32)) => B_X1_mark_L15 (nI x) (nI y) (nI u) (nI v) p (nI (y + j)) n s.1 s.2.1 s.2.2) (s := (nI x, I, va_up A 12 g)) (fun k s => ∃ f, s = (nI (x + k), I, va_up A 12 f) ∧ (∀ i, i < k → f (12 * (y + j) + (x + i)) = p) ∧ ∀ c, (∀ i, i < k → c ≠ 12 * (y + j) + (x + i)) → f c = g c) u _ (by omega) ⟨g, rfl, fun i hi => absurd hi (Nat.not_lt_zero _), fun _ _ => rfl⟩ ?_ ?_
    · rintro k n s hk ⟨f, rfl, q1, q2⟩
      refine ⟨(nI (x + k + 1), I, va_up A 12 (upd f (12 * (y + j) + (x + k)) p)), ?_, _, rfl, ?_, ?_⟩
      · dsimp only
        rw [B_X1_mark_L15_s, nI_add, if_neg (nI_ge (show x + k < x + u by omega) (by omega)), nn_num, rPut_nI (show 12 * (y + j) + (x + k) < 144 by omega) (by decide), nI_1, va_up2]
        rfl
      · intro i hi
        rw [upd_at]
        by_cases e : 12 * (y + j) + (x + i) = 12 * (y + j) + (x + k)
        · rw [if_pos e]
        · rw [if_neg e]
          exact q1 i (by omega)
      · intro c hc
        rw [upd_at, if_neg (hc k (by omega))]
        exact q2 c (fun i hi => hc i (by omega))
    · rintro n s ⟨f, rfl, q1, q2⟩
      refine ⟨_, ?_, f, rfl, q1, q2⟩
      dsimp only
      rw [B_X1_mark_L15_s, nI_add, if_pos (nI_le (Nat.le_refl _) (by omega))]
  have all : ∃ r, B_X1_mark_L3 (nI x) (nI y) (nI u) (nI v) p FU (nI y) I A = some r ∧ ∃ f, r = (I, va_up A 12 f) ∧ (∀ j i, j < v → i < u → f (12 * (y + j) + (x + i)) = p) ∧ ∀ c, (∀ j i, j < v → i < u → c ≠ 12 * (y + j) + (x + i)) → f c = A 12 c := by
    refine ng_lp0 (F := fun n (s : Int32 × (Nat → Int32) × (Nat → Nat → Int32)) => B_X1_mark_L3 (nI x) (nI y) (nI u) (nI v) p n s.1 s.2.1 s.2.2) (s := (nI y, I, A)) (fun k s => ∃ f, s = (nI (y + k), I, va_up A 12 f) ∧ (∀ j i, j < k → i < u → f (12 * (y + j) + (x + i)) = p) ∧ ∀ c, (∀ j i, j < k → i < u → c ≠ 12 * (y + j) + (x + i)) → f c = A 12 c) v _ (by omega) ⟨A 12, by rw [← eA]; rfl, fun j i hj => absurd hj (Nat.not_lt_zero _), fun _ _ => rfl⟩ ?_ ?_
    · rintro k n s hk ⟨g, rfl, q1, q2⟩
      obtain ⟨r, e, f, rfl, z1, z2⟩ := row k hk g
      refine ⟨(nI (y + k + 1), I, va_up A 12 f), ?_, _, rfl, ?_, ?_⟩
      · dsimp only
        rw [B_X1_mark_L3_s, nI_add, if_neg (nI_ge (show y + k < y + v by omega) (by omega)), e, bind_some', nI_1]
      · intro j i hj hi
        by_cases e2 : j = k
        · rw [e2]; exact z1 i hi
        · rw [z2 _ (fun i' hi' => by omega)]
          exact q1 j i (by omega) hi
      · intro c hc
        rw [z2 c (fun i hi => hc k i (by omega) hi)]
        exact q2 c (fun j i hj hi => hc j i (by omega) hi)
    · rintro n s ⟨f, rfl, q1, q2⟩
      refine ⟨_, ?_, f, rfl, q1, q2⟩
      dsimp only
      rw [B_X1_mark_L3_s, nI_add, if_pos (nI_le (Nat.le_refl _) (by omega))]
  obtain ⟨r, e, f, rfl, q1, q2⟩ := all
  refine ⟨f, ?_, ?_, ?_⟩
  · unfold B_X1_mark
    rw [e, bind_some']
  · rintro c ⟨j, i, hj, hi, rfl⟩
    exact q1 j i hj hi
  · intro c hc
    exact q2 c (fun j i hj hi e => hc ⟨j, i, hj, hi, e⟩)
end
end PIXEL

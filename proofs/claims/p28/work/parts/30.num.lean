section NUM
theorem nI_mul (a b : Nat) : nI a * nI b = nI (a * b) := (Int32.ofNat_mul a b).symm
theorem nI_sub {a b : Nat} (h : b ≤ a) : nI a - nI b = nI (a - b) := (Int32.ofNat_sub a b h).symm
theorem nI_sub1 {a : Nat} (h : 1 ≤ a) : nI a - 1 = nI (a - 1) := nI_sub h
theorem nI_inj {a b : Nat} (ha : a < 2 ^ 31) (hb : b < 2 ^ 31) (h : nI a = nI b) : a = b := (nI_eq ha hb).mp h
theorem nI_m1 {a : Nat} (ha : a < 2 ^ 31) : nI a ≠ -1 := by
  intro h
  have h1 := nI_toInt ha
  rw [h] at h1
  have h2 : (-1 : Int32).toInt = -1 := by decide
  omega
/-- a number from 0 to n -/
def up (n : Nat) (v : Int32) : Prop := ∃ s : Nat, s ≤ n ∧ v = nI s
theorem up_nI {n s : Nat} (h : s ≤ n) : up n (nI s) := ⟨s, h, rfl⟩
theorem up_mono {a b : Nat} {v : Int32} (h : up a v) (hab : a ≤ b) : up b v := by
  obtain ⟨s, h1, h2⟩ := h
  exact ⟨s, by omega, h2⟩
theorem nn_num (x y : Nat) : B_X6_numberOf (nI x) (nI y) = nI (12 * y + x) := by
  show nI y * nI 12 + nI x = _
  rw [nI_mul, nI_add, Nat.mul_comm]
theorem rAt_nI {n j : Nat} {f : Nat → Int32} (h : j < n) (hn : n < 2 ^ 31) : rAt n f (nI j) = f j := by
  unfold rAt
  rw [if_neg (nI_pos (by omega)), if_neg (show ¬ Int32.ofNat n ≤ nI j from nI_ge h hn), nI_clamp (by omega)]
theorem rPut_nI {n j : Nat} {f : Nat → Int32} {v : Int32} (h : j < n) (hn : n < 2 ^ 31) : rPut n f (nI j) v = upd f j v := by
  unfold rPut
  rw [if_neg (nI_pos (by omega)), if_neg (show ¬ Int32.ofNat n ≤ nI j from nI_ge h hn), nI_clamp (by omega)]
theorem upd_at (f : Nat → Int32) (k : Nat) (v : Int32) (j : Nat) : upd f k v j = if j = k then v else f j := rfl
theorem ng_va {α : Type} (f : Nat → α) (k : Nat) (v : α) (j : Nat) : va_up f k v j = if j = k then v else f j := rfl
theorem bind_some' {α β : Type} (a : α) (f : α → Option β) : (some a).bind f = f a := rfl
theorem isIn_cases {x : Int32} {a b : Nat} (ha : a < 2 ^ 31) (hb : b < 2 ^ 31) : B_X6_isIn x (nI a) (nI b) = 0 ∨ (B_X6_isIn x (nI a) (nI b) = 1 ∧ ∃ k : Nat, a ≤ k ∧ k ≤ b ∧ x = nI k) := by
  unfold B_X6_isIn
  by_cases h1 : x < nI a
  · rw [if_pos h1]; exact Or.inl rfl
  rw [if_neg h1]
  by_cases h2 : nI b < x
  · rw [if_pos h2]; exact Or.inl rfl
  rw [if_neg h2]
  refine Or.inr ⟨rfl, ?_⟩
  have h0 : ¬ x < 0 := by
    intro h
    apply h1
    rw [Int32.lt_iff_toInt_lt] at h ⊢
    rw [nI_toInt ha]
    have h9 : (0 : Int32).toInt = 0 := by decide
    omega
  obtain ⟨k, hk, rfl⟩ := nI_of h0
  rw [nI_ltI hk ha] at h1
  rw [nI_ltI hb hk] at h2
  exact ⟨k, by omega, by omega, rfl⟩
theorem has_cases {I : Nat → Int32} {A : Nat → Nat → Int32} {w h : Nat} (hw : I 5 = nI w) (hh : I 6 = nI h) (lw : w < 2 ^ 31) (lh : h < 2 ^ 31) (x1 x2 : Int32) :
    B_X1_has I A x1 x2 = 0 ∨ (B_X1_has I A x1 x2 = 1 ∧ ∃ x y : Nat, x < w ∧ y < h ∧ x1 = nI x ∧ x2 = nI y) := by
  unfold B_X1_has
  by_cases h1 : x1 < 0
  · rw [if_pos h1]; exact Or.inl rfl
  rw [if_neg h1]
  by_cases h2 : I 5 ≤ x1
  · rw [if_pos h2]; exact Or.inl rfl
  rw [if_neg h2]
  by_cases h3 : x2 < 0
  · rw [if_pos h3]; exact Or.inl rfl
  rw [if_neg h3]
  by_cases h4 : I 6 ≤ x2
  · rw [if_pos h4]; exact Or.inl rfl
  rw [if_neg h4]
  refine Or.inr ⟨rfl, ?_⟩
  obtain ⟨x, hx, rfl⟩ := nI_of h1
  obtain ⟨y, hy, rfl⟩ := nI_of h3
  rw [hw, nI_leI lw hx] at h2
  rw [hh, nI_leI lh hy] at h4
  exact ⟨x, y, by omega, by omega, rfl, rfl⟩
theorem has_in {I : Nat → Int32} {A : Nat → Nat → Int32} {w h x y : Nat} (hw : I 5 = nI w) (hh : I 6 = nI h) (lw : w < 2 ^ 31) (lh : h < 2 ^ 31) (hx : x < w) (hy : y < h) : B_X1_has I A (nI x) (nI y) = 1 := by
  unfold B_X1_has
  rw [if_neg (nI_pos (by omega)), hw, if_neg (nI_ge hx lw), if_neg (nI_pos (by omega)), hh, if_neg (nI_ge hy lh)]
theorem has_outx {I : Nat → Int32} {A : Nat → Nat → Int32} {w x : Nat} (hw : I 5 = nI w) (lx : x < 2 ^ 31) (hx : w ≤ x) (x2 : Int32) : B_X1_has I A (nI x) x2 = 0 := by
  unfold B_X1_has
  rw [if_neg (nI_pos (by omega)), hw, if_pos (nI_le hx lx)]
theorem has_outy {I : Nat → Int32} {A : Nat → Nat → Int32} {h y : Nat} (hh : I 6 = nI h) (ly : y < 2 ^ 31) (hy : h ≤ y) (x1 : Int32) : B_X1_has I A x1 (nI y) = 0 := by
  unfold B_X1_has
  by_cases h1 : x1 < 0
  · rw [if_pos h1]
  rw [if_neg h1]
  by_cases h2 : I 5 ≤ x1
  · rw [if_pos h2]
  rw [if_neg h2, if_neg (nI_pos (by omega)), hh, if_pos (nI_le hy ly)]
theorem has_negx {I : Nat → Int32} {A : Nat → Nat → Int32} (x2 : Int32) : B_X1_has I A (nI 0 - 1) x2 = 0 := by
  unfold B_X1_has
  rw [if_pos (by decide)]
theorem has_negy {I : Nat → Int32} {A : Nat → Nat → Int32} (x1 : Int32) : B_X1_has I A x1 (nI 0 - 1) = 0 := by
  unfold B_X1_has
  by_cases h1 : x1 < 0
  · rw [if_pos h1]
  rw [if_neg h1]
  by_cases h2 : I 5 ≤ x1
  · rw [if_pos h2]
  rw [if_neg h2, if_pos (by decide)]
theorem sq_sym_n : ∀ a, a < 15 → ∀ b, b < 15 → B_X6_squareApart (nI a) (nI b) = B_X6_squareApart (nI b) (nI a) := by decide +kernel
theorem sq_sym {a b : Int32} (ha : up 14 a) (hb : up 14 b) : B_X6_squareApart a b = B_X6_squareApart b a := by
  obtain ⟨x, hx, rfl⟩ := ha
  obtain ⟨y, hy, rfl⟩ := hb
  exact sq_sym_n x (by omega) y (by omega)
theorem sq_up_n : ∀ a, a < 15 → ∀ b, b < 15 → (B_X6_squareApart (nI a) (nI b)).toNatClampNeg ≤ 49 ∧ 0 ≤ B_X6_squareApart (nI a) (nI b) := by decide +kernel
theorem sq_up {a b : Int32} (ha : up 14 a) (hb : up 14 b) : up 49 (B_X6_squareApart a b) := by
  obtain ⟨x, hx, rfl⟩ := ha
  obtain ⟨y, hy, rfl⟩ := hb
  obtain ⟨h1, h2⟩ := sq_up_n x (by omega) y (by omega)
  exact ⟨_, h1, (Int32.ofNat_toNatClampNeg _ h2).symm⟩
theorem grey_up_n : ∀ a, a < 15 → ∀ b, b < 15 → (B_X6_greyOf (nI a) (nI b)).toNatClampNeg ≤ 99 ∧ 0 ≤ B_X6_greyOf (nI a) (nI b) := by decide +kernel
theorem grey_up {a b : Int32} (ha : up 14 a) (hb : up 14 b) : up 99 (B_X6_greyOf a b) := by
  obtain ⟨x, hx, rfl⟩ := ha
  obtain ⟨y, hy, rfl⟩ := hb
  obtain ⟨h1, h2⟩ := grey_up_n x (by omega) y (by omega)
  exact ⟨_, h1, (Int32.ofNat_toNatClampNeg _ h2).symm⟩
/-- how a direction is on, as whole numbers -/
theorem on_n : ∀ a, a < 15 → ∀ b, b < 15 → (B_X6_onFrom (nI a) (nI b)).toInt = (b : Int) - a - 15 ∨ (B_X6_onFrom (nI a) (nI b)).toInt = (b : Int) - a ∨ (B_X6_onFrom (nI a) (nI b)).toInt = (b : Int) - a + 15 := by decide +kernel
theorem on_b : ∀ a, a < 15 → ∀ b, b < 15 → -7 ≤ (B_X6_onFrom (nI a) (nI b)).toInt ∧ (B_X6_onFrom (nI a) (nI b)).toInt ≤ 7 := by decide +kernel
theorem ahead_up_n : ∀ a, a < 15 → ((if nI a = 0 then 14 else nI a - 1 : Int32).toNatClampNeg ≤ 14 ∧ 0 ≤ (if nI a = 0 then 14 else nI a - 1 : Int32)) ∧ ((if nI a = 14 then 0 else nI a + 1 : Int32).toNatClampNeg ≤ 14 ∧ 0 ≤ (if nI a = 14 then 0 else nI a + 1 : Int32)) := by decide +kernel
theorem ng_lp {σ R : Type} (F : Nat → σ → Option R) (P : Nat → σ → Prop) (w : Nat) (Q : R → Prop)
    (hs : ∀ k n s, k < w → P k s → ∃ s', F (n + 1) s = F n s' ∧ P (k + 1) s')
    (he : ∀ n s, P w s → ∃ r, F (n + 1) s = some r ∧ Q r) : ∀ (d k n : Nat) (s : σ), k + d = w → d < n → P k s → ∃ r, F n s = some r ∧ Q r := by
  intro d
  induction d with
  | zero =>
    intro k n s hk hn hP
    obtain ⟨n, rfl⟩ : ∃ n', n = n' + 1 := ⟨n - 1, by omega⟩
    have : k = w := by omega
    subst this
    exact he n s hP
  | succ d ih =>
    intro k n s hk hn hP
    obtain ⟨n, rfl⟩ : ∃ n', n = n' + 1 := ⟨n - 1, by omega⟩
    obtain ⟨s', h1, h2⟩ := hs k n s (by omega) hP
    rw [h1]
    exact ih (k + 1) n s' (by omega) (by omega) h2
theorem ng_lp0 {σ R : Type} {F : Nat → σ → Option R} (P : Nat → σ → Prop) (w : Nat) (Q : R → Prop) {s : σ} (hw : w < 2000) (h0 : P 0 s)
    (hs : ∀ k n s, k < w → P k s → ∃ s', F (n + 1) s = F n s' ∧ P (k + 1) s')
    (he : ∀ n s, P w s → ∃ r, F (n + 1) s = some r ∧ Q r) : ∃ r, F FU s = some r ∧ Q r := ng_lp F P w Q hs he w 0 FU s (by omega) (show w < 2000 from hw) h0
theorem ng_le {σ R : Type} (F : Nat → σ → Option R) (P : Nat → σ → Prop) (w : Nat) (Q : R → Prop)
    (hs : ∀ k n s, k < w → P k s → (∃ s', F (n + 1) s = F n s' ∧ P (k + 1) s') ∨ ∃ r, F (n + 1) s = some r ∧ Q r)
    (he : ∀ n s, P w s → ∃ r, F (n + 1) s = some r ∧ Q r) : ∀ (d k n : Nat) (s : σ), k + d = w → d < n → P k s → ∃ r, F n s = some r ∧ Q r := by
  intro d
  induction d with
  | zero =>
    intro k n s hk hn hP
    obtain ⟨n, rfl⟩ : ∃ n', n = n' + 1 := ⟨n - 1, by omega⟩
    have : k = w := by omega
    subst this
    exact he n s hP
  | succ d ih =>
    intro k n s hk hn hP
    obtain ⟨n, rfl⟩ : ∃ n', n = n' + 1 := ⟨n - 1, by omega⟩
    rcases hs k n s (by omega) hP with ⟨s', h1, h2⟩ | ⟨r, h1, h2⟩
    · rw [h1]
      exact ih (k + 1) n s' (by omega) (by omega) h2
    · exact ⟨r, h1, h2⟩
theorem ng_le0 {σ R : Type} {F : Nat → σ → Option R} (P : Nat → σ → Prop) (w : Nat) (Q : R → Prop) {s : σ} (hw : w < 2000) (h0 : P 0 s)
    (hs : ∀ k n s, k < w → P k s → (∃ s', F (n + 1) s = F n s' ∧ P (k + 1) s') ∨ ∃ r, F (n + 1) s = some r ∧ Q r)
    (he : ∀ n s, P w s → ∃ r, F (n + 1) s = some r ∧ Q r) : ∃ r, F FU s = some r ∧ Q r := ng_le F P w Q hs he w 0 FU s (by omega) (show w < 2000 from hw) h0
theorem nI_div {a b : Nat} (ha : a < 2 ^ 31) (hb : b < 2 ^ 31) : nI a / nI b = nI (a / b) := (Int32.ofNat_div ha hb).symm
theorem va_up2 {α : Type} (f : Nat → α) (k : Nat) (u v : α) : va_up (va_up f k u) k v = va_up f k v := by
  funext j
  unfold va_up
  by_cases e : j = k
  · rw [if_pos e, if_pos e]
  · rw [if_neg e, if_neg e, if_neg e]
theorem mod_sub (k u : Nat) : k - k / u * u = k % u := by
  have h1 := Nat.div_add_mod k u
  rw [Nat.mul_comm] at h1
  omega
theorem if10 {α : Type} (a b : α) : (if (1 : Int32) = 0 then a else b) = b := if_neg (by decide)
theorem if00 {α : Type} (a b : α) : (if (0 : Int32) = 0 then a else b) = a := if_pos rfl
theorem add_sub_l (a b : Int32) : a + b - a = b := by rw [Int32.add_comm, Int32.add_sub_cancel]
theorem add_of_sub {a b c : Int32} (h : a = b - c) : c + a = b := by rw [h, Int32.add_comm, Int32.sub_add_cancel]
end NUM

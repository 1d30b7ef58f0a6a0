section SUM
/-! sums over a row, over a grid -/
def sm : Nat → (Nat → Int32) → Int32
  | 0, _ => 0
  | n + 1, f => sm n f + f n
theorem sm_s (n : Nat) (f : Nat → Int32) : sm (n + 1) f = sm n f + f n := rfl
theorem sm_congr {n : Nat} {f g : Nat → Int32} (h : ∀ i, i < n → f i = g i) : sm n f = sm n g := by
  induction n with
  | zero => rfl
  | succ n ih => rw [sm_s, sm_s, ih (fun i hi => h i (by omega)), h n (by omega)]
theorem sm_zero {n : Nat} {f : Nat → Int32} (h : ∀ i, i < n → f i = 0) : sm n f = 0 := by
  induction n with
  | zero => rfl
  | succ n ih => rw [sm_s, ih (fun i hi => h i (by omega)), h n (by omega), Int32.add_zero]
theorem sm_add (n : Nat) (f g : Nat → Int32) : sm n (fun i => f i + g i) = sm n f + sm n g := by
  induction n with
  | zero => exact (Int32.add_zero 0).symm
  | succ n ih => rw [sm_s, sm_s, sm_s, ih]; ac_rfl
theorem sm_pt (n a : Nat) (v : Int32) : sm n (fun i => if i = a then v else 0) = if a < n then v else 0 := by
  induction n with
  | zero => rw [if_neg (by omega)]; rfl
  | succ n ih =>
    rw [sm_s, ih]
    by_cases h : n = a
    · subst h
      rw [if_neg (by omega), if_pos rfl, if_pos (by omega), Int32.zero_add]
    · rw [if_neg h, Int32.add_zero]
      by_cases h2 : a < n
      · rw [if_pos h2, if_pos (by omega)]
      · rw [if_neg h2, if_neg (by omega)]
theorem sm_range (g : Nat → Int32) (lo : Nat) : ∀ (n len : Nat), lo + len ≤ n → sm n (fun i => if lo ≤ i ∧ i < lo + len then g i else 0) = sm len (fun i => g (lo + i)) := by
  intro n
  induction n with
  | zero =>
    intro len h
    have : len = 0 := by omega
    subst this
    rfl
  | succ n ih =>
    intro len h
    by_cases h1 : lo + len ≤ n
    · rw [sm_s, ih len h1, if_neg (by omega), Int32.add_zero]
    · cases len with
      | zero =>
        rw [sm_zero (fun i _ => if_neg (by omega))]
        rfl
      | succ len =>
        have e : lo + len = n := by omega
        rw [sm_s, sm_s, if_pos (by omega), ← ih len (by omega), e]
        congr 1
        apply sm_congr
        intro i hi
        by_cases h2 : lo ≤ i
        · rw [if_pos (by omega), if_pos (by omega)]
        · rw [if_neg (by omega), if_neg (by omega)]
theorem sm_one (n : Nat) : sm n (fun _ => 1) = nI n := by
  induction n with
  | zero => rfl
  | succ n ih => rw [sm_s, ih, nI_1]
theorem sm_up {n m : Nat} {f : Nat → Int32} (h : ∀ i, i < n → up m (f i)) : up (n * m) (sm n f) := by
  induction n with
  | zero => exact ⟨0, by omega, rfl⟩
  | succ n ih =>
    obtain ⟨a, ha, ea⟩ := ih (fun i hi => h i (by omega))
    obtain ⟨b, hb, eb⟩ := h n (by omega)
    exact ⟨a + b, by rw [Nat.succ_mul]; omega, by rw [sm_s, ea, eb, nI_add]⟩
def gs (w h : Nat) (f : Nat → Nat → Int32) : Int32 := sm h (fun y => sm w (fun x => f x y))
theorem gs_congr {w h : Nat} {f g : Nat → Nat → Int32} (e : ∀ x y, x < w → y < h → f x y = g x y) : gs w h f = gs w h g :=
  sm_congr fun y hy => sm_congr fun x hx => e x y hx hy
theorem gs_add (w h : Nat) (f g : Nat → Nat → Int32) : gs w h (fun x y => f x y + g x y) = gs w h f + gs w h g := by
  unfold gs
  rw [← sm_add]
  exact sm_congr fun y _ => sm_add w _ _
theorem gs_zero {w h : Nat} {f : Nat → Nat → Int32} (e : ∀ x y, x < w → y < h → f x y = 0) : gs w h f = 0 :=
  sm_zero fun y hy => sm_zero fun x hx => e x y hx hy
theorem gs_pt {w h a b : Nat} (ha : a < w) (hb : b < h) (v : Int32) : gs w h (fun x y => if x = a ∧ y = b then v else 0) = v := by
  have e : gs w h (fun x y => if x = a ∧ y = b then v else 0) = sm h (fun y => if y = b then v else 0) := by
    apply sm_congr
    intro y hy
    by_cases h1 : y = b
    · rw [if_pos h1, sm_congr (g := fun x => if x = a then v else 0) (fun x _ => by simp [h1]), sm_pt, if_pos ha]
    · rw [if_neg h1]
      exact sm_zero fun x _ => if_neg (fun q => h1 q.2)
  rw [e, sm_pt, if_pos hb]
/-- a sum over the grid of what is not 0 in a rectangle alone -/
theorem gs_rect {w h a b u v : Nat} (hu : a + u ≤ w) (hv : b + v ≤ h) (g : Nat → Nat → Int32) : gs w h (fun x y => if a ≤ x ∧ x < a + u ∧ b ≤ y ∧ y < b + v then g x y else 0) = sm v (fun j => sm u (fun i => g (a + i) (b + j))) := by
  rw [← sm_range (fun y => sm u (fun i => g (a + i) y)) b h v hv]
  apply sm_congr
  intro y _
  by_cases h1 : b ≤ y ∧ y < b + v
  · rw [if_pos h1, ← sm_range (fun x => g x y) a w u hu]
    apply sm_congr
    intro x _
    by_cases h2 : a ≤ x ∧ x < a + u
    · dsimp only
      rw [if_pos (by omega), if_pos h2]
    · dsimp only
      rw [if_neg (by omega), if_neg h2]
  · rw [if_neg h1]
    exact sm_zero fun x _ => if_neg (by omega)
/-! the energy of a grid: p across, q down, D the directions, hl what each cell has by itself -/

def ec (w h : Nat) (p q : Int32) (D hl : Nat → Nat → Int32) (x y : Nat) : Int32 := hl x y + (if x + 1 < w then p * B_X6_squareApart (D x y) (D (x + 1) y) else 0) + (if y + 1 < h then q * B_X6_squareApart (D x y) (D x (y + 1)) else 0)
def ew (w h : Nat) (p q : Int32) (D : Nat → Nat → Int32) (a b : Nat) (hv d : Int32) : Int32 := hv + (if 0 < a then p * B_X6_squareApart (D (a - 1) b) d else 0) + (if a + 1 < w then p * B_X6_squareApart (D (a + 1) b) d else 0) + (if 0 < b then q * B_X6_squareApart (D a (b - 1)) d else 0) + (if b + 1 < h then q * B_X6_squareApart (D a (b + 1)) d else 0)
theorem ec_point {w h a b : Nat} {p q : Int32} {D D' hl hl' : Nat → Nat → Int32} (ha : a < w) (hb : b < h)
    (hD : ∀ x y, x < w → y < h → ¬ (x = a ∧ y = b) → D' x y = D x y) (hH : ∀ x y, x < w → y < h → ¬ (x = a ∧ y = b) → hl' x y = hl x y)
    {x y : Nat} (hx : x < w) (hy : y < h) : ec w h p q D' hl' x y = ec w h p q D hl x y + ((if x = a ∧ y = b then ec w h p q D' hl' a b - ec w h p q D hl a b else 0) + ((if x + 1 = a ∧ y = b then p * B_X6_squareApart (D x y) (D' a b) - p * B_X6_squareApart (D x y) (D a b) else 0) + (if x = a ∧ y + 1 = b then q * B_X6_squareApart (D x y) (D' a b) - q * B_X6_squareApart (D x y) (D a b) else 0))) := by
  by_cases h0 : x = a ∧ y = b
  · obtain ⟨rfl, rfl⟩ := h0
    rw [if_pos ⟨rfl, rfl⟩, if_neg (by omega), if_neg (by omega), Int32.add_zero, Int32.add_zero]
    generalize ec w h p q D' hl' x y = u
    generalize ec w h p q D hl x y = v
    rw [Int32.add_comm, Int32.sub_add_cancel]
  · rw [if_neg h0, Int32.zero_add]
    have e0 := hD x y hx hy h0
    have e1 := hH x y hx hy h0
    by_cases h1 : x + 1 = a ∧ y = b
    · obtain ⟨rfl, rfl⟩ := h1
      rw [if_pos ⟨rfl, rfl⟩, if_neg (by omega)]
      unfold ec
      rw [e0, e1, if_pos ha, if_pos ha]
      have e2 : (if y + 1 < h then q * B_X6_squareApart (D x y) (D' x (y + 1)) else 0) = (if y + 1 < h then q * B_X6_squareApart (D x y) (D x (y + 1)) else 0) := by
        by_cases h4 : y + 1 < h
        · rw [if_pos h4, if_pos h4, hD x (y + 1) hx h4 (by omega)]
        · rw [if_neg h4, if_neg h4]
      rw [e2]
      generalize (if y + 1 < h then q * B_X6_squareApart (D x y) (D x (y + 1)) else 0) = r
      generalize p * B_X6_squareApart (D x y) (D' (x + 1) y) = u
      generalize p * B_X6_squareApart (D x y) (D (x + 1) y) = v
      grind
    · rw [if_neg h1, Int32.zero_add]
      by_cases h2 : x = a ∧ y + 1 = b
      · obtain ⟨rfl, rfl⟩ := h2
        rw [if_pos ⟨rfl, rfl⟩]
        unfold ec
        rw [e0, e1, if_pos hb, if_pos hb]
        have e2 : (if x + 1 < w then p * B_X6_squareApart (D x y) (D' (x + 1) y) else 0) = (if x + 1 < w then p * B_X6_squareApart (D x y) (D (x + 1) y) else 0) := by
          by_cases h4 : x + 1 < w
          · rw [if_pos h4, if_pos h4, hD (x + 1) y h4 hy (by omega)]
          · rw [if_neg h4, if_neg h4]
        rw [e2]
        generalize (if x + 1 < w then p * B_X6_squareApart (D x y) (D (x + 1) y) else 0) = r
        generalize q * B_X6_squareApart (D x y) (D' x (y + 1)) = u
        generalize q * B_X6_squareApart (D x y) (D x (y + 1)) = v
        grind
      · rw [if_neg h2, Int32.add_zero]
        have e2 : (if x + 1 < w then p * B_X6_squareApart (D x y) (D' (x + 1) y) else 0) = (if x + 1 < w then p * B_X6_squareApart (D x y) (D (x + 1) y) else 0) := by
          by_cases h4 : x + 1 < w
          · rw [if_pos h4, if_pos h4, hD (x + 1) y h4 hy (by omega)]
          · rw [if_neg h4, if_neg h4]
        have e3 : (if y + 1 < h then q * B_X6_squareApart (D x y) (D' x (y + 1)) else 0) = (if y + 1 < h then q * B_X6_squareApart (D x y) (D x (y + 1)) else 0) := by
          by_cases h4 : y + 1 < h
          · rw [if_pos h4, if_pos h4, hD x (y + 1) hx h4 (by omega)]
          · rw [if_neg h4, if_neg h4]
        unfold ec
        rw [e0, e1, e2, e3]
/-- one cell changes: the energy of the grid changes by that of this cell alone -/
theorem ec_local {w h a b : Nat} {p q : Int32} {D D' hl hl' : Nat → Nat → Int32} (ha : a < w) (hb : b < h)
    (hD : ∀ x y, x < w → y < h → ¬ (x = a ∧ y = b) → D' x y = D x y) (hH : ∀ x y, x < w → y < h → ¬ (x = a ∧ y = b) → hl' x y = hl x y)
    (hu : ∀ x y, x < w → y < h → up 14 (D x y)) (hu' : up 14 (D' a b)) :
    gs w h (ec w h p q D' hl') + ew w h p q D a b (hl a b) (D a b) = gs w h (ec w h p q D hl) + ew w h p q D a b (hl' a b) (D' a b) := by
  have e1 : gs w h (fun x y => if x + 1 = a ∧ y = b then p * B_X6_squareApart (D x y) (D' a b) - p * B_X6_squareApart (D x y) (D a b) else 0) = if 0 < a then p * B_X6_squareApart (D (a - 1) b) (D' a b) - p * B_X6_squareApart (D (a - 1) b) (D a b) else 0 := by
    by_cases h0 : 0 < a
    · rw [if_pos h0, ← gs_pt (w := w) (h := h) (a := a - 1) (b := b) (by omega) hb (p * B_X6_squareApart (D (a - 1) b) (D' a b) - p * B_X6_squareApart (D (a - 1) b) (D a b))]
      apply gs_congr
      intro x y _ _
      by_cases h1 : x = a - 1 ∧ y = b
      · obtain ⟨rfl, rfl⟩ := h1
        rw [if_pos (by omega), if_pos ⟨rfl, rfl⟩]
      · rw [if_neg (by omega), if_neg h1]
    · rw [if_neg h0]
      exact gs_zero fun x y _ _ => if_neg (by omega)
  have e2 : gs w h (fun x y => if x = a ∧ y + 1 = b then q * B_X6_squareApart (D x y) (D' a b) - q * B_X6_squareApart (D x y) (D a b) else 0) = if 0 < b then q * B_X6_squareApart (D a (b - 1)) (D' a b) - q * B_X6_squareApart (D a (b - 1)) (D a b) else 0 := by
    by_cases h0 : 0 < b
    · rw [if_pos h0, ← gs_pt (w := w) (h := h) (a := a) (b := b - 1) ha (by omega) (q * B_X6_squareApart (D a (b - 1)) (D' a b) - q * B_X6_squareApart (D a (b - 1)) (D a b))]
      apply gs_congr
      intro x y _ _
      by_cases h1 : x = a ∧ y = b - 1
      · obtain ⟨rfl, rfl⟩ := h1
        rw [if_pos (by omega), if_pos ⟨rfl, rfl⟩]
      · rw [if_neg (by omega), if_neg h1]
    · rw [if_neg h0]
      exact gs_zero fun x y _ _ => if_neg (by omega)
  rw [gs_congr (fun x y hx hy => ec_point ha hb hD hH hx hy), gs_add, gs_add, gs_add, gs_pt ha hb, e1, e2]
  have e3 : ec w h p q D' hl' a b = hl' a b + (if a + 1 < w then p * B_X6_squareApart (D (a + 1) b) (D' a b) else 0) + (if b + 1 < h then q * B_X6_squareApart (D a (b + 1)) (D' a b) else 0) := by
    have g1 : (if a + 1 < w then p * B_X6_squareApart (D' a b) (D' (a + 1) b) else 0) = (if a + 1 < w then p * B_X6_squareApart (D (a + 1) b) (D' a b) else 0) := by
      by_cases h3 : a + 1 < w
      · rw [if_pos h3, if_pos h3, hD (a + 1) b h3 hb (by omega), sq_sym hu' (hu _ _ h3 hb)]
      · rw [if_neg h3, if_neg h3]
    have g2 : (if b + 1 < h then q * B_X6_squareApart (D' a b) (D' a (b + 1)) else 0) = (if b + 1 < h then q * B_X6_squareApart (D a (b + 1)) (D' a b) else 0) := by
      by_cases h3 : b + 1 < h
      · rw [if_pos h3, if_pos h3, hD a (b + 1) ha h3 (by omega), sq_sym hu' (hu _ _ ha h3)]
      · rw [if_neg h3, if_neg h3]
    unfold ec
    rw [g1, g2]
  have e4 : ec w h p q D hl a b = hl a b + (if a + 1 < w then p * B_X6_squareApart (D (a + 1) b) (D a b) else 0) + (if b + 1 < h then q * B_X6_squareApart (D a (b + 1)) (D a b) else 0) := by
    have g1 : (if a + 1 < w then p * B_X6_squareApart (D a b) (D (a + 1) b) else 0) = (if a + 1 < w then p * B_X6_squareApart (D (a + 1) b) (D a b) else 0) := by
      by_cases h3 : a + 1 < w
      · rw [if_pos h3, if_pos h3, sq_sym (hu _ _ ha hb) (hu _ _ h3 hb)]
      · rw [if_neg h3, if_neg h3]
    have g2 : (if b + 1 < h then q * B_X6_squareApart (D a b) (D a (b + 1)) else 0) = (if b + 1 < h then q * B_X6_squareApart (D a (b + 1)) (D a b) else 0) := by
      by_cases h3 : b + 1 < h
      · rw [if_pos h3, if_pos h3, sq_sym (hu _ _ ha hb) (hu _ _ ha h3)]
      · rw [if_neg h3, if_neg h3]
    unfold ec
    rw [g1, g2]
  rw [e3, e4]
  unfold ew
  generalize gs w h (ec w h p q D hl) = G
  generalize (if a + 1 < w then p * B_X6_squareApart (D (a + 1) b) (D' a b) else 0) = r1
  generalize (if a + 1 < w then p * B_X6_squareApart (D (a + 1) b) (D a b) else 0) = r2
  generalize (if b + 1 < h then q * B_X6_squareApart (D a (b + 1)) (D' a b) else 0) = r3
  generalize (if b + 1 < h then q * B_X6_squareApart (D a (b + 1)) (D a b) else 0) = r4
  have f1 : (if 0 < a then p * B_X6_squareApart (D (a - 1) b) (D' a b) - p * B_X6_squareApart (D (a - 1) b) (D a b) else 0) = (if 0 < a then p * B_X6_squareApart (D (a - 1) b) (D' a b) else 0) - (if 0 < a then p * B_X6_squareApart (D (a - 1) b) (D a b) else 0) := by
    by_cases h0 : 0 < a
    · rw [if_pos h0, if_pos h0, if_pos h0]
    · rw [if_neg h0, if_neg h0, if_neg h0, Int32.sub_zero]
  have f2 : (if 0 < b then q * B_X6_squareApart (D a (b - 1)) (D' a b) - q * B_X6_squareApart (D a (b - 1)) (D a b) else 0) = (if 0 < b then q * B_X6_squareApart (D a (b - 1)) (D' a b) else 0) - (if 0 < b then q * B_X6_squareApart (D a (b - 1)) (D a b) else 0) := by
    by_cases h0 : 0 < b
    · rw [if_pos h0, if_pos h0, if_pos h0]
    · rw [if_neg h0, if_neg h0, if_neg h0, Int32.sub_zero]
  rw [f1, f2]
  generalize (if 0 < a then p * B_X6_squareApart (D (a - 1) b) (D' a b) else 0) = r5
  generalize (if 0 < a then p * B_X6_squareApart (D (a - 1) b) (D a b) else 0) = r6
  generalize (if 0 < b then q * B_X6_squareApart (D a (b - 1)) (D' a b) else 0) = r7
  generalize (if 0 < b then q * B_X6_squareApart (D a (b - 1)) (D a b) else 0) = r8
  generalize hl a b = u
  generalize hl' a b = v
  grind
theorem acc_loop {R : Type} (F : Nat → Int32 → Int32 → Option R) (a len : Nat) (g : Nat → Int32) (fin : Int32 → R) (hl : len < 2000)
    (hs : ∀ n z k, k < len → F (n + 1) z (nI (a + k)) = F n (z + g k) (nI (a + k + 1))) (he : ∀ n z, F (n + 1) z (nI (a + len)) = some (fin z)) (acc : Int32) : F FU acc (nI a) = some (fin (acc + sm len g)) := by
  have : ∃ r, F FU acc (nI a) = some r ∧ r = fin (acc + sm len g) := by
    refine ng_lp0 (F := fun n (s : Int32 × Int32) => F n s.1 s.2) (s := (acc, nI a)) (fun k s => s.1 = acc + sm k g ∧ s.2 = nI (a + k)) len _ hl ⟨(Int32.add_zero _).symm, rfl⟩ ?_ ?_
    · intro k n s hk hP
      obtain ⟨u, v⟩ := s
      obtain ⟨h1, h2⟩ := hP
      dsimp only at h1 h2
      subst h1 h2
      refine ⟨(acc + sm (k + 1) g, nI (a + k + 1)), ?_, rfl, rfl⟩
      dsimp only
      rw [hs n _ k hk, sm_s, Int32.add_assoc]
    · intro n s hP
      obtain ⟨u, v⟩ := s
      obtain ⟨h1, h2⟩ := hP
      dsimp only at h1 h2
      subst h1 h2
      exact ⟨_, he n _, rfl⟩
  obtain ⟨r, e1, e2⟩ := this
  rw [e1, e2]
theorem acc_loop2 {R : Type} (F : Nat → Int32 → Int32 → Int32 → Option R) (a len : Nat) (g1 g2 : Nat → Int32) (fin : Int32 → Int32 → R) (hl : len < 2000)
    (hs : ∀ n z1 z2 k, k < len → F (n + 1) z1 z2 (nI (a + k)) = F n (z1 + g1 k) (z2 + g2 k) (nI (a + k + 1))) (he : ∀ n z1 z2, F (n + 1) z1 z2 (nI (a + len)) = some (fin z1 z2)) (acc1 acc2 : Int32) : F FU acc1 acc2 (nI a) = some (fin (acc1 + sm len g1) (acc2 + sm len g2)) := by
  have : ∃ r, F FU acc1 acc2 (nI a) = some r ∧ r = fin (acc1 + sm len g1) (acc2 + sm len g2) := by
    refine ng_lp0 (F := fun n (s : Int32 × Int32 × Int32) => F n s.1 s.2.1 s.2.2) (s := (acc1, acc2, nI a)) (fun k s => s = (acc1 + sm k g1, acc2 + sm k g2, nI (a + k))) len _ hl ?_ ?_ ?_
    · show (acc1, acc2, nI a) = (acc1 + 0, acc2 + 0, nI a)
      rw [Int32.add_zero, Int32.add_zero]
    · rintro k n s hk rfl
      refine ⟨(acc1 + sm (k + 1) g1, acc2 + sm (k + 1) g2, nI (a + k + 1)), ?_, rfl⟩
      dsimp only
      rw [hs n _ _ k hk, sm_s, sm_s, Int32.add_assoc, Int32.add_assoc]
    · rintro n s rfl
      exact ⟨_, he n _ _, rfl⟩
  obtain ⟨r, e1, e2⟩ := this
  rw [e1, e2]
end SUM

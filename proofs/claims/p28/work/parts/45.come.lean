section COME
/-- the numbers but for one, as ahead -/
def Eqx (k : Nat) (I I0 : Nat → Int32) : Prop := ∀ i, i ≠ k → I i = I0 i
theorem Eqx.up {k : Nat} {I I0 : Nat → Int32} (h : Eqx k I I0) (v : Int32) : Eqx k (va_up I k v) I0 := fun i hi => by
  rw [ng_va, if_neg hi]
  exact h i hi
def DrvA (np nd lt k0 : Nat) (a c d : Nat → Int32) : Prop := ∀ k, k < lt ∨ (k0 ≤ k ∧ k < nd) → (∃ p, p < np ∧ a k = nI p) ∧ up 14 (c k) ∧ up 100 (d k)
/-- in the midst of the drives of a tick -/
def InC (w h np nd lt k : Nat) (I0 : Nat → Int32) (A0 : Nat → Nat → Int32) (g : Int32) (I : Nat → Int32) (A : Nat → Nat → Int32) : Prop :=
  Co w h np I A ∧ I 9 = en w h (I 7) (I 8) A ∧ I 9 = I0 9 + g ∧ Eqx 9 I I0 ∧ lt ≤ k ∧ DrvA np nd lt k (A 13) (A 15) (A 16) ∧
  (∀ i, i ≠ 4 → i ≠ 5 → i ≠ 13 → i ≠ 14 → i ≠ 15 → i ≠ 16 → A i = A0 i)
theorem come {w h np nd t : Nat} {I0 : Nat → Int32} {A0 : Nat → Nat → Int32} (C : Co w h np I0 A0) (S : Rs w h np nd t I0 A0) (E : I0 9 = en w h (I0 7) (I0 8) A0) :
    ∃ g nd' I A, B_X0_comeAt I0 A0 (I0 1) = some (g, I, A) ∧ nd' ≤ nd ∧ Co w h np I A ∧ Rs w h np nd' t I A ∧ I 9 = en w h (I 7) (I 8) A ∧ I 9 = I0 9 + g ∧ I 1 = I0 1 ∧ I 2 = I0 2 ∧ I 3 = I0 3 ∧ A 6 = A0 6 ∧ A 7 = A0 7 ∧ Kp A0 A := by
  obtain ⟨s1, s2, s4, s5, s6, s7, s8⟩ := S
  have nd40 := s2.2
  have : ∃ r, B_X0_comeAt_L8 (I0 1) FU 0 0 0 I0 A0 = some r ∧ ∃ g lt I A, r = (g, nI lt, I, A) ∧ lt ≤ nd ∧ InC w h np nd lt nd I0 A0 g I A := by
    refine ng_lp0 (F := fun n (s : Int32 × Int32 × Int32 × (Nat → Int32) × (Nat → Nat → Int32)) => B_X0_comeAt_L8 (I0 1) n s.1 s.2.1 s.2.2.1 s.2.2.2.1 s.2.2.2.2) (s := (0, 0, 0, I0, A0))
      (fun k s => ∃ g lt I A, s = (g, nI lt, nI k, I, A) ∧ InC w h np nd lt k I0 A0 g I A) nd _ (by omega) ?_ ?_ ?_
    · refine ⟨0, 0, I0, A0, rfl, C, E, (Int32.add_zero _).symm, fun _ _ => rfl, by omega, ?_, fun _ _ _ _ _ _ _ => rfl⟩
      intro k hk
      exact s8 k (by omega)
    · rintro k n s hk ⟨g, lt, I, A, rfl, c1, c2, c3, c4, c6, c7, c8⟩
      have hk40 : k < 40 := by omega
      have eI10 : I 10 = nI nd := by rw [c4 10 (by decide)]; exact s2.1
      obtain ⟨⟨p, hp, ep⟩, v1, v2⟩ := c7 k (Or.inr ⟨Nat.le_refl _, hk⟩)
      have np8 := c1.np8
      dsimp only
      rw [B_X0_comeAt_L8_s, eI10, if_neg (nI_ge hk (by omega)), rAt_nI hk40 (by decide), rAt_nI hk40 (by decide), rAt_nI hk40 (by decide), rAt_nI hk40 (by decide)]
      by_cases q : A 14 k = I0 1
      · rw [if_pos q, ep]
        have hrc : RectP w h np (A 0) (A 1) (A 2) (A 3) (A 12) := by
          rw [c8 0 (by decide) (by decide) (by decide) (by decide) (by decide) (by decide), c8 1 (by decide) (by decide) (by decide) (by decide) (by decide) (by decide), c8 2 (by decide) (by decide) (by decide) (by decide) (by decide) (by decide), c8 3 (by decide) (by decide) (by decide) (by decide) (by decide) (by decide), c8 12 (by decide) (by decide) (by decide) (by decide) (by decide) (by decide)]
          exact s6
        obtain ⟨g2, g3, g4⟩ := c1.setField hrc hp v1 v2
        have C2 := c1.setA p v1 v2
        rw [g3, bind_some', nI_1]
        refine ⟨(g + g2, nI lt, nI (k + 1), va_up I 9 (I 9 + g2), setFA A 4 5 p (A 15 k) (A 16 k)), rfl, g + g2, lt, _, _, rfl, C2, ?_, ?_, c4.up _, by omega, ?_, ?_⟩
        · show I 9 + g2 = en w h (I 7) (I 8) _
          rw [g4, c2]
        · show I 9 + g2 = _
          rw [c3, Int32.add_assoc]
        · intro k' hk'
          exact c7 k' (by omega)
        · intro i h1 h2 h3 h4 h5 h6
          unfold setFA
          rw [ng_va, if_neg h2, ng_va, if_neg h1]
          exact c8 i h1 h2 h3 h4 h5 h6
      · have hlt : lt < 40 := by omega
        rw [if_neg q]
        unfold B_X0_put
        rw [rPut_nI hlt (by decide), rPut_nI hlt (by decide), rPut_nI hlt (by decide), rPut_nI hlt (by decide), bind_some', nI_1, nI_1]
        refine ⟨(g, nI (lt + 1), nI (k + 1), I, va_up (va_up (va_up (va_up A 13 (upd (A 13) lt (A 13 k))) 14 (upd (A 14) lt (A 14 k))) 15 (upd (A 15) lt (A 15 k))) 16 (upd (A 16) lt (A 16 k))), rfl, g, lt + 1, _, _, rfl, c1, c2, c3, c4, by omega, ?_, ?_⟩
        · intro k' hk'
          show (∃ p, p < np ∧ upd (A 13) lt (A 13 k) k' = nI p) ∧ up 14 (upd (A 15) lt (A 15 k) k') ∧ up 100 (upd (A 16) lt (A 16 k) k')
          rw [upd_at, upd_at, upd_at]
          by_cases e : k' = lt
          · simp only [if_pos e]
            exact ⟨⟨p, hp, ep⟩, v1, v2⟩
          · simp only [if_neg e]
            exact c7 k' (by omega)
        · intro i h1 h2 h3 h4 h5 h6
          rw [ng_va, if_neg h6, ng_va, if_neg h5, ng_va, if_neg h4, ng_va, if_neg h3]
          exact c8 i h1 h2 h3 h4 h5 h6
    · rintro n s ⟨g, lt, I, A, rfl, c⟩
      have eI10 : I 10 = nI nd := by rw [c.2.2.2.1 10 (by decide)]; exact s2.1
      refine ⟨_, ?_, g, lt, I, A, rfl, c.2.2.2.2.1, c⟩
      dsimp only
      rw [B_X0_comeAt_L8_s, eI10, if_pos (nI_le (Nat.le_refl _) (by omega))]
  obtain ⟨r, e1, g, lt, I, A, rfl, hlt, c1, c2, c3, c4, c6, c7, c8⟩ := this
  have z : ∀ i, i ≠ 4 → i ≠ 5 → i ≠ 13 → i ≠ 14 → i ≠ 15 → i ≠ 16 → A i = A0 i := c8
  refine ⟨g, lt, va_up I 10 (nI lt), A, ?_, hlt, c1, ⟨?_, ⟨rfl, by omega⟩, ?_, ?_, ?_, ?_, ?_⟩, c2, c3, ?_, ?_, ?_, z 6 (by decide) (by decide) (by decide) (by decide) (by decide) (by decide), z 7 (by decide) (by decide) (by decide) (by decide) (by decide) (by decide), z 0 (by decide) (by decide) (by decide) (by decide) (by decide) (by decide), z 1 (by decide) (by decide) (by decide) (by decide) (by decide) (by decide), z 2 (by decide) (by decide) (by decide) (by decide) (by decide) (by decide), z 3 (by decide) (by decide) (by decide) (by decide) (by decide) (by decide)⟩
  · unfold B_X0_comeAt
    rw [e1, bind_some']
  · show CntP np 8 (I 4)
    rw [c4 4 (by decide)]
    exact s1
  · show CntP t 2000 (I 1)
    rw [c4 1 (by decide)]
    exact s4
  · show up 14 (I 0)
    rw [c4 0 (by decide)]
    exact s5
  · rw [z 0 (by decide) (by decide) (by decide) (by decide) (by decide) (by decide), z 1 (by decide) (by decide) (by decide) (by decide) (by decide) (by decide), z 2 (by decide) (by decide) (by decide) (by decide) (by decide) (by decide), z 3 (by decide) (by decide) (by decide) (by decide) (by decide) (by decide), z 12 (by decide) (by decide) (by decide) (by decide) (by decide) (by decide)]
    exact s6
  · rw [z 6 (by decide) (by decide) (by decide) (by decide) (by decide) (by decide), z 7 (by decide) (by decide) (by decide) (by decide) (by decide) (by decide)]
    exact s7
  · intro k hk
    exact c7 k (Or.inl hk)
  · show I 1 = _
    rw [c4 1 (by decide)]
  · show I 2 = _
    rw [c4 2 (by decide)]
  · show I 3 = _
    rw [c4 3 (by decide)]
end COME

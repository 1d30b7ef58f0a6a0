section COME
/-- the numbers but for one, as ahead -/
def Eqx (k : Nat) (I I0 : Nat → Int32) : Prop := ∀ i, i ≠ k → I i = I0 i
theorem Eqx.up {k : Nat} {I I0 : Nat → Int32} (h : Eqx k I I0) (v : Int32) : Eqx k (va_up I k v) I0 := fun i hi => by
  rw [ng_va, if_neg hi]
  exact h i hi
def DrvA (np nd lt k0 : Nat) (a b c d a' b' c' d' : Nat → Int32) : Prop := ∀ k, k < 40 → (a' k = a k ∧ b' k = b k ∧ c' k = c k ∧ d' k = d k) ∧ (k < lt ∨ (k0 ≤ k ∧ k < nd) → (∃ p, p < np ∧ a k = nI p) ∧ up 14 (c k) ∧ up 100 (d k))
/-- in the midst of the drives of a tick -/
def InC (w h np nd nq t lt k : Nat) (I0 J0 : Nat → Int32) (A0 B0 : Nat → Nat → Int32) (g : Int32) (I : Nat → Int32) (A : Nat → Nat → Int32) (J : Nat → Int32) (B : Nat → Nat → Int32) : Prop :=
  Co w h np I A J B ∧ I 9 = en w h (I 7) (I 8) A ∧ J 7 = I0 2 + g ∧ Eqx 9 I I0 ∧ Eqx 7 J J0 ∧ lt ≤ k ∧ DrvA np nd lt k (A 13) (A 14) (A 15) (A 16) (B 9) (B 10) (B 11) (B 12) ∧
  (∀ i, i ≠ 4 → i ≠ 5 → i ≠ 13 → i ≠ 14 → i ≠ 15 → i ≠ 16 → A i = A0 i) ∧ (∀ i, i ≠ 5 → i ≠ 6 → i ≠ 9 → i ≠ 10 → i ≠ 11 → i ≠ 12 → B i = B0 i)
theorem come {w h np nd nq t : Nat} {I0 J0 : Nat → Int32} {A0 B0 : Nat → Nat → Int32} (C : Co w h np I0 A0 J0 B0) (S : Rs w h np nd nq t I0 A0 J0 B0) (E : I0 9 = en w h (I0 7) (I0 8) A0) (F1 : J0 7 = I0 2) :
    ∃ g nd' I A J B, B_X0_comeAt I0 A0 (I0 1) = some (g, I, A) ∧ B_X7_driveAll J0 B0 = some (J, B) ∧ Co w h np I A J B ∧ Rs w h np nd' nq t I A J B ∧ I 9 = en w h (I 7) (I 8) A ∧ J 7 = I 2 + g ∧ I 2 = I0 2 ∧ I 3 = I0 3 ∧ J 8 = J0 8 ∧ J 0 = J0 0 ∧ A 6 = A0 6 ∧ A 7 = A0 7 ∧ B 7 = B0 7 ∧ B 8 = B0 8 := by
  obtain ⟨s1, s2, s3, s4, s5, s6, s7, s8, s9⟩ := S
  have nd40 := s2.2.1
  have : ∃ r q, B_X0_comeAt_L8 (I0 1) FU 0 0 0 I0 A0 = some r ∧ B_X7_driveAll_L4 FU 0 0 J0 B0 = some q ∧ ∃ g lt I A J B, r = (g, nI lt, I, A) ∧ q = (nI lt, J, B) ∧ lt ≤ nd ∧ InC w h np nd nq t lt nd I0 J0 A0 B0 g I A J B := by
    refine ng_lp20 (F := fun n (s : Int32 × Int32 × Int32 × (Nat → Int32) × (Nat → Nat → Int32)) => B_X0_comeAt_L8 (I0 1) n s.1 s.2.1 s.2.2.1 s.2.2.2.1 s.2.2.2.2) (G := fun n (s : Int32 × Int32 × (Nat → Int32) × (Nat → Nat → Int32)) => B_X7_driveAll_L4 n s.1 s.2.1 s.2.2.1 s.2.2.2) (s := (0, 0, 0, I0, A0)) (t := (0, 0, J0, B0))
      (fun k s t' => ∃ g lt I A J B, s = (g, nI lt, nI k, I, A) ∧ t' = (nI lt, nI k, J, B) ∧ InC w h np nd nq t lt k I0 J0 A0 B0 g I A J B) nd _ (by omega) ?_ ?_ ?_
    · refine ⟨0, 0, I0, A0, J0, B0, rfl, rfl, C, E, by rw [F1, Int32.add_zero], fun _ _ => rfl, fun _ _ => rfl, by omega, ?_, fun _ _ _ _ _ _ _ => rfl, fun _ _ _ _ _ _ _ => rfl⟩
      intro k hk
      exact ⟨(s8 k hk).1, fun z => (s8 k hk).2 (by omega)⟩
    · rintro k n s t' hk ⟨g, lt, I, A, J, B, rfl, rfl, c1, c2, c3, c4, c5, c6, c7, c8, c9⟩
      have hk40 : k < 40 := by omega
      have eI10 : I 10 = nI nd := by rw [c4 10 (by decide)]; exact s2.1
      have eJ10 : J 10 = nI nd := by rw [c5 10 (by decide), s2.2.2]; exact s2.1
      have eJ6 : J 6 = I0 1 := by rw [c5 6 (by decide)]; exact s4.2.2
      obtain ⟨⟨d1, d2, d3, d4⟩, dv⟩ := c7 k hk40
      obtain ⟨⟨p, hp, ep⟩, v1, v2⟩ := dv (Or.inr ⟨Nat.le_refl _, hk⟩)
      have np8 := c1.np8
      dsimp only
      rw [B_X0_comeAt_L8_s, B_X7_driveAll_L4_s, eI10, eJ10, if_neg (nI_ge hk (by omega)), if_neg (nI_ge hk (by omega)), rAt_nI hk40 (by decide), rAt_nI hk40 (by decide), rAt_nI hk40 (by decide), rAt_nI hk40 (by decide), rd_nI hk40 (by decide), bind_some', d2, eJ6]
      by_cases q : A 14 k = I0 1
      · rw [if_pos q, if_pos q, rd_nI hk40 (by decide), bind_some', rd_nI hk40 (by decide), bind_some', rd_nI hk40 (by decide), bind_some', d1, d3, d4, ep]
        have hrc : RectP w h np (A 0) (A 1) (A 2) (A 3) (A 12) := by
          rw [c8 0 (by decide) (by decide) (by decide) (by decide) (by decide) (by decide), c8 1 (by decide) (by decide) (by decide) (by decide) (by decide) (by decide), c8 2 (by decide) (by decide) (by decide) (by decide) (by decide) (by decide), c8 3 (by decide) (by decide) (by decide) (by decide) (by decide) (by decide), c8 12 (by decide) (by decide) (by decide) (by decide) (by decide) (by decide)]
          exact s6
        obtain ⟨g2, g3, g4⟩ := c1.setField hrc hp v1 v2
        have C2 := c1.setA p v1 v2
        have eM : B_X7_driven J B (nI p) (A 15 k) (A 16 k) = some (g2, va_up J 7 (J 7 + g2), setFA B 5 6 p (A 15 k) (A 16 k)) := by
          unfold B_X7_driven B_X7_worked
          rw [c1.all, bind_some', wr_nI (show p < 8 by omega) (by decide), bind_some', wr_nI (show p < 8 by omega) (by decide), bind_some', show B_X7_all J (va_up (va_up B 5 (upd (B 5) p (A 15 k))) 6 (upd (va_up B 5 (upd (B 5) p (A 15 k)) 6) p (A 16 k))) = _ from C2.all, g4, bind_some', add_sub_l, bind_some']
          rfl
        rw [g3, bind_some', eM, bind_some', nI_1]
        refine ⟨(g + g2, nI lt, nI (k + 1), va_up I 9 (I 9 + g2), setFA A 4 5 p (A 15 k) (A 16 k)), (nI lt, nI (k + 1), va_up J 7 (J 7 + g2), setFA B 5 6 p (A 15 k) (A 16 k)), rfl, rfl, g + g2, lt, _, _, _, _, rfl, rfl, C2, ?_, ?_, c4.up _, c5.up _, by omega, ?_, ?_, ?_⟩
        · show I 9 + g2 = en w h (I 7) (I 8) _
          rw [g4, c2]
        · show J 7 + g2 = _
          rw [c3, Int32.add_assoc]
        · intro k' hk'
          exact ⟨(c7 k' hk').1, fun z => (c7 k' hk').2 (by omega)⟩
        · intro i h1 h2 h3 h4 h5 h6
          unfold setFA
          rw [ng_va, if_neg h2, ng_va, if_neg h1]
          exact c8 i h1 h2 h3 h4 h5 h6
        · intro i h1 h2 h3 h4 h5 h6
          unfold setFA
          rw [ng_va, if_neg h2, ng_va, if_neg h1]
          exact c9 i h1 h2 h3 h4 h5 h6
      · have hlt : lt < 40 := by omega
        rw [if_neg q, if_neg q, rd_nI hk40 (by decide), bind_some', wr_nI hlt (by decide), bind_some', rd_nI hk40 (by decide), bind_some', wr_nI hlt (by decide), bind_some', rd_nI hk40 (by decide), bind_some', wr_nI hlt (by decide), bind_some', rd_nI hk40 (by decide), bind_some', wr_nI hlt (by decide), bind_some']
        unfold B_X0_put
        rw [rPut_nI hlt (by decide), rPut_nI hlt (by decide), rPut_nI hlt (by decide), rPut_nI hlt (by decide), bind_some', nI_1, nI_1]
        refine ⟨(g, nI (lt + 1), nI (k + 1), I, va_up (va_up (va_up (va_up A 13 (upd (A 13) lt (A 13 k))) 14 (upd (A 14) lt (A 14 k))) 15 (upd (A 15) lt (A 15 k))) 16 (upd (A 16) lt (A 16 k))), (nI (lt + 1), nI (k + 1), J, va_up (va_up (va_up (va_up B 9 (upd (B 9) lt (B 9 k))) 10 (upd (B 10) lt (B 10 k))) 11 (upd (B 11) lt (B 11 k))) 12 (upd (B 12) lt (B 12 k))), rfl, rfl, g, lt + 1, _, _, _, _, rfl, rfl, c1, c2, c3, c4, c5, by omega, ?_, ?_, ?_⟩
        · intro k' hk'
          show (upd (B 9) lt (B 9 k) k' = upd (A 13) lt (A 13 k) k' ∧ upd (B 10) lt (B 10 k) k' = upd (A 14) lt (A 14 k) k' ∧ upd (B 11) lt (B 11 k) k' = upd (A 15) lt (A 15 k) k' ∧ upd (B 12) lt (B 12 k) k' = upd (A 16) lt (A 16 k) k') ∧ (k' < lt + 1 ∨ (k + 1 ≤ k' ∧ k' < nd) → (∃ p, p < np ∧ upd (A 13) lt (A 13 k) k' = nI p) ∧ up 14 (upd (A 15) lt (A 15 k) k') ∧ up 100 (upd (A 16) lt (A 16 k) k'))
          rw [upd_at, upd_at, upd_at, upd_at, upd_at, upd_at, upd_at, upd_at]
          by_cases e : k' = lt
          · simp only [if_pos e]
            exact ⟨⟨d1, d2, d3, d4⟩, fun _ => ⟨⟨p, hp, ep⟩, v1, v2⟩⟩
          · simp only [if_neg e]
            exact ⟨(c7 k' hk').1, fun z => (c7 k' hk').2 (by omega)⟩
        · intro i h1 h2 h3 h4 h5 h6
          rw [ng_va, if_neg h6, ng_va, if_neg h5, ng_va, if_neg h4, ng_va, if_neg h3]
          exact c8 i h1 h2 h3 h4 h5 h6
        · intro i h1 h2 h3 h4 h5 h6
          rw [ng_va, if_neg h6, ng_va, if_neg h5, ng_va, if_neg h4, ng_va, if_neg h3]
          exact c9 i h1 h2 h3 h4 h5 h6
    · rintro n s t' ⟨g, lt, I, A, J, B, rfl, rfl, c⟩
      have eI10 : I 10 = nI nd := by rw [c.2.2.2.1 10 (by decide)]; exact s2.1
      have eJ10 : J 10 = nI nd := by rw [c.2.2.2.2.1 10 (by decide), s2.2.2]; exact s2.1
      refine ⟨_, _, ?_, ?_, g, lt, I, A, J, B, rfl, rfl, c.2.2.2.2.2.1, c⟩
      · dsimp only
        rw [B_X0_comeAt_L8_s, eI10, if_pos (nI_le (Nat.le_refl _) (by omega))]
      · dsimp only
        rw [B_X7_driveAll_L4_s, eJ10, if_pos (nI_le (Nat.le_refl _) (by omega))]
  obtain ⟨r, q, e1, e2, g, lt, I, A, J, B, rfl, rfl, hlt, c1, c2, c3, c4, c5, c6, c7, c8, c9⟩ := this
  refine ⟨g, lt, va_up I 10 (nI lt), A, va_up J 10 (nI lt), B, ?_, ?_, c1, ⟨?_, ⟨rfl, by omega, rfl⟩, ?_, ?_, ?_, ?_, ?_, ?_, ?_⟩, c2, ?_, ?_, ?_, ?_, ?_, c8 6 (by decide) (by decide) (by decide) (by decide) (by decide) (by decide), c8 7 (by decide) (by decide) (by decide) (by decide) (by decide) (by decide), c9 7 (by decide) (by decide) (by decide) (by decide) (by decide) (by decide), c9 8 (by decide) (by decide) (by decide) (by decide) (by decide) (by decide)⟩
  · unfold B_X0_comeAt
    rw [e1, bind_some']
  · unfold B_X7_driveAll
    rw [e2, bind_some']
  · show CntP np 8 (I 4) (J 9)
    rw [c4 4 (by decide), c5 9 (by decide)]
    exact s1
  · show CntP nq 10 (I 11) (J 11)
    rw [c4 11 (by decide), c5 11 (by decide)]
    exact s3
  · show CntP t 2000 (I 1) (J 6)
    rw [c4 1 (by decide), c5 6 (by decide)]
    exact s4
  · show up 14 (I 0) ∧ J 5 = I 0
    rw [c4 0 (by decide), c5 5 (by decide)]
    exact s5
  · rw [c8 0 (by decide) (by decide) (by decide) (by decide) (by decide) (by decide), c8 1 (by decide) (by decide) (by decide) (by decide) (by decide) (by decide), c8 2 (by decide) (by decide) (by decide) (by decide) (by decide) (by decide), c8 3 (by decide) (by decide) (by decide) (by decide) (by decide) (by decide), c8 12 (by decide) (by decide) (by decide) (by decide) (by decide) (by decide)]
    exact s6
  · rw [c8 6 (by decide) (by decide) (by decide) (by decide) (by decide) (by decide), c8 7 (by decide) (by decide) (by decide) (by decide) (by decide) (by decide), c9 8 (by decide) (by decide) (by decide) (by decide) (by decide) (by decide), c9 7 (by decide) (by decide) (by decide) (by decide) (by decide) (by decide)]
    exact s7
  · intro k hk
    exact ⟨(c7 k hk).1, fun z => (c7 k hk).2 (Or.inl z)⟩
  · rw [c8 17 (by decide) (by decide) (by decide) (by decide) (by decide) (by decide), c8 18 (by decide) (by decide) (by decide) (by decide) (by decide) (by decide), c9 13 (by decide) (by decide) (by decide) (by decide) (by decide) (by decide), c9 14 (by decide) (by decide) (by decide) (by decide) (by decide) (by decide)]
    exact s9
  · show J 7 = I 2 + g
    rw [c3, c4 2 (by decide)]
  · show I 2 = _
    rw [c4 2 (by decide)]
  · show I 3 = _
    rw [c4 3 (by decide)]
  · show J 8 = _
    rw [c5 8 (by decide)]
  · show J 0 = _
    rw [c5 0 (by decide)]
end COME

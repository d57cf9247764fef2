/-! The reference: what is set. -/
theorem MR_Rack {σ : AS} {M M' : MS} {r co li : Nat} (h : MR σ M) (hr : r < 6) (e0' : gI M' 61 r = nI (8 * li + co)) (F : ∀ p j, MRs p j → ¬ (p = 61 ∧ j = r) → gI M' p j = gI M p j) : MR (oRack σ r co li) M' := by
  obtain ⟨a1, a2, a3, a4, a5, a6, a7, a8, a9, a10, a11, a12⟩ := h
  refine ⟨?_, ?_, ?_, ?_, ?_, ?_, ?_, ?_, ?_, ?_, ?_, ?_⟩
  · exact fun k hk => (F _ _ (by unfold MRs; omega) (by omega)).trans (a1 k hk)
  · exact trivial
  · intro r9 hr9
    simp only [oRack, uN]
    by_cases e9' : r9 = r
    · subst e9'
      simpa using e0'
    · rw [F _ _ (by unfold MRs; omega) (by omega)]
      simpa [e9'] using a3 r9 hr9
  · intro k9' hk9
    obtain ⟨b1, b2, b3, b4, b5, b6, b7⟩ := a4 k9' hk9
    exact ⟨(F _ _ (by unfold MRs; omega) (by omega)).trans b1, (F _ _ (by unfold MRs; omega) (by omega)).trans b2, (F _ _ (by unfold MRs; omega) (by omega)).trans b3, (F _ _ (by unfold MRs; omega) (by omega)).trans b4, (F _ _ (by unfold MRs; omega) (by omega)).trans b5, (F _ _ (by unfold MRs; omega) (by omega)).trans b6, fun y9 hy9 => ⟨(F _ _ (by unfold MRs; omega) (by omega)).trans (b7 y9 hy9).1, (F _ _ (by unfold MRs; omega) (by omega)).trans (b7 y9 hy9).2⟩⟩
  · exact fun y9 hy9 => ⟨(F _ _ (by unfold MRs; omega) (by omega)).trans (a5 y9 hy9).1, (F _ _ (by unfold MRs; omega) (by omega)).trans (a5 y9 hy9).2⟩
  · exact trivial
  · exact fun c9' hc9 => (F _ _ (by unfold MRs; omega) (by omega)).trans (a7 c9' hc9)
  · exact (F _ _ (by unfold MRs; omega) (by omega)).trans a8
  · exact (F _ _ (by unfold MRs; omega) (by omega)).trans a9
  · exact (F _ _ (by unfold MRs; omega) (by omega)).trans a10
  · exact fun i9 hi9 => (F _ _ (by unfold MRs; omega) (by omega)).trans (a11 i9 hi9)
  · exact fun i9 hi9 => ⟨(F _ _ (by unfold MRs; omega) (by omega)).trans (a12 i9 hi9).1, (F _ _ (by unfold MRs; omega) (by omega)).trans (a12 i9 hi9).2.1, (F _ _ (by unfold MRs; omega) (by omega)).trans (a12 i9 hi9).2.2⟩
theorem MR_Shell {σ : AS} {M M' : MS} {k : Nat} {x y : Int32} {rd : Nat} (h : MR σ M) (hk : k < 4) (e1' : gI M' 62 k = x ∧ gI M' 63 k = y ∧ gI M' 64 k = nI rd ∧ gI M' 65 k = nI (liftN x y (flN x y)) ∧ gI M' 66 k = nI (flN x y) ∧ gI M' 67 k = (hsq x y (liftN x y (flN x y))).2.1 ∧ ∀ z, z < 4 → gI M' 68 (4 * k + z) = nI (cntN x y (flN x y) z) ∧ gI M' 69 (4 * k + z) = nI (cntN x y (liftN x y (flN x y)) z)) (F : ∀ p j, MRs p j → ¬ ((62 ≤ p ∧ p ≤ 67 ∧ j = k) ∨ ((p = 68 ∨ p = 69) ∧ 4 * k ≤ j ∧ j < 4 * k + 4)) → gI M' p j = gI M p j) : MR (oShell σ k x y rd) M' := by
  obtain ⟨a1, a2, a3, a4, a5, a6, a7, a8, a9, a10, a11, a12⟩ := h
  refine ⟨?_, ?_, ?_, ?_, ?_, ?_, ?_, ?_, ?_, ?_, ?_, ?_⟩
  · exact fun k hk => (F _ _ (by unfold MRs; omega) (by omega)).trans (a1 k hk)
  · exact trivial
  · exact fun r9 hr9 => (F _ _ (by unfold MRs; omega) (by omega)).trans (a3 r9 hr9)
  · intro k9' hk9
    simp only [oShell, uN, uI]
    by_cases e9' : k9' = k
    · subst e9'
      simpa using e1'
    · obtain ⟨b1, b2, b3, b4, b5, b6, b7⟩ := a4 k9' hk9
      simp only [e9', and_false, if_false]
      exact ⟨(F _ _ (by unfold MRs; omega) (by omega)).trans b1, (F _ _ (by unfold MRs; omega) (by omega)).trans b2, (F _ _ (by unfold MRs; omega) (by omega)).trans b3, (F _ _ (by unfold MRs; omega) (by omega)).trans b4, (F _ _ (by unfold MRs; omega) (by omega)).trans b5, (F _ _ (by unfold MRs; omega) (by omega)).trans b6, fun y9 hy9 => ⟨(F _ _ (by unfold MRs; omega) (by omega)).trans (b7 y9 hy9).1, (F _ _ (by unfold MRs; omega) (by omega)).trans (b7 y9 hy9).2⟩⟩
  · exact fun y9 hy9 => ⟨(F _ _ (by unfold MRs; omega) (by omega)).trans (a5 y9 hy9).1, (F _ _ (by unfold MRs; omega) (by omega)).trans (a5 y9 hy9).2⟩
  · exact trivial
  · exact fun c9' hc9 => (F _ _ (by unfold MRs; omega) (by omega)).trans (a7 c9' hc9)
  · exact (F _ _ (by unfold MRs; omega) (by omega)).trans a8
  · exact (F _ _ (by unfold MRs; omega) (by omega)).trans a9
  · exact (F _ _ (by unfold MRs; omega) (by omega)).trans a10
  · exact fun i9 hi9 => (F _ _ (by unfold MRs; omega) (by omega)).trans (a11 i9 hi9)
  · exact fun i9 hi9 => ⟨(F _ _ (by unfold MRs; omega) (by omega)).trans (a12 i9 hi9).1, (F _ _ (by unfold MRs; omega) (by omega)).trans (a12 i9 hi9).2.1, (F _ _ (by unfold MRs; omega) (by omega)).trans (a12 i9 hi9).2.2⟩
theorem MR_Wind {σ : AS} {M M' : MS} {w : Nat} {x y : Int32} (h : MR σ M) (hw : w < 4) (e0' : gI M' 70 w = x) (e1' : gI M' 71 w = y) (F : ∀ p j, MRs p j → ¬ ((p = 70 ∧ j = w) ∨ (p = 71 ∧ j = w)) → gI M' p j = gI M p j) : MR (oWind σ w x y) M' := by
  obtain ⟨a1, a2, a3, a4, a5, a6, a7, a8, a9, a10, a11, a12⟩ := h
  refine ⟨?_, ?_, ?_, ?_, ?_, ?_, ?_, ?_, ?_, ?_, ?_, ?_⟩
  · exact fun k hk => (F _ _ (by unfold MRs; omega) (by omega)).trans (a1 k hk)
  · exact trivial
  · exact fun r9 hr9 => (F _ _ (by unfold MRs; omega) (by omega)).trans (a3 r9 hr9)
  · intro k9' hk9
    obtain ⟨b1, b2, b3, b4, b5, b6, b7⟩ := a4 k9' hk9
    exact ⟨(F _ _ (by unfold MRs; omega) (by omega)).trans b1, (F _ _ (by unfold MRs; omega) (by omega)).trans b2, (F _ _ (by unfold MRs; omega) (by omega)).trans b3, (F _ _ (by unfold MRs; omega) (by omega)).trans b4, (F _ _ (by unfold MRs; omega) (by omega)).trans b5, (F _ _ (by unfold MRs; omega) (by omega)).trans b6, fun y9 hy9 => ⟨(F _ _ (by unfold MRs; omega) (by omega)).trans (b7 y9 hy9).1, (F _ _ (by unfold MRs; omega) (by omega)).trans (b7 y9 hy9).2⟩⟩
  · intro y9 hy9
    simp only [oWind, uI]
    by_cases e9' : y9 = w
    · subst e9'
      simpa using ⟨e0', e1'⟩
    · rw [F _ _ (by unfold MRs; omega) (by omega), F _ _ (by unfold MRs; omega) (by omega)]
      simpa [e9'] using a5 y9 hy9
  · exact trivial
  · exact fun c9' hc9 => (F _ _ (by unfold MRs; omega) (by omega)).trans (a7 c9' hc9)
  · exact (F _ _ (by unfold MRs; omega) (by omega)).trans a8
  · exact (F _ _ (by unfold MRs; omega) (by omega)).trans a9
  · exact (F _ _ (by unfold MRs; omega) (by omega)).trans a10
  · exact fun i9 hi9 => (F _ _ (by unfold MRs; omega) (by omega)).trans (a11 i9 hi9)
  · exact fun i9 hi9 => ⟨(F _ _ (by unfold MRs; omega) (by omega)).trans (a12 i9 hi9).1, (F _ _ (by unfold MRs; omega) (by omega)).trans (a12 i9 hi9).2.1, (F _ _ (by unfold MRs; omega) (by omega)).trans (a12 i9 hi9).2.2⟩
theorem MR_Peop {σ : AS} {M M' : MS} {z : Nat} {x : Int32} (h : MR σ M) (e0' : gI M' 72 z = x) (F : ∀ p j, MRs p j → ¬ (p = 72 ∧ j = z) → gI M' p j = gI M p j) : MR (oPeop σ z x) M' := by
  obtain ⟨a1, a2, a3, a4, a5, a6, a7, a8, a9, a10, a11, a12⟩ := h
  refine ⟨?_, ?_, ?_, ?_, ?_, ?_, ?_, ?_, ?_, ?_, ?_, ?_⟩
  · intro k9' hk9
    simp only [oPeop, uI]
    by_cases e9' : k9' = z
    · subst e9'
      simpa using e0'
    · rw [F _ _ (by unfold MRs; omega) (by omega)]
      simpa [e9'] using a1 k9' hk9
  · exact trivial
  · exact fun r9 hr9 => (F _ _ (by unfold MRs; omega) (by omega)).trans (a3 r9 hr9)
  · intro k9' hk9
    obtain ⟨b1, b2, b3, b4, b5, b6, b7⟩ := a4 k9' hk9
    exact ⟨(F _ _ (by unfold MRs; omega) (by omega)).trans b1, (F _ _ (by unfold MRs; omega) (by omega)).trans b2, (F _ _ (by unfold MRs; omega) (by omega)).trans b3, (F _ _ (by unfold MRs; omega) (by omega)).trans b4, (F _ _ (by unfold MRs; omega) (by omega)).trans b5, (F _ _ (by unfold MRs; omega) (by omega)).trans b6, fun y9 hy9 => ⟨(F _ _ (by unfold MRs; omega) (by omega)).trans (b7 y9 hy9).1, (F _ _ (by unfold MRs; omega) (by omega)).trans (b7 y9 hy9).2⟩⟩
  · exact fun y9 hy9 => ⟨(F _ _ (by unfold MRs; omega) (by omega)).trans (a5 y9 hy9).1, (F _ _ (by unfold MRs; omega) (by omega)).trans (a5 y9 hy9).2⟩
  · exact trivial
  · exact fun c9' hc9 => (F _ _ (by unfold MRs; omega) (by omega)).trans (a7 c9' hc9)
  · exact (F _ _ (by unfold MRs; omega) (by omega)).trans a8
  · exact (F _ _ (by unfold MRs; omega) (by omega)).trans a9
  · exact (F _ _ (by unfold MRs; omega) (by omega)).trans a10
  · exact fun i9 hi9 => (F _ _ (by unfold MRs; omega) (by omega)).trans (a11 i9 hi9)
  · exact fun i9 hi9 => ⟨(F _ _ (by unfold MRs; omega) (by omega)).trans (a12 i9 hi9).1, (F _ _ (by unfold MRs; omega) (by omega)).trans (a12 i9 hi9).2.1, (F _ _ (by unfold MRs; omega) (by omega)).trans (a12 i9 hi9).2.2⟩
theorem MR_Cut {σ : AS} {M M' : MS} {i0 : Nat} (h : MR σ M) (hi : i0 < aN σ) (e0' : gI M' 79 i0 = 1) (F : ∀ p j, MRs p j → ¬ (p = 79 ∧ j = i0) → gI M' p j = gI M p j) : MR (oCut σ i0) M' := by
  obtain ⟨a1, a2, a3, a4, a5, a6, a7, a8, a9, a10, a11, a12⟩ := h
  refine ⟨?_, ?_, ?_, ?_, ?_, ?_, ?_, ?_, ?_, ?_, ?_, ?_⟩
  · exact fun k hk => (F _ _ (by unfold MRs; omega) (by omega)).trans (a1 k hk)
  · exact trivial
  · exact fun r9 hr9 => (F _ _ (by unfold MRs; omega) (by omega)).trans (a3 r9 hr9)
  · intro k9' hk9
    obtain ⟨b1, b2, b3, b4, b5, b6, b7⟩ := a4 k9' hk9
    exact ⟨(F _ _ (by unfold MRs; omega) (by omega)).trans b1, (F _ _ (by unfold MRs; omega) (by omega)).trans b2, (F _ _ (by unfold MRs; omega) (by omega)).trans b3, (F _ _ (by unfold MRs; omega) (by omega)).trans b4, (F _ _ (by unfold MRs; omega) (by omega)).trans b5, (F _ _ (by unfold MRs; omega) (by omega)).trans b6, fun y9 hy9 => ⟨(F _ _ (by unfold MRs; omega) (by omega)).trans (b7 y9 hy9).1, (F _ _ (by unfold MRs; omega) (by omega)).trans (b7 y9 hy9).2⟩⟩
  · exact fun y9 hy9 => ⟨(F _ _ (by unfold MRs; omega) (by omega)).trans (a5 y9 hy9).1, (F _ _ (by unfold MRs; omega) (by omega)).trans (a5 y9 hy9).2⟩
  · exact trivial
  · exact fun c9' hc9 => (F _ _ (by unfold MRs; omega) (by omega)).trans (a7 c9' hc9)
  · exact (F _ _ (by unfold MRs; omega) (by omega)).trans a8
  · exact (F _ _ (by unfold MRs; omega) (by omega)).trans a9
  · exact (F _ _ (by unfold MRs; omega) (by omega)).trans a10
  · intro i9 hi9
    simp only [oCut, uN]
    by_cases e9' : i9 = i0
    · subst e9'
      rw [e0']; simp; rfl
    · rw [F _ _ (by unfold MRs; omega) (by omega)]
      simpa [e9'] using a11 i9 hi9
  · exact fun i9 hi9 => ⟨(F _ _ (by unfold MRs; omega) (by omega)).trans (a12 i9 hi9).1, (F _ _ (by unfold MRs; omega) (by omega)).trans (a12 i9 hi9).2.1, (F _ _ (by unfold MRs; omega) (by omega)).trans (a12 i9 hi9).2.2⟩
theorem MR_Temp {σ : AS} {M M' : MS} {n : Nat} (h : MR σ M) (e0' : gI M' 60 15 = nI n) (F : ∀ p j, MRs p j → ¬ (p = 60 ∧ j = 15) → gI M' p j = gI M p j) : MR (oTemp σ n) M' := by
  obtain ⟨a1, a2, a3, a4, a5, a6, a7, a8, a9, a10, a11, a12⟩ := h
  refine ⟨?_, ?_, ?_, ?_, ?_, ?_, ?_, ?_, ?_, ?_, ?_, ?_⟩
  · exact fun k hk => (F _ _ (by unfold MRs; omega) (by omega)).trans (a1 k hk)
  · exact trivial
  · exact fun r9 hr9 => (F _ _ (by unfold MRs; omega) (by omega)).trans (a3 r9 hr9)
  · intro k9' hk9
    obtain ⟨b1, b2, b3, b4, b5, b6, b7⟩ := a4 k9' hk9
    exact ⟨(F _ _ (by unfold MRs; omega) (by omega)).trans b1, (F _ _ (by unfold MRs; omega) (by omega)).trans b2, (F _ _ (by unfold MRs; omega) (by omega)).trans b3, (F _ _ (by unfold MRs; omega) (by omega)).trans b4, (F _ _ (by unfold MRs; omega) (by omega)).trans b5, (F _ _ (by unfold MRs; omega) (by omega)).trans b6, fun y9 hy9 => ⟨(F _ _ (by unfold MRs; omega) (by omega)).trans (b7 y9 hy9).1, (F _ _ (by unfold MRs; omega) (by omega)).trans (b7 y9 hy9).2⟩⟩
  · exact fun y9 hy9 => ⟨(F _ _ (by unfold MRs; omega) (by omega)).trans (a5 y9 hy9).1, (F _ _ (by unfold MRs; omega) (by omega)).trans (a5 y9 hy9).2⟩
  · exact trivial
  · exact fun c9' hc9 => (F _ _ (by unfold MRs; omega) (by omega)).trans (a7 c9' hc9)
  · exact e0'
  · exact (F _ _ (by unfold MRs; omega) (by omega)).trans a9
  · exact (F _ _ (by unfold MRs; omega) (by omega)).trans a10
  · exact fun i9 hi9 => (F _ _ (by unfold MRs; omega) (by omega)).trans (a11 i9 hi9)
  · exact fun i9 hi9 => ⟨(F _ _ (by unfold MRs; omega) (by omega)).trans (a12 i9 hi9).1, (F _ _ (by unfold MRs; omega) (by omega)).trans (a12 i9 hi9).2.1, (F _ _ (by unfold MRs; omega) (by omega)).trans (a12 i9 hi9).2.2⟩
theorem MR_Kill {σ : AS} {M M' : MS} {d : Nat} (h : MR σ M) (e0' : gI M' 75 d = nI (1 - σ.2 3 d)) (F : ∀ p j, MRs p j → ¬ (p = 75 ∧ j = d) → gI M' p j = gI M p j) : MR (oKill σ d) M' := by
  obtain ⟨a1, a2, a3, a4, a5, a6, a7, a8, a9, a10, a11, a12⟩ := h
  refine ⟨?_, ?_, ?_, ?_, ?_, ?_, ?_, ?_, ?_, ?_, ?_, ?_⟩
  · exact fun k hk => (F _ _ (by unfold MRs; omega) (by omega)).trans (a1 k hk)
  · exact trivial
  · exact fun r9 hr9 => (F _ _ (by unfold MRs; omega) (by omega)).trans (a3 r9 hr9)
  · intro k9' hk9
    obtain ⟨b1, b2, b3, b4, b5, b6, b7⟩ := a4 k9' hk9
    exact ⟨(F _ _ (by unfold MRs; omega) (by omega)).trans b1, (F _ _ (by unfold MRs; omega) (by omega)).trans b2, (F _ _ (by unfold MRs; omega) (by omega)).trans b3, (F _ _ (by unfold MRs; omega) (by omega)).trans b4, (F _ _ (by unfold MRs; omega) (by omega)).trans b5, (F _ _ (by unfold MRs; omega) (by omega)).trans b6, fun y9 hy9 => ⟨(F _ _ (by unfold MRs; omega) (by omega)).trans (b7 y9 hy9).1, (F _ _ (by unfold MRs; omega) (by omega)).trans (b7 y9 hy9).2⟩⟩
  · exact fun y9 hy9 => ⟨(F _ _ (by unfold MRs; omega) (by omega)).trans (a5 y9 hy9).1, (F _ _ (by unfold MRs; omega) (by omega)).trans (a5 y9 hy9).2⟩
  · exact trivial
  · intro c9' hc9
    simp only [oKill, uN]
    by_cases e9' : c9' = d
    · subst e9'
      simpa using e0'
    · rw [F _ _ (by unfold MRs; omega) (by omega)]
      simpa [e9'] using a7 c9' hc9
  · exact (F _ _ (by unfold MRs; omega) (by omega)).trans a8
  · exact (F _ _ (by unfold MRs; omega) (by omega)).trans a9
  · exact (F _ _ (by unfold MRs; omega) (by omega)).trans a10
  · exact fun i9 hi9 => (F _ _ (by unfold MRs; omega) (by omega)).trans (a11 i9 hi9)
  · exact fun i9 hi9 => ⟨(F _ _ (by unfold MRs; omega) (by omega)).trans (a12 i9 hi9).1, (F _ _ (by unfold MRs; omega) (by omega)).trans (a12 i9 hi9).2.1, (F _ _ (by unfold MRs; omega) (by omega)).trans (a12 i9 hi9).2.2⟩
theorem MR_Gap {σ : AS} {M M' : MS} {n : Nat} (h : MR σ M) (e0' : gI M' 60 16 = nI n) (F : ∀ p j, MRs p j → ¬ (p = 60 ∧ j = 16) → gI M' p j = gI M p j) : MR (oGap σ n) M' := by
  obtain ⟨a1, a2, a3, a4, a5, a6, a7, a8, a9, a10, a11, a12⟩ := h
  refine ⟨?_, ?_, ?_, ?_, ?_, ?_, ?_, ?_, ?_, ?_, ?_, ?_⟩
  · exact fun k hk => (F _ _ (by unfold MRs; omega) (by omega)).trans (a1 k hk)
  · exact trivial
  · exact fun r9 hr9 => (F _ _ (by unfold MRs; omega) (by omega)).trans (a3 r9 hr9)
  · intro k9' hk9
    obtain ⟨b1, b2, b3, b4, b5, b6, b7⟩ := a4 k9' hk9
    exact ⟨(F _ _ (by unfold MRs; omega) (by omega)).trans b1, (F _ _ (by unfold MRs; omega) (by omega)).trans b2, (F _ _ (by unfold MRs; omega) (by omega)).trans b3, (F _ _ (by unfold MRs; omega) (by omega)).trans b4, (F _ _ (by unfold MRs; omega) (by omega)).trans b5, (F _ _ (by unfold MRs; omega) (by omega)).trans b6, fun y9 hy9 => ⟨(F _ _ (by unfold MRs; omega) (by omega)).trans (b7 y9 hy9).1, (F _ _ (by unfold MRs; omega) (by omega)).trans (b7 y9 hy9).2⟩⟩
  · exact fun y9 hy9 => ⟨(F _ _ (by unfold MRs; omega) (by omega)).trans (a5 y9 hy9).1, (F _ _ (by unfold MRs; omega) (by omega)).trans (a5 y9 hy9).2⟩
  · exact trivial
  · exact fun c9' hc9 => (F _ _ (by unfold MRs; omega) (by omega)).trans (a7 c9' hc9)
  · exact (F _ _ (by unfold MRs; omega) (by omega)).trans a8
  · exact e0'
  · exact (F _ _ (by unfold MRs; omega) (by omega)).trans a10
  · exact fun i9 hi9 => (F _ _ (by unfold MRs; omega) (by omega)).trans (a11 i9 hi9)
  · exact fun i9 hi9 => ⟨(F _ _ (by unfold MRs; omega) (by omega)).trans (a12 i9 hi9).1, (F _ _ (by unfold MRs; omega) (by omega)).trans (a12 i9 hi9).2.1, (F _ _ (by unfold MRs; omega) (by omega)).trans (a12 i9 hi9).2.2⟩
theorem MR_Cue {σ : AS} {M M' : MS} {b k r : Nat} (h : MR σ M) (e0' : gI M' 60 17 = nI (aN σ + 1)) (e1' : gI M' 76 (aN σ) = nI b ∧ gI M' 77 (aN σ) = nI k ∧ gI M' 78 (aN σ) = nI r) (F : ∀ p j, MRs p j → ¬ ((p = 60 ∧ j = 17) ∨ ((p = 76 ∨ p = 77 ∨ p = 78) ∧ j = aN σ)) → gI M' p j = gI M p j) : MR (oCue σ b k r) M' := by
  obtain ⟨a1, a2, a3, a4, a5, a6, a7, a8, a9, a10, a11, a12⟩ := h
  refine ⟨?_, ?_, ?_, ?_, ?_, ?_, ?_, ?_, ?_, ?_, ?_, ?_⟩
  · exact fun k hk => (F _ _ (by unfold MRs; omega) (by omega)).trans (a1 k hk)
  · exact trivial
  · exact fun r9 hr9 => (F _ _ (by unfold MRs; omega) (by omega)).trans (a3 r9 hr9)
  · intro k9' hk9
    obtain ⟨b1, b2, b3, b4, b5, b6, b7⟩ := a4 k9' hk9
    exact ⟨(F _ _ (by unfold MRs; omega) (by omega)).trans b1, (F _ _ (by unfold MRs; omega) (by omega)).trans b2, (F _ _ (by unfold MRs; omega) (by omega)).trans b3, (F _ _ (by unfold MRs; omega) (by omega)).trans b4, (F _ _ (by unfold MRs; omega) (by omega)).trans b5, (F _ _ (by unfold MRs; omega) (by omega)).trans b6, fun y9 hy9 => ⟨(F _ _ (by unfold MRs; omega) (by omega)).trans (b7 y9 hy9).1, (F _ _ (by unfold MRs; omega) (by omega)).trans (b7 y9 hy9).2⟩⟩
  · exact fun y9 hy9 => ⟨(F _ _ (by unfold MRs; omega) (by omega)).trans (a5 y9 hy9).1, (F _ _ (by unfold MRs; omega) (by omega)).trans (a5 y9 hy9).2⟩
  · exact trivial
  · exact fun c9' hc9 => (F _ _ (by unfold MRs; omega) (by omega)).trans (a7 c9' hc9)
  · exact (F _ _ (by unfold MRs; omega) (by omega)).trans a8
  · exact (F _ _ (by unfold MRs; omega) (by omega)).trans a9
  · exact e0'
  · exact fun i9 hi9 => (F _ _ (by unfold MRs; omega) (by omega)).trans (a11 i9 hi9)
  · intro i9 hi9
    rw [oCue_n] at hi9
    simp only [oCue, uN]
    by_cases e9' : i9 = aN σ
    · subst e9'
      simpa using e1'
    · have h9 := a12 i9 (by omega)
      rw [F _ _ (by unfold MRs; omega) (by omega), F _ _ (by unfold MRs; omega) (by omega), F _ _ (by unfold MRs; omega) (by omega)]
      simpa [e9'] using h9

theorem MX_val {σ : AS} {v : VT} {M : MS} (h : MX σ v M) {z : Nat} {x : Int32} : MX σ (fun k => if k = z then x else v.1 k, v.2) (sI M 73 z x) := by
  obtain ⟨ok, hR, hV, hT⟩ := h
  have o : oI (fun p _ => p = 73) M (sI M 73 z x) := oI.put oI.rf rfl
  refine ⟨ok, hR.oI o (fun p k hx hz => by unfold MRs at hx; omega), fun k hk => ?_, fun k hk => (o.1 _ _ (by omega)).trans (hT k hk)⟩
  rw [gI_sI]
  show _ = if k = z then x else v.1 k
  by_cases e : k = z
  · rw [if_pos ⟨rfl, e⟩, if_pos e]
  · rw [if_neg (fun q => e q.2), if_neg e]; exact hV k hk
theorem MX_rate {σ : AS} {v : VT} {M : MS} (h : MX σ v M) {z : Nat} {x : Int32} : MX σ (v.1, fun k => if k = z then x else v.2 k) (sI M 74 z x) := by
  obtain ⟨ok, hR, hV, hT⟩ := h
  have o : oI (fun p _ => p = 74) M (sI M 74 z x) := oI.put oI.rf rfl
  refine ⟨ok, hR.oI o (fun p k hx hz => by unfold MRs at hx; omega), fun k hk => (o.1 _ _ (by omega)).trans (hV k hk), fun k hk => ?_⟩
  rw [gI_sI]
  show _ = if k = z then x else v.2 k
  by_cases e : k = z
  · rw [if_pos ⟨rfl, e⟩, if_pos e]
  · rw [if_neg (fun q => e q.2), if_neg e]; exact hT k hk
/-- cues newly struck by a wind -/
theorem wind_ct {σ : AS} (o1 : aN σ ≤ 40) {w : Nat} {x y : Int32} : ctN (fun k => stP (oWind σ w x y) k && !stP σ k) 64 = ctN (fun k => decide (σ.2 10 k = 0 ∧ stkB σ k = false) && stkB (oWind σ w x y) k) (aN σ) := by
  have hp : ∀ k, pres (oWind σ w x y) k = pres σ k := fun k => rfl
  have key : ∀ d, ctN (fun k => stP (oWind σ w x y) k && !stP σ k) (aN σ + d) = ctN (fun k => stP (oWind σ w x y) k && !stP σ k) (aN σ) := fun d => by
    induction d with
    | zero => rfl
    | succ d ih =>
      show ctN _ (aN σ + d + 1) = _
      rw [ctN_s, ih]
      have : stP (oWind σ w x y) (aN σ + d) = false := by unfold stP; rw [hp, pres_f (fun z => by omega)]; rfl
      rw [this]; rfl
  have h64 := key (64 - aN σ)
  rw [show aN σ + (64 - aN σ) = 64 by omega] at h64
  rw [h64]
  refine ctN_same (fun k hk => ?_)
  unfold stP
  rw [hp]
  by_cases hg : σ.2 10 k = 0
  · rw [pres_t hk hg]
    cases stkB (oWind σ w x y) k <;> cases stkB σ k <;> simp [hg]
  · rw [pres_f (fun z => hg z.2)]
    simp [hg]
set_option maxHeartbeats 4000000 in
set_option maxRecDepth 100000 in
theorem c_X10_setRack (l : Launch) (D : va_G) (cA : Nat → ClassId) (sh : Nat → Option Sh) (ad : Nat → Nat) (M : MS) (sz : Nat) (σ : AS) (v : VT) (hMs : MSh sh) (hMX : MX σ v M) (a b d : Int32) : Met l yX10_setRack wsX10_setRack ({ frames := 2, cells := 0, slots := 0, locals := 43 }) (wPc D cA sh ad M sz [.ref (ad 60), .int a, .int b, .int d]) (wQi D cA sh ad (fun r M' => oI moS M M' ∧ gI M' 60 28 = nI (thr (inB a 0 5 && zoB b d) true) ∧ ((inB a 0 5 && zoB b d) = false → MX σ v M') ∧ ((inB a 0 5 && zoB b d) = true → MX (oRack σ (n1 a) (n1 b) (n1 d)) v M' ∧ r = nI (8 * σ.2 1 (n1 a) + σ.2 0 (n1 a)))) (wA sh ad sz)) 0 0 (wA sh ad sz) := by
  refine Met.ofW (cc := cX10_setRack) (maxL := 5) (ret := (some .int)) (by decide) rfl ?_
  intro p e s m args below meth cd0 s₁ B hml hv
  obtain ⟨rfl, hsz, hM, hK⟩ := hv
  have hx := B.exec
  have hb := B.bytes
  have hr := B.returns
  have hts := atoms_spec (ws := wsX10_setRack) B.pre
  have hown : s.vm.findClass RX10 = some m.cls := findClass_of_methodNamed B.named
  have hlocks := B.notSynchronized
  subst hsz
  have hA := wA_PA sh ad s.heap
  generalize wA sh ad s.heap.size = A at hA ⊢
  have hW : WS D cA sh ad A s.heap M s.heap [] := ⟨hM, va_S.rf⟩
  have fa7 : FA D s m ([.ref (ad 60), .int a, .int b, .int d] : List Value).toArray 7 10 0 := FA.mk (C := RX10) (T := TX10) (N := 29) hts (fun _ h => List.mem_cons_of_mem _ (List.mem_append_right _ (h))) hown hK rfl (by decide) (hts (.fieldLink RX10 7 "MortarShowModel" "rack" "[I") (List.mem_of_getElem? (i := 1) rfl))
  have hl := lv_entry ([.ref (ad 60), .int a, .int b, .int d]) (n := 5) (Nat.le_of_ble_eq_true rfl)
  rw [lg_entry_eq]
  generalize (lg_sl ([.ref (ad 60), .int a, .int b, .int d]) ++ List.replicate (5 - (lg_sl ([.ref (ad 60), .int a, .int b, .int d])).length) Slot.unset).toArray = ls at hl ⊢
  have hl : lv_has ls 5 [(0, .ref (ad 60)), (1, .int a), (2, .int b), (3, .int d)] := hl
  obtain ⟨ok, hR, hV, hT⟩ := hMX
  have hMX : MX σ v M := ⟨ok, hR, hV, hT⟩
  have o1 := ok.1
  refine lv_aload_n hx hb dX10_setRack_0 rfl (lv_at hl 0 rfl) ?_
  have J23 : ∀ (y : Int32) (H : Heap) (locs : List Loc), (y = bI (inB a 0 5 && zoB b d)) → WS D cA sh ad A s.heap M H locs → ∀ ls, lv_has ls 5 [(0, .ref (ad 60)), (1, .int a), (2, .int b), (3, .int d)] → W p l e (headSpec wsX10_setRack { frames := 2, cells := 0, slots := 0, locals := 43 }).room s m ([.ref (ad 60), .int a, .int b, .int d] : List Value).toArray below meth cd0 H locs 0 0 (MQ below (wQi D cA sh ad (fun r M' => oI moS M M' ∧ gI M' 60 28 = nI (thr (inB a 0 5 && zoB b d) true) ∧ ((inB a 0 5 && zoB b d) = false → MX σ v M') ∧ ((inB a 0 5 && zoB b d) = true → MX (oRack σ (n1 a) (n1 b) (n1 d)) v M' ∧ r = nI (8 * σ.2 1 (n1 a) + σ.2 0 (n1 a)))) A) ([.ref (ad 60), .int a, .int b, .int d] : List Value).toArray s 0 0 A) (F0 m 23 ls [.int y, .ref (ad 60)]) := by
    intro y H locs hy hW ls hl
    refine lv_iconst (v := 1) hx hb dX10_setRack_23 (by decide) ?_
    refine wc_wi (va_runV (As := [.int y, .int 1]) (rest := []) ⟨hx, hb, hml, hown, hts⟩ (c_X10_goes l D cA sh ad M _ hMs y 1 (inB a 0 5 && zoB b d) true hy rfl) (cwV 2 hts gX10_setRack_X10_goes rfl rfl rfl (by decide +kernel) ⟨Nat.le_of_ble_eq_true rfl, Nat.le_of_ble_eq_true rfl⟩) (wpreV hK hW (C := RX10) (ci := 10) (hMs 60 (by decide) (by decide)) rfl) rfl rfl hl.1 rfl (lv_room (Nat.le_of_ble_eq_true rfl)) dX10_setRack_24 ⟨Nat.le_of_ble_eq_true rfl, Nat.le_of_ble_eq_true rfl⟩) hA hW (fun x24' M24' H locs p24' hW => ?_)
    try dsimp only at p24'
    refine lv_if_ne (tgt := 32) hx hb dX10_setRack_27 (by decide) (fun c27' => ?_) (fun c27' => ?_)
    · have hG : (inB a 0 5 && zoB b d) = true := bT p24'.1 c27'
      have hG2 := hG
      simp only [Bool.and_eq_true] at hG2
      obtain ⟨r, hr9, er⟩ := in_n (n := 5) (by decide) hG2.1
      obtain ⟨x, y1, hx8, hy8, exx, eyy⟩ := zo_n hG2.2
      have f1 : n1 a = r := by rw [er]; exact n1_nI (by omega)
      have f2 : n1 b = x := by rw [exx]; exact n1_nI (by omega)
      have f3 : n1 d = y1 := by rw [eyy]; exact n1_nI (by omega)
      refine lv_aload_n hx hb dX10_setRack_32 rfl (lv_at hl 0 rfl) ?_
      refine wgF (t := 61) hx hb fa7 hW (hMs 60 (by decide) (by decide)) rfl dX10_setRack_33 ?_
      refine lv_iload_n hx hb dX10_setRack_36 rfl (lv_at hl 1 rfl) ?_
      refine walI (j := r) hx hb hK hW (hMs 61 (by decide) (by decide)) er (by omega) (by decide) dX10_setRack_37 (fun x37' e37' => ?_)
      refine lv_istore (lv' := [(4, .int x37'), (0, .ref (ad 60)), (1, .int a), (2, .int b), (3, .int d)]) hx hb dX10_setRack_38 hl (by decide) rfl (fun ls hl => ?_)
      refine lv_aload_n hx hb dX10_setRack_40 rfl (lv_at hl 1 rfl) ?_
      refine wgF (t := 61) hx hb fa7 hW (hMs 60 (by decide) (by decide)) rfl dX10_setRack_41 ?_
      refine lv_iload_n hx hb dX10_setRack_44 rfl (lv_at hl 2 rfl) ?_
      refine lv_bipush (v := 8) hx hb dX10_setRack_45 (by decide) ?_
      refine lv_iload_n hx hb dX10_setRack_47 rfl (lv_at hl 4 rfl) ?_
      refine lv_imul hx hb dX10_setRack_48 ?_
      refine lv_topi (fun x48' e48' => ?_)
      have n48' : x48' = nI (8 * y1) := (by rw [e48', (nlit 8), eyy, pk_mul])
      refine lv_iload_n hx hb dX10_setRack_49 rfl (lv_at hl 3 rfl) ?_
      refine lv_iadd hx hb dX10_setRack_50 ?_
      refine lv_topi (fun x50' e50' => ?_)
      have n50' : x50' = nI ((8 * y1) + x) := (by rw [e50', n48', exx, nI_add])
      refine wasI (j := r) hx hb hK hA hW (hMs 61 (by decide) (by decide)) er (by omega) (by decide) dX10_setRack_51 (fun M51' H locs eM51 hW => ?_)
      refine lv_iload hx hb dX10_setRack_52 (lv_at hl 0 rfl) ?_
      exact wr_wi hx hb hr hlocks hW dX10_setRack_54 (by rw [f1, f2, f3]; exact ⟨(by rw [eM51]; exact (oI.put (go_mo p24'.2.2) (by unfold moS; omega))), (by rw [eM51, gI_sI, if_neg (by omega)]; exact p24'.2.1), fun z => absurd (hG.symm.trans z) (by decide), fun _ => ⟨⟨AOK_Rack ok hr9 hx8 hy8, MR_Rack hR hr9 (by rw [eM51, gI_sI, if_pos ⟨rfl, rfl⟩, n50']) (fun p k hx hn => by unfold MRs at hx; rw [eM51, gI_sI, if_neg (by omega)]; exact p24'.2.2.1 p k (fun z => by omega)), (fun k hk => by rw [eM51, gI_sI, if_neg (by omega), p24'.2.2.1 _ _ (by omega)]; exact hV k hk), (fun k hk => by rw [eM51, gI_sI, if_neg (by omega), p24'.2.2.1 _ _ (by omega)]; exact hT k hk)⟩, by rw [e37', p24'.2.2.1 _ _ (by omega)]; exact hR.2.2.1 r hr9⟩⟩)
    · have hG : (inB a 0 5 && zoB b d) = false := bF p24'.1 c27'
      refine lv_iconst (v := 0) hx hb dX10_setRack_30 (by decide) ?_
      exact wr_wi hx hb hr hlocks hW dX10_setRack_31 ⟨go_mo p24'.2.2, p24'.2.1, fun _ => hMX.oI p24'.2.2 (fun p k z => by omega), fun z => absurd (hG.symm.trans z) (by decide)⟩
  refine lv_iload_n hx hb dX10_setRack_1 rfl (lv_at hl 1 rfl) ?_
  refine lv_iconst (v := 0) hx hb dX10_setRack_2 (by decide) ?_
  refine lv_iconst (v := 5) hx hb dX10_setRack_3 (by decide) ?_
  refine wc_ri (va_runS (As := [.int a, .int 0, .int 5]) (rest := [.ref (ad 60)]) ⟨hx, hb, hml, hown, hts⟩ (c_X10_in l a 0 5) (va_cwS 3 hts gX10_setRack_X10_in rfl rfl rfl (by decide +kernel) ⟨Nat.le_of_ble_eq_true rfl, Nat.le_of_ble_eq_true rfl⟩) npreS rfl rfl hl.1 rfl (lv_room (Nat.le_of_ble_eq_true rfl)) dX10_setRack_4 ⟨Nat.le_of_ble_eq_true rfl, Nat.le_of_ble_eq_true rfl⟩) hW (fun x4' H locs p4' hW => ?_)
  try dsimp only at p4'
  refine lv_if_eq (tgt := 22) hx hb dX10_setRack_7 (by decide) (fun c7' => ?_) (fun c7' => ?_)
  · refine lv_iconst (v := 0) hx hb dX10_setRack_22 (by decide) ?_
    exact J23 0 _ _ (by first | (rw [bI_z.mp (p4'.symm.trans c7')]; rfl) | (rw [bI_z.mp (p4'.symm.trans c7')]; simp; done) | (rw [bI_t.mp (fun z => c7' (p4'.trans z)), bI_z.mp (p12'.symm.trans c15')]; rfl) | (rw [bI_t.mp (fun z => c7' (p4'.trans z)), bI_z.mp (p12'.symm.trans c15')]; simp; done) | (rw [bI_t.mp (fun z => c7' (p4'.trans z)), bI_t.mp (fun z => c15' (p12'.trans z))]; rfl)) hW ls (lv_sub hl [0, 1, 2, 3] rfl)
  · refine lv_iload_n hx hb dX10_setRack_10 rfl (lv_at hl 2 rfl) ?_
    refine lv_iload_n hx hb dX10_setRack_11 rfl (lv_at hl 3 rfl) ?_
    refine wc_ri (va_runS (As := [.int b, .int d]) (rest := [.ref (ad 60)]) ⟨hx, hb, hml, hown, hts⟩ (c_X10_isZone l b d) (va_cwS 2 hts gX10_setRack_X10_isZone rfl rfl rfl (by decide +kernel) ⟨Nat.le_of_ble_eq_true rfl, Nat.le_of_ble_eq_true rfl⟩) npreS rfl rfl hl.1 rfl (lv_room (Nat.le_of_ble_eq_true rfl)) dX10_setRack_12 ⟨Nat.le_of_ble_eq_true rfl, Nat.le_of_ble_eq_true rfl⟩) hW (fun x12' H locs p12' hW => ?_)
    try dsimp only at p12'
    refine lv_if_eq (tgt := 22) hx hb dX10_setRack_15 (by decide) (fun c15' => ?_) (fun c15' => ?_)
    · refine lv_iconst (v := 0) hx hb dX10_setRack_22 (by decide) ?_
      exact J23 0 _ _ (by first | (rw [bI_z.mp (p4'.symm.trans c7')]; rfl) | (rw [bI_z.mp (p4'.symm.trans c7')]; simp; done) | (rw [bI_t.mp (fun z => c7' (p4'.trans z)), bI_z.mp (p12'.symm.trans c15')]; rfl) | (rw [bI_t.mp (fun z => c7' (p4'.trans z)), bI_z.mp (p12'.symm.trans c15')]; simp; done) | (rw [bI_t.mp (fun z => c7' (p4'.trans z)), bI_t.mp (fun z => c15' (p12'.trans z))]; rfl)) hW ls (lv_sub hl [0, 1, 2, 3] rfl)
    · refine lv_iconst (v := 1) hx hb dX10_setRack_18 (by decide) ?_
      refine lv_goto (tgt := 23) hx hb dX10_setRack_19 (by decide) ?_
      exact J23 1 _ _ (by first | (rw [bI_z.mp (p4'.symm.trans c7')]; rfl) | (rw [bI_z.mp (p4'.symm.trans c7')]; simp; done) | (rw [bI_t.mp (fun z => c7' (p4'.trans z)), bI_z.mp (p12'.symm.trans c15')]; rfl) | (rw [bI_t.mp (fun z => c7' (p4'.trans z)), bI_z.mp (p12'.symm.trans c15')]; simp; done) | (rw [bI_t.mp (fun z => c7' (p4'.trans z)), bI_t.mp (fun z => c15' (p12'.trans z))]; rfl)) hW ls (lv_sub hl [0, 1, 2, 3] rfl)
set_option maxHeartbeats 4000000 in
set_option maxRecDepth 100000 in
theorem c_X10_setShell (l : Launch) (D : va_G) (cA : Nat → ClassId) (sh : Nat → Option Sh) (ad : Nat → Nat) (M : MS) (sz : Nat) (σ : AS) (v : VT) (hMs : MSh sh) (hMX : MX σ v M) (a b d f : Int32) : Met l yX10_setShell wsX10_setShell ({ frames := 2, cells := 0, slots := 0, locals := 42 }) (wPc D cA sh ad M sz [.ref (ad 60), .int a, .int b, .int d, .int f]) (wQi D cA sh ad (fun r M' => oI moS M M' ∧ gI M' 60 28 = nI (thr (inB a 0 3 && inB b 1 200 && inB d 1 100 && inB f 0 3) true) ∧ ((inB a 0 3 && inB b 1 200 && inB d 1 100 && inB f 0 3) = false → MX σ v M') ∧ ((inB a 0 3 && inB b 1 200 && inB d 1 100 && inB f 0 3) = true → MX (oShell σ (n1 a) b d (n1 f)) v M' ∧ r = nI (liftN b d (flN b d)))) (wA sh ad sz)) 0 0 (wA sh ad sz) := by
  refine Met.ofW (cc := cX10_setShell) (maxL := 5) (ret := (some .int)) (by decide) rfl ?_
  intro p e s m args below meth cd0 s₁ B hml hv
  obtain ⟨rfl, hsz, hM, hK⟩ := hv
  have hx := B.exec
  have hb := B.bytes
  have hr := B.returns
  have hts := atoms_spec (ws := wsX10_setShell) B.pre
  have hown : s.vm.findClass RX10 = some m.cls := findClass_of_methodNamed B.named
  have hlocks := B.notSynchronized
  subst hsz
  have hA := wA_PA sh ad s.heap
  generalize wA sh ad s.heap.size = A at hA ⊢
  have hW : WS D cA sh ad A s.heap M s.heap [] := ⟨hM, va_S.rf⟩
  have fa13 : FA D s m ([.ref (ad 60), .int a, .int b, .int d, .int f] : List Value).toArray 13 10 1 := FA.mk (C := RX10) (T := TX10) (N := 29) hts (fun _ h => List.mem_cons_of_mem _ (List.mem_append_right _ (h))) hown hK rfl (by decide) (hts (.fieldLink RX10 13 "MortarShowModel" "speed" "[I") (List.mem_of_getElem? (i := 1) rfl))
  have fa16 : FA D s m ([.ref (ad 60), .int a, .int b, .int d, .int f] : List Value).toArray 16 10 2 := FA.mk (C := RX10) (T := TX10) (N := 29) hts (fun _ h => List.mem_cons_of_mem _ (List.mem_append_right _ (h))) hown hK rfl (by decide) (hts (.fieldLink RX10 16 "MortarShowModel" "fall" "[I") (List.mem_of_getElem? (i := 2) rfl))
  have fa19 : FA D s m ([.ref (ad 60), .int a, .int b, .int d, .int f] : List Value).toArray 19 10 3 := FA.mk (C := RX10) (T := TX10) (N := 29) hts (fun _ h => List.mem_cons_of_mem _ (List.mem_append_right _ (h))) hown hK rfl (by decide) (hts (.fieldLink RX10 19 "MortarShowModel" "radius" "[I") (List.mem_of_getElem? (i := 3) rfl))
  have fa22 : FA D s m ([.ref (ad 60), .int a, .int b, .int d, .int f] : List Value).toArray 22 10 4 := FA.mk (C := RX10) (T := TX10) (N := 29) hts (fun _ h => List.mem_cons_of_mem _ (List.mem_append_right _ (h))) hown hK rfl (by decide) (hts (.fieldLink RX10 22 "MortarShowModel" "lift" "[I") (List.mem_of_getElem? (i := 4) rfl))
  have hl := lv_entry ([.ref (ad 60), .int a, .int b, .int d, .int f]) (n := 5) (Nat.le_of_ble_eq_true rfl)
  rw [lg_entry_eq]
  generalize (lg_sl ([.ref (ad 60), .int a, .int b, .int d, .int f]) ++ List.replicate (5 - (lg_sl ([.ref (ad 60), .int a, .int b, .int d, .int f])).length) Slot.unset).toArray = ls at hl ⊢
  have hl : lv_has ls 5 [(0, .ref (ad 60)), (1, .int a), (2, .int b), (3, .int d), (4, .int f)] := hl
  obtain ⟨ok, hR, hV, hT⟩ := hMX
  have hMX : MX σ v M := ⟨ok, hR, hV, hT⟩
  have o1 := ok.1
  refine lv_aload_n hx hb dX10_setShell_0 rfl (lv_at hl 0 rfl) ?_
  have J44 : ∀ (y : Int32) (H : Heap) (locs : List Loc), (y = bI (inB a 0 3 && inB b 1 200 && inB d 1 100 && inB f 0 3)) → WS D cA sh ad A s.heap M H locs → ∀ ls, lv_has ls 5 [(0, .ref (ad 60)), (1, .int a), (2, .int b), (3, .int d), (4, .int f)] → W p l e (headSpec wsX10_setShell { frames := 2, cells := 0, slots := 0, locals := 42 }).room s m ([.ref (ad 60), .int a, .int b, .int d, .int f] : List Value).toArray below meth cd0 H locs 0 0 (MQ below (wQi D cA sh ad (fun r M' => oI moS M M' ∧ gI M' 60 28 = nI (thr (inB a 0 3 && inB b 1 200 && inB d 1 100 && inB f 0 3) true) ∧ ((inB a 0 3 && inB b 1 200 && inB d 1 100 && inB f 0 3) = false → MX σ v M') ∧ ((inB a 0 3 && inB b 1 200 && inB d 1 100 && inB f 0 3) = true → MX (oShell σ (n1 a) b d (n1 f)) v M' ∧ r = nI (liftN b d (flN b d)))) A) ([.ref (ad 60), .int a, .int b, .int d, .int f] : List Value).toArray s 0 0 A) (F0 m 44 ls [.int y, .ref (ad 60)]) := by
    intro y H locs hy hW ls hl
    refine lv_iconst (v := 1) hx hb dX10_setShell_44 (by decide) ?_
    refine wc_wi (va_runV (As := [.int y, .int 1]) (rest := []) ⟨hx, hb, hml, hown, hts⟩ (c_X10_goes l D cA sh ad M _ hMs y 1 (inB a 0 3 && inB b 1 200 && inB d 1 100 && inB f 0 3) true hy rfl) (cwV 2 hts gX10_setShell_X10_goes rfl rfl rfl (by decide +kernel) ⟨Nat.le_of_ble_eq_true rfl, Nat.le_of_ble_eq_true rfl⟩) (wpreV hK hW (C := RX10) (ci := 10) (hMs 60 (by decide) (by decide)) rfl) rfl rfl hl.1 rfl (lv_room (Nat.le_of_ble_eq_true rfl)) dX10_setShell_45 ⟨Nat.le_of_ble_eq_true rfl, Nat.le_of_ble_eq_true rfl⟩) hA hW (fun x45' M45' H locs p45' hW => ?_)
    try dsimp only at p45'
    refine lv_if_ne (tgt := 53) hx hb dX10_setShell_48 (by decide) (fun c48' => ?_) (fun c48' => ?_)
    · have hG : (inB a 0 3 && inB b 1 200 && inB d 1 100 && inB f 0 3) = true := bT p45'.1 c48'
      have hG2 := hG
      simp only [Bool.and_eq_true] at hG2
      obtain ⟨⟨⟨hGa, hGb⟩, hGd⟩, hGf⟩ := hG2
      obtain ⟨k, hk, ek⟩ := in_n (n := 3) (by decide) hGa
      obtain ⟨rd, hrd, erd⟩ := in_n (n := 3) (by decide) hGf
      have f1 : n1 a = k := by rw [ek]; exact n1_nI (by omega)
      have f2 : n1 f = rd := by rw [erd]; exact n1_nI (by omega)
      have hb9 : 1 ≤ b.toInt ∧ b.toInt ≤ 200 := in_i hGb
      have hd9 : 1 ≤ d.toInt ∧ d.toInt ≤ 100 := in_i hGd
      refine lv_aload_n hx hb dX10_setShell_53 rfl (lv_at hl 0 rfl) ?_
      refine wgF (t := 62) hx hb fa13 hW (hMs 60 (by decide) (by decide)) rfl dX10_setShell_54 ?_
      refine lv_iload_n hx hb dX10_setShell_57 rfl (lv_at hl 1 rfl) ?_
      refine lv_iload_n hx hb dX10_setShell_58 rfl (lv_at hl 2 rfl) ?_
      refine wasI (j := k) hx hb hK hA hW (hMs 62 (by decide) (by decide)) ek (by omega) (by decide) dX10_setShell_59 (fun M59' H locs eM59 hW => ?_)
      refine lv_aload_n hx hb dX10_setShell_60 rfl (lv_at hl 0 rfl) ?_
      refine wgF (t := 63) hx hb fa16 hW (hMs 60 (by decide) (by decide)) rfl dX10_setShell_61 ?_
      refine lv_iload_n hx hb dX10_setShell_64 rfl (lv_at hl 1 rfl) ?_
      refine lv_iload_n hx hb dX10_setShell_65 rfl (lv_at hl 3 rfl) ?_
      refine wasI (j := k) hx hb hK hA hW (hMs 63 (by decide) (by decide)) ek (by omega) (by decide) dX10_setShell_66 (fun M66' H locs eM66 hW => ?_)
      refine lv_aload_n hx hb dX10_setShell_67 rfl (lv_at hl 0 rfl) ?_
      refine wgF (t := 64) hx hb fa19 hW (hMs 60 (by decide) (by decide)) rfl dX10_setShell_68 ?_
      refine lv_iload_n hx hb dX10_setShell_71 rfl (lv_at hl 1 rfl) ?_
      refine lv_iload hx hb dX10_setShell_72 (lv_at hl 4 rfl) ?_
      refine wasI (j := k) hx hb hK hA hW (hMs 64 (by decide) (by decide)) ek (by omega) (by decide) dX10_setShell_74 (fun M74' H locs eM74 hW => ?_)
      refine lv_aload_n hx hb dX10_setShell_75 rfl (lv_at hl 0 rfl) ?_
      refine lv_iload_n hx hb dX10_setShell_76 rfl (lv_at hl 1 rfl) ?_
      refine wc_wv (va_runV (As := [.int a]) (rest := []) ⟨hx, hb, hml, hown, hts⟩ (c_X10_flies l D cA sh ad M74' _ hMs k (by omega) a ek b d hb9 hd9 (flN b d) (flN_ok hb9 hd9) (by rw [eM74, gI_sI, if_neg (by omega), eM66, gI_sI, if_neg (by omega), eM59, gI_sI, if_pos ⟨rfl, rfl⟩]) (by rw [eM74, gI_sI, if_neg (by omega), eM66, gI_sI, if_pos ⟨rfl, rfl⟩])) (cwV 1 hts gX10_setShell_X10_flies rfl rfl rfl (by decide +kernel) ⟨Nat.le_of_ble_eq_true rfl, Nat.le_of_ble_eq_true rfl⟩) (wpreV hK hW (C := RX10) (ci := 10) (hMs 60 (by decide) (by decide)) rfl) rfl rfl hl.1 rfl (lv_room (Nat.le_of_ble_eq_true rfl)) dX10_setShell_77 ⟨Nat.le_of_ble_eq_true rfl, Nat.le_of_ble_eq_true rfl⟩) hA hW (fun M77' H locs p77' hW => ?_)
      try dsimp only at p77'
      obtain ⟨z1, z2, z3, z4, z5⟩ := p77'
      have F77 : ∀ p j, ¬ flS k p j → ¬ ((p = 62 ∨ p = 63 ∨ p = 64) ∧ j = k) → ¬ (p = 60 ∧ j = 28) → gI M77' p j = gI M p j := fun p j h1 h2 h3 => by
        rw [z5.1 p j h1, eM74, gI_sI, if_neg (by omega), eM66, gI_sI, if_neg (by omega), eM59, gI_sI, if_neg (by omega)]; exact p45'.2.2.1 p j (fun z => h3 z)
      refine lv_aload_n hx hb dX10_setShell_80 rfl (lv_at hl 0 rfl) ?_
      refine wgF (t := 65) hx hb fa22 hW (hMs 60 (by decide) (by decide)) rfl dX10_setShell_81 ?_
      refine lv_iload_n hx hb dX10_setShell_84 rfl (lv_at hl 1 rfl) ?_
      refine walI (j := k) hx hb hK hW (hMs 65 (by decide) (by decide)) ek (by omega) (by decide) dX10_setShell_85 (fun x85' e85' => ?_)
      exact wr_wi hx hb hr hlocks hW dX10_setShell_86 (by
          rw [f1, f2]
          refine ⟨?_, ?_, fun z => absurd (hG.symm.trans z) (by decide), fun _ => ⟨⟨AOK_Shell ok hk hb9 hd9 (by omega), MR_Shell hR hk ⟨?_, ?_, ?_, z1, z2, z3, z4⟩ ?_, ?_, ?_⟩, e85'.trans z1⟩⟩
          · refine oI.trans ?_ (z5.mono (fun p j z => by unfold flS at z; unfold moS; omega))
            rw [eM74, eM66, eM59]
            exact ((oI.put (go_mo p45'.2.2) (by unfold moS; omega)).put (by unfold moS; omega)).put (by unfold moS; omega)
          · rw [z5.1 _ _ (by unfold flS; omega), eM74, gI_sI, if_neg (by omega), eM66, gI_sI, if_neg (by omega), eM59, gI_sI, if_neg (by omega)]; exact p45'.2.1
          · rw [z5.1 _ _ (by unfold flS; omega), eM74, gI_sI, if_neg (by omega), eM66, gI_sI, if_neg (by omega), eM59, gI_sI, if_pos ⟨rfl, rfl⟩]
          · rw [z5.1 _ _ (by unfold flS; omega), eM74, gI_sI, if_neg (by omega), eM66, gI_sI, if_pos ⟨rfl, rfl⟩]
          · rw [z5.1 _ _ (by unfold flS; omega), eM74, gI_sI, if_pos ⟨rfl, rfl⟩]; exact erd
          · intro p j hx hn
            unfold MRs at hx
            exact F77 p j (by unfold flS; omega) (by omega) (by omega)
          · intro j hj
            rw [F77 _ _ (by unfold flS; omega) (by omega) (by omega)]; exact hV j hj
          · intro j hj
            rw [F77 _ _ (by unfold flS; omega) (by omega) (by omega)]; exact hT j hj)
    · have hG : (inB a 0 3 && inB b 1 200 && inB d 1 100 && inB f 0 3) = false := bF p45'.1 c48'
      refine lv_iconst (v := 0) hx hb dX10_setShell_51 (by decide) ?_
      exact wr_wi hx hb hr hlocks hW dX10_setShell_52 ⟨go_mo p45'.2.2, p45'.2.1, fun _ => hMX.oI p45'.2.2 (fun p k z => by omega), fun z => absurd (hG.symm.trans z) (by decide)⟩
  refine lv_iload_n hx hb dX10_setShell_1 rfl (lv_at hl 1 rfl) ?_
  refine wc_ri (va_runS (As := [.int a]) (rest := [.ref (ad 60)]) ⟨hx, hb, hml, hown, hts⟩ (c_X10_isKind l a) (va_cwS 1 hts gX10_setShell_X10_isKind rfl rfl rfl (by decide +kernel) ⟨Nat.le_of_ble_eq_true rfl, Nat.le_of_ble_eq_true rfl⟩) npreS rfl rfl hl.1 rfl (lv_room (Nat.le_of_ble_eq_true rfl)) dX10_setShell_2 ⟨Nat.le_of_ble_eq_true rfl, Nat.le_of_ble_eq_true rfl⟩) hW (fun x2' H locs p2' hW => ?_)
  try dsimp only at p2'
  refine lv_if_eq (tgt := 43) hx hb dX10_setShell_5 (by decide) (fun c5' => ?_) (fun c5' => ?_)
  · refine lv_iconst (v := 0) hx hb dX10_setShell_43 (by decide) ?_
    exact J44 0 _ _ (by first | (rw [bI_z.mp (p2'.symm.trans c5')]; rfl) | (rw [bI_z.mp (p2'.symm.trans c5')]; simp; done) | (rw [bI_t.mp (fun z => c5' (p2'.trans z)), bI_z.mp (p13'.symm.trans c16')]; rfl) | (rw [bI_t.mp (fun z => c5' (p2'.trans z)), bI_z.mp (p13'.symm.trans c16')]; simp; done) | (rw [bI_t.mp (fun z => c5' (p2'.trans z)), bI_t.mp (fun z => c16' (p13'.trans z)), bI_z.mp (p23'.symm.trans c26')]; rfl) | (rw [bI_t.mp (fun z => c5' (p2'.trans z)), bI_t.mp (fun z => c16' (p13'.trans z)), bI_z.mp (p23'.symm.trans c26')]; simp; done) | (rw [bI_t.mp (fun z => c5' (p2'.trans z)), bI_t.mp (fun z => c16' (p13'.trans z)), bI_t.mp (fun z => c26' (p23'.trans z)), bI_z.mp (p33'.symm.trans c36')]; rfl) | (rw [bI_t.mp (fun z => c5' (p2'.trans z)), bI_t.mp (fun z => c16' (p13'.trans z)), bI_t.mp (fun z => c26' (p23'.trans z)), bI_z.mp (p33'.symm.trans c36')]; simp; done) | (rw [bI_t.mp (fun z => c5' (p2'.trans z)), bI_t.mp (fun z => c16' (p13'.trans z)), bI_t.mp (fun z => c26' (p23'.trans z)), bI_t.mp (fun z => c36' (p33'.trans z))]; rfl)) hW ls (lv_sub hl [0, 1, 2, 3, 4] rfl)
  · refine lv_iload_n hx hb dX10_setShell_8 rfl (lv_at hl 2 rfl) ?_
    refine lv_iconst (v := 1) hx hb dX10_setShell_9 (by decide) ?_
    refine lv_sipush (v := 200) hx hb dX10_setShell_10 (by decide) ?_
    refine wc_ri (va_runS (As := [.int b, .int 1, .int 200]) (rest := [.ref (ad 60)]) ⟨hx, hb, hml, hown, hts⟩ (c_X10_in l b 1 200) (va_cwS 3 hts gX10_setShell_X10_in rfl rfl rfl (by decide +kernel) ⟨Nat.le_of_ble_eq_true rfl, Nat.le_of_ble_eq_true rfl⟩) npreS rfl rfl hl.1 rfl (lv_room (Nat.le_of_ble_eq_true rfl)) dX10_setShell_13 ⟨Nat.le_of_ble_eq_true rfl, Nat.le_of_ble_eq_true rfl⟩) hW (fun x13' H locs p13' hW => ?_)
    try dsimp only at p13'
    refine lv_if_eq (tgt := 43) hx hb dX10_setShell_16 (by decide) (fun c16' => ?_) (fun c16' => ?_)
    · refine lv_iconst (v := 0) hx hb dX10_setShell_43 (by decide) ?_
      exact J44 0 _ _ (by first | (rw [bI_z.mp (p2'.symm.trans c5')]; rfl) | (rw [bI_z.mp (p2'.symm.trans c5')]; simp; done) | (rw [bI_t.mp (fun z => c5' (p2'.trans z)), bI_z.mp (p13'.symm.trans c16')]; rfl) | (rw [bI_t.mp (fun z => c5' (p2'.trans z)), bI_z.mp (p13'.symm.trans c16')]; simp; done) | (rw [bI_t.mp (fun z => c5' (p2'.trans z)), bI_t.mp (fun z => c16' (p13'.trans z)), bI_z.mp (p23'.symm.trans c26')]; rfl) | (rw [bI_t.mp (fun z => c5' (p2'.trans z)), bI_t.mp (fun z => c16' (p13'.trans z)), bI_z.mp (p23'.symm.trans c26')]; simp; done) | (rw [bI_t.mp (fun z => c5' (p2'.trans z)), bI_t.mp (fun z => c16' (p13'.trans z)), bI_t.mp (fun z => c26' (p23'.trans z)), bI_z.mp (p33'.symm.trans c36')]; rfl) | (rw [bI_t.mp (fun z => c5' (p2'.trans z)), bI_t.mp (fun z => c16' (p13'.trans z)), bI_t.mp (fun z => c26' (p23'.trans z)), bI_z.mp (p33'.symm.trans c36')]; simp; done) | (rw [bI_t.mp (fun z => c5' (p2'.trans z)), bI_t.mp (fun z => c16' (p13'.trans z)), bI_t.mp (fun z => c26' (p23'.trans z)), bI_t.mp (fun z => c36' (p33'.trans z))]; rfl)) hW ls (lv_sub hl [0, 1, 2, 3, 4] rfl)
    · refine lv_iload_n hx hb dX10_setShell_19 rfl (lv_at hl 3 rfl) ?_
      refine lv_iconst (v := 1) hx hb dX10_setShell_20 (by decide) ?_
      refine lv_bipush (v := 100) hx hb dX10_setShell_21 (by decide) ?_
      refine wc_ri (va_runS (As := [.int d, .int 1, .int 100]) (rest := [.ref (ad 60)]) ⟨hx, hb, hml, hown, hts⟩ (c_X10_in l d 1 100) (va_cwS 3 hts gX10_setShell_X10_in rfl rfl rfl (by decide +kernel) ⟨Nat.le_of_ble_eq_true rfl, Nat.le_of_ble_eq_true rfl⟩) npreS rfl rfl hl.1 rfl (lv_room (Nat.le_of_ble_eq_true rfl)) dX10_setShell_23 ⟨Nat.le_of_ble_eq_true rfl, Nat.le_of_ble_eq_true rfl⟩) hW (fun x23' H locs p23' hW => ?_)
      try dsimp only at p23'
      refine lv_if_eq (tgt := 43) hx hb dX10_setShell_26 (by decide) (fun c26' => ?_) (fun c26' => ?_)
      · refine lv_iconst (v := 0) hx hb dX10_setShell_43 (by decide) ?_
        exact J44 0 _ _ (by first | (rw [bI_z.mp (p2'.symm.trans c5')]; rfl) | (rw [bI_z.mp (p2'.symm.trans c5')]; simp; done) | (rw [bI_t.mp (fun z => c5' (p2'.trans z)), bI_z.mp (p13'.symm.trans c16')]; rfl) | (rw [bI_t.mp (fun z => c5' (p2'.trans z)), bI_z.mp (p13'.symm.trans c16')]; simp; done) | (rw [bI_t.mp (fun z => c5' (p2'.trans z)), bI_t.mp (fun z => c16' (p13'.trans z)), bI_z.mp (p23'.symm.trans c26')]; rfl) | (rw [bI_t.mp (fun z => c5' (p2'.trans z)), bI_t.mp (fun z => c16' (p13'.trans z)), bI_z.mp (p23'.symm.trans c26')]; simp; done) | (rw [bI_t.mp (fun z => c5' (p2'.trans z)), bI_t.mp (fun z => c16' (p13'.trans z)), bI_t.mp (fun z => c26' (p23'.trans z)), bI_z.mp (p33'.symm.trans c36')]; rfl) | (rw [bI_t.mp (fun z => c5' (p2'.trans z)), bI_t.mp (fun z => c16' (p13'.trans z)), bI_t.mp (fun z => c26' (p23'.trans z)), bI_z.mp (p33'.symm.trans c36')]; simp; done) | (rw [bI_t.mp (fun z => c5' (p2'.trans z)), bI_t.mp (fun z => c16' (p13'.trans z)), bI_t.mp (fun z => c26' (p23'.trans z)), bI_t.mp (fun z => c36' (p33'.trans z))]; rfl)) hW ls (lv_sub hl [0, 1, 2, 3, 4] rfl)
      · refine lv_iload hx hb dX10_setShell_29 (lv_at hl 4 rfl) ?_
        refine lv_iconst (v := 0) hx hb dX10_setShell_31 (by decide) ?_
        refine lv_iconst (v := 3) hx hb dX10_setShell_32 (by decide) ?_
        refine wc_ri (va_runS (As := [.int f, .int 0, .int 3]) (rest := [.ref (ad 60)]) ⟨hx, hb, hml, hown, hts⟩ (c_X10_in l f 0 3) (va_cwS 3 hts gX10_setShell_X10_in rfl rfl rfl (by decide +kernel) ⟨Nat.le_of_ble_eq_true rfl, Nat.le_of_ble_eq_true rfl⟩) npreS rfl rfl hl.1 rfl (lv_room (Nat.le_of_ble_eq_true rfl)) dX10_setShell_33 ⟨Nat.le_of_ble_eq_true rfl, Nat.le_of_ble_eq_true rfl⟩) hW (fun x33' H locs p33' hW => ?_)
        try dsimp only at p33'
        refine lv_if_eq (tgt := 43) hx hb dX10_setShell_36 (by decide) (fun c36' => ?_) (fun c36' => ?_)
        · refine lv_iconst (v := 0) hx hb dX10_setShell_43 (by decide) ?_
          exact J44 0 _ _ (by first | (rw [bI_z.mp (p2'.symm.trans c5')]; rfl) | (rw [bI_z.mp (p2'.symm.trans c5')]; simp; done) | (rw [bI_t.mp (fun z => c5' (p2'.trans z)), bI_z.mp (p13'.symm.trans c16')]; rfl) | (rw [bI_t.mp (fun z => c5' (p2'.trans z)), bI_z.mp (p13'.symm.trans c16')]; simp; done) | (rw [bI_t.mp (fun z => c5' (p2'.trans z)), bI_t.mp (fun z => c16' (p13'.trans z)), bI_z.mp (p23'.symm.trans c26')]; rfl) | (rw [bI_t.mp (fun z => c5' (p2'.trans z)), bI_t.mp (fun z => c16' (p13'.trans z)), bI_z.mp (p23'.symm.trans c26')]; simp; done) | (rw [bI_t.mp (fun z => c5' (p2'.trans z)), bI_t.mp (fun z => c16' (p13'.trans z)), bI_t.mp (fun z => c26' (p23'.trans z)), bI_z.mp (p33'.symm.trans c36')]; rfl) | (rw [bI_t.mp (fun z => c5' (p2'.trans z)), bI_t.mp (fun z => c16' (p13'.trans z)), bI_t.mp (fun z => c26' (p23'.trans z)), bI_z.mp (p33'.symm.trans c36')]; simp; done) | (rw [bI_t.mp (fun z => c5' (p2'.trans z)), bI_t.mp (fun z => c16' (p13'.trans z)), bI_t.mp (fun z => c26' (p23'.trans z)), bI_t.mp (fun z => c36' (p33'.trans z))]; rfl)) hW ls (lv_sub hl [0, 1, 2, 3, 4] rfl)
        · refine lv_iconst (v := 1) hx hb dX10_setShell_39 (by decide) ?_
          refine lv_goto (tgt := 44) hx hb dX10_setShell_40 (by decide) ?_
          exact J44 1 _ _ (by first | (rw [bI_z.mp (p2'.symm.trans c5')]; rfl) | (rw [bI_z.mp (p2'.symm.trans c5')]; simp; done) | (rw [bI_t.mp (fun z => c5' (p2'.trans z)), bI_z.mp (p13'.symm.trans c16')]; rfl) | (rw [bI_t.mp (fun z => c5' (p2'.trans z)), bI_z.mp (p13'.symm.trans c16')]; simp; done) | (rw [bI_t.mp (fun z => c5' (p2'.trans z)), bI_t.mp (fun z => c16' (p13'.trans z)), bI_z.mp (p23'.symm.trans c26')]; rfl) | (rw [bI_t.mp (fun z => c5' (p2'.trans z)), bI_t.mp (fun z => c16' (p13'.trans z)), bI_z.mp (p23'.symm.trans c26')]; simp; done) | (rw [bI_t.mp (fun z => c5' (p2'.trans z)), bI_t.mp (fun z => c16' (p13'.trans z)), bI_t.mp (fun z => c26' (p23'.trans z)), bI_z.mp (p33'.symm.trans c36')]; rfl) | (rw [bI_t.mp (fun z => c5' (p2'.trans z)), bI_t.mp (fun z => c16' (p13'.trans z)), bI_t.mp (fun z => c26' (p23'.trans z)), bI_z.mp (p33'.symm.trans c36')]; simp; done) | (rw [bI_t.mp (fun z => c5' (p2'.trans z)), bI_t.mp (fun z => c16' (p13'.trans z)), bI_t.mp (fun z => c26' (p23'.trans z)), bI_t.mp (fun z => c36' (p33'.trans z))]; rfl)) hW ls (lv_sub hl [0, 1, 2, 3, 4] rfl)
set_option maxHeartbeats 4000000 in
set_option maxRecDepth 100000 in
theorem c_X10_setWind (l : Launch) (D : va_G) (cA : Nat → ClassId) (sh : Nat → Option Sh) (ad : Nat → Nat) (M : MS) (sz : Nat) (σ : AS) (v : VT) (hMs : MSh sh) (hMX : MX σ v M) (a b d : Int32) : Met l yX10_setWind wsX10_setWind ({ frames := 3, cells := 0, slots := 0, locals := 75 }) (wPc D cA sh ad M sz [.ref (ad 60), .int a, .int b, .int d]) (wQi D cA sh ad (fun r M' => oI moS M M' ∧ gI M' 60 28 = nI (thr (inB a 0 3 && inB b (-100) 100 && inB d (-100) 100) true) ∧ ((inB a 0 3 && inB b (-100) 100 && inB d (-100) 100) = false → MX σ v M') ∧ ((inB a 0 3 && inB b (-100) 100 && inB d (-100) 100) = true → MX (oWind σ (n1 a) b d) v M' ∧ r = nI (ctN (fun k => stP (oWind σ (n1 a) b d) k && !stP σ k) 64))) (wA sh ad sz)) 0 0 (wA sh ad sz) := by
  refine Met.ofW (cc := cX10_setWind) (maxL := 6) (ret := (some .int)) (by decide) rfl ?_
  intro p e s m args below meth cd0 s₁ B hml hv
  obtain ⟨rfl, hsz, hM, hK⟩ := hv
  have hx := B.exec
  have hb := B.bytes
  have hr := B.returns
  have hts := atoms_spec (ws := wsX10_setWind) B.pre
  have hown : s.vm.findClass RX10 = some m.cls := findClass_of_methodNamed B.named
  have hlocks := B.notSynchronized
  subst hsz
  have hA := wA_PA sh ad s.heap
  generalize wA sh ad s.heap.size = A at hA ⊢
  have hW : WS D cA sh ad A s.heap M s.heap [] := ⟨hM, va_S.rf⟩
  have fa37 : FA D s m ([.ref (ad 60), .int a, .int b, .int d] : List Value).toArray 37 10 9 := FA.mk (C := RX10) (T := TX10) (N := 29) hts (fun _ h => List.mem_cons_of_mem _ (List.mem_append_right _ (h))) hown hK rfl (by decide) (hts (.fieldLink RX10 37 "MortarShowModel" "windX" "[I") (List.mem_of_getElem? (i := 4) rfl))
  have fa40 : FA D s m ([.ref (ad 60), .int a, .int b, .int d] : List Value).toArray 40 10 10 := FA.mk (C := RX10) (T := TX10) (N := 29) hts (fun _ h => List.mem_cons_of_mem _ (List.mem_append_right _ (h))) hown hK rfl (by decide) (hts (.fieldLink RX10 40 "MortarShowModel" "windY" "[I") (List.mem_of_getElem? (i := 5) rfl))
  have fa72 : FA D s m ([.ref (ad 60), .int a, .int b, .int d] : List Value).toArray 72 10 21 := FA.mk (C := RX10) (T := TX10) (N := 29) hts (fun _ h => List.mem_cons_of_mem _ (List.mem_append_right _ (h))) hown hK rfl (by decide) (hts (.fieldLink RX10 72 "MortarShowModel" "gone" "[Z") (List.mem_of_getElem? (i := 3) rfl))
  have fa75 : FA D s m ([.ref (ad 60), .int a, .int b, .int d] : List Value).toArray 75 10 22 := FA.mk (C := RX10) (T := TX10) (N := 29) hts (fun _ h => List.mem_cons_of_mem _ (List.mem_append_right _ (h))) hown hK rfl (by decide) (hts (.fieldLink RX10 75 "MortarShowModel" "fate" "[I") (List.mem_of_getElem? (i := 2) rfl))
  have fa101 : FA D s m ([.ref (ad 60), .int a, .int b, .int d] : List Value).toArray 101 10 17 := FA.mk (C := RX10) (T := TX10) (N := 29) hts (fun _ h => List.mem_cons_of_mem _ (List.mem_append_right _ (h))) hown hK rfl (by decide) (hts (.fieldLink RX10 101 "MortarShowModel" "cues" "I") (List.mem_of_getElem? (i := 1) rfl))
  have hl := lv_entry ([.ref (ad 60), .int a, .int b, .int d]) (n := 6) (Nat.le_of_ble_eq_true rfl)
  rw [lg_entry_eq]
  generalize (lg_sl ([.ref (ad 60), .int a, .int b, .int d]) ++ List.replicate (6 - (lg_sl ([.ref (ad 60), .int a, .int b, .int d])).length) Slot.unset).toArray = ls at hl ⊢
  have hl : lv_has ls 6 [(0, .ref (ad 60)), (1, .int a), (2, .int b), (3, .int d)] := hl
  obtain ⟨ok, hR, hV, hT⟩ := hMX
  have hMX : MX σ v M := ⟨ok, hR, hV, hT⟩
  have o1 := ok.1
  refine lv_aload_n hx hb dX10_setWind_0 rfl (lv_at hl 0 rfl) ?_
  have J35 : ∀ (y : Int32) (H : Heap) (locs : List Loc), (y = bI (inB a 0 3 && inB b (-100) 100 && inB d (-100) 100)) → WS D cA sh ad A s.heap M H locs → ∀ ls, lv_has ls 6 [(0, .ref (ad 60)), (1, .int a), (2, .int b), (3, .int d)] → W p l e (headSpec wsX10_setWind { frames := 3, cells := 0, slots := 0, locals := 75 }).room s m ([.ref (ad 60), .int a, .int b, .int d] : List Value).toArray below meth cd0 H locs 0 0 (MQ below (wQi D cA sh ad (fun r M' => oI moS M M' ∧ gI M' 60 28 = nI (thr (inB a 0 3 && inB b (-100) 100 && inB d (-100) 100) true) ∧ ((inB a 0 3 && inB b (-100) 100 && inB d (-100) 100) = false → MX σ v M') ∧ ((inB a 0 3 && inB b (-100) 100 && inB d (-100) 100) = true → MX (oWind σ (n1 a) b d) v M' ∧ r = nI (ctN (fun k => stP (oWind σ (n1 a) b d) k && !stP σ k) 64))) A) ([.ref (ad 60), .int a, .int b, .int d] : List Value).toArray s 0 0 A) (F0 m 35 ls [.int y, .ref (ad 60)]) := by
    intro y H locs hy hW ls hl
    refine lv_iconst (v := 1) hx hb dX10_setWind_35 (by decide) ?_
    refine wc_wi (va_runV (As := [.int y, .int 1]) (rest := []) ⟨hx, hb, hml, hown, hts⟩ (c_X10_goes l D cA sh ad M _ hMs y 1 (inB a 0 3 && inB b (-100) 100 && inB d (-100) 100) true hy rfl) (cwV 2 hts gX10_setWind_X10_goes rfl rfl rfl (by decide +kernel) ⟨Nat.le_of_ble_eq_true rfl, Nat.le_of_ble_eq_true rfl⟩) (wpreV hK hW (C := RX10) (ci := 10) (hMs 60 (by decide) (by decide)) rfl) rfl rfl hl.1 rfl (lv_room (Nat.le_of_ble_eq_true rfl)) dX10_setWind_36 ⟨Nat.le_of_ble_eq_true rfl, Nat.le_of_ble_eq_true rfl⟩) hA hW (fun x36' M36' H locs p36' hW => ?_)
    try dsimp only at p36'
    have hX36 := hMX.oI p36'.2.2 (fun p k z => by omega)
    refine lv_if_ne (tgt := 44) hx hb dX10_setWind_39 (by decide) (fun c39' => ?_) (fun c39' => ?_)
    · have hG : (inB a 0 3 && inB b (-100) 100 && inB d (-100) 100) = true := bT p36'.1 c39'
      have hG2 := hG
      simp only [Bool.and_eq_true] at hG2
      obtain ⟨⟨hGa, hGb⟩, hGd⟩ := hG2
      obtain ⟨w, hw, ew⟩ := in_n (n := 3) (by decide) hGa
      have f1 : n1 a = w := by rw [ew]; exact n1_nI (by omega)
      have hb9 : -100 ≤ b.toInt ∧ b.toInt ≤ 100 := in_i hGb
      have hd9 : -100 ≤ d.toInt ∧ d.toInt ≤ 100 := in_i hGd
      refine lv_iconst (v := 0) hx hb dX10_setWind_44 (by decide) ?_
      refine lv_istore (lv' := [(4, .int 0), (0, .ref (ad 60)), (1, .int a), (2, .int b), (3, .int d)]) hx hb dX10_setWind_45 hl (by decide) rfl (fun ls hl => ?_)
      have L47 : ∀ (fu : Nat) (k : Nat) (xk : Int32) (M1' : MS) (H : Heap) (locs : List Loc), aN σ - k < fu → (k ≤ aN σ) → (xk = nI k) → (oI (fun p _ => p = 80) M36' M1') → (∀ i, i < k → gI M1' 80 i = nI (if σ.2 10 i = 0 ∧ stkB σ i = false then 0 else 1)) → WS D cA sh ad A s.heap M1' H locs → ∀ ls, lv_has ls 6 [(4, .int xk), (0, .ref (ad 60)), (1, .int a), (2, .int b), (3, .int d)] → W p l e (headSpec wsX10_setWind { frames := 3, cells := 0, slots := 0, locals := 75 }).room s m ([.ref (ad 60), .int a, .int b, .int d] : List Value).toArray below meth cd0 H locs 0 0 (MQ below (wQi D cA sh ad (fun r M' => oI moS M M' ∧ gI M' 60 28 = nI (thr (inB a 0 3 && inB b (-100) 100 && inB d (-100) 100) true) ∧ ((inB a 0 3 && inB b (-100) 100 && inB d (-100) 100) = false → MX σ v M') ∧ ((inB a 0 3 && inB b (-100) 100 && inB d (-100) 100) = true → MX (oWind σ (n1 a) b d) v M' ∧ r = nI (ctN (fun k => stP (oWind σ (n1 a) b d) k && !stP σ k) 64))) A) ([.ref (ad 60), .int a, .int b, .int d] : List Value).toArray s 0 0 A) (F0 m 47 ls []) := by
        intro fu
        induction fu with
        | zero =>
          intro k xk M1' H locs hn hk ek g1 f2 hW ls hl
          exact absurd hn (Nat.not_lt_zero _)
        | succ fu ih47 =>
          intro k xk M1' H locs hn hk ek g1 f2 hW ls hl
          have hX1 := hX36.oI g1 (fun p k z => by omega)
          have hR1 := hX1.2.1
          refine lv_iload hx hb dX10_setWind_47 (lv_at hl 0 rfl) ?_
          refine lv_aload_n hx hb dX10_setWind_49 rfl (lv_at hl 1 rfl) ?_
          refine wgI hx hb fa101 hW (hMs 60 (by decide) (by decide)) rfl dX10_setWind_50 (fun x50' e50' => ?_)
          have n50' : x50' = nI (aN σ) := (e50'.trans hR1.2.2.2.2.2.2.2.2.2.1)
          refine lv_icmp_ge (tgt := 93) hx hb dX10_setWind_53 (by decide) (fun c53' => ?_) (fun c53' => ?_)
          · have k53' : (aN σ) ≤ k := kc_ge ek n50' (by omega) (by omega) c53'
            refine lv_aload_n hx hb dX10_setWind_93 rfl (lv_at hl 1 rfl) ?_
            refine wgF (t := 70) hx hb fa37 hW (hMs 60 (by decide) (by decide)) rfl dX10_setWind_94 ?_
            refine lv_iload_n hx hb dX10_setWind_97 rfl (lv_at hl 2 rfl) ?_
            refine lv_iload_n hx hb dX10_setWind_98 rfl (lv_at hl 3 rfl) ?_
            refine wasI (j := w) hx hb hK hA hW (hMs 70 (by decide) (by decide)) ew (by omega) (by decide) dX10_setWind_99 (fun M99' H locs eM99 hW => ?_)
            refine lv_aload_n hx hb dX10_setWind_100 rfl (lv_at hl 1 rfl) ?_
            refine wgF (t := 71) hx hb fa40 hW (hMs 60 (by decide) (by decide)) rfl dX10_setWind_101 ?_
            refine lv_iload_n hx hb dX10_setWind_104 rfl (lv_at hl 2 rfl) ?_
            refine lv_iload_n hx hb dX10_setWind_105 rfl (lv_at hl 4 rfl) ?_
            refine wasI (j := w) hx hb hK hA hW (hMs 71 (by decide) (by decide)) ew (by omega) (by decide) dX10_setWind_106 (fun M106' H locs eM106 hW => ?_)
            have ok6 := AOK_Wind ok (w := w) (by omega) hb9 hd9
            have hR6 : MR (oWind σ w b d) M106' := MR_Wind hR1 (by omega) (by rw [eM106, gI_sI, if_neg (by omega), eM99, gI_sI, if_pos ⟨rfl, rfl⟩]) (by rw [eM106, gI_sI, if_pos ⟨rfl, rfl⟩]) (fun p k hx hn => by unfold MRs at hx; rw [eM106, gI_sI, if_neg (by omega), eM99, gI_sI, if_neg (by omega)])
            have hf6 : ∀ i, i < aN σ → gI M106' 80 i = nI (if σ.2 10 i = 0 ∧ stkB σ i = false then 0 else 1) := fun i hi => by rw [eM106, gI_sI, if_neg (by omega), eM99, gI_sI, if_neg (by omega)]; exact f2 i (by omega)
            refine lv_iconst (v := 0) hx hb dX10_setWind_107 (by decide) ?_
            refine lv_istore (lv' := [(4, .int 0), (0, .ref (ad 60)), (1, .int a), (2, .int b), (3, .int d)]) hx hb dX10_setWind_108 hl (by decide) rfl (fun ls hl => ?_)
            refine lv_iconst (v := 0) hx hb dX10_setWind_110 (by decide) ?_
            refine lv_istore (lv' := [(5, .int 0), (4, .int 0), (0, .ref (ad 60)), (1, .int a), (2, .int b), (3, .int d)]) hx hb dX10_setWind_111 hl (by decide) rfl (fun ls hl => ?_)
            have L113 : ∀ (fu : Nat) (k : Nat) (xk : Int32) (xs : Int32) (H : Heap) (locs : List Loc), aN σ - k < fu → (k ≤ aN σ) → (xk = nI k) → (xs = nI (ctN (fun k => decide (σ.2 10 k = 0 ∧ stkB σ k = false) && stkB (oWind σ w b d) k) k)) → WS D cA sh ad A s.heap M106' H locs → ∀ ls, lv_has ls 6 [(5, .int xk), (4, .int xs), (0, .ref (ad 60)), (1, .int a), (2, .int b), (3, .int d)] → W p l e (headSpec wsX10_setWind { frames := 3, cells := 0, slots := 0, locals := 75 }).room s m ([.ref (ad 60), .int a, .int b, .int d] : List Value).toArray below meth cd0 H locs 0 0 (MQ below (wQi D cA sh ad (fun r M' => oI moS M M' ∧ gI M' 60 28 = nI (thr (inB a 0 3 && inB b (-100) 100 && inB d (-100) 100) true) ∧ ((inB a 0 3 && inB b (-100) 100 && inB d (-100) 100) = false → MX σ v M') ∧ ((inB a 0 3 && inB b (-100) 100 && inB d (-100) 100) = true → MX (oWind σ (n1 a) b d) v M' ∧ r = nI (ctN (fun k => stP (oWind σ (n1 a) b d) k && !stP σ k) 64))) A) ([.ref (ad 60), .int a, .int b, .int d] : List Value).toArray s 0 0 A) (F0 m 113 ls []) := by
              intro fu
              induction fu with
              | zero =>
                intro k xk xs H locs hn hk ek es hW ls hl
                exact absurd hn (Nat.not_lt_zero _)
              | succ fu ih113 =>
                intro k xk xs H locs hn hk ek es hW ls hl
                refine lv_iload hx hb dX10_setWind_113 (lv_at hl 0 rfl) ?_
                refine lv_aload_n hx hb dX10_setWind_115 rfl (lv_at hl 2 rfl) ?_
                refine wgI hx hb fa101 hW (hMs 60 (by decide) (by decide)) rfl dX10_setWind_116 (fun x116' e116' => ?_)
                have n116' : x116' = nI (aN σ) := (e116'.trans hR6.2.2.2.2.2.2.2.2.2.1)
                refine lv_icmp_ge (tgt := 157) hx hb dX10_setWind_119 (by decide) (fun c119' => ?_) (fun c119' => ?_)
                · have k119' : (aN σ) ≤ k := kc_ge ek n116' (by omega) (by omega) c119'
                  refine lv_iload hx hb dX10_setWind_157 (lv_at hl 1 rfl) ?_
                  exact wr_wi hx hb hr hlocks hW dX10_setWind_159 (by
                      rw [f1]
                      refine ⟨?_, ?_, fun z => absurd (hG.symm.trans z) (by decide), fun _ => ⟨⟨ok6, hR6, ?_, ?_⟩, ?_⟩⟩
                      · refine (go_mo p36'.2.2).trans (oI.trans (g1.mono (fun p j z => by unfold moS; omega)) ?_)
                        rw [eM106, eM99]
                        exact (oI.put oI.rf (by unfold moS; omega)).put (by unfold moS; omega)
                      · rw [eM106, gI_sI, if_neg (by omega), eM99, gI_sI, if_neg (by omega), g1.1 _ _ (by omega)]; exact p36'.2.1
                      · intro j hj
                        rw [eM106, gI_sI, if_neg (by omega), eM99, gI_sI, if_neg (by omega)]; exact hX1.2.2.1 j hj
                      · intro j hj
                        rw [eM106, gI_sI, if_neg (by omega), eM99, gI_sI, if_neg (by omega)]; exact hX1.2.2.2 j hj
                      · rw [es, show k = aN σ by omega, wind_ct o1])
                · have k119' : ¬ (aN σ) ≤ k := kc_gen ek n116' (by omega) (by omega) c119'
                  refine lv_iload hx hb dX10_setWind_122 (lv_at hl 1 rfl) ?_
                  have J148 : ∀ (yg : Int32) (H : Heap) (locs : List Loc), (yg = nI (if (decide (σ.2 10 k = 0 ∧ stkB σ k = false) && stkB (oWind σ w b d) k) = true then 1 else 0)) → WS D cA sh ad A s.heap M106' H locs → ∀ ls, lv_has ls 6 [(5, .int xk), (4, .int xs), (0, .ref (ad 60)), (1, .int a), (2, .int b), (3, .int d)] → W p l e (headSpec wsX10_setWind { frames := 3, cells := 0, slots := 0, locals := 75 }).room s m ([.ref (ad 60), .int a, .int b, .int d] : List Value).toArray below meth cd0 H locs 0 0 (MQ below (wQi D cA sh ad (fun r M' => oI moS M M' ∧ gI M' 60 28 = nI (thr (inB a 0 3 && inB b (-100) 100 && inB d (-100) 100) true) ∧ ((inB a 0 3 && inB b (-100) 100 && inB d (-100) 100) = false → MX σ v M') ∧ ((inB a 0 3 && inB b (-100) 100 && inB d (-100) 100) = true → MX (oWind σ (n1 a) b d) v M' ∧ r = nI (ctN (fun k => stP (oWind σ (n1 a) b d) k && !stP σ k) 64))) A) ([.ref (ad 60), .int a, .int b, .int d] : List Value).toArray s 0 0 A) (F0 m 148 ls [.int yg, .int xs]) := by
                    intro yg H locs hyg hW ls hl
                    refine lv_iadd hx hb dX10_setWind_148 ?_
                    refine lv_topi (fun x148' e148' => ?_)
                    refine lv_istore (lv' := [(4, .int x148'), (5, .int xk), (0, .ref (ad 60)), (1, .int a), (2, .int b), (3, .int d)]) hx hb dX10_setWind_149 hl (by decide) rfl (fun ls hl => ?_)
                    obtain ⟨x151', e151'⟩ : ∃ y : Int32, y = xk + 1 := ⟨_, rfl⟩
                    refine lv_iinc (v := x151') (lv' := [(5, .int x151'), (4, .int x148'), (0, .ref (ad 60)), (1, .int a), (2, .int b), (3, .int d)]) hx hb dX10_setWind_151 hl (k := 1) rfl (by rw [e151']; rfl) (by decide) rfl (fun ls hl => ?_)
                    refine lv_goto (tgt := 113) hx hb dX10_setWind_154 (by decide) ?_
                    exact ih113 (k + 1) x151' x148' _ _ (by omega) (by omega) (by rw [e151', ek, nlit 1, nI_add]) (by rw [e148']; exact ctN_ite es hyg) hW ls (lv_sub hl [0, 1, 2, 3, 4, 5] rfl)
                  refine lv_aload_n hx hb dX10_setWind_124 rfl (lv_at hl 2 rfl) ?_
                  refine wgF (t := 80) hx hb fa75 hW (hMs 60 (by decide) (by decide)) rfl dX10_setWind_125 ?_
                  refine lv_iload hx hb dX10_setWind_128 (lv_at hl 0 rfl) ?_
                  refine walI (j := k) hx hb hK hW (hMs 80 (by decide) (by decide)) ek (by omega) (by decide) dX10_setWind_130 (fun x130' e130' => ?_)
                  refine lv_if_ne (tgt := 147) hx hb dX10_setWind_131 (by decide) (fun c131' => ?_) (fun c131' => ?_)
                  · refine lv_iconst (v := 0) hx hb dX10_setWind_147 (by decide) ?_
                    exact J148 0 _ _ (by
                        have h9 := hf6 k (by omega)
                        rw [e130', h9] at c131'
                        by_cases z9 : σ.2 10 k = 0 ∧ stkB σ k = false
                        · rw [decide_eq_true z9, Bool.true_and]
                          first
                          | (rw [bI_z.mp (p137'.symm.trans c140')]; rfl)
                          | (rw [bI_t.mp (fun z => c140' (p137'.trans z))]; rfl)
                          | exact absurd (by rw [if_pos z9]; rfl) c131'
                        · rw [decide_eq_false z9]
                          first
                          | rfl
                          | (rw [if_neg z9] at c131'; exact absurd c131' (by decide))) hW ls (lv_sub hl [0, 1, 2, 3, 4, 5] rfl)
                  · refine lv_aload_n hx hb dX10_setWind_134 rfl (lv_at hl 2 rfl) ?_
                    refine lv_iload hx hb dX10_setWind_135 (lv_at hl 0 rfl) ?_
                    refine wc_ri (va_runV (As := [.int xk]) (rest := [.int xs]) ⟨hx, hb, hml, hown, hts⟩ (c_X10_isStruck l D cA sh ad M106' _ (oWind σ w b d) ok6 hMs hR6 k (show k < aN σ by omega) xk ek) (cwV 1 hts gX10_setWind_X10_isStruck rfl rfl rfl (by decide +kernel) ⟨Nat.le_of_ble_eq_true rfl, Nat.le_of_ble_eq_true rfl⟩) (wpreV hK hW (C := RX10) (ci := 10) (hMs 60 (by decide) (by decide)) rfl) rfl rfl hl.1 rfl (lv_room (Nat.le_of_ble_eq_true rfl)) dX10_setWind_137 ⟨Nat.le_of_ble_eq_true rfl, Nat.le_of_ble_eq_true rfl⟩) hW (fun x137' H locs p137' hW => ?_)
                    try dsimp only at p137'
                    refine lv_if_eq (tgt := 147) hx hb dX10_setWind_140 (by decide) (fun c140' => ?_) (fun c140' => ?_)
                    · refine lv_iconst (v := 0) hx hb dX10_setWind_147 (by decide) ?_
                      exact J148 0 _ _ (by
                          have h9 := hf6 k (by omega)
                          rw [e130', h9] at c131'
                          by_cases z9 : σ.2 10 k = 0 ∧ stkB σ k = false
                          · rw [decide_eq_true z9, Bool.true_and]
                            first
                            | (rw [bI_z.mp (p137'.symm.trans c140')]; rfl)
                            | (rw [bI_t.mp (fun z => c140' (p137'.trans z))]; rfl)
                            | exact absurd (by rw [if_pos z9]; rfl) c131'
                          · rw [decide_eq_false z9]
                            first
                            | rfl
                            | (rw [if_neg z9] at c131'; exact absurd c131' (by decide))) hW ls (lv_sub hl [0, 1, 2, 3, 4, 5] rfl)
                    · refine lv_iconst (v := 1) hx hb dX10_setWind_143 (by decide) ?_
                      refine lv_goto (tgt := 148) hx hb dX10_setWind_144 (by decide) ?_
                      exact J148 1 _ _ (by
                          have h9 := hf6 k (by omega)
                          rw [e130', h9] at c131'
                          by_cases z9 : σ.2 10 k = 0 ∧ stkB σ k = false
                          · rw [decide_eq_true z9, Bool.true_and]
                            first
                            | (rw [bI_z.mp (p137'.symm.trans c140')]; rfl)
                            | (rw [bI_t.mp (fun z => c140' (p137'.trans z))]; rfl)
                            | exact absurd (by rw [if_pos z9]; rfl) c131'
                          · rw [decide_eq_false z9]
                            first
                            | rfl
                            | (rw [if_neg z9] at c131'; exact absurd c131' (by decide))) hW ls (lv_sub hl [0, 1, 2, 3, 4, 5] rfl)
            exact L113 (_ + 1) 0 0 0 _ _ (Nat.lt_succ_self _) (Nat.zero_le _) rfl rfl hW ls (lv_sub hl [0, 1, 2, 3, 4, 5] rfl)
          · have k53' : ¬ (aN σ) ≤ k := kc_gen ek n50' (by omega) (by omega) c53'
            refine lv_aload_n hx hb dX10_setWind_56 rfl (lv_at hl 1 rfl) ?_
            refine wgF (t := 80) hx hb fa75 hW (hMs 60 (by decide) (by decide)) rfl dX10_setWind_57 ?_
            refine lv_iload hx hb dX10_setWind_60 (lv_at hl 0 rfl) ?_
            have J86 : ∀ (yf : Int32) (H : Heap) (locs : List Loc), (yf = nI (if σ.2 10 k = 0 ∧ stkB σ k = false then 0 else 1)) → WS D cA sh ad A s.heap M1' H locs → ∀ ls, lv_has ls 6 [(4, .int xk), (0, .ref (ad 60)), (1, .int a), (2, .int b), (3, .int d)] → W p l e (headSpec wsX10_setWind { frames := 3, cells := 0, slots := 0, locals := 75 }).room s m ([.ref (ad 60), .int a, .int b, .int d] : List Value).toArray below meth cd0 H locs 0 0 (MQ below (wQi D cA sh ad (fun r M' => oI moS M M' ∧ gI M' 60 28 = nI (thr (inB a 0 3 && inB b (-100) 100 && inB d (-100) 100) true) ∧ ((inB a 0 3 && inB b (-100) 100 && inB d (-100) 100) = false → MX σ v M') ∧ ((inB a 0 3 && inB b (-100) 100 && inB d (-100) 100) = true → MX (oWind σ (n1 a) b d) v M' ∧ r = nI (ctN (fun k => stP (oWind σ (n1 a) b d) k && !stP σ k) 64))) A) ([.ref (ad 60), .int a, .int b, .int d] : List Value).toArray s 0 0 A) (F0 m 86 ls [.int yf, .int xk, .ref (ad 80)]) := by
              intro yf H locs hyf hW ls hl
              refine wasI (j := k) hx hb hK hA hW (hMs 80 (by decide) (by decide)) ek (by omega) (by decide) dX10_setWind_86 (fun M86' H locs eM86 hW => ?_)
              obtain ⟨x87', e87'⟩ : ∃ y : Int32, y = xk + 1 := ⟨_, rfl⟩
              refine lv_iinc (v := x87') (lv' := [(4, .int x87'), (0, .ref (ad 60)), (1, .int a), (2, .int b), (3, .int d)]) hx hb dX10_setWind_87 hl (k := 0) rfl (by rw [e87']; rfl) (by decide) rfl (fun ls hl => ?_)
              refine lv_goto (tgt := 47) hx hb dX10_setWind_90 (by decide) ?_
              exact ih47 (k + 1) x87' M86' _ _ (by omega) (by omega) (by rw [e87', ek, nlit 1, nI_add]) (by rw [eM86]; exact g1.put rfl) (fun i hi => by
                  rw [eM86, gI_sI]
                  by_cases z : i = k
                  · subst z; rw [if_pos ⟨rfl, rfl⟩]; exact hyf
                  · rw [if_neg (fun w => z w.2)]; exact f2 i (by omega)) hW ls (lv_sub hl [0, 1, 2, 3, 4] rfl)
            refine lv_aload_n hx hb dX10_setWind_62 rfl (lv_at hl 1 rfl) ?_
            refine wgF (t := 79) hx hb fa72 hW (hMs 60 (by decide) (by decide)) rfl dX10_setWind_63 ?_
            refine lv_iload hx hb dX10_setWind_66 (lv_at hl 0 rfl) ?_
            refine walZ (j := k) hx hb hK hW (hMs 79 (by decide) (by decide)) ek (by omega) (by decide) dX10_setWind_68 (fun x68' e68' => ?_)
            refine lv_if_ne (tgt := 81) hx hb dX10_setWind_69 (by decide) (fun c69' => ?_) (fun c69' => ?_)
            · refine lv_iconst (v := 1) hx hb dX10_setWind_81 (by decide) ?_
              refine lv_goto (tgt := 86) hx hb dX10_setWind_82 (by decide) ?_
              exact J86 1 _ _ (by
                  have h9 : x68' = nI (σ.2 10 k) := e68'.trans (hR1.2.2.2.2.2.2.2.2.2.2.1 k (by omega))
                  have og := (ok.2.2.2.2.2.2.1 k (by omega)).2.2.2
                  first
                  | (rw [if_neg (fun z => c69' (by rw [h9, z.1]; rfl))]; rfl)
                  | (have g0 := gone0 og (h9.symm.trans c69')
                     first
                     | (rw [if_pos ⟨g0, bI_z.mp (p75'.symm.trans c78')⟩]; rfl)
                     | (rw [if_neg (fun z => absurd ((bI_t.mp (fun w => c78' (p75'.trans w))).symm.trans z.2) (by decide))]; rfl))) hW ls (lv_sub hl [0, 1, 2, 3, 4] rfl)
            · refine lv_aload_n hx hb dX10_setWind_72 rfl (lv_at hl 1 rfl) ?_
              refine lv_iload hx hb dX10_setWind_73 (lv_at hl 0 rfl) ?_
              refine wc_ri (va_runV (As := [.int xk]) (rest := [.int xk, .ref (ad 80)]) ⟨hx, hb, hml, hown, hts⟩ (c_X10_isStruck l D cA sh ad M1' _ σ ok hMs hR1 k (by omega) xk ek) (cwV 1 hts gX10_setWind_X10_isStruck rfl rfl rfl (by decide +kernel) ⟨Nat.le_of_ble_eq_true rfl, Nat.le_of_ble_eq_true rfl⟩) (wpreV hK hW (C := RX10) (ci := 10) (hMs 60 (by decide) (by decide)) rfl) rfl rfl hl.1 rfl (lv_room (Nat.le_of_ble_eq_true rfl)) dX10_setWind_75 ⟨Nat.le_of_ble_eq_true rfl, Nat.le_of_ble_eq_true rfl⟩) hW (fun x75' H locs p75' hW => ?_)
              try dsimp only at p75'
              refine lv_if_eq (tgt := 85) hx hb dX10_setWind_78 (by decide) (fun c78' => ?_) (fun c78' => ?_)
              · refine lv_iconst (v := 0) hx hb dX10_setWind_85 (by decide) ?_
                exact J86 0 _ _ (by
                    have h9 : x68' = nI (σ.2 10 k) := e68'.trans (hR1.2.2.2.2.2.2.2.2.2.2.1 k (by omega))
                    have og := (ok.2.2.2.2.2.2.1 k (by omega)).2.2.2
                    first
                    | (rw [if_neg (fun z => c69' (by rw [h9, z.1]; rfl))]; rfl)
                    | (have g0 := gone0 og (h9.symm.trans c69')
                       first
                       | (rw [if_pos ⟨g0, bI_z.mp (p75'.symm.trans c78')⟩]; rfl)
                       | (rw [if_neg (fun z => absurd ((bI_t.mp (fun w => c78' (p75'.trans w))).symm.trans z.2) (by decide))]; rfl))) hW ls (lv_sub hl [0, 1, 2, 3, 4] rfl)
              · refine lv_iconst (v := 1) hx hb dX10_setWind_81 (by decide) ?_
                refine lv_goto (tgt := 86) hx hb dX10_setWind_82 (by decide) ?_
                exact J86 1 _ _ (by
                    have h9 : x68' = nI (σ.2 10 k) := e68'.trans (hR1.2.2.2.2.2.2.2.2.2.2.1 k (by omega))
                    have og := (ok.2.2.2.2.2.2.1 k (by omega)).2.2.2
                    first
                    | (rw [if_neg (fun z => c69' (by rw [h9, z.1]; rfl))]; rfl)
                    | (have g0 := gone0 og (h9.symm.trans c69')
                       first
                       | (rw [if_pos ⟨g0, bI_z.mp (p75'.symm.trans c78')⟩]; rfl)
                       | (rw [if_neg (fun z => absurd ((bI_t.mp (fun w => c78' (p75'.trans w))).symm.trans z.2) (by decide))]; rfl))) hW ls (lv_sub hl [0, 1, 2, 3, 4] rfl)
      exact L47 (_ + 1) 0 0 M36' _ _ (Nat.lt_succ_self _) (Nat.zero_le _) rfl oI.rf (fun i hi => absurd hi (Nat.not_lt_zero i)) hW ls (lv_sub hl [0, 1, 2, 3, 4] rfl)
    · have hG : (inB a 0 3 && inB b (-100) 100 && inB d (-100) 100) = false := bF p36'.1 c39'
      refine lv_iconst (v := 0) hx hb dX10_setWind_42 (by decide) ?_
      exact wr_wi hx hb hr hlocks hW dX10_setWind_43 ⟨go_mo p36'.2.2, p36'.2.1, fun _ => hMX.oI p36'.2.2 (fun p k z => by omega), fun z => absurd (hG.symm.trans z) (by decide)⟩
  refine lv_iload_n hx hb dX10_setWind_1 rfl (lv_at hl 1 rfl) ?_
  refine wc_ri (va_runS (As := [.int a]) (rest := [.ref (ad 60)]) ⟨hx, hb, hml, hown, hts⟩ (c_X10_isLayer l a) (va_cwS 1 hts gX10_setWind_X10_isLayer rfl rfl rfl (by decide +kernel) ⟨Nat.le_of_ble_eq_true rfl, Nat.le_of_ble_eq_true rfl⟩) npreS rfl rfl hl.1 rfl (lv_room (Nat.le_of_ble_eq_true rfl)) dX10_setWind_2 ⟨Nat.le_of_ble_eq_true rfl, Nat.le_of_ble_eq_true rfl⟩) hW (fun x2' H locs p2' hW => ?_)
  try dsimp only at p2'
  refine lv_if_eq (tgt := 34) hx hb dX10_setWind_5 (by decide) (fun c5' => ?_) (fun c5' => ?_)
  · refine lv_iconst (v := 0) hx hb dX10_setWind_34 (by decide) ?_
    exact J35 0 _ _ (by first | (rw [bI_z.mp (p2'.symm.trans c5')]; rfl) | (rw [bI_z.mp (p2'.symm.trans c5')]; simp; done) | (rw [bI_t.mp (fun z => c5' (p2'.trans z)), bI_z.mp (p13'.symm.trans c16')]; rfl) | (rw [bI_t.mp (fun z => c5' (p2'.trans z)), bI_z.mp (p13'.symm.trans c16')]; simp; done) | (rw [bI_t.mp (fun z => c5' (p2'.trans z)), bI_t.mp (fun z => c16' (p13'.trans z)), bI_z.mp (p24'.symm.trans c27')]; rfl) | (rw [bI_t.mp (fun z => c5' (p2'.trans z)), bI_t.mp (fun z => c16' (p13'.trans z)), bI_z.mp (p24'.symm.trans c27')]; simp; done) | (rw [bI_t.mp (fun z => c5' (p2'.trans z)), bI_t.mp (fun z => c16' (p13'.trans z)), bI_t.mp (fun z => c27' (p24'.trans z))]; rfl)) hW ls (lv_sub hl [0, 1, 2, 3] rfl)
  · refine lv_iload_n hx hb dX10_setWind_8 rfl (lv_at hl 2 rfl) ?_
    refine lv_bipush (v := (-100)) hx hb dX10_setWind_9 (by decide) ?_
    refine lv_bipush (v := 100) hx hb dX10_setWind_11 (by decide) ?_
    refine wc_ri (va_runS (As := [.int b, .int (-100), .int 100]) (rest := [.ref (ad 60)]) ⟨hx, hb, hml, hown, hts⟩ (c_X10_in l b (-100) 100) (va_cwS 3 hts gX10_setWind_X10_in rfl rfl rfl (by decide +kernel) ⟨Nat.le_of_ble_eq_true rfl, Nat.le_of_ble_eq_true rfl⟩) npreS rfl rfl hl.1 rfl (lv_room (Nat.le_of_ble_eq_true rfl)) dX10_setWind_13 ⟨Nat.le_of_ble_eq_true rfl, Nat.le_of_ble_eq_true rfl⟩) hW (fun x13' H locs p13' hW => ?_)
    try dsimp only at p13'
    refine lv_if_eq (tgt := 34) hx hb dX10_setWind_16 (by decide) (fun c16' => ?_) (fun c16' => ?_)
    · refine lv_iconst (v := 0) hx hb dX10_setWind_34 (by decide) ?_
      exact J35 0 _ _ (by first | (rw [bI_z.mp (p2'.symm.trans c5')]; rfl) | (rw [bI_z.mp (p2'.symm.trans c5')]; simp; done) | (rw [bI_t.mp (fun z => c5' (p2'.trans z)), bI_z.mp (p13'.symm.trans c16')]; rfl) | (rw [bI_t.mp (fun z => c5' (p2'.trans z)), bI_z.mp (p13'.symm.trans c16')]; simp; done) | (rw [bI_t.mp (fun z => c5' (p2'.trans z)), bI_t.mp (fun z => c16' (p13'.trans z)), bI_z.mp (p24'.symm.trans c27')]; rfl) | (rw [bI_t.mp (fun z => c5' (p2'.trans z)), bI_t.mp (fun z => c16' (p13'.trans z)), bI_z.mp (p24'.symm.trans c27')]; simp; done) | (rw [bI_t.mp (fun z => c5' (p2'.trans z)), bI_t.mp (fun z => c16' (p13'.trans z)), bI_t.mp (fun z => c27' (p24'.trans z))]; rfl)) hW ls (lv_sub hl [0, 1, 2, 3] rfl)
    · refine lv_iload_n hx hb dX10_setWind_19 rfl (lv_at hl 3 rfl) ?_
      refine lv_bipush (v := (-100)) hx hb dX10_setWind_20 (by decide) ?_
      refine lv_bipush (v := 100) hx hb dX10_setWind_22 (by decide) ?_
      refine wc_ri (va_runS (As := [.int d, .int (-100), .int 100]) (rest := [.ref (ad 60)]) ⟨hx, hb, hml, hown, hts⟩ (c_X10_in l d (-100) 100) (va_cwS 3 hts gX10_setWind_X10_in rfl rfl rfl (by decide +kernel) ⟨Nat.le_of_ble_eq_true rfl, Nat.le_of_ble_eq_true rfl⟩) npreS rfl rfl hl.1 rfl (lv_room (Nat.le_of_ble_eq_true rfl)) dX10_setWind_24 ⟨Nat.le_of_ble_eq_true rfl, Nat.le_of_ble_eq_true rfl⟩) hW (fun x24' H locs p24' hW => ?_)
      try dsimp only at p24'
      refine lv_if_eq (tgt := 34) hx hb dX10_setWind_27 (by decide) (fun c27' => ?_) (fun c27' => ?_)
      · refine lv_iconst (v := 0) hx hb dX10_setWind_34 (by decide) ?_
        exact J35 0 _ _ (by first | (rw [bI_z.mp (p2'.symm.trans c5')]; rfl) | (rw [bI_z.mp (p2'.symm.trans c5')]; simp; done) | (rw [bI_t.mp (fun z => c5' (p2'.trans z)), bI_z.mp (p13'.symm.trans c16')]; rfl) | (rw [bI_t.mp (fun z => c5' (p2'.trans z)), bI_z.mp (p13'.symm.trans c16')]; simp; done) | (rw [bI_t.mp (fun z => c5' (p2'.trans z)), bI_t.mp (fun z => c16' (p13'.trans z)), bI_z.mp (p24'.symm.trans c27')]; rfl) | (rw [bI_t.mp (fun z => c5' (p2'.trans z)), bI_t.mp (fun z => c16' (p13'.trans z)), bI_z.mp (p24'.symm.trans c27')]; simp; done) | (rw [bI_t.mp (fun z => c5' (p2'.trans z)), bI_t.mp (fun z => c16' (p13'.trans z)), bI_t.mp (fun z => c27' (p24'.trans z))]; rfl)) hW ls (lv_sub hl [0, 1, 2, 3] rfl)
      · refine lv_iconst (v := 1) hx hb dX10_setWind_30 (by decide) ?_
        refine lv_goto (tgt := 35) hx hb dX10_setWind_31 (by decide) ?_
        exact J35 1 _ _ (by first | (rw [bI_z.mp (p2'.symm.trans c5')]; rfl) | (rw [bI_z.mp (p2'.symm.trans c5')]; simp; done) | (rw [bI_t.mp (fun z => c5' (p2'.trans z)), bI_z.mp (p13'.symm.trans c16')]; rfl) | (rw [bI_t.mp (fun z => c5' (p2'.trans z)), bI_z.mp (p13'.symm.trans c16')]; simp; done) | (rw [bI_t.mp (fun z => c5' (p2'.trans z)), bI_t.mp (fun z => c16' (p13'.trans z)), bI_z.mp (p24'.symm.trans c27')]; rfl) | (rw [bI_t.mp (fun z => c5' (p2'.trans z)), bI_t.mp (fun z => c16' (p13'.trans z)), bI_z.mp (p24'.symm.trans c27')]; simp; done) | (rw [bI_t.mp (fun z => c5' (p2'.trans z)), bI_t.mp (fun z => c16' (p13'.trans z)), bI_t.mp (fun z => c27' (p24'.trans z))]; rfl)) hW ls (lv_sub hl [0, 1, 2, 3] rfl)
set_option maxHeartbeats 4000000 in
set_option maxRecDepth 100000 in
theorem c_X10_setPeople (l : Launch) (D : va_G) (cA : Nat → ClassId) (sh : Nat → Option Sh) (ad : Nat → Nat) (M : MS) (sz : Nat) (σ : AS) (v : VT) (hMs : MSh sh) (hMX : MX σ v M) (a b d : Int32) : Met l yX10_setPeople wsX10_setPeople ({ frames := 2, cells := 0, slots := 0, locals := 43 }) (wPc D cA sh ad M sz [.ref (ad 60), .int a, .int b, .int d]) (wQi D cA sh ad (fun r M' => oI moS M M' ∧ gI M' 60 28 = nI (thr (zoB a b && decide (0 ≤ d)) true) ∧ ((zoB a b && decide (0 ≤ d)) = false → MX σ v M') ∧ ((zoB a b && decide (0 ≤ d)) = true → MX (oPeop σ (8 * n1 b + n1 a) d) v M' ∧ r = σ.1 0 (8 * n1 b + n1 a))) (wA sh ad sz)) 0 0 (wA sh ad sz) := by
  refine Met.ofW (cc := cX10_setPeople) (maxL := 5) (ret := (some .int)) (by decide) rfl ?_
  intro p e s m args below meth cd0 s₁ B hml hv
  obtain ⟨rfl, hsz, hM, hK⟩ := hv
  have hx := B.exec
  have hb := B.bytes
  have hr := B.returns
  have hts := atoms_spec (ws := wsX10_setPeople) B.pre
  have hown : s.vm.findClass RX10 = some m.cls := findClass_of_methodNamed B.named
  have hlocks := B.notSynchronized
  subst hsz
  have hA := wA_PA sh ad s.heap
  generalize wA sh ad s.heap.size = A at hA ⊢
  have hW : WS D cA sh ad A s.heap M s.heap [] := ⟨hM, va_S.rf⟩
  have fa43 : FA D s m ([.ref (ad 60), .int a, .int b, .int d] : List Value).toArray 43 10 11 := FA.mk (C := RX10) (T := TX10) (N := 29) hts (fun _ h => List.mem_cons_of_mem _ (List.mem_append_right _ (h))) hown hK rfl (by decide) (hts (.fieldLink RX10 43 "MortarShowModel" "people" "[I") (List.mem_of_getElem? (i := 1) rfl))
  have hl := lv_entry ([.ref (ad 60), .int a, .int b, .int d]) (n := 5) (Nat.le_of_ble_eq_true rfl)
  rw [lg_entry_eq]
  generalize (lg_sl ([.ref (ad 60), .int a, .int b, .int d]) ++ List.replicate (5 - (lg_sl ([.ref (ad 60), .int a, .int b, .int d])).length) Slot.unset).toArray = ls at hl ⊢
  have hl : lv_has ls 5 [(0, .ref (ad 60)), (1, .int a), (2, .int b), (3, .int d)] := hl
  obtain ⟨ok, hR, hV, hT⟩ := hMX
  have hMX : MX σ v M := ⟨ok, hR, hV, hT⟩
  have o1 := ok.1
  refine lv_aload_n hx hb dX10_setPeople_0 rfl (lv_at hl 0 rfl) ?_
  have J18 : ∀ (y : Int32) (H : Heap) (locs : List Loc), (y = bI (zoB a b && decide (0 ≤ d))) → WS D cA sh ad A s.heap M H locs → ∀ ls, lv_has ls 5 [(0, .ref (ad 60)), (1, .int a), (2, .int b), (3, .int d)] → W p l e (headSpec wsX10_setPeople { frames := 2, cells := 0, slots := 0, locals := 43 }).room s m ([.ref (ad 60), .int a, .int b, .int d] : List Value).toArray below meth cd0 H locs 0 0 (MQ below (wQi D cA sh ad (fun r M' => oI moS M M' ∧ gI M' 60 28 = nI (thr (zoB a b && decide (0 ≤ d)) true) ∧ ((zoB a b && decide (0 ≤ d)) = false → MX σ v M') ∧ ((zoB a b && decide (0 ≤ d)) = true → MX (oPeop σ (8 * n1 b + n1 a) d) v M' ∧ r = σ.1 0 (8 * n1 b + n1 a))) A) ([.ref (ad 60), .int a, .int b, .int d] : List Value).toArray s 0 0 A) (F0 m 18 ls [.int y, .ref (ad 60)]) := by
    intro y H locs hy hW ls hl
    refine lv_iconst (v := 1) hx hb dX10_setPeople_18 (by decide) ?_
    refine wc_wi (va_runV (As := [.int y, .int 1]) (rest := []) ⟨hx, hb, hml, hown, hts⟩ (c_X10_goes l D cA sh ad M _ hMs y 1 (zoB a b && decide (0 ≤ d)) true hy rfl) (cwV 2 hts gX10_setPeople_X10_goes rfl rfl rfl (by decide +kernel) ⟨Nat.le_of_ble_eq_true rfl, Nat.le_of_ble_eq_true rfl⟩) (wpreV hK hW (C := RX10) (ci := 10) (hMs 60 (by decide) (by decide)) rfl) rfl rfl hl.1 rfl (lv_room (Nat.le_of_ble_eq_true rfl)) dX10_setPeople_19 ⟨Nat.le_of_ble_eq_true rfl, Nat.le_of_ble_eq_true rfl⟩) hA hW (fun x19' M19' H locs p19' hW => ?_)
    try dsimp only at p19'
    refine lv_if_ne (tgt := 27) hx hb dX10_setPeople_22 (by decide) (fun c22' => ?_) (fun c22' => ?_)
    · have hG : (zoB a b && decide (0 ≤ d)) = true := bT p19'.1 c22'
      have hG2 := hG
      simp only [Bool.and_eq_true] at hG2
      obtain ⟨x, y1, hx8, hy8, exx, eyy⟩ := zo_n hG2.1
      have f1 : n1 a = x := by rw [exx]; exact n1_nI (by omega)
      have f2 : n1 b = y1 := by rw [eyy]; exact n1_nI (by omega)
      refine lv_aload_n hx hb dX10_setPeople_27 rfl (lv_at hl 0 rfl) ?_
      refine wgF (t := 72) hx hb fa43 hW (hMs 60 (by decide) (by decide)) rfl dX10_setPeople_28 ?_
      refine lv_bipush (v := 8) hx hb dX10_setPeople_31 (by decide) ?_
      refine lv_iload_n hx hb dX10_setPeople_33 rfl (lv_at hl 2 rfl) ?_
      refine lv_imul hx hb dX10_setPeople_34 ?_
      refine lv_topi (fun x34' e34' => ?_)
      have n34' : x34' = nI (8 * y1) := (by rw [e34', (nlit 8), eyy, pk_mul])
      refine lv_iload_n hx hb dX10_setPeople_35 rfl (lv_at hl 1 rfl) ?_
      refine lv_iadd hx hb dX10_setPeople_36 ?_
      refine lv_topi (fun x36' e36' => ?_)
      have n36' : x36' = nI ((8 * y1) + x) := (by rw [e36', n34', exx, nI_add])
      refine walI (j := ((8 * y1) + x)) hx hb hK hW (hMs 72 (by decide) (by decide)) n36' (by omega) (by decide) dX10_setPeople_37 (fun x37' e37' => ?_)
      refine lv_istore (lv' := [(4, .int x37'), (0, .ref (ad 60)), (1, .int a), (2, .int b), (3, .int d)]) hx hb dX10_setPeople_38 hl (by decide) rfl (fun ls hl => ?_)
      refine lv_aload_n hx hb dX10_setPeople_40 rfl (lv_at hl 1 rfl) ?_
      refine wgF (t := 72) hx hb fa43 hW (hMs 60 (by decide) (by decide)) rfl dX10_setPeople_41 ?_
      refine lv_bipush (v := 8) hx hb dX10_setPeople_44 (by decide) ?_
      refine lv_iload_n hx hb dX10_setPeople_46 rfl (lv_at hl 3 rfl) ?_
      refine lv_imul hx hb dX10_setPeople_47 ?_
      refine lv_topi (fun x47' e47' => ?_)
      have n47' : x47' = nI (8 * y1) := (by rw [e47', (nlit 8), eyy, pk_mul])
      refine lv_iload_n hx hb dX10_setPeople_48 rfl (lv_at hl 2 rfl) ?_
      refine lv_iadd hx hb dX10_setPeople_49 ?_
      refine lv_topi (fun x49' e49' => ?_)
      have n49' : x49' = nI ((8 * y1) + x) := (by rw [e49', n47', exx, nI_add])
      refine lv_iload_n hx hb dX10_setPeople_50 rfl (lv_at hl 4 rfl) ?_
      refine wasI (j := ((8 * y1) + x)) hx hb hK hA hW (hMs 72 (by decide) (by decide)) n49' (by omega) (by decide) dX10_setPeople_51 (fun M51' H locs eM51 hW => ?_)
      refine lv_iload hx hb dX10_setPeople_52 (lv_at hl 0 rfl) ?_
      exact wr_wi hx hb hr hlocks hW dX10_setPeople_54 (by rw [f1, f2]; exact ⟨(by rw [eM51]; exact (oI.put (go_mo p19'.2.2) (by unfold moS; omega))), (by rw [eM51, gI_sI, if_neg (by omega)]; exact p19'.2.1), fun z => absurd (hG.symm.trans z) (by decide), fun _ => ⟨⟨AOK_Peop ok , MR_Peop hR (by rw [eM51, gI_sI, if_pos ⟨rfl, rfl⟩]) (fun p k hx hn => by unfold MRs at hx; rw [eM51, gI_sI, if_neg (by omega)]; exact p19'.2.2.1 p k (fun z => by omega)), (fun k hk => by rw [eM51, gI_sI, if_neg (by omega), p19'.2.2.1 _ _ (by omega)]; exact hV k hk), (fun k hk => by rw [eM51, gI_sI, if_neg (by omega), p19'.2.2.1 _ _ (by omega)]; exact hT k hk)⟩, by rw [e37', p19'.2.2.1 _ _ (by omega)]; exact hR.1 _ (by omega)⟩⟩)
    · have hG : (zoB a b && decide (0 ≤ d)) = false := bF p19'.1 c22'
      refine lv_iconst (v := 0) hx hb dX10_setPeople_25 (by decide) ?_
      exact wr_wi hx hb hr hlocks hW dX10_setPeople_26 ⟨go_mo p19'.2.2, p19'.2.1, fun _ => hMX.oI p19'.2.2 (fun p k z => by omega), fun z => absurd (hG.symm.trans z) (by decide)⟩
  refine lv_iload_n hx hb dX10_setPeople_1 rfl (lv_at hl 1 rfl) ?_
  refine lv_iload_n hx hb dX10_setPeople_2 rfl (lv_at hl 2 rfl) ?_
  refine wc_ri (va_runS (As := [.int a, .int b]) (rest := [.ref (ad 60)]) ⟨hx, hb, hml, hown, hts⟩ (c_X10_isZone l a b) (va_cwS 2 hts gX10_setPeople_X10_isZone rfl rfl rfl (by decide +kernel) ⟨Nat.le_of_ble_eq_true rfl, Nat.le_of_ble_eq_true rfl⟩) npreS rfl rfl hl.1 rfl (lv_room (Nat.le_of_ble_eq_true rfl)) dX10_setPeople_3 ⟨Nat.le_of_ble_eq_true rfl, Nat.le_of_ble_eq_true rfl⟩) hW (fun x3' H locs p3' hW => ?_)
  try dsimp only at p3'
  refine lv_if_eq (tgt := 17) hx hb dX10_setPeople_6 (by decide) (fun c6' => ?_) (fun c6' => ?_)
  · refine lv_iconst (v := 0) hx hb dX10_setPeople_17 (by decide) ?_
    exact J18 0 _ _ (by first | (rw [bI_z.mp (p3'.symm.trans c6')]; rfl) | (rw [bI_t.mp (fun z => c6' (p3'.trans z)), Bool.true_and]; first | (rw [decide_eq_false (by rw [i32le]; rw [i32lt] at c10'; omega)]; rfl) | (rw [decide_eq_true (by rw [i32le]; rw [i32lt] at c10'; omega)]; rfl))) hW ls (lv_sub hl [0, 1, 2, 3] rfl)
  · refine lv_iload_n hx hb dX10_setPeople_9 rfl (lv_at hl 3 rfl) ?_
    refine lv_if_lt (tgt := 17) hx hb dX10_setPeople_10 (by decide) (fun c10' => ?_) (fun c10' => ?_)
    · refine lv_iconst (v := 0) hx hb dX10_setPeople_17 (by decide) ?_
      exact J18 0 _ _ (by first | (rw [bI_z.mp (p3'.symm.trans c6')]; rfl) | (rw [bI_t.mp (fun z => c6' (p3'.trans z)), Bool.true_and]; first | (rw [decide_eq_false (by rw [i32le]; rw [i32lt] at c10'; omega)]; rfl) | (rw [decide_eq_true (by rw [i32le]; rw [i32lt] at c10'; omega)]; rfl))) hW ls (lv_sub hl [0, 1, 2, 3] rfl)
    · refine lv_iconst (v := 1) hx hb dX10_setPeople_13 (by decide) ?_
      refine lv_goto (tgt := 18) hx hb dX10_setPeople_14 (by decide) ?_
      exact J18 1 _ _ (by first | (rw [bI_z.mp (p3'.symm.trans c6')]; rfl) | (rw [bI_t.mp (fun z => c6' (p3'.trans z)), Bool.true_and]; first | (rw [decide_eq_false (by rw [i32le]; rw [i32lt] at c10'; omega)]; rfl) | (rw [decide_eq_true (by rw [i32le]; rw [i32lt] at c10'; omega)]; rfl))) hW ls (lv_sub hl [0, 1, 2, 3] rfl)
set_option maxHeartbeats 4000000 in
set_option maxRecDepth 100000 in
theorem c_X10_setValue (l : Launch) (D : va_G) (cA : Nat → ClassId) (sh : Nat → Option Sh) (ad : Nat → Nat) (M : MS) (sz : Nat) (σ : AS) (v : VT) (hMs : MSh sh) (hMX : MX σ v M) (a b d : Int32) : Met l yX10_setValue wsX10_setValue ({ frames := 2, cells := 0, slots := 0, locals := 43 }) (wPc D cA sh ad M sz [.ref (ad 60), .int a, .int b, .int d]) (wQi D cA sh ad (fun r M' => oI moS M M' ∧ gI M' 60 28 = nI (thr (zoB a b && inB d 0 100000000) true) ∧ ((zoB a b && inB d 0 100000000) = false → MX σ v M') ∧ ((zoB a b && inB d 0 100000000) = true → MX σ (fun k => if k = 8 * n1 b + n1 a then d else v.1 k, v.2) M' ∧ r = v.1 (8 * n1 b + n1 a))) (wA sh ad sz)) 0 0 (wA sh ad sz) := by
  refine Met.ofW (cc := cX10_setValue) (maxL := 5) (ret := (some .int)) (by decide) rfl ?_
  intro p e s m args below meth cd0 s₁ B hml hv
  obtain ⟨rfl, hsz, hM, hK⟩ := hv
  have hx := B.exec
  have hb := B.bytes
  have hr := B.returns
  have hts := atoms_spec (ws := wsX10_setValue) B.pre
  have hown : s.vm.findClass RX10 = some m.cls := findClass_of_methodNamed B.named
  have hlocks := B.notSynchronized
  subst hsz
  have hA := wA_PA sh ad s.heap
  generalize wA sh ad s.heap.size = A at hA ⊢
  have hW : WS D cA sh ad A s.heap M s.heap [] := ⟨hM, va_S.rf⟩
  have fa46 : FA D s m ([.ref (ad 60), .int a, .int b, .int d] : List Value).toArray 46 10 12 := FA.mk (C := RX10) (T := TX10) (N := 29) hts (fun _ h => List.mem_cons_of_mem _ (List.mem_append_right _ (h))) hown hK rfl (by decide) (hts (.fieldLink RX10 46 "MortarShowModel" "value" "[I") (List.mem_of_getElem? (i := 2) rfl))
  have hl := lv_entry ([.ref (ad 60), .int a, .int b, .int d]) (n := 5) (Nat.le_of_ble_eq_true rfl)
  rw [lg_entry_eq]
  generalize (lg_sl ([.ref (ad 60), .int a, .int b, .int d]) ++ List.replicate (5 - (lg_sl ([.ref (ad 60), .int a, .int b, .int d])).length) Slot.unset).toArray = ls at hl ⊢
  have hl : lv_has ls 5 [(0, .ref (ad 60)), (1, .int a), (2, .int b), (3, .int d)] := hl
  obtain ⟨ok, hR, hV, hT⟩ := hMX
  have hMX : MX σ v M := ⟨ok, hR, hV, hT⟩
  have o1 := ok.1
  refine lv_aload_n hx hb dX10_setValue_0 rfl (lv_at hl 0 rfl) ?_
  have J24 : ∀ (y : Int32) (H : Heap) (locs : List Loc), (y = bI (zoB a b && inB d 0 100000000)) → WS D cA sh ad A s.heap M H locs → ∀ ls, lv_has ls 5 [(0, .ref (ad 60)), (1, .int a), (2, .int b), (3, .int d)] → W p l e (headSpec wsX10_setValue { frames := 2, cells := 0, slots := 0, locals := 43 }).room s m ([.ref (ad 60), .int a, .int b, .int d] : List Value).toArray below meth cd0 H locs 0 0 (MQ below (wQi D cA sh ad (fun r M' => oI moS M M' ∧ gI M' 60 28 = nI (thr (zoB a b && inB d 0 100000000) true) ∧ ((zoB a b && inB d 0 100000000) = false → MX σ v M') ∧ ((zoB a b && inB d 0 100000000) = true → MX σ (fun k => if k = 8 * n1 b + n1 a then d else v.1 k, v.2) M' ∧ r = v.1 (8 * n1 b + n1 a))) A) ([.ref (ad 60), .int a, .int b, .int d] : List Value).toArray s 0 0 A) (F0 m 24 ls [.int y, .ref (ad 60)]) := by
    intro y H locs hy hW ls hl
    refine lv_iconst (v := 1) hx hb dX10_setValue_24 (by decide) ?_
    refine wc_wi (va_runV (As := [.int y, .int 1]) (rest := []) ⟨hx, hb, hml, hown, hts⟩ (c_X10_goes l D cA sh ad M _ hMs y 1 (zoB a b && inB d 0 100000000) true hy rfl) (cwV 2 hts gX10_setValue_X10_goes rfl rfl rfl (by decide +kernel) ⟨Nat.le_of_ble_eq_true rfl, Nat.le_of_ble_eq_true rfl⟩) (wpreV hK hW (C := RX10) (ci := 10) (hMs 60 (by decide) (by decide)) rfl) rfl rfl hl.1 rfl (lv_room (Nat.le_of_ble_eq_true rfl)) dX10_setValue_25 ⟨Nat.le_of_ble_eq_true rfl, Nat.le_of_ble_eq_true rfl⟩) hA hW (fun x25' M25' H locs p25' hW => ?_)
    try dsimp only at p25'
    refine lv_if_ne (tgt := 33) hx hb dX10_setValue_28 (by decide) (fun c28' => ?_) (fun c28' => ?_)
    · have hG : (zoB a b && inB d 0 100000000) = true := bT p25'.1 c28'
      have hG2 := hG
      simp only [Bool.and_eq_true] at hG2
      obtain ⟨x, y1, hx8, hy8, exx, eyy⟩ := zo_n hG2.1
      have f1 : n1 a = x := by rw [exx]; exact n1_nI (by omega)
      have f2 : n1 b = y1 := by rw [eyy]; exact n1_nI (by omega)
      refine lv_aload_n hx hb dX10_setValue_33 rfl (lv_at hl 0 rfl) ?_
      refine wgF (t := 73) hx hb fa46 hW (hMs 60 (by decide) (by decide)) rfl dX10_setValue_34 ?_
      refine lv_bipush (v := 8) hx hb dX10_setValue_37 (by decide) ?_
      refine lv_iload_n hx hb dX10_setValue_39 rfl (lv_at hl 2 rfl) ?_
      refine lv_imul hx hb dX10_setValue_40 ?_
      refine lv_topi (fun x40' e40' => ?_)
      have n40' : x40' = nI (8 * y1) := (by rw [e40', (nlit 8), eyy, pk_mul])
      refine lv_iload_n hx hb dX10_setValue_41 rfl (lv_at hl 1 rfl) ?_
      refine lv_iadd hx hb dX10_setValue_42 ?_
      refine lv_topi (fun x42' e42' => ?_)
      have n42' : x42' = nI ((8 * y1) + x) := (by rw [e42', n40', exx, nI_add])
      refine walI (j := ((8 * y1) + x)) hx hb hK hW (hMs 73 (by decide) (by decide)) n42' (by omega) (by decide) dX10_setValue_43 (fun x43' e43' => ?_)
      refine lv_istore (lv' := [(4, .int x43'), (0, .ref (ad 60)), (1, .int a), (2, .int b), (3, .int d)]) hx hb dX10_setValue_44 hl (by decide) rfl (fun ls hl => ?_)
      refine lv_aload_n hx hb dX10_setValue_46 rfl (lv_at hl 1 rfl) ?_
      refine wgF (t := 73) hx hb fa46 hW (hMs 60 (by decide) (by decide)) rfl dX10_setValue_47 ?_
      refine lv_bipush (v := 8) hx hb dX10_setValue_50 (by decide) ?_
      refine lv_iload_n hx hb dX10_setValue_52 rfl (lv_at hl 3 rfl) ?_
      refine lv_imul hx hb dX10_setValue_53 ?_
      refine lv_topi (fun x53' e53' => ?_)
      have n53' : x53' = nI (8 * y1) := (by rw [e53', (nlit 8), eyy, pk_mul])
      refine lv_iload_n hx hb dX10_setValue_54 rfl (lv_at hl 2 rfl) ?_
      refine lv_iadd hx hb dX10_setValue_55 ?_
      refine lv_topi (fun x55' e55' => ?_)
      have n55' : x55' = nI ((8 * y1) + x) := (by rw [e55', n53', exx, nI_add])
      refine lv_iload_n hx hb dX10_setValue_56 rfl (lv_at hl 4 rfl) ?_
      refine wasI (j := ((8 * y1) + x)) hx hb hK hA hW (hMs 73 (by decide) (by decide)) n55' (by omega) (by decide) dX10_setValue_57 (fun M57' H locs eM57 hW => ?_)
      refine lv_iload hx hb dX10_setValue_58 (lv_at hl 0 rfl) ?_
      exact wr_wi hx hb hr hlocks hW dX10_setValue_60 (by rw [f1, f2]; exact ⟨(by rw [eM57]; exact (oI.put (go_mo p25'.2.2) (by unfold moS; omega))), (by rw [eM57, gI_sI, if_neg (by omega)]; exact p25'.2.1), fun z => absurd (hG.symm.trans z) (by decide), fun _ => ⟨by rw [eM57]; exact MX_val (hMX.oI p25'.2.2 (fun p k z => by omega)), by rw [e43', p25'.2.2.1 _ _ (by omega)]; exact hV _ (by omega)⟩⟩)
    · have hG : (zoB a b && inB d 0 100000000) = false := bF p25'.1 c28'
      refine lv_iconst (v := 0) hx hb dX10_setValue_31 (by decide) ?_
      exact wr_wi hx hb hr hlocks hW dX10_setValue_32 ⟨go_mo p25'.2.2, p25'.2.1, fun _ => hMX.oI p25'.2.2 (fun p k z => by omega), fun z => absurd (hG.symm.trans z) (by decide)⟩
  refine lv_iload_n hx hb dX10_setValue_1 rfl (lv_at hl 1 rfl) ?_
  refine lv_iload_n hx hb dX10_setValue_2 rfl (lv_at hl 2 rfl) ?_
  refine wc_ri (va_runS (As := [.int a, .int b]) (rest := [.ref (ad 60)]) ⟨hx, hb, hml, hown, hts⟩ (c_X10_isZone l a b) (va_cwS 2 hts gX10_setValue_X10_isZone rfl rfl rfl (by decide +kernel) ⟨Nat.le_of_ble_eq_true rfl, Nat.le_of_ble_eq_true rfl⟩) npreS rfl rfl hl.1 rfl (lv_room (Nat.le_of_ble_eq_true rfl)) dX10_setValue_3 ⟨Nat.le_of_ble_eq_true rfl, Nat.le_of_ble_eq_true rfl⟩) hW (fun x3' H locs p3' hW => ?_)
  try dsimp only at p3'
  refine lv_if_eq (tgt := 23) hx hb dX10_setValue_6 (by decide) (fun c6' => ?_) (fun c6' => ?_)
  · refine lv_iconst (v := 0) hx hb dX10_setValue_23 (by decide) ?_
    exact J24 0 _ _ (by first | (rw [bI_z.mp (p3'.symm.trans c6')]; rfl) | (rw [bI_z.mp (p3'.symm.trans c6')]; simp; done) | (rw [bI_t.mp (fun z => c6' (p3'.trans z)), bI_z.mp (p13'.symm.trans c16')]; rfl) | (rw [bI_t.mp (fun z => c6' (p3'.trans z)), bI_z.mp (p13'.symm.trans c16')]; simp; done) | (rw [bI_t.mp (fun z => c6' (p3'.trans z)), bI_t.mp (fun z => c16' (p13'.trans z))]; rfl)) hW ls (lv_sub hl [0, 1, 2, 3] rfl)
  · refine lv_iload_n hx hb dX10_setValue_9 rfl (lv_at hl 3 rfl) ?_
    refine lv_iconst (v := 0) hx hb dX10_setValue_10 (by decide) ?_
    refine lv_ldc (v := 100000000) hx hb hown (hts (.constant RX10 122 (100000000)) (List.mem_of_getElem? (i := 1) rfl)) dX10_setValue_11 ?_
    refine wc_ri (va_runS (As := [.int d, .int 0, .int 100000000]) (rest := [.ref (ad 60)]) ⟨hx, hb, hml, hown, hts⟩ (c_X10_in l d 0 100000000) (va_cwS 3 hts gX10_setValue_X10_in rfl rfl rfl (by decide +kernel) ⟨Nat.le_of_ble_eq_true rfl, Nat.le_of_ble_eq_true rfl⟩) npreS rfl rfl hl.1 rfl (lv_room (Nat.le_of_ble_eq_true rfl)) dX10_setValue_13 ⟨Nat.le_of_ble_eq_true rfl, Nat.le_of_ble_eq_true rfl⟩) hW (fun x13' H locs p13' hW => ?_)
    try dsimp only at p13'
    refine lv_if_eq (tgt := 23) hx hb dX10_setValue_16 (by decide) (fun c16' => ?_) (fun c16' => ?_)
    · refine lv_iconst (v := 0) hx hb dX10_setValue_23 (by decide) ?_
      exact J24 0 _ _ (by first | (rw [bI_z.mp (p3'.symm.trans c6')]; rfl) | (rw [bI_z.mp (p3'.symm.trans c6')]; simp; done) | (rw [bI_t.mp (fun z => c6' (p3'.trans z)), bI_z.mp (p13'.symm.trans c16')]; rfl) | (rw [bI_t.mp (fun z => c6' (p3'.trans z)), bI_z.mp (p13'.symm.trans c16')]; simp; done) | (rw [bI_t.mp (fun z => c6' (p3'.trans z)), bI_t.mp (fun z => c16' (p13'.trans z))]; rfl)) hW ls (lv_sub hl [0, 1, 2, 3] rfl)
    · refine lv_iconst (v := 1) hx hb dX10_setValue_19 (by decide) ?_
      refine lv_goto (tgt := 24) hx hb dX10_setValue_20 (by decide) ?_
      exact J24 1 _ _ (by first | (rw [bI_z.mp (p3'.symm.trans c6')]; rfl) | (rw [bI_z.mp (p3'.symm.trans c6')]; simp; done) | (rw [bI_t.mp (fun z => c6' (p3'.trans z)), bI_z.mp (p13'.symm.trans c16')]; rfl) | (rw [bI_t.mp (fun z => c6' (p3'.trans z)), bI_z.mp (p13'.symm.trans c16')]; simp; done) | (rw [bI_t.mp (fun z => c6' (p3'.trans z)), bI_t.mp (fun z => c16' (p13'.trans z))]; rfl)) hW ls (lv_sub hl [0, 1, 2, 3] rfl)
set_option maxHeartbeats 4000000 in
set_option maxRecDepth 100000 in
theorem c_X10_setRate (l : Launch) (D : va_G) (cA : Nat → ClassId) (sh : Nat → Option Sh) (ad : Nat → Nat) (M : MS) (sz : Nat) (σ : AS) (v : VT) (hMs : MSh sh) (hMX : MX σ v M) (a b : Int32) : Met l yX10_setRate wsX10_setRate ({ frames := 1, cells := 0, slots := 0, locals := 22 }) (wPc D cA sh ad M sz [.ref (ad 60), .int a, .int b]) (wQi D cA sh ad (fun r M' => oI moS M M' ∧ gI M' 60 28 = nI (thr (inB a 0 9 && inB b 0 100000) true) ∧ ((inB a 0 9 && inB b 0 100000) = false → MX σ v M') ∧ ((inB a 0 9 && inB b 0 100000) = true → MX σ (v.1, fun k => if k = n1 a then b else v.2 k) M' ∧ r = v.2 (n1 a))) (wA sh ad sz)) 0 0 (wA sh ad sz) := by
  refine Met.ofW (cc := cX10_setRate) (maxL := 4) (ret := (some .int)) (by decide) rfl ?_
  intro p e s m args below meth cd0 s₁ B hml hv
  obtain ⟨rfl, hsz, hM, hK⟩ := hv
  have hx := B.exec
  have hb := B.bytes
  have hr := B.returns
  have hts := atoms_spec (ws := wsX10_setRate) B.pre
  have hown : s.vm.findClass RX10 = some m.cls := findClass_of_methodNamed B.named
  have hlocks := B.notSynchronized
  subst hsz
  have hA := wA_PA sh ad s.heap
  generalize wA sh ad s.heap.size = A at hA ⊢
  have hW : WS D cA sh ad A s.heap M s.heap [] := ⟨hM, va_S.rf⟩
  have fa49 : FA D s m ([.ref (ad 60), .int a, .int b] : List Value).toArray 49 10 13 := FA.mk (C := RX10) (T := TX10) (N := 29) hts (fun _ h => List.mem_cons_of_mem _ (List.mem_append_right _ (h))) hown hK rfl (by decide) (hts (.fieldLink RX10 49 "MortarShowModel" "rate" "[I") (List.mem_of_getElem? (i := 2) rfl))
  have hl := lv_entry ([.ref (ad 60), .int a, .int b]) (n := 4) (Nat.le_of_ble_eq_true rfl)
  rw [lg_entry_eq]
  generalize (lg_sl ([.ref (ad 60), .int a, .int b]) ++ List.replicate (4 - (lg_sl ([.ref (ad 60), .int a, .int b])).length) Slot.unset).toArray = ls at hl ⊢
  have hl : lv_has ls 4 [(0, .ref (ad 60)), (1, .int a), (2, .int b)] := hl
  obtain ⟨ok, hR, hV, hT⟩ := hMX
  have hMX : MX σ v M := ⟨ok, hR, hV, hT⟩
  have o1 := ok.1
  refine lv_aload_n hx hb dX10_setRate_0 rfl (lv_at hl 0 rfl) ?_
  have J26 : ∀ (y : Int32) (H : Heap) (locs : List Loc), (y = bI (inB a 0 9 && inB b 0 100000)) → WS D cA sh ad A s.heap M H locs → ∀ ls, lv_has ls 4 [(0, .ref (ad 60)), (1, .int a), (2, .int b)] → W p l e (headSpec wsX10_setRate { frames := 1, cells := 0, slots := 0, locals := 22 }).room s m ([.ref (ad 60), .int a, .int b] : List Value).toArray below meth cd0 H locs 0 0 (MQ below (wQi D cA sh ad (fun r M' => oI moS M M' ∧ gI M' 60 28 = nI (thr (inB a 0 9 && inB b 0 100000) true) ∧ ((inB a 0 9 && inB b 0 100000) = false → MX σ v M') ∧ ((inB a 0 9 && inB b 0 100000) = true → MX σ (v.1, fun k => if k = n1 a then b else v.2 k) M' ∧ r = v.2 (n1 a))) A) ([.ref (ad 60), .int a, .int b] : List Value).toArray s 0 0 A) (F0 m 26 ls [.int y, .ref (ad 60)]) := by
    intro y H locs hy hW ls hl
    refine lv_iconst (v := 1) hx hb dX10_setRate_26 (by decide) ?_
    refine wc_wi (va_runV (As := [.int y, .int 1]) (rest := []) ⟨hx, hb, hml, hown, hts⟩ (c_X10_goes l D cA sh ad M _ hMs y 1 (inB a 0 9 && inB b 0 100000) true hy rfl) (cwV 2 hts gX10_setRate_X10_goes rfl rfl rfl (by decide +kernel) ⟨Nat.le_of_ble_eq_true rfl, Nat.le_of_ble_eq_true rfl⟩) (wpreV hK hW (C := RX10) (ci := 10) (hMs 60 (by decide) (by decide)) rfl) rfl rfl hl.1 rfl (lv_room (Nat.le_of_ble_eq_true rfl)) dX10_setRate_27 ⟨Nat.le_of_ble_eq_true rfl, Nat.le_of_ble_eq_true rfl⟩) hA hW (fun x27' M27' H locs p27' hW => ?_)
    try dsimp only at p27'
    refine lv_if_ne (tgt := 35) hx hb dX10_setRate_30 (by decide) (fun c30' => ?_) (fun c30' => ?_)
    · have hG : (inB a 0 9 && inB b 0 100000) = true := bT p27'.1 c30'
      have hG2 := hG
      simp only [Bool.and_eq_true] at hG2
      obtain ⟨x, hx8, exx⟩ := in_n (n := 9) (by decide) hG2.1
      have f1 : n1 a = x := by rw [exx]; exact n1_nI (by omega)
      refine lv_aload_n hx hb dX10_setRate_35 rfl (lv_at hl 0 rfl) ?_
      refine wgF (t := 74) hx hb fa49 hW (hMs 60 (by decide) (by decide)) rfl dX10_setRate_36 ?_
      refine lv_iload_n hx hb dX10_setRate_39 rfl (lv_at hl 1 rfl) ?_
      refine walI (j := x) hx hb hK hW (hMs 74 (by decide) (by decide)) exx (by omega) (by decide) dX10_setRate_40 (fun x40' e40' => ?_)
      refine lv_istore_n (lv' := [(3, .int x40'), (0, .ref (ad 60)), (1, .int a), (2, .int b)]) hx hb dX10_setRate_41 rfl hl (by decide) rfl (fun ls hl => ?_)
      refine lv_aload_n hx hb dX10_setRate_42 rfl (lv_at hl 1 rfl) ?_
      refine wgF (t := 74) hx hb fa49 hW (hMs 60 (by decide) (by decide)) rfl dX10_setRate_43 ?_
      refine lv_iload_n hx hb dX10_setRate_46 rfl (lv_at hl 2 rfl) ?_
      refine lv_iload_n hx hb dX10_setRate_47 rfl (lv_at hl 3 rfl) ?_
      refine wasI (j := x) hx hb hK hA hW (hMs 74 (by decide) (by decide)) exx (by omega) (by decide) dX10_setRate_48 (fun M48' H locs eM48 hW => ?_)
      refine lv_iload_n hx hb dX10_setRate_49 rfl (lv_at hl 0 rfl) ?_
      exact wr_wi hx hb hr hlocks hW dX10_setRate_50 (by rw [f1]; exact ⟨(by rw [eM48]; exact (oI.put (go_mo p27'.2.2) (by unfold moS; omega))), (by rw [eM48, gI_sI, if_neg (by omega)]; exact p27'.2.1), fun z => absurd (hG.symm.trans z) (by decide), fun _ => ⟨by rw [eM48]; exact MX_rate (hMX.oI p27'.2.2 (fun p k z => by omega)), by rw [e40', p27'.2.2.1 _ _ (by omega)]; exact hT _ (by omega)⟩⟩)
    · have hG : (inB a 0 9 && inB b 0 100000) = false := bF p27'.1 c30'
      refine lv_iconst (v := 0) hx hb dX10_setRate_33 (by decide) ?_
      exact wr_wi hx hb hr hlocks hW dX10_setRate_34 ⟨go_mo p27'.2.2, p27'.2.1, fun _ => hMX.oI p27'.2.2 (fun p k z => by omega), fun z => absurd (hG.symm.trans z) (by decide)⟩
  refine lv_iload_n hx hb dX10_setRate_1 rfl (lv_at hl 1 rfl) ?_
  refine lv_iconst (v := 0) hx hb dX10_setRate_2 (by decide) ?_
  refine lv_bipush (v := 9) hx hb dX10_setRate_3 (by decide) ?_
  refine wc_ri (va_runS (As := [.int a, .int 0, .int 9]) (rest := [.ref (ad 60)]) ⟨hx, hb, hml, hown, hts⟩ (c_X10_in l a 0 9) (va_cwS 3 hts gX10_setRate_X10_in rfl rfl rfl (by decide +kernel) ⟨Nat.le_of_ble_eq_true rfl, Nat.le_of_ble_eq_true rfl⟩) npreS rfl rfl hl.1 rfl (lv_room (Nat.le_of_ble_eq_true rfl)) dX10_setRate_5 ⟨Nat.le_of_ble_eq_true rfl, Nat.le_of_ble_eq_true rfl⟩) hW (fun x5' H locs p5' hW => ?_)
  try dsimp only at p5'
  refine lv_if_eq (tgt := 25) hx hb dX10_setRate_8 (by decide) (fun c8' => ?_) (fun c8' => ?_)
  · refine lv_iconst (v := 0) hx hb dX10_setRate_25 (by decide) ?_
    exact J26 0 _ _ (by first | (rw [bI_z.mp (p5'.symm.trans c8')]; rfl) | (rw [bI_z.mp (p5'.symm.trans c8')]; simp; done) | (rw [bI_t.mp (fun z => c8' (p5'.trans z)), bI_z.mp (p15'.symm.trans c18')]; rfl) | (rw [bI_t.mp (fun z => c8' (p5'.trans z)), bI_z.mp (p15'.symm.trans c18')]; simp; done) | (rw [bI_t.mp (fun z => c8' (p5'.trans z)), bI_t.mp (fun z => c18' (p15'.trans z))]; rfl)) hW ls (lv_sub hl [0, 1, 2] rfl)
  · refine lv_iload_n hx hb dX10_setRate_11 rfl (lv_at hl 2 rfl) ?_
    refine lv_iconst (v := 0) hx hb dX10_setRate_12 (by decide) ?_
    refine lv_ldc (v := 100000) hx hb hown (hts (.constant RX10 178 (100000)) (List.mem_of_getElem? (i := 1) rfl)) dX10_setRate_13 ?_
    refine wc_ri (va_runS (As := [.int b, .int 0, .int 100000]) (rest := [.ref (ad 60)]) ⟨hx, hb, hml, hown, hts⟩ (c_X10_in l b 0 100000) (va_cwS 3 hts gX10_setRate_X10_in rfl rfl rfl (by decide +kernel) ⟨Nat.le_of_ble_eq_true rfl, Nat.le_of_ble_eq_true rfl⟩) npreS rfl rfl hl.1 rfl (lv_room (Nat.le_of_ble_eq_true rfl)) dX10_setRate_15 ⟨Nat.le_of_ble_eq_true rfl, Nat.le_of_ble_eq_true rfl⟩) hW (fun x15' H locs p15' hW => ?_)
    try dsimp only at p15'
    refine lv_if_eq (tgt := 25) hx hb dX10_setRate_18 (by decide) (fun c18' => ?_) (fun c18' => ?_)
    · refine lv_iconst (v := 0) hx hb dX10_setRate_25 (by decide) ?_
      exact J26 0 _ _ (by first | (rw [bI_z.mp (p5'.symm.trans c8')]; rfl) | (rw [bI_z.mp (p5'.symm.trans c8')]; simp; done) | (rw [bI_t.mp (fun z => c8' (p5'.trans z)), bI_z.mp (p15'.symm.trans c18')]; rfl) | (rw [bI_t.mp (fun z => c8' (p5'.trans z)), bI_z.mp (p15'.symm.trans c18')]; simp; done) | (rw [bI_t.mp (fun z => c8' (p5'.trans z)), bI_t.mp (fun z => c18' (p15'.trans z))]; rfl)) hW ls (lv_sub hl [0, 1, 2] rfl)
    · refine lv_iconst (v := 1) hx hb dX10_setRate_21 (by decide) ?_
      refine lv_goto (tgt := 26) hx hb dX10_setRate_22 (by decide) ?_
      exact J26 1 _ _ (by first | (rw [bI_z.mp (p5'.symm.trans c8')]; rfl) | (rw [bI_z.mp (p5'.symm.trans c8')]; simp; done) | (rw [bI_t.mp (fun z => c8' (p5'.trans z)), bI_z.mp (p15'.symm.trans c18')]; rfl) | (rw [bI_t.mp (fun z => c8' (p5'.trans z)), bI_z.mp (p15'.symm.trans c18')]; simp; done) | (rw [bI_t.mp (fun z => c8' (p5'.trans z)), bI_t.mp (fun z => c18' (p15'.trans z))]; rfl)) hW ls (lv_sub hl [0, 1, 2] rfl)
set_option maxHeartbeats 4000000 in
set_option maxRecDepth 100000 in
theorem c_X10_cue (l : Launch) (D : va_G) (cA : Nat → ClassId) (sh : Nat → Option Sh) (ad : Nat → Nat) (M : MS) (sz : Nat) (σ : AS) (v : VT) (hMs : MSh sh) (hMX : MX σ v M) (a b d : Int32) : Met l yX10_cue wsX10_cue ({ frames := 2, cells := 0, slots := 0, locals := 42 }) (wPc D cA sh ad M sz [.ref (ad 60), .int a, .int b, .int d]) (wQi D cA sh ad (fun r M' => oI moS M M' ∧ gI M' 60 28 = nI (thr (inB a 0 100 && inB b 0 3 && inB d 0 5) (decide (aN σ < 40))) ∧ (((inB a 0 100 && inB b 0 3 && inB d 0 5) && decide (aN σ < 40)) = false → MX σ v M') ∧ (((inB a 0 100 && inB b 0 3 && inB d 0 5) && decide (aN σ < 40)) = true → MX (oCue σ (n1 a) (n1 b) (n1 d)) v M' ∧ r = nI (aN σ))) (wA sh ad sz)) 0 0 (wA sh ad sz) := by
  refine Met.ofW (cc := cX10_cue) (maxL := 4) (ret := (some .int)) (by decide) rfl ?_
  intro p e s m args below meth cd0 s₁ B hml hv
  obtain ⟨rfl, hsz, hM, hK⟩ := hv
  have hx := B.exec
  have hb := B.bytes
  have hr := B.returns
  have hts := atoms_spec (ws := wsX10_cue) B.pre
  have hown : s.vm.findClass RX10 = some m.cls := findClass_of_methodNamed B.named
  have hlocks := B.notSynchronized
  subst hsz
  have hA := wA_PA sh ad s.heap
  generalize wA sh ad s.heap.size = A at hA ⊢
  have hW : WS D cA sh ad A s.heap M s.heap [] := ⟨hM, va_S.rf⟩
  have fa63 : FA D s m ([.ref (ad 60), .int a, .int b, .int d] : List Value).toArray 63 10 18 := FA.mk (C := RX10) (T := TX10) (N := 29) hts (fun _ h => List.mem_cons_of_mem _ (List.mem_append_right _ (h))) hown hK rfl (by decide) (hts (.fieldLink RX10 63 "MortarShowModel" "beat" "[I") (List.mem_of_getElem? (i := 2) rfl))
  have fa66 : FA D s m ([.ref (ad 60), .int a, .int b, .int d] : List Value).toArray 66 10 19 := FA.mk (C := RX10) (T := TX10) (N := 29) hts (fun _ h => List.mem_cons_of_mem _ (List.mem_append_right _ (h))) hown hK rfl (by decide) (hts (.fieldLink RX10 66 "MortarShowModel" "kind" "[I") (List.mem_of_getElem? (i := 3) rfl))
  have fa69 : FA D s m ([.ref (ad 60), .int a, .int b, .int d] : List Value).toArray 69 10 20 := FA.mk (C := RX10) (T := TX10) (N := 29) hts (fun _ h => List.mem_cons_of_mem _ (List.mem_append_right _ (h))) hown hK rfl (by decide) (hts (.fieldLink RX10 69 "MortarShowModel" "from" "[I") (List.mem_of_getElem? (i := 4) rfl))
  have fa101 : FA D s m ([.ref (ad 60), .int a, .int b, .int d] : List Value).toArray 101 10 17 := FA.mk (C := RX10) (T := TX10) (N := 29) hts (fun _ h => List.mem_cons_of_mem _ (List.mem_append_right _ (h))) hown hK rfl (by decide) (hts (.fieldLink RX10 101 "MortarShowModel" "cues" "I") (List.mem_of_getElem? (i := 1) rfl))
  have fw101 : FW D s m ([.ref (ad 60), .int a, .int b, .int d] : List Value).toArray 101 10 17 (.int) := FW.mk (C := RX10) (T := TX10) (N := 29) hts (fun _ h => List.mem_cons_of_mem _ (List.mem_append_right _ (h))) hown hK rfl (by decide) (hts (.fieldLink RX10 101 "MortarShowModel" "cues" "I") (List.mem_of_getElem? (i := 1) rfl)) tyX10 tyX10_ok nmX10 rfl rfl
  have hl := lv_entry ([.ref (ad 60), .int a, .int b, .int d]) (n := 4) (Nat.le_of_ble_eq_true rfl)
  rw [lg_entry_eq]
  generalize (lg_sl ([.ref (ad 60), .int a, .int b, .int d]) ++ List.replicate (4 - (lg_sl ([.ref (ad 60), .int a, .int b, .int d])).length) Slot.unset).toArray = ls at hl ⊢
  have hl : lv_has ls 4 [(0, .ref (ad 60)), (1, .int a), (2, .int b), (3, .int d)] := hl
  obtain ⟨ok, hR, hV, hT⟩ := hMX
  have hMX : MX σ v M := ⟨ok, hR, hV, hT⟩
  have o1 := ok.1
  refine lv_aload_n hx hb dX10_cue_0 rfl (lv_at hl 0 rfl) ?_
  have J32 : ∀ (y : Int32) (H : Heap) (locs : List Loc), (y = bI (inB a 0 100 && inB b 0 3 && inB d 0 5)) → WS D cA sh ad A s.heap M H locs → ∀ ls, lv_has ls 4 [(0, .ref (ad 60)), (1, .int a), (2, .int b), (3, .int d)] → W p l e (headSpec wsX10_cue { frames := 2, cells := 0, slots := 0, locals := 42 }).room s m ([.ref (ad 60), .int a, .int b, .int d] : List Value).toArray below meth cd0 H locs 0 0 (MQ below (wQi D cA sh ad (fun r M' => oI moS M M' ∧ gI M' 60 28 = nI (thr (inB a 0 100 && inB b 0 3 && inB d 0 5) (decide (aN σ < 40))) ∧ (((inB a 0 100 && inB b 0 3 && inB d 0 5) && decide (aN σ < 40)) = false → MX σ v M') ∧ (((inB a 0 100 && inB b 0 3 && inB d 0 5) && decide (aN σ < 40)) = true → MX (oCue σ (n1 a) (n1 b) (n1 d)) v M' ∧ r = nI (aN σ))) A) ([.ref (ad 60), .int a, .int b, .int d] : List Value).toArray s 0 0 A) (F0 m 32 ls [.int y, .ref (ad 60)]) := by
    intro y H locs hy hW ls hl
    have J46 : ∀ (y2 : Int32) (H : Heap) (locs : List Loc), (y2 = bI (decide (aN σ < 40))) → WS D cA sh ad A s.heap M H locs → ∀ ls, lv_has ls 4 [(0, .ref (ad 60)), (1, .int a), (2, .int b), (3, .int d)] → W p l e (headSpec wsX10_cue { frames := 2, cells := 0, slots := 0, locals := 42 }).room s m ([.ref (ad 60), .int a, .int b, .int d] : List Value).toArray below meth cd0 H locs 0 0 (MQ below (wQi D cA sh ad (fun r M' => oI moS M M' ∧ gI M' 60 28 = nI (thr (inB a 0 100 && inB b 0 3 && inB d 0 5) (decide (aN σ < 40))) ∧ (((inB a 0 100 && inB b 0 3 && inB d 0 5) && decide (aN σ < 40)) = false → MX σ v M') ∧ (((inB a 0 100 && inB b 0 3 && inB d 0 5) && decide (aN σ < 40)) = true → MX (oCue σ (n1 a) (n1 b) (n1 d)) v M' ∧ r = nI (aN σ))) A) ([.ref (ad 60), .int a, .int b, .int d] : List Value).toArray s 0 0 A) (F0 m 46 ls [.int y2, .int y, .ref (ad 60)]) := by
      intro y2 H locs hy2 hW ls hl
      refine wc_wi (va_runV (As := [.int y, .int y2]) (rest := []) ⟨hx, hb, hml, hown, hts⟩ (c_X10_goes l D cA sh ad M _ hMs y y2 (inB a 0 100 && inB b 0 3 && inB d 0 5) (decide (aN σ < 40)) hy hy2) (cwV 2 hts gX10_cue_X10_goes rfl rfl rfl (by decide +kernel) ⟨Nat.le_of_ble_eq_true rfl, Nat.le_of_ble_eq_true rfl⟩) (wpreV hK hW (C := RX10) (ci := 10) (hMs 60 (by decide) (by decide)) rfl) rfl rfl hl.1 rfl (lv_room (Nat.le_of_ble_eq_true rfl)) dX10_cue_46 ⟨Nat.le_of_ble_eq_true rfl, Nat.le_of_ble_eq_true rfl⟩) hA hW (fun x46' M46' H locs p46' hW => ?_)
      try dsimp only at p46'
      refine lv_if_ne (tgt := 54) hx hb dX10_cue_49 (by decide) (fun c49' => ?_) (fun c49' => ?_)
      · have hG : ((inB a 0 100 && inB b 0 3 && inB d 0 5) && decide (aN σ < 40)) = true := bI_t.mp (fun z => c49' (p46'.1.trans z))
        have hG2 := hG
        simp only [Bool.and_eq_true] at hG2
        obtain ⟨⟨⟨hGa, hGb⟩, hGd⟩, hGn⟩ := hG2
        have hn40 : aN σ < 40 := of_decide_eq_true hGn
        obtain ⟨bt, hbt, ebt⟩ := in_n (n := 100) (by decide) hGa
        obtain ⟨kd, hkd, ekd⟩ := in_n (n := 3) (by decide) hGb
        obtain ⟨rk, hrk, erk⟩ := in_n (n := 5) (by decide) hGd
        have f1 : n1 a = bt := by rw [ebt]; exact n1_nI (by omega)
        have f2 : n1 b = kd := by rw [ekd]; exact n1_nI (by omega)
        have f3 : n1 d = rk := by rw [erk]; exact n1_nI (by omega)
        have hXg := hMX.oI p46'.2.2 (fun p k z => by omega)
        have hRg := hXg.2.1
        refine lv_aload_n hx hb dX10_cue_54 rfl (lv_at hl 0 rfl) ?_
        refine wgF (t := 76) hx hb fa63 hW (hMs 60 (by decide) (by decide)) rfl dX10_cue_55 ?_
        refine lv_aload_n hx hb dX10_cue_58 rfl (lv_at hl 0 rfl) ?_
        refine wgI hx hb fa101 hW (hMs 60 (by decide) (by decide)) rfl dX10_cue_59 (fun x59' e59' => ?_)
        have n59' : x59' = nI (aN σ) := (e59'.trans hRg.2.2.2.2.2.2.2.2.2.1)
        refine lv_iload_n hx hb dX10_cue_62 rfl (lv_at hl 1 rfl) ?_
        refine wasI (j := (aN σ)) hx hb hK hA hW (hMs 76 (by decide) (by decide)) n59' (by omega) (by decide) dX10_cue_63 (fun M63' H locs eM63 hW => ?_)
        refine lv_aload_n hx hb dX10_cue_64 rfl (lv_at hl 0 rfl) ?_
        refine wgF (t := 77) hx hb fa66 hW (hMs 60 (by decide) (by decide)) rfl dX10_cue_65 ?_
        refine lv_aload_n hx hb dX10_cue_68 rfl (lv_at hl 0 rfl) ?_
        refine wgI hx hb fa101 hW (hMs 60 (by decide) (by decide)) rfl dX10_cue_69 (fun x69' e69' => ?_)
        have n69' : x69' = nI (aN σ) := (by rw [e69', eM63, gI_sI, if_neg (by omega)]; exact hRg.2.2.2.2.2.2.2.2.2.1)
        refine lv_iload_n hx hb dX10_cue_72 rfl (lv_at hl 2 rfl) ?_
        refine wasI (j := (aN σ)) hx hb hK hA hW (hMs 77 (by decide) (by decide)) n69' (by omega) (by decide) dX10_cue_73 (fun M73' H locs eM73 hW => ?_)
        refine lv_aload_n hx hb dX10_cue_74 rfl (lv_at hl 0 rfl) ?_
        refine wgF (t := 78) hx hb fa69 hW (hMs 60 (by decide) (by decide)) rfl dX10_cue_75 ?_
        refine lv_aload_n hx hb dX10_cue_78 rfl (lv_at hl 0 rfl) ?_
        refine wgI hx hb fa101 hW (hMs 60 (by decide) (by decide)) rfl dX10_cue_79 (fun x79' e79' => ?_)
        have n79' : x79' = nI (aN σ) := (by rw [e79', eM73, gI_sI, if_neg (by omega), eM63, gI_sI, if_neg (by omega)]; exact hRg.2.2.2.2.2.2.2.2.2.1)
        refine lv_iload_n hx hb dX10_cue_82 rfl (lv_at hl 3 rfl) ?_
        refine wasI (j := (aN σ)) hx hb hK hA hW (hMs 78 (by decide) (by decide)) n79' (by omega) (by decide) dX10_cue_83 (fun M83' H locs eM83 hW => ?_)
        refine lv_aload_n hx hb dX10_cue_84 rfl (lv_at hl 0 rfl) ?_
        refine lv_dup hx hb dX10_cue_85 rfl ?_
        refine wgI hx hb fa101 hW (hMs 60 (by decide) (by decide)) rfl dX10_cue_86 (fun x86' e86' => ?_)
        have n86' : x86' = nI (aN σ) := (by rw [e86', eM83, gI_sI, if_neg (by omega), eM73, gI_sI, if_neg (by omega), eM63, gI_sI, if_neg (by omega)]; exact hRg.2.2.2.2.2.2.2.2.2.1)
        refine lv_iconst (v := 1) hx hb dX10_cue_89 (by decide) ?_
        refine lv_iadd hx hb dX10_cue_90 ?_
        refine lv_topi (fun x90' e90' => ?_)
        have n90' : x90' = nI ((aN σ) + 1) := (by rw [e90', n86', (nlit 1), nI_add])
        refine wpI hx hb fw101 hA hW (hMs 60 (by decide) (by decide)) rfl dX10_cue_91 (fun M91' H locs eM91 hW => ?_)
        refine lv_aload_n hx hb dX10_cue_94 rfl (lv_at hl 0 rfl) ?_
        refine wgI hx hb fa101 hW (hMs 60 (by decide) (by decide)) rfl dX10_cue_95 (fun x95' e95' => ?_)
        refine lv_iconst (v := 1) hx hb dX10_cue_98 (by decide) ?_
        refine lv_isub hx hb dX10_cue_99 ?_
        refine lv_topi (fun x99' e99' => ?_)
        exact wr_wi hx hb hr hlocks hW dX10_cue_100 (by rw [f1, f2, f3]; exact ⟨(by rw [eM91, eM83, eM73, eM63]; exact (oI.put (oI.put (oI.put (oI.put (go_mo p46'.2.2) (by unfold moS; omega)) (by unfold moS; omega)) (by unfold moS; omega)) (by unfold moS; omega))), (by rw [eM91, gI_sI, if_neg (by omega), eM83, gI_sI, if_neg (by omega), eM73, gI_sI, if_neg (by omega), eM63, gI_sI, if_neg (by omega)]; exact p46'.2.1), fun z => absurd (hG.symm.trans z) (by decide), fun _ => ⟨⟨AOK_cue ok hn40 (by omega) (by omega) (by omega), MR_Cue hR (by rw [eM91, gI_sI, if_pos ⟨rfl, rfl⟩, n90']) ⟨by rw [eM91, gI_sI, if_neg (by omega), eM83, gI_sI, if_neg (by omega), eM73, gI_sI, if_neg (by omega), eM63, gI_sI, if_pos ⟨rfl, rfl⟩]; exact ebt, by rw [eM91, gI_sI, if_neg (by omega), eM83, gI_sI, if_neg (by omega), eM73, gI_sI, if_pos ⟨rfl, rfl⟩]; exact ekd, by rw [eM91, gI_sI, if_neg (by omega), eM83, gI_sI, if_pos ⟨rfl, rfl⟩]; exact erk⟩ (fun p k hx hn => by unfold MRs at hx; rw [eM91, gI_sI, if_neg (by omega), eM83, gI_sI, if_neg (by omega), eM73, gI_sI, if_neg (by omega), eM63, gI_sI, if_neg (by omega)]; exact p46'.2.2.1 p k (fun z => by omega)), (fun k hk => by rw [eM91, gI_sI, if_neg (by omega), eM83, gI_sI, if_neg (by omega), eM73, gI_sI, if_neg (by omega), eM63, gI_sI, if_neg (by omega), p46'.2.2.1 _ _ (by omega)]; exact hV k hk), (fun k hk => by rw [eM91, gI_sI, if_neg (by omega), eM83, gI_sI, if_neg (by omega), eM73, gI_sI, if_neg (by omega), eM63, gI_sI, if_neg (by omega), p46'.2.2.1 _ _ (by omega)]; exact hT k hk)⟩, by rw [e99', e95', eM91, gI_sI, if_pos ⟨rfl, rfl⟩, n90', nlit 1]; exact pk_sub (by omega)⟩⟩)
      · have hG : ((inB a 0 100 && inB b 0 3 && inB d 0 5) && decide (aN σ < 40)) = false := bI_z.mp (p46'.1.symm.trans c49')
        refine lv_iconst (v := 0) hx hb dX10_cue_52 (by decide) ?_
        exact wr_wi hx hb hr hlocks hW dX10_cue_53 ⟨go_mo p46'.2.2, p46'.2.1, fun _ => hMX.oI p46'.2.2 (fun p k z => by omega), fun z => absurd (hG.symm.trans z) (by decide)⟩
    refine lv_aload_n hx hb dX10_cue_32 rfl (lv_at hl 0 rfl) ?_
    refine wgI hx hb fa101 hW (hMs 60 (by decide) (by decide)) rfl dX10_cue_33 (fun x33' e33' => ?_)
    have n33' : x33' = nI (aN σ) := (e33'.trans hR.2.2.2.2.2.2.2.2.2.1)
    refine lv_bipush (v := 40) hx hb dX10_cue_36 (by decide) ?_
    refine lv_icmp_ge (tgt := 45) hx hb dX10_cue_38 (by decide) (fun c38' => ?_) (fun c38' => ?_)
    · have k38' : 40 ≤ (aN σ) := kc_ge n33' (nlit 40) (by omega) (by omega) c38'
      refine lv_iconst (v := 0) hx hb dX10_cue_45 (by decide) ?_
      exact J46 0 _ _ (by first | (rw [decide_eq_true (by omega)]; rfl) | (rw [decide_eq_false (by omega)]; rfl)) hW ls (lv_sub hl [0, 1, 2, 3] rfl)
    · have k38' : ¬ 40 ≤ (aN σ) := kc_gen n33' (nlit 40) (by omega) (by omega) c38'
      refine lv_iconst (v := 1) hx hb dX10_cue_41 (by decide) ?_
      refine lv_goto (tgt := 46) hx hb dX10_cue_42 (by decide) ?_
      exact J46 1 _ _ (by first | (rw [decide_eq_true (by omega)]; rfl) | (rw [decide_eq_false (by omega)]; rfl)) hW ls (lv_sub hl [0, 1, 2, 3] rfl)
  refine lv_iload_n hx hb dX10_cue_1 rfl (lv_at hl 1 rfl) ?_
  refine lv_iconst (v := 0) hx hb dX10_cue_2 (by decide) ?_
  refine lv_bipush (v := 100) hx hb dX10_cue_3 (by decide) ?_
  refine wc_ri (va_runS (As := [.int a, .int 0, .int 100]) (rest := [.ref (ad 60)]) ⟨hx, hb, hml, hown, hts⟩ (c_X10_in l a 0 100) (va_cwS 3 hts gX10_cue_X10_in rfl rfl rfl (by decide +kernel) ⟨Nat.le_of_ble_eq_true rfl, Nat.le_of_ble_eq_true rfl⟩) npreS rfl rfl hl.1 rfl (lv_room (Nat.le_of_ble_eq_true rfl)) dX10_cue_5 ⟨Nat.le_of_ble_eq_true rfl, Nat.le_of_ble_eq_true rfl⟩) hW (fun x5' H locs p5' hW => ?_)
  try dsimp only at p5'
  refine lv_if_eq (tgt := 31) hx hb dX10_cue_8 (by decide) (fun c8' => ?_) (fun c8' => ?_)
  · refine lv_iconst (v := 0) hx hb dX10_cue_31 (by decide) ?_
    exact J32 0 _ _ (by first | (rw [bI_z.mp (p5'.symm.trans c8')]; rfl) | (rw [bI_z.mp (p5'.symm.trans c8')]; simp; done) | (rw [bI_t.mp (fun z => c8' (p5'.trans z)), bI_z.mp (p12'.symm.trans c15')]; rfl) | (rw [bI_t.mp (fun z => c8' (p5'.trans z)), bI_z.mp (p12'.symm.trans c15')]; simp; done) | (rw [bI_t.mp (fun z => c8' (p5'.trans z)), bI_t.mp (fun z => c15' (p12'.trans z)), bI_z.mp (p21'.symm.trans c24')]; rfl) | (rw [bI_t.mp (fun z => c8' (p5'.trans z)), bI_t.mp (fun z => c15' (p12'.trans z)), bI_z.mp (p21'.symm.trans c24')]; simp; done) | (rw [bI_t.mp (fun z => c8' (p5'.trans z)), bI_t.mp (fun z => c15' (p12'.trans z)), bI_t.mp (fun z => c24' (p21'.trans z))]; rfl)) hW ls (lv_sub hl [0, 1, 2, 3] rfl)
  · refine lv_iload_n hx hb dX10_cue_11 rfl (lv_at hl 2 rfl) ?_
    refine wc_ri (va_runS (As := [.int b]) (rest := [.ref (ad 60)]) ⟨hx, hb, hml, hown, hts⟩ (c_X10_isKind l b) (va_cwS 1 hts gX10_cue_X10_isKind rfl rfl rfl (by decide +kernel) ⟨Nat.le_of_ble_eq_true rfl, Nat.le_of_ble_eq_true rfl⟩) npreS rfl rfl hl.1 rfl (lv_room (Nat.le_of_ble_eq_true rfl)) dX10_cue_12 ⟨Nat.le_of_ble_eq_true rfl, Nat.le_of_ble_eq_true rfl⟩) hW (fun x12' H locs p12' hW => ?_)
    try dsimp only at p12'
    refine lv_if_eq (tgt := 31) hx hb dX10_cue_15 (by decide) (fun c15' => ?_) (fun c15' => ?_)
    · refine lv_iconst (v := 0) hx hb dX10_cue_31 (by decide) ?_
      exact J32 0 _ _ (by first | (rw [bI_z.mp (p5'.symm.trans c8')]; rfl) | (rw [bI_z.mp (p5'.symm.trans c8')]; simp; done) | (rw [bI_t.mp (fun z => c8' (p5'.trans z)), bI_z.mp (p12'.symm.trans c15')]; rfl) | (rw [bI_t.mp (fun z => c8' (p5'.trans z)), bI_z.mp (p12'.symm.trans c15')]; simp; done) | (rw [bI_t.mp (fun z => c8' (p5'.trans z)), bI_t.mp (fun z => c15' (p12'.trans z)), bI_z.mp (p21'.symm.trans c24')]; rfl) | (rw [bI_t.mp (fun z => c8' (p5'.trans z)), bI_t.mp (fun z => c15' (p12'.trans z)), bI_z.mp (p21'.symm.trans c24')]; simp; done) | (rw [bI_t.mp (fun z => c8' (p5'.trans z)), bI_t.mp (fun z => c15' (p12'.trans z)), bI_t.mp (fun z => c24' (p21'.trans z))]; rfl)) hW ls (lv_sub hl [0, 1, 2, 3] rfl)
    · refine lv_iload_n hx hb dX10_cue_18 rfl (lv_at hl 3 rfl) ?_
      refine lv_iconst (v := 0) hx hb dX10_cue_19 (by decide) ?_
      refine lv_iconst (v := 5) hx hb dX10_cue_20 (by decide) ?_
      refine wc_ri (va_runS (As := [.int d, .int 0, .int 5]) (rest := [.ref (ad 60)]) ⟨hx, hb, hml, hown, hts⟩ (c_X10_in l d 0 5) (va_cwS 3 hts gX10_cue_X10_in rfl rfl rfl (by decide +kernel) ⟨Nat.le_of_ble_eq_true rfl, Nat.le_of_ble_eq_true rfl⟩) npreS rfl rfl hl.1 rfl (lv_room (Nat.le_of_ble_eq_true rfl)) dX10_cue_21 ⟨Nat.le_of_ble_eq_true rfl, Nat.le_of_ble_eq_true rfl⟩) hW (fun x21' H locs p21' hW => ?_)
      try dsimp only at p21'
      refine lv_if_eq (tgt := 31) hx hb dX10_cue_24 (by decide) (fun c24' => ?_) (fun c24' => ?_)
      · refine lv_iconst (v := 0) hx hb dX10_cue_31 (by decide) ?_
        exact J32 0 _ _ (by first | (rw [bI_z.mp (p5'.symm.trans c8')]; rfl) | (rw [bI_z.mp (p5'.symm.trans c8')]; simp; done) | (rw [bI_t.mp (fun z => c8' (p5'.trans z)), bI_z.mp (p12'.symm.trans c15')]; rfl) | (rw [bI_t.mp (fun z => c8' (p5'.trans z)), bI_z.mp (p12'.symm.trans c15')]; simp; done) | (rw [bI_t.mp (fun z => c8' (p5'.trans z)), bI_t.mp (fun z => c15' (p12'.trans z)), bI_z.mp (p21'.symm.trans c24')]; rfl) | (rw [bI_t.mp (fun z => c8' (p5'.trans z)), bI_t.mp (fun z => c15' (p12'.trans z)), bI_z.mp (p21'.symm.trans c24')]; simp; done) | (rw [bI_t.mp (fun z => c8' (p5'.trans z)), bI_t.mp (fun z => c15' (p12'.trans z)), bI_t.mp (fun z => c24' (p21'.trans z))]; rfl)) hW ls (lv_sub hl [0, 1, 2, 3] rfl)
      · refine lv_iconst (v := 1) hx hb dX10_cue_27 (by decide) ?_
        refine lv_goto (tgt := 32) hx hb dX10_cue_28 (by decide) ?_
        exact J32 1 _ _ (by first | (rw [bI_z.mp (p5'.symm.trans c8')]; rfl) | (rw [bI_z.mp (p5'.symm.trans c8')]; simp; done) | (rw [bI_t.mp (fun z => c8' (p5'.trans z)), bI_z.mp (p12'.symm.trans c15')]; rfl) | (rw [bI_t.mp (fun z => c8' (p5'.trans z)), bI_z.mp (p12'.symm.trans c15')]; simp; done) | (rw [bI_t.mp (fun z => c8' (p5'.trans z)), bI_t.mp (fun z => c15' (p12'.trans z)), bI_z.mp (p21'.symm.trans c24')]; rfl) | (rw [bI_t.mp (fun z => c8' (p5'.trans z)), bI_t.mp (fun z => c15' (p12'.trans z)), bI_z.mp (p21'.symm.trans c24')]; simp; done) | (rw [bI_t.mp (fun z => c8' (p5'.trans z)), bI_t.mp (fun z => c15' (p12'.trans z)), bI_t.mp (fun z => c24' (p21'.trans z))]; rfl)) hW ls (lv_sub hl [0, 1, 2, 3] rfl)
set_option maxHeartbeats 4000000 in
set_option maxRecDepth 100000 in
theorem c_X10_cut (l : Launch) (D : va_G) (cA : Nat → ClassId) (sh : Nat → Option Sh) (ad : Nat → Nat) (M : MS) (sz : Nat) (σ : AS) (v : VT) (hMs : MSh sh) (hMX : MX σ v M) (a : Int32) : Met l yX10_cut wsX10_cut ({ frames := 2, cells := 0, slots := 0, locals := 43 }) (wPc D cA sh ad M sz [.ref (ad 60), .int a]) (wQi D cA sh ad (fun r M' => oI moS M M' ∧ gI M' 60 28 = nI (thr (cuB σ a) true) ∧ ((cuB σ a) = false → MX σ v M') ∧ ((cuB σ a) = true → MX (oCut σ (n1 a)) v M' ∧ r = nI (ctN (pres (oCut σ (n1 a))) 40))) (wA sh ad sz)) 0 0 (wA sh ad sz) := by
  refine Met.ofW (cc := cX10_cut) (maxL := 2) (ret := (some .int)) (by decide) rfl ?_
  intro p e s m args below meth cd0 s₁ B hml hv
  obtain ⟨rfl, hsz, hM, hK⟩ := hv
  have hx := B.exec
  have hb := B.bytes
  have hr := B.returns
  have hts := atoms_spec (ws := wsX10_cut) B.pre
  have hown : s.vm.findClass RX10 = some m.cls := findClass_of_methodNamed B.named
  have hlocks := B.notSynchronized
  subst hsz
  have hA := wA_PA sh ad s.heap
  generalize wA sh ad s.heap.size = A at hA ⊢
  have hW : WS D cA sh ad A s.heap M s.heap [] := ⟨hM, va_S.rf⟩
  have fa72 : FA D s m ([.ref (ad 60), .int a] : List Value).toArray 72 10 21 := FA.mk (C := RX10) (T := TX10) (N := 29) hts (fun _ h => List.mem_cons_of_mem _ (List.mem_append_right _ (h))) hown hK rfl (by decide) (hts (.fieldLink RX10 72 "MortarShowModel" "gone" "[Z") (List.mem_of_getElem? (i := 1) rfl))
  have hl := lv_entry ([.ref (ad 60), .int a]) (n := 2) (Nat.le_of_ble_eq_true rfl)
  rw [lg_entry_eq]
  generalize (lg_sl ([.ref (ad 60), .int a]) ++ List.replicate (2 - (lg_sl ([.ref (ad 60), .int a])).length) Slot.unset).toArray = ls at hl ⊢
  have hl : lv_has ls 2 [(0, .ref (ad 60)), (1, .int a)] := hl
  obtain ⟨ok, hR, hV, hT⟩ := hMX
  have hMX : MX σ v M := ⟨ok, hR, hV, hT⟩
  have o1 := ok.1
  refine lv_aload_n hx hb dX10_cut_0 rfl (lv_at hl 0 rfl) ?_
  refine lv_aload_n hx hb dX10_cut_1 rfl (lv_at hl 0 rfl) ?_
  refine lv_iload_n hx hb dX10_cut_2 rfl (lv_at hl 1 rfl) ?_
  refine wc_ri (va_runV (As := [.int a]) (rest := [.ref (ad 60)]) ⟨hx, hb, hml, hown, hts⟩ (c_X10_isCue l D cA sh ad M _ σ ok hMs hR a) (cwV 1 hts gX10_cut_X10_isCue rfl rfl rfl (by decide +kernel) ⟨Nat.le_of_ble_eq_true rfl, Nat.le_of_ble_eq_true rfl⟩) (wpreV hK hW (C := RX10) (ci := 10) (hMs 60 (by decide) (by decide)) rfl) rfl rfl hl.1 rfl (lv_room (Nat.le_of_ble_eq_true rfl)) dX10_cut_3 ⟨Nat.le_of_ble_eq_true rfl, Nat.le_of_ble_eq_true rfl⟩) hW (fun x3' H locs p3' hW => ?_)
  try dsimp only at p3'
  refine lv_iconst (v := 1) hx hb dX10_cut_6 (by decide) ?_
  refine wc_wi (va_runV (As := [.int x3', .int 1]) (rest := []) ⟨hx, hb, hml, hown, hts⟩ (c_X10_goes l D cA sh ad M _ hMs x3' 1 (cuB σ a) true p3' rfl) (cwV 2 hts gX10_cut_X10_goes rfl rfl rfl (by decide +kernel) ⟨Nat.le_of_ble_eq_true rfl, Nat.le_of_ble_eq_true rfl⟩) (wpreV hK hW (C := RX10) (ci := 10) (hMs 60 (by decide) (by decide)) rfl) rfl rfl hl.1 rfl (lv_room (Nat.le_of_ble_eq_true rfl)) dX10_cut_7 ⟨Nat.le_of_ble_eq_true rfl, Nat.le_of_ble_eq_true rfl⟩) hA hW (fun x7' M7' H locs p7' hW => ?_)
  try dsimp only at p7'
  refine lv_if_ne (tgt := 15) hx hb dX10_cut_10 (by decide) (fun c10' => ?_) (fun c10' => ?_)
  · have hG : (cuB σ a) = true := bT p7'.1 c10'
    obtain ⟨i, hi, ea, hg, f1⟩ := cu_n ok hG
    refine lv_aload_n hx hb dX10_cut_15 rfl (lv_at hl 0 rfl) ?_
    refine wgF (t := 79) hx hb fa72 hW (hMs 60 (by decide) (by decide)) rfl dX10_cut_16 ?_
    refine lv_iload_n hx hb dX10_cut_19 rfl (lv_at hl 1 rfl) ?_
    refine lv_iconst (v := 1) hx hb dX10_cut_20 (by decide) ?_
    refine wasZ (j := i) hx hb hK hA hW (hMs 79 (by decide) (by decide)) rfl ea (by omega) (by decide) dX10_cut_21 (fun M21' H locs eM21 hW => ?_)
    have okc := AOK_Cut ok hi
    have hRc : MR (oCut σ i) M21' := MR_Cut hR hi (by rw [eM21, gI_sI, if_pos ⟨rfl, rfl⟩]) (fun p k hx hn => by unfold MRs at hx; rw [eM21, gI_sI, if_neg (by omega)]; exact p7'.2.2.1 p k (fun z => by omega))
    refine lv_aload_n hx hb dX10_cut_22 rfl (lv_at hl 0 rfl) ?_
    refine wc_ri (va_runV (As := []) (rest := []) ⟨hx, hb, hml, hown, hts⟩ (c_X10_there l D cA sh ad M21' _ (oCut σ i) okc hMs hRc) (cwV 0 hts gX10_cut_X10_there rfl rfl rfl (by decide +kernel) ⟨Nat.le_of_ble_eq_true rfl, Nat.le_of_ble_eq_true rfl⟩) (wpreV hK hW (C := RX10) (ci := 10) (hMs 60 (by decide) (by decide)) rfl) rfl rfl hl.1 rfl (lv_room (Nat.le_of_ble_eq_true rfl)) dX10_cut_23 ⟨Nat.le_of_ble_eq_true rfl, Nat.le_of_ble_eq_true rfl⟩) hW (fun x23' H locs p23' hW => ?_)
    try dsimp only at p23'
    exact wr_wi hx hb hr hlocks hW dX10_cut_26 (by rw [f1]; exact ⟨(by rw [eM21]; exact (oI.put (go_mo p7'.2.2) (by unfold moS; omega))), (by rw [eM21, gI_sI, if_neg (by omega)]; exact p7'.2.1), fun z => absurd (hG.symm.trans z) (by decide), fun _ => ⟨⟨okc, hRc, (fun k hk => by rw [eM21, gI_sI, if_neg (by omega), p7'.2.2.1 _ _ (by omega)]; exact hV k hk), (fun k hk => by rw [eM21, gI_sI, if_neg (by omega), p7'.2.2.1 _ _ (by omega)]; exact hT k hk)⟩, p23'⟩⟩)
  · have hG : (cuB σ a) = false := bF p7'.1 c10'
    refine lv_iconst (v := 0) hx hb dX10_cut_13 (by decide) ?_
    exact wr_wi hx hb hr hlocks hW dX10_cut_14 ⟨go_mo p7'.2.2, p7'.2.1, fun _ => hMX.oI p7'.2.2 (fun p k z => by omega), fun z => absurd (hG.symm.trans z) (by decide)⟩
set_option maxHeartbeats 4000000 in
set_option maxRecDepth 100000 in
theorem c_X10_setTempo (l : Launch) (D : va_G) (cA : Nat → ClassId) (sh : Nat → Option Sh) (ad : Nat → Nat) (M : MS) (sz : Nat) (σ : AS) (v : VT) (hMs : MSh sh) (hMX : MX σ v M) (a : Int32) : Met l yX10_setTempo wsX10_setTempo ({ frames := 1, cells := 0, slots := 0, locals := 22 }) (wPc D cA sh ad M sz [.ref (ad 60), .int a]) (wQi D cA sh ad (fun r M' => oI moS M M' ∧ gI M' 60 28 = nI (thr (inB a 1 100) true) ∧ ((inB a 1 100) = false → MX σ v M') ∧ ((inB a 1 100) = true → MX (oTemp σ (n1 a)) v M' ∧ r = nI (σ.2 4 0))) (wA sh ad sz)) 0 0 (wA sh ad sz) := by
  refine Met.ofW (cc := cX10_setTempo) (maxL := 3) (ret := (some .int)) (by decide) rfl ?_
  intro p e s m args below meth cd0 s₁ B hml hv
  obtain ⟨rfl, hsz, hM, hK⟩ := hv
  have hx := B.exec
  have hb := B.bytes
  have hr := B.returns
  have hts := atoms_spec (ws := wsX10_setTempo) B.pre
  have hown : s.vm.findClass RX10 = some m.cls := findClass_of_methodNamed B.named
  have hlocks := B.notSynchronized
  subst hsz
  have hA := wA_PA sh ad s.heap
  generalize wA sh ad s.heap.size = A at hA ⊢
  have hW : WS D cA sh ad A s.heap M s.heap [] := ⟨hM, va_S.rf⟩
  have fa56 : FA D s m ([.ref (ad 60), .int a] : List Value).toArray 56 10 15 := FA.mk (C := RX10) (T := TX10) (N := 29) hts (fun _ h => List.mem_cons_of_mem _ (List.mem_append_right _ (h))) hown hK rfl (by decide) (hts (.fieldLink RX10 56 "MortarShowModel" "tempo" "I") (List.mem_of_getElem? (i := 1) rfl))
  have fw56 : FW D s m ([.ref (ad 60), .int a] : List Value).toArray 56 10 15 (.int) := FW.mk (C := RX10) (T := TX10) (N := 29) hts (fun _ h => List.mem_cons_of_mem _ (List.mem_append_right _ (h))) hown hK rfl (by decide) (hts (.fieldLink RX10 56 "MortarShowModel" "tempo" "I") (List.mem_of_getElem? (i := 1) rfl)) tyX10 tyX10_ok nmX10 rfl rfl
  have hl := lv_entry ([.ref (ad 60), .int a]) (n := 3) (Nat.le_of_ble_eq_true rfl)
  rw [lg_entry_eq]
  generalize (lg_sl ([.ref (ad 60), .int a]) ++ List.replicate (3 - (lg_sl ([.ref (ad 60), .int a])).length) Slot.unset).toArray = ls at hl ⊢
  have hl : lv_has ls 3 [(0, .ref (ad 60)), (1, .int a)] := hl
  obtain ⟨ok, hR, hV, hT⟩ := hMX
  have hMX : MX σ v M := ⟨ok, hR, hV, hT⟩
  have o1 := ok.1
  refine lv_aload_n hx hb dX10_setTempo_0 rfl (lv_at hl 0 rfl) ?_
  refine lv_iload_n hx hb dX10_setTempo_1 rfl (lv_at hl 1 rfl) ?_
  refine lv_iconst (v := 1) hx hb dX10_setTempo_2 (by decide) ?_
  refine lv_bipush (v := 100) hx hb dX10_setTempo_3 (by decide) ?_
  refine wc_ri (va_runS (As := [.int a, .int 1, .int 100]) (rest := [.ref (ad 60)]) ⟨hx, hb, hml, hown, hts⟩ (c_X10_in l a 1 100) (va_cwS 3 hts gX10_setTempo_X10_in rfl rfl rfl (by decide +kernel) ⟨Nat.le_of_ble_eq_true rfl, Nat.le_of_ble_eq_true rfl⟩) npreS rfl rfl hl.1 rfl (lv_room (Nat.le_of_ble_eq_true rfl)) dX10_setTempo_5 ⟨Nat.le_of_ble_eq_true rfl, Nat.le_of_ble_eq_true rfl⟩) hW (fun x5' H locs p5' hW => ?_)
  try dsimp only at p5'
  refine lv_iconst (v := 1) hx hb dX10_setTempo_8 (by decide) ?_
  refine wc_wi (va_runV (As := [.int x5', .int 1]) (rest := []) ⟨hx, hb, hml, hown, hts⟩ (c_X10_goes l D cA sh ad M _ hMs x5' 1 (inB a 1 100) true p5' rfl) (cwV 2 hts gX10_setTempo_X10_goes rfl rfl rfl (by decide +kernel) ⟨Nat.le_of_ble_eq_true rfl, Nat.le_of_ble_eq_true rfl⟩) (wpreV hK hW (C := RX10) (ci := 10) (hMs 60 (by decide) (by decide)) rfl) rfl rfl hl.1 rfl (lv_room (Nat.le_of_ble_eq_true rfl)) dX10_setTempo_9 ⟨Nat.le_of_ble_eq_true rfl, Nat.le_of_ble_eq_true rfl⟩) hA hW (fun x9' M9' H locs p9' hW => ?_)
  try dsimp only at p9'
  refine lv_if_ne (tgt := 17) hx hb dX10_setTempo_12 (by decide) (fun c12' => ?_) (fun c12' => ?_)
  · have hG : (inB a 1 100) = true := bT p9'.1 c12'
    obtain ⟨t, ht1, ht2, et⟩ := in_n1 (n := 100) (by decide) hG
    have f1 : n1 a = t := by rw [et]; exact n1_nI (by omega)
    refine lv_aload_n hx hb dX10_setTempo_17 rfl (lv_at hl 0 rfl) ?_
    refine wgI hx hb fa56 hW (hMs 60 (by decide) (by decide)) rfl dX10_setTempo_18 (fun x18' e18' => ?_)
    refine lv_istore_n (lv' := [(2, .int x18'), (0, .ref (ad 60)), (1, .int a)]) hx hb dX10_setTempo_21 rfl hl (by decide) rfl (fun ls hl => ?_)
    refine lv_aload_n hx hb dX10_setTempo_22 rfl (lv_at hl 1 rfl) ?_
    refine lv_iload_n hx hb dX10_setTempo_23 rfl (lv_at hl 2 rfl) ?_
    refine wpI hx hb fw56 hA hW (hMs 60 (by decide) (by decide)) rfl dX10_setTempo_24 (fun M24' H locs eM24 hW => ?_)
    refine lv_iload_n hx hb dX10_setTempo_27 rfl (lv_at hl 0 rfl) ?_
    exact wr_wi hx hb hr hlocks hW dX10_setTempo_28 (by rw [f1]; exact ⟨(by rw [eM24]; exact (oI.put (go_mo p9'.2.2) (by unfold moS; omega))), (by rw [eM24, gI_sI, if_neg (by omega)]; exact p9'.2.1), fun z => absurd (hG.symm.trans z) (by decide), fun _ => ⟨⟨AOK_Temp ok ⟨ht1, ht2⟩, MR_Temp hR (by rw [eM24, gI_sI, if_pos ⟨rfl, rfl⟩]; exact et) (fun p k hx hn => by unfold MRs at hx; rw [eM24, gI_sI, if_neg (by omega)]; exact p9'.2.2.1 p k (fun z => by omega)), (fun k hk => by rw [eM24, gI_sI, if_neg (by omega), p9'.2.2.1 _ _ (by omega)]; exact hV k hk), (fun k hk => by rw [eM24, gI_sI, if_neg (by omega), p9'.2.2.1 _ _ (by omega)]; exact hT k hk)⟩, by rw [e18', p9'.2.2.1 _ _ (by omega)]; exact hR.2.2.2.2.2.2.2.1⟩⟩)
  · have hG : (inB a 1 100) = false := bF p9'.1 c12'
    refine lv_iconst (v := 0) hx hb dX10_setTempo_15 (by decide) ?_
    exact wr_wi hx hb hr hlocks hW dX10_setTempo_16 ⟨go_mo p9'.2.2, p9'.2.1, fun _ => hMX.oI p9'.2.2 (fun p k z => by omega), fun z => absurd (hG.symm.trans z) (by decide)⟩
set_option maxHeartbeats 4000000 in
set_option maxRecDepth 100000 in
theorem c_X10_setGap (l : Launch) (D : va_G) (cA : Nat → ClassId) (sh : Nat → Option Sh) (ad : Nat → Nat) (M : MS) (sz : Nat) (σ : AS) (v : VT) (hMs : MSh sh) (hMX : MX σ v M) (a : Int32) : Met l yX10_setGap wsX10_setGap ({ frames := 1, cells := 0, slots := 0, locals := 22 }) (wPc D cA sh ad M sz [.ref (ad 60), .int a]) (wQi D cA sh ad (fun r M' => oI moS M M' ∧ gI M' 60 28 = nI (thr (inB a 0 20) true) ∧ ((inB a 0 20) = false → MX σ v M') ∧ ((inB a 0 20) = true → MX (oGap σ (n1 a)) v M' ∧ r = nI (σ.2 5 0))) (wA sh ad sz)) 0 0 (wA sh ad sz) := by
  refine Met.ofW (cc := cX10_setGap) (maxL := 3) (ret := (some .int)) (by decide) rfl ?_
  intro p e s m args below meth cd0 s₁ B hml hv
  obtain ⟨rfl, hsz, hM, hK⟩ := hv
  have hx := B.exec
  have hb := B.bytes
  have hr := B.returns
  have hts := atoms_spec (ws := wsX10_setGap) B.pre
  have hown : s.vm.findClass RX10 = some m.cls := findClass_of_methodNamed B.named
  have hlocks := B.notSynchronized
  subst hsz
  have hA := wA_PA sh ad s.heap
  generalize wA sh ad s.heap.size = A at hA ⊢
  have hW : WS D cA sh ad A s.heap M s.heap [] := ⟨hM, va_S.rf⟩
  have fa60 : FA D s m ([.ref (ad 60), .int a] : List Value).toArray 60 10 16 := FA.mk (C := RX10) (T := TX10) (N := 29) hts (fun _ h => List.mem_cons_of_mem _ (List.mem_append_right _ (h))) hown hK rfl (by decide) (hts (.fieldLink RX10 60 "MortarShowModel" "gap" "I") (List.mem_of_getElem? (i := 1) rfl))
  have fw60 : FW D s m ([.ref (ad 60), .int a] : List Value).toArray 60 10 16 (.int) := FW.mk (C := RX10) (T := TX10) (N := 29) hts (fun _ h => List.mem_cons_of_mem _ (List.mem_append_right _ (h))) hown hK rfl (by decide) (hts (.fieldLink RX10 60 "MortarShowModel" "gap" "I") (List.mem_of_getElem? (i := 1) rfl)) tyX10 tyX10_ok nmX10 rfl rfl
  have hl := lv_entry ([.ref (ad 60), .int a]) (n := 3) (Nat.le_of_ble_eq_true rfl)
  rw [lg_entry_eq]
  generalize (lg_sl ([.ref (ad 60), .int a]) ++ List.replicate (3 - (lg_sl ([.ref (ad 60), .int a])).length) Slot.unset).toArray = ls at hl ⊢
  have hl : lv_has ls 3 [(0, .ref (ad 60)), (1, .int a)] := hl
  obtain ⟨ok, hR, hV, hT⟩ := hMX
  have hMX : MX σ v M := ⟨ok, hR, hV, hT⟩
  have o1 := ok.1
  refine lv_aload_n hx hb dX10_setGap_0 rfl (lv_at hl 0 rfl) ?_
  refine lv_iload_n hx hb dX10_setGap_1 rfl (lv_at hl 1 rfl) ?_
  refine lv_iconst (v := 0) hx hb dX10_setGap_2 (by decide) ?_
  refine lv_bipush (v := 20) hx hb dX10_setGap_3 (by decide) ?_
  refine wc_ri (va_runS (As := [.int a, .int 0, .int 20]) (rest := [.ref (ad 60)]) ⟨hx, hb, hml, hown, hts⟩ (c_X10_in l a 0 20) (va_cwS 3 hts gX10_setGap_X10_in rfl rfl rfl (by decide +kernel) ⟨Nat.le_of_ble_eq_true rfl, Nat.le_of_ble_eq_true rfl⟩) npreS rfl rfl hl.1 rfl (lv_room (Nat.le_of_ble_eq_true rfl)) dX10_setGap_5 ⟨Nat.le_of_ble_eq_true rfl, Nat.le_of_ble_eq_true rfl⟩) hW (fun x5' H locs p5' hW => ?_)
  try dsimp only at p5'
  refine lv_iconst (v := 1) hx hb dX10_setGap_8 (by decide) ?_
  refine wc_wi (va_runV (As := [.int x5', .int 1]) (rest := []) ⟨hx, hb, hml, hown, hts⟩ (c_X10_goes l D cA sh ad M _ hMs x5' 1 (inB a 0 20) true p5' rfl) (cwV 2 hts gX10_setGap_X10_goes rfl rfl rfl (by decide +kernel) ⟨Nat.le_of_ble_eq_true rfl, Nat.le_of_ble_eq_true rfl⟩) (wpreV hK hW (C := RX10) (ci := 10) (hMs 60 (by decide) (by decide)) rfl) rfl rfl hl.1 rfl (lv_room (Nat.le_of_ble_eq_true rfl)) dX10_setGap_9 ⟨Nat.le_of_ble_eq_true rfl, Nat.le_of_ble_eq_true rfl⟩) hA hW (fun x9' M9' H locs p9' hW => ?_)
  try dsimp only at p9'
  refine lv_if_ne (tgt := 17) hx hb dX10_setGap_12 (by decide) (fun c12' => ?_) (fun c12' => ?_)
  · have hG : (inB a 0 20) = true := bT p9'.1 c12'
    obtain ⟨t, ht2, et⟩ := in_n (n := 20) (by decide) hG
    have f1 : n1 a = t := by rw [et]; exact n1_nI (by omega)
    refine lv_aload_n hx hb dX10_setGap_17 rfl (lv_at hl 0 rfl) ?_
    refine wgI hx hb fa60 hW (hMs 60 (by decide) (by decide)) rfl dX10_setGap_18 (fun x18' e18' => ?_)
    refine lv_istore_n (lv' := [(2, .int x18'), (0, .ref (ad 60)), (1, .int a)]) hx hb dX10_setGap_21 rfl hl (by decide) rfl (fun ls hl => ?_)
    refine lv_aload_n hx hb dX10_setGap_22 rfl (lv_at hl 1 rfl) ?_
    refine lv_iload_n hx hb dX10_setGap_23 rfl (lv_at hl 2 rfl) ?_
    refine wpI hx hb fw60 hA hW (hMs 60 (by decide) (by decide)) rfl dX10_setGap_24 (fun M24' H locs eM24 hW => ?_)
    refine lv_iload_n hx hb dX10_setGap_27 rfl (lv_at hl 0 rfl) ?_
    exact wr_wi hx hb hr hlocks hW dX10_setGap_28 (by rw [f1]; exact ⟨(by rw [eM24]; exact (oI.put (go_mo p9'.2.2) (by unfold moS; omega))), (by rw [eM24, gI_sI, if_neg (by omega)]; exact p9'.2.1), fun z => absurd (hG.symm.trans z) (by decide), fun _ => ⟨⟨AOK_Gap ok (by omega), MR_Gap hR (by rw [eM24, gI_sI, if_pos ⟨rfl, rfl⟩]; exact et) (fun p k hx hn => by unfold MRs at hx; rw [eM24, gI_sI, if_neg (by omega)]; exact p9'.2.2.1 p k (fun z => by omega)), (fun k hk => by rw [eM24, gI_sI, if_neg (by omega), p9'.2.2.1 _ _ (by omega)]; exact hV k hk), (fun k hk => by rw [eM24, gI_sI, if_neg (by omega), p9'.2.2.1 _ _ (by omega)]; exact hT k hk)⟩, by rw [e18', p9'.2.2.1 _ _ (by omega)]; exact hR.2.2.2.2.2.2.2.2.1⟩⟩)
  · have hG : (inB a 0 20) = false := bF p9'.1 c12'
    refine lv_iconst (v := 0) hx hb dX10_setGap_15 (by decide) ?_
    exact wr_wi hx hb hr hlocks hW dX10_setGap_16 ⟨go_mo p9'.2.2, p9'.2.1, fun _ => hMX.oI p9'.2.2 (fun p k z => by omega), fun z => absurd (hG.symm.trans z) (by decide)⟩
set_option maxHeartbeats 4000000 in
set_option maxRecDepth 100000 in
theorem c_X10_kill (l : Launch) (D : va_G) (cA : Nat → ClassId) (sh : Nat → Option Sh) (ad : Nat → Nat) (M : MS) (sz : Nat) (σ : AS) (v : VT) (hMs : MSh sh) (hMX : MX σ v M) (a b : Int32) : Met l yX10_kill wsX10_kill ({ frames := 2, cells := 0, slots := 0, locals := 43 }) (wPc D cA sh ad M sz [.ref (ad 60), .int a, .int b]) (wQi D cA sh ad (fun r M' => oI moS M M' ∧ gI M' 60 28 = nI (thr (inB a 0 3 && inB b 0 7) true) ∧ ((inB a 0 3 && inB b 0 7) = false → MX σ v M') ∧ (r = 0 ∨ r = 1) ∧ ((inB a 0 3 && inB b 0 7) = true → MX (oKill σ (8 * n1 a + n1 b)) v M' ∧ r = nI (1 - σ.2 3 (8 * n1 a + n1 b)))) (wA sh ad sz)) 0 0 (wA sh ad sz) := by
  refine Met.ofW (cc := cX10_kill) (maxL := 3) (ret := (some .boolean)) (by decide) rfl ?_
  intro p e s m args below meth cd0 s₁ B hml hv
  obtain ⟨rfl, hsz, hM, hK⟩ := hv
  have hx := B.exec
  have hb := B.bytes
  have hr := B.returns
  have hts := atoms_spec (ws := wsX10_kill) B.pre
  have hown : s.vm.findClass RX10 = some m.cls := findClass_of_methodNamed B.named
  have hlocks := B.notSynchronized
  subst hsz
  have hA := wA_PA sh ad s.heap
  generalize wA sh ad s.heap.size = A at hA ⊢
  have hW : WS D cA sh ad A s.heap M s.heap [] := ⟨hM, va_S.rf⟩
  have fa52 : FA D s m ([.ref (ad 60), .int a, .int b] : List Value).toArray 52 10 14 := FA.mk (C := RX10) (T := TX10) (N := 29) hts (fun _ h => List.mem_cons_of_mem _ (List.mem_append_right _ (h))) hown hK rfl (by decide) (hts (.fieldLink RX10 52 "MortarShowModel" "dead" "[Z") (List.mem_of_getElem? (i := 1) rfl))
  have hl := lv_entry ([.ref (ad 60), .int a, .int b]) (n := 3) (Nat.le_of_ble_eq_true rfl)
  rw [lg_entry_eq]
  generalize (lg_sl ([.ref (ad 60), .int a, .int b]) ++ List.replicate (3 - (lg_sl ([.ref (ad 60), .int a, .int b])).length) Slot.unset).toArray = ls at hl ⊢
  have hl : lv_has ls 3 [(0, .ref (ad 60)), (1, .int a), (2, .int b)] := hl
  obtain ⟨ok, hR, hV, hT⟩ := hMX
  have hMX : MX σ v M := ⟨ok, hR, hV, hT⟩
  have o1 := ok.1
  refine lv_aload_n hx hb dX10_kill_0 rfl (lv_at hl 0 rfl) ?_
  refine lv_iload_n hx hb dX10_kill_1 rfl (lv_at hl 1 rfl) ?_
  refine lv_iload_n hx hb dX10_kill_2 rfl (lv_at hl 2 rfl) ?_
  refine wc_ri (va_runS (As := [.int a, .int b]) (rest := [.ref (ad 60)]) ⟨hx, hb, hml, hown, hts⟩ (c_X10_isChannel l a b) (va_cwS 2 hts gX10_kill_X10_isChannel rfl rfl rfl (by decide +kernel) ⟨Nat.le_of_ble_eq_true rfl, Nat.le_of_ble_eq_true rfl⟩) npreS rfl rfl hl.1 rfl (lv_room (Nat.le_of_ble_eq_true rfl)) dX10_kill_3 ⟨Nat.le_of_ble_eq_true rfl, Nat.le_of_ble_eq_true rfl⟩) hW (fun x3' H locs p3' hW => ?_)
  try dsimp only at p3'
  refine lv_iconst (v := 1) hx hb dX10_kill_6 (by decide) ?_
  refine wc_wi (va_runV (As := [.int x3', .int 1]) (rest := []) ⟨hx, hb, hml, hown, hts⟩ (c_X10_goes l D cA sh ad M _ hMs x3' 1 (inB a 0 3 && inB b 0 7) true p3' rfl) (cwV 2 hts gX10_kill_X10_goes rfl rfl rfl (by decide +kernel) ⟨Nat.le_of_ble_eq_true rfl, Nat.le_of_ble_eq_true rfl⟩) (wpreV hK hW (C := RX10) (ci := 10) (hMs 60 (by decide) (by decide)) rfl) rfl rfl hl.1 rfl (lv_room (Nat.le_of_ble_eq_true rfl)) dX10_kill_7 ⟨Nat.le_of_ble_eq_true rfl, Nat.le_of_ble_eq_true rfl⟩) hA hW (fun x7' M7' H locs p7' hW => ?_)
  try dsimp only at p7'
  refine lv_if_ne (tgt := 15) hx hb dX10_kill_10 (by decide) (fun c10' => ?_) (fun c10' => ?_)
  · have hG : (inB a 0 3 && inB b 0 7) = true := bT p7'.1 c10'
    have hG2 := hG
    simp only [Bool.and_eq_true] at hG2
    obtain ⟨k, hk, ek⟩ := in_n (n := 3) (by decide) hG2.1
    obtain ⟨y1, hy, ey⟩ := in_n (n := 7) (by decide) hG2.2
    have f1 : n1 a = k := by rw [ek]; exact n1_nI (by omega)
    have f2 : n1 b = y1 := by rw [ey]; exact n1_nI (by omega)
    have hd9 := ok.2.2.2.1 (8 * k + y1) (by omega)
    refine lv_aload_n hx hb dX10_kill_15 rfl (lv_at hl 0 rfl) ?_
    refine wgF (t := 75) hx hb fa52 hW (hMs 60 (by decide) (by decide)) rfl dX10_kill_16 ?_
    refine lv_bipush (v := 8) hx hb dX10_kill_19 (by decide) ?_
    refine lv_iload_n hx hb dX10_kill_21 rfl (lv_at hl 1 rfl) ?_
    refine lv_imul hx hb dX10_kill_22 ?_
    refine lv_topi (fun x22' e22' => ?_)
    have n22' : x22' = nI (8 * k) := (by rw [e22', (nlit 8), ek, pk_mul])
    refine lv_iload_n hx hb dX10_kill_23 rfl (lv_at hl 2 rfl) ?_
    refine lv_iadd hx hb dX10_kill_24 ?_
    refine lv_topi (fun x24' e24' => ?_)
    have n24' : x24' = nI ((8 * k) + y1) := (by rw [e24', n22', ey, nI_add])
    have J44 : ∀ (w : Int32) (H : Heap) (locs : List Loc), (w = nI (1 - σ.2 3 (8 * k + y1))) → WS D cA sh ad A s.heap M7' H locs → ∀ ls, lv_has ls 3 [(0, .ref (ad 60)), (1, .int a), (2, .int b)] → W p l e (headSpec wsX10_kill { frames := 2, cells := 0, slots := 0, locals := 43 }).room s m ([.ref (ad 60), .int a, .int b] : List Value).toArray below meth cd0 H locs 0 0 (MQ below (wQi D cA sh ad (fun r M' => oI moS M M' ∧ gI M' 60 28 = nI (thr (inB a 0 3 && inB b 0 7) true) ∧ ((inB a 0 3 && inB b 0 7) = false → MX σ v M') ∧ (r = 0 ∨ r = 1) ∧ ((inB a 0 3 && inB b 0 7) = true → MX (oKill σ (8 * n1 a + n1 b)) v M' ∧ r = nI (1 - σ.2 3 (8 * n1 a + n1 b)))) A) ([.ref (ad 60), .int a, .int b] : List Value).toArray s 0 0 A) (F0 m 44 ls [.int w, .int x24', .ref (ad 75)]) := by
      intro w H locs hw hW ls hl
      refine wasZ (j := ((8 * k) + y1)) hx hb hK hA hW (hMs 75 (by decide) (by decide)) (by rw [hw]; exact (nar01 (by omega))) n24' (by omega) (by decide) dX10_kill_44 (fun M44' H locs eM44 hW => ?_)
      refine lv_aload_n hx hb dX10_kill_45 rfl (lv_at hl 0 rfl) ?_
      refine wgF (t := 75) hx hb fa52 hW (hMs 60 (by decide) (by decide)) rfl dX10_kill_46 ?_
      refine lv_bipush (v := 8) hx hb dX10_kill_49 (by decide) ?_
      refine lv_iload_n hx hb dX10_kill_51 rfl (lv_at hl 1 rfl) ?_
      refine lv_imul hx hb dX10_kill_52 ?_
      refine lv_topi (fun x52' e52' => ?_)
      have n52' : x52' = nI (8 * k) := (by rw [e52', (nlit 8), ek, pk_mul])
      refine lv_iload_n hx hb dX10_kill_53 rfl (lv_at hl 2 rfl) ?_
      refine lv_iadd hx hb dX10_kill_54 ?_
      refine lv_topi (fun x54' e54' => ?_)
      have n54' : x54' = nI ((8 * k) + y1) := (by rw [e54', n52', ey, nI_add])
      refine walZ (j := ((8 * k) + y1)) hx hb hK hW (hMs 75 (by decide) (by decide)) n54' (by omega) (by decide) dX10_kill_55 (fun x55' e55' => ?_)
      have hv9 : x55' = nI (1 - σ.2 3 (8 * k + y1)) := by rw [e55', eM44, gI_sI, if_pos ⟨rfl, rfl⟩, hw]
      exact wr_wz hx hb hr hlocks hW dX10_kill_56 (by rw [hv9]; exact nar01 (by omega)) (by rw [f1, f2]; exact ⟨(by rw [eM44]; exact (oI.put (go_mo p7'.2.2) (by unfold moS; omega))), (by rw [eM44, gI_sI, if_neg (by omega)]; exact p7'.2.1), fun z => absurd (hG.symm.trans z) (by decide), by rw [hv9]; rcases (show σ.2 3 (8 * k + y1) = 0 ∨ σ.2 3 (8 * k + y1) = 1 by omega) with z | z <;> rw [z]; exact Or.inr rfl; exact Or.inl rfl, fun _ => ⟨⟨AOK_Kill ok, MR_Kill hR (by rw [eM44, gI_sI, if_pos ⟨rfl, rfl⟩, hw]) (fun p k hx hn => by unfold MRs at hx; rw [eM44, gI_sI, if_neg (by omega)]; exact p7'.2.2.1 p k (fun z => by omega)), (fun k hk => by rw [eM44, gI_sI, if_neg (by omega), p7'.2.2.1 _ _ (by omega)]; exact hV k hk), (fun k hk => by rw [eM44, gI_sI, if_neg (by omega), p7'.2.2.1 _ _ (by omega)]; exact hT k hk)⟩, hv9⟩⟩)
    refine lv_aload_n hx hb dX10_kill_25 rfl (lv_at hl 0 rfl) ?_
    refine wgF (t := 75) hx hb fa52 hW (hMs 60 (by decide) (by decide)) rfl dX10_kill_26 ?_
    refine lv_bipush (v := 8) hx hb dX10_kill_29 (by decide) ?_
    refine lv_iload_n hx hb dX10_kill_31 rfl (lv_at hl 1 rfl) ?_
    refine lv_imul hx hb dX10_kill_32 ?_
    refine lv_topi (fun x32' e32' => ?_)
    have n32' : x32' = nI (8 * k) := (by rw [e32', (nlit 8), ek, pk_mul])
    refine lv_iload_n hx hb dX10_kill_33 rfl (lv_at hl 2 rfl) ?_
    refine lv_iadd hx hb dX10_kill_34 ?_
    refine lv_topi (fun x34' e34' => ?_)
    have n34' : x34' = nI ((8 * k) + y1) := (by rw [e34', n32', ey, nI_add])
    refine walZ (j := ((8 * k) + y1)) hx hb hK hW (hMs 75 (by decide) (by decide)) n34' (by omega) (by decide) dX10_kill_35 (fun x35' e35' => ?_)
    refine lv_if_ne (tgt := 43) hx hb dX10_kill_36 (by decide) (fun c36' => ?_) (fun c36' => ?_)
    · refine lv_iconst (v := 0) hx hb dX10_kill_43 (by decide) ?_
      exact J44 0 _ _ (by
          have h9 : x35' = nI (σ.2 3 (8 * k + y1)) := e35'.trans ((p7'.2.2.1 _ _ (by omega)).trans (hR.2.2.2.2.2.2.1 _ (by omega)))
          rw [h9] at c36'
          rcases (show σ.2 3 (8 * k + y1) = 0 ∨ σ.2 3 (8 * k + y1) = 1 by omega) with z | z
          · first
            | (rw [z]; rfl)
            | exact absurd (by rw [z]; rfl) c36'
          · first
            | (rw [z] at c36'; exact absurd c36' (by decide))
            | (rw [z]; rfl)) hW ls (lv_sub hl [0, 1, 2] rfl)
    · refine lv_iconst (v := 1) hx hb dX10_kill_39 (by decide) ?_
      refine lv_goto (tgt := 44) hx hb dX10_kill_40 (by decide) ?_
      exact J44 1 _ _ (by
          have h9 : x35' = nI (σ.2 3 (8 * k + y1)) := e35'.trans ((p7'.2.2.1 _ _ (by omega)).trans (hR.2.2.2.2.2.2.1 _ (by omega)))
          rw [h9] at c36'
          rcases (show σ.2 3 (8 * k + y1) = 0 ∨ σ.2 3 (8 * k + y1) = 1 by omega) with z | z
          · first
            | (rw [z]; rfl)
            | exact absurd (by rw [z]; rfl) c36'
          · first
            | (rw [z] at c36'; exact absurd c36' (by decide))
            | (rw [z]; rfl)) hW ls (lv_sub hl [0, 1, 2] rfl)
  · have hG : (inB a 0 3 && inB b 0 7) = false := bF p7'.1 c10'
    refine lv_iconst (v := 0) hx hb dX10_kill_13 (by decide) ?_
    exact wr_wz hx hb hr hlocks hW dX10_kill_14 rfl ⟨go_mo p7'.2.2, p7'.2.1, fun _ => hMX.oI p7'.2.2 (fun p k z => by omega), Or.inl rfl, fun z => absurd (hG.symm.trans z) (by decide)⟩

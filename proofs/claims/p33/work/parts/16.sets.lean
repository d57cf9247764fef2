/-! What is set. -/
def uI (σ : AS) (a b : Nat) (x : Int32) : AS := (fun p k => if p = a ∧ k = b then x else σ.1 p k, σ.2)
def uN (σ : AS) (a b n : Nat) : AS := (σ.1, fun p k => if p = a ∧ k = b then n else σ.2 p k)
def nzO (o : Option Nat) : Nat := match o with
  | none => 0
  | some n => n
def flN (x y : Int32) : Nat := nzO (firstB (fun n => decide (¬ (hsq x y n).2.2.2 = 0)) 3001)
theorem flN_ok {x y : Int32} (hx : 1 ≤ x.toInt ∧ x.toInt ≤ 200) (hy : 1 ≤ y.toInt ∧ y.toInt ≤ 100) : FlT x y (flN x y) := by
  obtain ⟨N, h1, h2, h3⟩ := flT_ex hx hy
  have e : firstB (fun n => decide (¬ (hsq x y n).2.2.2 = 0)) 3001 = some N := firstB_is (by omega) (decide_eq_true h1) (fun d hd => decide_eq_false (fun z => z (h2 d hd)))
  unfold flN
  rw [e]
  exact ⟨h1, h2, h3⟩
theorem out_n1 {v : Int32} {n : Nat} (hn : n < 2 ^ 31) (h : outB v 1 (nI n) = false) : ∃ r, 1 ≤ r ∧ r ≤ n ∧ v = nI r := by
  have h2 := out_i h
  have e1 : (1 : Int32).toInt = 1 := rfl
  have z0 : (0 : Int32).toInt = 0 := rfl
  rw [e1, nI_toInt hn] at h2
  obtain ⟨j, hj, e⟩ := nI_of (x := v) (fun q => by rw [i32lt, z0] at q; omega)
  rw [e, nI_toInt hj] at h2
  exact ⟨j, by omega, by omega, e⟩
theorem nar01 {n : Nat} (h : n ≤ 1) : narrow .boolean (.int (nI n)) = .int (nI n) := by
  rcases (show n = 0 ∨ n = 1 by omega) with z | z <;> subst z <;> rfl
theorem XX_set {σ : AS} {v : VT} {M' : MS} (ok : AOK σ) (hR : XR σ M') (h0 : gI M' 0 14 = 0) (hl : gI M' 0 11 = nI (ctN (pres σ) 40)) (hV : ∀ k, k < 64 → gI M' 3 k = v.1 k) (hT : ∀ k, k < 10 → gI M' 21 k = v.2 k) : XX σ v M' := ⟨ok, hR, Or.inl h0, hl, hV, hT⟩
theorem ctN_rm {p q : Nat → Bool} {i : Nat} (hp : p i = true) (hq : ∀ j, q j = (p j && decide (j ≠ i))) : ∀ n, ctN q n + (if i < n then 1 else 0) = ctN p n
  | 0 => rfl
  | n + 1 => by
    have ih := ctN_rm hp hq n
    rw [ctN_s, ctN_s, hq n]
    by_cases e : n = i
    · subst e
      rw [if_neg (by omega)] at ih
      rw [hp, if_pos (Nat.lt_succ_self n)]
      simp
      omega
    · have h1 : (i < n + 1) = (i < n) := by apply propext; omega
      simp only [h1, e, ne_eq, not_false_eq_true, decide_true, Bool.and_true]
      omega
theorem bitL_m1 : ∀ k, k < 64 → bitL (-1) k = true := by decide +kernel
theorem bitL_not (z : Int64) {k : Nat} (hk : k < 64) : bitL (z ^^^ (-1)) k = !bitL z k := by
  have h : bitL (z ^^^ (-1)) k = (bitL z k ^^ bitL (-1) k) := by unfold bitL; rw [Int64.toBitVec_xor, BitVec.getLsbD_xor]
  rw [h, bitL_m1 k hk, Bool.xor_true]
theorem XX_val {σ : AS} {v : VT} {M : MS} (h : XX σ v M) {z : Nat} {x : Int32} : XX σ (fun k => if k = z then x else v.1 k, v.2) (sI M 3 z x) := by
  obtain ⟨ok, hR, hP, hL, hV, hT⟩ := h
  have o : oA (fun p _ => p = 3) M (sI M 3 z x) := oA.putI oA.rf rfl
  refine ⟨ok, hR.oA o (fun p k hx hz => by unfold XRs at hx; omega), ?_, (o _ _ (by omega)).1.trans hL, fun k hk => ?_, fun k hk => (o _ _ (by omega)).1.trans (hT k hk)⟩
  · rcases hP with q | ⟨q, q1, q2, q3⟩
    · exact Or.inl ((o _ _ (by omega)).1.trans q)
    · exact Or.inr ⟨(o _ _ (by omega)).1.trans q, q1, q2, q3.oA o (fun p k hz => by omega)⟩
  · rw [gI_sI]
    show _ = if k = z then x else v.1 k
    by_cases e : k = z
    · rw [if_pos ⟨rfl, e⟩, if_pos e]
    · rw [if_neg (fun q => e q.2), if_neg e]; exact hV k hk
theorem XX_rate {σ : AS} {v : VT} {M : MS} (h : XX σ v M) {z : Nat} {x : Int32} : XX σ (v.1, fun k => if k = z then x else v.2 k) (sI M 21 z x) := by
  obtain ⟨ok, hR, hP, hL, hV, hT⟩ := h
  have o : oA (fun p _ => p = 21) M (sI M 21 z x) := oA.putI oA.rf rfl
  refine ⟨ok, hR.oA o (fun p k hx hz => by unfold XRs at hx; omega), ?_, (o _ _ (by omega)).1.trans hL, fun k hk => (o _ _ (by omega)).1.trans (hV k hk), fun k hk => ?_⟩
  · rcases hP with q | ⟨q, q1, q2, q3⟩
    · exact Or.inl ((o _ _ (by omega)).1.trans q)
    · exact Or.inr ⟨(o _ _ (by omega)).1.trans q, q1, q2, q3.oA o (fun p k hz => by omega)⟩
  · rw [gI_sI]
    show _ = if k = z then x else v.2 k
    by_cases e : k = z
    · rw [if_pos ⟨rfl, e⟩, if_pos e]
    · rw [if_neg (fun q => e q.2), if_neg e]; exact hT k hk
def oRack (σ : AS) (r co li : Nat) : AS := uN (uN σ 0 r co) 1 r li
def oShell (σ : AS) (k : Nat) (x y : Int32) (rd : Nat) : AS := uI (uI (uN (uN σ 2 k rd) 11 k (flN x y)) 2 k x) 3 k y
def oWind (σ : AS) (w : Nat) (x y : Int32) : AS := uI (uI σ 4 w x) 5 w y
def oPeop (σ : AS) (z : Nat) (x : Int32) : AS := uI σ 0 z x
def oCut (σ : AS) (i0 : Nat) : AS := uN σ 10 i0 1
def oTemp (σ : AS) (n : Nat) : AS := uN σ 4 0 n
def oKill (σ : AS) (d : Nat) : AS := uN σ 3 d (1 - σ.2 3 d)
def oGap (σ : AS) (n : Nat) : AS := uN σ 5 0 n
theorem AOK_Rack {σ : AS} {r co li : Nat} (ok : AOK σ) (hr : r < 6) (hc : co < 8) (hl : li < 8) : AOK (oRack σ r co li) := by
  obtain ⟨o1, o2, o3, o4, o5, o6, o7, o8, o9, o10, o11⟩ := ok
  refine ⟨?_, ?_, ?_, ?_, ?_, ?_, ?_, ?_, ?_, ?_, ?_⟩
  · exact o1
  · intro r9 hr9
    simp only [oRack, uN]
    by_cases e9 : r9 = r
    · subst e9
      simpa using ⟨hc, hl⟩
    · simpa [e9] using o2 r9 hr9
  · exact o3
  · exact o4
  · exact o5
  · exact o6
  · exact o7
  · exact o8
  · exact o9
  · exact o10
  · exact o11
theorem XR_Rack {σ : AS} {M M' : MS} {r co li : Nat} (h : XR σ M) (hr : r < 6) (e0 : gI M' (30 + r) 0 = nI co) (e1 : gI M' (30 + r) 1 = nI li) (F : ∀ p j, XRs p j → ¬ (p = 30 + r) → gI M' p j = gI M p j) (G : ∀ p k, gR M' p k = gR M p k) : XR (oRack σ r co li) M' := by
  obtain ⟨a1, a2, a3, a4, a5, a6, a7, a8, a9, a10, a11, a12⟩ := h
  refine ⟨?_, ?_, ?_, ?_, ?_, ?_, ?_, ?_, ?_, ?_, ?_, ?_⟩
  · exact fun k hk => (F _ _ (by unfold XRs; omega) (by omega)).trans (a1 k hk)
  · exact trivial
  · intro r9 hr9
    simp only [oRack, uN]
    by_cases e9 : r9 = r
    · subst e9
      simpa using ⟨e0, e1⟩
    · rw [F _ _ (by unfold XRs; omega) (by omega), F _ _ (by unfold XRs; omega) (by omega)]
      simpa [e9] using a3 r9 hr9
  · intro k9 hk9
    obtain ⟨b1, b2, b3, b4, b5, b6⟩ := a4 k9 hk9
    exact ⟨(F _ _ (by unfold XRs; omega) (by omega)).trans b1, (F _ _ (by unfold XRs; omega) (by omega)).trans b2, (F _ _ (by unfold XRs; omega) (by omega)).trans b3, (F _ _ (by unfold XRs; omega) (by omega)).trans b4, (F _ _ (by unfold XRs; omega) (by omega)).trans b5, fun y9 hy9 => (F _ _ (by unfold XRs; omega) (by omega)).trans (b6 y9 hy9)⟩
  · exact fun y9 hy9 => ⟨(F _ _ (by unfold XRs; omega) (by omega)).trans (a5 y9 hy9).1, (F _ _ (by unfold XRs; omega) (by omega)).trans (a5 y9 hy9).2⟩
  · exact trivial
  · exact fun c9 hc9 => (F _ _ (by unfold XRs; omega) (by omega)).trans (a7 c9 hc9)
  · exact (F _ _ (by unfold XRs; omega) (by omega)).trans a8
  · exact (F _ _ (by unfold XRs; omega) (by omega)).trans a9
  · exact (F _ _ (by unfold XRs; omega) (by omega)).trans a10
  · intro i9 hi9
    rw [G]
    exact a11 i9 hi9
  · intro i9 hi9
    rw [(F _ _ (by unfold XRs; omega) (by omega)), (F _ _ (by unfold XRs; omega) (by omega)), G, G]
    exact a12 i9 hi9
theorem AOK_Shell {σ : AS} {k : Nat} {x y : Int32} {rd : Nat} (ok : AOK σ) (hk : k < 4) (hx : 1 ≤ x.toInt ∧ x.toInt ≤ 200) (hy : 1 ≤ y.toInt ∧ y.toInt ≤ 100) (hd : rd ≤ 3) : AOK (oShell σ k x y rd) := by
  obtain ⟨o1, o2, o3, o4, o5, o6, o7, o8, o9, o10, o11⟩ := ok
  refine ⟨?_, ?_, ?_, ?_, ?_, ?_, ?_, ?_, ?_, ?_, ?_⟩
  · exact o1
  · exact o2
  · intro k9 hk9
    simp only [oShell, uN, uI]
    by_cases e9 : k9 = k
    · subst e9
      simpa using hd
    · simpa [e9] using o3 k9 hk9
  · exact o4
  · exact o5
  · exact o6
  · exact o7
  · intro k9 hk9
    simp only [oShell, uN, uI]
    by_cases e9 : k9 = k
    · subst e9
      simpa using flN_ok hx hy
    · simpa [e9] using o8 k9 hk9
  · exact o9
  · exact o10
  · intro k9 hk9
    simp only [oShell, uN, uI]
    by_cases e9 : k9 = k
    · subst e9
      simpa using ⟨hx, hy⟩
    · simpa [e9] using o11 k9 hk9
theorem XR_Shell {σ : AS} {M M' : MS} {k : Nat} {x y : Int32} {rd : Nat} (h : XR σ M) (hk : k < 4) (e1 : gI M' (40 + k) 2 = x ∧ gI M' (40 + k) 3 = y ∧ gI M' (40 + k) 4 = nI rd ∧ gI M' (40 + k) 5 = nI (liftN x y (flN x y)) ∧ gI M' (40 + k) 6 = nI (flN x y) ∧ ∀ z, z < 4 → gI M' (44 + k) z = nI (cntN x y (flN x y) z)) (F : ∀ p j, XRs p j → ¬ (p = 40 + k ∨ p = 44 + k) → gI M' p j = gI M p j) (G : ∀ p k, gR M' p k = gR M p k) : XR (oShell σ k x y rd) M' := by
  obtain ⟨a1, a2, a3, a4, a5, a6, a7, a8, a9, a10, a11, a12⟩ := h
  refine ⟨?_, ?_, ?_, ?_, ?_, ?_, ?_, ?_, ?_, ?_, ?_, ?_⟩
  · exact fun k hk => (F _ _ (by unfold XRs; omega) (by omega)).trans (a1 k hk)
  · exact trivial
  · exact fun r9 hr9 => ⟨(F _ _ (by unfold XRs; omega) (by omega)).trans (a3 r9 hr9).1, (F _ _ (by unfold XRs; omega) (by omega)).trans (a3 r9 hr9).2⟩
  · intro k9 hk9
    simp only [oShell, uN, uI]
    by_cases e9 : k9 = k
    · subst e9
      simpa using e1
    · obtain ⟨b1, b2, b3, b4, b5, b6⟩ := a4 k9 hk9
      simp only [e9, and_false, if_false]
      exact ⟨(F _ _ (by unfold XRs; omega) (by omega)).trans b1, (F _ _ (by unfold XRs; omega) (by omega)).trans b2, (F _ _ (by unfold XRs; omega) (by omega)).trans b3, (F _ _ (by unfold XRs; omega) (by omega)).trans b4, (F _ _ (by unfold XRs; omega) (by omega)).trans b5, fun y9 hy9 => (F _ _ (by unfold XRs; omega) (by omega)).trans (b6 y9 hy9)⟩
  · exact fun y9 hy9 => ⟨(F _ _ (by unfold XRs; omega) (by omega)).trans (a5 y9 hy9).1, (F _ _ (by unfold XRs; omega) (by omega)).trans (a5 y9 hy9).2⟩
  · exact trivial
  · exact fun c9 hc9 => (F _ _ (by unfold XRs; omega) (by omega)).trans (a7 c9 hc9)
  · exact (F _ _ (by unfold XRs; omega) (by omega)).trans a8
  · exact (F _ _ (by unfold XRs; omega) (by omega)).trans a9
  · exact (F _ _ (by unfold XRs; omega) (by omega)).trans a10
  · intro i9 hi9
    rw [G]
    exact a11 i9 hi9
  · intro i9 hi9
    rw [(F _ _ (by unfold XRs; omega) (by omega)), (F _ _ (by unfold XRs; omega) (by omega)), G, G]
    exact a12 i9 hi9
theorem AOK_Wind {σ : AS} {w : Nat} {x y : Int32} (ok : AOK σ) (hw : w < 4) (hx : -100 ≤ x.toInt ∧ x.toInt ≤ 100) (hy : -100 ≤ y.toInt ∧ y.toInt ≤ 100) : AOK (oWind σ w x y) := by
  obtain ⟨o1, o2, o3, o4, o5, o6, o7, o8, o9, o10, o11⟩ := ok
  refine ⟨?_, ?_, ?_, ?_, ?_, ?_, ?_, ?_, ?_, ?_, ?_⟩
  · exact o1
  · exact o2
  · exact o3
  · exact o4
  · exact o5
  · exact o6
  · exact o7
  · exact o8
  · intro y9 hy9
    simp only [oWind, uI]
    by_cases e9 : y9 = w
    · subst e9
      simpa using ⟨hx.1, hx.2, hy.1, hy.2⟩
    · simpa [e9] using o9 y9 hy9
  · exact o10
  · exact o11
theorem XR_Wind {σ : AS} {M M' : MS} {w : Nat} {x y : Int32} (h : XR σ M) (hw : w < 4) (e0 : gI M' 7 w = x) (e1 : gI M' 8 w = y) (F : ∀ p j, XRs p j → ¬ ((p = 7 ∧ j = w) ∨ (p = 8 ∧ j = w)) → gI M' p j = gI M p j) (G : ∀ p k, gR M' p k = gR M p k) : XR (oWind σ w x y) M' := by
  obtain ⟨a1, a2, a3, a4, a5, a6, a7, a8, a9, a10, a11, a12⟩ := h
  refine ⟨?_, ?_, ?_, ?_, ?_, ?_, ?_, ?_, ?_, ?_, ?_, ?_⟩
  · exact fun k hk => (F _ _ (by unfold XRs; omega) (by omega)).trans (a1 k hk)
  · exact trivial
  · exact fun r9 hr9 => ⟨(F _ _ (by unfold XRs; omega) (by omega)).trans (a3 r9 hr9).1, (F _ _ (by unfold XRs; omega) (by omega)).trans (a3 r9 hr9).2⟩
  · intro k9 hk9
    obtain ⟨b1, b2, b3, b4, b5, b6⟩ := a4 k9 hk9
    exact ⟨(F _ _ (by unfold XRs; omega) (by omega)).trans b1, (F _ _ (by unfold XRs; omega) (by omega)).trans b2, (F _ _ (by unfold XRs; omega) (by omega)).trans b3, (F _ _ (by unfold XRs; omega) (by omega)).trans b4, (F _ _ (by unfold XRs; omega) (by omega)).trans b5, fun y9 hy9 => (F _ _ (by unfold XRs; omega) (by omega)).trans (b6 y9 hy9)⟩
  · intro y9 hy9
    simp only [oWind, uI]
    by_cases e9 : y9 = w
    · subst e9
      simpa using ⟨e0, e1⟩
    · rw [F _ _ (by unfold XRs; omega) (by omega), F _ _ (by unfold XRs; omega) (by omega)]
      simpa [e9] using a5 y9 hy9
  · exact trivial
  · exact fun c9 hc9 => (F _ _ (by unfold XRs; omega) (by omega)).trans (a7 c9 hc9)
  · exact (F _ _ (by unfold XRs; omega) (by omega)).trans a8
  · exact (F _ _ (by unfold XRs; omega) (by omega)).trans a9
  · exact (F _ _ (by unfold XRs; omega) (by omega)).trans a10
  · intro i9 hi9
    rw [G]
    exact a11 i9 hi9
  · intro i9 hi9
    rw [(F _ _ (by unfold XRs; omega) (by omega)), (F _ _ (by unfold XRs; omega) (by omega)), G, G]
    exact a12 i9 hi9
theorem AOK_Peop {σ : AS} {z : Nat} {x : Int32} (ok : AOK σ)  : AOK (oPeop σ z x) := by
  obtain ⟨o1, o2, o3, o4, o5, o6, o7, o8, o9, o10, o11⟩ := ok
  refine ⟨?_, ?_, ?_, ?_, ?_, ?_, ?_, ?_, ?_, ?_, ?_⟩
  · exact o1
  · exact o2
  · exact o3
  · exact o4
  · exact o5
  · exact o6
  · exact o7
  · exact o8
  · exact o9
  · exact o10
  · exact o11
theorem XR_Peop {σ : AS} {M M' : MS} {z : Nat} {x : Int32} (h : XR σ M) (e0 : gI M' 2 z = x) (F : ∀ p j, XRs p j → ¬ (p = 2 ∧ j = z) → gI M' p j = gI M p j) (G : ∀ p k, gR M' p k = gR M p k) : XR (oPeop σ z x) M' := by
  obtain ⟨a1, a2, a3, a4, a5, a6, a7, a8, a9, a10, a11, a12⟩ := h
  refine ⟨?_, ?_, ?_, ?_, ?_, ?_, ?_, ?_, ?_, ?_, ?_, ?_⟩
  · intro k9 hk9
    simp only [oPeop, uI]
    by_cases e9 : k9 = z
    · subst e9
      simpa using e0
    · rw [F _ _ (by unfold XRs; omega) (by omega)]
      simpa [e9] using a1 k9 hk9
  · exact trivial
  · exact fun r9 hr9 => ⟨(F _ _ (by unfold XRs; omega) (by omega)).trans (a3 r9 hr9).1, (F _ _ (by unfold XRs; omega) (by omega)).trans (a3 r9 hr9).2⟩
  · intro k9 hk9
    obtain ⟨b1, b2, b3, b4, b5, b6⟩ := a4 k9 hk9
    exact ⟨(F _ _ (by unfold XRs; omega) (by omega)).trans b1, (F _ _ (by unfold XRs; omega) (by omega)).trans b2, (F _ _ (by unfold XRs; omega) (by omega)).trans b3, (F _ _ (by unfold XRs; omega) (by omega)).trans b4, (F _ _ (by unfold XRs; omega) (by omega)).trans b5, fun y9 hy9 => (F _ _ (by unfold XRs; omega) (by omega)).trans (b6 y9 hy9)⟩
  · exact fun y9 hy9 => ⟨(F _ _ (by unfold XRs; omega) (by omega)).trans (a5 y9 hy9).1, (F _ _ (by unfold XRs; omega) (by omega)).trans (a5 y9 hy9).2⟩
  · exact trivial
  · exact fun c9 hc9 => (F _ _ (by unfold XRs; omega) (by omega)).trans (a7 c9 hc9)
  · exact (F _ _ (by unfold XRs; omega) (by omega)).trans a8
  · exact (F _ _ (by unfold XRs; omega) (by omega)).trans a9
  · exact (F _ _ (by unfold XRs; omega) (by omega)).trans a10
  · intro i9 hi9
    rw [G]
    exact a11 i9 hi9
  · intro i9 hi9
    rw [(F _ _ (by unfold XRs; omega) (by omega)), (F _ _ (by unfold XRs; omega) (by omega)), G, G]
    exact a12 i9 hi9
theorem AOK_Cut {σ : AS} {i0 : Nat} (ok : AOK σ) (hi : i0 < aN σ) : AOK (oCut σ i0) := by
  obtain ⟨o1, o2, o3, o4, o5, o6, o7, o8, o9, o10, o11⟩ := ok
  refine ⟨?_, ?_, ?_, ?_, ?_, ?_, ?_, ?_, ?_, ?_, ?_⟩
  · exact o1
  · exact o2
  · exact o3
  · exact o4
  · exact o5
  · exact o6
  · intro i9 hi9
    obtain ⟨b1, b2, b3, b4⟩ := o7 i9 hi9
    refine ⟨b1, b2, b3, ?_⟩
    simp only [oCut, uN]
    by_cases e9 : i9 = i0
    · subst e9
      simp
    · simpa [e9] using b4
  · exact o8
  · exact o9
  · intro i9 hi9
    have hne : i9 ≠ i0 := by
      have : aN σ ≤ i9 := hi9
      omega
    simp only [oCut, uN]
    simpa [hne] using o10 i9 hi9
  · exact o11
theorem XR_Cut {σ : AS} {M M' : MS} {i0 : Nat} (h : XR σ M) (hi : i0 < aN σ) (hi40 : aN σ ≤ 40) (e0 : gR M' 11 i0 = none) (F : ∀ p j, XRs p j → ¬ (False) → gI M' p j = gI M p j) (G : ∀ p k, ¬ (p = 11 ∧ k = i0) → gR M' p k = gR M p k) : XR (oCut σ i0) M' := by
  obtain ⟨a1, a2, a3, a4, a5, a6, a7, a8, a9, a10, a11, a12⟩ := h
  refine ⟨?_, ?_, ?_, ?_, ?_, ?_, ?_, ?_, ?_, ?_, ?_, ?_⟩
  · exact fun k hk => (F _ _ (by unfold XRs; omega) (fun z => z)).trans (a1 k hk)
  · exact trivial
  · exact fun r9 hr9 => ⟨(F _ _ (by unfold XRs; omega) (fun z => z)).trans (a3 r9 hr9).1, (F _ _ (by unfold XRs; omega) (fun z => z)).trans (a3 r9 hr9).2⟩
  · intro k9 hk9
    obtain ⟨b1, b2, b3, b4, b5, b6⟩ := a4 k9 hk9
    exact ⟨(F _ _ (by unfold XRs; omega) (fun z => z)).trans b1, (F _ _ (by unfold XRs; omega) (fun z => z)).trans b2, (F _ _ (by unfold XRs; omega) (fun z => z)).trans b3, (F _ _ (by unfold XRs; omega) (fun z => z)).trans b4, (F _ _ (by unfold XRs; omega) (fun z => z)).trans b5, fun y9 hy9 => (F _ _ (by unfold XRs; omega) (fun z => z)).trans (b6 y9 hy9)⟩
  · exact fun y9 hy9 => ⟨(F _ _ (by unfold XRs; omega) (fun z => z)).trans (a5 y9 hy9).1, (F _ _ (by unfold XRs; omega) (fun z => z)).trans (a5 y9 hy9).2⟩
  · exact trivial
  · exact fun c9 hc9 => (F _ _ (by unfold XRs; omega) (fun z => z)).trans (a7 c9 hc9)
  · exact (F _ _ (by unfold XRs; omega) (fun z => z)).trans a8
  · exact (F _ _ (by unfold XRs; omega) (fun z => z)).trans a9
  · exact (F _ _ (by unfold XRs; omega) (fun z => z)).trans a10
  · intro i9 hi9
    simp only [oCut, uN]
    by_cases e9 : i9 = i0
    · subst e9
      exact Or.inl ⟨e0, fun z => by simp at z⟩
    · rw [G _ _ (by omega)]
      simpa [e9, aN] using a11 i9 hi9
  · intro i9 hi9
    rw [F _ _ (by unfold XRs; omega) (fun z => z), F _ _ (by unfold XRs; omega) (fun z => z), G _ _ (by omega), G _ _ (by omega)]
    exact a12 i9 hi9
theorem AOK_Temp {σ : AS} {n : Nat} (ok : AOK σ) (hn : 1 ≤ n ∧ n ≤ 100) : AOK (oTemp σ n) := by
  obtain ⟨o1, o2, o3, o4, o5, o6, o7, o8, o9, o10, o11⟩ := ok
  refine ⟨?_, ?_, ?_, ?_, ?_, ?_, ?_, ?_, ?_, ?_, ?_⟩
  · exact o1
  · exact o2
  · exact o3
  · exact o4
  · exact hn
  · exact o6
  · exact o7
  · exact o8
  · exact o9
  · exact o10
  · exact o11
theorem XR_Temp {σ : AS} {M M' : MS} {n : Nat} (h : XR σ M) (e0 : gI M' 0 13 = nI n) (F : ∀ p j, XRs p j → ¬ (p = 0 ∧ j = 13) → gI M' p j = gI M p j) (G : ∀ p k, gR M' p k = gR M p k) : XR (oTemp σ n) M' := by
  obtain ⟨a1, a2, a3, a4, a5, a6, a7, a8, a9, a10, a11, a12⟩ := h
  refine ⟨?_, ?_, ?_, ?_, ?_, ?_, ?_, ?_, ?_, ?_, ?_, ?_⟩
  · exact fun k hk => (F _ _ (by unfold XRs; omega) (by omega)).trans (a1 k hk)
  · exact trivial
  · exact fun r9 hr9 => ⟨(F _ _ (by unfold XRs; omega) (by omega)).trans (a3 r9 hr9).1, (F _ _ (by unfold XRs; omega) (by omega)).trans (a3 r9 hr9).2⟩
  · intro k9 hk9
    obtain ⟨b1, b2, b3, b4, b5, b6⟩ := a4 k9 hk9
    exact ⟨(F _ _ (by unfold XRs; omega) (by omega)).trans b1, (F _ _ (by unfold XRs; omega) (by omega)).trans b2, (F _ _ (by unfold XRs; omega) (by omega)).trans b3, (F _ _ (by unfold XRs; omega) (by omega)).trans b4, (F _ _ (by unfold XRs; omega) (by omega)).trans b5, fun y9 hy9 => (F _ _ (by unfold XRs; omega) (by omega)).trans (b6 y9 hy9)⟩
  · exact fun y9 hy9 => ⟨(F _ _ (by unfold XRs; omega) (by omega)).trans (a5 y9 hy9).1, (F _ _ (by unfold XRs; omega) (by omega)).trans (a5 y9 hy9).2⟩
  · exact trivial
  · exact fun c9 hc9 => (F _ _ (by unfold XRs; omega) (by omega)).trans (a7 c9 hc9)
  · exact e0
  · exact (F _ _ (by unfold XRs; omega) (by omega)).trans a9
  · exact (F _ _ (by unfold XRs; omega) (by omega)).trans a10
  · intro i9 hi9
    rw [G]
    exact a11 i9 hi9
  · intro i9 hi9
    rw [(F _ _ (by unfold XRs; omega) (by omega)), (F _ _ (by unfold XRs; omega) (by omega)), G, G]
    exact a12 i9 hi9
theorem AOK_Kill {σ : AS} {d : Nat} (ok : AOK σ)  : AOK (oKill σ d) := by
  obtain ⟨o1, o2, o3, o4, o5, o6, o7, o8, o9, o10, o11⟩ := ok
  refine ⟨?_, ?_, ?_, ?_, ?_, ?_, ?_, ?_, ?_, ?_, ?_⟩
  · exact o1
  · exact o2
  · exact o3
  · intro c9 hc9
    simp only [oKill, uN]
    by_cases e9 : c9 = d
    · subst e9
      simp
    · simpa [e9] using o4 c9 hc9
  · exact o5
  · exact o6
  · exact o7
  · exact o8
  · exact o9
  · exact o10
  · exact o11
theorem XR_Kill {σ : AS} {M M' : MS} {d : Nat} (h : XR σ M) (e0 : gI M' 17 d = nI (1 - σ.2 3 d)) (F : ∀ p j, XRs p j → ¬ (p = 17 ∧ j = d) → gI M' p j = gI M p j) (G : ∀ p k, gR M' p k = gR M p k) : XR (oKill σ d) M' := by
  obtain ⟨a1, a2, a3, a4, a5, a6, a7, a8, a9, a10, a11, a12⟩ := h
  refine ⟨?_, ?_, ?_, ?_, ?_, ?_, ?_, ?_, ?_, ?_, ?_, ?_⟩
  · exact fun k hk => (F _ _ (by unfold XRs; omega) (by omega)).trans (a1 k hk)
  · exact trivial
  · exact fun r9 hr9 => ⟨(F _ _ (by unfold XRs; omega) (by omega)).trans (a3 r9 hr9).1, (F _ _ (by unfold XRs; omega) (by omega)).trans (a3 r9 hr9).2⟩
  · intro k9 hk9
    obtain ⟨b1, b2, b3, b4, b5, b6⟩ := a4 k9 hk9
    exact ⟨(F _ _ (by unfold XRs; omega) (by omega)).trans b1, (F _ _ (by unfold XRs; omega) (by omega)).trans b2, (F _ _ (by unfold XRs; omega) (by omega)).trans b3, (F _ _ (by unfold XRs; omega) (by omega)).trans b4, (F _ _ (by unfold XRs; omega) (by omega)).trans b5, fun y9 hy9 => (F _ _ (by unfold XRs; omega) (by omega)).trans (b6 y9 hy9)⟩
  · exact fun y9 hy9 => ⟨(F _ _ (by unfold XRs; omega) (by omega)).trans (a5 y9 hy9).1, (F _ _ (by unfold XRs; omega) (by omega)).trans (a5 y9 hy9).2⟩
  · exact trivial
  · intro c9 hc9
    simp only [oKill, uN]
    by_cases e9 : c9 = d
    · subst e9
      simpa using e0
    · rw [F _ _ (by unfold XRs; omega) (by omega)]
      simpa [e9] using a7 c9 hc9
  · exact (F _ _ (by unfold XRs; omega) (by omega)).trans a8
  · exact (F _ _ (by unfold XRs; omega) (by omega)).trans a9
  · exact (F _ _ (by unfold XRs; omega) (by omega)).trans a10
  · intro i9 hi9
    rw [G]
    exact a11 i9 hi9
  · intro i9 hi9
    rw [(F _ _ (by unfold XRs; omega) (by omega)), (F _ _ (by unfold XRs; omega) (by omega)), G, G]
    exact a12 i9 hi9
theorem AOK_Gap {σ : AS} {n : Nat} (ok : AOK σ) (hn : n ≤ 20) : AOK (oGap σ n) := by
  obtain ⟨o1, o2, o3, o4, o5, o6, o7, o8, o9, o10, o11⟩ := ok
  refine ⟨?_, ?_, ?_, ?_, ?_, ?_, ?_, ?_, ?_, ?_, ?_⟩
  · exact o1
  · exact o2
  · exact o3
  · exact o4
  · exact o5
  · exact hn
  · exact o7
  · exact o8
  · exact o9
  · exact o10
  · exact o11
theorem XR_Gap {σ : AS} {M M' : MS} {n : Nat} (h : XR σ M) (e0 : gI M' 16 3 = nI n) (F : ∀ p j, XRs p j → ¬ (p = 16 ∧ j = 3) → gI M' p j = gI M p j) (G : ∀ p k, gR M' p k = gR M p k) : XR (oGap σ n) M' := by
  obtain ⟨a1, a2, a3, a4, a5, a6, a7, a8, a9, a10, a11, a12⟩ := h
  refine ⟨?_, ?_, ?_, ?_, ?_, ?_, ?_, ?_, ?_, ?_, ?_, ?_⟩
  · exact fun k hk => (F _ _ (by unfold XRs; omega) (by omega)).trans (a1 k hk)
  · exact trivial
  · exact fun r9 hr9 => ⟨(F _ _ (by unfold XRs; omega) (by omega)).trans (a3 r9 hr9).1, (F _ _ (by unfold XRs; omega) (by omega)).trans (a3 r9 hr9).2⟩
  · intro k9 hk9
    obtain ⟨b1, b2, b3, b4, b5, b6⟩ := a4 k9 hk9
    exact ⟨(F _ _ (by unfold XRs; omega) (by omega)).trans b1, (F _ _ (by unfold XRs; omega) (by omega)).trans b2, (F _ _ (by unfold XRs; omega) (by omega)).trans b3, (F _ _ (by unfold XRs; omega) (by omega)).trans b4, (F _ _ (by unfold XRs; omega) (by omega)).trans b5, fun y9 hy9 => (F _ _ (by unfold XRs; omega) (by omega)).trans (b6 y9 hy9)⟩
  · exact fun y9 hy9 => ⟨(F _ _ (by unfold XRs; omega) (by omega)).trans (a5 y9 hy9).1, (F _ _ (by unfold XRs; omega) (by omega)).trans (a5 y9 hy9).2⟩
  · exact trivial
  · exact fun c9 hc9 => (F _ _ (by unfold XRs; omega) (by omega)).trans (a7 c9 hc9)
  · exact (F _ _ (by unfold XRs; omega) (by omega)).trans a8
  · exact e0
  · exact (F _ _ (by unfold XRs; omega) (by omega)).trans a10
  · intro i9 hi9
    rw [G]
    exact a11 i9 hi9
  · intro i9 hi9
    rw [(F _ _ (by unfold XRs; omega) (by omega)), (F _ _ (by unfold XRs; omega) (by omega)), G, G]
    exact a12 i9 hi9
set_option maxHeartbeats 4000000 in
set_option maxRecDepth 100000 in
theorem c_X9_setRack (l : Launch) (hl9 : l.stackTraces = false) (D : va_G) (cA : Nat → ClassId) (sh : Nat → Option Sh) (ad : Nat → Nat) (M : MS) (sz : Nat) (σ : AS) (v : VT) (hX : XSh (aN σ) sh) (hXX : XX σ v M) (a b d : Int32) : vx_Met l yX9_setRack wsX9_setRack ({ frames := 6, cells := 1, slots := 6, locals := 90 }) (xPc D cA sh ad M sz [.ref (ad 0), .int a, .int b, .int d]) (wQi D cA sh ad (fun r M' => oA XSx M M' ∧ XX (oRack σ (n1 a) (n1 b) (n1 d)) v M' ∧ (inB a 0 5 && zoB b d) = true ∧ r = nI (8 * σ.2 1 (n1 a) + σ.2 0 (n1 a))) (wA sh ad sz)) (xXC D cA sh ad (pxG σ v M nIA (inB a 0 5 && zoB b d)) (wA sh ad sz)) 1 6 (wA sh ad sz) := by
  refine vx_ofW (cc := cX9_setRack) (maxL := 5) (ret := (some .int)) (by decide) rfl ?_
  intro p e s m args below meth cd0 s₁ B hml ht hv
  obtain ⟨rfl, hsz, hM, hK, hE, hZ⟩ := hv
  have hx := B.exec
  have hb := B.bytes
  have hr := B.returns
  have hts := atoms_spec (ws := wsX9_setRack) B.pre
  have hown : s.vm.findClass RX9 = some m.cls := findClass_of_methodNamed B.named
  have hlocks := B.notSynchronized
  subst hsz
  have hA := wA_PA sh ad s.heap
  generalize wA sh ad s.heap.size = A at hA hZ ⊢
  have hW : WS D cA sh ad A s.heap M s.heap [] := ⟨hM, va_S.rf⟩
  have fa18 : FA D s m ([.ref (ad 0), .int a, .int b, .int d] : List Value).toArray 18 9 1 := FA.mk (C := RX9) (T := TX9) (N := 15) hts (fun _ h => List.mem_cons_of_mem _ (List.mem_append_left _ (List.mem_append_left _ (List.mem_append_right _ (h))))) hown hK rfl (by decide) (hts (.fieldLink RX9 18 "MortarShow" "racks" "[LMortarShow$Rack;") (List.mem_of_getElem? (i := 3) rfl))
  have fa103 : FA D s m ([.ref (ad 0), .int a, .int b, .int d] : List Value).toArray 103 7 0 := FA.mk (C := RX7) (T := TX7) (N := 2) hts (fun _ h => List.mem_cons_of_mem _ (List.mem_append_left _ (List.mem_append_right _ (h)))) hown hK rfl (by decide) (hts (.fieldLink RX9 103 "MortarShow$Rack" "column" "I") (List.mem_of_getElem? (i := 4) rfl))
  have fa106 : FA D s m ([.ref (ad 0), .int a, .int b, .int d] : List Value).toArray 106 7 1 := FA.mk (C := RX7) (T := TX7) (N := 2) hts (fun _ h => List.mem_cons_of_mem _ (List.mem_append_left _ (List.mem_append_right _ (h)))) hown hK rfl (by decide) (hts (.fieldLink RX9 106 "MortarShow$Rack" "line" "I") (List.mem_of_getElem? (i := 5) rfl))
  have fw82 : FW D s m ([.ref (ad 0), .int a, .int b, .int d] : List Value).toArray 82 9 14 (.boolean) := FW.mk (C := RX9) (T := TX9) (N := 15) hts (fun _ h => List.mem_cons_of_mem _ (List.mem_append_left _ (List.mem_append_left _ (List.mem_append_right _ (h))))) hown hK rfl (by decide) (hts (.fieldLink RX9 82 "MortarShow" "planned" "Z") (List.mem_of_getElem? (i := 6) rfl)) tyX9 tyX9_ok nmX9 rfl rfl
  have fw103 : FW D s m ([.ref (ad 0), .int a, .int b, .int d] : List Value).toArray 103 7 0 (.int) := FW.mk (C := RX7) (T := TX7) (N := 2) hts (fun _ h => List.mem_cons_of_mem _ (List.mem_append_left _ (List.mem_append_right _ (h)))) hown hK rfl (by decide) (hts (.fieldLink RX9 103 "MortarShow$Rack" "column" "I") (List.mem_of_getElem? (i := 4) rfl)) tyX7 tyX7_ok nmX7 rfl rfl
  have fw106 : FW D s m ([.ref (ad 0), .int a, .int b, .int d] : List Value).toArray 106 7 1 (.int) := FW.mk (C := RX7) (T := TX7) (N := 2) hts (fun _ h => List.mem_cons_of_mem _ (List.mem_append_left _ (List.mem_append_right _ (h)))) hown hK rfl (by decide) (hts (.fieldLink RX9 106 "MortarShow$Rack" "line" "I") (List.mem_of_getElem? (i := 5) rfl)) tyX7 tyX7_ok nmX7 rfl rfl
  have hl := lv_entry ([.ref (ad 0), .int a, .int b, .int d]) (n := 5) (Nat.le_of_ble_eq_true rfl)
  rw [lg_entry_eq]
  generalize (lg_sl ([.ref (ad 0), .int a, .int b, .int d]) ++ List.replicate (5 - (lg_sl ([.ref (ad 0), .int a, .int b, .int d])).length) Slot.unset).toArray = ls at hl ⊢
  have hl : lv_has ls 5 [(0, .ref (ad 0)), (1, .int a), (2, .int b), (3, .int d)] := hl
  obtain ⟨ok, hR, hP, hL, hV, hT⟩ := hXX
  have hXX : XX σ v M := ⟨ok, hR, hP, hL, hV, hT⟩
  have o1 := ok.1
  refine lv_iload_n hx hb dX9_setRack_0 rfl (lv_at hl 1 rfl) ?_
  refine lv_iconst (v := 0) hx hb dX9_setRack_1 (by decide) ?_
  refine lv_iconst (v := 5) hx hb dX9_setRack_2 (by decide) ?_
  refine wc_ri (va_runS (As := [.int a, .int 0, .int 5]) (rest := []) ⟨hx, hb, hml, hown, hts⟩ (c_X9_outside l a 0 5) (va_cwS 3 hts gX9_setRack_X9_outside rfl rfl rfl (by decide +kernel) ⟨Nat.le_of_ble_eq_true rfl, Nat.le_of_ble_eq_true rfl⟩) npreS rfl rfl hl.1 rfl (lv_room (Nat.le_of_ble_eq_true rfl)) dX9_setRack_3 ⟨Nat.le_of_ble_eq_true rfl, Nat.le_of_ble_eq_true rfl⟩) hW (fun x3 H locs p3 hW => ?_)
  try dsimp only at p3
  refine lv_if_ne (tgt := 17) hx hb dX9_setRack_6 (by decide) (fun c6 => ?_) (fun c6 => ?_)
  · have t3 := bI_t.mp (fun z => c6 (p3.trans z))
    exact wx_throw (text := "rack, column or line is out of range") hx hb hl9 xok_IA (by decide) (List.mem_of_getElem? (i := 0) rfl) ht hown (hts (.classLink RX9 96 "java/lang/IllegalArgumentException") (List.mem_of_getElem? (i := 1) rfl)) (hts (.initialized "java/lang/IllegalArgumentException") (List.mem_of_getElem? (i := 2) rfl)) (fun w h => hts w (List.mem_cons_of_mem _ (List.mem_append_right _ (h)))) hE hZ hW (hl.1.trans hml.symm) dX9_setRack_17 dX9_setRack_20 dX9_setRack_21 dX9_setRack_23 dX9_setRack_26 ⟨Nat.le_of_ble_eq_true rfl, Nat.le_of_ble_eq_true rfl⟩ ⟨Nat.le_of_ble_eq_true rfl, Nat.le_of_ble_eq_true rfl⟩ hlocks ⟨Nat.le_of_ble_eq_true rfl, Nat.le_of_ble_eq_true rfl⟩ ⟨rfl, (by first | (simp [inB, zoB_eq, t3]; done) | (simp [inB, zoB_eq, t11]; done)), oA.rf, hXX⟩
  · have g3 := bI_z.mp (p3.symm.trans c6)
    refine lv_iload_n hx hb dX9_setRack_9 rfl (lv_at hl 2 rfl) ?_
    refine lv_iload_n hx hb dX9_setRack_10 rfl (lv_at hl 3 rfl) ?_
    refine wc_ri (va_runS (As := [.int b, .int d]) (rest := []) ⟨hx, hb, hml, hown, hts⟩ (c_X9_offGround l b d) (va_cwS 2 hts gX9_setRack_X9_offGround rfl rfl rfl (by decide +kernel) ⟨Nat.le_of_ble_eq_true rfl, Nat.le_of_ble_eq_true rfl⟩) npreS rfl rfl hl.1 rfl (lv_room (Nat.le_of_ble_eq_true rfl)) dX9_setRack_11 ⟨Nat.le_of_ble_eq_true rfl, Nat.le_of_ble_eq_true rfl⟩) hW (fun x11 H locs p11 hW => ?_)
    try dsimp only at p11
    refine lv_if_eq (tgt := 27) hx hb dX9_setRack_14 (by decide) (fun c14 => ?_) (fun c14 => ?_)
    · have g11 := bI_z.mp (p11.symm.trans c14)
      obtain ⟨r, hr9, er⟩ := out_n (n := 5) (by decide) g3
      obtain ⟨x, y, hx8, hy8, exx, eyy⟩ := off_n g11
      have f1 : n1 a = r := by rw [er]; exact n1_nI (by omega)
      have f2 : n1 b = x := by rw [exx]; exact n1_nI (by omega)
      have f3 : n1 d = y := by rw [eyy]; exact n1_nI (by omega)
      have hr3 := hR.2.2.1 r hr9
      refine lv_aload_n hx hb dX9_setRack_27 rfl (lv_at hl 0 rfl) ?_
      refine wgF (t := 4) hx hb fa18 hW (hX.1 0 (by decide)) rfl dX9_setRack_28 ?_
      refine lv_iload_n hx hb dX9_setRack_31 rfl (lv_at hl 1 rfl) ?_
      refine walC (j := r) hx hb hK hW (hX.1 4 (by decide)) er (by omega) (by decide) dX9_setRack_32 ?_
      refine wgI hx hb fa103 hW (sh_rack hX r (by omega)) rfl dX9_setRack_33 (fun x33 e33 => ?_)
      refine lv_aload_n hx hb dX9_setRack_36 rfl (lv_at hl 0 rfl) ?_
      refine wgF (t := 4) hx hb fa18 hW (hX.1 0 (by decide)) rfl dX9_setRack_37 ?_
      refine lv_iload_n hx hb dX9_setRack_40 rfl (lv_at hl 1 rfl) ?_
      refine walC (j := r) hx hb hK hW (hX.1 4 (by decide)) er (by omega) (by decide) dX9_setRack_41 ?_
      refine wgI hx hb fa106 hW (sh_rack hX r (by omega)) rfl dX9_setRack_42 (fun x42 e42 => ?_)
      refine wc_ri (va_runS (As := [.int x33, .int x42]) (rest := []) ⟨hx, hb, hml, hown, hts⟩ (c_X9_zoneOf l x33 x42) (va_cwS 2 hts gX9_setRack_X9_zoneOf rfl rfl rfl (by decide +kernel) ⟨Nat.le_of_ble_eq_true rfl, Nat.le_of_ble_eq_true rfl⟩) npreS rfl rfl hl.1 rfl (lv_room (Nat.le_of_ble_eq_true rfl)) dX9_setRack_45 ⟨Nat.le_of_ble_eq_true rfl, Nat.le_of_ble_eq_true rfl⟩) hW (fun x45 H locs p45 hW => ?_)
      try dsimp only at p45
      refine lv_istore (lv' := [(4, .int x45), (0, .ref (ad 0)), (1, .int a), (2, .int b), (3, .int d)]) hx hb dX9_setRack_48 hl (by decide) rfl (fun ls hl => ?_)
      refine lv_aload_n hx hb dX9_setRack_50 rfl (lv_at hl 1 rfl) ?_
      refine wgF (t := 4) hx hb fa18 hW (hX.1 0 (by decide)) rfl dX9_setRack_51 ?_
      refine lv_iload_n hx hb dX9_setRack_54 rfl (lv_at hl 2 rfl) ?_
      refine walC (j := r) hx hb hK hW (hX.1 4 (by decide)) er (by omega) (by decide) dX9_setRack_55 ?_
      refine lv_iload_n hx hb dX9_setRack_56 rfl (lv_at hl 3 rfl) ?_
      refine wpI hx hb fw103 hA hW (sh_rack hX r (by omega)) rfl dX9_setRack_57 (fun M57 H locs eM57 hW => ?_)
      refine lv_aload_n hx hb dX9_setRack_60 rfl (lv_at hl 1 rfl) ?_
      refine wgF (t := 4) hx hb fa18 hW (hX.1 0 (by decide)) rfl dX9_setRack_61 ?_
      refine lv_iload_n hx hb dX9_setRack_64 rfl (lv_at hl 2 rfl) ?_
      refine walC (j := r) hx hb hK hW (hX.1 4 (by decide)) er (by omega) (by decide) dX9_setRack_65 ?_
      refine lv_iload_n hx hb dX9_setRack_66 rfl (lv_at hl 4 rfl) ?_
      refine wpI hx hb fw106 hA hW (sh_rack hX r (by omega)) rfl dX9_setRack_67 (fun M67 H locs eM67 hW => ?_)
      refine lv_aload_n hx hb dX9_setRack_70 rfl (lv_at hl 1 rfl) ?_
      refine lv_iconst (v := 0) hx hb dX9_setRack_71 (by decide) ?_
      refine wpZ hx hb fw82 hA hW (hX.1 0 (by decide)) rfl ⟨rfl, rfl⟩ dX9_setRack_72 (fun M72 H locs eM72 hW => ?_)
      refine lv_iload hx hb dX9_setRack_75 (lv_at hl 0 rfl) ?_
      refine vx_ret ?_
      refine W.widen (k := 1) (n := 6) (by decide) (by decide) ?_
      exact wr_wi hx hb hr hlocks hW dX9_setRack_77 ⟨(by rw [eM72, eM67, eM57]; exact oA.putI (oA.putI (oA.putI (oA.rf) (by unfold XSx; omega)) (by unfold XSx; omega)) (by unfold XSx; omega)), by rw [f1, f2, f3]; exact XX_set (AOK_Rack ok hr9 hx8 hy8) (XR_Rack hR hr9 (by rw [eM72, gI_sI, if_neg (by omega), eM67, gI_sI, if_neg (by omega), eM57, gI_sI, if_pos ⟨rfl, rfl⟩, exx]) (by rw [eM72, gI_sI, if_neg (by omega), eM67, gI_sI, if_pos ⟨rfl, rfl⟩, eyy]) (fun p k hx hn => by unfold XRs at hx; rw [eM72, eM67, eM57, gI_sI, if_neg (by omega), gI_sI, if_neg (by omega), gI_sI, if_neg (by omega)]) (fun p k => by rw [eM72, eM67, eM57]; rfl)) (by rw [eM72, gI_sI, if_pos ⟨rfl, rfl⟩]) (by rw [eM72, eM67, eM57, gI_sI, if_neg (by omega), gI_sI, if_neg (by omega), gI_sI, if_neg (by omega)]; exact hL) (fun k hk => by rw [eM72, eM67, eM57, gI_sI, if_neg (by omega), gI_sI, if_neg (by omega), gI_sI, if_neg (by omega)]; exact hV k hk) (fun k hk => by rw [eM72, eM67, eM57, gI_sI, if_neg (by omega), gI_sI, if_neg (by omega), gI_sI, if_neg (by omega)]; exact hT k hk), (by simp [inB, zoB_eq, g3, g11]), by rw [p45, e33, e42, hr3.1, hr3.2, nlit 8, pk_mul, nI_add, f1]⟩
    · have t11 := bI_t.mp (fun z => c14 (p11.trans z))
      exact wx_throw (text := "rack, column or line is out of range") hx hb hl9 xok_IA (by decide) (List.mem_of_getElem? (i := 0) rfl) ht hown (hts (.classLink RX9 96 "java/lang/IllegalArgumentException") (List.mem_of_getElem? (i := 1) rfl)) (hts (.initialized "java/lang/IllegalArgumentException") (List.mem_of_getElem? (i := 2) rfl)) (fun w h => hts w (List.mem_cons_of_mem _ (List.mem_append_right _ (h)))) hE hZ hW (hl.1.trans hml.symm) dX9_setRack_17 dX9_setRack_20 dX9_setRack_21 dX9_setRack_23 dX9_setRack_26 ⟨Nat.le_of_ble_eq_true rfl, Nat.le_of_ble_eq_true rfl⟩ ⟨Nat.le_of_ble_eq_true rfl, Nat.le_of_ble_eq_true rfl⟩ hlocks ⟨Nat.le_of_ble_eq_true rfl, Nat.le_of_ble_eq_true rfl⟩ ⟨rfl, (by first | (simp [inB, zoB_eq, t3]; done) | (simp [inB, zoB_eq, t11]; done)), oA.rf, hXX⟩
set_option maxHeartbeats 4000000 in
set_option maxRecDepth 100000 in
theorem c_X9_setShell (l : Launch) (hl9 : l.stackTraces = false) (D : va_G) (cA : Nat → ClassId) (sh : Nat → Option Sh) (ad : Nat → Nat) (M : MS) (sz : Nat) (σ : AS) (v : VT) (hX : XSh (aN σ) sh) (hXX : XX σ v M) (a b d f : Int32) : vx_Met l yX9_setShell wsX9_setShell ({ frames := 6, cells := 1, slots := 6, locals := 90 }) (xPc D cA sh ad M sz [.ref (ad 0), .int a, .int b, .int d, .int f]) (wQi D cA sh ad (fun r M' => oA XSx M M' ∧ XX (oShell σ (n1 a) b d (n1 f)) v M' ∧ (inB a 0 3 && inB b 1 200 && inB d 1 100 && inB f 0 3) = true ∧ r = nI (liftN b d (flN b d))) (wA sh ad sz)) (xXC D cA sh ad (pxG σ v M nIA (inB a 0 3 && inB b 1 200 && inB d 1 100 && inB f 0 3)) (wA sh ad sz)) 1 6 (wA sh ad sz) := by
  refine vx_ofW (cc := cX9_setShell) (maxL := 5) (ret := (some .int)) (by decide) rfl ?_
  intro p e s m args below meth cd0 s₁ B hml ht hv
  obtain ⟨rfl, hsz, hM, hK, hE, hZ⟩ := hv
  have hx := B.exec
  have hb := B.bytes
  have hr := B.returns
  have hts := atoms_spec (ws := wsX9_setShell) B.pre
  have hown : s.vm.findClass RX9 = some m.cls := findClass_of_methodNamed B.named
  have hlocks := B.notSynchronized
  subst hsz
  have hA := wA_PA sh ad s.heap
  generalize wA sh ad s.heap.size = A at hA hZ ⊢
  have hW : WS D cA sh ad A s.heap M s.heap [] := ⟨hM, va_S.rf⟩
  have fa24 : FA D s m ([.ref (ad 0), .int a, .int b, .int d, .int f] : List Value).toArray 24 9 2 := FA.mk (C := RX9) (T := TX9) (N := 15) hts (fun _ h => List.mem_cons_of_mem _ (List.mem_append_left _ (List.mem_append_left _ (List.mem_append_left _ (List.mem_append_right _ (h)))))) hown hK rfl (by decide) (hts (.fieldLink RX9 24 "MortarShow" "kinds" "[LMortarShow$Kind;") (List.mem_of_getElem? (i := 3) rfl))
  have fa119 : FA D s m ([.ref (ad 0), .int a, .int b, .int d, .int f] : List Value).toArray 119 6 5 := FA.mk (C := RX6) (T := TX6) (N := 7) hts (fun _ h => List.mem_cons_of_mem _ (List.mem_append_left _ (List.mem_append_left _ (List.mem_append_right _ (h))))) hown hK rfl (by decide) (hts (.fieldLink RX9 119 "MortarShow$Kind" "lift" "I") (List.mem_of_getElem? (i := 5) rfl))
  have fw82 : FW D s m ([.ref (ad 0), .int a, .int b, .int d, .int f] : List Value).toArray 82 9 14 (.boolean) := FW.mk (C := RX9) (T := TX9) (N := 15) hts (fun _ h => List.mem_cons_of_mem _ (List.mem_append_left _ (List.mem_append_left _ (List.mem_append_left _ (List.mem_append_right _ (h)))))) hown hK rfl (by decide) (hts (.fieldLink RX9 82 "MortarShow" "planned" "Z") (List.mem_of_getElem? (i := 4) rfl)) tyX9 tyX9_ok nmX9 rfl rfl
  have hl := lv_entry ([.ref (ad 0), .int a, .int b, .int d, .int f]) (n := 5) (Nat.le_of_ble_eq_true rfl)
  rw [lg_entry_eq]
  generalize (lg_sl ([.ref (ad 0), .int a, .int b, .int d, .int f]) ++ List.replicate (5 - (lg_sl ([.ref (ad 0), .int a, .int b, .int d, .int f])).length) Slot.unset).toArray = ls at hl ⊢
  have hl : lv_has ls 5 [(0, .ref (ad 0)), (1, .int a), (2, .int b), (3, .int d), (4, .int f)] := hl
  obtain ⟨ok, hR, hP, hL, hV, hT⟩ := hXX
  have hXX : XX σ v M := ⟨ok, hR, hP, hL, hV, hT⟩
  have o1 := ok.1
  refine lv_iload_n hx hb dX9_setShell_0 rfl (lv_at hl 1 rfl) ?_
  refine lv_iconst (v := 0) hx hb dX9_setShell_1 (by decide) ?_
  refine lv_iconst (v := 3) hx hb dX9_setShell_2 (by decide) ?_
  refine wc_ri (va_runS (As := [.int a, .int 0, .int 3]) (rest := []) ⟨hx, hb, hml, hown, hts⟩ (c_X9_outside l a 0 3) (va_cwS 3 hts gX9_setShell_X9_outside rfl rfl rfl (by decide +kernel) ⟨Nat.le_of_ble_eq_true rfl, Nat.le_of_ble_eq_true rfl⟩) npreS rfl rfl hl.1 rfl (lv_room (Nat.le_of_ble_eq_true rfl)) dX9_setShell_3 ⟨Nat.le_of_ble_eq_true rfl, Nat.le_of_ble_eq_true rfl⟩) hW (fun x3 H locs p3 hW => ?_)
  try dsimp only at p3
  refine lv_if_ne (tgt := 40) hx hb dX9_setShell_6 (by decide) (fun c6 => ?_) (fun c6 => ?_)
  · have t3 := bI_t.mp (fun z => c6 (p3.trans z))
    exact wx_throw (text := "kind, speed, fall or radius is out of range") hx hb hl9 xok_IA (by decide) (List.mem_of_getElem? (i := 1) rfl) ht hown (hts (.classLink RX9 96 "java/lang/IllegalArgumentException") (List.mem_of_getElem? (i := 1) rfl)) (hts (.initialized "java/lang/IllegalArgumentException") (List.mem_of_getElem? (i := 2) rfl)) (fun w h => hts w (List.mem_cons_of_mem _ (List.mem_append_right _ (h)))) hE hZ hW (hl.1.trans hml.symm) dX9_setShell_40 dX9_setShell_43 dX9_setShell_44 dX9_setShell_46 dX9_setShell_49 ⟨Nat.le_of_ble_eq_true rfl, Nat.le_of_ble_eq_true rfl⟩ ⟨Nat.le_of_ble_eq_true rfl, Nat.le_of_ble_eq_true rfl⟩ hlocks ⟨Nat.le_of_ble_eq_true rfl, Nat.le_of_ble_eq_true rfl⟩ ⟨rfl, (by first | (simp [inB, zoB_eq, t3]; done) | (simp [inB, zoB_eq, t14]; done) | (simp [inB, zoB_eq, t24]; done) | (simp [inB, zoB_eq, t34]; done)), oA.rf, hXX⟩
  · have g3 := bI_z.mp (p3.symm.trans c6)
    refine lv_iload_n hx hb dX9_setShell_9 rfl (lv_at hl 2 rfl) ?_
    refine lv_iconst (v := 1) hx hb dX9_setShell_10 (by decide) ?_
    refine lv_sipush (v := 200) hx hb dX9_setShell_11 (by decide) ?_
    refine wc_ri (va_runS (As := [.int b, .int 1, .int 200]) (rest := []) ⟨hx, hb, hml, hown, hts⟩ (c_X9_outside l b 1 200) (va_cwS 3 hts gX9_setShell_X9_outside rfl rfl rfl (by decide +kernel) ⟨Nat.le_of_ble_eq_true rfl, Nat.le_of_ble_eq_true rfl⟩) npreS rfl rfl hl.1 rfl (lv_room (Nat.le_of_ble_eq_true rfl)) dX9_setShell_14 ⟨Nat.le_of_ble_eq_true rfl, Nat.le_of_ble_eq_true rfl⟩) hW (fun x14 H locs p14 hW => ?_)
    try dsimp only at p14
    refine lv_if_ne (tgt := 40) hx hb dX9_setShell_17 (by decide) (fun c17 => ?_) (fun c17 => ?_)
    · have t14 := bI_t.mp (fun z => c17 (p14.trans z))
      exact wx_throw (text := "kind, speed, fall or radius is out of range") hx hb hl9 xok_IA (by decide) (List.mem_of_getElem? (i := 1) rfl) ht hown (hts (.classLink RX9 96 "java/lang/IllegalArgumentException") (List.mem_of_getElem? (i := 1) rfl)) (hts (.initialized "java/lang/IllegalArgumentException") (List.mem_of_getElem? (i := 2) rfl)) (fun w h => hts w (List.mem_cons_of_mem _ (List.mem_append_right _ (h)))) hE hZ hW (hl.1.trans hml.symm) dX9_setShell_40 dX9_setShell_43 dX9_setShell_44 dX9_setShell_46 dX9_setShell_49 ⟨Nat.le_of_ble_eq_true rfl, Nat.le_of_ble_eq_true rfl⟩ ⟨Nat.le_of_ble_eq_true rfl, Nat.le_of_ble_eq_true rfl⟩ hlocks ⟨Nat.le_of_ble_eq_true rfl, Nat.le_of_ble_eq_true rfl⟩ ⟨rfl, (by first | (simp [inB, zoB_eq, t3]; done) | (simp [inB, zoB_eq, t14]; done) | (simp [inB, zoB_eq, t24]; done) | (simp [inB, zoB_eq, t34]; done)), oA.rf, hXX⟩
    · have g14 := bI_z.mp (p14.symm.trans c17)
      refine lv_iload_n hx hb dX9_setShell_20 rfl (lv_at hl 3 rfl) ?_
      refine lv_iconst (v := 1) hx hb dX9_setShell_21 (by decide) ?_
      refine lv_bipush (v := 100) hx hb dX9_setShell_22 (by decide) ?_
      refine wc_ri (va_runS (As := [.int d, .int 1, .int 100]) (rest := []) ⟨hx, hb, hml, hown, hts⟩ (c_X9_outside l d 1 100) (va_cwS 3 hts gX9_setShell_X9_outside rfl rfl rfl (by decide +kernel) ⟨Nat.le_of_ble_eq_true rfl, Nat.le_of_ble_eq_true rfl⟩) npreS rfl rfl hl.1 rfl (lv_room (Nat.le_of_ble_eq_true rfl)) dX9_setShell_24 ⟨Nat.le_of_ble_eq_true rfl, Nat.le_of_ble_eq_true rfl⟩) hW (fun x24 H locs p24 hW => ?_)
      try dsimp only at p24
      refine lv_if_ne (tgt := 40) hx hb dX9_setShell_27 (by decide) (fun c27 => ?_) (fun c27 => ?_)
      · have t24 := bI_t.mp (fun z => c27 (p24.trans z))
        exact wx_throw (text := "kind, speed, fall or radius is out of range") hx hb hl9 xok_IA (by decide) (List.mem_of_getElem? (i := 1) rfl) ht hown (hts (.classLink RX9 96 "java/lang/IllegalArgumentException") (List.mem_of_getElem? (i := 1) rfl)) (hts (.initialized "java/lang/IllegalArgumentException") (List.mem_of_getElem? (i := 2) rfl)) (fun w h => hts w (List.mem_cons_of_mem _ (List.mem_append_right _ (h)))) hE hZ hW (hl.1.trans hml.symm) dX9_setShell_40 dX9_setShell_43 dX9_setShell_44 dX9_setShell_46 dX9_setShell_49 ⟨Nat.le_of_ble_eq_true rfl, Nat.le_of_ble_eq_true rfl⟩ ⟨Nat.le_of_ble_eq_true rfl, Nat.le_of_ble_eq_true rfl⟩ hlocks ⟨Nat.le_of_ble_eq_true rfl, Nat.le_of_ble_eq_true rfl⟩ ⟨rfl, (by first | (simp [inB, zoB_eq, t3]; done) | (simp [inB, zoB_eq, t14]; done) | (simp [inB, zoB_eq, t24]; done) | (simp [inB, zoB_eq, t34]; done)), oA.rf, hXX⟩
      · have g24 := bI_z.mp (p24.symm.trans c27)
        refine lv_iload hx hb dX9_setShell_30 (lv_at hl 4 rfl) ?_
        refine lv_iconst (v := 0) hx hb dX9_setShell_32 (by decide) ?_
        refine lv_iconst (v := 3) hx hb dX9_setShell_33 (by decide) ?_
        refine wc_ri (va_runS (As := [.int f, .int 0, .int 3]) (rest := []) ⟨hx, hb, hml, hown, hts⟩ (c_X9_outside l f 0 3) (va_cwS 3 hts gX9_setShell_X9_outside rfl rfl rfl (by decide +kernel) ⟨Nat.le_of_ble_eq_true rfl, Nat.le_of_ble_eq_true rfl⟩) npreS rfl rfl hl.1 rfl (lv_room (Nat.le_of_ble_eq_true rfl)) dX9_setShell_34 ⟨Nat.le_of_ble_eq_true rfl, Nat.le_of_ble_eq_true rfl⟩) hW (fun x34 H locs p34 hW => ?_)
        try dsimp only at p34
        refine lv_if_eq (tgt := 50) hx hb dX9_setShell_37 (by decide) (fun c37 => ?_) (fun c37 => ?_)
        · have g34 := bI_z.mp (p34.symm.trans c37)
          obtain ⟨k, hk, ek⟩ := out_n (n := 3) (by decide) g3
          obtain ⟨rd, hrd, erd⟩ := out_n (n := 3) (by decide) g34
          have f1 : n1 a = k := by rw [ek]; exact n1_nI (by omega)
          have f2 : n1 f = rd := by rw [erd]; exact n1_nI (by omega)
          have hb9 : 1 ≤ b.toInt ∧ b.toInt ≤ 200 := out_i g14
          have hd9 : 1 ≤ d.toInt ∧ d.toInt ≤ 100 := out_i g24
          refine lv_aload_n hx hb dX9_setShell_50 rfl (lv_at hl 0 rfl) ?_
          refine wgF (t := 5) hx hb fa24 hW (hX.1 0 (by decide)) rfl dX9_setShell_51 ?_
          refine lv_iload_n hx hb dX9_setShell_54 rfl (lv_at hl 1 rfl) ?_
          refine walK (j := k) hx hb hK hW (hX.1 5 (by decide)) ek (by omega) (by decide) dX9_setShell_55 ?_
          refine lv_iload_n hx hb dX9_setShell_56 rfl (lv_at hl 2 rfl) ?_
          refine lv_iload_n hx hb dX9_setShell_57 rfl (lv_at hl 3 rfl) ?_
          refine lv_iload hx hb dX9_setShell_58 (lv_at hl 4 rfl) ?_
          refine wc_wv (va_runV (As := [.int b, .int d, .int f]) (rest := []) ⟨hx, hb, hml, hown, hts⟩ (c_X6_shape l D cA sh ad M _ (40 + k) (44 + k) (48 + k) (sh_kind hX k (by omega)) (sh_ticks hX k (by omega)) (sh_height hX k (by omega)) b d f (flN b d) (flN_ok hb9 hd9)) (cwV 3 hts gX9_setShell_X6_shape rfl rfl rfl (by decide +kernel) ⟨Nat.le_of_ble_eq_true rfl, Nat.le_of_ble_eq_true rfl⟩) (wpreV hK hW (C := RX6) (ci := 6) (sh_kind hX k (by omega)) rfl) rfl rfl hl.1 rfl (lv_room (Nat.le_of_ble_eq_true rfl)) dX9_setShell_60 ⟨Nat.le_of_ble_eq_true rfl, Nat.le_of_ble_eq_true rfl⟩) hA hW (fun M60 H locs p60 hW => ?_)
          try dsimp only at p60
          obtain ⟨z1, z2, z3, z4, z5, z6, z7⟩ := p60
          refine lv_aload_n hx hb dX9_setShell_63 rfl (lv_at hl 0 rfl) ?_
          refine lv_iconst (v := 0) hx hb dX9_setShell_64 (by decide) ?_
          refine wpZ hx hb fw82 hA hW (hX.1 0 (by decide)) rfl ⟨rfl, rfl⟩ dX9_setShell_65 (fun M65 H locs eM65 hW => ?_)
          refine lv_aload_n hx hb dX9_setShell_68 rfl (lv_at hl 0 rfl) ?_
          refine wgF (t := 5) hx hb fa24 hW (hX.1 0 (by decide)) rfl dX9_setShell_69 ?_
          refine lv_iload_n hx hb dX9_setShell_72 rfl (lv_at hl 1 rfl) ?_
          refine walK (j := k) hx hb hK hW (hX.1 5 (by decide)) ek (by omega) (by decide) dX9_setShell_73 ?_
          refine wgI hx hb fa119 hW (sh_kind hX k (by omega)) rfl dX9_setShell_74 (fun x74 e74 => ?_)
          refine vx_ret ?_
          refine W.widen (k := 1) (n := 6) (by decide) (by decide) ?_
          exact wr_wi hx hb hr hlocks hW dX9_setShell_77 ⟨by rw [eM65]; exact oA.putI (z7.oA.mono (fun p j z => by unfold XSx; omega)) (by unfold XSx; omega), by
              rw [f1, f2]
              refine XX_set (AOK_Shell ok hk hb9 hd9 (by omega)) (XR_Shell hR hk ?_ ?_ ?_) ?_ ?_ ?_ ?_
              · rw [eM65]
                refine ⟨?_, ?_, ?_, ?_, ?_, fun w hw => ?_⟩
                · rw [gI_sI, if_neg (by omega)]; exact z1
                · rw [gI_sI, if_neg (by omega)]; exact z2
                · rw [gI_sI, if_neg (by omega)]; exact z3.trans erd
                · rw [gI_sI, if_neg (by omega)]; exact z4
                · rw [gI_sI, if_neg (by omega)]; exact z5
                · rw [gI_sI, if_neg (by omega)]; exact z6 w hw
              · intro p j hx9 hn9
                unfold XRs at hx9
                rw [eM65, gI_sI, if_neg (by omega)]
                exact z7.1 p j (by omega)
              · intro p j
                rw [eM65, gR_sI]; exact z7.rg p j
              · rw [eM65, gI_sI, if_pos ⟨rfl, rfl⟩]
              · rw [eM65, gI_sI, if_neg (by omega), z7.1 _ _ (by omega)]; exact hL
              · intro j hj
                rw [eM65, gI_sI, if_neg (by omega), z7.1 _ _ (by omega)]; exact hV j hj
              · intro j hj
                rw [eM65, gI_sI, if_neg (by omega), z7.1 _ _ (by omega)]; exact hT j hj, (by simp [inB, zoB_eq, g3, g14, g24, g34]), by rw [e74, eM65, gI_sI, if_neg (by omega)]; exact z4⟩
        · have t34 := bI_t.mp (fun z => c37 (p34.trans z))
          exact wx_throw (text := "kind, speed, fall or radius is out of range") hx hb hl9 xok_IA (by decide) (List.mem_of_getElem? (i := 1) rfl) ht hown (hts (.classLink RX9 96 "java/lang/IllegalArgumentException") (List.mem_of_getElem? (i := 1) rfl)) (hts (.initialized "java/lang/IllegalArgumentException") (List.mem_of_getElem? (i := 2) rfl)) (fun w h => hts w (List.mem_cons_of_mem _ (List.mem_append_right _ (h)))) hE hZ hW (hl.1.trans hml.symm) dX9_setShell_40 dX9_setShell_43 dX9_setShell_44 dX9_setShell_46 dX9_setShell_49 ⟨Nat.le_of_ble_eq_true rfl, Nat.le_of_ble_eq_true rfl⟩ ⟨Nat.le_of_ble_eq_true rfl, Nat.le_of_ble_eq_true rfl⟩ hlocks ⟨Nat.le_of_ble_eq_true rfl, Nat.le_of_ble_eq_true rfl⟩ ⟨rfl, (by first | (simp [inB, zoB_eq, t3]; done) | (simp [inB, zoB_eq, t14]; done) | (simp [inB, zoB_eq, t24]; done) | (simp [inB, zoB_eq, t34]; done)), oA.rf, hXX⟩
set_option maxHeartbeats 4000000 in
set_option maxRecDepth 100000 in
theorem c_X9_setWind (l : Launch) (hl9 : l.stackTraces = false) (D : va_G) (cA : Nat → ClassId) (sh : Nat → Option Sh) (ad : Nat → Nat) (M : MS) (sz : Nat) (σ : AS) (v : VT) (hX : XSh (aN σ) sh) (hXX : XX σ v M) (a b d : Int32) : vx_Met l yX9_setWind wsX9_setWind ({ frames := 6, cells := 1, slots := 6, locals := 121 }) (xPc D cA sh ad M sz [.ref (ad 0), .int a, .int b, .int d]) (wQi D cA sh ad (fun r M' => oA XSx M M' ∧ XX (oWind σ (n1 a) b d) v M' ∧ (inB a 0 3 && inB b (-100) 100 && inB d (-100) 100) = true ∧ r = nI (ctN (fun k => stP (oWind σ (n1 a) b d) k && !stP σ k) 64)) (wA sh ad sz)) (xXC D cA sh ad (pxG σ v M nIA (inB a 0 3 && inB b (-100) 100 && inB d (-100) 100)) (wA sh ad sz)) 1 6 (wA sh ad sz) := by
  refine vx_ofW (cc := cX9_setWind) (maxL := 6) (ret := (some .int)) (by decide) rfl ?_
  intro p e s m args below meth cd0 s₁ B hml ht hv
  obtain ⟨rfl, hsz, hM, hK, hE, hZ⟩ := hv
  have hx := B.exec
  have hb := B.bytes
  have hr := B.returns
  have hts := atoms_spec (ws := wsX9_setWind) B.pre
  have hown : s.vm.findClass RX9 = some m.cls := findClass_of_methodNamed B.named
  have hlocks := B.notSynchronized
  subst hsz
  have hA := wA_PA sh ad s.heap
  generalize wA sh ad s.heap.size = A at hA hZ ⊢
  have hW : WS D cA sh ad A s.heap M s.heap [] := ⟨hM, va_S.rf⟩
  have fa31 : FA D s m ([.ref (ad 0), .int a, .int b, .int d] : List Value).toArray 31 9 3 := FA.mk (C := RX9) (T := TX9) (N := 15) hts (fun _ h => List.mem_cons_of_mem _ (List.mem_append_left _ (List.mem_append_left _ (List.mem_append_left _ (List.mem_append_left _ (List.mem_append_left _ (List.mem_append_left _ (List.mem_append_left _ (List.mem_append_left _ (List.mem_append_right _ (h))))))))))) hown hK rfl (by decide) (hts (.fieldLink RX9 31 "MortarShow" "wind" "LMortarShow$Wind;") (List.mem_of_getElem? (i := 3) rfl))
  have fa128 : FA D s m ([.ref (ad 0), .int a, .int b, .int d] : List Value).toArray 128 8 0 := FA.mk (C := RX8) (T := TX8) (N := 2) hts (fun _ h => List.mem_cons_of_mem _ (List.mem_append_left _ (List.mem_append_left _ (List.mem_append_left _ (List.mem_append_left _ (List.mem_append_left _ (List.mem_append_left _ (List.mem_append_left _ (List.mem_append_right _ (h)))))))))) hown hK rfl (by decide) (hts (.fieldLink RX9 128 "MortarShow$Wind" "x" "[I") (List.mem_of_getElem? (i := 4) rfl))
  have fa131 : FA D s m ([.ref (ad 0), .int a, .int b, .int d] : List Value).toArray 131 8 1 := FA.mk (C := RX8) (T := TX8) (N := 2) hts (fun _ h => List.mem_cons_of_mem _ (List.mem_append_left _ (List.mem_append_left _ (List.mem_append_left _ (List.mem_append_left _ (List.mem_append_left _ (List.mem_append_left _ (List.mem_append_left _ (List.mem_append_right _ (h)))))))))) hown hK rfl (by decide) (hts (.fieldLink RX9 131 "MortarShow$Wind" "y" "[I") (List.mem_of_getElem? (i := 5) rfl))
  have fw82 : FW D s m ([.ref (ad 0), .int a, .int b, .int d] : List Value).toArray 82 9 14 (.boolean) := FW.mk (C := RX9) (T := TX9) (N := 15) hts (fun _ h => List.mem_cons_of_mem _ (List.mem_append_left _ (List.mem_append_left _ (List.mem_append_left _ (List.mem_append_left _ (List.mem_append_left _ (List.mem_append_left _ (List.mem_append_left _ (List.mem_append_left _ (List.mem_append_right _ (h))))))))))) hown hK rfl (by decide) (hts (.fieldLink RX9 82 "MortarShow" "planned" "Z") (List.mem_of_getElem? (i := 6) rfl)) tyX9 tyX9_ok nmX9 rfl rfl
  have hl := lv_entry ([.ref (ad 0), .int a, .int b, .int d]) (n := 6) (Nat.le_of_ble_eq_true rfl)
  rw [lg_entry_eq]
  generalize (lg_sl ([.ref (ad 0), .int a, .int b, .int d]) ++ List.replicate (6 - (lg_sl ([.ref (ad 0), .int a, .int b, .int d])).length) Slot.unset).toArray = ls at hl ⊢
  have hl : lv_has ls 6 [(0, .ref (ad 0)), (1, .int a), (2, .int b), (3, .int d)] := hl
  obtain ⟨ok, hR, hP, hL, hV, hT⟩ := hXX
  have hXX : XX σ v M := ⟨ok, hR, hP, hL, hV, hT⟩
  have o1 := ok.1
  refine lv_iload_n hx hb dX9_setWind_0 rfl (lv_at hl 1 rfl) ?_
  refine lv_iconst (v := 0) hx hb dX9_setWind_1 (by decide) ?_
  refine lv_iconst (v := 3) hx hb dX9_setWind_2 (by decide) ?_
  refine wc_ri (va_runS (As := [.int a, .int 0, .int 3]) (rest := []) ⟨hx, hb, hml, hown, hts⟩ (c_X9_outside l a 0 3) (va_cwS 3 hts gX9_setWind_X9_outside rfl rfl rfl (by decide +kernel) ⟨Nat.le_of_ble_eq_true rfl, Nat.le_of_ble_eq_true rfl⟩) npreS rfl rfl hl.1 rfl (lv_room (Nat.le_of_ble_eq_true rfl)) dX9_setWind_3 ⟨Nat.le_of_ble_eq_true rfl, Nat.le_of_ble_eq_true rfl⟩) hW (fun x3 H locs p3 hW => ?_)
  try dsimp only at p3
  refine lv_if_ne (tgt := 31) hx hb dX9_setWind_6 (by decide) (fun c6 => ?_) (fun c6 => ?_)
  · have t3 := bI_t.mp (fun z => c6 (p3.trans z))
    exact wx_throw (text := "layer, x or y is out of range") hx hb hl9 xok_IA (by decide) (List.mem_of_getElem? (i := 2) rfl) ht hown (hts (.classLink RX9 96 "java/lang/IllegalArgumentException") (List.mem_of_getElem? (i := 1) rfl)) (hts (.initialized "java/lang/IllegalArgumentException") (List.mem_of_getElem? (i := 2) rfl)) (fun w h => hts w (List.mem_cons_of_mem _ (List.mem_append_right _ (h)))) hE hZ hW (hl.1.trans hml.symm) dX9_setWind_31 dX9_setWind_34 dX9_setWind_35 dX9_setWind_37 dX9_setWind_40 ⟨Nat.le_of_ble_eq_true rfl, Nat.le_of_ble_eq_true rfl⟩ ⟨Nat.le_of_ble_eq_true rfl, Nat.le_of_ble_eq_true rfl⟩ hlocks ⟨Nat.le_of_ble_eq_true rfl, Nat.le_of_ble_eq_true rfl⟩ ⟨rfl, (by first | (simp [inB, zoB_eq, t3]; done) | (simp [inB, zoB_eq, t14]; done) | (simp [inB, zoB_eq, t25]; done)), oA.rf, hXX⟩
  · have g3 := bI_z.mp (p3.symm.trans c6)
    refine lv_iload_n hx hb dX9_setWind_9 rfl (lv_at hl 2 rfl) ?_
    refine lv_bipush (v := (-100)) hx hb dX9_setWind_10 (by decide) ?_
    refine lv_bipush (v := 100) hx hb dX9_setWind_12 (by decide) ?_
    refine wc_ri (va_runS (As := [.int b, .int (-100), .int 100]) (rest := []) ⟨hx, hb, hml, hown, hts⟩ (c_X9_outside l b (-100) 100) (va_cwS 3 hts gX9_setWind_X9_outside rfl rfl rfl (by decide +kernel) ⟨Nat.le_of_ble_eq_true rfl, Nat.le_of_ble_eq_true rfl⟩) npreS rfl rfl hl.1 rfl (lv_room (Nat.le_of_ble_eq_true rfl)) dX9_setWind_14 ⟨Nat.le_of_ble_eq_true rfl, Nat.le_of_ble_eq_true rfl⟩) hW (fun x14 H locs p14 hW => ?_)
    try dsimp only at p14
    refine lv_if_ne (tgt := 31) hx hb dX9_setWind_17 (by decide) (fun c17 => ?_) (fun c17 => ?_)
    · have t14 := bI_t.mp (fun z => c17 (p14.trans z))
      exact wx_throw (text := "layer, x or y is out of range") hx hb hl9 xok_IA (by decide) (List.mem_of_getElem? (i := 2) rfl) ht hown (hts (.classLink RX9 96 "java/lang/IllegalArgumentException") (List.mem_of_getElem? (i := 1) rfl)) (hts (.initialized "java/lang/IllegalArgumentException") (List.mem_of_getElem? (i := 2) rfl)) (fun w h => hts w (List.mem_cons_of_mem _ (List.mem_append_right _ (h)))) hE hZ hW (hl.1.trans hml.symm) dX9_setWind_31 dX9_setWind_34 dX9_setWind_35 dX9_setWind_37 dX9_setWind_40 ⟨Nat.le_of_ble_eq_true rfl, Nat.le_of_ble_eq_true rfl⟩ ⟨Nat.le_of_ble_eq_true rfl, Nat.le_of_ble_eq_true rfl⟩ hlocks ⟨Nat.le_of_ble_eq_true rfl, Nat.le_of_ble_eq_true rfl⟩ ⟨rfl, (by first | (simp [inB, zoB_eq, t3]; done) | (simp [inB, zoB_eq, t14]; done) | (simp [inB, zoB_eq, t25]; done)), oA.rf, hXX⟩
    · have g14 := bI_z.mp (p14.symm.trans c17)
      refine lv_iload_n hx hb dX9_setWind_20 rfl (lv_at hl 3 rfl) ?_
      refine lv_bipush (v := (-100)) hx hb dX9_setWind_21 (by decide) ?_
      refine lv_bipush (v := 100) hx hb dX9_setWind_23 (by decide) ?_
      refine wc_ri (va_runS (As := [.int d, .int (-100), .int 100]) (rest := []) ⟨hx, hb, hml, hown, hts⟩ (c_X9_outside l d (-100) 100) (va_cwS 3 hts gX9_setWind_X9_outside rfl rfl rfl (by decide +kernel) ⟨Nat.le_of_ble_eq_true rfl, Nat.le_of_ble_eq_true rfl⟩) npreS rfl rfl hl.1 rfl (lv_room (Nat.le_of_ble_eq_true rfl)) dX9_setWind_25 ⟨Nat.le_of_ble_eq_true rfl, Nat.le_of_ble_eq_true rfl⟩) hW (fun x25 H locs p25 hW => ?_)
      try dsimp only at p25
      refine lv_if_eq (tgt := 41) hx hb dX9_setWind_28 (by decide) (fun c28 => ?_) (fun c28 => ?_)
      · have g25 := bI_z.mp (p25.symm.trans c28)
        obtain ⟨w, hw, ew⟩ := out_n (n := 3) (by decide) g3
        have f1 : n1 a = w := by rw [ew]; exact n1_nI (by omega)
        have hb9 : -100 ≤ b.toInt ∧ b.toInt ≤ 100 := out_i g14
        have hd9 : -100 ≤ d.toInt ∧ d.toInt ≤ 100 := out_i g25
        refine lv_aload_n hx hb dX9_setWind_41 rfl (lv_at hl 0 rfl) ?_
        refine wc_wl (va_runV (As := []) (rest := []) ⟨hx, hb, hml, hown, hts⟩ (c_X9_struckCues l D cA sh ad M _ σ ok hX hR hP) (cwV 0 hts gX9_setWind_X9_struckCues rfl rfl rfl (by decide +kernel) ⟨Nat.le_of_ble_eq_true rfl, Nat.le_of_ble_eq_true rfl⟩) (wpreV hK hW (C := RX9) (ci := 9) (hX.1 0 (by decide)) rfl) rfl rfl hl.1 rfl (lv_room (Nat.le_of_ble_eq_true rfl)) dX9_setWind_42 ⟨Nat.le_of_ble_eq_true rfl, Nat.le_of_ble_eq_true rfl⟩) hA hW (fun x42 M42 H locs p42 hW => ?_)
        try dsimp only at p42
        obtain ⟨o42, v42, P42, b42⟩ := p42
        obtain ⟨okA, hRA, hPA, hLA, hVA, hTA⟩ := hXX.pl o42 v42 P42
        refine lv_lstore (lv' := [(4, .long x42), (0, .ref (ad 0)), (1, .int a), (2, .int b), (3, .int d)]) hx hb dX9_setWind_45 hl (by decide) rfl (fun ls hl => ?_)
        refine lv_aload_n hx hb dX9_setWind_47 rfl (lv_at hl 1 rfl) ?_
        refine wgF (t := 6) hx hb fa31 hW (hX.1 0 (by decide)) rfl dX9_setWind_48 ?_
        refine wgF (t := 7) hx hb fa128 hW (hX.1 6 (by decide)) rfl dX9_setWind_51 ?_
        refine lv_iload_n hx hb dX9_setWind_54 rfl (lv_at hl 2 rfl) ?_
        refine lv_iload_n hx hb dX9_setWind_55 rfl (lv_at hl 3 rfl) ?_
        refine wasI (j := w) hx hb hK hA hW (hX.1 7 (by decide)) ew (by omega) (by decide) dX9_setWind_56 (fun M56 H locs eM56 hW => ?_)
        refine lv_aload_n hx hb dX9_setWind_57 rfl (lv_at hl 1 rfl) ?_
        refine wgF (t := 6) hx hb fa31 hW (hX.1 0 (by decide)) rfl dX9_setWind_58 ?_
        refine wgF (t := 8) hx hb fa131 hW (hX.1 6 (by decide)) rfl dX9_setWind_61 ?_
        refine lv_iload_n hx hb dX9_setWind_64 rfl (lv_at hl 2 rfl) ?_
        refine lv_iload_n hx hb dX9_setWind_65 rfl (lv_at hl 4 rfl) ?_
        refine wasI (j := w) hx hb hK hA hW (hX.1 8 (by decide)) ew (by omega) (by decide) dX9_setWind_66 (fun M66 H locs eM66 hW => ?_)
        refine lv_aload_n hx hb dX9_setWind_67 rfl (lv_at hl 1 rfl) ?_
        refine lv_iconst (v := 0) hx hb dX9_setWind_68 (by decide) ?_
        refine wpZ hx hb fw82 hA hW (hX.1 0 (by decide)) rfl ⟨rfl, rfl⟩ dX9_setWind_69 (fun M69 H locs eM69 hW => ?_)
        have ok8 := AOK_Wind ok (w := w) (by omega) hb9 hd9
        have hR8 : XR (oWind σ w b d) M69 := XR_Wind hRA (by omega) (by rw [eM69, eM66, eM56, gI_sI, if_neg (by omega), gI_sI, if_neg (by omega), gI_sI, if_pos ⟨rfl, rfl⟩]) (by rw [eM69, eM66, gI_sI, if_neg (by omega), gI_sI, if_pos ⟨rfl, rfl⟩]) (fun p k hx hn => by unfold XRs at hx; rw [eM69, eM66, eM56, gI_sI, if_neg (by omega), gI_sI, if_neg (by omega), gI_sI, if_neg (by omega)]) (fun p k => by rw [eM69, eM66, eM56]; rfl)
        have h08 : gI M69 0 14 = 0 := (by rw [eM69, gI_sI, if_pos ⟨rfl, rfl⟩])
        have hXX8 : XX (oWind σ w b d) v M69 := XX_set ok8 hR8 h08 (by rw [eM69, eM66, eM56, gI_sI, if_neg (by omega), gI_sI, if_neg (by omega), gI_sI, if_neg (by omega)]; exact hLA) (fun k hk => by rw [eM69, eM66, eM56, gI_sI, if_neg (by omega), gI_sI, if_neg (by omega), gI_sI, if_neg (by omega)]; exact hVA k hk) (fun k hk => by rw [eM69, eM66, eM56, gI_sI, if_neg (by omega), gI_sI, if_neg (by omega), gI_sI, if_neg (by omega)]; exact hTA k hk)
        have o69 : oA XSx M42 M69 := (by rw [eM69, eM66, eM56]; exact oA.putI (oA.putI (oA.putI (oA.rf) (by unfold XSx; omega)) (by unfold XSx; omega)) (by unfold XSx; omega))
        refine lv_aload_n hx hb dX9_setWind_72 rfl (lv_at hl 1 rfl) ?_
        refine wc_wl (va_runV (As := []) (rest := []) ⟨hx, hb, hml, hown, hts⟩ (c_X9_struckCues l D cA sh ad M69 _ (oWind σ w b d) ok8 hX hR8 (Or.inl h08)) (cwV 0 hts gX9_setWind_X9_struckCues rfl rfl rfl (by decide +kernel) ⟨Nat.le_of_ble_eq_true rfl, Nat.le_of_ble_eq_true rfl⟩) (wpreV hK hW (C := RX9) (ci := 9) (hX.1 0 (by decide)) rfl) rfl rfl hl.1 rfl (lv_room (Nat.le_of_ble_eq_true rfl)) dX9_setWind_73 ⟨Nat.le_of_ble_eq_true rfl, Nat.le_of_ble_eq_true rfl⟩) hA hW (fun x73 M73 H locs p73 hW => ?_)
        try dsimp only at p73
        obtain ⟨o73, v73, P73, b73⟩ := p73
        refine lv_lload hx hb dX9_setWind_76 (lv_at hl 0 rfl) ?_
        refine lv_ldc2 (v := (-1)) hx hb hown (hts (.constantLong RX9 134 (-1)) (List.mem_of_getElem? (i := 7) rfl)) dX9_setWind_78 ?_
        refine lv_lxor hx hb dX9_setWind_81 ?_
        refine lv_topl (fun x81 e81 => ?_)
        refine lv_land hx hb dX9_setWind_82 ?_
        refine lv_topl (fun x82 e82 => ?_)
        refine wc_ri (va_runS (As := [.long x82]) (rest := []) ⟨hx, hb, hml, hown, hts⟩ (c_J13_bitCount_95d88 l x82) (va_cwS 1 hts gX9_setWind_J13_bitCount_95d88 rfl rfl rfl (by decide +kernel) ⟨Nat.le_of_ble_eq_true rfl, Nat.le_of_ble_eq_true rfl⟩) npreS rfl rfl hl.1 rfl (lv_room (Nat.le_of_ble_eq_true rfl)) dX9_setWind_83 ⟨Nat.le_of_ble_eq_true rfl, Nat.le_of_ble_eq_true rfl⟩) hW (fun x83 H locs p83 hW => ?_)
        try dsimp only at p83
        refine vx_ret ?_
        refine W.widen (k := 1) (n := 6) (by decide) (by decide) ?_
        exact wr_wi hx hb hr hlocks hW dX9_setWind_86 ⟨((XSc_x o42).trans o69).trans (XSc_x o73), by rw [f1]; exact hXX8.pl o73 v73 P73, (by simp [inB, zoB_eq, g3, g14, g25]), by
            rw [p83, f1]
            congr 1
            exact ctN_same (fun k hk => by rw [e82, e81, bitL_and, bitL_not _ hk, b73 k hk, b42 k hk])⟩
      · have t25 := bI_t.mp (fun z => c28 (p25.trans z))
        exact wx_throw (text := "layer, x or y is out of range") hx hb hl9 xok_IA (by decide) (List.mem_of_getElem? (i := 2) rfl) ht hown (hts (.classLink RX9 96 "java/lang/IllegalArgumentException") (List.mem_of_getElem? (i := 1) rfl)) (hts (.initialized "java/lang/IllegalArgumentException") (List.mem_of_getElem? (i := 2) rfl)) (fun w h => hts w (List.mem_cons_of_mem _ (List.mem_append_right _ (h)))) hE hZ hW (hl.1.trans hml.symm) dX9_setWind_31 dX9_setWind_34 dX9_setWind_35 dX9_setWind_37 dX9_setWind_40 ⟨Nat.le_of_ble_eq_true rfl, Nat.le_of_ble_eq_true rfl⟩ ⟨Nat.le_of_ble_eq_true rfl, Nat.le_of_ble_eq_true rfl⟩ hlocks ⟨Nat.le_of_ble_eq_true rfl, Nat.le_of_ble_eq_true rfl⟩ ⟨rfl, (by first | (simp [inB, zoB_eq, t3]; done) | (simp [inB, zoB_eq, t14]; done) | (simp [inB, zoB_eq, t25]; done)), oA.rf, hXX⟩
set_option maxHeartbeats 4000000 in
set_option maxRecDepth 100000 in
theorem c_X9_setPeople (l : Launch) (hl9 : l.stackTraces = false) (D : va_G) (cA : Nat → ClassId) (sh : Nat → Option Sh) (ad : Nat → Nat) (M : MS) (sz : Nat) (σ : AS) (v : VT) (hX : XSh (aN σ) sh) (hXX : XX σ v M) (a b d : Int32) : vx_Met l yX9_setPeople wsX9_setPeople ({ frames := 6, cells := 1, slots := 6, locals := 90 }) (xPc D cA sh ad M sz [.ref (ad 0), .int a, .int b, .int d]) (wQi D cA sh ad (fun r M' => oA XSx M M' ∧ XX (oPeop σ (8 * n1 b + n1 a) d) v M' ∧ (zoB a b && decide (0 ≤ d)) = true ∧ r = σ.1 0 (8 * n1 b + n1 a)) (wA sh ad sz)) (xXC D cA sh ad (pxG σ v M nIA (zoB a b && decide (0 ≤ d))) (wA sh ad sz)) 1 6 (wA sh ad sz) := by
  refine vx_ofW (cc := cX9_setPeople) (maxL := 6) (ret := (some .int)) (by decide) rfl ?_
  intro p e s m args below meth cd0 s₁ B hml ht hv
  obtain ⟨rfl, hsz, hM, hK, hE, hZ⟩ := hv
  have hx := B.exec
  have hb := B.bytes
  have hr := B.returns
  have hts := atoms_spec (ws := wsX9_setPeople) B.pre
  have hown : s.vm.findClass RX9 = some m.cls := findClass_of_methodNamed B.named
  have hlocks := B.notSynchronized
  subst hsz
  have hA := wA_PA sh ad s.heap
  generalize wA sh ad s.heap.size = A at hA hZ ⊢
  have hW : WS D cA sh ad A s.heap M s.heap [] := ⟨hM, va_S.rf⟩
  have fa10 : FA D s m ([.ref (ad 0), .int a, .int b, .int d] : List Value).toArray 10 9 0 := FA.mk (C := RX9) (T := TX9) (N := 15) hts (fun _ h => List.mem_cons_of_mem _ (List.mem_append_left _ (List.mem_append_left _ (List.mem_append_right _ (h))))) hown hK rfl (by decide) (hts (.fieldLink RX9 10 "MortarShow" "ground" "LMortarShow$Ground;") (List.mem_of_getElem? (i := 3) rfl))
  have fa144 : FA D s m ([.ref (ad 0), .int a, .int b, .int d] : List Value).toArray 144 4 0 := FA.mk (C := RX4) (T := TX4) (N := 2) hts (fun _ h => List.mem_cons_of_mem _ (List.mem_append_left _ (List.mem_append_right _ (h)))) hown hK rfl (by decide) (hts (.fieldLink RX9 144 "MortarShow$Ground" "people" "[I") (List.mem_of_getElem? (i := 4) rfl))
  have fw82 : FW D s m ([.ref (ad 0), .int a, .int b, .int d] : List Value).toArray 82 9 14 (.boolean) := FW.mk (C := RX9) (T := TX9) (N := 15) hts (fun _ h => List.mem_cons_of_mem _ (List.mem_append_left _ (List.mem_append_left _ (List.mem_append_right _ (h))))) hown hK rfl (by decide) (hts (.fieldLink RX9 82 "MortarShow" "planned" "Z") (List.mem_of_getElem? (i := 5) rfl)) tyX9 tyX9_ok nmX9 rfl rfl
  have hl := lv_entry ([.ref (ad 0), .int a, .int b, .int d]) (n := 6) (Nat.le_of_ble_eq_true rfl)
  rw [lg_entry_eq]
  generalize (lg_sl ([.ref (ad 0), .int a, .int b, .int d]) ++ List.replicate (6 - (lg_sl ([.ref (ad 0), .int a, .int b, .int d])).length) Slot.unset).toArray = ls at hl ⊢
  have hl : lv_has ls 6 [(0, .ref (ad 0)), (1, .int a), (2, .int b), (3, .int d)] := hl
  obtain ⟨ok, hR, hP, hL, hV, hT⟩ := hXX
  have hXX : XX σ v M := ⟨ok, hR, hP, hL, hV, hT⟩
  have o1 := ok.1
  refine lv_iload_n hx hb dX9_setPeople_0 rfl (lv_at hl 1 rfl) ?_
  refine lv_iload_n hx hb dX9_setPeople_1 rfl (lv_at hl 2 rfl) ?_
  refine wc_ri (va_runS (As := [.int a, .int b]) (rest := []) ⟨hx, hb, hml, hown, hts⟩ (c_X9_offGround l a b) (va_cwS 2 hts gX9_setPeople_X9_offGround rfl rfl rfl (by decide +kernel) ⟨Nat.le_of_ble_eq_true rfl, Nat.le_of_ble_eq_true rfl⟩) npreS rfl rfl hl.1 rfl (lv_room (Nat.le_of_ble_eq_true rfl)) dX9_setPeople_2 ⟨Nat.le_of_ble_eq_true rfl, Nat.le_of_ble_eq_true rfl⟩) hW (fun x2 H locs p2 hW => ?_)
  try dsimp only at p2
  refine lv_if_ne (tgt := 12) hx hb dX9_setPeople_5 (by decide) (fun c5 => ?_) (fun c5 => ?_)
  · have t2 := bI_t.mp (fun z => c5 (p2.trans z))
    exact wx_throw (text := "column or line is out of range, or people is below 0") hx hb hl9 xok_IA (by decide) (List.mem_of_getElem? (i := 3) rfl) ht hown (hts (.classLink RX9 96 "java/lang/IllegalArgumentException") (List.mem_of_getElem? (i := 1) rfl)) (hts (.initialized "java/lang/IllegalArgumentException") (List.mem_of_getElem? (i := 2) rfl)) (fun w h => hts w (List.mem_cons_of_mem _ (List.mem_append_right _ (h)))) hE hZ hW (hl.1.trans hml.symm) dX9_setPeople_12 dX9_setPeople_15 dX9_setPeople_16 dX9_setPeople_18 dX9_setPeople_21 ⟨Nat.le_of_ble_eq_true rfl, Nat.le_of_ble_eq_true rfl⟩ ⟨Nat.le_of_ble_eq_true rfl, Nat.le_of_ble_eq_true rfl⟩ hlocks ⟨Nat.le_of_ble_eq_true rfl, Nat.le_of_ble_eq_true rfl⟩ ⟨rfl, (by first | (simp [zoB_eq, t2]; done) | (simp [c9]; done)), oA.rf, hXX⟩
  · have g2 := bI_z.mp (p2.symm.trans c5)
    refine lv_iload_n hx hb dX9_setPeople_8 rfl (lv_at hl 3 rfl) ?_
    refine lv_if_ge (tgt := 22) hx hb dX9_setPeople_9 (by decide) (fun c9 => ?_) (fun c9 => ?_)
    · obtain ⟨x, y, hx8, hy8, exx, eyy⟩ := off_n g2
      have f1 : n1 a = x := by rw [exx]; exact n1_nI (by omega)
      have f2 : n1 b = y := by rw [eyy]; exact n1_nI (by omega)
      refine lv_iload_n hx hb dX9_setPeople_22 rfl (lv_at hl 1 rfl) ?_
      refine lv_iload_n hx hb dX9_setPeople_23 rfl (lv_at hl 2 rfl) ?_
      refine wc_ri (va_runS (As := [.int a, .int b]) (rest := []) ⟨hx, hb, hml, hown, hts⟩ (c_X9_zoneOf l a b) (va_cwS 2 hts gX9_setPeople_X9_zoneOf rfl rfl rfl (by decide +kernel) ⟨Nat.le_of_ble_eq_true rfl, Nat.le_of_ble_eq_true rfl⟩) npreS rfl rfl hl.1 rfl (lv_room (Nat.le_of_ble_eq_true rfl)) dX9_setPeople_24 ⟨Nat.le_of_ble_eq_true rfl, Nat.le_of_ble_eq_true rfl⟩) hW (fun x24 H locs p24 hW => ?_)
      try dsimp only at p24
      have n24 : x24 = nI (8 * y + x) := (by rw [p24, exx, eyy, nlit 8, pk_mul, nI_add])
      refine lv_istore (lv' := [(4, .int x24), (0, .ref (ad 0)), (1, .int a), (2, .int b), (3, .int d)]) hx hb dX9_setPeople_27 hl (by decide) rfl (fun ls hl => ?_)
      refine lv_aload_n hx hb dX9_setPeople_29 rfl (lv_at hl 1 rfl) ?_
      refine wgF (t := 1) hx hb fa10 hW (hX.1 0 (by decide)) rfl dX9_setPeople_30 ?_
      refine wgF (t := 2) hx hb fa144 hW (hX.1 1 (by decide)) rfl dX9_setPeople_33 ?_
      refine lv_iload hx hb dX9_setPeople_36 (lv_at hl 0 rfl) ?_
      refine walI (j := (8 * y + x)) hx hb hK hW (hX.1 2 (by decide)) n24 (by omega) (by decide) dX9_setPeople_38 (fun x38 e38 => ?_)
      refine lv_istore (lv' := [(5, .int x38), (4, .int x24), (0, .ref (ad 0)), (1, .int a), (2, .int b), (3, .int d)]) hx hb dX9_setPeople_39 hl (by decide) rfl (fun ls hl => ?_)
      refine lv_aload_n hx hb dX9_setPeople_41 rfl (lv_at hl 2 rfl) ?_
      refine wgF (t := 1) hx hb fa10 hW (hX.1 0 (by decide)) rfl dX9_setPeople_42 ?_
      refine wgF (t := 2) hx hb fa144 hW (hX.1 1 (by decide)) rfl dX9_setPeople_45 ?_
      refine lv_iload hx hb dX9_setPeople_48 (lv_at hl 1 rfl) ?_
      refine lv_iload_n hx hb dX9_setPeople_50 rfl (lv_at hl 5 rfl) ?_
      refine wasI (j := (8 * y + x)) hx hb hK hA hW (hX.1 2 (by decide)) n24 (by omega) (by decide) dX9_setPeople_51 (fun M51 H locs eM51 hW => ?_)
      refine lv_aload_n hx hb dX9_setPeople_52 rfl (lv_at hl 2 rfl) ?_
      refine lv_iconst (v := 0) hx hb dX9_setPeople_53 (by decide) ?_
      refine wpZ hx hb fw82 hA hW (hX.1 0 (by decide)) rfl ⟨rfl, rfl⟩ dX9_setPeople_54 (fun M54 H locs eM54 hW => ?_)
      refine lv_iload hx hb dX9_setPeople_57 (lv_at hl 0 rfl) ?_
      refine vx_ret ?_
      refine W.widen (k := 1) (n := 6) (by decide) (by decide) ?_
      exact wr_wi hx hb hr hlocks hW dX9_setPeople_59 ⟨(by rw [eM54, eM51]; exact oA.putI (oA.putI (oA.rf) (by unfold XSx; omega)) (by unfold XSx; omega)), by rw [f1, f2]; exact XX_set (AOK_Peop ok ) (XR_Peop hR (by rw [eM54, eM51, gI_sI, if_neg (by omega), gI_sI, if_pos ⟨rfl, rfl⟩]) (fun p k hx hn => by unfold XRs at hx; rw [eM54, eM51, gI_sI, if_neg (by omega), gI_sI, if_neg (by omega)]) (fun p k => by rw [eM54, eM51]; rfl)) (by rw [eM54, gI_sI, if_pos ⟨rfl, rfl⟩]) (by rw [eM54, eM51, gI_sI, if_neg (by omega), gI_sI, if_neg (by omega)]; exact hL) (fun k hk => by rw [eM54, eM51, gI_sI, if_neg (by omega), gI_sI, if_neg (by omega)]; exact hV k hk) (fun k hk => by rw [eM54, eM51, gI_sI, if_neg (by omega), gI_sI, if_neg (by omega)]; exact hT k hk), (by simp [zoB_eq, g2, c9]), by rw [e38, hR.1 _ (by omega), f1, f2]⟩
    · exact wx_throw (text := "column or line is out of range, or people is below 0") hx hb hl9 xok_IA (by decide) (List.mem_of_getElem? (i := 3) rfl) ht hown (hts (.classLink RX9 96 "java/lang/IllegalArgumentException") (List.mem_of_getElem? (i := 1) rfl)) (hts (.initialized "java/lang/IllegalArgumentException") (List.mem_of_getElem? (i := 2) rfl)) (fun w h => hts w (List.mem_cons_of_mem _ (List.mem_append_right _ (h)))) hE hZ hW (hl.1.trans hml.symm) dX9_setPeople_12 dX9_setPeople_15 dX9_setPeople_16 dX9_setPeople_18 dX9_setPeople_21 ⟨Nat.le_of_ble_eq_true rfl, Nat.le_of_ble_eq_true rfl⟩ ⟨Nat.le_of_ble_eq_true rfl, Nat.le_of_ble_eq_true rfl⟩ hlocks ⟨Nat.le_of_ble_eq_true rfl, Nat.le_of_ble_eq_true rfl⟩ ⟨rfl, (by first | (simp [zoB_eq, t2]; done) | (simp [c9]; done)), oA.rf, hXX⟩
set_option maxHeartbeats 4000000 in
set_option maxRecDepth 100000 in
theorem c_X9_setValue (l : Launch) (hl9 : l.stackTraces = false) (D : va_G) (cA : Nat → ClassId) (sh : Nat → Option Sh) (ad : Nat → Nat) (M : MS) (sz : Nat) (σ : AS) (v : VT) (hX : XSh (aN σ) sh) (hXX : XX σ v M) (a b d : Int32) : vx_Met l yX9_setValue wsX9_setValue ({ frames := 6, cells := 1, slots := 6, locals := 90 }) (xPc D cA sh ad M sz [.ref (ad 0), .int a, .int b, .int d]) (wQi D cA sh ad (fun r M' => oA XSx M M' ∧ XX σ (fun k => if k = 8 * n1 b + n1 a then d else v.1 k, v.2) M' ∧ (zoB a b && inB d 0 100000000) = true ∧ r = v.1 (8 * n1 b + n1 a)) (wA sh ad sz)) (xXC D cA sh ad (pxG σ v M nIA (zoB a b && inB d 0 100000000)) (wA sh ad sz)) 1 6 (wA sh ad sz) := by
  refine vx_ofW (cc := cX9_setValue) (maxL := 6) (ret := (some .int)) (by decide) rfl ?_
  intro p e s m args below meth cd0 s₁ B hml ht hv
  obtain ⟨rfl, hsz, hM, hK, hE, hZ⟩ := hv
  have hx := B.exec
  have hb := B.bytes
  have hr := B.returns
  have hts := atoms_spec (ws := wsX9_setValue) B.pre
  have hown : s.vm.findClass RX9 = some m.cls := findClass_of_methodNamed B.named
  have hlocks := B.notSynchronized
  subst hsz
  have hA := wA_PA sh ad s.heap
  generalize wA sh ad s.heap.size = A at hA hZ ⊢
  have hW : WS D cA sh ad A s.heap M s.heap [] := ⟨hM, va_S.rf⟩
  have fa10 : FA D s m ([.ref (ad 0), .int a, .int b, .int d] : List Value).toArray 10 9 0 := FA.mk (C := RX9) (T := TX9) (N := 15) hts (fun _ h => List.mem_cons_of_mem _ (List.mem_append_left _ (List.mem_append_left _ (List.mem_append_right _ (h))))) hown hK rfl (by decide) (hts (.fieldLink RX9 10 "MortarShow" "ground" "LMortarShow$Ground;") (List.mem_of_getElem? (i := 4) rfl))
  have fa150 : FA D s m ([.ref (ad 0), .int a, .int b, .int d] : List Value).toArray 150 4 1 := FA.mk (C := RX4) (T := TX4) (N := 2) hts (fun _ h => List.mem_cons_of_mem _ (List.mem_append_left _ (List.mem_append_right _ (h)))) hown hK rfl (by decide) (hts (.fieldLink RX9 150 "MortarShow$Ground" "values" "[I") (List.mem_of_getElem? (i := 5) rfl))
  have hl := lv_entry ([.ref (ad 0), .int a, .int b, .int d]) (n := 6) (Nat.le_of_ble_eq_true rfl)
  rw [lg_entry_eq]
  generalize (lg_sl ([.ref (ad 0), .int a, .int b, .int d]) ++ List.replicate (6 - (lg_sl ([.ref (ad 0), .int a, .int b, .int d])).length) Slot.unset).toArray = ls at hl ⊢
  have hl : lv_has ls 6 [(0, .ref (ad 0)), (1, .int a), (2, .int b), (3, .int d)] := hl
  obtain ⟨ok, hR, hP, hL, hV, hT⟩ := hXX
  have hXX : XX σ v M := ⟨ok, hR, hP, hL, hV, hT⟩
  have o1 := ok.1
  refine lv_iload_n hx hb dX9_setValue_0 rfl (lv_at hl 1 rfl) ?_
  refine lv_iload_n hx hb dX9_setValue_1 rfl (lv_at hl 2 rfl) ?_
  refine wc_ri (va_runS (As := [.int a, .int b]) (rest := []) ⟨hx, hb, hml, hown, hts⟩ (c_X9_offGround l a b) (va_cwS 2 hts gX9_setValue_X9_offGround rfl rfl rfl (by decide +kernel) ⟨Nat.le_of_ble_eq_true rfl, Nat.le_of_ble_eq_true rfl⟩) npreS rfl rfl hl.1 rfl (lv_room (Nat.le_of_ble_eq_true rfl)) dX9_setValue_2 ⟨Nat.le_of_ble_eq_true rfl, Nat.le_of_ble_eq_true rfl⟩) hW (fun x2 H locs p2 hW => ?_)
  try dsimp only at p2
  refine lv_if_ne (tgt := 18) hx hb dX9_setValue_5 (by decide) (fun c5 => ?_) (fun c5 => ?_)
  · have t2 := bI_t.mp (fun z => c5 (p2.trans z))
    exact wx_throw (text := "column, line or value is out of range") hx hb hl9 xok_IA (by decide) (List.mem_of_getElem? (i := 4) rfl) ht hown (hts (.classLink RX9 96 "java/lang/IllegalArgumentException") (List.mem_of_getElem? (i := 1) rfl)) (hts (.initialized "java/lang/IllegalArgumentException") (List.mem_of_getElem? (i := 2) rfl)) (fun w h => hts w (List.mem_cons_of_mem _ (List.mem_append_right _ (h)))) hE hZ hW (hl.1.trans hml.symm) dX9_setValue_18 dX9_setValue_21 dX9_setValue_22 dX9_setValue_24 dX9_setValue_27 ⟨Nat.le_of_ble_eq_true rfl, Nat.le_of_ble_eq_true rfl⟩ ⟨Nat.le_of_ble_eq_true rfl, Nat.le_of_ble_eq_true rfl⟩ hlocks ⟨Nat.le_of_ble_eq_true rfl, Nat.le_of_ble_eq_true rfl⟩ ⟨rfl, (by first | (simp [inB, zoB_eq, t2]; done) | (simp [inB, zoB_eq, t12]; done)), oA.rf, hXX⟩
  · have g2 := bI_z.mp (p2.symm.trans c5)
    refine lv_iload_n hx hb dX9_setValue_8 rfl (lv_at hl 3 rfl) ?_
    refine lv_iconst (v := 0) hx hb dX9_setValue_9 (by decide) ?_
    refine lv_ldc (v := 100000000) hx hb hown (hts (.constant RX9 147 (100000000)) (List.mem_of_getElem? (i := 3) rfl)) dX9_setValue_10 ?_
    refine wc_ri (va_runS (As := [.int d, .int 0, .int 100000000]) (rest := []) ⟨hx, hb, hml, hown, hts⟩ (c_X9_outside l d 0 100000000) (va_cwS 3 hts gX9_setValue_X9_outside rfl rfl rfl (by decide +kernel) ⟨Nat.le_of_ble_eq_true rfl, Nat.le_of_ble_eq_true rfl⟩) npreS rfl rfl hl.1 rfl (lv_room (Nat.le_of_ble_eq_true rfl)) dX9_setValue_12 ⟨Nat.le_of_ble_eq_true rfl, Nat.le_of_ble_eq_true rfl⟩) hW (fun x12 H locs p12 hW => ?_)
    try dsimp only at p12
    refine lv_if_eq (tgt := 28) hx hb dX9_setValue_15 (by decide) (fun c15 => ?_) (fun c15 => ?_)
    · have g12 := bI_z.mp (p12.symm.trans c15)
      obtain ⟨x, y, hx8, hy8, exx, eyy⟩ := off_n g2
      have f1 : n1 a = x := by rw [exx]; exact n1_nI (by omega)
      have f2 : n1 b = y := by rw [eyy]; exact n1_nI (by omega)
      refine lv_iload_n hx hb dX9_setValue_28 rfl (lv_at hl 1 rfl) ?_
      refine lv_iload_n hx hb dX9_setValue_29 rfl (lv_at hl 2 rfl) ?_
      refine wc_ri (va_runS (As := [.int a, .int b]) (rest := []) ⟨hx, hb, hml, hown, hts⟩ (c_X9_zoneOf l a b) (va_cwS 2 hts gX9_setValue_X9_zoneOf rfl rfl rfl (by decide +kernel) ⟨Nat.le_of_ble_eq_true rfl, Nat.le_of_ble_eq_true rfl⟩) npreS rfl rfl hl.1 rfl (lv_room (Nat.le_of_ble_eq_true rfl)) dX9_setValue_30 ⟨Nat.le_of_ble_eq_true rfl, Nat.le_of_ble_eq_true rfl⟩) hW (fun x30 H locs p30 hW => ?_)
      try dsimp only at p30
      have n30 : x30 = nI (8 * y + x) := (by rw [p30, exx, eyy, nlit 8, pk_mul, nI_add])
      refine lv_istore (lv' := [(4, .int x30), (0, .ref (ad 0)), (1, .int a), (2, .int b), (3, .int d)]) hx hb dX9_setValue_33 hl (by decide) rfl (fun ls hl => ?_)
      refine lv_aload_n hx hb dX9_setValue_35 rfl (lv_at hl 1 rfl) ?_
      refine wgF (t := 1) hx hb fa10 hW (hX.1 0 (by decide)) rfl dX9_setValue_36 ?_
      refine wgF (t := 3) hx hb fa150 hW (hX.1 1 (by decide)) rfl dX9_setValue_39 ?_
      refine lv_iload hx hb dX9_setValue_42 (lv_at hl 0 rfl) ?_
      refine walI (j := (8 * y + x)) hx hb hK hW (hX.1 3 (by decide)) n30 (by omega) (by decide) dX9_setValue_44 (fun x44 e44 => ?_)
      refine lv_istore (lv' := [(5, .int x44), (4, .int x30), (0, .ref (ad 0)), (1, .int a), (2, .int b), (3, .int d)]) hx hb dX9_setValue_45 hl (by decide) rfl (fun ls hl => ?_)
      refine lv_aload_n hx hb dX9_setValue_47 rfl (lv_at hl 2 rfl) ?_
      refine wgF (t := 1) hx hb fa10 hW (hX.1 0 (by decide)) rfl dX9_setValue_48 ?_
      refine wgF (t := 3) hx hb fa150 hW (hX.1 1 (by decide)) rfl dX9_setValue_51 ?_
      refine lv_iload hx hb dX9_setValue_54 (lv_at hl 1 rfl) ?_
      refine lv_iload_n hx hb dX9_setValue_56 rfl (lv_at hl 5 rfl) ?_
      refine wasI (j := (8 * y + x)) hx hb hK hA hW (hX.1 3 (by decide)) n30 (by omega) (by decide) dX9_setValue_57 (fun M57 H locs eM57 hW => ?_)
      refine lv_iload hx hb dX9_setValue_58 (lv_at hl 0 rfl) ?_
      refine vx_ret ?_
      refine W.widen (k := 1) (n := 6) (by decide) (by decide) ?_
      exact wr_wi hx hb hr hlocks hW dX9_setValue_60 ⟨(by rw [eM57]; exact oA.putI (oA.rf) (by unfold XSx; omega)), by rw [f1, f2, eM57]; exact XX_val hXX, (by simp [inB, zoB_eq, g2, g12]), by rw [e44, hV _ (by omega), f1, f2]⟩
    · have t12 := bI_t.mp (fun z => c15 (p12.trans z))
      exact wx_throw (text := "column, line or value is out of range") hx hb hl9 xok_IA (by decide) (List.mem_of_getElem? (i := 4) rfl) ht hown (hts (.classLink RX9 96 "java/lang/IllegalArgumentException") (List.mem_of_getElem? (i := 1) rfl)) (hts (.initialized "java/lang/IllegalArgumentException") (List.mem_of_getElem? (i := 2) rfl)) (fun w h => hts w (List.mem_cons_of_mem _ (List.mem_append_right _ (h)))) hE hZ hW (hl.1.trans hml.symm) dX9_setValue_18 dX9_setValue_21 dX9_setValue_22 dX9_setValue_24 dX9_setValue_27 ⟨Nat.le_of_ble_eq_true rfl, Nat.le_of_ble_eq_true rfl⟩ ⟨Nat.le_of_ble_eq_true rfl, Nat.le_of_ble_eq_true rfl⟩ hlocks ⟨Nat.le_of_ble_eq_true rfl, Nat.le_of_ble_eq_true rfl⟩ ⟨rfl, (by first | (simp [inB, zoB_eq, t2]; done) | (simp [inB, zoB_eq, t12]; done)), oA.rf, hXX⟩
set_option maxHeartbeats 4000000 in
set_option maxRecDepth 100000 in
theorem c_X9_setRate (l : Launch) (hl9 : l.stackTraces = false) (D : va_G) (cA : Nat → ClassId) (sh : Nat → Option Sh) (ad : Nat → Nat) (M : MS) (sz : Nat) (σ : AS) (v : VT) (hX : XSh (aN σ) sh) (hXX : XX σ v M) (a b : Int32) : vx_Met l yX9_setRate wsX9_setRate ({ frames := 6, cells := 1, slots := 6, locals := 90 }) (xPc D cA sh ad M sz [.ref (ad 0), .int a, .int b]) (wQi D cA sh ad (fun r M' => oA XSx M M' ∧ XX σ (v.1, fun k => if k = n1 a then b else v.2 k) M' ∧ (inB a 0 9 && inB b 0 100000) = true ∧ r = v.2 (n1 a)) (wA sh ad sz)) (xXC D cA sh ad (pxG σ v M nIA (inB a 0 9 && inB b 0 100000)) (wA sh ad sz)) 1 6 (wA sh ad sz) := by
  refine vx_ofW (cc := cX9_setRate) (maxL := 4) (ret := (some .int)) (by decide) rfl ?_
  intro p e s m args below meth cd0 s₁ B hml ht hv
  obtain ⟨rfl, hsz, hM, hK, hE, hZ⟩ := hv
  have hx := B.exec
  have hb := B.bytes
  have hr := B.returns
  have hts := atoms_spec (ws := wsX9_setRate) B.pre
  have hown : s.vm.findClass RX9 = some m.cls := findClass_of_methodNamed B.named
  have hlocks := B.notSynchronized
  subst hsz
  have hA := wA_PA sh ad s.heap
  generalize wA sh ad s.heap.size = A at hA hZ ⊢
  have hW : WS D cA sh ad A s.heap M s.heap [] := ⟨hM, va_S.rf⟩
  have fa65 : FA D s m ([.ref (ad 0), .int a, .int b] : List Value).toArray 65 9 9 := FA.mk (C := RX9) (T := TX9) (N := 15) hts (fun _ h => List.mem_cons_of_mem _ (List.mem_append_left _ (List.mem_append_right _ (h)))) hown hK rfl (by decide) (hts (.fieldLink RX9 65 "MortarShow" "rates" "[I") (List.mem_of_getElem? (i := 4) rfl))
  have hl := lv_entry ([.ref (ad 0), .int a, .int b]) (n := 4) (Nat.le_of_ble_eq_true rfl)
  rw [lg_entry_eq]
  generalize (lg_sl ([.ref (ad 0), .int a, .int b]) ++ List.replicate (4 - (lg_sl ([.ref (ad 0), .int a, .int b])).length) Slot.unset).toArray = ls at hl ⊢
  have hl : lv_has ls 4 [(0, .ref (ad 0)), (1, .int a), (2, .int b)] := hl
  obtain ⟨ok, hR, hP, hL, hV, hT⟩ := hXX
  have hXX : XX σ v M := ⟨ok, hR, hP, hL, hV, hT⟩
  have o1 := ok.1
  refine lv_iload_n hx hb dX9_setRate_0 rfl (lv_at hl 1 rfl) ?_
  refine lv_iconst (v := 0) hx hb dX9_setRate_1 (by decide) ?_
  refine lv_bipush (v := 9) hx hb dX9_setRate_2 (by decide) ?_
  refine wc_ri (va_runS (As := [.int a, .int 0, .int 9]) (rest := []) ⟨hx, hb, hml, hown, hts⟩ (c_X9_outside l a 0 9) (va_cwS 3 hts gX9_setRate_X9_outside rfl rfl rfl (by decide +kernel) ⟨Nat.le_of_ble_eq_true rfl, Nat.le_of_ble_eq_true rfl⟩) npreS rfl rfl hl.1 rfl (lv_room (Nat.le_of_ble_eq_true rfl)) dX9_setRate_4 ⟨Nat.le_of_ble_eq_true rfl, Nat.le_of_ble_eq_true rfl⟩) hW (fun x4 H locs p4 hW => ?_)
  try dsimp only at p4
  refine lv_if_ne (tgt := 21) hx hb dX9_setRate_7 (by decide) (fun c7 => ?_) (fun c7 => ?_)
  · have t4 := bI_t.mp (fun z => c7 (p4.trans z))
    exact wx_throwW (text := "hour or rate is out of range") hx hb hl9 xok_IA (by decide) (List.mem_of_getElem? (i := 13) rfl) ht hown (hts (.classLink RX9 96 "java/lang/IllegalArgumentException") (List.mem_of_getElem? (i := 1) rfl)) (hts (.initialized "java/lang/IllegalArgumentException") (List.mem_of_getElem? (i := 2) rfl)) (fun w h => hts w (List.mem_cons_of_mem _ (List.mem_append_right _ (h)))) hE hZ hW (hl.1.trans hml.symm) dX9_setRate_21 dX9_setRate_24 dX9_setRate_25 dX9_setRate_28 dX9_setRate_31 ⟨Nat.le_of_ble_eq_true rfl, Nat.le_of_ble_eq_true rfl⟩ ⟨Nat.le_of_ble_eq_true rfl, Nat.le_of_ble_eq_true rfl⟩ hlocks ⟨Nat.le_of_ble_eq_true rfl, Nat.le_of_ble_eq_true rfl⟩ ⟨rfl, (by first | (simp [inB, zoB_eq, t4]; done) | (simp [inB, zoB_eq, t15]; done)), oA.rf, hXX⟩
  · have g4 := bI_z.mp (p4.symm.trans c7)
    refine lv_iload_n hx hb dX9_setRate_10 rfl (lv_at hl 2 rfl) ?_
    refine lv_iconst (v := 0) hx hb dX9_setRate_11 (by decide) ?_
    refine lv_ldcw (v := 100000) hx hb hown (hts (.constant RX9 280 (100000)) (List.mem_of_getElem? (i := 3) rfl)) dX9_setRate_12 ?_
    refine wc_ri (va_runS (As := [.int b, .int 0, .int 100000]) (rest := []) ⟨hx, hb, hml, hown, hts⟩ (c_X9_outside l b 0 100000) (va_cwS 3 hts gX9_setRate_X9_outside rfl rfl rfl (by decide +kernel) ⟨Nat.le_of_ble_eq_true rfl, Nat.le_of_ble_eq_true rfl⟩) npreS rfl rfl hl.1 rfl (lv_room (Nat.le_of_ble_eq_true rfl)) dX9_setRate_15 ⟨Nat.le_of_ble_eq_true rfl, Nat.le_of_ble_eq_true rfl⟩) hW (fun x15 H locs p15 hW => ?_)
    try dsimp only at p15
    refine lv_if_eq (tgt := 32) hx hb dX9_setRate_18 (by decide) (fun c18 => ?_) (fun c18 => ?_)
    · have g15 := bI_z.mp (p15.symm.trans c18)
      obtain ⟨x, hx8, exx⟩ := out_n (n := 9) (by decide) g4
      have f1 : n1 a = x := by rw [exx]; exact n1_nI (by omega)
      refine lv_aload_n hx hb dX9_setRate_32 rfl (lv_at hl 0 rfl) ?_
      refine wgF (t := 21) hx hb fa65 hW (hX.1 0 (by decide)) rfl dX9_setRate_33 ?_
      refine lv_iload_n hx hb dX9_setRate_36 rfl (lv_at hl 1 rfl) ?_
      refine walI (j := x) hx hb hK hW (hX.1 21 (by decide)) exx (by omega) (by decide) dX9_setRate_37 (fun x37 e37 => ?_)
      refine lv_istore_n (lv' := [(3, .int x37), (0, .ref (ad 0)), (1, .int a), (2, .int b)]) hx hb dX9_setRate_38 rfl hl (by decide) rfl (fun ls hl => ?_)
      refine lv_aload_n hx hb dX9_setRate_39 rfl (lv_at hl 1 rfl) ?_
      refine wgF (t := 21) hx hb fa65 hW (hX.1 0 (by decide)) rfl dX9_setRate_40 ?_
      refine lv_iload_n hx hb dX9_setRate_43 rfl (lv_at hl 2 rfl) ?_
      refine lv_iload_n hx hb dX9_setRate_44 rfl (lv_at hl 3 rfl) ?_
      refine wasI (j := x) hx hb hK hA hW (hX.1 21 (by decide)) exx (by omega) (by decide) dX9_setRate_45 (fun M45 H locs eM45 hW => ?_)
      refine lv_iload_n hx hb dX9_setRate_46 rfl (lv_at hl 0 rfl) ?_
      refine vx_ret ?_
      refine W.widen (k := 1) (n := 6) (by decide) (by decide) ?_
      exact wr_wi hx hb hr hlocks hW dX9_setRate_47 ⟨(by rw [eM45]; exact oA.putI (oA.rf) (by unfold XSx; omega)), by rw [f1, eM45]; exact XX_rate hXX, (by simp [inB, zoB_eq, g4, g15]), by rw [e37, hT _ (by omega), f1]⟩
    · have t15 := bI_t.mp (fun z => c18 (p15.trans z))
      exact wx_throwW (text := "hour or rate is out of range") hx hb hl9 xok_IA (by decide) (List.mem_of_getElem? (i := 13) rfl) ht hown (hts (.classLink RX9 96 "java/lang/IllegalArgumentException") (List.mem_of_getElem? (i := 1) rfl)) (hts (.initialized "java/lang/IllegalArgumentException") (List.mem_of_getElem? (i := 2) rfl)) (fun w h => hts w (List.mem_cons_of_mem _ (List.mem_append_right _ (h)))) hE hZ hW (hl.1.trans hml.symm) dX9_setRate_21 dX9_setRate_24 dX9_setRate_25 dX9_setRate_28 dX9_setRate_31 ⟨Nat.le_of_ble_eq_true rfl, Nat.le_of_ble_eq_true rfl⟩ ⟨Nat.le_of_ble_eq_true rfl, Nat.le_of_ble_eq_true rfl⟩ hlocks ⟨Nat.le_of_ble_eq_true rfl, Nat.le_of_ble_eq_true rfl⟩ ⟨rfl, (by first | (simp [inB, zoB_eq, t4]; done) | (simp [inB, zoB_eq, t15]; done)), oA.rf, hXX⟩
theorem cut_pres (σ : AS) (i : Nat) : ∀ j, pres (oCut σ i) j = (pres σ j && decide (j ≠ i)) := fun j => by
  unfold pres
  have e : aN (oCut σ i) = aN σ := rfl
  rw [e]
  by_cases h : j = i
  · subst h; simp [oCut, uN]
  · simp [oCut, uN, h]
set_option maxHeartbeats 4000000 in
set_option maxRecDepth 100000 in
theorem c_X9_cut (l : Launch) (hl9 : l.stackTraces = false) (D : va_G) (cA : Nat → ClassId) (sh : Nat → Option Sh) (ad : Nat → Nat) (M : MS) (sz : Nat) (σ : AS) (v : VT) (hX : XSh (aN σ) sh) (hXX : XX σ v M) (a : Int32) : vx_Met l yX9_cut wsX9_cut ({ frames := 7, cells := 1, slots := 6, locals := 111 }) (xPc D cA sh ad M sz [.ref (ad 0), .int a]) (wQi D cA sh ad (fun r M' => oA XSx M M' ∧ XX (oCut σ (n1 a)) v M' ∧ cuB σ a = true ∧ r = nI (ctN (pres (oCut σ (n1 a))) 40)) (wA sh ad sz)) (xXC D cA sh ad (pxG σ v M nIO (cuB σ a)) (wA sh ad sz)) 1 6 (wA sh ad sz) := by
  refine vx_ofW (cc := cX9_cut) (maxL := 3) (ret := (some .int)) (by decide) rfl ?_
  intro p e s m args below meth cd0 s₁ B hml ht hv
  obtain ⟨rfl, hsz, hM, hK, hE, hZ⟩ := hv
  have hx := B.exec
  have hb := B.bytes
  have hr := B.returns
  have hts := atoms_spec (ws := wsX9_cut) B.pre
  have hown : s.vm.findClass RX9 = some m.cls := findClass_of_methodNamed B.named
  have hlocks := B.notSynchronized
  subst hsz
  have hA := wA_PA sh ad s.heap
  generalize wA sh ad s.heap.size = A at hA hZ ⊢
  have hW : WS D cA sh ad A s.heap M s.heap [] := ⟨hM, va_S.rf⟩
  have fa44 : FA D s m ([.ref (ad 0), .int a] : List Value).toArray 44 9 5 := FA.mk (C := RX9) (T := TX9) (N := 15) hts (fun _ h => List.mem_cons_of_mem _ (List.mem_append_left _ (List.mem_append_left _ (List.mem_append_right _ (h))))) hown hK rfl (by decide) (hts (.fieldLink RX9 44 "MortarShow" "cueList" "[LMortarShow$Cue;") (List.mem_of_getElem? (i := 1) rfl))
  have fa73 : FA D s m ([.ref (ad 0), .int a] : List Value).toArray 73 9 11 := FA.mk (C := RX9) (T := TX9) (N := 15) hts (fun _ h => List.mem_cons_of_mem _ (List.mem_append_left _ (List.mem_append_left _ (List.mem_append_right _ (h))))) hown hK rfl (by decide) (hts (.fieldLink RX9 73 "MortarShow" "left" "I") (List.mem_of_getElem? (i := 3) rfl))
  have fa180 : FA D s m ([.ref (ad 0), .int a] : List Value).toArray 180 2 0 := FA.mk (C := RX2) (T := TX2) (N := 9) hts (fun _ h => List.mem_cons_of_mem _ (List.mem_append_left _ (List.mem_append_right _ (h)))) hown hK rfl (by decide) (hts (.fieldLink RX9 180 "MortarShow$Cue" "number" "I") (List.mem_of_getElem? (i := 2) rfl))
  have fw73 : FW D s m ([.ref (ad 0), .int a] : List Value).toArray 73 9 11 (.int) := FW.mk (C := RX9) (T := TX9) (N := 15) hts (fun _ h => List.mem_cons_of_mem _ (List.mem_append_left _ (List.mem_append_left _ (List.mem_append_right _ (h))))) hown hK rfl (by decide) (hts (.fieldLink RX9 73 "MortarShow" "left" "I") (List.mem_of_getElem? (i := 3) rfl)) tyX9 tyX9_ok nmX9 rfl rfl
  have fw82 : FW D s m ([.ref (ad 0), .int a] : List Value).toArray 82 9 14 (.boolean) := FW.mk (C := RX9) (T := TX9) (N := 15) hts (fun _ h => List.mem_cons_of_mem _ (List.mem_append_left _ (List.mem_append_left _ (List.mem_append_right _ (h))))) hown hK rfl (by decide) (hts (.fieldLink RX9 82 "MortarShow" "planned" "Z") (List.mem_of_getElem? (i := 4) rfl)) tyX9 tyX9_ok nmX9 rfl rfl
  have hl := lv_entry ([.ref (ad 0), .int a]) (n := 3) (Nat.le_of_ble_eq_true rfl)
  rw [lg_entry_eq]
  generalize (lg_sl ([.ref (ad 0), .int a]) ++ List.replicate (3 - (lg_sl ([.ref (ad 0), .int a])).length) Slot.unset).toArray = ls at hl ⊢
  have hl : lv_has ls 3 [(0, .ref (ad 0)), (1, .int a)] := hl
  obtain ⟨ok, hR, hP, hL, hV, hT⟩ := hXX
  have hXX : XX σ v M := ⟨ok, hR, hP, hL, hV, hT⟩
  have o1 := ok.1
  refine lv_aload_n hx hb dX9_cut_0 rfl (lv_at hl 0 rfl) ?_
  refine lv_iload_n hx hb dX9_cut_1 rfl (lv_at hl 1 rfl) ?_
  refine wx_wr (vx_runV (As := [.int a]) (rest := []) ⟨hx, hb, hml, hown, hts⟩ (c_X9_found l hl9 D cA sh ad M _ σ ok hX hR a) (cwV 1 hts gX9_cut_X9_found rfl rfl rfl (by decide +kernel) ⟨Nat.le_of_ble_eq_true rfl, Nat.le_of_ble_eq_true rfl⟩) (xpreV hK hA hW hE hZ (C := RX9) (ci := 9) (hX.1 0 (by decide)) rfl) rfl rfl hl.1 rfl (lv_room (Nat.le_of_ble_eq_true rfl)) dX9_cut_2 ⟨Nat.le_of_ble_eq_true rfl, Nat.le_of_ble_eq_true rfl⟩) hA hW ht hlocks ⟨by decide, by decide⟩ (fun E M9 h9 => ⟨h9.1, h9.2.2, by rw [h9.2.1]; exact oA.rf, by rw [h9.2.1]; exact hXX⟩) (fun q2 M2 H locs p2 hW => ?_)
  try dsimp only at p2
  obtain ⟨eM2, i, hi, ev, hg, eq2⟩ := p2
  subst eq2
  rw [eM2] at hW
  have hn9 : n1 a = i := by rw [ev]; exact n1_nI (by omega)
  have hc9 : cuB σ a = true := by rw [ev]; exact cuB_yes hi hg
  have hrm := ctN_rm (p := pres σ) (q := pres (oCut σ i)) (pres_t hi hg) (cut_pres σ i) 40
  rw [if_pos (by omega)] at hrm
  refine lv_astore_n (lv' := [(2, .ref (ad (100 + i))), (0, .ref (ad 0)), (1, .int a)]) hx hb dX9_cut_5 rfl hl (by decide) rfl (fun ls hl => ?_)
  refine lv_aload_n hx hb dX9_cut_6 rfl (lv_at hl 1 rfl) ?_
  refine wgF (t := 11) hx hb fa44 hW (hX.1 0 (by decide)) rfl dX9_cut_7 ?_
  refine lv_aload_n hx hb dX9_cut_10 rfl (lv_at hl 0 rfl) ?_
  refine wgI hx hb fa180 hW (hX.2 i (by omega)) rfl dX9_cut_11 (fun x11 e11 => ?_)
  have n11 : x11 = nI i := (e11.trans (hR.2.2.2.2.2.2.2.2.2.2.2 i hi).1)
  refine lv_null hx hb dX9_cut_14 ?_
  refine wasN (j := i) hx hb hK hA hW (hX.1 11 (by decide)) n11 (by omega) (by decide) dX9_cut_15 (fun M15 H locs eM15 hW => ?_)
  refine lv_aload_n hx hb dX9_cut_16 rfl (lv_at hl 1 rfl) ?_
  refine lv_dup hx hb dX9_cut_17 rfl ?_
  refine wgI hx hb fa73 hW (hX.1 0 (by decide)) rfl dX9_cut_18 (fun x18 e18 => ?_)
  refine lv_iconst (v := 1) hx hb dX9_cut_21 (by decide) ?_
  refine lv_isub hx hb dX9_cut_22 ?_
  refine lv_topi (fun x22 e22 => ?_)
  refine wpI hx hb fw73 hA hW (hX.1 0 (by decide)) rfl dX9_cut_23 (fun M23 H locs eM23 hW => ?_)
  have hlf : x22 = nI (ctN (pres (oCut σ i)) 40) := by rw [e22, e18, eM15, gI_sR, hL, nlit 1, ← hrm]; exact (pk_sub (by omega)).trans (by rw [Nat.add_sub_cancel])
  refine lv_aload_n hx hb dX9_cut_26 rfl (lv_at hl 1 rfl) ?_
  refine lv_iconst (v := 0) hx hb dX9_cut_27 (by decide) ?_
  refine wpZ hx hb fw82 hA hW (hX.1 0 (by decide)) rfl ⟨rfl, rfl⟩ dX9_cut_28 (fun M28 H locs eM28 hW => ?_)
  refine lv_aload_n hx hb dX9_cut_31 rfl (lv_at hl 1 rfl) ?_
  refine wgI hx hb fa73 hW (hX.1 0 (by decide)) rfl dX9_cut_32 (fun x32 e32 => ?_)
  refine vx_ret ?_
  refine W.widen (k := 1) (n := 6) (by decide) (by decide) ?_
  exact wr_wi hx hb hr hlocks hW dX9_cut_35 ⟨by rw [eM28, eM23, eM15]; exact oA.putI (oA.putI (oA.putR oA.rf (by unfold XSx; omega)) (by unfold XSx; omega)) (by unfold XSx; omega), by
      rw [hn9]
      refine XX_set (AOK_Cut ok hi) (XR_Cut hR hi o1 ?_ ?_ ?_) ?_ ?_ ?_ ?_
      · rw [eM28, eM23, eM15, gR_sI, gR_sI, gR_sR, if_pos ⟨rfl, rfl⟩]
      · intro p j hx9 _
        unfold XRs at hx9
        rw [eM28, eM23, eM15, gI_sI, if_neg (by omega), gI_sI, if_neg (by omega), gI_sR]
      · intro p j hn
        rw [eM28, eM23, eM15, gR_sI, gR_sI, gR_sR, if_neg hn]
      · rw [eM28, gI_sI, if_pos ⟨rfl, rfl⟩]
      · rw [eM28, gI_sI, if_neg (by omega), eM23, gI_sI, if_pos ⟨rfl, rfl⟩]; exact hlf
      · intro j hj
        rw [eM28, eM23, eM15, gI_sI, if_neg (by omega), gI_sI, if_neg (by omega), gI_sR]; exact hV j hj
      · intro j hj
        rw [eM28, eM23, eM15, gI_sI, if_neg (by omega), gI_sI, if_neg (by omega), gI_sR]; exact hT j hj, hc9, by rw [hn9, e32, eM28, gI_sI, if_neg (by omega), eM23, gI_sI, if_pos ⟨rfl, rfl⟩]; exact hlf⟩
set_option maxHeartbeats 4000000 in
set_option maxRecDepth 100000 in
theorem c_X9_setTempo (l : Launch) (hl9 : l.stackTraces = false) (D : va_G) (cA : Nat → ClassId) (sh : Nat → Option Sh) (ad : Nat → Nat) (M : MS) (sz : Nat) (σ : AS) (v : VT) (hX : XSh (aN σ) sh) (hXX : XX σ v M) (a : Int32) : vx_Met l yX9_setTempo wsX9_setTempo ({ frames := 6, cells := 1, slots := 6, locals := 90 }) (xPc D cA sh ad M sz [.ref (ad 0), .int a]) (wQi D cA sh ad (fun r M' => oA XSx M M' ∧ XX (oTemp σ (n1 a)) v M' ∧ inB a 1 100 = true ∧ r = nI (σ.2 4 0)) (wA sh ad sz)) (xXC D cA sh ad (pxG σ v M nIA (inB a 1 100)) (wA sh ad sz)) 1 6 (wA sh ad sz) := by
  refine vx_ofW (cc := cX9_setTempo) (maxL := 3) (ret := (some .int)) (by decide) rfl ?_
  intro p e s m args below meth cd0 s₁ B hml ht hv
  obtain ⟨rfl, hsz, hM, hK, hE, hZ⟩ := hv
  have hx := B.exec
  have hb := B.bytes
  have hr := B.returns
  have hts := atoms_spec (ws := wsX9_setTempo) B.pre
  have hown : s.vm.findClass RX9 = some m.cls := findClass_of_methodNamed B.named
  have hlocks := B.notSynchronized
  subst hsz
  have hA := wA_PA sh ad s.heap
  generalize wA sh ad s.heap.size = A at hA hZ ⊢
  have hW : WS D cA sh ad A s.heap M s.heap [] := ⟨hM, va_S.rf⟩
  have fa79 : FA D s m ([.ref (ad 0), .int a] : List Value).toArray 79 9 13 := FA.mk (C := RX9) (T := TX9) (N := 15) hts (fun _ h => List.mem_cons_of_mem _ (List.mem_append_left _ (List.mem_append_right _ (h)))) hown hK rfl (by decide) (hts (.fieldLink RX9 79 "MortarShow" "tempo" "I") (List.mem_of_getElem? (i := 3) rfl))
  have fw79 : FW D s m ([.ref (ad 0), .int a] : List Value).toArray 79 9 13 (.int) := FW.mk (C := RX9) (T := TX9) (N := 15) hts (fun _ h => List.mem_cons_of_mem _ (List.mem_append_left _ (List.mem_append_right _ (h)))) hown hK rfl (by decide) (hts (.fieldLink RX9 79 "MortarShow" "tempo" "I") (List.mem_of_getElem? (i := 3) rfl)) tyX9 tyX9_ok nmX9 rfl rfl
  have fw82 : FW D s m ([.ref (ad 0), .int a] : List Value).toArray 82 9 14 (.boolean) := FW.mk (C := RX9) (T := TX9) (N := 15) hts (fun _ h => List.mem_cons_of_mem _ (List.mem_append_left _ (List.mem_append_right _ (h)))) hown hK rfl (by decide) (hts (.fieldLink RX9 82 "MortarShow" "planned" "Z") (List.mem_of_getElem? (i := 4) rfl)) tyX9 tyX9_ok nmX9 rfl rfl
  have hl := lv_entry ([.ref (ad 0), .int a]) (n := 3) (Nat.le_of_ble_eq_true rfl)
  rw [lg_entry_eq]
  generalize (lg_sl ([.ref (ad 0), .int a]) ++ List.replicate (3 - (lg_sl ([.ref (ad 0), .int a])).length) Slot.unset).toArray = ls at hl ⊢
  have hl : lv_has ls 3 [(0, .ref (ad 0)), (1, .int a)] := hl
  obtain ⟨ok, hR, hP, hL, hV, hT⟩ := hXX
  have hXX : XX σ v M := ⟨ok, hR, hP, hL, hV, hT⟩
  have o1 := ok.1
  refine lv_iload_n hx hb dX9_setTempo_0 rfl (lv_at hl 1 rfl) ?_
  refine lv_iconst (v := 1) hx hb dX9_setTempo_1 (by decide) ?_
  refine lv_bipush (v := 100) hx hb dX9_setTempo_2 (by decide) ?_
  refine wc_ri (va_runS (As := [.int a, .int 1, .int 100]) (rest := []) ⟨hx, hb, hml, hown, hts⟩ (c_X9_outside l a 1 100) (va_cwS 3 hts gX9_setTempo_X9_outside rfl rfl rfl (by decide +kernel) ⟨Nat.le_of_ble_eq_true rfl, Nat.le_of_ble_eq_true rfl⟩) npreS rfl rfl hl.1 rfl (lv_room (Nat.le_of_ble_eq_true rfl)) dX9_setTempo_4 ⟨Nat.le_of_ble_eq_true rfl, Nat.le_of_ble_eq_true rfl⟩) hW (fun x4 H locs p4 hW => ?_)
  try dsimp only at p4
  refine lv_if_eq (tgt := 20) hx hb dX9_setTempo_7 (by decide) (fun c7 => ?_) (fun c7 => ?_)
  · have g4 := bI_z.mp (p4.symm.trans c7)
    obtain ⟨t, ht1, ht2, et⟩ := out_n1 (n := 100) (by decide) g4
    have f1 : n1 a = t := by rw [et]; exact n1_nI (by omega)
    refine lv_aload_n hx hb dX9_setTempo_20 rfl (lv_at hl 0 rfl) ?_
    refine wgI hx hb fa79 hW (hX.1 0 (by decide)) rfl dX9_setTempo_21 (fun x21 e21 => ?_)
    refine lv_istore_n (lv' := [(2, .int x21), (0, .ref (ad 0)), (1, .int a)]) hx hb dX9_setTempo_24 rfl hl (by decide) rfl (fun ls hl => ?_)
    refine lv_aload_n hx hb dX9_setTempo_25 rfl (lv_at hl 1 rfl) ?_
    refine lv_iload_n hx hb dX9_setTempo_26 rfl (lv_at hl 2 rfl) ?_
    refine wpI hx hb fw79 hA hW (hX.1 0 (by decide)) rfl dX9_setTempo_27 (fun M27 H locs eM27 hW => ?_)
    refine lv_aload_n hx hb dX9_setTempo_30 rfl (lv_at hl 1 rfl) ?_
    refine lv_iconst (v := 0) hx hb dX9_setTempo_31 (by decide) ?_
    refine wpZ hx hb fw82 hA hW (hX.1 0 (by decide)) rfl ⟨rfl, rfl⟩ dX9_setTempo_32 (fun M32 H locs eM32 hW => ?_)
    refine lv_iload_n hx hb dX9_setTempo_35 rfl (lv_at hl 0 rfl) ?_
    refine vx_ret ?_
    refine W.widen (k := 1) (n := 6) (by decide) (by decide) ?_
    exact wr_wi hx hb hr hlocks hW dX9_setTempo_36 ⟨(by rw [eM32, eM27]; exact oA.putI (oA.putI (oA.rf) (by unfold XSx; omega)) (by unfold XSx; omega)), by rw [f1]; exact XX_set (AOK_Temp ok ⟨ht1, ht2⟩) (XR_Temp hR (by rw [eM32, gI_sI, if_neg (by omega), eM27, gI_sI, if_pos ⟨rfl, rfl⟩, et]) (fun p k hx hn => by unfold XRs at hx; rw [eM32, eM27, gI_sI, if_neg (by omega), gI_sI, if_neg (by omega)]) (fun p k => by rw [eM32, eM27]; rfl)) (by rw [eM32, gI_sI, if_pos ⟨rfl, rfl⟩]) (by rw [eM32, eM27, gI_sI, if_neg (by omega), gI_sI, if_neg (by omega)]; exact hL) (fun k hk => by rw [eM32, eM27, gI_sI, if_neg (by omega), gI_sI, if_neg (by omega)]; exact hV k hk) (fun k hk => by rw [eM32, eM27, gI_sI, if_neg (by omega), gI_sI, if_neg (by omega)]; exact hT k hk), (by simp [inB, zoB_eq, g4]), e21.trans hR.2.2.2.2.2.2.2.1⟩
  · have t4 := bI_t.mp (fun z => c7 (p4.trans z))
    exact wx_throw (text := "ticks is out of range") hx hb hl9 xok_IA (by decide) (List.mem_of_getElem? (i := 9) rfl) ht hown (hts (.classLink RX9 96 "java/lang/IllegalArgumentException") (List.mem_of_getElem? (i := 1) rfl)) (hts (.initialized "java/lang/IllegalArgumentException") (List.mem_of_getElem? (i := 2) rfl)) (fun w h => hts w (List.mem_cons_of_mem _ (List.mem_append_right _ (h)))) hE hZ hW (hl.1.trans hml.symm) dX9_setTempo_10 dX9_setTempo_13 dX9_setTempo_14 dX9_setTempo_16 dX9_setTempo_19 ⟨Nat.le_of_ble_eq_true rfl, Nat.le_of_ble_eq_true rfl⟩ ⟨Nat.le_of_ble_eq_true rfl, Nat.le_of_ble_eq_true rfl⟩ hlocks ⟨Nat.le_of_ble_eq_true rfl, Nat.le_of_ble_eq_true rfl⟩ ⟨rfl, (by first | (simp [inB, zoB_eq, t4]; done)), oA.rf, hXX⟩
set_option maxHeartbeats 4000000 in
set_option maxRecDepth 100000 in
theorem c_X9_setGap (l : Launch) (hl9 : l.stackTraces = false) (D : va_G) (cA : Nat → ClassId) (sh : Nat → Option Sh) (ad : Nat → Nat) (M : MS) (sz : Nat) (σ : AS) (v : VT) (hX : XSh (aN σ) sh) (hXX : XX σ v M) (a : Int32) : vx_Met l yX9_setGap wsX9_setGap ({ frames := 6, cells := 1, slots := 6, locals := 90 }) (xPc D cA sh ad M sz [.ref (ad 0), .int a]) (wQi D cA sh ad (fun r M' => oA XSx M M' ∧ XX (oGap σ (n1 a)) v M' ∧ inB a 0 20 = true ∧ r = nI (σ.2 5 0)) (wA sh ad sz)) (xXC D cA sh ad (pxG σ v M nIA (inB a 0 20)) (wA sh ad sz)) 1 6 (wA sh ad sz) := by
  refine vx_ofW (cc := cX9_setGap) (maxL := 3) (ret := (some .int)) (by decide) rfl ?_
  intro p e s m args below meth cd0 s₁ B hml ht hv
  obtain ⟨rfl, hsz, hM, hK, hE, hZ⟩ := hv
  have hx := B.exec
  have hb := B.bytes
  have hr := B.returns
  have hts := atoms_spec (ws := wsX9_setGap) B.pre
  have hown : s.vm.findClass RX9 = some m.cls := findClass_of_methodNamed B.named
  have hlocks := B.notSynchronized
  subst hsz
  have hA := wA_PA sh ad s.heap
  generalize wA sh ad s.heap.size = A at hA hZ ⊢
  have hW : WS D cA sh ad A s.heap M s.heap [] := ⟨hM, va_S.rf⟩
  have fa58 : FA D s m ([.ref (ad 0), .int a] : List Value).toArray 58 9 7 := FA.mk (C := RX9) (T := TX9) (N := 15) hts (fun _ h => List.mem_cons_of_mem _ (List.mem_append_left _ (List.mem_append_left _ (List.mem_append_right _ (h))))) hown hK rfl (by decide) (hts (.fieldLink RX9 58 "MortarShow" "boxes" "LMortarShow$Boxes;") (List.mem_of_getElem? (i := 3) rfl))
  have fa267 : FA D s m ([.ref (ad 0), .int a] : List Value).toArray 267 1 3 := FA.mk (C := RX1) (T := TX1) (N := 4) hts (fun _ h => List.mem_cons_of_mem _ (List.mem_append_left _ (List.mem_append_right _ (h)))) hown hK rfl (by decide) (hts (.fieldLink RX9 267 "MortarShow$Boxes" "gap" "I") (List.mem_of_getElem? (i := 4) rfl))
  have fw82 : FW D s m ([.ref (ad 0), .int a] : List Value).toArray 82 9 14 (.boolean) := FW.mk (C := RX9) (T := TX9) (N := 15) hts (fun _ h => List.mem_cons_of_mem _ (List.mem_append_left _ (List.mem_append_left _ (List.mem_append_right _ (h))))) hown hK rfl (by decide) (hts (.fieldLink RX9 82 "MortarShow" "planned" "Z") (List.mem_of_getElem? (i := 5) rfl)) tyX9 tyX9_ok nmX9 rfl rfl
  have fw267 : FW D s m ([.ref (ad 0), .int a] : List Value).toArray 267 1 3 (.int) := FW.mk (C := RX1) (T := TX1) (N := 4) hts (fun _ h => List.mem_cons_of_mem _ (List.mem_append_left _ (List.mem_append_right _ (h)))) hown hK rfl (by decide) (hts (.fieldLink RX9 267 "MortarShow$Boxes" "gap" "I") (List.mem_of_getElem? (i := 4) rfl)) tyX1 tyX1_ok nmX1 rfl rfl
  have hl := lv_entry ([.ref (ad 0), .int a]) (n := 3) (Nat.le_of_ble_eq_true rfl)
  rw [lg_entry_eq]
  generalize (lg_sl ([.ref (ad 0), .int a]) ++ List.replicate (3 - (lg_sl ([.ref (ad 0), .int a])).length) Slot.unset).toArray = ls at hl ⊢
  have hl : lv_has ls 3 [(0, .ref (ad 0)), (1, .int a)] := hl
  obtain ⟨ok, hR, hP, hL, hV, hT⟩ := hXX
  have hXX : XX σ v M := ⟨ok, hR, hP, hL, hV, hT⟩
  have o1 := ok.1
  refine lv_iload_n hx hb dX9_setGap_0 rfl (lv_at hl 1 rfl) ?_
  refine lv_iconst (v := 0) hx hb dX9_setGap_1 (by decide) ?_
  refine lv_bipush (v := 20) hx hb dX9_setGap_2 (by decide) ?_
  refine wc_ri (va_runS (As := [.int a, .int 0, .int 20]) (rest := []) ⟨hx, hb, hml, hown, hts⟩ (c_X9_outside l a 0 20) (va_cwS 3 hts gX9_setGap_X9_outside rfl rfl rfl (by decide +kernel) ⟨Nat.le_of_ble_eq_true rfl, Nat.le_of_ble_eq_true rfl⟩) npreS rfl rfl hl.1 rfl (lv_room (Nat.le_of_ble_eq_true rfl)) dX9_setGap_4 ⟨Nat.le_of_ble_eq_true rfl, Nat.le_of_ble_eq_true rfl⟩) hW (fun x4 H locs p4 hW => ?_)
  try dsimp only at p4
  refine lv_if_eq (tgt := 20) hx hb dX9_setGap_7 (by decide) (fun c7 => ?_) (fun c7 => ?_)
  · have g4 := bI_z.mp (p4.symm.trans c7)
    obtain ⟨t, ht2, et⟩ := out_n (n := 20) (by decide) g4
    have f1 : n1 a = t := by rw [et]; exact n1_nI (by omega)
    refine lv_aload_n hx hb dX9_setGap_20 rfl (lv_at hl 0 rfl) ?_
    refine wgF (t := 16) hx hb fa58 hW (hX.1 0 (by decide)) rfl dX9_setGap_21 ?_
    refine wgI hx hb fa267 hW (hX.1 16 (by decide)) rfl dX9_setGap_24 (fun x24 e24 => ?_)
    refine lv_istore_n (lv' := [(2, .int x24), (0, .ref (ad 0)), (1, .int a)]) hx hb dX9_setGap_27 rfl hl (by decide) rfl (fun ls hl => ?_)
    refine lv_aload_n hx hb dX9_setGap_28 rfl (lv_at hl 1 rfl) ?_
    refine wgF (t := 16) hx hb fa58 hW (hX.1 0 (by decide)) rfl dX9_setGap_29 ?_
    refine lv_iload_n hx hb dX9_setGap_32 rfl (lv_at hl 2 rfl) ?_
    refine wpI hx hb fw267 hA hW (hX.1 16 (by decide)) rfl dX9_setGap_33 (fun M33 H locs eM33 hW => ?_)
    refine lv_aload_n hx hb dX9_setGap_36 rfl (lv_at hl 1 rfl) ?_
    refine lv_iconst (v := 0) hx hb dX9_setGap_37 (by decide) ?_
    refine wpZ hx hb fw82 hA hW (hX.1 0 (by decide)) rfl ⟨rfl, rfl⟩ dX9_setGap_38 (fun M38 H locs eM38 hW => ?_)
    refine lv_iload_n hx hb dX9_setGap_41 rfl (lv_at hl 0 rfl) ?_
    refine vx_ret ?_
    refine W.widen (k := 1) (n := 6) (by decide) (by decide) ?_
    exact wr_wi hx hb hr hlocks hW dX9_setGap_42 ⟨(by rw [eM38, eM33]; exact oA.putI (oA.putI (oA.rf) (by unfold XSx; omega)) (by unfold XSx; omega)), by rw [f1]; exact XX_set (AOK_Gap ok (by omega)) (XR_Gap hR (by rw [eM38, gI_sI, if_neg (by omega), eM33, gI_sI, if_pos ⟨rfl, rfl⟩, et]) (fun p k hx hn => by unfold XRs at hx; rw [eM38, eM33, gI_sI, if_neg (by omega), gI_sI, if_neg (by omega)]) (fun p k => by rw [eM38, eM33]; rfl)) (by rw [eM38, gI_sI, if_pos ⟨rfl, rfl⟩]) (by rw [eM38, eM33, gI_sI, if_neg (by omega), gI_sI, if_neg (by omega)]; exact hL) (fun k hk => by rw [eM38, eM33, gI_sI, if_neg (by omega), gI_sI, if_neg (by omega)]; exact hV k hk) (fun k hk => by rw [eM38, eM33, gI_sI, if_neg (by omega), gI_sI, if_neg (by omega)]; exact hT k hk), (by simp [inB, zoB_eq, g4]), e24.trans hR.2.2.2.2.2.2.2.2.1⟩
  · have t4 := bI_t.mp (fun z => c7 (p4.trans z))
    exact wx_throw (text := "ticks is out of range") hx hb hl9 xok_IA (by decide) (List.mem_of_getElem? (i := 9) rfl) ht hown (hts (.classLink RX9 96 "java/lang/IllegalArgumentException") (List.mem_of_getElem? (i := 1) rfl)) (hts (.initialized "java/lang/IllegalArgumentException") (List.mem_of_getElem? (i := 2) rfl)) (fun w h => hts w (List.mem_cons_of_mem _ (List.mem_append_right _ (h)))) hE hZ hW (hl.1.trans hml.symm) dX9_setGap_10 dX9_setGap_13 dX9_setGap_14 dX9_setGap_16 dX9_setGap_19 ⟨Nat.le_of_ble_eq_true rfl, Nat.le_of_ble_eq_true rfl⟩ ⟨Nat.le_of_ble_eq_true rfl, Nat.le_of_ble_eq_true rfl⟩ hlocks ⟨Nat.le_of_ble_eq_true rfl, Nat.le_of_ble_eq_true rfl⟩ ⟨rfl, (by first | (simp [inB, zoB_eq, t4]; done)), oA.rf, hXX⟩
set_option maxHeartbeats 4000000 in
set_option maxRecDepth 100000 in
theorem c_X9_kill (l : Launch) (hl9 : l.stackTraces = false) (D : va_G) (cA : Nat → ClassId) (sh : Nat → Option Sh) (ad : Nat → Nat) (M : MS) (sz : Nat) (σ : AS) (v : VT) (hX : XSh (aN σ) sh) (hXX : XX σ v M) (a b : Int32) : vx_Met l yX9_kill wsX9_kill ({ frames := 6, cells := 1, slots := 6, locals := 90 }) (xPc D cA sh ad M sz [.ref (ad 0), .int a, .int b]) (wQi D cA sh ad (fun r M' => oA XSx M M' ∧ XX (oKill σ (8 * n1 a + n1 b)) v M' ∧ (inB a 0 3 && inB b 0 7) = true ∧ r = nI (1 - σ.2 3 (8 * n1 a + n1 b))) (wA sh ad sz)) (xXC D cA sh ad (pxG σ v M nIA (inB a 0 3 && inB b 0 7)) (wA sh ad sz)) 1 6 (wA sh ad sz) := by
  refine vx_ofW (cc := cX9_kill) (maxL := 4) (ret := (some .boolean)) (by decide) rfl ?_
  intro p e s m args below meth cd0 s₁ B hml ht hv
  obtain ⟨rfl, hsz, hM, hK, hE, hZ⟩ := hv
  have hx := B.exec
  have hb := B.bytes
  have hr := B.returns
  have hts := atoms_spec (ws := wsX9_kill) B.pre
  have hown : s.vm.findClass RX9 = some m.cls := findClass_of_methodNamed B.named
  have hlocks := B.notSynchronized
  subst hsz
  have hA := wA_PA sh ad s.heap
  generalize wA sh ad s.heap.size = A at hA hZ ⊢
  have hW : WS D cA sh ad A s.heap M s.heap [] := ⟨hM, va_S.rf⟩
  have fa58 : FA D s m ([.ref (ad 0), .int a, .int b] : List Value).toArray 58 9 7 := FA.mk (C := RX9) (T := TX9) (N := 15) hts (fun _ h => List.mem_cons_of_mem _ (List.mem_append_left _ (List.mem_append_left _ (List.mem_append_right _ (h))))) hown hK rfl (by decide) (hts (.fieldLink RX9 58 "MortarShow" "boxes" "LMortarShow$Boxes;") (List.mem_of_getElem? (i := 3) rfl))
  have fa263 : FA D s m ([.ref (ad 0), .int a, .int b] : List Value).toArray 263 1 0 := FA.mk (C := RX1) (T := TX1) (N := 4) hts (fun _ h => List.mem_cons_of_mem _ (List.mem_append_left _ (List.mem_append_right _ (h)))) hown hK rfl (by decide) (hts (.fieldLink RX9 263 "MortarShow$Boxes" "dead" "[Z") (List.mem_of_getElem? (i := 4) rfl))
  have fw82 : FW D s m ([.ref (ad 0), .int a, .int b] : List Value).toArray 82 9 14 (.boolean) := FW.mk (C := RX9) (T := TX9) (N := 15) hts (fun _ h => List.mem_cons_of_mem _ (List.mem_append_left _ (List.mem_append_left _ (List.mem_append_right _ (h))))) hown hK rfl (by decide) (hts (.fieldLink RX9 82 "MortarShow" "planned" "Z") (List.mem_of_getElem? (i := 5) rfl)) tyX9 tyX9_ok nmX9 rfl rfl
  have hl := lv_entry ([.ref (ad 0), .int a, .int b]) (n := 4) (Nat.le_of_ble_eq_true rfl)
  rw [lg_entry_eq]
  generalize (lg_sl ([.ref (ad 0), .int a, .int b]) ++ List.replicate (4 - (lg_sl ([.ref (ad 0), .int a, .int b])).length) Slot.unset).toArray = ls at hl ⊢
  have hl : lv_has ls 4 [(0, .ref (ad 0)), (1, .int a), (2, .int b)] := hl
  obtain ⟨ok, hR, hP, hL, hV, hT⟩ := hXX
  have hXX : XX σ v M := ⟨ok, hR, hP, hL, hV, hT⟩
  have o1 := ok.1
  refine lv_iload_n hx hb dX9_kill_0 rfl (lv_at hl 1 rfl) ?_
  refine lv_iconst (v := 0) hx hb dX9_kill_1 (by decide) ?_
  refine lv_iconst (v := 3) hx hb dX9_kill_2 (by decide) ?_
  refine wc_ri (va_runS (As := [.int a, .int 0, .int 3]) (rest := []) ⟨hx, hb, hml, hown, hts⟩ (c_X9_outside l a 0 3) (va_cwS 3 hts gX9_kill_X9_outside rfl rfl rfl (by decide +kernel) ⟨Nat.le_of_ble_eq_true rfl, Nat.le_of_ble_eq_true rfl⟩) npreS rfl rfl hl.1 rfl (lv_room (Nat.le_of_ble_eq_true rfl)) dX9_kill_3 ⟨Nat.le_of_ble_eq_true rfl, Nat.le_of_ble_eq_true rfl⟩) hW (fun x3 H locs p3 hW => ?_)
  try dsimp only at p3
  refine lv_if_ne (tgt := 19) hx hb dX9_kill_6 (by decide) (fun c6 => ?_) (fun c6 => ?_)
  · have t3 := bI_t.mp (fun z => c6 (p3.trans z))
    exact wx_throwW (text := "box or channel is out of range") hx hb hl9 xok_IA (by decide) (List.mem_of_getElem? (i := 12) rfl) ht hown (hts (.classLink RX9 96 "java/lang/IllegalArgumentException") (List.mem_of_getElem? (i := 1) rfl)) (hts (.initialized "java/lang/IllegalArgumentException") (List.mem_of_getElem? (i := 2) rfl)) (fun w h => hts w (List.mem_cons_of_mem _ (List.mem_append_right _ (h)))) hE hZ hW (hl.1.trans hml.symm) dX9_kill_19 dX9_kill_22 dX9_kill_23 dX9_kill_26 dX9_kill_29 ⟨Nat.le_of_ble_eq_true rfl, Nat.le_of_ble_eq_true rfl⟩ ⟨Nat.le_of_ble_eq_true rfl, Nat.le_of_ble_eq_true rfl⟩ hlocks ⟨Nat.le_of_ble_eq_true rfl, Nat.le_of_ble_eq_true rfl⟩ ⟨rfl, (by first | (simp [inB, zoB_eq, t3]; done) | (simp [inB, zoB_eq, t13]; done)), oA.rf, hXX⟩
  · have g3 := bI_z.mp (p3.symm.trans c6)
    refine lv_iload_n hx hb dX9_kill_9 rfl (lv_at hl 2 rfl) ?_
    refine lv_iconst (v := 0) hx hb dX9_kill_10 (by decide) ?_
    refine lv_bipush (v := 7) hx hb dX9_kill_11 (by decide) ?_
    refine wc_ri (va_runS (As := [.int b, .int 0, .int 7]) (rest := []) ⟨hx, hb, hml, hown, hts⟩ (c_X9_outside l b 0 7) (va_cwS 3 hts gX9_kill_X9_outside rfl rfl rfl (by decide +kernel) ⟨Nat.le_of_ble_eq_true rfl, Nat.le_of_ble_eq_true rfl⟩) npreS rfl rfl hl.1 rfl (lv_room (Nat.le_of_ble_eq_true rfl)) dX9_kill_13 ⟨Nat.le_of_ble_eq_true rfl, Nat.le_of_ble_eq_true rfl⟩) hW (fun x13 H locs p13 hW => ?_)
    try dsimp only at p13
    refine lv_if_eq (tgt := 30) hx hb dX9_kill_16 (by decide) (fun c16 => ?_) (fun c16 => ?_)
    · have g13 := bI_z.mp (p13.symm.trans c16)
      obtain ⟨k, hk, ek⟩ := out_n (n := 3) (by decide) g3
      obtain ⟨y, hy, ey⟩ := out_n (n := 7) (by decide) g13
      have f1 : n1 a = k := by rw [ek]; exact n1_nI (by omega)
      have f2 : n1 b = y := by rw [ey]; exact n1_nI (by omega)
      have hd9 := ok.2.2.2.1 (8 * k + y) (by omega)
      refine lv_bipush (v := 8) hx hb dX9_kill_30 (by decide) ?_
      refine lv_iload_n hx hb dX9_kill_32 rfl (lv_at hl 1 rfl) ?_
      refine lv_imul hx hb dX9_kill_33 ?_
      refine lv_topi (fun x33 e33 => ?_)
      have n33 : x33 = nI (8 * k) := (by rw [e33, (nlit 8), ek, pk_mul])
      refine lv_iload_n hx hb dX9_kill_34 rfl (lv_at hl 2 rfl) ?_
      refine lv_iadd hx hb dX9_kill_35 ?_
      refine lv_topi (fun x35 e35 => ?_)
      have n35 : x35 = nI ((8 * k) + y) := (by rw [e35, n33, ey, nI_add])
      refine lv_istore_n (lv' := [(3, .int x35), (0, .ref (ad 0)), (1, .int a), (2, .int b)]) hx hb dX9_kill_36 rfl hl (by decide) rfl (fun ls hl => ?_)
      refine lv_aload_n hx hb dX9_kill_37 rfl (lv_at hl 1 rfl) ?_
      refine wgF (t := 16) hx hb fa58 hW (hX.1 0 (by decide)) rfl dX9_kill_38 ?_
      refine wgF (t := 17) hx hb fa263 hW (hX.1 16 (by decide)) rfl dX9_kill_41 ?_
      refine lv_iload_n hx hb dX9_kill_44 rfl (lv_at hl 0 rfl) ?_
      have J62 : ∀ (w : Int32) (H : Heap) (locs : List Loc), (w = nI (1 - σ.2 3 (8 * k + y))) → WS D cA sh ad A s.heap M H locs → ∀ ls, lv_has ls 4 [(3, .int x35), (0, .ref (ad 0)), (1, .int a), (2, .int b)] → W p l e (headSpec wsX9_kill { frames := 6, cells := 1, slots := 6, locals := 90 }).room s m ([.ref (ad 0), .int a, .int b] : List Value).toArray below meth cd0 H locs 0 0 (vx_MQ below (wQi D cA sh ad (fun r M' => oA XSx M M' ∧ XX (oKill σ (8 * n1 a + n1 b)) v M' ∧ (inB a 0 3 && inB b 0 7) = true ∧ r = nI (1 - σ.2 3 (8 * n1 a + n1 b))) A) (xXC D cA sh ad (pxG σ v M nIA (inB a 0 3 && inB b 0 7)) A) ([.ref (ad 0), .int a, .int b] : List Value).toArray s 1 6 A) (F0 m 62 ls [.int w, .int x35, .ref (ad 17)]) := by
        intro w H locs hw hW ls hl
        refine wasZ (j := ((8 * k) + y)) hx hb hK hA hW (hX.1 17 (by decide)) (by rw [hw]; exact nar01 (by omega)) n35 (by omega) (by decide) dX9_kill_62 (fun M62 H locs eM62 hW => ?_)
        refine lv_aload_n hx hb dX9_kill_63 rfl (lv_at hl 1 rfl) ?_
        refine lv_iconst (v := 0) hx hb dX9_kill_64 (by decide) ?_
        refine wpZ hx hb fw82 hA hW (hX.1 0 (by decide)) rfl ⟨rfl, rfl⟩ dX9_kill_65 (fun M65 H locs eM65 hW => ?_)
        have hv8 : gI M65 17 (8 * k + y) = nI (1 - σ.2 3 (8 * k + y)) := by rw [eM65, gI_sI, if_neg (by omega), eM62, gI_sI, if_pos ⟨rfl, rfl⟩, hw]
        refine lv_aload_n hx hb dX9_kill_68 rfl (lv_at hl 1 rfl) ?_
        refine wgF (t := 16) hx hb fa58 hW (hX.1 0 (by decide)) rfl dX9_kill_69 ?_
        refine wgF (t := 17) hx hb fa263 hW (hX.1 16 (by decide)) rfl dX9_kill_72 ?_
        refine lv_iload_n hx hb dX9_kill_75 rfl (lv_at hl 0 rfl) ?_
        refine walZ (j := ((8 * k) + y)) hx hb hK hW (hX.1 17 (by decide)) n35 (by omega) (by decide) dX9_kill_76 (fun x76 e76 => ?_)
        have hv9 : x76 = nI (1 - σ.2 3 (8 * k + y)) := e76.trans hv8
        refine vx_ret ?_
        refine W.widen (k := 1) (n := 6) (by decide) (by decide) ?_
        exact wr_wz hx hb hr hlocks hW dX9_kill_77 (by rw [hv9]; exact nar01 (by omega)) ⟨(by rw [eM65, eM62]; exact oA.putI (oA.putI (oA.rf) (by unfold XSx; omega)) (by unfold XSx; omega)), by rw [f1, f2]; exact XX_set (AOK_Kill ok ) (XR_Kill hR hv8 (fun p k hx hn => by unfold XRs at hx; rw [eM65, eM62, gI_sI, if_neg (by omega), gI_sI, if_neg (by omega)]) (fun p k => by rw [eM65, eM62]; rfl)) (by rw [eM65, gI_sI, if_pos ⟨rfl, rfl⟩]) (by rw [eM65, eM62, gI_sI, if_neg (by omega), gI_sI, if_neg (by omega)]; exact hL) (fun k hk => by rw [eM65, eM62, gI_sI, if_neg (by omega), gI_sI, if_neg (by omega)]; exact hV k hk) (fun k hk => by rw [eM65, eM62, gI_sI, if_neg (by omega), gI_sI, if_neg (by omega)]; exact hT k hk), (by simp [inB, zoB_eq, g3, g13]), by rw [f1, f2]; exact hv9⟩
      refine lv_aload_n hx hb dX9_kill_45 rfl (lv_at hl 1 rfl) ?_
      refine wgF (t := 16) hx hb fa58 hW (hX.1 0 (by decide)) rfl dX9_kill_46 ?_
      refine wgF (t := 17) hx hb fa263 hW (hX.1 16 (by decide)) rfl dX9_kill_49 ?_
      refine lv_iload_n hx hb dX9_kill_52 rfl (lv_at hl 0 rfl) ?_
      refine walZ (j := ((8 * k) + y)) hx hb hK hW (hX.1 17 (by decide)) n35 (by omega) (by decide) dX9_kill_53 (fun x53 e53 => ?_)
      refine lv_if_ne (tgt := 61) hx hb dX9_kill_54 (by decide) (fun c54 => ?_) (fun c54 => ?_)
      · refine lv_iconst (v := 0) hx hb dX9_kill_61 (by decide) ?_
        exact J62 0 _ _ (by
            have h9 : x53 = nI (σ.2 3 (8 * k + y)) := e53.trans (hR.2.2.2.2.2.2.1 _ (by omega))
            rw [h9] at c54
            rcases (show σ.2 3 (8 * k + y) = 0 ∨ σ.2 3 (8 * k + y) = 1 by omega) with z | z
            · first
              | (rw [z]; rfl)
              | exact absurd (by rw [z]; rfl) c54
            · first
              | (rw [z] at c54; exact absurd c54 (by decide))
              | (rw [z]; rfl)) hW ls (lv_sub hl [0, 1, 2, 3] rfl)
      · refine lv_iconst (v := 1) hx hb dX9_kill_57 (by decide) ?_
        refine lv_goto (tgt := 62) hx hb dX9_kill_58 (by decide) ?_
        exact J62 1 _ _ (by
            have h9 : x53 = nI (σ.2 3 (8 * k + y)) := e53.trans (hR.2.2.2.2.2.2.1 _ (by omega))
            rw [h9] at c54
            rcases (show σ.2 3 (8 * k + y) = 0 ∨ σ.2 3 (8 * k + y) = 1 by omega) with z | z
            · first
              | (rw [z]; rfl)
              | exact absurd (by rw [z]; rfl) c54
            · first
              | (rw [z] at c54; exact absurd c54 (by decide))
              | (rw [z]; rfl)) hW ls (lv_sub hl [0, 1, 2, 3] rfl)
    · have t13 := bI_t.mp (fun z => c16 (p13.trans z))
      exact wx_throwW (text := "box or channel is out of range") hx hb hl9 xok_IA (by decide) (List.mem_of_getElem? (i := 12) rfl) ht hown (hts (.classLink RX9 96 "java/lang/IllegalArgumentException") (List.mem_of_getElem? (i := 1) rfl)) (hts (.initialized "java/lang/IllegalArgumentException") (List.mem_of_getElem? (i := 2) rfl)) (fun w h => hts w (List.mem_cons_of_mem _ (List.mem_append_right _ (h)))) hE hZ hW (hl.1.trans hml.symm) dX9_kill_19 dX9_kill_22 dX9_kill_23 dX9_kill_26 dX9_kill_29 ⟨Nat.le_of_ble_eq_true rfl, Nat.le_of_ble_eq_true rfl⟩ ⟨Nat.le_of_ble_eq_true rfl, Nat.le_of_ble_eq_true rfl⟩ hlocks ⟨Nat.le_of_ble_eq_true rfl, Nat.le_of_ble_eq_true rfl⟩ ⟨rfl, (by first | (simp [inB, zoB_eq, t3]; done) | (simp [inB, zoB_eq, t13]; done)), oA.rf, hXX⟩

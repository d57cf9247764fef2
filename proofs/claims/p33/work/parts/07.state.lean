/-! The abstract state: raw ints (people 0, speed 2, fall 3, windx 4, windy 5) and numbers (rack column 0, line 1, radius 2, dead 3, tempo 4, gap 5, cues made 6, beat 7, kind 8, rack 9, gone 10, flight 11). -/
abbrev AS : Type := (Nat → Nat → Int32) × (Nat → Nat → Nat)
def aN (σ : AS) : Nat := σ.2 6 0
def XSh (n : Nat) (sh : Nat → Option Sh) : Prop := (∀ p, p < 60 → sh p = shT.getD p none) ∧ ∀ i, i < n → sh (100 + i) = some cueSh
def MSh (sh : Nat → Option Sh) : Prop := ∀ p, 60 ≤ p → p ≤ 84 → sh p = shT.getD p none
theorem shT_rack : ∀ i, i < 6 → shT.getD (30 + i) none = some (.inl (7, [0, 0])) := by decide
theorem shT_kind : ∀ i, i < 4 → shT.getD (40 + i) none = some (.inl (6, [(44 + i) + 3, (48 + i) + 3, 0, 0, 0, 0, 0])) := by decide
theorem shT_ticks : ∀ i, i < 4 → shT.getD (44 + i) none = some (.inr (0, 4)) := by decide
theorem shT_height : ∀ i, i < 4 → shT.getD (48 + i) none = some (.inl (5, [0, 0, 0, 0, 0])) := by decide
theorem sh_rack {n : Nat} {sh : Nat → Option Sh} (h : XSh n sh) (i : Nat) (hi : i < 6) : sh (30 + i) = some (.inl (7, [0, 0])) := (h.1 _ (by omega)).trans (shT_rack i hi)
theorem sh_kind {n : Nat} {sh : Nat → Option Sh} (h : XSh n sh) (i : Nat) (hi : i < 4) : sh (40 + i) = some (.inl (6, [(44 + i) + 3, (48 + i) + 3, 0, 0, 0, 0, 0])) := (h.1 _ (by omega)).trans (shT_kind i hi)
theorem sh_ticks {n : Nat} {sh : Nat → Option Sh} (h : XSh n sh) (i : Nat) (hi : i < 4) : sh (44 + i) = some (.inr (0, 4)) := (h.1 _ (by omega)).trans (shT_ticks i hi)
theorem sh_height {n : Nat} {sh : Nat → Option Sh} (h : XSh n sh) (i : Nat) (hi : i < 4) : sh (48 + i) = some (.inl (5, [0, 0, 0, 0, 0])) := (h.1 _ (by omega)).trans (shT_height i hi)
/-- the ranges -/
def AOK (σ : AS) : Prop :=
  aN σ ≤ 40 ∧ (∀ r, r < 6 → σ.2 0 r < 8 ∧ σ.2 1 r < 8) ∧ (∀ k, k < 4 → σ.2 2 k ≤ 3) ∧ (∀ c, c < 32 → σ.2 3 c ≤ 1) ∧ (1 ≤ σ.2 4 0 ∧ σ.2 4 0 ≤ 100) ∧ σ.2 5 0 ≤ 20 ∧
  (∀ i, i < aN σ → σ.2 7 i ≤ 100 ∧ σ.2 8 i < 4 ∧ σ.2 9 i < 6 ∧ σ.2 10 i ≤ 1) ∧ (∀ k, k < 4 → FlT (σ.1 2 k) (σ.1 3 k) (σ.2 11 k)) ∧
  (∀ y, y < 4 → -100 ≤ (σ.1 4 y).toInt ∧ (σ.1 4 y).toInt ≤ 100 ∧ -100 ≤ (σ.1 5 y).toInt ∧ (σ.1 5 y).toInt ≤ 100) ∧
  (∀ i, aN σ ≤ i → σ.2 10 i = 0) ∧ ∀ k, k < 4 → (1 ≤ (σ.1 2 k).toInt ∧ (σ.1 2 k).toInt ≤ 200) ∧ 1 ≤ (σ.1 3 k).toInt ∧ (σ.1 3 k).toInt ≤ 100
/-- the class's cells hold the state -/
def XR (σ : AS) (M : MS) : Prop :=
  (∀ k, k < 64 → gI M 2 k = σ.1 0 k) ∧ True ∧ (∀ r, r < 6 → gI M (30 + r) 0 = nI (σ.2 0 r) ∧ gI M (30 + r) 1 = nI (σ.2 1 r)) ∧
  (∀ k, k < 4 → gI M (40 + k) 2 = σ.1 2 k ∧ gI M (40 + k) 3 = σ.1 3 k ∧ gI M (40 + k) 4 = nI (σ.2 2 k) ∧ gI M (40 + k) 5 = nI (liftN (σ.1 2 k) (σ.1 3 k) (σ.2 11 k)) ∧ gI M (40 + k) 6 = nI (σ.2 11 k) ∧ ∀ y, y < 4 → gI M (44 + k) y = nI (cntN (σ.1 2 k) (σ.1 3 k) (σ.2 11 k) y)) ∧
  (∀ y, y < 4 → gI M 7 y = σ.1 4 y ∧ gI M 8 y = σ.1 5 y) ∧ True ∧ (∀ c, c < 32 → gI M 17 c = nI (σ.2 3 c)) ∧ gI M 0 13 = nI (σ.2 4 0) ∧ gI M 16 3 = nI (σ.2 5 0) ∧ gI M 0 10 = nI (aN σ) ∧
  (∀ i, i < 40 → (gR M 11 i = none ∧ ¬ (i < aN σ ∧ σ.2 10 i = 0)) ∨ (gR M 11 i = some (100 + i) ∧ i < aN σ ∧ σ.2 10 i = 0)) ∧
  (∀ i, i < aN σ → gI M (100 + i) 0 = nI i ∧ gI M (100 + i) 1 = nI (σ.2 7 i) ∧ gR M (100 + i) 2 = some (40 + σ.2 8 i) ∧ gR M (100 + i) 3 = some (30 + σ.2 9 i))
/-- the slots that XR speaks of -/
def XRs (p k : Nat) : Prop := p = 2 ∨ (30 ≤ p ∧ p < 36) ∨ (40 ≤ p ∧ p < 48) ∨ p = 7 ∨ p = 8 ∨ p = 17 ∨ (p = 0 ∧ (k = 13 ∨ k = 10)) ∨ (p = 16 ∧ k = 3) ∨ p = 11 ∨ (100 ≤ p ∧ k ≤ 3)
theorem XR.same {σ : AS} {M M' : MS} (h : XR σ M) (e1 : ∀ p k, XRs p k → gI M' p k = gI M p k) (e2 : ∀ p k, XRs p k → gR M' p k = gR M p k) : XR σ M' := by
  obtain ⟨a1, a2, a3, a4, a5, a6, a7, a8, a9, a10, a11, a12⟩ := h
  have f1 : ∀ p k, XRs p k → gI M' p k = gI M p k := e1
  refine ⟨fun k hk => by rw [e1 _ _ (by unfold XRs; omega)]; exact a1 k hk, trivial, fun r hr => by rw [e1 _ _ (by unfold XRs; omega), e1 _ _ (by unfold XRs; omega)]; exact a3 r hr, fun k hk => ?_, fun y hy => by rw [e1 _ _ (by unfold XRs; omega), e1 _ _ (by unfold XRs; omega)]; exact a5 y hy, trivial, fun y hy => by rw [e1 _ _ (by unfold XRs; omega)]; exact a7 y hy, by rw [e1 _ _ (by unfold XRs; omega)]; exact a8, by rw [e1 _ _ (by unfold XRs; omega)]; exact a9, by rw [e1 _ _ (by unfold XRs; omega)]; exact a10, fun i hi => by rw [e2 _ _ (by unfold XRs; omega)]; exact a11 i hi, fun i hi => ?_⟩
  · rw [e1 _ _ (by unfold XRs; omega), e1 _ _ (by unfold XRs; omega), e1 _ _ (by unfold XRs; omega), e1 _ _ (by unfold XRs; omega), e1 _ _ (by unfold XRs; omega)]
    obtain ⟨b1, b2, b3, b4, b5, b6⟩ := a4 k hk
    exact ⟨b1, b2, b3, b4, b5, fun y hy => by rw [e1 _ _ (by unfold XRs; omega)]; exact b6 y hy⟩
  · rw [e1 _ _ (by unfold XRs; omega), e1 _ _ (by unfold XRs; omega), e2 _ _ (by unfold XRs; omega), e2 _ _ (by unfold XRs; omega)]
    exact a12 i hi
theorem XR.oI {σ : AS} {M M' : MS} {S : Nat → Nat → Prop} (h : XR σ M) (o : oI S M M') (hs : ∀ p k, S p k → ¬ XRs p k) : XR σ M' :=
  h.same (fun p k hx => o.1 p k (fun z => hs p k z hx)) (fun p k _ => o.rg p k)
/-- the drift of a kind in the wind w (4: x, 5: y), the place where the shell of a cue falls -/
def drA (σ : AS) (k w : Nat) : Nat → Int32
  | 0 => 0
  | y + 1 => drA σ k w y + nI (cntN (σ.1 2 k) (σ.1 3 k) (σ.2 11 k) y) * σ.1 w y
def falX (σ : AS) (i : Nat) : Int32 := (nI (σ.2 0 (σ.2 9 i)) * 100 + 50) + drA σ (σ.2 8 i) 4 4
def falY (σ : AS) (i : Nat) : Int32 := (nI (σ.2 1 (σ.2 9 i)) * 100 + 50) + drA σ (σ.2 8 i) 5 4
def colZ (σ : AS) (i : Nat) : Int := (falX σ i).toInt / 100
def linZ (σ : AS) (i : Nat) : Int := (falY σ i).toInt / 100
/-- the danger of a cue, and whether it is struck -/
def zonB (σ : AS) (i k : Nat) : Bool := inZ (colZ σ i) (linZ σ i) (σ.2 2 (σ.2 8 i)) k
def stkB (σ : AS) (i : Nat) : Bool := (List.range 64).any fun k => decide (0 < σ.1 0 k) && zonB σ i k
theorem stkB_iff {σ : AS} {i : Nat} : stkB σ i = true ↔ ∃ k, k < 64 ∧ 0 < σ.1 0 k ∧ zonB σ i k = true := by
  simp [stkB, List.any_eq_true]
theorem driftTo_eq {σ : AS} {M : MS} {k w pw : Nat} (h1 : ∀ y, y < 4 → gI M (44 + k) y = nI (cntN (σ.1 2 k) (σ.1 3 k) (σ.2 11 k) y)) (h2 : ∀ y, y < 4 → gI M pw y = σ.1 w y) : ∀ y, y ≤ 4 → driftTo M (44 + k) pw y = drA σ k w y
  | 0, _ => rfl
  | y + 1, hy => by unfold driftTo drA; rw [driftTo_eq h1 h2 y (by omega), h1 y (by omega), h2 y (by omega)]
/-- bounds -/
theorem i32r (x : Int32) : -2147483648 ≤ x.toInt ∧ x.toInt < 2147483648 := ⟨by have := x.le_toInt; omega, by have := x.toInt_lt; omega⟩
theorem i32bm {z : Int} (h1 : -2147483648 ≤ z) (h2 : z < 2147483648) : z.bmod (2 ^ 32) = z := by
  rw [Int.bmod_eq_of_le] <;> omega
theorem i32add {x y : Int32} (h1 : -2147483648 ≤ x.toInt + y.toInt) (h2 : x.toInt + y.toInt < 2147483648) : (x + y).toInt = x.toInt + y.toInt := by
  rw [Int32.toInt_add, i32bm h1 h2]
theorem i32sub {x y : Int32} (h1 : -2147483648 ≤ x.toInt - y.toInt) (h2 : x.toInt - y.toInt < 2147483648) : (x - y).toInt = x.toInt - y.toInt := by
  rw [Int32.toInt_sub, i32bm h1 h2]
theorem i32mul {x y : Int32} (h1 : -2147483648 ≤ x.toInt * y.toInt) (h2 : x.toInt * y.toInt < 2147483648) : (x * y).toInt = x.toInt * y.toInt := by
  rw [Int32.toInt_mul, i32bm h1 h2]
def cntS (a b : Int32) (n : Nat) : Nat → Nat
  | 0 => 0
  | y + 1 => cntS a b n y + cntN a b n y
theorem cntS_4 (a b : Int32) : ∀ n, cntS a b n 4 = n
  | 0 => rfl
  | n + 1 => by
    have ih := cntS_4 a b n
    obtain ⟨j, hj, e⟩ := layI_nat (hsq a b n).2.1
    simp only [cntS, cntN] at ih ⊢
    rw [e]
    have q : ∀ y, y < 4 → ((nI j = nI y) ↔ j = y) := fun y hy => nI_eq (by omega) (by omega)
    simp only [q 0 (by omega), q 1 (by omega), q 2 (by omega), q 3 (by omega)]
    rcases (show j = 0 ∨ j = 1 ∨ j = 2 ∨ j = 3 by omega) with rfl | rfl | rfl | rfl <;> simp <;> omega
theorem mul_bd {c : Nat} {w : Int} (h1 : -100 ≤ w) (h2 : w ≤ 100) : -100 * (c : Int) ≤ (c : Int) * w ∧ (c : Int) * w ≤ 100 * (c : Int) := by
  have hc : (0 : Int) ≤ c := Int.natCast_nonneg c
  refine ⟨?_, ?_⟩
  · have := Int.mul_le_mul_of_nonneg_left h1 hc
    rw [Int.mul_comm (c : Int) (-100)] at this; exact this
  · have := Int.mul_le_mul_of_nonneg_left h2 hc
    rw [Int.mul_comm (c : Int) 100] at this; exact this
theorem drA_bd {σ : AS} {k w : Nat} (hN : FlT (σ.1 2 k) (σ.1 3 k) (σ.2 11 k)) (hw : ∀ y, y < 4 → -100 ≤ (σ.1 w y).toInt ∧ (σ.1 w y).toInt ≤ 100) : ∀ y, y ≤ 4 → -100 * (cntS (σ.1 2 k) (σ.1 3 k) (σ.2 11 k) y : Int) ≤ (drA σ k w y).toInt ∧ (drA σ k w y).toInt ≤ 100 * (cntS (σ.1 2 k) (σ.1 3 k) (σ.2 11 k) y : Int)
  | 0, _ => by simp [drA, cntS]
  | y + 1, hy => by
    obtain ⟨i1, i2⟩ := drA_bd hN hw y (by omega)
    have c1 := cntN_le (σ.1 2 k) (σ.1 3 k) y (σ.2 11 k)
    have h3 := hN.2.2
    have hs : cntS (σ.1 2 k) (σ.1 3 k) (σ.2 11 k) y ≤ 12000 := by
      have c2 : ∀ z, cntN (σ.1 2 k) (σ.1 3 k) (σ.2 11 k) z ≤ 3000 := fun z => Nat.le_trans (cntN_le _ _ z _) h3
      have c3 : ∀ z, cntS (σ.1 2 k) (σ.1 3 k) (σ.2 11 k) z ≤ 3000 * z := fun z => by
        induction z with
        | zero => exact Nat.le_refl _
        | succ z ih => have := c2 z; unfold cntS; omega
      have := c3 y; omega
    obtain ⟨w1, w2⟩ := hw y (by omega)
    obtain ⟨m1, m2⟩ := mul_bd (c := cntN (σ.1 2 k) (σ.1 3 k) (σ.2 11 k) y) w1 w2
    have hm : (nI (cntN (σ.1 2 k) (σ.1 3 k) (σ.2 11 k) y) * σ.1 w y).toInt = (cntN (σ.1 2 k) (σ.1 3 k) (σ.2 11 k) y : Int) * (σ.1 w y).toInt := by
      rw [i32mul] <;> rw [nI_toInt (by omega)] <;> omega
    unfold drA
    rw [i32add (by rw [hm]; omega) (by rw [hm]; omega), hm]
    unfold cntS
    constructor <;> push_cast <;> omega
theorem fal_bd {σ : AS} (ok : AOK σ) {i : Nat} (hi : i < aN σ) : (-300000 ≤ (falX σ i).toInt ∧ (falX σ i).toInt ≤ 301000) ∧ (-300000 ≤ (falY σ i).toInt ∧ (falY σ i).toInt ≤ 301000) := by
  obtain ⟨o1, o2, o3, o4, o5, o6, o7, o8, o9, -⟩ := ok
  obtain ⟨b1, b2, b3, b4⟩ := o7 i hi
  obtain ⟨r1, r2⟩ := o2 _ b3
  have hN := o8 _ b2
  have hx := drA_bd (w := 4) hN (fun y hy => ⟨(o9 y hy).1, (o9 y hy).2.1⟩) 4 (Nat.le_refl _)
  have hy := drA_bd (w := 5) hN (fun y hy => ⟨(o9 y hy).2.2.1, (o9 y hy).2.2.2⟩) 4 (Nat.le_refl _)
  rw [cntS_4] at hx hy
  have h3 := hN.2.2
  have e : ∀ c, c < 8 → (nI c * 100 + 50).toInt = (c : Int) * 100 + 50 := by decide
  unfold falX falY
  constructor
  · rw [i32add] <;> rw [e _ r1] <;> omega
  · rw [i32add] <;> rw [e _ r2] <;> omega
theorem i32ge0 (z : Int32) : 0 ≤ z ↔ z.toBitVec.msb = false := by
  rw [Int32.le_iff_toInt_le]
  show (0 : Int) ≤ z.toBitVec.toInt ↔ _
  rw [BitVec.msb_eq_toInt]
  simp
theorem xor100 (x : Int32) : 0 ≤ x ^^^ 100 ↔ 0 ≤ x := by
  rw [i32ge0, i32ge0, Int32.toBitVec_xor, BitVec.msb_xor]
  have : (100 : Int32).toBitVec.msb = false := by decide
  rw [this]; simp
theorem div100 {x : Int32} (h1 : -1000000 ≤ x.toInt) (h2 : x.toInt ≤ 1000000) : (x / 100).toInt = if 0 ≤ x.toInt then x.toInt / 100 else -((-x.toInt) / 100) := by
  rw [Int32.toInt_div]
  have e : (100 : Int32).toInt = 100 := rfl
  rw [e]
  by_cases h : 0 ≤ x.toInt
  · rw [if_pos h, Int.tdiv_eq_ediv_of_nonneg h, i32bm] <;> omega
  · rw [if_neg h]
    have q : x.toInt.tdiv 100 = -((-x.toInt).tdiv 100) := by rw [Int.neg_tdiv, Int.neg_neg]
    rw [q, Int.tdiv_eq_ediv_of_nonneg (by omega), i32bm] <;> omega
theorem jfd100 {x : Int32} (h1 : -1000000 ≤ x.toInt) (h2 : x.toInt ≤ 1000000) : (jfd x 100).toInt = x.toInt / 100 := by
  have hd := div100 h1 h2
  have e : (100 : Int32).toInt = 100 := rfl
  have z0 : (0 : Int32).toInt = 0 := rfl
  unfold jfd
  by_cases h : 0 ≤ x
  · rw [if_pos ((xor100 x).mpr h)]
    rw [Int32.le_iff_toInt_le, z0] at h
    rw [hd, if_pos h]
  · rw [if_neg (fun q => h ((xor100 x).mp q))]
    rw [Int32.le_iff_toInt_le, z0] at h
    rw [if_neg h] at hd
    have hm : (x / 100 * 100).toInt = (x / 100).toInt * 100 := by rw [i32mul] <;> rw [e] <;> omega
    by_cases h3 : x / 100 * 100 = x
    · rw [if_pos h3, hd]
      have h4 : (x / 100).toInt * 100 = x.toInt := by rw [← hm, h3]
      omega
    · rw [if_neg h3]
      have h4 : ¬ (x / 100).toInt * 100 = x.toInt := fun q => h3 (Int32.toInt_inj.mp (by rw [hm]; exact q))
      have e1 : (1 : Int32).toInt = 1 := rfl
      rw [i32sub (by rw [e1]; omega) (by rw [e1]; omega), e1]
      omega

/-- anything changes at S alone -/
def oA (S : Nat → Nat → Prop) (M M' : MS) : Prop := ∀ p k, ¬ S p k → gI M' p k = gI M p k ∧ gL M' p k = gL M p k ∧ gR M' p k = gR M p k
theorem oA.rf {S : Nat → Nat → Prop} {M : MS} : oA S M M := fun _ _ _ => ⟨rfl, rfl, rfl⟩
theorem oA.putI {S : Nat → Nat → Prop} {M M1 : MS} {p k : Nat} {v : Int32} (h : oA S M M1) (hs : S p k) : oA S M (sI M1 p k v) := fun a b hn => by
  rw [gI_sI, if_neg (fun e : a = p ∧ b = k => hn (by rw [e.1, e.2]; exact hs)), gL_sI, gR_sI]; exact h a b hn
theorem oA.putL {S : Nat → Nat → Prop} {M M1 : MS} {p k : Nat} {v : Int64} (h : oA S M M1) (hs : S p k) : oA S M (sL M1 p k v) := fun a b hn => by
  rw [gI_sL, gL_sL, if_neg (fun e : a = p ∧ b = k => hn (by rw [e.1, e.2]; exact hs)), gR_sL]; exact h a b hn
theorem oA.putR {S : Nat → Nat → Prop} {M M1 : MS} {p k : Nat} {v : Option Nat} (h : oA S M M1) (hs : S p k) : oA S M (sR M1 p k v) := fun a b hn => by
  rw [gI_sR, gL_sR, gR_sR, if_neg (fun e : a = p ∧ b = k => hn (by rw [e.1, e.2]; exact hs))]; exact h a b hn
theorem oA.trans {S : Nat → Nat → Prop} {M M1 M2 : MS} (h : oA S M M1) (h2 : oA S M1 M2) : oA S M M2 := fun p k hn => ⟨(h2 p k hn).1.trans (h p k hn).1, (h2 p k hn).2.1.trans (h p k hn).2.1, (h2 p k hn).2.2.trans (h p k hn).2.2⟩
theorem oA.mono {S T : Nat → Nat → Prop} {M M1 : MS} (h : oA S M M1) (hs : ∀ p k, S p k → T p k) : oA T M M1 := fun p k hn => h p k (fun q => hn (hs p k q))
theorem oI.oA {S : Nat → Nat → Prop} {M M1 : MS} (h : oI S M M1) : oA S M M1 := fun p k hn => ⟨h.1 p k hn, h.lg p k, h.rg p k⟩
theorem XR.oA {σ : AS} {M M' : MS} {S : Nat → Nat → Prop} (h : XR σ M) (o : oA S M M') (hs : ∀ p k, XRs p k → ¬ S p k) : XR σ M' :=
  h.same (fun p k hx => (o p k (hs p k hx)).1) (fun p k hx => (o p k (hs p k hx)).2.2)
theorem zw_f {P : Nat → Prop} [DecidablePred P] {z : Int64} {k : Nat} (h : ∀ j, j < 64 → bitL z j = decide (j < k ∧ P j)) (hn : ¬ P k) : ∀ j, j < 64 → bitL z j = decide (j < k + 1 ∧ P j) := fun j hj => by
  rw [h j hj]
  by_cases e : j = k
  · subst e; simp [hn]
  · have : j < k + 1 ↔ j < k := by omega
    simp [this]
theorem zw_t {P : Nat → Prop} [DecidablePred P] {z : Int64} {k : Nat} (h : ∀ j, j < 64 → bitL z j = decide (j < k ∧ P j)) (hp : P k) (hk : k < 64) : ∀ j, j < 64 → bitL (z ||| ((1 : Int64) <<< ((nI k).toInt64 &&& 63))) j = decide (j < k + 1 ∧ P j) := fun j hj => by
  rw [bitL_or, h j hj, bitL_shl hk j hj]
  by_cases e : j = k
  · subst e; simp [hp]
  · have : j < k + 1 ↔ j < k := by omega
    simp [this, e]
theorem lgcmp0 {x : Int64} : lg_cmp x 0 = 0 ↔ x = 0 := by
  unfold lg_cmp
  by_cases h : x > 0
  · rw [if_pos h]; constructor
    · intro q; exact absurd q (by decide)
    · intro q; rw [q] at h; exact absurd h (by decide)
  · rw [if_neg h]
    by_cases h2 : x = 0
    · simp [h2]
    · rw [if_neg h2]; constructor
      · intro q; exact absurd q (by decide)
      · intro q; exact absurd q h2
theorem max_nat (d : Int32) : (if (0 : Int32) < d then d else 0) = nI d.toInt.toNat := by
  by_cases h : (0 : Int32) < d
  · rw [if_pos h]
    have h0 : ¬ d < 0 := fun q => by rw [Int32.lt_iff_toInt_lt] at h q; omega
    obtain ⟨j, hj, e⟩ := nI_of h0
    rw [e, nI_toInt hj]; rfl
  · rw [if_neg h]
    have : d.toInt.toNat = 0 := by rw [Int32.lt_iff_toInt_lt] at h; have : (0 : Int32).toInt = 0 := rfl; omega
    rw [this]; rfl
theorem min_lt {s : Int32} {L : Nat} (hL : L < 2 ^ 31) : (if s < 7 then s else 7) < nI L ↔ (7 < L ∨ s.toInt < L) := by
  rw [Int32.lt_iff_toInt_lt, nI_toInt hL]
  by_cases h : s < 7
  · rw [if_pos h]; rw [Int32.lt_iff_toInt_lt] at h; have : (7 : Int32).toInt = 7 := rfl; omega
  · rw [if_neg h]; rw [Int32.lt_iff_toInt_lt] at h; have : (7 : Int32).toInt = 7 := rfl; omega
theorem zone_lt {C L : Nat} (hC : C ≤ 7) (hL : L ≤ 7) : (8 * L + C) % 8 = C ∧ (8 * L + C) / 8 = L ∧ 8 * L + C < 64 := by omega
theorem stk_and {σ : AS} {i : Nat} {z p : Int64} (hz : ∀ k, k < 64 → bitL z k = zonB σ i k) (hp : ∀ k, k < 64 → bitL p k = decide (0 < σ.1 0 k)) : (z &&& p) = 0 ↔ stkB σ i = false := by
  constructor
  · intro h
    cases hs : stkB σ i with
    | false => rfl
    | true =>
      obtain ⟨k, hk, h1, h2⟩ := stkB_iff.mp hs
      have q : bitL (z &&& p) k = true := by rw [bitL_and, hz k hk, hp k hk, h2, decide_eq_true h1]; rfl
      rw [h, bitL_0] at q; cases q
  · intro h
    apply bitL_ext
    intro k hk
    rw [bitL_0, bitL_and, hz k hk, hp k hk]
    cases h1 : zonB σ i k with
    | false => rfl
    | true =>
      cases h2 : decide (0 < σ.1 0 k) with
      | false => rfl
      | true =>
        have : stkB σ i = true := stkB_iff.mpr ⟨k, hk, of_decide_eq_true h2, h1⟩
        rw [h] at this; cases this
theorem za_t {z : Int64} {C L : Nat} {col line rad : Int} (hC : C ≤ 7) (hL : L ≤ 7) (h : ∀ k, k < 64 → bitL z k = decide ((k / 8 < L ∨ (k / 8 = L ∧ k % 8 < C)) ∧ inZ col line rad k = true))
    (hz : inZ col line rad (8 * L + C) = true) : ∀ k, k < 64 → bitL (z ||| ((1 : Int64) <<< ((nI (8 * L + C)).toInt64 &&& 63))) k = decide ((k / 8 < L ∨ (k / 8 = L ∧ k % 8 < C + 1)) ∧ inZ col line rad k = true) := fun k hk => by
  obtain ⟨z1, z2, z3⟩ := zone_lt hC hL
  rw [bitL_or, h k hk, bitL_shl z3 k hk]
  by_cases e : k = 8 * L + C
  · subst e; simp [hz, z1, z2]
  · have : (k / 8 < L ∨ (k / 8 = L ∧ k % 8 < C + 1)) ↔ (k / 8 < L ∨ (k / 8 = L ∧ k % 8 < C)) := by omega
    simp [this, e]
set_option maxHeartbeats 4000000 in
set_option maxRecDepth 100000 in
theorem c_X4_zonesWithPeople (l : Launch) (D : va_G) (cA : Nat → ClassId) (sh : Nat → Option Sh) (ad : Nat → Nat) (M : MS) (sz : Nat) (n : Nat) (hX : XSh n sh) : Met l yX4_zonesWithPeople wsX4_zonesWithPeople ({ frames := 0, cells := 0, slots := 0, locals := 0 }) (wPc D cA sh ad M sz [.ref (ad 1)]) (rQl (fun r => ∀ k, k < 64 → bitL r k = decide (0 < gI M 2 k))) 0 0 nA := by
  refine Met.ofW (cc := cX4_zonesWithPeople) (maxL := 4) (ret := (some .long)) (by decide) rfl ?_
  intro p e s m args below meth cd0 s₁ B hml hv
  obtain ⟨rfl, hsz, hM, hK⟩ := hv
  have hx := B.exec
  have hb := B.bytes
  have hr := B.returns
  have hts := atoms_spec (ws := wsX4_zonesWithPeople) B.pre
  have hown : s.vm.findClass RX4 = some m.cls := findClass_of_methodNamed B.named
  have hlocks := B.notSynchronized
  subst hsz
  obtain ⟨A, eA⟩ : ∃ A : Nat → Prop, A = nA := ⟨_, rfl⟩
  have hW : WS D cA sh ad A s.heap M s.heap [] := ⟨hM, va_S.rf⟩
  subst eA
  have fa9 : FA D s m ([.ref (ad 1)] : List Value).toArray 9 4 0 := FA.mk (C := RX4) (T := TX4) (N := 2) hts (fun _ h => List.mem_cons_of_mem _ (List.mem_append_right _ (h))) hown hK rfl (by decide) (hts (.fieldLink RX4 9 "MortarShow$Ground" "people" "[I") (List.mem_of_getElem? (i := 1) rfl))
  have hl := lv_entry ([.ref (ad 1)]) (n := 4) (Nat.le_of_ble_eq_true rfl)
  rw [lg_entry_eq]
  generalize (lg_sl ([.ref (ad 1)]) ++ List.replicate (4 - (lg_sl ([.ref (ad 1)])).length) Slot.unset).toArray = ls at hl ⊢
  have hl : lv_has ls 4 [(0, .ref (ad 1))] := hl
  refine lv_lconst (v := 0) hx hb dX4_zonesWithPeople_0 (by decide) ?_
  refine lv_lstore_n (lv' := [(1, .long 0), (0, .ref (ad 1))]) hx hb dX4_zonesWithPeople_1 rfl hl (by decide) rfl (fun ls hl => ?_)
  refine lv_iconst (v := 0) hx hb dX4_zonesWithPeople_2 (by decide) ?_
  refine lv_istore_n (lv' := [(3, .int 0), (1, .long 0), (0, .ref (ad 1))]) hx hb dX4_zonesWithPeople_3 rfl hl (by decide) rfl (fun ls hl => ?_)
  have L4 : ∀ (fu : Nat) (k : Nat) (xk : Int32) (z : Int64) (H : Heap) (locs : List Loc), 64 - k < fu → (k ≤ 64) → (xk = nI k) → (∀ j, j < 64 → bitL z j = decide (j < k ∧ 0 < gI M 2 j)) → WS D cA sh ad nA s.heap M H locs → ∀ ls, lv_has ls 4 [(3, .int xk), (1, .long z), (0, .ref (ad 1))] → W p l e (headSpec wsX4_zonesWithPeople { frames := 0, cells := 0, slots := 0, locals := 0 }).room s m ([.ref (ad 1)] : List Value).toArray below meth cd0 H locs 0 0 (MQ below (rQl (fun r => ∀ k, k < 64 → bitL r k = decide (0 < gI M 2 k))) ([.ref (ad 1)] : List Value).toArray s 0 0 nA) (F0 m 4 ls []) := by
    intro fu
    induction fu with
    | zero =>
      intro k xk z H locs hn hk ek ez hW ls hl
      exact absurd hn (Nat.not_lt_zero _)
    | succ fu ih4 =>
      intro k xk z H locs hn hk ek ez hW ls hl
      refine lv_iload_n hx hb dX4_zonesWithPeople_4 rfl (lv_at hl 0 rfl) ?_
      refine lv_bipush (v := 64) hx hb dX4_zonesWithPeople_5 (by decide) ?_
      refine lv_icmp_ge (tgt := 31) hx hb dX4_zonesWithPeople_7 (by decide) (fun c7 => ?_) (fun c7 => ?_)
      · have k7 : 64 ≤ k := kc_ge ek (nlit 64) (by omega) (by omega) c7
        refine lv_lload_n hx hb dX4_zonesWithPeople_31 rfl (lv_at hl 1 rfl) ?_
        exact wr_rl hx hb hr hlocks hW.2 dX4_zonesWithPeople_32 (fun j hj => by
            have hjk : j < k := by omega
            rw [ez j hj]
            simp [hjk])
      · have k7 : ¬ 64 ≤ k := kc_gen ek (nlit 64) (by omega) (by omega) c7
        refine lv_aload_n hx hb dX4_zonesWithPeople_10 rfl (lv_at hl 2 rfl) ?_
        refine wgF (t := 2) hx hb fa9 hW (hX.1 1 (by decide)) rfl dX4_zonesWithPeople_11 ?_
        refine lv_iload_n hx hb dX4_zonesWithPeople_14 rfl (lv_at hl 0 rfl) ?_
        refine walI (j := k) hx hb hK hW (hX.1 2 (by decide)) ek (by omega) (by decide) dX4_zonesWithPeople_15 (fun x15 e15 => ?_)
        refine lv_if_le (tgt := 25) hx hb dX4_zonesWithPeople_16 (by decide) (fun c16 => ?_) (fun c16 => ?_)
        · obtain ⟨x25, e25⟩ : ∃ y : Int32, y = xk + 1 := ⟨_, rfl⟩
          refine lv_iinc (v := x25) (lv' := [(3, .int x25), (1, .long z), (0, .ref (ad 1))]) hx hb dX4_zonesWithPeople_25 hl (k := 0) rfl (by rw [e25]; rfl) (by decide) rfl (fun ls hl => ?_)
          refine lv_goto (tgt := 4) hx hb dX4_zonesWithPeople_28 (by decide) ?_
          exact ih4 (k + 1) x25 z _ _ (by omega) (by omega) (by rw [e25, ek, nlit 1, nI_add]) (by rw [e15] at c16; first | exact zw_f ez (fun q => by rw [Int32.lt_iff_toInt_lt] at q; rw [Int32.le_iff_toInt_le] at c16; omega) | (rw [e23, e22, ek]; exact zw_t ez (by rw [Int32.le_iff_toInt_le] at c16; rw [Int32.lt_iff_toInt_lt]; omega) (by omega))) hW ls (lv_sub hl [0, 1, 2] rfl)
        · refine lv_lload_n hx hb dX4_zonesWithPeople_19 rfl (lv_at hl 1 rfl) ?_
          refine lv_lconst (v := 1) hx hb dX4_zonesWithPeople_20 (by decide) ?_
          refine lv_iload_n hx hb dX4_zonesWithPeople_21 rfl (lv_at hl 0 rfl) ?_
          refine lv_lshl hx hb dX4_zonesWithPeople_22 rfl ?_
          refine lv_topl (fun x22 e22 => ?_)
          refine lv_lor hx hb dX4_zonesWithPeople_23 ?_
          refine lv_topl (fun x23 e23 => ?_)
          refine lv_lstore_n (lv' := [(1, .long x23), (3, .int xk), (0, .ref (ad 1))]) hx hb dX4_zonesWithPeople_24 rfl hl (by decide) rfl (fun ls hl => ?_)
          obtain ⟨x25, e25⟩ : ∃ y : Int32, y = xk + 1 := ⟨_, rfl⟩
          refine lv_iinc (v := x25) (lv' := [(3, .int x25), (1, .long x23), (0, .ref (ad 1))]) hx hb dX4_zonesWithPeople_25 hl (k := 1) rfl (by rw [e25]; rfl) (by decide) rfl (fun ls hl => ?_)
          refine lv_goto (tgt := 4) hx hb dX4_zonesWithPeople_28 (by decide) ?_
          exact ih4 (k + 1) x25 x23 _ _ (by omega) (by omega) (by rw [e25, ek, nlit 1, nI_add]) (by rw [e15] at c16; first | exact zw_f ez (fun q => by rw [Int32.lt_iff_toInt_lt] at q; rw [Int32.le_iff_toInt_le] at c16; omega) | (rw [e23, e22, ek]; exact zw_t ez (by rw [Int32.le_iff_toInt_le] at c16; rw [Int32.lt_iff_toInt_lt]; omega) (by omega))) hW ls (lv_sub hl [0, 1, 2] rfl)
  exact L4 (_ + 1) 0 0 0 _ _ (Nat.lt_succ_self _) (Nat.zero_le _) rfl (fun j _ => by simp [bitL_0]) hW ls (lv_sub hl [0, 1, 2] rfl)
set_option maxHeartbeats 4000000 in
set_option maxRecDepth 100000 in
theorem c_X4_valueOf (l : Launch) (D : va_G) (cA : Nat → ClassId) (sh : Nat → Option Sh) (ad : Nat → Nat) (M : MS) (sz : Nat) (n : Nat) (hX : XSh n sh) (zs : Int64) : Met l yX4_valueOf wsX4_valueOf ({ frames := 0, cells := 0, slots := 0, locals := 0 }) (wPc D cA sh ad M sz [.ref (ad 1), .long zs]) (rQl (fun r => r = valTo M zs 64)) 0 0 nA := by
  refine Met.ofW (cc := cX4_valueOf) (maxL := 6) (ret := (some .long)) (by decide) rfl ?_
  intro p e s m args below meth cd0 s₁ B hml hv
  obtain ⟨rfl, hsz, hM, hK⟩ := hv
  have hx := B.exec
  have hb := B.bytes
  have hr := B.returns
  have hts := atoms_spec (ws := wsX4_valueOf) B.pre
  have hown : s.vm.findClass RX4 = some m.cls := findClass_of_methodNamed B.named
  have hlocks := B.notSynchronized
  subst hsz
  obtain ⟨A, eA⟩ : ∃ A : Nat → Prop, A = nA := ⟨_, rfl⟩
  have hW : WS D cA sh ad A s.heap M s.heap [] := ⟨hM, va_S.rf⟩
  subst eA
  have fa15 : FA D s m ([.ref (ad 1), .long zs] : List Value).toArray 15 4 1 := FA.mk (C := RX4) (T := TX4) (N := 2) hts (fun _ h => List.mem_cons_of_mem _ (List.mem_append_right _ (h))) hown hK rfl (by decide) (hts (.fieldLink RX4 15 "MortarShow$Ground" "values" "[I") (List.mem_of_getElem? (i := 1) rfl))
  have hl := lv_entry ([.ref (ad 1), .long zs]) (n := 6) (Nat.le_of_ble_eq_true rfl)
  rw [lg_entry_eq]
  generalize (lg_sl ([.ref (ad 1), .long zs]) ++ List.replicate (6 - (lg_sl ([.ref (ad 1), .long zs])).length) Slot.unset).toArray = ls at hl ⊢
  have hl : lv_has ls 6 [(0, .ref (ad 1)), (1, .long zs)] := hl
  refine lv_lconst (v := 0) hx hb dX4_valueOf_0 (by decide) ?_
  refine lv_lstore_n (lv' := [(3, .long 0), (0, .ref (ad 1)), (1, .long zs)]) hx hb dX4_valueOf_1 rfl hl (by decide) rfl (fun ls hl => ?_)
  refine lv_iconst (v := 0) hx hb dX4_valueOf_2 (by decide) ?_
  refine lv_istore (lv' := [(5, .int 0), (3, .long 0), (0, .ref (ad 1)), (1, .long zs)]) hx hb dX4_valueOf_3 hl (by decide) rfl (fun ls hl => ?_)
  have L5 : ∀ (fu : Nat) (k : Nat) (xk : Int32) (sm : Int64) (H : Heap) (locs : List Loc), 64 - k < fu → (k ≤ 64) → (xk = nI k) → (sm = valTo M zs k) → WS D cA sh ad nA s.heap M H locs → ∀ ls, lv_has ls 6 [(5, .int xk), (3, .long sm), (0, .ref (ad 1)), (1, .long zs)] → W p l e (headSpec wsX4_valueOf { frames := 0, cells := 0, slots := 0, locals := 0 }).room s m ([.ref (ad 1), .long zs] : List Value).toArray below meth cd0 H locs 0 0 (MQ below (rQl (fun r => r = valTo M zs 64)) ([.ref (ad 1), .long zs] : List Value).toArray s 0 0 nA) (F0 m 5 ls []) := by
    intro fu
    induction fu with
    | zero =>
      intro k xk sm H locs hn hk ek es hW ls hl
      exact absurd hn (Nat.not_lt_zero _)
    | succ fu ih5 =>
      intro k xk sm H locs hn hk ek es hW ls hl
      refine lv_iload hx hb dX4_valueOf_5 (lv_at hl 0 rfl) ?_
      refine lv_bipush (v := 64) hx hb dX4_valueOf_7 (by decide) ?_
      refine lv_icmp_ge (tgt := 40) hx hb dX4_valueOf_9 (by decide) (fun c9 => ?_) (fun c9 => ?_)
      · have k9 : 64 ≤ k := kc_ge ek (nlit 64) (by omega) (by omega) c9
        refine lv_lload_n hx hb dX4_valueOf_40 rfl (lv_at hl 1 rfl) ?_
        exact wr_rl hx hb hr hlocks hW.2 dX4_valueOf_41 (by rw [es, show k = 64 by omega])
      · have k9 : ¬ 64 ≤ k := kc_gen ek (nlit 64) (by omega) (by omega) c9
        refine lv_lload_n hx hb dX4_valueOf_12 rfl (lv_at hl 3 rfl) ?_
        refine lv_iload hx hb dX4_valueOf_13 (lv_at hl 0 rfl) ?_
        refine lv_lushr hx hb dX4_valueOf_15 rfl ?_
        refine lv_topl (fun x15 e15 => ?_)
        refine lv_lconst (v := 1) hx hb dX4_valueOf_16 (by decide) ?_
        refine lv_land hx hb dX4_valueOf_17 ?_
        refine lv_topl (fun x17 e17 => ?_)
        refine lv_lconst (v := 0) hx hb dX4_valueOf_18 (by decide) ?_
        refine W.lcmp hx hb dX4_valueOf_19 ?_
        refine lv_topi (fun x19 e19 => ?_)
        refine lv_if_eq (tgt := 34) hx hb dX4_valueOf_20 (by decide) (fun c20 => ?_) (fun c20 => ?_)
        · obtain ⟨x34, e34⟩ : ∃ y : Int32, y = xk + 1 := ⟨_, rfl⟩
          refine lv_iinc (v := x34) (lv' := [(5, .int x34), (3, .long sm), (0, .ref (ad 1)), (1, .long zs)]) hx hb dX4_valueOf_34 hl (k := 0) rfl (by rw [e34]; rfl) (by decide) rfl (fun ls hl => ?_)
          refine lv_goto (tgt := 5) hx hb dX4_valueOf_37 (by decide) ?_
          exact ih5 (k + 1) x34 sm _ _ (by omega) (by omega) (by rw [e34, ek, nlit 1, nI_add]) (by rw [e19] at c20; have hb9 := lgcmp0 (x := x17); rw [e17, e15, ek, bitL_ushr (by omega)] at hb9; rw [e17, e15, ek] at c20; unfold valTo; first | (rw [if_neg (by rw [hb9.mp c20]; simp)]; exact es) | (rw [if_pos (by cases hq9 : bitL zs k with
              | false => exact absurd (hb9.mpr hq9) c20
              | true => rfl), e32, e31, e30, es])) hW ls (lv_sub hl [0, 1, 2, 3] rfl)
        · refine lv_lload_n hx hb dX4_valueOf_23 rfl (lv_at hl 1 rfl) ?_
          refine lv_aload_n hx hb dX4_valueOf_24 rfl (lv_at hl 2 rfl) ?_
          refine wgF (t := 3) hx hb fa15 hW (hX.1 1 (by decide)) rfl dX4_valueOf_25 ?_
          refine lv_iload hx hb dX4_valueOf_28 (lv_at hl 0 rfl) ?_
          refine walI (j := k) hx hb hK hW (hX.1 3 (by decide)) ek (by omega) (by decide) dX4_valueOf_30 (fun x30 e30 => ?_)
          refine lv_i2l hx hb dX4_valueOf_31 rfl ?_
          refine lv_topl (fun x31 e31 => ?_)
          refine lv_ladd hx hb dX4_valueOf_32 ?_
          refine lv_topl (fun x32 e32 => ?_)
          refine lv_lstore_n (lv' := [(3, .long x32), (5, .int xk), (0, .ref (ad 1)), (1, .long zs)]) hx hb dX4_valueOf_33 rfl hl (by decide) rfl (fun ls hl => ?_)
          obtain ⟨x34, e34⟩ : ∃ y : Int32, y = xk + 1 := ⟨_, rfl⟩
          refine lv_iinc (v := x34) (lv' := [(5, .int x34), (3, .long x32), (0, .ref (ad 1)), (1, .long zs)]) hx hb dX4_valueOf_34 hl (k := 1) rfl (by rw [e34]; rfl) (by decide) rfl (fun ls hl => ?_)
          refine lv_goto (tgt := 5) hx hb dX4_valueOf_37 (by decide) ?_
          exact ih5 (k + 1) x34 x32 _ _ (by omega) (by omega) (by rw [e34, ek, nlit 1, nI_add]) (by rw [e19] at c20; have hb9 := lgcmp0 (x := x17); rw [e17, e15, ek, bitL_ushr (by omega)] at hb9; rw [e17, e15, ek] at c20; unfold valTo; first | (rw [if_neg (by rw [hb9.mp c20]; simp)]; exact es) | (rw [if_pos (by cases hq9 : bitL zs k with
              | false => exact absurd (hb9.mpr hq9) c20
              | true => rfl), e32, e31, e30, es])) hW ls (lv_sub hl [0, 1, 2, 3] rfl)
  exact L5 (_ + 1) 0 0 0 _ _ (Nat.lt_succ_self _) (Nat.zero_le _) rfl rfl hW ls (lv_sub hl [0, 1, 2, 3] rfl)
set_option maxHeartbeats 4000000 in
set_option maxRecDepth 100000 in
theorem c_X9_zonesAround (l : Launch) (co l0 rd : Int32) (hc : -10000 ≤ co.toInt ∧ co.toInt ≤ 10000) (hl0 : -10000 ≤ l0.toInt ∧ l0.toInt ≤ 10000) (hrd : 0 ≤ rd.toInt ∧ rd.toInt ≤ 3) : Met l yX9_zonesAround wsX9_zonesAround ({ frames := 1, cells := 0, slots := 0, locals := 21 }) (nPc [.int co, .int l0, .int rd]) (rQl (fun r => ∀ k, k < 64 → bitL r k = inZ co.toInt l0.toInt rd.toInt k)) 0 0 nA := by
  refine Met.ofW (cc := cX9_zonesAround) (maxL := 7) (ret := (some .long)) (by decide) rfl ?_
  intro p e s m args below meth cd0 s₁ B hml hv
  obtain ⟨rfl, -⟩ := hv
  have hx := B.exec
  have hb := B.bytes
  have hr := B.returns
  have hts := atoms_spec (ws := wsX9_zonesAround) B.pre
  have hown : s.vm.findClass RX9 = some m.cls := findClass_of_methodNamed B.named
  have hlocks := B.notSynchronized
  obtain ⟨A, eA⟩ : ∃ A : Nat → Prop, A = nA := ⟨_, rfl⟩
  have hW := nWS s
  obtain ⟨D, cA, sh, ad, m0, hW⟩ := hW
  rw [← eA] at hW
  subst eA
  have hl := lv_entry ([.int co, .int l0, .int rd]) (n := 7) (Nat.le_of_ble_eq_true rfl)
  rw [lg_entry_eq]
  generalize (lg_sl ([.int co, .int l0, .int rd]) ++ List.replicate (7 - (lg_sl ([.int co, .int l0, .int rd])).length) Slot.unset).toArray = ls at hl ⊢
  have hl : lv_has ls 7 [(0, .int co), (1, .int l0), (2, .int rd)] := hl
  have sl : (l0 - rd).toInt = l0.toInt - rd.toInt := i32sub (by omega) (by omega)
  have al : (l0 + rd).toInt = l0.toInt + rd.toInt := i32add (by omega) (by omega)
  have sc : (co - rd).toInt = co.toInt - rd.toInt := i32sub (by omega) (by omega)
  have ac : (co + rd).toInt = co.toInt + rd.toInt := i32add (by omega) (by omega)
  refine lv_lconst (v := 0) hx hb dX9_zonesAround_0 (by decide) ?_
  refine lv_lstore_n (lv' := [(3, .long 0), (0, .int co), (1, .int l0), (2, .int rd)]) hx hb dX9_zonesAround_1 rfl hl (by decide) rfl (fun ls hl => ?_)
  refine lv_iconst (v := 0) hx hb dX9_zonesAround_2 (by decide) ?_
  refine lv_iload_n hx hb dX9_zonesAround_3 rfl (lv_at hl 2 rfl) ?_
  refine lv_iload_n hx hb dX9_zonesAround_4 rfl (lv_at hl 3 rfl) ?_
  refine lv_isub hx hb dX9_zonesAround_5 ?_
  refine lv_topi (fun x5 e5 => ?_)
  refine va_mmax hx hb (hml.trans hl.1.symm) hown (hts (.methodLink RX9 327 Lib.Math.max.name) (List.mem_of_getElem? (i := 1) rfl)) (hts (.static Lib.Math.max.name) (List.mem_of_getElem? (i := 2) rfl)) (hts (.initialized "java/lang/Math") (List.mem_of_getElem? (i := 3) rfl)) (hts (.code Lib.Math.max.name Lib.Math.max.code 2 (some .int)) (List.mem_of_getElem? (i := 4) rfl)) (Nat.le_of_ble_eq_true rfl) (Nat.le_of_ble_eq_true rfl) (Nat.zero_le _) (Nat.zero_le _) dX9_zonesAround_6 ?_
  refine lv_topi (fun x6 e6 => ?_)
  have n6 : x6 = nI (l0 - rd).toInt.toNat := (by rw [e6, e5]; exact max_nat _)
  refine lv_istore (lv' := [(5, .int x6), (3, .long 0), (0, .int co), (1, .int l0), (2, .int rd)]) hx hb dX9_zonesAround_9 hl (by decide) rfl (fun ls hl => ?_)
  have L11 : ∀ (fu : Nat) (L : Nat) (xl : Int32) (z : Int64) (H : Heap) (locs : List Loc), 8 - L < fu → (L ≤ 20000 ∧ l0.toInt - rd.toInt ≤ L) → (xl = nI L) → (∀ k, k < 64 → bitL z k = decide (k / 8 < L ∧ inZ co.toInt l0.toInt rd.toInt k = true)) → WS D cA sh ad nA s.heap m0 H locs → ∀ ls, lv_has ls 7 [(5, .int xl), (3, .long z), (0, .int co), (1, .int l0), (2, .int rd)] → W p l e (headSpec wsX9_zonesAround { frames := 1, cells := 0, slots := 0, locals := 21 }).room s m ([.int co, .int l0, .int rd] : List Value).toArray below meth cd0 H locs 0 0 (MQ below (rQl (fun r => ∀ k, k < 64 → bitL r k = inZ co.toInt l0.toInt rd.toInt k)) ([.int co, .int l0, .int rd] : List Value).toArray s 0 0 nA) (F0 m 11 ls []) := by
    intro fu
    induction fu with
    | zero =>
      intro L xl z H locs hn hL el ez hW ls hl
      exact absurd hn (Nat.not_lt_zero _)
    | succ fu ih11 =>
      intro L xl z H locs hn hL el ez hW ls hl
      refine lv_iload hx hb dX9_zonesAround_11 (lv_at hl 0 rfl) ?_
      refine lv_bipush (v := 7) hx hb dX9_zonesAround_13 (by decide) ?_
      refine lv_iload_n hx hb dX9_zonesAround_15 rfl (lv_at hl 3 rfl) ?_
      refine lv_iload_n hx hb dX9_zonesAround_16 rfl (lv_at hl 4 rfl) ?_
      refine lv_iadd hx hb dX9_zonesAround_17 ?_
      refine lv_topi (fun x17 e17 => ?_)
      refine va_mmin hx hb (hml.trans hl.1.symm) hown (hts (.methodLink RX9 330 Lib.Math.min.name) (List.mem_of_getElem? (i := 5) rfl)) (hts (.static Lib.Math.min.name) (List.mem_of_getElem? (i := 6) rfl)) (hts (.initialized "java/lang/Math") (List.mem_of_getElem? (i := 3) rfl)) (hts (.code Lib.Math.min.name Lib.Math.min.code 2 (some .int)) (List.mem_of_getElem? (i := 7) rfl)) (Nat.le_of_ble_eq_true rfl) (Nat.le_of_ble_eq_true rfl) (Nat.zero_le _) (Nat.zero_le _) dX9_zonesAround_18 ?_
      refine lv_topi (fun x18 e18 => ?_)
      refine lv_icmp_gt (tgt := 70) hx hb dX9_zonesAround_21 (by decide) (fun c21 => ?_) (fun c21 => ?_)
      · have m21 := (min_lt (s := l0 + rd) (L := L) (by omega)).mp (by rw [← el, ← e17, ← e18]; exact c21)
        rw [al] at m21
        refine lv_lload_n hx hb dX9_zonesAround_70 rfl (lv_at hl 1 rfl) ?_
        exact wr_rl hx hb hr hlocks hW.2 dX9_zonesAround_71 (fun k hk => by
            rw [ez k hk]
            cases hz9 : inZ co.toInt l0.toInt rd.toInt k with
            | false => simp
            | true =>
              have q3 := hz9
              simp only [inZ, decide_eq_true_eq] at q3
              simp
              omega)
      · have m21 : ¬ (7 < L ∨ (l0.toInt + rd.toInt < L)) := fun q => c21 (by rw [e18, e17, el]; exact (min_lt (by omega)).mpr (by rw [al]; exact q))
        refine lv_iconst (v := 0) hx hb dX9_zonesAround_24 (by decide) ?_
        refine lv_iload_n hx hb dX9_zonesAround_25 rfl (lv_at hl 2 rfl) ?_
        refine lv_iload_n hx hb dX9_zonesAround_26 rfl (lv_at hl 4 rfl) ?_
        refine lv_isub hx hb dX9_zonesAround_27 ?_
        refine lv_topi (fun x27 e27 => ?_)
        refine va_mmax hx hb (hml.trans hl.1.symm) hown (hts (.methodLink RX9 327 Lib.Math.max.name) (List.mem_of_getElem? (i := 1) rfl)) (hts (.static Lib.Math.max.name) (List.mem_of_getElem? (i := 2) rfl)) (hts (.initialized "java/lang/Math") (List.mem_of_getElem? (i := 3) rfl)) (hts (.code Lib.Math.max.name Lib.Math.max.code 2 (some .int)) (List.mem_of_getElem? (i := 4) rfl)) (Nat.le_of_ble_eq_true rfl) (Nat.le_of_ble_eq_true rfl) (Nat.zero_le _) (Nat.zero_le _) dX9_zonesAround_28 ?_
        refine lv_topi (fun x28 e28 => ?_)
        have n28 : x28 = nI (co - rd).toInt.toNat := (by rw [e28, e27]; exact max_nat _)
        refine lv_istore (lv' := [(6, .int x28), (5, .int xl), (3, .long z), (0, .int co), (1, .int l0), (2, .int rd)]) hx hb dX9_zonesAround_31 hl (by decide) rfl (fun ls hl => ?_)
        have L33 : ∀ (fu : Nat) (C : Nat) (xc : Int32) (z2 : Int64) (H : Heap) (locs : List Loc), 8 - C < fu → (C ≤ 20000 ∧ co.toInt - rd.toInt ≤ C) → (xc = nI C) → (∀ k, k < 64 → bitL z2 k = decide ((k / 8 < L ∨ (k / 8 = L ∧ k % 8 < C)) ∧ inZ co.toInt l0.toInt rd.toInt k = true)) → WS D cA sh ad nA s.heap m0 H locs → ∀ ls, lv_has ls 7 [(6, .int xc), (5, .int xl), (3, .long z2), (0, .int co), (1, .int l0), (2, .int rd)] → W p l e (headSpec wsX9_zonesAround { frames := 1, cells := 0, slots := 0, locals := 21 }).room s m ([.int co, .int l0, .int rd] : List Value).toArray below meth cd0 H locs 0 0 (MQ below (rQl (fun r => ∀ k, k < 64 → bitL r k = inZ co.toInt l0.toInt rd.toInt k)) ([.int co, .int l0, .int rd] : List Value).toArray s 0 0 nA) (F0 m 33 ls []) := by
          intro fu
          induction fu with
          | zero =>
            intro C xc z2 H locs hn hC ec ez2 hW ls hl
            exact absurd hn (Nat.not_lt_zero _)
          | succ fu ih33 =>
            intro C xc z2 H locs hn hC ec ez2 hW ls hl
            refine lv_iload hx hb dX9_zonesAround_33 (lv_at hl 0 rfl) ?_
            refine lv_bipush (v := 7) hx hb dX9_zonesAround_35 (by decide) ?_
            refine lv_iload_n hx hb dX9_zonesAround_37 rfl (lv_at hl 3 rfl) ?_
            refine lv_iload_n hx hb dX9_zonesAround_38 rfl (lv_at hl 5 rfl) ?_
            refine lv_iadd hx hb dX9_zonesAround_39 ?_
            refine lv_topi (fun x39 e39 => ?_)
            refine va_mmin hx hb (hml.trans hl.1.symm) hown (hts (.methodLink RX9 330 Lib.Math.min.name) (List.mem_of_getElem? (i := 5) rfl)) (hts (.static Lib.Math.min.name) (List.mem_of_getElem? (i := 6) rfl)) (hts (.initialized "java/lang/Math") (List.mem_of_getElem? (i := 3) rfl)) (hts (.code Lib.Math.min.name Lib.Math.min.code 2 (some .int)) (List.mem_of_getElem? (i := 7) rfl)) (Nat.le_of_ble_eq_true rfl) (Nat.le_of_ble_eq_true rfl) (Nat.zero_le _) (Nat.zero_le _) dX9_zonesAround_40 ?_
            refine lv_topi (fun x40 e40 => ?_)
            refine lv_icmp_gt (tgt := 64) hx hb dX9_zonesAround_43 (by decide) (fun c43 => ?_) (fun c43 => ?_)
            · have m43 := (min_lt (s := co + rd) (L := C) (by omega)).mp (by rw [← ec, ← e39, ← e40]; exact c43)
              rw [ac] at m43
              obtain ⟨x64, e64⟩ : ∃ y : Int32, y = xl + 1 := ⟨_, rfl⟩
              refine lv_iinc (v := x64) (lv' := [(5, .int x64), (6, .int xc), (3, .long z2), (0, .int co), (1, .int l0), (2, .int rd)]) hx hb dX9_zonesAround_64 hl (k := 1) rfl (by rw [e64]; rfl) (by decide) rfl (fun ls hl => ?_)
              refine lv_goto (tgt := 11) hx hb dX9_zonesAround_67 (by decide) ?_
              exact ih11 (L + 1) x64 z2 _ _ (by omega) ⟨by omega, by omega⟩ (by rw [e64, el, nlit 1, nI_add]) (fun k hk => by
                  rw [ez2 k hk]
                  apply decide_eq_decide.mpr
                  constructor
                  · rintro ⟨q1, q2⟩
                    exact ⟨by omega, q2⟩
                  · rintro ⟨q1, q2⟩
                    refine ⟨?_, q2⟩
                    have q3 := q2
                    simp only [inZ, decide_eq_true_eq] at q3
                    omega) hW ls (lv_sub hl [0, 2, 3, 4, 5] rfl)
            · have m43 : ¬ (7 < C ∨ (co.toInt + rd.toInt < C)) := fun q => c43 (by rw [e40, e39, ec]; exact (min_lt (by omega)).mpr (by rw [ac]; exact q))
              refine lv_lload_n hx hb dX9_zonesAround_46 rfl (lv_at hl 2 rfl) ?_
              refine lv_lconst (v := 1) hx hb dX9_zonesAround_47 (by decide) ?_
              refine lv_iload hx hb dX9_zonesAround_48 (lv_at hl 0 rfl) ?_
              refine lv_iload hx hb dX9_zonesAround_50 (lv_at hl 1 rfl) ?_
              refine wc_ri (va_runS (As := [.int xc, .int xl]) (rest := [.long 1, .long z2]) ⟨hx, hb, hml, hown, hts⟩ (c_X9_zoneOf l xc xl) (va_cwS 2 hts gX9_zonesAround_X9_zoneOf rfl rfl rfl (by decide +kernel) ⟨Nat.le_of_ble_eq_true rfl, Nat.le_of_ble_eq_true rfl⟩) npreS rfl rfl hl.1 rfl (lv_room (Nat.le_of_ble_eq_true rfl)) dX9_zonesAround_52 ⟨Nat.le_of_ble_eq_true rfl, Nat.le_of_ble_eq_true rfl⟩) hW (fun x52 H locs p52 hW => ?_)
              try dsimp only at p52
              refine lv_lshl hx hb dX9_zonesAround_55 rfl ?_
              refine lv_topl (fun x55 e55 => ?_)
              refine lv_lor hx hb dX9_zonesAround_56 ?_
              refine lv_topl (fun x56 e56 => ?_)
              refine lv_lstore_n (lv' := [(3, .long x56), (6, .int xc), (5, .int xl), (0, .int co), (1, .int l0), (2, .int rd)]) hx hb dX9_zonesAround_57 rfl hl (by decide) rfl (fun ls hl => ?_)
              obtain ⟨x58, e58⟩ : ∃ y : Int32, y = xc + 1 := ⟨_, rfl⟩
              refine lv_iinc (v := x58) (lv' := [(6, .int x58), (3, .long x56), (5, .int xl), (0, .int co), (1, .int l0), (2, .int rd)]) hx hb dX9_zonesAround_58 hl (k := 1) rfl (by rw [e58]; rfl) (by decide) rfl (fun ls hl => ?_)
              refine lv_goto (tgt := 33) hx hb dX9_zonesAround_61 (by decide) ?_
              exact ih33 (C + 1) x58 x56 _ _ (by omega) ⟨by omega, by omega⟩ (by rw [e58, ec, nlit 1, nI_add]) (by rw [e56, e55, p52, ec, el, nlit 8, pk_mul, nI_add]; exact za_t (by omega) (by omega) ez2 (by obtain ⟨z1, z2, z3⟩ := zone_lt (C := C) (L := L) (by omega) (by omega); simp only [inZ, decide_eq_true_eq, z1, z2]; omega)) hW ls (lv_sub hl [0, 2, 1, 3, 4, 5] rfl)
        exact L33 (_ + 1) ((co - rd).toInt.toNat) x28 z _ _ (Nat.lt_succ_self _) ⟨by omega, by omega⟩ n28 (fun k hk => by
            rw [ez k hk]
            apply decide_eq_decide.mpr
            constructor
            · rintro ⟨q1, q2⟩
              exact ⟨Or.inl q1, q2⟩
            · rintro ⟨q1, q2⟩
              refine ⟨?_, q2⟩
              simp only [inZ, decide_eq_true_eq] at q2
              omega) hW ls (lv_sub hl [0, 1, 2, 3, 4, 5] rfl)
  exact L11 (_ + 1) ((l0 - rd).toInt.toNat) x6 0 _ _ (Nat.lt_succ_self _) ⟨by omega, by omega⟩ n6 (fun k hk => by rw [bitL_0]; symm; apply decide_eq_false; intro q; have q2 := q.2; simp only [inZ, decide_eq_true_eq] at q2; omega) hW ls (lv_sub hl [0, 1, 2, 3, 4] rfl)
set_option maxHeartbeats 4000000 in
set_option maxRecDepth 100000 in
theorem c_X9_fallX (l : Launch) (D : va_G) (cA : Nat → ClassId) (sh : Nat → Option Sh) (ad : Nat → Nat) (M : MS) (sz : Nat) (σ : AS) (ok : AOK σ) (hX : XSh (aN σ) sh) (hR : XR σ M) (i : Nat) (hi : i < aN σ) : Met l yX9_fallX wsX9_fallX ({ frames := 1, cells := 0, slots := 0, locals := 23 }) (wPc D cA sh ad M sz [.ref (ad 0), .ref (ad (100 + i))]) (rQi (fun r => r = falX σ i)) 0 0 nA := by
  refine Met.ofW (cc := cX9_fallX) (maxL := 2) (ret := (some .int)) (by decide) rfl ?_
  intro p e s m args below meth cd0 s₁ B hml hv
  obtain ⟨rfl, hsz, hM, hK⟩ := hv
  have hx := B.exec
  have hb := B.bytes
  have hr := B.returns
  have hts := atoms_spec (ws := wsX9_fallX) B.pre
  have hown : s.vm.findClass RX9 = some m.cls := findClass_of_methodNamed B.named
  have hlocks := B.notSynchronized
  subst hsz
  obtain ⟨A, eA⟩ : ∃ A : Nat → Prop, A = nA := ⟨_, rfl⟩
  have hW : WS D cA sh ad A s.heap M s.heap [] := ⟨hM, va_S.rf⟩
  subst eA
  have fa31 : FA D s m ([.ref (ad 0), .ref (ad (100 + i))] : List Value).toArray 31 9 3 := FA.mk (C := RX9) (T := TX9) (N := 15) hts (fun _ h => List.mem_cons_of_mem _ (List.mem_append_left _ (List.mem_append_left _ (List.mem_append_left _ (List.mem_append_right _ (h)))))) hown hK rfl (by decide) (hts (.fieldLink RX9 31 "MortarShow" "wind" "LMortarShow$Wind;") (List.mem_of_getElem? (i := 3) rfl))
  have fa128 : FA D s m ([.ref (ad 0), .ref (ad (100 + i))] : List Value).toArray 128 8 0 := FA.mk (C := RX8) (T := TX8) (N := 2) hts (fun _ h => List.mem_cons_of_mem _ (List.mem_append_left _ (List.mem_append_left _ (List.mem_append_right _ (h))))) hown hK rfl (by decide) (hts (.fieldLink RX9 128 "MortarShow$Wind" "x" "[I") (List.mem_of_getElem? (i := 4) rfl))
  have fa210 : FA D s m ([.ref (ad 0), .ref (ad (100 + i))] : List Value).toArray 210 2 2 := FA.mk (C := RX2) (T := TX2) (N := 9) hts (fun _ h => List.mem_cons_of_mem _ (List.mem_append_left _ (List.mem_append_left _ (List.mem_append_left _ (List.mem_append_left _ (List.mem_append_right _ (h))))))) hown hK rfl (by decide) (hts (.fieldLink RX9 210 "MortarShow$Cue" "kind" "LMortarShow$Kind;") (List.mem_of_getElem? (i := 2) rfl))
  have fa214 : FA D s m ([.ref (ad 0), .ref (ad (100 + i))] : List Value).toArray 214 2 3 := FA.mk (C := RX2) (T := TX2) (N := 9) hts (fun _ h => List.mem_cons_of_mem _ (List.mem_append_left _ (List.mem_append_left _ (List.mem_append_left _ (List.mem_append_left _ (List.mem_append_right _ (h))))))) hown hK rfl (by decide) (hts (.fieldLink RX9 214 "MortarShow$Cue" "rack" "LMortarShow$Rack;") (List.mem_of_getElem? (i := 1) rfl))
  have hl := lv_entry ([.ref (ad 0), .ref (ad (100 + i))]) (n := 2) (Nat.le_of_ble_eq_true rfl)
  rw [lg_entry_eq]
  generalize (lg_sl ([.ref (ad 0), .ref (ad (100 + i))]) ++ List.replicate (2 - (lg_sl ([.ref (ad 0), .ref (ad (100 + i))])).length) Slot.unset).toArray = ls at hl ⊢
  have hl : lv_has ls 2 [(0, .ref (ad 0)), (1, .ref (ad (100 + i)))] := hl
  obtain ⟨cn, cb, ck, cr⟩ := hR.2.2.2.2.2.2.2.2.2.2.2 i hi
  obtain ⟨ob, hkd, hrk, og⟩ := ok.2.2.2.2.2.2.1 i hi
  obtain ⟨kd, ekd⟩ : ∃ z, z = σ.2 8 i := ⟨_, rfl⟩
  obtain ⟨rk, erk⟩ : ∃ z, z = σ.2 9 i := ⟨_, rfl⟩
  rw [← ekd] at ck hkd
  rw [← erk] at cr hrk
  refine lv_aload_n hx hb dX9_fallX_0 rfl (lv_at hl 1 rfl) ?_
  refine wgR (t := (30 + rk)) hx hb fa214 hW (hX.2 i (by omega)) rfl cr dX9_fallX_1 ?_
  refine wc_ri (va_runV (As := []) (rest := []) ⟨hx, hb, hml, hown, hts⟩ (c_X7_middleX l D cA sh ad M _ (30 + rk) (sh_rack hX rk (by omega))) (cwV 0 hts gX9_fallX_X7_middleX rfl rfl rfl (by decide +kernel) ⟨Nat.le_of_ble_eq_true rfl, Nat.le_of_ble_eq_true rfl⟩) (wpreV hK hW (C := RX7) (ci := 7) (sh_rack hX rk (by omega)) rfl) rfl rfl hl.1 rfl (lv_room (Nat.le_of_ble_eq_true rfl)) dX9_fallX_4 ⟨Nat.le_of_ble_eq_true rfl, Nat.le_of_ble_eq_true rfl⟩) hW (fun x4 H locs p4 hW => ?_)
  try dsimp only at p4
  refine lv_aload_n hx hb dX9_fallX_7 rfl (lv_at hl 1 rfl) ?_
  refine wgR (t := (40 + kd)) hx hb fa210 hW (hX.2 i (by omega)) rfl ck dX9_fallX_8 ?_
  refine lv_aload_n hx hb dX9_fallX_11 rfl (lv_at hl 0 rfl) ?_
  refine wgF (t := 6) hx hb fa31 hW (hX.1 0 (by decide)) rfl dX9_fallX_12 ?_
  refine wgF (t := 7) hx hb fa128 hW (hX.1 6 (by decide)) rfl dX9_fallX_15 ?_
  refine wc_ri (va_runV (As := [.ref (ad 7)]) (rest := [.int x4]) ⟨hx, hb, hml, hown, hts⟩ (c_X6_drift l D cA sh ad M _ (40 + kd) (44 + kd) (48 + kd) (sh_kind hX kd (by omega)) (sh_ticks hX kd (by omega)) 7 (hX.1 7 (by decide))) (cwV 1 hts gX9_fallX_X6_drift rfl rfl rfl (by decide +kernel) ⟨Nat.le_of_ble_eq_true rfl, Nat.le_of_ble_eq_true rfl⟩) (wpreV hK hW (C := RX6) (ci := 6) (sh_kind hX kd (by omega)) rfl) rfl rfl hl.1 rfl (lv_room (Nat.le_of_ble_eq_true rfl)) dX9_fallX_18 ⟨Nat.le_of_ble_eq_true rfl, Nat.le_of_ble_eq_true rfl⟩) hW (fun x18 H locs p18 hW => ?_)
  try dsimp only at p18
  refine lv_iadd hx hb dX9_fallX_21 ?_
  refine lv_topi (fun x21 e21 => ?_)
  exact wr_ri hx hb hr hlocks hW.2 dX9_fallX_22 (by rw [e21, p4, p18, driftTo_eq (σ := σ) (k := kd) (w := 4) (fun y hy => (hR.2.2.2.1 kd hkd).2.2.2.2.2 y hy) (fun y hy => (hR.2.2.2.2.1 y hy).1) 4 (Nat.le_refl _), (hR.2.2.1 rk hrk).1]; unfold falX; rw [← ekd, ← erk])
set_option maxHeartbeats 4000000 in
set_option maxRecDepth 100000 in
theorem c_X9_fallY (l : Launch) (D : va_G) (cA : Nat → ClassId) (sh : Nat → Option Sh) (ad : Nat → Nat) (M : MS) (sz : Nat) (σ : AS) (ok : AOK σ) (hX : XSh (aN σ) sh) (hR : XR σ M) (i : Nat) (hi : i < aN σ) : Met l yX9_fallY wsX9_fallY ({ frames := 1, cells := 0, slots := 0, locals := 23 }) (wPc D cA sh ad M sz [.ref (ad 0), .ref (ad (100 + i))]) (rQi (fun r => r = falY σ i)) 0 0 nA := by
  refine Met.ofW (cc := cX9_fallY) (maxL := 2) (ret := (some .int)) (by decide) rfl ?_
  intro p e s m args below meth cd0 s₁ B hml hv
  obtain ⟨rfl, hsz, hM, hK⟩ := hv
  have hx := B.exec
  have hb := B.bytes
  have hr := B.returns
  have hts := atoms_spec (ws := wsX9_fallY) B.pre
  have hown : s.vm.findClass RX9 = some m.cls := findClass_of_methodNamed B.named
  have hlocks := B.notSynchronized
  subst hsz
  obtain ⟨A, eA⟩ : ∃ A : Nat → Prop, A = nA := ⟨_, rfl⟩
  have hW : WS D cA sh ad A s.heap M s.heap [] := ⟨hM, va_S.rf⟩
  subst eA
  have fa31 : FA D s m ([.ref (ad 0), .ref (ad (100 + i))] : List Value).toArray 31 9 3 := FA.mk (C := RX9) (T := TX9) (N := 15) hts (fun _ h => List.mem_cons_of_mem _ (List.mem_append_left _ (List.mem_append_left _ (List.mem_append_left _ (List.mem_append_right _ (h)))))) hown hK rfl (by decide) (hts (.fieldLink RX9 31 "MortarShow" "wind" "LMortarShow$Wind;") (List.mem_of_getElem? (i := 3) rfl))
  have fa131 : FA D s m ([.ref (ad 0), .ref (ad (100 + i))] : List Value).toArray 131 8 1 := FA.mk (C := RX8) (T := TX8) (N := 2) hts (fun _ h => List.mem_cons_of_mem _ (List.mem_append_left _ (List.mem_append_left _ (List.mem_append_right _ (h))))) hown hK rfl (by decide) (hts (.fieldLink RX9 131 "MortarShow$Wind" "y" "[I") (List.mem_of_getElem? (i := 4) rfl))
  have fa210 : FA D s m ([.ref (ad 0), .ref (ad (100 + i))] : List Value).toArray 210 2 2 := FA.mk (C := RX2) (T := TX2) (N := 9) hts (fun _ h => List.mem_cons_of_mem _ (List.mem_append_left _ (List.mem_append_left _ (List.mem_append_left _ (List.mem_append_left _ (List.mem_append_right _ (h))))))) hown hK rfl (by decide) (hts (.fieldLink RX9 210 "MortarShow$Cue" "kind" "LMortarShow$Kind;") (List.mem_of_getElem? (i := 2) rfl))
  have fa214 : FA D s m ([.ref (ad 0), .ref (ad (100 + i))] : List Value).toArray 214 2 3 := FA.mk (C := RX2) (T := TX2) (N := 9) hts (fun _ h => List.mem_cons_of_mem _ (List.mem_append_left _ (List.mem_append_left _ (List.mem_append_left _ (List.mem_append_left _ (List.mem_append_right _ (h))))))) hown hK rfl (by decide) (hts (.fieldLink RX9 214 "MortarShow$Cue" "rack" "LMortarShow$Rack;") (List.mem_of_getElem? (i := 1) rfl))
  have hl := lv_entry ([.ref (ad 0), .ref (ad (100 + i))]) (n := 2) (Nat.le_of_ble_eq_true rfl)
  rw [lg_entry_eq]
  generalize (lg_sl ([.ref (ad 0), .ref (ad (100 + i))]) ++ List.replicate (2 - (lg_sl ([.ref (ad 0), .ref (ad (100 + i))])).length) Slot.unset).toArray = ls at hl ⊢
  have hl : lv_has ls 2 [(0, .ref (ad 0)), (1, .ref (ad (100 + i)))] := hl
  obtain ⟨cn, cb, ck, cr⟩ := hR.2.2.2.2.2.2.2.2.2.2.2 i hi
  obtain ⟨ob, hkd, hrk, og⟩ := ok.2.2.2.2.2.2.1 i hi
  obtain ⟨kd, ekd⟩ : ∃ z, z = σ.2 8 i := ⟨_, rfl⟩
  obtain ⟨rk, erk⟩ : ∃ z, z = σ.2 9 i := ⟨_, rfl⟩
  rw [← ekd] at ck hkd
  rw [← erk] at cr hrk
  refine lv_aload_n hx hb dX9_fallY_0 rfl (lv_at hl 1 rfl) ?_
  refine wgR (t := (30 + rk)) hx hb fa214 hW (hX.2 i (by omega)) rfl cr dX9_fallY_1 ?_
  refine wc_ri (va_runV (As := []) (rest := []) ⟨hx, hb, hml, hown, hts⟩ (c_X7_middleY l D cA sh ad M _ (30 + rk) (sh_rack hX rk (by omega))) (cwV 0 hts gX9_fallY_X7_middleY rfl rfl rfl (by decide +kernel) ⟨Nat.le_of_ble_eq_true rfl, Nat.le_of_ble_eq_true rfl⟩) (wpreV hK hW (C := RX7) (ci := 7) (sh_rack hX rk (by omega)) rfl) rfl rfl hl.1 rfl (lv_room (Nat.le_of_ble_eq_true rfl)) dX9_fallY_4 ⟨Nat.le_of_ble_eq_true rfl, Nat.le_of_ble_eq_true rfl⟩) hW (fun x4 H locs p4 hW => ?_)
  try dsimp only at p4
  refine lv_aload_n hx hb dX9_fallY_7 rfl (lv_at hl 1 rfl) ?_
  refine wgR (t := (40 + kd)) hx hb fa210 hW (hX.2 i (by omega)) rfl ck dX9_fallY_8 ?_
  refine lv_aload_n hx hb dX9_fallY_11 rfl (lv_at hl 0 rfl) ?_
  refine wgF (t := 6) hx hb fa31 hW (hX.1 0 (by decide)) rfl dX9_fallY_12 ?_
  refine wgF (t := 8) hx hb fa131 hW (hX.1 6 (by decide)) rfl dX9_fallY_15 ?_
  refine wc_ri (va_runV (As := [.ref (ad 8)]) (rest := [.int x4]) ⟨hx, hb, hml, hown, hts⟩ (c_X6_drift l D cA sh ad M _ (40 + kd) (44 + kd) (48 + kd) (sh_kind hX kd (by omega)) (sh_ticks hX kd (by omega)) 8 (hX.1 8 (by decide))) (cwV 1 hts gX9_fallY_X6_drift rfl rfl rfl (by decide +kernel) ⟨Nat.le_of_ble_eq_true rfl, Nat.le_of_ble_eq_true rfl⟩) (wpreV hK hW (C := RX6) (ci := 6) (sh_kind hX kd (by omega)) rfl) rfl rfl hl.1 rfl (lv_room (Nat.le_of_ble_eq_true rfl)) dX9_fallY_18 ⟨Nat.le_of_ble_eq_true rfl, Nat.le_of_ble_eq_true rfl⟩) hW (fun x18 H locs p18 hW => ?_)
  try dsimp only at p18
  refine lv_iadd hx hb dX9_fallY_21 ?_
  refine lv_topi (fun x21 e21 => ?_)
  exact wr_ri hx hb hr hlocks hW.2 dX9_fallY_22 (by rw [e21, p4, p18, driftTo_eq (σ := σ) (k := kd) (w := 5) (fun y hy => (hR.2.2.2.1 kd hkd).2.2.2.2.2 y hy) (fun y hy => (hR.2.2.2.2.1 y hy).2) 4 (Nat.le_refl _), (hR.2.2.1 rk hrk).2]; unfold falY; rw [← ekd, ← erk])
set_option maxHeartbeats 4000000 in
set_option maxRecDepth 100000 in
theorem c_X9_strikeCues (l : Launch) (D : va_G) (cA : Nat → ClassId) (sh : Nat → Option Sh) (ad : Nat → Nat) (M : MS) (sz : Nat) (σ : AS) (ok : AOK σ) (hX : XSh (aN σ) sh) (hR : XR σ M) : Met l yX9_strikeCues wsX9_strikeCues ({ frames := 2, cells := 0, slots := 0, locals := 47 }) (wPc D cA sh ad M sz [.ref (ad 0)]) (wQv D cA sh ad (fun M' => oA (fun p k => 100 ≤ p ∧ (k = 4 ∨ k = 7)) M M' ∧ ∀ i, i < aN σ → σ.2 10 i = 0 → (∀ k, k < 64 → bitL (gL M' (100 + i) 4) k = zonB σ i k) ∧ gI M' (100 + i) 7 = nI (if stkB σ i = true then 1 else 0)) (wA sh ad sz)) 0 0 (wA sh ad sz) := by
  refine Met.ofW (cc := cX9_strikeCues) (maxL := 9) (ret := none) (by decide) rfl ?_
  intro p e s m args below meth cd0 s₁ B hml hv
  obtain ⟨rfl, hsz, hM, hK⟩ := hv
  have hx := B.exec
  have hb := B.bytes
  have hr := B.returns
  have hts := atoms_spec (ws := wsX9_strikeCues) B.pre
  have hown : s.vm.findClass RX9 = some m.cls := findClass_of_methodNamed B.named
  have hlocks := B.notSynchronized
  subst hsz
  have hA := wA_PA sh ad s.heap
  generalize wA sh ad s.heap.size = A at hA ⊢
  have hW : WS D cA sh ad A s.heap M s.heap [] := ⟨hM, va_S.rf⟩
  have fa10 : FA D s m ([.ref (ad 0)] : List Value).toArray 10 9 0 := FA.mk (C := RX9) (T := TX9) (N := 15) hts (fun _ h => List.mem_cons_of_mem _ (List.mem_append_left _ (List.mem_append_left _ (List.mem_append_left _ (List.mem_append_left _ (List.mem_append_left _ (List.mem_append_right _ (h)))))))) hown hK rfl (by decide) (hts (.fieldLink RX9 10 "MortarShow" "ground" "LMortarShow$Ground;") (List.mem_of_getElem? (i := 1) rfl))
  have fa44 : FA D s m ([.ref (ad 0)] : List Value).toArray 44 9 5 := FA.mk (C := RX9) (T := TX9) (N := 15) hts (fun _ h => List.mem_cons_of_mem _ (List.mem_append_left _ (List.mem_append_left _ (List.mem_append_left _ (List.mem_append_left _ (List.mem_append_left _ (List.mem_append_right _ (h)))))))) hown hK rfl (by decide) (hts (.fieldLink RX9 44 "MortarShow" "cueList" "[LMortarShow$Cue;") (List.mem_of_getElem? (i := 2) rfl))
  have fa210 : FA D s m ([.ref (ad 0)] : List Value).toArray 210 2 2 := FA.mk (C := RX2) (T := TX2) (N := 9) hts (fun _ h => List.mem_cons_of_mem _ (List.mem_append_left _ (List.mem_append_left _ (List.mem_append_left _ (List.mem_append_left _ (List.mem_append_right _ (h))))))) hown hK rfl (by decide) (hts (.fieldLink RX9 210 "MortarShow$Cue" "kind" "LMortarShow$Kind;") (List.mem_of_getElem? (i := 3) rfl))
  have fa246 : FA D s m ([.ref (ad 0)] : List Value).toArray 246 2 4 := FA.mk (C := RX2) (T := TX2) (N := 9) hts (fun _ h => List.mem_cons_of_mem _ (List.mem_append_left _ (List.mem_append_left _ (List.mem_append_left _ (List.mem_append_left _ (List.mem_append_right _ (h))))))) hown hK rfl (by decide) (hts (.fieldLink RX9 246 "MortarShow$Cue" "zones" "J") (List.mem_of_getElem? (i := 5) rfl))
  have fa320 : FA D s m ([.ref (ad 0)] : List Value).toArray 320 6 4 := FA.mk (C := RX6) (T := TX6) (N := 7) hts (fun _ h => List.mem_cons_of_mem _ (List.mem_append_left _ (List.mem_append_left _ (List.mem_append_left _ (List.mem_append_right _ (h)))))) hown hK rfl (by decide) (hts (.fieldLink RX9 320 "MortarShow$Kind" "radius" "I") (List.mem_of_getElem? (i := 4) rfl))
  have fw188 : FW D s m ([.ref (ad 0)] : List Value).toArray 188 2 7 (.int) := FW.mk (C := RX2) (T := TX2) (N := 9) hts (fun _ h => List.mem_cons_of_mem _ (List.mem_append_left _ (List.mem_append_left _ (List.mem_append_left _ (List.mem_append_left _ (List.mem_append_right _ (h))))))) hown hK rfl (by decide) (hts (.fieldLink RX9 188 "MortarShow$Cue" "fate" "I") (List.mem_of_getElem? (i := 6) rfl)) tyX2 tyX2_ok nmX2 rfl rfl
  have fw246 : FW D s m ([.ref (ad 0)] : List Value).toArray 246 2 4 (.long) := FW.mk (C := RX2) (T := TX2) (N := 9) hts (fun _ h => List.mem_cons_of_mem _ (List.mem_append_left _ (List.mem_append_left _ (List.mem_append_left _ (List.mem_append_left _ (List.mem_append_right _ (h))))))) hown hK rfl (by decide) (hts (.fieldLink RX9 246 "MortarShow$Cue" "zones" "J") (List.mem_of_getElem? (i := 5) rfl)) tyX2 tyX2_ok nmX2 rfl rfl
  have hl := lv_entry ([.ref (ad 0)]) (n := 9) (Nat.le_of_ble_eq_true rfl)
  rw [lg_entry_eq]
  generalize (lg_sl ([.ref (ad 0)]) ++ List.replicate (9 - (lg_sl ([.ref (ad 0)])).length) Slot.unset).toArray = ls at hl ⊢
  have hl : lv_has ls 9 [(0, .ref (ad 0))] := hl
  refine lv_aload_n hx hb dX9_strikeCues_0 rfl (lv_at hl 0 rfl) ?_
  refine wgF (t := 1) hx hb fa10 hW (hX.1 0 (by decide)) rfl dX9_strikeCues_1 ?_
  refine wc_rl (va_runV (As := []) (rest := []) ⟨hx, hb, hml, hown, hts⟩ (c_X4_zonesWithPeople l D cA sh ad M _ _ hX) (cwV 0 hts gX9_strikeCues_X4_zonesWithPeople rfl rfl rfl (by decide +kernel) ⟨Nat.le_of_ble_eq_true rfl, Nat.le_of_ble_eq_true rfl⟩) (wpreV hK hW (C := RX4) (ci := 4) (hX.1 1 (by decide)) rfl) rfl rfl hl.1 rfl (lv_room (Nat.le_of_ble_eq_true rfl)) dX9_strikeCues_4 ⟨Nat.le_of_ble_eq_true rfl, Nat.le_of_ble_eq_true rfl⟩) hW (fun x4 H locs p4 hW => ?_)
  try dsimp only at p4
  have hp9 : ∀ k, k < 64 → bitL x4 k = decide (0 < σ.1 0 k) := fun k hk => by rw [p4 k hk, hR.1 k hk]
  refine lv_lstore_n (lv' := [(1, .long x4), (0, .ref (ad 0))]) hx hb dX9_strikeCues_7 rfl hl (by decide) rfl (fun ls hl => ?_)
  refine lv_aload_n hx hb dX9_strikeCues_8 rfl (lv_at hl 1 rfl) ?_
  refine wgF (t := 11) hx hb fa44 hW (hX.1 0 (by decide)) rfl dX9_strikeCues_9 ?_
  refine lv_astore_n (lv' := [(3, .ref (ad 11)), (1, .long x4), (0, .ref (ad 0))]) hx hb dX9_strikeCues_12 rfl hl (by decide) rfl (fun ls hl => ?_)
  refine lv_aload_n hx hb dX9_strikeCues_13 rfl (lv_at hl 0 rfl) ?_
  refine wlen (v := 40) hx hb hK hW (hX.1 11 (by decide)) rfl rfl dX9_strikeCues_14 ?_
  refine lv_istore (lv' := [(4, .int 40), (3, .ref (ad 11)), (1, .long x4), (0, .ref (ad 0))]) hx hb dX9_strikeCues_15 hl (by decide) rfl (fun ls hl => ?_)
  refine lv_iconst (v := 0) hx hb dX9_strikeCues_17 (by decide) ?_
  refine lv_istore (lv' := [(5, .int 0), (4, .int 40), (3, .ref (ad 11)), (1, .long x4), (0, .ref (ad 0))]) hx hb dX9_strikeCues_18 hl (by decide) rfl (fun ls hl => ?_)
  have L20 : ∀ (fu : Nat) (k : Nat) (xk : Int32) (M1 : MS) (H : Heap) (locs : List Loc), 40 - k < fu → (k ≤ 40) → (xk = nI k) → (oA (fun p k => 100 ≤ p ∧ (k = 4 ∨ k = 7)) M M1) → (∀ i, i < k → i < aN σ → σ.2 10 i = 0 → (∀ k, k < 64 → bitL (gL M1 (100 + i) 4) k = zonB σ i k) ∧ gI M1 (100 + i) 7 = nI (if stkB σ i = true then 1 else 0)) → WS D cA sh ad A s.heap M1 H locs → ∀ ls, lv_has ls 9 [(5, .int xk), (4, .int 40), (3, .ref (ad 11)), (1, .long x4), (0, .ref (ad 0))] → W p l e (headSpec wsX9_strikeCues { frames := 2, cells := 0, slots := 0, locals := 47 }).room s m ([.ref (ad 0)] : List Value).toArray below meth cd0 H locs 0 0 (MQ below (wQv D cA sh ad (fun M' => oA (fun p k => 100 ≤ p ∧ (k = 4 ∨ k = 7)) M M' ∧ ∀ i, i < aN σ → σ.2 10 i = 0 → (∀ k, k < 64 → bitL (gL M' (100 + i) 4) k = zonB σ i k) ∧ gI M' (100 + i) 7 = nI (if stkB σ i = true then 1 else 0)) A) ([.ref (ad 0)] : List Value).toArray s 0 0 A) (F0 m 20 ls []) := by
    intro fu
    induction fu with
    | zero =>
      intro k xk M1 H locs hn hk ek f1 f2 hW ls hl
      exact absurd hn (Nat.not_lt_zero _)
    | succ fu ih20 =>
      intro k xk M1 H locs hn hk ek f1 f2 hW ls hl
      have hR1 : XR σ M1 := hR.oA f1 (fun p k hx hs => by unfold XRs at hx; omega)
      refine lv_iload hx hb dX9_strikeCues_20 (lv_at hl 0 rfl) ?_
      refine lv_iload hx hb dX9_strikeCues_22 (lv_at hl 1 rfl) ?_
      refine lv_icmp_ge (tgt := 112) hx hb dX9_strikeCues_24 (by decide) (fun c24 => ?_) (fun c24 => ?_)
      · have k24 : 40 ≤ k := kc_ge ek (nlit 40) (by omega) (by omega) c24
        exact wr_wv hx hb hr hlocks hW dX9_strikeCues_112 ⟨f1, fun i hi hg => f2 i (by have := ok.1; omega) hi hg⟩
      · have k24 : ¬ 40 ≤ k := kc_gen ek (nlit 40) (by omega) (by omega) c24
        refine lv_aload_n hx hb dX9_strikeCues_27 rfl (lv_at hl 2 rfl) ?_
        refine lv_iload hx hb dX9_strikeCues_28 (lv_at hl 0 rfl) ?_
        rcases hR1.2.2.2.2.2.2.2.2.2.2.1 k (by omega) with ⟨hn30, hg30⟩ | ⟨hs30, hi30, hg30⟩
        · refine walRn (j := k) hx hb hK hW (hX.1 11 (by decide)) hn30 ek (by omega) (by decide) dX9_strikeCues_30 ?_
          refine lv_astoreN (lv' := [(6, .null), (5, .int xk), (4, .int 40), (3, .ref (ad 11)), (1, .long x4), (0, .ref (ad 0))]) hx hb dX9_strikeCues_31 hl (by decide) rfl (fun ls hl => ?_)
          refine lv_aloadN hx hb dX9_strikeCues_33 (lv_at hl 0 rfl) ?_
          refine lv_ifnullN (tgt := 106) hx hb dX9_strikeCues_35 (by decide) ?_
          obtain ⟨x106, e106⟩ : ∃ y : Int32, y = xk + 1 := ⟨_, rfl⟩
          refine lv_iinc (v := x106) (lv' := [(5, .int x106), (6, .null), (4, .int 40), (3, .ref (ad 11)), (1, .long x4), (0, .ref (ad 0))]) hx hb dX9_strikeCues_106 hl (k := 1) rfl (by rw [e106]; rfl) (by decide) rfl (fun ls hl => ?_)
          refine lv_goto (tgt := 20) hx hb dX9_strikeCues_109 (by decide) ?_
          exact ih20 (k + 1) x106 M1 _ _ (by omega) (by omega) (by rw [e106, ek, nlit 1, nI_add]) (by first | exact f1 | (rw [eM103, eM81]; exact (f1.putL ⟨by omega, Or.inl rfl⟩).putI ⟨by omega, Or.inr rfl⟩)) (fun i hi hin hg => by
              rcases Nat.lt_or_ge i k with z | z
              · first | exact f2 i z hin hg | (rw [eM103, eM81, gL_sI, gL_sL, if_neg (by omega), gI_sI, if_neg (by omega), gI_sL]; exact f2 i z hin hg)
              · have hik : i = k := by omega
                subst hik
                first | exact absurd ⟨hin, hg⟩ hg30 | exact fin9) hW ls (lv_sub hl [0, 2, 3, 4, 5] rfl)
        · refine walRs (j := k) (t := (100 + k)) hx hb hK hW (hX.1 11 (by decide)) hs30 ek (by omega) (by decide) dX9_strikeCues_30 ?_
          refine lv_astore (lv' := [(6, .ref (ad (100 + k))), (5, .int xk), (4, .int 40), (3, .ref (ad 11)), (1, .long x4), (0, .ref (ad 0))]) hx hb dX9_strikeCues_31 hl (by decide) rfl (fun ls hl => ?_)
          refine lv_aload hx hb dX9_strikeCues_33 (lv_at hl 0 rfl) ?_
          refine lv_ifnull hx hb dX9_strikeCues_35 ?_
          obtain ⟨cn, cb, ck, cr⟩ := hR1.2.2.2.2.2.2.2.2.2.2.2 k hi30
          obtain ⟨ob, hkd, hrk, og⟩ := ok.2.2.2.2.2.2.1 k hi30
          obtain ⟨kd, ekd⟩ : ∃ z, z = σ.2 8 k := ⟨_, rfl⟩
          rw [← ekd] at ck hkd
          have fb := fal_bd ok hi30
          refine lv_aload_n hx hb dX9_strikeCues_38 rfl (lv_at hl 5 rfl) ?_
          refine lv_aload hx hb dX9_strikeCues_39 (lv_at hl 0 rfl) ?_
          refine wc_ri (va_runV (As := [.ref (ad (100 + k))]) (rest := []) ⟨hx, hb, hml, hown, hts⟩ (c_X9_fallX l D cA sh ad M1 _ σ ok hX hR1 k (by omega)) (cwV 1 hts gX9_strikeCues_X9_fallX rfl rfl rfl (by decide +kernel) ⟨Nat.le_of_ble_eq_true rfl, Nat.le_of_ble_eq_true rfl⟩) (wpreV hK hW (C := RX9) (ci := 9) (hX.1 0 (by decide)) rfl) rfl rfl hl.1 rfl (lv_room (Nat.le_of_ble_eq_true rfl)) dX9_strikeCues_41 ⟨Nat.le_of_ble_eq_true rfl, Nat.le_of_ble_eq_true rfl⟩) hW (fun x41 H locs p41 hW => ?_)
          try dsimp only at p41
          refine lv_bipush (v := 100) hx hb dX9_strikeCues_44 (by decide) ?_
          refine wc_ri (va_runS (As := [.int x41, .int 100]) (rest := []) ⟨hx, hb, hml, hown, hts⟩ (c_J9_floorDiv_7cf53 l x41 100 (by decide)) (va_cwS 2 hts gX9_strikeCues_J9_floorDiv_7cf53 rfl rfl rfl (by decide +kernel) ⟨Nat.le_of_ble_eq_true rfl, Nat.le_of_ble_eq_true rfl⟩) npreS rfl rfl hl.1 rfl (lv_room (Nat.le_of_ble_eq_true rfl)) dX9_strikeCues_46 ⟨Nat.le_of_ble_eq_true rfl, Nat.le_of_ble_eq_true rfl⟩) hW (fun x46 H locs p46 hW => ?_)
          try dsimp only at p46
          have b46 : x46.toInt = colZ σ k := by rw [p46, p41, jfd100 (by omega) (by omega)]; rfl
          have r46 : -10000 ≤ x46.toInt ∧ x46.toInt ≤ 10000 := by rw [b46]; unfold colZ; omega
          refine lv_istore (lv' := [(7, .int x46), (6, .ref (ad (100 + k))), (5, .int xk), (4, .int 40), (3, .ref (ad 11)), (1, .long x4), (0, .ref (ad 0))]) hx hb dX9_strikeCues_49 hl (by decide) rfl (fun ls hl => ?_)
          refine lv_aload_n hx hb dX9_strikeCues_51 rfl (lv_at hl 6 rfl) ?_
          refine lv_aload hx hb dX9_strikeCues_52 (lv_at hl 1 rfl) ?_
          refine wc_ri (va_runV (As := [.ref (ad (100 + k))]) (rest := []) ⟨hx, hb, hml, hown, hts⟩ (c_X9_fallY l D cA sh ad M1 _ σ ok hX hR1 k (by omega)) (cwV 1 hts gX9_strikeCues_X9_fallY rfl rfl rfl (by decide +kernel) ⟨Nat.le_of_ble_eq_true rfl, Nat.le_of_ble_eq_true rfl⟩) (wpreV hK hW (C := RX9) (ci := 9) (hX.1 0 (by decide)) rfl) rfl rfl hl.1 rfl (lv_room (Nat.le_of_ble_eq_true rfl)) dX9_strikeCues_54 ⟨Nat.le_of_ble_eq_true rfl, Nat.le_of_ble_eq_true rfl⟩) hW (fun x54 H locs p54 hW => ?_)
          try dsimp only at p54
          refine lv_bipush (v := 100) hx hb dX9_strikeCues_57 (by decide) ?_
          refine wc_ri (va_runS (As := [.int x54, .int 100]) (rest := []) ⟨hx, hb, hml, hown, hts⟩ (c_J9_floorDiv_7cf53 l x54 100 (by decide)) (va_cwS 2 hts gX9_strikeCues_J9_floorDiv_7cf53 rfl rfl rfl (by decide +kernel) ⟨Nat.le_of_ble_eq_true rfl, Nat.le_of_ble_eq_true rfl⟩) npreS rfl rfl hl.1 rfl (lv_room (Nat.le_of_ble_eq_true rfl)) dX9_strikeCues_59 ⟨Nat.le_of_ble_eq_true rfl, Nat.le_of_ble_eq_true rfl⟩) hW (fun x59 H locs p59 hW => ?_)
          try dsimp only at p59
          have b59 : x59.toInt = linZ σ k := by rw [p59, p54, jfd100 (by omega) (by omega)]; rfl
          have r59 : -10000 ≤ x59.toInt ∧ x59.toInt ≤ 10000 := by rw [b59]; unfold linZ; omega
          refine lv_istore (lv' := [(8, .int x59), (7, .int x46), (6, .ref (ad (100 + k))), (5, .int xk), (4, .int 40), (3, .ref (ad 11)), (1, .long x4), (0, .ref (ad 0))]) hx hb dX9_strikeCues_62 hl (by decide) rfl (fun ls hl => ?_)
          refine lv_aload hx hb dX9_strikeCues_64 (lv_at hl 2 rfl) ?_
          refine lv_iload hx hb dX9_strikeCues_66 (lv_at hl 1 rfl) ?_
          refine lv_iload hx hb dX9_strikeCues_68 (lv_at hl 0 rfl) ?_
          refine lv_aload hx hb dX9_strikeCues_70 (lv_at hl 2 rfl) ?_
          refine wgR (t := (40 + kd)) hx hb fa210 hW (hX.2 k (by omega)) rfl ck dX9_strikeCues_72 ?_
          refine wgI hx hb fa320 hW (sh_kind hX kd (by omega)) rfl dX9_strikeCues_75 (fun x75 e75 => ?_)
          have q75 : x75 = nI (σ.2 2 kd) := e75.trans (hR1.2.2.2.1 kd hkd).2.2.1
          have o75 := ok.2.2.1 kd hkd
          have b75 : x75.toInt = (σ.2 2 kd : Int) := by rw [q75, nI_toInt (by omega)]
          have r75 : 0 ≤ x75.toInt ∧ x75.toInt ≤ 3 := by rw [b75]; omega
          refine wc_rl (va_runS (As := [.int x46, .int x59, .int x75]) (rest := [.ref (ad (100 + k))]) ⟨hx, hb, hml, hown, hts⟩ (c_X9_zonesAround l x46 x59 x75 r46 r59 r75) (va_cwS 3 hts gX9_strikeCues_X9_zonesAround rfl rfl rfl (by decide +kernel) ⟨Nat.le_of_ble_eq_true rfl, Nat.le_of_ble_eq_true rfl⟩) npreS rfl rfl hl.1 rfl (lv_room (Nat.le_of_ble_eq_true rfl)) dX9_strikeCues_78 ⟨Nat.le_of_ble_eq_true rfl, Nat.le_of_ble_eq_true rfl⟩) hW (fun x78 H locs p78 hW => ?_)
          try dsimp only at p78
          have z78 : ∀ k9, k9 < 64 → bitL x78 k9 = zonB σ k k9 := fun k9 h9 => by rw [p78 k9 h9, b46, b59, b75]; unfold zonB; rw [← ekd]
          refine wpL hx hb fw246 hA hW (hX.2 k (by omega)) rfl dX9_strikeCues_81 (fun M81 H locs eM81 hW => ?_)
          refine lv_aload hx hb dX9_strikeCues_84 (lv_at hl 2 rfl) ?_
          have J103 : ∀ (y : Int32) (H : Heap) (locs : List Loc), (y = nI (if stkB σ k = true then 1 else 0)) → WS D cA sh ad A s.heap M81 H locs → ∀ ls, lv_has ls 9 [(8, .int x59), (7, .int x46), (6, .ref (ad (100 + k))), (5, .int xk), (4, .int 40), (3, .ref (ad 11)), (1, .long x4), (0, .ref (ad 0))] → W p l e (headSpec wsX9_strikeCues { frames := 2, cells := 0, slots := 0, locals := 47 }).room s m ([.ref (ad 0)] : List Value).toArray below meth cd0 H locs 0 0 (MQ below (wQv D cA sh ad (fun M' => oA (fun p k => 100 ≤ p ∧ (k = 4 ∨ k = 7)) M M' ∧ ∀ i, i < aN σ → σ.2 10 i = 0 → (∀ k, k < 64 → bitL (gL M' (100 + i) 4) k = zonB σ i k) ∧ gI M' (100 + i) 7 = nI (if stkB σ i = true then 1 else 0)) A) ([.ref (ad 0)] : List Value).toArray s 0 0 A) (F0 m 103 ls [.int y, .ref (ad (100 + k))]) := by
            intro y H locs hy hW ls hl
            refine wpI hx hb fw188 hA hW (hX.2 k (by omega)) rfl dX9_strikeCues_103 (fun M103 H locs eM103 hW => ?_)
            have fin9 : (∀ j, j < 64 → bitL (gL M103 (100 + k) 4) j = zonB σ k j) ∧ gI M103 (100 + k) 7 = nI (if stkB σ k = true then 1 else 0) := ⟨fun j hj => by rw [eM103, gL_sI, eM81, gL_sL, if_pos ⟨rfl, rfl⟩]; exact z78 j hj, by rw [eM103, gI_sI, if_pos ⟨rfl, rfl⟩, hy]⟩
            obtain ⟨x106, e106⟩ : ∃ y : Int32, y = xk + 1 := ⟨_, rfl⟩
            refine lv_iinc (v := x106) (lv' := [(5, .int x106), (8, .int x59), (7, .int x46), (6, .ref (ad (100 + k))), (4, .int 40), (3, .ref (ad 11)), (1, .long x4), (0, .ref (ad 0))]) hx hb dX9_strikeCues_106 hl (k := 3) rfl (by rw [e106]; rfl) (by decide) rfl (fun ls hl => ?_)
            refine lv_goto (tgt := 20) hx hb dX9_strikeCues_109 (by decide) ?_
            exact ih20 (k + 1) x106 M103 _ _ (by omega) (by omega) (by rw [e106, ek, nlit 1, nI_add]) (by first | exact f1 | (rw [eM103, eM81]; exact (f1.putL ⟨by omega, Or.inl rfl⟩).putI ⟨by omega, Or.inr rfl⟩)) (fun i hi hin hg => by
                rcases Nat.lt_or_ge i k with z | z
                · first | exact f2 i z hin hg | (rw [eM103, eM81, gL_sI, gL_sL, if_neg (by omega), gI_sI, if_neg (by omega), gI_sL]; exact f2 i z hin hg)
                · have hik : i = k := by omega
                  subst hik
                  first | exact absurd ⟨hin, hg⟩ hg30 | exact fin9) hW ls (lv_sub hl [0, 4, 5, 6, 7] rfl)
          refine lv_aload hx hb dX9_strikeCues_86 (lv_at hl 2 rfl) ?_
          refine wgL hx hb fa246 hW (hX.2 k (by omega)) rfl dX9_strikeCues_88 (fun x88 e88 => ?_)
          refine lv_lload_n hx hb dX9_strikeCues_91 rfl (lv_at hl 6 rfl) ?_
          refine lv_land hx hb dX9_strikeCues_92 ?_
          refine lv_topl (fun x92 e92 => ?_)
          refine lv_lconst (v := 0) hx hb dX9_strikeCues_93 (by decide) ?_
          refine W.lcmp hx hb dX9_strikeCues_94 ?_
          refine lv_topi (fun x94 e94 => ?_)
          refine lv_if_eq (tgt := 102) hx hb dX9_strikeCues_95 (by decide) (fun c95 => ?_) (fun c95 => ?_)
          · refine lv_iconst (v := 0) hx hb dX9_strikeCues_102 (by decide) ?_
            exact J103 0 _ _ (by rw [e94, e92, lgcmp0, e88, eM81, gL_sL, if_pos ⟨rfl, rfl⟩, stk_and z78 hp9] at c95; first | (rw [c95]; rfl) | (rw [Bool.not_eq_false] at c95; rw [c95]; rfl)) hW ls (lv_sub hl [0, 1, 2, 3, 4, 5, 6, 7] rfl)
          · refine lv_iconst (v := 1) hx hb dX9_strikeCues_98 (by decide) ?_
            refine lv_goto (tgt := 103) hx hb dX9_strikeCues_99 (by decide) ?_
            exact J103 1 _ _ (by rw [e94, e92, lgcmp0, e88, eM81, gL_sL, if_pos ⟨rfl, rfl⟩, stk_and z78 hp9] at c95; first | (rw [c95]; rfl) | (rw [Bool.not_eq_false] at c95; rw [c95]; rfl)) hW ls (lv_sub hl [0, 1, 2, 3, 4, 5, 6, 7] rfl)
  exact L20 (_ + 1) 0 0 M _ _ (Nat.lt_succ_self _) (Nat.zero_le _) rfl oA.rf (fun i hi => absurd hi (Nat.not_lt_zero i)) hW ls (lv_sub hl [0, 1, 2, 3, 4] rfl)

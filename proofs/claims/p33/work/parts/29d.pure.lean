/-! More helpers of the law's walks. -/
theorem ct_b {p : Nat → Bool} {x : Int32} {k : Nat} (h : x = nI (ctN p k)) : x + bI (p k) = nI (ctN p (k + 1)) := by
  cases hp : p k with
  | true => exact ct_t h hp
  | false =>
    have := ct_f h hp
    rw [← this]
    exact Int32.add_zero x
theorem cb_s (σ : AS) (b : Nat) : nI (cbN σ b) + bI (clB σ b) = nI (cbN σ (b + 1)) := by
  show _ = nI (cbN σ b + if clB σ b = true then 1 else 0)
  cases clB σ b with
  | true => exact nI_add _ 1
  | false => exact Int32.add_zero _
theorem fb_is {σ : AS} {q : Nat → Nat} {c k : Nat} (hs : Srt σ 40 q c) (hk : k < 40) (hp : pres σ k = true) : (nI (fateA σ q c k) = 0 ↔ firB σ q c k = true) := by
  have h3 := fa_le hs hk
  unfold firB
  rw [hp, Bool.true_and, decide_eq_true_iff, show (0 : Int32) = nI 0 from rfl, nI_eq (by omega) (by omega)]
theorem fb_no {σ : AS} {q : Nat → Nat} {c k : Nat} (hp : pres σ k = false) : firB σ q c k = false := by unfold firB; rw [hp]; rfl
theorem sp_no {σ : AS} {q : Nat → Nat} {c k : Nat} (hp : pres σ k = false) : sprB σ q c k = false := by unfold sprB; rw [hp]; rfl
theorem nI_nneg {d : Nat} (hd : d < 32) : ¬ nI d < 0 := fun z => by
  rw [i32lt, nI_toInt (by omega), i32z] at z; omega
theorem sp_neg {σ : AS} {q : Nat → Nat} {c k : Nat} {x : Int32} (e : x = chanA σ q c k) (h : x < 0) : sprB σ q c k = false := by
  unfold sprB
  cases hz : sprI (chanA σ q c k) with
  | false => exact Bool.and_false _
  | true =>
    obtain ⟨d, hd, ed, -⟩ := sprI_iff.mp hz
    exact absurd (by rw [← ed, ← e]; exact h) (nI_nneg hd)
theorem sp_is {σ : AS} {q : Nat → Nat} {c k d : Nat} {x : Int32} (hp : pres σ k = true) (e : x = chanA σ q c k) (hd : d < 32) (ed : x = nI d) : sprB σ q c k = decide (6 ≤ d % 8) := by
  unfold sprB
  rw [hp, Bool.true_and, ← e, ed]
  unfold sprI
  rw [decide_eq_decide, nI_toInt (by omega)]
  omega
/-- a channel that is none below 0 -/
theorem ch_pos {σ : AS} {q : Nat → Nat} {c k : Nat} {x : Int32} (hs : Srt σ 40 q c) (hk : k < 40) (e : x = chanA σ q c k) (h : ¬ x < 0) : ∃ d, d < 32 ∧ x = nI d ∧ σ.2 3 d = 0 ∧ gvn σ q c d = some k := by
  rcases ch_cases hs hk with ⟨-, j, d, -, -, -, h1, h2, h3, h4⟩ | ⟨-, h3, -⟩
  · exact ⟨d, h1, e.trans h3, h2, h4⟩
  · exact absurd (by rw [e, h3]; decide) h
theorem ch_sgn {σ : AS} {q : Nat → Nat} {c k : Nat} {x : Int32} (hs : Srt σ 40 q c) (hk : k < 40) (hp : pres σ k = true) (e : x = chanA σ q c k) : (x < 0 ↔ firB σ q c k = false) ∧ ¬ x < -1 ∧ ¬ 32 ≤ x := by
  rcases ch_cases hs hk with ⟨h0, j, d, -, -, -, h1, h2, h3, h4⟩ | ⟨h0, h3, -⟩
  · have hf := (fb_is hs hk hp).mp h0
    have ex : x = nI d := e.trans h3
    refine ⟨⟨fun z => absurd (ex ▸ z) (nI_nneg h1), fun z => by rw [hf] at z; cases z⟩, fun z => ?_, fun z => ?_⟩
    · rw [ex, i32lt, nI_toInt (by omega), show (-1 : Int32).toInt = -1 from rfl] at z; omega
    · rw [ex, i32le, nI_toInt (by omega), show (32 : Int32).toInt = 32 from rfl] at z; omega
  · have hf : firB σ q c k = false := by
      cases hz : firB σ q c k with
      | false => rfl
      | true => exact absurd ((fb_is hs hk hp).mpr hz) h0
    rw [e, h3]
    exact ⟨⟨fun _ => hf, fun _ => by decide⟩, by decide, by decide⟩
theorem fi_t {x : Int32} {n N : Nat} (e : x = nI n) (h : n < N) (hN : N < 2 ^ 31) : fiB N x = true := by
  unfold fiB
  refine decide_eq_true ?_
  rw [e, nI_toInt (by omega)]; omega
theorem fi_f {x : Int32} {n N : Nat} (e : x = nI n) (h : N ≤ n) (hn : n < 2 ^ 31) : fiB N x = false := by
  unfold fiB
  refine decide_eq_false ?_
  rw [e, nI_toInt hn]; omega
theorem fi_m1 (N : Nat) : fiB N (-1) = false := by
  unfold fiB
  refine decide_eq_false ?_
  rw [show (-1 : Int32).toInt = -1 from rfl]; omega
/-- the last one of a box -/
def LaR (σ : AS) (q : Nat → Nat) (c bx n : Nat) (x : Int32) : Prop := x = -1000 ∨ ∃ n', n' < n ∧ (∃ d', d' < 32 ∧ chanA σ q c (firA σ q c n') = nI d' ∧ d' / 8 = bx) ∧ x = tkI σ (firA σ q c n')
theorem LaR.up {σ : AS} {q : Nat → Nat} {c bx n : Nat} {x : Int32} (h : LaR σ q c bx n x) : LaR σ q c bx (n + 1) x := by
  rcases h with z | ⟨n', a, b⟩
  · exact Or.inl z
  · exact Or.inr ⟨n', by omega, b⟩
theorem gp_no {σ : AS} {q : Nat → Nat} {c bx n d : Nat} {x y : Int32} (ok : AOK σ) (hs : Srt σ 40 q c) (hl : n < lit σ q c) (hd : d < 32) (ed : chanA σ q c (firA σ q c n) = nI d) (hb : d / 8 = bx) (h : LaR σ q c bx n x) (ey : y = tkI σ (firA σ q c n) - x) : ¬ y < nI (σ.2 5 0) := by
  rw [ey]
  rcases h with z | ⟨n', a, ⟨d', hd', ed', hb'⟩, z⟩
  · obtain ⟨j, f, hj, -, -, ef, he, -⟩ := fir_at hs hl
    have r := tk_rng ok he
    have g20 := ok.2.2.2.2.2.1
    have c1 : (-1000 : Int32).toInt = -1000 := rfl
    rw [z, ef, i32lt, nI_toInt (by omega), i32sub (by rw [c1]; omega) (by rw [c1]; omega), c1]
    omega
  · rw [z]; exact fir_gap ok hs a hl hd hd' ed ed' (by omega)
/-! Prices. -/
theorem lg_eq {x y : Int64} : lg_cmp x y = 0 ↔ x = y := by
  unfold lg_cmp
  by_cases h : x > y
  · rw [if_pos h]
    refine ⟨fun z => absurd z (by decide), fun z => ?_⟩
    rw [z, gt_iff_lt, Int64.lt_iff_toInt_lt] at h; omega
  · rw [if_neg h]
    by_cases h2 : x = y
    · rw [if_pos h2]; exact ⟨fun _ => h2, fun _ => rfl⟩
    · rw [if_neg h2]; exact ⟨fun z => absurd z (by decide), fun z => absurd z h2⟩
theorem bit_sm : ∀ j, j < 64 → (((nI j).toInt64 &&& 63).toBitVec.smod 64).toNat = j := by decide +kernel
theorem bitL_sshr {z : Int64} {j : Nat} (hj : j < 64) : ((z >>> ((nI j).toInt64 &&& 63)) &&& 1) = 1 ↔ bitL z j = true := by
  have hs := bit_sm j hj
  generalize (nI j).toInt64 &&& 63 = s at hs
  have e : (z >>> s).toBitVec = z.toBitVec.sshiftRight j := by
    rw [Int64.toBitVec_shiftRight, BitVec.sshiftRight_eq', hs]
  have b0 : ((z >>> s) &&& 1).toBitVec.getLsbD 0 = bitL z j := by
    rw [Int64.toBitVec_and, BitVec.getLsbD_and, e, BitVec.getLsbD_sshiftRight]
    simp [bitL, hj]
  constructor
  · intro h
    rw [← b0, h]; rfl
  · intro h
    apply Int64.toBitVec_inj.mp
    apply BitVec.eq_of_getLsbD_eq
    intro i hi
    by_cases hi0 : i = 0
    · subst hi0; rw [b0, h]; rfl
    · rw [Int64.toBitVec_and, BitVec.getLsbD_and]
      have : (1 : Int64).toBitVec.getLsbD i = false := by
        show (1#64).getLsbD i = false
        simp [hi0]
      rw [this, Bool.and_false]
theorem val_s (w : Nat → Int32) (p : Nat → Bool) (n : Nat) : (valV w p n + 1) + (if p n = true then (w n).toInt64 else 0) = valV w p (n + 1) + 1 := by
  show _ = (if p n = true then valV w p n + (w n).toInt64 else valV w p n) + 1
  cases p n with
  | true => rw [if_pos rfl, if_pos rfl, Int64.add_assoc, Int64.add_comm 1, ← Int64.add_assoc]
  | false => rw [if_neg (by decide), if_neg (by decide), Int64.add_zero]
theorem val_if {w : Nat → Int32} {p : Nat → Bool} {n : Nat} {y : Int64} (h : (p n = true ∧ y = (w n).toInt64) ∨ (p n = false ∧ y = 0)) : y = if p n = true then (w n).toInt64 else 0 := by
  rcases h with ⟨h, e⟩ | ⟨h, e⟩
  · rw [if_pos h, e]
  · rw [if_neg (by rw [h]; decide), e]
theorem sm_i {p : Nat → Bool} {f : Nat → Int64} {k : Nat} {y : Int64} (h : (p k = true ∧ y = f k) ∨ (p k = false ∧ y = 0)) : sm (· + ·) 0 p f k + y = sm (· + ·) 0 p f (k + 1) := by
  rw [sm_s]
  rcases h with ⟨h, e⟩ | ⟨h, e⟩
  · rw [if_pos h, e]
  · rw [if_neg (by rw [h]; decide), e, Int64.add_zero]
theorem sm_n {p : Nat → Bool} {f : Nat → Int64} {k : Nat} {x : Int64} (e : x = sm (· + ·) 0 p f k) (h : p k = false) : x = sm (· + ·) 0 p f (k + 1) := by
  rw [sm_s, if_neg (by rw [h]; decide)]; exact e
/-- the hour of a tick, as the law reads it -/
theorem d100 (t : Int32) : (t / 100).toInt = t.toInt.tdiv 100 := by
  have r := i32r t
  rw [Int32.toInt_div, show (100 : Int32).toInt = 100 from rfl]
  rcases Int.le_total 0 t.toInt with z | z
  · rw [Int.tdiv_eq_ediv_of_nonneg z]; exact i32bm (by omega) (by omega)
  · have q : t.toInt.tdiv 100 = -((-t.toInt).tdiv 100) := by rw [Int.neg_tdiv, Int.neg_neg]
    rw [q, Int.tdiv_eq_ediv_of_nonneg (by omega)]; exact i32bm (by omega) (by omega)
theorem hr_el {σ : AS} {k : Nat} {x : Int32} (ok : AOK σ) (e : x = tkI σ k / 100) (he : elg σ k) : 0 ≤ x.toInt ∧ (hrN σ k : Int) = min 9 x.toInt := by
  have r := tk_rng ok he
  have h : x.toInt = (tkI σ k).toInt / 100 := by rw [e, d100, Int.tdiv_eq_ediv_of_nonneg r.1]
  unfold hrN n1
  omega
def HrR (σ : AS) (k : Nat) (y : Int32) : Prop := ∃ h, h ≤ 9 ∧ y = nI h ∧ (elg σ k → h = hrN σ k)
theorem hr_a {σ : AS} {k : Nat} {x : Int32} (ok : AOK σ) (e : x = tkI σ k / 100) (h : ¬ 0 ≤ x) : HrR σ k 0 :=
  ⟨0, by omega, rfl, fun he => by have := (hr_el ok e he).1; rw [i32le, i32z] at h; omega⟩
theorem hr_b {σ : AS} {k : Nat} {x : Int32} (ok : AOK σ) (e : x = tkI σ k / 100) (h : ¬ x ≤ 9) : HrR σ k 9 :=
  ⟨9, by omega, rfl, fun he => by have := hr_el ok e he; rw [i32le, show (9 : Int32).toInt = 9 from rfl] at h; omega⟩
theorem hr_c {σ : AS} {k : Nat} {x : Int32} (ok : AOK σ) (e : x = tkI σ k / 100) (h0 : 0 ≤ x) (h : x ≤ 9) : HrR σ k x := by
  rw [i32le, i32z] at h0
  rw [i32le, show (9 : Int32).toInt = 9 from rfl] at h
  refine ⟨n1 x, by unfold n1; omega, ?_, fun he => ?_⟩
  · apply Int32.toInt_inj.mp
    rw [nI_toInt (by unfold n1; omega)]; unfold n1; omega
  · have := hr_el ok e he; unfold n1; omega
theorem fb_elg {σ : AS} {q : Nat → Nat} {c k : Nat} (hs : Srt σ 40 q c) (hk : k < 40) (h : firB σ q c k = true) : elg σ k := by
  unfold firB at h
  rw [Bool.and_eq_true, decide_eq_true_iff, fa_fire hs hk] at h
  obtain ⟨-, j, d, hj, ej, -⟩ := h
  rw [← ej]; exact (hs.1 j hj).2
theorem pr_no {σ : AS} {v : VT} {q : Nat → Nat} {c k : Nat} (hs : Srt σ 40 q c) (hk : k < 40) (hp : pres σ k = true) (h : firB σ q c k = false) : -1 = prA σ v q c k := by
  unfold prA
  rw [if_neg (fun z => by rw [(fb_is hs hk hp).mp z] at h; cases h)]
theorem pr_hi {σ : AS} {v : VT} {q : Nat → Nat} {c k : Nat} {x : Int64} (hs : Srt σ 40 q c) (hk : k < 40) (hp : pres σ k = true) (h : firB σ q c k = true) (e : x = priA σ v k) (hx : ¬ lg_cmp x 2147483647 ≤ 0) : -2 = prA σ v q c k := by
  unfold prA
  rw [if_pos ((fb_is hs hk hp).mpr h)]
  unfold refI
  rw [lgcmp_le, Decidable.not_not] at hx
  rw [if_pos (e ▸ hx)]
theorem pr_lo {σ : AS} {v : VT} {q : Nat → Nat} {c k : Nat} {x : Int64} (hs : Srt σ 40 q c) (hk : k < 40) (hp : pres σ k = true) (h : firB σ q c k = true) (e : x = priA σ v k) (hx : lg_cmp x 2147483647 ≤ 0) : x.toInt32 = prA σ v q c k := by
  unfold prA
  rw [if_pos ((fb_is hs hk hp).mpr h)]
  unfold refI
  rw [lgcmp_le] at hx
  rw [if_neg (e ▸ hx), e]
theorem rf_hi {x : Int64} (hx : ¬ lg_cmp x 2147483647 ≤ 0) : -2 = refI x := by
  unfold refI
  rw [lgcmp_le, Decidable.not_not] at hx
  rw [if_pos hx]
theorem rf_lo {x : Int64} (hx : lg_cmp x 2147483647 ≤ 0) : x.toInt32 = refI x := by
  unfold refI
  rw [lgcmp_le] at hx
  rw [if_neg hx]
theorem cntS_b {a b : Int32} {N : Nat} (h : N ≤ 3000) : ∀ y, y ≤ 4 → cntS a b N y ≤ 12000 := by
  have c3 : ∀ z, cntS a b N z ≤ 3000 * z := fun z => by
    induction z with
    | zero => exact Nat.le_refl _
    | succ z ih => have := cntN_le a b z N; unfold cntS; omega
  intro y hy
  have := c3 y; omega

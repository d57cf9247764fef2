/-! Flights: lift, length, layers. -/
theorem i32z : (0 : Int32).toInt = 0 := rfl
theorem spd_at {a b : Int32} (ha : 1 ≤ a.toInt ∧ a.toInt ≤ 200) (hb : 1 ≤ b.toInt ∧ b.toInt ≤ 100) {N : Nat} (hN : FlT a b N) : ∀ t, t ≤ N → (∀ m, m < t → (hsq a b m).2.2.1 = 0) → (hsq a b t).1.toInt = a.toInt - 10 * t
  | 0, _, _ => by show a.toInt = a.toInt - 10 * ((0 : Nat) : Int); omega
  | t + 1, ht, h => by
    have ih := spd_at ha hb hN t (by omega) (fun m hm => h m (by omega))
    have h0 := h t (by omega)
    have e10 : (10 : Int32).toInt = 10 := rfl
    have hr := i32r (hsq a b t).1
    rcases FlT_J ha hb hN (show t ≤ N by omega) with ⟨-, -, h3, h4, -⟩ | ⟨h1, -⟩
    · show (hstep b (hsq a b t)).1.toInt = _
      unfold hstep
      rw [if_pos h0]
      dsimp only
      rw [i32sub (by rw [e10]; omega) (by rw [e10]; omega), e10, ih]; omega
    · rw [h1] at h0; exact absurd h0 (by decide)
theorem lift_is {a b : Int32} (ha : 1 ≤ a.toInt ∧ a.toInt ≤ 200) (hb : 1 ≤ b.toInt ∧ b.toInt ≤ 100) {N : Nat} (hN : FlT a b N) : liftN a b N = (a.toInt.toNat + 9) / 10 ∧ 1 ≤ liftN a b N ∧ liftN a b N ≤ 20 := by
  obtain ⟨h1, h2, h3⟩ := lift_at ha hb hN
  generalize liftN a b N = L at h1 h2 h3
  have s1 := spd_at ha hb hN L h3 h2
  have hL : 1 ≤ L := by
    rcases Nat.eq_zero_or_pos L with z | z
    · rw [z] at h1; exact absurd rfl h1
    · exact z
  have s2 := spd_at ha hb hN (L - 1) (by omega) (fun m hm => h2 m (by omega))
  have q1 : (hsq a b L).1.toInt ≤ 0 := by
    rcases FlT_J ha hb hN h3 with ⟨z, -⟩ | ⟨-, -, z, -⟩
    · exact absurd z h1
    · exact z
  have q2 : 0 < (hsq a b (L - 1)).1.toInt := by
    have h0 := h2 (L - 1) (by omega)
    rcases FlT_J ha hb hN (show L - 1 ≤ N by omega) with ⟨-, -, z, -⟩ | ⟨z, -⟩
    · exact z
    · rw [z] at h0; exact absurd h0 (by decide)
  omega
theorem lift_hi {a b : Int32} (ha : 1 ≤ a.toInt ∧ a.toInt ≤ 200) (hb : 1 ≤ b.toInt ∧ b.toInt ≤ 100) {N : Nat} (hN : FlT a b N) : liftN a b N < N ∧ 0 < (hsq a b (liftN a b N)).2.1.toInt := by
  obtain ⟨h1, h2, h3⟩ := lift_at ha hb hN
  obtain ⟨-, hL, -⟩ := lift_is ha hb hN
  generalize liftN a b N = L at h1 h2 h3 hL
  have h0 := h2 (L - 1) (by omega)
  have hl : (hsq a b L).2.2.2 = 0 := by
    obtain ⟨K, rfl⟩ : ∃ K, L = K + 1 := ⟨L - 1, by omega⟩
    show (hstep b (hsq a b K)).2.2.2 = 0
    unfold hstep
    rw [show K + 1 - 1 = K by omega] at h0
    rw [if_pos h0]
    exact hN.2.1 K (by omega)
  refine ⟨?_, ?_⟩
  · rcases Nat.lt_or_ge L N with z | z
    · exact z
    · exact absurd (by rw [show N = L by omega]; exact hl) hN.1
  · rcases FlT_J ha hb hN h3 with ⟨z, -⟩ | ⟨-, -, -, -, -, z⟩
    · exact absurd z h1
    · rcases z with ⟨-, z⟩ | ⟨z, -⟩
      · exact z
      · rw [z] at hl; exact absurd hl (by decide)
theorem lay_lo {x : Int32} (h1 : 0 ≤ x.toInt) (h2 : x.toInt ≤ 100) : layI x = 0 := by
  have e : x / 250 = 0 := by
    apply Int32.toInt_inj.mp
    rw [Int32.toInt_div, show (250 : Int32).toInt = 250 from rfl, Int.tdiv_eq_ediv_of_nonneg h1, show x.toInt / 250 = 0 by omega]; rfl
  unfold layI
  rw [e]; decide
theorem cntN_mono (a b : Int32) (y : Nat) {m : Nat} : ∀ d, cntN a b m y ≤ cntN a b (m + d) y
  | 0 => Nat.le_refl _
  | d + 1 => by
    have := cntN_mono a b y (m := m) d
    show _ ≤ cntN a b (m + d) y + _
    omega
theorem lay0_2 {a b : Int32} (ha : 1 ≤ a.toInt ∧ a.toInt ≤ 200) (hb : 1 ≤ b.toInt ∧ b.toInt ≤ 100) {N : Nat} (hN : FlT a b N) : 2 ≤ cntN a b N 0 := by
  obtain ⟨h1, h2, h3⟩ := lift_at ha hb hN
  obtain ⟨-, hL, -⟩ := lift_is ha hb hN
  obtain ⟨hlt, -⟩ := lift_hi ha hb hN
  generalize liftN a b N = L at h1 h2 h3 hL hlt
  obtain ⟨K, rfl⟩ : ∃ K, N = K + 1 := ⟨N - 1, by omega⟩
  have hbK : ¬ (hsq a b K).2.2.1 = 0 := by
    have := (liftN_dn h1 (K - L)).2
    rw [show L + (K - L) = K by omega] at this; exact this
  have hlK := hN.2.1 K (by omega)
  have e0 : layI (hsq a b K).2.1 = 0 := by
    rcases FlT_J ha hb hN (show K ≤ K + 1 by omega) with ⟨z, -⟩ | ⟨-, -, -, h4, h5, z⟩
    · exact absurd z hbK
    · have hp : 0 < (hsq a b K).2.1.toInt := by
        rcases z with ⟨-, z⟩ | ⟨z, -⟩
        · exact z
        · rw [z] at hlK; exact absurd hlK (by decide)
      have hN3 := hN.2.2
      have hle : (hsq a b K).2.1.toInt ≤ b.toInt := by
        have hs : ¬ le0 ((hsq a b K).2.1 - b) = 0 := by
          have hn := hN.1
          have e : (hsq a b (K + 1)).2.2.2 = le0 ((hsq a b K).2.1 - b) := by
            show (hstep b (hsq a b K)).2.2.2 = _
            unfold hstep
            rw [if_neg hbK]
          rw [e] at hn; exact hn
        rcases bI_le (x := (hsq a b K).2.1 - b) with ⟨q, -⟩ | ⟨-, q⟩
        · exact absurd q hs
        · rw [i32sub (by omega) (by omega)] at q; omega
      exact lay_lo (by omega) (by omega)
  have c1 : cntN a b 1 0 = 1 := by
    show 0 + (if layI (0 : Int32) = nI 0 then 1 else 0) = 1
    rw [if_pos (by decide)]
  have c2 := cntN_mono a b 0 (m := 1) (K - 1)
  rw [show 1 + (K - 1) = K by omega] at c2
  show 2 ≤ cntN a b K 0 + (if layI (hsq a b K).2.1 = nI 0 then 1 else 0)
  rw [if_pos (show layI (hsq a b K).2.1 = nI 0 from e0)]; omega
/-- the law's way down to a zone -/
theorem rem100 (x : Int32) : (x - x / 100 * 100).toInt = x.toInt.tmod 100 := by
  have c : (100 : Int32).toInt = 100 := rfl
  have r := i32r x
  have hd : (x / 100).toInt = x.toInt.tdiv 100 := by
    rw [Int32.toInt_div, c]
    have h1 : -2147483648 ≤ x.toInt.tdiv 100 ∧ x.toInt.tdiv 100 < 2147483648 := by
      rcases Int.le_total 0 x.toInt with z | z
      · rw [Int.tdiv_eq_ediv_of_nonneg z]; omega
      · have q : x.toInt.tdiv 100 = -((-x.toInt).tdiv 100) := by rw [Int.neg_tdiv, Int.neg_neg]
        rw [q, Int.tdiv_eq_ediv_of_nonneg (by omega)]; omega
    exact i32bm h1.1 h1.2
  have hb : -2147483648 ≤ x.toInt.tdiv 100 * 100 ∧ x.toInt.tdiv 100 * 100 < 2147483648 ∧ -2147483648 ≤ x.toInt - x.toInt.tdiv 100 * 100 ∧ x.toInt - x.toInt.tdiv 100 * 100 < 2147483648 := by
    rcases Int.le_total 0 x.toInt with z | z
    · rw [Int.tdiv_eq_ediv_of_nonneg z]; omega
    · have q : x.toInt.tdiv 100 = -((-x.toInt).tdiv 100) := by rw [Int.neg_tdiv, Int.neg_neg]
      rw [q, Int.tdiv_eq_ediv_of_nonneg (by omega)]; omega
  have hm : (x / 100 * 100).toInt = x.toInt.tdiv 100 * 100 := by rw [i32mul (by rw [hd, c]; omega) (by rw [hd, c]; omega), hd, c]
  rw [i32sub (by rw [hm]; omega) (by rw [hm]; omega), hm]
  rcases Int.le_total 0 x.toInt with z | z
  · rw [Int.tdiv_eq_ediv_of_nonneg z, Int.tmod_eq_emod_of_nonneg z]; omega
  · have q : x.toInt.tdiv 100 = -((-x.toInt).tdiv 100) := by rw [Int.neg_tdiv, Int.neg_neg]
    have q2 : x.toInt.tmod 100 = -((-x.toInt).tmod 100) := by rw [Int.neg_tmod, Int.neg_neg]
    rw [q, q2, Int.tdiv_eq_ediv_of_nonneg (by omega), Int.tmod_eq_emod_of_nonneg (by omega)]; omega
theorem down_eq {x u1 u2 u3 u4 : Int32} (h1 : -1000000 ≤ x.toInt) (h2 : x.toInt ≤ 1000000) (e1 : u1 = x - x / 100 * 100) (e2 : u2 = u1 + 100) (e3 : u3 = u2 - u2 / 100 * 100) (e4 : u4 = x - u3) : u4 / 100 = jfd x 100 := by
  have c : (100 : Int32).toInt = 100 := rfl
  have t1 : u1.toInt = x.toInt.tmod 100 := by rw [e1, rem100]
  have b1 : -100 < x.toInt.tmod 100 ∧ x.toInt.tmod 100 < 100 ∧ (0 ≤ x.toInt → x.toInt.tmod 100 = x.toInt % 100) ∧ (x.toInt ≤ 0 → x.toInt.tmod 100 = -((-x.toInt) % 100)) := by
    rcases Int.le_total 0 x.toInt with z | z
    · rw [Int.tmod_eq_emod_of_nonneg z]; omega
    · have q : x.toInt.tmod 100 = -((-x.toInt).tmod 100) := by rw [Int.neg_tmod, Int.neg_neg]
      rw [q, Int.tmod_eq_emod_of_nonneg (by omega)]; omega
  generalize x.toInt.tmod 100 = w at t1 b1
  have t2 : u2.toInt = w + 100 := by rw [e2, i32add (by rw [t1, c]; omega) (by rw [t1, c]; omega), t1, c]
  have t3 : u3.toInt = x.toInt % 100 := by
    rw [e3, rem100, t2, Int.tmod_eq_emod_of_nonneg (by omega)]
    omega
  have t4 : u4.toInt = x.toInt - x.toInt % 100 := by rw [e4, i32sub (by rw [t3]; omega) (by rw [t3]; omega), t3]
  apply Int32.toInt_inj.mp
  rw [jfd100 h1 h2, div100 (by rw [t4]; omega) (by rw [t4]; omega), t4]
  split <;> omega
/-! The law's own numbers. -/
def ccN (σ : AS) (k : Nat) : Nat := σ.2 7 k + 128 * σ.2 8 k + 512 * σ.2 9 k + 4096 * σ.2 10 k
def ddN (σ : AS) (k : Nat) : Nat := liftN (σ.1 2 k) (σ.1 3 k) (σ.2 11 k) + 32 * σ.2 2 k
def LSt (σ : AS) (v : VT) (M : MS) : Prop := (∀ k, k < aN σ → gI M 60 k = nI (ccN σ k)) ∧ (∀ k, k < 4 → gI M 61 k = nI (ddN σ k)) ∧ (∀ k, k < 64 → gI M 62 k = σ.1 0 k) ∧ (∀ k, k < 64 → gI M 63 k = v.1 k) ∧ (∀ k, k < 10 → gI M 64 k = v.2 k) ∧ (∀ k, k < 32 → gI M 65 k = nI (σ.2 3 k)) ∧ gI M 66 0 = nI (aN σ) ∧ gI M 66 1 = nI (ctN (pres σ) 40) ∧ gI M 66 2 = nI (σ.2 4 0) ∧ gI M 66 3 = nI (σ.2 5 0)
def KPm (M M1' : MS) : Prop := ∀ p k, 60 ≤ p → p ≤ 84 → gI M1' p k = gI M p k
theorem KPm.rf {M : MS} : KPm M M := fun _ _ _ _ => rfl
theorem KPm.trans {M M1 M2 : MS} (h : KPm M M1) (h2 : KPm M1 M2) : KPm M M2 := fun p k a b => (h2 p k a b).trans (h p k a b)
theorem KPm.oA {M M1 : MS} (h : oA XSx M M1) : KPm M M1 := fun p k a b => (h p k (fun z => by unfold XSx at z; omega)).1
theorem LSt.kp {σ : AS} {v : VT} {M M1 : MS} (h : LSt σ v M) (e : KPm M M1) : LSt σ v M1 := by
  obtain ⟨h1, h2, h3, h4, h5, h6, h7, h8, h9, h10⟩ := h
  exact ⟨fun k hk => (e _ _ (by omega) (by omega)).trans (h1 k hk), fun k hk => (e _ _ (by omega) (by omega)).trans (h2 k hk), fun k hk => (e _ _ (by omega) (by omega)).trans (h3 k hk), fun k hk => (e _ _ (by omega) (by omega)).trans (h4 k hk), fun k hk => (e _ _ (by omega) (by omega)).trans (h5 k hk), fun k hk => (e _ _ (by omega) (by omega)).trans (h6 k hk), (e _ _ (by omega) (by omega)).trans h7, (e _ _ (by omega) (by omega)).trans h8, (e _ _ (by omega) (by omega)).trans h9, (e _ _ (by omega) (by omega)).trans h10⟩
theorem cc_b {σ : AS} (ok : AOK σ) {k : Nat} (hk : k < aN σ) : σ.2 7 k ≤ 100 ∧ σ.2 8 k < 4 ∧ σ.2 9 k < 6 ∧ σ.2 10 k ≤ 1 := ok.2.2.2.2.2.2.1 k hk
theorem cc_lt {σ : AS} (ok : AOK σ) {k : Nat} (hk : k < aN σ) : ccN σ k < 8192 ∧ (ccN σ k < 4096 ↔ σ.2 10 k = 0) ∧ ccN σ k % 128 = σ.2 7 k ∧ ccN σ k / 128 % 4 = σ.2 8 k := by
  obtain ⟨b1, b2, b3, b4⟩ := cc_b ok hk
  unfold ccN
  omega
theorem kd_ok {σ : AS} (ok : AOK σ) {k : Nat} (hk : k < 4) : σ.2 2 k ≤ 3 ∧ FlT (σ.1 2 k) (σ.1 3 k) (σ.2 11 k) ∧ (1 ≤ (σ.1 2 k).toInt ∧ (σ.1 2 k).toInt ≤ 200) ∧ 1 ≤ (σ.1 3 k).toInt ∧ (σ.1 3 k).toInt ≤ 100 :=
  ⟨ok.2.2.1 k hk, ok.2.2.2.2.2.2.2.1 k hk, (ok.2.2.2.2.2.2.2.2.2.2 k hk).1, (ok.2.2.2.2.2.2.2.2.2.2 k hk).2⟩
theorem dd_lt {σ : AS} (ok : AOK σ) {k : Nat} (hk : k < 4) : ddN σ k < 128 ∧ ddN σ k / 32 = σ.2 2 k ∧ ddN σ k % 32 = liftN (σ.1 2 k) (σ.1 3 k) (σ.2 11 k) := by
  obtain ⟨h1, h2, h3, h4⟩ := kd_ok ok hk
  have := lift_is h3 h4 h2
  unfold ddN
  omega
/-- whether a zone is near -/
theorem near_is {σ : AS} (ok : AOK σ) {i k : Nat} (hi : i < aN σ) (hk : k < 64) {col lin u1 u2 u3 u4 : Int32} (ec : col = jfd (falX σ i) 100) (el : lin = jfd (falY σ i) 100) (e1 : u1 = nI (k % 8) - col) (e2 : u2 = col - nI (k % 8)) (e3 : u3 = nI (k / 8) - lin) (e4 : u4 = lin - nI (k / 8)) :
    zonB σ i k = decide (¬ nI (σ.2 2 (σ.2 8 i)) < u1 ∧ ¬ nI (σ.2 2 (σ.2 8 i)) < u2 ∧ ¬ nI (σ.2 2 (σ.2 8 i)) < u3 ∧ ¬ nI (σ.2 2 (σ.2 8 i)) < u4) := by
  obtain ⟨⟨a1, a2⟩, a3, a4⟩ := fal_bd ok hi
  have c1 : col.toInt = colZ σ i := by rw [ec, jfd100 (by omega) (by omega)]; rfl
  have c2 : lin.toInt = linZ σ i := by rw [el, jfd100 (by omega) (by omega)]; rfl
  have r1 : -3000 ≤ colZ σ i ∧ colZ σ i ≤ 3010 := by unfold colZ; omega
  have r2 : -3000 ≤ linZ σ i ∧ linZ σ i ≤ 3010 := by unfold linZ; omega
  have n1 := nI_toInt (n := k % 8) (by omega)
  have n2 := nI_toInt (n := k / 8) (by omega)
  have hr := (kd_ok ok (cc_b ok hi).2.1).1
  have n3 := nI_toInt (n := σ.2 2 (σ.2 8 i)) (by omega)
  have t1 : u1.toInt = (k % 8 : Nat) - colZ σ i := by rw [e1, i32sub (by omega) (by omega), n1, c1]
  have t2 : u2.toInt = colZ σ i - (k % 8 : Nat) := by rw [e2, i32sub (by omega) (by omega), n1, c1]
  have t3 : u3.toInt = (k / 8 : Nat) - linZ σ i := by rw [e3, i32sub (by omega) (by omega), n2, c2]
  have t4 : u4.toInt = linZ σ i - (k / 8 : Nat) := by rw [e4, i32sub (by omega) (by omega), n2, c2]
  unfold zonB inZ
  rw [decide_eq_decide, i32lt, i32lt, i32lt, i32lt, t1, t2, t3, t4, n3]
  omega
/-- struck, zone by zone -/
def stkT (σ : AS) (i k : Nat) : Bool := (List.range k).any fun j => decide (0 < σ.1 0 j) && zonB σ i j
theorem stkT_s (σ : AS) (i k : Nat) : stkT σ i (k + 1) = (stkT σ i k || (decide (0 < σ.1 0 k) && zonB σ i k)) := by
  unfold stkT; rw [List.range_succ, List.any_append]; simp
theorem stkT_64 (σ : AS) (i : Nat) : stkT σ i 64 = stkB σ i := rfl
theorem bur_eq (σ : AS) (i : Nat) : burI σ i - tkI σ i = nI (liA σ i) := by
  unfold tkI
  generalize burI σ i = a
  generalize nI (liA σ i) = b
  rw [Int32.sub_eq_add_neg, Int32.sub_eq_add_neg, Int32.neg_add, Int32.sub_eq_add_neg, Int32.neg_neg, ← Int32.add_assoc, Int32.add_right_neg, Int32.zero_add]
theorem pb_hi {σ : AS} {b k : Nat} (h : aN σ ≤ k) : pb σ b k = false := decide_eq_false (fun z => by omega)
theorem pbs_hi {σ : AS} {b k : Nat} (h : aN σ ≤ k) : pbs σ b k = false := by unfold pbs; rw [pb_hi h]; rfl
theorem pres_hi {σ : AS} {k : Nat} (h : aN σ ≤ k) : pres σ k = false := pres_f (fun z => by omega)
theorem cu_y {σ : AS} {x : Int32} {i : Nat} (e : x = nI i) (h : i < aN σ) (g : σ.2 10 i = 0) : cuB σ x = true := by rw [e]; exact cuB_yes h g
theorem cu_n {σ : AS} {x : Int32} {i : Nat} (o1 : aN σ ≤ 40) (e : x = nI i) (hi : i ≤ 40) (h : ¬ (i < aN σ ∧ σ.2 10 i = 0)) : cuB σ x = false :=
  cuB_no (fun j hj ej gj => h (by rw [show i = j from (nI_eq (by omega) (by omega)).mp (e.symm.trans ej)]; exact ⟨hj, gj⟩))
theorem n1e {x : Int32} {i : Nat} (e : x = nI i) (h : i < 2 ^ 31) : n1 x = i := by rw [e]; exact n1_nI h
theorem in_t {x : Int32} {i n : Nat} (e : x = nI i) (h : i ≤ n) (hn : n < 2 ^ 31) : inB x 0 (nI n) = true := by unfold inB; rw [e, nI_out h hn]; rfl
theorem in_t1 {x : Int32} {i n : Nat} (e : x = nI i) (h1 : 1 ≤ i) (h : i ≤ n) (hn : n < 2 ^ 31) : inB x 1 (nI n) = true := by
  refine inB_t (fun q => ?_)
  rw [e, i32lt, i32lt, nI_toInt (by omega), nI_toInt hn, show (1 : Int32).toInt = 1 from rfl] at q
  omega

/-! What the setters leave of the law's own numbers. -/
theorem zo_t {c l : Int32} {x y : Nat} (ec : c = nI x) (el : l = nI y) (hx : x < 8) (hy : y < 8) : zoB c l = true := by
  unfold zoB
  rw [show inB c 0 7 = true from in_t (n := 7) ec (by omega) (by decide), show inB l 0 7 = true from in_t (n := 7) el (by omega) (by decide)]; rfl
theorem and_t {a b : Bool} (ha : a = true) (hb : b = true) : (a && b) = true := by rw [ha, hb]; rfl
theorem wd_in {x y : Int32} {j : Nat} (e : x = nI j) (hj : j < 61) (ey : y = x - 30) : inB y (-100) 100 = true ∧ -30 ≤ y.toInt ∧ y.toInt ≤ 30 := by
  have c : (30 : Int32).toInt = 30 := rfl
  have t : y.toInt = (j : Int) - 30 := by rw [ey, e, i32sub (by rw [nI_toInt (by omega), c]; omega) (by rw [nI_toInt (by omega), c]; omega), nI_toInt (by omega), c]
  refine ⟨inB_t (fun q => ?_), by omega, by omega⟩
  rw [i32lt, i32lt, t, show (-100 : Int32).toInt = -100 from rfl, show (100 : Int32).toInt = 100 from rfl] at q
  omega
theorem lift_fl {x y : Int32} {a b : Nat} (ex : x = nI a) (ey : y = nI b) (ha : 1 ≤ a ∧ a ≤ 200) (hb : 1 ≤ b ∧ b ≤ 100) : liftN x y (flN x y) = (a + 9) / 10 := by
  have tx : x.toInt = a := by rw [ex, nI_toInt (by omega)]
  have ty : y.toInt = b := by rw [ey, nI_toInt (by omega)]
  have h1 : 1 ≤ x.toInt ∧ x.toInt ≤ 200 := by omega
  have h2 : 1 ≤ y.toInt ∧ y.toInt ≤ 100 := by omega
  rw [(lift_is h1 h2 (flN_ok h1 h2)).1, tx]
  congr 2
theorem cu_pres {σ : AS} {x : Int32} {i : Nat} (o1 : aN σ ≤ 40) (e : x = nI i) (hi : i ≤ 40) : cuB σ x = pres σ i := by
  cases hp : pres σ i with
  | true =>
    unfold pres at hp
    have := of_decide_eq_true hp
    exact cu_y e this.1 this.2
  | false =>
    unfold pres at hp
    exact cu_n o1 e hi (of_decide_eq_false hp)
theorem bec_is {σ : AS} {q : Nat → Nat} {c i : Nat} {x y : Int32} (hs : Srt σ 40 q c) (o1 : aN σ ≤ 40) (e : x = nI i) (hi : i < 40) (r : y = if cuB σ x = true then nI (fateA σ q c (n1 x)) else -1000001) : y = 1 ↔ stP σ i = true := by
  rw [cu_pres o1 e (by omega), n1e e (by omega)] at r
  unfold stP
  cases hp : pres σ i with
  | true =>
    rw [hp, if_pos rfl] at r
    rw [r, Bool.true_and]
    exact fa_stk hs hi
  | false =>
    rw [hp, if_neg (by decide)] at r
    rw [r]
    constructor
    · intro z; exact absurd z (by decide)
    · intro z; cases z
theorem stP_hi {σ : AS} {k : Nat} (h : aN σ ≤ k) : stP σ k = false := by unfold stP; rw [pres_hi h]; rfl
theorem ctN_64 {p : Nat → Bool} {n : Nat} (hn : n ≤ 40) (h : ∀ k, n ≤ k → p k = false) : ctN p 64 = ctN p n := by
  have := ctN_up (p := p) (n := n) (64 - n) h
  rw [show n + (64 - n) = 64 by omega] at this; exact this
theorem LS_rack {σ : AS} {v : VT} {M : MS} {r c l : Nat} (h : LSt σ v M) : LSt (oRack σ r c l) v M := h
theorem LS_wind {σ : AS} {v : VT} {M : MS} {w : Nat} {x y : Int32} (h : LSt σ v M) : LSt (oWind σ w x y) v M := h
theorem rack_old (σ : AS) (r c l : Nat) : 8 * (oRack σ r c l).2 1 r + (oRack σ r c l).2 0 r = 8 * l + c := by
  simp [oRack, uN]
/-- all but one cell of the law's own -/
def KPx (P J : Nat) (M M1 : MS) : Prop := ∀ p k, 60 ≤ p → p ≤ 66 → ¬ (p = P ∧ k = J) → gI M1 p k = gI M p k
theorem KPx.sI {P J : Nat} {M : MS} {x : Int32} : KPx P J M (sI M P J x) := fun p k _ _ h => kp_sI h
theorem KPx.kp {P J : Nat} {M M1 M2 : MS} (h : KPx P J M M1) (e : KPm M1 M2) : KPx P J M M2 := fun p k a b z => (e p k a (by omega)).trans (h p k a b z)
theorem LS_shell {σ : AS} {v : VT} {M M1 : MS} {k rd : Nat} {x y : Int32} (h : LSt σ v M) (e : KPx 61 k M M1) (e1 : gI M1 61 k = nI (liftN x y (flN x y) + 32 * rd)) : LSt (oShell σ k x y rd) v M1 := by
  obtain ⟨h1, h2, h3, h4, h5, h6, h7, h8, h9, h10⟩ := h
  refine ⟨fun j hj => (e _ _ (by omega) (by omega) (by omega)).trans (h1 j hj), fun j hj => ?_, fun j hj => (e _ _ (by omega) (by omega) (by omega)).trans (h3 j hj), fun j hj => (e _ _ (by omega) (by omega) (by omega)).trans (h4 j hj), fun j hj => (e _ _ (by omega) (by omega) (by omega)).trans (h5 j hj), fun j hj => (e _ _ (by omega) (by omega) (by omega)).trans (h6 j hj), (e _ _ (by omega) (by omega) (by omega)).trans h7, (e _ _ (by omega) (by omega) (by omega)).trans h8, (e _ _ (by omega) (by omega) (by omega)).trans h9, (e _ _ (by omega) (by omega) (by omega)).trans h10⟩
  by_cases z : j = k
  · subst z
    rw [e1]
    have : ddN (oShell σ j x y rd) j = liftN x y (flN x y) + 32 * rd := by simp [ddN, oShell, uI, uN]
    rw [this]
  · rw [e _ _ (by omega) (by omega) (by omega), h2 j hj]
    have : ddN (oShell σ k x y rd) j = ddN σ j := by simp [ddN, oShell, uI, uN, z]
    rw [this]
theorem LS_peop {σ : AS} {v : VT} {M M1 : MS} {z : Nat} {x : Int32} (h : LSt σ v M) (e : KPx 62 z M M1) (e1 : gI M1 62 z = x) : LSt (oPeop σ z x) v M1 := by
  obtain ⟨h1, h2, h3, h4, h5, h6, h7, h8, h9, h10⟩ := h
  refine ⟨fun j hj => (e _ _ (by omega) (by omega) (by omega)).trans (h1 j hj), fun j hj => (e _ _ (by omega) (by omega) (by omega)).trans (h2 j hj), fun j hj => ?_, fun j hj => (e _ _ (by omega) (by omega) (by omega)).trans (h4 j hj), fun j hj => (e _ _ (by omega) (by omega) (by omega)).trans (h5 j hj), fun j hj => (e _ _ (by omega) (by omega) (by omega)).trans (h6 j hj), (e _ _ (by omega) (by omega) (by omega)).trans h7, (e _ _ (by omega) (by omega) (by omega)).trans h8, (e _ _ (by omega) (by omega) (by omega)).trans h9, (e _ _ (by omega) (by omega) (by omega)).trans h10⟩
  show _ = if 0 = 0 ∧ j = z then x else σ.1 0 j
  by_cases hz : j = z
  · rw [if_pos ⟨rfl, hz⟩, hz]; exact e1
  · rw [if_neg (fun w => hz w.2), e _ _ (by omega) (by omega) (by omega)]; exact h3 j hj
theorem peop_is (σ : AS) (z : Nat) (x : Int32) {M : MS} (h : ∀ k, k < 64 → gI M 62 k = σ.1 0 k) {j : Nat} (hj : j < 64) : gI (sI M 62 z x) 62 j = (oPeop σ z x).1 0 j := by
  show _ = if 0 = 0 ∧ j = z then x else σ.1 0 j
  rw [gI_sI]
  by_cases hz : j = z
  · rw [if_pos ⟨rfl, hz⟩, if_pos ⟨rfl, hz⟩]
  · rw [if_neg (fun w => hz w.2), if_neg (fun w => hz w.2)]; exact h j hj
theorem LS_val {σ : AS} {v : VT} {M M1 : MS} {z : Nat} {x : Int32} (h : LSt σ v M) (e : KPx 63 z M M1) (e1 : gI M1 63 z = x) : LSt σ (fun k => if k = z then x else v.1 k, v.2) M1 := by
  obtain ⟨h1, h2, h3, h4, h5, h6, h7, h8, h9, h10⟩ := h
  refine ⟨fun j hj => (e _ _ (by omega) (by omega) (by omega)).trans (h1 j hj), fun j hj => (e _ _ (by omega) (by omega) (by omega)).trans (h2 j hj), fun j hj => (e _ _ (by omega) (by omega) (by omega)).trans (h3 j hj), fun j hj => ?_, fun j hj => (e _ _ (by omega) (by omega) (by omega)).trans (h5 j hj), fun j hj => (e _ _ (by omega) (by omega) (by omega)).trans (h6 j hj), (e _ _ (by omega) (by omega) (by omega)).trans h7, (e _ _ (by omega) (by omega) (by omega)).trans h8, (e _ _ (by omega) (by omega) (by omega)).trans h9, (e _ _ (by omega) (by omega) (by omega)).trans h10⟩
  show _ = if j = z then x else v.1 j
  by_cases hz : j = z
  · rw [if_pos hz, hz]; exact e1
  · rw [if_neg hz, e _ _ (by omega) (by omega) (by omega)]; exact h4 j hj
theorem LS_rate {σ : AS} {v : VT} {M M1 : MS} {z : Nat} {x : Int32} (h : LSt σ v M) (e : KPx 64 z M M1) (e1 : gI M1 64 z = x) : LSt σ (v.1, fun k => if k = z then x else v.2 k) M1 := by
  obtain ⟨h1, h2, h3, h4, h5, h6, h7, h8, h9, h10⟩ := h
  refine ⟨fun j hj => (e _ _ (by omega) (by omega) (by omega)).trans (h1 j hj), fun j hj => (e _ _ (by omega) (by omega) (by omega)).trans (h2 j hj), fun j hj => (e _ _ (by omega) (by omega) (by omega)).trans (h3 j hj), fun j hj => (e _ _ (by omega) (by omega) (by omega)).trans (h4 j hj), fun j hj => ?_, fun j hj => (e _ _ (by omega) (by omega) (by omega)).trans (h6 j hj), (e _ _ (by omega) (by omega) (by omega)).trans h7, (e _ _ (by omega) (by omega) (by omega)).trans h8, (e _ _ (by omega) (by omega) (by omega)).trans h9, (e _ _ (by omega) (by omega) (by omega)).trans h10⟩
  show _ = if j = z then x else v.2 j
  by_cases hz : j = z
  · rw [if_pos hz, hz]; exact e1
  · rw [if_neg hz, e _ _ (by omega) (by omega) (by omega)]; exact h5 j hj
theorem LS_kill {σ : AS} {v : VT} {M M1 : MS} {z : Nat} (h : LSt σ v M) (e : KPx 65 z M M1) (e1 : gI M1 65 z = nI (1 - σ.2 3 z)) : LSt (oKill σ z) v M1 := by
  obtain ⟨h1, h2, h3, h4, h5, h6, h7, h8, h9, h10⟩ := h
  refine ⟨fun j hj => (e _ _ (by omega) (by omega) (by omega)).trans (h1 j hj), fun j hj => (e _ _ (by omega) (by omega) (by omega)).trans (h2 j hj), fun j hj => (e _ _ (by omega) (by omega) (by omega)).trans (h3 j hj), fun j hj => (e _ _ (by omega) (by omega) (by omega)).trans (h4 j hj), fun j hj => (e _ _ (by omega) (by omega) (by omega)).trans (h5 j hj), fun j hj => ?_, (e _ _ (by omega) (by omega) (by omega)).trans h7, (e _ _ (by omega) (by omega) (by omega)).trans h8, (e _ _ (by omega) (by omega) (by omega)).trans h9, (e _ _ (by omega) (by omega) (by omega)).trans h10⟩
  show _ = nI (if 3 = 3 ∧ j = z then 1 - σ.2 3 z else σ.2 3 j)
  by_cases hz : j = z
  · rw [if_pos ⟨rfl, hz⟩, hz]; exact e1
  · rw [if_neg (fun w => hz w.2), e _ _ (by omega) (by omega) (by omega)]; exact h6 j hj
theorem LS_gap {σ : AS} {v : VT} {M M1 : MS} {n : Nat} (h : LSt σ v M) (e : KPx 66 3 M M1) (e1 : gI M1 66 3 = nI n) : LSt (oGap σ n) v M1 := by
  obtain ⟨h1, h2, h3, h4, h5, h6, h7, h8, h9, h10⟩ := h
  exact ⟨fun j hj => (e _ _ (by omega) (by omega) (by omega)).trans (h1 j hj), fun j hj => (e _ _ (by omega) (by omega) (by omega)).trans (h2 j hj), fun j hj => (e _ _ (by omega) (by omega) (by omega)).trans (h3 j hj), fun j hj => (e _ _ (by omega) (by omega) (by omega)).trans (h4 j hj), fun j hj => (e _ _ (by omega) (by omega) (by omega)).trans (h5 j hj), fun j hj => (e _ _ (by omega) (by omega) (by omega)).trans (h6 j hj), (e _ _ (by omega) (by omega) (by omega)).trans h7, (e _ _ (by omega) (by omega) (by omega)).trans h8, (e _ _ (by omega) (by omega) (by omega)).trans h9, e1⟩
theorem LS_temp {σ : AS} {v : VT} {M M1 : MS} {n : Nat} (h : LSt σ v M) (e : KPx 66 2 M M1) (e1 : gI M1 66 2 = nI n) : LSt (oTemp σ n) v M1 := by
  obtain ⟨h1, h2, h3, h4, h5, h6, h7, h8, h9, h10⟩ := h
  exact ⟨fun j hj => (e _ _ (by omega) (by omega) (by omega)).trans (h1 j hj), fun j hj => (e _ _ (by omega) (by omega) (by omega)).trans (h2 j hj), fun j hj => (e _ _ (by omega) (by omega) (by omega)).trans (h3 j hj), fun j hj => (e _ _ (by omega) (by omega) (by omega)).trans (h4 j hj), fun j hj => (e _ _ (by omega) (by omega) (by omega)).trans (h5 j hj), fun j hj => (e _ _ (by omega) (by omega) (by omega)).trans (h6 j hj), (e _ _ (by omega) (by omega) (by omega)).trans h7, (e _ _ (by omega) (by omega) (by omega)).trans h8, e1, (e _ _ (by omega) (by omega) (by omega)).trans h10⟩
theorem LS_m67 {σ : AS} {v : VT} {M : MS} (h : LSt σ v M) : LSt σ v (m67 M) := by
  obtain ⟨h1, h2, h3, h4, h5, h6, h7, h8, h9, h10⟩ := h
  exact ⟨fun k hk => (m67_I (by omega)).trans (h1 k hk), fun k hk => (m67_I (by omega)).trans (h2 k hk), fun k hk => (m67_I (by omega)).trans (h3 k hk), fun k hk => (m67_I (by omega)).trans (h4 k hk), fun k hk => (m67_I (by omega)).trans (h5 k hk), fun k hk => (m67_I (by omega)).trans (h6 k hk), (m67_I (by omega)).trans h7, (m67_I (by omega)).trans h8, (m67_I (by omega)).trans h9, (m67_I (by omega)).trans h10⟩
theorem LS_67 {σ : AS} {v : VT} {M : MS} {j : Nat} {x : Int32} (h : LSt σ v M) : LSt σ v (sI M 67 j x) := by
  obtain ⟨h1, h2, h3, h4, h5, h6, h7, h8, h9, h10⟩ := h
  exact ⟨fun k hk => (kp_sI (by omega)).trans (h1 k hk), fun k hk => (kp_sI (by omega)).trans (h2 k hk), fun k hk => (kp_sI (by omega)).trans (h3 k hk), fun k hk => (kp_sI (by omega)).trans (h4 k hk), fun k hk => (kp_sI (by omega)).trans (h5 k hk), fun k hk => (kp_sI (by omega)).trans (h6 k hk), (kp_sI (by omega)).trans h7, (kp_sI (by omega)).trans h8, (kp_sI (by omega)).trans h9, (kp_sI (by omega)).trans h10⟩
theorem l67_lt {sh : Nat → Option Sh} (h : L67 sh) {t : Nat} (ht : sh t ≠ none) : t < 1000 := by
  cases hy : sh t with
  | none => exact absurd hy ht
  | some y => exact (h.2 t y hy).1

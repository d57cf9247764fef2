/-! A flight comes down: a bound; what holds on the way. -/
def FlJ (a : Int32) (t : Nat) (u : Int32 × Int32 × Int32 × Int32) : Prop :=
  (u.2.2.1 = 0 ∧ u.2.2.2 = 0 ∧ 0 < u.1.toInt ∧ u.1.toInt ≤ 200 ∧ 0 ≤ u.2.1.toInt ∧ u.2.1.toInt ≤ 200 * t) ∨
  (u.2.2.1 = 1 ∧ -10 ≤ u.1.toInt ∧ u.1.toInt ≤ 0 ∧ -100 ≤ u.2.1.toInt ∧ u.2.1.toInt ≤ 200 * t ∧ ((u.2.2.2 = 0 ∧ 0 < u.2.1.toInt) ∨ (u.2.2.2 = 1 ∧ u.2.1.toInt ≤ 0)))
theorem bI_le {x : Int32} : (le0 x = 0 ∧ 0 < x.toInt) ∨ (le0 x = 1 ∧ x.toInt ≤ 0) := by
  have z : (0 : Int32).toInt = 0 := rfl
  by_cases h : x ≤ 0
  · right
    refine ⟨by simp [le0, bI, h], ?_⟩
    rw [i32le, z] at h; exact h
  · left
    refine ⟨by simp [le0, bI, h], ?_⟩
    rw [i32le, z] at h; omega
theorem FlJ_step {a b : Int32} {t : Nat} {u : Int32 × Int32 × Int32 × Int32} (hb : 1 ≤ b.toInt ∧ b.toInt ≤ 100) (ht : t ≤ 3000) (h : FlJ a t u) (hl : u.2.2.2 = 0) : FlJ a (t + 1) (hstep b u) := by
  obtain ⟨v, x, bf, lf⟩ := u
  unfold FlJ at h
  dsimp only at h hl
  have e10 : (10 : Int32).toInt = 10 := rfl
  rcases h with ⟨h1, h2, h3, h4, h5, h6⟩ | ⟨h1, h2, h3, h4, h5, h6⟩
  · have es : (v - 10).toInt = v.toInt - 10 := by rw [i32sub] <;> rw [e10] <;> omega
    have ea : (x + v).toInt = x.toInt + v.toInt := i32add (by omega) (by omega)
    unfold hstep FlJ
    dsimp only
    rw [if_pos h1]
    dsimp only
    rcases bI_le (x := v - 10) with ⟨q1, q2⟩ | ⟨q1, q2⟩
    · left
      exact ⟨q1, h2, by omega, by omega, by omega, by rw [ea]; omega⟩
    · right
      exact ⟨q1, by omega, by omega, by omega, by rw [ea]; omega, Or.inl ⟨h2, by omega⟩⟩
  · have hx : 0 < x.toInt := by
      rcases h6 with ⟨-, q⟩ | ⟨q, -⟩
      · exact q
      · rw [q] at hl; exact absurd hl (by decide)
    have es : (x - b).toInt = x.toInt - b.toInt := i32sub (by omega) (by omega)
    unfold hstep FlJ
    dsimp only
    rw [if_neg (by rw [h1]; decide)]
    dsimp only
    right
    refine ⟨h1, h2, h3, by omega, by rw [es]; omega, ?_⟩
    rcases bI_le (x := x - b) with ⟨q1, q2⟩ | ⟨q1, q2⟩
    · exact Or.inl ⟨q1, q2⟩
    · exact Or.inr ⟨q1, q2⟩
theorem FlJ_0 {a : Int32} (ha : 1 ≤ a.toInt ∧ a.toInt ≤ 200) : FlJ a 0 (a, 0, 0, 0) := by
  have z : (0 : Int32).toInt = 0 := rfl
  exact Or.inl ⟨rfl, rfl, by dsimp only; omega, by dsimp only; omega, by dsimp only; omega, by dsimp only; omega⟩
theorem FlJ_at {a b : Int32} (ha : 1 ≤ a.toInt ∧ a.toInt ≤ 200) (hb : 1 ≤ b.toInt ∧ b.toInt ≤ 100) : ∀ t, t ≤ 3000 → (∀ m, m < t → (hsq a b m).2.2.2 = 0) → FlJ a t (hsq a b t)
  | 0, _, _ => FlJ_0 ha
  | t + 1, ht, h => FlJ_step hb (by omega) (FlJ_at ha hb t (by omega) (fun m hm => h m (by omega))) (h t (by omega))
/-- what is left of a flight, twenty times -/
def FlM (u : Int32 × Int32 × Int32 × Int32) : Int := 20 * u.2.1.toInt + (if 0 < u.1.toInt then u.1.toInt * u.1.toInt + 12 * u.1.toInt + 40 else 0)
theorem sq10 (v : Int) : (v - 10) * (v - 10) = v * v - 20 * v + 100 := by
  rw [Int.sub_mul, Int.mul_sub, Int.mul_sub]; omega
theorem sq4 (v : Int) : 0 ≤ v * v - 8 * v + 16 := by
  have h : (v - 4) * (v - 4) = v * v - 8 * v + 16 := by rw [Int.sub_mul, Int.mul_sub, Int.mul_sub]; omega
  rw [← h]
  rcases Int.le_total 0 (v - 4) with q | q
  · exact Int.mul_nonneg q q
  · have : 0 ≤ -(v - 4) * -(v - 4) := Int.mul_nonneg (by omega) (by omega)
    rw [Int.neg_mul_neg] at this; exact this
theorem FlM_step {a b : Int32} {t : Nat} {u : Int32 × Int32 × Int32 × Int32} (hb : 1 ≤ b.toInt ∧ b.toInt ≤ 100) (ht : t ≤ 3000) (h : FlJ a t u) (hl : u.2.2.2 = 0) : FlM (hstep b u) + 20 ≤ FlM u := by
  obtain ⟨v, x, bf, lf⟩ := u
  unfold FlJ at h
  dsimp only at h hl
  have e10 : (10 : Int32).toInt = 10 := rfl
  rcases h with ⟨h1, h2, h3, h4, h5, h6⟩ | ⟨h1, h2, h3, h4, h5, h6⟩
  · have es : (v - 10).toInt = v.toInt - 10 := by rw [i32sub] <;> rw [e10] <;> omega
    have ea : (x + v).toInt = x.toInt + v.toInt := i32add (by omega) (by omega)
    unfold hstep FlM
    dsimp only
    rw [if_pos h1]
    dsimp only
    rw [es, ea, if_pos h3]
    have q1 := sq10 v.toInt
    have q2 := sq4 v.toInt
    split <;> omega
  · have hx : 0 < x.toInt := by
      rcases h6 with ⟨-, q⟩ | ⟨q, -⟩
      · exact q
      · rw [q] at hl; exact absurd hl (by decide)
    have es : (x - b).toInt = x.toInt - b.toInt := i32sub (by omega) (by omega)
    unfold hstep FlM
    dsimp only
    rw [if_neg (by rw [h1]; decide)]
    dsimp only
    rw [es, if_neg (by omega)]
    omega
theorem FlM_at {a b : Int32} (ha : 1 ≤ a.toInt ∧ a.toInt ≤ 200) (hb : 1 ≤ b.toInt ∧ b.toInt ≤ 100) : ∀ t, t ≤ 3000 → (∀ m, m < t → (hsq a b m).2.2.2 = 0) → FlM (hsq a b t) + 20 * t ≤ 42440
  | 0, _, _ => by
    have z : (0 : Int32).toInt = 0 := rfl
    unfold hsq FlM
    dsimp only
    rw [z, if_pos (by omega)]
    have : a.toInt * a.toInt ≤ 200 * 200 := Int.mul_le_mul ha.2 ha.2 (by omega) (by omega)
    omega
  | t + 1, ht, h => by
    have i := FlM_at ha hb t (by omega) (fun m hm => h m (by omega))
    have s := FlM_step hb (show t ≤ 3000 by omega) (FlJ_at ha hb t (by omega) (fun m hm => h m (by omega))) (h t (by omega))
    show FlM (hstep b (hsq a b t)) + 20 * ((t + 1 : Nat) : Int) ≤ 42440
    omega
theorem FlJ_le {a : Int32} {t : Nat} {u : Int32 × Int32 × Int32 × Int32} (h : FlJ a t u) (hl : u.2.2.2 = 0) : 0 ≤ FlM u := by
  obtain ⟨v, x, bf, lf⟩ := u
  unfold FlJ at h
  dsimp only at h hl
  unfold FlM
  dsimp only
  rcases h with ⟨h1, h2, h3, h4, h5, h6⟩ | ⟨h1, h2, h3, h4, h5, h6⟩
  · rw [if_pos h3]
    have : 0 ≤ v.toInt * v.toInt := Int.mul_nonneg (by omega) (by omega)
    omega
  · rw [if_neg (by omega)]
    rcases h6 with ⟨-, q⟩ | ⟨q, -⟩
    · omega
    · rw [q] at hl; exact absurd hl (by decide)
theorem flT_ex {a b : Int32} (ha : 1 ≤ a.toInt ∧ a.toInt ≤ 200) (hb : 1 ≤ b.toInt ∧ b.toInt ≤ 100) : ∃ N, FlT a b N := by
  have ex : ∃ N, ¬ (hsq a b N).2.2.2 = 0 := by
    apply Classical.byContradiction
    intro hn
    have all : ∀ m, (hsq a b m).2.2.2 = 0 := fun m => Decidable.byContradiction (fun q => hn ⟨m, q⟩)
    have h1 := FlM_at ha hb 2500 (by omega) (fun m _ => all m)
    have h2 := FlJ_le (FlJ_at ha hb 2500 (by omega) (fun m _ => all m)) (all 2500)
    omega
  obtain ⟨N, h1, h2⟩ := pk_least _ ex
  refine ⟨N, h1, fun m hm => Decidable.byContradiction (fun q => h2 m hm q), ?_⟩
  rcases Nat.lt_or_ge 3000 N with q | q
  · exfalso
    have hz : ∀ m, m < 2500 → (hsq a b m).2.2.2 = 0 := fun m hm => Decidable.byContradiction (fun w => h2 m (by omega) w)
    have h3 := FlM_at ha hb 2500 (by omega) hz
    have h4 := FlJ_le (FlJ_at ha hb 2500 (by omega) hz) (Decidable.byContradiction (fun w => h2 2500 (by omega) w))
    omega
  · exact q
/-- at each tick up to the landing -/
theorem FlT_J {a b : Int32} {N t : Nat} (ha : 1 ≤ a.toInt ∧ a.toInt ≤ 200) (hb : 1 ≤ b.toInt ∧ b.toInt ≤ 100) (hN : FlT a b N) (ht : t ≤ N) : FlJ a t (hsq a b t) :=
  FlJ_at ha hb t (by have := hN.2.2; omega) (fun m hm => hN.2.1 m (by omega))
/-- it goes on just as long as it rises or is above the ground -/
theorem FlT_go {a b : Int32} {N t : Nat} (ha : 1 ≤ a.toInt ∧ a.toInt ≤ 200) (hb : 1 ≤ b.toInt ∧ b.toInt ≤ 100) (hN : FlT a b N) (ht : t ≤ N) : (0 < (hsq a b t).1 ∨ 0 < (hsq a b t).2.1) ↔ t < N := by
  have z : (0 : Int32).toInt = 0 := rfl
  have hj := FlT_J ha hb hN ht
  rw [i32lt, i32lt, z]
  constructor
  · intro h
    rcases Nat.lt_or_ge t N with q | q
    · exact q
    · exfalso
      have : t = N := by omega
      subst this
      rcases hj with ⟨h1, h2, -⟩ | ⟨h1, h2, h3, h4, h5, h6⟩
      · exact hN.1 h2
      · rcases h6 with ⟨q, -⟩ | ⟨-, q⟩
        · exact hN.1 q
        · omega
  · intro h
    have hl := hN.2.1 t h
    rcases hj with ⟨h1, h2, h3, -⟩ | ⟨h1, h2, h3, h4, h5, h6⟩
    · exact Or.inl h3
    · rcases h6 with ⟨-, q⟩ | ⟨q, -⟩
      · exact Or.inr q
      · rw [q] at hl; exact absurd hl (by decide)
theorem FlT_up {a b : Int32} {N t : Nat} (ha : 1 ≤ a.toInt ∧ a.toInt ≤ 200) (hb : 1 ≤ b.toInt ∧ b.toInt ≤ 100) (hN : FlT a b N) (ht : t ≤ N) : 0 < (hsq a b t).1 ↔ (hsq a b t).2.2.1 = 0 := by
  have z : (0 : Int32).toInt = 0 := rfl
  rw [i32lt, z]
  rcases FlT_J ha hb hN ht with ⟨h1, h2, h3, -⟩ | ⟨h1, h2, h3, -⟩
  · exact ⟨fun _ => h1, fun _ => h3⟩
  · constructor
    · intro q; omega
    · intro q; rw [h1] at q; exact absurd q (by decide)
/-- bursting stays -/
theorem bst_step (b : Int32) (u : Int32 × Int32 × Int32 × Int32) (h : ¬ u.2.2.1 = 0) : (hstep b u).2.2.1 = u.2.2.1 := by
  unfold hstep; rw [if_neg h]
theorem liftN_up {a b : Int32} : ∀ t, (hsq a b t).2.2.1 = 0 → liftN a b t = t
  | 0, _ => rfl
  | t + 1, h => by
    have h0 : (hsq a b t).2.2.1 = 0 := by
      apply Decidable.byContradiction
      intro q
      have := bst_step b (hsq a b t) q
      have h' : (hstep b (hsq a b t)).2.2.1 = 0 := h
      rw [this] at h'; exact q h'
    show liftN a b t + (if (hsq a b t).2.2.1 = 0 then 1 else 0) = t + 1
    rw [liftN_up t h0, if_pos h0]
theorem liftN_dn {a b : Int32} {t : Nat} (h : ¬ (hsq a b t).2.2.1 = 0) : ∀ d, liftN a b (t + d) = liftN a b t ∧ ¬ (hsq a b (t + d)).2.2.1 = 0
  | 0 => ⟨rfl, h⟩
  | d + 1 => by
    obtain ⟨h1, h2⟩ := liftN_dn h d
    refine ⟨?_, ?_⟩
    · show liftN a b (t + d) + (if (hsq a b (t + d)).2.2.1 = 0 then 1 else 0) = _
      rw [if_neg h2, h1, Nat.add_zero]
    · show ¬ (hstep b (hsq a b (t + d))).2.2.1 = 0
      rw [bst_step _ _ h2]; exact h2
/-- the burst comes at the tick that the lift tells -/
theorem lift_at {a b : Int32} {N : Nat} (ha : 1 ≤ a.toInt ∧ a.toInt ≤ 200) (hb : 1 ≤ b.toInt ∧ b.toInt ≤ 100) (hN : FlT a b N) : ¬ (hsq a b (liftN a b N)).2.2.1 = 0 ∧ (∀ m, m < liftN a b N → (hsq a b m).2.2.1 = 0) ∧ liftN a b N ≤ N := by
  have hbN : ¬ (hsq a b N).2.2.1 = 0 := by
    rcases FlT_J ha hb hN (Nat.le_refl _) with ⟨-, h2, -⟩ | ⟨h1, -⟩
    · exact absurd h2 hN.1
    · rw [h1]; decide
  obtain ⟨B, hB, hlow⟩ := pk_least (fun t => ¬ (hsq a b t).2.2.1 = 0) ⟨N, hbN⟩
  have hBN : B ≤ N := by
    rcases Nat.lt_or_ge N B with q | q
    · exact absurd hbN (hlow N q)
    · exact q
  have low : ∀ m, m < B → (hsq a b m).2.2.1 = 0 := fun m hm => Decidable.byContradiction (fun q => hlow m hm q)
  have hlB : liftN a b B = B := by
    cases B with
    | zero => rfl
    | succ B =>
      show liftN a b B + (if (hsq a b B).2.2.1 = 0 then 1 else 0) = B + 1
      rw [liftN_up B (low B (by omega)), if_pos (low B (by omega))]
  have hl : liftN a b N = B := by
    have := (liftN_dn hB (N - B)).1
    rw [show B + (N - B) = N by omega] at this
    rw [this, hlB]
  rw [hl]
  exact ⟨hB, low, hBN⟩

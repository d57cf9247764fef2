/-! What the law's own checks rest on. -/
theorem last_no {A : Nat → Prop} : ∀ n, ∃ P, P ≤ n ∧ (∀ j, P ≤ j → j < n → A j) ∧ (P = 0 ∨ ¬ A (P - 1))
  | 0 => ⟨0, Nat.le_refl _, fun j h1 h2 => absurd h2 (Nat.not_lt_zero _), Or.inl rfl⟩
  | n + 1 => by
    by_cases h : A n
    · obtain ⟨P, h1, h2, h3⟩ := last_no (A := A) n
      refine ⟨P, by omega, fun j a b => ?_, h3⟩
      by_cases e : j = n
      · rw [e]; exact h
      · exact h2 j a (by omega)
    · exact ⟨n + 1, Nat.le_refl _, fun j a b => absurd b (by omega), Or.inr (by rw [Nat.add_sub_cancel]; exact h)⟩
theorem srt_ex (σ : AS) : ∀ k, ∃ q c, Srt σ k q c
  | 0 => ⟨fun _ => 0, 0, Srt_0⟩
  | k + 1 => by
    obtain ⟨q, c, h⟩ := srt_ex σ k
    by_cases he : elg σ k
    · obtain ⟨P, h1, h2, h3⟩ := last_no (A := fun j => tkI σ k < tkI σ (q j)) c
      exact ⟨_, _, Srt_ins h he h1 h2 h3⟩
    · exact ⟨q, c, Srt_skip h he⟩
theorem q_inj2 {σ : AS} {k : Nat} {q : Nat → Nat} {c : Nat} (h : Srt σ k q c) {i j : Nat} (hi : i < c) (hj : j < c) (e : q i = q j) : i = j := by
  rcases Nat.lt_trichotomy i j with z | z | z
  · have := h.2.2.1 i j z hj; rw [e] at this; exact (bef_irr this).elim
  · exact z
  · have := h.2.2.1 j i z hi; rw [e] at this; exact (bef_irr this).elim
theorem bef_asy {σ : AS} {i j : Nat} (h : bef σ i j) (h' : bef σ j i) : False := by
  unfold bef at h h'
  rw [i32lt, i32eq] at h h'
  omega
theorem srt_le {σ : AS} {q q' : Nat → Nat} {c c' : Nat} (h : Srt σ 40 q c) (h' : Srt σ 40 q' c') : ∀ J, J ≤ c → J ≤ c' ∧ ∀ j, j < J → q j = q' j
  | 0, _ => ⟨Nat.zero_le _, fun j hj => absurd hj (Nat.not_lt_zero j)⟩
  | J + 1, hJ => by
    obtain ⟨i1, i2⟩ := srt_le h h' J (by omega)
    have hq := h.1 J (by omega)
    obtain ⟨j', hj', e'⟩ := h'.2.1 (q J) hq.1 hq.2
    have l1 : J ≤ j' := by
      rcases Nat.lt_or_ge j' J with z | z
      · exfalso
        have := q_inj2 h (i := j') (j := J) (by omega) (by omega) (by rw [i2 j' z, e'])
        omega
      · exact z
    have e2' : j' = J := by
      rcases Nat.lt_or_ge J j' with z | z
      · exfalso
        have hq2 := h'.1 J (by omega)
        obtain ⟨j2, hj2, e2'⟩ := h.2.1 (q' J) hq2.1 hq2.2
        have l2 : J ≤ j2 := by
          rcases Nat.lt_or_ge j2 J with y | y
          · exfalso
            have := q_inj2 h' (i := j2) (j := J) (by omega) (by omega) (by rw [← i2 j2 y, e2'])
            omega
          · exact y
        have hb := h'.2.2.1 J j' z hj'
        rw [e'] at hb
        rcases Nat.lt_or_ge J j2 with y | y
        · have hb2 := h.2.2.1 J j2 y hj2
          rw [e2'] at hb2
          exact bef_asy hb hb2
        · have : j2 = J := by omega
          rw [this] at e2'
          rw [← e2'] at hb
          exact bef_irr hb
      · omega
    subst e2'
    refine ⟨by omega, fun j hj => ?_⟩
    rcases Nat.lt_or_ge j j' with z | z
    · exact i2 j z
    · rw [show j = j' by omega]; exact e'.symm
theorem srt_uni {σ : AS} {q q' : Nat → Nat} {c c' : Nat} (h : Srt σ 40 q c) (h' : Srt σ 40 q' c') : c = c' ∧ ∀ j, j < c → q j = q' j := by
  obtain ⟨a1, a2⟩ := srt_le h h' c (Nat.le_refl _)
  obtain ⟨b1, -⟩ := srt_le h' h c' (Nat.le_refl _)
  exact ⟨by omega, a2⟩
theorem gvn_cg {σ : AS} {q q' : Nat → Nat} {c : Nat} (e : ∀ j, j < c → q j = q' j) : ∀ k, k ≤ c → gvn σ q k = gvn σ q' k
  | 0, _ => rfl
  | k + 1, hk => by
    have ih := gvn_cg (σ := σ) e k (by omega)
    rw [gvn_s, gvn_s]
    unfold chq
    rw [ih, e k (by omega)]
theorem chq_cg {σ : AS} {q q' : Nat → Nat} {c : Nat} (e : ∀ j, j < c → q j = q' j) {k : Nat} (hk : k < c) : chq σ q k = chq σ q' k := by
  unfold chq
  rw [gvn_cg (σ := σ) e k (by omega), e k hk]
theorem lit_cg {σ : AS} {q q' : Nat → Nat} {c : Nat} (e : ∀ j, j < c → q j = q' j) : ∀ k, k ≤ c → lit σ q k = lit σ q' k
  | 0, _ => rfl
  | k + 1, hk => by rw [lit_s, lit_s, lit_cg e k (by omega), chq_cg e (by omega)]
theorem posQ_cg {q q' : Nat → Nat} {c i : Nat} (e : ∀ j, j < c → q j = q' j) : posQ q c i = posQ q' c i := firstB_cong (fun d hd => by rw [e d hd])
theorem posQ_lt {q : Nat → Nat} {c i j : Nat} (h : posQ q c i = some j) : j < c := (firstB_some h).1
theorem fateA_cg {σ : AS} {q q' : Nat → Nat} {c i : Nat} (e : ∀ j, j < c → q j = q' j) : fateA σ q c i = fateA σ q' c i := by
  unfold fateA
  rw [← posQ_cg e]
  cases h : posQ q c i with
  | none => rfl
  | some j => unfold fatP; dsimp only; rw [chq_cg e (posQ_lt h)]
theorem chanA_cg {σ : AS} {q q' : Nat → Nat} {c i : Nat} (e : ∀ j, j < c → q j = q' j) : chanA σ q c i = chanA σ q' c i := by
  unfold chanA
  rw [← posQ_cg e]
  cases h : posQ q c i with
  | none => rfl
  | some j => unfold chaP; dsimp only; rw [chq_cg e (posQ_lt h)]
theorem firA_cg {σ : AS} {q q' : Nat → Nat} {c : Nat} (e : ∀ j, j < c → q j = q' j) (n : Nat) : firA σ q c n = firA σ q' c n := by
  unfold firA
  have h1 : frP σ q c n = frP σ q' c n := firstB_cong (fun d hd => by rw [lit_cg e d (by omega), chq_cg e hd])
  rw [← h1]
  cases h : frP σ q c n with
  | none => rfl
  | some j => exact e j (firstB_some h).1
theorem totA_cg {σ : AS} {v : VT} {q q' : Nat → Nat} {c : Nat} (e : ∀ j, j < c → q j = q' j) : ∀ k, totA σ v q c k = totA σ v q' c k
  | 0 => rfl
  | k + 1 => by unfold totA; rw [totA_cg e k, firA_cg e k]
theorem prA_cg {σ : AS} {v : VT} {q q' : Nat → Nat} {c i : Nat} (e : ∀ j, j < c → q j = q' j) : prA σ v q c i = prA σ v q' c i := by
  unfold prA
  rw [fateA_cg e]
/-! What an order tells, told by the one that is named. -/
theorem fate_un {σ : AS} {q q' : Nat → Nat} {c c' : Nat} (h : Srt σ 40 q c) (h' : Srt σ 40 q' c') (i : Nat) : fateA σ q' c' i = fateA σ q c i := by obtain ⟨rfl, e⟩ := srt_uni h h'; exact (fateA_cg e).symm
theorem chan_un {σ : AS} {q q' : Nat → Nat} {c c' : Nat} (h : Srt σ 40 q c) (h' : Srt σ 40 q' c') (i : Nat) : chanA σ q' c' i = chanA σ q c i := by obtain ⟨rfl, e⟩ := srt_uni h h'; exact (chanA_cg e).symm
theorem prA_un {σ : AS} {v : VT} {q q' : Nat → Nat} {c c' : Nat} (h : Srt σ 40 q c) (h' : Srt σ 40 q' c') (i : Nat) : prA σ v q' c' i = prA σ v q c i := by obtain ⟨rfl, e⟩ := srt_uni h h'; exact (prA_cg e).symm
theorem lit_un {σ : AS} {q q' : Nat → Nat} {c c' : Nat} (h : Srt σ 40 q c) (h' : Srt σ 40 q' c') : lit σ q' c' = lit σ q c := by obtain ⟨rfl, e⟩ := srt_uni h h'; exact (lit_cg e _ (Nat.le_refl _)).symm
theorem firA_un {σ : AS} {q q' : Nat → Nat} {c c' : Nat} (h : Srt σ 40 q c) (h' : Srt σ 40 q' c') (n : Nat) : firA σ q' c' n = firA σ q c n := by obtain ⟨rfl, e⟩ := srt_uni h h'; exact (firA_cg e n).symm
theorem gvn_un {σ : AS} {q q' : Nat → Nat} {c c' : Nat} (h : Srt σ 40 q c) (h' : Srt σ 40 q' c') : gvn σ q' c' = gvn σ q c := by obtain ⟨rfl, e⟩ := srt_uni h h'; exact (gvn_cg e _ (Nat.le_refl _)).symm
theorem totA_un {σ : AS} {v : VT} {q q' : Nat → Nat} {c c' : Nat} (h : Srt σ 40 q c) (h' : Srt σ 40 q' c') (n : Nat) : totA σ v q' c' n = totA σ v q c n := by obtain ⟨rfl, e⟩ := srt_uni h h'; exact (totA_cg e n).symm
theorem ifB_t {α : Type} {b : Bool} {x y : α} (h : b = true) : (if b = true then x else y) = x := if_pos h
theorem ifB_f {α : Type} {b : Bool} {x y : α} (h : b = false) : (if b = true then x else y) = y := if_neg (fun z => by rw [h] at z; cases z)
theorem or_ok {G : Bool} {P Q : Prop} (h : (G = true ∧ P) ∨ (G = false ∧ Q)) (hG : G = true) : P := by
  rcases h with ⟨-, p⟩ | ⟨z, -⟩
  · exact p
  · rw [hG] at z; cases z
theorem or_no {G : Bool} {P Q : Prop} (h : (G = true ∧ P) ∨ (G = false ∧ Q)) (hG : G = false) : Q := by
  rcases h with ⟨z, -⟩ | ⟨-, p⟩
  · rw [hG] at z; cases z
  · exact p
theorem sub_ne {s : Nat} (h : ¬ nI (1 - s) = 0) : (1 : Int32) = nI (1 - s) := by
  cases s with
  | zero => rfl
  | succ s => exact absurd (by rw [show 1 - (s + 1) = 0 by omega]; rfl) h
/-! Sums over what is chosen. -/
def sm {α : Type} (ad : α → α → α) (z : α) (p : Nat → Bool) (f : Nat → α) : Nat → α
  | 0 => z
  | k + 1 => if p k = true then ad (sm ad z p f k) (f k) else sm ad z p f k
theorem sm_s {α : Type} (ad : α → α → α) (z : α) (p : Nat → Bool) (f : Nat → α) (k : Nat) : sm ad z p f (k + 1) = if p k = true then ad (sm ad z p f k) (f k) else sm ad z p f k := rfl
theorem sm_cong {α : Type} {ad : α → α → α} {z : α} {p p' : Nat → Bool} {f f' : Nat → α} : ∀ {n : Nat}, (∀ k, k < n → p k = p' k ∧ f k = f' k) → sm ad z p f n = sm ad z p' f' n
  | 0, _ => rfl
  | n + 1, h => by rw [sm_s, sm_s, sm_cong (fun k hk => h k (by omega)), (h n (by omega)).1, (h n (by omega)).2]
theorem sm_no {α : Type} {ad : α → α → α} {z : α} {p : Nat → Bool} {f : Nat → α} : ∀ {n : Nat}, (∀ k, k < n → p k = false) → sm ad z p f n = z
  | 0, _ => rfl
  | n + 1, h => by rw [sm_s, h n (by omega), if_neg (by decide)]; exact sm_no (fun k hk => h k (by omega))
theorem sm_rm {α : Type} {ad : α → α → α} {z : α} {p : Nat → Bool} {f : Nat → α} (hc : ∀ a b, ad a b = ad b a) (ha : ∀ a b c, ad (ad a b) c = ad a (ad b c)) {i : Nat} (hp : p i = true) : ∀ {n : Nat}, i < n → sm ad z p f n = ad (sm ad z (fun k => p k && decide (k ≠ i)) f n) (f i)
  | 0, h => absurd h (Nat.not_lt_zero _)
  | n + 1, h => by
    rw [sm_s, sm_s]
    by_cases e : n = i
    · subst e
      rw [if_pos hp, hp, Bool.true_and, if_neg (by simp)]
      congr 1
      exact sm_cong (fun k hk => ⟨by rw [decide_eq_true (show k ≠ n by omega), Bool.and_true], rfl⟩)
    · have ih := sm_rm (z := z) (f := f) hc ha hp (n := n) (by omega)
      rw [decide_eq_true e, Bool.and_true]
      cases hq : p n with
      | true => rw [if_pos rfl, if_pos rfl, ih, ha, ha, hc (f i)]
      | false => rw [if_neg (by decide), if_neg (by decide), ih]
theorem sm_bij {α : Type} {ad : α → α → α} {z : α} {f : Nat → α} (hc : ∀ a b, ad a b = ad b a) (ha : ∀ a b c, ad (ad a b) c = ad a (ad b c)) {q : Nat → Nat} {T : Nat → Bool} {N : Nat} : ∀ {c : Nat} {P : Nat → Bool}, (∀ i j, i < c → j < c → T i = true → T j = true → q i = q j → i = j) → (∀ j, j < c → T j = true → q j < N) → (∀ k, k < N → (P k = true ↔ ∃ j, j < c ∧ T j = true ∧ q j = k)) → sm ad z P f N = sm ad z T (fun j => f (q j)) c
  | 0, P, _, _, h => by
    refine sm_no (fun k hk => ?_)
    cases hq : P k with
    | false => rfl
    | true => obtain ⟨j, hj, -⟩ := (h k hk).mp hq; exact absurd hj (Nat.not_lt_zero _)
  | c + 1, P, hi, hN, h => by
    rw [sm_s]
    cases hT : T c with
    | false =>
      rw [if_neg (by decide)]
      refine sm_bij hc ha (fun i j a b => hi i j (by omega) (by omega)) (fun j hj => hN j (by omega)) (fun k hk => ?_)
      rw [h k hk]
      constructor
      · rintro ⟨j, a, b, e⟩
        refine ⟨j, ?_, b, e⟩
        by_cases z : j = c
        · rw [z, hT] at b; cases b
        · omega
      · rintro ⟨j, a, b, e⟩; exact ⟨j, by omega, b, e⟩
    | true =>
      rw [if_pos rfl]
      have hq := hN c (by omega) hT
      rw [sm_rm hc ha ((h (q c) hq).mpr ⟨c, by omega, hT, rfl⟩) hq]
      congr 1
      refine sm_bij hc ha (fun i j a b => hi i j (by omega) (by omega)) (fun j hj => hN j (by omega)) (fun k hk => ?_)
      rw [Bool.and_eq_true, h k hk, decide_eq_true_iff]
      constructor
      · rintro ⟨⟨j, a, b, e⟩, ne⟩
        refine ⟨j, ?_, b, e⟩
        by_cases z : j = c
        · exact absurd (by rw [← e, z]) ne
        · omega
      · rintro ⟨j, a, b, e⟩
        exact ⟨⟨j, by omega, b, e⟩, fun z => by
          have := hi j c (by omega) (by omega) b hT (by rw [e, z])
          omega⟩
theorem ctN_sm (p : Nat → Bool) : ∀ n, ctN p n = sm (· + ·) 0 p (fun _ => 1) n
  | 0 => rfl
  | n + 1 => by
    rw [ctN_s, sm_s, ctN_sm p n]
    cases p n <;> rfl
theorem ctN_bij {q : Nat → Nat} {T P : Nat → Bool} {N c : Nat} (h1 : ∀ i j, i < c → j < c → T i = true → T j = true → q i = q j → i = j) (h2 : ∀ j, j < c → T j = true → q j < N) (h3 : ∀ k, k < N → (P k = true ↔ ∃ j, j < c ∧ T j = true ∧ q j = k)) : ctN P N = ctN T c := by
  rw [ctN_sm, ctN_sm]
  exact sm_bij Nat.add_comm Nat.add_assoc h1 h2 h3
theorem ctN_up {p : Nat → Bool} {n : Nat} : ∀ d, (∀ k, n ≤ k → p k = false) → ctN p (n + d) = ctN p n
  | 0, _ => rfl
  | d + 1, h => by rw [← Nat.add_assoc, ctN_s, h (n + d) (by omega), if_neg (by decide), ctN_up d h]; rfl
theorem ctN_40 {p : Nat → Bool} {n : Nat} (hn : n ≤ 40) (h : ∀ k, n ≤ k → p k = false) : ctN p 40 = ctN p n := by
  have := ctN_up (p := p) (n := n) (40 - n) h
  rw [show n + (40 - n) = 40 by omega] at this; exact this
/-! Who has which channel. -/
theorem gvn_iff {σ : AS} {q : Nat → Nat} : ∀ {k d i : Nat}, gvn σ q k d = some i ↔ ∃ j, j < k ∧ chq σ q j = some d ∧ q j = i
  | 0, d, i => ⟨fun h => (by cases h), fun ⟨j, h, _⟩ => absurd h (Nat.not_lt_zero _)⟩
  | k + 1, d, i => by
    have ih := gvn_iff (σ := σ) (q := q) (k := k) (d := d) (i := i)
    cases hq : chq σ q k with
    | none =>
      rw [gvn_s, hq, put1_n, ih]
      constructor
      · rintro ⟨j, a, b⟩; exact ⟨j, by omega, b⟩
      · rintro ⟨j, a, b, e⟩
        refine ⟨j, ?_, b, e⟩
        by_cases z : j = k
        · rw [z, hq] at b; cases b
        · omega
    | some f =>
      rw [gvn_s, hq, put1_s]
      dsimp only
      by_cases z : d = f
      · rw [if_pos z]
        constructor
        · intro h; exact ⟨k, by omega, by rw [hq, z], Option.some.inj h⟩
        · rintro ⟨j, a, b, e⟩
          by_cases y : j = k
          · rw [← e, y]
          · exfalso
            have h1 : gvn σ q k d = some i := ih.mpr ⟨j, by omega, b, e⟩
            have h2 := (chF_lt (show chF σ (gvn σ q k) (tkI σ (q k)) = some f from hq)).2
            rw [← z, h1] at h2; cases h2
      · rw [if_neg z, ih]
        constructor
        · rintro ⟨j, a, b⟩; exact ⟨j, by omega, b⟩
        · rintro ⟨j, a, b, e⟩
          refine ⟨j, ?_, b, e⟩
          by_cases y : j = k
          · rw [y, hq] at b; exact absurd (Option.some.inj b).symm z
          · omega
theorem chq_lt {σ : AS} {q : Nat → Nat} {j d : Nat} (h : chq σ q j = some d) : d < 32 := (chF_lt (show chF σ (gvn σ q j) (tkI σ (q j)) = some d from h)).1
theorem chq_inj {σ : AS} {q : Nat → Nat} {i j d : Nat} (hi : chq σ q i = some d) (hj : chq σ q j = some d) : i = j := by
  rcases Nat.lt_trichotomy i j with z | z | z
  · have h2 := (chF_lt (show chF σ (gvn σ q j) (tkI σ (q j)) = some d from hj)).2
    rw [gvn_iff.mpr ⟨i, z, hi, rfl⟩] at h2; cases h2
  · exact z
  · have h2 := (chF_lt (show chF σ (gvn σ q i) (tkI σ (q i)) = some d from hi)).2
    rw [gvn_iff.mpr ⟨j, z, hj, rfl⟩] at h2; cases h2
theorem chF_at {σ : AS} {g : Nat → Option Nat} {t : Int32} {d : Nat} (h : chF σ g t = some d) : d < 32 ∧ σ.2 3 d = 0 ∧ hasG σ g (d / 8) t = true := by
  unfold chF at h
  have key : ∀ lo hi, firstB (frB σ g t lo hi) 32 = some d → d < 32 ∧ σ.2 3 d = 0 ∧ hasG σ g (d / 8) t = true := fun lo hi hq => by
    obtain ⟨a, b, -⟩ := firstB_some hq
    unfold frB at b
    simp only [Bool.and_eq_true, decide_eq_true_eq] at b
    exact ⟨a, b.1, b.2.2.1⟩
  cases hq : firstB (frB σ g t 0 6) 32 with
  | some f => rw [hq] at h; cases h; exact key 0 6 hq
  | none => rw [hq] at h; exact key 6 8 h
/-- what becomes of a cue -/
theorem fa_elg {σ : AS} {q : Nat → Nat} {c i : Nat} (hs : Srt σ 40 q c) (hi : i < 40) (he : elg σ i) : ∃ j, j < c ∧ q j = i ∧ fateA σ q c i = (if chq σ q j = none then 3 else 0) ∧ chanA σ q c i = opI (chq σ q j) := by
  obtain ⟨j, hj, ej⟩ := hs.2.1 i hi he
  refine ⟨j, hj, ej, ?_, ?_⟩
  · unfold fateA; rw [← ej, posQ_at hs hj]; rfl
  · unfold chanA; rw [← ej, posQ_at hs hj]; rfl
theorem fa_not {σ : AS} {q : Nat → Nat} {c i : Nat} (hs : Srt σ 40 q c) (he : ¬ elg σ i) : fateA σ q c i = (if stkB σ i = true then 1 else 2) ∧ chanA σ q c i = -1 := by
  unfold fateA chanA; rw [posQ_no hs he]; exact ⟨rfl, rfl⟩
theorem fa_le {σ : AS} {q : Nat → Nat} {c i : Nat} (hs : Srt σ 40 q c) (hi : i < 40) : fateA σ q c i ≤ 3 := by
  by_cases he : elg σ i
  · obtain ⟨j, -, -, e, -⟩ := fa_elg hs hi he; rw [e]; split <;> omega
  · rw [(fa_not hs he).1]; split <;> omega
theorem fa_1 {σ : AS} {q : Nat → Nat} {c i : Nat} (hs : Srt σ 40 q c) (hi : i < 40) : fateA σ q c i = 1 ↔ stkB σ i = true ∧ ¬ elg σ i := by
  by_cases he : elg σ i
  · obtain ⟨j, -, -, e, -⟩ := fa_elg hs hi he
    rw [e]
    constructor
    · intro h; split at h <;> omega
    · intro h; exact absurd he h.2
  · rw [(fa_not hs he).1]
    constructor
    · intro h; split at h
      · exact ⟨by assumption, he⟩
      · omega
    · intro h; rw [if_pos h.1]
theorem elg_not {σ : AS} {i : Nat} (h : stkB σ i = true) : ¬ elg σ i := fun he => by rw [he.2.2.1] at h; cases h
theorem fa_stk {σ : AS} {q : Nat → Nat} {c i : Nat} (hs : Srt σ 40 q c) (hi : i < 40) : nI (fateA σ q c i) = 1 ↔ stkB σ i = true := by
  have h3 := fa_le hs hi
  rw [show (1 : Int32) = nI 1 from rfl, nI_eq (by omega) (by omega), fa_1 hs hi]
  exact ⟨fun h => h.1, fun h => ⟨h, elg_not h⟩⟩
theorem fa_early {σ : AS} {q : Nat → Nat} {c i : Nat} (hs : Srt σ 40 q c) (hn : i < aN σ) (hi : i < 40) (hg : σ.2 10 i = 0) : nI (fateA σ q c i) = 2 ↔ (tkI σ i < 0 ∧ ¬ nI (fateA σ q c i) = 1) := by
  have h3 := fa_le hs hi
  rw [fa_stk hs hi, show (2 : Int32) = nI 2 from rfl, nI_eq (by omega) (by omega)]
  by_cases he : elg σ i
  · obtain ⟨j, -, -, e, -⟩ := fa_elg hs hi he
    rw [e]
    constructor
    · intro h; split at h <;> omega
    · intro h; exact absurd h.1 he.2.2.2
  · rw [(fa_not hs he).1]
    constructor
    · intro h
      split at h
      · omega
      · rename_i hk
        refine ⟨Decidable.byContradiction (fun ht => he ⟨hn, hg, ?_, ht⟩), hk⟩
        cases hz : stkB σ i with
        | false => rfl
        | true => exact absurd hz hk
    · intro h; rw [if_neg h.2]
theorem fa_fire {σ : AS} {q : Nat → Nat} {c i : Nat} (hs : Srt σ 40 q c) (hi : i < 40) : fateA σ q c i = 0 ↔ ∃ j d, j < c ∧ q j = i ∧ chq σ q j = some d := by
  by_cases he : elg σ i
  · obtain ⟨j, hj, ej, e, -⟩ := fa_elg hs hi he
    rw [e]
    constructor
    · intro h
      cases hd : chq σ q j with
      | none => rw [hd, if_pos rfl] at h; omega
      | some d => exact ⟨j, d, hj, ej, hd⟩
    · rintro ⟨j', d, hj', ej', hd⟩
      have := q_inj2 hs hj hj' (ej.trans ej'.symm)
      rw [this, hd, if_neg (by simp)]
  · rw [(fa_not hs he).1]
    constructor
    · intro h; split at h <;> omega
    · rintro ⟨j, d, hj, ej, -⟩
      exact absurd (by rw [← ej]; exact (hs.1 j hj).2) he
/-- its channel -/
theorem ch_cases {σ : AS} {q : Nat → Nat} {c i : Nat} (hs : Srt σ 40 q c) (hi : i < 40) : (nI (fateA σ q c i) = 0 ∧ ∃ j d, j < c ∧ q j = i ∧ chq σ q j = some d ∧ d < 32 ∧ σ.2 3 d = 0 ∧ chanA σ q c i = nI d ∧ gvn σ q c d = some i) ∨ (¬ nI (fateA σ q c i) = 0 ∧ chanA σ q c i = -1 ∧ ¬ ∃ j d, j < c ∧ q j = i ∧ chq σ q j = some d) := by
  have h3 := fa_le hs hi
  rw [show (0 : Int32) = nI 0 from rfl, nI_eq (by omega) (by omega)]
  by_cases h : fateA σ q c i = 0
  · left
    refine ⟨h, ?_⟩
    obtain ⟨j, d, hj, ej, hd⟩ := (fa_fire hs hi).mp h
    have a := chF_at (show chF σ (gvn σ q j) (tkI σ (q j)) = some d from hd)
    refine ⟨j, d, hj, ej, hd, a.1, a.2.1, ?_, gvn_iff.mpr ⟨j, hj, hd, ej⟩⟩
    unfold chanA
    rw [← ej, posQ_at hs hj]
    show opI (chq σ q j) = nI d
    rw [hd]; rfl
  · right
    have hno : ¬ ∃ j d, j < c ∧ q j = i ∧ chq σ q j = some d := fun z => h ((fa_fire hs hi).mpr z)
    refine ⟨h, ?_, hno⟩
    by_cases he : elg σ i
    · obtain ⟨j, hj, ej, e, e2⟩ := fa_elg hs hi he
      cases hd : chq σ q j with
      | none => rw [e2, hd]; rfl
      | some d => exact absurd ⟨j, d, hj, ej, hd⟩ hno
    · exact (fa_not hs he).2
/-- how many are fired; how many have spares -/
def firB (σ : AS) (q : Nat → Nat) (c k : Nat) : Bool := pres σ k && decide (fateA σ q c k = 0)
def sprI (x : Int32) : Bool := decide (0 ≤ x.toInt ∧ x.toInt < 32 ∧ 6 ≤ x.toInt % 8)
theorem sprI_iff {x : Int32} : sprI x = true ↔ ∃ d, d < 32 ∧ x = nI d ∧ 6 ≤ d % 8 := by
  unfold sprI
  rw [decide_eq_true_iff]
  constructor
  · rintro ⟨h1, h2, h3⟩
    refine ⟨x.toInt.toNat, by omega, ?_, by omega⟩
    apply Int32.toInt_inj.mp
    rw [nI_toInt (by omega)]; omega
  · rintro ⟨d, h1, e, h3⟩
    rw [e, nI_toInt (by omega)]; omega
def chS (o : Option Nat) : Bool := match o with
  | none => false
  | some d => decide (6 ≤ d % 8)
theorem chS_iff {o : Option Nat} : chS o = true ↔ ∃ d, o = some d ∧ 6 ≤ d % 8 := by
  cases o with
  | none => exact ⟨fun z => (by cases z), fun ⟨d, e, _⟩ => (by cases e)⟩
  | some f => exact ⟨fun z => ⟨f, rfl, of_decide_eq_true z⟩, fun ⟨d, e, h⟩ => by cases e; exact decide_eq_true h⟩
def sprB (σ : AS) (q : Nat → Nat) (c k : Nat) : Bool := pres σ k && sprI (chanA σ q c k)
theorem elg_pres {σ : AS} {i : Nat} (h : elg σ i) : pres σ i = true := pres_t h.1 h.2.1
theorem lit_ct (σ : AS) (q : Nat → Nat) : ∀ k, lit σ q k = ctN (fun j => decide (chq σ q j ≠ none)) k
  | 0 => rfl
  | k + 1 => by
    rw [lit_s, ctN_s, lit_ct σ q k]
    by_cases h : chq σ q k = none
    · rw [if_pos h, if_neg (by simp [h])]
    · rw [if_neg h, if_pos (decide_eq_true h)]
theorem fired_ct {σ : AS} {q : Nat → Nat} {c : Nat} (hs : Srt σ 40 q c) (o1 : aN σ ≤ 40) : ctN (firB σ q c) (aN σ) = lit σ q c := by
  rw [lit_ct]
  refine ctN_bij (q := q) (fun i j hi hj _ _ e => q_inj2 hs hi hj e) (fun j hj _ => (hs.1 j hj).2.1) (fun k hk => ?_)
  unfold firB
  rw [Bool.and_eq_true, decide_eq_true_iff, fa_fire hs (by omega)]
  constructor
  · rintro ⟨-, j, d, hj, ej, hd⟩; exact ⟨j, hj, decide_eq_true (by rw [hd]; simp), ej⟩
  · rintro ⟨j, hj, hT, ej⟩
    refine ⟨by rw [← ej]; exact elg_pres (hs.1 j hj).2, ?_⟩
    cases hd : chq σ q j with
    | none => exact absurd hd (of_decide_eq_true hT)
    | some d => exact ⟨j, d, hj, ej, hd⟩
theorem spare_ct {σ : AS} {q : Nat → Nat} {c : Nat} (hs : Srt σ 40 q c) (o1 : aN σ ≤ 40) : ctN (sprB σ q c) (aN σ) = ctN (spB (fun d => (gvn σ q c d).isSome)) 32 := by
  have e1 : ctN (sprB σ q c) (aN σ) = ctN (fun j => chS (chq σ q j)) c := by
    refine ctN_bij (q := q) (fun i j hi hj _ _ e => q_inj2 hs hi hj e) (fun j hj _ => (hs.1 j hj).2.1) (fun k hk => ?_)
    unfold sprB
    rw [Bool.and_eq_true, sprI_iff]
    constructor
    · rintro ⟨-, d, hd, ed, h6⟩
      rcases ch_cases hs (show k < 40 by omega) with ⟨-, j, f, hj, ej, hf, hf32, -, ef, -⟩ | ⟨-, e, -⟩
      · have : d = f := (nI_eq (by omega) (by omega)).mp (ed.symm.trans ef)
        exact ⟨j, hj, chS_iff.mpr ⟨f, hf, by omega⟩, ej⟩
      · exact absurd (ed.symm.trans e) (nI_m1 hd)
    · rintro ⟨j, hj, hT, ej⟩
      obtain ⟨d, hd, h6⟩ := chS_iff.mp hT
      refine ⟨by rw [← ej]; exact elg_pres (hs.1 j hj).2, d, chq_lt hd, ?_, h6⟩
      rcases ch_cases hs (show k < 40 by omega) with ⟨-, j', f, hj', ej', hf, hf32, -, ef, -⟩ | ⟨-, -, e⟩
      · rw [q_inj2 hs hj' hj (ej'.trans ej.symm), hd] at hf
        rw [Option.some.inj hf]; exact ef
      · exact absurd ⟨j, d, hj, ej, hd⟩ e
  rw [e1]
  symm
  refine ctN_bij (q := fun j => (chq σ q j).getD 0) (fun i j hi hj hT hT' e => ?_) (fun j hj hT => ?_) (fun k hk => ?_)
  · obtain ⟨d, hd, -⟩ := chS_iff.mp hT
    obtain ⟨d', hd', -⟩ := chS_iff.mp hT'
    have e : (chq σ q i).getD 0 = (chq σ q j).getD 0 := e
    rw [hd, hd'] at e
    have e : d = d' := e
    subst e
    exact chq_inj hd hd'
  · obtain ⟨d, hd, -⟩ := chS_iff.mp hT
    show (chq σ q j).getD 0 < 32
    rw [hd]; exact chq_lt hd
  · unfold spB
    rw [Bool.and_eq_true, decide_eq_true_iff]
    constructor
    · rintro ⟨h6, hg⟩
      have hg : (gvn σ q c k).isSome = true := hg
      cases hd : gvn σ q c k with
      | none => rw [hd] at hg; cases hg
      | some i =>
        obtain ⟨j, hj, hq, -⟩ := gvn_iff.mp hd
        exact ⟨j, hj, chS_iff.mpr ⟨k, hq, h6⟩, by show (chq σ q j).getD 0 = k; rw [hq]; rfl⟩
    · rintro ⟨j, hj, hT, e⟩
      obtain ⟨d, hd, h6⟩ := chS_iff.mp hT
      have e : (chq σ q j).getD 0 = k := e
      rw [hd] at e
      have e : d = k := e
      subst e
      exact ⟨h6, by show (gvn σ q c d).isSome = true; rw [gvn_iff.mpr ⟨j, hj, hd, rfl⟩]; rfl⟩
/-- what all fired ones cost -/
theorem tot_sm {σ : AS} {v : VT} {q : Nat → Nat} {c : Nat} : ∀ k, k ≤ c → totA σ v q c (lit σ q k) = sm (· + ·) 0 (fun j => decide (chq σ q j ≠ none)) (fun j => priA σ v (q j)) k
  | 0, _ => rfl
  | k + 1, hk => by
    rw [lit_s, sm_s, ← tot_sm (σ := σ) (v := v) (q := q) (c := c) k (by omega)]
    by_cases h : chq σ q k = none
    · rw [if_pos h, if_neg (by simp [h])]; rfl
    · rw [if_neg h, if_pos (decide_eq_true h)]
      show totA σ v q c (lit σ q k) + priA σ v (firA σ q c (lit σ q k)) = _
      unfold firA
      rw [frP_at (by omega) h]; rfl
theorem total_sm {σ : AS} {v : VT} {q : Nat → Nat} {c : Nat} (hs : Srt σ 40 q c) (o1 : aN σ ≤ 40) : sm (· + ·) 0 (firB σ q c) (priA σ v) (aN σ) = totA σ v q c (lit σ q c) := by
  rw [tot_sm c (Nat.le_refl _)]
  refine sm_bij Int64.add_comm Int64.add_assoc (fun i j hi hj _ _ e => q_inj2 hs hi hj e) (fun j hj _ => (hs.1 j hj).2.1) (fun k hk => ?_)
  unfold firB
  rw [Bool.and_eq_true, decide_eq_true_iff, fa_fire hs (by omega)]
  constructor
  · rintro ⟨-, j, d, hj, ej, hd⟩; exact ⟨j, hj, decide_eq_true (by rw [hd]; simp), ej⟩
  · rintro ⟨j, hj, hT, ej⟩
    refine ⟨by rw [← ej]; exact elg_pres (hs.1 j hj).2, ?_⟩
    cases hd : chq σ q j with
    | none => exact absurd hd (of_decide_eq_true hT)
    | some d => exact ⟨j, d, hj, ej, hd⟩
/-! The order of those fired; the gaps. -/
theorem fir_at {σ : AS} {q : Nat → Nat} {c n : Nat} (hs : Srt σ 40 q c) (hn : n < lit σ q c) : ∃ j d, j < c ∧ lit σ q j = n ∧ chq σ q j = some d ∧ firA σ q c n = q j ∧ elg σ (q j) ∧ d < 32 ∧ chanA σ q c (firA σ q c n) = nI d := by
  obtain ⟨j, hj, e, hc, ef⟩ := firA_at hs hn
  cases hd : chq σ q j with
  | none => exact absurd hd hc
  | some d =>
    refine ⟨j, d, hj, e, hd, ef, (hs.1 j hj).2, chq_lt hd, ?_⟩
    rw [ef]
    unfold chanA
    rw [posQ_at hs hj]
    show opI (chq σ q j) = nI d
    rw [hd]; rfl
theorem fir_bef {σ : AS} {q : Nat → Nat} {c n n' : Nat} (hs : Srt σ 40 q c) (hn : n' < n) (hl : n < lit σ q c) : bef σ (firA σ q c n') (firA σ q c n) := by
  obtain ⟨j, d, hj, e, -, ef, -⟩ := fir_at hs hl
  obtain ⟨j', d', hj', e', -, ef', -⟩ := fir_at hs (show n' < lit σ q c by omega)
  rw [ef, ef']
  refine hs.2.2.1 j' j ?_ hj
  rcases Nat.lt_or_ge j' j with z | z
  · exact z
  · have := lit_mono σ q z; omega
theorem fir_gap {σ : AS} {q : Nat → Nat} {c n n' : Nat} (ok : AOK σ) (hs : Srt σ 40 q c) (hn : n' < n) (hl : n < lit σ q c) {d d' : Nat} (hd : d < 32) (hd' : d' < 32) (ed : chanA σ q c (firA σ q c n) = nI d) (ed' : chanA σ q c (firA σ q c n') = nI d') (hb : d' / 8 = d / 8) :
    ¬ (tkI σ (firA σ q c n) - tkI σ (firA σ q c n') < nI (σ.2 5 0)) := by
  have hbf := fir_bef hs hn hl
  obtain ⟨j, f, hj, e, hf, ef, he, hf32, eq⟩ := fir_at hs hl
  obtain ⟨j', f', hj', e', hf', ef', he', hf32', eq'⟩ := fir_at hs (show n' < lit σ q c by omega)
  have z1 : d = f := (nI_eq (by omega) (by omega)).mp (ed.symm.trans eq)
  have z2 : d' = f' := (nI_eq (by omega) (by omega)).mp (ed'.symm.trans eq')
  subst z1 z2
  have hjj : j' < j := by
    rcases Nat.lt_or_ge j' j with z | z
    · exact z
    · have := lit_mono σ q z; omega
  have hg := (chF_at (show chF σ (gvn σ q j) (tkI σ (q j)) = some d from hf)).2.2
  have h1 := hasG_iff.mp hg (d' % 8) (Nat.mod_lt _ (by omega)) (q j') (by rw [show 8 * (d / 8) + d' % 8 = d' by omega]; exact gvn_iff.mpr ⟨j', hjj, hf', rfl⟩)
  rw [ef, ef'] at hbf ⊢
  have r1 := tk_rng ok he
  have r2 := tk_rng ok he'
  have hle := bef_le hbf
  unfold gapOk at h1
  have h1 := of_decide_eq_true h1
  have hd0 : (tkI σ (q j) - tkI σ (q j')).toInt = (tkI σ (q j)).toInt - (tkI σ (q j')).toInt := i32sub (by omega) (by omega)
  have g20 := ok.2.2.2.2.2.1
  rw [i32lt, nI_toInt (by omega), hd0]
  rcases h1 with h1 | h1
  · rw [i32le, nI_toInt (by omega), hd0] at h1; omega
  · have hneg : (-(tkI σ (q j) - tkI σ (q j'))).toInt = -(tkI σ (q j) - tkI σ (q j')).toInt := by
      rw [Int32.toInt_neg, hd0]; exact i32bm (by omega) (by omega)
    rw [i32le, nI_toInt (by omega), hneg, hd0] at h1; omega

/-! The queue's cues get their channels; the plan of the show. -/
/-- the last ticks of the boxes -/
def LTR (σ : AS) (g : Nat → Option Nat) (M : MS) : Prop := ∀ b, b < 4 → ((∀ d, d < 32 → d / 8 = b → g d = none) ∧ gI M 19 b = -1000) ∨
  ∃ d i, d < 32 ∧ d / 8 = b ∧ g d = some i ∧ gI M 19 b = tkI σ i ∧ ∀ d' i', d' < 32 → d' / 8 = b → g d' = some i' → (tkI σ i').toInt ≤ (tkI σ i).toInt
theorem gap_iff {σ : AS} {g : Nat → Option Nat} {M : MS} {t : Int32} (ok : AOK σ) (hL : LTR σ g M) (hg : ∀ d i, d < 32 → g d = some i → elg σ i ∧ (tkI σ i).toInt ≤ t.toInt) (ht : 0 ≤ t.toInt ∧ t.toInt ≤ 10000) {b : Nat} (hb : b < 4) :
    nI (σ.2 5 0) ≤ t - gI M 19 b ↔ hasG σ g b t = true := by
  have hgap := ok.2.2.2.2.2.1
  rw [hasG_iff]
  rcases hL b hb with ⟨h1, h2⟩ | ⟨d, i, hd, hdb, hgd, hlt, hmax⟩
  · constructor
    · intro _ c hc i hi
      rw [h1 (8 * b + c) (by omega) (by omega)] at hi; cases hi
    · intro _
      rw [h2, i32le, nI_toInt (by omega)]
      have e : (-1000 : Int32).toInt = -1000 := rfl
      rw [i32sub (by rw [e]; omega) (by rw [e]; omega), e]; omega
  · have hi0 := tk_rng ok (hg d i hd hgd).1
    have hit := (hg d i hd hgd).2
    rw [hlt, i32le, nI_toInt (by omega), i32sub (by omega) (by omega)]
    constructor
    · intro h c hc i' hi'
      have q1 := hg (8 * b + c) i' (by omega) hi'
      have q2 := tk_rng ok q1.1
      have q3 := hmax (8 * b + c) i' (by omega) (by omega) hi'
      unfold gapOk
      apply decide_eq_true
      left
      rw [i32le, nI_toInt (by omega), i32sub (by omega) (by omega)]; omega
    · intro h
      have q := h (d % 8) (by omega) i (by rw [show 8 * b + d % 8 = d by omega]; exact hgd)
      unfold gapOk at q
      have q2 := of_decide_eq_true q
      have e1 : (t - tkI σ i).toInt = t.toInt - (tkI σ i).toInt := i32sub (by omega) (by omega)
      have e2 : (-(t - tkI σ i)).toInt = -(t.toInt - (tkI σ i).toInt) := by
        rw [Int32.toInt_neg, e1, i32bm] <;> omega
      rw [i32le, i32le, nI_toInt (by omega), e1, e2] at q2
      omega
theorem fr_iff {σ : AS} {g : Nat → Option Nat} {M : MS} {t : Int32} (ok : AOK σ) (hR : XR σ M) (hG : ∀ d, d < 32 → gI M 18 d = opI (g d)) (hL : LTR σ g M) (hg : ∀ d i, d < 32 → g d = some i → elg σ i ∧ (tkI σ i).toInt ≤ t.toInt) (ht : 0 ≤ t.toInt ∧ t.toInt ≤ 10000) {lo hi d : Nat} (hd : d < 32) :
    frX M t lo hi d ↔ frB σ g t lo hi d = true := by
  unfold frX frB
  have h1 : gI M 17 d = 0 ↔ σ.2 3 d = 0 := by
    rw [hR.2.2.2.2.2.2.1 d hd]
    have := ok.2.2.2.1 d hd
    exact nI_eq (b := 0) (by omega) (by omega)
  have h2 : gI M 18 d = -1 ↔ g d = none := by
    rw [hG d hd]
    exact opI_n1 (fun i hi => by have := (hg d i hd hi).1.1; have := ok.1; omega)
  have h3 := gap_iff ok hL hg ht (b := d / 8) (by omega)
  rw [h1, h2, hR.2.2.2.2.2.2.2.2.1, h3]
  simp only [Bool.and_eq_true, decide_eq_true_eq]
theorem ch_some {σ : AS} {g : Nat → Option Nat} {M : MS} {t : Int32} (hf : ∀ lo hi d, d < 32 → (frX M t lo hi d ↔ frB σ g t lo hi d = true)) {c : Nat} (hc : c < 32) (h : (frX M t 0 6 c ∧ ∀ d, d < c → ¬ frX M t 0 6 d) ∨ ((∀ d, d < 32 → ¬ frX M t 0 6 d) ∧ frX M t 6 8 c ∧ ∀ d, d < c → ¬ frX M t 6 8 d)) : chF σ g t = some c := by
  have nf : ∀ lo hi d, d < 32 → ¬ frX M t lo hi d → frB σ g t lo hi d = false := fun lo hi d hd hn => by
    cases hq : frB σ g t lo hi d with
    | false => rfl
    | true => exact absurd ((hf lo hi d hd).mpr hq) hn
  unfold chF
  rcases h with ⟨h1, h2⟩ | ⟨h0, h1, h2⟩
  · rw [firstB_is hc ((hf 0 6 c hc).mp h1) (fun d hd => nf 0 6 d (by omega) (h2 d hd))]
  · rw [firstB_no (fun d hd => nf 0 6 d hd (h0 d hd)), firstB_is hc ((hf 6 8 c hc).mp h1) (fun d hd => nf 6 8 d (by omega) (h2 d hd))]
theorem ch_none {σ : AS} {g : Nat → Option Nat} {M : MS} {t : Int32} (hf : ∀ lo hi d, d < 32 → (frX M t lo hi d ↔ frB σ g t lo hi d = true)) (h0 : ∀ d, d < 32 → ¬ frX M t 0 6 d) (h1 : ∀ d, d < 32 → ¬ frX M t 6 8 d) : chF σ g t = none := by
  have nf : ∀ lo hi d, d < 32 → ¬ frX M t lo hi d → frB σ g t lo hi d = false := fun lo hi d hd hn => by
    cases hq : frB σ g t lo hi d with
    | false => rfl
    | true => exact absurd ((hf lo hi d hd).mpr hq) hn
  unfold chF
  rw [firstB_no (fun d hd => nf 0 6 d hd (h0 d hd)), firstB_no (fun d hd => nf 6 8 d hd (h1 d hd))]
theorem bef_le {σ : AS} {i j : Nat} (h : bef σ i j) : (tkI σ i).toInt ≤ (tkI σ j).toInt := by
  rcases h with h | ⟨h, -⟩
  · rw [i32lt] at h; omega
  · rw [h]; exact Int.le_refl _
theorem gvn_le {σ : AS} {q : Nat → Nat} {K c k : Nat} (hs : Srt σ K q c) (hk : k < c) : ∀ d i, d < 32 → gvn σ q k d = some i → elg σ i ∧ (tkI σ i).toInt ≤ (tkI σ (q k)).toInt := fun d i _ h => by
  obtain ⟨j, hj, e⟩ := gvn_src h
  rw [← e]
  exact ⟨(hs.1 j (by omega)).2, bef_le (hs.2.2.1 j k hj hk)⟩
theorem LTR_put {σ : AS} {g : Nat → Option Nat} {M M1 : MS} {c i : Nat} (h : LTR σ g M) (hc : c < 32) (hg : g c = none) (hm : ∀ d i', d < 32 → g d = some i' → (tkI σ i').toInt ≤ (tkI σ i).toInt) (h1 : gI M1 19 (c / 8) = tkI σ i) (h2 : ∀ b, b ≠ c / 8 → gI M1 19 b = gI M 19 b) : LTR σ (fun d => if d = c then some i else g d) M1 := fun b hb => by
  by_cases e : b = c / 8
  · subst e
    refine Or.inr ⟨c, i, hc, rfl, by simp, h1, fun d' i' hd' hb' hg' => ?_⟩
    by_cases z : d' = c
    · simp [z] at hg'; subst hg'; exact Int.le_refl _
    · simp [z] at hg'; exact hm d' i' hd' hg'
  · rw [h2 b e]
    rcases h b hb with ⟨a1, a2⟩ | ⟨d, i0, hd, hdb, hgd, hlt, hmax⟩
    · refine Or.inl ⟨fun d hd hdb => ?_, a2⟩
      show (if d = c then some i else g d) = none
      rw [if_neg (fun z : d = c => e (by rw [← hdb, z]))]; exact a1 d hd hdb
    · refine Or.inr ⟨d, i0, hd, hdb, ?_, hlt, fun d' i' hd' hb' hg' => ?_⟩
      · show (if d = c then some i else g d) = some i0
        rw [if_neg (fun z : d = c => e (by rw [← hdb, z]))]; exact hgd
      · have hg2 : (if d' = c then some i else g d') = some i' := hg'
        rw [if_neg (fun z : d' = c => e (by rw [← hb', z]))] at hg2; exact hmax d' i' hd' hb' hg2
theorem LTR_same {σ : AS} {g : Nat → Option Nat} {M M1 : MS} (h : LTR σ g M) (h2 : ∀ b, gI M1 19 b = gI M 19 b) : LTR σ g M1 := fun b hb => by
  rw [h2 b]; exact h b hb
/-- what stands of the show behind the plan -/
def PlanR (σ : AS) (q : Nat → Nat) (c : Nat) (M : MS) : Prop :=
  Srt σ 40 q c ∧ (∀ i, i < aN σ → σ.2 10 i = 0 → (∀ k, k < 64 → bitL (gL M (100 + i) 4) k = zonB σ i k) ∧ gI M (100 + i) 5 = burI σ i ∧ gI M (100 + i) 6 = tkI σ i ∧ (¬ elg σ i → gI M (100 + i) 8 = -1 ∧ gI M (100 + i) 7 = nI (if stkB σ i = true then 1 else 2))) ∧
  (∀ j, j < c → gI M (100 + q j) 8 = opI (chq σ q j) ∧ gI M (100 + q j) 7 = nI (if chq σ q j = none then 3 else 0)) ∧ (∀ d, d < 32 → gI M 18 d = opI (gvn σ q c d)) ∧ gI M 0 12 = nI (lit σ q c) ∧ (∀ j, j < c → chq σ q j ≠ none → gR M 20 (lit σ q j) = some (100 + q j)) ∧ gI M 12 3 = nI (cbN σ 101)
def XSc (p k : Nat) : Prop := (p = 0 ∧ (k = 12 ∨ k = 14)) ∨ (12 ≤ p ∧ p ≤ 15) ∨ (18 ≤ p ∧ p ≤ 20) ∨ (100 ≤ p ∧ 4 ≤ k)
def XPl (σ : AS) (M : MS) : Prop := gI M 0 14 = 0 ∨ (gI M 0 14 = 1 ∧ ∃ q c, PlanR σ q c M)
theorem chq_n (σ : AS) (q : Nat → Nat) (k : Nat) (h : chq σ q k = none) : gvn σ q (k + 1) = gvn σ q k := by rw [gvn_s, h, put1_n]
theorem chq_s (σ : AS) (q : Nat → Nat) (k c : Nat) (h : chq σ q k = some c) : gvn σ q (k + 1) = fun d => if d = c then some (q k) else gvn σ q k d := by rw [gvn_s, h, put1_s]
set_option maxHeartbeats 4000000 in
set_option maxRecDepth 100000 in
theorem c_X9_giveChannels (l : Launch) (D : va_G) (cA : Nat → ClassId) (sh : Nat → Option Sh) (ad : Nat → Nat) (M : MS) (sz : Nat) (σ : AS) (ok : AOK σ) (hX : XSh (aN σ) sh) (hR : XR σ M) (q : Nat → Nat) (c : Nat) (hs : Srt σ 40 q c) (hq : QR q c M) (hD : ∀ i, i < aN σ → σ.2 10 i = 0 → gI M (100 + i) 6 = tkI σ i) (hF : ∀ i, i < aN σ → elg σ i → gI M (100 + i) 7 = nI 0) : Met l yX9_giveChannels wsX9_giveChannels ({ frames := 2, cells := 0, slots := 0, locals := 49 }) (wPc D cA sh ad M sz [.ref (ad 0)]) (wQv D cA sh ad (fun M' => oA (fun p k => (p = 0 ∧ k = 12) ∨ p = 20 ∨ p = 18 ∨ p = 19 ∨ (100 ≤ p ∧ (k = 7 ∨ k = 8))) M M' ∧ (∀ d, d < 32 → gI M' 18 d = opI (gvn σ q c d)) ∧ (∀ j, j < c → gI M' (100 + q j) 8 = opI (chq σ q j) ∧ gI M' (100 + q j) 7 = nI (if chq σ q j = none then 3 else 0)) ∧ (∀ i, (∀ j, j < c → q j ≠ i) → gI M' (100 + i) 7 = gI M (100 + i) 7 ∧ gI M' (100 + i) 8 = gI M (100 + i) 8) ∧ gI M' 0 12 = nI (lit σ q c) ∧ ∀ j, j < c → chq σ q j ≠ none → gR M' 20 (lit σ q j) = some (100 + q j)) (wA sh ad sz)) 0 0 (wA sh ad sz) := by
  refine Met.ofW (cc := cX9_giveChannels) (maxL := 4) (ret := none) (by decide) rfl ?_
  intro p e s m args below meth cd0 s₁ B hml hv
  obtain ⟨rfl, hsz, hM, hK⟩ := hv
  have hx := B.exec
  have hb := B.bytes
  have hr := B.returns
  have hts := atoms_spec (ws := wsX9_giveChannels) B.pre
  have hown : s.vm.findClass RX9 = some m.cls := findClass_of_methodNamed B.named
  have hlocks := B.notSynchronized
  subst hsz
  have hA := wA_PA sh ad s.heap
  generalize wA sh ad s.heap.size = A at hA ⊢
  have hW : WS D cA sh ad A s.heap M s.heap [] := ⟨hM, va_S.rf⟩
  have fa58 : FA D s m ([.ref (ad 0)] : List Value).toArray 58 9 7 := FA.mk (C := RX9) (T := TX9) (N := 15) hts (fun _ h => List.mem_cons_of_mem _ (List.mem_append_left _ (List.mem_append_left _ (List.mem_append_right _ (h))))) hown hK rfl (by decide) (hts (.fieldLink RX9 58 "MortarShow" "boxes" "LMortarShow$Boxes;") (List.mem_of_getElem? (i := 1) rfl))
  have fa62 : FA D s m ([.ref (ad 0)] : List Value).toArray 62 9 8 := FA.mk (C := RX9) (T := TX9) (N := 15) hts (fun _ h => List.mem_cons_of_mem _ (List.mem_append_left _ (List.mem_append_left _ (List.mem_append_right _ (h))))) hown hK rfl (by decide) (hts (.fieldLink RX9 62 "MortarShow" "queue" "[LMortarShow$Cue;") (List.mem_of_getElem? (i := 3) rfl))
  have fa76 : FA D s m ([.ref (ad 0)] : List Value).toArray 76 9 12 := FA.mk (C := RX9) (T := TX9) (N := 15) hts (fun _ h => List.mem_cons_of_mem _ (List.mem_append_left _ (List.mem_append_left _ (List.mem_append_right _ (h))))) hown hK rfl (by decide) (hts (.fieldLink RX9 76 "MortarShow" "queued" "I") (List.mem_of_getElem? (i := 2) rfl))
  have fa180 : FA D s m ([.ref (ad 0)] : List Value).toArray 180 2 0 := FA.mk (C := RX2) (T := TX2) (N := 9) hts (fun _ h => List.mem_cons_of_mem _ (List.mem_append_left _ (List.mem_append_right _ (h)))) hown hK rfl (by decide) (hts (.fieldLink RX9 180 "MortarShow$Cue" "number" "I") (List.mem_of_getElem? (i := 4) rfl))
  have fa194 : FA D s m ([.ref (ad 0)] : List Value).toArray 194 2 6 := FA.mk (C := RX2) (T := TX2) (N := 9) hts (fun _ h => List.mem_cons_of_mem _ (List.mem_append_left _ (List.mem_append_right _ (h)))) hown hK rfl (by decide) (hts (.fieldLink RX9 194 "MortarShow$Cue" "fireTick" "I") (List.mem_of_getElem? (i := 5) rfl))
  have fa270 : FA D s m ([.ref (ad 0)] : List Value).toArray 270 2 8 := FA.mk (C := RX2) (T := TX2) (N := 9) hts (fun _ h => List.mem_cons_of_mem _ (List.mem_append_left _ (List.mem_append_right _ (h)))) hown hK rfl (by decide) (hts (.fieldLink RX9 270 "MortarShow$Cue" "channel" "I") (List.mem_of_getElem? (i := 6) rfl))
  have fw76 : FW D s m ([.ref (ad 0)] : List Value).toArray 76 9 12 (.int) := FW.mk (C := RX9) (T := TX9) (N := 15) hts (fun _ h => List.mem_cons_of_mem _ (List.mem_append_left _ (List.mem_append_left _ (List.mem_append_right _ (h))))) hown hK rfl (by decide) (hts (.fieldLink RX9 76 "MortarShow" "queued" "I") (List.mem_of_getElem? (i := 2) rfl)) tyX9 tyX9_ok nmX9 rfl rfl
  have fw188 : FW D s m ([.ref (ad 0)] : List Value).toArray 188 2 7 (.int) := FW.mk (C := RX2) (T := TX2) (N := 9) hts (fun _ h => List.mem_cons_of_mem _ (List.mem_append_left _ (List.mem_append_right _ (h)))) hown hK rfl (by decide) (hts (.fieldLink RX9 188 "MortarShow$Cue" "fate" "I") (List.mem_of_getElem? (i := 7) rfl)) tyX2 tyX2_ok nmX2 rfl rfl
  have fw270 : FW D s m ([.ref (ad 0)] : List Value).toArray 270 2 8 (.int) := FW.mk (C := RX2) (T := TX2) (N := 9) hts (fun _ h => List.mem_cons_of_mem _ (List.mem_append_left _ (List.mem_append_right _ (h)))) hown hK rfl (by decide) (hts (.fieldLink RX9 270 "MortarShow$Cue" "channel" "I") (List.mem_of_getElem? (i := 6) rfl)) tyX2 tyX2_ok nmX2 rfl rfl
  have hl := lv_entry ([.ref (ad 0)]) (n := 4) (Nat.le_of_ble_eq_true rfl)
  rw [lg_entry_eq]
  generalize (lg_sl ([.ref (ad 0)]) ++ List.replicate (4 - (lg_sl ([.ref (ad 0)])).length) Slot.unset).toArray = ls at hl ⊢
  have hl : lv_has ls 4 [(0, .ref (ad 0))] := hl
  have hc40 := hs.2.2.2
  refine lv_aload_n hx hb dX9_giveChannels_0 rfl (lv_at hl 0 rfl) ?_
  refine wgF (t := 16) hx hb fa58 hW (hX.1 0 (by decide)) rfl dX9_giveChannels_1 ?_
  refine wc_wv (va_runV (As := []) (rest := []) ⟨hx, hb, hml, hown, hts⟩ (c_X1_clear l D cA sh ad M _ _ hX) (cwV 0 hts gX9_giveChannels_X1_clear rfl rfl rfl (by decide +kernel) ⟨Nat.le_of_ble_eq_true rfl, Nat.le_of_ble_eq_true rfl⟩) (wpreV hK hW (C := RX1) (ci := 1) (hX.1 16 (by decide)) rfl) rfl rfl hl.1 rfl (lv_room (Nat.le_of_ble_eq_true rfl)) dX9_giveChannels_4 ⟨Nat.le_of_ble_eq_true rfl, Nat.le_of_ble_eq_true rfl⟩) hA hW (fun M4 H locs p4 hW => ?_)
  try dsimp only at p4
  refine lv_iconst (v := 0) hx hb dX9_giveChannels_7 (by decide) ?_
  refine lv_istore_n (lv' := [(1, .int 0), (0, .ref (ad 0))]) hx hb dX9_giveChannels_8 rfl hl (by decide) rfl (fun ls hl => ?_)
  refine lv_iconst (v := 0) hx hb dX9_giveChannels_9 (by decide) ?_
  refine lv_istore_n (lv' := [(2, .int 0), (1, .int 0), (0, .ref (ad 0))]) hx hb dX9_giveChannels_10 rfl hl (by decide) rfl (fun ls hl => ?_)
  have L11 : ∀ (fu : Nat) (k : Nat) (xp : Int32) (xl : Int32) (M1 : MS) (H : Heap) (locs : List Loc), c - k < fu → (k ≤ c) → (xp = nI k) → (xl = nI (lit σ q k)) → (oA (fun p k => p = 20 ∨ p = 18 ∨ p = 19 ∨ (100 ≤ p ∧ (k = 7 ∨ k = 8))) M M1) → (∀ d, d < 32 → gI M1 18 d = opI (gvn σ q k d)) → (LTR σ (gvn σ q k) M1) → (∀ j, j < k → gI M1 (100 + q j) 8 = opI (chq σ q j) ∧ gI M1 (100 + q j) 7 = nI (if chq σ q j = none then 3 else 0)) → (∀ i, (∀ j, j < k → q j ≠ i) → gI M1 (100 + i) 7 = gI M (100 + i) 7 ∧ gI M1 (100 + i) 8 = gI M (100 + i) 8) → (∀ j, k ≤ j → j < c → gR M1 20 j = some (100 + q j)) → (∀ j, j < k → chq σ q j ≠ none → gR M1 20 (lit σ q j) = some (100 + q j)) → WS D cA sh ad A s.heap M1 H locs → ∀ ls, lv_has ls 4 [(2, .int xp), (1, .int xl), (0, .ref (ad 0))] → W p l e (headSpec wsX9_giveChannels { frames := 2, cells := 0, slots := 0, locals := 49 }).room s m ([.ref (ad 0)] : List Value).toArray below meth cd0 H locs 0 0 (MQ below (wQv D cA sh ad (fun M' => oA (fun p k => (p = 0 ∧ k = 12) ∨ p = 20 ∨ p = 18 ∨ p = 19 ∨ (100 ≤ p ∧ (k = 7 ∨ k = 8))) M M' ∧ (∀ d, d < 32 → gI M' 18 d = opI (gvn σ q c d)) ∧ (∀ j, j < c → gI M' (100 + q j) 8 = opI (chq σ q j) ∧ gI M' (100 + q j) 7 = nI (if chq σ q j = none then 3 else 0)) ∧ (∀ i, (∀ j, j < c → q j ≠ i) → gI M' (100 + i) 7 = gI M (100 + i) 7 ∧ gI M' (100 + i) 8 = gI M (100 + i) 8) ∧ gI M' 0 12 = nI (lit σ q c) ∧ ∀ j, j < c → chq σ q j ≠ none → gR M' 20 (lit σ q j) = some (100 + q j)) A) ([.ref (ad 0)] : List Value).toArray s 0 0 A) (F0 m 11 ls []) := by
    intro fu
    induction fu with
    | zero =>
      intro k xp xl M1 H locs hn hk ek el f1 f2 f3 f4 f5 f6 f7 hW ls hl
      exact absurd hn (Nat.not_lt_zero _)
    | succ fu ih11 =>
      intro k xp xl M1 H locs hn hk ek el f1 f2 f3 f4 f5 f6 f7 hW ls hl
      have hl9 := lit_le σ q k
      refine lv_iload_n hx hb dX9_giveChannels_11 rfl (lv_at hl 0 rfl) ?_
      refine lv_aload_n hx hb dX9_giveChannels_12 rfl (lv_at hl 2 rfl) ?_
      refine wgI hx hb fa76 hW (hX.1 0 (by decide)) rfl dX9_giveChannels_13 (fun x13 e13 => ?_)
      have n13 : x13 = nI c := (by rw [e13, (f1 _ _ (by omega)).1]; exact hq.1)
      refine lv_icmp_ge (tgt := 77) hx hb dX9_giveChannels_16 (by decide) (fun c16 => ?_) (fun c16 => ?_)
      · have k16 : c ≤ k := kc_ge ek n13 (by omega) (by omega) c16
        refine lv_aload_n hx hb dX9_giveChannels_77 rfl (lv_at hl 2 rfl) ?_
        refine lv_iload_n hx hb dX9_giveChannels_78 rfl (lv_at hl 1 rfl) ?_
        refine wpI hx hb fw76 hA hW (hX.1 0 (by decide)) rfl dX9_giveChannels_79 (fun M79 H locs eM79 hW => ?_)
        exact wr_wv hx hb hr hlocks hW dX9_giveChannels_82 ⟨by rw [eM79]; exact (f1.mono (fun p k z => Or.inr z)).putI (Or.inl ⟨rfl, rfl⟩), fun d hd => by rw [eM79, gI_sI, if_neg (by omega), ← show k = c by omega]; exact f2 d hd, fun j hj => by rw [eM79, gI_sI, if_neg (by omega), gI_sI, if_neg (by omega)]; exact f4 j (by omega), fun i hi => by rw [eM79, gI_sI, if_neg (by omega), gI_sI, if_neg (by omega)]; exact f5 i (fun j hj => hi j (by omega)), by rw [eM79, gI_sI, if_pos ⟨rfl, rfl⟩, el, show k = c by omega], fun j hj => by rw [eM79, gR_sI]; exact f7 j (by omega)⟩
      · have k16 : ¬ c ≤ k := kc_gen ek n13 (by omega) (by omega) c16
        refine lv_aload_n hx hb dX9_giveChannels_19 rfl (lv_at hl 2 rfl) ?_
        refine wgF (t := 20) hx hb fa62 hW (hX.1 0 (by decide)) rfl dX9_giveChannels_20 ?_
        refine lv_iload_n hx hb dX9_giveChannels_23 rfl (lv_at hl 0 rfl) ?_
        obtain ⟨i, ei⟩ : ∃ z, z = q k := ⟨_, rfl⟩
        have hsk := hs.1 k (by omega)
        have hi : i < aN σ := by rw [ei]; exact hsk.2.1
        have hR1 : XR σ M1 := hR.oA f1 (fun p k hx hz => by unfold XRs at hx; omega)
        obtain ⟨cn, cb, ck, cr⟩ := hR1.2.2.2.2.2.2.2.2.2.2.2 i hi
        have ti : gI M1 (100 + i) 6 = tkI σ i := by rw [(f1 _ _ (by omega)).1]; exact hD i hi (by rw [ei]; exact hsk.2.2.1)
        have rt9 := tk_rng ok hsk.2
        have hfr : ∀ lo hi d, d < 32 → (frX M1 (tkI σ i) lo hi d ↔ frB σ (gvn σ q k) (tkI σ i) lo hi d = true) := fun lo hi d hd => by
          rw [ei]
          exact fr_iff ok hR1 f2 f3 (gvn_le hs (by omega)) rt9 hd
        refine walRs (j := k) (t := (100 + i)) hx hb hK hW (hX.1 20 (by decide)) (ei ▸ f6 k (Nat.le_refl _) (by omega)) ek (by omega) (by decide) dX9_giveChannels_24 ?_
        refine lv_astore_n (lv' := [(3, .ref (ad (100 + i))), (2, .int xp), (1, .int xl), (0, .ref (ad 0))]) hx hb dX9_giveChannels_25 rfl hl (by decide) rfl (fun ls hl => ?_)
        refine lv_aload_n hx hb dX9_giveChannels_26 rfl (lv_at hl 0 rfl) ?_
        refine lv_aload_n hx hb dX9_giveChannels_27 rfl (lv_at hl 3 rfl) ?_
        refine wgF (t := 16) hx hb fa58 hW (hX.1 0 (by decide)) rfl dX9_giveChannels_28 ?_
        refine lv_aload_n hx hb dX9_giveChannels_31 rfl (lv_at hl 0 rfl) ?_
        refine wgI hx hb fa180 hW (hX.2 i (by omega)) rfl dX9_giveChannels_32 (fun x32 e32 => ?_)
        refine lv_aload_n hx hb dX9_giveChannels_35 rfl (lv_at hl 0 rfl) ?_
        refine wgI hx hb fa194 hW (hX.2 i (by omega)) rfl dX9_giveChannels_36 (fun x36 e36 => ?_)
        refine wc_wi (va_runV (As := [.int x32, .int x36]) (rest := [.ref (ad (100 + i))]) ⟨hx, hb, hml, hown, hts⟩ (c_X1_give l D cA sh ad M1 _ _ hX x32 x36) (cwV 2 hts gX9_giveChannels_X1_give rfl rfl rfl (by decide +kernel) ⟨Nat.le_of_ble_eq_true rfl, Nat.le_of_ble_eq_true rfl⟩) (wpreV hK hW (C := RX1) (ci := 1) (hX.1 16 (by decide)) rfl) rfl rfl hl.1 rfl (lv_room (Nat.le_of_ble_eq_true rfl)) dX9_giveChannels_39 ⟨Nat.le_of_ble_eq_true rfl, Nat.le_of_ble_eq_true rfl⟩) hA hW (fun x39 M39 H locs p39 hW => ?_)
        try dsimp only at p39
        rw [e36, ti, e32, cn] at p39
        have hch : (x39 = -1 ∧ M39 = M1 ∧ chq σ q k = none) ∨ ∃ d, d < 32 ∧ x39 = nI d ∧ M39 = sI (sI M1 18 d (nI i)) 19 (d / 8) (tkI σ i) ∧ chq σ q k = some d := by
          rcases p39 with ⟨z1, z2, z3, z4⟩ | ⟨d, z1, z2, z3, z4⟩
          · exact Or.inl ⟨z1, z2, by unfold chq; rw [← ei]; exact ch_none hfr z3 z4⟩
          · exact Or.inr ⟨d, z1, z2, z3, by unfold chq; rw [← ei]; exact ch_some hfr z1 z4⟩
        have o39 : oA (fun p _ => p = 18 ∨ p = 19) M1 M39 := by
          rcases hch with ⟨-, z, -⟩ | ⟨d, -, -, z, -⟩
          · rw [z]; exact oA.rf
          · rw [z]; exact oA.putI (oA.putI oA.rf (Or.inl rfl)) (Or.inr rfl)
        have ne9 : ∀ j, j < k → q j ≠ i := fun j hj z => by
          have h9 := hs.2.2.1 j k hj (by omega)
          rw [z, ei] at h9
          rcases h9 with w | ⟨-, w⟩
          · exact absurd w (by rw [i32lt]; omega)
          · omega
        refine wpI hx hb fw270 hA hW (hX.2 i (by omega)) rfl dX9_giveChannels_42 (fun M42 H locs eM42 hW => ?_)
        refine lv_aload_n hx hb dX9_giveChannels_45 rfl (lv_at hl 0 rfl) ?_
        refine wgI hx hb fa270 hW (hX.2 i (by omega)) rfl dX9_giveChannels_46 (fun x46 e46 => ?_)
        refine lv_iconst (v := (-1)) hx hb dX9_giveChannels_49 (by decide) ?_
        refine lv_icmp_ne (tgt := 61) hx hb dX9_giveChannels_50 (by decide) (fun c50 => ?_) (fun c50 => ?_)
        · have hch2 : ∃ d, d < 32 ∧ x39 = nI d ∧ M39 = sI (sI M1 18 d (nI i)) 19 (d / 8) (tkI σ i) ∧ chq σ q k = some d := by
            rcases hch with ⟨z1, -, -⟩ | z
            · exfalso; rw [e46, eM42, gI_sI, if_pos ⟨rfl, rfl⟩] at c50; exact c50 z1
            · exact z
          obtain ⟨d0, y1, y2, y3, y4⟩ := hch2
          refine lv_aload_n hx hb dX9_giveChannels_61 rfl (lv_at hl 3 rfl) ?_
          refine wgF (t := 20) hx hb fa62 hW (hX.1 0 (by decide)) rfl dX9_giveChannels_62 ?_
          refine lv_iload_n hx hb dX9_giveChannels_65 rfl (lv_at hl 2 rfl) ?_
          refine lv_aload_n hx hb dX9_giveChannels_66 rfl (lv_at hl 0 rfl) ?_
          refine wasR (ta0 := 3) (ci := 2) (r := (RX2, TX2, 9)) (j := (lit σ q k)) hx hb hK hA hW (hX.1 20 (by decide)) ⟨by decide, by decide⟩ rfl rfl (hX.2 i (by omega)) el (by omega) (by decide) dX9_giveChannels_67 (fun M67 H locs eM67 hW => ?_)
          have o42 : oA (fun p j => p = 18 ∨ p = 19 ∨ (p = 100 + i ∧ j = 8)) M1 M42 := by rw [eM42]; exact (o39.mono (fun p j z => by omega)).putI (Or.inr (Or.inr ⟨rfl, rfl⟩))
          have G0 : xl + 1 = nI (lit σ q (k + 1)) := by rw [el, nlit 1, nI_add]; show _ = nI (lit σ q k + if chq σ q k = none then 0 else 1); rw [if_neg (by rw [y4]; exact fun z => by cases z)]
          have G1 : oA (fun p k => p = 20 ∨ p = 18 ∨ p = 19 ∨ (100 ≤ p ∧ (k = 7 ∨ k = 8))) M M67 := by rw [eM67]; exact (f1.trans (o42.mono (fun p j z => by omega))).putR (Or.inl rfl)
          have G2 : ∀ d, d < 32 → gI M67 18 d = opI (gvn σ q (k + 1) d) := fun d hd => by
            rw [eM67, gI_sR, eM42, gI_sI, if_neg (by omega), y3, gI_sI, if_neg (by omega), gI_sI, chq_s σ q k d0 y4]
            show _ = opI (if d = d0 then some (q k) else gvn σ q k d)
            by_cases z : d = d0
            · rw [if_pos ⟨rfl, z⟩, if_pos z, ← ei]; rfl
            · rw [if_neg (fun w => z w.2), if_neg z]; exact f2 d hd
          have G3 : LTR σ (gvn σ q (k + 1)) M67 := by
            rw [chq_s σ q k d0 y4, ← ei]
            refine LTR_put f3 y1 (chF_lt y4).2 (fun d i9 hd hg => by rw [ei]; exact (gvn_le hs (by omega) d i9 hd hg).2) ?_ (fun b hb => ?_)
            · rw [eM67, gI_sR, eM42, gI_sI, if_neg (by omega), y3, gI_sI, if_pos ⟨rfl, rfl⟩]
            · rw [eM67, gI_sR, eM42, gI_sI, if_neg (by omega), y3, gI_sI, if_neg (fun w => hb w.2), gI_sI, if_neg (by omega)]
          have fz : gI M1 (100 + i) 7 = nI 0 := by
            rw [(f5 i ne9).1]; exact hF i hi (by rw [ei]; exact hsk.2)
          have G4 : ∀ j, j < (k + 1) → gI M67 (100 + q j) 8 = opI (chq σ q j) ∧ gI M67 (100 + q j) 7 = nI (if chq σ q j = none then 3 else 0) := fun j hj => by
            rw [eM67, gI_sR, gI_sR]
            rcases Nat.lt_or_ge j k with z | z
            · have hne := ne9 j z
              rw [(o42 _ _ (by omega)).1, (o42 _ _ (by omega)).1]; exact f4 j z
            · have hjk : j = k := by omega
              subst hjk; rw [← ei, y4]; exact ⟨by rw [eM42, gI_sI, if_pos ⟨rfl, rfl⟩, y2]; rfl, by rw [(o42 _ _ (by omega)).1, fz]; rfl⟩
          have G5 : ∀ i, (∀ j, j < (k + 1) → q j ≠ i) → gI M67 (100 + i) 7 = gI M (100 + i) 7 ∧ gI M67 (100 + i) 8 = gI M (100 + i) 8 := fun i9 hi9 => by
            have hne : i9 ≠ i := fun z => hi9 k (by omega) (by rw [z, ei])
            rw [eM67, gI_sR, gI_sR, (o42 _ _ (by omega)).1, (o42 _ _ (by omega)).1]; exact f5 i9 (fun j hj => hi9 j (by omega))
          have G6 : ∀ j, k + 1 ≤ j → j < c → gR M67 20 j = some (100 + q j) := fun j h1 h2 => by rw [eM67, gR_sR, if_neg (by omega), (o42 _ _ (by omega)).2.2]; exact f6 j (by omega) h2
          have G7 : ∀ j, j < (k + 1) → chq σ q j ≠ none → gR M67 20 (lit σ q j) = some (100 + q j) := fun j hj hn => by
            rw [eM67, gR_sR]
            rcases Nat.lt_or_ge j k with z | z
            · have h8 := lit_mono σ q (j := j + 1) (k := k) z
              have e9 : lit σ q (j + 1) = lit σ q j + 1 := by
                show lit σ q j + (if chq σ q j = none then 0 else 1) = _
                rw [if_neg hn]
              rw [if_neg (by omega), (o42 _ _ (by omega)).2.2]; exact f7 j z hn
            · have hjk : j = k := by omega
              subst hjk; rw [if_pos ⟨rfl, rfl⟩, ei]
          obtain ⟨x68, e68⟩ : ∃ y : Int32, y = xl + 1 := ⟨_, rfl⟩
          refine lv_iinc (v := x68) (lv' := [(1, .int x68), (3, .ref (ad (100 + i))), (2, .int xp), (0, .ref (ad 0))]) hx hb dX9_giveChannels_68 hl (k := 2) rfl (by rw [e68]; rfl) (by decide) rfl (fun ls hl => ?_)
          obtain ⟨x71, e71⟩ : ∃ y : Int32, y = xp + 1 := ⟨_, rfl⟩
          refine lv_iinc (v := x71) (lv' := [(2, .int x71), (1, .int x68), (3, .ref (ad (100 + i))), (0, .ref (ad 0))]) hx hb dX9_giveChannels_71 hl (k := 2) rfl (by rw [e71]; rfl) (by decide) rfl (fun ls hl => ?_)
          refine lv_goto (tgt := 11) hx hb dX9_giveChannels_74 (by decide) ?_
          exact ih11 (k + 1) x71 x68 M67 _ _ (by omega) (by omega) (by rw [e71, ek, nlit 1, nI_add]) (by first | exact G0 | (rw [e68]; exact G0)) G1 G2 G3 G4 G5 G6 G7 hW ls (lv_sub hl [0, 1, 3] rfl)
        · have hch2 : x39 = -1 ∧ M39 = M1 ∧ chq σ q k = none := by
            rcases hch with z | ⟨d, z1, z2, z3, z4⟩
            · exact z
            · exfalso; rw [e46, eM42, gI_sI, if_pos ⟨rfl, rfl⟩, z2] at c50; exact nI_m1 z1 c50
          obtain ⟨y1, y2, y3⟩ := hch2
          refine lv_aload_n hx hb dX9_giveChannels_53 rfl (lv_at hl 0 rfl) ?_
          refine lv_iconst (v := 3) hx hb dX9_giveChannels_54 (by decide) ?_
          refine wpI hx hb fw188 hA hW (hX.2 i (by omega)) rfl dX9_giveChannels_55 (fun M55 H locs eM55 hW => ?_)
          have G0 : xl = nI (lit σ q (k + 1)) := by rw [el]; show _ = nI (lit σ q k + if chq σ q k = none then 0 else 1); rw [if_pos y3]; rfl
          have G1 : oA (fun p k => p = 20 ∨ p = 18 ∨ p = 19 ∨ (100 ≤ p ∧ (k = 7 ∨ k = 8))) M M55 := by rw [eM55, eM42, y2]; exact (f1.putI (Or.inr (Or.inr (Or.inr ⟨by omega, Or.inr rfl⟩)))).putI (Or.inr (Or.inr (Or.inr ⟨by omega, Or.inl rfl⟩)))
          have G2 : ∀ d, d < 32 → gI M55 18 d = opI (gvn σ q (k + 1) d) := fun d hd => by rw [eM55, gI_sI, if_neg (by omega), eM42, gI_sI, if_neg (by omega), y2, chq_n σ q k y3]; exact f2 d hd
          have G3 : LTR σ (gvn σ q (k + 1)) M55 := by rw [chq_n σ q k y3]; exact LTR_same f3 (fun b => by rw [eM55, gI_sI, if_neg (by omega), eM42, gI_sI, if_neg (by omega), y2])
          have G4 : ∀ j, j < (k + 1) → gI M55 (100 + q j) 8 = opI (chq σ q j) ∧ gI M55 (100 + q j) 7 = nI (if chq σ q j = none then 3 else 0) := fun j hj => by
            rcases Nat.lt_or_ge j k with z | z
            · have hne := ne9 j z
              rw [eM55, gI_sI, if_neg (by omega), eM42, gI_sI, if_neg (by omega), gI_sI, if_neg (by omega), gI_sI, if_neg (by omega), y2]; exact f4 j z
            · have hjk : j = k := by omega
              subst hjk; rw [← ei, y3]; exact ⟨by rw [eM55, gI_sI, if_neg (by omega), eM42, gI_sI, if_pos ⟨rfl, rfl⟩, y1]; rfl, by rw [eM55, gI_sI, if_pos ⟨rfl, rfl⟩]; rfl⟩
          have G5 : ∀ i, (∀ j, j < (k + 1) → q j ≠ i) → gI M55 (100 + i) 7 = gI M (100 + i) 7 ∧ gI M55 (100 + i) 8 = gI M (100 + i) 8 := fun i9 hi9 => by
            have hne : i9 ≠ i := fun z => hi9 k (by omega) (by rw [z, ei])
            rw [eM55, gI_sI, if_neg (by omega), eM42, gI_sI, if_neg (by omega), gI_sI, if_neg (by omega), gI_sI, if_neg (by omega), y2]; exact f5 i9 (fun j hj => hi9 j (by omega))
          have G6 : ∀ j, k + 1 ≤ j → j < c → gR M55 20 j = some (100 + q j) := fun j h1 h2 => by rw [eM55, gR_sI, eM42, gR_sI, y2]; exact f6 j (by omega) h2
          have G7 : ∀ j, j < (k + 1) → chq σ q j ≠ none → gR M55 20 (lit σ q j) = some (100 + q j) := fun j hj hn => by
            rcases Nat.lt_or_ge j k with z | z
            · rw [eM55, gR_sI, eM42, gR_sI, y2]; exact f7 j z hn
            · exact absurd y3 (by rw [← show j = k by omega]; exact hn)
          refine lv_goto (tgt := 71) hx hb dX9_giveChannels_58 (by decide) ?_
          obtain ⟨x71, e71⟩ : ∃ y : Int32, y = xp + 1 := ⟨_, rfl⟩
          refine lv_iinc (v := x71) (lv' := [(2, .int x71), (3, .ref (ad (100 + i))), (1, .int xl), (0, .ref (ad 0))]) hx hb dX9_giveChannels_71 hl (k := 1) rfl (by rw [e71]; rfl) (by decide) rfl (fun ls hl => ?_)
          refine lv_goto (tgt := 11) hx hb dX9_giveChannels_74 (by decide) ?_
          exact ih11 (k + 1) x71 xl M55 _ _ (by omega) (by omega) (by rw [e71, ek, nlit 1, nI_add]) (by first | exact G0 | (rw [e68]; exact G0)) G1 G2 G3 G4 G5 G6 G7 hW ls (lv_sub hl [0, 2, 3] rfl)
  exact L11 (_ + 1) 0 0 0 M4 _ _ (Nat.lt_succ_self _) (Nat.zero_le _) rfl rfl (p4.1.oA.mono (fun p k z => by omega)) (fun d hd => p4.2.1 d hd) (fun b hb => Or.inl ⟨fun d _ _ => rfl, p4.2.2 b hb⟩) (fun j hj => absurd hj (Nat.not_lt_zero j)) (fun i _ => ⟨p4.1.1 _ _ (by omega), p4.1.1 _ _ (by omega)⟩) (fun j _ hj => by rw [p4.1.rg]; exact hq.2 j hj) (fun j hj => absurd hj (Nat.not_lt_zero j)) hW ls (lv_sub hl [0, 1, 2] rfl)
set_option maxHeartbeats 4000000 in
set_option maxRecDepth 100000 in
theorem c_X9_plan (l : Launch) (D : va_G) (cA : Nat → ClassId) (sh : Nat → Option Sh) (ad : Nat → Nat) (M : MS) (sz : Nat) (σ : AS) (ok : AOK σ) (hX : XSh (aN σ) sh) (hR : XR σ M) (hP : XPl σ M) : Met l yX9_plan wsX9_plan ({ frames := 3, cells := 0, slots := 0, locals := 75 }) (wPc D cA sh ad M sz [.ref (ad 0)]) (wQv D cA sh ad (fun M' => oA XSc M M' ∧ gI M' 0 14 = 1 ∧ ∃ q c, PlanR σ q c M') (wA sh ad sz)) 0 0 (wA sh ad sz) := by
  refine Met.ofW (cc := cX9_plan) (maxL := 1) (ret := none) (by decide) rfl ?_
  intro p e s m args below meth cd0 s₁ B hml hv
  obtain ⟨rfl, hsz, hM, hK⟩ := hv
  have hx := B.exec
  have hb := B.bytes
  have hr := B.returns
  have hts := atoms_spec (ws := wsX9_plan) B.pre
  have hown : s.vm.findClass RX9 = some m.cls := findClass_of_methodNamed B.named
  have hlocks := B.notSynchronized
  subst hsz
  have hA := wA_PA sh ad s.heap
  generalize wA sh ad s.heap.size = A at hA ⊢
  have hW : WS D cA sh ad A s.heap M s.heap [] := ⟨hM, va_S.rf⟩
  have fa44 : FA D s m ([.ref (ad 0)] : List Value).toArray 44 9 5 := FA.mk (C := RX9) (T := TX9) (N := 15) hts (fun _ h => List.mem_cons_of_mem _ (List.mem_append_left _ (List.mem_append_left _ (List.mem_append_left _ (List.mem_append_left _ (List.mem_append_left _ (List.mem_append_left _ (List.mem_append_left _ (List.mem_append_right _ (h)))))))))) hown hK rfl (by decide) (hts (.fieldLink RX9 44 "MortarShow" "cueList" "[LMortarShow$Cue;") (List.mem_of_getElem? (i := 3) rfl))
  have fa51 : FA D s m ([.ref (ad 0)] : List Value).toArray 51 9 6 := FA.mk (C := RX9) (T := TX9) (N := 15) hts (fun _ h => List.mem_cons_of_mem _ (List.mem_append_left _ (List.mem_append_left _ (List.mem_append_left _ (List.mem_append_left _ (List.mem_append_left _ (List.mem_append_left _ (List.mem_append_left _ (List.mem_append_right _ (h)))))))))) hown hK rfl (by decide) (hts (.fieldLink RX9 51 "MortarShow" "beats" "LMortarShow$Beats;") (List.mem_of_getElem? (i := 2) rfl))
  have fa82 : FA D s m ([.ref (ad 0)] : List Value).toArray 82 9 14 := FA.mk (C := RX9) (T := TX9) (N := 15) hts (fun _ h => List.mem_cons_of_mem _ (List.mem_append_left _ (List.mem_append_left _ (List.mem_append_left _ (List.mem_append_left _ (List.mem_append_left _ (List.mem_append_left _ (List.mem_append_left _ (List.mem_append_right _ (h)))))))))) hown hK rfl (by decide) (hts (.fieldLink RX9 82 "MortarShow" "planned" "Z") (List.mem_of_getElem? (i := 1) rfl))
  have fw82 : FW D s m ([.ref (ad 0)] : List Value).toArray 82 9 14 (.boolean) := FW.mk (C := RX9) (T := TX9) (N := 15) hts (fun _ h => List.mem_cons_of_mem _ (List.mem_append_left _ (List.mem_append_left _ (List.mem_append_left _ (List.mem_append_left _ (List.mem_append_left _ (List.mem_append_left _ (List.mem_append_left _ (List.mem_append_right _ (h)))))))))) hown hK rfl (by decide) (hts (.fieldLink RX9 82 "MortarShow" "planned" "Z") (List.mem_of_getElem? (i := 1) rfl)) tyX9 tyX9_ok nmX9 rfl rfl
  have hl := lv_entry ([.ref (ad 0)]) (n := 1) (Nat.le_of_ble_eq_true rfl)
  rw [lg_entry_eq]
  generalize (lg_sl ([.ref (ad 0)]) ++ List.replicate (1 - (lg_sl ([.ref (ad 0)])).length) Slot.unset).toArray = ls at hl ⊢
  have hl : lv_has ls 1 [(0, .ref (ad 0))] := hl
  refine lv_aload_n hx hb dX9_plan_0 rfl (lv_at hl 0 rfl) ?_
  refine wgI hx hb fa82 hW (hX.1 0 (by decide)) rfl dX9_plan_1 (fun x1 e1 => ?_)
  refine lv_if_eq (tgt := 8) hx hb dX9_plan_4 (by decide) (fun c4 => ?_) (fun c4 => ?_)
  · refine lv_aload_n hx hb dX9_plan_8 rfl (lv_at hl 0 rfl) ?_
    refine lv_iconst (v := 1) hx hb dX9_plan_9 (by decide) ?_
    refine wpZ hx hb fw82 hA hW (hX.1 0 (by decide)) rfl ⟨rfl, rfl⟩ dX9_plan_10 (fun M10 H locs eM10 hW => ?_)
    have o10 : oA XSc M M10 := by rw [eM10]; exact oA.putI oA.rf (Or.inl ⟨rfl, Or.inr rfl⟩)
    have hR10 : XR σ M10 := hR.oA o10 (fun p k hx hz => by unfold XRs at hx; unfold XSc at hz; omega)
    refine lv_aload_n hx hb dX9_plan_13 rfl (lv_at hl 0 rfl) ?_
    refine wc_wv (va_runV (As := []) (rest := []) ⟨hx, hb, hml, hown, hts⟩ (c_X9_strikeCues l D cA sh ad M10 _ σ ok hX hR10) (cwV 0 hts gX9_plan_X9_strikeCues rfl rfl rfl (by decide +kernel) ⟨Nat.le_of_ble_eq_true rfl, Nat.le_of_ble_eq_true rfl⟩) (wpreV hK hW (C := RX9) (ci := 9) (hX.1 0 (by decide)) rfl) rfl rfl hl.1 rfl (lv_room (Nat.le_of_ble_eq_true rfl)) dX9_plan_14 ⟨Nat.le_of_ble_eq_true rfl, Nat.le_of_ble_eq_true rfl⟩) hA hW (fun M14 H locs p14 hW => ?_)
    try dsimp only at p14
    have o14 : oA XSc M M14 := o10.trans (p14.1.mono (fun p k z => Or.inr (Or.inr (Or.inr ⟨z.1, by omega⟩))))
    have hR14 : XR σ M14 := hR.oA o14 (fun p k hx hz => by unfold XRs at hx; unfold XSc at hz; omega)
    refine lv_aload_n hx hb dX9_plan_17 rfl (lv_at hl 0 rfl) ?_
    refine wgF (t := 12) hx hb fa51 hW (hX.1 0 (by decide)) rfl dX9_plan_18 ?_
    refine lv_aload_n hx hb dX9_plan_21 rfl (lv_at hl 0 rfl) ?_
    refine wgF (t := 11) hx hb fa44 hW (hX.1 0 (by decide)) rfl dX9_plan_22 ?_
    refine wc_wv (va_runV (As := [.ref (ad 11)]) (rest := []) ⟨hx, hb, hml, hown, hts⟩ (c_X0_closeUp l D cA sh ad M14 _ σ ok hX hR14 (fun i hi hg => p14.2 i hi hg)) (cwV 1 hts gX9_plan_X0_closeUp rfl rfl rfl (by decide +kernel) ⟨Nat.le_of_ble_eq_true rfl, Nat.le_of_ble_eq_true rfl⟩) (wpreV hK hW (C := RX0) (ci := 0) (hX.1 12 (by decide)) rfl) rfl rfl hl.1 rfl (lv_room (Nat.le_of_ble_eq_true rfl)) dX9_plan_25 ⟨Nat.le_of_ble_eq_true rfl, Nat.le_of_ble_eq_true rfl⟩) hA hW (fun M25 H locs p25 hW => ?_)
    try dsimp only at p25
    have o25 : oA XSc M M25 := o14.trans (p25.1.oA.mono (fun p k z => Or.inr (Or.inl (by omega))))
    have hR25 : XR σ M25 := hR.oA o25 (fun p k hx hz => by unfold XRs at hx; unfold XSc at hz; omega)
    have hT25 : StkR σ M25 := fun i hi hg => by rw [p25.1.lg, p25.1.1 _ _ (by omega)]; exact p14.2 i hi hg
    refine lv_aload_n hx hb dX9_plan_28 rfl (lv_at hl 0 rfl) ?_
    refine wc_wv (va_runV (As := []) (rest := []) ⟨hx, hb, hml, hown, hts⟩ (c_X9_queueUp l D cA sh ad M25 _ σ ok hX hR25 hT25 p25.2.1) (cwV 0 hts gX9_plan_X9_queueUp rfl rfl rfl (by decide +kernel) ⟨Nat.le_of_ble_eq_true rfl, Nat.le_of_ble_eq_true rfl⟩) (wpreV hK hW (C := RX9) (ci := 9) (hX.1 0 (by decide)) rfl) rfl rfl hl.1 rfl (lv_room (Nat.le_of_ble_eq_true rfl)) dX9_plan_29 ⟨Nat.le_of_ble_eq_true rfl, Nat.le_of_ble_eq_true rfl⟩) hA hW (fun M29 H locs p29 hW => ?_)
    try dsimp only at p29
    obtain ⟨q29, d29, q, c, hs29, hq29⟩ := p29
    have o29 : oA XSc M M29 := o25.trans (q29.mono (fun p k z => by unfold XSc; omega))
    have hR29 : XR σ M29 := hR.oA o29 (fun p k hx hz => by unfold XRs at hx; unfold XSc at hz; omega)
    have hF29 : ∀ i, i < aN σ → elg σ i → gI M29 (100 + i) 7 = nI 0 := fun i hi he => by rw [(d29 i hi he.2.1).2.2.2, he.2.2.1, if_neg (by decide), if_neg he.2.2.2]
    refine lv_aload_n hx hb dX9_plan_32 rfl (lv_at hl 0 rfl) ?_
    refine wc_wv (va_runV (As := []) (rest := []) ⟨hx, hb, hml, hown, hts⟩ (c_X9_giveChannels l D cA sh ad M29 _ σ ok hX hR29 q c hs29 hq29 (fun i hi hg => (d29 i hi hg).2.1) hF29) (cwV 0 hts gX9_plan_X9_giveChannels rfl rfl rfl (by decide +kernel) ⟨Nat.le_of_ble_eq_true rfl, Nat.le_of_ble_eq_true rfl⟩) (wpreV hK hW (C := RX9) (ci := 9) (hX.1 0 (by decide)) rfl) rfl rfl hl.1 rfl (lv_room (Nat.le_of_ble_eq_true rfl)) dX9_plan_33 ⟨Nat.le_of_ble_eq_true rfl, Nat.le_of_ble_eq_true rfl⟩) hA hW (fun M33 H locs p33 hW => ?_)
    try dsimp only at p33
    obtain ⟨q33, g33, f33, u33, l33, w33⟩ := p33
    have o33 : oA XSc M M33 := o29.trans (q33.mono (fun p k z => by unfold XSc; omega))
    have r33 : PlanR σ q c M33 := by
      refine ⟨hs29, fun i hi hg => ⟨?_, ?_, ?_, fun hne => ?_⟩, f33, g33, l33, w33, ?_⟩
      · rw [(q33 _ _ (by omega)).2.1, (q29 _ _ (by omega)).2.1]; exact (hT25 i hi hg).1
      · rw [(q33 _ _ (by omega)).1]; exact (d29 i hi hg).1
      · rw [(q33 _ _ (by omega)).1]; exact (d29 i hi hg).2.1
      · obtain ⟨v1, v2⟩ := u33 i (fun j hj z => hne (by rw [← z]; exact (hs29.1 j hj).2))
        rw [v2, v1, (d29 i hi hg).2.2.1, (d29 i hi hg).2.2.2]
        refine ⟨rfl, ?_⟩
        cases hs9 : stkB σ i
        · have ht9 : tkI σ i < 0 := Decidable.byContradiction (fun z => hne ⟨hi, hg, hs9, z⟩)
          rw [if_neg (by decide), if_pos ht9, if_neg (by decide)]
        · rfl
      · rw [(q33 _ _ (by omega)).1, (q29 _ _ (by omega)).1]; exact p25.2.2
    have v33 : gI M33 0 14 = 1 := by rw [(q33 _ _ (by omega)).1, (q29 _ _ (by omega)).1, p25.1.1 _ _ (by omega), (p14.1 _ _ (by omega)).1, eM10, gI_sI, if_pos ⟨rfl, rfl⟩]
    exact wr_wv hx hb hr hlocks hW dX9_plan_36 ⟨o33, v33, q, c, r33⟩
  · exact wr_wv hx hb hr hlocks hW dX9_plan_7 ⟨oA.rf, hP.elim (fun z => absurd (e1.trans z) c4) (fun z => z.1), hP.elim (fun z => absurd (e1.trans z) c4) (fun z => z.2)⟩

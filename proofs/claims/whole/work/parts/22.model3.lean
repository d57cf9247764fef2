/-! The reference: the next cue, the gap, the channel. -/
theorem bef_asym {σ : AS} {a b : Nat} (h1 : bef σ a b) (h2 : bef σ b a) : False := by
  unfold bef at h1 h2
  rw [i32lt, i32eq] at h1 h2
  omega
theorem bef_tot {σ : AS} {a b : Nat} (h : ¬ bef σ a b) : a = b ∨ bef σ b a := by
  unfold bef at h ⊢
  rw [i32lt, i32eq] at h ⊢
  omega
theorem bef_tr {σ : AS} {a b c : Nat} (h1 : bef σ a b) (h2 : bef σ b c) : bef σ a c := by
  unfold bef at h1 h2 ⊢
  rw [i32lt, i32eq] at h1 h2 ⊢
  omega
theorem nI_m9 {c : Nat} (h : c < 1000) : ¬ nI c = -1 := fun q => by
  have q2 : (nI c).toInt = (-1 : Int32).toInt := congrArg Int32.toInt q
  rw [nI_toInt (by omega)] at q2
  have : (-1 : Int32).toInt = -1 := rfl
  omega
def cnd (σ : AS) (q : Nat → Nat) (J i : Nat) : Prop := elg σ i ∧ (J = 0 ∨ bef σ (q (J - 1)) i)
def ndF (σ : AS) (C : Nat → Prop) (k : Nat) (x : Int32) : Prop := (x = -1 ∧ ∀ i, i < k → ¬ C i) ∨ ∃ f, f < k ∧ x = nI f ∧ C f ∧ ∀ i, i < k → C i → i = f ∨ bef σ f i
def nxI (q : Nat → Nat) (c J : Nat) : Int32 := if J < c then nI (q J) else -1
theorem nd_skip {σ : AS} {C : Nat → Prop} {k : Nat} {x : Int32} (h : ndF σ C k x) (hn : ¬ C k) : ndF σ C (k + 1) x := by
  have low : ∀ i, i < k + 1 → C i → i < k := fun i hi hc => by
    rcases Nat.lt_or_ge i k with z | z
    · exact z
    · have : i = k := by omega
      subst this; exact absurd hc hn
  rcases h with ⟨h1, h2⟩ | ⟨f, h1, h2, h3, h4⟩
  · exact Or.inl ⟨h1, fun i hi hc => h2 i (low i hi hc) hc⟩
  · exact Or.inr ⟨f, by omega, h2, h3, fun i hi hc => h4 i (low i hi hc) hc⟩
theorem nd_one {σ : AS} {C : Nat → Prop} {k : Nat} {x : Int32} (h : ndF σ C k x) (hx : x = -1) (hk : k < 1000) (hc : C k) : ndF σ C (k + 1) (nI k) := by
  rcases h with ⟨h1, h2⟩ | ⟨f, h1, h2, h3, h4⟩
  · refine Or.inr ⟨k, by omega, rfl, hc, fun i hi hci => ?_⟩
    rcases Nat.lt_or_ge i k with z | z
    · exact absurd hci (h2 i z)
    · exact Or.inl (by omega)
  · exact absurd (h2.symm.trans hx) (nI_m9 (by omega))
theorem nd_some {σ : AS} {C : Nat → Prop} {k : Nat} {x : Int32} (h : ndF σ C k x) (hx : ¬ x = -1) : ∃ f, f < k ∧ x = nI f ∧ C f ∧ ∀ i, i < k → C i → i = f ∨ bef σ f i :=
  h.elim (fun z => absurd z.1 hx) (fun z => z)
theorem nd_keep {σ : AS} {C : Nat → Prop} {k f : Nat} {x : Int32} (h1 : f < k) (h2 : x = nI f) (h3 : C f) (h4 : ∀ i, i < k → C i → i = f ∨ bef σ f i) (hb : ¬ bef σ k f) : ndF σ C (k + 1) x := by
  refine Or.inr ⟨f, by omega, h2, h3, fun i hi hci => ?_⟩
  rcases Nat.lt_or_ge i k with z | z
  · exact h4 i z hci
  · have : i = k := by omega
    subst this; exact bef_tot hb
theorem nd_new {σ : AS} {C : Nat → Prop} {k f : Nat} (h4 : ∀ i, i < k → C i → i = f ∨ bef σ f i) (hc : C k) (hb : bef σ k f) : ndF σ C (k + 1) (nI k) := by
  refine Or.inr ⟨k, by omega, rfl, hc, fun i hi hci => ?_⟩
  rcases Nat.lt_or_ge i k with z | z
  · rcases h4 i z hci with y | y
    · exact Or.inr (by rw [y]; exact hb)
    · exact Or.inr (bef_tr hb y)
  · exact Or.inl (by omega)
theorem nd_end {σ : AS} {q : Nat → Nat} {c J : Nat} {x : Int32} (o1 : aN σ ≤ 40) (hs : Srt σ 40 q c) (hJ : J ≤ c) (h : ndF σ (cnd σ q J) (aN σ) x) : x = nxI q c J := by
  unfold nxI
  have low : ∀ j', j' < c → cnd σ q J (q j') → J ≤ j' := fun j' hj' hc => by
    rcases Nat.lt_or_ge j' J with z | z
    · exfalso
      rcases hc.2 with y | y
      · omega
      · rcases Nat.lt_or_ge j' (J - 1) with w | w
        · exact bef_asym y (hs.2.2.1 j' (J - 1) w (by omega))
        · have : j' = J - 1 := by omega
          rw [this] at y; exact bef_irr y
    · exact z
  by_cases hc : J < c
  · rw [if_pos hc]
    have hq := (hs.1 J hc).2
    have hcq : cnd σ q J (q J) := ⟨hq, by
      rcases Nat.eq_zero_or_pos J with z | z
      · exact Or.inl z
      · exact Or.inr (hs.2.2.1 (J - 1) J (by omega) hc)⟩
    rcases h with ⟨-, h2⟩ | ⟨f, h1, h2, h3, h4⟩
    · exact absurd hcq (h2 _ hq.1)
    · rw [h2]
      obtain ⟨j', hj', ej⟩ := hs.2.1 f (by omega) h3.1
      have hl := low j' hj' (by rw [ej]; exact h3)
      rcases Nat.lt_or_ge J j' with z | z
      · exfalso
        have hb := hs.2.2.1 J j' z hj'
        rw [ej] at hb
        rcases h4 (q J) hq.1 hcq with y | y
        · rw [y] at hb; exact bef_irr hb
        · exact bef_asym hb y
      · have : j' = J := by omega
        rw [← ej, this]
  · rw [if_neg hc]
    rcases h with ⟨h1, -⟩ | ⟨f, h1, h2, h3, h4⟩
    · exact h1
    · exfalso
      obtain ⟨j', hj', ej⟩ := hs.2.1 f (by omega) h3.1
      have := low j' hj' (by rw [ej]; exact h3)
      omega
/-- the gap, channel by channel -/
def gcP (σ : AS) (g : Nat → Option Nat) (t : Int32) (d : Nat) (y : Int32) : Prop := (g d = none ∧ y = nI (σ.2 5 0)) ∨ ∃ i, g d = some i ∧ y = t - tkI σ i
def gcB (σ : AS) (g : Nat → Option Nat) (t : Int32) (b c : Nat) : Bool := match g (8 * b + c) with
  | none => true
  | some i => gapOk σ (t - tkI σ i)
theorem gc_eq {σ : AS} {g : Nat → Option Nat} {t y : Int32} {b c : Nat} (h : gcP σ g t (8 * b + c) y) : gcB σ g t b c = gapOk σ y := by
  unfold gcB
  rcases h with ⟨h1, h2⟩ | ⟨i, h1, h2⟩
  · rw [h1, h2]
    symm
    exact decide_eq_true (Or.inl (by rw [i32le]; omega))
  · rw [h1, h2]
theorem hasG_all {σ : AS} {g : Nat → Option Nat} {t : Int32} {b : Nat} : hasG σ g b t = allN (gcB σ g t b) 8 := by
  rw [Bool.eq_iff_iff, hasG_iff, allN_iff]
  constructor
  · intro h c hc
    unfold gcB
    cases hg : g (8 * b + c) with
    | none => rfl
    | some i => exact h c hc i hg
  · intro h c hc i hi
    have := h c hc
    unfold gcB at this
    rw [hi] at this; exact this
/-- the lowest from k on -/
def loF (p : Nat → Bool) (k : Nat) (x : Int32) : Prop := (x = -1 ∧ ∀ d, k ≤ d → d < 32 → p d = false) ∨ ∃ d, k ≤ d ∧ d < 32 ∧ x = nI d ∧ p d = true ∧ ∀ d', k ≤ d' → d' < d → p d' = false
theorem loF_0 (p : Nat → Bool) : loF p 32 (-1) := Or.inl ⟨rfl, fun d h1 h2 => by omega⟩
theorem loF_skip {p : Nat → Bool} {k : Nat} {x : Int32} (h : loF p k x) (hp : p (k - 1) = false) : loF p (k - 1) x := by
  have low : ∀ d, k - 1 ≤ d → k ≤ d ∨ d = k - 1 := fun d hd => by omega
  rcases h with ⟨h1, h2⟩ | ⟨d, h1, h2, h3, h4, h5⟩
  · refine Or.inl ⟨h1, fun d hd hd2 => ?_⟩
    rcases low d hd with z | z
    · exact h2 d z hd2
    · rw [z]; exact hp
  · refine Or.inr ⟨d, by omega, h2, h3, h4, fun d' hd' hd2 => ?_⟩
    rcases low d' hd' with z | z
    · exact h5 d' z hd2
    · rw [z]; exact hp
theorem loF_new {p : Nat → Bool} {k : Nat} (hk : 1 ≤ k) (hk2 : k ≤ 32) (hp : p (k - 1) = true) : loF p (k - 1) (nI (k - 1)) :=
  Or.inr ⟨k - 1, Nat.le_refl _, by omega, rfl, hp, fun d' h1 h2 => by omega⟩
theorem loF_n {p : Nat → Bool} {x : Int32} (h : loF p 0 x) (hx : x = -1) : firstB p 32 = none := by
  rcases h with ⟨h1, h2⟩ | ⟨d, h1, h2, h3, h4, h5⟩
  · exact firstB_no (fun d hd => h2 d (Nat.zero_le _) hd)
  · exact absurd (h3.symm.trans hx) (nI_m9 (by omega))
theorem loF_s {p : Nat → Bool} {x : Int32} (h : loF p 0 x) (hx : ¬ x = -1) : ∃ d, firstB p 32 = some d ∧ x = nI d := by
  rcases h with ⟨h1, h2⟩ | ⟨d, h1, h2, h3, h4, h5⟩
  · exact absurd h1 hx
  · exact ⟨d, firstB_is h2 h4 (fun d' hd' => h5 d' (Nat.zero_le _) hd'), h3⟩
theorem ch_fin1 {σ : AS} {g : Nat → Option Nat} {t x : Int32} (h : loF (frB σ g t 0 6) 0 x) (hx : ¬ x = -1) : x = opI (chF σ g t) := by
  obtain ⟨d, h1, h2⟩ := loF_s h hx
  unfold chF
  rw [h1, h2]; rfl
theorem ch_fin2 {σ : AS} {g : Nat → Option Nat} {t x y : Int32} (h : loF (frB σ g t 0 6) 0 x) (hx : x = -1) (h2 : loF (frB σ g t 6 8) 0 y) : y = opI (chF σ g t) := by
  unfold chF
  rw [loF_n h hx]
  by_cases hy : y = -1
  · rw [loF_n h2 hy]; exact hy
  · obtain ⟨d, e1', e2'⟩ := loF_s h2 hy
    rw [e1', e2']; rfl
def frB0 (σ : AS) (g : Nat → Option Nat) (t : Int32) (c : Nat) : Bool := decide (σ.2 3 c = 0) && (decide (g c = none) && hasG σ g (c / 8) t)
theorem frB_0 {σ : AS} {g : Nat → Option Nat} {t : Int32} {lo hi c : Nat} : frB σ g t lo hi c = (frB0 σ g t c && decide (lo ≤ c % 8 ∧ c % 8 < hi)) := by
  unfold frB frB0
  rw [Bool.and_assoc, Bool.and_assoc]
theorem dn1 {k : Nat} {x : Int32} (hk : k ≤ 32) (e : x = nI k - 1) (h : x < 0) : k = 0 := by
  apply Classical.byContradiction
  intro z
  have e2' : x = nI (k - 1) := by rw [e, nlit 1]; exact pk_sub (by omega)
  rw [e2'] at h
  exact nI_pos (by omega) h
theorem dn2 {k : Nat} {x : Int32} (e : x = nI k - 1) (h : ¬ x < 0) : 1 ≤ k ∧ x = nI (k - 1) := by
  rcases Nat.eq_zero_or_pos k with z | z
  · subst z
    exact absurd (by rw [e]; decide) h
  · exact ⟨z, by rw [e, nlit 1]; exact pk_sub (by omega)⟩
set_option maxHeartbeats 4000000 in
set_option maxRecDepth 100000 in
theorem c_X10_nextOf (l : Launch) (D : va_G) (cA : Nat → ClassId) (sh : Nat → Option Sh) (ad : Nat → Nat) (M : MS) (sz : Nat) (σ : AS) (ok : AOK σ) (hMs : MSh sh) (hR : MR σ M) (q : Nat → Nat) (c : Nat) (hs : Srt σ 40 q c) (htk : ∀ i, i < aN σ → σ.2 10 i = 0 → gI M 81 i = tkI σ i) (hft : ∀ i, i < aN σ → σ.2 10 i = 0 → ((gI M 80 i = 0 ∨ gI M 80 i = 3) ↔ elg σ i)) (J : Nat) (hJ : J ≤ c) (xo : Int32) (eo : (J = 0 ∧ xo = -1) ∨ (0 < J ∧ xo = nI (q (J - 1)))) : Met l yX10_nextOf wsX10_nextOf ({ frames := 1, cells := 0, slots := 0, locals := 22 }) (wPc D cA sh ad M sz [.ref (ad 60), .int xo]) (rQi (fun r => r = nxI q c J)) 0 0 nA := by
  refine Met.ofW (cc := cX10_nextOf) (maxL := 5) (ret := (some .int)) (by decide) rfl ?_
  intro p e s m args below meth cd0 s₁ B hml hv
  obtain ⟨rfl, hsz, hM, hK⟩ := hv
  have hx := B.exec
  have hb := B.bytes
  have hr := B.returns
  have hts := atoms_spec (ws := wsX10_nextOf) B.pre
  have hown : s.vm.findClass RX10 = some m.cls := findClass_of_methodNamed B.named
  have hlocks := B.notSynchronized
  subst hsz
  obtain ⟨A, eA⟩ : ∃ A : Nat → Prop, A = nA := ⟨_, rfl⟩
  have hW : WS D cA sh ad A s.heap M s.heap [] := ⟨hM, va_S.rf⟩
  subst eA
  have fa72 : FA D s m ([.ref (ad 60), .int xo] : List Value).toArray 72 10 21 := FA.mk (C := RX10) (T := TX10) (N := 29) hts (fun _ h => List.mem_cons_of_mem _ (List.mem_append_right _ (h))) hown hK rfl (by decide) (hts (.fieldLink RX10 72 "MortarShowModel" "gone" "[Z") (List.mem_of_getElem? (i := 2) rfl))
  have fa75 : FA D s m ([.ref (ad 60), .int xo] : List Value).toArray 75 10 22 := FA.mk (C := RX10) (T := TX10) (N := 29) hts (fun _ h => List.mem_cons_of_mem _ (List.mem_append_right _ (h))) hown hK rfl (by decide) (hts (.fieldLink RX10 75 "MortarShowModel" "fate" "[I") (List.mem_of_getElem? (i := 3) rfl))
  have fa101 : FA D s m ([.ref (ad 60), .int xo] : List Value).toArray 101 10 17 := FA.mk (C := RX10) (T := TX10) (N := 29) hts (fun _ h => List.mem_cons_of_mem _ (List.mem_append_right _ (h))) hown hK rfl (by decide) (hts (.fieldLink RX10 101 "MortarShowModel" "cues" "I") (List.mem_of_getElem? (i := 1) rfl))
  have hl := lv_entry ([.ref (ad 60), .int xo]) (n := 5) (Nat.le_of_ble_eq_true rfl)
  rw [lg_entry_eq]
  generalize (lg_sl ([.ref (ad 60), .int xo]) ++ List.replicate (5 - (lg_sl ([.ref (ad 60), .int xo])).length) Slot.unset).toArray = ls at hl ⊢
  have hl : lv_has ls 5 [(0, .ref (ad 60)), (1, .int xo)] := hl
  have o1 := ok.1
  have hc40 := hs.2.2.2
  refine lv_iconst (v := (-1)) hx hb dX10_nextOf_0 (by decide) ?_
  refine lv_istore_n (lv' := [(2, .int (-1)), (0, .ref (ad 60)), (1, .int xo)]) hx hb dX10_nextOf_1 rfl hl (by decide) rfl (fun ls hl => ?_)
  refine lv_iconst (v := 0) hx hb dX10_nextOf_2 (by decide) ?_
  refine lv_istore_n (lv' := [(3, .int 0), (2, .int (-1)), (0, .ref (ad 60)), (1, .int xo)]) hx hb dX10_nextOf_3 rfl hl (by decide) rfl (fun ls hl => ?_)
  have L4 : ∀ (fu : Nat) (k : Nat) (xk : Int32) (xf : Int32) (H : Heap) (locs : List Loc), aN σ - k < fu → (k ≤ aN σ) → (xk = nI k) → (ndF σ (cnd σ q J) k xf) → WS D cA sh ad nA s.heap M H locs → ∀ ls, lv_has ls 5 [(3, .int xk), (2, .int xf), (0, .ref (ad 60)), (1, .int xo)] → W p l e (headSpec wsX10_nextOf { frames := 1, cells := 0, slots := 0, locals := 22 }).room s m ([.ref (ad 60), .int xo] : List Value).toArray below meth cd0 H locs 0 0 (MQ below (rQi (fun r => r = nxI q c J)) ([.ref (ad 60), .int xo] : List Value).toArray s 0 0 nA) (F0 m 4 ls []) := by
    intro fu
    induction fu with
    | zero =>
      intro k xk xf H locs hn hk ek hf hW ls hl
      exact absurd hn (Nat.not_lt_zero _)
    | succ fu ih4 =>
      intro k xk xf H locs hn hk ek hf hW ls hl
      refine lv_iload_n hx hb dX10_nextOf_4 rfl (lv_at hl 0 rfl) ?_
      refine lv_aload_n hx hb dX10_nextOf_5 rfl (lv_at hl 2 rfl) ?_
      refine wgI hx hb fa101 hW (hMs 60 (by decide) (by decide)) rfl dX10_nextOf_6 (fun x6' e6' => ?_)
      have n6' : x6' = nI (aN σ) := (e6'.trans hR.2.2.2.2.2.2.2.2.2.1)
      refine lv_icmp_ge (tgt := 92) hx hb dX10_nextOf_9 (by decide) (fun c9' => ?_) (fun c9' => ?_)
      · have k9' : (aN σ) ≤ k := kc_ge ek n6' (by omega) (by omega) c9'
        refine lv_iload_n hx hb dX10_nextOf_92 rfl (lv_at hl 1 rfl) ?_
        exact wr_ri hx hb hr hlocks hW.2 dX10_nextOf_93 (nd_end o1 hs hJ (by rw [← show k = aN σ by omega]; exact hf))
      · have k9' : ¬ (aN σ) ≤ k := kc_gen ek n6' (by omega) (by omega) c9'
        have J59 : ∀ (z : Int32) (H : Heap) (locs : List Loc), ((z = 1 ∧ cnd σ q J k) ∨ (z = 0 ∧ ¬ cnd σ q J k)) → WS D cA sh ad nA s.heap M H locs → ∀ ls, lv_has ls 5 [(3, .int xk), (2, .int xf), (0, .ref (ad 60)), (1, .int xo)] → W p l e (headSpec wsX10_nextOf { frames := 1, cells := 0, slots := 0, locals := 22 }).room s m ([.ref (ad 60), .int xo] : List Value).toArray below meth cd0 H locs 0 0 (MQ below (rQi (fun r => r = nxI q c J)) ([.ref (ad 60), .int xo] : List Value).toArray s 0 0 nA) (F0 m 59 ls [.int z]) := by
          intro z H locs hz hW ls hl
          refine lv_istore (lv' := [(4, .int z), (3, .int xk), (2, .int xf), (0, .ref (ad 60)), (1, .int xo)]) hx hb dX10_nextOf_59 hl (by decide) rfl (fun ls hl => ?_)
          have J85 : ∀ (xg : Int32) (H : Heap) (locs : List Loc), (ndF σ (cnd σ q J) (k + 1) xg) → WS D cA sh ad nA s.heap M H locs → ∀ ls, lv_has ls 5 [(4, .int z), (3, .int xk), (2, .int xf), (0, .ref (ad 60)), (1, .int xo)] → W p l e (headSpec wsX10_nextOf { frames := 1, cells := 0, slots := 0, locals := 22 }).room s m ([.ref (ad 60), .int xo] : List Value).toArray below meth cd0 H locs 0 0 (MQ below (rQi (fun r => r = nxI q c J)) ([.ref (ad 60), .int xo] : List Value).toArray s 0 0 nA) (F0 m 85 ls [.int xg]) := by
            intro xg H locs hg hW ls hl
            refine lv_istore_n (lv' := [(2, .int xg), (4, .int z), (3, .int xk), (0, .ref (ad 60)), (1, .int xo)]) hx hb dX10_nextOf_85 rfl hl (by decide) rfl (fun ls hl => ?_)
            obtain ⟨x86', e86'⟩ : ∃ y : Int32, y = xk + 1 := ⟨_, rfl⟩
            refine lv_iinc (v := x86') (lv' := [(3, .int x86'), (2, .int xg), (4, .int z), (0, .ref (ad 60)), (1, .int xo)]) hx hb dX10_nextOf_86 hl (k := 2) rfl (by rw [e86']; rfl) (by decide) rfl (fun ls hl => ?_)
            refine lv_goto (tgt := 4) hx hb dX10_nextOf_89 (by decide) ?_
            exact ih4 (k + 1) x86' xg _ _ (by omega) (by omega) (by rw [e86', ek, nlit 1, nI_add]) hg hW ls (lv_sub hl [0, 1, 3, 4] rfl)
          refine lv_iload hx hb dX10_nextOf_61 (lv_at hl 0 rfl) ?_
          refine lv_if_eq (tgt := 84) hx hb dX10_nextOf_63 (by decide) (fun c63' => ?_) (fun c63' => ?_)
          · have nc8 : ¬ cnd σ q J k := hz.elim (fun w => absurd (w.1.symm.trans c63') (by decide)) (fun w => w.2)
            refine lv_iload_n hx hb dX10_nextOf_84 rfl (lv_at hl 2 rfl) ?_
            exact J85 xf _ _ (by first
                | exact nd_skip hf nc8
                | (rw [ek]; exact nd_one hf c68' (by omega) hc8)
                | exact nd_keep hfk ef hfC hfm nb8
                | (rw [ek]; exact nd_new hfm hc8 yb8)) hW ls (lv_sub hl [0, 1, 2, 3, 4] rfl)
          · have hc8 : cnd σ q J k := hz.elim (fun w => w.2) (fun w => absurd w.1 c63')
            refine lv_iload_n hx hb dX10_nextOf_66 rfl (lv_at hl 2 rfl) ?_
            refine lv_iconst (v := (-1)) hx hb dX10_nextOf_67 (by decide) ?_
            refine lv_icmp_eq (tgt := 80) hx hb dX10_nextOf_68 (by decide) (fun c68' => ?_) (fun c68' => ?_)
            · refine lv_iload_n hx hb dX10_nextOf_80 rfl (lv_at hl 1 rfl) ?_
              refine lv_goto (tgt := 85) hx hb dX10_nextOf_81 (by decide) ?_
              exact J85 xk _ _ (by first
                  | exact nd_skip hf nc8
                  | (rw [ek]; exact nd_one hf c68' (by omega) hc8)
                  | exact nd_keep hfk ef hfC hfm nb8
                  | (rw [ek]; exact nd_new hfm hc8 yb8)) hW ls (lv_sub hl [0, 1, 2, 3, 4] rfl)
            · obtain ⟨f, hfk, ef, hfC, hfm⟩ := nd_some hf c68'
              refine lv_aload_n hx hb dX10_nextOf_71 rfl (lv_at hl 3 rfl) ?_
              refine lv_iload_n hx hb dX10_nextOf_72 rfl (lv_at hl 1 rfl) ?_
              refine lv_iload_n hx hb dX10_nextOf_73 rfl (lv_at hl 2 rfl) ?_
              refine wc_ri (va_runV (As := [.int xk, .int xf]) (rest := []) ⟨hx, hb, hml, hown, hts⟩ (c_X10_isAhead l D cA sh ad M _ hMs k f (by omega) (by omega) xk xf ek ef) (cwV 2 hts gX10_nextOf_X10_isAhead rfl rfl rfl (by decide +kernel) ⟨Nat.le_of_ble_eq_true rfl, Nat.le_of_ble_eq_true rfl⟩) (wpreV hK hW (C := RX10) (ci := 10) (hMs 60 (by decide) (by decide)) rfl) rfl rfl hl.1 rfl (lv_room (Nat.le_of_ble_eq_true rfl)) dX10_nextOf_74 ⟨Nat.le_of_ble_eq_true rfl, Nat.le_of_ble_eq_true rfl⟩) hW (fun x74' H locs p74' hW => ?_)
              try dsimp only at p74'
              rw [htk k hc8.1.1 hc8.1.2.1, htk f hfC.1.1 hfC.1.2.1] at p74'
              refine lv_if_eq (tgt := 84) hx hb dX10_nextOf_77 (by decide) (fun c77' => ?_) (fun c77' => ?_)
              · have h77 := of_decide_eq_false (bI_z.mp (p74'.symm.trans c77'))
                have nb8 : ¬ bef σ k f := h77
                refine lv_iload_n hx hb dX10_nextOf_84 rfl (lv_at hl 2 rfl) ?_
                exact J85 xf _ _ (by first
                    | exact nd_skip hf nc8
                    | (rw [ek]; exact nd_one hf c68' (by omega) hc8)
                    | exact nd_keep hfk ef hfC hfm nb8
                    | (rw [ek]; exact nd_new hfm hc8 yb8)) hW ls (lv_sub hl [0, 1, 2, 3, 4] rfl)
              · have h77 := of_decide_eq_true (bI_t.mp (fun z => c77' (p74'.trans z)))
                have yb8 : bef σ k f := h77
                refine lv_iload_n hx hb dX10_nextOf_80 rfl (lv_at hl 1 rfl) ?_
                refine lv_goto (tgt := 85) hx hb dX10_nextOf_81 (by decide) ?_
                exact J85 xk _ _ (by first
                    | exact nd_skip hf nc8
                    | (rw [ek]; exact nd_one hf c68' (by omega) hc8)
                    | exact nd_keep hfk ef hfC hfm nb8
                    | (rw [ek]; exact nd_new hfm hc8 yb8)) hW ls (lv_sub hl [0, 1, 2, 3, 4] rfl)
        refine lv_aload_n hx hb dX10_nextOf_12 rfl (lv_at hl 2 rfl) ?_
        refine wgF (t := 79) hx hb fa72 hW (hMs 60 (by decide) (by decide)) rfl dX10_nextOf_13 ?_
        refine lv_iload_n hx hb dX10_nextOf_16 rfl (lv_at hl 0 rfl) ?_
        refine walZ (j := k) hx hb hK hW (hMs 79 (by decide) (by decide)) ek (by omega) (by decide) dX10_nextOf_17 (fun x17' e17' => ?_)
        refine lv_if_ne (tgt := 58) hx hb dX10_nextOf_18 (by decide) (fun c18' => ?_) (fun c18' => ?_)
        · have nel : ¬ elg σ k := fun z => c18' (e17'.trans ((hR.2.2.2.2.2.2.2.2.2.2.1 k (by omega)).trans (by rw [z.2.1]; rfl)))
          refine lv_iconst (v := 0) hx hb dX10_nextOf_58 (by decide) ?_
          exact J59 0 _ _ (by first
              | exact Or.inl ⟨rfl, el8, Or.inl hJ0⟩
              | exact Or.inl ⟨rfl, el8, Or.inr yb9⟩
              | exact Or.inr ⟨rfl, fun w => nel w.1⟩
              | exact Or.inr ⟨rfl, fun w => w.2.elim (fun y => by omega) nb9⟩) hW ls (lv_sub hl [0, 1, 2, 3] rfl)
        · have og := (ok.2.2.2.2.2.2.1 k (by omega)).2.2.2
          have g17 : σ.2 10 k = 0 := gone0 og ((hR.2.2.2.2.2.2.2.2.2.2.1 k (by omega)).symm.trans (e17'.symm.trans c18'))
          have el9 := hft k (by omega) g17
          refine lv_aload_n hx hb dX10_nextOf_21 rfl (lv_at hl 2 rfl) ?_
          refine wgF (t := 80) hx hb fa75 hW (hMs 60 (by decide) (by decide)) rfl dX10_nextOf_22 ?_
          refine lv_iload_n hx hb dX10_nextOf_25 rfl (lv_at hl 0 rfl) ?_
          refine walI (j := k) hx hb hK hW (hMs 80 (by decide) (by decide)) ek (by omega) (by decide) dX10_nextOf_26 (fun x26' e26' => ?_)
          refine lv_if_eq (tgt := 40) hx hb dX10_nextOf_27 (by decide) (fun c27' => ?_) (fun c27' => ?_)
          · have el8 : elg σ k := el9.mp (Or.inl (e26'.symm.trans c27'))
            refine lv_iload_n hx hb dX10_nextOf_40 rfl (lv_at hl 3 rfl) ?_
            refine lv_iconst (v := (-1)) hx hb dX10_nextOf_41 (by decide) ?_
            refine lv_icmp_eq (tgt := 54) hx hb dX10_nextOf_42 (by decide) (fun c42' => ?_) (fun c42' => ?_)
            · have hJ0 : J = 0 := eo.elim (fun z => z.1) (fun z => absurd (z.2.symm.trans c42') (nI_m9 (by have := (hs.1 (J - 1) (by omega)).1; omega)))
              refine lv_iconst (v := 1) hx hb dX10_nextOf_54 (by decide) ?_
              refine lv_goto (tgt := 59) hx hb dX10_nextOf_55 (by decide) ?_
              exact J59 1 _ _ (by first
                  | exact Or.inl ⟨rfl, el8, Or.inl hJ0⟩
                  | exact Or.inl ⟨rfl, el8, Or.inr yb9⟩
                  | exact Or.inr ⟨rfl, fun w => nel w.1⟩
                  | exact Or.inr ⟨rfl, fun w => w.2.elim (fun y => by omega) nb9⟩) hW ls (lv_sub hl [0, 1, 2, 3] rfl)
            · obtain ⟨hJ1, eoj⟩ : 0 < J ∧ xo = nI (q (J - 1)) := eo.elim (fun z => absurd z.2 c42') (fun z => z)
              have hqj := (hs.1 (J - 1) (by omega))
              obtain ⟨qj, eqj⟩ : ∃ z, z = q (J - 1) := ⟨_, rfl⟩
              rw [← eqj] at hqj eoj
              refine lv_aload_n hx hb dX10_nextOf_45 rfl (lv_at hl 2 rfl) ?_
              refine lv_iload_n hx hb dX10_nextOf_46 rfl (lv_at hl 3 rfl) ?_
              refine lv_iload_n hx hb dX10_nextOf_47 rfl (lv_at hl 0 rfl) ?_
              refine wc_ri (va_runV (As := [.int xo, .int xk]) (rest := []) ⟨hx, hb, hml, hown, hts⟩ (c_X10_isAhead l D cA sh ad M _ hMs qj k (by omega) (by omega) xo xk eoj ek) (cwV 2 hts gX10_nextOf_X10_isAhead rfl rfl rfl (by decide +kernel) ⟨Nat.le_of_ble_eq_true rfl, Nat.le_of_ble_eq_true rfl⟩) (wpreV hK hW (C := RX10) (ci := 10) (hMs 60 (by decide) (by decide)) rfl) rfl rfl hl.1 rfl (lv_room (Nat.le_of_ble_eq_true rfl)) dX10_nextOf_48 ⟨Nat.le_of_ble_eq_true rfl, Nat.le_of_ble_eq_true rfl⟩) hW (fun x48' H locs p48' hW => ?_)
              try dsimp only at p48'
              rw [htk qj hqj.2.1 hqj.2.2.1, htk k (by omega) g17] at p48'
              refine lv_if_eq (tgt := 58) hx hb dX10_nextOf_51 (by decide) (fun c51' => ?_) (fun c51' => ?_)
              · have h51 := of_decide_eq_false (bI_z.mp (p48'.symm.trans c51'))
                have nb9 : ¬ bef σ (q (J - 1)) k := by rw [← eqj]; exact h51
                refine lv_iconst (v := 0) hx hb dX10_nextOf_58 (by decide) ?_
                exact J59 0 _ _ (by first
                    | exact Or.inl ⟨rfl, el8, Or.inl hJ0⟩
                    | exact Or.inl ⟨rfl, el8, Or.inr yb9⟩
                    | exact Or.inr ⟨rfl, fun w => nel w.1⟩
                    | exact Or.inr ⟨rfl, fun w => w.2.elim (fun y => by omega) nb9⟩) hW ls (lv_sub hl [0, 1, 2, 3] rfl)
              · have h51 := of_decide_eq_true (bI_t.mp (fun z => c51' (p48'.trans z)))
                have yb9 : bef σ (q (J - 1)) k := by rw [← eqj]; exact h51
                refine lv_iconst (v := 1) hx hb dX10_nextOf_54 (by decide) ?_
                refine lv_goto (tgt := 59) hx hb dX10_nextOf_55 (by decide) ?_
                exact J59 1 _ _ (by first
                    | exact Or.inl ⟨rfl, el8, Or.inl hJ0⟩
                    | exact Or.inl ⟨rfl, el8, Or.inr yb9⟩
                    | exact Or.inr ⟨rfl, fun w => nel w.1⟩
                    | exact Or.inr ⟨rfl, fun w => w.2.elim (fun y => by omega) nb9⟩) hW ls (lv_sub hl [0, 1, 2, 3] rfl)
          · refine lv_aload_n hx hb dX10_nextOf_30 rfl (lv_at hl 2 rfl) ?_
            refine wgF (t := 80) hx hb fa75 hW (hMs 60 (by decide) (by decide)) rfl dX10_nextOf_31 ?_
            refine lv_iload_n hx hb dX10_nextOf_34 rfl (lv_at hl 0 rfl) ?_
            refine walI (j := k) hx hb hK hW (hMs 80 (by decide) (by decide)) ek (by omega) (by decide) dX10_nextOf_35 (fun x35' e35' => ?_)
            refine lv_iconst (v := 3) hx hb dX10_nextOf_36 (by decide) ?_
            refine lv_icmp_ne (tgt := 58) hx hb dX10_nextOf_37 (by decide) (fun c37' => ?_) (fun c37' => ?_)
            · have nel : ¬ elg σ k := fun z => (el9.mpr z).elim (fun y => c27' (e26'.trans y)) (fun y => c37' (e35'.trans y))
              refine lv_iconst (v := 0) hx hb dX10_nextOf_58 (by decide) ?_
              exact J59 0 _ _ (by first
                  | exact Or.inl ⟨rfl, el8, Or.inl hJ0⟩
                  | exact Or.inl ⟨rfl, el8, Or.inr yb9⟩
                  | exact Or.inr ⟨rfl, fun w => nel w.1⟩
                  | exact Or.inr ⟨rfl, fun w => w.2.elim (fun y => by omega) nb9⟩) hW ls (lv_sub hl [0, 1, 2, 3] rfl)
            · have el8 : elg σ k := el9.mp (Or.inr (e35'.symm.trans c37'))
              refine lv_iload_n hx hb dX10_nextOf_40 rfl (lv_at hl 3 rfl) ?_
              refine lv_iconst (v := (-1)) hx hb dX10_nextOf_41 (by decide) ?_
              refine lv_icmp_eq (tgt := 54) hx hb dX10_nextOf_42 (by decide) (fun c42' => ?_) (fun c42' => ?_)
              · have hJ0 : J = 0 := eo.elim (fun z => z.1) (fun z => absurd (z.2.symm.trans c42') (nI_m9 (by have := (hs.1 (J - 1) (by omega)).1; omega)))
                refine lv_iconst (v := 1) hx hb dX10_nextOf_54 (by decide) ?_
                refine lv_goto (tgt := 59) hx hb dX10_nextOf_55 (by decide) ?_
                exact J59 1 _ _ (by first
                    | exact Or.inl ⟨rfl, el8, Or.inl hJ0⟩
                    | exact Or.inl ⟨rfl, el8, Or.inr yb9⟩
                    | exact Or.inr ⟨rfl, fun w => nel w.1⟩
                    | exact Or.inr ⟨rfl, fun w => w.2.elim (fun y => by omega) nb9⟩) hW ls (lv_sub hl [0, 1, 2, 3] rfl)
              · obtain ⟨hJ1, eoj⟩ : 0 < J ∧ xo = nI (q (J - 1)) := eo.elim (fun z => absurd z.2 c42') (fun z => z)
                have hqj := (hs.1 (J - 1) (by omega))
                obtain ⟨qj, eqj⟩ : ∃ z, z = q (J - 1) := ⟨_, rfl⟩
                rw [← eqj] at hqj eoj
                refine lv_aload_n hx hb dX10_nextOf_45 rfl (lv_at hl 2 rfl) ?_
                refine lv_iload_n hx hb dX10_nextOf_46 rfl (lv_at hl 3 rfl) ?_
                refine lv_iload_n hx hb dX10_nextOf_47 rfl (lv_at hl 0 rfl) ?_
                refine wc_ri (va_runV (As := [.int xo, .int xk]) (rest := []) ⟨hx, hb, hml, hown, hts⟩ (c_X10_isAhead l D cA sh ad M _ hMs qj k (by omega) (by omega) xo xk eoj ek) (cwV 2 hts gX10_nextOf_X10_isAhead rfl rfl rfl (by decide +kernel) ⟨Nat.le_of_ble_eq_true rfl, Nat.le_of_ble_eq_true rfl⟩) (wpreV hK hW (C := RX10) (ci := 10) (hMs 60 (by decide) (by decide)) rfl) rfl rfl hl.1 rfl (lv_room (Nat.le_of_ble_eq_true rfl)) dX10_nextOf_48 ⟨Nat.le_of_ble_eq_true rfl, Nat.le_of_ble_eq_true rfl⟩) hW (fun x48' H locs p48' hW => ?_)
                try dsimp only at p48'
                rw [htk qj hqj.2.1 hqj.2.2.1, htk k (by omega) g17] at p48'
                refine lv_if_eq (tgt := 58) hx hb dX10_nextOf_51 (by decide) (fun c51' => ?_) (fun c51' => ?_)
                · have h51 := of_decide_eq_false (bI_z.mp (p48'.symm.trans c51'))
                  have nb9 : ¬ bef σ (q (J - 1)) k := by rw [← eqj]; exact h51
                  refine lv_iconst (v := 0) hx hb dX10_nextOf_58 (by decide) ?_
                  exact J59 0 _ _ (by first
                      | exact Or.inl ⟨rfl, el8, Or.inl hJ0⟩
                      | exact Or.inl ⟨rfl, el8, Or.inr yb9⟩
                      | exact Or.inr ⟨rfl, fun w => nel w.1⟩
                      | exact Or.inr ⟨rfl, fun w => w.2.elim (fun y => by omega) nb9⟩) hW ls (lv_sub hl [0, 1, 2, 3] rfl)
                · have h51 := of_decide_eq_true (bI_t.mp (fun z => c51' (p48'.trans z)))
                  have yb9 : bef σ (q (J - 1)) k := by rw [← eqj]; exact h51
                  refine lv_iconst (v := 1) hx hb dX10_nextOf_54 (by decide) ?_
                  refine lv_goto (tgt := 59) hx hb dX10_nextOf_55 (by decide) ?_
                  exact J59 1 _ _ (by first
                      | exact Or.inl ⟨rfl, el8, Or.inl hJ0⟩
                      | exact Or.inl ⟨rfl, el8, Or.inr yb9⟩
                      | exact Or.inr ⟨rfl, fun w => nel w.1⟩
                      | exact Or.inr ⟨rfl, fun w => w.2.elim (fun y => by omega) nb9⟩) hW ls (lv_sub hl [0, 1, 2, 3] rfl)
  exact L4 (_ + 1) 0 0 (-1) _ _ (Nat.lt_succ_self _) (Nat.zero_le _) rfl (Or.inl ⟨rfl, fun i hi => absurd hi (Nat.not_lt_zero i)⟩) hW ls (lv_sub hl [0, 1, 2, 3] rfl)
set_option maxHeartbeats 4000000 in
set_option maxRecDepth 100000 in
theorem c_X10_hasGap (l : Launch) (D : va_G) (cA : Nat → ClassId) (sh : Nat → Option Sh) (ad : Nat → Nat) (M : MS) (sz : Nat) (σ : AS) (ok : AOK σ) (hMs : MSh sh) (hR : MR σ M) (g : Nat → Option Nat) (hg : ∀ d, d < 32 → gI M 84 d = opI (g d)) (hgt : ∀ d i, d < 32 → g d = some i → i < 40 ∧ gI M 81 i = tkI σ i) (b : Nat) (hb4 : b < 4) (xb : Int32) (eb : xb = nI b) (t : Int32) : Met l yX10_hasGap wsX10_hasGap ({ frames := 0, cells := 0, slots := 0, locals := 0 }) (wPc D cA sh ad M sz [.ref (ad 60), .int xb, .int t]) (rQi (fun r => r = bI (hasG σ g b t))) 0 0 nA := by
  refine Met.ofW (cc := cX10_hasGap) (maxL := 6) (ret := (some .boolean)) (by decide) rfl ?_
  intro p e s m args below meth cd0 s₁ B hml hv
  obtain ⟨rfl, hsz, hM, hK⟩ := hv
  have hx := B.exec
  have hb := B.bytes
  have hr := B.returns
  have hts := atoms_spec (ws := wsX10_hasGap) B.pre
  have hown : s.vm.findClass RX10 = some m.cls := findClass_of_methodNamed B.named
  have hlocks := B.notSynchronized
  subst hsz
  obtain ⟨A, eA⟩ : ∃ A : Nat → Prop, A = nA := ⟨_, rfl⟩
  have hW : WS D cA sh ad A s.heap M s.heap [] := ⟨hM, va_S.rf⟩
  subst eA
  have fa60 : FA D s m ([.ref (ad 60), .int xb, .int t] : List Value).toArray 60 10 16 := FA.mk (C := RX10) (T := TX10) (N := 29) hts (fun _ h => List.mem_cons_of_mem _ (List.mem_append_right _ (h))) hown hK rfl (by decide) (hts (.fieldLink RX10 60 "MortarShowModel" "gap" "I") (List.mem_of_getElem? (i := 2) rfl))
  have fa78 : FA D s m ([.ref (ad 60), .int xb, .int t] : List Value).toArray 78 10 23 := FA.mk (C := RX10) (T := TX10) (N := 29) hts (fun _ h => List.mem_cons_of_mem _ (List.mem_append_right _ (h))) hown hK rfl (by decide) (hts (.fieldLink RX10 78 "MortarShowModel" "tick" "[I") (List.mem_of_getElem? (i := 3) rfl))
  have fa87 : FA D s m ([.ref (ad 60), .int xb, .int t] : List Value).toArray 87 10 26 := FA.mk (C := RX10) (T := TX10) (N := 29) hts (fun _ h => List.mem_cons_of_mem _ (List.mem_append_right _ (h))) hown hK rfl (by decide) (hts (.fieldLink RX10 87 "MortarShowModel" "given" "[I") (List.mem_of_getElem? (i := 1) rfl))
  have hl := lv_entry ([.ref (ad 60), .int xb, .int t]) (n := 6) (Nat.le_of_ble_eq_true rfl)
  rw [lg_entry_eq]
  generalize (lg_sl ([.ref (ad 60), .int xb, .int t]) ++ List.replicate (6 - (lg_sl ([.ref (ad 60), .int xb, .int t])).length) Slot.unset).toArray = ls at hl ⊢
  have hl : lv_has ls 6 [(0, .ref (ad 60)), (1, .int xb), (2, .int t)] := hl
  have og := ok.2.2.2.2.2.1
  refine lv_iconst (v := 1) hx hb dX10_hasGap_0 (by decide) ?_
  refine lv_istore_n (lv' := [(3, .int 1), (0, .ref (ad 60)), (1, .int xb), (2, .int t)]) hx hb dX10_hasGap_1 rfl hl (by decide) rfl (fun ls hl => ?_)
  refine lv_bipush (v := 8) hx hb dX10_hasGap_2 (by decide) ?_
  refine lv_iload_n hx hb dX10_hasGap_4 rfl (lv_at hl 2 rfl) ?_
  refine lv_imul hx hb dX10_hasGap_5 ?_
  refine lv_topi (fun x5' e5' => ?_)
  have n5' : x5' = nI (8 * b) := (by rw [e5', (nlit 8), eb, pk_mul])
  refine lv_istore (lv' := [(4, .int x5'), (3, .int 1), (0, .ref (ad 60)), (1, .int xb), (2, .int t)]) hx hb dX10_hasGap_6 hl (by decide) rfl (fun ls hl => ?_)
  have L8 : ∀ (fu : Nat) (k : Nat) (xk : Int32) (xs : Int32) (H : Heap) (locs : List Loc), 8 - k < fu → (k ≤ 8) → (xk = nI (8 * b + k)) → (xs = bI (allN (gcB σ g t b) k)) → WS D cA sh ad nA s.heap M H locs → ∀ ls, lv_has ls 6 [(4, .int xk), (3, .int xs), (0, .ref (ad 60)), (1, .int xb), (2, .int t)] → W p l e (headSpec wsX10_hasGap { frames := 0, cells := 0, slots := 0, locals := 0 }).room s m ([.ref (ad 60), .int xb, .int t] : List Value).toArray below meth cd0 H locs 0 0 (MQ below (rQi (fun r => r = bI (hasG σ g b t))) ([.ref (ad 60), .int xb, .int t] : List Value).toArray s 0 0 nA) (F0 m 8 ls []) := by
    intro fu
    induction fu with
    | zero =>
      intro k xk xs H locs hn hk ek es hW ls hl
      exact absurd hn (Nat.not_lt_zero _)
    | succ fu ih8 =>
      intro k xk xs H locs hn hk ek es hW ls hl
      refine lv_iload hx hb dX10_hasGap_8 (lv_at hl 0 rfl) ?_
      refine lv_bipush (v := 8) hx hb dX10_hasGap_10 (by decide) ?_
      refine lv_iload_n hx hb dX10_hasGap_12 rfl (lv_at hl 3 rfl) ?_
      refine lv_iconst (v := 1) hx hb dX10_hasGap_13 (by decide) ?_
      refine lv_iadd hx hb dX10_hasGap_14 ?_
      refine lv_topi (fun x14' e14' => ?_)
      have n14' : x14' = nI (b + 1) := (by rw [e14', eb, (nlit 1), nI_add])
      refine lv_imul hx hb dX10_hasGap_15 ?_
      refine lv_topi (fun x15' e15' => ?_)
      have n15' : x15' = nI (8 * (b + 1)) := (by rw [e15', (nlit 8), n14', pk_mul])
      refine lv_icmp_ge (tgt := 88) hx hb dX10_hasGap_16 (by decide) (fun c16' => ?_) (fun c16' => ?_)
      · have k16' : (8 * (b + 1)) ≤ (8 * b + k) := kc_ge ek n15' (by omega) (by omega) c16'
        refine lv_iload_n hx hb dX10_hasGap_88 rfl (lv_at hl 1 rfl) ?_
        exact wr_rz hx hb hr hlocks hW.2 dX10_hasGap_89 (by rw [es]; exact bI_n _) (by rw [es, show k = 8 by omega, hasG_all])
      · have k16' : ¬ (8 * (b + 1)) ≤ (8 * b + k) := kc_gen ek n15' (by omega) (by omega) c16'
        have J51 : ∀ (y : Int32) (H : Heap) (locs : List Loc), (gcP σ g t (8 * b + k) y) → WS D cA sh ad nA s.heap M H locs → ∀ ls, lv_has ls 6 [(4, .int xk), (3, .int xs), (0, .ref (ad 60)), (1, .int xb), (2, .int t)] → W p l e (headSpec wsX10_hasGap { frames := 0, cells := 0, slots := 0, locals := 0 }).room s m ([.ref (ad 60), .int xb, .int t] : List Value).toArray below meth cd0 H locs 0 0 (MQ below (rQi (fun r => r = bI (hasG σ g b t))) ([.ref (ad 60), .int xb, .int t] : List Value).toArray s 0 0 nA) (F0 m 51 ls [.int y]) := by
          intro y H locs hy hW ls hl
          refine lv_istore (lv' := [(5, .int y), (4, .int xk), (3, .int xs), (0, .ref (ad 60)), (1, .int xb), (2, .int t)]) hx hb dX10_hasGap_51 hl (by decide) rfl (fun ls hl => ?_)
          have J81 : ∀ (w : Int32) (H : Heap) (locs : List Loc), (w = bI (allN (gcB σ g t b) (k + 1))) → WS D cA sh ad nA s.heap M H locs → ∀ ls, lv_has ls 6 [(5, .int y), (4, .int xk), (3, .int xs), (0, .ref (ad 60)), (1, .int xb), (2, .int t)] → W p l e (headSpec wsX10_hasGap { frames := 0, cells := 0, slots := 0, locals := 0 }).room s m ([.ref (ad 60), .int xb, .int t] : List Value).toArray below meth cd0 H locs 0 0 (MQ below (rQi (fun r => r = bI (hasG σ g b t))) ([.ref (ad 60), .int xb, .int t] : List Value).toArray s 0 0 nA) (F0 m 81 ls [.int w]) := by
            intro w H locs hw hW ls hl
            refine lv_istore_n (lv' := [(3, .int w), (5, .int y), (4, .int xk), (0, .ref (ad 60)), (1, .int xb), (2, .int t)]) hx hb dX10_hasGap_81 rfl hl (by decide) rfl (fun ls hl => ?_)
            obtain ⟨x82', e82'⟩ : ∃ y : Int32, y = xk + 1 := ⟨_, rfl⟩
            refine lv_iinc (v := x82') (lv' := [(4, .int x82'), (3, .int w), (5, .int y), (0, .ref (ad 60)), (1, .int xb), (2, .int t)]) hx hb dX10_hasGap_82 hl (k := 2) rfl (by rw [e82']; rfl) (by decide) rfl (fun ls hl => ?_)
            refine lv_goto (tgt := 8) hx hb dX10_hasGap_85 (by decide) ?_
            exact ih8 (k + 1) x82' w _ _ (by omega) (by omega) (show _ = nI (8 * b + k + 1) from (by rw [e82', ek, nlit 1, nI_add])) hw hW ls (lv_sub hl [0, 1, 3, 4, 5] rfl)
          refine lv_iload_n hx hb dX10_hasGap_53 rfl (lv_at hl 2 rfl) ?_
          refine lv_if_eq (tgt := 80) hx hb dX10_hasGap_54 (by decide) (fun c54' => ?_) (fun c54' => ?_)
          · refine lv_iconst (v := 0) hx hb dX10_hasGap_80 (by decide) ?_
            exact J81 0 _ _ (by
                show _ = bI (allN (gcB σ g t b) k && gcB σ g t b k)
                rw [gc_eq hy]
                first
                | (rw [bI_z.mp (es.symm.trans c54')]; rfl)
                | (rw [bI_t.mp (fun z => c54' (es.trans z)), Bool.true_and]
                   have e9' : x60' = nI (σ.2 5 0) := e60'.trans hR.2.2.2.2.2.2.2.2.1
                   first
                   | (rw [show gapOk σ y = true from decide_eq_true (Or.inl (by rw [← e9']; exact c63'))]; rfl)
                   | (have e8' : x70' = nI (σ.2 5 0) := e70'.trans hR.2.2.2.2.2.2.2.2.1
                      rw [e68', e8'] at c73'
                      first
                      | (rw [show gapOk σ y = true from decide_eq_true (Or.inr (by rw [i32le]; rw [i32lt] at c73'; omega))]; rfl)
                      | (rw [show gapOk σ y = false from decide_eq_false (fun z => z.elim (fun w => c63' (by rw [e9']; exact w)) (fun w => by rw [i32le] at w; rw [i32lt] at c73'; omega))]; rfl)))) hW ls (lv_sub hl [0, 1, 2, 3, 4, 5] rfl)
          · refine lv_iload hx hb dX10_hasGap_57 (lv_at hl 0 rfl) ?_
            refine lv_aload_n hx hb dX10_hasGap_59 rfl (lv_at hl 3 rfl) ?_
            refine wgI hx hb fa60 hW (hMs 60 (by decide) (by decide)) rfl dX10_hasGap_60 (fun x60' e60' => ?_)
            refine lv_icmp_ge (tgt := 76) hx hb dX10_hasGap_63 (by decide) (fun c63' => ?_) (fun c63' => ?_)
            · refine lv_iconst (v := 1) hx hb dX10_hasGap_76 (by decide) ?_
              refine lv_goto (tgt := 81) hx hb dX10_hasGap_77 (by decide) ?_
              exact J81 1 _ _ (by
                  show _ = bI (allN (gcB σ g t b) k && gcB σ g t b k)
                  rw [gc_eq hy]
                  first
                  | (rw [bI_z.mp (es.symm.trans c54')]; rfl)
                  | (rw [bI_t.mp (fun z => c54' (es.trans z)), Bool.true_and]
                     have e9' : x60' = nI (σ.2 5 0) := e60'.trans hR.2.2.2.2.2.2.2.2.1
                     first
                     | (rw [show gapOk σ y = true from decide_eq_true (Or.inl (by rw [← e9']; exact c63'))]; rfl)
                     | (have e8' : x70' = nI (σ.2 5 0) := e70'.trans hR.2.2.2.2.2.2.2.2.1
                        rw [e68', e8'] at c73'
                        first
                        | (rw [show gapOk σ y = true from decide_eq_true (Or.inr (by rw [i32le]; rw [i32lt] at c73'; omega))]; rfl)
                        | (rw [show gapOk σ y = false from decide_eq_false (fun z => z.elim (fun w => c63' (by rw [e9']; exact w)) (fun w => by rw [i32le] at w; rw [i32lt] at c73'; omega))]; rfl)))) hW ls (lv_sub hl [0, 1, 2, 3, 4, 5] rfl)
            · refine lv_iload hx hb dX10_hasGap_66 (lv_at hl 0 rfl) ?_
              refine lv_ineg hx hb dX10_hasGap_68 ?_
              refine lv_topi (fun x68' e68' => ?_)
              refine lv_aload_n hx hb dX10_hasGap_69 rfl (lv_at hl 3 rfl) ?_
              refine wgI hx hb fa60 hW (hMs 60 (by decide) (by decide)) rfl dX10_hasGap_70 (fun x70' e70' => ?_)
              refine lv_icmp_lt (tgt := 80) hx hb dX10_hasGap_73 (by decide) (fun c73' => ?_) (fun c73' => ?_)
              · refine lv_iconst (v := 0) hx hb dX10_hasGap_80 (by decide) ?_
                exact J81 0 _ _ (by
                    show _ = bI (allN (gcB σ g t b) k && gcB σ g t b k)
                    rw [gc_eq hy]
                    first
                    | (rw [bI_z.mp (es.symm.trans c54')]; rfl)
                    | (rw [bI_t.mp (fun z => c54' (es.trans z)), Bool.true_and]
                       have e9' : x60' = nI (σ.2 5 0) := e60'.trans hR.2.2.2.2.2.2.2.2.1
                       first
                       | (rw [show gapOk σ y = true from decide_eq_true (Or.inl (by rw [← e9']; exact c63'))]; rfl)
                       | (have e8' : x70' = nI (σ.2 5 0) := e70'.trans hR.2.2.2.2.2.2.2.2.1
                          rw [e68', e8'] at c73'
                          first
                          | (rw [show gapOk σ y = true from decide_eq_true (Or.inr (by rw [i32le]; rw [i32lt] at c73'; omega))]; rfl)
                          | (rw [show gapOk σ y = false from decide_eq_false (fun z => z.elim (fun w => c63' (by rw [e9']; exact w)) (fun w => by rw [i32le] at w; rw [i32lt] at c73'; omega))]; rfl)))) hW ls (lv_sub hl [0, 1, 2, 3, 4, 5] rfl)
              · refine lv_iconst (v := 1) hx hb dX10_hasGap_76 (by decide) ?_
                refine lv_goto (tgt := 81) hx hb dX10_hasGap_77 (by decide) ?_
                exact J81 1 _ _ (by
                    show _ = bI (allN (gcB σ g t b) k && gcB σ g t b k)
                    rw [gc_eq hy]
                    first
                    | (rw [bI_z.mp (es.symm.trans c54')]; rfl)
                    | (rw [bI_t.mp (fun z => c54' (es.trans z)), Bool.true_and]
                       have e9' : x60' = nI (σ.2 5 0) := e60'.trans hR.2.2.2.2.2.2.2.2.1
                       first
                       | (rw [show gapOk σ y = true from decide_eq_true (Or.inl (by rw [← e9']; exact c63'))]; rfl)
                       | (have e8' : x70' = nI (σ.2 5 0) := e70'.trans hR.2.2.2.2.2.2.2.2.1
                          rw [e68', e8'] at c73'
                          first
                          | (rw [show gapOk σ y = true from decide_eq_true (Or.inr (by rw [i32le]; rw [i32lt] at c73'; omega))]; rfl)
                          | (rw [show gapOk σ y = false from decide_eq_false (fun z => z.elim (fun w => c63' (by rw [e9']; exact w)) (fun w => by rw [i32le] at w; rw [i32lt] at c73'; omega))]; rfl)))) hW ls (lv_sub hl [0, 1, 2, 3, 4, 5] rfl)
        refine lv_aload_n hx hb dX10_hasGap_19 rfl (lv_at hl 2 rfl) ?_
        refine wgF (t := 84) hx hb fa87 hW (hMs 60 (by decide) (by decide)) rfl dX10_hasGap_20 ?_
        refine lv_iload hx hb dX10_hasGap_23 (lv_at hl 0 rfl) ?_
        refine walI (j := (8 * b + k)) hx hb hK hW (hMs 84 (by decide) (by decide)) ek (by omega) (by decide) dX10_hasGap_25 (fun x25' e25' => ?_)
        refine lv_iconst (v := (-1)) hx hb dX10_hasGap_26 (by decide) ?_
        refine lv_icmp_ne (tgt := 37) hx hb dX10_hasGap_27 (by decide) (fun c27' => ?_) (fun c27' => ?_)
        · obtain ⟨i, hi⟩ : ∃ i, g (8 * b + k) = some i := by
            cases hq : g (8 * b + k) with
            | none => exact absurd (e25'.trans ((hg _ (by omega)).trans (by rw [hq]; rfl))) c27'
            | some i => exact ⟨i, rfl⟩
          have hi2 := hgt _ i (by omega) hi
          refine lv_iload_n hx hb dX10_hasGap_37 rfl (lv_at hl 4 rfl) ?_
          refine lv_aload_n hx hb dX10_hasGap_38 rfl (lv_at hl 2 rfl) ?_
          refine wgF (t := 81) hx hb fa78 hW (hMs 60 (by decide) (by decide)) rfl dX10_hasGap_39 ?_
          refine lv_aload_n hx hb dX10_hasGap_42 rfl (lv_at hl 2 rfl) ?_
          refine wgF (t := 84) hx hb fa87 hW (hMs 60 (by decide) (by decide)) rfl dX10_hasGap_43 ?_
          refine lv_iload hx hb dX10_hasGap_46 (lv_at hl 0 rfl) ?_
          refine walI (j := (8 * b + k)) hx hb hK hW (hMs 84 (by decide) (by decide)) ek (by omega) (by decide) dX10_hasGap_48 (fun x48' e48' => ?_)
          have n48' : x48' = nI i := (e48'.trans ((hg _ (by omega)).trans (by rw [hi]; rfl)))
          refine walI (j := i) hx hb hK hW (hMs 81 (by decide) (by decide)) n48' (by omega) (by decide) dX10_hasGap_49 (fun x49' e49' => ?_)
          refine lv_isub hx hb dX10_hasGap_50 ?_
          refine lv_topi (fun x50' e50' => ?_)
          exact J51 x50' _ _ (by first | exact Or.inl ⟨hi, e31'.trans hR.2.2.2.2.2.2.2.2.1⟩ | exact Or.inr ⟨i, hi, by rw [e50', e49', hi2.2]⟩) hW ls (lv_sub hl [0, 1, 2, 3, 4] rfl)
        · have hi : g (8 * b + k) = none := (opI_n1 (fun i hq => by have := (hgt _ i (by omega) hq).1; omega)).mp ((hg _ (by omega)).symm.trans (e25'.symm.trans c27'))
          refine lv_aload_n hx hb dX10_hasGap_30 rfl (lv_at hl 2 rfl) ?_
          refine wgI hx hb fa60 hW (hMs 60 (by decide) (by decide)) rfl dX10_hasGap_31 (fun x31' e31' => ?_)
          refine lv_goto (tgt := 51) hx hb dX10_hasGap_34 (by decide) ?_
          exact J51 x31' _ _ (by first | exact Or.inl ⟨hi, e31'.trans hR.2.2.2.2.2.2.2.2.1⟩ | exact Or.inr ⟨i, hi, by rw [e50', e49', hi2.2]⟩) hW ls (lv_sub hl [0, 1, 2, 3, 4] rfl)
  exact L8 (_ + 1) 0 x5' 1 _ _ (Nat.lt_succ_self _) (Nat.zero_le _) n5' rfl hW ls (lv_sub hl [0, 1, 2, 3, 4] rfl)
set_option maxHeartbeats 4000000 in
set_option maxRecDepth 100000 in
theorem c_X10_channelFor (l : Launch) (D : va_G) (cA : Nat → ClassId) (sh : Nat → Option Sh) (ad : Nat → Nat) (M : MS) (sz : Nat) (σ : AS) (ok : AOK σ) (hMs : MSh sh) (hR : MR σ M) (g : Nat → Option Nat) (hg : ∀ d, d < 32 → gI M 84 d = opI (g d)) (hgt : ∀ d i, d < 32 → g d = some i → i < 40 ∧ gI M 81 i = tkI σ i) (t : Int32) : Met l yX10_channelFor wsX10_channelFor ({ frames := 1, cells := 0, slots := 0, locals := 25 }) (wPc D cA sh ad M sz [.ref (ad 60), .int t]) (rQi (fun r => r = opI (chF σ g t))) 0 0 nA := by
  refine Met.ofW (cc := cX10_channelFor) (maxL := 6) (ret := (some .int)) (by decide) rfl ?_
  intro p e s m args below meth cd0 s₁ B hml hv
  obtain ⟨rfl, hsz, hM, hK⟩ := hv
  have hx := B.exec
  have hb := B.bytes
  have hr := B.returns
  have hts := atoms_spec (ws := wsX10_channelFor) B.pre
  have hown : s.vm.findClass RX10 = some m.cls := findClass_of_methodNamed B.named
  have hlocks := B.notSynchronized
  subst hsz
  obtain ⟨A, eA⟩ : ∃ A : Nat → Prop, A = nA := ⟨_, rfl⟩
  have hW : WS D cA sh ad A s.heap M s.heap [] := ⟨hM, va_S.rf⟩
  subst eA
  have fa52 : FA D s m ([.ref (ad 60), .int t] : List Value).toArray 52 10 14 := FA.mk (C := RX10) (T := TX10) (N := 29) hts (fun _ h => List.mem_cons_of_mem _ (List.mem_append_right _ (h))) hown hK rfl (by decide) (hts (.fieldLink RX10 52 "MortarShowModel" "dead" "[Z") (List.mem_of_getElem? (i := 1) rfl))
  have fa87 : FA D s m ([.ref (ad 60), .int t] : List Value).toArray 87 10 26 := FA.mk (C := RX10) (T := TX10) (N := 29) hts (fun _ h => List.mem_cons_of_mem _ (List.mem_append_right _ (h))) hown hK rfl (by decide) (hts (.fieldLink RX10 87 "MortarShowModel" "given" "[I") (List.mem_of_getElem? (i := 2) rfl))
  have hl := lv_entry ([.ref (ad 60), .int t]) (n := 6) (Nat.le_of_ble_eq_true rfl)
  rw [lg_entry_eq]
  generalize (lg_sl ([.ref (ad 60), .int t]) ++ List.replicate (6 - (lg_sl ([.ref (ad 60), .int t])).length) Slot.unset).toArray = ls at hl ⊢
  have hl : lv_has ls 6 [(0, .ref (ad 60)), (1, .int t)] := hl
  refine lv_iconst (v := (-1)) hx hb dX10_channelFor_0 (by decide) ?_
  refine lv_istore_n (lv' := [(2, .int (-1)), (0, .ref (ad 60)), (1, .int t)]) hx hb dX10_channelFor_1 rfl hl (by decide) rfl (fun ls hl => ?_)
  refine lv_iconst (v := (-1)) hx hb dX10_channelFor_2 (by decide) ?_
  refine lv_istore_n (lv' := [(3, .int (-1)), (2, .int (-1)), (0, .ref (ad 60)), (1, .int t)]) hx hb dX10_channelFor_3 rfl hl (by decide) rfl (fun ls hl => ?_)
  refine lv_bipush (v := 31) hx hb dX10_channelFor_4 (by decide) ?_
  refine lv_istore (lv' := [(4, .int 31), (3, .int (-1)), (2, .int (-1)), (0, .ref (ad 60)), (1, .int t)]) hx hb dX10_channelFor_6 hl (by decide) rfl (fun ls hl => ?_)
  have L8 : ∀ (fu : Nat) (k : Nat) (xk : Int32) (xs : Int32) (xf : Int32) (H : Heap) (locs : List Loc), k < fu → (k ≤ 32) → (xk = nI k - 1) → (loF (frB σ g t 0 6) k xf) → (loF (frB σ g t 6 8) k xs) → WS D cA sh ad nA s.heap M H locs → ∀ ls, lv_has ls 6 [(4, .int xk), (3, .int xs), (2, .int xf), (0, .ref (ad 60)), (1, .int t)] → W p l e (headSpec wsX10_channelFor { frames := 1, cells := 0, slots := 0, locals := 25 }).room s m ([.ref (ad 60), .int t] : List Value).toArray below meth cd0 H locs 0 0 (MQ below (rQi (fun r => r = opI (chF σ g t))) ([.ref (ad 60), .int t] : List Value).toArray s 0 0 nA) (F0 m 8 ls []) := by
    intro fu
    induction fu with
    | zero =>
      intro k xk xs xf H locs hn hk ek hf hs hW ls hl
      exact absurd hn (Nat.not_lt_zero _)
    | succ fu ih8 =>
      intro k xk xs xf H locs hn hk ek hf hs hW ls hl
      refine lv_iload hx hb dX10_channelFor_8 (lv_at hl 0 rfl) ?_
      refine lv_if_lt (tgt := 104) hx hb dX10_channelFor_10 (by decide) (fun c10' => ?_) (fun c10' => ?_)
      · have hk0 : k = 0 := dn1 hk ek c10'
        subst hk0
        refine lv_iload_n hx hb dX10_channelFor_104 rfl (lv_at hl 2 rfl) ?_
        refine lv_iconst (v := (-1)) hx hb dX10_channelFor_105 (by decide) ?_
        refine lv_icmp_ne (tgt := 113) hx hb dX10_channelFor_106 (by decide) (fun c106' => ?_) (fun c106' => ?_)
        · refine lv_iload_n hx hb dX10_channelFor_113 rfl (lv_at hl 2 rfl) ?_
          exact wr_ri hx hb hr hlocks hW.2 dX10_channelFor_114 (by first | exact ch_fin1 hf c106' | exact ch_fin2 hf c106' hs)
        · refine lv_iload_n hx hb dX10_channelFor_109 rfl (lv_at hl 1 rfl) ?_
          refine lv_goto (tgt := 114) hx hb dX10_channelFor_110 (by decide) ?_
          exact wr_ri hx hb hr hlocks hW.2 dX10_channelFor_114 (by first | exact ch_fin1 hf c106' | exact ch_fin2 hf c106' hs)
      · obtain ⟨hk1, ek1⟩ := dn2 ek c10'
        have J52 : ∀ (z : Int32) (H : Heap) (locs : List Loc), (z = bI (frB0 σ g t (k - 1))) → WS D cA sh ad nA s.heap M H locs → ∀ ls, lv_has ls 6 [(4, .int xk), (3, .int xs), (2, .int xf), (0, .ref (ad 60)), (1, .int t)] → W p l e (headSpec wsX10_channelFor { frames := 1, cells := 0, slots := 0, locals := 25 }).room s m ([.ref (ad 60), .int t] : List Value).toArray below meth cd0 H locs 0 0 (MQ below (rQi (fun r => r = opI (chF σ g t))) ([.ref (ad 60), .int t] : List Value).toArray s 0 0 nA) (F0 m 52 ls [.int z]) := by
          intro z H locs hz hW ls hl
          refine lv_istore (lv' := [(5, .int z), (4, .int xk), (3, .int xs), (2, .int xf), (0, .ref (ad 60)), (1, .int t)]) hx hb dX10_channelFor_52 hl (by decide) rfl (fun ls hl => ?_)
          have J75 : ∀ (w1 : Int32) (H : Heap) (locs : List Loc), (loF (frB σ g t 0 6) (k - 1) w1) → WS D cA sh ad nA s.heap M H locs → ∀ ls, lv_has ls 6 [(5, .int z), (4, .int xk), (3, .int xs), (2, .int xf), (0, .ref (ad 60)), (1, .int t)] → W p l e (headSpec wsX10_channelFor { frames := 1, cells := 0, slots := 0, locals := 25 }).room s m ([.ref (ad 60), .int t] : List Value).toArray below meth cd0 H locs 0 0 (MQ below (rQi (fun r => r = opI (chF σ g t))) ([.ref (ad 60), .int t] : List Value).toArray s 0 0 nA) (F0 m 75 ls [.int w1]) := by
            intro w1 H locs hw1 hW ls hl
            refine lv_istore_n (lv' := [(2, .int w1), (5, .int z), (4, .int xk), (3, .int xs), (0, .ref (ad 60)), (1, .int t)]) hx hb dX10_channelFor_75 rfl hl (by decide) rfl (fun ls hl => ?_)
            have J97 : ∀ (w2 : Int32) (H : Heap) (locs : List Loc), (loF (frB σ g t 6 8) (k - 1) w2) → WS D cA sh ad nA s.heap M H locs → ∀ ls, lv_has ls 6 [(2, .int w1), (5, .int z), (4, .int xk), (3, .int xs), (0, .ref (ad 60)), (1, .int t)] → W p l e (headSpec wsX10_channelFor { frames := 1, cells := 0, slots := 0, locals := 25 }).room s m ([.ref (ad 60), .int t] : List Value).toArray below meth cd0 H locs 0 0 (MQ below (rQi (fun r => r = opI (chF σ g t))) ([.ref (ad 60), .int t] : List Value).toArray s 0 0 nA) (F0 m 97 ls [.int w2]) := by
              intro w2 H locs hw2 hW ls hl
              refine lv_istore_n (lv' := [(3, .int w2), (2, .int w1), (5, .int z), (4, .int xk), (0, .ref (ad 60)), (1, .int t)]) hx hb dX10_channelFor_97 rfl hl (by decide) rfl (fun ls hl => ?_)
              obtain ⟨x98', e98'⟩ : ∃ y : Int32, y = xk + (-1) := ⟨_, rfl⟩
              refine lv_iinc (v := x98') (lv' := [(4, .int x98'), (3, .int w2), (2, .int w1), (5, .int z), (0, .ref (ad 60)), (1, .int t)]) hx hb dX10_channelFor_98 hl (k := 3) rfl (by rw [e98']; rfl) (by decide) rfl (fun ls hl => ?_)
              refine lv_goto (tgt := 8) hx hb dX10_channelFor_101 (by decide) ?_
              exact ih8 (k - 1) x98' w2 w1 _ _ (by omega) (by omega) (by rw [e98', ek1, Int32.sub_eq_add_neg]) hw1 hw2 hW ls (lv_sub hl [0, 1, 2, 4, 5] rfl)
            refine lv_iload hx hb dX10_channelFor_76 (lv_at hl 1 rfl) ?_
            refine lv_if_eq (tgt := 96) hx hb dX10_channelFor_78 (by decide) (fun c78' => ?_) (fun c78' => ?_)
            · refine lv_iload_n hx hb dX10_channelFor_96 rfl (lv_at hl 3 rfl) ?_
              exact J97 xs _ _ (by
                  first
                  | exact loF_skip hs (by rw [frB_0, bI_z.mp (hz.symm.trans c78')]; rfl)
                  | exact loF_skip hs (by rw [frB_0, decide_eq_false (by omega), Bool.and_false])
                  | (rw [ek1]; exact loF_new hk1 hk (by rw [frB_0, bI_t.mp (fun w => c78' (hz.trans w)), decide_eq_true (by omega)]; rfl))) hW ls (lv_sub hl [0, 1, 2, 3, 4, 5] rfl)
            · refine lv_iload hx hb dX10_channelFor_81 (lv_at hl 2 rfl) ?_
              refine lv_bipush (v := 8) hx hb dX10_channelFor_83 (by decide) ?_
              refine lv_irem hx hb dX10_channelFor_85 (by decide) ?_
              refine lv_topi (fun x85' e85' => ?_)
              have n85' : x85' = nI ((k - 1) % 8) := (by rw [e85', ek1, (nlit 8)]; exact pk_rem (by omega) (by omega) (by omega))
              refine lv_bipush (v := 6) hx hb dX10_channelFor_86 (by decide) ?_
              refine lv_icmp_lt (tgt := 96) hx hb dX10_channelFor_88 (by decide) (fun c88' => ?_) (fun c88' => ?_)
              · have k88' : ((k - 1) % 8) < 6 := kc_lt n85' (nlit 6) (by omega) (by omega) c88'
                refine lv_iload_n hx hb dX10_channelFor_96 rfl (lv_at hl 3 rfl) ?_
                exact J97 xs _ _ (by
                    first
                    | exact loF_skip hs (by rw [frB_0, bI_z.mp (hz.symm.trans c78')]; rfl)
                    | exact loF_skip hs (by rw [frB_0, decide_eq_false (by omega), Bool.and_false])
                    | (rw [ek1]; exact loF_new hk1 hk (by rw [frB_0, bI_t.mp (fun w => c78' (hz.trans w)), decide_eq_true (by omega)]; rfl))) hW ls (lv_sub hl [0, 1, 2, 3, 4, 5] rfl)
              · have k88' : ¬ ((k - 1) % 8) < 6 := kc_ltn n85' (nlit 6) (by omega) (by omega) c88'
                refine lv_iload hx hb dX10_channelFor_91 (lv_at hl 2 rfl) ?_
                refine lv_goto (tgt := 97) hx hb dX10_channelFor_93 (by decide) ?_
                exact J97 xk _ _ (by
                    first
                    | exact loF_skip hs (by rw [frB_0, bI_z.mp (hz.symm.trans c78')]; rfl)
                    | exact loF_skip hs (by rw [frB_0, decide_eq_false (by omega), Bool.and_false])
                    | (rw [ek1]; exact loF_new hk1 hk (by rw [frB_0, bI_t.mp (fun w => c78' (hz.trans w)), decide_eq_true (by omega)]; rfl))) hW ls (lv_sub hl [0, 1, 2, 3, 4, 5] rfl)
          refine lv_iload hx hb dX10_channelFor_54 (lv_at hl 0 rfl) ?_
          refine lv_if_eq (tgt := 74) hx hb dX10_channelFor_56 (by decide) (fun c56' => ?_) (fun c56' => ?_)
          · refine lv_iload_n hx hb dX10_channelFor_74 rfl (lv_at hl 3 rfl) ?_
            exact J75 xf _ _ (by
                first
                | exact loF_skip hf (by rw [frB_0, bI_z.mp (hz.symm.trans c56')]; rfl)
                | exact loF_skip hf (by rw [frB_0, decide_eq_false (by omega), Bool.and_false])
                | (rw [ek1]; exact loF_new hk1 hk (by rw [frB_0, bI_t.mp (fun w => c56' (hz.trans w)), decide_eq_true (by omega)]; rfl))) hW ls (lv_sub hl [0, 1, 2, 3, 4, 5] rfl)
          · refine lv_iload hx hb dX10_channelFor_59 (lv_at hl 1 rfl) ?_
            refine lv_bipush (v := 8) hx hb dX10_channelFor_61 (by decide) ?_
            refine lv_irem hx hb dX10_channelFor_63 (by decide) ?_
            refine lv_topi (fun x63' e63' => ?_)
            have n63' : x63' = nI ((k - 1) % 8) := (by rw [e63', ek1, (nlit 8)]; exact pk_rem (by omega) (by omega) (by omega))
            refine lv_bipush (v := 6) hx hb dX10_channelFor_64 (by decide) ?_
            refine lv_icmp_ge (tgt := 74) hx hb dX10_channelFor_66 (by decide) (fun c66' => ?_) (fun c66' => ?_)
            · have k66' : 6 ≤ ((k - 1) % 8) := kc_ge n63' (nlit 6) (by omega) (by omega) c66'
              refine lv_iload_n hx hb dX10_channelFor_74 rfl (lv_at hl 3 rfl) ?_
              exact J75 xf _ _ (by
                  first
                  | exact loF_skip hf (by rw [frB_0, bI_z.mp (hz.symm.trans c56')]; rfl)
                  | exact loF_skip hf (by rw [frB_0, decide_eq_false (by omega), Bool.and_false])
                  | (rw [ek1]; exact loF_new hk1 hk (by rw [frB_0, bI_t.mp (fun w => c56' (hz.trans w)), decide_eq_true (by omega)]; rfl))) hW ls (lv_sub hl [0, 1, 2, 3, 4, 5] rfl)
            · have k66' : ¬ 6 ≤ ((k - 1) % 8) := kc_gen n63' (nlit 6) (by omega) (by omega) c66'
              refine lv_iload hx hb dX10_channelFor_69 (lv_at hl 1 rfl) ?_
              refine lv_goto (tgt := 75) hx hb dX10_channelFor_71 (by decide) ?_
              exact J75 xk _ _ (by
                  first
                  | exact loF_skip hf (by rw [frB_0, bI_z.mp (hz.symm.trans c56')]; rfl)
                  | exact loF_skip hf (by rw [frB_0, decide_eq_false (by omega), Bool.and_false])
                  | (rw [ek1]; exact loF_new hk1 hk (by rw [frB_0, bI_t.mp (fun w => c56' (hz.trans w)), decide_eq_true (by omega)]; rfl))) hW ls (lv_sub hl [0, 1, 2, 3, 4, 5] rfl)
        refine lv_aload_n hx hb dX10_channelFor_13 rfl (lv_at hl 3 rfl) ?_
        refine wgF (t := 75) hx hb fa52 hW (hMs 60 (by decide) (by decide)) rfl dX10_channelFor_14 ?_
        refine lv_iload hx hb dX10_channelFor_17 (lv_at hl 0 rfl) ?_
        refine walZ (j := (k - 1)) hx hb hK hW (hMs 75 (by decide) (by decide)) ek1 (by omega) (by decide) dX10_channelFor_19 (fun x19' e19' => ?_)
        refine lv_if_ne (tgt := 51) hx hb dX10_channelFor_20 (by decide) (fun c20' => ?_) (fun c20' => ?_)
        · refine lv_iconst (v := 0) hx hb dX10_channelFor_51 (by decide) ?_
          exact J52 0 _ _ (by
              have h9 : x19' = nI (σ.2 3 (k - 1)) := e19'.trans (hR.2.2.2.2.2.2.1 _ (by omega))
              unfold frB0
              first
              | (rw [decide_eq_false (show ¬ σ.2 3 (k - 1) = 0 from fun w => c20' (by rw [h9, w]; rfl))]; rfl)
              | (rw [decide_eq_true (gone0 (ok.2.2.2.1 (k - 1) (by omega)) (h9.symm.trans c20')), Bool.true_and]
                 have h8 : x29' = opI (g (k - 1)) := e29'.trans (hg _ (by omega))
                 have h7 := opI_n1 (o := g (k - 1)) (fun i hq => by have := (hgt _ i (by omega) hq).1; omega)
                 first
                 | (rw [decide_eq_false (show ¬ g (k - 1) = none from fun w => c31' (h8.trans (h7.mpr w)))]; rfl)
                 | (rw [decide_eq_true (h7.mp (h8.symm.trans c31')), Bool.true_and]
                    first
                    | (rw [bI_z.mp (p41'.symm.trans c44')]; rfl)
                    | (rw [bI_t.mp (fun w => c44' (p41'.trans w))]; rfl)))) hW ls (lv_sub hl [0, 1, 2, 3, 4] rfl)
        · refine lv_aload_n hx hb dX10_channelFor_23 rfl (lv_at hl 3 rfl) ?_
          refine wgF (t := 84) hx hb fa87 hW (hMs 60 (by decide) (by decide)) rfl dX10_channelFor_24 ?_
          refine lv_iload hx hb dX10_channelFor_27 (lv_at hl 0 rfl) ?_
          refine walI (j := (k - 1)) hx hb hK hW (hMs 84 (by decide) (by decide)) ek1 (by omega) (by decide) dX10_channelFor_29 (fun x29' e29' => ?_)
          refine lv_iconst (v := (-1)) hx hb dX10_channelFor_30 (by decide) ?_
          refine lv_icmp_ne (tgt := 51) hx hb dX10_channelFor_31 (by decide) (fun c31' => ?_) (fun c31' => ?_)
          · refine lv_iconst (v := 0) hx hb dX10_channelFor_51 (by decide) ?_
            exact J52 0 _ _ (by
                have h9 : x19' = nI (σ.2 3 (k - 1)) := e19'.trans (hR.2.2.2.2.2.2.1 _ (by omega))
                unfold frB0
                first
                | (rw [decide_eq_false (show ¬ σ.2 3 (k - 1) = 0 from fun w => c20' (by rw [h9, w]; rfl))]; rfl)
                | (rw [decide_eq_true (gone0 (ok.2.2.2.1 (k - 1) (by omega)) (h9.symm.trans c20')), Bool.true_and]
                   have h8 : x29' = opI (g (k - 1)) := e29'.trans (hg _ (by omega))
                   have h7 := opI_n1 (o := g (k - 1)) (fun i hq => by have := (hgt _ i (by omega) hq).1; omega)
                   first
                   | (rw [decide_eq_false (show ¬ g (k - 1) = none from fun w => c31' (h8.trans (h7.mpr w)))]; rfl)
                   | (rw [decide_eq_true (h7.mp (h8.symm.trans c31')), Bool.true_and]
                      first
                      | (rw [bI_z.mp (p41'.symm.trans c44')]; rfl)
                      | (rw [bI_t.mp (fun w => c44' (p41'.trans w))]; rfl)))) hW ls (lv_sub hl [0, 1, 2, 3, 4] rfl)
          · refine lv_aload_n hx hb dX10_channelFor_34 rfl (lv_at hl 3 rfl) ?_
            refine lv_iload hx hb dX10_channelFor_35 (lv_at hl 0 rfl) ?_
            refine lv_bipush (v := 8) hx hb dX10_channelFor_37 (by decide) ?_
            refine lv_idiv hx hb dX10_channelFor_39 (by decide) ?_
            refine lv_topi (fun x39' e39' => ?_)
            have n39' : x39' = nI ((k - 1) / 8) := (by rw [e39', ek1, (nlit 8)]; exact pk_div (by omega) (by omega) (by omega))
            refine lv_iload_n hx hb dX10_channelFor_40 rfl (lv_at hl 4 rfl) ?_
            refine wc_ri (va_runV (As := [.int x39', .int t]) (rest := []) ⟨hx, hb, hml, hown, hts⟩ (c_X10_hasGap l D cA sh ad M _ σ ok hMs hR g hg hgt ((k - 1) / 8) (by omega) x39' n39' t) (cwV 2 hts gX10_channelFor_X10_hasGap rfl rfl rfl (by decide +kernel) ⟨Nat.le_of_ble_eq_true rfl, Nat.le_of_ble_eq_true rfl⟩) (wpreV hK hW (C := RX10) (ci := 10) (hMs 60 (by decide) (by decide)) rfl) rfl rfl hl.1 rfl (lv_room (Nat.le_of_ble_eq_true rfl)) dX10_channelFor_41 ⟨Nat.le_of_ble_eq_true rfl, Nat.le_of_ble_eq_true rfl⟩) hW (fun x41' H locs p41' hW => ?_)
            try dsimp only at p41'
            refine lv_if_eq (tgt := 51) hx hb dX10_channelFor_44 (by decide) (fun c44' => ?_) (fun c44' => ?_)
            · refine lv_iconst (v := 0) hx hb dX10_channelFor_51 (by decide) ?_
              exact J52 0 _ _ (by
                  have h9 : x19' = nI (σ.2 3 (k - 1)) := e19'.trans (hR.2.2.2.2.2.2.1 _ (by omega))
                  unfold frB0
                  first
                  | (rw [decide_eq_false (show ¬ σ.2 3 (k - 1) = 0 from fun w => c20' (by rw [h9, w]; rfl))]; rfl)
                  | (rw [decide_eq_true (gone0 (ok.2.2.2.1 (k - 1) (by omega)) (h9.symm.trans c20')), Bool.true_and]
                     have h8 : x29' = opI (g (k - 1)) := e29'.trans (hg _ (by omega))
                     have h7 := opI_n1 (o := g (k - 1)) (fun i hq => by have := (hgt _ i (by omega) hq).1; omega)
                     first
                     | (rw [decide_eq_false (show ¬ g (k - 1) = none from fun w => c31' (h8.trans (h7.mpr w)))]; rfl)
                     | (rw [decide_eq_true (h7.mp (h8.symm.trans c31')), Bool.true_and]
                        first
                        | (rw [bI_z.mp (p41'.symm.trans c44')]; rfl)
                        | (rw [bI_t.mp (fun w => c44' (p41'.trans w))]; rfl)))) hW ls (lv_sub hl [0, 1, 2, 3, 4] rfl)
            · refine lv_iconst (v := 1) hx hb dX10_channelFor_47 (by decide) ?_
              refine lv_goto (tgt := 52) hx hb dX10_channelFor_48 (by decide) ?_
              exact J52 1 _ _ (by
                  have h9 : x19' = nI (σ.2 3 (k - 1)) := e19'.trans (hR.2.2.2.2.2.2.1 _ (by omega))
                  unfold frB0
                  first
                  | (rw [decide_eq_false (show ¬ σ.2 3 (k - 1) = 0 from fun w => c20' (by rw [h9, w]; rfl))]; rfl)
                  | (rw [decide_eq_true (gone0 (ok.2.2.2.1 (k - 1) (by omega)) (h9.symm.trans c20')), Bool.true_and]
                     have h8 : x29' = opI (g (k - 1)) := e29'.trans (hg _ (by omega))
                     have h7 := opI_n1 (o := g (k - 1)) (fun i hq => by have := (hgt _ i (by omega) hq).1; omega)
                     first
                     | (rw [decide_eq_false (show ¬ g (k - 1) = none from fun w => c31' (h8.trans (h7.mpr w)))]; rfl)
                     | (rw [decide_eq_true (h7.mp (h8.symm.trans c31')), Bool.true_and]
                        first
                        | (rw [bI_z.mp (p41'.symm.trans c44')]; rfl)
                        | (rw [bI_t.mp (fun w => c44' (p41'.trans w))]; rfl)))) hW ls (lv_sub hl [0, 1, 2, 3, 4] rfl)
  exact L8 (_ + 1) 32 31 (-1) (-1) _ _ (Nat.lt_succ_self _) (Nat.le_refl _) rfl (loF_0 _) (loF_0 _) hW ls (lv_sub hl [0, 1, 2, 3, 4] rfl)

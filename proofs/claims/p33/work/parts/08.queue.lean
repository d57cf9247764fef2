/-! Closing up, ticks, the queue. -/
def ctN (p : Nat → Bool) : Nat → Nat
  | 0 => 0
  | k + 1 => ctN p k + if p k = true then 1 else 0
theorem ctN_le (p : Nat → Bool) : ∀ k, ctN p k ≤ k
  | 0 => Nat.le_refl _
  | k + 1 => by have := ctN_le p k; unfold ctN; split <;> omega
/-- the cues there of a beat; those struck -/
def pb (σ : AS) (b i : Nat) : Bool := decide (i < aN σ ∧ σ.2 10 i = 0 ∧ σ.2 7 i = b)
def pbs (σ : AS) (b i : Nat) : Bool := pb σ b i && stkB σ i
def clB (σ : AS) (b : Nat) : Bool := decide (0 < ctN (pb σ b) 40 ∧ ctN (pbs σ b) 40 = ctN (pb σ b) 40)
def cbN (σ : AS) : Nat → Nat
  | 0 => 0
  | b + 1 => cbN σ b + if clB σ b = true then 1 else 0
theorem cbN_le (σ : AS) : ∀ b, cbN σ b ≤ b
  | 0 => Nat.le_refl _
  | b + 1 => by have := cbN_le σ b; unfold cbN; split <;> omega
def liA (σ : AS) (i : Nat) : Nat := liftN (σ.1 2 (σ.2 8 i)) (σ.1 3 (σ.2 8 i)) (σ.2 11 (σ.2 8 i))
def burI (σ : AS) (i : Nat) : Int32 := (nI (σ.2 7 i) - nI (cbN σ (σ.2 7 i))) * nI (σ.2 4 0)
def tkI (σ : AS) (i : Nat) : Int32 := burI σ i - nI (liA σ i)
def elg (σ : AS) (i : Nat) : Prop := i < aN σ ∧ σ.2 10 i = 0 ∧ stkB σ i = false ∧ ¬ tkI σ i < 0
def bef (σ : AS) (i j : Nat) : Prop := tkI σ i < tkI σ j ∨ (tkI σ i = tkI σ j ∧ i < j)
/-- q 0 .. q (c - 1) are those of the first k that can be fired, in their order -/
def Srt (σ : AS) (k : Nat) (q : Nat → Nat) (c : Nat) : Prop := (∀ j, j < c → q j < k ∧ elg σ (q j)) ∧ (∀ i, i < k → elg σ i → ∃ j, j < c ∧ q j = i) ∧ (∀ j j', j < j' → j' < c → bef σ (q j) (q j')) ∧ c ≤ k
theorem i32le {a b : Int32} : a ≤ b ↔ a.toInt ≤ b.toInt := Int32.le_iff_toInt_le
theorem i32lt {a b : Int32} : a < b ↔ a.toInt < b.toInt := Int32.lt_iff_toInt_lt
theorem i32eq {a b : Int32} : a = b ↔ a.toInt = b.toInt := Int32.toInt_inj.symm
theorem Srt_skip {σ : AS} {k c : Nat} {q : Nat → Nat} (h : Srt σ k q c) (hn : ¬ elg σ k) : Srt σ (k + 1) q c :=
  ⟨fun j hj => ⟨by have := (h.1 j hj).1; omega, (h.1 j hj).2⟩, fun i hi he => by
    rcases Nat.lt_or_ge i k with z | z
    · exact h.2.1 i z he
    · have : i = k := by omega
      subst this; exact absurd he hn, h.2.2.1, by have := h.2.2.2; omega⟩
def insq (q : Nat → Nat) (P i : Nat) : Nat → Nat := fun j => if j < P then q j else if j = P then i else q (j - 1)
theorem Srt_ins {σ : AS} {i c P : Nat} {q : Nat → Nat} (h : Srt σ i q c) (he : elg σ i) (hP : P ≤ c) (h1 : ∀ j, P ≤ j → j < c → tkI σ i < tkI σ (q j)) (h2 : P = 0 ∨ ¬ tkI σ i < tkI σ (q (P - 1))) : Srt σ (i + 1) (insq q P i) (c + 1) := by
  obtain ⟨a1, a2, a3, a4⟩ := h
  have low : ∀ j, j < P → bef σ (q j) i := fun j hj => by
    have hq := (a1 j (by omega)).1
    have hle : (tkI σ (q j)).toInt ≤ (tkI σ i).toInt := by
      rcases h2 with z | z
      · omega
      · rw [i32lt] at z
        rcases Nat.lt_or_ge j (P - 1) with y | y
        · rcases a3 j (P - 1) y (by omega) with w | ⟨w, -⟩
          · rw [i32lt] at w; omega
          · rw [i32eq] at w; omega
        · have : j = P - 1 := by omega
          subst this; omega
    unfold bef
    rw [i32lt, i32eq]
    omega
  refine ⟨fun j hj => ?_, fun x hx hex => ?_, fun j j' hjj hj' => ?_, by omega⟩
  · unfold insq
    split
    · have := a1 j (by omega); exact ⟨by omega, this.2⟩
    · split
      · exact ⟨by omega, he⟩
      · have := a1 (j - 1) (by omega); exact ⟨by omega, this.2⟩
  · rcases Nat.lt_or_ge x i with z | z
    · obtain ⟨j, hj, e⟩ := a2 x z hex
      rcases Nat.lt_or_ge j P with y | y
      · exact ⟨j, by omega, by unfold insq; rw [if_pos y]; exact e⟩
      · exact ⟨j + 1, by omega, by unfold insq; rw [if_neg (by omega), if_neg (by omega)]; exact e⟩
    · have : x = i := by omega
      subst this
      exact ⟨P, by omega, by unfold insq; rw [if_neg (by omega), if_pos rfl]⟩
  · unfold insq
    by_cases c1 : j < P
    · rw [if_pos c1]
      by_cases c2 : j' < P
      · rw [if_pos c2]; exact a3 j j' hjj (by omega)
      · rw [if_neg c2]
        by_cases c3 : j' = P
        · rw [if_pos c3]; exact low j c1
        · rw [if_neg c3]; exact a3 j (j' - 1) (by omega) (by omega)
    · rw [if_neg c1, if_neg (show ¬ j' < P by omega), if_neg (show ¬ j' = P by omega)]
      by_cases c3 : j = P
      · rw [if_pos c3]; exact Or.inl (h1 (j' - 1) (by omega) (by omega))
      · rw [if_neg c3]; exact a3 (j - 1) (j' - 1) (by omega) (by omega)
theorem Srt_0 {σ : AS} {q : Nat → Nat} : Srt σ 0 q 0 := ⟨fun j hj => absurd hj (Nat.not_lt_zero j), fun i hi => absurd hi (Nat.not_lt_zero i), fun j j' _ h => absurd h (Nat.not_lt_zero j'), Nat.le_refl _⟩
/-- the queue's cells -/
def QR (q : Nat → Nat) (c : Nat) (M : MS) : Prop := gI M 0 12 = nI c ∧ ∀ j, j < c → gR M 20 j = some (100 + q j)
/-- what the strike of the cues left -/
def StkR (σ : AS) (M : MS) : Prop := ∀ i, i < aN σ → σ.2 10 i = 0 → (∀ k, k < 64 → bitL (gL M (100 + i) 4) k = zonB σ i k) ∧ gI M (100 + i) 7 = nI (if stkB σ i = true then 1 else 0)
theorem ctN_s (p : Nat → Bool) (k : Nat) : ctN p (k + 1) = ctN p k + if p k = true then 1 else 0 := rfl
set_option maxHeartbeats 4000000 in
set_option maxRecDepth 100000 in
theorem c_X0_closeUp (l : Launch) (D : va_G) (cA : Nat → ClassId) (sh : Nat → Option Sh) (ad : Nat → Nat) (M : MS) (sz : Nat) (σ : AS) (ok : AOK σ) (hX : XSh (aN σ) sh) (hR : XR σ M) (hT : StkR σ M) : Met l yX0_closeUp wsX0_closeUp ({ frames := 1, cells := 0, slots := 0, locals := 23 }) (wPc D cA sh ad M sz [.ref (ad 12), .ref (ad 11)]) (wQv D cA sh ad (fun M' => oI (fun p _ => p = 12 ∨ p = 13 ∨ p = 14 ∨ p = 15) M M' ∧ (∀ b, b < 101 → gI M' 15 b = nI (cbN σ b)) ∧ gI M' 12 3 = nI (cbN σ 101)) (wA sh ad sz)) 0 0 (wA sh ad sz) := by
  refine Met.ofW (cc := cX0_closeUp) (maxL := 6) (ret := none) (by decide) rfl ?_
  intro p e s m args below meth cd0 s₁ B hml hv
  obtain ⟨rfl, hsz, hM, hK⟩ := hv
  have hx := B.exec
  have hb := B.bytes
  have hr := B.returns
  have hts := atoms_spec (ws := wsX0_closeUp) B.pre
  have hown : s.vm.findClass RX0 = some m.cls := findClass_of_methodNamed B.named
  have hlocks := B.notSynchronized
  subst hsz
  have hA := wA_PA sh ad s.heap
  generalize wA sh ad s.heap.size = A at hA ⊢
  have hW : WS D cA sh ad A s.heap M s.heap [] := ⟨hM, va_S.rf⟩
  have fa9 : FA D s m ([.ref (ad 12), .ref (ad 11)] : List Value).toArray 9 0 0 := FA.mk (C := RX0) (T := TX0) (N := 4) hts (fun _ h => List.mem_cons_of_mem _ (List.mem_append_left _ (List.mem_append_right _ (h)))) hown hK rfl (by decide) (hts (.fieldLink RX0 9 "MortarShow$Beats" "cuesOn" "[I") (List.mem_of_getElem? (i := 1) rfl))
  have fa15 : FA D s m ([.ref (ad 12), .ref (ad 11)] : List Value).toArray 15 0 1 := FA.mk (C := RX0) (T := TX0) (N := 4) hts (fun _ h => List.mem_cons_of_mem _ (List.mem_append_left _ (List.mem_append_right _ (h)))) hown hK rfl (by decide) (hts (.fieldLink RX0 15 "MortarShow$Beats" "struckOn" "[I") (List.mem_of_getElem? (i := 2) rfl))
  have fa18 : FA D s m ([.ref (ad 12), .ref (ad 11)] : List Value).toArray 18 0 2 := FA.mk (C := RX0) (T := TX0) (N := 4) hts (fun _ h => List.mem_cons_of_mem _ (List.mem_append_left _ (List.mem_append_right _ (h)))) hown hK rfl (by decide) (hts (.fieldLink RX0 18 "MortarShow$Beats" "closedBefore" "[I") (List.mem_of_getElem? (i := 6) rfl))
  have fa21 : FA D s m ([.ref (ad 12), .ref (ad 11)] : List Value).toArray 21 0 3 := FA.mk (C := RX0) (T := TX0) (N := 4) hts (fun _ h => List.mem_cons_of_mem _ (List.mem_append_left _ (List.mem_append_right _ (h)))) hown hK rfl (by decide) (hts (.fieldLink RX0 21 "MortarShow$Beats" "closedInAll" "I") (List.mem_of_getElem? (i := 5) rfl))
  have fa31 : FA D s m ([.ref (ad 12), .ref (ad 11)] : List Value).toArray 31 2 1 := FA.mk (C := RX2) (T := TX2) (N := 9) hts (fun _ h => List.mem_cons_of_mem _ (List.mem_append_right _ (h))) hown hK rfl (by decide) (hts (.fieldLink RX0 31 "MortarShow$Cue" "beat" "I") (List.mem_of_getElem? (i := 3) rfl))
  have fa36 : FA D s m ([.ref (ad 12), .ref (ad 11)] : List Value).toArray 36 2 7 := FA.mk (C := RX2) (T := TX2) (N := 9) hts (fun _ h => List.mem_cons_of_mem _ (List.mem_append_right _ (h))) hown hK rfl (by decide) (hts (.fieldLink RX0 36 "MortarShow$Cue" "fate" "I") (List.mem_of_getElem? (i := 4) rfl))
  have fw21 : FW D s m ([.ref (ad 12), .ref (ad 11)] : List Value).toArray 21 0 3 (.int) := FW.mk (C := RX0) (T := TX0) (N := 4) hts (fun _ h => List.mem_cons_of_mem _ (List.mem_append_left _ (List.mem_append_right _ (h)))) hown hK rfl (by decide) (hts (.fieldLink RX0 21 "MortarShow$Beats" "closedInAll" "I") (List.mem_of_getElem? (i := 5) rfl)) tyX0 tyX0_ok nmX0 rfl rfl
  have hl := lv_entry ([.ref (ad 12), .ref (ad 11)]) (n := 6) (Nat.le_of_ble_eq_true rfl)
  rw [lg_entry_eq]
  generalize (lg_sl ([.ref (ad 12), .ref (ad 11)]) ++ List.replicate (6 - (lg_sl ([.ref (ad 12), .ref (ad 11)])).length) Slot.unset).toArray = ls at hl ⊢
  have hl : lv_has ls 6 [(0, .ref (ad 12)), (1, .ref (ad 11))] := hl
  refine lv_aload_n hx hb dX0_closeUp_0 rfl (lv_at hl 0 rfl) ?_
  refine wgF (t := 13) hx hb fa9 hW (hX.1 12 (by decide)) rfl dX0_closeUp_1 ?_
  refine lv_iconst (v := 0) hx hb dX0_closeUp_4 (by decide) ?_
  refine wc_wv (va_runS (As := [.ref (ad 13), .int 0]) (rest := []) ⟨hx, hb, hml, hown, hts⟩ (c_J7_fill_53178 l D cA sh ad M _ 13 101 (by decide) (hX.1 13 (by decide)) 0) (va_cwS 2 hts gX0_closeUp_J7_fill_53178 rfl rfl rfl (by decide +kernel) ⟨Nat.le_of_ble_eq_true rfl, Nat.le_of_ble_eq_true rfl⟩) (wpreS hK hW) rfl rfl hl.1 rfl (lv_room (Nat.le_of_ble_eq_true rfl)) dX0_closeUp_5 ⟨Nat.le_of_ble_eq_true rfl, Nat.le_of_ble_eq_true rfl⟩) hA hW (fun M5 H locs p5 hW => ?_)
  try dsimp only at p5
  refine lv_aload_n hx hb dX0_closeUp_8 rfl (lv_at hl 0 rfl) ?_
  refine wgF (t := 14) hx hb fa15 hW (hX.1 12 (by decide)) rfl dX0_closeUp_9 ?_
  refine lv_iconst (v := 0) hx hb dX0_closeUp_12 (by decide) ?_
  refine wc_wv (va_runS (As := [.ref (ad 14), .int 0]) (rest := []) ⟨hx, hb, hml, hown, hts⟩ (c_J7_fill_53178 l D cA sh ad M5 _ 14 101 (by decide) (hX.1 14 (by decide)) 0) (va_cwS 2 hts gX0_closeUp_J7_fill_53178 rfl rfl rfl (by decide +kernel) ⟨Nat.le_of_ble_eq_true rfl, Nat.le_of_ble_eq_true rfl⟩) (wpreS hK hW) rfl rfl hl.1 rfl (lv_room (Nat.le_of_ble_eq_true rfl)) dX0_closeUp_13 ⟨Nat.le_of_ble_eq_true rfl, Nat.le_of_ble_eq_true rfl⟩) hA hW (fun M13 H locs p13 hW => ?_)
  try dsimp only at p13
  refine lv_aload_n hx hb dX0_closeUp_16 rfl (lv_at hl 1 rfl) ?_
  refine lv_astore_n (lv' := [(2, .ref (ad 11)), (0, .ref (ad 12)), (1, .ref (ad 11))]) hx hb dX0_closeUp_17 rfl hl (by decide) rfl (fun ls hl => ?_)
  refine lv_aload_n hx hb dX0_closeUp_18 rfl (lv_at hl 0 rfl) ?_
  refine wlen (v := 40) hx hb hK hW (hX.1 11 (by decide)) rfl rfl dX0_closeUp_19 ?_
  refine lv_istore_n (lv' := [(3, .int 40), (2, .ref (ad 11)), (0, .ref (ad 12)), (1, .ref (ad 11))]) hx hb dX0_closeUp_20 rfl hl (by decide) rfl (fun ls hl => ?_)
  refine lv_iconst (v := 0) hx hb dX0_closeUp_21 (by decide) ?_
  refine lv_istore (lv' := [(4, .int 0), (3, .int 40), (2, .ref (ad 11)), (0, .ref (ad 12)), (1, .ref (ad 11))]) hx hb dX0_closeUp_22 hl (by decide) rfl (fun ls hl => ?_)
  have L24 : ∀ (fu : Nat) (k : Nat) (xk : Int32) (M1 : MS) (H : Heap) (locs : List Loc), 40 - k < fu → (k ≤ 40) → (xk = nI k) → (oI (fun p _ => p = 12 ∨ p = 13 ∨ p = 14 ∨ p = 15) M M1) → (∀ b, b < 101 → gI M1 13 b = nI (ctN (pb σ b) k) ∧ gI M1 14 b = nI (ctN (pbs σ b) k)) → WS D cA sh ad A s.heap M1 H locs → ∀ ls, lv_has ls 6 [(4, .int xk), (3, .int 40), (2, .ref (ad 11)), (0, .ref (ad 12)), (1, .ref (ad 11))] → W p l e (headSpec wsX0_closeUp { frames := 1, cells := 0, slots := 0, locals := 23 }).room s m ([.ref (ad 12), .ref (ad 11)] : List Value).toArray below meth cd0 H locs 0 0 (MQ below (wQv D cA sh ad (fun M' => oI (fun p _ => p = 12 ∨ p = 13 ∨ p = 14 ∨ p = 15) M M' ∧ (∀ b, b < 101 → gI M' 15 b = nI (cbN σ b)) ∧ gI M' 12 3 = nI (cbN σ 101)) A) ([.ref (ad 12), .ref (ad 11)] : List Value).toArray s 0 0 A) (F0 m 24 ls []) := by
    intro fu
    induction fu with
    | zero =>
      intro k xk M1 H locs hn hk ek f1 f2 hW ls hl
      exact absurd hn (Nat.not_lt_zero _)
    | succ fu ih24 =>
      intro k xk M1 H locs hn hk ek f1 f2 hW ls hl
      have hR1 : XR σ M1 := hR.oI f1 (fun p k hs hx => by unfold XRs at hx; omega)
      refine lv_iload hx hb dX0_closeUp_24 (lv_at hl 0 rfl) ?_
      refine lv_iload_n hx hb dX0_closeUp_26 rfl (lv_at hl 1 rfl) ?_
      refine lv_icmp_ge (tgt := 88) hx hb dX0_closeUp_27 (by decide) (fun c27 => ?_) (fun c27 => ?_)
      · have k27 : 40 ≤ k := kc_ge ek (nlit 40) (by omega) (by omega) c27
        refine lv_aload_n hx hb dX0_closeUp_88 rfl (lv_at hl 3 rfl) ?_
        refine lv_iconst (v := 0) hx hb dX0_closeUp_89 (by decide) ?_
        refine wpI hx hb fw21 hA hW (hX.1 12 (by decide)) rfl dX0_closeUp_90 (fun M90 H locs eM90 hW => ?_)
        refine lv_iconst (v := 0) hx hb dX0_closeUp_93 (by decide) ?_
        refine lv_istore_n (lv' := [(2, .int 0), (4, .int xk), (3, .int 40), (0, .ref (ad 12)), (1, .ref (ad 11))]) hx hb dX0_closeUp_94 rfl hl (by decide) rfl (fun ls hl => ?_)
        have L95 : ∀ (fu : Nat) (b : Nat) (xb : Int32) (M2 : MS) (H : Heap) (locs : List Loc), 101 - b < fu → (b ≤ 101) → (xb = nI b) → (oI (fun p _ => p = 12 ∨ p = 13 ∨ p = 14 ∨ p = 15) M M2) → (∀ b, b < 101 → gI M2 13 b = nI (ctN (pb σ b) 40) ∧ gI M2 14 b = nI (ctN (pbs σ b) 40)) → (∀ d, d < b → gI M2 15 d = nI (cbN σ d)) → (gI M2 12 3 = nI (cbN σ b)) → WS D cA sh ad A s.heap M2 H locs → ∀ ls, lv_has ls 6 [(2, .int xb), (0, .ref (ad 12)), (1, .ref (ad 11))] → W p l e (headSpec wsX0_closeUp { frames := 1, cells := 0, slots := 0, locals := 23 }).room s m ([.ref (ad 12), .ref (ad 11)] : List Value).toArray below meth cd0 H locs 0 0 (MQ below (wQv D cA sh ad (fun M' => oI (fun p _ => p = 12 ∨ p = 13 ∨ p = 14 ∨ p = 15) M M' ∧ (∀ b, b < 101 → gI M' 15 b = nI (cbN σ b)) ∧ gI M' 12 3 = nI (cbN σ 101)) A) ([.ref (ad 12), .ref (ad 11)] : List Value).toArray s 0 0 A) (F0 m 95 ls []) := by
          intro fu
          induction fu with
          | zero =>
            intro b xb M2 H locs hn hb1 eb g1 g2 g3 g4 hW ls hl
            exact absurd hn (Nat.not_lt_zero _)
          | succ fu ih95 =>
            intro b xb M2 H locs hn hb1 eb g1 g2 g3 g4 hW ls hl
            have c1 : ctN (pb σ b) 40 ≤ 40 := ctN_le _ _
            have c2 : ctN (pbs σ b) 40 ≤ 40 := ctN_le _ _
            have c3 := cbN_le σ b
            refine lv_iload_n hx hb dX0_closeUp_95 rfl (lv_at hl 0 rfl) ?_
            refine lv_bipush (v := 101) hx hb dX0_closeUp_96 (by decide) ?_
            refine lv_icmp_ge (tgt := 151) hx hb dX0_closeUp_98 (by decide) (fun c98 => ?_) (fun c98 => ?_)
            · have k98 : 101 ≤ b := kc_ge eb (nlit 101) (by omega) (by omega) c98
              exact wr_wv hx hb hr hlocks hW dX0_closeUp_151 ⟨g1, fun d hd => g3 d (by omega), by rw [show b = 101 by omega] at g4; exact g4⟩
            · have k98 : ¬ 101 ≤ b := kc_gen eb (nlit 101) (by omega) (by omega) c98
              refine lv_aload_n hx hb dX0_closeUp_101 rfl (lv_at hl 1 rfl) ?_
              refine wgF (t := 15) hx hb fa18 hW (hX.1 12 (by decide)) rfl dX0_closeUp_102 ?_
              refine lv_iload_n hx hb dX0_closeUp_105 rfl (lv_at hl 0 rfl) ?_
              refine lv_aload_n hx hb dX0_closeUp_106 rfl (lv_at hl 1 rfl) ?_
              refine wgI hx hb fa21 hW (hX.1 12 (by decide)) rfl dX0_closeUp_107 (fun x107 e107 => ?_)
              refine wasI (j := b) hx hb hK hA hW (hX.1 15 (by decide)) eb (by omega) (by decide) dX0_closeUp_110 (fun M110 H locs eM110 hW => ?_)
              refine lv_aload_n hx hb dX0_closeUp_111 rfl (lv_at hl 1 rfl) ?_
              refine wgF (t := 13) hx hb fa9 hW (hX.1 12 (by decide)) rfl dX0_closeUp_112 ?_
              refine lv_iload_n hx hb dX0_closeUp_115 rfl (lv_at hl 0 rfl) ?_
              refine walI (j := b) hx hb hK hW (hX.1 13 (by decide)) eb (by omega) (by decide) dX0_closeUp_116 (fun x116 e116 => ?_)
              have n116 : x116 = nI (ctN (pb σ b) 40) := (by rw [e116, eM110, gI_sI, if_neg (by omega)]; exact (g2 b (by omega)).1)
              refine lv_if_le (tgt := 145) hx hb dX0_closeUp_117 (by decide) (fun c117 => ?_) (fun c117 => ?_)
              · have k117 : (ctN (pb σ b) 40) ≤ 0 := kc_le n116 (nlit 0) (by omega) (by omega) c117
                obtain ⟨x145, e145⟩ : ∃ y : Int32, y = xb + 1 := ⟨_, rfl⟩
                refine lv_iinc (v := x145) (lv' := [(2, .int x145), (0, .ref (ad 12)), (1, .ref (ad 11))]) hx hb dX0_closeUp_145 hl (k := 0) rfl (by rw [e145]; rfl) (by decide) rfl (fun ls hl => ?_)
                refine lv_goto (tgt := 95) hx hb dX0_closeUp_148 (by decide) ?_
                exact ih95 (b + 1) x145 M110 _ _ (by omega) (by omega) (by rw [e145, eb, nlit 1, nI_add]) (by first | (rw [eM142, eM110]; exact (g1.put (Or.inr (Or.inr (Or.inr rfl)))).put (Or.inl rfl)) | (rw [eM110]; exact g1.put (Or.inr (Or.inr (Or.inr rfl))))) (fun d hd => by first | (rw [eM142, eM110]; simpa [gI_sI] using g2 d hd) | (rw [eM110]; simpa [gI_sI] using g2 d hd)) (fun d hd => by
                    have hA9 : gI M110 15 d = nI (cbN σ d) := by
                      rw [eM110, gI_sI]
                      by_cases z : d = b
                      · subst z; rw [if_pos ⟨rfl, rfl⟩, e107, g4]
                      · rw [if_neg (fun q => z q.2)]; exact g3 d (by omega)
                    first | (rw [eM142, gI_sI, if_neg (by omega)]; exact hA9) | exact hA9) (by
                    have hB9 : gI M110 12 3 = nI (cbN σ b) := by rw [eM110, gI_sI, if_neg (by omega)]; exact g4
                    unfold cbN
                    first
                    | (rw [if_neg (fun q : clB σ b = true => by have q2 := of_decide_eq_true q; omega)]; exact hB9)
                    | (rw [if_pos (show clB σ b = true from decide_eq_true ⟨by omega, by omega⟩), eM142, gI_sI, if_pos ⟨rfl, rfl⟩, e141, e137, hB9, nlit 1, nI_add])) hW ls (lv_sub hl [0, 1, 2] rfl)
              · have k117 : ¬ (ctN (pb σ b) 40) ≤ 0 := kc_len n116 (nlit 0) (by omega) (by omega) c117
                refine lv_aload_n hx hb dX0_closeUp_120 rfl (lv_at hl 1 rfl) ?_
                refine wgF (t := 14) hx hb fa15 hW (hX.1 12 (by decide)) rfl dX0_closeUp_121 ?_
                refine lv_iload_n hx hb dX0_closeUp_124 rfl (lv_at hl 0 rfl) ?_
                refine walI (j := b) hx hb hK hW (hX.1 14 (by decide)) eb (by omega) (by decide) dX0_closeUp_125 (fun x125 e125 => ?_)
                have n125 : x125 = nI (ctN (pbs σ b) 40) := (by rw [e125, eM110, gI_sI, if_neg (by omega)]; exact (g2 b (by omega)).2)
                refine lv_aload_n hx hb dX0_closeUp_126 rfl (lv_at hl 1 rfl) ?_
                refine wgF (t := 13) hx hb fa9 hW (hX.1 12 (by decide)) rfl dX0_closeUp_127 ?_
                refine lv_iload_n hx hb dX0_closeUp_130 rfl (lv_at hl 0 rfl) ?_
                refine walI (j := b) hx hb hK hW (hX.1 13 (by decide)) eb (by omega) (by decide) dX0_closeUp_131 (fun x131 e131 => ?_)
                have n131 : x131 = nI (ctN (pb σ b) 40) := (by rw [e131, eM110, gI_sI, if_neg (by omega)]; exact (g2 b (by omega)).1)
                refine lv_icmp_ne (tgt := 145) hx hb dX0_closeUp_132 (by decide) (fun c132 => ?_) (fun c132 => ?_)
                · have k132 : ¬ (ctN (pbs σ b) 40) = (ctN (pb σ b) 40) := kc_ne n125 n131 (by omega) (by omega) c132
                  obtain ⟨x145, e145⟩ : ∃ y : Int32, y = xb + 1 := ⟨_, rfl⟩
                  refine lv_iinc (v := x145) (lv' := [(2, .int x145), (0, .ref (ad 12)), (1, .ref (ad 11))]) hx hb dX0_closeUp_145 hl (k := 0) rfl (by rw [e145]; rfl) (by decide) rfl (fun ls hl => ?_)
                  refine lv_goto (tgt := 95) hx hb dX0_closeUp_148 (by decide) ?_
                  exact ih95 (b + 1) x145 M110 _ _ (by omega) (by omega) (by rw [e145, eb, nlit 1, nI_add]) (by first | (rw [eM142, eM110]; exact (g1.put (Or.inr (Or.inr (Or.inr rfl)))).put (Or.inl rfl)) | (rw [eM110]; exact g1.put (Or.inr (Or.inr (Or.inr rfl))))) (fun d hd => by first | (rw [eM142, eM110]; simpa [gI_sI] using g2 d hd) | (rw [eM110]; simpa [gI_sI] using g2 d hd)) (fun d hd => by
                      have hA9 : gI M110 15 d = nI (cbN σ d) := by
                        rw [eM110, gI_sI]
                        by_cases z : d = b
                        · subst z; rw [if_pos ⟨rfl, rfl⟩, e107, g4]
                        · rw [if_neg (fun q => z q.2)]; exact g3 d (by omega)
                      first | (rw [eM142, gI_sI, if_neg (by omega)]; exact hA9) | exact hA9) (by
                      have hB9 : gI M110 12 3 = nI (cbN σ b) := by rw [eM110, gI_sI, if_neg (by omega)]; exact g4
                      unfold cbN
                      first
                      | (rw [if_neg (fun q : clB σ b = true => by have q2 := of_decide_eq_true q; omega)]; exact hB9)
                      | (rw [if_pos (show clB σ b = true from decide_eq_true ⟨by omega, by omega⟩), eM142, gI_sI, if_pos ⟨rfl, rfl⟩, e141, e137, hB9, nlit 1, nI_add])) hW ls (lv_sub hl [0, 1, 2] rfl)
                · have k132 : (ctN (pbs σ b) 40) = (ctN (pb σ b) 40) := kc_nen n125 n131 (by omega) (by omega) c132
                  refine lv_aload_n hx hb dX0_closeUp_135 rfl (lv_at hl 1 rfl) ?_
                  refine lv_dup hx hb dX0_closeUp_136 rfl ?_
                  refine wgI hx hb fa21 hW (hX.1 12 (by decide)) rfl dX0_closeUp_137 (fun x137 e137 => ?_)
                  refine lv_iconst (v := 1) hx hb dX0_closeUp_140 (by decide) ?_
                  refine lv_iadd hx hb dX0_closeUp_141 ?_
                  refine lv_topi (fun x141 e141 => ?_)
                  refine wpI hx hb fw21 hA hW (hX.1 12 (by decide)) rfl dX0_closeUp_142 (fun M142 H locs eM142 hW => ?_)
                  obtain ⟨x145, e145⟩ : ∃ y : Int32, y = xb + 1 := ⟨_, rfl⟩
                  refine lv_iinc (v := x145) (lv' := [(2, .int x145), (0, .ref (ad 12)), (1, .ref (ad 11))]) hx hb dX0_closeUp_145 hl (k := 0) rfl (by rw [e145]; rfl) (by decide) rfl (fun ls hl => ?_)
                  refine lv_goto (tgt := 95) hx hb dX0_closeUp_148 (by decide) ?_
                  exact ih95 (b + 1) x145 M142 _ _ (by omega) (by omega) (by rw [e145, eb, nlit 1, nI_add]) (by first | (rw [eM142, eM110]; exact (g1.put (Or.inr (Or.inr (Or.inr rfl)))).put (Or.inl rfl)) | (rw [eM110]; exact g1.put (Or.inr (Or.inr (Or.inr rfl))))) (fun d hd => by first | (rw [eM142, eM110]; simpa [gI_sI] using g2 d hd) | (rw [eM110]; simpa [gI_sI] using g2 d hd)) (fun d hd => by
                      have hA9 : gI M110 15 d = nI (cbN σ d) := by
                        rw [eM110, gI_sI]
                        by_cases z : d = b
                        · subst z; rw [if_pos ⟨rfl, rfl⟩, e107, g4]
                        · rw [if_neg (fun q => z q.2)]; exact g3 d (by omega)
                      first | (rw [eM142, gI_sI, if_neg (by omega)]; exact hA9) | exact hA9) (by
                      have hB9 : gI M110 12 3 = nI (cbN σ b) := by rw [eM110, gI_sI, if_neg (by omega)]; exact g4
                      unfold cbN
                      first
                      | (rw [if_neg (fun q : clB σ b = true => by have q2 := of_decide_eq_true q; omega)]; exact hB9)
                      | (rw [if_pos (show clB σ b = true from decide_eq_true ⟨by omega, by omega⟩), eM142, gI_sI, if_pos ⟨rfl, rfl⟩, e141, e137, hB9, nlit 1, nI_add])) hW ls (lv_sub hl [0, 1, 2] rfl)
        exact L95 (_ + 1) 0 0 M90 _ _ (Nat.lt_succ_self _) (Nat.zero_le _) rfl (by rw [eM90]; exact f1.put (Or.inl rfl)) (fun d hd => by rw [eM90, gI_sI, if_neg (by omega), gI_sI, if_neg (by omega)]; have := f2 d hd; rw [show k = 40 by omega] at this; exact this) (fun d hd => absurd hd (Nat.not_lt_zero d)) (by rw [eM90, gI_sI, if_pos ⟨rfl, rfl⟩]; rfl) hW ls (lv_sub hl [0, 3, 4] rfl)
      · have k27 : ¬ 40 ≤ k := kc_gen ek (nlit 40) (by omega) (by omega) c27
        refine lv_aload_n hx hb dX0_closeUp_30 rfl (lv_at hl 2 rfl) ?_
        refine lv_iload hx hb dX0_closeUp_31 (lv_at hl 0 rfl) ?_
        rcases hR1.2.2.2.2.2.2.2.2.2.2.1 k (by omega) with ⟨hn33, hg30⟩ | ⟨hs33, hi30, hg30⟩
        · refine walRn (j := k) hx hb hK hW (hX.1 11 (by decide)) hn33 ek (by omega) (by decide) dX0_closeUp_33 ?_
          refine lv_astoreN (lv' := [(5, .null), (4, .int xk), (3, .int 40), (2, .ref (ad 11)), (0, .ref (ad 12)), (1, .ref (ad 11))]) hx hb dX0_closeUp_34 hl (by decide) rfl (fun ls hl => ?_)
          refine lv_aloadN hx hb dX0_closeUp_36 (lv_at hl 0 rfl) ?_
          refine lv_ifnullN (tgt := 82) hx hb dX0_closeUp_38 (by decide) ?_
          obtain ⟨x82, e82⟩ : ∃ y : Int32, y = xk + 1 := ⟨_, rfl⟩
          refine lv_iinc (v := x82) (lv' := [(4, .int x82), (5, .null), (3, .int 40), (2, .ref (ad 11)), (0, .ref (ad 12)), (1, .ref (ad 11))]) hx hb dX0_closeUp_82 hl (k := 1) rfl (by rw [e82]; rfl) (by decide) rfl (fun ls hl => ?_)
          refine lv_goto (tgt := 24) hx hb dX0_closeUp_85 (by decide) ?_
          exact ih24 (k + 1) x82 M1 _ _ (by omega) (by omega) (by rw [e82, ek, nlit 1, nI_add]) (by first | exact f1 | (rw [eM81, eM54]; exact (f1.put (Or.inr (Or.inl rfl))).put (Or.inr (Or.inr (Or.inl rfl))))) (by
              first
              | (have hz9 : ∀ b, pb σ b k = false := fun b => decide_eq_false (fun z => hg30 ⟨z.1, z.2.1⟩)
                 intro b hb; rw [ctN_s, ctN_s]; unfold pbs; rw [hz9 b]; exact f2 b hb)
              | exact fin9) hW ls (lv_sub hl [0, 2, 3, 4, 5] rfl)
        · refine walRs (j := k) (t := (100 + k)) hx hb hK hW (hX.1 11 (by decide)) hs33 ek (by omega) (by decide) dX0_closeUp_33 ?_
          refine lv_astore (lv' := [(5, .ref (ad (100 + k))), (4, .int xk), (3, .int 40), (2, .ref (ad 11)), (0, .ref (ad 12)), (1, .ref (ad 11))]) hx hb dX0_closeUp_34 hl (by decide) rfl (fun ls hl => ?_)
          refine lv_aload hx hb dX0_closeUp_36 (lv_at hl 0 rfl) ?_
          refine lv_ifnull hx hb dX0_closeUp_38 ?_
          have hbk := (ok.2.2.2.2.2.2.1 k hi30).1
          have hcr := hR1.2.2.2.2.2.2.2.2.2.2.2 k hi30
          have hfk : gI M1 (100 + k) 7 = nI (if stkB σ k = true then 1 else 0) := by rw [f1.1 _ _ (by omega)]; exact (hT k hi30 hg30).2
          refine lv_aload_n hx hb dX0_closeUp_41 rfl (lv_at hl 4 rfl) ?_
          refine wgF (t := 13) hx hb fa9 hW (hX.1 12 (by decide)) rfl dX0_closeUp_42 ?_
          refine lv_aload hx hb dX0_closeUp_45 (lv_at hl 0 rfl) ?_
          refine wgI hx hb fa31 hW (hX.2 k (by omega)) rfl dX0_closeUp_47 (fun x47 e47 => ?_)
          have n47 : x47 = nI (σ.2 7 k) := (e47.trans hcr.2.1)
          refine lv_dup2_11 hx hb dX0_closeUp_50 rfl rfl ?_
          refine walI (j := (σ.2 7 k)) hx hb hK hW (hX.1 13 (by decide)) n47 (by omega) (by decide) dX0_closeUp_51 (fun x51 e51 => ?_)
          refine lv_iconst (v := 1) hx hb dX0_closeUp_52 (by decide) ?_
          refine lv_iadd hx hb dX0_closeUp_53 ?_
          refine lv_topi (fun x53 e53 => ?_)
          refine wasI (j := (σ.2 7 k)) hx hb hK hA hW (hX.1 13 (by decide)) n47 (by omega) (by decide) dX0_closeUp_54 (fun M54 H locs eM54 hW => ?_)
          refine lv_aload_n hx hb dX0_closeUp_55 rfl (lv_at hl 4 rfl) ?_
          refine wgF (t := 14) hx hb fa15 hW (hX.1 12 (by decide)) rfl dX0_closeUp_56 ?_
          refine lv_aload hx hb dX0_closeUp_59 (lv_at hl 0 rfl) ?_
          refine wgI hx hb fa31 hW (hX.2 k (by omega)) rfl dX0_closeUp_61 (fun x61 e61 => ?_)
          have n61 : x61 = nI (σ.2 7 k) := (by rw [e61, eM54, gI_sI, if_neg (by omega)]; exact hcr.2.1)
          refine lv_dup2_11 hx hb dX0_closeUp_64 rfl rfl ?_
          refine walI (j := (σ.2 7 k)) hx hb hK hW (hX.1 14 (by decide)) n61 (by omega) (by decide) dX0_closeUp_65 (fun x65 e65 => ?_)
          have J80 : ∀ (y : Int32) (H : Heap) (locs : List Loc), (y = nI (if stkB σ k = true then 1 else 0)) → WS D cA sh ad A s.heap M54 H locs → ∀ ls, lv_has ls 6 [(5, .ref (ad (100 + k))), (4, .int xk), (3, .int 40), (2, .ref (ad 11)), (0, .ref (ad 12)), (1, .ref (ad 11))] → W p l e (headSpec wsX0_closeUp { frames := 1, cells := 0, slots := 0, locals := 23 }).room s m ([.ref (ad 12), .ref (ad 11)] : List Value).toArray below meth cd0 H locs 0 0 (MQ below (wQv D cA sh ad (fun M' => oI (fun p _ => p = 12 ∨ p = 13 ∨ p = 14 ∨ p = 15) M M' ∧ (∀ b, b < 101 → gI M' 15 b = nI (cbN σ b)) ∧ gI M' 12 3 = nI (cbN σ 101)) A) ([.ref (ad 12), .ref (ad 11)] : List Value).toArray s 0 0 A) (F0 m 80 ls [.int y, .int x65, .int x61, .ref (ad 14)]) := by
            intro y H locs hy hW ls hl
            refine lv_iadd hx hb dX0_closeUp_80 ?_
            refine lv_topi (fun x80 e80 => ?_)
            refine wasI (j := (σ.2 7 k)) hx hb hK hA hW (hX.1 14 (by decide)) n61 (by omega) (by decide) dX0_closeUp_81 (fun M81 H locs eM81 hW => ?_)
            have fin9 : ∀ b, b < 101 → gI M81 13 b = nI (ctN (pb σ b) (k + 1)) ∧ gI M81 14 b = nI (ctN (pbs σ b) (k + 1)) := by
              intro b hb
              rw [eM81, eM54, ctN_s, ctN_s]
              obtain ⟨q1, q2⟩ := f2 b hb
              by_cases hbb : b = σ.2 7 k
              · have hp9 : pb σ b k = true := decide_eq_true ⟨hi30, hg30, hbb.symm⟩
                unfold pbs
                rw [hp9]
                subst hbb
                constructor
                · rw [gI_sI, if_neg (by omega), gI_sI, if_pos ⟨rfl, rfl⟩, e53, e51, q1, nlit 1, nI_add]; rfl
                · rw [gI_sI, if_pos ⟨rfl, rfl⟩, e80, hy, e65, eM54, gI_sI, if_neg (by omega), q2, nI_add, Bool.true_and]; rfl
              · have hp9 : pb σ b k = false := decide_eq_false (fun z => hbb z.2.2.symm)
                unfold pbs
                rw [hp9]
                exact ⟨by simp [gI_sI, hbb]; exact q1, by simp [gI_sI, hbb]; exact q2⟩
            obtain ⟨x82, e82⟩ : ∃ y : Int32, y = xk + 1 := ⟨_, rfl⟩
            refine lv_iinc (v := x82) (lv' := [(4, .int x82), (5, .ref (ad (100 + k))), (3, .int 40), (2, .ref (ad 11)), (0, .ref (ad 12)), (1, .ref (ad 11))]) hx hb dX0_closeUp_82 hl (k := 1) rfl (by rw [e82]; rfl) (by decide) rfl (fun ls hl => ?_)
            refine lv_goto (tgt := 24) hx hb dX0_closeUp_85 (by decide) ?_
            exact ih24 (k + 1) x82 M81 _ _ (by omega) (by omega) (by rw [e82, ek, nlit 1, nI_add]) (by first | exact f1 | (rw [eM81, eM54]; exact (f1.put (Or.inr (Or.inl rfl))).put (Or.inr (Or.inr (Or.inl rfl))))) (by
                first
                | (have hz9 : ∀ b, pb σ b k = false := fun b => decide_eq_false (fun z => hg30 ⟨z.1, z.2.1⟩)
                   intro b hb; rw [ctN_s, ctN_s]; unfold pbs; rw [hz9 b]; exact f2 b hb)
                | exact fin9) hW ls (lv_sub hl [0, 2, 3, 4, 5] rfl)
          refine lv_aload hx hb dX0_closeUp_66 (lv_at hl 0 rfl) ?_
          refine wgI hx hb fa36 hW (hX.2 k (by omega)) rfl dX0_closeUp_68 (fun x68 e68 => ?_)
          refine lv_iconst (v := 1) hx hb dX0_closeUp_71 (by decide) ?_
          refine lv_icmp_ne (tgt := 79) hx hb dX0_closeUp_72 (by decide) (fun c72 => ?_) (fun c72 => ?_)
          · refine lv_iconst (v := 0) hx hb dX0_closeUp_79 (by decide) ?_
            exact J80 0 _ _ (by rw [e68, eM54, gI_sI, if_neg (by omega), hfk] at c72; cases hs9 : stkB σ k <;> rw [hs9] at c72 <;> first | rfl | exact absurd rfl c72 | exact absurd c72 (by decide)) hW ls (lv_sub hl [0, 1, 2, 3, 4, 5] rfl)
          · refine lv_iconst (v := 1) hx hb dX0_closeUp_75 (by decide) ?_
            refine lv_goto (tgt := 80) hx hb dX0_closeUp_76 (by decide) ?_
            exact J80 1 _ _ (by rw [e68, eM54, gI_sI, if_neg (by omega), hfk] at c72; cases hs9 : stkB σ k <;> rw [hs9] at c72 <;> first | rfl | exact absurd rfl c72 | exact absurd c72 (by decide)) hW ls (lv_sub hl [0, 1, 2, 3, 4, 5] rfl)
  exact L24 (_ + 1) 0 0 M13 _ _ (Nat.lt_succ_self _) (Nat.zero_le _) rfl ((p5.2.mono (fun p k z => Or.inr (Or.inl z.1))).trans (p13.2.mono (fun p k z => Or.inr (Or.inr (Or.inl z.1))))) (fun b hb => ⟨by rw [p13.2.1 _ _ (by omega)]; exact p5.1 b hb, p13.1 b hb⟩) hW ls (lv_sub hl [0, 1, 2, 3, 4] rfl)
set_option maxHeartbeats 4000000 in
set_option maxRecDepth 100000 in
theorem c_X9_queueByTick (l : Launch) (D : va_G) (cA : Nat → ClassId) (sh : Nat → Option Sh) (ad : Nat → Nat) (M : MS) (sz : Nat) (σ : AS) (ok : AOK σ) (hX : XSh (aN σ) sh) (hR : XR σ M) (i : Nat) (hi : i < aN σ) (q : Nat → Nat) (c : Nat) (hs : Srt σ i q c) (hq : QR q c M) (he : elg σ i) (hti : gI M (100 + i) 6 = tkI σ i) (htq : ∀ j, j < c → gI M (100 + q j) 6 = tkI σ (q j)) : Met l yX9_queueByTick wsX9_queueByTick ({ frames := 0, cells := 0, slots := 0, locals := 0 }) (wPc D cA sh ad M sz [.ref (ad 0), .ref (ad (100 + i))]) (wQv D cA sh ad (fun M' => oA (fun p k => (p = 0 ∧ k = 12) ∨ p = 20) M M' ∧ ∃ q', Srt σ (i + 1) q' (c + 1) ∧ QR q' (c + 1) M') (wA sh ad sz)) 0 0 (wA sh ad sz) := by
  refine Met.ofW (cc := cX9_queueByTick) (maxL := 3) (ret := none) (by decide) rfl ?_
  intro p e s m args below meth cd0 s₁ B hml hv
  obtain ⟨rfl, hsz, hM, hK⟩ := hv
  have hx := B.exec
  have hb := B.bytes
  have hr := B.returns
  have hts := atoms_spec (ws := wsX9_queueByTick) B.pre
  have hown : s.vm.findClass RX9 = some m.cls := findClass_of_methodNamed B.named
  have hlocks := B.notSynchronized
  subst hsz
  have hA := wA_PA sh ad s.heap
  generalize wA sh ad s.heap.size = A at hA ⊢
  have hW : WS D cA sh ad A s.heap M s.heap [] := ⟨hM, va_S.rf⟩
  have fa62 : FA D s m ([.ref (ad 0), .ref (ad (100 + i))] : List Value).toArray 62 9 8 := FA.mk (C := RX9) (T := TX9) (N := 15) hts (fun _ h => List.mem_cons_of_mem _ (List.mem_append_left _ (List.mem_append_right _ (h)))) hown hK rfl (by decide) (hts (.fieldLink RX9 62 "MortarShow" "queue" "[LMortarShow$Cue;") (List.mem_of_getElem? (i := 2) rfl))
  have fa76 : FA D s m ([.ref (ad 0), .ref (ad (100 + i))] : List Value).toArray 76 9 12 := FA.mk (C := RX9) (T := TX9) (N := 15) hts (fun _ h => List.mem_cons_of_mem _ (List.mem_append_left _ (List.mem_append_right _ (h)))) hown hK rfl (by decide) (hts (.fieldLink RX9 76 "MortarShow" "queued" "I") (List.mem_of_getElem? (i := 1) rfl))
  have fa194 : FA D s m ([.ref (ad 0), .ref (ad (100 + i))] : List Value).toArray 194 2 6 := FA.mk (C := RX2) (T := TX2) (N := 9) hts (fun _ h => List.mem_cons_of_mem _ (List.mem_append_right _ (h))) hown hK rfl (by decide) (hts (.fieldLink RX9 194 "MortarShow$Cue" "fireTick" "I") (List.mem_of_getElem? (i := 3) rfl))
  have fw76 : FW D s m ([.ref (ad 0), .ref (ad (100 + i))] : List Value).toArray 76 9 12 (.int) := FW.mk (C := RX9) (T := TX9) (N := 15) hts (fun _ h => List.mem_cons_of_mem _ (List.mem_append_left _ (List.mem_append_right _ (h)))) hown hK rfl (by decide) (hts (.fieldLink RX9 76 "MortarShow" "queued" "I") (List.mem_of_getElem? (i := 1) rfl)) tyX9 tyX9_ok nmX9 rfl rfl
  have hl := lv_entry ([.ref (ad 0), .ref (ad (100 + i))]) (n := 3) (Nat.le_of_ble_eq_true rfl)
  rw [lg_entry_eq]
  generalize (lg_sl ([.ref (ad 0), .ref (ad (100 + i))]) ++ List.replicate (3 - (lg_sl ([.ref (ad 0), .ref (ad (100 + i))])).length) Slot.unset).toArray = ls at hl ⊢
  have hl : lv_has ls 3 [(0, .ref (ad 0)), (1, .ref (ad (100 + i)))] := hl
  have hc40 : c ≤ i ∧ i < 40 := ⟨hs.2.2.2, by have := ok.1; omega⟩
  refine lv_aload_n hx hb dX9_queueByTick_0 rfl (lv_at hl 0 rfl) ?_
  refine wgI hx hb fa76 hW (hX.1 0 (by decide)) rfl dX9_queueByTick_1 (fun x1 e1 => ?_)
  have n1 : x1 = nI c := (e1.trans hq.1)
  refine lv_bipush (v := 40) hx hb dX9_queueByTick_4 (by decide) ?_
  refine lv_icmp_lt (tgt := 10) hx hb dX9_queueByTick_6 (by decide) (fun c6 => ?_) (fun c6 => ?_)
  · have k6 : c < 40 := kc_lt n1 (nlit 40) (by omega) (by omega) c6
    refine lv_aload_n hx hb dX9_queueByTick_10 rfl (lv_at hl 0 rfl) ?_
    refine wgI hx hb fa76 hW (hX.1 0 (by decide)) rfl dX9_queueByTick_11 (fun x11 e11 => ?_)
    have n11 : x11 = nI c := (e11.trans hq.1)
    refine lv_istore_n (lv' := [(2, .int x11), (0, .ref (ad 0)), (1, .ref (ad (100 + i)))]) hx hb dX9_queueByTick_14 rfl hl (by decide) rfl (fun ls hl => ?_)
    have L15 : ∀ (fu : Nat) (P : Nat) (xp : Int32) (M1 : MS) (H : Heap) (locs : List Loc), P < fu → (P ≤ c) → (xp = nI P) → (oA (fun p _ => p = 20) M M1) → (∀ j, j < P → gR M1 20 j = some (100 + q j)) → (∀ j, P ≤ j → j < c → gR M1 20 (j + 1) = some (100 + q j)) → (∀ j, P ≤ j → j < c → tkI σ i < tkI σ (q j)) → WS D cA sh ad A s.heap M1 H locs → ∀ ls, lv_has ls 3 [(2, .int xp), (0, .ref (ad 0)), (1, .ref (ad (100 + i)))] → W p l e (headSpec wsX9_queueByTick { frames := 0, cells := 0, slots := 0, locals := 0 }).room s m ([.ref (ad 0), .ref (ad (100 + i))] : List Value).toArray below meth cd0 H locs 0 0 (MQ below (wQv D cA sh ad (fun M' => oA (fun p k => (p = 0 ∧ k = 12) ∨ p = 20) M M' ∧ ∃ q', Srt σ (i + 1) q' (c + 1) ∧ QR q' (c + 1) M') A) ([.ref (ad 0), .ref (ad (100 + i))] : List Value).toArray s 0 0 A) (F0 m 15 ls []) := by
      intro fu
      induction fu with
      | zero =>
        intro P xp M1 H locs hn hP ep f1 f2 f3 f4 hW ls hl
        exact absurd hn (Nat.not_lt_zero _)
      | succ fu ih15 =>
        intro P xp M1 H locs hn hP ep f1 f2 f3 f4 hW ls hl
        have J57 : ∀ (H : Heap) (locs : List Loc), (P = 0 ∨ ¬ tkI σ i < tkI σ (q (P - 1))) → WS D cA sh ad A s.heap M1 H locs → ∀ ls, lv_has ls 3 [(2, .int xp), (0, .ref (ad 0)), (1, .ref (ad (100 + i)))] → W p l e (headSpec wsX9_queueByTick { frames := 0, cells := 0, slots := 0, locals := 0 }).room s m ([.ref (ad 0), .ref (ad (100 + i))] : List Value).toArray below meth cd0 H locs 0 0 (MQ below (wQv D cA sh ad (fun M' => oA (fun p k => (p = 0 ∧ k = 12) ∨ p = 20) M M' ∧ ∃ q', Srt σ (i + 1) q' (c + 1) ∧ QR q' (c + 1) M') A) ([.ref (ad 0), .ref (ad (100 + i))] : List Value).toArray s 0 0 A) (F0 m 57 ls []) := by
          intro H locs hpx hW ls hl
          refine lv_aload_n hx hb dX9_queueByTick_57 rfl (lv_at hl 1 rfl) ?_
          refine wgF (t := 20) hx hb fa62 hW (hX.1 0 (by decide)) rfl dX9_queueByTick_58 ?_
          refine lv_iload_n hx hb dX9_queueByTick_61 rfl (lv_at hl 0 rfl) ?_
          refine lv_aload_n hx hb dX9_queueByTick_62 rfl (lv_at hl 2 rfl) ?_
          refine wasR (ta0 := 3) (ci := 2) (r := (RX2, TX2, 9)) (j := P) hx hb hK hA hW (hX.1 20 (by decide)) ⟨by decide, by decide⟩ rfl rfl (hX.2 i (by omega)) ep (by omega) (by decide) dX9_queueByTick_63 (fun M63 H locs eM63 hW => ?_)
          refine lv_aload_n hx hb dX9_queueByTick_64 rfl (lv_at hl 1 rfl) ?_
          refine lv_dup hx hb dX9_queueByTick_65 rfl ?_
          refine wgI hx hb fa76 hW (hX.1 0 (by decide)) rfl dX9_queueByTick_66 (fun x66 e66 => ?_)
          refine lv_iconst (v := 1) hx hb dX9_queueByTick_69 (by decide) ?_
          refine lv_iadd hx hb dX9_queueByTick_70 ?_
          refine lv_topi (fun x70 e70 => ?_)
          refine wpI hx hb fw76 hA hW (hX.1 0 (by decide)) rfl dX9_queueByTick_71 (fun M71 H locs eM71 hW => ?_)
          exact wr_wv hx hb hr hlocks hW dX9_queueByTick_74 ⟨by rw [eM71, eM63]; exact ((f1.mono (fun p k z => Or.inr z)).putR (Or.inr rfl)).putI (Or.inl ⟨rfl, rfl⟩), insq q P i, Srt_ins hs he hP f4 hpx, by
              refine ⟨by rw [eM71, gI_sI, if_pos ⟨rfl, rfl⟩, e70, e66, eM63, gI_sR, (f1 _ _ (by omega)).1, hq.1, nlit 1, nI_add], fun j hj => ?_⟩
              rw [eM71, gR_sI, eM63, gR_sR]
              unfold insq
              by_cases z : j = P
              · subst z; rw [if_pos ⟨rfl, rfl⟩, if_neg (by omega), if_pos rfl]
              · rw [if_neg (fun w => z w.2)]
                by_cases y : j < P
                · rw [if_pos y]; exact f2 j y
                · rw [if_neg y, if_neg z]; have := f3 (j - 1) (by omega) (by omega); rw [show j - 1 + 1 = j by omega] at this; exact this⟩
        refine lv_iload_n hx hb dX9_queueByTick_15 rfl (lv_at hl 0 rfl) ?_
        refine lv_if_le (tgt := 57) hx hb dX9_queueByTick_16 (by decide) (fun c16 => ?_) (fun c16 => ?_)
        · have k16 : P ≤ 0 := kc_le ep (nlit 0) (by omega) (by omega) c16
          exact J57  _ _ (by first | exact Or.inr ge9 | exact Or.inl (by omega)) hW ls (lv_sub hl [0, 1, 2] rfl)
        · have k16 : ¬ P ≤ 0 := kc_len ep (nlit 0) (by omega) (by omega) c16
          refine lv_aload_n hx hb dX9_queueByTick_19 rfl (lv_at hl 1 rfl) ?_
          refine wgF (t := 20) hx hb fa62 hW (hX.1 0 (by decide)) rfl dX9_queueByTick_20 ?_
          refine lv_iload_n hx hb dX9_queueByTick_23 rfl (lv_at hl 0 rfl) ?_
          refine lv_iconst (v := 1) hx hb dX9_queueByTick_24 (by decide) ?_
          refine lv_isub hx hb dX9_queueByTick_25 ?_
          refine lv_topi (fun x25 e25 => ?_)
          have n25 : x25 = nI (P - 1) := (by rw [e25, ep, (nlit 1)]; exact pk_sub (by omega))
          obtain ⟨qp, eqp⟩ : ∃ z, z = q (P - 1) := ⟨_, rfl⟩
          have hqp : qp < aN σ := by rw [eqp]; exact (hs.1 (P - 1) (by omega)).2.1
          refine walRs (j := (P - 1)) (t := (100 + qp)) hx hb hK hW (hX.1 20 (by decide)) (eqp ▸ f2 (P - 1) (by omega)) n25 (by omega) (by decide) dX9_queueByTick_26 ?_
          refine wgI hx hb fa194 hW (hX.2 qp (by omega)) rfl dX9_queueByTick_27 (fun x27 e27 => ?_)
          refine lv_aload_n hx hb dX9_queueByTick_30 rfl (lv_at hl 2 rfl) ?_
          refine wgI hx hb fa194 hW (hX.2 i (by omega)) rfl dX9_queueByTick_31 (fun x31 e31 => ?_)
          refine lv_icmp_le (tgt := 57) hx hb dX9_queueByTick_34 (by decide) (fun c34 => ?_) (fun c34 => ?_)
          · have ge9 : ¬ tkI σ i < tkI σ (q (P - 1)) := by
              rw [e27, e31, (f1 _ _ (by omega)).1, (f1 _ _ (by omega)).1, hti, eqp, htq _ (by omega), i32le] at c34; rw [i32lt]; omega
            exact J57  _ _ (by first | exact Or.inr ge9 | exact Or.inl (by omega)) hW ls (lv_sub hl [0, 1, 2] rfl)
          · have lt9 : tkI σ i < tkI σ (q (P - 1)) := by
              rw [e27, e31, (f1 _ _ (by omega)).1, (f1 _ _ (by omega)).1, hti, eqp, htq _ (by omega), i32le] at c34; rw [i32lt]; omega
            refine lv_aload_n hx hb dX9_queueByTick_37 rfl (lv_at hl 1 rfl) ?_
            refine wgF (t := 20) hx hb fa62 hW (hX.1 0 (by decide)) rfl dX9_queueByTick_38 ?_
            refine lv_iload_n hx hb dX9_queueByTick_41 rfl (lv_at hl 0 rfl) ?_
            refine lv_aload_n hx hb dX9_queueByTick_42 rfl (lv_at hl 1 rfl) ?_
            refine wgF (t := 20) hx hb fa62 hW (hX.1 0 (by decide)) rfl dX9_queueByTick_43 ?_
            refine lv_iload_n hx hb dX9_queueByTick_46 rfl (lv_at hl 0 rfl) ?_
            refine lv_iconst (v := 1) hx hb dX9_queueByTick_47 (by decide) ?_
            refine lv_isub hx hb dX9_queueByTick_48 ?_
            refine lv_topi (fun x48 e48 => ?_)
            have n48 : x48 = nI (P - 1) := (by rw [e48, ep, (nlit 1)]; exact pk_sub (by omega))
            refine walRs (j := (P - 1)) (t := (100 + qp)) hx hb hK hW (hX.1 20 (by decide)) (eqp ▸ f2 (P - 1) (by omega)) n48 (by omega) (by decide) dX9_queueByTick_49 ?_
            refine wasR (ta0 := 3) (ci := 2) (r := (RX2, TX2, 9)) (j := P) hx hb hK hA hW (hX.1 20 (by decide)) ⟨by decide, by decide⟩ rfl rfl (hX.2 qp (by omega)) ep (by omega) (by decide) dX9_queueByTick_50 (fun M50 H locs eM50 hW => ?_)
            obtain ⟨x51, e51⟩ : ∃ y : Int32, y = xp + (-1) := ⟨_, rfl⟩
            refine lv_iinc (v := x51) (lv' := [(2, .int x51), (0, .ref (ad 0)), (1, .ref (ad (100 + i)))]) hx hb dX9_queueByTick_51 hl (k := 0) rfl (by rw [e51]; rfl) (by decide) rfl (fun ls hl => ?_)
            refine lv_goto (tgt := 15) hx hb dX9_queueByTick_54 (by decide) ?_
            exact ih15 (P - 1) x51 M50 _ _ (by omega) (by omega) (by rw [e51, ep]; exact (by rw [show P = (P - 1) + 1 by omega, pk_m1]; rfl)) (by rw [eM50]; exact f1.putR rfl) (fun j hj => by rw [eM50, gR_sR, if_neg (by omega)]; exact f2 j (by omega)) (fun j h1 h2 => by
                rw [eM50, gR_sR]
                by_cases z : j + 1 = P
                · rw [if_pos ⟨rfl, z⟩, show j = P - 1 by omega, eqp]
                · rw [if_neg (fun w => z w.2)]
                  exact f3 j (by omega) h2) (fun j h1 h2 => by
                rcases Nat.lt_or_ge j P with z | z
                · have : j = P - 1 := by omega
                  subst this; exact lt9
                · exact f4 j z h2) hW ls (lv_sub hl [0, 1, 2] rfl)
    exact L15 (_ + 1) c x11 M _ _ (Nat.lt_succ_self _) (Nat.le_refl _) n11 oA.rf hq.2 (fun j h1 h2 => by omega) (fun j h1 h2 => by omega) hW ls (lv_sub hl [0, 1, 2] rfl)
  · have k6 : ¬ c < 40 := kc_ltn n1 (nlit 40) (by omega) (by omega) c6
    exact ((by omega : False)).elim
set_option maxHeartbeats 4000000 in
set_option maxRecDepth 100000 in
theorem c_X9_queueUp (l : Launch) (D : va_G) (cA : Nat → ClassId) (sh : Nat → Option Sh) (ad : Nat → Nat) (M : MS) (sz : Nat) (σ : AS) (ok : AOK σ) (hX : XSh (aN σ) sh) (hR : XR σ M) (hT : StkR σ M) (hB : ∀ b, b < 101 → gI M 15 b = nI (cbN σ b)) : Met l yX9_queueUp wsX9_queueUp ({ frames := 1, cells := 0, slots := 0, locals := 22 }) (wPc D cA sh ad M sz [.ref (ad 0)]) (wQv D cA sh ad (fun M' => oA (fun p k => (p = 0 ∧ k = 12) ∨ p = 20 ∨ (100 ≤ p ∧ 5 ≤ k)) M M' ∧ (∀ i, i < aN σ → σ.2 10 i = 0 → gI M' (100 + i) 5 = burI σ i ∧ gI M' (100 + i) 6 = tkI σ i ∧ gI M' (100 + i) 8 = -1 ∧ gI M' (100 + i) 7 = nI (if stkB σ i = true then 1 else if tkI σ i < 0 then 2 else 0)) ∧ ∃ q c, Srt σ 40 q c ∧ QR q c M') (wA sh ad sz)) 0 0 (wA sh ad sz) := by
  refine Met.ofW (cc := cX9_queueUp) (maxL := 5) (ret := none) (by decide) rfl ?_
  intro p e s m args below meth cd0 s₁ B hml hv
  obtain ⟨rfl, hsz, hM, hK⟩ := hv
  have hx := B.exec
  have hb := B.bytes
  have hr := B.returns
  have hts := atoms_spec (ws := wsX9_queueUp) B.pre
  have hown : s.vm.findClass RX9 = some m.cls := findClass_of_methodNamed B.named
  have hlocks := B.notSynchronized
  subst hsz
  have hA := wA_PA sh ad s.heap
  generalize wA sh ad s.heap.size = A at hA ⊢
  have hW : WS D cA sh ad A s.heap M s.heap [] := ⟨hM, va_S.rf⟩
  have fa44 : FA D s m ([.ref (ad 0)] : List Value).toArray 44 9 5 := FA.mk (C := RX9) (T := TX9) (N := 15) hts (fun _ h => List.mem_cons_of_mem _ (List.mem_append_left _ (List.mem_append_left _ (List.mem_append_left _ (List.mem_append_right _ (h)))))) hown hK rfl (by decide) (hts (.fieldLink RX9 44 "MortarShow" "cueList" "[LMortarShow$Cue;") (List.mem_of_getElem? (i := 2) rfl))
  have fa51 : FA D s m ([.ref (ad 0)] : List Value).toArray 51 9 6 := FA.mk (C := RX9) (T := TX9) (N := 15) hts (fun _ h => List.mem_cons_of_mem _ (List.mem_append_left _ (List.mem_append_left _ (List.mem_append_left _ (List.mem_append_right _ (h)))))) hown hK rfl (by decide) (hts (.fieldLink RX9 51 "MortarShow" "beats" "LMortarShow$Beats;") (List.mem_of_getElem? (i := 4) rfl))
  have fa79 : FA D s m ([.ref (ad 0)] : List Value).toArray 79 9 13 := FA.mk (C := RX9) (T := TX9) (N := 15) hts (fun _ h => List.mem_cons_of_mem _ (List.mem_append_left _ (List.mem_append_left _ (List.mem_append_left _ (List.mem_append_right _ (h)))))) hown hK rfl (by decide) (hts (.fieldLink RX9 79 "MortarShow" "tempo" "I") (List.mem_of_getElem? (i := 6) rfl))
  have fa119 : FA D s m ([.ref (ad 0)] : List Value).toArray 119 6 5 := FA.mk (C := RX6) (T := TX6) (N := 7) hts (fun _ h => List.mem_cons_of_mem _ (List.mem_append_right _ (h))) hown hK rfl (by decide) (hts (.fieldLink RX9 119 "MortarShow$Kind" "lift" "I") (List.mem_of_getElem? (i := 9) rfl))
  have fa188 : FA D s m ([.ref (ad 0)] : List Value).toArray 188 2 7 := FA.mk (C := RX2) (T := TX2) (N := 9) hts (fun _ h => List.mem_cons_of_mem _ (List.mem_append_left _ (List.mem_append_left _ (List.mem_append_right _ (h))))) hown hK rfl (by decide) (hts (.fieldLink RX9 188 "MortarShow$Cue" "fate" "I") (List.mem_of_getElem? (i := 12) rfl))
  have fa191 : FA D s m ([.ref (ad 0)] : List Value).toArray 191 2 5 := FA.mk (C := RX2) (T := TX2) (N := 9) hts (fun _ h => List.mem_cons_of_mem _ (List.mem_append_left _ (List.mem_append_left _ (List.mem_append_right _ (h))))) hown hK rfl (by decide) (hts (.fieldLink RX9 191 "MortarShow$Cue" "burstTick" "I") (List.mem_of_getElem? (i := 7) rfl))
  have fa194 : FA D s m ([.ref (ad 0)] : List Value).toArray 194 2 6 := FA.mk (C := RX2) (T := TX2) (N := 9) hts (fun _ h => List.mem_cons_of_mem _ (List.mem_append_left _ (List.mem_append_left _ (List.mem_append_right _ (h))))) hown hK rfl (by decide) (hts (.fieldLink RX9 194 "MortarShow$Cue" "fireTick" "I") (List.mem_of_getElem? (i := 10) rfl))
  have fa210 : FA D s m ([.ref (ad 0)] : List Value).toArray 210 2 2 := FA.mk (C := RX2) (T := TX2) (N := 9) hts (fun _ h => List.mem_cons_of_mem _ (List.mem_append_left _ (List.mem_append_left _ (List.mem_append_right _ (h))))) hown hK rfl (by decide) (hts (.fieldLink RX9 210 "MortarShow$Cue" "kind" "LMortarShow$Kind;") (List.mem_of_getElem? (i := 8) rfl))
  have fa333 : FA D s m ([.ref (ad 0)] : List Value).toArray 333 2 1 := FA.mk (C := RX2) (T := TX2) (N := 9) hts (fun _ h => List.mem_cons_of_mem _ (List.mem_append_left _ (List.mem_append_left _ (List.mem_append_right _ (h))))) hown hK rfl (by decide) (hts (.fieldLink RX9 333 "MortarShow$Cue" "beat" "I") (List.mem_of_getElem? (i := 3) rfl))
  have fa336 : FA D s m ([.ref (ad 0)] : List Value).toArray 336 0 2 := FA.mk (C := RX0) (T := TX0) (N := 4) hts (fun _ h => List.mem_cons_of_mem _ (List.mem_append_left _ (List.mem_append_right _ (h)))) hown hK rfl (by decide) (hts (.fieldLink RX9 336 "MortarShow$Beats" "closedBefore" "[I") (List.mem_of_getElem? (i := 5) rfl))
  have fw76 : FW D s m ([.ref (ad 0)] : List Value).toArray 76 9 12 (.int) := FW.mk (C := RX9) (T := TX9) (N := 15) hts (fun _ h => List.mem_cons_of_mem _ (List.mem_append_left _ (List.mem_append_left _ (List.mem_append_left _ (List.mem_append_right _ (h)))))) hown hK rfl (by decide) (hts (.fieldLink RX9 76 "MortarShow" "queued" "I") (List.mem_of_getElem? (i := 1) rfl)) tyX9 tyX9_ok nmX9 rfl rfl
  have fw188 : FW D s m ([.ref (ad 0)] : List Value).toArray 188 2 7 (.int) := FW.mk (C := RX2) (T := TX2) (N := 9) hts (fun _ h => List.mem_cons_of_mem _ (List.mem_append_left _ (List.mem_append_left _ (List.mem_append_right _ (h))))) hown hK rfl (by decide) (hts (.fieldLink RX9 188 "MortarShow$Cue" "fate" "I") (List.mem_of_getElem? (i := 12) rfl)) tyX2 tyX2_ok nmX2 rfl rfl
  have fw191 : FW D s m ([.ref (ad 0)] : List Value).toArray 191 2 5 (.int) := FW.mk (C := RX2) (T := TX2) (N := 9) hts (fun _ h => List.mem_cons_of_mem _ (List.mem_append_left _ (List.mem_append_left _ (List.mem_append_right _ (h))))) hown hK rfl (by decide) (hts (.fieldLink RX9 191 "MortarShow$Cue" "burstTick" "I") (List.mem_of_getElem? (i := 7) rfl)) tyX2 tyX2_ok nmX2 rfl rfl
  have fw194 : FW D s m ([.ref (ad 0)] : List Value).toArray 194 2 6 (.int) := FW.mk (C := RX2) (T := TX2) (N := 9) hts (fun _ h => List.mem_cons_of_mem _ (List.mem_append_left _ (List.mem_append_left _ (List.mem_append_right _ (h))))) hown hK rfl (by decide) (hts (.fieldLink RX9 194 "MortarShow$Cue" "fireTick" "I") (List.mem_of_getElem? (i := 10) rfl)) tyX2 tyX2_ok nmX2 rfl rfl
  have fw270 : FW D s m ([.ref (ad 0)] : List Value).toArray 270 2 8 (.int) := FW.mk (C := RX2) (T := TX2) (N := 9) hts (fun _ h => List.mem_cons_of_mem _ (List.mem_append_left _ (List.mem_append_left _ (List.mem_append_right _ (h))))) hown hK rfl (by decide) (hts (.fieldLink RX9 270 "MortarShow$Cue" "channel" "I") (List.mem_of_getElem? (i := 11) rfl)) tyX2 tyX2_ok nmX2 rfl rfl
  have hl := lv_entry ([.ref (ad 0)]) (n := 5) (Nat.le_of_ble_eq_true rfl)
  rw [lg_entry_eq]
  generalize (lg_sl ([.ref (ad 0)]) ++ List.replicate (5 - (lg_sl ([.ref (ad 0)])).length) Slot.unset).toArray = ls at hl ⊢
  have hl : lv_has ls 5 [(0, .ref (ad 0))] := hl
  refine lv_aload_n hx hb dX9_queueUp_0 rfl (lv_at hl 0 rfl) ?_
  refine lv_iconst (v := 0) hx hb dX9_queueUp_1 (by decide) ?_
  refine wpI hx hb fw76 hA hW (hX.1 0 (by decide)) rfl dX9_queueUp_2 (fun M2 H locs eM2 hW => ?_)
  refine lv_aload_n hx hb dX9_queueUp_5 rfl (lv_at hl 0 rfl) ?_
  refine wgF (t := 11) hx hb fa44 hW (hX.1 0 (by decide)) rfl dX9_queueUp_6 ?_
  refine lv_astore_n (lv' := [(1, .ref (ad 11)), (0, .ref (ad 0))]) hx hb dX9_queueUp_9 rfl hl (by decide) rfl (fun ls hl => ?_)
  refine lv_aload_n hx hb dX9_queueUp_10 rfl (lv_at hl 0 rfl) ?_
  refine wlen (v := 40) hx hb hK hW (hX.1 11 (by decide)) rfl rfl dX9_queueUp_11 ?_
  refine lv_istore_n (lv' := [(2, .int 40), (1, .ref (ad 11)), (0, .ref (ad 0))]) hx hb dX9_queueUp_12 rfl hl (by decide) rfl (fun ls hl => ?_)
  refine lv_iconst (v := 0) hx hb dX9_queueUp_13 (by decide) ?_
  refine lv_istore_n (lv' := [(3, .int 0), (2, .int 40), (1, .ref (ad 11)), (0, .ref (ad 0))]) hx hb dX9_queueUp_14 rfl hl (by decide) rfl (fun ls hl => ?_)
  have L15 : ∀ (fu : Nat) (k : Nat) (q : Nat → Nat) (c : Nat) (xk : Int32) (M1 : MS) (H : Heap) (locs : List Loc), 40 - k < fu → (k ≤ 40) → (xk = nI k) → (oA (fun p k => (p = 0 ∧ k = 12) ∨ p = 20 ∨ (100 ≤ p ∧ 5 ≤ k)) M M1) → (∀ i, i < k → i < aN σ → σ.2 10 i = 0 → gI M1 (100 + i) 5 = burI σ i ∧ gI M1 (100 + i) 6 = tkI σ i ∧ gI M1 (100 + i) 8 = -1 ∧ gI M1 (100 + i) 7 = nI (if stkB σ i = true then 1 else if tkI σ i < 0 then 2 else 0)) → (Srt σ k q c ∧ QR q c M1) → (∀ i, k ≤ i → gI M1 (100 + i) 7 = gI M (100 + i) 7) → WS D cA sh ad A s.heap M1 H locs → ∀ ls, lv_has ls 5 [(3, .int xk), (2, .int 40), (1, .ref (ad 11)), (0, .ref (ad 0))] → W p l e (headSpec wsX9_queueUp { frames := 1, cells := 0, slots := 0, locals := 22 }).room s m ([.ref (ad 0)] : List Value).toArray below meth cd0 H locs 0 0 (MQ below (wQv D cA sh ad (fun M' => oA (fun p k => (p = 0 ∧ k = 12) ∨ p = 20 ∨ (100 ≤ p ∧ 5 ≤ k)) M M' ∧ (∀ i, i < aN σ → σ.2 10 i = 0 → gI M' (100 + i) 5 = burI σ i ∧ gI M' (100 + i) 6 = tkI σ i ∧ gI M' (100 + i) 8 = -1 ∧ gI M' (100 + i) 7 = nI (if stkB σ i = true then 1 else if tkI σ i < 0 then 2 else 0)) ∧ ∃ q c, Srt σ 40 q c ∧ QR q c M') A) ([.ref (ad 0)] : List Value).toArray s 0 0 A) (F0 m 15 ls []) := by
    intro fu
    induction fu with
    | zero =>
      intro k q c xk M1 H locs hn hk ek f1 f2 f3 f4 hW ls hl
      exact absurd hn (Nat.not_lt_zero _)
    | succ fu ih15 =>
      intro k q c xk M1 H locs hn hk ek f1 f2 f3 f4 hW ls hl
      have hR1 : XR σ M1 := hR.oA f1 (fun p k hx hs => by unfold XRs at hx; omega)
      refine lv_iload_n hx hb dX9_queueUp_15 rfl (lv_at hl 0 rfl) ?_
      refine lv_iload_n hx hb dX9_queueUp_16 rfl (lv_at hl 1 rfl) ?_
      refine lv_icmp_ge (tgt := 126) hx hb dX9_queueUp_17 (by decide) (fun c17 => ?_) (fun c17 => ?_)
      · have k17 : 40 ≤ k := kc_ge ek (nlit 40) (by omega) (by omega) c17
        exact wr_wv hx hb hr hlocks hW dX9_queueUp_126 ⟨f1, fun i hi hg => f2 i (by have := ok.1; omega) hi hg, q, c, by rw [← show k = 40 by omega]; exact f3.1, f3.2⟩
      · have k17 : ¬ 40 ≤ k := kc_gen ek (nlit 40) (by omega) (by omega) c17
        refine lv_aload_n hx hb dX9_queueUp_20 rfl (lv_at hl 2 rfl) ?_
        refine lv_iload_n hx hb dX9_queueUp_21 rfl (lv_at hl 0 rfl) ?_
        rcases hR1.2.2.2.2.2.2.2.2.2.2.1 k (by omega) with ⟨hn22, hg30⟩ | ⟨hs22, hi30, hg30⟩
        · refine walRn (j := k) hx hb hK hW (hX.1 11 (by decide)) hn22 ek (by omega) (by decide) dX9_queueUp_22 ?_
          have G1 := f1
          have G2 : ∀ i, i < k + 1 → i < aN σ → σ.2 10 i = 0 → gI M1 (100 + i) 5 = burI σ i ∧ gI M1 (100 + i) 6 = tkI σ i ∧ gI M1 (100 + i) 8 = -1 ∧ gI M1 (100 + i) 7 = nI (if stkB σ i = true then 1 else if tkI σ i < 0 then 2 else 0) := fun i hi hin hg => by
            rcases Nat.lt_or_ge i k with z | z
            · exact f2 i z hin hg
            · have : i = k := by omega
              subst this; exact absurd ⟨hin, hg⟩ hg30
          have G3 : Srt σ (k + 1) q c ∧ QR q c M1 := ⟨Srt_skip f3.1 (fun z => hg30 ⟨z.1, z.2.1⟩), f3.2⟩
          have G4 : ∀ i, k + 1 ≤ i → gI M1 (100 + i) 7 = gI M (100 + i) 7 := fun i hi => f4 i (by omega)
          refine lv_astoreN (lv' := [(4, .null), (3, .int xk), (2, .int 40), (1, .ref (ad 11)), (0, .ref (ad 0))]) hx hb dX9_queueUp_23 hl (by decide) rfl (fun ls hl => ?_)
          refine lv_aloadN hx hb dX9_queueUp_25 (lv_at hl 0 rfl) ?_
          refine lv_ifnullN (tgt := 120) hx hb dX9_queueUp_27 (by decide) ?_
          obtain ⟨x120, e120⟩ : ∃ y : Int32, y = xk + 1 := ⟨_, rfl⟩
          refine lv_iinc (v := x120) (lv' := [(3, .int x120), (4, .null), (2, .int 40), (1, .ref (ad 11)), (0, .ref (ad 0))]) hx hb dX9_queueUp_120 hl (k := 1) rfl (by rw [e120]; rfl) (by decide) rfl (fun ls hl => ?_)
          refine lv_goto (tgt := 15) hx hb dX9_queueUp_123 (by decide) ?_
          exact ih15 (k + 1) q c x120 M1 _ _ (by omega) (by omega) (by rw [e120, ek, nlit 1, nI_add]) G1 G2 G3 G4 hW ls (lv_sub hl [0, 2, 3, 4] rfl)
        · refine walRs (j := k) (t := (100 + k)) hx hb hK hW (hX.1 11 (by decide)) hs22 ek (by omega) (by decide) dX9_queueUp_22 ?_
          refine lv_astore (lv' := [(4, .ref (ad (100 + k))), (3, .int xk), (2, .int 40), (1, .ref (ad 11)), (0, .ref (ad 0))]) hx hb dX9_queueUp_23 hl (by decide) rfl (fun ls hl => ?_)
          refine lv_aload hx hb dX9_queueUp_25 (lv_at hl 0 rfl) ?_
          refine lv_ifnull hx hb dX9_queueUp_27 ?_
          obtain ⟨cn, cb, ck, cr⟩ := hR1.2.2.2.2.2.2.2.2.2.2.2 k hi30
          obtain ⟨ob, hkd, hrk, og⟩ := ok.2.2.2.2.2.2.1 k hi30
          obtain ⟨kd, ekd⟩ : ∃ z, z = σ.2 8 k := ⟨_, rfl⟩
          rw [← ekd] at ck hkd
          have hct := cbN_le σ (σ.2 7 k)
          have hf0 : gI M1 (100 + k) 7 = nI (if stkB σ k = true then 1 else 0) := (f4 k (Nat.le_refl _)).trans (hT k hi30 hg30).2
          refine lv_aload hx hb dX9_queueUp_30 (lv_at hl 0 rfl) ?_
          refine lv_aload hx hb dX9_queueUp_32 (lv_at hl 0 rfl) ?_
          refine wgI hx hb fa333 hW (hX.2 k (by omega)) rfl dX9_queueUp_34 (fun x34 e34 => ?_)
          have n34 : x34 = nI (σ.2 7 k) := (e34.trans cb)
          refine lv_aload_n hx hb dX9_queueUp_37 rfl (lv_at hl 4 rfl) ?_
          refine wgF (t := 12) hx hb fa51 hW (hX.1 0 (by decide)) rfl dX9_queueUp_38 ?_
          refine wgF (t := 15) hx hb fa336 hW (hX.1 12 (by decide)) rfl dX9_queueUp_41 ?_
          refine lv_aload hx hb dX9_queueUp_44 (lv_at hl 0 rfl) ?_
          refine wgI hx hb fa333 hW (hX.2 k (by omega)) rfl dX9_queueUp_46 (fun x46 e46 => ?_)
          have n46 : x46 = nI (σ.2 7 k) := (e46.trans cb)
          refine walI (j := (σ.2 7 k)) hx hb hK hW (hX.1 15 (by decide)) n46 (by omega) (by decide) dX9_queueUp_49 (fun x49 e49 => ?_)
          have n49 : x49 = nI (cbN σ (σ.2 7 k)) := (by rw [e49, (f1 _ _ (by omega)).1]; exact hB _ (by omega))
          refine lv_isub hx hb dX9_queueUp_50 ?_
          refine lv_topi (fun x50 e50 => ?_)
          have n50 : x50 = nI ((σ.2 7 k) - (cbN σ (σ.2 7 k))) := (by rw [e50, n34, n49]; exact pk_sub (by omega))
          refine lv_aload_n hx hb dX9_queueUp_51 rfl (lv_at hl 4 rfl) ?_
          refine wgI hx hb fa79 hW (hX.1 0 (by decide)) rfl dX9_queueUp_52 (fun x52 e52 => ?_)
          refine lv_imul hx hb dX9_queueUp_55 ?_
          refine lv_topi (fun x55 e55 => ?_)
          refine wpI hx hb fw191 hA hW (hX.2 k (by omega)) rfl dX9_queueUp_56 (fun M56 H locs eM56 hW => ?_)
          refine lv_aload hx hb dX9_queueUp_59 (lv_at hl 0 rfl) ?_
          refine lv_aload hx hb dX9_queueUp_61 (lv_at hl 0 rfl) ?_
          refine wgI hx hb fa191 hW (hX.2 k (by omega)) rfl dX9_queueUp_63 (fun x63 e63 => ?_)
          refine lv_aload hx hb dX9_queueUp_66 (lv_at hl 0 rfl) ?_
          refine wgR (t := (40 + kd)) hx hb fa210 hW (hX.2 k (by omega)) rfl (by rw [eM56, gR_sI]; exact ck) dX9_queueUp_68 ?_
          refine wgI hx hb fa119 hW (sh_kind hX kd (by omega)) rfl dX9_queueUp_71 (fun x71 e71 => ?_)
          refine lv_isub hx hb dX9_queueUp_74 ?_
          refine lv_topi (fun x74 e74 => ?_)
          refine wpI hx hb fw194 hA hW (hX.2 k (by omega)) rfl dX9_queueUp_75 (fun M75 H locs eM75 hW => ?_)
          refine lv_aload hx hb dX9_queueUp_78 (lv_at hl 0 rfl) ?_
          refine lv_iconst (v := (-1)) hx hb dX9_queueUp_80 (by decide) ?_
          refine wpI hx hb fw270 hA hW (hX.2 k (by omega)) rfl dX9_queueUp_81 (fun M81 H locs eM81 hW => ?_)
          have t81 : gI M81 (100 + k) 6 = tkI σ k := by
            have hl9 : x71 = nI (liA σ k) := by rw [e71, eM56, gI_sI, if_neg (by omega)]; unfold liA; rw [← ekd]; exact (hR1.2.2.2.1 kd hkd).2.2.2.1
            have hb9 : x55 = burI σ k := by rw [e55, e50, n34, n49, e52, hR1.2.2.2.2.2.2.2.1]; rfl
            rw [eM81, gI_sI, if_neg (by omega), eM75, gI_sI, if_pos ⟨rfl, rfl⟩, e74, hl9, e63, eM56, gI_sI, if_pos ⟨rfl, rfl⟩, hb9]; rfl
          have b81 : gI M81 (100 + k) 5 = burI σ k := by
            have hb9 : x55 = burI σ k := by rw [e55, e50, n34, n49, e52, hR1.2.2.2.2.2.2.2.1]; rfl
            rw [eM81, gI_sI, if_neg (by omega), eM75, gI_sI, if_neg (by omega), eM56, gI_sI, if_pos ⟨rfl, rfl⟩, hb9]
          have h81 : gI M81 (100 + k) 8 = -1 := by rw [eM81, gI_sI, if_pos ⟨rfl, rfl⟩]
          have f81 : gI M81 (100 + k) 7 = nI (if stkB σ k = true then 1 else 0) := by rw [eM81, gI_sI, if_neg (by omega), eM75, gI_sI, if_neg (by omega), eM56, gI_sI, if_neg (by omega)]; exact hf0
          have o81 : oA (fun p j => p = 100 + k ∧ 5 ≤ j) M1 M81 := by rw [eM81, eM75, eM56]; exact oA.putI (oA.putI (oA.putI oA.rf ⟨rfl, by omega⟩) ⟨rfl, by omega⟩) ⟨rfl, by omega⟩
          have J106 : ∀ (MJ : MS) (H : Heap) (locs : List Loc), (MJ = M81 ∨ MJ = sI M81 (100 + k) 7 2) → (gI MJ (100 + k) 7 = nI (if stkB σ k = true then 1 else if tkI σ k < 0 then 2 else 0)) → WS D cA sh ad A s.heap MJ H locs → ∀ ls, lv_has ls 5 [(4, .ref (ad (100 + k))), (3, .int xk), (2, .int 40), (1, .ref (ad 11)), (0, .ref (ad 0))] → W p l e (headSpec wsX9_queueUp { frames := 1, cells := 0, slots := 0, locals := 22 }).room s m ([.ref (ad 0)] : List Value).toArray below meth cd0 H locs 0 0 (MQ below (wQv D cA sh ad (fun M' => oA (fun p k => (p = 0 ∧ k = 12) ∨ p = 20 ∨ (100 ≤ p ∧ 5 ≤ k)) M M' ∧ (∀ i, i < aN σ → σ.2 10 i = 0 → gI M' (100 + i) 5 = burI σ i ∧ gI M' (100 + i) 6 = tkI σ i ∧ gI M' (100 + i) 8 = -1 ∧ gI M' (100 + i) 7 = nI (if stkB σ i = true then 1 else if tkI σ i < 0 then 2 else 0)) ∧ ∃ q c, Srt σ 40 q c ∧ QR q c M') A) ([.ref (ad 0)] : List Value).toArray s 0 0 A) (F0 m 106 ls []) := by
            intro MJ H locs hJ hJ7 hW ls hl
            have oJ : oA (fun p j => p = 100 + k ∧ 5 ≤ j) M1 MJ := by
              rcases hJ with z | z
              · rw [z]; exact o81
              · rw [z]; exact o81.putI ⟨rfl, by omega⟩
            have s5 : gI MJ (100 + k) 5 = burI σ k ∧ gI MJ (100 + k) 6 = tkI σ k ∧ gI MJ (100 + k) 8 = -1 := by
              rcases hJ with z | z
              · rw [z]; exact ⟨b81, t81, h81⟩
              · rw [z, gI_sI, if_neg (by omega), gI_sI, if_neg (by omega), gI_sI, if_neg (by omega)]; exact ⟨b81, t81, h81⟩
            refine lv_aload hx hb dX9_queueUp_106 (lv_at hl 0 rfl) ?_
            refine wgI hx hb fa188 hW (hX.2 k (by omega)) rfl dX9_queueUp_108 (fun x108 e108 => ?_)
            refine lv_if_ne (tgt := 120) hx hb dX9_queueUp_111 (by decide) (fun c111 => ?_) (fun c111 => ?_)
            · have G1 : oA (fun p k => (p = 0 ∧ k = 12) ∨ p = 20 ∨ (100 ≤ p ∧ 5 ≤ k)) M MJ := f1.trans (oJ.mono (fun p j z => Or.inr (Or.inr ⟨by omega, z.2⟩)))
              have G2 : ∀ i, i < k + 1 → i < aN σ → σ.2 10 i = 0 → gI MJ (100 + i) 5 = burI σ i ∧ gI MJ (100 + i) 6 = tkI σ i ∧ gI MJ (100 + i) 8 = -1 ∧ gI MJ (100 + i) 7 = nI (if stkB σ i = true then 1 else if tkI σ i < 0 then 2 else 0) := fun i hi hin hg => by
                rcases Nat.lt_or_ge i k with z | z
                · rw [(oJ _ _ (by omega)).1, (oJ _ _ (by omega)).1, (oJ _ _ (by omega)).1, (oJ _ _ (by omega)).1]; exact f2 i z hin hg
                · have : i = k := by omega
                  subst this; exact ⟨s5.1, s5.2.1, s5.2.2, hJ7⟩
              have G3 : Srt σ (k + 1) q c ∧ QR q c MJ := ⟨Srt_skip f3.1 (fun z => c111 (by rw [e108, hJ7, z.2.2.1, if_neg (by decide), if_neg z.2.2.2]; rfl)), by rw [(oJ _ _ (by omega)).1]; exact f3.2.1, fun j hj => by rw [(oJ _ _ (by omega)).2.2]; exact f3.2.2 j hj⟩
              have G4 : ∀ i, k + 1 ≤ i → gI MJ (100 + i) 7 = gI M (100 + i) 7 := fun i hi => by rw [(oJ _ _ (by omega)).1]; exact f4 i (by omega)
              obtain ⟨x120, e120⟩ : ∃ y : Int32, y = xk + 1 := ⟨_, rfl⟩
              refine lv_iinc (v := x120) (lv' := [(3, .int x120), (4, .ref (ad (100 + k))), (2, .int 40), (1, .ref (ad 11)), (0, .ref (ad 0))]) hx hb dX9_queueUp_120 hl (k := 1) rfl (by rw [e120]; rfl) (by decide) rfl (fun ls hl => ?_)
              refine lv_goto (tgt := 15) hx hb dX9_queueUp_123 (by decide) ?_
              exact ih15 (k + 1) q c x120 MJ _ _ (by omega) (by omega) (by rw [e120, ek, nlit 1, nI_add]) G1 G2 G3 G4 hW ls (lv_sub hl [0, 2, 3, 4] rfl)
            · have he9 : elg σ k := by
                rw [e108, hJ7] at c111
                refine ⟨hi30, hg30, ?_, fun z => ?_⟩
                · cases hs9 : stkB σ k
                  · rfl
                  · rw [hs9] at c111; exact absurd c111 (by rw [if_pos rfl]; decide)
                · cases hs9 : stkB σ k
                  · rw [hs9, if_neg (by decide), if_pos z] at c111; exact absurd c111 (by decide)
                  · rw [hs9] at c111; exact absurd c111 (by rw [if_pos rfl]; decide)
              have hRJ : XR σ MJ := hR1.oA oJ (fun p j hx hs => by unfold XRs at hx; omega)
              have hqJ : QR q c MJ := ⟨by rw [(oJ _ _ (by omega)).1]; exact f3.2.1, fun j hj => by rw [(oJ _ _ (by omega)).2.2]; exact f3.2.2 j hj⟩
              have htqJ : ∀ j, j < c → gI MJ (100 + q j) 6 = tkI σ (q j) := fun j hj => by have h1 := f3.1.1 j hj; rw [(oJ _ _ (by omega)).1]; exact (f2 (q j) h1.1 h1.2.1 h1.2.2.1).2.1
              refine lv_aload_n hx hb dX9_queueUp_114 rfl (lv_at hl 4 rfl) ?_
              refine lv_aload hx hb dX9_queueUp_115 (lv_at hl 0 rfl) ?_
              refine wc_wv (va_runV (As := [.ref (ad (100 + k))]) (rest := []) ⟨hx, hb, hml, hown, hts⟩ (c_X9_queueByTick l D cA sh ad MJ _ σ ok hX hRJ k hi30 q c f3.1 hqJ he9 s5.2.1 htqJ) (cwV 1 hts gX9_queueUp_X9_queueByTick rfl rfl rfl (by decide +kernel) ⟨Nat.le_of_ble_eq_true rfl, Nat.le_of_ble_eq_true rfl⟩) (wpreV hK hW (C := RX9) (ci := 9) (hX.1 0 (by decide)) rfl) rfl rfl hl.1 rfl (lv_room (Nat.le_of_ble_eq_true rfl)) dX9_queueUp_117 ⟨Nat.le_of_ble_eq_true rfl, Nat.le_of_ble_eq_true rfl⟩) hA hW (fun M117 H locs p117 hW => ?_)
              try dsimp only at p117
              obtain ⟨o117, q9, hs9, hq9⟩ := p117
              have G1 : oA (fun p k => (p = 0 ∧ k = 12) ∨ p = 20 ∨ (100 ≤ p ∧ 5 ≤ k)) M M117 := (f1.trans (oJ.mono (fun p j z => Or.inr (Or.inr ⟨by omega, z.2⟩)))).trans (o117.mono (fun p j z => z.elim Or.inl (fun z => Or.inr (Or.inl z))))
              have G2 : ∀ i, i < k + 1 → i < aN σ → σ.2 10 i = 0 → gI M117 (100 + i) 5 = burI σ i ∧ gI M117 (100 + i) 6 = tkI σ i ∧ gI M117 (100 + i) 8 = -1 ∧ gI M117 (100 + i) 7 = nI (if stkB σ i = true then 1 else if tkI σ i < 0 then 2 else 0) := fun i hi hin hg => by
                rw [(o117 _ _ (by omega)).1, (o117 _ _ (by omega)).1, (o117 _ _ (by omega)).1, (o117 _ _ (by omega)).1]
                rcases Nat.lt_or_ge i k with z | z
                · rw [(oJ _ _ (by omega)).1, (oJ _ _ (by omega)).1, (oJ _ _ (by omega)).1, (oJ _ _ (by omega)).1]; exact f2 i z hin hg
                · have : i = k := by omega
                  subst this; exact ⟨s5.1, s5.2.1, s5.2.2, hJ7⟩
              have G3 : Srt σ (k + 1) q9 (c + 1) ∧ QR q9 (c + 1) M117 := ⟨hs9, hq9⟩
              have G4 : ∀ i, k + 1 ≤ i → gI M117 (100 + i) 7 = gI M (100 + i) 7 := fun i hi => by rw [(o117 _ _ (by omega)).1, (oJ _ _ (by omega)).1]; exact f4 i (by omega)
              obtain ⟨x120, e120⟩ : ∃ y : Int32, y = xk + 1 := ⟨_, rfl⟩
              refine lv_iinc (v := x120) (lv' := [(3, .int x120), (4, .ref (ad (100 + k))), (2, .int 40), (1, .ref (ad 11)), (0, .ref (ad 0))]) hx hb dX9_queueUp_120 hl (k := 1) rfl (by rw [e120]; rfl) (by decide) rfl (fun ls hl => ?_)
              refine lv_goto (tgt := 15) hx hb dX9_queueUp_123 (by decide) ?_
              exact ih15 (k + 1) q9 (c + 1) x120 M117 _ _ (by omega) (by omega) (by rw [e120, ek, nlit 1, nI_add]) G1 G2 G3 G4 hW ls (lv_sub hl [0, 2, 3, 4] rfl)
          refine lv_aload hx hb dX9_queueUp_84 (lv_at hl 0 rfl) ?_
          refine wgI hx hb fa188 hW (hX.2 k (by omega)) rfl dX9_queueUp_86 (fun x86 e86 => ?_)
          refine lv_if_ne (tgt := 106) hx hb dX9_queueUp_89 (by decide) (fun c89 => ?_) (fun c89 => ?_)
          · exact J106  M81 _ _ (by first | exact Or.inl rfl | exact Or.inr eM103) (by
                rw [e86, f81] at c89
                first
                | (rw [eM103, gI_sI, if_pos ⟨rfl, rfl⟩]; rw [e94, t81] at c97; cases hs9 : stkB σ k
                   · rw [if_neg (by decide), if_pos (by rw [i32lt]; rw [i32le] at c97; have : (0 : Int32).toInt = 0 := rfl; omega)]; rfl
                   · rw [hs9] at c89; exact absurd c89 (by decide))
                | (rw [f81]; rw [e94, t81] at c97; cases hs9 : stkB σ k
                   · rw [if_neg (by decide), if_neg (by decide), if_neg (by rw [i32lt]; rw [i32le] at c97; have : (0 : Int32).toInt = 0 := rfl; omega)]
                   · rfl)
                | (rw [f81]; cases hs9 : stkB σ k
                   · rw [hs9] at c89; exact absurd rfl c89
                   · rfl)) hW ls (lv_sub hl [0, 1, 2, 3, 4] rfl)
          · refine lv_aload hx hb dX9_queueUp_92 (lv_at hl 0 rfl) ?_
            refine wgI hx hb fa194 hW (hX.2 k (by omega)) rfl dX9_queueUp_94 (fun x94 e94 => ?_)
            refine lv_if_ge (tgt := 106) hx hb dX9_queueUp_97 (by decide) (fun c97 => ?_) (fun c97 => ?_)
            · exact J106  M81 _ _ (by first | exact Or.inl rfl | exact Or.inr eM103) (by
                  rw [e86, f81] at c89
                  first
                  | (rw [eM103, gI_sI, if_pos ⟨rfl, rfl⟩]; rw [e94, t81] at c97; cases hs9 : stkB σ k
                     · rw [if_neg (by decide), if_pos (by rw [i32lt]; rw [i32le] at c97; have : (0 : Int32).toInt = 0 := rfl; omega)]; rfl
                     · rw [hs9] at c89; exact absurd c89 (by decide))
                  | (rw [f81]; rw [e94, t81] at c97; cases hs9 : stkB σ k
                     · rw [if_neg (by decide), if_neg (by decide), if_neg (by rw [i32lt]; rw [i32le] at c97; have : (0 : Int32).toInt = 0 := rfl; omega)]
                     · rfl)
                  | (rw [f81]; cases hs9 : stkB σ k
                     · rw [hs9] at c89; exact absurd rfl c89
                     · rfl)) hW ls (lv_sub hl [0, 1, 2, 3, 4] rfl)
            · refine lv_aload hx hb dX9_queueUp_100 (lv_at hl 0 rfl) ?_
              refine lv_iconst (v := 2) hx hb dX9_queueUp_102 (by decide) ?_
              refine wpI hx hb fw188 hA hW (hX.2 k (by omega)) rfl dX9_queueUp_103 (fun M103 H locs eM103 hW => ?_)
              exact J106  M103 _ _ (by first | exact Or.inl rfl | exact Or.inr eM103) (by
                  rw [e86, f81] at c89
                  first
                  | (rw [eM103, gI_sI, if_pos ⟨rfl, rfl⟩]; rw [e94, t81] at c97; cases hs9 : stkB σ k
                     · rw [if_neg (by decide), if_pos (by rw [i32lt]; rw [i32le] at c97; have : (0 : Int32).toInt = 0 := rfl; omega)]; rfl
                     · rw [hs9] at c89; exact absurd c89 (by decide))
                  | (rw [f81]; rw [e94, t81] at c97; cases hs9 : stkB σ k
                     · rw [if_neg (by decide), if_neg (by decide), if_neg (by rw [i32lt]; rw [i32le] at c97; have : (0 : Int32).toInt = 0 := rfl; omega)]
                     · rfl)
                  | (rw [f81]; cases hs9 : stkB σ k
                     · rw [hs9] at c89; exact absurd rfl c89
                     · rfl)) hW ls (lv_sub hl [0, 1, 2, 3, 4] rfl)
  exact L15 (_ + 1) 0 (fun _ => 0) 0 0 M2 _ _ (Nat.lt_succ_self _) (Nat.zero_le _) rfl (by rw [eM2]; exact oA.putI oA.rf (Or.inl ⟨rfl, rfl⟩)) (fun i hi => absurd hi (Nat.not_lt_zero i)) ⟨Srt_0, by rw [eM2, gI_sI, if_pos ⟨rfl, rfl⟩]; rfl, fun j hj => absurd hj (Nat.not_lt_zero j)⟩ (fun i _ => by rw [eM2, gI_sI, if_neg (by omega)]) hW ls (lv_sub hl [0, 1, 2, 3] rfl)

/-! The reference lays the show. -/
theorem ins_place {σ : AS} {q : Nat → Nat} {i : Nat} : ∀ c, ∃ P, P ≤ c ∧ (∀ j, P ≤ j → j < c → tkI σ i < tkI σ (q j)) ∧ (P = 0 ∨ ¬ tkI σ i < tkI σ (q (P - 1)))
  | 0 => ⟨0, Nat.le_refl _, fun j _ hj => absurd hj (Nat.not_lt_zero j), Or.inl rfl⟩
  | c + 1 => by
    by_cases h : tkI σ i < tkI σ (q c)
    · obtain ⟨P, h1, h2, h3⟩ := ins_place (σ := σ) (q := q) (i := i) c
      refine ⟨P, by omega, fun j hj hj2 => ?_, h3⟩
      rcases Nat.lt_or_ge j c with z | z
      · exact h2 j hj z
      · rw [show j = c by omega]; exact h
    · exact ⟨c + 1, Nat.le_refl _, fun j h1 h2 => by omega, Or.inr h⟩
theorem srt_ex (σ : AS) : ∀ k, ∃ q c, Srt σ k q c
  | 0 => ⟨fun _ => 0, 0, Srt_0⟩
  | k + 1 => by
    obtain ⟨q, c, h⟩ := srt_ex σ k
    by_cases he : elg σ k
    · obtain ⟨P, h1, h2, h3⟩ := ins_place (σ := σ) (q := q) (i := k) c
      exact ⟨_, _, Srt_ins h he h1 h2 h3⟩
    · exact ⟨q, c, Srt_skip h he⟩
def laS (p k : Nat) : Prop := p = 80 ∨ p = 81 ∨ p = 82 ∨ p = 83 ∨ p = 84 ∨ (p = 60 ∧ k = 27)
/-- what stands behind it -/
def LayR (σ : AS) (q : Nat → Nat) (c : Nat) (M : MS) : Prop :=
  Srt σ 40 q c ∧ (∀ i, i < aN σ → σ.2 10 i = 0 → gI M 80 i = nI (fateA σ q c i) ∧ gI M 81 i = tkI σ i ∧ gI M 82 i = chanA σ q c i) ∧ (∀ d, d < 32 → gI M 84 d = opI (gvn σ q c d)) ∧ gI M 60 27 = nI (lit σ q c) ∧ ∀ n, n < lit σ q c → gI M 83 n = nI (firA σ q c n)
def G3 (σ : AS) (q : Nat → Nat) (J : Nat) (M : MS) : Prop := ∀ j, j < J → gI M 80 (q j) = nI (if chq σ q j = none then 3 else 0) ∧ gI M 82 (q j) = opI (chq σ q j)
def G4 (σ : AS) (q : Nat → Nat) (J : Nat) (M : MS) : Prop := ∀ i, i < aN σ → σ.2 10 i = 0 → (∀ j, j < J → q j ≠ i) → gI M 80 i = nI (if stkB σ i = true then 1 else if tkI σ i < 0 then 2 else 0) ∧ gI M 82 i = -1
def G7 (σ : AS) (q : Nat → Nat) (J : Nat) (M : MS) : Prop := ∀ j, j < J → chq σ q j ≠ none → gI M 83 (lit σ q j) = nI (q j)
theorem ft_iff {σ : AS} {q : Nat → Nat} {c J : Nat} {M : MS} (hs : Srt σ 40 q c) (o1 : aN σ ≤ 40) (hJ : J ≤ c) (g3 : G3 σ q J M) (g4 : G4 σ q J M) : ∀ i, i < aN σ → σ.2 10 i = 0 → ((gI M 80 i = 0 ∨ gI M 80 i = 3) ↔ elg σ i) := fun i hi hg => by
  by_cases hx : ∃ j, j < J ∧ q j = i
  · obtain ⟨j, hj, e⟩ := hx
    have he := (hs.1 j (by omega)).2
    have h3 := (g3 j hj).1
    rw [e] at he h3
    refine ⟨fun _ => he, fun _ => ?_⟩
    rw [h3]
    split
    · exact Or.inr rfl
    · exact Or.inl rfl
  · have h4 := (g4 i hi hg (fun j hj e => hx ⟨j, hj, e⟩)).1
    rw [h4]
    constructor
    · intro h
      refine ⟨hi, hg, ?_, fun z => ?_⟩
      · cases hs9 : stkB σ i
        · rfl
        · rw [hs9, if_pos rfl] at h; exact absurd h (by decide)
      · cases hs9 : stkB σ i
        · rw [hs9, if_neg (by decide), if_pos z] at h; exact absurd h (by decide)
        · rw [hs9, if_pos rfl] at h; exact absurd h (by decide)
    · intro he
      rw [he.2.2.1, if_neg (by decide), if_neg he.2.2.2]
      exact Or.inl rfl
theorem lay_end {σ : AS} {q : Nat → Nat} {c : Nat} {M : MS} (hs : Srt σ 40 q c) (o1 : aN σ ≤ 40) (g2 : ∀ i, i < aN σ → σ.2 10 i = 0 → gI M 81 i = tkI σ i) (g3 : G3 σ q c M) (g4 : G4 σ q c M) (g5 : ∀ d, d < 32 → gI M 84 d = opI (gvn σ q c d)) (g6 : gI M 60 27 = nI (lit σ q c)) (g7 : G7 σ q c M) : LayR σ q c M := by
  refine ⟨hs, fun i hi hg => ?_, g5, g6, fun n hn => ?_⟩
  · refine ⟨?_, g2 i hi hg, ?_⟩
    · unfold fateA
      by_cases he : elg σ i
      · obtain ⟨j, hj, ej⟩ := hs.2.1 i (by omega) he
        have h3 := (g3 j hj).1
        have h4 := posQ_at hs hj
        rw [ej] at h3 h4
        rw [h4]; exact h3
      · rw [posQ_no hs he]
        have h4 := (g4 i hi hg (fun j hj e => he (by rw [← e]; exact (hs.1 j hj).2))).1
        rw [h4]
        show _ = nI (if stkB σ i = true then 1 else 2)
        cases hs9 : stkB σ i
        · have ht9 : tkI σ i < 0 := Decidable.byContradiction (fun z => he ⟨hi, hg, hs9, z⟩)
          rw [if_neg (by decide), if_pos ht9]; rfl
        · rfl
    · unfold chanA
      by_cases he : elg σ i
      · obtain ⟨j, hj, ej⟩ := hs.2.1 i (by omega) he
        have h3 := (g3 j hj).2
        have h4 := posQ_at hs hj
        rw [ej] at h3 h4
        rw [h4]; exact h3
      · rw [posQ_no hs he]
        exact (g4 i hi hg (fun j hj e => he (by rw [← e]; exact (hs.1 j hj).2))).2
  · obtain ⟨j, hj, e1', e2', e3'⟩ := firA_at hs hn
    rw [e3', ← e1']; exact g7 j hj e2'
theorem q_inj {σ : AS} {q : Nat → Nat} {c j k : Nat} (hs : Srt σ 40 q c) (hj : j < k) (hk : k < c) : q j ≠ q k := fun e => by
  have := hs.2.2.1 j k hj hk
  rw [e] at this; exact bef_irr this
set_option maxHeartbeats 4000000 in
set_option maxRecDepth 100000 in
theorem c_X10_lays (l : Launch) (D : va_G) (cA : Nat → ClassId) (sh : Nat → Option Sh) (ad : Nat → Nat) (M : MS) (sz : Nat) (σ : AS) (ok : AOK σ) (hMs : MSh sh) (hR : MR σ M) : Met l yX10_lays wsX10_lays ({ frames := 3, cells := 0, slots := 0, locals := 75 }) (wPc D cA sh ad M sz [.ref (ad 60)]) (wQv D cA sh ad (fun M' => oI laS M M' ∧ ∃ q c, LayR σ q c M') (wA sh ad sz)) 0 0 (wA sh ad sz) := by
  refine Met.ofW (cc := cX10_lays) (maxL := 3) (ret := none) (by decide) rfl ?_
  intro p e s m args below meth cd0 s₁ B hml hv
  obtain ⟨rfl, hsz, hM, hK⟩ := hv
  have hx := B.exec
  have hb := B.bytes
  have hr := B.returns
  have hts := atoms_spec (ws := wsX10_lays) B.pre
  have hown : s.vm.findClass RX10 = some m.cls := findClass_of_methodNamed B.named
  have hlocks := B.notSynchronized
  subst hsz
  have hA := wA_PA sh ad s.heap
  generalize wA sh ad s.heap.size = A at hA ⊢
  have hW : WS D cA sh ad A s.heap M s.heap [] := ⟨hM, va_S.rf⟩
  have fa22 : FA D s m ([.ref (ad 60)] : List Value).toArray 22 10 4 := FA.mk (C := RX10) (T := TX10) (N := 29) hts (fun _ h => List.mem_cons_of_mem _ (List.mem_append_right _ (h))) hown hK rfl (by decide) (hts (.fieldLink RX10 22 "MortarShowModel" "lift" "[I") (List.mem_of_getElem? (i := 10) rfl))
  have fa56 : FA D s m ([.ref (ad 60)] : List Value).toArray 56 10 15 := FA.mk (C := RX10) (T := TX10) (N := 29) hts (fun _ h => List.mem_cons_of_mem _ (List.mem_append_right _ (h))) hown hK rfl (by decide) (hts (.fieldLink RX10 56 "MortarShowModel" "tempo" "I") (List.mem_of_getElem? (i := 9) rfl))
  have fa63 : FA D s m ([.ref (ad 60)] : List Value).toArray 63 10 18 := FA.mk (C := RX10) (T := TX10) (N := 29) hts (fun _ h => List.mem_cons_of_mem _ (List.mem_append_right _ (h))) hown hK rfl (by decide) (hts (.fieldLink RX10 63 "MortarShowModel" "beat" "[I") (List.mem_of_getElem? (i := 8) rfl))
  have fa66 : FA D s m ([.ref (ad 60)] : List Value).toArray 66 10 19 := FA.mk (C := RX10) (T := TX10) (N := 29) hts (fun _ h => List.mem_cons_of_mem _ (List.mem_append_right _ (h))) hown hK rfl (by decide) (hts (.fieldLink RX10 66 "MortarShowModel" "kind" "[I") (List.mem_of_getElem? (i := 11) rfl))
  have fa72 : FA D s m ([.ref (ad 60)] : List Value).toArray 72 10 21 := FA.mk (C := RX10) (T := TX10) (N := 29) hts (fun _ h => List.mem_cons_of_mem _ (List.mem_append_right _ (h))) hown hK rfl (by decide) (hts (.fieldLink RX10 72 "MortarShowModel" "gone" "[Z") (List.mem_of_getElem? (i := 3) rfl))
  have fa75 : FA D s m ([.ref (ad 60)] : List Value).toArray 75 10 22 := FA.mk (C := RX10) (T := TX10) (N := 29) hts (fun _ h => List.mem_cons_of_mem _ (List.mem_append_right _ (h))) hown hK rfl (by decide) (hts (.fieldLink RX10 75 "MortarShowModel" "fate" "[I") (List.mem_of_getElem? (i := 2) rfl))
  have fa78 : FA D s m ([.ref (ad 60)] : List Value).toArray 78 10 23 := FA.mk (C := RX10) (T := TX10) (N := 29) hts (fun _ h => List.mem_cons_of_mem _ (List.mem_append_right _ (h))) hown hK rfl (by decide) (hts (.fieldLink RX10 78 "MortarShowModel" "tick" "[I") (List.mem_of_getElem? (i := 7) rfl))
  have fa81 : FA D s m ([.ref (ad 60)] : List Value).toArray 81 10 24 := FA.mk (C := RX10) (T := TX10) (N := 29) hts (fun _ h => List.mem_cons_of_mem _ (List.mem_append_right _ (h))) hown hK rfl (by decide) (hts (.fieldLink RX10 81 "MortarShowModel" "channel" "[I") (List.mem_of_getElem? (i := 4) rfl))
  have fa84 : FA D s m ([.ref (ad 60)] : List Value).toArray 84 10 25 := FA.mk (C := RX10) (T := TX10) (N := 29) hts (fun _ h => List.mem_cons_of_mem _ (List.mem_append_right _ (h))) hown hK rfl (by decide) (hts (.fieldLink RX10 84 "MortarShowModel" "order" "[I") (List.mem_of_getElem? (i := 12) rfl))
  have fa87 : FA D s m ([.ref (ad 60)] : List Value).toArray 87 10 26 := FA.mk (C := RX10) (T := TX10) (N := 29) hts (fun _ h => List.mem_cons_of_mem _ (List.mem_append_right _ (h))) hown hK rfl (by decide) (hts (.fieldLink RX10 87 "MortarShowModel" "given" "[I") (List.mem_of_getElem? (i := 5) rfl))
  have fa101 : FA D s m ([.ref (ad 60)] : List Value).toArray 101 10 17 := FA.mk (C := RX10) (T := TX10) (N := 29) hts (fun _ h => List.mem_cons_of_mem _ (List.mem_append_right _ (h))) hown hK rfl (by decide) (hts (.fieldLink RX10 101 "MortarShowModel" "cues" "I") (List.mem_of_getElem? (i := 1) rfl))
  have fa147 : FA D s m ([.ref (ad 60)] : List Value).toArray 147 10 27 := FA.mk (C := RX10) (T := TX10) (N := 29) hts (fun _ h => List.mem_cons_of_mem _ (List.mem_append_right _ (h))) hown hK rfl (by decide) (hts (.fieldLink RX10 147 "MortarShowModel" "fired" "I") (List.mem_of_getElem? (i := 6) rfl))
  have fw147 : FW D s m ([.ref (ad 60)] : List Value).toArray 147 10 27 (.int) := FW.mk (C := RX10) (T := TX10) (N := 29) hts (fun _ h => List.mem_cons_of_mem _ (List.mem_append_right _ (h))) hown hK rfl (by decide) (hts (.fieldLink RX10 147 "MortarShowModel" "fired" "I") (List.mem_of_getElem? (i := 6) rfl)) tyX10 tyX10_ok nmX10 rfl rfl
  have hl := lv_entry ([.ref (ad 60)]) (n := 3) (Nat.le_of_ble_eq_true rfl)
  rw [lg_entry_eq]
  generalize (lg_sl ([.ref (ad 60)]) ++ List.replicate (3 - (lg_sl ([.ref (ad 60)])).length) Slot.unset).toArray = ls at hl ⊢
  have hl : lv_has ls 3 [(0, .ref (ad 60))] := hl
  have o1 := ok.1
  obtain ⟨q, c, hs⟩ := srt_ex σ 40
  have hc40 := hs.2.2.2
  refine lv_iconst (v := 0) hx hb dX10_lays_0 (by decide) ?_
  refine lv_istore_n (lv' := [(1, .int 0), (0, .ref (ad 60))]) hx hb dX10_lays_1 rfl hl (by decide) rfl (fun ls hl => ?_)
  have L2 : ∀ (fu : Nat) (k : Nat) (xk : Int32) (M1' : MS) (H : Heap) (locs : List Loc), aN σ - k < fu → (k ≤ aN σ) → (xk = nI k) → (oI laS M M1') → (∀ i, i < k → i < aN σ → σ.2 10 i = 0 → gI M1' 80 i = nI (if stkB σ i = true then 1 else 0) ∧ gI M1' 82 i = -1) → WS D cA sh ad A s.heap M1' H locs → ∀ ls, lv_has ls 3 [(1, .int xk), (0, .ref (ad 60))] → W p l e (headSpec wsX10_lays { frames := 3, cells := 0, slots := 0, locals := 75 }).room s m ([.ref (ad 60)] : List Value).toArray below meth cd0 H locs 0 0 (MQ below (wQv D cA sh ad (fun M' => oI laS M M' ∧ ∃ q c, LayR σ q c M') A) ([.ref (ad 60)] : List Value).toArray s 0 0 A) (F0 m 2 ls []) := by
    intro fu
    induction fu with
    | zero =>
      intro k xk M1' H locs hn hk ek f1 f2 hW ls hl
      exact absurd hn (Nat.not_lt_zero _)
    | succ fu ih2 =>
      intro k xk M1' H locs hn hk ek f1 f2 hW ls hl
      have hR1 : MR σ M1' := hR.oI f1 (fun p k hx hz => by unfold MRs at hx; unfold laS at hz; omega)
      refine lv_iload_n hx hb dX10_lays_2 rfl (lv_at hl 0 rfl) ?_
      refine lv_aload_n hx hb dX10_lays_3 rfl (lv_at hl 1 rfl) ?_
      refine wgI hx hb fa101 hW (hMs 60 (by decide) (by decide)) rfl dX10_lays_4 (fun x4' e4' => ?_)
      have n4' : x4' = nI (aN σ) := (e4'.trans hR1.2.2.2.2.2.2.2.2.2.1)
      refine lv_icmp_ge (tgt := 51) hx hb dX10_lays_7 (by decide) (fun c7' => ?_) (fun c7' => ?_)
      · have k7' : (aN σ) ≤ k := kc_ge ek n4' (by omega) (by omega) c7'
        refine lv_iconst (v := 0) hx hb dX10_lays_51 (by decide) ?_
        refine lv_istore_n (lv' := [(1, .int 0), (0, .ref (ad 60))]) hx hb dX10_lays_52 rfl hl (by decide) rfl (fun ls hl => ?_)
        have L53 : ∀ (fu : Nat) (k : Nat) (xk : Int32) (M2' : MS) (H : Heap) (locs : List Loc), 32 - k < fu → (k ≤ 32) → (xk = nI k) → (oI laS M M2') → (∀ i, i < aN σ → σ.2 10 i = 0 → gI M2' 80 i = nI (if stkB σ i = true then 1 else 0) ∧ gI M2' 82 i = -1) → (∀ d, d < k → gI M2' 84 d = -1) → WS D cA sh ad A s.heap M2' H locs → ∀ ls, lv_has ls 3 [(1, .int xk), (0, .ref (ad 60))] → W p l e (headSpec wsX10_lays { frames := 3, cells := 0, slots := 0, locals := 75 }).room s m ([.ref (ad 60)] : List Value).toArray below meth cd0 H locs 0 0 (MQ below (wQv D cA sh ad (fun M' => oI laS M M' ∧ ∃ q c, LayR σ q c M') A) ([.ref (ad 60)] : List Value).toArray s 0 0 A) (F0 m 53 ls []) := by
          intro fu
          induction fu with
          | zero =>
            intro k xk M2' H locs hn hk ek f1 f2 f3 hW ls hl
            exact absurd hn (Nat.not_lt_zero _)
          | succ fu ih53 =>
            intro k xk M2' H locs hn hk ek f1 f2 f3 hW ls hl
            refine lv_iload_n hx hb dX10_lays_53 rfl (lv_at hl 0 rfl) ?_
            refine lv_bipush (v := 32) hx hb dX10_lays_54 (by decide) ?_
            refine lv_icmp_ge (tgt := 72) hx hb dX10_lays_56 (by decide) (fun c56' => ?_) (fun c56' => ?_)
            · have k56' : 32 ≤ k := kc_ge ek (nlit 32) (by omega) (by omega) c56'
              refine lv_aload_n hx hb dX10_lays_72 rfl (lv_at hl 1 rfl) ?_
              refine lv_iconst (v := 0) hx hb dX10_lays_73 (by decide) ?_
              refine wpI hx hb fw147 hA hW (hMs 60 (by decide) (by decide)) rfl dX10_lays_74 (fun M74' H locs eM74 hW => ?_)
              have f74 : oI laS M M74' := by rw [eM74]; exact oI.put f1 (Or.inr (Or.inr (Or.inr (Or.inr (Or.inr ⟨rfl, rfl⟩)))))
              refine lv_iconst (v := 0) hx hb dX10_lays_77 (by decide) ?_
              refine lv_istore_n (lv' := [(1, .int 0), (0, .ref (ad 60))]) hx hb dX10_lays_78 rfl hl (by decide) rfl (fun ls hl => ?_)
              have L79 : ∀ (fu : Nat) (k : Nat) (xk : Int32) (M3' : MS) (H : Heap) (locs : List Loc), aN σ - k < fu → (k ≤ aN σ) → (xk = nI k) → (oI laS M M3') → (∀ i, i < aN σ → σ.2 10 i = 0 → gI M3' 80 i = nI (if stkB σ i = true then 1 else 0) ∧ gI M3' 82 i = -1) → (∀ d, d < 32 → gI M3' 84 d = -1) → (gI M3' 60 27 = 0) → (∀ i, i < k → σ.2 10 i = 0 → gI M3' 81 i = tkI σ i) → WS D cA sh ad A s.heap M3' H locs → ∀ ls, lv_has ls 3 [(1, .int xk), (0, .ref (ad 60))] → W p l e (headSpec wsX10_lays { frames := 3, cells := 0, slots := 0, locals := 75 }).room s m ([.ref (ad 60)] : List Value).toArray below meth cd0 H locs 0 0 (MQ below (wQv D cA sh ad (fun M' => oI laS M M' ∧ ∃ q c, LayR σ q c M') A) ([.ref (ad 60)] : List Value).toArray s 0 0 A) (F0 m 79 ls []) := by
                intro fu
                induction fu with
                | zero =>
                  intro k xk M3' H locs hn hk ek f1 f2 f3 f4 f5 hW ls hl
                  exact absurd hn (Nat.not_lt_zero _)
                | succ fu ih79 =>
                  intro k xk M3' H locs hn hk ek f1 f2 f3 f4 f5 hW ls hl
                  have hR3 : MR σ M3' := hR.oI f1 (fun p k hx hz => by unfold MRs at hx; unfold laS at hz; omega)
                  have hf3 : ∀ i, i < aN σ → σ.2 10 i = 0 → (gI M3' 80 i = 1 ↔ stkB σ i = true) := fun i hi hg => by
                    rw [(f2 i hi hg).1]
                    cases stkB σ i <;> simp <;> decide
                  refine lv_iload_n hx hb dX10_lays_79 rfl (lv_at hl 0 rfl) ?_
                  refine lv_aload_n hx hb dX10_lays_80 rfl (lv_at hl 1 rfl) ?_
                  refine wgI hx hb fa101 hW (hMs 60 (by decide) (by decide)) rfl dX10_lays_81 (fun x81' e81' => ?_)
                  have n81' : x81' = nI (aN σ) := (e81'.trans hR3.2.2.2.2.2.2.2.2.2.1)
                  refine lv_icmp_ge (tgt := 146) hx hb dX10_lays_84 (by decide) (fun c84' => ?_) (fun c84' => ?_)
                  · have k84' : (aN σ) ≤ k := kc_ge ek n81' (by omega) (by omega) c84'
                    refine lv_iconst (v := 0) hx hb dX10_lays_146 (by decide) ?_
                    refine lv_istore_n (lv' := [(1, .int 0), (0, .ref (ad 60))]) hx hb dX10_lays_147 rfl hl (by decide) rfl (fun ls hl => ?_)
                    have L148 : ∀ (fu : Nat) (k : Nat) (xk : Int32) (M4' : MS) (H : Heap) (locs : List Loc), aN σ - k < fu → (k ≤ aN σ) → (xk = nI k) → (oI laS M M4') → (∀ i, i < aN σ → σ.2 10 i = 0 → gI M4' 80 i = nI (if i < k ∧ stkB σ i = false ∧ tkI σ i < 0 then 2 else if stkB σ i = true then 1 else 0) ∧ gI M4' 82 i = -1) → (∀ d, d < 32 → gI M4' 84 d = -1) → (gI M4' 60 27 = 0) → (∀ i, i < aN σ → σ.2 10 i = 0 → gI M4' 81 i = tkI σ i) → WS D cA sh ad A s.heap M4' H locs → ∀ ls, lv_has ls 3 [(1, .int xk), (0, .ref (ad 60))] → W p l e (headSpec wsX10_lays { frames := 3, cells := 0, slots := 0, locals := 75 }).room s m ([.ref (ad 60)] : List Value).toArray below meth cd0 H locs 0 0 (MQ below (wQv D cA sh ad (fun M' => oI laS M M' ∧ ∃ q c, LayR σ q c M') A) ([.ref (ad 60)] : List Value).toArray s 0 0 A) (F0 m 148 ls []) := by
                      intro fu
                      induction fu with
                      | zero =>
                        intro k xk M4' H locs hn hk ek f1 f2 f3 f4 f5 hW ls hl
                        exact absurd hn (Nat.not_lt_zero _)
                      | succ fu ih148 =>
                        intro k xk M4' H locs hn hk ek f1 f2 f3 f4 f5 hW ls hl
                        have hR4 : MR σ M4' := hR.oI f1 (fun p k hx hz => by unfold MRs at hx; unfold laS at hz; omega)
                        refine lv_iload_n hx hb dX10_lays_148 rfl (lv_at hl 0 rfl) ?_
                        refine lv_aload_n hx hb dX10_lays_149 rfl (lv_at hl 1 rfl) ?_
                        refine wgI hx hb fa101 hW (hMs 60 (by decide) (by decide)) rfl dX10_lays_150 (fun x150' e150' => ?_)
                        have n150' : x150' = nI (aN σ) := (e150'.trans hR4.2.2.2.2.2.2.2.2.2.1)
                        refine lv_icmp_ge (tgt := 196) hx hb dX10_lays_153 (by decide) (fun c153' => ?_) (fun c153' => ?_)
                        · have k153' : (aN σ) ≤ k := kc_ge ek n150' (by omega) (by omega) c153'
                          have hk9 : k = aN σ := by omega
                          have z3 : G3 σ q 0 M4' := fun j hj => absurd hj (Nat.not_lt_zero j)
                          have z4 : G4 σ q 0 M4' := fun i hi hg _ => by
                            have h9 := f2 i hi hg
                            refine ⟨h9.1.trans (congrArg nI ?_), h9.2⟩
                            cases hs9 : stkB σ i
                            · by_cases ht9 : tkI σ i < 0
                              · rw [if_pos ⟨by omega, rfl, ht9⟩, if_neg (by decide), if_pos ht9]
                              · rw [if_neg (fun z => ht9 z.2.2), if_neg (by decide), if_neg (by decide), if_neg ht9]
                            · rw [if_neg (fun z => absurd z.2.1 (by decide)), if_pos rfl, if_pos rfl]
                          refine lv_aload_n hx hb dX10_lays_196 rfl (lv_at hl 1 rfl) ?_
                          refine lv_iconst (v := (-1)) hx hb dX10_lays_197 (by decide) ?_
                          refine wc_ri (va_runV (As := [.int (-1)]) (rest := []) ⟨hx, hb, hml, hown, hts⟩ (c_X10_nextOf l D cA sh ad M4' _ σ ok hMs hR4 q c hs f5 (ft_iff hs o1 (Nat.zero_le _) z3 z4) 0 (Nat.zero_le _) (-1) (Or.inl ⟨rfl, rfl⟩)) (cwV 1 hts gX10_lays_X10_nextOf rfl rfl rfl (by decide +kernel) ⟨Nat.le_of_ble_eq_true rfl, Nat.le_of_ble_eq_true rfl⟩) (wpreV hK hW (C := RX10) (ci := 10) (hMs 60 (by decide) (by decide)) rfl) rfl rfl hl.1 rfl (lv_room (Nat.le_of_ble_eq_true rfl)) dX10_lays_198 ⟨Nat.le_of_ble_eq_true rfl, Nat.le_of_ble_eq_true rfl⟩) hW (fun x198' H locs p198' hW => ?_)
                          try dsimp only at p198'
                          refine lv_istore_n (lv' := [(1, .int x198'), (0, .ref (ad 60))]) hx hb dX10_lays_201 rfl hl (by decide) rfl (fun ls hl => ?_)
                          have L202 : ∀ (fu : Nat) (J : Nat) (xn : Int32) (M5' : MS) (H : Heap) (locs : List Loc), c - J < fu → (J ≤ c) → (xn = nxI q c J) → (oI laS M M5') → (∀ i, i < aN σ → σ.2 10 i = 0 → gI M5' 81 i = tkI σ i) → (G3 σ q J M5') → (G4 σ q J M5') → (∀ d, d < 32 → gI M5' 84 d = opI (gvn σ q J d)) → (gI M5' 60 27 = nI (lit σ q J)) → (G7 σ q J M5') → WS D cA sh ad A s.heap M5' H locs → ∀ ls, lv_has ls 3 [(1, .int xn), (0, .ref (ad 60))] → W p l e (headSpec wsX10_lays { frames := 3, cells := 0, slots := 0, locals := 75 }).room s m ([.ref (ad 60)] : List Value).toArray below meth cd0 H locs 0 0 (MQ below (wQv D cA sh ad (fun M' => oI laS M M' ∧ ∃ q c, LayR σ q c M') A) ([.ref (ad 60)] : List Value).toArray s 0 0 A) (F0 m 202 ls []) := by
                            intro fu
                            induction fu with
                            | zero =>
                              intro J xn M5' H locs hn hJ en g1 g2 g3 g4 g5 g6 g7 hW ls hl
                              exact absurd hn (Nat.not_lt_zero _)
                            | succ fu ih202 =>
                              intro J xn M5' H locs hn hJ en g1 g2 g3 g4 g5 g6 g7 hW ls hl
                              have hR5 : MR σ M5' := hR.oI g1 (fun p k hx hz => by unfold MRs at hx; unfold laS at hz; omega)
                              refine lv_iload_n hx hb dX10_lays_202 rfl (lv_at hl 0 rfl) ?_
                              refine lv_iconst (v := (-1)) hx hb dX10_lays_203 (by decide) ?_
                              refine lv_icmp_eq (tgt := 282) hx hb dX10_lays_204 (by decide) (fun c204' => ?_) (fun c204' => ?_)
                              · have hJc : J = c := by
                                  rcases Nat.lt_or_ge J c with z | z
                                  · exfalso
                                    have := (hs.1 J z).1
                                    rw [en, nxI, if_pos z] at c204'
                                    exact nI_m9 (by omega) c204'
                                  · omega
                                exact wr_wv hx hb hr hlocks hW dX10_lays_282 ⟨g1, q, c, lay_end hs o1 g2 (by rw [← hJc]; exact g3) (by rw [← hJc]; exact g4) (by rw [← hJc]; exact g5) (by rw [← hJc]; exact g6) (by rw [← hJc]; exact g7)⟩
                              · have hJc : J < c := by
                                  rcases Nat.lt_or_ge J c with z | z
                                  · exact z
                                  · exact absurd (by rw [en, nxI, if_neg (by omega)]) c204'
                                have ei : xn = nI (q J) := by rw [en, nxI, if_pos hJc]
                                have hqJ := (hs.1 J hJc)
                                have hq40 : q J < 40 := hqJ.1
                                have hne : ∀ j, j < J → q j ≠ q J := fun j hj => q_inj hs hj hJc
                                have hl9 := lit_le σ q J
                                have hgt : ∀ d i, d < 32 → gvn σ q J d = some i → i < 40 ∧ gI M5' 81 i = tkI σ i := fun d i _ hd => by
                                  obtain ⟨j, hj, e⟩ := gvn_src hd
                                  have h9 := hs.1 j (by omega)
                                  rw [e] at h9
                                  exact ⟨h9.1, g2 i h9.2.1 h9.2.2.1⟩
                                refine lv_aload_n hx hb dX10_lays_207 rfl (lv_at hl 1 rfl) ?_
                                refine lv_aload_n hx hb dX10_lays_208 rfl (lv_at hl 1 rfl) ?_
                                refine wgF (t := 81) hx hb fa78 hW (hMs 60 (by decide) (by decide)) rfl dX10_lays_209 ?_
                                refine lv_iload_n hx hb dX10_lays_212 rfl (lv_at hl 0 rfl) ?_
                                refine walI (j := (q J)) hx hb hK hW (hMs 81 (by decide) (by decide)) ei (by omega) (by decide) dX10_lays_213 (fun x213' e213' => ?_)
                                refine wc_ri (va_runV (As := [.int x213']) (rest := []) ⟨hx, hb, hml, hown, hts⟩ (c_X10_channelFor l D cA sh ad M5' _ σ ok hMs hR5 (gvn σ q J) g5 hgt x213') (cwV 1 hts gX10_lays_X10_channelFor rfl rfl rfl (by decide +kernel) ⟨Nat.le_of_ble_eq_true rfl, Nat.le_of_ble_eq_true rfl⟩) (wpreV hK hW (C := RX10) (ci := 10) (hMs 60 (by decide) (by decide)) rfl) rfl rfl hl.1 rfl (lv_room (Nat.le_of_ble_eq_true rfl)) dX10_lays_214 ⟨Nat.le_of_ble_eq_true rfl, Nat.le_of_ble_eq_true rfl⟩) hW (fun x214' H locs p214' hW => ?_)
                                try dsimp only at p214'
                                have h214 : x214' = opI (chq σ q J) := by rw [p214', e213', g2 _ hqJ.2.1 hqJ.2.2.1]; rfl
                                have hcl : ∀ d, chq σ q J = some d → d < 32 := fun d hd => (chF_lt hd).1
                                refine lv_istore_n (lv' := [(2, .int x214'), (1, .int xn), (0, .ref (ad 60))]) hx hb dX10_lays_217 rfl hl (by decide) rfl (fun ls hl => ?_)
                                refine lv_aload_n hx hb dX10_lays_218 rfl (lv_at hl 2 rfl) ?_
                                refine wgF (t := 82) hx hb fa81 hW (hMs 60 (by decide) (by decide)) rfl dX10_lays_219 ?_
                                refine lv_iload_n hx hb dX10_lays_222 rfl (lv_at hl 1 rfl) ?_
                                refine lv_iload_n hx hb dX10_lays_223 rfl (lv_at hl 0 rfl) ?_
                                refine wasI (j := (q J)) hx hb hK hA hW (hMs 82 (by decide) (by decide)) ei (by omega) (by decide) dX10_lays_224 (fun M224' H locs eM224 hW => ?_)
                                refine lv_aload_n hx hb dX10_lays_225 rfl (lv_at hl 2 rfl) ?_
                                refine wgF (t := 80) hx hb fa75 hW (hMs 60 (by decide) (by decide)) rfl dX10_lays_226 ?_
                                refine lv_iload_n hx hb dX10_lays_229 rfl (lv_at hl 1 rfl) ?_
                                have J240 : ∀ (y : Int32) (H : Heap) (locs : List Loc), (y = nI (if chq σ q J = none then 3 else 0)) → WS D cA sh ad A s.heap M224' H locs → ∀ ls, lv_has ls 3 [(2, .int x214'), (1, .int xn), (0, .ref (ad 60))] → W p l e (headSpec wsX10_lays { frames := 3, cells := 0, slots := 0, locals := 75 }).room s m ([.ref (ad 60)] : List Value).toArray below meth cd0 H locs 0 0 (MQ below (wQv D cA sh ad (fun M' => oI laS M M' ∧ ∃ q c, LayR σ q c M') A) ([.ref (ad 60)] : List Value).toArray s 0 0 A) (F0 m 240 ls [.int y, .int xn, .ref (ad 80)]) := by
                                  intro y H locs hy hW ls hl
                                  refine wasI (j := (q J)) hx hb hK hA hW (hMs 80 (by decide) (by decide)) ei (by omega) (by decide) dX10_lays_240 (fun M240' H locs eM240 hW => ?_)
                                  have f240 : oI laS M M240' := by rw [eM240, eM224]; exact (g1.put (Or.inr (Or.inr (Or.inl rfl)))).put (Or.inl rfl)
                                  have k2' : ∀ i, i < aN σ → σ.2 10 i = 0 → gI M240' 81 i = tkI σ i := fun i hi hg => by rw [eM240, gI_sI, if_neg (by omega), eM224, gI_sI, if_neg (by omega)]; exact g2 i hi hg
                                  have k5' : ∀ d, d < 32 → gI M240' 84 d = opI (gvn σ q J d) := fun d hd => by rw [eM240, gI_sI, if_neg (by omega), eM224, gI_sI, if_neg (by omega)]; exact g5 d hd
                                  have B80 : gI M240' 80 (q J) = y := by rw [eM240, gI_sI, if_pos ⟨rfl, rfl⟩]
                                  have B82 : gI M240' 82 (q J) = x214' := by rw [eM240, gI_sI, if_neg (by omega), eM224, gI_sI, if_pos ⟨rfl, rfl⟩]
                                  have A80 : ∀ i, i ≠ q J → gI M240' 80 i = gI M5' 80 i := fun i hi => by rw [eM240, gI_sI, if_neg (fun w => hi w.2), eM224, gI_sI, if_neg (by omega)]
                                  have A82 : ∀ i, i ≠ q J → gI M240' 82 i = gI M5' 82 i := fun i hi => by rw [eM240, gI_sI, if_neg (by omega), eM224, gI_sI, if_neg (fun w => hi w.2)]
                                  have k3' : G3 σ q (J + 1) M240' := fun j hj => by
                                    rcases Nat.lt_or_ge j J with z | z
                                    · rw [A80 _ (hne j z), A82 _ (hne j z)]; exact g3 j z
                                    · have hjJ : j = J := by omega
                                      subst hjJ
                                      rw [B80, B82]; exact ⟨hy, h214⟩
                                  have k4' : G4 σ q (J + 1) M240' := fun i hi hg hj => by
                                    have hn9 : i ≠ q J := fun z => hj J (Nat.lt_succ_self J) z.symm
                                    rw [A80 _ hn9, A82 _ hn9]
                                    exact g4 i hi hg (fun j hj2 => hj j (by omega))
                                  have J273 : ∀ (MJ : MS) (H : Heap) (locs : List Loc), (oI laS M MJ) → (∀ i, i < aN σ → σ.2 10 i = 0 → gI MJ 81 i = tkI σ i) → (G3 σ q (J + 1) MJ) → (G4 σ q (J + 1) MJ) → (∀ d, d < 32 → gI MJ 84 d = opI (gvn σ q (J + 1) d)) → (gI MJ 60 27 = nI (lit σ q (J + 1))) → (G7 σ q (J + 1) MJ) → WS D cA sh ad A s.heap MJ H locs → ∀ ls, lv_has ls 3 [(2, .int x214'), (1, .int xn), (0, .ref (ad 60))] → W p l e (headSpec wsX10_lays { frames := 3, cells := 0, slots := 0, locals := 75 }).room s m ([.ref (ad 60)] : List Value).toArray below meth cd0 H locs 0 0 (MQ below (wQv D cA sh ad (fun M' => oI laS M M' ∧ ∃ q c, LayR σ q c M') A) ([.ref (ad 60)] : List Value).toArray s 0 0 A) (F0 m 273 ls []) := by
                                    intro MJ H locs h1 h2 h3 h4 h5 h6 h7 hW ls hl
                                    have hRJ : MR σ MJ := hR.oI h1 (fun p k hx hz => by unfold MRs at hx; unfold laS at hz; omega)
                                    refine lv_aload_n hx hb dX10_lays_273 rfl (lv_at hl 2 rfl) ?_
                                    refine lv_iload_n hx hb dX10_lays_274 rfl (lv_at hl 1 rfl) ?_
                                    refine wc_ri (va_runV (As := [.int xn]) (rest := []) ⟨hx, hb, hml, hown, hts⟩ (c_X10_nextOf l D cA sh ad MJ _ σ ok hMs hRJ q c hs h2 (ft_iff hs o1 hJc h3 h4) (J + 1) hJc xn (Or.inr ⟨Nat.succ_pos _, ei⟩)) (cwV 1 hts gX10_lays_X10_nextOf rfl rfl rfl (by decide +kernel) ⟨Nat.le_of_ble_eq_true rfl, Nat.le_of_ble_eq_true rfl⟩) (wpreV hK hW (C := RX10) (ci := 10) (hMs 60 (by decide) (by decide)) rfl) rfl rfl hl.1 rfl (lv_room (Nat.le_of_ble_eq_true rfl)) dX10_lays_275 ⟨Nat.le_of_ble_eq_true rfl, Nat.le_of_ble_eq_true rfl⟩) hW (fun x275' H locs p275' hW => ?_)
                                    try dsimp only at p275'
                                    refine lv_istore_n (lv' := [(1, .int x275'), (2, .int x214'), (0, .ref (ad 60))]) hx hb dX10_lays_278 rfl hl (by decide) rfl (fun ls hl => ?_)
                                    refine lv_goto (tgt := 202) hx hb dX10_lays_279 (by decide) ?_
                                    exact ih202 (J + 1) x275' MJ _ _ (by omega) (by omega) p275' h1 h2 h3 h4 h5 h6 h7 hW ls (lv_sub hl [0, 2] rfl)
                                  refine lv_iload_n hx hb dX10_lays_241 rfl (lv_at hl 0 rfl) ?_
                                  refine lv_iconst (v := (-1)) hx hb dX10_lays_242 (by decide) ?_
                                  refine lv_icmp_eq (tgt := 273) hx hb dX10_lays_243 (by decide) (fun c243' => ?_) (fun c243' => ?_)
                                  · have hch : chq σ q J = none := (opI_n1 (fun i hq => by have := hcl i hq; omega)).mp (h214.symm.trans c243')
                                    exact J273  M240' _ _ (by first | exact f240 | (rw [eM270, eM262, eM252]; exact ((f240.put (Or.inr (Or.inr (Or.inr (Or.inr (Or.inl rfl)))))).put (Or.inr (Or.inr (Or.inr (Or.inl rfl))))).put (Or.inr (Or.inr (Or.inr (Or.inr (Or.inr ⟨rfl, rfl⟩))))))) (fun i hi hg => by first | (rw [C270 _ _ (by omega)]; exact k2' i hi hg) | exact k2' i hi hg) (fun j hj => by first | (rw [C270 _ _ (by omega), C270 _ _ (by omega)]; exact k3' j hj) | exact k3' j hj) (fun i hi hg hj => by first | (rw [C270 _ _ (by omega), C270 _ _ (by omega)]; exact k4' i hi hg hj) | exact k4' i hi hg hj) (fun d hd => by
                                        first
                                        | (rw [eM270, gI_sI, if_neg (by omega), eM262, gI_sI, if_neg (by omega), eM252, gI_sI, chq_s σ q J d0 hch]
                                           show _ = opI (if d = d0 then some (q J) else gvn σ q J d)
                                           by_cases z : d = d0
                                           · rw [if_pos ⟨rfl, z⟩, if_pos z]; exact ei
                                           · rw [if_neg (fun w => z w.2), if_neg z]; exact k5' d hd)
                                        | (rw [chq_n σ q J hch]; exact k5' d hd)) (by
                                        show _ = nI (lit σ q J + if chq σ q J = none then 0 else 1)
                                        first
                                        | (rw [eM270, gI_sI, if_pos ⟨rfl, rfl⟩, e269', v265, if_neg (by rw [hch]; exact fun z => by cases z), nlit 1, nI_add])
                                        | (rw [if_pos hch, eM240, gI_sI, if_neg (by omega), eM224, gI_sI, if_neg (by omega)]; exact g6)) (fun j hj hnn => by
                                        rcases Nat.lt_or_ge j J with z | z
                                        · have h8 := lit_mono σ q (j := j + 1) (k := J) z
                                          have e9' : lit σ q (j + 1) = lit σ q j + 1 := by
                                            show lit σ q j + (if chq σ q j = none then 0 else 1) = _
                                            rw [if_neg hnn]
                                          first
                                          | (rw [eM270, gI_sI, if_neg (by omega), eM262, gI_sI, if_neg (by omega), eM252, gI_sI, if_neg (by omega), eM240, gI_sI, if_neg (by omega), eM224, gI_sI, if_neg (by omega)]; exact g7 j z hnn)
                                          | (rw [eM240, gI_sI, if_neg (by omega), eM224, gI_sI, if_neg (by omega)]; exact g7 j z hnn)
                                        · have hjJ : j = J := by omega
                                          subst hjJ
                                          first
                                          | (rw [eM270, gI_sI, if_neg (by omega), eM262, gI_sI, if_pos ⟨rfl, rfl⟩]; exact ei)
                                          | exact absurd hch hnn) hW ls (lv_sub hl [0, 1, 2] rfl)
                                  · obtain ⟨d0, hch⟩ : ∃ d, chq σ q J = some d := by
                                      cases hq : chq σ q J with
                                      | none => exact absurd (h214.trans (by rw [hq]; rfl)) c243'
                                      | some d => exact ⟨d, rfl⟩
                                    have hd32 := hcl d0 hch
                                    have ed0 : x214' = nI d0 := h214.trans (by rw [hch]; rfl)
                                    refine lv_aload_n hx hb dX10_lays_246 rfl (lv_at hl 2 rfl) ?_
                                    refine wgF (t := 84) hx hb fa87 hW (hMs 60 (by decide) (by decide)) rfl dX10_lays_247 ?_
                                    refine lv_iload_n hx hb dX10_lays_250 rfl (lv_at hl 0 rfl) ?_
                                    refine lv_iload_n hx hb dX10_lays_251 rfl (lv_at hl 1 rfl) ?_
                                    refine wasI (j := d0) hx hb hK hA hW (hMs 84 (by decide) (by decide)) ed0 (by omega) (by decide) dX10_lays_252 (fun M252' H locs eM252 hW => ?_)
                                    refine lv_aload_n hx hb dX10_lays_253 rfl (lv_at hl 2 rfl) ?_
                                    refine wgF (t := 83) hx hb fa84 hW (hMs 60 (by decide) (by decide)) rfl dX10_lays_254 ?_
                                    refine lv_aload_n hx hb dX10_lays_257 rfl (lv_at hl 2 rfl) ?_
                                    refine wgI hx hb fa147 hW (hMs 60 (by decide) (by decide)) rfl dX10_lays_258 (fun x258' e258' => ?_)
                                    have n258' : x258' = nI (lit σ q J) := (by rw [e258', eM252, gI_sI, if_neg (by omega), eM240, gI_sI, if_neg (by omega), eM224, gI_sI, if_neg (by omega)]; exact g6)
                                    refine lv_iload_n hx hb dX10_lays_261 rfl (lv_at hl 1 rfl) ?_
                                    refine wasI (j := (lit σ q J)) hx hb hK hA hW (hMs 83 (by decide) (by decide)) n258' (by omega) (by decide) dX10_lays_262 (fun M262' H locs eM262 hW => ?_)
                                    refine lv_aload_n hx hb dX10_lays_263 rfl (lv_at hl 2 rfl) ?_
                                    refine lv_dup hx hb dX10_lays_264 rfl ?_
                                    refine wgI hx hb fa147 hW (hMs 60 (by decide) (by decide)) rfl dX10_lays_265 (fun x265' e265' => ?_)
                                    refine lv_iconst (v := 1) hx hb dX10_lays_268 (by decide) ?_
                                    refine lv_iadd hx hb dX10_lays_269 ?_
                                    refine lv_topi (fun x269' e269' => ?_)
                                    refine wpI hx hb fw147 hA hW (hMs 60 (by decide) (by decide)) rfl dX10_lays_270 (fun M270' H locs eM270 hW => ?_)
                                    have v252 : gI M252' 60 27 = nI (lit σ q J) := by rw [eM252, gI_sI, if_neg (by omega), eM240, gI_sI, if_neg (by omega), eM224, gI_sI, if_neg (by omega)]; exact g6
                                    have v265 : x265' = nI (lit σ q J) := by rw [e265', eM262, gI_sI, if_neg (by omega)]; exact v252
                                    have C270 : ∀ p i, (p = 80 ∨ p = 81 ∨ p = 82) → gI M270' p i = gI M240' p i := fun p i hp => by rw [eM270, gI_sI, if_neg (by omega), eM262, gI_sI, if_neg (by omega), eM252, gI_sI, if_neg (by omega)]
                                    exact J273  M270' _ _ (by first | exact f240 | (rw [eM270, eM262, eM252]; exact ((f240.put (Or.inr (Or.inr (Or.inr (Or.inr (Or.inl rfl)))))).put (Or.inr (Or.inr (Or.inr (Or.inl rfl))))).put (Or.inr (Or.inr (Or.inr (Or.inr (Or.inr ⟨rfl, rfl⟩))))))) (fun i hi hg => by first | (rw [C270 _ _ (by omega)]; exact k2' i hi hg) | exact k2' i hi hg) (fun j hj => by first | (rw [C270 _ _ (by omega), C270 _ _ (by omega)]; exact k3' j hj) | exact k3' j hj) (fun i hi hg hj => by first | (rw [C270 _ _ (by omega), C270 _ _ (by omega)]; exact k4' i hi hg hj) | exact k4' i hi hg hj) (fun d hd => by
                                        first
                                        | (rw [eM270, gI_sI, if_neg (by omega), eM262, gI_sI, if_neg (by omega), eM252, gI_sI, chq_s σ q J d0 hch]
                                           show _ = opI (if d = d0 then some (q J) else gvn σ q J d)
                                           by_cases z : d = d0
                                           · rw [if_pos ⟨rfl, z⟩, if_pos z]; exact ei
                                           · rw [if_neg (fun w => z w.2), if_neg z]; exact k5' d hd)
                                        | (rw [chq_n σ q J hch]; exact k5' d hd)) (by
                                        show _ = nI (lit σ q J + if chq σ q J = none then 0 else 1)
                                        first
                                        | (rw [eM270, gI_sI, if_pos ⟨rfl, rfl⟩, e269', v265, if_neg (by rw [hch]; exact fun z => by cases z), nlit 1, nI_add])
                                        | (rw [if_pos hch, eM240, gI_sI, if_neg (by omega), eM224, gI_sI, if_neg (by omega)]; exact g6)) (fun j hj hnn => by
                                        rcases Nat.lt_or_ge j J with z | z
                                        · have h8 := lit_mono σ q (j := j + 1) (k := J) z
                                          have e9' : lit σ q (j + 1) = lit σ q j + 1 := by
                                            show lit σ q j + (if chq σ q j = none then 0 else 1) = _
                                            rw [if_neg hnn]
                                          first
                                          | (rw [eM270, gI_sI, if_neg (by omega), eM262, gI_sI, if_neg (by omega), eM252, gI_sI, if_neg (by omega), eM240, gI_sI, if_neg (by omega), eM224, gI_sI, if_neg (by omega)]; exact g7 j z hnn)
                                          | (rw [eM240, gI_sI, if_neg (by omega), eM224, gI_sI, if_neg (by omega)]; exact g7 j z hnn)
                                        · have hjJ : j = J := by omega
                                          subst hjJ
                                          first
                                          | (rw [eM270, gI_sI, if_neg (by omega), eM262, gI_sI, if_pos ⟨rfl, rfl⟩]; exact ei)
                                          | exact absurd hch hnn) hW ls (lv_sub hl [0, 1, 2] rfl)
                                refine lv_iload_n hx hb dX10_lays_230 rfl (lv_at hl 0 rfl) ?_
                                refine lv_iconst (v := (-1)) hx hb dX10_lays_231 (by decide) ?_
                                refine lv_icmp_ne (tgt := 239) hx hb dX10_lays_232 (by decide) (fun c232' => ?_) (fun c232' => ?_)
                                · refine lv_iconst (v := 0) hx hb dX10_lays_239 (by decide) ?_
                                  exact J240 0 _ _ (by
                                      have h9 := opI_n1 (o := chq σ q J) (fun i hq => by have := hcl i hq; omega)
                                      first
                                      | (rw [if_pos (h9.mp (h214.symm.trans c232'))]; rfl)
                                      | (rw [if_neg (fun z => c232' (h214.trans (h9.mpr z)))]; rfl)) hW ls (lv_sub hl [0, 1, 2] rfl)
                                · refine lv_iconst (v := 3) hx hb dX10_lays_235 (by decide) ?_
                                  refine lv_goto (tgt := 240) hx hb dX10_lays_236 (by decide) ?_
                                  exact J240 3 _ _ (by
                                      have h9 := opI_n1 (o := chq σ q J) (fun i hq => by have := hcl i hq; omega)
                                      first
                                      | (rw [if_pos (h9.mp (h214.symm.trans c232'))]; rfl)
                                      | (rw [if_neg (fun z => c232' (h214.trans (h9.mpr z)))]; rfl)) hW ls (lv_sub hl [0, 1, 2] rfl)
                          exact L202 (_ + 1) 0 x198' M4' _ _ (Nat.lt_succ_self _) (Nat.zero_le _) p198' f1 f5 z3 z4 f3 f4 (fun j hj => absurd hj (Nat.not_lt_zero j)) hW ls (lv_sub hl [0, 1] rfl)
                        · have k153' : ¬ (aN σ) ≤ k := kc_gen ek n150' (by omega) (by omega) c153'
                          refine lv_aload_n hx hb dX10_lays_156 rfl (lv_at hl 1 rfl) ?_
                          refine wgF (t := 80) hx hb fa75 hW (hMs 60 (by decide) (by decide)) rfl dX10_lays_157 ?_
                          refine lv_iload_n hx hb dX10_lays_160 rfl (lv_at hl 0 rfl) ?_
                          have J189 : ∀ (y : Int32) (H : Heap) (locs : List Loc), (σ.2 10 k = 0 → y = nI (if stkB σ k = false ∧ tkI σ k < 0 then 2 else if stkB σ k = true then 1 else 0)) → WS D cA sh ad A s.heap M4' H locs → ∀ ls, lv_has ls 3 [(1, .int xk), (0, .ref (ad 60))] → W p l e (headSpec wsX10_lays { frames := 3, cells := 0, slots := 0, locals := 75 }).room s m ([.ref (ad 60)] : List Value).toArray below meth cd0 H locs 0 0 (MQ below (wQv D cA sh ad (fun M' => oI laS M M' ∧ ∃ q c, LayR σ q c M') A) ([.ref (ad 60)] : List Value).toArray s 0 0 A) (F0 m 189 ls [.int y, .int xk, .ref (ad 80)]) := by
                            intro y H locs hy hW ls hl
                            refine wasI (j := k) hx hb hK hA hW (hMs 80 (by decide) (by decide)) ek (by omega) (by decide) dX10_lays_189 (fun M189' H locs eM189 hW => ?_)
                            obtain ⟨x190', e190'⟩ : ∃ y : Int32, y = xk + 1 := ⟨_, rfl⟩
                            refine lv_iinc (v := x190') (lv' := [(1, .int x190'), (0, .ref (ad 60))]) hx hb dX10_lays_190 hl (k := 0) rfl (by rw [e190']; rfl) (by decide) rfl (fun ls hl => ?_)
                            refine lv_goto (tgt := 148) hx hb dX10_lays_193 (by decide) ?_
                            exact ih148 (k + 1) x190' M189' _ _ (by omega) (by omega) (by rw [e190', ek, nlit 1, nI_add]) (by rw [eM189]; exact f1.put (Or.inl rfl)) (fun i hi hg => by
                                refine ⟨?_, by rw [eM189, gI_sI, if_neg (by omega)]; exact (f2 i hi hg).2⟩
                                rw [eM189, gI_sI]
                                by_cases z : i = k
                                · subst z
                                  rw [if_pos ⟨rfl, rfl⟩, hy hg]
                                  exact congrArg nI (ite_congr (propext ⟨fun w => ⟨Nat.lt_succ_self i, w⟩, fun w => w.2⟩) (fun _ => rfl) (fun _ => rfl))
                                · rw [if_neg (fun w => z w.2), (f2 i hi hg).1]
                                  exact congrArg nI (ite_congr (propext ⟨fun w => ⟨by omega, w.2⟩, fun w => ⟨by omega, w.2⟩⟩) (fun _ => rfl) (fun _ => rfl))) (fun d hd => by rw [eM189, gI_sI, if_neg (by omega)]; exact f3 d hd) (by rw [eM189, gI_sI, if_neg (by omega)]; exact f4) (fun i hi hg => by rw [eM189, gI_sI, if_neg (by omega)]; exact f5 i hi hg) hW ls (lv_sub hl [0, 1] rfl)
                          refine lv_aload_n hx hb dX10_lays_161 rfl (lv_at hl 1 rfl) ?_
                          refine wgF (t := 80) hx hb fa75 hW (hMs 60 (by decide) (by decide)) rfl dX10_lays_162 ?_
                          refine lv_iload_n hx hb dX10_lays_165 rfl (lv_at hl 0 rfl) ?_
                          refine walI (j := k) hx hb hK hW (hMs 80 (by decide) (by decide)) ek (by omega) (by decide) dX10_lays_166 (fun x166' e166' => ?_)
                          refine lv_if_ne (tgt := 183) hx hb dX10_lays_167 (by decide) (fun c167' => ?_) (fun c167' => ?_)
                          · refine lv_aload_n hx hb dX10_lays_183 rfl (lv_at hl 1 rfl) ?_
                            refine wgF (t := 80) hx hb fa75 hW (hMs 60 (by decide) (by decide)) rfl dX10_lays_184 ?_
                            refine lv_iload_n hx hb dX10_lays_187 rfl (lv_at hl 0 rfl) ?_
                            refine walI (j := k) hx hb hK hW (hMs 80 (by decide) (by decide)) ek (by omega) (by decide) dX10_lays_188 (fun x188' e188' => ?_)
                            exact J189 x188' _ _ (by
                                intro hg
                                have h9 := (f2 k (by omega) hg).1
                                rw [if_neg (fun z => absurd z.1 (Nat.lt_irrefl k))] at h9
                                have t9 := f5 k (by omega) hg
                                rw [e166', h9] at c167'
                                have i0 : (0 : Int32).toInt = 0 := rfl
                                cases hs9 : stkB σ k
                                · rw [hs9] at c167' h9
                                  first
                                  | exact absurd (show nI (if false = true then 1 else 0) = 0 by decide) c167'
                                  | (rw [e175', t9] at c176'
                                     first
                                     | (rw [if_pos ⟨rfl, by rw [i32lt]; first | (rw [i32le] at c176'; omega) | (rw [i32lt] at c176'; omega)⟩]; rfl)
                                     | (rw [if_neg (fun z => by have y := z.2; rw [i32lt] at y; first | (rw [i32le] at c176'; omega) | (rw [i32lt] at c176'; omega))]; exact e188'.trans h9))
                                · rw [hs9] at c167' h9
                                  first
                                  | exact absurd c167' (by decide)
                                  | (rw [if_neg (fun z => absurd z.1 (by decide))]; exact e188'.trans h9)) hW ls (lv_sub hl [0, 1] rfl)
                          · refine lv_aload_n hx hb dX10_lays_170 rfl (lv_at hl 1 rfl) ?_
                            refine wgF (t := 81) hx hb fa78 hW (hMs 60 (by decide) (by decide)) rfl dX10_lays_171 ?_
                            refine lv_iload_n hx hb dX10_lays_174 rfl (lv_at hl 0 rfl) ?_
                            refine walI (j := k) hx hb hK hW (hMs 81 (by decide) (by decide)) ek (by omega) (by decide) dX10_lays_175 (fun x175' e175' => ?_)
                            refine lv_if_ge (tgt := 183) hx hb dX10_lays_176 (by decide) (fun c176' => ?_) (fun c176' => ?_)
                            · refine lv_aload_n hx hb dX10_lays_183 rfl (lv_at hl 1 rfl) ?_
                              refine wgF (t := 80) hx hb fa75 hW (hMs 60 (by decide) (by decide)) rfl dX10_lays_184 ?_
                              refine lv_iload_n hx hb dX10_lays_187 rfl (lv_at hl 0 rfl) ?_
                              refine walI (j := k) hx hb hK hW (hMs 80 (by decide) (by decide)) ek (by omega) (by decide) dX10_lays_188 (fun x188' e188' => ?_)
                              exact J189 x188' _ _ (by
                                  intro hg
                                  have h9 := (f2 k (by omega) hg).1
                                  rw [if_neg (fun z => absurd z.1 (Nat.lt_irrefl k))] at h9
                                  have t9 := f5 k (by omega) hg
                                  rw [e166', h9] at c167'
                                  have i0 : (0 : Int32).toInt = 0 := rfl
                                  cases hs9 : stkB σ k
                                  · rw [hs9] at c167' h9
                                    first
                                    | exact absurd (show nI (if false = true then 1 else 0) = 0 by decide) c167'
                                    | (rw [e175', t9] at c176'
                                       first
                                       | (rw [if_pos ⟨rfl, by rw [i32lt]; first | (rw [i32le] at c176'; omega) | (rw [i32lt] at c176'; omega)⟩]; rfl)
                                       | (rw [if_neg (fun z => by have y := z.2; rw [i32lt] at y; first | (rw [i32le] at c176'; omega) | (rw [i32lt] at c176'; omega))]; exact e188'.trans h9))
                                  · rw [hs9] at c167' h9
                                    first
                                    | exact absurd c167' (by decide)
                                    | (rw [if_neg (fun z => absurd z.1 (by decide))]; exact e188'.trans h9)) hW ls (lv_sub hl [0, 1] rfl)
                            · refine lv_iconst (v := 2) hx hb dX10_lays_179 (by decide) ?_
                              refine lv_goto (tgt := 189) hx hb dX10_lays_180 (by decide) ?_
                              exact J189 2 _ _ (by
                                  intro hg
                                  have h9 := (f2 k (by omega) hg).1
                                  rw [if_neg (fun z => absurd z.1 (Nat.lt_irrefl k))] at h9
                                  have t9 := f5 k (by omega) hg
                                  rw [e166', h9] at c167'
                                  have i0 : (0 : Int32).toInt = 0 := rfl
                                  cases hs9 : stkB σ k
                                  · rw [hs9] at c167' h9
                                    first
                                    | exact absurd (show nI (if false = true then 1 else 0) = 0 by decide) c167'
                                    | (rw [e175', t9] at c176'
                                       first
                                       | (rw [if_pos ⟨rfl, by rw [i32lt]; first | (rw [i32le] at c176'; omega) | (rw [i32lt] at c176'; omega)⟩]; rfl)
                                       | (rw [if_neg (fun z => by have y := z.2; rw [i32lt] at y; first | (rw [i32le] at c176'; omega) | (rw [i32lt] at c176'; omega))]; exact e188'.trans h9))
                                  · rw [hs9] at c167' h9
                                    first
                                    | exact absurd c167' (by decide)
                                    | (rw [if_neg (fun z => absurd z.1 (by decide))]; exact e188'.trans h9)) hW ls (lv_sub hl [0, 1] rfl)
                    exact L148 (_ + 1) 0 0 M3' _ _ (Nat.lt_succ_self _) (Nat.zero_le _) rfl f1 (fun i hi hg => by rw [if_neg (fun z => absurd z.1 (Nat.not_lt_zero i))]; exact f2 i hi hg) f3 f4 (fun i hi hg => f5 i (by omega) hg) hW ls (lv_sub hl [0, 1] rfl)
                  · have k84' : ¬ (aN σ) ≤ k := kc_gen ek n81' (by omega) (by omega) c84'
                    obtain ⟨ob, hkd, hrk, og⟩ := ok.2.2.2.2.2.2.1 k (by omega)
                    have hct := cbN_le σ (σ.2 7 k)
                    refine lv_aload_n hx hb dX10_lays_87 rfl (lv_at hl 1 rfl) ?_
                    refine wgF (t := 81) hx hb fa78 hW (hMs 60 (by decide) (by decide)) rfl dX10_lays_88 ?_
                    refine lv_iload_n hx hb dX10_lays_91 rfl (lv_at hl 0 rfl) ?_
                    have J139 : ∀ (y : Int32) (H : Heap) (locs : List Loc), (σ.2 10 k = 0 → y = tkI σ k) → WS D cA sh ad A s.heap M3' H locs → ∀ ls, lv_has ls 3 [(1, .int xk), (0, .ref (ad 60))] → W p l e (headSpec wsX10_lays { frames := 3, cells := 0, slots := 0, locals := 75 }).room s m ([.ref (ad 60)] : List Value).toArray below meth cd0 H locs 0 0 (MQ below (wQv D cA sh ad (fun M' => oI laS M M' ∧ ∃ q c, LayR σ q c M') A) ([.ref (ad 60)] : List Value).toArray s 0 0 A) (F0 m 139 ls [.int y, .int xk, .ref (ad 81)]) := by
                      intro y H locs hy hW ls hl
                      refine wasI (j := k) hx hb hK hA hW (hMs 81 (by decide) (by decide)) ek (by omega) (by decide) dX10_lays_139 (fun M139' H locs eM139 hW => ?_)
                      obtain ⟨x140', e140'⟩ : ∃ y : Int32, y = xk + 1 := ⟨_, rfl⟩
                      refine lv_iinc (v := x140') (lv' := [(1, .int x140'), (0, .ref (ad 60))]) hx hb dX10_lays_140 hl (k := 0) rfl (by rw [e140']; rfl) (by decide) rfl (fun ls hl => ?_)
                      refine lv_goto (tgt := 79) hx hb dX10_lays_143 (by decide) ?_
                      exact ih79 (k + 1) x140' M139' _ _ (by omega) (by omega) (by rw [e140', ek, nlit 1, nI_add]) (by rw [eM139]; exact f1.put (Or.inr (Or.inl rfl))) (fun i hi hg => ⟨by rw [eM139, gI_sI, if_neg (by omega)]; exact (f2 i hi hg).1, by rw [eM139, gI_sI, if_neg (by omega)]; exact (f2 i hi hg).2⟩) (fun d hd => by rw [eM139, gI_sI, if_neg (by omega)]; exact f3 d hd) (by rw [eM139, gI_sI, if_neg (by omega)]; exact f4) (fun i hi hg => by
                          rw [eM139, gI_sI]
                          by_cases z : i = k
                          · subst z; rw [if_pos ⟨rfl, rfl⟩]; exact hy hg
                          · rw [if_neg (fun w => z w.2)]; exact f5 i (by omega) hg) hW ls (lv_sub hl [0, 1] rfl)
                    refine lv_aload_n hx hb dX10_lays_92 rfl (lv_at hl 1 rfl) ?_
                    refine wgF (t := 79) hx hb fa72 hW (hMs 60 (by decide) (by decide)) rfl dX10_lays_93 ?_
                    refine lv_iload_n hx hb dX10_lays_96 rfl (lv_at hl 0 rfl) ?_
                    refine walZ (j := k) hx hb hK hW (hMs 79 (by decide) (by decide)) ek (by omega) (by decide) dX10_lays_97 (fun x97' e97' => ?_)
                    refine lv_if_eq (tgt := 105) hx hb dX10_lays_98 (by decide) (fun c98' => ?_) (fun c98' => ?_)
                    · have g97 : σ.2 10 k = 0 := gone0 og ((hR3.2.2.2.2.2.2.2.2.2.2.1 k (by omega)).symm.trans (e97'.symm.trans c98'))
                      refine lv_aload_n hx hb dX10_lays_105 rfl (lv_at hl 1 rfl) ?_
                      refine wgF (t := 76) hx hb fa63 hW (hMs 60 (by decide) (by decide)) rfl dX10_lays_106 ?_
                      refine lv_iload_n hx hb dX10_lays_109 rfl (lv_at hl 0 rfl) ?_
                      refine walI (j := k) hx hb hK hW (hMs 76 (by decide) (by decide)) ek (by omega) (by decide) dX10_lays_110 (fun x110' e110' => ?_)
                      refine lv_aload_n hx hb dX10_lays_111 rfl (lv_at hl 1 rfl) ?_
                      refine lv_aload_n hx hb dX10_lays_112 rfl (lv_at hl 1 rfl) ?_
                      refine wgF (t := 76) hx hb fa63 hW (hMs 60 (by decide) (by decide)) rfl dX10_lays_113 ?_
                      refine lv_iload_n hx hb dX10_lays_116 rfl (lv_at hl 0 rfl) ?_
                      refine walI (j := k) hx hb hK hW (hMs 76 (by decide) (by decide)) ek (by omega) (by decide) dX10_lays_117 (fun x117' e117' => ?_)
                      have n117' : x117' = nI (σ.2 7 k) := (e117'.trans (hR3.2.2.2.2.2.2.2.2.2.2.2 k (by omega)).1)
                      refine wc_ri (va_runV (As := [.int x117']) (rest := [.int x110', .int xk, .ref (ad 81)]) ⟨hx, hb, hml, hown, hts⟩ (c_X10_closedAhead l D cA sh ad M3' _ σ ok hMs hR3 hf3 (σ.2 7 k) (by omega) x117' n117') (cwV 1 hts gX10_lays_X10_closedAhead rfl rfl rfl (by decide +kernel) ⟨Nat.le_of_ble_eq_true rfl, Nat.le_of_ble_eq_true rfl⟩) (wpreV hK hW (C := RX10) (ci := 10) (hMs 60 (by decide) (by decide)) rfl) rfl rfl hl.1 rfl (lv_room (Nat.le_of_ble_eq_true rfl)) dX10_lays_118 ⟨Nat.le_of_ble_eq_true rfl, Nat.le_of_ble_eq_true rfl⟩) hW (fun x118' H locs p118' hW => ?_)
                      try dsimp only at p118'
                      refine lv_isub hx hb dX10_lays_121 ?_
                      refine lv_topi (fun x121' e121' => ?_)
                      refine lv_aload_n hx hb dX10_lays_122 rfl (lv_at hl 1 rfl) ?_
                      refine wgI hx hb fa56 hW (hMs 60 (by decide) (by decide)) rfl dX10_lays_123 (fun x123' e123' => ?_)
                      refine lv_imul hx hb dX10_lays_126 ?_
                      refine lv_topi (fun x126' e126' => ?_)
                      refine lv_aload_n hx hb dX10_lays_127 rfl (lv_at hl 1 rfl) ?_
                      refine wgF (t := 65) hx hb fa22 hW (hMs 60 (by decide) (by decide)) rfl dX10_lays_128 ?_
                      refine lv_aload_n hx hb dX10_lays_131 rfl (lv_at hl 1 rfl) ?_
                      refine wgF (t := 77) hx hb fa66 hW (hMs 60 (by decide) (by decide)) rfl dX10_lays_132 ?_
                      refine lv_iload_n hx hb dX10_lays_135 rfl (lv_at hl 0 rfl) ?_
                      refine walI (j := k) hx hb hK hW (hMs 77 (by decide) (by decide)) ek (by omega) (by decide) dX10_lays_136 (fun x136' e136' => ?_)
                      have n136' : x136' = nI (σ.2 8 k) := (e136'.trans (hR3.2.2.2.2.2.2.2.2.2.2.2 k (by omega)).2.1)
                      refine walI (j := (σ.2 8 k)) hx hb hK hW (hMs 65 (by decide) (by decide)) n136' (by omega) (by decide) dX10_lays_137 (fun x137' e137' => ?_)
                      refine lv_isub hx hb dX10_lays_138 ?_
                      refine lv_topi (fun x138' e138' => ?_)
                      exact J139 x138' _ _ (by
                          intro hg
                          first
                          | exact absurd (e97'.trans ((hR3.2.2.2.2.2.2.2.2.2.2.1 k (by omega)).trans (by rw [hg]; rfl))) c98'
                          | (rw [e138', e126', e121', e110', p118', e123', e137', (hR3.2.2.2.2.2.2.2.2.2.2.2 k (by omega)).1, hR3.2.2.2.2.2.2.2.1, (hR3.2.2.2.1 _ hkd).2.2.2.1]; rfl)) hW ls (lv_sub hl [0, 1] rfl)
                    · refine lv_iconst (v := 0) hx hb dX10_lays_101 (by decide) ?_
                      refine lv_goto (tgt := 139) hx hb dX10_lays_102 (by decide) ?_
                      exact J139 0 _ _ (by
                          intro hg
                          first
                          | exact absurd (e97'.trans ((hR3.2.2.2.2.2.2.2.2.2.2.1 k (by omega)).trans (by rw [hg]; rfl))) c98'
                          | (rw [e138', e126', e121', e110', p118', e123', e137', (hR3.2.2.2.2.2.2.2.2.2.2.2 k (by omega)).1, hR3.2.2.2.2.2.2.2.1, (hR3.2.2.2.1 _ hkd).2.2.2.1]; rfl)) hW ls (lv_sub hl [0, 1] rfl)
              exact L79 (_ + 1) 0 0 M74' _ _ (Nat.lt_succ_self _) (Nat.zero_le _) rfl f74 (fun i hi hg => ⟨by rw [eM74, gI_sI, if_neg (by omega)]; exact (f2 i hi hg).1, by rw [eM74, gI_sI, if_neg (by omega)]; exact (f2 i hi hg).2⟩) (fun d hd => by rw [eM74, gI_sI, if_neg (by omega)]; exact f3 d (by omega)) (by rw [eM74, gI_sI, if_pos ⟨rfl, rfl⟩]) (fun i hi => absurd hi (Nat.not_lt_zero i)) hW ls (lv_sub hl [0, 1] rfl)
            · have k56' : ¬ 32 ≤ k := kc_gen ek (nlit 32) (by omega) (by omega) c56'
              refine lv_aload_n hx hb dX10_lays_59 rfl (lv_at hl 1 rfl) ?_
              refine wgF (t := 84) hx hb fa87 hW (hMs 60 (by decide) (by decide)) rfl dX10_lays_60 ?_
              refine lv_iload_n hx hb dX10_lays_63 rfl (lv_at hl 0 rfl) ?_
              refine lv_iconst (v := (-1)) hx hb dX10_lays_64 (by decide) ?_
              refine wasI (j := k) hx hb hK hA hW (hMs 84 (by decide) (by decide)) ek (by omega) (by decide) dX10_lays_65 (fun M65' H locs eM65 hW => ?_)
              obtain ⟨x66', e66'⟩ : ∃ y : Int32, y = xk + 1 := ⟨_, rfl⟩
              refine lv_iinc (v := x66') (lv' := [(1, .int x66'), (0, .ref (ad 60))]) hx hb dX10_lays_66 hl (k := 0) rfl (by rw [e66']; rfl) (by decide) rfl (fun ls hl => ?_)
              refine lv_goto (tgt := 53) hx hb dX10_lays_69 (by decide) ?_
              exact ih53 (k + 1) x66' M65' _ _ (by omega) (by omega) (by rw [e66', ek, nlit 1, nI_add]) (by rw [eM65]; exact f1.put (Or.inr (Or.inr (Or.inr (Or.inr (Or.inl rfl)))))) (fun i hi hg => ⟨by rw [eM65, gI_sI, if_neg (by omega)]; exact (f2 i hi hg).1, by rw [eM65, gI_sI, if_neg (by omega)]; exact (f2 i hi hg).2⟩) (fun d hd => by
                  rw [eM65, gI_sI]
                  by_cases z : d = k
                  · rw [if_pos ⟨rfl, z⟩]
                  · rw [if_neg (fun w => z w.2)]; exact f3 d (by omega)) hW ls (lv_sub hl [0, 1] rfl)
        exact L53 (_ + 1) 0 0 M1' _ _ (Nat.lt_succ_self _) (Nat.zero_le _) rfl f1 (fun i hi hg => f2 i (by omega) hi hg) (fun d hd => absurd hd (Nat.not_lt_zero d)) hW ls (lv_sub hl [0, 1] rfl)
      · have k7' : ¬ (aN σ) ≤ k := kc_gen ek n4' (by omega) (by omega) c7'
        refine lv_aload_n hx hb dX10_lays_10 rfl (lv_at hl 1 rfl) ?_
        refine wgF (t := 80) hx hb fa75 hW (hMs 60 (by decide) (by decide)) rfl dX10_lays_11 ?_
        refine lv_iload_n hx hb dX10_lays_14 rfl (lv_at hl 0 rfl) ?_
        have J37 : ∀ (y : Int32) (H : Heap) (locs : List Loc), (σ.2 10 k = 0 → y = nI (if stkB σ k = true then 1 else 0)) → WS D cA sh ad A s.heap M1' H locs → ∀ ls, lv_has ls 3 [(1, .int xk), (0, .ref (ad 60))] → W p l e (headSpec wsX10_lays { frames := 3, cells := 0, slots := 0, locals := 75 }).room s m ([.ref (ad 60)] : List Value).toArray below meth cd0 H locs 0 0 (MQ below (wQv D cA sh ad (fun M' => oI laS M M' ∧ ∃ q c, LayR σ q c M') A) ([.ref (ad 60)] : List Value).toArray s 0 0 A) (F0 m 37 ls [.int y, .int xk, .ref (ad 80)]) := by
          intro y H locs hy hW ls hl
          refine wasI (j := k) hx hb hK hA hW (hMs 80 (by decide) (by decide)) ek (by omega) (by decide) dX10_lays_37 (fun M37' H locs eM37 hW => ?_)
          refine lv_aload_n hx hb dX10_lays_38 rfl (lv_at hl 1 rfl) ?_
          refine wgF (t := 82) hx hb fa81 hW (hMs 60 (by decide) (by decide)) rfl dX10_lays_39 ?_
          refine lv_iload_n hx hb dX10_lays_42 rfl (lv_at hl 0 rfl) ?_
          refine lv_iconst (v := (-1)) hx hb dX10_lays_43 (by decide) ?_
          refine wasI (j := k) hx hb hK hA hW (hMs 82 (by decide) (by decide)) ek (by omega) (by decide) dX10_lays_44 (fun M44' H locs eM44 hW => ?_)
          obtain ⟨x45', e45'⟩ : ∃ y : Int32, y = xk + 1 := ⟨_, rfl⟩
          refine lv_iinc (v := x45') (lv' := [(1, .int x45'), (0, .ref (ad 60))]) hx hb dX10_lays_45 hl (k := 0) rfl (by rw [e45']; rfl) (by decide) rfl (fun ls hl => ?_)
          refine lv_goto (tgt := 2) hx hb dX10_lays_48 (by decide) ?_
          exact ih2 (k + 1) x45' M44' _ _ (by omega) (by omega) (by rw [e45', ek, nlit 1, nI_add]) (by rw [eM44, eM37]; exact (f1.put (Or.inl rfl)).put (Or.inr (Or.inr (Or.inl rfl)))) (fun i hi hi2 hg => by
              have a9 : gI M44' 80 i = gI M37' 80 i := by rw [eM44, gI_sI, if_neg (by omega)]
              have b9 : gI M44' 82 i = if i = k then -1 else gI M1' 82 i := by
                rw [eM44, gI_sI]
                by_cases z : i = k
                · rw [if_pos ⟨rfl, z⟩, if_pos z]
                · rw [if_neg (fun w => z w.2), if_neg z, eM37, gI_sI, if_neg (by omega)]
              rw [a9, b9, eM37, gI_sI]
              by_cases z : i = k
              · subst z; rw [if_pos ⟨rfl, rfl⟩, if_pos rfl]; exact ⟨hy hg, rfl⟩
              · rw [if_neg (fun w => z w.2), if_neg z]; exact f2 i (by omega) hi2 hg) hW ls (lv_sub hl [0, 1] rfl)
        refine lv_aload_n hx hb dX10_lays_15 rfl (lv_at hl 1 rfl) ?_
        refine wgF (t := 79) hx hb fa72 hW (hMs 60 (by decide) (by decide)) rfl dX10_lays_16 ?_
        refine lv_iload_n hx hb dX10_lays_19 rfl (lv_at hl 0 rfl) ?_
        refine walZ (j := k) hx hb hK hW (hMs 79 (by decide) (by decide)) ek (by omega) (by decide) dX10_lays_20 (fun x20' e20' => ?_)
        refine lv_if_ne (tgt := 36) hx hb dX10_lays_21 (by decide) (fun c21' => ?_) (fun c21' => ?_)
        · refine lv_iconst (v := 0) hx hb dX10_lays_36 (by decide) ?_
          exact J37 0 _ _ (by
              intro hg
              first
              | exact absurd (e20'.trans ((hR1.2.2.2.2.2.2.2.2.2.2.1 k (by omega)).trans (by rw [hg]; rfl))) c21'
              | (rw [bI_z.mp (p26'.symm.trans c29')]; rfl)
              | (rw [bI_t.mp (fun z => c29' (p26'.trans z))]; rfl)) hW ls (lv_sub hl [0, 1] rfl)
        · refine lv_aload_n hx hb dX10_lays_24 rfl (lv_at hl 1 rfl) ?_
          refine lv_iload_n hx hb dX10_lays_25 rfl (lv_at hl 0 rfl) ?_
          refine wc_ri (va_runV (As := [.int xk]) (rest := [.int xk, .ref (ad 80)]) ⟨hx, hb, hml, hown, hts⟩ (c_X10_isStruck l D cA sh ad M1' _ σ ok hMs hR1 k (by omega) xk ek) (cwV 1 hts gX10_lays_X10_isStruck rfl rfl rfl (by decide +kernel) ⟨Nat.le_of_ble_eq_true rfl, Nat.le_of_ble_eq_true rfl⟩) (wpreV hK hW (C := RX10) (ci := 10) (hMs 60 (by decide) (by decide)) rfl) rfl rfl hl.1 rfl (lv_room (Nat.le_of_ble_eq_true rfl)) dX10_lays_26 ⟨Nat.le_of_ble_eq_true rfl, Nat.le_of_ble_eq_true rfl⟩) hW (fun x26' H locs p26' hW => ?_)
          try dsimp only at p26'
          refine lv_if_eq (tgt := 36) hx hb dX10_lays_29 (by decide) (fun c29' => ?_) (fun c29' => ?_)
          · refine lv_iconst (v := 0) hx hb dX10_lays_36 (by decide) ?_
            exact J37 0 _ _ (by
                intro hg
                first
                | exact absurd (e20'.trans ((hR1.2.2.2.2.2.2.2.2.2.2.1 k (by omega)).trans (by rw [hg]; rfl))) c21'
                | (rw [bI_z.mp (p26'.symm.trans c29')]; rfl)
                | (rw [bI_t.mp (fun z => c29' (p26'.trans z))]; rfl)) hW ls (lv_sub hl [0, 1] rfl)
          · refine lv_iconst (v := 1) hx hb dX10_lays_32 (by decide) ?_
            refine lv_goto (tgt := 37) hx hb dX10_lays_33 (by decide) ?_
            exact J37 1 _ _ (by
                intro hg
                first
                | exact absurd (e20'.trans ((hR1.2.2.2.2.2.2.2.2.2.2.1 k (by omega)).trans (by rw [hg]; rfl))) c21'
                | (rw [bI_z.mp (p26'.symm.trans c29')]; rfl)
                | (rw [bI_t.mp (fun z => c29' (p26'.trans z))]; rfl)) hW ls (lv_sub hl [0, 1] rfl)
  exact L2 (_ + 1) 0 0 M _ _ (Nat.lt_succ_self _) (Nat.zero_le _) rfl oI.rf (fun i hi => absurd hi (Nat.not_lt_zero i)) hW ls (lv_sub hl [0, 1] rfl)

/-! acts. -/
theorem cue_ok {A B : Prop} {G : Bool} {n : Nat} {P Q R : Prop} {r : Int32} (h : (A ∧ B ∧ G = true ∧ n < 40 ∧ P) ∨ (Q ∧ R ∧ ((r = -1000002 ∧ G = false) ∨ (r = -1000003 ∧ G = true ∧ ¬ n < 40)))) (hG : G = true) (hn : n < 40) : A ∧ B ∧ P := by
  rcases h with ⟨a, b, -, -, p⟩ | ⟨-, -, ⟨-, z⟩ | ⟨-, -, z⟩⟩
  · exact ⟨a, b, p⟩
  · rw [hG] at z; cases z
  · exact absurd hn z
theorem cue_no {A B : Prop} {G : Bool} {n : Nat} {P Q R : Prop} {r : Int32} (h : (A ∧ B ∧ G = true ∧ n < 40 ∧ P) ∨ (Q ∧ R ∧ ((r = -1000002 ∧ G = false) ∨ (r = -1000003 ∧ G = true ∧ ¬ n < 40)))) (hG : G = false) : Q ∧ R ∧ r = -1000002 := by
  rcases h with ⟨-, -, z, -⟩ | ⟨a, b, ⟨c, -⟩ | ⟨-, z, -⟩⟩
  · rw [hG] at z; cases z
  · exact ⟨a, b, c⟩
  · rw [hG] at z; cases z
theorem cue_full {A B : Prop} {G : Bool} {n : Nat} {P Q R : Prop} {r : Int32} (h : (A ∧ B ∧ G = true ∧ n < 40 ∧ P) ∨ (Q ∧ R ∧ ((r = -1000002 ∧ G = false) ∨ (r = -1000003 ∧ G = true ∧ ¬ n < 40)))) (hG : G = true) (hn : ¬ n < 40) : Q ∧ R ∧ r = -1000003 := by
  rcases h with ⟨-, -, -, z, -⟩ | ⟨a, b, ⟨-, z⟩ | ⟨c, -, -⟩⟩
  · exact absurd z hn
  · rw [hG] at z; cases z
  · exact ⟨a, b, c⟩
theorem cue_ct {σ : AS} (ok : AOK σ) (hn : aN σ < 40) (b k r : Nat) : ctN (pres (oCue σ b k r)) 40 = ctN (pres σ) 40 + 1 := by
  have h0 : σ.2 10 (aN σ) = 0 := ok.2.2.2.2.2.2.2.2.2.1 _ (Nat.le_refl _)
  have hp : pres (oCue σ b k r) (aN σ) = true := pres_t (by rw [oCue_n]; omega) (by rw [oCue_10]; exact h0)
  have := ctN_rm hp (cue_pres σ b k r) 40
  rw [if_pos hn] at this
  exact this.symm
theorem LS_cue {σ : AS} {v : VT} {M M1' : MS} {b k r : Nat} (ok : AOK σ) (hn : aN σ < 40) (h : LSt σ v M) (e0' : gI M1' 60 (aN σ) = nI (b + 128 * k + 512 * r)) (e1' : gI M1' 66 0 = nI (aN σ + 1)) (e2' : gI M1' 66 1 = nI (ctN (pres σ) 40 + 1))
    (e : ∀ p j, 60 ≤ p → p ≤ 66 → ¬ (p = 60 ∧ j = aN σ) → ¬ (p = 66 ∧ j = 0) → ¬ (p = 66 ∧ j = 1) → gI M1' p j = gI M p j) : LSt (oCue σ b k r) v M1' := by
  obtain ⟨h1, h2, h3, h4, h5, h6, h7, h8, h9, h10⟩ := h
  have h0 : σ.2 10 (aN σ) = 0 := ok.2.2.2.2.2.2.2.2.2.1 _ (Nat.le_refl _)
  refine ⟨fun j hj => ?_, fun j hj => (e _ _ (by omega) (by omega) (by omega) (by omega) (by omega)).trans (h2 j hj), fun j hj => (e _ _ (by omega) (by omega) (by omega) (by omega) (by omega)).trans (h3 j hj), fun j hj => (e _ _ (by omega) (by omega) (by omega) (by omega) (by omega)).trans (h4 j hj), fun j hj => (e _ _ (by omega) (by omega) (by omega) (by omega) (by omega)).trans (h5 j hj), fun j hj => (e _ _ (by omega) (by omega) (by omega) (by omega) (by omega)).trans (h6 j hj), e1', ?_, (e _ _ (by omega) (by omega) (by omega) (by omega) (by omega)).trans h9, (e _ _ (by omega) (by omega) (by omega) (by omega) (by omega)).trans h10⟩
  · rw [oCue_n] at hj
    by_cases z : j = aN σ
    · subst z
      rw [e0']
      have : ccN (oCue σ b k r) (aN σ) = b + 128 * k + 512 * r := by
        unfold ccN
        rw [oCue_10, h0]
        simp [oCue, uN]
      rw [this]
    · rw [e _ _ (by omega) (by omega) (by omega) (by omega) (by omega), h1 j (by omega)]
      have : ccN (oCue σ b k r) j = ccN σ j := by
        unfold ccN
        rw [oCue_10]
        simp [oCue, uN, z]
      rw [this]
  · rw [e2', cue_ct ok hn]
theorem cut_ct {σ : AS} {i : Nat} (o1 : aN σ ≤ 40) (hi : i < aN σ) (hg : σ.2 10 i = 0) : ctN (pres (oCut σ i)) 40 + 1 = ctN (pres σ) 40 := by
  have := ctN_rm (pres_t hi hg) (cut_pres σ i) 40
  rw [if_pos (by omega)] at this
  exact this
theorem LS_cut {σ : AS} {v : VT} {M M1' : MS} {i : Nat} (o1 : aN σ ≤ 40) (hi : i < aN σ) (hg : σ.2 10 i = 0) (h : LSt σ v M) (e0' : gI M1' 60 i = nI (ccN σ i + 4096)) (e2' : gI M1' 66 1 = nI (ctN (pres σ) 40 - 1))
    (e : ∀ p j, 60 ≤ p → p ≤ 66 → ¬ (p = 60 ∧ j = i) → ¬ (p = 66 ∧ j = 1) → gI M1' p j = gI M p j) : LSt (oCut σ i) v M1' := by
  obtain ⟨h1, h2, h3, h4, h5, h6, h7, h8, h9, h10⟩ := h
  refine ⟨fun j hj => ?_, fun j hj => (e _ _ (by omega) (by omega) (by omega) (by omega)).trans (h2 j hj), fun j hj => (e _ _ (by omega) (by omega) (by omega) (by omega)).trans (h3 j hj), fun j hj => (e _ _ (by omega) (by omega) (by omega) (by omega)).trans (h4 j hj), fun j hj => (e _ _ (by omega) (by omega) (by omega) (by omega)).trans (h5 j hj), fun j hj => (e _ _ (by omega) (by omega) (by omega) (by omega)).trans (h6 j hj), (e _ _ (by omega) (by omega) (by omega) (by omega)).trans h7, ?_, (e _ _ (by omega) (by omega) (by omega) (by omega)).trans h9, (e _ _ (by omega) (by omega) (by omega) (by omega)).trans h10⟩
  · by_cases z : j = i
    · subst z
      rw [e0']
      have : ccN (oCut σ j) j = ccN σ j + 4096 := by
        unfold ccN
        rw [hg]
        simp [oCut, uN]
      rw [this]
    · rw [e _ _ (by omega) (by omega) (by omega) (by omega), h1 j hj]
      have : ccN (oCut σ i) j = ccN σ j := by simp [ccN, oCut, uN, z]
      rw [this]
  · have := cut_ct o1 hi hg
    rw [e2', show ctN (pres (oCut σ i)) 40 = ctN (pres σ) 40 - 1 by omega]
theorem LS_stay {σ : AS} {v : VT} {M M1' : MS} {i : Nat} (hi : i < aN σ) (h : LSt σ v M) (e0' : gI M1' 60 i = nI (ccN σ i)) (e2' : gI M1' 66 1 = nI (ctN (pres σ) 40))
    (e : ∀ p j, 60 ≤ p → p ≤ 66 → ¬ (p = 60 ∧ j = i) → ¬ (p = 66 ∧ j = 1) → gI M1' p j = gI M p j) : LSt σ v M1' := by
  obtain ⟨h1, h2, h3, h4, h5, h6, h7, h8, h9, h10⟩ := h
  refine ⟨fun j hj => ?_, fun j hj => (e _ _ (by omega) (by omega) (by omega) (by omega)).trans (h2 j hj), fun j hj => (e _ _ (by omega) (by omega) (by omega) (by omega)).trans (h3 j hj), fun j hj => (e _ _ (by omega) (by omega) (by omega) (by omega)).trans (h4 j hj), fun j hj => (e _ _ (by omega) (by omega) (by omega) (by omega)).trans (h5 j hj), fun j hj => (e _ _ (by omega) (by omega) (by omega) (by omega)).trans (h6 j hj), (e _ _ (by omega) (by omega) (by omega) (by omega)).trans h7, e2', (e _ _ (by omega) (by omega) (by omega) (by omega)).trans h9, (e _ _ (by omega) (by omega) (by omega) (by omega)).trans h10⟩
  by_cases z : j = i
  · rw [z]; exact e0'
  · rw [e _ _ (by omega) (by omega) (by omega) (by omega)]; exact h1 j hj
set_option maxHeartbeats 4000000 in
set_option maxRecDepth 100000 in
theorem c_L_acts (l : Launch) (hl9 : l.stackTraces = false) (D : va_G) (cA : Nat → ClassId) (sh : Nat → Option Sh) (ad : Nat → Nat) (M : MS) (sz : Nat) (σ : AS) (v : VT) (hsh : sh = shL (aN σ)) (hXX : XX σ v M) (hL : LSt σ v M) (xa xb : Int32) : Met l yL_acts wsL_acts ({ frames := 11, cells := 90, slots := 600, locals := 212 }) (lPc D cA sh ad M sz [.ref (ad 0), .ref (ad 60), .ref (ad 61), .ref (ad 62), .ref (ad 63), .ref (ad 64), .ref (ad 65), .ref (ad 66), .int xa, .int xb]) (lQc D cA sh ad sz (fun r sh' M' => r = 1 ∧ ∃ σ' v', sh' = shL (aN σ') ∧ XX σ' v' M' ∧ LSt σ' v' M') (wA sh ad sz)) 90 600 (wA sh ad sz) := by
  refine Met.ofW (cc := cL_acts) (maxL := 14) (ret := (some .boolean)) (by decide) rfl ?_
  intro p e s m args below meth cd0 s₁ B hml hv
  obtain ⟨rfl, hsz, hM, hK, hE, hZ, hE2⟩ := hv
  have hx := B.exec
  have hb := B.bytes
  have hr := B.returns
  have hts := atoms_spec (ws := wsL_acts) B.pre
  have hown : s.vm.findClass RL = some m.cls := findClass_of_methodNamed B.named
  have hlocks := B.notSynchronized
  subst hsz
  have hA := wA_PA sh ad s.heap
  generalize wA sh ad s.heap.size = A at hA hZ ⊢
  have hW : WS D cA sh ad A s.heap M s.heap [] := ⟨hM, va_S.rf⟩
  have hl := lv_entry ([.ref (ad 0), .ref (ad 60), .ref (ad 61), .ref (ad 62), .ref (ad 63), .ref (ad 64), .ref (ad 65), .ref (ad 66), .int xa, .int xb]) (n := 14) (Nat.le_of_ble_eq_true rfl)
  rw [lg_entry_eq]
  generalize (lg_sl ([.ref (ad 0), .ref (ad 60), .ref (ad 61), .ref (ad 62), .ref (ad 63), .ref (ad 64), .ref (ad 65), .ref (ad 66), .int xa, .int xb]) ++ List.replicate (14 - (lg_sl ([.ref (ad 0), .ref (ad 60), .ref (ad 61), .ref (ad 62), .ref (ad 63), .ref (ad 64), .ref (ad 65), .ref (ad 66), .int xa, .int xb])).length) Slot.unset).toArray = ls at hl ⊢
  have hl : lv_has ls 14 [(0, .ref (ad 0)), (1, .ref (ad 60)), (2, .ref (ad 61)), (3, .ref (ad 62)), (4, .ref (ad 63)), (5, .ref (ad 64)), (6, .ref (ad 65)), (7, .ref (ad 66)), (8, .int xa), (9, .int xb)] := hl
  have hX : XSh (aN σ) sh := by rw [hsh]; exact shL_X _
  have hMs : LSh sh := by rw [hsh]; exact shL_LSh _
  obtain ⟨ok, -⟩ := id hXX
  have o1 := ok.1
  have hG : GR sh ad s.heap.size sh ad := GR.rf
  generalize hQ9 : (lQc D cA sh ad s.heap.size (fun r sh' M' => r = 1 ∧ ∃ σ' v', sh' = shL (aN σ') ∧ XX σ' v' M' ∧ LSt σ' v' M') A) = Q9
  generalize hae : ([.ref (ad 0), .ref (ad 60), .ref (ad 61), .ref (ad 62), .ref (ad 63), .ref (ad 64), .ref (ad 65), .ref (ad 66), .int xa, .int xb] : List Value).toArray = ar at hts ⊢
  refine lv_iload hx hb dL_acts_0 (lv_at hl 8 rfl) ?_
  refine lv_bipush (v := 16) hx hb dL_acts_2 (by decide) ?_
  refine wc_ri (va_runS (As := [.int xa, .int 16]) (rest := []) ⟨hx, hb, hml, hown, hts⟩ (c_L_low l xa 16 (by decide)) (va_cwS 2 hts gL_acts_L_low rfl rfl rfl (by decide +kernel) ⟨Nat.le_of_ble_eq_true rfl, Nat.le_of_ble_eq_true rfl⟩) npreS rfl rfl hl.1 rfl (lv_room (Nat.le_of_ble_eq_true rfl)) dL_acts_4 ⟨Nat.le_of_ble_eq_true rfl, Nat.le_of_ble_eq_true rfl⟩) hW (fun x4' H locs p4' hW => ?_)
  try dsimp only at p4'
  obtain ⟨kn, hkn, ekn⟩ := low_n xa (n := 16) (by decide) (by decide)
  have r4 : x4' = nI kn := p4'.trans ekn
  have n4' : x4' = nI kn := r4
  refine lv_istore (lv' := [(10, .int x4'), (0, .ref (ad 0)), (1, .ref (ad 60)), (2, .ref (ad 61)), (3, .ref (ad 62)), (4, .ref (ad 63)), (5, .ref (ad 64)), (6, .ref (ad 65)), (7, .ref (ad 66)), (8, .int xa), (9, .int xb)]) hx hb dL_acts_7 hl (by decide) rfl (fun ls hl => ?_)
  have J33 : ∀ (H : Heap) (locs : List Loc), (aN σ < 40) → WS D cA sh ad A s.heap M H locs → ∀ ls, lv_has ls 14 [(10, .int x4'), (0, .ref (ad 0)), (1, .ref (ad 60)), (2, .ref (ad 61)), (3, .ref (ad 62)), (4, .ref (ad 63)), (5, .ref (ad 64)), (6, .ref (ad 65)), (7, .ref (ad 66)), (8, .int xa), (9, .int xb)] → W p l e (headSpec wsL_acts { frames := 11, cells := 90, slots := 600, locals := 212 }).room s m ar below meth cd0 H locs 0 0 (MQ below Q9 ar s 90 600 A) (F0 m 33 ls []) := by
    intro H locs hn40 hW ls hl
    have J63 : ∀ (ybt : Int32) (H : Heap) (locs : List Loc), (∃ bt, bt ≤ 100 ∧ ybt = nI bt) → WS D cA sh ad A s.heap M H locs → ∀ ls, lv_has ls 14 [(10, .int x4'), (0, .ref (ad 0)), (1, .ref (ad 60)), (2, .ref (ad 61)), (3, .ref (ad 62)), (4, .ref (ad 63)), (5, .ref (ad 64)), (6, .ref (ad 65)), (7, .ref (ad 66)), (8, .int xa), (9, .int xb)] → W p l e (headSpec wsL_acts { frames := 11, cells := 90, slots := 600, locals := 212 }).room s m ar below meth cd0 H locs 0 0 (MQ below Q9 ar s 90 600 A) (F0 m 63 ls [.int ybt]) := by
      intro ybt H locs hybt hW ls hl
      obtain ⟨bt, hbt, ebt⟩ := hybt
      refine lv_istore (lv' := [(11, .int ybt), (10, .int x4'), (0, .ref (ad 0)), (1, .ref (ad 60)), (2, .ref (ad 61)), (3, .ref (ad 62)), (4, .ref (ad 63)), (5, .ref (ad 64)), (6, .ref (ad 65)), (7, .ref (ad 66)), (8, .int xa), (9, .int xb)]) hx hb dL_acts_63 hl (by decide) rfl (fun ls hl => ?_)
      refine lv_iload hx hb dL_acts_65 (lv_at hl 11 rfl) ?_
      refine lv_bipush (v := 9) hx hb dL_acts_67 (by decide) ?_
      refine lv_ishr hx hb dL_acts_69 ?_
      refine lv_topi (fun x69' e69' => ?_)
      refine lv_iconst (v := 4) hx hb dL_acts_70 (by decide) ?_
      refine wc_ri (va_runS (As := [.int x69', .int 4]) (rest := []) ⟨hx, hb, hml, hown, hts⟩ (c_L_low l x69' 4 (by decide)) (va_cwS 2 hts gL_acts_L_low rfl rfl rfl (by decide +kernel) ⟨Nat.le_of_ble_eq_true rfl, Nat.le_of_ble_eq_true rfl⟩) npreS rfl rfl hl.1 rfl (lv_room (Nat.le_of_ble_eq_true rfl)) dL_acts_71 ⟨Nat.le_of_ble_eq_true rfl, Nat.le_of_ble_eq_true rfl⟩) hW (fun x71' H locs p71' hW => ?_)
      try dsimp only at p71'
      obtain ⟨kd, hkd, ekd⟩ := low_n x69' (n := 4) (by decide) (by decide)
      have r71 : x71' = nI kd := p71'.trans ekd
      have n71' : x71' = nI kd := r71
      refine lv_istore (lv' := [(12, .int x71'), (11, .int ybt), (10, .int x4'), (0, .ref (ad 0)), (1, .ref (ad 60)), (2, .ref (ad 61)), (3, .ref (ad 62)), (4, .ref (ad 63)), (5, .ref (ad 64)), (6, .ref (ad 65)), (7, .ref (ad 66)), (8, .int xa), (9, .int xb)]) hx hb dL_acts_74 hl (by decide) rfl (fun ls hl => ?_)
      refine lv_iload hx hb dL_acts_76 (lv_at hl 12 rfl) ?_
      refine lv_bipush (v := 11) hx hb dL_acts_78 (by decide) ?_
      refine lv_ishr hx hb dL_acts_80 ?_
      refine lv_topi (fun x80' e80' => ?_)
      refine lv_bipush (v := 6) hx hb dL_acts_81 (by decide) ?_
      refine wc_ri (va_runS (As := [.int x80', .int 6]) (rest := []) ⟨hx, hb, hml, hown, hts⟩ (c_L_low l x80' 6 (by decide)) (va_cwS 2 hts gL_acts_L_low rfl rfl rfl (by decide +kernel) ⟨Nat.le_of_ble_eq_true rfl, Nat.le_of_ble_eq_true rfl⟩) npreS rfl rfl hl.1 rfl (lv_room (Nat.le_of_ble_eq_true rfl)) dL_acts_83 ⟨Nat.le_of_ble_eq_true rfl, Nat.le_of_ble_eq_true rfl⟩) hW (fun x83' H locs p83' hW => ?_)
      try dsimp only at p83'
      obtain ⟨rk, hrk, erk⟩ := low_n x80' (n := 6) (by decide) (by decide)
      have r83 : x83' = nI rk := p83'.trans erk
      have n1b : n1 ybt = bt := n1e ebt (by omega)
      have n1k : n1 x71' = kd := n1e r71 (by omega)
      have n1r : n1 x83' = rk := n1e r83 (by omega)
      have hGq : (inB ybt 0 100 && inB x71' 0 3 && inB x83' 0 5) = true := and_t (and_t (in_t (n := 100) ebt hbt (by decide)) (in_t (n := 3) r71 (by omega) (by decide))) (in_t (n := 5) r83 (by omega) (by decide))
      have n83' : x83' = nI rk := r83
      refine lv_istore (lv' := [(13, .int x83'), (12, .int x71'), (11, .int ybt), (10, .int x4'), (0, .ref (ad 0)), (1, .ref (ad 60)), (2, .ref (ad 61)), (3, .ref (ad 62)), (4, .ref (ad 63)), (5, .ref (ad 64)), (6, .ref (ad 65)), (7, .ref (ad 66)), (8, .int xa), (9, .int xb)]) hx hb dL_acts_86 hl (by decide) rfl (fun ls hl => ?_)
      refine lv_aload_n hx hb dL_acts_88 rfl (lv_at hl 5 rfl) ?_
      refine lv_aload hx hb dL_acts_89 (lv_at hl 11 rfl) ?_
      refine lv_iconst (v := 0) hx hb dL_acts_91 (by decide) ?_
      refine walI (j := 0) hx hb hK hW (hMs 66 (by decide) (by decide)) (nlit 0) (by omega) (by decide) dL_acts_92 (fun x92' e92' => ?_)
      have n92' : x92' = nI (aN σ) := (e92'.trans hL.2.2.2.2.2.2.1)
      refine lv_iload hx hb dL_acts_93 (lv_at hl 2 rfl) ?_
      refine lv_sipush (v := 128) hx hb dL_acts_95 (by decide) ?_
      refine lv_iload hx hb dL_acts_98 (lv_at hl 1 rfl) ?_
      refine lv_imul hx hb dL_acts_100 ?_
      refine lv_topi (fun x100' e100' => ?_)
      have n100' : x100' = nI (128 * kd) := (by rw [e100', (nlit 128), n71', pk_mul])
      refine lv_iadd hx hb dL_acts_101 ?_
      refine lv_topi (fun x101' e101' => ?_)
      have n101' : x101' = nI (bt + (128 * kd)) := (by rw [e101', ebt, n100', nI_add])
      refine lv_sipush (v := 512) hx hb dL_acts_102 (by decide) ?_
      refine lv_iload hx hb dL_acts_105 (lv_at hl 0 rfl) ?_
      refine lv_imul hx hb dL_acts_107 ?_
      refine lv_topi (fun x107' e107' => ?_)
      have n107' : x107' = nI (512 * rk) := (by rw [e107', (nlit 512), n83', pk_mul])
      refine lv_iadd hx hb dL_acts_108 ?_
      refine lv_topi (fun x108' e108' => ?_)
      have n108' : x108' = nI ((bt + (128 * kd)) + (512 * rk)) := (by rw [e108', n101', n107', nI_add])
      refine wasI (j := (aN σ)) hx hb hK hA hW (hMs 60 (by decide) (by decide)) n92' (by omega) (by decide) dL_acts_109 (fun M109' H locs eM109 hW => ?_)
      refine lv_aload hx hb dL_acts_110 (lv_at hl 11 rfl) ?_
      refine lv_iconst (v := 0) hx hb dL_acts_112 (by decide) ?_
      refine lv_dup2_11 hx hb dL_acts_113 rfl rfl ?_
      refine walI (j := 0) hx hb hK hW (hMs 66 (by decide) (by decide)) (nlit 0) (by omega) (by decide) dL_acts_114 (fun x114' e114' => ?_)
      have n114' : x114' = nI (aN σ) := (e114'.trans (by rw [eM109, kp_sI (by omega)]; exact hL.2.2.2.2.2.2.1))
      refine lv_iconst (v := 1) hx hb dL_acts_115 (by decide) ?_
      refine lv_iadd hx hb dL_acts_116 ?_
      refine lv_topi (fun x116' e116' => ?_)
      have n116' : x116' = nI ((aN σ) + 1) := (by rw [e116', n114', (nlit 1), nI_add])
      refine wasI (j := 0) hx hb hK hA hW (hMs 66 (by decide) (by decide)) (nlit 0) (by omega) (by decide) dL_acts_117 (fun M117' H locs eM117 hW => ?_)
      refine lv_aload hx hb dL_acts_118 (lv_at hl 11 rfl) ?_
      refine lv_iconst (v := 1) hx hb dL_acts_120 (by decide) ?_
      refine lv_dup2_11 hx hb dL_acts_121 rfl rfl ?_
      refine walI (j := 1) hx hb hK hW (hMs 66 (by decide) (by decide)) (nlit 1) (by omega) (by decide) dL_acts_122 (fun x122' e122' => ?_)
      have n122' : x122' = nI (ctN (pres σ) 40) := (e122'.trans (by rw [eM117, kp_sI (by omega), eM109, kp_sI (by omega)]; exact hL.2.2.2.2.2.2.2.1))
      refine lv_iconst (v := 1) hx hb dL_acts_123 (by decide) ?_
      refine lv_iadd hx hb dL_acts_124 ?_
      refine lv_topi (fun x124' e124' => ?_)
      have n124' : x124' = nI ((ctN (pres σ) 40) + 1) := (by rw [e124', n122', (nlit 1), nI_add])
      refine wasI (j := 1) hx hb hK hA hW (hMs 66 (by decide) (by decide)) (nlit 1) (by omega) (by decide) dL_acts_125 (fun M125' H locs eM125 hW => ?_)
      have hXX : XX σ v M125' := by rw [eM125, eM117, eM109]; exact XX_sL (XX_sL (XX_sL hXX (by omega) (by omega)) (by omega) (by omega)) (by omega) (by omega)
      have hLc : LSt (oCue σ bt kd rk) v M125' := LS_cue ok hn40 hL (by rw [eM125, kp_sI (by omega), eM117, kp_sI (by omega), eM109, kp_eq, n108']) (by rw [eM125, kp_sI (by omega), eM117, kp_eq, n116']) (by rw [eM125, kp_eq, n124']) (fun p9' j9 a9 b9 z1 z2 z3 => by rw [eM125, kp_sI z3, eM117, kp_sI z2, eM109, kp_sI z1])
      refine lv_aload_n hx hb dL_acts_126 rfl (lv_at hl 4 rfl) ?_
      refine lv_iload hx hb dL_acts_127 (lv_at hl 2 rfl) ?_
      refine lv_iload hx hb dL_acts_129 (lv_at hl 1 rfl) ?_
      refine lv_iload hx hb dL_acts_131 (lv_at hl 0 rfl) ?_
      refine wc_lc (vx_runSW (As := [.ref (ad 0), .int ybt, .int x71', .int x83']) (rest := []) ⟨hx, hb, hml, hown, hts⟩ (c_L_cue l hl9 D cA sh ad M125' _ σ v hsh hXX ybt x71' x83' ) (vx_cwSW 4 hts gL_acts_L_cue rfl rfl rfl (by decide +kernel) ⟨Nat.le_of_ble_eq_true rfl, Nat.le_of_ble_eq_true rfl⟩) (lpreS hK hA hW hE hZ hE2) rfl rfl hl.1 rfl (lv_room (Nat.le_of_ble_eq_true rfl)) dL_acts_133 ⟨Nat.le_of_ble_eq_true rfl, Nat.le_of_ble_eq_true rfl⟩) hA hW (fun x133' sh ad M133' H locs hG1 p133' hA hW => ?_)
      rw [← (hG1.1 0 (ne_none (hX.1 0 (by decide)))).2] at hl
      rw [← (hG1.1 60 (ne_none (hMs 60 (by decide) (by decide)))).2] at hl
      rw [← (hG1.1 61 (ne_none (hMs 61 (by decide) (by decide)))).2] at hl
      rw [← (hG1.1 62 (ne_none (hMs 62 (by decide) (by decide)))).2] at hl
      rw [← (hG1.1 63 (ne_none (hMs 63 (by decide) (by decide)))).2] at hl
      rw [← (hG1.1 64 (ne_none (hMs 64 (by decide) (by decide)))).2] at hl
      rw [← (hG1.1 65 (ne_none (hMs 65 (by decide) (by decide)))).2] at hl
      rw [← (hG1.1 66 (ne_none (hMs 66 (by decide) (by decide)))).2] at hl
      have hG := hG.trans hG1
      try dsimp only at p133'
      obtain ⟨kp133, gg133⟩ := p133'
      obtain ⟨esh1, hXX, r133⟩ := cue_ok gg133 hGq hn40
      rw [n1b, n1k, n1r] at hXX
      obtain ⟨σ1, esσ1⟩ : ∃ z9, z9 = oCue σ bt kd rk := ⟨_, rfl⟩
      rw [← esσ1] at hXX hLc
      have hsh : sh = shL (aN σ1) := by rw [esσ1]; exact esh1
      have hL := hLc.kp kp133
      have hn1 : aN σ1 = aN σ + 1 := by rw [esσ1]; rfl
      have hX : XSh (aN σ1) sh := by rw [hsh]; exact shL_X _
      have hMs : LSh sh := by rw [hsh]; exact shL_LSh _
      have n133' : x133' = nI (aN σ) := r133
      refine lv_aload hx hb dL_acts_136 (lv_at hl 11 rfl) ?_
      refine lv_iconst (v := 0) hx hb dL_acts_138 (by decide) ?_
      refine walI (j := 0) hx hb hK hW (hMs 66 (by decide) (by decide)) (nlit 0) (by omega) (by decide) dL_acts_139 (fun x139' e139' => ?_)
      have n139' : x139' = nI (aN σ + 1) := (e139'.trans (hL.2.2.2.2.2.2.1.trans (by rw [hn1])))
      refine lv_iconst (v := 1) hx hb dL_acts_140 (by decide) ?_
      refine lv_isub hx hb dL_acts_141 ?_
      refine lv_topi (fun x141' e141' => ?_)
      have n141' : x141' = nI ((aN σ + 1) - 1) := (by rw [e141', n139', (nlit 1)]; exact pk_sub (by omega))
      refine lv_icmp_ne (tgt := 187) hx hb dL_acts_142 (by decide) (fun c142' => ?_) (fun c142' => ?_)
      · have k142' : ¬ (aN σ) = ((aN σ + 1) - 1) := kc_ne n133' n141' (by omega) (by omega) c142'
        exact ((show False from by omega)).elim
      · have k142' : (aN σ) = ((aN σ + 1) - 1) := kc_nen n133' n141' (by omega) (by omega) c142'
        refine lv_aload_n hx hb dL_acts_145 rfl (lv_at hl 4 rfl) ?_
        refine lv_bipush (v := 101) hx hb dL_acts_146 (by decide) ?_
        refine lv_iconst (v := 0) hx hb dL_acts_148 (by decide) ?_
        refine lv_iconst (v := 0) hx hb dL_acts_149 (by decide) ?_
        refine wc_lc (vx_runSW (As := [.ref (ad 0), .int 101, .int 0, .int 0]) (rest := []) ⟨hx, hb, hml, hown, hts⟩ (c_L_cue l hl9 D cA sh ad M133' _ σ1 v hsh hXX 101 0 0 ) (vx_cwSW 4 hts gL_acts_L_cue rfl rfl rfl (by decide +kernel) ⟨Nat.le_of_ble_eq_true rfl, Nat.le_of_ble_eq_true rfl⟩) (lpreS hK hA hW hE hZ hE2) rfl rfl hl.1 rfl (lv_room (Nat.le_of_ble_eq_true rfl)) dL_acts_150 ⟨Nat.le_of_ble_eq_true rfl, Nat.le_of_ble_eq_true rfl⟩) hA hW (fun x150' sh ad M150' H locs hG1 p150' hA hW => ?_)
        rw [← (hG1.1 0 (ne_none (hX.1 0 (by decide)))).2] at hl
        rw [← (hG1.1 60 (ne_none (hMs 60 (by decide) (by decide)))).2] at hl
        rw [← (hG1.1 61 (ne_none (hMs 61 (by decide) (by decide)))).2] at hl
        rw [← (hG1.1 62 (ne_none (hMs 62 (by decide) (by decide)))).2] at hl
        rw [← (hG1.1 63 (ne_none (hMs 63 (by decide) (by decide)))).2] at hl
        rw [← (hG1.1 64 (ne_none (hMs 64 (by decide) (by decide)))).2] at hl
        rw [← (hG1.1 65 (ne_none (hMs 65 (by decide) (by decide)))).2] at hl
        rw [← (hG1.1 66 (ne_none (hMs 66 (by decide) (by decide)))).2] at hl
        have hG := hG.trans hG1
        try dsimp only at p150'
        obtain ⟨kp150, gg150⟩ := p150'
        obtain ⟨esh1, hXX, r150⟩ := cue_no gg150 (by decide)
        have hsh : sh = shL (aN σ1) := esh1
        have hL := hL.kp kp150
        have hX : XSh (aN σ1) sh := by rw [hsh]; exact shL_X _
        have hMs : LSh sh := by rw [hsh]; exact shL_LSh _
        refine lv_ldc (v := (-1000002)) hx hb hown (hts (.constant RL 18 (-1000002)) (List.mem_of_getElem? (i := 1) rfl)) dL_acts_153 ?_
        refine lv_icmp_ne (tgt := 187) hx hb dL_acts_155 (by decide) (fun c155' => ?_) (fun c155' => ?_)
        · exact ((c155' r150)).elim
        · refine lv_aload_n hx hb dL_acts_158 rfl (lv_at hl 4 rfl) ?_
          refine lv_iconst (v := 0) hx hb dL_acts_159 (by decide) ?_
          refine lv_iconst (v := 4) hx hb dL_acts_160 (by decide) ?_
          refine lv_iconst (v := 0) hx hb dL_acts_161 (by decide) ?_
          refine wc_lc (vx_runSW (As := [.ref (ad 0), .int 0, .int 4, .int 0]) (rest := []) ⟨hx, hb, hml, hown, hts⟩ (c_L_cue l hl9 D cA sh ad M150' _ σ1 v hsh hXX 0 4 0 ) (vx_cwSW 4 hts gL_acts_L_cue rfl rfl rfl (by decide +kernel) ⟨Nat.le_of_ble_eq_true rfl, Nat.le_of_ble_eq_true rfl⟩) (lpreS hK hA hW hE hZ hE2) rfl rfl hl.1 rfl (lv_room (Nat.le_of_ble_eq_true rfl)) dL_acts_162 ⟨Nat.le_of_ble_eq_true rfl, Nat.le_of_ble_eq_true rfl⟩) hA hW (fun x162' sh ad M162' H locs hG1 p162' hA hW => ?_)
          rw [← (hG1.1 0 (ne_none (hX.1 0 (by decide)))).2] at hl
          rw [← (hG1.1 60 (ne_none (hMs 60 (by decide) (by decide)))).2] at hl
          rw [← (hG1.1 61 (ne_none (hMs 61 (by decide) (by decide)))).2] at hl
          rw [← (hG1.1 62 (ne_none (hMs 62 (by decide) (by decide)))).2] at hl
          rw [← (hG1.1 63 (ne_none (hMs 63 (by decide) (by decide)))).2] at hl
          rw [← (hG1.1 64 (ne_none (hMs 64 (by decide) (by decide)))).2] at hl
          rw [← (hG1.1 65 (ne_none (hMs 65 (by decide) (by decide)))).2] at hl
          rw [← (hG1.1 66 (ne_none (hMs 66 (by decide) (by decide)))).2] at hl
          have hG := hG.trans hG1
          try dsimp only at p162'
          obtain ⟨kp162, gg162⟩ := p162'
          obtain ⟨esh1, hXX, r162⟩ := cue_no gg162 (by decide)
          have hsh : sh = shL (aN σ1) := esh1
          have hL := hL.kp kp162
          have hX : XSh (aN σ1) sh := by rw [hsh]; exact shL_X _
          have hMs : LSh sh := by rw [hsh]; exact shL_LSh _
          refine lv_ldc (v := (-1000002)) hx hb hown (hts (.constant RL 18 (-1000002)) (List.mem_of_getElem? (i := 1) rfl)) dL_acts_165 ?_
          refine lv_icmp_ne (tgt := 187) hx hb dL_acts_167 (by decide) (fun c167' => ?_) (fun c167' => ?_)
          · exact ((c167' r162)).elim
          · refine lv_aload_n hx hb dL_acts_170 rfl (lv_at hl 4 rfl) ?_
            refine lv_iconst (v := 0) hx hb dL_acts_171 (by decide) ?_
            refine lv_iconst (v := 0) hx hb dL_acts_172 (by decide) ?_
            refine lv_bipush (v := 6) hx hb dL_acts_173 (by decide) ?_
            refine wc_lc (vx_runSW (As := [.ref (ad 0), .int 0, .int 0, .int 6]) (rest := []) ⟨hx, hb, hml, hown, hts⟩ (c_L_cue l hl9 D cA sh ad M162' _ σ1 v hsh hXX 0 0 6 ) (vx_cwSW 4 hts gL_acts_L_cue rfl rfl rfl (by decide +kernel) ⟨Nat.le_of_ble_eq_true rfl, Nat.le_of_ble_eq_true rfl⟩) (lpreS hK hA hW hE hZ hE2) rfl rfl hl.1 rfl (lv_room (Nat.le_of_ble_eq_true rfl)) dL_acts_175 ⟨Nat.le_of_ble_eq_true rfl, Nat.le_of_ble_eq_true rfl⟩) hA hW (fun x175' sh ad M175' H locs hG1 p175' hA hW => ?_)
            rw [← (hG1.1 0 (ne_none (hX.1 0 (by decide)))).2] at hl
            rw [← (hG1.1 60 (ne_none (hMs 60 (by decide) (by decide)))).2] at hl
            rw [← (hG1.1 61 (ne_none (hMs 61 (by decide) (by decide)))).2] at hl
            rw [← (hG1.1 62 (ne_none (hMs 62 (by decide) (by decide)))).2] at hl
            rw [← (hG1.1 63 (ne_none (hMs 63 (by decide) (by decide)))).2] at hl
            rw [← (hG1.1 64 (ne_none (hMs 64 (by decide) (by decide)))).2] at hl
            rw [← (hG1.1 65 (ne_none (hMs 65 (by decide) (by decide)))).2] at hl
            rw [← (hG1.1 66 (ne_none (hMs 66 (by decide) (by decide)))).2] at hl
            have hG := hG.trans hG1
            try dsimp only at p175'
            obtain ⟨kp175, gg175⟩ := p175'
            obtain ⟨esh1, hXX, r175⟩ := cue_no gg175 (by decide)
            have hsh : sh = shL (aN σ1) := esh1
            have hL := hL.kp kp175
            have hX : XSh (aN σ1) sh := by rw [hsh]; exact shL_X _
            have hMs : LSh sh := by rw [hsh]; exact shL_LSh _
            refine lv_ldc (v := (-1000002)) hx hb hown (hts (.constant RL 18 (-1000002)) (List.mem_of_getElem? (i := 1) rfl)) dL_acts_178 ?_
            refine lv_icmp_ne (tgt := 187) hx hb dL_acts_180 (by decide) (fun c180' => ?_) (fun c180' => ?_)
            · exact ((c180' r175)).elim
            · refine lv_iconst (v := 1) hx hb dL_acts_183 (by decide) ?_
              refine lv_goto (tgt := 188) hx hb dL_acts_184 (by decide) ?_
              refine W.widen (k := 90) (n := 600) (by decide) (by decide) ?_
              rw [← hQ9]
              exact wr_lz hx hb hr hlocks hW dL_acts_188 rfl hG ⟨rfl, σ1, v, hsh, hXX, hL⟩
    refine lv_iload hx hb dL_acts_33 (lv_at hl 10 rfl) ?_
    refine lv_iconst (v := 4) hx hb dL_acts_35 (by decide) ?_
    refine wc_ri (va_runS (As := [.int xb, .int 4]) (rest := []) ⟨hx, hb, hml, hown, hts⟩ (c_L_low l xb 4 (by decide)) (va_cwS 2 hts gL_acts_L_low rfl rfl rfl (by decide +kernel) ⟨Nat.le_of_ble_eq_true rfl, Nat.le_of_ble_eq_true rfl⟩) npreS rfl rfl hl.1 rfl (lv_room (Nat.le_of_ble_eq_true rfl)) dL_acts_36 ⟨Nat.le_of_ble_eq_true rfl, Nat.le_of_ble_eq_true rfl⟩) hW (fun x36' H locs p36' hW => ?_)
    try dsimp only at p36'
    refine lv_if_ne (tgt := 54) hx hb dL_acts_39 (by decide) (fun c39' => ?_) (fun c39' => ?_)
    · refine lv_iload hx hb dL_acts_54 (lv_at hl 10 rfl) ?_
      refine lv_iconst (v := 2) hx hb dL_acts_56 (by decide) ?_
      refine lv_ishr hx hb dL_acts_57 ?_
      refine lv_topi (fun x57' e57' => ?_)
      refine lv_bipush (v := 12) hx hb dL_acts_58 (by decide) ?_
      refine wc_ri (va_runS (As := [.int x57', .int 12]) (rest := []) ⟨hx, hb, hml, hown, hts⟩ (c_L_low l x57' 12 (by decide)) (va_cwS 2 hts gL_acts_L_low rfl rfl rfl (by decide +kernel) ⟨Nat.le_of_ble_eq_true rfl, Nat.le_of_ble_eq_true rfl⟩) npreS rfl rfl hl.1 rfl (lv_room (Nat.le_of_ble_eq_true rfl)) dL_acts_60 ⟨Nat.le_of_ble_eq_true rfl, Nat.le_of_ble_eq_true rfl⟩) hW (fun x60' H locs p60' hW => ?_)
      try dsimp only at p60'
      obtain ⟨bb, hbb, ebb⟩ := low_n x57' (n := 12) (by decide) (by decide)
      have r60 : x60' = nI bb := p60'.trans ebb
      have n60' : x60' = nI bb := r60
      exact J63 x60' _ _ (by first | exact ⟨ba, by omega, r48⟩ | exact ⟨bb, by omega, r60⟩) hW ls (lv_sub hl [0, 1, 2, 3, 4, 5, 6, 7, 8, 9, 10] rfl)
    · refine lv_iload hx hb dL_acts_42 (lv_at hl 10 rfl) ?_
      refine lv_iconst (v := 2) hx hb dL_acts_44 (by decide) ?_
      refine lv_ishr hx hb dL_acts_45 ?_
      refine lv_topi (fun x45' e45' => ?_)
      refine lv_bipush (v := 101) hx hb dL_acts_46 (by decide) ?_
      refine wc_ri (va_runS (As := [.int x45', .int 101]) (rest := []) ⟨hx, hb, hml, hown, hts⟩ (c_L_low l x45' 101 (by decide)) (va_cwS 2 hts gL_acts_L_low rfl rfl rfl (by decide +kernel) ⟨Nat.le_of_ble_eq_true rfl, Nat.le_of_ble_eq_true rfl⟩) npreS rfl rfl hl.1 rfl (lv_room (Nat.le_of_ble_eq_true rfl)) dL_acts_48 ⟨Nat.le_of_ble_eq_true rfl, Nat.le_of_ble_eq_true rfl⟩) hW (fun x48' H locs p48' hW => ?_)
      try dsimp only at p48'
      obtain ⟨ba, hba, eba⟩ := low_n x45' (n := 101) (by decide) (by decide)
      have r48 : x48' = nI ba := p48'.trans eba
      have n48' : x48' = nI ba := r48
      refine lv_goto (tgt := 63) hx hb dL_acts_51 (by decide) ?_
      exact J63 x48' _ _ (by first | exact ⟨ba, by omega, r48⟩ | exact ⟨bb, by omega, r60⟩) hW ls (lv_sub hl [0, 1, 2, 3, 4, 5, 6, 7, 8, 9, 10] rfl)
  refine lv_aload hx hb dL_acts_9 (lv_at hl 8 rfl) ?_
  refine lv_iconst (v := 0) hx hb dL_acts_11 (by decide) ?_
  refine walI (j := 0) hx hb hK hW (hMs 66 (by decide) (by decide)) (nlit 0) (by omega) (by decide) dL_acts_12 (fun x12' e12' => ?_)
  have n12' : x12' = nI (aN σ) := (e12'.trans hL.2.2.2.2.2.2.1)
  refine lv_iconst (v := 4) hx hb dL_acts_13 (by decide) ?_
  refine lv_icmp_lt (tgt := 33) hx hb dL_acts_14 (by decide) (fun c14' => ?_) (fun c14' => ?_)
  · have k14' : (aN σ) < 4 := kc_lt n12' (nlit 4) (by omega) (by omega) c14'
    exact J33  _ _ (by omega) hW ls (lv_sub hl [0, 1, 2, 3, 4, 5, 6, 7, 8, 9, 10] rfl)
  · have k14' : ¬ (aN σ) < 4 := kc_ltn n12' (nlit 4) (by omega) (by omega) c14'
    have J189 : ∀ (H : Heap) (locs : List Loc), (4 ≤ aN σ) → WS D cA sh ad A s.heap M H locs → ∀ ls, lv_has ls 14 [(10, .int x4'), (0, .ref (ad 0)), (1, .ref (ad 60)), (2, .ref (ad 61)), (3, .ref (ad 62)), (4, .ref (ad 63)), (5, .ref (ad 64)), (6, .ref (ad 65)), (7, .ref (ad 66)), (8, .int xa), (9, .int xb)] → W p l e (headSpec wsL_acts { frames := 11, cells := 90, slots := 600, locals := 212 }).room s m ar below meth cd0 H locs 0 0 (MQ below Q9 ar s 90 600 A) (F0 m 189 ls []) := by
      intro H locs hn4 hW ls hl
      refine lv_iload hx hb dL_acts_189 (lv_at hl 0 rfl) ?_
      refine lv_bipush (v := 6) hx hb dL_acts_191 (by decide) ?_
      refine lv_icmp_ne (tgt := 334) hx hb dL_acts_193 (by decide) (fun c193' => ?_) (fun c193' => ?_)
      · have k193' : ¬ kn = 6 := kc_ne n4' (nlit 6) (by omega) (by omega) c193'
        refine lv_aload_n hx hb dL_acts_334 rfl (lv_at hl 1 rfl) ?_
        refine lv_aload_n hx hb dL_acts_335 rfl (lv_at hl 2 rfl) ?_
        refine lv_aload_n hx hb dL_acts_336 rfl (lv_at hl 3 rfl) ?_
        refine lv_aload_n hx hb dL_acts_337 rfl (lv_at hl 4 rfl) ?_
        refine lv_aload hx hb dL_acts_338 (lv_at hl 5 rfl) ?_
        refine lv_aload hx hb dL_acts_340 (lv_at hl 6 rfl) ?_
        refine lv_aload hx hb dL_acts_342 (lv_at hl 7 rfl) ?_
        refine lv_aload hx hb dL_acts_344 (lv_at hl 8 rfl) ?_
        refine lv_iload hx hb dL_acts_346 (lv_at hl 9 rfl) ?_
        refine lv_iconst (v := 4) hx hb dL_acts_348 (by decide) ?_
        refine lv_ishr hx hb dL_acts_349 ?_
        refine lv_topi (fun x349' e349' => ?_)
        refine lv_iload hx hb dL_acts_350 (lv_at hl 10 rfl) ?_
        refine wc_lc (va_runS (As := [.ref (ad 0), .ref (ad 60), .ref (ad 61), .ref (ad 62), .ref (ad 63), .ref (ad 64), .ref (ad 65), .ref (ad 66), .int x349', .int xb]) (rest := []) ⟨hx, hb, hml, hown, hts⟩ (c_L_sets l hl9 D cA sh ad M _ σ v hsh hXX hL x349' xb ) (va_cwS 10 hts gL_acts_L_sets rfl rfl rfl (by decide +kernel) ⟨Nat.le_of_ble_eq_true rfl, Nat.le_of_ble_eq_true rfl⟩) (lpreS hK hA hW hE hZ hE2) rfl rfl hl.1 rfl (lv_room (Nat.le_of_ble_eq_true rfl)) dL_acts_352 ⟨Nat.le_of_ble_eq_true rfl, Nat.le_of_ble_eq_true rfl⟩) hA hW (fun x352' sh ad M352' H locs hG1 p352' hA hW => ?_)
        rw [← (hG1.1 0 (ne_none (hX.1 0 (by decide)))).2] at hl
        rw [← (hG1.1 60 (ne_none (hMs 60 (by decide) (by decide)))).2] at hl
        rw [← (hG1.1 61 (ne_none (hMs 61 (by decide) (by decide)))).2] at hl
        rw [← (hG1.1 62 (ne_none (hMs 62 (by decide) (by decide)))).2] at hl
        rw [← (hG1.1 63 (ne_none (hMs 63 (by decide) (by decide)))).2] at hl
        rw [← (hG1.1 64 (ne_none (hMs 64 (by decide) (by decide)))).2] at hl
        rw [← (hG1.1 65 (ne_none (hMs 65 (by decide) (by decide)))).2] at hl
        rw [← (hG1.1 66 (ne_none (hMs 66 (by decide) (by decide)))).2] at hl
        have hG := hG.trans hG1
        try dsimp only at p352'
        obtain ⟨r352, σ9, v9, hsh9, hX9, hL9⟩ := p352'
        refine W.widen (k := 90) (n := 600) (by decide) (by decide) ?_
        rw [← hQ9]
        exact wr_lz hx hb hr hlocks hW dL_acts_355 (by rw [r352]; rfl) hG ⟨r352, σ9, v9, hsh9, hX9, hL9⟩
      · have k193' : kn = 6 := kc_nen n4' (nlit 6) (by omega) (by omega) c193'
        refine lv_iload hx hb dL_acts_196 (lv_at hl 10 rfl) ?_
        refine lv_aload hx hb dL_acts_198 (lv_at hl 8 rfl) ?_
        refine lv_iconst (v := 0) hx hb dL_acts_200 (by decide) ?_
        refine walI (j := 0) hx hb hK hW (hMs 66 (by decide) (by decide)) (nlit 0) (by omega) (by decide) dL_acts_201 (fun x201' e201' => ?_)
        have n201' : x201' = nI (aN σ) := (e201'.trans hL.2.2.2.2.2.2.1)
        refine wc_ri (va_runS (As := [.int xb, .int x201']) (rest := []) ⟨hx, hb, hml, hown, hts⟩ (c_L_low l xb x201' (fun z9 => low_ne (n := aN σ) (by omega) (by omega) (n201'.symm.trans z9))) (va_cwS 2 hts gL_acts_L_low rfl rfl rfl (by decide +kernel) ⟨Nat.le_of_ble_eq_true rfl, Nat.le_of_ble_eq_true rfl⟩) npreS rfl rfl hl.1 rfl (lv_room (Nat.le_of_ble_eq_true rfl)) dL_acts_202 ⟨Nat.le_of_ble_eq_true rfl, Nat.le_of_ble_eq_true rfl⟩) hW (fun x202' H locs p202' hW => ?_)
        try dsimp only at p202'
        rw [n201'] at p202'
        obtain ⟨ci, hci, eci⟩ := low_n xb (n := aN σ) (by omega) (by omega)
        have r202 : x202' = nI ci := p202'.trans eci
        have n1c : n1 x202' = ci := n1e r202 (by omega)
        have hcc := cc_lt ok hci
        have hctl := ctN_le (pres σ) 40
        have n202' : x202' = nI ci := r202
        refine lv_istore (lv' := [(11, .int x202'), (10, .int x4'), (0, .ref (ad 0)), (1, .ref (ad 60)), (2, .ref (ad 61)), (3, .ref (ad 62)), (4, .ref (ad 63)), (5, .ref (ad 64)), (6, .ref (ad 65)), (7, .ref (ad 66)), (8, .int xa), (9, .int xb)]) hx hb dL_acts_205 hl (by decide) rfl (fun ls hl => ?_)
        refine lv_aload_n hx hb dL_acts_207 rfl (lv_at hl 3 rfl) ?_
        refine lv_iload hx hb dL_acts_208 (lv_at hl 0 rfl) ?_
        refine walI (j := ci) hx hb hK hW (hMs 60 (by decide) (by decide)) n202' (by omega) (by decide) dL_acts_210 (fun x210' e210' => ?_)
        have n210' : x210' = nI (ccN σ ci) := (e210'.trans (hL.1 ci hci))
        refine lv_sipush (v := 4096) hx hb dL_acts_211 (by decide) ?_
        refine lv_icmp_ge (tgt := 221) hx hb dL_acts_214 (by decide) (fun c214' => ?_) (fun c214' => ?_)
        · have k214' : 4096 ≤ (ccN σ ci) := kc_ge n210' (nlit 4096) (by omega) (by omega) c214'
          have hgn : ¬ σ.2 10 ci = 0 := fun z9 => by have := hcc.2.1.mpr z9; omega
          refine lv_iconst (v := 0) hx hb dL_acts_221 (by decide) ?_
          refine lv_istore (lv' := [(12, .int 0), (11, .int x202'), (10, .int x4'), (0, .ref (ad 0)), (1, .ref (ad 60)), (2, .ref (ad 61)), (3, .ref (ad 62)), (4, .ref (ad 63)), (5, .ref (ad 64)), (6, .ref (ad 65)), (7, .ref (ad 66)), (8, .int xa), (9, .int xb)]) hx hb dL_acts_222 hl (by decide) rfl (fun ls hl => ?_)
          refine lv_aload hx hb dL_acts_224 (lv_at hl 10 rfl) ?_
          refine lv_iconst (v := 1) hx hb dL_acts_226 (by decide) ?_
          refine lv_dup2_11 hx hb dL_acts_227 rfl rfl ?_
          refine walI (j := 1) hx hb hK hW (hMs 66 (by decide) (by decide)) (nlit 1) (by omega) (by decide) dL_acts_228 (fun x228' e228' => ?_)
          have n228' : x228' = nI (ctN (pres σ) 40) := (e228'.trans hL.2.2.2.2.2.2.2.1)
          refine lv_iload hx hb dL_acts_229 (lv_at hl 0 rfl) ?_
          refine lv_if_eq (tgt := 238) hx hb dL_acts_231 (by decide) (fun c231' => ?_) (fun c231' => ?_)
          · have k231' : 0 = 0 := kc_eq (nlit 0) (nlit 0) (by omega) (by omega) c231'
            refine lv_iconst (v := 0) hx hb dL_acts_238 (by decide) ?_
            refine lv_isub hx hb dL_acts_239 ?_
            refine lv_topi (fun x239' e239' => ?_)
            have n239' : x239' = nI ((ctN (pres σ) 40) - 0) := (by rw [e239', n228', (nlit 0)]; exact pk_sub (by omega))
            refine wasI (j := 1) hx hb hK hA hW (hMs 66 (by decide) (by decide)) (nlit 1) (by omega) (by decide) dL_acts_240 (fun M240' H locs eM240 hW => ?_)
            refine lv_aload_n hx hb dL_acts_241 rfl (lv_at hl 4 rfl) ?_
            refine lv_iload hx hb dL_acts_242 (lv_at hl 1 rfl) ?_
            refine lv_dup2_11 hx hb dL_acts_244 rfl rfl ?_
            refine walI (j := ci) hx hb hK hW (hMs 60 (by decide) (by decide)) n202' (by omega) (by decide) dL_acts_245 (fun x245' e245' => ?_)
            have n245' : x245' = nI (ccN σ ci) := (e245'.trans (by rw [eM240, kp_sI (by omega)]; exact hL.1 ci hci))
            refine lv_iload hx hb dL_acts_246 (lv_at hl 0 rfl) ?_
            refine lv_if_eq (tgt := 257) hx hb dL_acts_248 (by decide) (fun c248' => ?_) (fun c248' => ?_)
            · have k248' : 0 = 0 := kc_eq (nlit 0) (nlit 0) (by omega) (by omega) c248'
              refine lv_iconst (v := 0) hx hb dL_acts_257 (by decide) ?_
              refine lv_iadd hx hb dL_acts_258 ?_
              refine lv_topi (fun x258' e258' => ?_)
              have n258' : x258' = nI ((ccN σ ci) + 0) := (by rw [e258', n245', (nlit 0), nI_add])
              refine wasI (j := ci) hx hb hK hA hW (hMs 60 (by decide) (by decide)) n202' (by omega) (by decide) dL_acts_259 (fun M259' H locs eM259 hW => ?_)
              have hXX : XX σ v M259' := by rw [eM259, eM240]; exact XX_sL (XX_sL hXX (by omega) (by omega)) (by omega) (by omega)
              have hL : LSt σ v M259' := LS_stay hci hL (by rw [eM259, kp_eq, n258', Nat.add_zero]) (by rw [eM259, kp_sI (by omega), eM240, kp_eq, n239', Nat.sub_zero]) (fun p9' j9 a9 b9 z1 z2 => by rw [eM259, kp_sI z1, eM240, kp_sI z2])
              refine lv_aload_n hx hb dL_acts_260 rfl (lv_at hl 3 rfl) ?_
              refine lv_iload hx hb dL_acts_261 (lv_at hl 1 rfl) ?_
              refine wc_wiN (vx_runSW (As := [.ref (ad 0), .int x202']) (rest := []) ⟨hx, hb, hml, hown, hts⟩ (c_L_cut l hl9 D cA sh ad M259' _ σ v hX hXX x202' ) (vx_cwSW 2 hts gL_acts_L_cut rfl rfl rfl (by decide +kernel) ⟨Nat.le_of_ble_eq_true rfl, Nat.le_of_ble_eq_true rfl⟩) (lpreS hK hA hW hE hZ hE2) rfl rfl hl.1 rfl (lv_room (Nat.le_of_ble_eq_true rfl)) dL_acts_263 ⟨Nat.le_of_ble_eq_true rfl, Nat.le_of_ble_eq_true rfl⟩) hA hW (fun x263' M263' H locs p263' hW => ?_)
              try dsimp only at p263'
              obtain ⟨kp263, gg263⟩ := p263'
              obtain ⟨r263, hXX⟩ := or_no gg263 (cu_n o1 r202 (by omega) (fun z9 => hgn z9.2))
              have hL := hL.kp kp263
              refine lv_iload hx hb dL_acts_266 (lv_at hl 0 rfl) ?_
              refine lv_if_eq (tgt := 278) hx hb dL_acts_268 (by decide) (fun c268' => ?_) (fun c268' => ?_)
              · have k268' : 0 = 0 := kc_eq (nlit 0) (nlit 0) (by omega) (by omega) c268'
                refine lv_ldc (v := (-1000001)) hx hb hown (hts (.constant RL 51 (-1000001)) (List.mem_of_getElem? (i := 2) rfl)) dL_acts_278 ?_
                refine lv_icmp_ne (tgt := 332) hx hb dL_acts_280 (by decide) (fun c280' => ?_) (fun c280' => ?_)
                · exact ((c280' r263)).elim
                · refine lv_aload_n hx hb dL_acts_283 rfl (lv_at hl 3 rfl) ?_
                  refine lv_iload hx hb dL_acts_284 (lv_at hl 1 rfl) ?_
                  refine wc_wiN (vx_runSW (As := [.ref (ad 0), .int x202']) (rest := []) ⟨hx, hb, hml, hown, hts⟩ (c_L_cut l hl9 D cA sh ad M263' _ σ v hX hXX x202') (vx_cwSW 2 hts gL_acts_L_cut rfl rfl rfl (by decide +kernel) ⟨Nat.le_of_ble_eq_true rfl, Nat.le_of_ble_eq_true rfl⟩) (lpreS hK hA hW hE hZ hE2) rfl rfl hl.1 rfl (lv_room (Nat.le_of_ble_eq_true rfl)) dL_acts_286 ⟨Nat.le_of_ble_eq_true rfl, Nat.le_of_ble_eq_true rfl⟩) hA hW (fun x286' M286' H locs p286' hW => ?_)
                  try dsimp only at p286'
                  obtain ⟨kp286, gg286⟩ := p286'
                  obtain ⟨r286, hXX⟩ := or_no gg286 (cu_n (show aN σ ≤ 40 by omega) r202 (by omega) (fun z9 => hgn z9.2))
                  have hL := hL.kp kp286
                  refine lv_ldc (v := (-1000001)) hx hb hown (hts (.constant RL 51 (-1000001)) (List.mem_of_getElem? (i := 2) rfl)) dL_acts_289 ?_
                  refine lv_icmp_ne (tgt := 332) hx hb dL_acts_291 (by decide) (fun c291' => ?_) (fun c291' => ?_)
                  · exact ((c291' r286)).elim
                  · refine lv_aload_n hx hb dL_acts_294 rfl (lv_at hl 3 rfl) ?_
                    refine lv_aload hx hb dL_acts_295 (lv_at hl 10 rfl) ?_
                    refine lv_iconst (v := 0) hx hb dL_acts_297 (by decide) ?_
                    refine walI (j := 0) hx hb hK hW (hMs 66 (by decide) (by decide)) (nlit 0) (by omega) (by decide) dL_acts_298 (fun x298' e298' => ?_)
                    refine wc_wiN (vx_runSW (As := [.ref (ad 0), .int x298']) (rest := []) ⟨hx, hb, hml, hown, hts⟩ (c_L_cut l hl9 D cA sh ad M286' _ σ v hX hXX x298') (vx_cwSW 2 hts gL_acts_L_cut rfl rfl rfl (by decide +kernel) ⟨Nat.le_of_ble_eq_true rfl, Nat.le_of_ble_eq_true rfl⟩) (lpreS hK hA hW hE hZ hE2) rfl rfl hl.1 rfl (lv_room (Nat.le_of_ble_eq_true rfl)) dL_acts_299 ⟨Nat.le_of_ble_eq_true rfl, Nat.le_of_ble_eq_true rfl⟩) hA hW (fun x299' M299' H locs p299' hW => ?_)
                    try dsimp only at p299'
                    have n298' : x298' = nI (aN σ) := e298'.trans hL.2.2.2.2.2.2.1
                    obtain ⟨kp299, gg299⟩ := p299'
                    obtain ⟨r299, hXX⟩ := or_no gg299 (cu_n (show aN σ ≤ 40 by omega) n298' (by omega) (fun z9 => absurd z9.1 (Nat.lt_irrefl _)))
                    have hL := hL.kp kp299
                    refine lv_ldc (v := (-1000001)) hx hb hown (hts (.constant RL 51 (-1000001)) (List.mem_of_getElem? (i := 2) rfl)) dL_acts_302 ?_
                    refine lv_icmp_ne (tgt := 332) hx hb dL_acts_304 (by decide) (fun c304' => ?_) (fun c304' => ?_)
                    · exact ((c304' r299)).elim
                    · refine lv_aload hx hb dL_acts_307 (lv_at hl 10 rfl) ?_
                      refine lv_iconst (v := 0) hx hb dL_acts_309 (by decide) ?_
                      refine walI (j := 0) hx hb hK hW (hMs 66 (by decide) (by decide)) (nlit 0) (by omega) (by decide) dL_acts_310 (fun x310' e310' => ?_)
                      have n310' : x310' = nI (aN σ) := e310'.trans hL.2.2.2.2.2.2.1
                      refine lv_bipush (v := 40) hx hb dL_acts_311 (by decide) ?_
                      refine lv_icmp_lt (tgt := 328) hx hb dL_acts_313 (by decide) (fun c313' => ?_) (fun c313' => ?_)
                      · have k313' : (aN σ) < 40 := kc_lt n310' (nlit 40) (by omega) (by omega) c313'
                        refine lv_iconst (v := 1) hx hb dL_acts_328 (by decide) ?_
                        refine lv_goto (tgt := 333) hx hb dL_acts_329 (by decide) ?_
                        refine W.widen (k := 90) (n := 600) (by decide) (by decide) ?_
                        rw [← hQ9]
                        exact wr_lz hx hb hr hlocks hW dL_acts_333 rfl hG ⟨rfl, σ, v, hsh, hXX, hL⟩
                      · have k313' : ¬ (aN σ) < 40 := kc_ltn n310' (nlit 40) (by omega) (by omega) c313'
                        refine lv_aload_n hx hb dL_acts_316 rfl (lv_at hl 3 rfl) ?_
                        refine lv_iconst (v := 0) hx hb dL_acts_317 (by decide) ?_
                        refine lv_iconst (v := 0) hx hb dL_acts_318 (by decide) ?_
                        refine lv_iconst (v := 0) hx hb dL_acts_319 (by decide) ?_
                        refine wc_lc (vx_runSW (As := [.ref (ad 0), .int 0, .int 0, .int 0]) (rest := []) ⟨hx, hb, hml, hown, hts⟩ (c_L_cue l hl9 D cA sh ad M299' _ σ v hsh hXX 0 0 0) (vx_cwSW 4 hts gL_acts_L_cue rfl rfl rfl (by decide +kernel) ⟨Nat.le_of_ble_eq_true rfl, Nat.le_of_ble_eq_true rfl⟩) (lpreS hK hA hW hE hZ hE2) rfl rfl hl.1 rfl (lv_room (Nat.le_of_ble_eq_true rfl)) dL_acts_320 ⟨Nat.le_of_ble_eq_true rfl, Nat.le_of_ble_eq_true rfl⟩) hA hW (fun x320' sh ad M320' H locs hG1 p320' hA hW => ?_)
                        rw [← (hG1.1 0 (ne_none (hX.1 0 (by decide)))).2] at hl
                        rw [← (hG1.1 60 (ne_none (hMs 60 (by decide) (by decide)))).2] at hl
                        rw [← (hG1.1 61 (ne_none (hMs 61 (by decide) (by decide)))).2] at hl
                        rw [← (hG1.1 62 (ne_none (hMs 62 (by decide) (by decide)))).2] at hl
                        rw [← (hG1.1 63 (ne_none (hMs 63 (by decide) (by decide)))).2] at hl
                        rw [← (hG1.1 64 (ne_none (hMs 64 (by decide) (by decide)))).2] at hl
                        rw [← (hG1.1 65 (ne_none (hMs 65 (by decide) (by decide)))).2] at hl
                        rw [← (hG1.1 66 (ne_none (hMs 66 (by decide) (by decide)))).2] at hl
                        have hG := hG.trans hG1
                        try dsimp only at p320'
                        obtain ⟨kp320, gg320⟩ := p320'
                        obtain ⟨esh1, hXX, r320⟩ := cue_full gg320 (by decide) (by omega)
                        have hsh : sh = shL (aN σ) := esh1
                        have hL := hL.kp kp320
                        have hX : XSh (aN σ) sh := by rw [hsh]; exact shL_X _
                        have hMs : LSh sh := by rw [hsh]; exact shL_LSh _
                        refine lv_ldc (v := (-1000003)) hx hb hown (hts (.constant RL 45 (-1000003)) (List.mem_of_getElem? (i := 3) rfl)) dL_acts_323 ?_
                        refine lv_icmp_ne (tgt := 332) hx hb dL_acts_325 (by decide) (fun c325' => ?_) (fun c325' => ?_)
                        · exact ((c325' r320)).elim
                        · refine lv_iconst (v := 1) hx hb dL_acts_328 (by decide) ?_
                          refine lv_goto (tgt := 333) hx hb dL_acts_329 (by decide) ?_
                          refine W.widen (k := 90) (n := 600) (by decide) (by decide) ?_
                          rw [← hQ9]
                          exact wr_lz hx hb hr hlocks hW dL_acts_333 rfl hG ⟨rfl, σ, v, hsh, hXX, hL⟩
              · have k268' : ¬ 0 = 0 := kc_eqn (nlit 0) (nlit 0) (by omega) (by omega) c268'
                exact ((show False from by omega)).elim
            · have k248' : ¬ 0 = 0 := kc_eqn (nlit 0) (nlit 0) (by omega) (by omega) c248'
              exact ((show False from by omega)).elim
          · have k231' : ¬ 0 = 0 := kc_eqn (nlit 0) (nlit 0) (by omega) (by omega) c231'
            exact ((show False from by omega)).elim
        · have k214' : ¬ 4096 ≤ (ccN σ ci) := kc_gen n210' (nlit 4096) (by omega) (by omega) c214'
          have hg : σ.2 10 ci = 0 := hcc.2.1.mp (by omega)
          have hct := cut_ct o1 hci hg
          refine lv_iconst (v := 1) hx hb dL_acts_217 (by decide) ?_
          refine lv_goto (tgt := 222) hx hb dL_acts_218 (by decide) ?_
          refine lv_istore (lv' := [(12, .int 1), (11, .int x202'), (10, .int x4'), (0, .ref (ad 0)), (1, .ref (ad 60)), (2, .ref (ad 61)), (3, .ref (ad 62)), (4, .ref (ad 63)), (5, .ref (ad 64)), (6, .ref (ad 65)), (7, .ref (ad 66)), (8, .int xa), (9, .int xb)]) hx hb dL_acts_222 hl (by decide) rfl (fun ls hl => ?_)
          refine lv_aload hx hb dL_acts_224 (lv_at hl 10 rfl) ?_
          refine lv_iconst (v := 1) hx hb dL_acts_226 (by decide) ?_
          refine lv_dup2_11 hx hb dL_acts_227 rfl rfl ?_
          refine walI (j := 1) hx hb hK hW (hMs 66 (by decide) (by decide)) (nlit 1) (by omega) (by decide) dL_acts_228 (fun x228' e228' => ?_)
          have n228' : x228' = nI (ctN (pres σ) 40) := (e228'.trans hL.2.2.2.2.2.2.2.1)
          refine lv_iload hx hb dL_acts_229 (lv_at hl 0 rfl) ?_
          refine lv_if_eq (tgt := 238) hx hb dL_acts_231 (by decide) (fun c231' => ?_) (fun c231' => ?_)
          · have k231' : 1 = 0 := kc_eq (nlit 1) (nlit 0) (by omega) (by omega) c231'
            exact ((show False from by omega)).elim
          · have k231' : ¬ 1 = 0 := kc_eqn (nlit 1) (nlit 0) (by omega) (by omega) c231'
            refine lv_iconst (v := 1) hx hb dL_acts_234 (by decide) ?_
            refine lv_goto (tgt := 239) hx hb dL_acts_235 (by decide) ?_
            refine lv_isub hx hb dL_acts_239 ?_
            refine lv_topi (fun x239' e239' => ?_)
            have n239' : x239' = nI ((ctN (pres σ) 40) - 1) := (by rw [e239', n228', (nlit 1)]; exact pk_sub (by omega))
            refine wasI (j := 1) hx hb hK hA hW (hMs 66 (by decide) (by decide)) (nlit 1) (by omega) (by decide) dL_acts_240 (fun M240' H locs eM240 hW => ?_)
            refine lv_aload_n hx hb dL_acts_241 rfl (lv_at hl 4 rfl) ?_
            refine lv_iload hx hb dL_acts_242 (lv_at hl 1 rfl) ?_
            refine lv_dup2_11 hx hb dL_acts_244 rfl rfl ?_
            refine walI (j := ci) hx hb hK hW (hMs 60 (by decide) (by decide)) n202' (by omega) (by decide) dL_acts_245 (fun x245' e245' => ?_)
            have n245' : x245' = nI (ccN σ ci) := (e245'.trans (by rw [eM240, kp_sI (by omega)]; exact hL.1 ci hci))
            refine lv_iload hx hb dL_acts_246 (lv_at hl 0 rfl) ?_
            refine lv_if_eq (tgt := 257) hx hb dL_acts_248 (by decide) (fun c248' => ?_) (fun c248' => ?_)
            · have k248' : 1 = 0 := kc_eq (nlit 1) (nlit 0) (by omega) (by omega) c248'
              exact ((show False from by omega)).elim
            · have k248' : ¬ 1 = 0 := kc_eqn (nlit 1) (nlit 0) (by omega) (by omega) c248'
              refine lv_sipush (v := 4096) hx hb dL_acts_251 (by decide) ?_
              refine lv_goto (tgt := 258) hx hb dL_acts_254 (by decide) ?_
              refine lv_iadd hx hb dL_acts_258 ?_
              refine lv_topi (fun x258' e258' => ?_)
              have n258' : x258' = nI ((ccN σ ci) + 4096) := (by rw [e258', n245', (nlit 4096), nI_add])
              refine wasI (j := ci) hx hb hK hA hW (hMs 60 (by decide) (by decide)) n202' (by omega) (by decide) dL_acts_259 (fun M259' H locs eM259 hW => ?_)
              have hXX : XX σ v M259' := by rw [eM259, eM240]; exact XX_sL (XX_sL hXX (by omega) (by omega)) (by omega) (by omega)
              have hLc : LSt (oCut σ ci) v M259' := LS_cut o1 hci hg hL (by rw [eM259, kp_eq, n258']) (by rw [eM259, kp_sI (by omega), eM240, kp_eq, n239']) (fun p9' j9 a9 b9 z1 z2 => by rw [eM259, kp_sI z1, eM240, kp_sI z2])
              refine lv_aload_n hx hb dL_acts_260 rfl (lv_at hl 3 rfl) ?_
              refine lv_iload hx hb dL_acts_261 (lv_at hl 1 rfl) ?_
              refine wc_wiN (vx_runSW (As := [.ref (ad 0), .int x202']) (rest := []) ⟨hx, hb, hml, hown, hts⟩ (c_L_cut l hl9 D cA sh ad M259' _ σ v hX hXX x202' ) (vx_cwSW 2 hts gL_acts_L_cut rfl rfl rfl (by decide +kernel) ⟨Nat.le_of_ble_eq_true rfl, Nat.le_of_ble_eq_true rfl⟩) (lpreS hK hA hW hE hZ hE2) rfl rfl hl.1 rfl (lv_room (Nat.le_of_ble_eq_true rfl)) dL_acts_263 ⟨Nat.le_of_ble_eq_true rfl, Nat.le_of_ble_eq_true rfl⟩) hA hW (fun x263' M263' H locs p263' hW => ?_)
              try dsimp only at p263'
              obtain ⟨kp263, gg263⟩ := p263'
              obtain ⟨r263, hXX⟩ := or_ok gg263 (cu_y r202 hci hg)
              rw [n1c] at r263 hXX
              obtain ⟨σ1, esσ1⟩ : ∃ z9, z9 = oCut σ ci := ⟨_, rfl⟩
              rw [← esσ1] at hXX hLc r263
              have hn1 : aN σ1 = aN σ := by rw [esσ1]; rfl
              have hg1 : σ1.2 10 ci = 1 := by rw [esσ1]; simp [oCut, uN]
              have hX : XSh (aN σ1) sh := by rw [hn1]; exact hX
              have hsh : sh = shL (aN σ1) := by rw [hn1]; exact hsh
              have hL := hLc.kp kp263
              refine lv_iload hx hb dL_acts_266 (lv_at hl 0 rfl) ?_
              refine lv_if_eq (tgt := 278) hx hb dL_acts_268 (by decide) (fun c268' => ?_) (fun c268' => ?_)
              · have k268' : 1 = 0 := kc_eq (nlit 1) (nlit 0) (by omega) (by omega) c268'
                exact ((show False from by omega)).elim
              · have k268' : ¬ 1 = 0 := kc_eqn (nlit 1) (nlit 0) (by omega) (by omega) c268'
                refine lv_aload hx hb dL_acts_271 (lv_at hl 10 rfl) ?_
                refine lv_iconst (v := 1) hx hb dL_acts_273 (by decide) ?_
                refine walI (j := 1) hx hb hK hW (hMs 66 (by decide) (by decide)) (nlit 1) (by omega) (by decide) dL_acts_274 (fun x274' e274' => ?_)
                refine lv_goto (tgt := 280) hx hb dL_acts_275 (by decide) ?_
                refine lv_icmp_ne (tgt := 332) hx hb dL_acts_280 (by decide) (fun c280' => ?_) (fun c280' => ?_)
                · exact ((c280' (r263.trans (e274'.trans hL.2.2.2.2.2.2.2.1).symm))).elim
                · refine lv_aload_n hx hb dL_acts_283 rfl (lv_at hl 3 rfl) ?_
                  refine lv_iload hx hb dL_acts_284 (lv_at hl 1 rfl) ?_
                  refine wc_wiN (vx_runSW (As := [.ref (ad 0), .int x202']) (rest := []) ⟨hx, hb, hml, hown, hts⟩ (c_L_cut l hl9 D cA sh ad M263' _ σ1 v hX hXX x202') (vx_cwSW 2 hts gL_acts_L_cut rfl rfl rfl (by decide +kernel) ⟨Nat.le_of_ble_eq_true rfl, Nat.le_of_ble_eq_true rfl⟩) (lpreS hK hA hW hE hZ hE2) rfl rfl hl.1 rfl (lv_room (Nat.le_of_ble_eq_true rfl)) dL_acts_286 ⟨Nat.le_of_ble_eq_true rfl, Nat.le_of_ble_eq_true rfl⟩) hA hW (fun x286' M286' H locs p286' hW => ?_)
                  try dsimp only at p286'
                  obtain ⟨kp286, gg286⟩ := p286'
                  obtain ⟨r286, hXX⟩ := or_no gg286 (cu_n (show aN σ1 ≤ 40 by omega) r202 (by omega) (fun z9 => by have := z9.2; omega))
                  have hL := hL.kp kp286
                  refine lv_ldc (v := (-1000001)) hx hb hown (hts (.constant RL 51 (-1000001)) (List.mem_of_getElem? (i := 2) rfl)) dL_acts_289 ?_
                  refine lv_icmp_ne (tgt := 332) hx hb dL_acts_291 (by decide) (fun c291' => ?_) (fun c291' => ?_)
                  · exact ((c291' r286)).elim
                  · refine lv_aload_n hx hb dL_acts_294 rfl (lv_at hl 3 rfl) ?_
                    refine lv_aload hx hb dL_acts_295 (lv_at hl 10 rfl) ?_
                    refine lv_iconst (v := 0) hx hb dL_acts_297 (by decide) ?_
                    refine walI (j := 0) hx hb hK hW (hMs 66 (by decide) (by decide)) (nlit 0) (by omega) (by decide) dL_acts_298 (fun x298' e298' => ?_)
                    refine wc_wiN (vx_runSW (As := [.ref (ad 0), .int x298']) (rest := []) ⟨hx, hb, hml, hown, hts⟩ (c_L_cut l hl9 D cA sh ad M286' _ σ1 v hX hXX x298') (vx_cwSW 2 hts gL_acts_L_cut rfl rfl rfl (by decide +kernel) ⟨Nat.le_of_ble_eq_true rfl, Nat.le_of_ble_eq_true rfl⟩) (lpreS hK hA hW hE hZ hE2) rfl rfl hl.1 rfl (lv_room (Nat.le_of_ble_eq_true rfl)) dL_acts_299 ⟨Nat.le_of_ble_eq_true rfl, Nat.le_of_ble_eq_true rfl⟩) hA hW (fun x299' M299' H locs p299' hW => ?_)
                    try dsimp only at p299'
                    have n298' : x298' = nI (aN σ1) := e298'.trans hL.2.2.2.2.2.2.1
                    obtain ⟨kp299, gg299⟩ := p299'
                    obtain ⟨r299, hXX⟩ := or_no gg299 (cu_n (show aN σ1 ≤ 40 by omega) n298' (by omega) (fun z9 => absurd z9.1 (Nat.lt_irrefl _)))
                    have hL := hL.kp kp299
                    refine lv_ldc (v := (-1000001)) hx hb hown (hts (.constant RL 51 (-1000001)) (List.mem_of_getElem? (i := 2) rfl)) dL_acts_302 ?_
                    refine lv_icmp_ne (tgt := 332) hx hb dL_acts_304 (by decide) (fun c304' => ?_) (fun c304' => ?_)
                    · exact ((c304' r299)).elim
                    · refine lv_aload hx hb dL_acts_307 (lv_at hl 10 rfl) ?_
                      refine lv_iconst (v := 0) hx hb dL_acts_309 (by decide) ?_
                      refine walI (j := 0) hx hb hK hW (hMs 66 (by decide) (by decide)) (nlit 0) (by omega) (by decide) dL_acts_310 (fun x310' e310' => ?_)
                      have n310' : x310' = nI (aN σ1) := e310'.trans hL.2.2.2.2.2.2.1
                      refine lv_bipush (v := 40) hx hb dL_acts_311 (by decide) ?_
                      refine lv_icmp_lt (tgt := 328) hx hb dL_acts_313 (by decide) (fun c313' => ?_) (fun c313' => ?_)
                      · have k313' : (aN σ1) < 40 := kc_lt n310' (nlit 40) (by omega) (by omega) c313'
                        refine lv_iconst (v := 1) hx hb dL_acts_328 (by decide) ?_
                        refine lv_goto (tgt := 333) hx hb dL_acts_329 (by decide) ?_
                        refine W.widen (k := 90) (n := 600) (by decide) (by decide) ?_
                        rw [← hQ9]
                        exact wr_lz hx hb hr hlocks hW dL_acts_333 rfl hG ⟨rfl, σ1, v, hsh, hXX, hL⟩
                      · have k313' : ¬ (aN σ1) < 40 := kc_ltn n310' (nlit 40) (by omega) (by omega) c313'
                        refine lv_aload_n hx hb dL_acts_316 rfl (lv_at hl 3 rfl) ?_
                        refine lv_iconst (v := 0) hx hb dL_acts_317 (by decide) ?_
                        refine lv_iconst (v := 0) hx hb dL_acts_318 (by decide) ?_
                        refine lv_iconst (v := 0) hx hb dL_acts_319 (by decide) ?_
                        refine wc_lc (vx_runSW (As := [.ref (ad 0), .int 0, .int 0, .int 0]) (rest := []) ⟨hx, hb, hml, hown, hts⟩ (c_L_cue l hl9 D cA sh ad M299' _ σ1 v hsh hXX 0 0 0) (vx_cwSW 4 hts gL_acts_L_cue rfl rfl rfl (by decide +kernel) ⟨Nat.le_of_ble_eq_true rfl, Nat.le_of_ble_eq_true rfl⟩) (lpreS hK hA hW hE hZ hE2) rfl rfl hl.1 rfl (lv_room (Nat.le_of_ble_eq_true rfl)) dL_acts_320 ⟨Nat.le_of_ble_eq_true rfl, Nat.le_of_ble_eq_true rfl⟩) hA hW (fun x320' sh ad M320' H locs hG1 p320' hA hW => ?_)
                        rw [← (hG1.1 0 (ne_none (hX.1 0 (by decide)))).2] at hl
                        rw [← (hG1.1 60 (ne_none (hMs 60 (by decide) (by decide)))).2] at hl
                        rw [← (hG1.1 61 (ne_none (hMs 61 (by decide) (by decide)))).2] at hl
                        rw [← (hG1.1 62 (ne_none (hMs 62 (by decide) (by decide)))).2] at hl
                        rw [← (hG1.1 63 (ne_none (hMs 63 (by decide) (by decide)))).2] at hl
                        rw [← (hG1.1 64 (ne_none (hMs 64 (by decide) (by decide)))).2] at hl
                        rw [← (hG1.1 65 (ne_none (hMs 65 (by decide) (by decide)))).2] at hl
                        rw [← (hG1.1 66 (ne_none (hMs 66 (by decide) (by decide)))).2] at hl
                        have hG := hG.trans hG1
                        try dsimp only at p320'
                        obtain ⟨kp320, gg320⟩ := p320'
                        obtain ⟨esh1, hXX, r320⟩ := cue_full gg320 (by decide) (by omega)
                        have hsh : sh = shL (aN σ1) := esh1
                        have hL := hL.kp kp320
                        have hX : XSh (aN σ1) sh := by rw [hsh]; exact shL_X _
                        have hMs : LSh sh := by rw [hsh]; exact shL_LSh _
                        refine lv_ldc (v := (-1000003)) hx hb hown (hts (.constant RL 45 (-1000003)) (List.mem_of_getElem? (i := 3) rfl)) dL_acts_323 ?_
                        refine lv_icmp_ne (tgt := 332) hx hb dL_acts_325 (by decide) (fun c325' => ?_) (fun c325' => ?_)
                        · exact ((c325' r320)).elim
                        · refine lv_iconst (v := 1) hx hb dL_acts_328 (by decide) ?_
                          refine lv_goto (tgt := 333) hx hb dL_acts_329 (by decide) ?_
                          refine W.widen (k := 90) (n := 600) (by decide) (by decide) ?_
                          rw [← hQ9]
                          exact wr_lz hx hb hr hlocks hW dL_acts_333 rfl hG ⟨rfl, σ1, v, hsh, hXX, hL⟩
    refine lv_iload hx hb dL_acts_17 (lv_at hl 0 rfl) ?_
    refine lv_bipush (v := 6) hx hb dL_acts_19 (by decide) ?_
    refine lv_icmp_ge (tgt := 189) hx hb dL_acts_21 (by decide) (fun c21' => ?_) (fun c21' => ?_)
    · have k21' : 6 ≤ kn := kc_ge n4' (nlit 6) (by omega) (by omega) c21'
      exact J189  _ _ (by omega) hW ls (lv_sub hl [0, 1, 2, 3, 4, 5, 6, 7, 8, 9, 10] rfl)
    · have k21' : ¬ 6 ≤ kn := kc_gen n4' (nlit 6) (by omega) (by omega) c21'
      refine lv_aload hx hb dL_acts_24 (lv_at hl 8 rfl) ?_
      refine lv_iconst (v := 0) hx hb dL_acts_26 (by decide) ?_
      refine walI (j := 0) hx hb hK hW (hMs 66 (by decide) (by decide)) (nlit 0) (by omega) (by decide) dL_acts_27 (fun x27' e27' => ?_)
      have n27' : x27' = nI (aN σ) := (e27'.trans hL.2.2.2.2.2.2.1)
      refine lv_bipush (v := 40) hx hb dL_acts_28 (by decide) ?_
      refine lv_icmp_ge (tgt := 189) hx hb dL_acts_30 (by decide) (fun c30' => ?_) (fun c30' => ?_)
      · have k30' : 40 ≤ (aN σ) := kc_ge n27' (nlit 40) (by omega) (by omega) c30'
        exact J189  _ _ (by omega) hW ls (lv_sub hl [0, 1, 2, 3, 4, 5, 6, 7, 8, 9, 10] rfl)
      · have k30' : ¬ 40 ≤ (aN σ) := kc_gen n27' (nlit 40) (by omega) (by omega) c30'
        exact J33  _ _ (by omega) hW ls (lv_sub hl [0, 1, 2, 3, 4, 5, 6, 7, 8, 9, 10] rfl)

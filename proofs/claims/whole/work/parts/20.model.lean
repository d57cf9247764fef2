/-! The reference's cells. -/
/-- rounding down, as the reference does it -/
def dwn (v : Int32) : Int32 := if v < 0 then -((99 - v) / 100) else v / 100
theorem dwn100 {x : Int32} (h1 : -900000 ≤ x.toInt) (h2 : x.toInt ≤ 900000) : (dwn x).toInt = x.toInt / 100 := by
  have z0 : (0 : Int32).toInt = 0 := rfl
  have z99 : (99 : Int32).toInt = 99 := rfl
  unfold dwn
  by_cases h : x < 0
  · rw [if_pos h]
    rw [i32lt, z0] at h
    have e1 : (99 - x).toInt = 99 - x.toInt := by rw [i32sub] <;> rw [z99] <;> omega
    have e2 : ((99 - x) / 100).toInt = (99 - x.toInt) / 100 := by
      have := div100 (x := 99 - x) (by rw [e1]; omega) 
      rw [this (by rw [e1]; omega), e1, if_pos (by omega)]
    rw [Int32.toInt_neg, e2, i32bm] <;> omega
  · rw [if_neg h]
    rw [i32lt, z0] at h
    rw [div100 (by omega) (by omega), if_pos (by omega)]
/-- which exception is thrown -/
def thr (a b : Bool) : Nat := if a = false then 1 else if b = false then 2 else 0
def MR (σ : AS) (M : MS) : Prop :=
  (∀ k, k < 64 → gI M 72 k = σ.1 0 k) ∧ True ∧ (∀ r, r < 6 → gI M 61 r = nI (8 * σ.2 1 r + σ.2 0 r)) ∧
  (∀ k, k < 4 → gI M 62 k = σ.1 2 k ∧ gI M 63 k = σ.1 3 k ∧ gI M 64 k = nI (σ.2 2 k) ∧ gI M 65 k = nI (liftN (σ.1 2 k) (σ.1 3 k) (σ.2 11 k)) ∧ gI M 66 k = nI (σ.2 11 k) ∧ gI M 67 k = (hsq (σ.1 2 k) (σ.1 3 k) (liftN (σ.1 2 k) (σ.1 3 k) (σ.2 11 k))).2.1 ∧
    ∀ y, y < 4 → gI M 68 (4 * k + y) = nI (cntN (σ.1 2 k) (σ.1 3 k) (σ.2 11 k) y) ∧ gI M 69 (4 * k + y) = nI (cntN (σ.1 2 k) (σ.1 3 k) (liftN (σ.1 2 k) (σ.1 3 k) (σ.2 11 k)) y)) ∧
  (∀ y, y < 4 → gI M 70 y = σ.1 4 y ∧ gI M 71 y = σ.1 5 y) ∧ True ∧ (∀ c, c < 32 → gI M 75 c = nI (σ.2 3 c)) ∧ gI M 60 15 = nI (σ.2 4 0) ∧ gI M 60 16 = nI (σ.2 5 0) ∧ gI M 60 17 = nI (aN σ) ∧
  (∀ i, i < 40 → gI M 79 i = nI (σ.2 10 i)) ∧ (∀ i, i < aN σ → gI M 76 i = nI (σ.2 7 i) ∧ gI M 77 i = nI (σ.2 8 i) ∧ gI M 78 i = nI (σ.2 9 i))
def MRs (p k : Nat) : Prop := (61 ≤ p ∧ p ≤ 72) ∨ p = 75 ∨ (p = 60 ∧ (k = 15 ∨ k = 16 ∨ k = 17)) ∨ (76 ≤ p ∧ p ≤ 79)
theorem MR.oI {σ : AS} {M M' : MS} {S : Nat → Nat → Prop} (h : MR σ M) (o : oI S M M') (hs : ∀ p k, MRs p k → ¬ S p k) : MR σ M' := by
  obtain ⟨a1, a2, a3, a4, a5, a6, a7, a8, a9, a10, a11, a12⟩ := h
  have F : ∀ p k, MRs p k → gI M' p k = gI M p k := fun p k hx => o.1 p k (hs p k hx)
  refine ⟨fun k hk => (F _ _ (by unfold MRs; omega)).trans (a1 k hk), trivial, fun r hr => (F _ _ (by unfold MRs; omega)).trans (a3 r hr), fun k hk => ?_, fun y hy => ⟨(F _ _ (by unfold MRs; omega)).trans (a5 y hy).1, (F _ _ (by unfold MRs; omega)).trans (a5 y hy).2⟩, trivial, fun c hc => (F _ _ (by unfold MRs; omega)).trans (a7 c hc), (F _ _ (by unfold MRs; omega)).trans a8, (F _ _ (by unfold MRs; omega)).trans a9, (F _ _ (by unfold MRs; omega)).trans a10, fun i hi => (F _ _ (by unfold MRs; omega)).trans (a11 i hi), fun i hi => ⟨(F _ _ (by unfold MRs; omega)).trans (a12 i hi).1, (F _ _ (by unfold MRs; omega)).trans (a12 i hi).2.1, (F _ _ (by unfold MRs; omega)).trans (a12 i hi).2.2⟩⟩
  obtain ⟨b1, b2, b3, b4, b5, b6, b7⟩ := a4 k hk
  exact ⟨(F _ _ (by unfold MRs; omega)).trans b1, (F _ _ (by unfold MRs; omega)).trans b2, (F _ _ (by unfold MRs; omega)).trans b3, (F _ _ (by unfold MRs; omega)).trans b4, (F _ _ (by unfold MRs; omega)).trans b5, (F _ _ (by unfold MRs; omega)).trans b6, fun y hy => ⟨(F _ _ (by unfold MRs; omega)).trans (b7 y hy).1, (F _ _ (by unfold MRs; omega)).trans (b7 y hy).2⟩⟩
/-- a distance, as the reference tells it -/
def fltN (σ : AS) (i : Nat) (al : Bool) : Nat := if al = true then σ.2 11 (σ.2 8 i) else liA σ i
def dsA (σ : AS) (i : Nat) (dn al : Bool) (y : Nat) : Int32 := (100 * nI (σ.2 (if dn = true then 1 else 0) (σ.2 9 i)) + 50) + drC σ (σ.2 8 i) (if dn = true then 5 else 4) (fltN σ i al) y
theorem dsA_X (σ : AS) (i : Nat) : dsA σ i false true 4 = falX σ i := by
  unfold dsA falX fltN
  rw [Int32.mul_comm 100, drA_C]; rfl
theorem dsA_Y (σ : AS) (i : Nat) : dsA σ i true true 4 = falY σ i := by
  unfold dsA falY fltN
  rw [Int32.mul_comm 100, drA_C]; rfl
theorem dsA_bX (σ : AS) (i : Nat) : dsA σ i false false 4 = mX σ i + drC σ (σ.2 8 i) 4 (liA σ i) 4 := by
  unfold dsA mX fltN
  rw [Int32.mul_comm 100]; rfl
theorem dsA_bY (σ : AS) (i : Nat) : dsA σ i true false 4 = mY σ i + drC σ (σ.2 8 i) 5 (liA σ i) 4 := by
  unfold dsA mY fltN
  rw [Int32.mul_comm 100]; rfl
/-- the reference's whole relation -/
def MX (σ : AS) (v : VT) (M : MS) : Prop := AOK σ ∧ MR σ M ∧ (∀ k, k < 64 → gI M 73 k = v.1 k) ∧ ∀ k, k < 10 → gI M 74 k = v.2 k
set_option maxHeartbeats 4000000 in
set_option maxRecDepth 100000 in
theorem c_X10_in (l : Launch) (v lo hi : Int32) : Met l yX10_in wsX10_in ({ frames := 0, cells := 0, slots := 0, locals := 0 }) (nPc [.int v, .int lo, .int hi]) (rQi (fun r => r = bI (inB v lo hi))) 0 0 nA := by
  refine Met.ofW (cc := cX10_in) (maxL := 3) (ret := (some .boolean)) (by decide) rfl ?_
  intro p e s m args below meth cd0 s₁ B hml hv
  obtain ⟨rfl, -⟩ := hv
  have hx := B.exec
  have hb := B.bytes
  have hr := B.returns
  have hts := atoms_spec (ws := wsX10_in) B.pre
  have hown : s.vm.findClass RX10 = some m.cls := findClass_of_methodNamed B.named
  have hlocks := B.notSynchronized
  obtain ⟨A, eA⟩ : ∃ A : Nat → Prop, A = nA := ⟨_, rfl⟩
  have hW := nWS s
  obtain ⟨D, cA, sh, ad, m0, hW⟩ := hW
  rw [← eA] at hW
  subst eA
  have hl := lv_entry ([.int v, .int lo, .int hi]) (n := 3) (Nat.le_of_ble_eq_true rfl)
  rw [lg_entry_eq]
  generalize (lg_sl ([.int v, .int lo, .int hi]) ++ List.replicate (3 - (lg_sl ([.int v, .int lo, .int hi])).length) Slot.unset).toArray = ls at hl ⊢
  have hl : lv_has ls 3 [(0, .int v), (1, .int lo), (2, .int hi)] := hl
  refine lv_iload_n hx hb dX10_in_0 rfl (lv_at hl 0 rfl) ?_
  refine lv_iload_n hx hb dX10_in_1 rfl (lv_at hl 1 rfl) ?_
  refine lv_icmp_lt (tgt := 14) hx hb dX10_in_2 (by decide) (fun c2 => ?_) (fun c2 => ?_)
  · refine lv_iconst (v := 0) hx hb dX10_in_14 (by decide) ?_
    exact wr_rz hx hb hr hlocks hW.2 dX10_in_15 rfl (by rw [inB_f (by first | exact Or.inr c7 | exact Or.inl c2)]; rfl)
  · refine lv_iload_n hx hb dX10_in_5 rfl (lv_at hl 0 rfl) ?_
    refine lv_iload_n hx hb dX10_in_6 rfl (lv_at hl 2 rfl) ?_
    refine lv_icmp_gt (tgt := 14) hx hb dX10_in_7 (by decide) (fun c7 => ?_) (fun c7 => ?_)
    · refine lv_iconst (v := 0) hx hb dX10_in_14 (by decide) ?_
      exact wr_rz hx hb hr hlocks hW.2 dX10_in_15 rfl (by rw [inB_f (by first | exact Or.inr c7 | exact Or.inl c2)]; rfl)
    · refine lv_iconst (v := 1) hx hb dX10_in_10 (by decide) ?_
      refine lv_goto (tgt := 15) hx hb dX10_in_11 (by decide) ?_
      exact wr_rz hx hb hr hlocks hW.2 dX10_in_15 rfl (by rw [inB_t (fun q => q.elim c2 c7)]; rfl)
set_option maxHeartbeats 4000000 in
set_option maxRecDepth 100000 in
theorem c_X10_isKind (l : Launch) (v : Int32) : Met l yX10_isKind wsX10_isKind ({ frames := 1, cells := 0, slots := 0, locals := 22 }) (nPc [.int v]) (rQi (fun r => r = bI (inB v 0 3))) 0 0 nA := by
  refine Met.ofW (cc := cX10_isKind) (maxL := 1) (ret := (some .boolean)) (by decide) rfl ?_
  intro p e s m args below meth cd0 s₁ B hml hv
  obtain ⟨rfl, -⟩ := hv
  have hx := B.exec
  have hb := B.bytes
  have hr := B.returns
  have hts := atoms_spec (ws := wsX10_isKind) B.pre
  have hown : s.vm.findClass RX10 = some m.cls := findClass_of_methodNamed B.named
  have hlocks := B.notSynchronized
  obtain ⟨A, eA⟩ : ∃ A : Nat → Prop, A = nA := ⟨_, rfl⟩
  have hW := nWS s
  obtain ⟨D, cA, sh, ad, m0, hW⟩ := hW
  rw [← eA] at hW
  subst eA
  have hl := lv_entry ([.int v]) (n := 1) (Nat.le_of_ble_eq_true rfl)
  rw [lg_entry_eq]
  generalize (lg_sl ([.int v]) ++ List.replicate (1 - (lg_sl ([.int v])).length) Slot.unset).toArray = ls at hl ⊢
  have hl : lv_has ls 1 [(0, .int v)] := hl
  refine lv_iload_n hx hb dX10_isKind_0 rfl (lv_at hl 0 rfl) ?_
  refine lv_iconst (v := 0) hx hb dX10_isKind_1 (by decide) ?_
  refine lv_iconst (v := 3) hx hb dX10_isKind_2 (by decide) ?_
  refine wc_ri (va_runS (As := [.int v, .int 0, .int 3]) (rest := []) ⟨hx, hb, hml, hown, hts⟩ (c_X10_in l v 0 3) (va_cwS 3 hts gX10_isKind_X10_in rfl rfl rfl (by decide +kernel) ⟨Nat.le_of_ble_eq_true rfl, Nat.le_of_ble_eq_true rfl⟩) npreS rfl rfl hl.1 rfl (lv_room (Nat.le_of_ble_eq_true rfl)) dX10_isKind_3 ⟨Nat.le_of_ble_eq_true rfl, Nat.le_of_ble_eq_true rfl⟩) hW (fun x3 H locs p3 hW => ?_)
  try dsimp only at p3
  exact wr_rz hx hb hr hlocks hW.2 dX10_isKind_6 (by rw [p3]; exact bI_n _) p3
set_option maxHeartbeats 4000000 in
set_option maxRecDepth 100000 in
theorem c_X10_isLayer (l : Launch) (v : Int32) : Met l yX10_isLayer wsX10_isLayer ({ frames := 1, cells := 0, slots := 0, locals := 22 }) (nPc [.int v]) (rQi (fun r => r = bI (inB v 0 3))) 0 0 nA := by
  refine Met.ofW (cc := cX10_isLayer) (maxL := 1) (ret := (some .boolean)) (by decide) rfl ?_
  intro p e s m args below meth cd0 s₁ B hml hv
  obtain ⟨rfl, -⟩ := hv
  have hx := B.exec
  have hb := B.bytes
  have hr := B.returns
  have hts := atoms_spec (ws := wsX10_isLayer) B.pre
  have hown : s.vm.findClass RX10 = some m.cls := findClass_of_methodNamed B.named
  have hlocks := B.notSynchronized
  obtain ⟨A, eA⟩ : ∃ A : Nat → Prop, A = nA := ⟨_, rfl⟩
  have hW := nWS s
  obtain ⟨D, cA, sh, ad, m0, hW⟩ := hW
  rw [← eA] at hW
  subst eA
  have hl := lv_entry ([.int v]) (n := 1) (Nat.le_of_ble_eq_true rfl)
  rw [lg_entry_eq]
  generalize (lg_sl ([.int v]) ++ List.replicate (1 - (lg_sl ([.int v])).length) Slot.unset).toArray = ls at hl ⊢
  have hl : lv_has ls 1 [(0, .int v)] := hl
  refine lv_iload_n hx hb dX10_isLayer_0 rfl (lv_at hl 0 rfl) ?_
  refine lv_iconst (v := 0) hx hb dX10_isLayer_1 (by decide) ?_
  refine lv_iconst (v := 3) hx hb dX10_isLayer_2 (by decide) ?_
  refine wc_ri (va_runS (As := [.int v, .int 0, .int 3]) (rest := []) ⟨hx, hb, hml, hown, hts⟩ (c_X10_in l v 0 3) (va_cwS 3 hts gX10_isLayer_X10_in rfl rfl rfl (by decide +kernel) ⟨Nat.le_of_ble_eq_true rfl, Nat.le_of_ble_eq_true rfl⟩) npreS rfl rfl hl.1 rfl (lv_room (Nat.le_of_ble_eq_true rfl)) dX10_isLayer_3 ⟨Nat.le_of_ble_eq_true rfl, Nat.le_of_ble_eq_true rfl⟩) hW (fun x3 H locs p3 hW => ?_)
  try dsimp only at p3
  exact wr_rz hx hb hr hlocks hW.2 dX10_isLayer_6 (by rw [p3]; exact bI_n _) p3
set_option maxHeartbeats 4000000 in
set_option maxRecDepth 100000 in
theorem c_X10_isZone (l : Launch) (c l0 : Int32) : Met l yX10_isZone wsX10_isZone ({ frames := 1, cells := 0, slots := 0, locals := 22 }) (nPc [.int c, .int l0]) (rQi (fun r => r = bI (zoB c l0))) 0 0 nA := by
  refine Met.ofW (cc := cX10_isZone) (maxL := 2) (ret := (some .boolean)) (by decide) rfl ?_
  intro p e s m args below meth cd0 s₁ B hml hv
  obtain ⟨rfl, -⟩ := hv
  have hx := B.exec
  have hb := B.bytes
  have hr := B.returns
  have hts := atoms_spec (ws := wsX10_isZone) B.pre
  have hown : s.vm.findClass RX10 = some m.cls := findClass_of_methodNamed B.named
  have hlocks := B.notSynchronized
  obtain ⟨A, eA⟩ : ∃ A : Nat → Prop, A = nA := ⟨_, rfl⟩
  have hW := nWS s
  obtain ⟨D, cA, sh, ad, m0, hW⟩ := hW
  rw [← eA] at hW
  subst eA
  have hl := lv_entry ([.int c, .int l0]) (n := 2) (Nat.le_of_ble_eq_true rfl)
  rw [lg_entry_eq]
  generalize (lg_sl ([.int c, .int l0]) ++ List.replicate (2 - (lg_sl ([.int c, .int l0])).length) Slot.unset).toArray = ls at hl ⊢
  have hl : lv_has ls 2 [(0, .int c), (1, .int l0)] := hl
  refine lv_iload_n hx hb dX10_isZone_0 rfl (lv_at hl 0 rfl) ?_
  refine lv_iconst (v := 0) hx hb dX10_isZone_1 (by decide) ?_
  refine lv_bipush (v := 7) hx hb dX10_isZone_2 (by decide) ?_
  refine wc_ri (va_runS (As := [.int c, .int 0, .int 7]) (rest := []) ⟨hx, hb, hml, hown, hts⟩ (c_X10_in l c 0 7) (va_cwS 3 hts gX10_isZone_X10_in rfl rfl rfl (by decide +kernel) ⟨Nat.le_of_ble_eq_true rfl, Nat.le_of_ble_eq_true rfl⟩) npreS rfl rfl hl.1 rfl (lv_room (Nat.le_of_ble_eq_true rfl)) dX10_isZone_4 ⟨Nat.le_of_ble_eq_true rfl, Nat.le_of_ble_eq_true rfl⟩) hW (fun x4 H locs p4 hW => ?_)
  try dsimp only at p4
  refine lv_if_eq (tgt := 24) hx hb dX10_isZone_7 (by decide) (fun c7 => ?_) (fun c7 => ?_)
  · refine lv_iconst (v := 0) hx hb dX10_isZone_24 (by decide) ?_
    exact wr_rz hx hb hr hlocks hW.2 dX10_isZone_25 rfl (by unfold zoB; first | (rw [p4] at c7; rw [bI_z.mp c7]; rfl) | (rw [p14] at c17; rw [bI_z.mp c17, Bool.and_false]; rfl))
  · refine lv_iload_n hx hb dX10_isZone_10 rfl (lv_at hl 1 rfl) ?_
    refine lv_iconst (v := 0) hx hb dX10_isZone_11 (by decide) ?_
    refine lv_bipush (v := 7) hx hb dX10_isZone_12 (by decide) ?_
    refine wc_ri (va_runS (As := [.int l0, .int 0, .int 7]) (rest := []) ⟨hx, hb, hml, hown, hts⟩ (c_X10_in l l0 0 7) (va_cwS 3 hts gX10_isZone_X10_in rfl rfl rfl (by decide +kernel) ⟨Nat.le_of_ble_eq_true rfl, Nat.le_of_ble_eq_true rfl⟩) npreS rfl rfl hl.1 rfl (lv_room (Nat.le_of_ble_eq_true rfl)) dX10_isZone_14 ⟨Nat.le_of_ble_eq_true rfl, Nat.le_of_ble_eq_true rfl⟩) hW (fun x14 H locs p14 hW => ?_)
    try dsimp only at p14
    refine lv_if_eq (tgt := 24) hx hb dX10_isZone_17 (by decide) (fun c17 => ?_) (fun c17 => ?_)
    · refine lv_iconst (v := 0) hx hb dX10_isZone_24 (by decide) ?_
      exact wr_rz hx hb hr hlocks hW.2 dX10_isZone_25 rfl (by unfold zoB; first | (rw [p4] at c7; rw [bI_z.mp c7]; rfl) | (rw [p14] at c17; rw [bI_z.mp c17, Bool.and_false]; rfl))
    · refine lv_iconst (v := 1) hx hb dX10_isZone_20 (by decide) ?_
      refine lv_goto (tgt := 25) hx hb dX10_isZone_21 (by decide) ?_
      exact wr_rz hx hb hr hlocks hW.2 dX10_isZone_25 rfl (by unfold zoB; rw [p4] at c7; rw [p14] at c17; rw [bI_t.mp c7, bI_t.mp c17]; rfl)
set_option maxHeartbeats 4000000 in
set_option maxRecDepth 100000 in
theorem c_X10_isChannel (l : Launch) (c l0 : Int32) : Met l yX10_isChannel wsX10_isChannel ({ frames := 1, cells := 0, slots := 0, locals := 22 }) (nPc [.int c, .int l0]) (rQi (fun r => r = bI (inB c 0 3 && inB l0 0 7))) 0 0 nA := by
  refine Met.ofW (cc := cX10_isChannel) (maxL := 2) (ret := (some .boolean)) (by decide) rfl ?_
  intro p e s m args below meth cd0 s₁ B hml hv
  obtain ⟨rfl, -⟩ := hv
  have hx := B.exec
  have hb := B.bytes
  have hr := B.returns
  have hts := atoms_spec (ws := wsX10_isChannel) B.pre
  have hown : s.vm.findClass RX10 = some m.cls := findClass_of_methodNamed B.named
  have hlocks := B.notSynchronized
  obtain ⟨A, eA⟩ : ∃ A : Nat → Prop, A = nA := ⟨_, rfl⟩
  have hW := nWS s
  obtain ⟨D, cA, sh, ad, m0, hW⟩ := hW
  rw [← eA] at hW
  subst eA
  have hl := lv_entry ([.int c, .int l0]) (n := 2) (Nat.le_of_ble_eq_true rfl)
  rw [lg_entry_eq]
  generalize (lg_sl ([.int c, .int l0]) ++ List.replicate (2 - (lg_sl ([.int c, .int l0])).length) Slot.unset).toArray = ls at hl ⊢
  have hl : lv_has ls 2 [(0, .int c), (1, .int l0)] := hl
  refine lv_iload_n hx hb dX10_isChannel_0 rfl (lv_at hl 0 rfl) ?_
  refine lv_iconst (v := 0) hx hb dX10_isChannel_1 (by decide) ?_
  refine lv_iconst (v := 3) hx hb dX10_isChannel_2 (by decide) ?_
  refine wc_ri (va_runS (As := [.int c, .int 0, .int 3]) (rest := []) ⟨hx, hb, hml, hown, hts⟩ (c_X10_in l c 0 3) (va_cwS 3 hts gX10_isChannel_X10_in rfl rfl rfl (by decide +kernel) ⟨Nat.le_of_ble_eq_true rfl, Nat.le_of_ble_eq_true rfl⟩) npreS rfl rfl hl.1 rfl (lv_room (Nat.le_of_ble_eq_true rfl)) dX10_isChannel_3 ⟨Nat.le_of_ble_eq_true rfl, Nat.le_of_ble_eq_true rfl⟩) hW (fun x3 H locs p3 hW => ?_)
  try dsimp only at p3
  refine lv_if_eq (tgt := 23) hx hb dX10_isChannel_6 (by decide) (fun c6 => ?_) (fun c6 => ?_)
  · refine lv_iconst (v := 0) hx hb dX10_isChannel_23 (by decide) ?_
    exact wr_rz hx hb hr hlocks hW.2 dX10_isChannel_24 rfl (by first | (rw [p3] at c6; rw [bI_z.mp c6]; rfl) | (rw [p13] at c16; rw [bI_z.mp c16, Bool.and_false]; rfl))
  · refine lv_iload_n hx hb dX10_isChannel_9 rfl (lv_at hl 1 rfl) ?_
    refine lv_iconst (v := 0) hx hb dX10_isChannel_10 (by decide) ?_
    refine lv_bipush (v := 7) hx hb dX10_isChannel_11 (by decide) ?_
    refine wc_ri (va_runS (As := [.int l0, .int 0, .int 7]) (rest := []) ⟨hx, hb, hml, hown, hts⟩ (c_X10_in l l0 0 7) (va_cwS 3 hts gX10_isChannel_X10_in rfl rfl rfl (by decide +kernel) ⟨Nat.le_of_ble_eq_true rfl, Nat.le_of_ble_eq_true rfl⟩) npreS rfl rfl hl.1 rfl (lv_room (Nat.le_of_ble_eq_true rfl)) dX10_isChannel_13 ⟨Nat.le_of_ble_eq_true rfl, Nat.le_of_ble_eq_true rfl⟩) hW (fun x13 H locs p13 hW => ?_)
    try dsimp only at p13
    refine lv_if_eq (tgt := 23) hx hb dX10_isChannel_16 (by decide) (fun c16 => ?_) (fun c16 => ?_)
    · refine lv_iconst (v := 0) hx hb dX10_isChannel_23 (by decide) ?_
      exact wr_rz hx hb hr hlocks hW.2 dX10_isChannel_24 rfl (by first | (rw [p3] at c6; rw [bI_z.mp c6]; rfl) | (rw [p13] at c16; rw [bI_z.mp c16, Bool.and_false]; rfl))
    · refine lv_iconst (v := 1) hx hb dX10_isChannel_19 (by decide) ?_
      refine lv_goto (tgt := 24) hx hb dX10_isChannel_20 (by decide) ?_
      exact wr_rz hx hb hr hlocks hW.2 dX10_isChannel_24 rfl (by rw [p3] at c6; rw [p13] at c16; rw [bI_t.mp c6, bI_t.mp c16]; rfl)
set_option maxHeartbeats 4000000 in
set_option maxRecDepth 100000 in
theorem c_X10_down (l : Launch) (v : Int32) : Met l yX10_down wsX10_down ({ frames := 0, cells := 0, slots := 0, locals := 0 }) (nPc [.int v]) (rQi (fun r => r = dwn v)) 0 0 nA := by
  refine Met.ofW (cc := cX10_down) (maxL := 1) (ret := (some .int)) (by decide) rfl ?_
  intro p e s m args below meth cd0 s₁ B hml hv
  obtain ⟨rfl, -⟩ := hv
  have hx := B.exec
  have hb := B.bytes
  have hr := B.returns
  have hts := atoms_spec (ws := wsX10_down) B.pre
  have hown : s.vm.findClass RX10 = some m.cls := findClass_of_methodNamed B.named
  have hlocks := B.notSynchronized
  obtain ⟨A, eA⟩ : ∃ A : Nat → Prop, A = nA := ⟨_, rfl⟩
  have hW := nWS s
  obtain ⟨D, cA, sh, ad, m0, hW⟩ := hW
  rw [← eA] at hW
  subst eA
  have hl := lv_entry ([.int v]) (n := 1) (Nat.le_of_ble_eq_true rfl)
  rw [lg_entry_eq]
  generalize (lg_sl ([.int v]) ++ List.replicate (1 - (lg_sl ([.int v])).length) Slot.unset).toArray = ls at hl ⊢
  have hl : lv_has ls 1 [(0, .int v)] := hl
  refine lv_iload_n hx hb dX10_down_0 rfl (lv_at hl 0 rfl) ?_
  refine lv_if_lt (tgt := 11) hx hb dX10_down_1 (by decide) (fun c1 => ?_) (fun c1 => ?_)
  · refine lv_bipush (v := 99) hx hb dX10_down_11 (by decide) ?_
    refine lv_iload_n hx hb dX10_down_13 rfl (lv_at hl 0 rfl) ?_
    refine lv_isub hx hb dX10_down_14 ?_
    refine lv_topi (fun x14 e14 => ?_)
    refine lv_bipush (v := 100) hx hb dX10_down_15 (by decide) ?_
    refine lv_idiv hx hb dX10_down_17 (by decide) ?_
    refine lv_topi (fun x17 e17 => ?_)
    refine lv_ineg hx hb dX10_down_18 ?_
    refine lv_topi (fun x18 e18 => ?_)
    exact wr_ri hx hb hr hlocks hW.2 dX10_down_19 (by unfold dwn; first | (rw [if_pos c1, e18, e17, e14]) | (rw [if_neg c1, e7]))
  · refine lv_iload_n hx hb dX10_down_4 rfl (lv_at hl 0 rfl) ?_
    refine lv_bipush (v := 100) hx hb dX10_down_5 (by decide) ?_
    refine lv_idiv hx hb dX10_down_7 (by decide) ?_
    refine lv_topi (fun x7 e7 => ?_)
    refine lv_goto (tgt := 19) hx hb dX10_down_8 (by decide) ?_
    exact wr_ri hx hb hr hlocks hW.2 dX10_down_19 (by unfold dwn; first | (rw [if_pos c1, e18, e17, e14]) | (rw [if_neg c1, e7]))
set_option maxHeartbeats 4000000 in
set_option maxRecDepth 100000 in
theorem c_X10_goes (l : Launch) (D : va_G) (cA : Nat → ClassId) (sh : Nat → Option Sh) (ad : Nat → Nat) (M : MS) (sz : Nat) (hMs : MSh sh) (xa xb : Int32) (a b : Bool) (ea : xa = bI a) (eb : xb = bI b) : Met l yX10_goes wsX10_goes ({ frames := 0, cells := 0, slots := 0, locals := 0 }) (wPc D cA sh ad M sz [.ref (ad 60), .int xa, .int xb]) (wQi D cA sh ad (fun r M' => r = bI (a && b) ∧ gI M' 60 28 = nI (thr a b) ∧ oI (fun p k => p = 60 ∧ k = 28) M M') (wA sh ad sz)) 0 0 (wA sh ad sz) := by
  refine Met.ofW (cc := cX10_goes) (maxL := 3) (ret := (some .boolean)) (by decide) rfl ?_
  intro p e s m args below meth cd0 s₁ B hml hv
  obtain ⟨rfl, hsz, hM, hK⟩ := hv
  have hx := B.exec
  have hb := B.bytes
  have hr := B.returns
  have hts := atoms_spec (ws := wsX10_goes) B.pre
  have hown : s.vm.findClass RX10 = some m.cls := findClass_of_methodNamed B.named
  have hlocks := B.notSynchronized
  subst hsz
  have hA := wA_PA sh ad s.heap
  generalize wA sh ad s.heap.size = A at hA ⊢
  have hW : WS D cA sh ad A s.heap M s.heap [] := ⟨hM, va_S.rf⟩
  have fa94 : FA D s m ([.ref (ad 60), .int xa, .int xb] : List Value).toArray 94 10 28 := FA.mk (C := RX10) (T := TX10) (N := 29) hts (fun _ h => List.mem_cons_of_mem _ (List.mem_append_right _ (h))) hown hK rfl (by decide) (hts (.fieldLink RX10 94 "MortarShowModel" "thrown" "I") (List.mem_of_getElem? (i := 1) rfl))
  have fw94 : FW D s m ([.ref (ad 60), .int xa, .int xb] : List Value).toArray 94 10 28 (.int) := FW.mk (C := RX10) (T := TX10) (N := 29) hts (fun _ h => List.mem_cons_of_mem _ (List.mem_append_right _ (h))) hown hK rfl (by decide) (hts (.fieldLink RX10 94 "MortarShowModel" "thrown" "I") (List.mem_of_getElem? (i := 1) rfl)) tyX10 tyX10_ok nmX10 rfl rfl
  have hl := lv_entry ([.ref (ad 60), .int xa, .int xb]) (n := 3) (Nat.le_of_ble_eq_true rfl)
  rw [lg_entry_eq]
  generalize (lg_sl ([.ref (ad 60), .int xa, .int xb]) ++ List.replicate (3 - (lg_sl ([.ref (ad 60), .int xa, .int xb])).length) Slot.unset).toArray = ls at hl ⊢
  have hl : lv_has ls 3 [(0, .ref (ad 60)), (1, .int xa), (2, .int xb)] := hl
  refine lv_aload_n hx hb dX10_goes_0 rfl (lv_at hl 0 rfl) ?_
  have J18 : ∀ (y : Int32) (H : Heap) (locs : List Loc), (y = nI (thr a b)) → WS D cA sh ad A s.heap M H locs → ∀ ls, lv_has ls 3 [(0, .ref (ad 60)), (1, .int xa), (2, .int xb)] → W p l e (headSpec wsX10_goes { frames := 0, cells := 0, slots := 0, locals := 0 }).room s m ([.ref (ad 60), .int xa, .int xb] : List Value).toArray below meth cd0 H locs 0 0 (MQ below (wQi D cA sh ad (fun r M' => r = bI (a && b) ∧ gI M' 60 28 = nI (thr a b) ∧ oI (fun p k => p = 60 ∧ k = 28) M M') A) ([.ref (ad 60), .int xa, .int xb] : List Value).toArray s 0 0 A) (F0 m 18 ls [.int y, .ref (ad 60)]) := by
    intro y H locs hy hW ls hl
    refine wpI hx hb fw94 hA hW (hMs 60 (by decide) (by decide)) rfl dX10_goes_18 (fun M18 H locs eM18 hW => ?_)
    refine lv_aload_n hx hb dX10_goes_21 rfl (lv_at hl 0 rfl) ?_
    refine wgI hx hb fa94 hW (hMs 60 (by decide) (by decide)) rfl dX10_goes_22 (fun x22 e22 => ?_)
    refine lv_if_ne (tgt := 32) hx hb dX10_goes_25 (by decide) (fun c25 => ?_) (fun c25 => ?_)
    · refine lv_iconst (v := 0) hx hb dX10_goes_32 (by decide) ?_
      exact wr_wz hx hb hr hlocks hW dX10_goes_33 rfl ⟨(by rw [e22, eM18, gI_sI, if_pos ⟨rfl, rfl⟩, hy] at c25; cases a <;> cases b <;> first | rfl | exact absurd rfl c25 | exact absurd c25 (by decide)), (by rw [eM18, gI_sI, if_pos ⟨rfl, rfl⟩, hy]), (by rw [eM18]; exact oI.put oI.rf ⟨rfl, rfl⟩)⟩
    · refine lv_iconst (v := 1) hx hb dX10_goes_28 (by decide) ?_
      refine lv_goto (tgt := 33) hx hb dX10_goes_29 (by decide) ?_
      exact wr_wz hx hb hr hlocks hW dX10_goes_33 rfl ⟨(by rw [e22, eM18, gI_sI, if_pos ⟨rfl, rfl⟩, hy] at c25; cases a <;> cases b <;> first | rfl | exact absurd rfl c25 | exact absurd c25 (by decide)), (by rw [eM18, gI_sI, if_pos ⟨rfl, rfl⟩, hy]), (by rw [eM18]; exact oI.put oI.rf ⟨rfl, rfl⟩)⟩
  refine lv_iload_n hx hb dX10_goes_1 rfl (lv_at hl 1 rfl) ?_
  refine lv_if_ne (tgt := 9) hx hb dX10_goes_2 (by decide) (fun c2 => ?_) (fun c2 => ?_)
  · refine lv_iload_n hx hb dX10_goes_9 rfl (lv_at hl 2 rfl) ?_
    refine lv_if_ne (tgt := 17) hx hb dX10_goes_10 (by decide) (fun c10 => ?_) (fun c10 => ?_)
    · refine lv_iconst (v := 0) hx hb dX10_goes_17 (by decide) ?_
      exact J18 0 _ _ (by unfold thr; rw [ea] at c2; first | (rw [bI_z] at c2; rw [if_pos c2]; rfl) | (rw [bI_t] at c2; rw [eb] at c10; rw [bI_z] at c10; rw [if_neg (by rw [c2]; decide), if_pos c10]; rfl) | (rw [bI_t] at c2; rw [eb] at c10; rw [bI_t] at c10; rw [if_neg (by rw [c2]; decide), if_neg (by rw [c10]; decide)]; rfl)) hW ls (lv_sub hl [0, 1, 2] rfl)
    · refine lv_iconst (v := 2) hx hb dX10_goes_13 (by decide) ?_
      refine lv_goto (tgt := 18) hx hb dX10_goes_14 (by decide) ?_
      exact J18 2 _ _ (by unfold thr; rw [ea] at c2; first | (rw [bI_z] at c2; rw [if_pos c2]; rfl) | (rw [bI_t] at c2; rw [eb] at c10; rw [bI_z] at c10; rw [if_neg (by rw [c2]; decide), if_pos c10]; rfl) | (rw [bI_t] at c2; rw [eb] at c10; rw [bI_t] at c10; rw [if_neg (by rw [c2]; decide), if_neg (by rw [c10]; decide)]; rfl)) hW ls (lv_sub hl [0, 1, 2] rfl)
  · refine lv_iconst (v := 1) hx hb dX10_goes_5 (by decide) ?_
    refine lv_goto (tgt := 18) hx hb dX10_goes_6 (by decide) ?_
    exact J18 1 _ _ (by unfold thr; rw [ea] at c2; first | (rw [bI_z] at c2; rw [if_pos c2]; rfl) | (rw [bI_t] at c2; rw [eb] at c10; rw [bI_z] at c10; rw [if_neg (by rw [c2]; decide), if_pos c10]; rfl) | (rw [bI_t] at c2; rw [eb] at c10; rw [bI_t] at c10; rw [if_neg (by rw [c2]; decide), if_neg (by rw [c10]; decide)]; rfl)) hW ls (lv_sub hl [0, 1, 2] rfl)
set_option maxHeartbeats 4000000 in
set_option maxRecDepth 100000 in
theorem c_X10_told (l : Launch) (D : va_G) (cA : Nat → ClassId) (sh : Nat → Option Sh) (ad : Nat → Nat) (M : MS) (sz : Nat) (hMs : MSh sh) (v : Int32) : Met l yX10_told wsX10_told ({ frames := 0, cells := 0, slots := 0, locals := 0 }) (wPc D cA sh ad M sz [.ref (ad 60), .int v]) (wQi D cA sh ad (fun r M' => r = v ∧ gI M' 60 28 = nI 0 ∧ oI (fun p k => p = 60 ∧ k = 28) M M') (wA sh ad sz)) 0 0 (wA sh ad sz) := by
  refine Met.ofW (cc := cX10_told) (maxL := 2) (ret := (some .int)) (by decide) rfl ?_
  intro p e s m args below meth cd0 s₁ B hml hv
  obtain ⟨rfl, hsz, hM, hK⟩ := hv
  have hx := B.exec
  have hb := B.bytes
  have hr := B.returns
  have hts := atoms_spec (ws := wsX10_told) B.pre
  have hown : s.vm.findClass RX10 = some m.cls := findClass_of_methodNamed B.named
  have hlocks := B.notSynchronized
  subst hsz
  have hA := wA_PA sh ad s.heap
  generalize wA sh ad s.heap.size = A at hA ⊢
  have hW : WS D cA sh ad A s.heap M s.heap [] := ⟨hM, va_S.rf⟩
  have fw94 : FW D s m ([.ref (ad 60), .int v] : List Value).toArray 94 10 28 (.int) := FW.mk (C := RX10) (T := TX10) (N := 29) hts (fun _ h => List.mem_cons_of_mem _ (List.mem_append_right _ (h))) hown hK rfl (by decide) (hts (.fieldLink RX10 94 "MortarShowModel" "thrown" "I") (List.mem_of_getElem? (i := 1) rfl)) tyX10 tyX10_ok nmX10 rfl rfl
  have hl := lv_entry ([.ref (ad 60), .int v]) (n := 2) (Nat.le_of_ble_eq_true rfl)
  rw [lg_entry_eq]
  generalize (lg_sl ([.ref (ad 60), .int v]) ++ List.replicate (2 - (lg_sl ([.ref (ad 60), .int v])).length) Slot.unset).toArray = ls at hl ⊢
  have hl : lv_has ls 2 [(0, .ref (ad 60)), (1, .int v)] := hl
  refine lv_aload_n hx hb dX10_told_0 rfl (lv_at hl 0 rfl) ?_
  refine lv_iconst (v := 0) hx hb dX10_told_1 (by decide) ?_
  refine wpI hx hb fw94 hA hW (hMs 60 (by decide) (by decide)) rfl dX10_told_2 (fun M2 H locs eM2 hW => ?_)
  refine lv_iload_n hx hb dX10_told_5 rfl (lv_at hl 1 rfl) ?_
  exact wr_wi hx hb hr hlocks hW dX10_told_6 ⟨rfl, (by rw [eM2, gI_sI, if_pos ⟨rfl, rfl⟩]; rfl), (by rw [eM2]; exact oI.put oI.rf ⟨rfl, rfl⟩)⟩
set_option maxHeartbeats 4000000 in
set_option maxRecDepth 100000 in
theorem c_X10_thrown (l : Launch) (D : va_G) (cA : Nat → ClassId) (sh : Nat → Option Sh) (ad : Nat → Nat) (M : MS) (sz : Nat) (hMs : MSh sh) : Met l yX10_thrown wsX10_thrown ({ frames := 0, cells := 0, slots := 0, locals := 0 }) (wPc D cA sh ad M sz [.ref (ad 60)]) (rQi (fun r => r = gI M 60 28)) 0 0 nA := by
  refine Met.ofW (cc := cX10_thrown) (maxL := 1) (ret := (some .int)) (by decide) rfl ?_
  intro p e s m args below meth cd0 s₁ B hml hv
  obtain ⟨rfl, hsz, hM, hK⟩ := hv
  have hx := B.exec
  have hb := B.bytes
  have hr := B.returns
  have hts := atoms_spec (ws := wsX10_thrown) B.pre
  have hown : s.vm.findClass RX10 = some m.cls := findClass_of_methodNamed B.named
  have hlocks := B.notSynchronized
  subst hsz
  obtain ⟨A, eA⟩ : ∃ A : Nat → Prop, A = nA := ⟨_, rfl⟩
  have hW : WS D cA sh ad A s.heap M s.heap [] := ⟨hM, va_S.rf⟩
  subst eA
  have fa94 : FA D s m ([.ref (ad 60)] : List Value).toArray 94 10 28 := FA.mk (C := RX10) (T := TX10) (N := 29) hts (fun _ h => List.mem_cons_of_mem _ (List.mem_append_right _ (h))) hown hK rfl (by decide) (hts (.fieldLink RX10 94 "MortarShowModel" "thrown" "I") (List.mem_of_getElem? (i := 1) rfl))
  have hl := lv_entry ([.ref (ad 60)]) (n := 1) (Nat.le_of_ble_eq_true rfl)
  rw [lg_entry_eq]
  generalize (lg_sl ([.ref (ad 60)]) ++ List.replicate (1 - (lg_sl ([.ref (ad 60)])).length) Slot.unset).toArray = ls at hl ⊢
  have hl : lv_has ls 1 [(0, .ref (ad 60))] := hl
  refine lv_aload_n hx hb dX10_thrown_0 rfl (lv_at hl 0 rfl) ?_
  refine wgI hx hb fa94 hW (hMs 60 (by decide) (by decide)) rfl dX10_thrown_1 (fun x1 e1 => ?_)
  exact wr_ri hx hb hr hlocks hW.2 dX10_thrown_4 e1
theorem cue_inb {j n : Nat} (h : j < n) (hn : n ≤ 40) : inB (nI j) 0 (nI n - 1) = true := by
  have e : nI n - 1 = nI (n - 1) := by rw [nlit 1]; exact pk_sub (by omega)
  rw [e]
  refine inB_t (fun q => ?_)
  rcases q with q | q
  · exact nI_pos (by omega) q
  · exact absurd ((nI_ltI (by omega) (by omega)).mp q) (by omega)
theorem cue_in {v : Int32} {n : Nat} (h : inB v 0 (nI n - 1) = true) (hn : n ≤ 40) : ∃ i, i < n ∧ v = nI i := by
  have z0 : (0 : Int32).toInt = 0 := rfl
  have h0 : ¬ v < 0 := fun q => by rw [inB_f (Or.inl q)] at h; cases h
  have h1 : ¬ nI n - 1 < v := fun q => by rw [inB_f (Or.inr q)] at h; cases h
  obtain ⟨i, hi, e⟩ := nI_of h0
  refine ⟨i, ?_, e⟩
  rcases Nat.eq_zero_or_pos n with q | q
  · exfalso
    subst q
    apply h1
    rw [i32lt, e, nI_toInt hi]
    have : (nI 0 - 1).toInt = -1 := rfl
    omega
  · have e2 : nI n - 1 = nI (n - 1) := by rw [nlit 1]; exact pk_sub (by omega)
    rw [e2, e, nI_ltI (by omega) hi] at h1
    omega
theorem gone0 {g : Nat} (h : g ≤ 1) (h2 : nI g = 0) : g = 0 := by
  rcases (show g = 0 ∨ g = 1 by omega) with q | q
  · exact q
  · subst q; exact absurd h2 (by decide)
set_option maxHeartbeats 4000000 in
set_option maxRecDepth 100000 in
theorem c_X10_isCue (l : Launch) (D : va_G) (cA : Nat → ClassId) (sh : Nat → Option Sh) (ad : Nat → Nat) (M : MS) (sz : Nat) (σ : AS) (ok : AOK σ) (hMs : MSh sh) (hR : MR σ M) (v : Int32) : Met l yX10_isCue wsX10_isCue ({ frames := 1, cells := 0, slots := 0, locals := 22 }) (wPc D cA sh ad M sz [.ref (ad 60), .int v]) (rQi (fun r => r = bI (cuB σ v))) 0 0 nA := by
  refine Met.ofW (cc := cX10_isCue) (maxL := 2) (ret := (some .boolean)) (by decide) rfl ?_
  intro p e s m args below meth cd0 s₁ B hml hv
  obtain ⟨rfl, hsz, hM, hK⟩ := hv
  have hx := B.exec
  have hb := B.bytes
  have hr := B.returns
  have hts := atoms_spec (ws := wsX10_isCue) B.pre
  have hown : s.vm.findClass RX10 = some m.cls := findClass_of_methodNamed B.named
  have hlocks := B.notSynchronized
  subst hsz
  obtain ⟨A, eA⟩ : ∃ A : Nat → Prop, A = nA := ⟨_, rfl⟩
  have hW : WS D cA sh ad A s.heap M s.heap [] := ⟨hM, va_S.rf⟩
  subst eA
  have fa72 : FA D s m ([.ref (ad 60), .int v] : List Value).toArray 72 10 21 := FA.mk (C := RX10) (T := TX10) (N := 29) hts (fun _ h => List.mem_cons_of_mem _ (List.mem_append_right _ (h))) hown hK rfl (by decide) (hts (.fieldLink RX10 72 "MortarShowModel" "gone" "[Z") (List.mem_of_getElem? (i := 2) rfl))
  have fa101 : FA D s m ([.ref (ad 60), .int v] : List Value).toArray 101 10 17 := FA.mk (C := RX10) (T := TX10) (N := 29) hts (fun _ h => List.mem_cons_of_mem _ (List.mem_append_right _ (h))) hown hK rfl (by decide) (hts (.fieldLink RX10 101 "MortarShowModel" "cues" "I") (List.mem_of_getElem? (i := 1) rfl))
  have hl := lv_entry ([.ref (ad 60), .int v]) (n := 2) (Nat.le_of_ble_eq_true rfl)
  rw [lg_entry_eq]
  generalize (lg_sl ([.ref (ad 60), .int v]) ++ List.replicate (2 - (lg_sl ([.ref (ad 60), .int v])).length) Slot.unset).toArray = ls at hl ⊢
  have hl : lv_has ls 2 [(0, .ref (ad 60)), (1, .int v)] := hl
  have o1 := ok.1
  refine lv_iload_n hx hb dX10_isCue_0 rfl (lv_at hl 1 rfl) ?_
  refine lv_iconst (v := 0) hx hb dX10_isCue_1 (by decide) ?_
  refine lv_aload_n hx hb dX10_isCue_2 rfl (lv_at hl 0 rfl) ?_
  refine wgI hx hb fa101 hW (hMs 60 (by decide) (by decide)) rfl dX10_isCue_3 (fun x3 e3 => ?_)
  refine lv_iconst (v := 1) hx hb dX10_isCue_6 (by decide) ?_
  refine lv_isub hx hb dX10_isCue_7 ?_
  refine lv_topi (fun x7 e7 => ?_)
  refine wc_ri (va_runS (As := [.int v, .int 0, .int x7]) (rest := []) ⟨hx, hb, hml, hown, hts⟩ (c_X10_in l v 0 x7) (va_cwS 3 hts gX10_isCue_X10_in rfl rfl rfl (by decide +kernel) ⟨Nat.le_of_ble_eq_true rfl, Nat.le_of_ble_eq_true rfl⟩) npreS rfl rfl hl.1 rfl (lv_room (Nat.le_of_ble_eq_true rfl)) dX10_isCue_8 ⟨Nat.le_of_ble_eq_true rfl, Nat.le_of_ble_eq_true rfl⟩) hW (fun x8 H locs p8 hW => ?_)
  try dsimp only at p8
  refine lv_if_eq (tgt := 27) hx hb dX10_isCue_11 (by decide) (fun c11 => ?_) (fun c11 => ?_)
  · refine lv_iconst (v := 0) hx hb dX10_isCue_27 (by decide) ?_
    exact wr_rz hx hb hr hlocks hW.2 dX10_isCue_28 rfl (by
        rw [cuB_no (σ := σ) (v := v) (fun j hj ej gj => ?_)]
        · rfl
        · first
          | (rw [p8, e7, e3, hR.2.2.2.2.2.2.2.2.2.1, ej, cue_inb hj o1] at c11; exact absurd c11 (by decide))
          | (have hij : i = j := (nI_eq (by omega) (by omega)).mp (ei.symm.trans ej)
             rw [e19, hg9, hij, gj] at c20
             exact c20 rfl))
  · have g11 : inB v 0 x7 = true := by rw [p8] at c11; exact bI_t.mp c11
    obtain ⟨i, hi, ei⟩ : ∃ i, i < aN σ ∧ v = nI i := cue_in (by rw [e7, e3, hR.2.2.2.2.2.2.2.2.2.1] at g11; exact g11) o1
    have og := (ok.2.2.2.2.2.2.1 i hi).2.2.2
    have hg9 := hR.2.2.2.2.2.2.2.2.2.2.1 i (by omega)
    refine lv_aload_n hx hb dX10_isCue_14 rfl (lv_at hl 0 rfl) ?_
    refine wgF (t := 79) hx hb fa72 hW (hMs 60 (by decide) (by decide)) rfl dX10_isCue_15 ?_
    refine lv_iload_n hx hb dX10_isCue_18 rfl (lv_at hl 1 rfl) ?_
    refine walZ (j := i) hx hb hK hW (hMs 79 (by decide) (by decide)) ei (by omega) (by decide) dX10_isCue_19 (fun x19 e19 => ?_)
    refine lv_if_ne (tgt := 27) hx hb dX10_isCue_20 (by decide) (fun c20 => ?_) (fun c20 => ?_)
    · refine lv_iconst (v := 0) hx hb dX10_isCue_27 (by decide) ?_
      exact wr_rz hx hb hr hlocks hW.2 dX10_isCue_28 rfl (by
          rw [cuB_no (σ := σ) (v := v) (fun j hj ej gj => ?_)]
          · rfl
          · first
            | (rw [p8, e7, e3, hR.2.2.2.2.2.2.2.2.2.1, ej, cue_inb hj o1] at c11; exact absurd c11 (by decide))
            | (have hij : i = j := (nI_eq (by omega) (by omega)).mp (ei.symm.trans ej)
               rw [e19, hg9, hij, gj] at c20
               exact c20 rfl))
    · refine lv_iconst (v := 1) hx hb dX10_isCue_23 (by decide) ?_
      refine lv_goto (tgt := 28) hx hb dX10_isCue_24 (by decide) ?_
      exact wr_rz hx hb hr hlocks hW.2 dX10_isCue_28 rfl (by
          rw [ei, cuB_yes hi (gone0 og (by rw [← hg9, ← e19]; exact c20))]; rfl)

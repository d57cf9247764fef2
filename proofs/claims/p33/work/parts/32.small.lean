/-! The law's own small methods. -/
def atPc (b L : Nat) (xs : Nat → Int32) (av : List Value) : Array Value → State → Prop := va_Pc av (fun U => va_X b L xs U U.heap ∧ b < U.heap.size)
theorem atPc_blind {b L : Nat} {xs : Nat → Int32} {av : List Value} : FrameBlind (atPc b L xs av) := fun a U g mk q => ⟨q.1, va_X.moved (u := U) (U := U.calling g mk a) (Vm.Alike.refl U.vm) q.2.1, q.2.2⟩
set_option maxHeartbeats 4000000 in
set_option maxRecDepth 100000 in
theorem c_L_at (l : Launch) (b L : Nat) (xs : Nat → Int32) (hL : L < 2 ^ 30) (k : Nat) (hk : k < 2 ^ 30) (xk : Int32) (ek : xk = nI k) : Met l yL_at wsL_at ({ frames := 0, cells := 0, slots := 0, locals := 0 }) (atPc b L xs [.ref b, .int xk]) (rQi (fun _ => True)) 0 0 nA := by
  refine Met.ofW (cc := cL_at) (maxL := 2) (ret := (some .int)) (by decide) rfl ?_
  intro p e s m args below meth cd0 s₁ B hml hv
  obtain ⟨rfl, hX9, hbl⟩ := hv
  have hx := B.exec
  have hb := B.bytes
  have hr := B.returns
  have hts := atoms_spec (ws := wsL_at) B.pre
  have hown : s.vm.findClass RL = some m.cls := findClass_of_methodNamed B.named
  have hlocks := B.notSynchronized
  have hS : va_S nA s.heap s.heap [] := va_S.rf
  have hl := lv_entry ([.ref b, .int xk]) (n := 2) (Nat.le_of_ble_eq_true rfl)
  rw [lg_entry_eq]
  generalize (lg_sl ([.ref b, .int xk]) ++ List.replicate (2 - (lg_sl ([.ref b, .int xk])).length) Slot.unset).toArray = ls at hl ⊢
  have hl : lv_has ls 2 [(0, .ref b), (1, .int xk)] := hl
  refine lv_iload_n hx hb dL_at_0 rfl (lv_at hl 1 rfl) ?_
  refine lv_aload_n hx hb dL_at_1 rfl (lv_at hl 0 rfl) ?_
  refine va_slen hx hb hX9 hbl (fun h => h) hS dL_at_2 ?_
  refine lv_icmp_ge (tgt := 12) hx hb dL_at_3 (by decide) (fun c3' => ?_) (fun c3' => ?_)
  · refine lv_ldc (v := 1207159265) hx hb hown (hts (.constant RL 7 (1207159265)) (List.mem_of_getElem? (i := 1) rfl)) dL_at_12 ?_
    refine lv_iload_n hx hb dL_at_14 rfl (lv_at hl 1 rfl) ?_
    refine lv_iconst (v := 1) hx hb dL_at_15 (by decide) ?_
    refine lv_iadd hx hb dL_at_16 ?_
    refine lv_imul hx hb dL_at_17 ?_
    refine lv_ldc (v := 492471999) hx hb hown (hts (.constant RL 8 (492471999)) (List.mem_of_getElem? (i := 2) rfl)) dL_at_18 ?_
    refine lv_iadd hx hb dL_at_20 ?_
    exact wr_ri hx hb hr hlocks hS dL_at_21 trivial
  · refine lv_aload_n hx hb dL_at_6 rfl (lv_at hl 0 rfl) ?_
    refine lv_iload_n hx hb dL_at_7 rfl (lv_at hl 1 rfl) ?_
    have hkL : k < L := by
      have h : ¬ nI L ≤ xk := c3'
      rw [ek, nI_leI (by omega) (by omega)] at h
      omega
    obtain ⟨h1, h2⟩ := in_nI ek hkL (by omega)
    refine va_sld hx hb hX9 hbl (fun h => h) hS h1 dL_at_8 ?_
    refine lv_goto (tgt := 21) hx hb dL_at_9 (by decide) ?_
    exact wr_ri hx hb hr hlocks hS dL_at_21 trivial
set_option maxHeartbeats 4000000 in
set_option maxRecDepth 100000 in
theorem c_L_low (l : Launch) (a b : Int32) (hb0 : ¬ b = 0) : Met l yL_low wsL_low ({ frames := 0, cells := 0, slots := 0, locals := 0 }) (nPc [.int a, .int b]) (rQi (fun r => r = lowI a b)) 0 0 nA := by
  refine Met.ofW (cc := cL_low) (maxL := 2) (ret := (some .int)) (by decide) rfl ?_
  intro p e s m args below meth cd0 s₁ B hml hv
  obtain ⟨rfl, -⟩ := hv
  have hx := B.exec
  have hb := B.bytes
  have hr := B.returns
  have hts := atoms_spec (ws := wsL_low) B.pre
  have hown : s.vm.findClass RL = some m.cls := findClass_of_methodNamed B.named
  have hlocks := B.notSynchronized
  obtain ⟨A, eA⟩ : ∃ A : Nat → Prop, A = nA := ⟨_, rfl⟩
  have hW := nWS s
  obtain ⟨D, cA, sh, ad, m0, hW⟩ := hW
  rw [← eA] at hW
  subst eA
  have hl := lv_entry ([.int a, .int b]) (n := 2) (Nat.le_of_ble_eq_true rfl)
  rw [lg_entry_eq]
  generalize (lg_sl ([.int a, .int b]) ++ List.replicate (2 - (lg_sl ([.int a, .int b])).length) Slot.unset).toArray = ls at hl ⊢
  have hl : lv_has ls 2 [(0, .int a), (1, .int b)] := hl
  refine lv_iload_n hx hb dL_low_0 rfl (lv_at hl 0 rfl) ?_
  refine lv_ldc (v := 2147483647) hx hb hown (hts (.constant RL 9 (2147483647)) (List.mem_of_getElem? (i := 1) rfl)) dL_low_1 ?_
  refine lv_iand hx hb dL_low_3 ?_
  refine lv_topi (fun x3' e3' => ?_)
  refine lv_iload_n hx hb dL_low_4 rfl (lv_at hl 1 rfl) ?_
  refine lv_irem hx hb dL_low_5 hb0 ?_
  refine lv_topi (fun x5' e5' => ?_)
  exact wr_ri hx hb hr hlocks hW.2 dL_low_6 (by rw [e5', e3']; rfl)
set_option maxHeartbeats 4000000 in
set_option maxRecDepth 100000 in
theorem c_L_down (l : Launch) (a : Int32) (h1 : -1000000 ≤ a.toInt) (h2 : a.toInt ≤ 1000000) : Met l yL_down wsL_down ({ frames := 0, cells := 0, slots := 0, locals := 0 }) (nPc [.int a]) (rQi (fun r => r = jfd a 100)) 0 0 nA := by
  refine Met.ofW (cc := cL_down) (maxL := 1) (ret := (some .int)) (by decide) rfl ?_
  intro p e s m args below meth cd0 s₁ B hml hv
  obtain ⟨rfl, -⟩ := hv
  have hx := B.exec
  have hb := B.bytes
  have hr := B.returns
  have hts := atoms_spec (ws := wsL_down) B.pre
  have hown : s.vm.findClass RL = some m.cls := findClass_of_methodNamed B.named
  have hlocks := B.notSynchronized
  obtain ⟨A, eA⟩ : ∃ A : Nat → Prop, A = nA := ⟨_, rfl⟩
  have hW := nWS s
  obtain ⟨D, cA, sh, ad, m0, hW⟩ := hW
  rw [← eA] at hW
  subst eA
  have hl := lv_entry ([.int a]) (n := 1) (Nat.le_of_ble_eq_true rfl)
  rw [lg_entry_eq]
  generalize (lg_sl ([.int a]) ++ List.replicate (1 - (lg_sl ([.int a])).length) Slot.unset).toArray = ls at hl ⊢
  have hl : lv_has ls 1 [(0, .int a)] := hl
  refine lv_iload_n hx hb dL_down_0 rfl (lv_at hl 0 rfl) ?_
  refine lv_iload_n hx hb dL_down_1 rfl (lv_at hl 0 rfl) ?_
  refine lv_bipush (v := 100) hx hb dL_down_2 (by decide) ?_
  refine lv_irem hx hb dL_down_4 (by decide) ?_
  refine lv_topi (fun x4' e4' => ?_)
  refine lv_bipush (v := 100) hx hb dL_down_5 (by decide) ?_
  refine lv_iadd hx hb dL_down_7 ?_
  refine lv_topi (fun x7' e7' => ?_)
  refine lv_bipush (v := 100) hx hb dL_down_8 (by decide) ?_
  refine lv_irem hx hb dL_down_10 (by decide) ?_
  refine lv_topi (fun x10' e10' => ?_)
  refine lv_isub hx hb dL_down_11 ?_
  refine lv_topi (fun x11' e11' => ?_)
  refine lv_bipush (v := 100) hx hb dL_down_12 (by decide) ?_
  refine lv_idiv hx hb dL_down_14 (by decide) ?_
  refine lv_topi (fun x14' e14' => ?_)
  exact wr_ri hx hb hr hlocks hW.2 dL_down_15 (by rw [e14']; exact down_eq h1 h2 e4' e7' e10' e11')

/-! The reference is made. -/
def shMn (n : Nat) : Nat → Option Sh := fun p => if p < 60 then shT.getD p none else if p = 60 then some (.inl (10, [2, 2, 2, 2, 2, 2, 2, 2, 2, 2, 2, 2, 2, 2, 2, 0, 0, 0, 2, 2, 2, 2, 2, 2, 2, 2, 2, 0, 0])) else if p < 61 + n then shT.getD p none else none
def shMF : Nat → Option Sh := fun p => if p < 85 then shT.getD p none else none
theorem shM_s {n : Nat} {x : Sh} (h : shT.getD (61 + n) none = some x) : shU (shMn n) (61 + n) x = shMn (n + 1) := by
  funext p
  by_cases h0 : p = 61 + n
  · subst h0
    rw [shU_eq]
    unfold shMn
    rw [if_neg (by omega), if_neg (by omega), if_pos (by omega), h]
  · rw [shU_ne h0]
    unfold shMn
    by_cases h1 : p < 60
    · rw [if_pos h1, if_pos h1]
    · rw [if_neg h1, if_neg h1]
      by_cases h2 : p = 60
      · rw [if_pos h2, if_pos h2]
      · rw [if_neg h2, if_neg h2]
        by_cases h3 : p < 61 + n
        · rw [if_pos h3, if_pos (by omega)]
        · rw [if_neg h3, if_neg (by omega)]
theorem shM_F : shU (shMn 24) 60 (.inl (10, [64, 65, 66, 67, 68, 69, 70, 71, 72, 73, 74, 75, 76, 77, 78, 0, 0, 0, 79, 80, 81, 82, 83, 84, 85, 86, 87, 0, 0])) = shMF := by
  have key : ∀ p, p < 85 → shU (shMn 24) 60 (.inl (10, [64, 65, 66, 67, 68, 69, 70, 71, 72, 73, 74, 75, 76, 77, 78, 0, 0, 0, 79, 80, 81, 82, 83, 84, 85, 86, 87, 0, 0])) p = shMF p := by decide +kernel
  funext p
  by_cases h : p < 85
  · exact key p h
  · rw [shU_ne (by omega)]
    unfold shMF shMn
    rw [if_neg h, if_neg (by omega), if_neg (by omega)]
theorem shMF_ne : ∀ p, p < 85 → 60 ≤ p → shMF p ≠ none := by decide +kernel
theorem shMF_M : MSh shMF := fun p h1 h2 => if_pos (by omega)
/-- the kinds' rows -/
def KF0 (k : Nat) (M : MS) : Prop := gI M 62 k = 50 ∧ gI M 63 k = 20 ∧ gI M 65 k = nI (liftN 50 20 (flN 50 20)) ∧ gI M 66 k = nI (flN 50 20) ∧ gI M 67 k = (hsq 50 20 (liftN 50 20 (flN 50 20))).2.1 ∧ ∀ y, y < 4 → gI M 68 (4 * k + y) = nI (cntN 50 20 (flN 50 20) y) ∧ gI M 69 (4 * k + y) = nI (cntN 50 20 (liftN 50 20 (flN 50 20)) y)
theorem KF0.kp {k : Nat} {M M' : MS} (h : KF0 k M) (o : ∀ p j, 62 ≤ p → p ≤ 69 → (p ≤ 67 → j = k) → (68 ≤ p → 4 * k ≤ j ∧ j < 4 * k + 4) → gI M' p j = gI M p j) : KF0 k M' := by
  obtain ⟨b1, b2, b3, b4, b5, b6⟩ := h
  exact ⟨(o _ _ (by omega) (by omega) (by omega) (by omega)).trans b1, (o _ _ (by omega) (by omega) (by omega) (by omega)).trans b2, (o _ _ (by omega) (by omega) (by omega) (by omega)).trans b3, (o _ _ (by omega) (by omega) (by omega) (by omega)).trans b4, (o _ _ (by omega) (by omega) (by omega) (by omega)).trans b5, fun y hy => ⟨(o _ _ (by omega) (by omega) (by omega) (by omega)).trans (b6 y hy).1, (o _ _ (by omega) (by omega) (by omega) (by omega)).trans (b6 y hy).2⟩⟩
theorem mx0 {M : MS} (hI : ∀ p k, 60 ≤ p → p ≤ 84 → ¬ (p = 60 ∧ (k = 15 ∨ k = 16)) → ¬ (62 ≤ p ∧ p ≤ 69 ∧ p ≠ 64) → p ≠ 74 → gI M p k = 0) (h15 : gI M 60 15 = 20) (h16 : gI M 60 16 = 2) (hk : ∀ k, k < 4 → KF0 k M) (h74 : ∀ k, k < 10 → gI M 74 k = 1) : MX as0 v0 M := by
  have Z : ∀ p k, 60 ≤ p → p ≤ 84 → ¬ (p = 60 ∧ (k = 15 ∨ k = 16)) → ¬ (62 ≤ p ∧ p ≤ 69 ∧ p ≠ 64) → p ≠ 74 → gI M p k = 0 := hI
  refine ⟨AOK_0, ⟨fun k _ => Z _ _ (by omega) (by omega) (by omega) (by omega) (by omega), trivial, fun r hr => Z _ _ (by omega) (by omega) (by omega) (by omega) (by omega), fun k hk4 => ?_, fun y _ => ⟨Z _ _ (by omega) (by omega) (by omega) (by omega) (by omega), Z _ _ (by omega) (by omega) (by omega) (by omega) (by omega)⟩, trivial, fun c _ => Z _ _ (by omega) (by omega) (by omega) (by omega) (by omega), h15, h16, Z _ _ (by omega) (by omega) (by omega) (by omega) (by omega), fun i _ => Z _ _ (by omega) (by omega) (by omega) (by omega) (by omega), fun i hi => absurd hi (Nat.not_lt_zero i)⟩, fun k _ => Z _ _ (by omega) (by omega) (by omega) (by omega) (by omega), fun k hk9 => h74 k hk9⟩
  obtain ⟨b1, b2, b3, b4, b5, b6⟩ := hk k hk4
  rw [s0_2, s0_3, s0_11]
  exact ⟨b1, b2, Z _ _ (by omega) (by omega) (by omega) (by omega) (by omega), b3, b4, b5, b6⟩
set_option maxHeartbeats 4000000 in
set_option maxRecDepth 100000 in
theorem c_X10_init (l : Launch) (D : va_G) (cA : Nat → ClassId) (sh : Nat → Option Sh) (ad : Nat → Nat) (M : MS) (sz : Nat) (eS : sh = shMn 0) (hz : ∀ k, gI M 60 k = 0) (hC : CZ sh M) : Met l yX10_init wsX10_init ({ frames := 1, cells := 24, slots := 592, locals := 24 }) (cPc D cA sh ad M sz [.ref (ad 60)]) (cQv D cA sh ad sz (shMF) (fun M' => (∀ p k, p < 60 → gI M' p k = gI M p k ∧ gL M' p k = gL M p k ∧ gR M' p k = gR M p k) ∧ MX as0 v0 M') (wA sh ad sz)) 24 592 (wA sh ad sz) := by
  refine Met.ofW (cc := cX10_init) (maxL := 2) (ret := none) (by decide) rfl ?_
  intro p e s m args below meth cd0 s₁ B hml hv
  obtain ⟨rfl, hsz, hM, hK, hN⟩ := hv
  have hx := B.exec
  have hb := B.bytes
  have hr := B.returns
  have hts := atoms_spec (ws := wsX10_init) B.pre
  have hown : s.vm.findClass RX10 = some m.cls := findClass_of_methodNamed B.named
  have hlocks := B.notSynchronized
  have hin : meth.name = "<init>" := (name_of_methodNamed B.named B.method).1
  subst hsz
  have hA := wA_PA sh ad s.heap
  generalize wA sh ad s.heap.size = A at hA ⊢
  have hW : WS D cA sh ad A s.heap M s.heap [] := ⟨hM, va_S.rf⟩
  obtain ⟨sh0, es0⟩ : ∃ z, z = sh := ⟨_, rfl⟩
  obtain ⟨ad0, ea0⟩ : ∃ z, z = ad := ⟨_, rfl⟩
  have hG : GR sh0 ad0 s.heap.size sh ad := by rw [es0, ea0]; exact GR.rf
  have hl := lv_entry ([.ref (ad 60)]) (n := 2) (Nat.le_of_ble_eq_true rfl)
  rw [lg_entry_eq]
  generalize (lg_sl ([.ref (ad 60)]) ++ List.replicate (2 - (lg_sl ([.ref (ad 60)])).length) Slot.unset).toArray = ls at hl ⊢
  have hl : lv_has ls 2 [(0, .ref (ad 60))] := hl
  generalize hQ9 : (cQv D cA sh ad s.heap.size (shMF) (fun M' => (∀ p k, p < 60 → gI M' p k = gI M p k ∧ gL M' p k = gL M p k ∧ gR M' p k = gR M p k) ∧ MX as0 v0 M') A) = Q9
  rw [← es0, ← ea0] at hQ9
  generalize hae : ([.ref (ad 60)] : List Value).toArray = ar at hts ⊢
  have hzz : ∀ p k, 60 ≤ p → p ≤ 84 → gI M p k = 0 := fun p k h1 h2 => by
    by_cases e : p = 60
    · rw [e]; exact hz k
    · refine (hC.2.2 p ?_ k).1
      rw [eS]
      unfold shMn
      rw [if_neg (by omega), if_neg e, if_neg (by omega)]
  have hb9 : 1 ≤ (50 : Int32).toInt ∧ (50 : Int32).toInt ≤ 200 := by decide
  have hd9 : 1 ≤ (20 : Int32).toInt ∧ (20 : Int32).toInt ≤ 100 := by decide
  have fa13 : FA D s m ar 13 10 1 := FA.mk (C := RX10) (T := TX10) (N := 29) hts (fun _ h => List.mem_cons_of_mem _ (List.mem_append_right _ (h))) hown hK rfl (by decide) (hts (.fieldLink RX10 13 "MortarShowModel" "speed" "[I") (List.mem_of_getElem? (i := 6) rfl))
  have fa16 : FA D s m ar 16 10 2 := FA.mk (C := RX10) (T := TX10) (N := 29) hts (fun _ h => List.mem_cons_of_mem _ (List.mem_append_right _ (h))) hown hK rfl (by decide) (hts (.fieldLink RX10 16 "MortarShowModel" "fall" "[I") (List.mem_of_getElem? (i := 7) rfl))
  have fa49 : FA D s m ar 49 10 13 := FA.mk (C := RX10) (T := TX10) (N := 29) hts (fun _ h => List.mem_cons_of_mem _ (List.mem_append_right _ (h))) hown hK rfl (by decide) (hts (.fieldLink RX10 49 "MortarShowModel" "rate" "[I") (List.mem_of_getElem? (i := 18) rfl))
  have ff7 : FF D s m ar 7 10 0 (.array (.int)) := FF.mk (C := RX10) (T := TX10) (N := 29) hts (fun _ h => List.mem_cons_of_mem _ (List.mem_append_right _ (h))) hown hK rfl (by decide) (hts (.fieldLink RX10 7 "MortarShowModel" "rack" "[I") (List.mem_of_getElem? (i := 5) rfl)) tyX10 tyX10_ok nmX10 rfl rfl rfl
  have ff13 : FF D s m ar 13 10 1 (.array (.int)) := FF.mk (C := RX10) (T := TX10) (N := 29) hts (fun _ h => List.mem_cons_of_mem _ (List.mem_append_right _ (h))) hown hK rfl (by decide) (hts (.fieldLink RX10 13 "MortarShowModel" "speed" "[I") (List.mem_of_getElem? (i := 6) rfl)) tyX10 tyX10_ok nmX10 rfl rfl rfl
  have ff16 : FF D s m ar 16 10 2 (.array (.int)) := FF.mk (C := RX10) (T := TX10) (N := 29) hts (fun _ h => List.mem_cons_of_mem _ (List.mem_append_right _ (h))) hown hK rfl (by decide) (hts (.fieldLink RX10 16 "MortarShowModel" "fall" "[I") (List.mem_of_getElem? (i := 7) rfl)) tyX10 tyX10_ok nmX10 rfl rfl rfl
  have ff19 : FF D s m ar 19 10 3 (.array (.int)) := FF.mk (C := RX10) (T := TX10) (N := 29) hts (fun _ h => List.mem_cons_of_mem _ (List.mem_append_right _ (h))) hown hK rfl (by decide) (hts (.fieldLink RX10 19 "MortarShowModel" "radius" "[I") (List.mem_of_getElem? (i := 8) rfl)) tyX10 tyX10_ok nmX10 rfl rfl rfl
  have ff22 : FF D s m ar 22 10 4 (.array (.int)) := FF.mk (C := RX10) (T := TX10) (N := 29) hts (fun _ h => List.mem_cons_of_mem _ (List.mem_append_right _ (h))) hown hK rfl (by decide) (hts (.fieldLink RX10 22 "MortarShowModel" "lift" "[I") (List.mem_of_getElem? (i := 9) rfl)) tyX10 tyX10_ok nmX10 rfl rfl rfl
  have ff25 : FF D s m ar 25 10 5 (.array (.int)) := FF.mk (C := RX10) (T := TX10) (N := 29) hts (fun _ h => List.mem_cons_of_mem _ (List.mem_append_right _ (h))) hown hK rfl (by decide) (hts (.fieldLink RX10 25 "MortarShowModel" "flight" "[I") (List.mem_of_getElem? (i := 10) rfl)) tyX10 tyX10_ok nmX10 rfl rfl rfl
  have ff28 : FF D s m ar 28 10 6 (.array (.int)) := FF.mk (C := RX10) (T := TX10) (N := 29) hts (fun _ h => List.mem_cons_of_mem _ (List.mem_append_right _ (h))) hown hK rfl (by decide) (hts (.fieldLink RX10 28 "MortarShowModel" "height" "[I") (List.mem_of_getElem? (i := 11) rfl)) tyX10 tyX10_ok nmX10 rfl rfl rfl
  have ff31 : FF D s m ar 31 10 7 (.array (.int)) := FF.mk (C := RX10) (T := TX10) (N := 29) hts (fun _ h => List.mem_cons_of_mem _ (List.mem_append_right _ (h))) hown hK rfl (by decide) (hts (.fieldLink RX10 31 "MortarShowModel" "ticks" "[I") (List.mem_of_getElem? (i := 12) rfl)) tyX10 tyX10_ok nmX10 rfl rfl rfl
  have ff34 : FF D s m ar 34 10 8 (.array (.int)) := FF.mk (C := RX10) (T := TX10) (N := 29) hts (fun _ h => List.mem_cons_of_mem _ (List.mem_append_right _ (h))) hown hK rfl (by decide) (hts (.fieldLink RX10 34 "MortarShowModel" "rise" "[I") (List.mem_of_getElem? (i := 13) rfl)) tyX10 tyX10_ok nmX10 rfl rfl rfl
  have ff37 : FF D s m ar 37 10 9 (.array (.int)) := FF.mk (C := RX10) (T := TX10) (N := 29) hts (fun _ h => List.mem_cons_of_mem _ (List.mem_append_right _ (h))) hown hK rfl (by decide) (hts (.fieldLink RX10 37 "MortarShowModel" "windX" "[I") (List.mem_of_getElem? (i := 14) rfl)) tyX10 tyX10_ok nmX10 rfl rfl rfl
  have ff40 : FF D s m ar 40 10 10 (.array (.int)) := FF.mk (C := RX10) (T := TX10) (N := 29) hts (fun _ h => List.mem_cons_of_mem _ (List.mem_append_right _ (h))) hown hK rfl (by decide) (hts (.fieldLink RX10 40 "MortarShowModel" "windY" "[I") (List.mem_of_getElem? (i := 15) rfl)) tyX10 tyX10_ok nmX10 rfl rfl rfl
  have ff43 : FF D s m ar 43 10 11 (.array (.int)) := FF.mk (C := RX10) (T := TX10) (N := 29) hts (fun _ h => List.mem_cons_of_mem _ (List.mem_append_right _ (h))) hown hK rfl (by decide) (hts (.fieldLink RX10 43 "MortarShowModel" "people" "[I") (List.mem_of_getElem? (i := 16) rfl)) tyX10 tyX10_ok nmX10 rfl rfl rfl
  have ff46 : FF D s m ar 46 10 12 (.array (.int)) := FF.mk (C := RX10) (T := TX10) (N := 29) hts (fun _ h => List.mem_cons_of_mem _ (List.mem_append_right _ (h))) hown hK rfl (by decide) (hts (.fieldLink RX10 46 "MortarShowModel" "value" "[I") (List.mem_of_getElem? (i := 17) rfl)) tyX10 tyX10_ok nmX10 rfl rfl rfl
  have ff49 : FF D s m ar 49 10 13 (.array (.int)) := FF.mk (C := RX10) (T := TX10) (N := 29) hts (fun _ h => List.mem_cons_of_mem _ (List.mem_append_right _ (h))) hown hK rfl (by decide) (hts (.fieldLink RX10 49 "MortarShowModel" "rate" "[I") (List.mem_of_getElem? (i := 18) rfl)) tyX10 tyX10_ok nmX10 rfl rfl rfl
  have ff52 : FF D s m ar 52 10 14 (.array (.boolean)) := FF.mk (C := RX10) (T := TX10) (N := 29) hts (fun _ h => List.mem_cons_of_mem _ (List.mem_append_right _ (h))) hown hK rfl (by decide) (hts (.fieldLink RX10 52 "MortarShowModel" "dead" "[Z") (List.mem_of_getElem? (i := 20) rfl)) tyX10 tyX10_ok nmX10 rfl rfl rfl
  have ff63 : FF D s m ar 63 10 18 (.array (.int)) := FF.mk (C := RX10) (T := TX10) (N := 29) hts (fun _ h => List.mem_cons_of_mem _ (List.mem_append_right _ (h))) hown hK rfl (by decide) (hts (.fieldLink RX10 63 "MortarShowModel" "beat" "[I") (List.mem_of_getElem? (i := 23) rfl)) tyX10 tyX10_ok nmX10 rfl rfl rfl
  have ff66 : FF D s m ar 66 10 19 (.array (.int)) := FF.mk (C := RX10) (T := TX10) (N := 29) hts (fun _ h => List.mem_cons_of_mem _ (List.mem_append_right _ (h))) hown hK rfl (by decide) (hts (.fieldLink RX10 66 "MortarShowModel" "kind" "[I") (List.mem_of_getElem? (i := 24) rfl)) tyX10 tyX10_ok nmX10 rfl rfl rfl
  have ff69 : FF D s m ar 69 10 20 (.array (.int)) := FF.mk (C := RX10) (T := TX10) (N := 29) hts (fun _ h => List.mem_cons_of_mem _ (List.mem_append_right _ (h))) hown hK rfl (by decide) (hts (.fieldLink RX10 69 "MortarShowModel" "from" "[I") (List.mem_of_getElem? (i := 25) rfl)) tyX10 tyX10_ok nmX10 rfl rfl rfl
  have ff72 : FF D s m ar 72 10 21 (.array (.boolean)) := FF.mk (C := RX10) (T := TX10) (N := 29) hts (fun _ h => List.mem_cons_of_mem _ (List.mem_append_right _ (h))) hown hK rfl (by decide) (hts (.fieldLink RX10 72 "MortarShowModel" "gone" "[Z") (List.mem_of_getElem? (i := 26) rfl)) tyX10 tyX10_ok nmX10 rfl rfl rfl
  have ff75 : FF D s m ar 75 10 22 (.array (.int)) := FF.mk (C := RX10) (T := TX10) (N := 29) hts (fun _ h => List.mem_cons_of_mem _ (List.mem_append_right _ (h))) hown hK rfl (by decide) (hts (.fieldLink RX10 75 "MortarShowModel" "fate" "[I") (List.mem_of_getElem? (i := 27) rfl)) tyX10 tyX10_ok nmX10 rfl rfl rfl
  have ff78 : FF D s m ar 78 10 23 (.array (.int)) := FF.mk (C := RX10) (T := TX10) (N := 29) hts (fun _ h => List.mem_cons_of_mem _ (List.mem_append_right _ (h))) hown hK rfl (by decide) (hts (.fieldLink RX10 78 "MortarShowModel" "tick" "[I") (List.mem_of_getElem? (i := 28) rfl)) tyX10 tyX10_ok nmX10 rfl rfl rfl
  have ff81 : FF D s m ar 81 10 24 (.array (.int)) := FF.mk (C := RX10) (T := TX10) (N := 29) hts (fun _ h => List.mem_cons_of_mem _ (List.mem_append_right _ (h))) hown hK rfl (by decide) (hts (.fieldLink RX10 81 "MortarShowModel" "channel" "[I") (List.mem_of_getElem? (i := 29) rfl)) tyX10 tyX10_ok nmX10 rfl rfl rfl
  have ff84 : FF D s m ar 84 10 25 (.array (.int)) := FF.mk (C := RX10) (T := TX10) (N := 29) hts (fun _ h => List.mem_cons_of_mem _ (List.mem_append_right _ (h))) hown hK rfl (by decide) (hts (.fieldLink RX10 84 "MortarShowModel" "order" "[I") (List.mem_of_getElem? (i := 30) rfl)) tyX10 tyX10_ok nmX10 rfl rfl rfl
  have ff87 : FF D s m ar 87 10 26 (.array (.int)) := FF.mk (C := RX10) (T := TX10) (N := 29) hts (fun _ h => List.mem_cons_of_mem _ (List.mem_append_right _ (h))) hown hK rfl (by decide) (hts (.fieldLink RX10 87 "MortarShowModel" "given" "[I") (List.mem_of_getElem? (i := 31) rfl)) tyX10 tyX10_ok nmX10 rfl rfl rfl
  have fw56 : FW D s m ar 56 10 15 (.int) := FW.mk (C := RX10) (T := TX10) (N := 29) hts (fun _ h => List.mem_cons_of_mem _ (List.mem_append_right _ (h))) hown hK rfl (by decide) (hts (.fieldLink RX10 56 "MortarShowModel" "tempo" "I") (List.mem_of_getElem? (i := 21) rfl)) tyX10 tyX10_ok nmX10 rfl rfl
  have fw60 : FW D s m ar 60 10 16 (.int) := FW.mk (C := RX10) (T := TX10) (N := 29) hts (fun _ h => List.mem_cons_of_mem _ (List.mem_append_right _ (h))) hown hK rfl (by decide) (hts (.fieldLink RX10 60 "MortarShowModel" "gap" "I") (List.mem_of_getElem? (i := 22) rfl)) tyX10 tyX10_ok nmX10 rfl rfl
  refine lv_aload_n hx hb dX10_init_0 rfl (lv_at hl 0 rfl) ?_
  refine W.objInit hx hb hown (hts (.methodLink RX10 1 objectInit) (List.mem_of_getElem? (i := 1) rfl)) (hts (.instanceMethod objectInit) (List.mem_of_getElem? (i := 2) rfl)) (hts (.code objectInit ⟨#[0xb1]⟩ 1 none) (List.mem_of_getElem? (i := 3) rfl)) rfl (by rw [hml]; exact hl.1) rfl dX10_init_1 (Nat.le_of_ble_eq_true rfl) (Nat.le_of_ble_eq_true rfl) ?_
  refine W.eq (g2 := F0 m 4 ls []) rfl ?_
  refine lv_aload_n hx hb dX10_init_4 rfl (lv_at hl 0 rfl) ?_
  refine lv_bipush (v := 6) hx hb dX10_init_5 (by decide) ?_
  refine wnewAI (q := 61) (N := 6) (n := 6) hx hb (hts (.arrayClass .int) (List.mem_of_getElem? (i := 4) rfl)) hK hC (by rw [eS]; rfl) hA hW rfl (by decide) ⟨Nat.le_of_ble_eq_true rfl, Nat.le_of_ble_eq_true rfl⟩ dX10_init_7 (fun sh ad H esh hk hge hC hA hW => ?_)
  rw [← (hk 60 (by omega))] at hl
  rw [← (hk 60 (by omega))]
  have hG := hG.new (by rw [eS]; rfl) esh hk hge
  have eS : sh = shMn 1 := by rw [esh, eS]; exact shM_s (n := 0) rfl
  refine wpfR hx hb ff7 hin hA hW (show sh 60 = some (.inl (10, [2, 2, 2, 2, 2, 2, 2, 2, 2, 2, 2, 2, 2, 2, 2, 0, 0, 0, 2, 2, 2, 2, 2, 2, 2, 2, 2, 0, 0])) by rw [eS]; rfl) rfl rfl rfl dX10_init_9 (fun M9' H locs eM9 hW => ?_)
  have hC : CZ sh M9' := by rw [eM9]; exact hC.R (ne_none (show sh 60 = some (.inl (10, [2, 2, 2, 2, 2, 2, 2, 2, 2, 2, 2, 2, 2, 2, 2, 0, 0, 0, 2, 2, 2, 2, 2, 2, 2, 2, 2, 0, 0])) by rw [eS]; rfl)) (ne_none (show sh 61 = some (.inr (0, 6)) by rw [eS]; rfl))
  refine lv_aload_n hx hb dX10_init_12 rfl (lv_at hl 0 rfl) ?_
  refine lv_iconst (v := 4) hx hb dX10_init_13 (by decide) ?_
  refine wnewAI (q := 62) (N := 4) (n := 4) hx hb (hts (.arrayClass .int) (List.mem_of_getElem? (i := 4) rfl)) hK hC (by rw [eS]; rfl) hA hW rfl (by decide) ⟨Nat.le_of_ble_eq_true rfl, Nat.le_of_ble_eq_true rfl⟩ dX10_init_14 (fun sh ad H esh hk hge hC hA hW => ?_)
  rw [← (hk 60 (by omega))] at hl
  rw [← (hk 60 (by omega))]
  have hG := hG.new (by rw [eS]; rfl) esh hk hge
  have eS : sh = shMn 2 := by rw [esh, eS]; exact shM_s (n := 1) rfl
  refine wpfR hx hb ff13 hin hA hW (show sh 60 = some (.inl (10, [2, 2, 2, 2, 2, 2, 2, 2, 2, 2, 2, 2, 2, 2, 2, 0, 0, 0, 2, 2, 2, 2, 2, 2, 2, 2, 2, 0, 0])) by rw [eS]; rfl) rfl rfl rfl dX10_init_16 (fun M16' H locs eM16 hW => ?_)
  have hC : CZ sh M16' := by rw [eM16]; exact hC.R (ne_none (show sh 60 = some (.inl (10, [2, 2, 2, 2, 2, 2, 2, 2, 2, 2, 2, 2, 2, 2, 2, 0, 0, 0, 2, 2, 2, 2, 2, 2, 2, 2, 2, 0, 0])) by rw [eS]; rfl)) (ne_none (show sh 62 = some (.inr (0, 4)) by rw [eS]; rfl))
  refine lv_aload_n hx hb dX10_init_19 rfl (lv_at hl 0 rfl) ?_
  refine lv_iconst (v := 4) hx hb dX10_init_20 (by decide) ?_
  refine wnewAI (q := 63) (N := 4) (n := 4) hx hb (hts (.arrayClass .int) (List.mem_of_getElem? (i := 4) rfl)) hK hC (by rw [eS]; rfl) hA hW rfl (by decide) ⟨Nat.le_of_ble_eq_true rfl, Nat.le_of_ble_eq_true rfl⟩ dX10_init_21 (fun sh ad H esh hk hge hC hA hW => ?_)
  rw [← (hk 60 (by omega))] at hl
  rw [← (hk 60 (by omega))]
  have hG := hG.new (by rw [eS]; rfl) esh hk hge
  have eS : sh = shMn 3 := by rw [esh, eS]; exact shM_s (n := 2) rfl
  refine wpfR hx hb ff16 hin hA hW (show sh 60 = some (.inl (10, [2, 2, 2, 2, 2, 2, 2, 2, 2, 2, 2, 2, 2, 2, 2, 0, 0, 0, 2, 2, 2, 2, 2, 2, 2, 2, 2, 0, 0])) by rw [eS]; rfl) rfl rfl rfl dX10_init_23 (fun M23' H locs eM23 hW => ?_)
  have hC : CZ sh M23' := by rw [eM23]; exact hC.R (ne_none (show sh 60 = some (.inl (10, [2, 2, 2, 2, 2, 2, 2, 2, 2, 2, 2, 2, 2, 2, 2, 0, 0, 0, 2, 2, 2, 2, 2, 2, 2, 2, 2, 0, 0])) by rw [eS]; rfl)) (ne_none (show sh 63 = some (.inr (0, 4)) by rw [eS]; rfl))
  refine lv_aload_n hx hb dX10_init_26 rfl (lv_at hl 0 rfl) ?_
  refine lv_iconst (v := 4) hx hb dX10_init_27 (by decide) ?_
  refine wnewAI (q := 64) (N := 4) (n := 4) hx hb (hts (.arrayClass .int) (List.mem_of_getElem? (i := 4) rfl)) hK hC (by rw [eS]; rfl) hA hW rfl (by decide) ⟨Nat.le_of_ble_eq_true rfl, Nat.le_of_ble_eq_true rfl⟩ dX10_init_28 (fun sh ad H esh hk hge hC hA hW => ?_)
  rw [← (hk 60 (by omega))] at hl
  rw [← (hk 60 (by omega))]
  have hG := hG.new (by rw [eS]; rfl) esh hk hge
  have eS : sh = shMn 4 := by rw [esh, eS]; exact shM_s (n := 3) rfl
  refine wpfR hx hb ff19 hin hA hW (show sh 60 = some (.inl (10, [2, 2, 2, 2, 2, 2, 2, 2, 2, 2, 2, 2, 2, 2, 2, 0, 0, 0, 2, 2, 2, 2, 2, 2, 2, 2, 2, 0, 0])) by rw [eS]; rfl) rfl rfl rfl dX10_init_30 (fun M30' H locs eM30 hW => ?_)
  have hC : CZ sh M30' := by rw [eM30]; exact hC.R (ne_none (show sh 60 = some (.inl (10, [2, 2, 2, 2, 2, 2, 2, 2, 2, 2, 2, 2, 2, 2, 2, 0, 0, 0, 2, 2, 2, 2, 2, 2, 2, 2, 2, 0, 0])) by rw [eS]; rfl)) (ne_none (show sh 64 = some (.inr (0, 4)) by rw [eS]; rfl))
  refine lv_aload_n hx hb dX10_init_33 rfl (lv_at hl 0 rfl) ?_
  refine lv_iconst (v := 4) hx hb dX10_init_34 (by decide) ?_
  refine wnewAI (q := 65) (N := 4) (n := 4) hx hb (hts (.arrayClass .int) (List.mem_of_getElem? (i := 4) rfl)) hK hC (by rw [eS]; rfl) hA hW rfl (by decide) ⟨Nat.le_of_ble_eq_true rfl, Nat.le_of_ble_eq_true rfl⟩ dX10_init_35 (fun sh ad H esh hk hge hC hA hW => ?_)
  rw [← (hk 60 (by omega))] at hl
  rw [← (hk 60 (by omega))]
  have hG := hG.new (by rw [eS]; rfl) esh hk hge
  have eS : sh = shMn 5 := by rw [esh, eS]; exact shM_s (n := 4) rfl
  refine wpfR hx hb ff22 hin hA hW (show sh 60 = some (.inl (10, [2, 2, 2, 2, 2, 2, 2, 2, 2, 2, 2, 2, 2, 2, 2, 0, 0, 0, 2, 2, 2, 2, 2, 2, 2, 2, 2, 0, 0])) by rw [eS]; rfl) rfl rfl rfl dX10_init_37 (fun M37' H locs eM37 hW => ?_)
  have hC : CZ sh M37' := by rw [eM37]; exact hC.R (ne_none (show sh 60 = some (.inl (10, [2, 2, 2, 2, 2, 2, 2, 2, 2, 2, 2, 2, 2, 2, 2, 0, 0, 0, 2, 2, 2, 2, 2, 2, 2, 2, 2, 0, 0])) by rw [eS]; rfl)) (ne_none (show sh 65 = some (.inr (0, 4)) by rw [eS]; rfl))
  refine lv_aload_n hx hb dX10_init_40 rfl (lv_at hl 0 rfl) ?_
  refine lv_iconst (v := 4) hx hb dX10_init_41 (by decide) ?_
  refine wnewAI (q := 66) (N := 4) (n := 4) hx hb (hts (.arrayClass .int) (List.mem_of_getElem? (i := 4) rfl)) hK hC (by rw [eS]; rfl) hA hW rfl (by decide) ⟨Nat.le_of_ble_eq_true rfl, Nat.le_of_ble_eq_true rfl⟩ dX10_init_42 (fun sh ad H esh hk hge hC hA hW => ?_)
  rw [← (hk 60 (by omega))] at hl
  rw [← (hk 60 (by omega))]
  have hG := hG.new (by rw [eS]; rfl) esh hk hge
  have eS : sh = shMn 6 := by rw [esh, eS]; exact shM_s (n := 5) rfl
  refine wpfR hx hb ff25 hin hA hW (show sh 60 = some (.inl (10, [2, 2, 2, 2, 2, 2, 2, 2, 2, 2, 2, 2, 2, 2, 2, 0, 0, 0, 2, 2, 2, 2, 2, 2, 2, 2, 2, 0, 0])) by rw [eS]; rfl) rfl rfl rfl dX10_init_44 (fun M44' H locs eM44 hW => ?_)
  have hC : CZ sh M44' := by rw [eM44]; exact hC.R (ne_none (show sh 60 = some (.inl (10, [2, 2, 2, 2, 2, 2, 2, 2, 2, 2, 2, 2, 2, 2, 2, 0, 0, 0, 2, 2, 2, 2, 2, 2, 2, 2, 2, 0, 0])) by rw [eS]; rfl)) (ne_none (show sh 66 = some (.inr (0, 4)) by rw [eS]; rfl))
  refine lv_aload_n hx hb dX10_init_47 rfl (lv_at hl 0 rfl) ?_
  refine lv_iconst (v := 4) hx hb dX10_init_48 (by decide) ?_
  refine wnewAI (q := 67) (N := 4) (n := 4) hx hb (hts (.arrayClass .int) (List.mem_of_getElem? (i := 4) rfl)) hK hC (by rw [eS]; rfl) hA hW rfl (by decide) ⟨Nat.le_of_ble_eq_true rfl, Nat.le_of_ble_eq_true rfl⟩ dX10_init_49 (fun sh ad H esh hk hge hC hA hW => ?_)
  rw [← (hk 60 (by omega))] at hl
  rw [← (hk 60 (by omega))]
  have hG := hG.new (by rw [eS]; rfl) esh hk hge
  have eS : sh = shMn 7 := by rw [esh, eS]; exact shM_s (n := 6) rfl
  refine wpfR hx hb ff28 hin hA hW (show sh 60 = some (.inl (10, [2, 2, 2, 2, 2, 2, 2, 2, 2, 2, 2, 2, 2, 2, 2, 0, 0, 0, 2, 2, 2, 2, 2, 2, 2, 2, 2, 0, 0])) by rw [eS]; rfl) rfl rfl rfl dX10_init_51 (fun M51' H locs eM51 hW => ?_)
  have hC : CZ sh M51' := by rw [eM51]; exact hC.R (ne_none (show sh 60 = some (.inl (10, [2, 2, 2, 2, 2, 2, 2, 2, 2, 2, 2, 2, 2, 2, 2, 0, 0, 0, 2, 2, 2, 2, 2, 2, 2, 2, 2, 0, 0])) by rw [eS]; rfl)) (ne_none (show sh 67 = some (.inr (0, 4)) by rw [eS]; rfl))
  refine lv_aload_n hx hb dX10_init_54 rfl (lv_at hl 0 rfl) ?_
  refine lv_bipush (v := 16) hx hb dX10_init_55 (by decide) ?_
  refine wnewAI (q := 68) (N := 16) (n := 16) hx hb (hts (.arrayClass .int) (List.mem_of_getElem? (i := 4) rfl)) hK hC (by rw [eS]; rfl) hA hW rfl (by decide) ⟨Nat.le_of_ble_eq_true rfl, Nat.le_of_ble_eq_true rfl⟩ dX10_init_57 (fun sh ad H esh hk hge hC hA hW => ?_)
  rw [← (hk 60 (by omega))] at hl
  rw [← (hk 60 (by omega))]
  have hG := hG.new (by rw [eS]; rfl) esh hk hge
  have eS : sh = shMn 8 := by rw [esh, eS]; exact shM_s (n := 7) rfl
  refine wpfR hx hb ff31 hin hA hW (show sh 60 = some (.inl (10, [2, 2, 2, 2, 2, 2, 2, 2, 2, 2, 2, 2, 2, 2, 2, 0, 0, 0, 2, 2, 2, 2, 2, 2, 2, 2, 2, 0, 0])) by rw [eS]; rfl) rfl rfl rfl dX10_init_59 (fun M59' H locs eM59 hW => ?_)
  have hC : CZ sh M59' := by rw [eM59]; exact hC.R (ne_none (show sh 60 = some (.inl (10, [2, 2, 2, 2, 2, 2, 2, 2, 2, 2, 2, 2, 2, 2, 2, 0, 0, 0, 2, 2, 2, 2, 2, 2, 2, 2, 2, 0, 0])) by rw [eS]; rfl)) (ne_none (show sh 68 = some (.inr (0, 16)) by rw [eS]; rfl))
  refine lv_aload_n hx hb dX10_init_62 rfl (lv_at hl 0 rfl) ?_
  refine lv_bipush (v := 16) hx hb dX10_init_63 (by decide) ?_
  refine wnewAI (q := 69) (N := 16) (n := 16) hx hb (hts (.arrayClass .int) (List.mem_of_getElem? (i := 4) rfl)) hK hC (by rw [eS]; rfl) hA hW rfl (by decide) ⟨Nat.le_of_ble_eq_true rfl, Nat.le_of_ble_eq_true rfl⟩ dX10_init_65 (fun sh ad H esh hk hge hC hA hW => ?_)
  rw [← (hk 60 (by omega))] at hl
  rw [← (hk 60 (by omega))]
  have hG := hG.new (by rw [eS]; rfl) esh hk hge
  have eS : sh = shMn 9 := by rw [esh, eS]; exact shM_s (n := 8) rfl
  refine wpfR hx hb ff34 hin hA hW (show sh 60 = some (.inl (10, [2, 2, 2, 2, 2, 2, 2, 2, 2, 2, 2, 2, 2, 2, 2, 0, 0, 0, 2, 2, 2, 2, 2, 2, 2, 2, 2, 0, 0])) by rw [eS]; rfl) rfl rfl rfl dX10_init_67 (fun M67' H locs eM67 hW => ?_)
  have hC : CZ sh M67' := by rw [eM67]; exact hC.R (ne_none (show sh 60 = some (.inl (10, [2, 2, 2, 2, 2, 2, 2, 2, 2, 2, 2, 2, 2, 2, 2, 0, 0, 0, 2, 2, 2, 2, 2, 2, 2, 2, 2, 0, 0])) by rw [eS]; rfl)) (ne_none (show sh 69 = some (.inr (0, 16)) by rw [eS]; rfl))
  refine lv_aload_n hx hb dX10_init_70 rfl (lv_at hl 0 rfl) ?_
  refine lv_iconst (v := 4) hx hb dX10_init_71 (by decide) ?_
  refine wnewAI (q := 70) (N := 4) (n := 4) hx hb (hts (.arrayClass .int) (List.mem_of_getElem? (i := 4) rfl)) hK hC (by rw [eS]; rfl) hA hW rfl (by decide) ⟨Nat.le_of_ble_eq_true rfl, Nat.le_of_ble_eq_true rfl⟩ dX10_init_72 (fun sh ad H esh hk hge hC hA hW => ?_)
  rw [← (hk 60 (by omega))] at hl
  rw [← (hk 60 (by omega))]
  have hG := hG.new (by rw [eS]; rfl) esh hk hge
  have eS : sh = shMn 10 := by rw [esh, eS]; exact shM_s (n := 9) rfl
  refine wpfR hx hb ff37 hin hA hW (show sh 60 = some (.inl (10, [2, 2, 2, 2, 2, 2, 2, 2, 2, 2, 2, 2, 2, 2, 2, 0, 0, 0, 2, 2, 2, 2, 2, 2, 2, 2, 2, 0, 0])) by rw [eS]; rfl) rfl rfl rfl dX10_init_74 (fun M74' H locs eM74 hW => ?_)
  have hC : CZ sh M74' := by rw [eM74]; exact hC.R (ne_none (show sh 60 = some (.inl (10, [2, 2, 2, 2, 2, 2, 2, 2, 2, 2, 2, 2, 2, 2, 2, 0, 0, 0, 2, 2, 2, 2, 2, 2, 2, 2, 2, 0, 0])) by rw [eS]; rfl)) (ne_none (show sh 70 = some (.inr (0, 4)) by rw [eS]; rfl))
  refine lv_aload_n hx hb dX10_init_77 rfl (lv_at hl 0 rfl) ?_
  refine lv_iconst (v := 4) hx hb dX10_init_78 (by decide) ?_
  refine wnewAI (q := 71) (N := 4) (n := 4) hx hb (hts (.arrayClass .int) (List.mem_of_getElem? (i := 4) rfl)) hK hC (by rw [eS]; rfl) hA hW rfl (by decide) ⟨Nat.le_of_ble_eq_true rfl, Nat.le_of_ble_eq_true rfl⟩ dX10_init_79 (fun sh ad H esh hk hge hC hA hW => ?_)
  rw [← (hk 60 (by omega))] at hl
  rw [← (hk 60 (by omega))]
  have hG := hG.new (by rw [eS]; rfl) esh hk hge
  have eS : sh = shMn 11 := by rw [esh, eS]; exact shM_s (n := 10) rfl
  refine wpfR hx hb ff40 hin hA hW (show sh 60 = some (.inl (10, [2, 2, 2, 2, 2, 2, 2, 2, 2, 2, 2, 2, 2, 2, 2, 0, 0, 0, 2, 2, 2, 2, 2, 2, 2, 2, 2, 0, 0])) by rw [eS]; rfl) rfl rfl rfl dX10_init_81 (fun M81' H locs eM81 hW => ?_)
  have hC : CZ sh M81' := by rw [eM81]; exact hC.R (ne_none (show sh 60 = some (.inl (10, [2, 2, 2, 2, 2, 2, 2, 2, 2, 2, 2, 2, 2, 2, 2, 0, 0, 0, 2, 2, 2, 2, 2, 2, 2, 2, 2, 0, 0])) by rw [eS]; rfl)) (ne_none (show sh 71 = some (.inr (0, 4)) by rw [eS]; rfl))
  refine lv_aload_n hx hb dX10_init_84 rfl (lv_at hl 0 rfl) ?_
  refine lv_bipush (v := 64) hx hb dX10_init_85 (by decide) ?_
  refine wnewAI (q := 72) (N := 64) (n := 64) hx hb (hts (.arrayClass .int) (List.mem_of_getElem? (i := 4) rfl)) hK hC (by rw [eS]; rfl) hA hW rfl (by decide) ⟨Nat.le_of_ble_eq_true rfl, Nat.le_of_ble_eq_true rfl⟩ dX10_init_87 (fun sh ad H esh hk hge hC hA hW => ?_)
  rw [← (hk 60 (by omega))] at hl
  rw [← (hk 60 (by omega))]
  have hG := hG.new (by rw [eS]; rfl) esh hk hge
  have eS : sh = shMn 12 := by rw [esh, eS]; exact shM_s (n := 11) rfl
  refine wpfR hx hb ff43 hin hA hW (show sh 60 = some (.inl (10, [2, 2, 2, 2, 2, 2, 2, 2, 2, 2, 2, 2, 2, 2, 2, 0, 0, 0, 2, 2, 2, 2, 2, 2, 2, 2, 2, 0, 0])) by rw [eS]; rfl) rfl rfl rfl dX10_init_89 (fun M89' H locs eM89 hW => ?_)
  have hC : CZ sh M89' := by rw [eM89]; exact hC.R (ne_none (show sh 60 = some (.inl (10, [2, 2, 2, 2, 2, 2, 2, 2, 2, 2, 2, 2, 2, 2, 2, 0, 0, 0, 2, 2, 2, 2, 2, 2, 2, 2, 2, 0, 0])) by rw [eS]; rfl)) (ne_none (show sh 72 = some (.inr (0, 64)) by rw [eS]; rfl))
  refine lv_aload_n hx hb dX10_init_92 rfl (lv_at hl 0 rfl) ?_
  refine lv_bipush (v := 64) hx hb dX10_init_93 (by decide) ?_
  refine wnewAI (q := 73) (N := 64) (n := 64) hx hb (hts (.arrayClass .int) (List.mem_of_getElem? (i := 4) rfl)) hK hC (by rw [eS]; rfl) hA hW rfl (by decide) ⟨Nat.le_of_ble_eq_true rfl, Nat.le_of_ble_eq_true rfl⟩ dX10_init_95 (fun sh ad H esh hk hge hC hA hW => ?_)
  rw [← (hk 60 (by omega))] at hl
  rw [← (hk 60 (by omega))]
  have hG := hG.new (by rw [eS]; rfl) esh hk hge
  have eS : sh = shMn 13 := by rw [esh, eS]; exact shM_s (n := 12) rfl
  refine wpfR hx hb ff46 hin hA hW (show sh 60 = some (.inl (10, [2, 2, 2, 2, 2, 2, 2, 2, 2, 2, 2, 2, 2, 2, 2, 0, 0, 0, 2, 2, 2, 2, 2, 2, 2, 2, 2, 0, 0])) by rw [eS]; rfl) rfl rfl rfl dX10_init_97 (fun M97' H locs eM97 hW => ?_)
  have hC : CZ sh M97' := by rw [eM97]; exact hC.R (ne_none (show sh 60 = some (.inl (10, [2, 2, 2, 2, 2, 2, 2, 2, 2, 2, 2, 2, 2, 2, 2, 0, 0, 0, 2, 2, 2, 2, 2, 2, 2, 2, 2, 0, 0])) by rw [eS]; rfl)) (ne_none (show sh 73 = some (.inr (0, 64)) by rw [eS]; rfl))
  refine lv_aload_n hx hb dX10_init_100 rfl (lv_at hl 0 rfl) ?_
  refine lv_bipush (v := 10) hx hb dX10_init_101 (by decide) ?_
  refine wnewAI (q := 74) (N := 10) (n := 10) hx hb (hts (.arrayClass .int) (List.mem_of_getElem? (i := 4) rfl)) hK hC (by rw [eS]; rfl) hA hW rfl (by decide) ⟨Nat.le_of_ble_eq_true rfl, Nat.le_of_ble_eq_true rfl⟩ dX10_init_103 (fun sh ad H esh hk hge hC hA hW => ?_)
  rw [← (hk 60 (by omega))] at hl
  rw [← (hk 60 (by omega))]
  have hG := hG.new (by rw [eS]; rfl) esh hk hge
  have eS : sh = shMn 14 := by rw [esh, eS]; exact shM_s (n := 13) rfl
  refine wpfR hx hb ff49 hin hA hW (show sh 60 = some (.inl (10, [2, 2, 2, 2, 2, 2, 2, 2, 2, 2, 2, 2, 2, 2, 2, 0, 0, 0, 2, 2, 2, 2, 2, 2, 2, 2, 2, 0, 0])) by rw [eS]; rfl) rfl rfl rfl dX10_init_105 (fun M105' H locs eM105 hW => ?_)
  have hC : CZ sh M105' := by rw [eM105]; exact hC.R (ne_none (show sh 60 = some (.inl (10, [2, 2, 2, 2, 2, 2, 2, 2, 2, 2, 2, 2, 2, 2, 2, 0, 0, 0, 2, 2, 2, 2, 2, 2, 2, 2, 2, 0, 0])) by rw [eS]; rfl)) (ne_none (show sh 74 = some (.inr (0, 10)) by rw [eS]; rfl))
  refine lv_aload_n hx hb dX10_init_108 rfl (lv_at hl 0 rfl) ?_
  refine lv_bipush (v := 32) hx hb dX10_init_109 (by decide) ?_
  refine wnewAZ (q := 75) (N := 32) (n := 32) hx hb (hts (.arrayClass .boolean) (List.mem_of_getElem? (i := 19) rfl)) hK hC (by rw [eS]; rfl) hA hW rfl (by decide) ⟨Nat.le_of_ble_eq_true rfl, Nat.le_of_ble_eq_true rfl⟩ dX10_init_111 (fun sh ad H esh hk hge hC hA hW => ?_)
  rw [← (hk 60 (by omega))] at hl
  rw [← (hk 60 (by omega))]
  have hG := hG.new (by rw [eS]; rfl) esh hk hge
  have eS : sh = shMn 15 := by rw [esh, eS]; exact shM_s (n := 14) rfl
  refine wpfR hx hb ff52 hin hA hW (show sh 60 = some (.inl (10, [2, 2, 2, 2, 2, 2, 2, 2, 2, 2, 2, 2, 2, 2, 2, 0, 0, 0, 2, 2, 2, 2, 2, 2, 2, 2, 2, 0, 0])) by rw [eS]; rfl) rfl rfl rfl dX10_init_113 (fun M113' H locs eM113 hW => ?_)
  have hC : CZ sh M113' := by rw [eM113]; exact hC.R (ne_none (show sh 60 = some (.inl (10, [2, 2, 2, 2, 2, 2, 2, 2, 2, 2, 2, 2, 2, 2, 2, 0, 0, 0, 2, 2, 2, 2, 2, 2, 2, 2, 2, 0, 0])) by rw [eS]; rfl)) (ne_none (show sh 75 = some (.inr (1, 32)) by rw [eS]; rfl))
  refine lv_aload_n hx hb dX10_init_116 rfl (lv_at hl 0 rfl) ?_
  refine lv_bipush (v := 20) hx hb dX10_init_117 (by decide) ?_
  refine wpI hx hb fw56 hA hW (show sh 60 = some (.inl (10, [2, 2, 2, 2, 2, 2, 2, 2, 2, 2, 2, 2, 2, 2, 2, 0, 0, 0, 2, 2, 2, 2, 2, 2, 2, 2, 2, 0, 0])) by rw [eS]; rfl) rfl dX10_init_119 (fun M119' H locs eM119 hW => ?_)
  have hC : CZ sh M119' := by rw [eM119]; exact hC.I (ne_none (show sh 60 = some (.inl (10, [2, 2, 2, 2, 2, 2, 2, 2, 2, 2, 2, 2, 2, 2, 2, 0, 0, 0, 2, 2, 2, 2, 2, 2, 2, 2, 2, 0, 0])) by rw [eS]; rfl))
  refine lv_aload_n hx hb dX10_init_122 rfl (lv_at hl 0 rfl) ?_
  refine lv_iconst (v := 2) hx hb dX10_init_123 (by decide) ?_
  refine wpI hx hb fw60 hA hW (show sh 60 = some (.inl (10, [2, 2, 2, 2, 2, 2, 2, 2, 2, 2, 2, 2, 2, 2, 2, 0, 0, 0, 2, 2, 2, 2, 2, 2, 2, 2, 2, 0, 0])) by rw [eS]; rfl) rfl dX10_init_124 (fun M124' H locs eM124 hW => ?_)
  have hC : CZ sh M124' := by rw [eM124]; exact hC.I (ne_none (show sh 60 = some (.inl (10, [2, 2, 2, 2, 2, 2, 2, 2, 2, 2, 2, 2, 2, 2, 2, 0, 0, 0, 2, 2, 2, 2, 2, 2, 2, 2, 2, 0, 0])) by rw [eS]; rfl))
  refine lv_aload_n hx hb dX10_init_127 rfl (lv_at hl 0 rfl) ?_
  refine lv_bipush (v := 40) hx hb dX10_init_128 (by decide) ?_
  refine wnewAI (q := 76) (N := 40) (n := 40) hx hb (hts (.arrayClass .int) (List.mem_of_getElem? (i := 4) rfl)) hK hC (by rw [eS]; rfl) hA hW rfl (by decide) ⟨Nat.le_of_ble_eq_true rfl, Nat.le_of_ble_eq_true rfl⟩ dX10_init_130 (fun sh ad H esh hk hge hC hA hW => ?_)
  rw [← (hk 60 (by omega))] at hl
  rw [← (hk 60 (by omega))]
  have hG := hG.new (by rw [eS]; rfl) esh hk hge
  have eS : sh = shMn 16 := by rw [esh, eS]; exact shM_s (n := 15) rfl
  refine wpfR hx hb ff63 hin hA hW (show sh 60 = some (.inl (10, [2, 2, 2, 2, 2, 2, 2, 2, 2, 2, 2, 2, 2, 2, 2, 0, 0, 0, 2, 2, 2, 2, 2, 2, 2, 2, 2, 0, 0])) by rw [eS]; rfl) rfl rfl rfl dX10_init_132 (fun M132' H locs eM132 hW => ?_)
  have hC : CZ sh M132' := by rw [eM132]; exact hC.R (ne_none (show sh 60 = some (.inl (10, [2, 2, 2, 2, 2, 2, 2, 2, 2, 2, 2, 2, 2, 2, 2, 0, 0, 0, 2, 2, 2, 2, 2, 2, 2, 2, 2, 0, 0])) by rw [eS]; rfl)) (ne_none (show sh 76 = some (.inr (0, 40)) by rw [eS]; rfl))
  refine lv_aload_n hx hb dX10_init_135 rfl (lv_at hl 0 rfl) ?_
  refine lv_bipush (v := 40) hx hb dX10_init_136 (by decide) ?_
  refine wnewAI (q := 77) (N := 40) (n := 40) hx hb (hts (.arrayClass .int) (List.mem_of_getElem? (i := 4) rfl)) hK hC (by rw [eS]; rfl) hA hW rfl (by decide) ⟨Nat.le_of_ble_eq_true rfl, Nat.le_of_ble_eq_true rfl⟩ dX10_init_138 (fun sh ad H esh hk hge hC hA hW => ?_)
  rw [← (hk 60 (by omega))] at hl
  rw [← (hk 60 (by omega))]
  have hG := hG.new (by rw [eS]; rfl) esh hk hge
  have eS : sh = shMn 17 := by rw [esh, eS]; exact shM_s (n := 16) rfl
  refine wpfR hx hb ff66 hin hA hW (show sh 60 = some (.inl (10, [2, 2, 2, 2, 2, 2, 2, 2, 2, 2, 2, 2, 2, 2, 2, 0, 0, 0, 2, 2, 2, 2, 2, 2, 2, 2, 2, 0, 0])) by rw [eS]; rfl) rfl rfl rfl dX10_init_140 (fun M140' H locs eM140 hW => ?_)
  have hC : CZ sh M140' := by rw [eM140]; exact hC.R (ne_none (show sh 60 = some (.inl (10, [2, 2, 2, 2, 2, 2, 2, 2, 2, 2, 2, 2, 2, 2, 2, 0, 0, 0, 2, 2, 2, 2, 2, 2, 2, 2, 2, 0, 0])) by rw [eS]; rfl)) (ne_none (show sh 77 = some (.inr (0, 40)) by rw [eS]; rfl))
  refine lv_aload_n hx hb dX10_init_143 rfl (lv_at hl 0 rfl) ?_
  refine lv_bipush (v := 40) hx hb dX10_init_144 (by decide) ?_
  refine wnewAI (q := 78) (N := 40) (n := 40) hx hb (hts (.arrayClass .int) (List.mem_of_getElem? (i := 4) rfl)) hK hC (by rw [eS]; rfl) hA hW rfl (by decide) ⟨Nat.le_of_ble_eq_true rfl, Nat.le_of_ble_eq_true rfl⟩ dX10_init_146 (fun sh ad H esh hk hge hC hA hW => ?_)
  rw [← (hk 60 (by omega))] at hl
  rw [← (hk 60 (by omega))]
  have hG := hG.new (by rw [eS]; rfl) esh hk hge
  have eS : sh = shMn 18 := by rw [esh, eS]; exact shM_s (n := 17) rfl
  refine wpfR hx hb ff69 hin hA hW (show sh 60 = some (.inl (10, [2, 2, 2, 2, 2, 2, 2, 2, 2, 2, 2, 2, 2, 2, 2, 0, 0, 0, 2, 2, 2, 2, 2, 2, 2, 2, 2, 0, 0])) by rw [eS]; rfl) rfl rfl rfl dX10_init_148 (fun M148' H locs eM148 hW => ?_)
  have hC : CZ sh M148' := by rw [eM148]; exact hC.R (ne_none (show sh 60 = some (.inl (10, [2, 2, 2, 2, 2, 2, 2, 2, 2, 2, 2, 2, 2, 2, 2, 0, 0, 0, 2, 2, 2, 2, 2, 2, 2, 2, 2, 0, 0])) by rw [eS]; rfl)) (ne_none (show sh 78 = some (.inr (0, 40)) by rw [eS]; rfl))
  refine lv_aload_n hx hb dX10_init_151 rfl (lv_at hl 0 rfl) ?_
  refine lv_bipush (v := 40) hx hb dX10_init_152 (by decide) ?_
  refine wnewAZ (q := 79) (N := 40) (n := 40) hx hb (hts (.arrayClass .boolean) (List.mem_of_getElem? (i := 19) rfl)) hK hC (by rw [eS]; rfl) hA hW rfl (by decide) ⟨Nat.le_of_ble_eq_true rfl, Nat.le_of_ble_eq_true rfl⟩ dX10_init_154 (fun sh ad H esh hk hge hC hA hW => ?_)
  rw [← (hk 60 (by omega))] at hl
  rw [← (hk 60 (by omega))]
  have hG := hG.new (by rw [eS]; rfl) esh hk hge
  have eS : sh = shMn 19 := by rw [esh, eS]; exact shM_s (n := 18) rfl
  refine wpfR hx hb ff72 hin hA hW (show sh 60 = some (.inl (10, [2, 2, 2, 2, 2, 2, 2, 2, 2, 2, 2, 2, 2, 2, 2, 0, 0, 0, 2, 2, 2, 2, 2, 2, 2, 2, 2, 0, 0])) by rw [eS]; rfl) rfl rfl rfl dX10_init_156 (fun M156' H locs eM156 hW => ?_)
  have hC : CZ sh M156' := by rw [eM156]; exact hC.R (ne_none (show sh 60 = some (.inl (10, [2, 2, 2, 2, 2, 2, 2, 2, 2, 2, 2, 2, 2, 2, 2, 0, 0, 0, 2, 2, 2, 2, 2, 2, 2, 2, 2, 0, 0])) by rw [eS]; rfl)) (ne_none (show sh 79 = some (.inr (1, 40)) by rw [eS]; rfl))
  refine lv_aload_n hx hb dX10_init_159 rfl (lv_at hl 0 rfl) ?_
  refine lv_bipush (v := 40) hx hb dX10_init_160 (by decide) ?_
  refine wnewAI (q := 80) (N := 40) (n := 40) hx hb (hts (.arrayClass .int) (List.mem_of_getElem? (i := 4) rfl)) hK hC (by rw [eS]; rfl) hA hW rfl (by decide) ⟨Nat.le_of_ble_eq_true rfl, Nat.le_of_ble_eq_true rfl⟩ dX10_init_162 (fun sh ad H esh hk hge hC hA hW => ?_)
  rw [← (hk 60 (by omega))] at hl
  rw [← (hk 60 (by omega))]
  have hG := hG.new (by rw [eS]; rfl) esh hk hge
  have eS : sh = shMn 20 := by rw [esh, eS]; exact shM_s (n := 19) rfl
  refine wpfR hx hb ff75 hin hA hW (show sh 60 = some (.inl (10, [2, 2, 2, 2, 2, 2, 2, 2, 2, 2, 2, 2, 2, 2, 2, 0, 0, 0, 2, 2, 2, 2, 2, 2, 2, 2, 2, 0, 0])) by rw [eS]; rfl) rfl rfl rfl dX10_init_164 (fun M164' H locs eM164 hW => ?_)
  have hC : CZ sh M164' := by rw [eM164]; exact hC.R (ne_none (show sh 60 = some (.inl (10, [2, 2, 2, 2, 2, 2, 2, 2, 2, 2, 2, 2, 2, 2, 2, 0, 0, 0, 2, 2, 2, 2, 2, 2, 2, 2, 2, 0, 0])) by rw [eS]; rfl)) (ne_none (show sh 80 = some (.inr (0, 40)) by rw [eS]; rfl))
  refine lv_aload_n hx hb dX10_init_167 rfl (lv_at hl 0 rfl) ?_
  refine lv_bipush (v := 40) hx hb dX10_init_168 (by decide) ?_
  refine wnewAI (q := 81) (N := 40) (n := 40) hx hb (hts (.arrayClass .int) (List.mem_of_getElem? (i := 4) rfl)) hK hC (by rw [eS]; rfl) hA hW rfl (by decide) ⟨Nat.le_of_ble_eq_true rfl, Nat.le_of_ble_eq_true rfl⟩ dX10_init_170 (fun sh ad H esh hk hge hC hA hW => ?_)
  rw [← (hk 60 (by omega))] at hl
  rw [← (hk 60 (by omega))]
  have hG := hG.new (by rw [eS]; rfl) esh hk hge
  have eS : sh = shMn 21 := by rw [esh, eS]; exact shM_s (n := 20) rfl
  refine wpfR hx hb ff78 hin hA hW (show sh 60 = some (.inl (10, [2, 2, 2, 2, 2, 2, 2, 2, 2, 2, 2, 2, 2, 2, 2, 0, 0, 0, 2, 2, 2, 2, 2, 2, 2, 2, 2, 0, 0])) by rw [eS]; rfl) rfl rfl rfl dX10_init_172 (fun M172' H locs eM172 hW => ?_)
  have hC : CZ sh M172' := by rw [eM172]; exact hC.R (ne_none (show sh 60 = some (.inl (10, [2, 2, 2, 2, 2, 2, 2, 2, 2, 2, 2, 2, 2, 2, 2, 0, 0, 0, 2, 2, 2, 2, 2, 2, 2, 2, 2, 0, 0])) by rw [eS]; rfl)) (ne_none (show sh 81 = some (.inr (0, 40)) by rw [eS]; rfl))
  refine lv_aload_n hx hb dX10_init_175 rfl (lv_at hl 0 rfl) ?_
  refine lv_bipush (v := 40) hx hb dX10_init_176 (by decide) ?_
  refine wnewAI (q := 82) (N := 40) (n := 40) hx hb (hts (.arrayClass .int) (List.mem_of_getElem? (i := 4) rfl)) hK hC (by rw [eS]; rfl) hA hW rfl (by decide) ⟨Nat.le_of_ble_eq_true rfl, Nat.le_of_ble_eq_true rfl⟩ dX10_init_178 (fun sh ad H esh hk hge hC hA hW => ?_)
  rw [← (hk 60 (by omega))] at hl
  rw [← (hk 60 (by omega))]
  have hG := hG.new (by rw [eS]; rfl) esh hk hge
  have eS : sh = shMn 22 := by rw [esh, eS]; exact shM_s (n := 21) rfl
  refine wpfR hx hb ff81 hin hA hW (show sh 60 = some (.inl (10, [2, 2, 2, 2, 2, 2, 2, 2, 2, 2, 2, 2, 2, 2, 2, 0, 0, 0, 2, 2, 2, 2, 2, 2, 2, 2, 2, 0, 0])) by rw [eS]; rfl) rfl rfl rfl dX10_init_180 (fun M180' H locs eM180 hW => ?_)
  have hC : CZ sh M180' := by rw [eM180]; exact hC.R (ne_none (show sh 60 = some (.inl (10, [2, 2, 2, 2, 2, 2, 2, 2, 2, 2, 2, 2, 2, 2, 2, 0, 0, 0, 2, 2, 2, 2, 2, 2, 2, 2, 2, 0, 0])) by rw [eS]; rfl)) (ne_none (show sh 82 = some (.inr (0, 40)) by rw [eS]; rfl))
  refine lv_aload_n hx hb dX10_init_183 rfl (lv_at hl 0 rfl) ?_
  refine lv_bipush (v := 40) hx hb dX10_init_184 (by decide) ?_
  refine wnewAI (q := 83) (N := 40) (n := 40) hx hb (hts (.arrayClass .int) (List.mem_of_getElem? (i := 4) rfl)) hK hC (by rw [eS]; rfl) hA hW rfl (by decide) ⟨Nat.le_of_ble_eq_true rfl, Nat.le_of_ble_eq_true rfl⟩ dX10_init_186 (fun sh ad H esh hk hge hC hA hW => ?_)
  rw [← (hk 60 (by omega))] at hl
  rw [← (hk 60 (by omega))]
  have hG := hG.new (by rw [eS]; rfl) esh hk hge
  have eS : sh = shMn 23 := by rw [esh, eS]; exact shM_s (n := 22) rfl
  refine wpfR hx hb ff84 hin hA hW (show sh 60 = some (.inl (10, [2, 2, 2, 2, 2, 2, 2, 2, 2, 2, 2, 2, 2, 2, 2, 0, 0, 0, 2, 2, 2, 2, 2, 2, 2, 2, 2, 0, 0])) by rw [eS]; rfl) rfl rfl rfl dX10_init_188 (fun M188' H locs eM188 hW => ?_)
  have hC : CZ sh M188' := by rw [eM188]; exact hC.R (ne_none (show sh 60 = some (.inl (10, [2, 2, 2, 2, 2, 2, 2, 2, 2, 2, 2, 2, 2, 2, 2, 0, 0, 0, 2, 2, 2, 2, 2, 2, 2, 2, 2, 0, 0])) by rw [eS]; rfl)) (ne_none (show sh 83 = some (.inr (0, 40)) by rw [eS]; rfl))
  refine lv_aload_n hx hb dX10_init_191 rfl (lv_at hl 0 rfl) ?_
  refine lv_bipush (v := 32) hx hb dX10_init_192 (by decide) ?_
  refine wnewAI (q := 84) (N := 32) (n := 32) hx hb (hts (.arrayClass .int) (List.mem_of_getElem? (i := 4) rfl)) hK hC (by rw [eS]; rfl) hA hW rfl (by decide) ⟨Nat.le_of_ble_eq_true rfl, Nat.le_of_ble_eq_true rfl⟩ dX10_init_194 (fun sh ad H esh hk hge hC hA hW => ?_)
  rw [← (hk 60 (by omega))] at hl
  rw [← (hk 60 (by omega))]
  have hG := hG.new (by rw [eS]; rfl) esh hk hge
  have eS : sh = shMn 24 := by rw [esh, eS]; exact shM_s (n := 23) rfl
  refine wpfR hx hb ff87 hin hA hW (show sh 60 = some (.inl (10, [2, 2, 2, 2, 2, 2, 2, 2, 2, 2, 2, 2, 2, 2, 2, 0, 0, 0, 2, 2, 2, 2, 2, 2, 2, 2, 2, 0, 0])) by rw [eS]; rfl) rfl rfl rfl dX10_init_196 (fun M196' H locs eM196 hW => ?_)
  have hC : CZ sh M196' := by rw [eM196]; exact hC.R (ne_none (show sh 60 = some (.inl (10, [2, 2, 2, 2, 2, 2, 2, 2, 2, 2, 2, 2, 2, 2, 2, 0, 0, 0, 2, 2, 2, 2, 2, 2, 2, 2, 2, 0, 0])) by rw [eS]; rfl)) (ne_none (show sh 84 = some (.inr (0, 32)) by rw [eS]; rfl))
  have F9 : ∀ p k, ¬ (p = 60 ∧ (k = 15 ∨ k = 16)) → gI M196' p k = gI M p k := fun p k h => by
    rw [eM196, gI_sR, eM188, gI_sR, eM180, gI_sR, eM172, gI_sR, eM164, gI_sR, eM156, gI_sR, eM148, gI_sR, eM140, gI_sR, eM132, gI_sR, eM124, gI_sI, if_neg (by omega), eM119, gI_sI, if_neg (by omega), eM113, gI_sR, eM105, gI_sR, eM97, gI_sR, eM89, gI_sR, eM81, gI_sR, eM74, gI_sR, eM67, gI_sR, eM59, gI_sR, eM51, gI_sR, eM44, gI_sR, eM37, gI_sR, eM30, gI_sR, eM23, gI_sR, eM16, gI_sR, eM9, gI_sR]
  have L9 : ∀ p k, gL M196' p k = gL M p k := fun p k => by rw [eM196, gL_sR, eM188, gL_sR, eM180, gL_sR, eM172, gL_sR, eM164, gL_sR, eM156, gL_sR, eM148, gL_sR, eM140, gL_sR, eM132, gL_sR, eM124, gL_sI, eM119, gL_sI, eM113, gL_sR, eM105, gL_sR, eM97, gL_sR, eM89, gL_sR, eM81, gL_sR, eM74, gL_sR, eM67, gL_sR, eM59, gL_sR, eM51, gL_sR, eM44, gL_sR, eM37, gL_sR, eM30, gL_sR, eM23, gL_sR, eM16, gL_sR, eM9, gL_sR]
  have R9 : ∀ p k, p ≠ 60 → gR M196' p k = gR M p k := fun p k h => by
    rw [eM196, gR_sR, if_neg (fun w => h w.1), eM188, gR_sR, if_neg (fun w => h w.1), eM180, gR_sR, if_neg (fun w => h w.1), eM172, gR_sR, if_neg (fun w => h w.1), eM164, gR_sR, if_neg (fun w => h w.1), eM156, gR_sR, if_neg (fun w => h w.1), eM148, gR_sR, if_neg (fun w => h w.1), eM140, gR_sR, if_neg (fun w => h w.1), eM132, gR_sR, if_neg (fun w => h w.1), eM124, gR_sI, eM119, gR_sI, eM113, gR_sR, if_neg (fun w => h w.1), eM105, gR_sR, if_neg (fun w => h w.1), eM97, gR_sR, if_neg (fun w => h w.1), eM89, gR_sR, if_neg (fun w => h w.1), eM81, gR_sR, if_neg (fun w => h w.1), eM74, gR_sR, if_neg (fun w => h w.1), eM67, gR_sR, if_neg (fun w => h w.1), eM59, gR_sR, if_neg (fun w => h w.1), eM51, gR_sR, if_neg (fun w => h w.1), eM44, gR_sR, if_neg (fun w => h w.1), eM37, gR_sR, if_neg (fun w => h w.1), eM30, gR_sR, if_neg (fun w => h w.1), eM23, gR_sR, if_neg (fun w => h w.1), eM16, gR_sR, if_neg (fun w => h w.1), eM9, gR_sR, if_neg (fun w => h w.1)]
  have h15 : gI M196' 60 15 = 20 := by rw [eM196, eM188, eM180, eM172, eM164, eM156, eM148, eM140, eM132, eM124, eM119, eM113, eM105, eM97, eM89, eM81, eM74, eM67, eM59, eM51, eM44, eM37, eM30, eM23, eM16, eM9]; rfl
  have h16 : gI M196' 60 16 = 2 := by rw [eM196, eM188, eM180, eM172, eM164, eM156, eM148, eM140, eM132, eM124, eM119, eM113, eM105, eM97, eM89, eM81, eM74, eM67, eM59, eM51, eM44, eM37, eM30, eM23, eM16, eM9]; rfl
  have r0 : gR M196' 60 0 = some 61 := by rw [eM196, eM188, eM180, eM172, eM164, eM156, eM148, eM140, eM132, eM124, eM119, eM113, eM105, eM97, eM89, eM81, eM74, eM67, eM59, eM51, eM44, eM37, eM30, eM23, eM16, eM9]; rfl
  have r1 : gR M196' 60 1 = some 62 := by rw [eM196, eM188, eM180, eM172, eM164, eM156, eM148, eM140, eM132, eM124, eM119, eM113, eM105, eM97, eM89, eM81, eM74, eM67, eM59, eM51, eM44, eM37, eM30, eM23, eM16, eM9]; rfl
  have r2 : gR M196' 60 2 = some 63 := by rw [eM196, eM188, eM180, eM172, eM164, eM156, eM148, eM140, eM132, eM124, eM119, eM113, eM105, eM97, eM89, eM81, eM74, eM67, eM59, eM51, eM44, eM37, eM30, eM23, eM16, eM9]; rfl
  have r3 : gR M196' 60 3 = some 64 := by rw [eM196, eM188, eM180, eM172, eM164, eM156, eM148, eM140, eM132, eM124, eM119, eM113, eM105, eM97, eM89, eM81, eM74, eM67, eM59, eM51, eM44, eM37, eM30, eM23, eM16, eM9]; rfl
  have r4 : gR M196' 60 4 = some 65 := by rw [eM196, eM188, eM180, eM172, eM164, eM156, eM148, eM140, eM132, eM124, eM119, eM113, eM105, eM97, eM89, eM81, eM74, eM67, eM59, eM51, eM44, eM37, eM30, eM23, eM16, eM9]; rfl
  have r5 : gR M196' 60 5 = some 66 := by rw [eM196, eM188, eM180, eM172, eM164, eM156, eM148, eM140, eM132, eM124, eM119, eM113, eM105, eM97, eM89, eM81, eM74, eM67, eM59, eM51, eM44, eM37, eM30, eM23, eM16, eM9]; rfl
  have r6 : gR M196' 60 6 = some 67 := by rw [eM196, eM188, eM180, eM172, eM164, eM156, eM148, eM140, eM132, eM124, eM119, eM113, eM105, eM97, eM89, eM81, eM74, eM67, eM59, eM51, eM44, eM37, eM30, eM23, eM16, eM9]; rfl
  have r7 : gR M196' 60 7 = some 68 := by rw [eM196, eM188, eM180, eM172, eM164, eM156, eM148, eM140, eM132, eM124, eM119, eM113, eM105, eM97, eM89, eM81, eM74, eM67, eM59, eM51, eM44, eM37, eM30, eM23, eM16, eM9]; rfl
  have r8 : gR M196' 60 8 = some 69 := by rw [eM196, eM188, eM180, eM172, eM164, eM156, eM148, eM140, eM132, eM124, eM119, eM113, eM105, eM97, eM89, eM81, eM74, eM67, eM59, eM51, eM44, eM37, eM30, eM23, eM16, eM9]; rfl
  have r9 : gR M196' 60 9 = some 70 := by rw [eM196, eM188, eM180, eM172, eM164, eM156, eM148, eM140, eM132, eM124, eM119, eM113, eM105, eM97, eM89, eM81, eM74, eM67, eM59, eM51, eM44, eM37, eM30, eM23, eM16, eM9]; rfl
  have r10 : gR M196' 60 10 = some 71 := by rw [eM196, eM188, eM180, eM172, eM164, eM156, eM148, eM140, eM132, eM124, eM119, eM113, eM105, eM97, eM89, eM81, eM74, eM67, eM59, eM51, eM44, eM37, eM30, eM23, eM16, eM9]; rfl
  have r11 : gR M196' 60 11 = some 72 := by rw [eM196, eM188, eM180, eM172, eM164, eM156, eM148, eM140, eM132, eM124, eM119, eM113, eM105, eM97, eM89, eM81, eM74, eM67, eM59, eM51, eM44, eM37, eM30, eM23, eM16, eM9]; rfl
  have r12 : gR M196' 60 12 = some 73 := by rw [eM196, eM188, eM180, eM172, eM164, eM156, eM148, eM140, eM132, eM124, eM119, eM113, eM105, eM97, eM89, eM81, eM74, eM67, eM59, eM51, eM44, eM37, eM30, eM23, eM16, eM9]; rfl
  have r13 : gR M196' 60 13 = some 74 := by rw [eM196, eM188, eM180, eM172, eM164, eM156, eM148, eM140, eM132, eM124, eM119, eM113, eM105, eM97, eM89, eM81, eM74, eM67, eM59, eM51, eM44, eM37, eM30, eM23, eM16, eM9]; rfl
  have r14 : gR M196' 60 14 = some 75 := by rw [eM196, eM188, eM180, eM172, eM164, eM156, eM148, eM140, eM132, eM124, eM119, eM113, eM105, eM97, eM89, eM81, eM74, eM67, eM59, eM51, eM44, eM37, eM30, eM23, eM16, eM9]; rfl
  have r18 : gR M196' 60 18 = some 76 := by rw [eM196, eM188, eM180, eM172, eM164, eM156, eM148, eM140, eM132, eM124, eM119, eM113, eM105, eM97, eM89, eM81, eM74, eM67, eM59, eM51, eM44, eM37, eM30, eM23, eM16, eM9]; rfl
  have r19 : gR M196' 60 19 = some 77 := by rw [eM196, eM188, eM180, eM172, eM164, eM156, eM148, eM140, eM132, eM124, eM119, eM113, eM105, eM97, eM89, eM81, eM74, eM67, eM59, eM51, eM44, eM37, eM30, eM23, eM16, eM9]; rfl
  have r20 : gR M196' 60 20 = some 78 := by rw [eM196, eM188, eM180, eM172, eM164, eM156, eM148, eM140, eM132, eM124, eM119, eM113, eM105, eM97, eM89, eM81, eM74, eM67, eM59, eM51, eM44, eM37, eM30, eM23, eM16, eM9]; rfl
  have r21 : gR M196' 60 21 = some 79 := by rw [eM196, eM188, eM180, eM172, eM164, eM156, eM148, eM140, eM132, eM124, eM119, eM113, eM105, eM97, eM89, eM81, eM74, eM67, eM59, eM51, eM44, eM37, eM30, eM23, eM16, eM9]; rfl
  have r22 : gR M196' 60 22 = some 80 := by rw [eM196, eM188, eM180, eM172, eM164, eM156, eM148, eM140, eM132, eM124, eM119, eM113, eM105, eM97, eM89, eM81, eM74, eM67, eM59, eM51, eM44, eM37, eM30, eM23, eM16, eM9]; rfl
  have r23 : gR M196' 60 23 = some 81 := by rw [eM196, eM188, eM180, eM172, eM164, eM156, eM148, eM140, eM132, eM124, eM119, eM113, eM105, eM97, eM89, eM81, eM74, eM67, eM59, eM51, eM44, eM37, eM30, eM23, eM16, eM9]; rfl
  have r24 : gR M196' 60 24 = some 82 := by rw [eM196, eM188, eM180, eM172, eM164, eM156, eM148, eM140, eM132, eM124, eM119, eM113, eM105, eM97, eM89, eM81, eM74, eM67, eM59, eM51, eM44, eM37, eM30, eM23, eM16, eM9]; rfl
  have r25 : gR M196' 60 25 = some 83 := by rw [eM196, eM188, eM180, eM172, eM164, eM156, eM148, eM140, eM132, eM124, eM119, eM113, eM105, eM97, eM89, eM81, eM74, eM67, eM59, eM51, eM44, eM37, eM30, eM23, eM16, eM9]; rfl
  have r26 : gR M196' 60 26 = some 84 := by rw [eM196, eM188, eM180, eM172, eM164, eM156, eM148, eM140, eM132, eM124, eM119, eM113, eM105, eM97, eM89, eM81, eM74, eM67, eM59, eM51, eM44, eM37, eM30, eM23, eM16, eM9]; rfl
  have P0 : sh 60 = some (.inl (10, [2, 2, 2, 2, 2, 2, 2, 2, 2, 2, 2, 2, 2, 2, 2, 0, 0, 0, 2, 2, 2, 2, 2, 2, 2, 2, 2, 0, 0])) := by rw [eS]; rfl
  have hW := hW.upd (y := .inl (10, [64, 65, 66, 67, 68, 69, 70, 71, 72, 73, 74, 75, 76, 77, 78, 0, 0, 0, 79, 80, 81, 82, 83, 84, 85, 86, 87, 0, 0])) (ne_none P0) (fun H hM => (hM.1 60 _ P0).slots (fun k => match k with | 0 => Or.inr ⟨rfl, _, r0, rfl⟩ | 1 => Or.inr ⟨rfl, _, r1, rfl⟩ | 2 => Or.inr ⟨rfl, _, r2, rfl⟩ | 3 => Or.inr ⟨rfl, _, r3, rfl⟩ | 4 => Or.inr ⟨rfl, _, r4, rfl⟩ | 5 => Or.inr ⟨rfl, _, r5, rfl⟩ | 6 => Or.inr ⟨rfl, _, r6, rfl⟩ | 7 => Or.inr ⟨rfl, _, r7, rfl⟩ | 8 => Or.inr ⟨rfl, _, r8, rfl⟩ | 9 => Or.inr ⟨rfl, _, r9, rfl⟩ | 10 => Or.inr ⟨rfl, _, r10, rfl⟩ | 11 => Or.inr ⟨rfl, _, r11, rfl⟩ | 12 => Or.inr ⟨rfl, _, r12, rfl⟩ | 13 => Or.inr ⟨rfl, _, r13, rfl⟩ | 14 => Or.inr ⟨rfl, _, r14, rfl⟩ | 15 => Or.inl rfl | 16 => Or.inl rfl | 17 => Or.inl rfl | 18 => Or.inr ⟨rfl, _, r18, rfl⟩ | 19 => Or.inr ⟨rfl, _, r19, rfl⟩ | 20 => Or.inr ⟨rfl, _, r20, rfl⟩ | 21 => Or.inr ⟨rfl, _, r21, rfl⟩ | 22 => Or.inr ⟨rfl, _, r22, rfl⟩ | 23 => Or.inr ⟨rfl, _, r23, rfl⟩ | 24 => Or.inr ⟨rfl, _, r24, rfl⟩ | 25 => Or.inr ⟨rfl, _, r25, rfl⟩ | 26 => Or.inr ⟨rfl, _, r26, rfl⟩ | 27 => Or.inl rfl | 28 => Or.inl rfl | k + 29 => Or.inl rfl))
  have hC := hC.sh (q := 60) (x := .inl (10, [64, 65, 66, 67, 68, 69, 70, 71, 72, 73, 74, 75, 76, 77, 78, 0, 0, 0, 79, 80, 81, 82, 83, 84, 85, 86, 87, 0, 0])) (fun t ht => by
      obtain ⟨k, hk⟩ := ht
      match k with
      | 0 => (have h9 : 64 = t + 3 := hk; rw [show t = 61 by omega, eS]; exact ne_none rfl)
      | 1 => (have h9 : 65 = t + 3 := hk; rw [show t = 62 by omega, eS]; exact ne_none rfl)
      | 2 => (have h9 : 66 = t + 3 := hk; rw [show t = 63 by omega, eS]; exact ne_none rfl)
      | 3 => (have h9 : 67 = t + 3 := hk; rw [show t = 64 by omega, eS]; exact ne_none rfl)
      | 4 => (have h9 : 68 = t + 3 := hk; rw [show t = 65 by omega, eS]; exact ne_none rfl)
      | 5 => (have h9 : 69 = t + 3 := hk; rw [show t = 66 by omega, eS]; exact ne_none rfl)
      | 6 => (have h9 : 70 = t + 3 := hk; rw [show t = 67 by omega, eS]; exact ne_none rfl)
      | 7 => (have h9 : 71 = t + 3 := hk; rw [show t = 68 by omega, eS]; exact ne_none rfl)
      | 8 => (have h9 : 72 = t + 3 := hk; rw [show t = 69 by omega, eS]; exact ne_none rfl)
      | 9 => (have h9 : 73 = t + 3 := hk; rw [show t = 70 by omega, eS]; exact ne_none rfl)
      | 10 => (have h9 : 74 = t + 3 := hk; rw [show t = 71 by omega, eS]; exact ne_none rfl)
      | 11 => (have h9 : 75 = t + 3 := hk; rw [show t = 72 by omega, eS]; exact ne_none rfl)
      | 12 => (have h9 : 76 = t + 3 := hk; rw [show t = 73 by omega, eS]; exact ne_none rfl)
      | 13 => (have h9 : 77 = t + 3 := hk; rw [show t = 74 by omega, eS]; exact ne_none rfl)
      | 14 => (have h9 : 78 = t + 3 := hk; rw [show t = 75 by omega, eS]; exact ne_none rfl)
      | 15 => exact absurd hk (by simp)
      | 16 => exact absurd hk (by simp)
      | 17 => exact absurd hk (by simp)
      | 18 => (have h9 : 79 = t + 3 := hk; rw [show t = 76 by omega, eS]; exact ne_none rfl)
      | 19 => (have h9 : 80 = t + 3 := hk; rw [show t = 77 by omega, eS]; exact ne_none rfl)
      | 20 => (have h9 : 81 = t + 3 := hk; rw [show t = 78 by omega, eS]; exact ne_none rfl)
      | 21 => (have h9 : 82 = t + 3 := hk; rw [show t = 79 by omega, eS]; exact ne_none rfl)
      | 22 => (have h9 : 83 = t + 3 := hk; rw [show t = 80 by omega, eS]; exact ne_none rfl)
      | 23 => (have h9 : 84 = t + 3 := hk; rw [show t = 81 by omega, eS]; exact ne_none rfl)
      | 24 => (have h9 : 85 = t + 3 := hk; rw [show t = 82 by omega, eS]; exact ne_none rfl)
      | 25 => (have h9 : 86 = t + 3 := hk; rw [show t = 83 by omega, eS]; exact ne_none rfl)
      | 26 => (have h9 : 87 = t + 3 := hk; rw [show t = 84 by omega, eS]; exact ne_none rfl)
      | 27 => exact absurd hk (by simp)
      | 28 => exact absurd hk (by simp)
      | k + 29 => exact absurd hk (by simp))
  have hG := hG.upd (shU_none (x := .inl (10, [64, 65, 66, 67, 68, 69, 70, 71, 72, 73, 74, 75, 76, 77, 78, 0, 0, 0, 79, 80, 81, 82, 83, 84, 85, 86, 87, 0, 0])) (ne_none P0))
  have hA := hA.upd (y := .inl (10, [64, 65, 66, 67, 68, 69, 70, 71, 72, 73, 74, 75, 76, 77, 78, 0, 0, 0, 79, 80, 81, 82, 83, 84, 85, 86, 87, 0, 0])) (ne_none P0)
  obtain ⟨sh, eS2⟩ : ∃ z, z = shU sh 60 (.inl (10, [64, 65, 66, 67, 68, 69, 70, 71, 72, 73, 74, 75, 76, 77, 78, 0, 0, 0, 79, 80, 81, 82, 83, 84, 85, 86, 87, 0, 0])) := ⟨_, rfl⟩
  rw [← eS2] at hW hC hG hA
  have eS : sh = shMF := by rw [eS2, eS]; exact shM_F
  have hMs : MSh sh := by rw [eS]; exact shMF_M
  refine lv_iconst (v := 0) hx hb dX10_init_199 (by decide) ?_
  refine lv_istore_n (lv' := [(1, .int 0), (0, .ref (ad 60))]) hx hb dX10_init_200 rfl hl (by decide) rfl (fun ls hl => ?_)
  have L201 : ∀ (fu : Nat) (i : Nat) (xr : Int32) (M1' : MS) (H : Heap) (locs : List Loc), 4 - i < fu → (i ≤ 4) → (xr = nI i) → (oI (fun p j => 62 ≤ p ∧ p ≤ 69 ∧ p ≠ 64) M196' M1') → (∀ k, k < i → KF0 k M1') → CZ sh M1' → WS D cA sh ad A s.heap M1' H locs → ∀ ls, lv_has ls 2 [(1, .int xr), (0, .ref (ad 60))] → W p l e (headSpec wsX10_init { frames := 1, cells := 24, slots := 592, locals := 24 }).room s m ar below meth cd0 H locs 24 592 (MQ below Q9 ar s 24 592 A) (F0 m 201 ls []) := by
    intro fu
    induction fu with
    | zero =>
      intro i xr M1' H locs hn hi ei o1 hf hC hW ls hl
      exact absurd hn (Nat.not_lt_zero _)
    | succ fu ih201 =>
      intro i xr M1' H locs hn hi ei o1 hf hC hW ls hl
      refine lv_iload_n hx hb dX10_init_201 rfl (lv_at hl 0 rfl) ?_
      refine lv_iconst (v := 4) hx hb dX10_init_202 (by decide) ?_
      refine lv_icmp_ge (tgt := 233) hx hb dX10_init_203 (by decide) (fun c203' => ?_) (fun c203' => ?_)
      · have k203' : 4 ≤ i := kc_ge ei (nlit 4) (by omega) (by omega) c203'
        refine lv_iconst (v := 0) hx hb dX10_init_233 (by decide) ?_
        refine lv_istore_n (lv' := [(1, .int 0), (0, .ref (ad 60))]) hx hb dX10_init_234 rfl hl (by decide) rfl (fun ls hl => ?_)
        have L235 : ∀ (fu : Nat) (j : Nat) (xr : Int32) (M3' : MS) (H : Heap) (locs : List Loc), 10 - j < fu → (j ≤ 10) → (xr = nI j) → (oI (fun p _ => p = 74) M1' M3') → (∀ k, k < j → gI M3' 74 k = 1) → CZ sh M3' → WS D cA sh ad A s.heap M3' H locs → ∀ ls, lv_has ls 2 [(1, .int xr), (0, .ref (ad 60))] → W p l e (headSpec wsX10_init { frames := 1, cells := 24, slots := 592, locals := 24 }).room s m ar below meth cd0 H locs 24 592 (MQ below Q9 ar s 24 592 A) (F0 m 235 ls []) := by
          intro fu
          induction fu with
          | zero =>
            intro j xr M3' H locs hn hj ej o3 h74 hC hW ls hl
            exact absurd hn (Nat.not_lt_zero _)
          | succ fu ih235 =>
            intro j xr M3' H locs hn hj ej o3 h74 hC hW ls hl
            refine lv_iload_n hx hb dX10_init_235 rfl (lv_at hl 0 rfl) ?_
            refine lv_bipush (v := 10) hx hb dX10_init_236 (by decide) ?_
            refine lv_icmp_ge (tgt := 254) hx hb dX10_init_238 (by decide) (fun c238' => ?_) (fun c238' => ?_)
            · have k238' : 10 ≤ j := kc_ge ej (nlit 10) (by omega) (by omega) c238'
              refine W.widen (k := 24) (n := 592) (by decide) (by decide) ?_
              rw [← hQ9]
              exact wr_cv hx hb hr hlocks hW dX10_init_254 hG hC eS ⟨fun p k hp => ⟨by rw [o3.1 _ _ (by omega), o1.1 _ _ (by omega)]; exact F9 p k (by omega), by rw [o3.lg, o1.lg]; exact L9 p k, by rw [o3.rg, o1.rg]; exact R9 p k (by omega)⟩,
                  mx0 (fun p k h1 h2 h3 h4 h5 => by rw [o3.1 _ _ (by omega), o1.1 _ _ (by omega), F9 p k h3]; exact hzz p k h1 h2) (by rw [o3.1 _ _ (by omega), o1.1 _ _ (by omega)]; exact h15) (by rw [o3.1 _ _ (by omega), o1.1 _ _ (by omega)]; exact h16) (fun k hk => (hf k (by omega)).kp (fun p j h1 h2 _ _ => o3.1 p j (by omega))) (fun k hk => h74 k (by omega))⟩
            · have k238' : ¬ 10 ≤ j := kc_gen ej (nlit 10) (by omega) (by omega) c238'
              refine lv_aload_n hx hb dX10_init_241 rfl (lv_at hl 1 rfl) ?_
              refine wgF (t := 74) hx hb fa49 hW (show sh 60 = some (.inl (10, [64, 65, 66, 67, 68, 69, 70, 71, 72, 73, 74, 75, 76, 77, 78, 0, 0, 0, 79, 80, 81, 82, 83, 84, 85, 86, 87, 0, 0])) by rw [eS]; rfl) rfl dX10_init_242 ?_
              refine lv_iload_n hx hb dX10_init_245 rfl (lv_at hl 0 rfl) ?_
              refine lv_iconst (v := 1) hx hb dX10_init_246 (by decide) ?_
              refine wasI (j := j) hx hb hK hA hW (show sh 74 = some (.inr (0, 10)) by rw [eS]; rfl) ej (by omega) (by decide) dX10_init_247 (fun M247' H locs eM247 hW => ?_)
              have hC : CZ sh M247' := by rw [eM247]; exact hC.I (ne_none (show sh 74 = some (.inr (0, 10)) by rw [eS]; rfl))
              obtain ⟨x248', e248'⟩ : ∃ y : Int32, y = xr + 1 := ⟨_, rfl⟩
              refine lv_iinc (v := x248') (lv' := [(1, .int x248'), (0, .ref (ad 60))]) hx hb dX10_init_248 hl (k := 0) rfl (by rw [e248']; rfl) (by decide) rfl (fun ls hl => ?_)
              refine lv_goto (tgt := 235) hx hb dX10_init_251 (by decide) ?_
              exact ih235 (j + 1) x248' M247' _ _ (by omega) (by omega) (by rw [e248', ej, nlit 1, nI_add]) (by rw [eM247]; exact o3.put rfl) (fun k hk9 => by
                  rw [eM247, gI_sI]
                  by_cases z : k = j
                  · subst z; rw [if_pos ⟨rfl, rfl⟩]
                  · rw [if_neg (fun w => z w.2)]; exact h74 k (by omega)) hC hW ls (lv_sub hl [0, 1] rfl)
        exact L235 (_ + 1) 0 0 M1' _ _ (Nat.lt_succ_self _) (Nat.zero_le _) rfl oI.rf (fun k hk => absurd hk (Nat.not_lt_zero k)) hC hW ls (lv_sub hl [0, 1] rfl)
      · have k203' : ¬ 4 ≤ i := kc_gen ei (nlit 4) (by omega) (by omega) c203'
        refine lv_aload_n hx hb dX10_init_206 rfl (lv_at hl 1 rfl) ?_
        refine wgF (t := 62) hx hb fa13 hW (show sh 60 = some (.inl (10, [64, 65, 66, 67, 68, 69, 70, 71, 72, 73, 74, 75, 76, 77, 78, 0, 0, 0, 79, 80, 81, 82, 83, 84, 85, 86, 87, 0, 0])) by rw [eS]; rfl) rfl dX10_init_207 ?_
        refine lv_iload_n hx hb dX10_init_210 rfl (lv_at hl 0 rfl) ?_
        refine lv_bipush (v := 50) hx hb dX10_init_211 (by decide) ?_
        refine wasI (j := i) hx hb hK hA hW (show sh 62 = some (.inr (0, 4)) by rw [eS]; rfl) ei (by omega) (by decide) dX10_init_213 (fun M213' H locs eM213 hW => ?_)
        have hC : CZ sh M213' := by rw [eM213]; exact hC.I (ne_none (show sh 62 = some (.inr (0, 4)) by rw [eS]; rfl))
        refine lv_aload_n hx hb dX10_init_214 rfl (lv_at hl 1 rfl) ?_
        refine wgF (t := 63) hx hb fa16 hW (show sh 60 = some (.inl (10, [64, 65, 66, 67, 68, 69, 70, 71, 72, 73, 74, 75, 76, 77, 78, 0, 0, 0, 79, 80, 81, 82, 83, 84, 85, 86, 87, 0, 0])) by rw [eS]; rfl) rfl dX10_init_215 ?_
        refine lv_iload_n hx hb dX10_init_218 rfl (lv_at hl 0 rfl) ?_
        refine lv_bipush (v := 20) hx hb dX10_init_219 (by decide) ?_
        refine wasI (j := i) hx hb hK hA hW (show sh 63 = some (.inr (0, 4)) by rw [eS]; rfl) ei (by omega) (by decide) dX10_init_221 (fun M221' H locs eM221 hW => ?_)
        have hC : CZ sh M221' := by rw [eM221]; exact hC.I (ne_none (show sh 63 = some (.inr (0, 4)) by rw [eS]; rfl))
        refine lv_aload_n hx hb dX10_init_222 rfl (lv_at hl 1 rfl) ?_
        refine lv_iload_n hx hb dX10_init_223 rfl (lv_at hl 0 rfl) ?_
        refine wc_wv (va_runV (As := [.int xr]) (rest := []) ⟨hx, hb, hml, hown, hts⟩ (c_X10_flies l D cA sh ad M221' _ hMs i (by omega) xr ei 50 20 hb9 hd9 (flN 50 20) (flN_ok hb9 hd9) (by rw [eM221, gI_sI, if_neg (by omega), eM213, gI_sI, if_pos ⟨rfl, rfl⟩]) (by rw [eM221, gI_sI, if_pos ⟨rfl, rfl⟩])) (cwV 1 hts gX10_init_X10_flies rfl rfl rfl (by decide +kernel) ⟨Nat.le_of_ble_eq_true rfl, Nat.le_of_ble_eq_true rfl⟩) (wpreV hK hW (C := RX10) (ci := 10) (show sh 60 = some (.inl (10, [64, 65, 66, 67, 68, 69, 70, 71, 72, 73, 74, 75, 76, 77, 78, 0, 0, 0, 79, 80, 81, 82, 83, 84, 85, 86, 87, 0, 0])) by rw [eS]; rfl) rfl) rfl rfl hl.1 rfl (lv_room (Nat.le_of_ble_eq_true rfl)) dX10_init_224 ⟨Nat.le_of_ble_eq_true rfl, Nat.le_of_ble_eq_true rfl⟩) hA hW (fun M224' H locs p224' hW => ?_)
        try dsimp only at p224'
        obtain ⟨z1, z2, z3, z4, z5⟩ := p224'
        have hC := hC.oI z5 (fun p k z => by rw [eS]; unfold flS at z; exact shMF_ne p (by omega) (by omega))
        have o224 : oI (fun p j => 62 ≤ p ∧ p ≤ 69 ∧ p ≠ 64) M196' M224' := by
          refine oI.trans ?_ (z5.mono (fun p j z => by unfold flS at z; omega))
          rw [eM221, eM213]; exact (o1.put (by omega)).put (by omega)
        have f224 : ∀ k, k < i + 1 → KF0 k M224' := fun k hk => by
          by_cases z : k = i
          · subst z
            refine ⟨?_, ?_, z1, z2, z3, z4⟩
            · rw [z5.1 _ _ (by unfold flS; omega), eM221, gI_sI, if_neg (by omega), eM213, gI_sI, if_pos ⟨rfl, rfl⟩]
            · rw [z5.1 _ _ (by unfold flS; omega), eM221, gI_sI, if_pos ⟨rfl, rfl⟩]
          · refine (hf k (by omega)).kp (fun p j h1 h2 h3 h4 => ?_)
            rw [z5.1 p j (by unfold flS; omega), eM221, gI_sI, if_neg (by omega), eM213, gI_sI, if_neg (by omega)]
        obtain ⟨x227', e227'⟩ : ∃ y : Int32, y = xr + 1 := ⟨_, rfl⟩
        refine lv_iinc (v := x227') (lv' := [(1, .int x227'), (0, .ref (ad 60))]) hx hb dX10_init_227 hl (k := 0) rfl (by rw [e227']; rfl) (by decide) rfl (fun ls hl => ?_)
        refine lv_goto (tgt := 201) hx hb dX10_init_230 (by decide) ?_
        exact ih201 (i + 1) x227' M224' _ _ (by omega) (by omega) (by rw [e227', ei, nlit 1, nI_add]) o224 f224 hC hW ls (lv_sub hl [0, 1] rfl)
  exact L201 (_ + 1) 0 0 M196' _ _ (Nat.lt_succ_self _) (Nat.zero_le _) rfl oI.rf (fun k hk => absurd hk (Nat.not_lt_zero k)) hC hW ls (lv_sub hl [0, 1] rfl)

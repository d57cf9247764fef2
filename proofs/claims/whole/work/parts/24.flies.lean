/-! The reference: flights are counted. -/
theorem lay_m {x : Int32} (h : 0 ≤ x.toInt) : layI x = if 4 ≤ x / 250 then 3 else x / 250 := by
  have e2' : (250 : Int32).toInt = 250 := rfl
  have e3' : (3 : Int32).toInt = 3 := rfl
  have e4' : (4 : Int32).toInt = 4 := rfl
  have z0 : (0 : Int32).toInt = 0 := rfl
  have h0 : 0 ≤ (x / 250).toInt := by
    have hr := i32r x
    rw [Int32.toInt_div, e2', Int.tdiv_eq_ediv_of_nonneg h, i32bm] <;> omega
  unfold layI imax imin
  generalize x / 250 = y at h0
  by_cases h1 : y < 3
  · rw [if_pos h1]
    have h1' := h1
    rw [i32lt, e3'] at h1'
    rw [if_neg (show ¬ 4 ≤ y by rw [i32le, e4']; omega)]
    by_cases h2 : (0 : Int32) < y
    · rw [if_pos h2]
    · rw [if_neg h2]
      rw [i32lt, z0] at h2
      exact (Int32.toInt_inj.mp (by rw [z0]; omega)).symm
  · rw [if_neg h1]
    rw [i32lt, e3'] at h1
    rw [if_pos (show (0 : Int32) < 3 by decide)]
    by_cases h2 : 4 ≤ y
    · rw [if_pos h2]
    · rw [if_neg h2]
      rw [i32le, e4'] at h2
      exact Int32.toInt_inj.mp (by rw [e3']; omega)
theorem fl_up {a b : Int32} {t : Nat} (h : (hsq a b t).2.2.1 = 0) : (hsq a b (t + 1)).1 = (hsq a b t).1 - 10 ∧ (hsq a b (t + 1)).2.1 = (hsq a b t).2.1 + (hsq a b t).1 ∧ liftN a b t = t ∧ liftN a b (t + 1) = t + 1 := by
  have e : hsq a b (t + 1) = hstep b (hsq a b t) := rfl
  have el : liftN a b (t + 1) = liftN a b t + if (hsq a b t).2.2.1 = 0 then 1 else 0 := rfl
  have h1 := liftN_up t h
  rw [e, el, h1, if_pos h]
  unfold hstep
  rw [if_pos h]
  exact ⟨rfl, rfl, rfl, rfl⟩
theorem fl_dn {a b : Int32} {t : Nat} (h : ¬ (hsq a b t).2.2.1 = 0) : (hsq a b (t + 1)).1 = (hsq a b t).1 ∧ (hsq a b (t + 1)).2.1 = (hsq a b t).2.1 - b ∧ liftN a b (t + 1) = liftN a b t := by
  have e : hsq a b (t + 1) = hstep b (hsq a b t) := rfl
  have el : liftN a b (t + 1) = liftN a b t + if (hsq a b t).2.2.1 = 0 then 1 else 0 := rfl
  rw [e, el, if_neg h]
  unfold hstep
  rw [if_neg h]
  exact ⟨rfl, rfl, rfl⟩
theorem cnt_s {a b : Int32} {t y0 y : Nat} (h0 : y0 < 4) (hy : y < 4) (e : layI (hsq a b t).2.1 = nI y0) : cntN a b (t + 1) y = cntN a b t y + if y = y0 then 1 else 0 := by
  have el : cntN a b (t + 1) y = cntN a b t y + if layI (hsq a b t).2.1 = nI y then 1 else 0 := rfl
  rw [el, e]
  by_cases z : y = y0
  · rw [z, if_pos rfl, if_pos rfl]
  · rw [if_neg z, if_neg (fun w => z ((nI_eq (by omega) (by omega)).mp w).symm)]
theorem FlT_pos {a b : Int32} {N : Nat} (hN : FlT a b N) : 1 ≤ N := by
  rcases Nat.eq_zero_or_pos N with z | z
  · subst z; exact absurd rfl hN.1
  · exact z
theorem high_0 {a b : Int32} {N t : Nat} (ha : 1 ≤ a.toInt ∧ a.toInt ≤ 200) (hb : 1 ≤ b.toInt ∧ b.toInt ≤ 100) (hN : FlT a b N) (ht : t < N) : 0 ≤ (hsq a b t).2.1.toInt := by
  rcases FlT_J ha hb hN (Nat.le_of_lt ht) with ⟨h1, h2, h3, h4, h5, -⟩ | ⟨h1, h2, h3, h4, h5, h6⟩
  · exact h5
  · rcases h6 with ⟨-, q⟩ | ⟨q, -⟩
    · omega
    · exact absurd ((hN.2.1 t ht).symm.trans q) (by decide)
def flS (k : Nat) (p j : Nat) : Prop := ((p = 65 ∨ p = 66 ∨ p = 67) ∧ j = k) ∨ ((p = 68 ∨ p = 69) ∧ 4 * k ≤ j ∧ j < 4 * k + 4)
set_option maxHeartbeats 4000000 in
set_option maxRecDepth 100000 in
theorem c_X10_flies (l : Launch) (D : va_G) (cA : Nat → ClassId) (sh : Nat → Option Sh) (ad : Nat → Nat) (M : MS) (sz : Nat) (hMs : MSh sh) (k : Nat) (hk4 : k < 4) (xk : Int32) (ek : xk = nI k) (a b : Int32) (ha : 1 ≤ a.toInt ∧ a.toInt ≤ 200) (hb9 : 1 ≤ b.toInt ∧ b.toInt ≤ 100) (N : Nat) (hN : FlT a b N) (h1 : gI M 62 k = a) (h2 : gI M 63 k = b) : Met l yX10_flies wsX10_flies ({ frames := 0, cells := 0, slots := 0, locals := 0 }) (wPc D cA sh ad M sz [.ref (ad 60), .int xk]) (wQv D cA sh ad (fun M' => gI M' 65 k = nI (liftN a b N) ∧ gI M' 66 k = nI N ∧ gI M' 67 k = (hsq a b (liftN a b N)).2.1 ∧ (∀ y, y < 4 → gI M' 68 (4 * k + y) = nI (cntN a b N y) ∧ gI M' 69 (4 * k + y) = nI (cntN a b (liftN a b N) y)) ∧ oI (flS k) M M') (wA sh ad sz)) 0 0 (wA sh ad sz) := by
  refine Met.ofW (cc := cX10_flies) (maxL := 5) (ret := none) (by decide) rfl ?_
  intro p e s m args below meth cd0 s₁ B hml hv
  obtain ⟨rfl, hsz, hM, hK⟩ := hv
  have hx := B.exec
  have hb := B.bytes
  have hr := B.returns
  have hts := atoms_spec (ws := wsX10_flies) B.pre
  have hown : s.vm.findClass RX10 = some m.cls := findClass_of_methodNamed B.named
  have hlocks := B.notSynchronized
  subst hsz
  have hA := wA_PA sh ad s.heap
  generalize wA sh ad s.heap.size = A at hA ⊢
  have hW : WS D cA sh ad A s.heap M s.heap [] := ⟨hM, va_S.rf⟩
  have fa13 : FA D s m ([.ref (ad 60), .int xk] : List Value).toArray 13 10 1 := FA.mk (C := RX10) (T := TX10) (N := 29) hts (fun _ h => List.mem_cons_of_mem _ (List.mem_append_right _ (h))) hown hK rfl (by decide) (hts (.fieldLink RX10 13 "MortarShowModel" "speed" "[I") (List.mem_of_getElem? (i := 3) rfl))
  have fa16 : FA D s m ([.ref (ad 60), .int xk] : List Value).toArray 16 10 2 := FA.mk (C := RX10) (T := TX10) (N := 29) hts (fun _ h => List.mem_cons_of_mem _ (List.mem_append_right _ (h))) hown hK rfl (by decide) (hts (.fieldLink RX10 16 "MortarShowModel" "fall" "[I") (List.mem_of_getElem? (i := 7) rfl))
  have fa22 : FA D s m ([.ref (ad 60), .int xk] : List Value).toArray 22 10 4 := FA.mk (C := RX10) (T := TX10) (N := 29) hts (fun _ h => List.mem_cons_of_mem _ (List.mem_append_right _ (h))) hown hK rfl (by decide) (hts (.fieldLink RX10 22 "MortarShowModel" "lift" "[I") (List.mem_of_getElem? (i := 4) rfl))
  have fa25 : FA D s m ([.ref (ad 60), .int xk] : List Value).toArray 25 10 5 := FA.mk (C := RX10) (T := TX10) (N := 29) hts (fun _ h => List.mem_cons_of_mem _ (List.mem_append_right _ (h))) hown hK rfl (by decide) (hts (.fieldLink RX10 25 "MortarShowModel" "flight" "[I") (List.mem_of_getElem? (i := 5) rfl))
  have fa28 : FA D s m ([.ref (ad 60), .int xk] : List Value).toArray 28 10 6 := FA.mk (C := RX10) (T := TX10) (N := 29) hts (fun _ h => List.mem_cons_of_mem _ (List.mem_append_right _ (h))) hown hK rfl (by decide) (hts (.fieldLink RX10 28 "MortarShowModel" "height" "[I") (List.mem_of_getElem? (i := 6) rfl))
  have fa31 : FA D s m ([.ref (ad 60), .int xk] : List Value).toArray 31 10 7 := FA.mk (C := RX10) (T := TX10) (N := 29) hts (fun _ h => List.mem_cons_of_mem _ (List.mem_append_right _ (h))) hown hK rfl (by decide) (hts (.fieldLink RX10 31 "MortarShowModel" "ticks" "[I") (List.mem_of_getElem? (i := 1) rfl))
  have fa34 : FA D s m ([.ref (ad 60), .int xk] : List Value).toArray 34 10 8 := FA.mk (C := RX10) (T := TX10) (N := 29) hts (fun _ h => List.mem_cons_of_mem _ (List.mem_append_right _ (h))) hown hK rfl (by decide) (hts (.fieldLink RX10 34 "MortarShowModel" "rise" "[I") (List.mem_of_getElem? (i := 2) rfl))
  have hl := lv_entry ([.ref (ad 60), .int xk]) (n := 5) (Nat.le_of_ble_eq_true rfl)
  rw [lg_entry_eq]
  generalize (lg_sl ([.ref (ad 60), .int xk]) ++ List.replicate (5 - (lg_sl ([.ref (ad 60), .int xk])).length) Slot.unset).toArray = ls at hl ⊢
  have hl : lv_has ls 5 [(0, .ref (ad 60)), (1, .int xk)] := hl
  refine lv_iconst (v := 0) hx hb dX10_flies_0 (by decide) ?_
  refine lv_istore_n (lv' := [(2, .int 0), (0, .ref (ad 60)), (1, .int xk)]) hx hb dX10_flies_1 rfl hl (by decide) rfl (fun ls hl => ?_)
  have L2 : ∀ (fu : Nat) (y : Nat) (xi : Int32) (M1' : MS) (H : Heap) (locs : List Loc), 4 - y < fu → (y ≤ 4) → (xi = nI y) → (oI (flS k) M M1') → (∀ z, z < y → gI M1' 68 (4 * k + z) = 0 ∧ gI M1' 69 (4 * k + z) = 0) → WS D cA sh ad A s.heap M1' H locs → ∀ ls, lv_has ls 5 [(2, .int xi), (0, .ref (ad 60)), (1, .int xk)] → W p l e (headSpec wsX10_flies { frames := 0, cells := 0, slots := 0, locals := 0 }).room s m ([.ref (ad 60), .int xk] : List Value).toArray below meth cd0 H locs 0 0 (MQ below (wQv D cA sh ad (fun M' => gI M' 65 k = nI (liftN a b N) ∧ gI M' 66 k = nI N ∧ gI M' 67 k = (hsq a b (liftN a b N)).2.1 ∧ (∀ y, y < 4 → gI M' 68 (4 * k + y) = nI (cntN a b N y) ∧ gI M' 69 (4 * k + y) = nI (cntN a b (liftN a b N) y)) ∧ oI (flS k) M M') A) ([.ref (ad 60), .int xk] : List Value).toArray s 0 0 A) (F0 m 2 ls []) := by
    intro fu
    induction fu with
    | zero =>
      intro y xi M1' H locs hn hy ey f1 f2 hW ls hl
      exact absurd hn (Nat.not_lt_zero _)
    | succ fu ih2 =>
      intro y xi M1' H locs hn hy ey f1 f2 hW ls hl
      refine lv_iload_n hx hb dX10_flies_2 rfl (lv_at hl 0 rfl) ?_
      refine lv_iconst (v := 4) hx hb dX10_flies_3 (by decide) ?_
      refine lv_icmp_ge (tgt := 35) hx hb dX10_flies_4 (by decide) (fun c4' => ?_) (fun c4' => ?_)
      · have k4' : 4 ≤ y := kc_ge ey (nlit 4) (by omega) (by omega) c4'
        refine lv_iconst (v := 0) hx hb dX10_flies_35 (by decide) ?_
        refine lv_istore_n (lv' := [(2, .int 0), (0, .ref (ad 60)), (1, .int xk)]) hx hb dX10_flies_36 rfl hl (by decide) rfl (fun ls hl => ?_)
        refine lv_aload_n hx hb dX10_flies_37 rfl (lv_at hl 1 rfl) ?_
        refine wgF (t := 62) hx hb fa13 hW (hMs 60 (by decide) (by decide)) rfl dX10_flies_38 ?_
        refine lv_iload_n hx hb dX10_flies_41 rfl (lv_at hl 2 rfl) ?_
        refine walI (j := k) hx hb hK hW (hMs 62 (by decide) (by decide)) ek (by omega) (by decide) dX10_flies_42 (fun x42' e42' => ?_)
        refine lv_istore_n (lv' := [(3, .int x42'), (2, .int 0), (0, .ref (ad 60)), (1, .int xk)]) hx hb dX10_flies_43 rfl hl (by decide) rfl (fun ls hl => ?_)
        refine lv_aload_n hx hb dX10_flies_44 rfl (lv_at hl 2 rfl) ?_
        refine wgF (t := 65) hx hb fa22 hW (hMs 60 (by decide) (by decide)) rfl dX10_flies_45 ?_
        refine lv_iload_n hx hb dX10_flies_48 rfl (lv_at hl 3 rfl) ?_
        refine lv_iconst (v := 0) hx hb dX10_flies_49 (by decide) ?_
        refine wasI (j := k) hx hb hK hA hW (hMs 65 (by decide) (by decide)) ek (by omega) (by decide) dX10_flies_50 (fun M50' H locs eM50 hW => ?_)
        refine lv_aload_n hx hb dX10_flies_51 rfl (lv_at hl 2 rfl) ?_
        refine wgF (t := 66) hx hb fa25 hW (hMs 60 (by decide) (by decide)) rfl dX10_flies_52 ?_
        refine lv_iload_n hx hb dX10_flies_55 rfl (lv_at hl 3 rfl) ?_
        refine lv_iconst (v := 0) hx hb dX10_flies_56 (by decide) ?_
        refine wasI (j := k) hx hb hK hA hW (hMs 66 (by decide) (by decide)) ek (by omega) (by decide) dX10_flies_57 (fun M57' H locs eM57 hW => ?_)
        have L58 : ∀ (fu : Nat) (t : Nat) (xu : Int32) (xh : Int32) (M5' : MS) (H : Heap) (locs : List Loc), N - t < fu → (t ≤ N) → (xh = (hsq a b t).2.1) → (xu = (hsq a b t).1) → (oI (flS k) M M5') → (∀ y, y < 4 → gI M5' 68 (4 * k + y) = nI (cntN a b t y) ∧ gI M5' 69 (4 * k + y) = nI (cntN a b (liftN a b t) y)) → (gI M5' 66 k = nI t) → (gI M5' 65 k = nI (liftN a b t)) → (1 ≤ t → gI M5' 67 k = (hsq a b (liftN a b t)).2.1) → WS D cA sh ad A s.heap M5' H locs → ∀ ls, lv_has ls 5 [(3, .int xu), (2, .int xh), (0, .ref (ad 60)), (1, .int xk)] → W p l e (headSpec wsX10_flies { frames := 0, cells := 0, slots := 0, locals := 0 }).room s m ([.ref (ad 60), .int xk] : List Value).toArray below meth cd0 H locs 0 0 (MQ below (wQv D cA sh ad (fun M' => gI M' 65 k = nI (liftN a b N) ∧ gI M' 66 k = nI N ∧ gI M' 67 k = (hsq a b (liftN a b N)).2.1 ∧ (∀ y, y < 4 → gI M' 68 (4 * k + y) = nI (cntN a b N y) ∧ gI M' 69 (4 * k + y) = nI (cntN a b (liftN a b N) y)) ∧ oI (flS k) M M') A) ([.ref (ad 60), .int xk] : List Value).toArray s 0 0 A) (F0 m 58 ls []) := by
          intro fu
          induction fu with
          | zero =>
            intro t xu xh M5' H locs hn ht eh eu g1 g2 g3 g4 g5 hW ls hl
            exact absurd hn (Nat.not_lt_zero _)
          | succ fu ih58 =>
            intro t xu xh M5' H locs hn ht eh eu g1 g2 g3 g4 g5 hW ls hl
            have hgo := FlT_go ha hb9 hN ht
            have hup := FlT_up ha hb9 hN ht
            rw [← eu] at hgo hup
            rw [← eh] at hgo
            have J66 : ∀ (H : Heap) (locs : List Loc), (t < N) → WS D cA sh ad A s.heap M5' H locs → ∀ ls, lv_has ls 5 [(3, .int xu), (2, .int xh), (0, .ref (ad 60)), (1, .int xk)] → W p l e (headSpec wsX10_flies { frames := 0, cells := 0, slots := 0, locals := 0 }).room s m ([.ref (ad 60), .int xk] : List Value).toArray below meth cd0 H locs 0 0 (MQ below (wQv D cA sh ad (fun M' => gI M' 65 k = nI (liftN a b N) ∧ gI M' 66 k = nI N ∧ gI M' 67 k = (hsq a b (liftN a b N)).2.1 ∧ (∀ y, y < 4 → gI M' 68 (4 * k + y) = nI (cntN a b N y) ∧ gI M' 69 (4 * k + y) = nI (cntN a b (liftN a b N) y)) ∧ oI (flS k) M M') A) ([.ref (ad 60), .int xk] : List Value).toArray s 0 0 A) (F0 m 66 ls []) := by
              intro H locs htN hW ls hl
              have hh0 : 0 ≤ xh.toInt := by rw [eh]; exact high_0 ha hb9 hN htN
              have hN3 := hN.2.2
              have J84 : ∀ (xl : Int32) (H : Heap) (locs : List Loc), (xl = layI xh) → WS D cA sh ad A s.heap M5' H locs → ∀ ls, lv_has ls 5 [(3, .int xu), (2, .int xh), (0, .ref (ad 60)), (1, .int xk)] → W p l e (headSpec wsX10_flies { frames := 0, cells := 0, slots := 0, locals := 0 }).room s m ([.ref (ad 60), .int xk] : List Value).toArray below meth cd0 H locs 0 0 (MQ below (wQv D cA sh ad (fun M' => gI M' 65 k = nI (liftN a b N) ∧ gI M' 66 k = nI N ∧ gI M' 67 k = (hsq a b (liftN a b N)).2.1 ∧ (∀ y, y < 4 → gI M' 68 (4 * k + y) = nI (cntN a b N y) ∧ gI M' 69 (4 * k + y) = nI (cntN a b (liftN a b N) y)) ∧ oI (flS k) M M') A) ([.ref (ad 60), .int xk] : List Value).toArray s 0 0 A) (F0 m 84 ls [.int xl]) := by
                intro xl H locs hl9 hW ls hl
                obtain ⟨y0, hy0, ey0⟩ := layI_nat xh
                have el0 : xl = nI y0 := hl9.trans ey0
                rw [eh] at ey0
                refine lv_istore (lv' := [(4, .int xl), (3, .int xu), (2, .int xh), (0, .ref (ad 60)), (1, .int xk)]) hx hb dX10_flies_84 hl (by decide) rfl (fun ls hl => ?_)
                refine lv_aload_n hx hb dX10_flies_86 rfl (lv_at hl 3 rfl) ?_
                refine wgF (t := 68) hx hb fa31 hW (hMs 60 (by decide) (by decide)) rfl dX10_flies_87 ?_
                refine lv_iconst (v := 4) hx hb dX10_flies_90 (by decide) ?_
                refine lv_iload_n hx hb dX10_flies_91 rfl (lv_at hl 4 rfl) ?_
                refine lv_imul hx hb dX10_flies_92 ?_
                refine lv_topi (fun x92' e92' => ?_)
                have n92' : x92' = nI (4 * k) := (by rw [e92', (nlit 4), ek, pk_mul])
                refine lv_iload hx hb dX10_flies_93 (lv_at hl 0 rfl) ?_
                refine lv_iadd hx hb dX10_flies_95 ?_
                refine lv_topi (fun x95' e95' => ?_)
                have n95' : x95' = nI ((4 * k) + y0) := (by rw [e95', n92', el0, nI_add])
                refine lv_dup2_11 hx hb dX10_flies_96 rfl rfl ?_
                refine walI (j := ((4 * k) + y0)) hx hb hK hW (hMs 68 (by decide) (by decide)) n95' (by omega) (by decide) dX10_flies_97 (fun x97' e97' => ?_)
                refine lv_iconst (v := 1) hx hb dX10_flies_98 (by decide) ?_
                refine lv_iadd hx hb dX10_flies_99 ?_
                refine lv_topi (fun x99' e99' => ?_)
                refine wasI (j := ((4 * k) + y0)) hx hb hK hA hW (hMs 68 (by decide) (by decide)) n95' (by omega) (by decide) dX10_flies_100 (fun M100' H locs eM100 hW => ?_)
                refine lv_aload_n hx hb dX10_flies_101 rfl (lv_at hl 3 rfl) ?_
                refine wgF (t := 66) hx hb fa25 hW (hMs 60 (by decide) (by decide)) rfl dX10_flies_102 ?_
                refine lv_iload_n hx hb dX10_flies_105 rfl (lv_at hl 4 rfl) ?_
                refine lv_dup2_11 hx hb dX10_flies_106 rfl rfl ?_
                refine walI (j := k) hx hb hK hW (hMs 66 (by decide) (by decide)) ek (by omega) (by decide) dX10_flies_107 (fun x107' e107' => ?_)
                refine lv_iconst (v := 1) hx hb dX10_flies_108 (by decide) ?_
                refine lv_iadd hx hb dX10_flies_109 ?_
                refine lv_topi (fun x109' e109' => ?_)
                refine wasI (j := k) hx hb hK hA hW (hMs 66 (by decide) (by decide)) ek (by omega) (by decide) dX10_flies_110 (fun M110' H locs eM110 hW => ?_)
                have i110 : oI (flS k) M M110' := by rw [eM110, eM100]; exact (g1.put (Or.inr (by omega))).put (Or.inl ⟨Or.inr (Or.inl rfl), rfl⟩)
                have t110 : ∀ y, y < 4 → gI M110' 68 (4 * k + y) = nI (cntN a b (t + 1) y) := fun y hy => by
                  rw [cnt_s hy0 hy ey0, eM110, gI_sI, if_neg (by omega), eM100, gI_sI]
                  by_cases z : y = y0
                  · subst z; rw [if_pos ⟨rfl, rfl⟩, if_pos rfl, e99', e97', (g2 y hy).1, nlit 1, nI_add]
                  · rw [if_neg (by omega), if_neg z]; exact (g2 y hy).1
                have r110 : ∀ j, gI M110' 69 j = gI M5' 69 j := fun j => by rw [eM110, gI_sI, if_neg (by omega), eM100, gI_sI, if_neg (by omega)]
                have w110 : gI M110' 66 k = nI (t + 1) := by rw [eM110, gI_sI, if_pos ⟨rfl, rfl⟩, e109', e107', eM100, gI_sI, if_neg (by omega), g3, nlit 1, nI_add]
                have l110 : gI M110' 65 k = nI (liftN a b t) := by rw [eM110, gI_sI, if_neg (by omega), eM100, gI_sI, if_neg (by omega)]; exact g4
                have h110 : gI M110' 67 k = gI M5' 67 k := by rw [eM110, gI_sI, if_neg (by omega), eM100, gI_sI, if_neg (by omega)]
                have b110 : gI M110' 63 k = b := by rw [i110.1 _ _ (by unfold flS; omega)]; exact h2
                refine lv_iload_n hx hb dX10_flies_111 rfl (lv_at hl 1 rfl) ?_
                refine lv_if_le (tgt := 157) hx hb dX10_flies_112 (by decide) (fun c112' => ?_) (fun c112' => ?_)
                · have nb9 : ¬ (hsq a b t).2.2.1 = 0 := fun z => by have y := hup.mpr z; rw [i32lt] at y; rw [i32le] at c112'; omega
                  have bd := fl_dn nb9
                  have G1 := i110
                  have G2 : ∀ y, y < 4 → gI M110' 68 (4 * k + y) = nI (cntN a b (t + 1) y) ∧ gI M110' 69 (4 * k + y) = nI (cntN a b (liftN a b (t + 1)) y) := fun y hy => ⟨t110 y hy, by rw [r110, bd.2.2]; exact (g2 y hy).2⟩
                  have G3 := w110
                  have G4 : gI M110' 65 k = nI (liftN a b (t + 1)) := by rw [bd.2.2]; exact l110
                  have G5 : 1 ≤ t + 1 → gI M110' 67 k = (hsq a b (liftN a b (t + 1))).2.1 := fun _ => by
                    rw [bd.2.2, h110]
                    refine g5 ?_
                    rcases Nat.eq_zero_or_pos t with z | z
                    · subst z; exact absurd rfl nb9
                    · exact z
                  refine lv_iload_n hx hb dX10_flies_157 rfl (lv_at hl 2 rfl) ?_
                  refine lv_aload_n hx hb dX10_flies_158 rfl (lv_at hl 3 rfl) ?_
                  refine wgF (t := 63) hx hb fa16 hW (hMs 60 (by decide) (by decide)) rfl dX10_flies_159 ?_
                  refine lv_iload_n hx hb dX10_flies_162 rfl (lv_at hl 4 rfl) ?_
                  refine walI (j := k) hx hb hK hW (hMs 63 (by decide) (by decide)) ek (by omega) (by decide) dX10_flies_163 (fun x163' e163' => ?_)
                  refine lv_isub hx hb dX10_flies_164 ?_
                  refine lv_topi (fun x164' e164' => ?_)
                  refine lv_istore_n (lv' := [(2, .int x164'), (4, .int xl), (3, .int xu), (0, .ref (ad 60)), (1, .int xk)]) hx hb dX10_flies_165 rfl hl (by decide) rfl (fun ls hl => ?_)
                  refine lv_goto (tgt := 58) hx hb dX10_flies_166 (by decide) ?_
                  exact ih58 (t + 1) xu x164' M110' _ _ (by omega) htN (by first | (rw [e142', eh, eu]; exact bu.2.1.symm) | (rw [e164', e163', eh, b110]; exact bd.2.1.symm)) (by first | (rw [e144', ← Int32.sub_eq_add_neg, eu]; exact bu.1.symm) | (rw [eu]; exact bd.1.symm)) G1 G2 G3 G4 G5 hW ls (lv_sub hl [2, 0, 3, 4] rfl)
                · have bu := fl_up (hup.mp (by rw [i32lt]; rw [i32le] at c112'; omega))
                  refine lv_aload_n hx hb dX10_flies_115 rfl (lv_at hl 3 rfl) ?_
                  refine wgF (t := 69) hx hb fa34 hW (hMs 60 (by decide) (by decide)) rfl dX10_flies_116 ?_
                  refine lv_iconst (v := 4) hx hb dX10_flies_119 (by decide) ?_
                  refine lv_iload_n hx hb dX10_flies_120 rfl (lv_at hl 4 rfl) ?_
                  refine lv_imul hx hb dX10_flies_121 ?_
                  refine lv_topi (fun x121' e121' => ?_)
                  have n121' : x121' = nI (4 * k) := (by rw [e121', (nlit 4), ek, pk_mul])
                  refine lv_iload hx hb dX10_flies_122 (lv_at hl 0 rfl) ?_
                  refine lv_iadd hx hb dX10_flies_124 ?_
                  refine lv_topi (fun x124' e124' => ?_)
                  have n124' : x124' = nI ((4 * k) + y0) := (by rw [e124', n121', el0, nI_add])
                  refine lv_dup2_11 hx hb dX10_flies_125 rfl rfl ?_
                  refine walI (j := ((4 * k) + y0)) hx hb hK hW (hMs 69 (by decide) (by decide)) n124' (by omega) (by decide) dX10_flies_126 (fun x126' e126' => ?_)
                  refine lv_iconst (v := 1) hx hb dX10_flies_127 (by decide) ?_
                  refine lv_iadd hx hb dX10_flies_128 ?_
                  refine lv_topi (fun x128' e128' => ?_)
                  refine wasI (j := ((4 * k) + y0)) hx hb hK hA hW (hMs 69 (by decide) (by decide)) n124' (by omega) (by decide) dX10_flies_129 (fun M129' H locs eM129 hW => ?_)
                  refine lv_aload_n hx hb dX10_flies_130 rfl (lv_at hl 3 rfl) ?_
                  refine wgF (t := 65) hx hb fa22 hW (hMs 60 (by decide) (by decide)) rfl dX10_flies_131 ?_
                  refine lv_iload_n hx hb dX10_flies_134 rfl (lv_at hl 4 rfl) ?_
                  refine lv_dup2_11 hx hb dX10_flies_135 rfl rfl ?_
                  refine walI (j := k) hx hb hK hW (hMs 65 (by decide) (by decide)) ek (by omega) (by decide) dX10_flies_136 (fun x136' e136' => ?_)
                  refine lv_iconst (v := 1) hx hb dX10_flies_137 (by decide) ?_
                  refine lv_iadd hx hb dX10_flies_138 ?_
                  refine lv_topi (fun x138' e138' => ?_)
                  refine wasI (j := k) hx hb hK hA hW (hMs 65 (by decide) (by decide)) ek (by omega) (by decide) dX10_flies_139 (fun M139' H locs eM139 hW => ?_)
                  refine lv_iload_n hx hb dX10_flies_140 rfl (lv_at hl 2 rfl) ?_
                  refine lv_iload_n hx hb dX10_flies_141 rfl (lv_at hl 1 rfl) ?_
                  refine lv_iadd hx hb dX10_flies_142 ?_
                  refine lv_topi (fun x142' e142' => ?_)
                  refine lv_istore_n (lv' := [(2, .int x142'), (4, .int xl), (3, .int xu), (0, .ref (ad 60)), (1, .int xk)]) hx hb dX10_flies_143 rfl hl (by decide) rfl (fun ls hl => ?_)
                  obtain ⟨x144', e144'⟩ : ∃ y : Int32, y = xu + (-10) := ⟨_, rfl⟩
                  refine lv_iinc (v := x144') (lv' := [(3, .int x144'), (2, .int x142'), (4, .int xl), (0, .ref (ad 60)), (1, .int xk)]) hx hb dX10_flies_144 hl (k := 2) rfl (by rw [e144']; rfl) (by decide) rfl (fun ls hl => ?_)
                  refine lv_aload_n hx hb dX10_flies_147 rfl (lv_at hl 3 rfl) ?_
                  refine wgF (t := 67) hx hb fa28 hW (hMs 60 (by decide) (by decide)) rfl dX10_flies_148 ?_
                  refine lv_iload_n hx hb dX10_flies_151 rfl (lv_at hl 4 rfl) ?_
                  refine lv_iload_n hx hb dX10_flies_152 rfl (lv_at hl 1 rfl) ?_
                  refine wasI (j := k) hx hb hK hA hW (hMs 67 (by decide) (by decide)) ek (by omega) (by decide) dX10_flies_153 (fun M153' H locs eM153 hW => ?_)
                  have G1 : oI (flS k) M M153' := by rw [eM153, eM139, eM129]; exact ((i110.put (Or.inr (by omega))).put (Or.inl ⟨Or.inl rfl, rfl⟩)).put (Or.inl ⟨Or.inr (Or.inr rfl), rfl⟩)
                  have G2 : ∀ y, y < 4 → gI M153' 68 (4 * k + y) = nI (cntN a b (t + 1) y) ∧ gI M153' 69 (4 * k + y) = nI (cntN a b (liftN a b (t + 1)) y) := fun y hy => by
                    refine ⟨by rw [eM153, gI_sI, if_neg (by omega), eM139, gI_sI, if_neg (by omega), eM129, gI_sI, if_neg (by omega)]; exact t110 y hy, ?_⟩
                    rw [bu.2.2.2, cnt_s hy0 hy ey0, eM153, gI_sI, if_neg (by omega), eM139, gI_sI, if_neg (by omega), eM129, gI_sI]
                    have g9 := (g2 y hy).2
                    rw [bu.2.2.1] at g9
                    by_cases z : y = y0
                    · subst z; rw [if_pos ⟨rfl, rfl⟩, if_pos rfl, e128', e126', r110, g9, nlit 1, nI_add]
                    · rw [if_neg (by omega), if_neg z, r110]; exact g9
                  have G3 : gI M153' 66 k = nI (t + 1) := by rw [eM153, gI_sI, if_neg (by omega), eM139, gI_sI, if_neg (by omega), eM129, gI_sI, if_neg (by omega)]; exact w110
                  have G4 : gI M153' 65 k = nI (liftN a b (t + 1)) := by rw [eM153, gI_sI, if_neg (by omega), eM139, gI_sI, if_pos ⟨rfl, rfl⟩, e138', e136', eM129, gI_sI, if_neg (by omega), l110, bu.2.2.1, bu.2.2.2, nlit 1, nI_add]
                  have G5 : 1 ≤ t + 1 → gI M153' 67 k = (hsq a b (liftN a b (t + 1))).2.1 := fun _ => by rw [eM153, gI_sI, if_pos ⟨rfl, rfl⟩, bu.2.2.2, e142', eh, eu]; exact bu.2.1.symm
                  refine lv_goto (tgt := 166) hx hb dX10_flies_154 (by decide) ?_
                  refine lv_goto (tgt := 58) hx hb dX10_flies_166 (by decide) ?_
                  exact ih58 (t + 1) x144' x142' M153' _ _ (by omega) htN (by first | (rw [e142', eh, eu]; exact bu.2.1.symm) | (rw [e164', e163', eh, b110]; exact bd.2.1.symm)) (by first | (rw [e144', ← Int32.sub_eq_add_neg, eu]; exact bu.1.symm) | (rw [eu]; exact bd.1.symm)) G1 G2 G3 G4 G5 hW ls (lv_sub hl [0, 1, 3, 4] rfl)
              refine lv_iload_n hx hb dX10_flies_66 rfl (lv_at hl 1 rfl) ?_
              refine lv_sipush (v := 250) hx hb dX10_flies_67 (by decide) ?_
              refine lv_idiv hx hb dX10_flies_70 (by decide) ?_
              refine lv_topi (fun x70' e70' => ?_)
              refine lv_iconst (v := 4) hx hb dX10_flies_71 (by decide) ?_
              refine lv_icmp_ge (tgt := 83) hx hb dX10_flies_72 (by decide) (fun c72' => ?_) (fun c72' => ?_)
              · refine lv_iconst (v := 3) hx hb dX10_flies_83 (by decide) ?_
                exact J84 3 _ _ (by rw [lay_m hh0]; first | (rw [e70'] at c72'; rw [if_neg (fun w => by rw [i32le] at w c72'; omega)]; exact e79') | (rw [e70'] at c72'; rw [if_pos c72'])) hW ls (lv_sub hl [0, 1, 2, 3] rfl)
              · refine lv_iload_n hx hb dX10_flies_75 rfl (lv_at hl 1 rfl) ?_
                refine lv_sipush (v := 250) hx hb dX10_flies_76 (by decide) ?_
                refine lv_idiv hx hb dX10_flies_79 (by decide) ?_
                refine lv_topi (fun x79' e79' => ?_)
                refine lv_goto (tgt := 84) hx hb dX10_flies_80 (by decide) ?_
                exact J84 x79' _ _ (by rw [lay_m hh0]; first | (rw [e70'] at c72'; rw [if_neg (fun w => by rw [i32le] at w c72'; omega)]; exact e79') | (rw [e70'] at c72'; rw [if_pos c72'])) hW ls (lv_sub hl [0, 1, 2, 3] rfl)
            refine lv_iload_n hx hb dX10_flies_58 rfl (lv_at hl 0 rfl) ?_
            refine lv_if_gt (tgt := 66) hx hb dX10_flies_59 (by decide) (fun c59' => ?_) (fun c59' => ?_)
            · exact J66  _ _ (by first | exact hgo.mp (Or.inl c59') | exact hgo.mp (Or.inr (by rw [i32lt]; rw [i32le] at c63'; omega))) hW ls (lv_sub hl [0, 1, 2, 3] rfl)
            · refine lv_iload_n hx hb dX10_flies_62 rfl (lv_at hl 1 rfl) ?_
              refine lv_if_le (tgt := 169) hx hb dX10_flies_63 (by decide) (fun c63' => ?_) (fun c63' => ?_)
              · have htN : t = N := by
                  rcases Nat.lt_or_ge t N with z | z
                  · exact absurd (hgo.mpr z) (fun w => w.elim c59' (fun y => by rw [i32lt] at y; rw [i32le] at c63'; omega))
                  · omega
                exact wr_wv hx hb hr hlocks hW dX10_flies_169 (by subst htN; exact ⟨g4, g3, g5 (FlT_pos hN), g2, g1⟩)
              · exact J66  _ _ (by first | exact hgo.mp (Or.inl c59') | exact hgo.mp (Or.inr (by rw [i32lt]; rw [i32le] at c63'; omega))) hW ls (lv_sub hl [0, 1, 2, 3] rfl)
        exact L58 (_ + 1) 0 x42' 0 M57' _ _ (Nat.lt_succ_self _) (Nat.zero_le _) rfl (by rw [e42', f1.1 _ _ (by unfold flS; omega)]; exact h1) (by rw [eM57, eM50]; exact (f1.put (Or.inl ⟨Or.inl rfl, rfl⟩)).put (Or.inl ⟨Or.inr (Or.inl rfl), rfl⟩)) (fun z hz => by rw [eM57, eM50, gI_sI, if_neg (by omega), gI_sI, if_neg (by omega), gI_sI, if_neg (by omega), gI_sI, if_neg (by omega)]; exact f2 z (by omega)) (by rw [eM57, gI_sI, if_pos ⟨rfl, rfl⟩]; rfl) (by rw [eM57, gI_sI, if_neg (by omega), eM50, gI_sI, if_pos ⟨rfl, rfl⟩]; rfl) (fun z => absurd z (by omega)) hW ls (lv_sub hl [0, 1, 2, 3] rfl)
      · have k4' : ¬ 4 ≤ y := kc_gen ey (nlit 4) (by omega) (by omega) c4'
        refine lv_aload_n hx hb dX10_flies_7 rfl (lv_at hl 1 rfl) ?_
        refine wgF (t := 68) hx hb fa31 hW (hMs 60 (by decide) (by decide)) rfl dX10_flies_8 ?_
        refine lv_iconst (v := 4) hx hb dX10_flies_11 (by decide) ?_
        refine lv_iload_n hx hb dX10_flies_12 rfl (lv_at hl 2 rfl) ?_
        refine lv_imul hx hb dX10_flies_13 ?_
        refine lv_topi (fun x13' e13' => ?_)
        have n13' : x13' = nI (4 * k) := (by rw [e13', (nlit 4), ek, pk_mul])
        refine lv_iload_n hx hb dX10_flies_14 rfl (lv_at hl 0 rfl) ?_
        refine lv_iadd hx hb dX10_flies_15 ?_
        refine lv_topi (fun x15' e15' => ?_)
        have n15' : x15' = nI ((4 * k) + y) := (by rw [e15', n13', ey, nI_add])
        refine lv_iconst (v := 0) hx hb dX10_flies_16 (by decide) ?_
        refine wasI (j := ((4 * k) + y)) hx hb hK hA hW (hMs 68 (by decide) (by decide)) n15' (by omega) (by decide) dX10_flies_17 (fun M17' H locs eM17 hW => ?_)
        refine lv_aload_n hx hb dX10_flies_18 rfl (lv_at hl 1 rfl) ?_
        refine wgF (t := 69) hx hb fa34 hW (hMs 60 (by decide) (by decide)) rfl dX10_flies_19 ?_
        refine lv_iconst (v := 4) hx hb dX10_flies_22 (by decide) ?_
        refine lv_iload_n hx hb dX10_flies_23 rfl (lv_at hl 2 rfl) ?_
        refine lv_imul hx hb dX10_flies_24 ?_
        refine lv_topi (fun x24' e24' => ?_)
        have n24' : x24' = nI (4 * k) := (by rw [e24', (nlit 4), ek, pk_mul])
        refine lv_iload_n hx hb dX10_flies_25 rfl (lv_at hl 0 rfl) ?_
        refine lv_iadd hx hb dX10_flies_26 ?_
        refine lv_topi (fun x26' e26' => ?_)
        have n26' : x26' = nI ((4 * k) + y) := (by rw [e26', n24', ey, nI_add])
        refine lv_iconst (v := 0) hx hb dX10_flies_27 (by decide) ?_
        refine wasI (j := ((4 * k) + y)) hx hb hK hA hW (hMs 69 (by decide) (by decide)) n26' (by omega) (by decide) dX10_flies_28 (fun M28' H locs eM28 hW => ?_)
        obtain ⟨x29', e29'⟩ : ∃ y : Int32, y = xi + 1 := ⟨_, rfl⟩
        refine lv_iinc (v := x29') (lv' := [(2, .int x29'), (0, .ref (ad 60)), (1, .int xk)]) hx hb dX10_flies_29 hl (k := 0) rfl (by rw [e29']; rfl) (by decide) rfl (fun ls hl => ?_)
        refine lv_goto (tgt := 2) hx hb dX10_flies_32 (by decide) ?_
        exact ih2 (y + 1) x29' M28' _ _ (by omega) (by omega) (by rw [e29', ey, nlit 1, nI_add]) (by rw [eM28, eM17]; exact (f1.put (Or.inr (by omega))).put (Or.inr (by omega))) (fun z hz => by
            rw [eM28, eM17, gI_sI, if_neg (by omega), gI_sI, gI_sI]
            by_cases e9' : z = y
            · subst e9'; rw [if_pos ⟨rfl, rfl⟩, if_pos ⟨rfl, rfl⟩]; exact ⟨rfl, rfl⟩
            · rw [if_neg (by omega), if_neg (by omega), gI_sI, if_neg (by omega)]; exact f2 z (by omega)) hW ls (lv_sub hl [0, 1, 2] rfl)
  exact L2 (_ + 1) 0 0 M _ _ (Nat.lt_succ_self _) (Nat.zero_le _) rfl oI.rf (fun z hz => absurd hz (Nat.not_lt_zero z)) hW ls (lv_sub hl [0, 1, 2] rfl)

/-! arePriced, areShells. -/
set_option maxHeartbeats 4000000 in
set_option maxRecDepth 100000 in
theorem c_L_arePriced (l : Launch) (hl9 : l.stackTraces = false) (D : va_G) (cA : Nat → ClassId) (sh : Nat → Option Sh) (ad : Nat → Nat) (M : MS) (sz : Nat) (σ : AS) (v : VT) (hX : XSh (aN σ) sh) (hXX : XX σ v M) (hMs : LSh sh) (hL : LSt σ v M) (q : Nat → Nat) (c : Nat) (hs : Srt σ 40 q c) : Met l yL_arePriced wsL_arePriced ({ frames := 10, cells := 160, slots := 960, locals := 177 }) (lPc D cA sh ad M sz [.ref (ad 0), .ref (ad 60), .ref (ad 63), .ref (ad 64), .ref (ad 66)]) (wQi D cA sh ad (fun r M' => r = 1 ∧ XX σ v M' ∧ LSt σ v M') (wA sh ad sz)) 160 960 (wA sh ad sz) := by
  refine Met.ofW (cc := cL_arePriced) (maxL := 14) (ret := (some .boolean)) (by decide) rfl ?_
  intro p e s m args below meth cd0 s₁ B hml hv
  obtain ⟨rfl, hsz, hM, hK, hE, hZ, hE2⟩ := hv
  have hx := B.exec
  have hb := B.bytes
  have hr := B.returns
  have hts := atoms_spec (ws := wsL_arePriced) B.pre
  have hown : s.vm.findClass RL = some m.cls := findClass_of_methodNamed B.named
  have hlocks := B.notSynchronized
  subst hsz
  have hA := wA_PA sh ad s.heap
  generalize wA sh ad s.heap.size = A at hA hZ ⊢
  have hW : WS D cA sh ad A s.heap M s.heap [] := ⟨hM, va_S.rf⟩
  have hl := lv_entry ([.ref (ad 0), .ref (ad 60), .ref (ad 63), .ref (ad 64), .ref (ad 66)]) (n := 14) (Nat.le_of_ble_eq_true rfl)
  rw [lg_entry_eq]
  generalize (lg_sl ([.ref (ad 0), .ref (ad 60), .ref (ad 63), .ref (ad 64), .ref (ad 66)]) ++ List.replicate (14 - (lg_sl ([.ref (ad 0), .ref (ad 60), .ref (ad 63), .ref (ad 64), .ref (ad 66)])).length) Slot.unset).toArray = ls at hl ⊢
  have hl : lv_has ls 14 [(0, .ref (ad 0)), (1, .ref (ad 60)), (2, .ref (ad 63)), (3, .ref (ad 64)), (4, .ref (ad 66))] := hl
  obtain ⟨ok, -⟩ := id hXX
  have o1 := ok.1
  refine lv_lconst (v := 0) hx hb dL_arePriced_0 (by decide) ?_
  refine lv_lstore (lv' := [(5, .long 0), (0, .ref (ad 0)), (1, .ref (ad 60)), (2, .ref (ad 63)), (3, .ref (ad 64)), (4, .ref (ad 66))]) hx hb dL_arePriced_1 hl (by decide) rfl (fun ls hl => ?_)
  refine lv_iconst (v := 0) hx hb dL_arePriced_3 (by decide) ?_
  refine lv_istore (lv' := [(7, .int 0), (5, .long 0), (0, .ref (ad 0)), (1, .ref (ad 60)), (2, .ref (ad 63)), (3, .ref (ad 64)), (4, .ref (ad 66))]) hx hb dL_arePriced_4 hl (by decide) rfl (fun ls hl => ?_)
  have L6 : ∀ (fu : Nat) (k : Nat) (xk : Int32) (za : Int64) (Mk : MS) (H : Heap) (locs : List Loc), aN σ - k < fu → (k ≤ aN σ) → (xk = nI k) → (za = sm (· + ·) 0 (firB σ q c) (priA σ v) k) → (XX σ v Mk) → (LSt σ v Mk) → WS D cA sh ad A s.heap Mk H locs → ∀ ls, lv_has ls 14 [(7, .int xk), (5, .long za), (0, .ref (ad 0)), (1, .ref (ad 60)), (2, .ref (ad 63)), (3, .ref (ad 64)), (4, .ref (ad 66))] → W p l e (headSpec wsL_arePriced { frames := 10, cells := 160, slots := 960, locals := 177 }).room s m ([.ref (ad 0), .ref (ad 60), .ref (ad 63), .ref (ad 64), .ref (ad 66)] : List Value).toArray below meth cd0 H locs (4 * k) (24 * k) (MQ below (wQi D cA sh ad (fun r M' => r = 1 ∧ XX σ v M' ∧ LSt σ v M') A) ([.ref (ad 0), .ref (ad 60), .ref (ad 63), .ref (ad 64), .ref (ad 66)] : List Value).toArray s 160 960 A) (F0 m 6 ls []) := by
    intro fu
    induction fu with
    | zero =>
      intro k xk za Mk H locs hn hk ek ea hXX hL hW ls hl
      exact absurd hn (Nat.not_lt_zero _)
    | succ fu ih6 =>
      intro k xk za Mk H locs hn hk ek ea hXX hL hW ls hl
      refine lv_iload hx hb dL_arePriced_6 (lv_at hl 0 rfl) ?_
      refine lv_aload hx hb dL_arePriced_8 (lv_at hl 6 rfl) ?_
      refine lv_iconst (v := 0) hx hb dL_arePriced_10 (by decide) ?_
      refine walI (j := 0) hx hb hK hW (hMs 66 (by decide) (by decide)) (nlit 0) (by omega) (by decide) dL_arePriced_11 (fun x11' e11' => ?_)
      have n11' : x11' = nI (aN σ) := (e11'.trans hL.2.2.2.2.2.2.1)
      refine lv_icmp_ge (tgt := 195) hx hb dL_arePriced_12 (by decide) (fun c12' => ?_) (fun c12' => ?_)
      · have k12' : (aN σ) ≤ k := kc_ge ek n11' (by omega) (by omega) c12'
        refine lv_aload_n hx hb dL_arePriced_195 rfl (lv_at hl 2 rfl) ?_
        refine wc_wi (va_runV (As := []) (rest := []) ⟨hx, hb, hml, hown, hts⟩ (c_X9_total l D cA sh ad Mk _ σ v hX hXX) (cwV 0 hts gL_arePriced_X9_total rfl rfl rfl (by decide +kernel) ⟨Nat.le_of_ble_eq_true rfl, Nat.le_of_ble_eq_true rfl⟩) (wpreV hK hW (C := RX9) (ci := 9) (hX.1 0 (by decide)) rfl) rfl rfl hl.1 rfl (lv_room (Nat.le_of_ble_eq_true rfl)) dL_arePriced_196 ⟨(by show 4 * k + 0 ≤ 160; omega), (by show 24 * k + 0 ≤ 960; omega)⟩) hA hW (fun x196' M196' H locs p196' hW => ?_)
        try dsimp only at p196'
        obtain ⟨kp196, hXX, r196⟩ := p196'
        have hL := hL.kp (KPm.oA kp196)
        obtain ⟨q9, c9', s9, f9⟩ := r196
        have J216 : ∀ (yt : Int32) (H : Heap) (locs : List Loc), (yt = refI (totA σ v q c (lit σ q c))) → WS D cA sh ad A s.heap M196' H locs → ∀ ls, lv_has ls 14 [(7, .int xk), (5, .long za), (0, .ref (ad 0)), (1, .ref (ad 60)), (2, .ref (ad 63)), (3, .ref (ad 64)), (4, .ref (ad 66))] → W p l e (headSpec wsL_arePriced { frames := 10, cells := 160, slots := 960, locals := 177 }).room s m ([.ref (ad 0), .ref (ad 60), .ref (ad 63), .ref (ad 64), .ref (ad 66)] : List Value).toArray below meth cd0 H locs (4 * k) (24 * k) (MQ below (wQi D cA sh ad (fun r M' => r = 1 ∧ XX σ v M' ∧ LSt σ v M') A) ([.ref (ad 0), .ref (ad 60), .ref (ad 63), .ref (ad 64), .ref (ad 66)] : List Value).toArray s 160 960 A) (F0 m 216 ls [.int yt, .int x196']) := by
          intro yt H locs hyt hW ls hl
          refine lv_icmp_ne (tgt := 223) hx hb dL_arePriced_216 (by decide) (fun c216' => ?_) (fun c216' => ?_)
          · exact ((c216' (by rw [f9, hyt, lit_un hs s9, totA_un hs s9]))).elim
          · refine lv_iconst (v := 1) hx hb dL_arePriced_219 (by decide) ?_
            refine lv_goto (tgt := 224) hx hb dL_arePriced_220 (by decide) ?_
            refine W.widen (k := 160) (n := 960) (by omega) (by omega) ?_
            exact wr_wz hx hb hr hlocks hW dL_arePriced_224 rfl ⟨rfl, hXX, hL⟩
        refine lv_lload hx hb dL_arePriced_199 (lv_at hl 1 rfl) ?_
        refine lv_ldc2 (v := 2147483647) hx hb hown (hts (.constantLong RL 144 (2147483647)) (List.mem_of_getElem? (i := 1) rfl)) dL_arePriced_201 ?_
        refine W.lcmp hx hb dL_arePriced_204 ?_
        refine lv_topi (fun x204' e204' => ?_)
        refine lv_if_le (tgt := 213) hx hb dL_arePriced_205 (by decide) (fun c205' => ?_) (fun c205' => ?_)
        · refine lv_lload hx hb dL_arePriced_213 (lv_at hl 1 rfl) ?_
          refine lv_l2i hx hb dL_arePriced_215 rfl ?_
          refine lv_topi (fun x215' e215' => ?_)
          exact J216 x215' _ _ (by
              have hz : za = totA σ v q c (lit σ q c) := by rw [ea, show k = aN σ by omega, total_sm hs o1]
              rw [← hz]
              first
              | exact rf_hi (by rw [← e204']; exact c205')
              | (rw [e215']; exact rf_lo (by rw [← e204']; exact c205'))) hW ls (lv_sub hl [0, 1, 2, 3, 4, 5, 6] rfl)
        · refine lv_bipush (v := (-2)) hx hb dL_arePriced_208 (by decide) ?_
          refine lv_goto (tgt := 216) hx hb dL_arePriced_210 (by decide) ?_
          exact J216 (-2) _ _ (by
              have hz : za = totA σ v q c (lit σ q c) := by rw [ea, show k = aN σ by omega, total_sm hs o1]
              rw [← hz]
              first
              | exact rf_hi (by rw [← e204']; exact c205')
              | (rw [e215']; exact rf_lo (by rw [← e204']; exact c205'))) hW ls (lv_sub hl [0, 1, 2, 3, 4, 5, 6] rfl)
      · have k12' : ¬ (aN σ) ≤ k := kc_gen ek n11' (by omega) (by omega) c12'
        have hcc := cc_lt ok (show k < aN σ by omega)
        refine lv_aload_n hx hb dL_arePriced_15 rfl (lv_at hl 3 rfl) ?_
        refine lv_iload hx hb dL_arePriced_16 (lv_at hl 0 rfl) ?_
        refine walI (j := k) hx hb hK hW (hMs 60 (by decide) (by decide)) ek (by omega) (by decide) dL_arePriced_18 (fun x18' e18' => ?_)
        have n18' : x18' = nI (ccN σ k) := (e18'.trans (hL.1 k (by omega)))
        refine lv_sipush (v := 4096) hx hb dL_arePriced_19 (by decide) ?_
        refine lv_icmp_ge (tgt := 189) hx hb dL_arePriced_22 (by decide) (fun c22' => ?_) (fun c22' => ?_)
        · have k22' : 4096 ≤ (ccN σ k) := kc_ge n18' (nlit 4096) (by omega) (by omega) c22'
          have hpf : pres σ k = false := pres_f (fun z9 => by have := hcc.2.1.mpr z9.2; omega)
          obtain ⟨x189', e189'⟩ : ∃ y : Int32, y = xk + 1 := ⟨_, rfl⟩
          refine lv_iinc (v := x189') (lv' := [(7, .int x189'), (5, .long za), (0, .ref (ad 0)), (1, .ref (ad 60)), (2, .ref (ad 63)), (3, .ref (ad 64)), (4, .ref (ad 66))]) hx hb dL_arePriced_189 hl (k := 0) rfl (by rw [e189']; rfl) (by decide) rfl (fun ls hl => ?_)
          refine lv_goto (tgt := 6) hx hb dL_arePriced_192 (by decide) ?_
          refine W.widen (k := 4 * (k + 1)) (n := 24 * (k + 1)) (by omega) (by omega) ?_
          exact ih6 (k + 1) x189' za Mk _ _ (by omega) (by omega) (by rw [e189', ek, nlit 1, nI_add]) (by first | exact sm_n ea (fb_no hpf) | (rw [e186', ea]; exact sm_i hyl)) hXX hL hW ls (lv_sub hl [0, 1, 2, 3, 4, 5, 6] rfl)
        · have k22' : ¬ 4096 ≤ (ccN σ k) := kc_gen n18' (nlit 4096) (by omega) (by omega) c22'
          have hk9 : k < aN σ := by omega
          have hg : σ.2 10 k = 0 := hcc.2.1.mp (by omega)
          have hcu : cuB σ xk = true := cu_y ek hk9 hg
          have n1k : n1 xk = k := n1e ek (by omega)
          have hpt : pres σ k = true := pres_t hk9 hg
          refine lv_lconst (v := 1) hx hb dL_arePriced_25 (by decide) ?_
          refine lv_lstore (lv' := [(8, .long 1), (7, .int xk), (5, .long za), (0, .ref (ad 0)), (1, .ref (ad 60)), (2, .ref (ad 63)), (3, .ref (ad 64)), (4, .ref (ad 66))]) hx hb dL_arePriced_26 hl (by decide) rfl (fun ls hl => ?_)
          refine lv_aload_n hx hb dL_arePriced_28 rfl (lv_at hl 3 rfl) ?_
          refine lv_iload hx hb dL_arePriced_29 (lv_at hl 1 rfl) ?_
          refine wc_wlN (vx_runSW (As := [.ref (ad 0), .int xk]) (rest := []) ⟨hx, hb, hml, hown, hts⟩ (c_L_danger l hl9 D cA sh ad Mk _ σ v hX hXX xk ) (vx_cwSW 2 hts gL_arePriced_L_danger rfl rfl rfl (by decide +kernel) ⟨Nat.le_of_ble_eq_true rfl, Nat.le_of_ble_eq_true rfl⟩) (lpreS hK hA hW hE hZ hE2) rfl rfl hl.1 rfl (lv_room (Nat.le_of_ble_eq_true rfl)) dL_arePriced_31 ⟨(by show 4 * k + 1 ≤ 160; omega), (by show 24 * k + 6 ≤ 960; omega)⟩) hA hW (fun x31' M31' H locs p31' hW => ?_)
          try dsimp only at p31'
          obtain ⟨kp31, hXX, r31⟩ := p31'
          have hL := hL.kp kp31
          have r31 := or_ok r31 hcu
          rw [n1k] at r31
          refine lv_lstore (lv' := [(10, .long x31'), (8, .long 1), (7, .int xk), (5, .long za), (0, .ref (ad 0)), (1, .ref (ad 60)), (2, .ref (ad 63)), (3, .ref (ad 64)), (4, .ref (ad 66))]) hx hb dL_arePriced_34 hl (by decide) rfl (fun ls hl => ?_)
          refine lv_iconst (v := 0) hx hb dL_arePriced_36 (by decide) ?_
          refine lv_istore (lv' := [(12, .int 0), (10, .long x31'), (8, .long 1), (7, .int xk), (5, .long za), (0, .ref (ad 0)), (1, .ref (ad 60)), (2, .ref (ad 63)), (3, .ref (ad 64)), (4, .ref (ad 66))]) hx hb dL_arePriced_37 hl (by decide) rfl (fun ls hl => ?_)
          have L39 : ∀ (fu : Nat) (n : Nat) (xn : Int32) (zs : Int64) (H : Heap) (locs : List Loc), 64 - n < fu → (n ≤ 64) → (xn = nI n) → (zs = valV v.1 (zonB σ k) n + 1) → WS D cA sh ad A s.heap M31' H locs → ∀ ls, lv_has ls 14 [(12, .int xn), (10, .long x31'), (8, .long zs), (7, .int xk), (5, .long za), (0, .ref (ad 0)), (1, .ref (ad 60)), (2, .ref (ad 63)), (3, .ref (ad 64)), (4, .ref (ad 66))] → W p l e (headSpec wsL_arePriced { frames := 10, cells := 160, slots := 960, locals := 177 }).room s m ([.ref (ad 0), .ref (ad 60), .ref (ad 63), .ref (ad 64), .ref (ad 66)] : List Value).toArray below meth cd0 H locs (4 * k + 1) (24 * k + 6) (MQ below (wQi D cA sh ad (fun r M' => r = 1 ∧ XX σ v M' ∧ LSt σ v M') A) ([.ref (ad 0), .ref (ad 60), .ref (ad 63), .ref (ad 64), .ref (ad 66)] : List Value).toArray s 160 960 A) (F0 m 39 ls []) := by
            intro fu
            induction fu with
            | zero =>
              intro n xn zs H locs hn hn9 en ez hW ls hl
              exact absurd hn (Nat.not_lt_zero _)
            | succ fu ih39 =>
              intro n xn zs H locs hn hn9 en ez hW ls hl
              refine lv_iload hx hb dL_arePriced_39 (lv_at hl 0 rfl) ?_
              refine lv_bipush (v := 64) hx hb dL_arePriced_41 (by decide) ?_
              refine lv_icmp_ge (tgt := 78) hx hb dL_arePriced_43 (by decide) (fun c43' => ?_) (fun c43' => ?_)
              · have k43' : 64 ≤ n := kc_ge en (nlit 64) (by omega) (by omega) c43'
                refine lv_aload_n hx hb dL_arePriced_78 rfl (lv_at hl 5 rfl) ?_
                refine lv_iload hx hb dL_arePriced_79 (lv_at hl 3 rfl) ?_
                refine wc_wiN (vx_runSW (As := [.ref (ad 0), .int xk]) (rest := []) ⟨hx, hb, hml, hown, hts⟩ (c_L_fires l hl9 D cA sh ad M31' _ σ v hX hXX xk ) (vx_cwSW 2 hts gL_arePriced_L_fires rfl rfl rfl (by decide +kernel) ⟨Nat.le_of_ble_eq_true rfl, Nat.le_of_ble_eq_true rfl⟩) (lpreS hK hA hW hE hZ hE2) rfl rfl hl.1 rfl (lv_room (Nat.le_of_ble_eq_true rfl)) dL_arePriced_81 ⟨(by show 4 * k + 1 + 1 ≤ 160; omega), (by show 24 * k + 6 + 6 ≤ 960; omega)⟩) hA hW (fun x81' M81' H locs p81' hW => ?_)
                try dsimp only at p81'
                obtain ⟨kp81, hXX, r81⟩ := p81'
                have hL := hL.kp kp81
                rw [ifB_t hcu, n1k] at r81
                refine lv_bipush (v := 100) hx hb dL_arePriced_84 (by decide) ?_
                refine lv_idiv hx hb dL_arePriced_86 (by decide) ?_
                refine lv_topi (fun x86' e86' => ?_)
                refine lv_istore (lv' := [(12, .int x86'), (10, .long x31'), (8, .long zs), (7, .int xk), (5, .long za), (0, .ref (ad 0)), (1, .ref (ad 60)), (2, .ref (ad 63)), (3, .ref (ad 64)), (4, .ref (ad 66))]) hx hb dL_arePriced_87 hl (by decide) rfl (fun ls hl => ?_)
                refine lv_lload hx hb dL_arePriced_89 (lv_at hl 2 rfl) ?_
                refine lv_aload_n hx hb dL_arePriced_91 rfl (lv_at hl 8 rfl) ?_
                have J115 : ∀ (yh : Int32) (H : Heap) (locs : List Loc), (HrR σ k yh) → WS D cA sh ad A s.heap M81' H locs → ∀ ls, lv_has ls 14 [(12, .int x86'), (10, .long x31'), (8, .long zs), (7, .int xk), (5, .long za), (0, .ref (ad 0)), (1, .ref (ad 60)), (2, .ref (ad 63)), (3, .ref (ad 64)), (4, .ref (ad 66))] → W p l e (headSpec wsL_arePriced { frames := 10, cells := 160, slots := 960, locals := 177 }).room s m ([.ref (ad 0), .ref (ad 60), .ref (ad 63), .ref (ad 64), .ref (ad 66)] : List Value).toArray below meth cd0 H locs (4 * k + 1 + 1) (24 * k + 6 + 6) (MQ below (wQi D cA sh ad (fun r M' => r = 1 ∧ XX σ v M' ∧ LSt σ v M') A) ([.ref (ad 0), .ref (ad 60), .ref (ad 63), .ref (ad 64), .ref (ad 66)] : List Value).toArray s 160 960 A) (F0 m 115 ls [.int yh, .ref (ad 64), .long zs]) := by
                  intro yh H locs hyh hW ls hl
                  obtain ⟨h9, hh9, eh9, he9⟩ := hyh
                  refine walI (j := h9) hx hb hK hW (hMs 64 (by decide) (by decide)) eh9 (by omega) (by decide) dL_arePriced_115 (fun x115' e115' => ?_)
                  refine lv_i2l hx hb dL_arePriced_116 rfl ?_
                  refine lv_topl (fun x116' e116' => ?_)
                  refine lv_lmul hx hb dL_arePriced_117 ?_
                  refine lv_topl (fun x117' e117' => ?_)
                  have hprc : elg σ k → x117' = priA σ v k := fun he => by rw [e117', e116', e115', ez, show n = 64 by omega, hL.2.2.2.2.1 h9 (by omega), he9 he]; rfl
                  refine lv_lstore (lv' := [(8, .long x117'), (12, .int x86'), (10, .long x31'), (7, .int xk), (5, .long za), (0, .ref (ad 0)), (1, .ref (ad 60)), (2, .ref (ad 63)), (3, .ref (ad 64)), (4, .ref (ad 66))]) hx hb dL_arePriced_118 hl (by decide) rfl (fun ls hl => ?_)
                  refine lv_aload_n hx hb dL_arePriced_120 rfl (lv_at hl 5 rfl) ?_
                  refine lv_iload hx hb dL_arePriced_121 (lv_at hl 3 rfl) ?_
                  refine wc_wiN (vx_runSW (As := [.ref (ad 0), .int xk]) (rest := []) ⟨hx, hb, hml, hown, hts⟩ (c_L_becomes l hl9 D cA sh ad M81' _ σ v hX hXX xk q c hs ) (vx_cwSW 2 hts gL_arePriced_L_becomes rfl rfl rfl (by decide +kernel) ⟨Nat.le_of_ble_eq_true rfl, Nat.le_of_ble_eq_true rfl⟩) (lpreS hK hA hW hE hZ hE2) rfl rfl hl.1 rfl (lv_room (Nat.le_of_ble_eq_true rfl)) dL_arePriced_123 ⟨(by show 4 * k + 1 + 1 + 1 ≤ 160; omega), (by show 24 * k + 6 + 6 + 6 ≤ 960; omega)⟩) hA hW (fun x123' M123' H locs p123' hW => ?_)
                  try dsimp only at p123'
                  obtain ⟨kp123, hXX, r123⟩ := p123'
                  have hL := hL.kp kp123
                  rw [ifB_t hcu, n1k] at r123
                  have J134 : ∀ (yf : Int32) (H : Heap) (locs : List Loc), (yf = bI (firB σ q c k)) → WS D cA sh ad A s.heap M123' H locs → ∀ ls, lv_has ls 14 [(8, .long x117'), (12, .int x86'), (10, .long x31'), (7, .int xk), (5, .long za), (0, .ref (ad 0)), (1, .ref (ad 60)), (2, .ref (ad 63)), (3, .ref (ad 64)), (4, .ref (ad 66))] → W p l e (headSpec wsL_arePriced { frames := 10, cells := 160, slots := 960, locals := 177 }).room s m ([.ref (ad 0), .ref (ad 60), .ref (ad 63), .ref (ad 64), .ref (ad 66)] : List Value).toArray below meth cd0 H locs (4 * k + 1 + 1 + 1) (24 * k + 6 + 6 + 6) (MQ below (wQi D cA sh ad (fun r M' => r = 1 ∧ XX σ v M' ∧ LSt σ v M') A) ([.ref (ad 0), .ref (ad 60), .ref (ad 63), .ref (ad 64), .ref (ad 66)] : List Value).toArray s 160 960 A) (F0 m 134 ls [.int yf]) := by
                    intro yf H locs hyf hW ls hl
                    refine lv_istore (lv' := [(13, .int yf), (8, .long x117'), (12, .int x86'), (10, .long x31'), (7, .int xk), (5, .long za), (0, .ref (ad 0)), (1, .ref (ad 60)), (2, .ref (ad 63)), (3, .ref (ad 64)), (4, .ref (ad 66))]) hx hb dL_arePriced_134 hl (by decide) rfl (fun ls hl => ?_)
                    refine lv_aload_n hx hb dL_arePriced_136 rfl (lv_at hl 6 rfl) ?_
                    refine lv_iload hx hb dL_arePriced_137 (lv_at hl 4 rfl) ?_
                    refine wc_wiN (vx_runSW (As := [.ref (ad 0), .int xk]) (rest := []) ⟨hx, hb, hml, hown, hts⟩ (c_L_price l hl9 D cA sh ad M123' _ σ v hX hXX xk q c hs ) (vx_cwSW 2 hts gL_arePriced_L_price rfl rfl rfl (by decide +kernel) ⟨Nat.le_of_ble_eq_true rfl, Nat.le_of_ble_eq_true rfl⟩) (lpreS hK hA hW hE hZ hE2) rfl rfl hl.1 rfl (lv_room (Nat.le_of_ble_eq_true rfl)) dL_arePriced_139 ⟨(by show 4 * k + 1 + 1 + 1 + 1 ≤ 160; omega), (by show 24 * k + 6 + 6 + 6 + 6 ≤ 960; omega)⟩) hA hW (fun x139' M139' H locs p139' hW => ?_)
                    try dsimp only at p139'
                    obtain ⟨kp139, hXX, r139⟩ := p139'
                    have hL := hL.kp kp139
                    rw [ifB_t hcu, n1k] at r139
                    have J168 : ∀ (yp : Int32) (H : Heap) (locs : List Loc), (yp = prA σ v q c k) → WS D cA sh ad A s.heap M139' H locs → ∀ ls, lv_has ls 14 [(13, .int yf), (8, .long x117'), (12, .int x86'), (10, .long x31'), (7, .int xk), (5, .long za), (0, .ref (ad 0)), (1, .ref (ad 60)), (2, .ref (ad 63)), (3, .ref (ad 64)), (4, .ref (ad 66))] → W p l e (headSpec wsL_arePriced { frames := 10, cells := 160, slots := 960, locals := 177 }).room s m ([.ref (ad 0), .ref (ad 60), .ref (ad 63), .ref (ad 64), .ref (ad 66)] : List Value).toArray below meth cd0 H locs (4 * k + 1 + 1 + 1 + 1) (24 * k + 6 + 6 + 6 + 6) (MQ below (wQi D cA sh ad (fun r M' => r = 1 ∧ XX σ v M' ∧ LSt σ v M') A) ([.ref (ad 0), .ref (ad 60), .ref (ad 63), .ref (ad 64), .ref (ad 66)] : List Value).toArray s 160 960 A) (F0 m 168 ls [.int yp, .int x139']) := by
                      intro yp H locs hyp hW ls hl
                      refine lv_icmp_eq (tgt := 173) hx hb dL_arePriced_168 (by decide) (fun c168' => ?_) (fun c168' => ?_)
                      · refine lv_lload hx hb dL_arePriced_173 (lv_at hl 5 rfl) ?_
                        have J186 : ∀ (yl : Int64) (H : Heap) (locs : List Loc), ((firB σ q c k = true ∧ yl = priA σ v k) ∨ (firB σ q c k = false ∧ yl = 0)) → WS D cA sh ad A s.heap M139' H locs → ∀ ls, lv_has ls 14 [(13, .int yf), (8, .long x117'), (12, .int x86'), (10, .long x31'), (7, .int xk), (5, .long za), (0, .ref (ad 0)), (1, .ref (ad 60)), (2, .ref (ad 63)), (3, .ref (ad 64)), (4, .ref (ad 66))] → W p l e (headSpec wsL_arePriced { frames := 10, cells := 160, slots := 960, locals := 177 }).room s m ([.ref (ad 0), .ref (ad 60), .ref (ad 63), .ref (ad 64), .ref (ad 66)] : List Value).toArray below meth cd0 H locs (4 * k + 1 + 1 + 1 + 1) (24 * k + 6 + 6 + 6 + 6) (MQ below (wQi D cA sh ad (fun r M' => r = 1 ∧ XX σ v M' ∧ LSt σ v M') A) ([.ref (ad 0), .ref (ad 60), .ref (ad 63), .ref (ad 64), .ref (ad 66)] : List Value).toArray s 160 960 A) (F0 m 186 ls [.long yl, .long za]) := by
                          intro yl H locs hyl hW ls hl
                          refine lv_ladd hx hb dL_arePriced_186 ?_
                          refine lv_topl (fun x186' e186' => ?_)
                          refine lv_lstore (lv' := [(5, .long x186'), (13, .int yf), (8, .long x117'), (12, .int x86'), (10, .long x31'), (7, .int xk), (0, .ref (ad 0)), (1, .ref (ad 60)), (2, .ref (ad 63)), (3, .ref (ad 64)), (4, .ref (ad 66))]) hx hb dL_arePriced_187 hl (by decide) rfl (fun ls hl => ?_)
                          obtain ⟨x189', e189'⟩ : ∃ y : Int32, y = xk + 1 := ⟨_, rfl⟩
                          refine lv_iinc (v := x189') (lv' := [(7, .int x189'), (5, .long x186'), (13, .int yf), (8, .long x117'), (12, .int x86'), (10, .long x31'), (0, .ref (ad 0)), (1, .ref (ad 60)), (2, .ref (ad 63)), (3, .ref (ad 64)), (4, .ref (ad 66))]) hx hb dL_arePriced_189 hl (k := 5) rfl (by rw [e189']; rfl) (by decide) rfl (fun ls hl => ?_)
                          refine lv_goto (tgt := 6) hx hb dL_arePriced_192 (by decide) ?_
                          refine W.widen (k := 4 * (k + 1)) (n := 24 * (k + 1)) (by omega) (by omega) ?_
                          exact ih6 (k + 1) x189' x186' M139' _ _ (by omega) (by omega) (by rw [e189', ek, nlit 1, nI_add]) (by first | exact sm_n ea (fb_no hpf) | (rw [e186', ea]; exact sm_i hyl)) hXX hL hW ls (lv_sub hl [0, 1, 6, 7, 8, 9, 10] rfl)
                        refine lv_iload hx hb dL_arePriced_175 (lv_at hl 0 rfl) ?_
                        refine lv_if_eq (tgt := 185) hx hb dL_arePriced_177 (by decide) (fun c177' => ?_) (fun c177' => ?_)
                        · refine lv_lconst (v := 0) hx hb dL_arePriced_185 (by decide) ?_
                          exact J186 0 _ _ (by
                              first
                              | exact Or.inr ⟨bI_z.mp (hyf.symm.trans c177'), rfl⟩
                              | (have hfb : firB σ q c k = true := bI_t.mp (fun z9 => c177' (hyf.trans z9))
                                 exact Or.inl ⟨hfb, hprc (fb_elg hs (by omega) hfb)⟩)) hW ls (lv_sub hl [0, 1, 2, 3, 4, 5, 6, 7, 8, 9, 10] rfl)
                        · refine lv_lload hx hb dL_arePriced_180 (lv_at hl 1 rfl) ?_
                          refine lv_goto (tgt := 186) hx hb dL_arePriced_182 (by decide) ?_
                          exact J186 x117' _ _ (by
                              first
                              | exact Or.inr ⟨bI_z.mp (hyf.symm.trans c177'), rfl⟩
                              | (have hfb : firB σ q c k = true := bI_t.mp (fun z9 => c177' (hyf.trans z9))
                                 exact Or.inl ⟨hfb, hprc (fb_elg hs (by omega) hfb)⟩)) hW ls (lv_sub hl [0, 1, 2, 3, 4, 5, 6, 7, 8, 9, 10] rfl)
                      · exact ((c168' (by rw [r139, hyp]))).elim
                    refine lv_iload hx hb dL_arePriced_142 (lv_at hl 0 rfl) ?_
                    refine lv_if_ne (tgt := 151) hx hb dL_arePriced_144 (by decide) (fun c144' => ?_) (fun c144' => ?_)
                    · have hfb : firB σ q c k = true := bI_t.mp (fun z9 => c144' (hyf.trans z9))
                      have hpr : x117' = priA σ v k := hprc (fb_elg hs (by omega) hfb)
                      refine lv_lload hx hb dL_arePriced_151 (lv_at hl 1 rfl) ?_
                      refine lv_ldc2 (v := 2147483647) hx hb hown (hts (.constantLong RL 144 (2147483647)) (List.mem_of_getElem? (i := 1) rfl)) dL_arePriced_153 ?_
                      refine W.lcmp hx hb dL_arePriced_156 ?_
                      refine lv_topi (fun x156' e156' => ?_)
                      refine lv_if_le (tgt := 165) hx hb dL_arePriced_157 (by decide) (fun c157' => ?_) (fun c157' => ?_)
                      · refine lv_lload hx hb dL_arePriced_165 (lv_at hl 1 rfl) ?_
                        refine lv_l2i hx hb dL_arePriced_167 rfl ?_
                        refine lv_topi (fun x167' e167' => ?_)
                        exact J168 x167' _ _ (by
                            first
                            | exact pr_no hs (by omega) hpt hfb
                            | exact pr_hi hs (by omega) hpt hfb hpr (by rw [← e156']; exact c157')
                            | (rw [e167']; exact pr_lo hs (by omega) hpt hfb hpr (by rw [← e156']; exact c157'))) hW ls (lv_sub hl [0, 1, 2, 3, 4, 5, 6, 7, 8, 9, 10] rfl)
                      · refine lv_bipush (v := (-2)) hx hb dL_arePriced_160 (by decide) ?_
                        refine lv_goto (tgt := 168) hx hb dL_arePriced_162 (by decide) ?_
                        exact J168 (-2) _ _ (by
                            first
                            | exact pr_no hs (by omega) hpt hfb
                            | exact pr_hi hs (by omega) hpt hfb hpr (by rw [← e156']; exact c157')
                            | (rw [e167']; exact pr_lo hs (by omega) hpt hfb hpr (by rw [← e156']; exact c157'))) hW ls (lv_sub hl [0, 1, 2, 3, 4, 5, 6, 7, 8, 9, 10] rfl)
                    · have hfb : firB σ q c k = false := bI_z.mp (hyf.symm.trans c144')
                      refine lv_iconst (v := (-1)) hx hb dL_arePriced_147 (by decide) ?_
                      refine lv_goto (tgt := 168) hx hb dL_arePriced_148 (by decide) ?_
                      exact J168 (-1) _ _ (by
                          first
                          | exact pr_no hs (by omega) hpt hfb
                          | exact pr_hi hs (by omega) hpt hfb hpr (by rw [← e156']; exact c157')
                          | (rw [e167']; exact pr_lo hs (by omega) hpt hfb hpr (by rw [← e156']; exact c157'))) hW ls (lv_sub hl [0, 1, 2, 3, 4, 5, 6, 7, 8, 9, 10] rfl)
                  refine lv_if_ne (tgt := 133) hx hb dL_arePriced_126 (by decide) (fun c126' => ?_) (fun c126' => ?_)
                  · refine lv_iconst (v := 0) hx hb dL_arePriced_133 (by decide) ?_
                    exact J134 0 _ _ (by
                        first
                        | exact bI_tt ((fb_is hs (by omega) hpt).mp (r123.symm.trans c126'))
                        | exact bI_ff (by
                            cases hz : firB σ q c k with
                            | false => rfl
                            | true => exact absurd (r123.trans ((fb_is hs (by omega) hpt).mpr hz)) c126')) hW ls (lv_sub hl [0, 1, 2, 3, 4, 5, 6, 7, 8, 9] rfl)
                  · refine lv_iconst (v := 1) hx hb dL_arePriced_129 (by decide) ?_
                    refine lv_goto (tgt := 134) hx hb dL_arePriced_130 (by decide) ?_
                    exact J134 1 _ _ (by
                        first
                        | exact bI_tt ((fb_is hs (by omega) hpt).mp (r123.symm.trans c126'))
                        | exact bI_ff (by
                            cases hz : firB σ q c k with
                            | false => rfl
                            | true => exact absurd (r123.trans ((fb_is hs (by omega) hpt).mpr hz)) c126')) hW ls (lv_sub hl [0, 1, 2, 3, 4, 5, 6, 7, 8, 9] rfl)
                refine lv_iload hx hb dL_arePriced_92 (lv_at hl 0 rfl) ?_
                refine lv_if_ge (tgt := 101) hx hb dL_arePriced_94 (by decide) (fun c94' => ?_) (fun c94' => ?_)
                · refine lv_iload hx hb dL_arePriced_101 (lv_at hl 0 rfl) ?_
                  refine lv_bipush (v := 9) hx hb dL_arePriced_103 (by decide) ?_
                  refine lv_icmp_le (tgt := 113) hx hb dL_arePriced_105 (by decide) (fun c105' => ?_) (fun c105' => ?_)
                  · refine lv_iload hx hb dL_arePriced_113 (lv_at hl 0 rfl) ?_
                    exact J115 x86' _ _ (by
                        first
                        | exact hr_a ok (e86'.trans (by rw [r81])) c94'
                        | exact hr_b ok (e86'.trans (by rw [r81])) c105'
                        | exact hr_c ok (e86'.trans (by rw [r81])) c94' c105') hW ls (lv_sub hl [0, 1, 2, 3, 4, 5, 6, 7, 8, 9] rfl)
                  · refine lv_bipush (v := 9) hx hb dL_arePriced_108 (by decide) ?_
                    refine lv_goto (tgt := 115) hx hb dL_arePriced_110 (by decide) ?_
                    exact J115 9 _ _ (by
                        first
                        | exact hr_a ok (e86'.trans (by rw [r81])) c94'
                        | exact hr_b ok (e86'.trans (by rw [r81])) c105'
                        | exact hr_c ok (e86'.trans (by rw [r81])) c94' c105') hW ls (lv_sub hl [0, 1, 2, 3, 4, 5, 6, 7, 8, 9] rfl)
                · refine lv_iconst (v := 0) hx hb dL_arePriced_97 (by decide) ?_
                  refine lv_goto (tgt := 115) hx hb dL_arePriced_98 (by decide) ?_
                  exact J115 0 _ _ (by
                      first
                      | exact hr_a ok (e86'.trans (by rw [r81])) c94'
                      | exact hr_b ok (e86'.trans (by rw [r81])) c105'
                      | exact hr_c ok (e86'.trans (by rw [r81])) c94' c105') hW ls (lv_sub hl [0, 1, 2, 3, 4, 5, 6, 7, 8, 9] rfl)
              · have k43' : ¬ 64 ≤ n := kc_gen en (nlit 64) (by omega) (by omega) c43'
                refine lv_lload hx hb dL_arePriced_46 (lv_at hl 2 rfl) ?_
                have J69 : ∀ (yv : Int64) (H : Heap) (locs : List Loc), (yv = (if zonB σ k n = true then (v.1 n).toInt64 else 0)) → WS D cA sh ad A s.heap M31' H locs → ∀ ls, lv_has ls 14 [(12, .int xn), (10, .long x31'), (8, .long zs), (7, .int xk), (5, .long za), (0, .ref (ad 0)), (1, .ref (ad 60)), (2, .ref (ad 63)), (3, .ref (ad 64)), (4, .ref (ad 66))] → W p l e (headSpec wsL_arePriced { frames := 10, cells := 160, slots := 960, locals := 177 }).room s m ([.ref (ad 0), .ref (ad 60), .ref (ad 63), .ref (ad 64), .ref (ad 66)] : List Value).toArray below meth cd0 H locs (4 * k + 1) (24 * k + 6) (MQ below (wQi D cA sh ad (fun r M' => r = 1 ∧ XX σ v M' ∧ LSt σ v M') A) ([.ref (ad 0), .ref (ad 60), .ref (ad 63), .ref (ad 64), .ref (ad 66)] : List Value).toArray s 160 960 A) (F0 m 69 ls [.long yv, .long zs]) := by
                  intro yv H locs hyv hW ls hl
                  refine lv_ladd hx hb dL_arePriced_69 ?_
                  refine lv_topl (fun x69' e69' => ?_)
                  refine lv_lstore (lv' := [(8, .long x69'), (12, .int xn), (10, .long x31'), (7, .int xk), (5, .long za), (0, .ref (ad 0)), (1, .ref (ad 60)), (2, .ref (ad 63)), (3, .ref (ad 64)), (4, .ref (ad 66))]) hx hb dL_arePriced_70 hl (by decide) rfl (fun ls hl => ?_)
                  obtain ⟨x72', e72'⟩ : ∃ y : Int32, y = xn + 1 := ⟨_, rfl⟩
                  refine lv_iinc (v := x72') (lv' := [(12, .int x72'), (8, .long x69'), (10, .long x31'), (7, .int xk), (5, .long za), (0, .ref (ad 0)), (1, .ref (ad 60)), (2, .ref (ad 63)), (3, .ref (ad 64)), (4, .ref (ad 66))]) hx hb dL_arePriced_72 hl (k := 1) rfl (by rw [e72']; rfl) (by decide) rfl (fun ls hl => ?_)
                  refine lv_goto (tgt := 39) hx hb dL_arePriced_75 (by decide) ?_
                  exact ih39 (n + 1) x72' x69' _ _ (by omega) (by omega) (by rw [e72', en, nlit 1, nI_add]) (by rw [e69', hyv, ez]; exact val_s _ _ _) hW ls (lv_sub hl [0, 2, 1, 3, 4, 5, 6, 7, 8, 9] rfl)
                refine lv_lload hx hb dL_arePriced_48 (lv_at hl 1 rfl) ?_
                refine lv_iload hx hb dL_arePriced_50 (lv_at hl 0 rfl) ?_
                refine lv_lshr hx hb dL_arePriced_52 rfl ?_
                refine lv_topl (fun x52' e52' => ?_)
                refine lv_lconst (v := 1) hx hb dL_arePriced_53 (by decide) ?_
                refine lv_land hx hb dL_arePriced_54 ?_
                refine lv_topl (fun x54' e54' => ?_)
                refine lv_lconst (v := 1) hx hb dL_arePriced_55 (by decide) ?_
                refine W.lcmp hx hb dL_arePriced_56 ?_
                refine lv_topi (fun x56' e56' => ?_)
                refine lv_if_ne (tgt := 68) hx hb dL_arePriced_57 (by decide) (fun c57' => ?_) (fun c57' => ?_)
                · refine lv_lconst (v := 0) hx hb dL_arePriced_68 (by decide) ?_
                  exact J69 0 _ _ (by
                      have hbit : x54' = 1 ↔ zonB σ k n = true := by
                        rw [e54', e52', en, bitL_sshr (by omega), r31 n (by omega)]
                      first
                      | (refine val_if (Or.inl ⟨hbit.mp (lg_eq.mp (e56'.symm.trans c57')), ?_⟩)
                         rw [e64', e63', hL.2.2.2.1 n (by omega)])
                      | exact val_if (w := v.1) (Or.inr ⟨by
                          cases hz : zonB σ k n with
                          | false => rfl
                          | true => exact absurd (e56'.trans (lg_eq.mpr (hbit.mpr hz))) c57', rfl⟩)) hW ls (lv_sub hl [0, 1, 2, 3, 4, 5, 6, 7, 8, 9] rfl)
                · refine lv_aload_n hx hb dL_arePriced_60 rfl (lv_at hl 7 rfl) ?_
                  refine lv_iload hx hb dL_arePriced_61 (lv_at hl 0 rfl) ?_
                  refine walI (j := n) hx hb hK hW (hMs 63 (by decide) (by decide)) en (by omega) (by decide) dL_arePriced_63 (fun x63' e63' => ?_)
                  refine lv_i2l hx hb dL_arePriced_64 rfl ?_
                  refine lv_topl (fun x64' e64' => ?_)
                  refine lv_goto (tgt := 69) hx hb dL_arePriced_65 (by decide) ?_
                  exact J69 x64' _ _ (by
                      have hbit : x54' = 1 ↔ zonB σ k n = true := by
                        rw [e54', e52', en, bitL_sshr (by omega), r31 n (by omega)]
                      first
                      | (refine val_if (Or.inl ⟨hbit.mp (lg_eq.mp (e56'.symm.trans c57')), ?_⟩)
                         rw [e64', e63', hL.2.2.2.1 n (by omega)])
                      | exact val_if (w := v.1) (Or.inr ⟨by
                          cases hz : zonB σ k n with
                          | false => rfl
                          | true => exact absurd (e56'.trans (lg_eq.mpr (hbit.mpr hz))) c57', rfl⟩)) hW ls (lv_sub hl [0, 1, 2, 3, 4, 5, 6, 7, 8, 9] rfl)
          exact L39 (_ + 1) 0 0 1 _ _ (Nat.lt_succ_self _) (Nat.zero_le _) rfl rfl hW ls (lv_sub hl [0, 1, 2, 3, 4, 5, 6, 7, 8, 9] rfl)
  exact L6 (_ + 1) 0 0 0 M _ _ (Nat.lt_succ_self _) (Nat.zero_le _) rfl rfl hXX hL hW ls (lv_sub hl [0, 1, 2, 3, 4, 5, 6] rfl)
set_option maxHeartbeats 4000000 in
set_option maxRecDepth 100000 in
theorem c_L_areShells (l : Launch) (hl9 : l.stackTraces = false) (D : va_G) (cA : Nat → ClassId) (sh : Nat → Option Sh) (ad : Nat → Nat) (M : MS) (sz : Nat) (σ : AS) (v : VT) (hX : XSh (aN σ) sh) (hXX : XX σ v M) (hMs : LSh sh) (hL : LSt σ v M) (xv : Int32) : Met l yL_areShells wsL_areShells ({ frames := 8, cells := 10, slots := 60, locals := 135 }) (lPc D cA sh ad M sz [.ref (ad 0), .ref (ad 61), .int xv]) (wQi D cA sh ad (fun r M' => r = 1 ∧ XX σ v M' ∧ LSt σ v M') (wA sh ad sz)) 10 60 (wA sh ad sz) := by
  refine Met.ofW (cc := cL_areShells) (maxL := 6) (ret := (some .boolean)) (by decide) rfl ?_
  intro p e s m args below meth cd0 s₁ B hml hv
  obtain ⟨rfl, hsz, hM, hK, hE, hZ, hE2⟩ := hv
  have hx := B.exec
  have hb := B.bytes
  have hr := B.returns
  have hts := atoms_spec (ws := wsL_areShells) B.pre
  have hown : s.vm.findClass RL = some m.cls := findClass_of_methodNamed B.named
  have hlocks := B.notSynchronized
  subst hsz
  have hA := wA_PA sh ad s.heap
  generalize wA sh ad s.heap.size = A at hA hZ ⊢
  have hW : WS D cA sh ad A s.heap M s.heap [] := ⟨hM, va_S.rf⟩
  have hl := lv_entry ([.ref (ad 0), .ref (ad 61), .int xv]) (n := 6) (Nat.le_of_ble_eq_true rfl)
  rw [lg_entry_eq]
  generalize (lg_sl ([.ref (ad 0), .ref (ad 61), .int xv]) ++ List.replicate (6 - (lg_sl ([.ref (ad 0), .ref (ad 61), .int xv])).length) Slot.unset).toArray = ls at hl ⊢
  have hl : lv_has ls 6 [(0, .ref (ad 0)), (1, .ref (ad 61)), (2, .int xv)] := hl
  obtain ⟨ok, -⟩ := id hXX
  have o1 := ok.1
  refine lv_iload_n hx hb dL_areShells_0 rfl (lv_at hl 2 rfl) ?_
  refine lv_iconst (v := 4) hx hb dL_areShells_1 (by decide) ?_
  refine wc_ri (va_runS (As := [.int xv, .int 4]) (rest := []) ⟨hx, hb, hml, hown, hts⟩ (c_L_low l xv 4 (by decide)) (va_cwS 2 hts gL_areShells_L_low rfl rfl rfl (by decide +kernel) ⟨Nat.le_of_ble_eq_true rfl, Nat.le_of_ble_eq_true rfl⟩) npreS rfl rfl hl.1 rfl (lv_room (Nat.le_of_ble_eq_true rfl)) dL_areShells_2 ⟨Nat.le_of_ble_eq_true rfl, Nat.le_of_ble_eq_true rfl⟩) hW (fun x2' H locs p2' hW => ?_)
  try dsimp only at p2'
  obtain ⟨kd, hkd, ekd⟩ := low_n xv (n := 4) (by decide) (by decide)
  have r2 : x2' = nI kd := p2'.trans ekd
  obtain ⟨hk1, hk2, hk3, hk4⟩ := kd_ok ok hkd
  have hdd := dd_lt ok hkd
  have hN3 := hk2.2.2
  have n1d : n1 x2' = kd := n1e r2 (by omega)
  have hin : inB x2' 0 3 = true := in_t (n := 3) r2 (by omega) (by decide)
  have n2' : x2' = nI kd := r2
  refine lv_istore_n (lv' := [(3, .int x2'), (0, .ref (ad 0)), (1, .ref (ad 61)), (2, .int xv)]) hx hb dL_areShells_5 rfl hl (by decide) rfl (fun ls hl => ?_)
  refine lv_iconst (v := 0) hx hb dL_areShells_6 (by decide) ?_
  refine lv_istore (lv' := [(4, .int 0), (3, .int x2'), (0, .ref (ad 0)), (1, .ref (ad 61)), (2, .int xv)]) hx hb dL_areShells_7 hl (by decide) rfl (fun ls hl => ?_)
  refine lv_iconst (v := 0) hx hb dL_areShells_9 (by decide) ?_
  refine lv_istore (lv' := [(5, .int 0), (4, .int 0), (3, .int x2'), (0, .ref (ad 0)), (1, .ref (ad 61)), (2, .int xv)]) hx hb dL_areShells_10 hl (by decide) rfl (fun ls hl => ?_)
  have L12 : ∀ (fu : Nat) (t : Nat) (xt : Int32) (xs : Int32) (Mt : MS) (H : Heap) (locs : List Loc), 4 - t < fu → (t ≤ 4) → (xt = nI t) → (xs = nI (cntS (σ.1 2 kd) (σ.1 3 kd) (σ.2 11 kd) t)) → (XX σ v Mt) → (LSt σ v Mt) → WS D cA sh ad A s.heap Mt H locs → ∀ ls, lv_has ls 6 [(5, .int xt), (4, .int xs), (3, .int x2'), (0, .ref (ad 0)), (1, .ref (ad 61)), (2, .int xv)] → W p l e (headSpec wsL_areShells { frames := 8, cells := 10, slots := 60, locals := 135 }).room s m ([.ref (ad 0), .ref (ad 61), .int xv] : List Value).toArray below meth cd0 H locs (t) (6 * t) (MQ below (wQi D cA sh ad (fun r M' => r = 1 ∧ XX σ v M' ∧ LSt σ v M') A) ([.ref (ad 0), .ref (ad 61), .int xv] : List Value).toArray s 10 60 A) (F0 m 12 ls []) := by
    intro fu
    induction fu with
    | zero =>
      intro t xt xs Mt H locs hn ht et es hXX hL hW ls hl
      exact absurd hn (Nat.not_lt_zero _)
    | succ fu ih12 =>
      intro t xt xs Mt H locs hn ht et es hXX hL hW ls hl
      have hcs : ∀ y, y ≤ 4 → cntS (σ.1 2 kd) (σ.1 3 kd) (σ.2 11 kd) y ≤ 12000 := cntS_b hN3
      have hct := hcs t ht
      refine lv_iload hx hb dL_areShells_12 (lv_at hl 0 rfl) ?_
      refine lv_iconst (v := 4) hx hb dL_areShells_14 (by decide) ?_
      refine lv_icmp_ge (tgt := 36) hx hb dL_areShells_15 (by decide) (fun c15' => ?_) (fun c15' => ?_)
      · have k15' : 4 ≤ t := kc_ge et (nlit 4) (by omega) (by omega) c15'
        refine lv_iload hx hb dL_areShells_36 (lv_at hl 1 rfl) ?_
        refine lv_aload_n hx hb dL_areShells_38 rfl (lv_at hl 3 rfl) ?_
        refine lv_iload_n hx hb dL_areShells_39 rfl (lv_at hl 2 rfl) ?_
        refine wc_wiN (vx_runSW (As := [.ref (ad 0), .int x2']) (rest := [.int xs]) ⟨hx, hb, hml, hown, hts⟩ (c_L_flight l hl9 D cA sh ad Mt _ σ v hX hXX x2' ) (vx_cwSW 2 hts gL_areShells_L_flight rfl rfl rfl (by decide +kernel) ⟨Nat.le_of_ble_eq_true rfl, Nat.le_of_ble_eq_true rfl⟩) (lpreS hK hA hW hE hZ hE2) rfl rfl hl.1 rfl (lv_room (Nat.le_of_ble_eq_true rfl)) dL_areShells_40 ⟨(by show t + 1 ≤ 10; omega), (by show 6 * t + 6 ≤ 60; omega)⟩) hA hW (fun x40' M40' H locs p40' hW => ?_)
        try dsimp only at p40'
        obtain ⟨kp40, hXX, r40⟩ := p40'
        have hL := hL.kp kp40
        rw [ifB_t hin, n1d] at r40
        refine lv_icmp_ne (tgt := 103) hx hb dL_areShells_43 (by decide) (fun c43' => ?_) (fun c43' => ?_)
        · exact ((c43' (by rw [es, r40, show t = 4 by omega, cntS_4]))).elim
        · refine lv_iload hx hb dL_areShells_46 (lv_at hl 1 rfl) ?_
          refine lv_aload_n hx hb dL_areShells_48 rfl (lv_at hl 4 rfl) ?_
          refine lv_iload_n hx hb dL_areShells_49 rfl (lv_at hl 2 rfl) ?_
          refine walI (j := kd) hx hb hK hW (hMs 61 (by decide) (by decide)) n2' (by omega) (by decide) dL_areShells_50 (fun x50' e50' => ?_)
          have n50' : x50' = nI (ddN σ kd) := (e50'.trans (hL.2.1 kd hkd))
          refine lv_bipush (v := 32) hx hb dL_areShells_51 (by decide) ?_
          refine lv_irem hx hb dL_areShells_53 (by decide) ?_
          refine lv_topi (fun x53' e53' => ?_)
          have n53' : x53' = nI ((ddN σ kd) % 32) := (by rw [e53', n50', (nlit 32)]; exact pk_rem (by omega) (by omega) (by omega))
          refine lv_icmp_le (tgt := 103) hx hb dL_areShells_54 (by decide) (fun c54' => ?_) (fun c54' => ?_)
          · have k54' : (cntS (σ.1 2 kd) (σ.1 3 kd) (σ.2 11 kd) t) ≤ ((ddN σ kd) % 32) := kc_le es n53' (by omega) (by omega) c54'
            exact ((show False from by rw [show t = 4 by omega, cntS_4, hdd.2.2] at k54'; have := (lift_hi hk3 hk4 hk2).1; omega)).elim
          · have k54' : ¬ (cntS (σ.1 2 kd) (σ.1 3 kd) (σ.2 11 kd) t) ≤ ((ddN σ kd) % 32) := kc_len es n53' (by omega) (by omega) c54'
            refine lv_aload_n hx hb dL_areShells_57 rfl (lv_at hl 3 rfl) ?_
            refine lv_iload_n hx hb dL_areShells_58 rfl (lv_at hl 2 rfl) ?_
            refine lv_iconst (v := 0) hx hb dL_areShells_59 (by decide) ?_
            refine wc_wiN (vx_runSW (As := [.ref (ad 0), .int x2', .int 0]) (rest := []) ⟨hx, hb, hml, hown, hts⟩ (c_L_inLayer l hl9 D cA sh ad M40' _ σ v hX hXX x2' 0 ) (vx_cwSW 3 hts gL_areShells_L_inLayer rfl rfl rfl (by decide +kernel) ⟨Nat.le_of_ble_eq_true rfl, Nat.le_of_ble_eq_true rfl⟩) (lpreS hK hA hW hE hZ hE2) rfl rfl hl.1 rfl (lv_room (Nat.le_of_ble_eq_true rfl)) dL_areShells_60 ⟨(by show t + 1 + 1 ≤ 10; omega), (by show 6 * t + 6 + 6 ≤ 60; omega)⟩) hA hW (fun x60' M60' H locs p60' hW => ?_)
            try dsimp only at p60'
            obtain ⟨kp60, hXX, r60⟩ := p60'
            have hL := hL.kp kp60
            rw [ifB_t (show (inB x2' 0 3 && inB 0 0 3) = true by rw [hin]; rfl), n1d] at r60
            have c4' := cntN_le (σ.1 2 kd) (σ.1 3 kd) 0 (σ.2 11 kd)
            have h60 : n1 0 = 0 := rfl
            rw [h60] at r60
            have n60' : x60' = nI (cntN (σ.1 2 kd) (σ.1 3 kd) (σ.2 11 kd) 0) := r60
            refine lv_iconst (v := 1) hx hb dL_areShells_63 (by decide) ?_
            refine lv_icmp_le (tgt := 103) hx hb dL_areShells_64 (by decide) (fun c64' => ?_) (fun c64' => ?_)
            · have k64' : (cntN (σ.1 2 kd) (σ.1 3 kd) (σ.2 11 kd) 0) ≤ 1 := kc_le n60' (nlit 1) (by omega) (by omega) c64'
              exact ((show False from by have := lay0_2 hk3 hk4 hk2; omega)).elim
            · have k64' : ¬ (cntN (σ.1 2 kd) (σ.1 3 kd) (σ.2 11 kd) 0) ≤ 1 := kc_len n60' (nlit 1) (by omega) (by omega) c64'
              refine lv_aload_n hx hb dL_areShells_67 rfl (lv_at hl 3 rfl) ?_
              refine lv_iconst (v := 4) hx hb dL_areShells_68 (by decide) ?_
              refine wc_wiN (vx_runSW (As := [.ref (ad 0), .int 4]) (rest := []) ⟨hx, hb, hml, hown, hts⟩ (c_L_flight l hl9 D cA sh ad M60' _ σ v hX hXX 4 ) (vx_cwSW 2 hts gL_areShells_L_flight rfl rfl rfl (by decide +kernel) ⟨Nat.le_of_ble_eq_true rfl, Nat.le_of_ble_eq_true rfl⟩) (lpreS hK hA hW hE hZ hE2) rfl rfl hl.1 rfl (lv_room (Nat.le_of_ble_eq_true rfl)) dL_areShells_69 ⟨(by show t + 1 + 1 + 1 ≤ 10; omega), (by show 6 * t + 6 + 6 + 6 ≤ 60; omega)⟩) hA hW (fun x69' M69' H locs p69' hW => ?_)
              try dsimp only at p69'
              obtain ⟨kp69, hXX, r69⟩ := p69'
              have hL := hL.kp kp69
              rw [ifB_f (show inB 4 0 3 = false by decide)] at r69
              refine lv_ldc (v := (-1000002)) hx hb hown (hts (.constant RL 18 (-1000002)) (List.mem_of_getElem? (i := 1) rfl)) dL_areShells_72 ?_
              refine lv_icmp_ne (tgt := 103) hx hb dL_areShells_74 (by decide) (fun c74' => ?_) (fun c74' => ?_)
              · exact ((c74' r69)).elim
              · refine lv_aload_n hx hb dL_areShells_77 rfl (lv_at hl 3 rfl) ?_
                refine lv_iconst (v := 4) hx hb dL_areShells_78 (by decide) ?_
                refine lv_iconst (v := 0) hx hb dL_areShells_79 (by decide) ?_
                refine wc_wiN (vx_runSW (As := [.ref (ad 0), .int 4, .int 0]) (rest := []) ⟨hx, hb, hml, hown, hts⟩ (c_L_inLayer l hl9 D cA sh ad M69' _ σ v hX hXX 4 0 ) (vx_cwSW 3 hts gL_areShells_L_inLayer rfl rfl rfl (by decide +kernel) ⟨Nat.le_of_ble_eq_true rfl, Nat.le_of_ble_eq_true rfl⟩) (lpreS hK hA hW hE hZ hE2) rfl rfl hl.1 rfl (lv_room (Nat.le_of_ble_eq_true rfl)) dL_areShells_80 ⟨(by show t + 1 + 1 + 1 + 1 ≤ 10; omega), (by show 6 * t + 6 + 6 + 6 + 6 ≤ 60; omega)⟩) hA hW (fun x80' M80' H locs p80' hW => ?_)
                try dsimp only at p80'
                obtain ⟨kp80, hXX, r80⟩ := p80'
                have hL := hL.kp kp80
                rw [ifB_f (show (inB 4 0 3 && inB 0 0 3) = false by decide)] at r80
                refine lv_ldc (v := (-1000002)) hx hb hown (hts (.constant RL 18 (-1000002)) (List.mem_of_getElem? (i := 1) rfl)) dL_areShells_83 ?_
                refine lv_icmp_ne (tgt := 103) hx hb dL_areShells_85 (by decide) (fun c85' => ?_) (fun c85' => ?_)
                · exact ((c85' r80)).elim
                · refine lv_aload_n hx hb dL_areShells_88 rfl (lv_at hl 3 rfl) ?_
                  refine lv_iconst (v := 0) hx hb dL_areShells_89 (by decide) ?_
                  refine lv_iconst (v := 4) hx hb dL_areShells_90 (by decide) ?_
                  refine wc_wiN (vx_runSW (As := [.ref (ad 0), .int 0, .int 4]) (rest := []) ⟨hx, hb, hml, hown, hts⟩ (c_L_inLayer l hl9 D cA sh ad M80' _ σ v hX hXX 0 4 ) (vx_cwSW 3 hts gL_areShells_L_inLayer rfl rfl rfl (by decide +kernel) ⟨Nat.le_of_ble_eq_true rfl, Nat.le_of_ble_eq_true rfl⟩) (lpreS hK hA hW hE hZ hE2) rfl rfl hl.1 rfl (lv_room (Nat.le_of_ble_eq_true rfl)) dL_areShells_91 ⟨(by show t + 1 + 1 + 1 + 1 + 1 ≤ 10; omega), (by show 6 * t + 6 + 6 + 6 + 6 + 6 ≤ 60; omega)⟩) hA hW (fun x91' M91' H locs p91' hW => ?_)
                  try dsimp only at p91'
                  obtain ⟨kp91, hXX, r91⟩ := p91'
                  have hL := hL.kp kp91
                  rw [ifB_f (show (inB 0 0 3 && inB 4 0 3) = false by decide)] at r91
                  refine lv_ldc (v := (-1000002)) hx hb hown (hts (.constant RL 18 (-1000002)) (List.mem_of_getElem? (i := 1) rfl)) dL_areShells_94 ?_
                  refine lv_icmp_ne (tgt := 103) hx hb dL_areShells_96 (by decide) (fun c96' => ?_) (fun c96' => ?_)
                  · exact ((c96' r91)).elim
                  · refine lv_iconst (v := 1) hx hb dL_areShells_99 (by decide) ?_
                    refine lv_goto (tgt := 104) hx hb dL_areShells_100 (by decide) ?_
                    refine W.widen (k := 10) (n := 60) (by omega) (by omega) ?_
                    exact wr_wz hx hb hr hlocks hW dL_areShells_104 rfl ⟨rfl, hXX, hL⟩
      · have k15' : ¬ 4 ≤ t := kc_gen et (nlit 4) (by omega) (by omega) c15'
        refine lv_iload hx hb dL_areShells_18 (lv_at hl 1 rfl) ?_
        refine lv_aload_n hx hb dL_areShells_20 rfl (lv_at hl 3 rfl) ?_
        refine lv_iload_n hx hb dL_areShells_21 rfl (lv_at hl 2 rfl) ?_
        refine lv_iload hx hb dL_areShells_22 (lv_at hl 0 rfl) ?_
        refine wc_wiN (vx_runSW (As := [.ref (ad 0), .int x2', .int xt]) (rest := [.int xs]) ⟨hx, hb, hml, hown, hts⟩ (c_L_inLayer l hl9 D cA sh ad Mt _ σ v hX hXX x2' xt ) (vx_cwSW 3 hts gL_areShells_L_inLayer rfl rfl rfl (by decide +kernel) ⟨Nat.le_of_ble_eq_true rfl, Nat.le_of_ble_eq_true rfl⟩) (lpreS hK hA hW hE hZ hE2) rfl rfl hl.1 rfl (lv_room (Nat.le_of_ble_eq_true rfl)) dL_areShells_24 ⟨(by show t + 1 ≤ 10; omega), (by show 6 * t + 6 ≤ 60; omega)⟩) hA hW (fun x24' M24' H locs p24' hW => ?_)
        try dsimp only at p24'
        obtain ⟨kp24, hXX, r24⟩ := p24'
        have hL := hL.kp kp24
        have hin2 : inB xt 0 3 = true := in_t (n := 3) et (by omega) (by decide)
        rw [ifB_t (show (inB x2' 0 3 && inB xt 0 3) = true by rw [hin, hin2]; rfl), n1d, n1e et (by omega)] at r24
        have c3' := cntN_le (σ.1 2 kd) (σ.1 3 kd) t (σ.2 11 kd)
        have n24' : x24' = nI (cntN (σ.1 2 kd) (σ.1 3 kd) (σ.2 11 kd) t) := r24
        refine lv_iadd hx hb dL_areShells_27 ?_
        refine lv_topi (fun x27' e27' => ?_)
        have n27' : x27' = nI ((cntS (σ.1 2 kd) (σ.1 3 kd) (σ.2 11 kd) t) + (cntN (σ.1 2 kd) (σ.1 3 kd) (σ.2 11 kd) t)) := (by rw [e27', es, n24', nI_add])
        refine lv_istore (lv' := [(4, .int x27'), (5, .int xt), (3, .int x2'), (0, .ref (ad 0)), (1, .ref (ad 61)), (2, .int xv)]) hx hb dL_areShells_28 hl (by decide) rfl (fun ls hl => ?_)
        obtain ⟨x30', e30'⟩ : ∃ y : Int32, y = xt + 1 := ⟨_, rfl⟩
        refine lv_iinc (v := x30') (lv' := [(5, .int x30'), (4, .int x27'), (3, .int x2'), (0, .ref (ad 0)), (1, .ref (ad 61)), (2, .int xv)]) hx hb dL_areShells_30 hl (k := 1) rfl (by rw [e30']; rfl) (by decide) rfl (fun ls hl => ?_)
        refine lv_goto (tgt := 12) hx hb dL_areShells_33 (by decide) ?_
        refine W.widen (k := (t + 1)) (n := 6 * (t + 1)) (by omega) (by omega) ?_
        exact ih12 (t + 1) x30' x27' M24' _ _ (by omega) (by omega) (by rw [e30', et, nlit 1, nI_add]) n27' hXX hL hW ls (lv_sub hl [0, 1, 2, 3, 4, 5] rfl)
  exact L12 (_ + 1) 0 0 0 M _ _ (Nat.lt_succ_self _) (Nat.zero_le _) rfl rfl hXX hL hW ls (lv_sub hl [0, 1, 2, 3, 4, 5] rfl)

/-! isClosed. -/
set_option maxHeartbeats 4000000 in
set_option maxRecDepth 100000 in
theorem c_L_isClosed (l : Launch) (hl9 : l.stackTraces = false) (D : va_G) (cA : Nat → ClassId) (sh : Nat → Option Sh) (ad : Nat → Nat) (M : MS) (sz : Nat) (σ : AS) (v : VT) (hX : XSh (aN σ) sh) (hXX : XX σ v M) (hMs : LSh sh) (hL : LSt σ v M) (q : Nat → Nat) (c : Nat) (hs : Srt σ 40 q c) : Met l yL_isClosed wsL_isClosed ({ frames := 10, cells := 20200, slots := 121200, locals := 176 }) (lPc D cA sh ad M sz [.ref (ad 0), .ref (ad 60), .ref (ad 66)]) (wQi D cA sh ad (fun r M' => r = 1 ∧ XX σ v M' ∧ LSt σ v M') (wA sh ad sz)) 20200 121200 (wA sh ad sz) := by
  refine Met.ofW (cc := cL_isClosed) (maxL := 9) (ret := (some .boolean)) (by decide) rfl ?_
  intro p e s m args below meth cd0 s₁ B hml hv
  obtain ⟨rfl, hsz, hM, hK, hE, hZ, hE2⟩ := hv
  have hx := B.exec
  have hb := B.bytes
  have hr := B.returns
  have hts := atoms_spec (ws := wsL_isClosed) B.pre
  have hown : s.vm.findClass RL = some m.cls := findClass_of_methodNamed B.named
  have hlocks := B.notSynchronized
  subst hsz
  have hA := wA_PA sh ad s.heap
  generalize wA sh ad s.heap.size = A at hA hZ ⊢
  have hW : WS D cA sh ad A s.heap M s.heap [] := ⟨hM, va_S.rf⟩
  have hl := lv_entry ([.ref (ad 0), .ref (ad 60), .ref (ad 66)]) (n := 9) (Nat.le_of_ble_eq_true rfl)
  rw [lg_entry_eq]
  generalize (lg_sl ([.ref (ad 0), .ref (ad 60), .ref (ad 66)]) ++ List.replicate (9 - (lg_sl ([.ref (ad 0), .ref (ad 60), .ref (ad 66)])).length) Slot.unset).toArray = ls at hl ⊢
  have hl : lv_has ls 9 [(0, .ref (ad 0)), (1, .ref (ad 60)), (2, .ref (ad 66))] := hl
  obtain ⟨ok, -⟩ := id hXX
  have o1 := ok.1
  refine lv_iconst (v := 0) hx hb dL_isClosed_0 (by decide) ?_
  refine lv_istore_n (lv' := [(3, .int 0), (0, .ref (ad 0)), (1, .ref (ad 60)), (2, .ref (ad 66))]) hx hb dL_isClosed_1 rfl hl (by decide) rfl (fun ls hl => ?_)
  refine lv_iconst (v := 1) hx hb dL_isClosed_2 (by decide) ?_
  refine lv_istore (lv' := [(4, .int 1), (3, .int 0), (0, .ref (ad 0)), (1, .ref (ad 60)), (2, .ref (ad 66))]) hx hb dL_isClosed_3 hl (by decide) rfl (fun ls hl => ?_)
  refine lv_iconst (v := 0) hx hb dL_isClosed_5 (by decide) ?_
  refine lv_istore (lv' := [(5, .int 0), (4, .int 1), (3, .int 0), (0, .ref (ad 0)), (1, .ref (ad 60)), (2, .ref (ad 66))]) hx hb dL_isClosed_6 hl (by decide) rfl (fun ls hl => ?_)
  have L8 : ∀ (fu : Nat) (bt : Nat) (xb : Int32) (xc : Int32) (Mb : MS) (H : Heap) (locs : List Loc), 101 - bt < fu → (bt ≤ 101) → (xb = nI bt) → (xc = nI (cbN σ bt)) → (XX σ v Mb) → (LSt σ v Mb) → WS D cA sh ad A s.heap Mb H locs → ∀ ls, lv_has ls 9 [(5, .int xb), (4, .int 1), (3, .int xc), (0, .ref (ad 0)), (1, .ref (ad 60)), (2, .ref (ad 66))] → W p l e (headSpec wsL_isClosed { frames := 10, cells := 20200, slots := 121200, locals := 176 }).room s m ([.ref (ad 0), .ref (ad 60), .ref (ad 66)] : List Value).toArray below meth cd0 H locs (200 * bt) (1200 * bt) (MQ below (wQi D cA sh ad (fun r M' => r = 1 ∧ XX σ v M' ∧ LSt σ v M') A) ([.ref (ad 0), .ref (ad 60), .ref (ad 66)] : List Value).toArray s 20200 121200 A) (F0 m 8 ls []) := by
    intro fu
    induction fu with
    | zero =>
      intro bt xb xc Mb H locs hn hbt9 ebt exc hXX hL hW ls hl
      exact absurd hn (Nat.not_lt_zero _)
    | succ fu ih8 =>
      intro bt xb xc Mb H locs hn hbt9 ebt exc hXX hL hW ls hl
      refine lv_iload hx hb dL_isClosed_8 (lv_at hl 0 rfl) ?_
      refine lv_bipush (v := 100) hx hb dL_isClosed_10 (by decide) ?_
      refine lv_icmp_gt (tgt := 181) hx hb dL_isClosed_12 (by decide) (fun c12' => ?_) (fun c12' => ?_)
      · have k12' : 100 < bt := kc_gt ebt (nlit 100) (by omega) (by omega) c12'
        refine lv_iload hx hb dL_isClosed_181 (lv_at hl 1 rfl) ?_
        refine lv_if_eq (tgt := 208) hx hb dL_isClosed_183 (by decide) (fun c183' => ?_) (fun c183' => ?_)
        · have k183' : 1 = 0 := kc_eq (nlit 1) (nlit 0) (by omega) (by omega) c183'
          exact ((show False from by omega)).elim
        · have k183' : ¬ 1 = 0 := kc_eqn (nlit 1) (nlit 0) (by omega) (by omega) c183'
          refine lv_aload_n hx hb dL_isClosed_186 rfl (lv_at hl 3 rfl) ?_
          refine wc_wi (va_runV (As := []) (rest := []) ⟨hx, hb, hml, hown, hts⟩ (c_X9_closed l D cA sh ad Mb _ σ v hX hXX) (cwV 0 hts gL_isClosed_X9_closed rfl rfl rfl (by decide +kernel) ⟨Nat.le_of_ble_eq_true rfl, Nat.le_of_ble_eq_true rfl⟩) (wpreV hK hW (C := RX9) (ci := 9) (hX.1 0 (by decide)) rfl) rfl rfl hl.1 rfl (lv_room (Nat.le_of_ble_eq_true rfl)) dL_isClosed_187 ⟨(by show 200 * bt + 0 ≤ 20200; omega), (by show 1200 * bt + 0 ≤ 121200; omega)⟩) hA hW (fun x187' M187' H locs p187' hW => ?_)
          try dsimp only at p187'
          obtain ⟨kp187, hXX, r187⟩ := p187'
          have hL := hL.kp (KPm.oA kp187)
          refine lv_iload_n hx hb dL_isClosed_190 rfl (lv_at hl 2 rfl) ?_
          refine lv_icmp_ne (tgt := 208) hx hb dL_isClosed_191 (by decide) (fun c191' => ?_) (fun c191' => ?_)
          · exact ((c191' (by rw [r187, exc, show bt = 101 by omega]))).elim
          · refine lv_aload_n hx hb dL_isClosed_194 rfl (lv_at hl 3 rfl) ?_
            refine wc_ri (va_runV (As := []) (rest := []) ⟨hx, hb, hml, hown, hts⟩ (c_X9_cues l D cA sh ad M187' _ σ v hX hXX) (cwV 0 hts gL_isClosed_X9_cues rfl rfl rfl (by decide +kernel) ⟨Nat.le_of_ble_eq_true rfl, Nat.le_of_ble_eq_true rfl⟩) (wpreV hK hW (C := RX9) (ci := 9) (hX.1 0 (by decide)) rfl) rfl rfl hl.1 rfl (lv_room (Nat.le_of_ble_eq_true rfl)) dL_isClosed_195 ⟨(by show 200 * bt + 0 ≤ 20200; omega), (by show 1200 * bt + 0 ≤ 121200; omega)⟩) hW (fun x195' H locs p195' hW => ?_)
            try dsimp only at p195'
            refine lv_aload_n hx hb dL_isClosed_198 rfl (lv_at hl 5 rfl) ?_
            refine lv_iconst (v := 1) hx hb dL_isClosed_199 (by decide) ?_
            refine walI (j := 1) hx hb hK hW (hMs 66 (by decide) (by decide)) (nlit 1) (by omega) (by decide) dL_isClosed_200 (fun x200' e200' => ?_)
            refine lv_icmp_ne (tgt := 208) hx hb dL_isClosed_201 (by decide) (fun c201' => ?_) (fun c201' => ?_)
            · exact ((c201' (by rw [p195', e200', hL.2.2.2.2.2.2.2.1]))).elim
            · refine lv_iconst (v := 1) hx hb dL_isClosed_204 (by decide) ?_
              refine lv_goto (tgt := 209) hx hb dL_isClosed_205 (by decide) ?_
              refine W.widen (k := 20200) (n := 121200) (by omega) (by omega) ?_
              exact wr_wz hx hb hr hlocks hW dL_isClosed_209 rfl ⟨rfl, hXX, hL⟩
      · have k12' : ¬ 100 < bt := kc_gtn ebt (nlit 100) (by omega) (by omega) c12'
        refine lv_iconst (v := 0) hx hb dL_isClosed_15 (by decide) ?_
        refine lv_istore (lv' := [(6, .int 0), (5, .int xb), (4, .int 1), (3, .int xc), (0, .ref (ad 0)), (1, .ref (ad 60)), (2, .ref (ad 66))]) hx hb dL_isClosed_16 hl (by decide) rfl (fun ls hl => ?_)
        refine lv_iconst (v := 0) hx hb dL_isClosed_18 (by decide) ?_
        refine lv_istore (lv' := [(7, .int 0), (6, .int 0), (5, .int xb), (4, .int 1), (3, .int xc), (0, .ref (ad 0)), (1, .ref (ad 60)), (2, .ref (ad 66))]) hx hb dL_isClosed_19 hl (by decide) rfl (fun ls hl => ?_)
        refine lv_iconst (v := 0) hx hb dL_isClosed_21 (by decide) ?_
        refine lv_istore (lv' := [(8, .int 0), (7, .int 0), (6, .int 0), (5, .int xb), (4, .int 1), (3, .int xc), (0, .ref (ad 0)), (1, .ref (ad 60)), (2, .ref (ad 66))]) hx hb dL_isClosed_22 hl (by decide) rfl (fun ls hl => ?_)
        have L24 : ∀ (fu : Nat) (k : Nat) (xk : Int32) (xs : Int32) (xh : Int32) (Mk : MS) (H : Heap) (locs : List Loc), aN σ - k < fu → (k ≤ aN σ) → (xk = nI k) → (xh = nI (ctN (pb σ bt) k)) → (xs = nI (ctN (pbs σ bt) k)) → (XX σ v Mk) → (LSt σ v Mk) → WS D cA sh ad A s.heap Mk H locs → ∀ ls, lv_has ls 9 [(8, .int xk), (7, .int xs), (6, .int xh), (5, .int xb), (4, .int 1), (3, .int xc), (0, .ref (ad 0)), (1, .ref (ad 60)), (2, .ref (ad 66))] → W p l e (headSpec wsL_isClosed { frames := 10, cells := 20200, slots := 121200, locals := 176 }).room s m ([.ref (ad 0), .ref (ad 60), .ref (ad 66)] : List Value).toArray below meth cd0 H locs (200 * bt + 5 * k) (1200 * bt + 30 * k) (MQ below (wQi D cA sh ad (fun r M' => r = 1 ∧ XX σ v M' ∧ LSt σ v M') A) ([.ref (ad 0), .ref (ad 60), .ref (ad 66)] : List Value).toArray s 20200 121200 A) (F0 m 24 ls []) := by
          intro fu
          induction fu with
          | zero =>
            intro k xk xs xh Mk H locs hn hk ek eh es hXX hL hW ls hl
            exact absurd hn (Nat.not_lt_zero _)
          | succ fu ih24 =>
            intro k xk xs xh Mk H locs hn hk ek eh es hXX hL hW ls hl
            have t3 := ctN_le (pb σ bt) k
            have t4 := ctN_le (pbs σ bt) k
            refine lv_iload hx hb dL_isClosed_24 (lv_at hl 0 rfl) ?_
            refine lv_aload_n hx hb dL_isClosed_26 rfl (lv_at hl 8 rfl) ?_
            refine lv_iconst (v := 0) hx hb dL_isClosed_27 (by decide) ?_
            refine walI (j := 0) hx hb hK hW (hMs 66 (by decide) (by decide)) (nlit 0) (by omega) (by decide) dL_isClosed_28 (fun x28' e28' => ?_)
            have n28' : x28' = nI (aN σ) := (e28'.trans hL.2.2.2.2.2.2.1)
            refine lv_icmp_ge (tgt := 155) hx hb dL_isClosed_29 (by decide) (fun c29' => ?_) (fun c29' => ?_)
            · have k29' : (aN σ) ≤ k := kc_ge ek n28' (by omega) (by omega) c29'
              have hke : k = aN σ := by omega
              have t1 : ctN (pb σ bt) 40 = ctN (pb σ bt) k := by rw [hke]; exact ctN_40 o1 (fun j hj => pb_hi hj)
              have t2 : ctN (pbs σ bt) 40 = ctN (pbs σ bt) k := by rw [hke]; exact ctN_40 o1 (fun j hj => pbs_hi hj)
              have t3 := ctN_le (pb σ bt) k
              have t4 := ctN_le (pbs σ bt) k
              refine lv_iload_n hx hb dL_isClosed_155 rfl (lv_at hl 5 rfl) ?_
              have J173 : ∀ (y4 : Int32) (H : Heap) (locs : List Loc), (y4 = bI (clB σ bt)) → WS D cA sh ad A s.heap Mk H locs → ∀ ls, lv_has ls 9 [(8, .int xk), (7, .int xs), (6, .int xh), (5, .int xb), (4, .int 1), (3, .int xc), (0, .ref (ad 0)), (1, .ref (ad 60)), (2, .ref (ad 66))] → W p l e (headSpec wsL_isClosed { frames := 10, cells := 20200, slots := 121200, locals := 176 }).room s m ([.ref (ad 0), .ref (ad 60), .ref (ad 66)] : List Value).toArray below meth cd0 H locs (200 * bt + 5 * k) (1200 * bt + 30 * k) (MQ below (wQi D cA sh ad (fun r M' => r = 1 ∧ XX σ v M' ∧ LSt σ v M') A) ([.ref (ad 0), .ref (ad 60), .ref (ad 66)] : List Value).toArray s 20200 121200 A) (F0 m 173 ls [.int y4, .int xc]) := by
                intro y4 H locs hy4 hW ls hl
                refine lv_iadd hx hb dL_isClosed_173 ?_
                refine lv_topi (fun x173' e173' => ?_)
                refine lv_istore_n (lv' := [(3, .int x173'), (8, .int xk), (7, .int xs), (6, .int xh), (5, .int xb), (4, .int 1), (0, .ref (ad 0)), (1, .ref (ad 60)), (2, .ref (ad 66))]) hx hb dL_isClosed_174 rfl hl (by decide) rfl (fun ls hl => ?_)
                obtain ⟨x175', e175'⟩ : ∃ y : Int32, y = xb + 1 := ⟨_, rfl⟩
                refine lv_iinc (v := x175') (lv' := [(5, .int x175'), (3, .int x173'), (8, .int xk), (7, .int xs), (6, .int xh), (4, .int 1), (0, .ref (ad 0)), (1, .ref (ad 60)), (2, .ref (ad 66))]) hx hb dL_isClosed_175 hl (k := 4) rfl (by rw [e175']; rfl) (by decide) rfl (fun ls hl => ?_)
                refine lv_goto (tgt := 8) hx hb dL_isClosed_178 (by decide) ?_
                refine W.widen (k := 200 * (bt + 1)) (n := 1200 * (bt + 1)) (by omega) (by omega) ?_
                exact ih8 (bt + 1) x175' x173' Mk _ _ (by omega) (by omega) (by rw [e175', ebt, nlit 1, nI_add]) (by rw [e173', hy4, exc]; exact cb_s σ bt) hXX hL hW ls (lv_sub hl [0, 5, 1, 6, 7, 8] rfl)
              refine lv_iload hx hb dL_isClosed_156 (lv_at hl 2 rfl) ?_
              refine lv_if_le (tgt := 172) hx hb dL_isClosed_158 (by decide) (fun c158' => ?_) (fun c158' => ?_)
              · have k158' : (ctN (pb σ bt) k) ≤ 0 := kc_le eh (nlit 0) (by omega) (by omega) c158'
                refine lv_iconst (v := 0) hx hb dL_isClosed_172 (by decide) ?_
                exact J173 0 _ _ (by
                    first
                    | exact bI_tt (decide_eq_true ⟨by omega, by omega⟩)
                    | exact bI_ff (decide_eq_false (fun z9 => by omega))) hW ls (lv_sub hl [0, 1, 2, 3, 4, 5, 6, 7, 8] rfl)
              · have k158' : ¬ (ctN (pb σ bt) k) ≤ 0 := kc_len eh (nlit 0) (by omega) (by omega) c158'
                refine lv_iload hx hb dL_isClosed_161 (lv_at hl 2 rfl) ?_
                refine lv_iload hx hb dL_isClosed_163 (lv_at hl 1 rfl) ?_
                refine lv_icmp_ne (tgt := 172) hx hb dL_isClosed_165 (by decide) (fun c165' => ?_) (fun c165' => ?_)
                · have k165' : ¬ (ctN (pb σ bt) k) = (ctN (pbs σ bt) k) := kc_ne eh es (by omega) (by omega) c165'
                  refine lv_iconst (v := 0) hx hb dL_isClosed_172 (by decide) ?_
                  exact J173 0 _ _ (by
                      first
                      | exact bI_tt (decide_eq_true ⟨by omega, by omega⟩)
                      | exact bI_ff (decide_eq_false (fun z9 => by omega))) hW ls (lv_sub hl [0, 1, 2, 3, 4, 5, 6, 7, 8] rfl)
                · have k165' : (ctN (pb σ bt) k) = (ctN (pbs σ bt) k) := kc_nen eh es (by omega) (by omega) c165'
                  refine lv_iconst (v := 1) hx hb dL_isClosed_168 (by decide) ?_
                  refine lv_goto (tgt := 173) hx hb dL_isClosed_169 (by decide) ?_
                  exact J173 1 _ _ (by
                      first
                      | exact bI_tt (decide_eq_true ⟨by omega, by omega⟩)
                      | exact bI_ff (decide_eq_false (fun z9 => by omega))) hW ls (lv_sub hl [0, 1, 2, 3, 4, 5, 6, 7, 8] rfl)
            · have k29' : ¬ (aN σ) ≤ k := kc_gen ek n28' (by omega) (by omega) c29'
              have hcc := cc_lt ok (show k < aN σ by omega)
              refine lv_aload_n hx hb dL_isClosed_32 rfl (lv_at hl 7 rfl) ?_
              refine lv_iload hx hb dL_isClosed_33 (lv_at hl 0 rfl) ?_
              refine walI (j := k) hx hb hK hW (hMs 60 (by decide) (by decide)) ek (by omega) (by decide) dL_isClosed_35 (fun x35' e35' => ?_)
              have n35' : x35' = nI (ccN σ k) := (e35'.trans (hL.1 k (by omega)))
              refine lv_sipush (v := 128) hx hb dL_isClosed_36 (by decide) ?_
              refine lv_irem hx hb dL_isClosed_39 (by decide) ?_
              refine lv_topi (fun x39' e39' => ?_)
              have n39' : x39' = nI ((ccN σ k) % 128) := (by rw [e39', n35', (nlit 128)]; exact pk_rem (by omega) (by omega) (by omega))
              refine lv_iload hx hb dL_isClosed_40 (lv_at hl 3 rfl) ?_
              refine lv_icmp_ne (tgt := 149) hx hb dL_isClosed_42 (by decide) (fun c42' => ?_) (fun c42' => ?_)
              · have k42' : ¬ ((ccN σ k) % 128) = bt := kc_ne n39' ebt (by omega) (by omega) c42'
                have hpf : pb σ bt k = false := decide_eq_false (fun z9 => k42' (by rw [hcc.2.2.1]; exact z9.2.2))
                have hsf : pbs σ bt k = false := by unfold pbs; rw [hpf]; rfl
                obtain ⟨x149', e149'⟩ : ∃ y : Int32, y = xk + 1 := ⟨_, rfl⟩
                refine lv_iinc (v := x149') (lv' := [(8, .int x149'), (7, .int xs), (6, .int xh), (5, .int xb), (4, .int 1), (3, .int xc), (0, .ref (ad 0)), (1, .ref (ad 60)), (2, .ref (ad 66))]) hx hb dL_isClosed_149 hl (k := 0) rfl (by rw [e149']; rfl) (by decide) rfl (fun ls hl => ?_)
                refine lv_goto (tgt := 24) hx hb dL_isClosed_152 (by decide) ?_
                refine W.widen (k := 200 * bt + 5 * (k + 1)) (n := 1200 * bt + 30 * (k + 1)) (by omega) (by omega) ?_
                exact ih24 (k + 1) x149' xs xh Mk _ _ (by omega) (by omega) (by rw [e149', ek, nlit 1, nI_add]) (by first | exact ct_f eh hpf | (rw [e55']; exact ct_t eh hpb)) (by first | exact ct_f es hsf | (rw [e75', hyb, ← hps]; exact ct_b es)) hXX hL hW ls (lv_sub hl [0, 1, 2, 3, 4, 5, 6, 7, 8] rfl)
              · have k42' : ((ccN σ k) % 128) = bt := kc_nen n39' ebt (by omega) (by omega) c42'
                refine lv_aload_n hx hb dL_isClosed_45 rfl (lv_at hl 7 rfl) ?_
                refine lv_iload hx hb dL_isClosed_46 (lv_at hl 0 rfl) ?_
                refine walI (j := k) hx hb hK hW (hMs 60 (by decide) (by decide)) ek (by omega) (by decide) dL_isClosed_48 (fun x48' e48' => ?_)
                have n48' : x48' = nI (ccN σ k) := (e48'.trans (hL.1 k (by omega)))
                refine lv_sipush (v := 4096) hx hb dL_isClosed_49 (by decide) ?_
                refine lv_icmp_ge (tgt := 149) hx hb dL_isClosed_52 (by decide) (fun c52' => ?_) (fun c52' => ?_)
                · have k52' : 4096 ≤ (ccN σ k) := kc_ge n48' (nlit 4096) (by omega) (by omega) c52'
                  have hpf : pb σ bt k = false := decide_eq_false (fun z9 => by have := hcc.2.1.mpr z9.2.1; omega)
                  have hsf : pbs σ bt k = false := by unfold pbs; rw [hpf]; rfl
                  obtain ⟨x149', e149'⟩ : ∃ y : Int32, y = xk + 1 := ⟨_, rfl⟩
                  refine lv_iinc (v := x149') (lv' := [(8, .int x149'), (7, .int xs), (6, .int xh), (5, .int xb), (4, .int 1), (3, .int xc), (0, .ref (ad 0)), (1, .ref (ad 60)), (2, .ref (ad 66))]) hx hb dL_isClosed_149 hl (k := 0) rfl (by rw [e149']; rfl) (by decide) rfl (fun ls hl => ?_)
                  refine lv_goto (tgt := 24) hx hb dL_isClosed_152 (by decide) ?_
                  refine W.widen (k := 200 * bt + 5 * (k + 1)) (n := 1200 * bt + 30 * (k + 1)) (by omega) (by omega) ?_
                  exact ih24 (k + 1) x149' xs xh Mk _ _ (by omega) (by omega) (by rw [e149', ek, nlit 1, nI_add]) (by first | exact ct_f eh hpf | (rw [e55']; exact ct_t eh hpb)) (by first | exact ct_f es hsf | (rw [e75', hyb, ← hps]; exact ct_b es)) hXX hL hW ls (lv_sub hl [0, 1, 2, 3, 4, 5, 6, 7, 8] rfl)
                · have k52' : ¬ 4096 ≤ (ccN σ k) := kc_gen n48' (nlit 4096) (by omega) (by omega) c52'
                  have hk9 : k < aN σ := by omega
                  have hg : σ.2 10 k = 0 := hcc.2.1.mp (by omega)
                  have hbt : σ.2 7 k = bt := by rw [← hcc.2.2.1]; omega
                  have hcu : cuB σ xk = true := cu_y ek hk9 hg
                  have n1k : n1 xk = k := n1e ek (by omega)
                  have hpb : pb σ bt k = true := decide_eq_true ⟨hk9, hg, hbt⟩
                  have hps : pbs σ bt k = stkB σ k := by unfold pbs; rw [hpb, Bool.true_and]
                  obtain ⟨x55', e55'⟩ : ∃ y : Int32, y = xh + 1 := ⟨_, rfl⟩
                  refine lv_iinc (v := x55') (lv' := [(6, .int x55'), (8, .int xk), (7, .int xs), (5, .int xb), (4, .int 1), (3, .int xc), (0, .ref (ad 0)), (1, .ref (ad 60)), (2, .ref (ad 66))]) hx hb dL_isClosed_55 hl (k := 2) rfl (by rw [e55']; rfl) (by decide) rfl (fun ls hl => ?_)
                  refine lv_iload hx hb dL_isClosed_58 (lv_at hl 2 rfl) ?_
                  refine lv_aload_n hx hb dL_isClosed_60 rfl (lv_at hl 6 rfl) ?_
                  refine lv_iload hx hb dL_isClosed_61 (lv_at hl 1 rfl) ?_
                  refine wc_wiN (vx_runSW (As := [.ref (ad 0), .int xk]) (rest := [.int xs]) ⟨hx, hb, hml, hown, hts⟩ (c_L_becomes l hl9 D cA sh ad Mk _ σ v hX hXX xk q c hs ) (vx_cwSW 2 hts gL_isClosed_L_becomes rfl rfl rfl (by decide +kernel) ⟨Nat.le_of_ble_eq_true rfl, Nat.le_of_ble_eq_true rfl⟩) (lpreS hK hA hW hE hZ hE2) rfl rfl hl.1 rfl (lv_room (Nat.le_of_ble_eq_true rfl)) dL_isClosed_63 ⟨(by show 200 * bt + 5 * k + 1 ≤ 20200; omega), (by show 1200 * bt + 30 * k + 6 ≤ 121200; omega)⟩) hA hW (fun x63' M63' H locs p63' hW => ?_)
                  try dsimp only at p63'
                  obtain ⟨kp63, hXX, r63⟩ := p63'
                  have hL := hL.kp kp63
                  rw [ifB_t hcu, n1k] at r63
                  refine lv_iconst (v := 1) hx hb dL_isClosed_66 (by decide) ?_
                  have J75 : ∀ (yb : Int32) (H : Heap) (locs : List Loc), (yb = bI (stkB σ k)) → WS D cA sh ad A s.heap M63' H locs → ∀ ls, lv_has ls 9 [(6, .int x55'), (8, .int xk), (7, .int xs), (5, .int xb), (4, .int 1), (3, .int xc), (0, .ref (ad 0)), (1, .ref (ad 60)), (2, .ref (ad 66))] → W p l e (headSpec wsL_isClosed { frames := 10, cells := 20200, slots := 121200, locals := 176 }).room s m ([.ref (ad 0), .ref (ad 60), .ref (ad 66)] : List Value).toArray below meth cd0 H locs (200 * bt + 5 * k + 1) (1200 * bt + 30 * k + 6) (MQ below (wQi D cA sh ad (fun r M' => r = 1 ∧ XX σ v M' ∧ LSt σ v M') A) ([.ref (ad 0), .ref (ad 60), .ref (ad 66)] : List Value).toArray s 20200 121200 A) (F0 m 75 ls [.int yb, .int xs]) := by
                    intro yb H locs hyb hW ls hl
                    refine lv_iadd hx hb dL_isClosed_75 ?_
                    refine lv_topi (fun x75' e75' => ?_)
                    refine lv_istore (lv' := [(7, .int x75'), (6, .int x55'), (8, .int xk), (5, .int xb), (4, .int 1), (3, .int xc), (0, .ref (ad 0)), (1, .ref (ad 60)), (2, .ref (ad 66))]) hx hb dL_isClosed_76 hl (by decide) rfl (fun ls hl => ?_)
                    refine lv_iload hx hb dL_isClosed_78 (lv_at hl 4 rfl) ?_
                    refine lv_if_eq (tgt := 146) hx hb dL_isClosed_80 (by decide) (fun c80' => ?_) (fun c80' => ?_)
                    · have k80' : 1 = 0 := kc_eq (nlit 1) (nlit 0) (by omega) (by omega) c80'
                      exact ((show False from by omega)).elim
                    · have k80' : ¬ 1 = 0 := kc_eqn (nlit 1) (nlit 0) (by omega) (by omega) c80'
                      refine lv_aload_n hx hb dL_isClosed_83 rfl (lv_at hl 6 rfl) ?_
                      refine lv_iload hx hb dL_isClosed_84 (lv_at hl 2 rfl) ?_
                      refine wc_wiN (vx_runSW (As := [.ref (ad 0), .int xk]) (rest := []) ⟨hx, hb, hml, hown, hts⟩ (c_L_bursts l hl9 D cA sh ad M63' _ σ v hX hXX xk ) (vx_cwSW 2 hts gL_isClosed_L_bursts rfl rfl rfl (by decide +kernel) ⟨Nat.le_of_ble_eq_true rfl, Nat.le_of_ble_eq_true rfl⟩) (lpreS hK hA hW hE hZ hE2) rfl rfl hl.1 rfl (lv_room (Nat.le_of_ble_eq_true rfl)) dL_isClosed_86 ⟨(by show 200 * bt + 5 * k + 1 + 1 ≤ 20200; omega), (by show 1200 * bt + 30 * k + 6 + 6 ≤ 121200; omega)⟩) hA hW (fun x86' M86' H locs p86' hW => ?_)
                      try dsimp only at p86'
                      obtain ⟨kp86, hXX, r86⟩ := p86'
                      have hL := hL.kp kp86
                      rw [ifB_t hcu, n1k] at r86
                      refine lv_iload hx hb dL_isClosed_89 (lv_at hl 3 rfl) ?_
                      refine lv_iload_n hx hb dL_isClosed_91 rfl (lv_at hl 5 rfl) ?_
                      refine lv_isub hx hb dL_isClosed_92 ?_
                      refine lv_topi (fun x92' e92' => ?_)
                      refine lv_aload_n hx hb dL_isClosed_93 rfl (lv_at hl 8 rfl) ?_
                      refine lv_iconst (v := 2) hx hb dL_isClosed_94 (by decide) ?_
                      refine walI (j := 2) hx hb hK hW (hMs 66 (by decide) (by decide)) (nlit 2) (by omega) (by decide) dL_isClosed_95 (fun x95' e95' => ?_)
                      have n95' : x95' = nI (σ.2 4 0) := (e95'.trans hL.2.2.2.2.2.2.2.2.1)
                      refine lv_imul hx hb dL_isClosed_96 ?_
                      refine lv_topi (fun x96' e96' => ?_)
                      refine lv_icmp_ne (tgt := 146) hx hb dL_isClosed_97 (by decide) (fun c97' => ?_) (fun c97' => ?_)
                      · exact ((c97' (by rw [r86, e96', e92', n95', ebt, exc]; unfold burI; rw [hbt]))).elim
                      · refine lv_aload_n hx hb dL_isClosed_100 rfl (lv_at hl 6 rfl) ?_
                        refine lv_iload hx hb dL_isClosed_101 (lv_at hl 2 rfl) ?_
                        refine wc_wiN (vx_runSW (As := [.ref (ad 0), .int xk]) (rest := []) ⟨hx, hb, hml, hown, hts⟩ (c_L_becomes l hl9 D cA sh ad M86' _ σ v hX hXX xk q c hs ) (vx_cwSW 2 hts gL_isClosed_L_becomes rfl rfl rfl (by decide +kernel) ⟨Nat.le_of_ble_eq_true rfl, Nat.le_of_ble_eq_true rfl⟩) (lpreS hK hA hW hE hZ hE2) rfl rfl hl.1 rfl (lv_room (Nat.le_of_ble_eq_true rfl)) dL_isClosed_103 ⟨(by show 200 * bt + 5 * k + 1 + 1 + 1 ≤ 20200; omega), (by show 1200 * bt + 30 * k + 6 + 6 + 6 ≤ 121200; omega)⟩) hA hW (fun x103' M103' H locs p103' hW => ?_)
                        try dsimp only at p103'
                        obtain ⟨kp103, hXX, r103⟩ := p103'
                        have hL := hL.kp kp103
                        rw [ifB_t hcu, n1k] at r103
                        refine lv_iconst (v := 2) hx hb dL_isClosed_106 (by decide) ?_
                        have J115 : ∀ (y2 : Int32) (H : Heap) (locs : List Loc), (y2 = bI (decide (nI (fateA σ q c k) = 2))) → WS D cA sh ad A s.heap M103' H locs → ∀ ls, lv_has ls 9 [(7, .int x75'), (6, .int x55'), (8, .int xk), (5, .int xb), (4, .int 1), (3, .int xc), (0, .ref (ad 0)), (1, .ref (ad 60)), (2, .ref (ad 66))] → W p l e (headSpec wsL_isClosed { frames := 10, cells := 20200, slots := 121200, locals := 176 }).room s m ([.ref (ad 0), .ref (ad 60), .ref (ad 66)] : List Value).toArray below meth cd0 H locs (200 * bt + 5 * k + 1 + 1 + 1) (1200 * bt + 30 * k + 6 + 6 + 6) (MQ below (wQi D cA sh ad (fun r M' => r = 1 ∧ XX σ v M' ∧ LSt σ v M') A) ([.ref (ad 0), .ref (ad 60), .ref (ad 66)] : List Value).toArray s 20200 121200 A) (F0 m 115 ls [.int y2]) := by
                          intro y2 H locs hy2 hW ls hl
                          refine lv_aload_n hx hb dL_isClosed_115 rfl (lv_at hl 6 rfl) ?_
                          refine lv_iload hx hb dL_isClosed_116 (lv_at hl 2 rfl) ?_
                          refine wc_wiN (vx_runSW (As := [.ref (ad 0), .int xk]) (rest := [.int y2]) ⟨hx, hb, hml, hown, hts⟩ (c_L_fires l hl9 D cA sh ad M103' _ σ v hX hXX xk ) (vx_cwSW 2 hts gL_isClosed_L_fires rfl rfl rfl (by decide +kernel) ⟨Nat.le_of_ble_eq_true rfl, Nat.le_of_ble_eq_true rfl⟩) (lpreS hK hA hW hE hZ hE2) rfl rfl hl.1 rfl (lv_room (Nat.le_of_ble_eq_true rfl)) dL_isClosed_118 ⟨(by show 200 * bt + 5 * k + 1 + 1 + 1 + 1 ≤ 20200; omega), (by show 1200 * bt + 30 * k + 6 + 6 + 6 + 6 ≤ 121200; omega)⟩) hA hW (fun x118' M118' H locs p118' hW => ?_)
                          try dsimp only at p118'
                          obtain ⟨kp118, hXX, r118⟩ := p118'
                          have hL := hL.kp kp118
                          rw [ifB_t hcu, n1k] at r118
                          have J139 : ∀ (y3 : Int32) (Mj : MS) (H : Heap) (locs : List Loc), (y3 = bI (decide (tkI σ k < 0 ∧ ¬ nI (fateA σ q c k) = 1))) → (XX σ v Mj) → (LSt σ v Mj) → WS D cA sh ad A s.heap Mj H locs → ∀ ls, lv_has ls 9 [(7, .int x75'), (6, .int x55'), (8, .int xk), (5, .int xb), (4, .int 1), (3, .int xc), (0, .ref (ad 0)), (1, .ref (ad 60)), (2, .ref (ad 66))] → W p l e (headSpec wsL_isClosed { frames := 10, cells := 20200, slots := 121200, locals := 176 }).room s m ([.ref (ad 0), .ref (ad 60), .ref (ad 66)] : List Value).toArray below meth cd0 H locs (200 * bt + 5 * k + 5) (1200 * bt + 30 * k + 30) (MQ below (wQi D cA sh ad (fun r M' => r = 1 ∧ XX σ v M' ∧ LSt σ v M') A) ([.ref (ad 0), .ref (ad 60), .ref (ad 66)] : List Value).toArray s 20200 121200 A) (F0 m 139 ls [.int y3, .int y2]) := by
                            intro y3 Mj H locs hy3 hXX hL hW ls hl
                            refine lv_icmp_ne (tgt := 146) hx hb dL_isClosed_139 (by decide) (fun c139' => ?_) (fun c139' => ?_)
                            · exact ((c139' (by rw [hy2, hy3]; congr 1; exact decide_eq_decide.mpr (fa_early hs hk9 (by omega) hg)))).elim
                            · refine lv_iconst (v := 1) hx hb dL_isClosed_142 (by decide) ?_
                              refine lv_goto (tgt := 147) hx hb dL_isClosed_143 (by decide) ?_
                              refine lv_istore (lv' := [(4, .int 1), (7, .int x75'), (6, .int x55'), (8, .int xk), (5, .int xb), (3, .int xc), (0, .ref (ad 0)), (1, .ref (ad 60)), (2, .ref (ad 66))]) hx hb dL_isClosed_147 hl (by decide) rfl (fun ls hl => ?_)
                              obtain ⟨x149', e149'⟩ : ∃ y : Int32, y = xk + 1 := ⟨_, rfl⟩
                              refine lv_iinc (v := x149') (lv' := [(8, .int x149'), (4, .int 1), (7, .int x75'), (6, .int x55'), (5, .int xb), (3, .int xc), (0, .ref (ad 0)), (1, .ref (ad 60)), (2, .ref (ad 66))]) hx hb dL_isClosed_149 hl (k := 3) rfl (by rw [e149']; rfl) (by decide) rfl (fun ls hl => ?_)
                              refine lv_goto (tgt := 24) hx hb dL_isClosed_152 (by decide) ?_
                              refine W.widen (k := 200 * bt + 5 * (k + 1)) (n := 1200 * bt + 30 * (k + 1)) (by omega) (by omega) ?_
                              exact ih24 (k + 1) x149' x75' x55' Mj _ _ (by omega) (by omega) (by rw [e149', ek, nlit 1, nI_add]) (by first | exact ct_f eh hpf | (rw [e55']; exact ct_t eh hpb)) (by first | exact ct_f es hsf | (rw [e75', hyb, ← hps]; exact ct_b es)) hXX hL hW ls (lv_sub hl [0, 2, 3, 4, 1, 5, 6, 7, 8] rfl)
                          refine lv_if_ge (tgt := 138) hx hb dL_isClosed_121 (by decide) (fun c121' => ?_) (fun c121' => ?_)
                          · refine lv_iconst (v := 0) hx hb dL_isClosed_138 (by decide) ?_
                            refine W.widen (k := (200 * bt + 5 * k + 5)) (n := (1200 * bt + 30 * k + 30)) (by omega) (by omega) ?_
                            exact J139 0 M118' _ _ (by
                                first
                                | exact bI_ff (decide_eq_false (fun z9 => by rw [r118, i32le] at c121'; rw [i32lt] at z9; omega))
                                | exact bI_ff (decide_eq_false (fun z9 => z9.2 (r127.symm.trans c131')))
                                | exact bI_tt (decide_eq_true ⟨by rw [r118, i32le] at c121'; rw [i32lt]; omega, fun z9 => c131' (r127.trans z9)⟩)) hXX hL hW ls (lv_sub hl [0, 1, 2, 3, 4, 5, 6, 7, 8] rfl)
                          · refine lv_aload_n hx hb dL_isClosed_124 rfl (lv_at hl 6 rfl) ?_
                            refine lv_iload hx hb dL_isClosed_125 (lv_at hl 2 rfl) ?_
                            refine wc_wiN (vx_runSW (As := [.ref (ad 0), .int xk]) (rest := [.int y2]) ⟨hx, hb, hml, hown, hts⟩ (c_L_becomes l hl9 D cA sh ad M118' _ σ v hX hXX xk q c hs ) (vx_cwSW 2 hts gL_isClosed_L_becomes rfl rfl rfl (by decide +kernel) ⟨Nat.le_of_ble_eq_true rfl, Nat.le_of_ble_eq_true rfl⟩) (lpreS hK hA hW hE hZ hE2) rfl rfl hl.1 rfl (lv_room (Nat.le_of_ble_eq_true rfl)) dL_isClosed_127 ⟨(by show 200 * bt + 5 * k + 1 + 1 + 1 + 1 + 1 ≤ 20200; omega), (by show 1200 * bt + 30 * k + 6 + 6 + 6 + 6 + 6 ≤ 121200; omega)⟩) hA hW (fun x127' M127' H locs p127' hW => ?_)
                            try dsimp only at p127'
                            obtain ⟨kp127, hXX, r127⟩ := p127'
                            have hL := hL.kp kp127
                            rw [ifB_t hcu, n1k] at r127
                            refine lv_iconst (v := 1) hx hb dL_isClosed_130 (by decide) ?_
                            refine lv_icmp_eq (tgt := 138) hx hb dL_isClosed_131 (by decide) (fun c131' => ?_) (fun c131' => ?_)
                            · refine lv_iconst (v := 0) hx hb dL_isClosed_138 (by decide) ?_
                              refine W.widen (k := (200 * bt + 5 * k + 5)) (n := (1200 * bt + 30 * k + 30)) (by omega) (by omega) ?_
                              exact J139 0 M127' _ _ (by
                                  first
                                  | exact bI_ff (decide_eq_false (fun z9 => by rw [r118, i32le] at c121'; rw [i32lt] at z9; omega))
                                  | exact bI_ff (decide_eq_false (fun z9 => z9.2 (r127.symm.trans c131')))
                                  | exact bI_tt (decide_eq_true ⟨by rw [r118, i32le] at c121'; rw [i32lt]; omega, fun z9 => c131' (r127.trans z9)⟩)) hXX hL hW ls (lv_sub hl [0, 1, 2, 3, 4, 5, 6, 7, 8] rfl)
                            · refine lv_iconst (v := 1) hx hb dL_isClosed_134 (by decide) ?_
                              refine lv_goto (tgt := 139) hx hb dL_isClosed_135 (by decide) ?_
                              refine W.widen (k := (200 * bt + 5 * k + 5)) (n := (1200 * bt + 30 * k + 30)) (by omega) (by omega) ?_
                              exact J139 1 M127' _ _ (by
                                  first
                                  | exact bI_ff (decide_eq_false (fun z9 => by rw [r118, i32le] at c121'; rw [i32lt] at z9; omega))
                                  | exact bI_ff (decide_eq_false (fun z9 => z9.2 (r127.symm.trans c131')))
                                  | exact bI_tt (decide_eq_true ⟨by rw [r118, i32le] at c121'; rw [i32lt]; omega, fun z9 => c131' (r127.trans z9)⟩)) hXX hL hW ls (lv_sub hl [0, 1, 2, 3, 4, 5, 6, 7, 8] rfl)
                        refine lv_icmp_ne (tgt := 114) hx hb dL_isClosed_107 (by decide) (fun c107' => ?_) (fun c107' => ?_)
                        · refine lv_iconst (v := 0) hx hb dL_isClosed_114 (by decide) ?_
                          exact J115 0 _ _ (by
                              first
                              | exact bI_tt (decide_eq_true (r103.symm.trans c107'))
                              | exact bI_ff (decide_eq_false (fun z9 => c107' (r103.trans z9)))) hW ls (lv_sub hl [0, 1, 2, 3, 4, 5, 6, 7, 8] rfl)
                        · refine lv_iconst (v := 1) hx hb dL_isClosed_110 (by decide) ?_
                          refine lv_goto (tgt := 115) hx hb dL_isClosed_111 (by decide) ?_
                          exact J115 1 _ _ (by
                              first
                              | exact bI_tt (decide_eq_true (r103.symm.trans c107'))
                              | exact bI_ff (decide_eq_false (fun z9 => c107' (r103.trans z9)))) hW ls (lv_sub hl [0, 1, 2, 3, 4, 5, 6, 7, 8] rfl)
                  refine lv_icmp_ne (tgt := 74) hx hb dL_isClosed_67 (by decide) (fun c67' => ?_) (fun c67' => ?_)
                  · refine lv_iconst (v := 0) hx hb dL_isClosed_74 (by decide) ?_
                    exact J75 0 _ _ (by
                        first
                        | exact bI_tt ((fa_stk hs (by omega)).mp (r63.symm.trans c67'))
                        | exact bI_ff (by
                            cases hz : stkB σ k with
                            | false => rfl
                            | true => exact absurd (r63.trans ((fa_stk hs (by omega)).mpr hz)) c67')) hW ls (lv_sub hl [0, 1, 2, 3, 4, 5, 6, 7, 8] rfl)
                  · refine lv_iconst (v := 1) hx hb dL_isClosed_70 (by decide) ?_
                    refine lv_goto (tgt := 75) hx hb dL_isClosed_71 (by decide) ?_
                    exact J75 1 _ _ (by
                        first
                        | exact bI_tt ((fa_stk hs (by omega)).mp (r63.symm.trans c67'))
                        | exact bI_ff (by
                            cases hz : stkB σ k with
                            | false => rfl
                            | true => exact absurd (r63.trans ((fa_stk hs (by omega)).mpr hz)) c67')) hW ls (lv_sub hl [0, 1, 2, 3, 4, 5, 6, 7, 8] rfl)
        exact L24 (_ + 1) 0 0 0 0 Mb _ _ (Nat.lt_succ_self _) (Nat.zero_le _) rfl rfl rfl hXX hL hW ls (lv_sub hl [0, 1, 2, 3, 4, 5, 6, 7, 8] rfl)
  exact L8 (_ + 1) 0 0 0 M _ _ (Nat.lt_succ_self _) (Nat.zero_le _) rfl rfl hXX hL hW ls (lv_sub hl [0, 1, 2, 3, 4, 5] rfl)

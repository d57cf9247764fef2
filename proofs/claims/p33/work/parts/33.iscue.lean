/-! isCue. -/
set_option maxHeartbeats 4000000 in
set_option maxRecDepth 100000 in
theorem c_L_isCue (l : Launch) (hl9 : l.stackTraces = false) (D : va_G) (cA : Nat → ClassId) (sh : Nat → Option Sh) (ad : Nat → Nat) (M : MS) (sz : Nat) (σ : AS) (v : VT) (hX : XSh (aN σ) sh) (hXX : XX σ v M) (hMs : LSh sh) (hL : LSt σ v M) (q : Nat → Nat) (c : Nat) (hs : Srt σ 40 q c) (i : Nat) (hi : i ≤ aN σ) (xi : Int32) (ei : xi = nI i) : Met l yL_isCue wsL_isCue ({ frames := 10, cells := 40, slots := 240, locals := 177 }) (lPc D cA sh ad M sz [.ref (ad 0), .ref (ad 60), .ref (ad 61), .ref (ad 62), .ref (ad 66), .int xi]) (wQi D cA sh ad (fun r M' => r = 1 ∧ XX σ v M' ∧ LSt σ v M') (wA sh ad sz)) 40 240 (wA sh ad sz) := by
  refine Met.ofW (cc := cL_isCue) (maxL := 15) (ret := (some .boolean)) (by decide) rfl ?_
  intro p e s m args below meth cd0 s₁ B hml hv
  obtain ⟨rfl, hsz, hM, hK, hE, hZ, hE2⟩ := hv
  have hx := B.exec
  have hb := B.bytes
  have hr := B.returns
  have hts := atoms_spec (ws := wsL_isCue) B.pre
  have hown : s.vm.findClass RL = some m.cls := findClass_of_methodNamed B.named
  have hlocks := B.notSynchronized
  subst hsz
  have hA := wA_PA sh ad s.heap
  generalize wA sh ad s.heap.size = A at hA hZ ⊢
  have hW : WS D cA sh ad A s.heap M s.heap [] := ⟨hM, va_S.rf⟩
  have hl := lv_entry ([.ref (ad 0), .ref (ad 60), .ref (ad 61), .ref (ad 62), .ref (ad 66), .int xi]) (n := 15) (Nat.le_of_ble_eq_true rfl)
  rw [lg_entry_eq]
  generalize (lg_sl ([.ref (ad 0), .ref (ad 60), .ref (ad 61), .ref (ad 62), .ref (ad 66), .int xi]) ++ List.replicate (15 - (lg_sl ([.ref (ad 0), .ref (ad 60), .ref (ad 61), .ref (ad 62), .ref (ad 66), .int xi])).length) Slot.unset).toArray = ls at hl ⊢
  have hl : lv_has ls 15 [(0, .ref (ad 0)), (1, .ref (ad 60)), (2, .ref (ad 61)), (3, .ref (ad 62)), (4, .ref (ad 66)), (5, .int xi)] := hl
  obtain ⟨ok, -⟩ := id hXX
  have o1 := ok.1
  have n1i : n1 xi = i := n1e ei (by omega)
  refine lv_iload hx hb dL_isCue_0 (lv_at hl 5 rfl) ?_
  refine lv_if_lt (tgt := 24) hx hb dL_isCue_2 (by decide) (fun c2' => ?_) (fun c2' => ?_)
  · have k2' : i < 0 := kc_lt ei (nlit 0) (by omega) (by omega) c2'
    exact ((show False from by omega)).elim
  · have k2' : ¬ i < 0 := kc_ltn ei (nlit 0) (by omega) (by omega) c2'
    refine lv_iload hx hb dL_isCue_5 (lv_at hl 5 rfl) ?_
    refine lv_aload hx hb dL_isCue_7 (lv_at hl 4 rfl) ?_
    refine lv_iconst (v := 0) hx hb dL_isCue_9 (by decide) ?_
    refine walI (j := 0) hx hb hK hW (hMs 66 (by decide) (by decide)) (nlit 0) (by omega) (by decide) dL_isCue_10 (fun x10' e10' => ?_)
    have n10' : x10' = nI (aN σ) := (e10'.trans hL.2.2.2.2.2.2.1)
    refine lv_icmp_ge (tgt := 24) hx hb dL_isCue_11 (by decide) (fun c11' => ?_) (fun c11' => ?_)
    · have k11' : (aN σ) ≤ i := kc_ge ei n10' (by omega) (by omega) c11'
      have hcu : cuB σ xi = false := cu_n o1 ei (by omega) (by omega)
      refine lv_aload_n hx hb dL_isCue_24 rfl (lv_at hl 0 rfl) ?_
      refine lv_iload hx hb dL_isCue_25 (lv_at hl 5 rfl) ?_
      refine wc_wiN (vx_runSW (As := [.ref (ad 0), .int xi]) (rest := []) ⟨hx, hb, hml, hown, hts⟩ (c_L_becomes l hl9 D cA sh ad M _ σ v hX hXX xi q c hs ) (vx_cwSW 2 hts gL_isCue_L_becomes rfl rfl rfl (by decide +kernel) ⟨Nat.le_of_ble_eq_true rfl, Nat.le_of_ble_eq_true rfl⟩) (lpreS hK hA hW hE hZ hE2) rfl rfl hl.1 rfl (lv_room (Nat.le_of_ble_eq_true rfl)) dL_isCue_27 ⟨Nat.le_of_ble_eq_true rfl, Nat.le_of_ble_eq_true rfl⟩) hA hW (fun x27' M27' H locs p27' hW => ?_)
      try dsimp only at p27'
      obtain ⟨kp27, hXX, r27⟩ := p27'
      have hL := hL.kp kp27
      rw [ifB_f hcu] at r27
      refine lv_ldc (v := (-1000001)) hx hb hown (hts (.constant RL 51 (-1000001)) (List.mem_of_getElem? (i := 1) rfl)) dL_isCue_30 ?_
      refine lv_icmp_ne (tgt := 135) hx hb dL_isCue_32 (by decide) (fun c32' => ?_) (fun c32' => ?_)
      · exact ((c32' r27)).elim
      · refine lv_aload_n hx hb dL_isCue_35 rfl (lv_at hl 0 rfl) ?_
        refine lv_iload hx hb dL_isCue_36 (lv_at hl 5 rfl) ?_
        refine wc_wiN (vx_runSW (As := [.ref (ad 0), .int xi]) (rest := []) ⟨hx, hb, hml, hown, hts⟩ (c_L_bursts l hl9 D cA sh ad M27' _ σ v hX hXX xi ) (vx_cwSW 2 hts gL_isCue_L_bursts rfl rfl rfl (by decide +kernel) ⟨Nat.le_of_ble_eq_true rfl, Nat.le_of_ble_eq_true rfl⟩) (lpreS hK hA hW hE hZ hE2) rfl rfl hl.1 rfl (lv_room (Nat.le_of_ble_eq_true rfl)) dL_isCue_38 ⟨Nat.le_of_ble_eq_true rfl, Nat.le_of_ble_eq_true rfl⟩) hA hW (fun x38' M38' H locs p38' hW => ?_)
        try dsimp only at p38'
        obtain ⟨kp38, hXX, r38⟩ := p38'
        have hL := hL.kp kp38
        rw [ifB_f hcu] at r38
        refine lv_ldc (v := (-1000001)) hx hb hown (hts (.constant RL 51 (-1000001)) (List.mem_of_getElem? (i := 1) rfl)) dL_isCue_41 ?_
        refine lv_icmp_ne (tgt := 135) hx hb dL_isCue_43 (by decide) (fun c43' => ?_) (fun c43' => ?_)
        · exact ((c43' r38)).elim
        · refine lv_aload_n hx hb dL_isCue_46 rfl (lv_at hl 0 rfl) ?_
          refine lv_iload hx hb dL_isCue_47 (lv_at hl 5 rfl) ?_
          refine wc_wiN (vx_runSW (As := [.ref (ad 0), .int xi]) (rest := []) ⟨hx, hb, hml, hown, hts⟩ (c_L_fires l hl9 D cA sh ad M38' _ σ v hX hXX xi ) (vx_cwSW 2 hts gL_isCue_L_fires rfl rfl rfl (by decide +kernel) ⟨Nat.le_of_ble_eq_true rfl, Nat.le_of_ble_eq_true rfl⟩) (lpreS hK hA hW hE hZ hE2) rfl rfl hl.1 rfl (lv_room (Nat.le_of_ble_eq_true rfl)) dL_isCue_49 ⟨Nat.le_of_ble_eq_true rfl, Nat.le_of_ble_eq_true rfl⟩) hA hW (fun x49' M49' H locs p49' hW => ?_)
          try dsimp only at p49'
          obtain ⟨kp49, hXX, r49⟩ := p49'
          have hL := hL.kp kp49
          rw [ifB_f hcu] at r49
          refine lv_ldc (v := (-1000001)) hx hb hown (hts (.constant RL 51 (-1000001)) (List.mem_of_getElem? (i := 1) rfl)) dL_isCue_52 ?_
          refine lv_icmp_ne (tgt := 135) hx hb dL_isCue_54 (by decide) (fun c54' => ?_) (fun c54' => ?_)
          · exact ((c54' r49)).elim
          · refine lv_aload_n hx hb dL_isCue_57 rfl (lv_at hl 0 rfl) ?_
            refine lv_iload hx hb dL_isCue_58 (lv_at hl 5 rfl) ?_
            refine lv_bipush (v := 9) hx hb dL_isCue_60 (by decide) ?_
            refine wc_wiN (vx_runSW (As := [.ref (ad 0), .int xi, .int 9]) (rest := []) ⟨hx, hb, hml, hown, hts⟩ (c_L_falls l hl9 D cA sh ad M49' _ σ v hX hXX xi 9 ) (vx_cwSW 3 hts gL_isCue_L_falls rfl rfl rfl (by decide +kernel) ⟨Nat.le_of_ble_eq_true rfl, Nat.le_of_ble_eq_true rfl⟩) (lpreS hK hA hW hE hZ hE2) rfl rfl hl.1 rfl (lv_room (Nat.le_of_ble_eq_true rfl)) dL_isCue_62 ⟨Nat.le_of_ble_eq_true rfl, Nat.le_of_ble_eq_true rfl⟩) hA hW (fun x62' M62' H locs p62' hW => ?_)
            try dsimp only at p62'
            obtain ⟨kp62, hXX, r62⟩ := p62'
            have hL := hL.kp kp62
            rw [ifB_f hcu] at r62
            refine lv_ldc (v := (-1000001)) hx hb hown (hts (.constant RL 51 (-1000001)) (List.mem_of_getElem? (i := 1) rfl)) dL_isCue_65 ?_
            refine lv_icmp_ne (tgt := 135) hx hb dL_isCue_67 (by decide) (fun c67' => ?_) (fun c67' => ?_)
            · exact ((c67' r62)).elim
            · refine lv_aload_n hx hb dL_isCue_70 rfl (lv_at hl 0 rfl) ?_
              refine lv_iload hx hb dL_isCue_71 (lv_at hl 5 rfl) ?_
              refine lv_bipush (v := 9) hx hb dL_isCue_73 (by decide) ?_
              refine wc_wiN (vx_runSW (As := [.ref (ad 0), .int xi, .int 9]) (rest := []) ⟨hx, hb, hml, hown, hts⟩ (c_L_fallsBySteps l hl9 D cA sh ad M62' _ σ v hX hXX xi 9 ) (vx_cwSW 3 hts gL_isCue_L_fallsBySteps rfl rfl rfl (by decide +kernel) ⟨Nat.le_of_ble_eq_true rfl, Nat.le_of_ble_eq_true rfl⟩) (lpreS hK hA hW hE hZ hE2) rfl rfl hl.1 rfl (lv_room (Nat.le_of_ble_eq_true rfl)) dL_isCue_75 ⟨Nat.le_of_ble_eq_true rfl, Nat.le_of_ble_eq_true rfl⟩) hA hW (fun x75' M75' H locs p75' hW => ?_)
              try dsimp only at p75'
              obtain ⟨kp75, hXX, r75⟩ := p75'
              have hL := hL.kp kp75
              rw [ifB_f hcu] at r75
              refine lv_ldc (v := (-1000001)) hx hb hown (hts (.constant RL 51 (-1000001)) (List.mem_of_getElem? (i := 1) rfl)) dL_isCue_78 ?_
              refine lv_icmp_ne (tgt := 135) hx hb dL_isCue_80 (by decide) (fun c80' => ?_) (fun c80' => ?_)
              · exact ((c80' r75)).elim
              · refine lv_aload_n hx hb dL_isCue_83 rfl (lv_at hl 0 rfl) ?_
                refine lv_iload hx hb dL_isCue_84 (lv_at hl 5 rfl) ?_
                refine lv_bipush (v := 9) hx hb dL_isCue_86 (by decide) ?_
                refine wc_wiN (vx_runSW (As := [.ref (ad 0), .int xi, .int 9]) (rest := []) ⟨hx, hb, hml, hown, hts⟩ (c_L_burstAt l hl9 D cA sh ad M75' _ σ v hX hXX xi 9 ) (vx_cwSW 3 hts gL_isCue_L_burstAt rfl rfl rfl (by decide +kernel) ⟨Nat.le_of_ble_eq_true rfl, Nat.le_of_ble_eq_true rfl⟩) (lpreS hK hA hW hE hZ hE2) rfl rfl hl.1 rfl (lv_room (Nat.le_of_ble_eq_true rfl)) dL_isCue_88 ⟨Nat.le_of_ble_eq_true rfl, Nat.le_of_ble_eq_true rfl⟩) hA hW (fun x88' M88' H locs p88' hW => ?_)
                try dsimp only at p88'
                obtain ⟨kp88, hXX, r88⟩ := p88'
                have hL := hL.kp kp88
                rw [ifB_f hcu] at r88
                refine lv_ldc (v := (-1000001)) hx hb hown (hts (.constant RL 51 (-1000001)) (List.mem_of_getElem? (i := 1) rfl)) dL_isCue_91 ?_
                refine lv_icmp_ne (tgt := 135) hx hb dL_isCue_93 (by decide) (fun c93' => ?_) (fun c93' => ?_)
                · exact ((c93' r88)).elim
                · refine lv_aload_n hx hb dL_isCue_96 rfl (lv_at hl 0 rfl) ?_
                  refine lv_iload hx hb dL_isCue_97 (lv_at hl 5 rfl) ?_
                  refine wc_wlN (vx_runSW (As := [.ref (ad 0), .int xi]) (rest := []) ⟨hx, hb, hml, hown, hts⟩ (c_L_danger l hl9 D cA sh ad M88' _ σ v hX hXX xi ) (vx_cwSW 2 hts gL_isCue_L_danger rfl rfl rfl (by decide +kernel) ⟨Nat.le_of_ble_eq_true rfl, Nat.le_of_ble_eq_true rfl⟩) (lpreS hK hA hW hE hZ hE2) rfl rfl hl.1 rfl (lv_room (Nat.le_of_ble_eq_true rfl)) dL_isCue_99 ⟨Nat.le_of_ble_eq_true rfl, Nat.le_of_ble_eq_true rfl⟩) hA hW (fun x99' M99' H locs p99' hW => ?_)
                  try dsimp only at p99'
                  obtain ⟨kp99, hXX, r99⟩ := p99'
                  have hL := hL.kp kp99
                  have r99 := or_no r99 hcu
                  refine lv_ldc2 (v := (-1000001)) hx hb hown (hts (.constantLong RL 99 (-1000001)) (List.mem_of_getElem? (i := 2) rfl)) dL_isCue_102 ?_
                  refine W.lcmp hx hb dL_isCue_105 ?_
                  refine lv_topi (fun x105' e105' => ?_)
                  refine lv_if_ne (tgt := 135) hx hb dL_isCue_106 (by decide) (fun c106' => ?_) (fun c106' => ?_)
                  · exact ((c106' (by rw [e105', r99]; exact lg_self _))).elim
                  · refine lv_aload_n hx hb dL_isCue_109 rfl (lv_at hl 0 rfl) ?_
                    refine lv_iload hx hb dL_isCue_110 (lv_at hl 5 rfl) ?_
                    refine wc_wiN (vx_runSW (As := [.ref (ad 0), .int xi]) (rest := []) ⟨hx, hb, hml, hown, hts⟩ (c_L_channelOf l hl9 D cA sh ad M99' _ σ v hX hXX xi q c hs ) (vx_cwSW 2 hts gL_isCue_L_channelOf rfl rfl rfl (by decide +kernel) ⟨Nat.le_of_ble_eq_true rfl, Nat.le_of_ble_eq_true rfl⟩) (lpreS hK hA hW hE hZ hE2) rfl rfl hl.1 rfl (lv_room (Nat.le_of_ble_eq_true rfl)) dL_isCue_112 ⟨Nat.le_of_ble_eq_true rfl, Nat.le_of_ble_eq_true rfl⟩) hA hW (fun x112' M112' H locs p112' hW => ?_)
                    try dsimp only at p112'
                    obtain ⟨kp112, hXX, r112⟩ := p112'
                    have hL := hL.kp kp112
                    rw [ifB_f hcu] at r112
                    refine lv_ldc (v := (-1000001)) hx hb hown (hts (.constant RL 51 (-1000001)) (List.mem_of_getElem? (i := 1) rfl)) dL_isCue_115 ?_
                    refine lv_icmp_ne (tgt := 135) hx hb dL_isCue_117 (by decide) (fun c117' => ?_) (fun c117' => ?_)
                    · exact ((c117' r112)).elim
                    · refine lv_aload_n hx hb dL_isCue_120 rfl (lv_at hl 0 rfl) ?_
                      refine lv_iload hx hb dL_isCue_121 (lv_at hl 5 rfl) ?_
                      refine wc_wiN (vx_runSW (As := [.ref (ad 0), .int xi]) (rest := []) ⟨hx, hb, hml, hown, hts⟩ (c_L_price l hl9 D cA sh ad M112' _ σ v hX hXX xi q c hs ) (vx_cwSW 2 hts gL_isCue_L_price rfl rfl rfl (by decide +kernel) ⟨Nat.le_of_ble_eq_true rfl, Nat.le_of_ble_eq_true rfl⟩) (lpreS hK hA hW hE hZ hE2) rfl rfl hl.1 rfl (lv_room (Nat.le_of_ble_eq_true rfl)) dL_isCue_123 ⟨Nat.le_of_ble_eq_true rfl, Nat.le_of_ble_eq_true rfl⟩) hA hW (fun x123' M123' H locs p123' hW => ?_)
                      try dsimp only at p123'
                      obtain ⟨kp123, hXX, r123⟩ := p123'
                      have hL := hL.kp kp123
                      rw [ifB_f hcu] at r123
                      refine lv_ldc (v := (-1000001)) hx hb hown (hts (.constant RL 51 (-1000001)) (List.mem_of_getElem? (i := 1) rfl)) dL_isCue_126 ?_
                      refine lv_icmp_ne (tgt := 135) hx hb dL_isCue_128 (by decide) (fun c128' => ?_) (fun c128' => ?_)
                      · exact ((c128' r123)).elim
                      · refine lv_iconst (v := 1) hx hb dL_isCue_131 (by decide) ?_
                        refine lv_goto (tgt := 136) hx hb dL_isCue_132 (by decide) ?_
                        refine W.widen (k := 40) (n := 240) (by decide) (by decide) ?_
                        exact wr_wz hx hb hr hlocks hW dL_isCue_136 rfl ⟨rfl, hXX, hL⟩
    · have k11' : ¬ (aN σ) ≤ i := kc_gen ei n10' (by omega) (by omega) c11'
      have hcc := cc_lt ok (show i < aN σ by omega)
      have hbb := cc_b ok (show i < aN σ by omega)
      refine lv_aload_n hx hb dL_isCue_14 rfl (lv_at hl 1 rfl) ?_
      refine lv_iload hx hb dL_isCue_15 (lv_at hl 5 rfl) ?_
      refine walI (j := i) hx hb hK hW (hMs 60 (by decide) (by decide)) ei (by omega) (by decide) dL_isCue_17 (fun x17' e17' => ?_)
      have n17' : x17' = nI (ccN σ i) := (e17'.trans (hL.1 i (by omega)))
      refine lv_sipush (v := 4095) hx hb dL_isCue_18 (by decide) ?_
      refine lv_icmp_le (tgt := 137) hx hb dL_isCue_21 (by decide) (fun c21' => ?_) (fun c21' => ?_)
      · have k21' : (ccN σ i) ≤ 4095 := kc_le n17' (nlit 4095) (by omega) (by omega) c21'
        have hg : σ.2 10 i = 0 := hcc.2.1.mp (by omega)
        have hi9 : i < aN σ := by omega
        have hcu : cuB σ xi = true := cu_y ei hi9 hg
        obtain ⟨⟨hf1, hf2⟩, hf3, hf4⟩ := fal_bd ok hi9
        have hdd := dd_lt ok hbb.2.1
        refine lv_aload_n hx hb dL_isCue_137 rfl (lv_at hl 1 rfl) ?_
        refine lv_iload hx hb dL_isCue_138 (lv_at hl 5 rfl) ?_
        refine walI (j := i) hx hb hK hW (hMs 60 (by decide) (by decide)) ei (by omega) (by decide) dL_isCue_140 (fun x140' e140' => ?_)
        have n140' : x140' = nI (ccN σ i) := (e140'.trans (hL.1 i (by omega)))
        refine lv_sipush (v := 128) hx hb dL_isCue_141 (by decide) ?_
        refine lv_idiv hx hb dL_isCue_144 (by decide) ?_
        refine lv_topi (fun x144' e144' => ?_)
        have n144' : x144' = nI ((ccN σ i) / 128) := (by rw [e144', n140', (nlit 128)]; exact pk_div (by omega) (by omega) (by omega))
        refine lv_iconst (v := 4) hx hb dL_isCue_145 (by decide) ?_
        refine lv_irem hx hb dL_isCue_146 (by decide) ?_
        refine lv_topi (fun x146' e146' => ?_)
        have n146' : x146' = nI (((ccN σ i) / 128) % 4) := (by rw [e146', n144', (nlit 4)]; exact pk_rem (by omega) (by omega) (by omega))
        refine lv_istore (lv' := [(6, .int x146'), (0, .ref (ad 0)), (1, .ref (ad 60)), (2, .ref (ad 61)), (3, .ref (ad 62)), (4, .ref (ad 66)), (5, .int xi)]) hx hb dL_isCue_147 hl (by decide) rfl (fun ls hl => ?_)
        refine lv_aload_n hx hb dL_isCue_149 rfl (lv_at hl 3 rfl) ?_
        refine lv_iload hx hb dL_isCue_150 (lv_at hl 0 rfl) ?_
        refine walI (j := (σ.2 8 i)) hx hb hK hW (hMs 61 (by decide) (by decide)) (n146'.trans (by rw [hcc.2.2.2])) (by omega) (by decide) dL_isCue_152 (fun x152' e152' => ?_)
        have n152' : x152' = nI (ddN σ (σ.2 8 i)) := (e152'.trans (hL.2.1 _ hbb.2.1))
        refine lv_bipush (v := 32) hx hb dL_isCue_153 (by decide) ?_
        refine lv_idiv hx hb dL_isCue_155 (by decide) ?_
        refine lv_topi (fun x155' e155' => ?_)
        have n155' : x155' = nI ((ddN σ (σ.2 8 i)) / 32) := (by rw [e155', n152', (nlit 32)]; exact pk_div (by omega) (by omega) (by omega))
        refine lv_istore (lv' := [(7, .int x155'), (6, .int x146'), (0, .ref (ad 0)), (1, .ref (ad 60)), (2, .ref (ad 61)), (3, .ref (ad 62)), (4, .ref (ad 66)), (5, .int xi)]) hx hb dL_isCue_156 hl (by decide) rfl (fun ls hl => ?_)
        refine lv_aload_n hx hb dL_isCue_158 rfl (lv_at hl 2 rfl) ?_
        refine lv_iload hx hb dL_isCue_159 (lv_at hl 7 rfl) ?_
        refine lv_iconst (v := 2) hx hb dL_isCue_161 (by decide) ?_
        refine wc_wiN (vx_runSW (As := [.ref (ad 0), .int xi, .int 2]) (rest := []) ⟨hx, hb, hml, hown, hts⟩ (c_L_falls l hl9 D cA sh ad M _ σ v hX hXX xi 2 ) (vx_cwSW 3 hts gL_isCue_L_falls rfl rfl rfl (by decide +kernel) ⟨Nat.le_of_ble_eq_true rfl, Nat.le_of_ble_eq_true rfl⟩) (lpreS hK hA hW hE hZ hE2) rfl rfl hl.1 rfl (lv_room (Nat.le_of_ble_eq_true rfl)) dL_isCue_162 ⟨Nat.le_of_ble_eq_true rfl, Nat.le_of_ble_eq_true rfl⟩) hA hW (fun x162' M162' H locs p162' hW => ?_)
        try dsimp only at p162'
        obtain ⟨kp162, hXX, r162⟩ := p162'
        have hL := hL.kp kp162
        rw [ifB_t hcu, n1i] at r162
        have ec : x162' = jfd (falX σ i) 100 := r162.trans ((ifB_t (by decide)).trans (tol2 σ i))
        refine lv_istore (lv' := [(8, .int x162'), (7, .int x155'), (6, .int x146'), (0, .ref (ad 0)), (1, .ref (ad 60)), (2, .ref (ad 61)), (3, .ref (ad 62)), (4, .ref (ad 66)), (5, .int xi)]) hx hb dL_isCue_165 hl (by decide) rfl (fun ls hl => ?_)
        refine lv_aload_n hx hb dL_isCue_167 rfl (lv_at hl 3 rfl) ?_
        refine lv_iload hx hb dL_isCue_168 (lv_at hl 8 rfl) ?_
        refine lv_iconst (v := 3) hx hb dL_isCue_170 (by decide) ?_
        refine wc_wiN (vx_runSW (As := [.ref (ad 0), .int xi, .int 3]) (rest := []) ⟨hx, hb, hml, hown, hts⟩ (c_L_falls l hl9 D cA sh ad M162' _ σ v hX hXX xi 3 ) (vx_cwSW 3 hts gL_isCue_L_falls rfl rfl rfl (by decide +kernel) ⟨Nat.le_of_ble_eq_true rfl, Nat.le_of_ble_eq_true rfl⟩) (lpreS hK hA hW hE hZ hE2) rfl rfl hl.1 rfl (lv_room (Nat.le_of_ble_eq_true rfl)) dL_isCue_171 ⟨Nat.le_of_ble_eq_true rfl, Nat.le_of_ble_eq_true rfl⟩) hA hW (fun x171' M171' H locs p171' hW => ?_)
        try dsimp only at p171'
        obtain ⟨kp171, hXX, r171⟩ := p171'
        have hL := hL.kp kp171
        rw [ifB_t hcu, n1i] at r171
        have el : x171' = jfd (falY σ i) 100 := r171.trans ((ifB_t (by decide)).trans (tol3 σ i))
        have ef : x155' = nI (σ.2 2 (σ.2 8 i)) := n155'.trans (by rw [hdd.2.1])
        refine lv_istore (lv' := [(9, .int x171'), (8, .int x162'), (7, .int x155'), (6, .int x146'), (0, .ref (ad 0)), (1, .ref (ad 60)), (2, .ref (ad 61)), (3, .ref (ad 62)), (4, .ref (ad 66)), (5, .int xi)]) hx hb dL_isCue_174 hl (by decide) rfl (fun ls hl => ?_)
        refine lv_lconst (v := 0) hx hb dL_isCue_176 (by decide) ?_
        refine lv_lstore (lv' := [(10, .long 0), (9, .int x171'), (8, .int x162'), (7, .int x155'), (6, .int x146'), (0, .ref (ad 0)), (1, .ref (ad 60)), (2, .ref (ad 61)), (3, .ref (ad 62)), (4, .ref (ad 66)), (5, .int xi)]) hx hb dL_isCue_177 hl (by decide) rfl (fun ls hl => ?_)
        refine lv_iconst (v := 0) hx hb dL_isCue_179 (by decide) ?_
        refine lv_istore (lv' := [(12, .int 0), (10, .long 0), (9, .int x171'), (8, .int x162'), (7, .int x155'), (6, .int x146'), (0, .ref (ad 0)), (1, .ref (ad 60)), (2, .ref (ad 61)), (3, .ref (ad 62)), (4, .ref (ad 66)), (5, .int xi)]) hx hb dL_isCue_180 hl (by decide) rfl (fun ls hl => ?_)
        refine lv_iconst (v := 0) hx hb dL_isCue_182 (by decide) ?_
        refine lv_istore (lv' := [(13, .int 0), (12, .int 0), (10, .long 0), (9, .int x171'), (8, .int x162'), (7, .int x155'), (6, .int x146'), (0, .ref (ad 0)), (1, .ref (ad 60)), (2, .ref (ad 61)), (3, .ref (ad 62)), (4, .ref (ad 66)), (5, .int xi)]) hx hb dL_isCue_183 hl (by decide) rfl (fun ls hl => ?_)
        have L185 : ∀ (fu : Nat) (k : Nat) (xk : Int32) (xs : Int32) (z : Int64) (H : Heap) (locs : List Loc), 64 - k < fu → (k ≤ 64) → (xk = nI k) → (∀ j, j < 64 → bitL z j = decide (j < k ∧ zonB σ i j = true)) → (xs = bI (stkT σ i k)) → WS D cA sh ad A s.heap M171' H locs → ∀ ls, lv_has ls 15 [(13, .int xk), (12, .int xs), (10, .long z), (9, .int x171'), (8, .int x162'), (7, .int x155'), (6, .int x146'), (0, .ref (ad 0)), (1, .ref (ad 60)), (2, .ref (ad 61)), (3, .ref (ad 62)), (4, .ref (ad 66)), (5, .int xi)] → W p l e (headSpec wsL_isCue { frames := 10, cells := 40, slots := 240, locals := 177 }).room s m ([.ref (ad 0), .ref (ad 60), .ref (ad 61), .ref (ad 62), .ref (ad 66), .int xi] : List Value).toArray below meth cd0 H locs 4 24 (MQ below (wQi D cA sh ad (fun r M' => r = 1 ∧ XX σ v M' ∧ LSt σ v M') A) ([.ref (ad 0), .ref (ad 60), .ref (ad 61), .ref (ad 62), .ref (ad 66), .int xi] : List Value).toArray s 40 240 A) (F0 m 185 ls []) := by
          intro fu
          induction fu with
          | zero =>
            intro k xk xs z H locs hn hk ek ez es hW ls hl
            exact absurd hn (Nat.not_lt_zero _)
          | succ fu ih185 =>
            intro k xk xs z H locs hn hk ek ez es hW ls hl
            refine lv_iload hx hb dL_isCue_185 (lv_at hl 0 rfl) ?_
            refine lv_bipush (v := 64) hx hb dL_isCue_187 (by decide) ?_
            refine lv_icmp_ge (tgt := 299) hx hb dL_isCue_189 (by decide) (fun c189' => ?_) (fun c189' => ?_)
            · have k189' : 64 ≤ k := kc_ge ek (nlit 64) (by omega) (by omega) c189'
              refine lv_aload_n hx hb dL_isCue_299 rfl (lv_at hl 7 rfl) ?_
              refine lv_iload hx hb dL_isCue_300 (lv_at hl 12 rfl) ?_
              refine wc_wlN (vx_runSW (As := [.ref (ad 0), .int xi]) (rest := []) ⟨hx, hb, hml, hown, hts⟩ (c_L_danger l hl9 D cA sh ad M171' _ σ v hX hXX xi ) (vx_cwSW 2 hts gL_isCue_L_danger rfl rfl rfl (by decide +kernel) ⟨Nat.le_of_ble_eq_true rfl, Nat.le_of_ble_eq_true rfl⟩) (lpreS hK hA hW hE hZ hE2) rfl rfl hl.1 rfl (lv_room (Nat.le_of_ble_eq_true rfl)) dL_isCue_302 ⟨Nat.le_of_ble_eq_true rfl, Nat.le_of_ble_eq_true rfl⟩) hA hW (fun x302' M302' H locs p302' hW => ?_)
              try dsimp only at p302'
              obtain ⟨kp302, hXX, r302⟩ := p302'
              have hL := hL.kp kp302
              have r302 := or_ok r302 hcu
              rw [n1i] at r302
              refine lv_lload hx hb dL_isCue_305 (lv_at hl 2 rfl) ?_
              refine W.lcmp hx hb dL_isCue_307 ?_
              refine lv_topi (fun x307' e307' => ?_)
              refine lv_if_ne (tgt := 388) hx hb dL_isCue_308 (by decide) (fun c308' => ?_) (fun c308' => ?_)
              · exact ((c308' (by rw [e307', show x302' = z from bitL_ext (fun j hj => (r302 j hj).trans (by rw [ez j hj]; exact (dec_and (by omega)).symm))]; exact lg_self _))).elim
              · refine lv_aload_n hx hb dL_isCue_311 rfl (lv_at hl 7 rfl) ?_
                refine lv_iload hx hb dL_isCue_312 (lv_at hl 12 rfl) ?_
                refine wc_wiN (vx_runSW (As := [.ref (ad 0), .int xi]) (rest := []) ⟨hx, hb, hml, hown, hts⟩ (c_L_becomes l hl9 D cA sh ad M302' _ σ v hX hXX xi q c hs ) (vx_cwSW 2 hts gL_isCue_L_becomes rfl rfl rfl (by decide +kernel) ⟨Nat.le_of_ble_eq_true rfl, Nat.le_of_ble_eq_true rfl⟩) (lpreS hK hA hW hE hZ hE2) rfl rfl hl.1 rfl (lv_room (Nat.le_of_ble_eq_true rfl)) dL_isCue_314 ⟨Nat.le_of_ble_eq_true rfl, Nat.le_of_ble_eq_true rfl⟩) hA hW (fun x314' M314' H locs p314' hW => ?_)
                try dsimp only at p314'
                obtain ⟨kp314, hXX, r314⟩ := p314'
                have hL := hL.kp kp314
                rw [ifB_t hcu, n1i] at r314
                refine lv_iconst (v := 1) hx hb dL_isCue_317 (by decide) ?_
                have J326 : ∀ (yb : Int32) (H : Heap) (locs : List Loc), (yb = bI (stkB σ i)) → WS D cA sh ad A s.heap M314' H locs → ∀ ls, lv_has ls 15 [(13, .int xk), (12, .int xs), (10, .long z), (9, .int x171'), (8, .int x162'), (7, .int x155'), (6, .int x146'), (0, .ref (ad 0)), (1, .ref (ad 60)), (2, .ref (ad 61)), (3, .ref (ad 62)), (4, .ref (ad 66)), (5, .int xi)] → W p l e (headSpec wsL_isCue { frames := 10, cells := 40, slots := 240, locals := 177 }).room s m ([.ref (ad 0), .ref (ad 60), .ref (ad 61), .ref (ad 62), .ref (ad 66), .int xi] : List Value).toArray below meth cd0 H locs 6 36 (MQ below (wQi D cA sh ad (fun r M' => r = 1 ∧ XX σ v M' ∧ LSt σ v M') A) ([.ref (ad 0), .ref (ad 60), .ref (ad 61), .ref (ad 62), .ref (ad 66), .int xi] : List Value).toArray s 40 240 A) (F0 m 326 ls [.int yb]) := by
                  intro yb H locs hyb hW ls hl
                  refine lv_iload hx hb dL_isCue_326 (lv_at hl 1 rfl) ?_
                  refine lv_icmp_ne (tgt := 388) hx hb dL_isCue_328 (by decide) (fun c328' => ?_) (fun c328' => ?_)
                  · exact ((c328' (by rw [hyb, es, show k = 64 by omega]; rfl))).elim
                  · refine lv_iload hx hb dL_isCue_331 (lv_at hl 4 rfl) ?_
                    refine lv_aload_n hx hb dL_isCue_333 rfl (lv_at hl 7 rfl) ?_
                    refine lv_iload hx hb dL_isCue_334 (lv_at hl 12 rfl) ?_
                    refine lv_iconst (v := 0) hx hb dL_isCue_336 (by decide) ?_
                    refine wc_wiN (vx_runSW (As := [.ref (ad 0), .int xi, .int 0]) (rest := [.int x162']) ⟨hx, hb, hml, hown, hts⟩ (c_L_falls l hl9 D cA sh ad M314' _ σ v hX hXX xi 0 ) (vx_cwSW 3 hts gL_isCue_L_falls rfl rfl rfl (by decide +kernel) ⟨Nat.le_of_ble_eq_true rfl, Nat.le_of_ble_eq_true rfl⟩) (lpreS hK hA hW hE hZ hE2) rfl rfl hl.1 rfl (lv_room (Nat.le_of_ble_eq_true rfl)) dL_isCue_337 ⟨Nat.le_of_ble_eq_true rfl, Nat.le_of_ble_eq_true rfl⟩) hA hW (fun x337' M337' H locs p337' hW => ?_)
                    try dsimp only at p337'
                    obtain ⟨kp337, hXX, r337⟩ := p337'
                    have hL := hL.kp kp337
                    rw [ifB_t hcu, n1i] at r337
                    rw [ifB_t (show inB 0 0 3 = true by decide), tol0] at r337
                    refine wc_ri (va_runS (As := [.int x337']) (rest := [.int x162']) ⟨hx, hb, hml, hown, hts⟩ (c_L_down l x337' (by rw [r337]; omega) (by rw [r337]; omega)) (va_cwS 1 hts gL_isCue_L_down rfl rfl rfl (by decide +kernel) ⟨Nat.le_of_ble_eq_true rfl, Nat.le_of_ble_eq_true rfl⟩) npreS rfl rfl hl.1 rfl (lv_room (Nat.le_of_ble_eq_true rfl)) dL_isCue_340 ⟨Nat.le_of_ble_eq_true rfl, Nat.le_of_ble_eq_true rfl⟩) hW (fun x340' H locs p340' hW => ?_)
                    try dsimp only at p340'
                    refine lv_icmp_ne (tgt := 388) hx hb dL_isCue_343 (by decide) (fun c343' => ?_) (fun c343' => ?_)
                    · exact ((c343' (by rw [p340', r337]; exact ec))).elim
                    · refine lv_iload hx hb dL_isCue_346 (lv_at hl 3 rfl) ?_
                      refine lv_aload_n hx hb dL_isCue_348 rfl (lv_at hl 7 rfl) ?_
                      refine lv_iload hx hb dL_isCue_349 (lv_at hl 12 rfl) ?_
                      refine lv_iconst (v := 1) hx hb dL_isCue_351 (by decide) ?_
                      refine wc_wiN (vx_runSW (As := [.ref (ad 0), .int xi, .int 1]) (rest := [.int x171']) ⟨hx, hb, hml, hown, hts⟩ (c_L_falls l hl9 D cA sh ad M337' _ σ v hX hXX xi 1 ) (vx_cwSW 3 hts gL_isCue_L_falls rfl rfl rfl (by decide +kernel) ⟨Nat.le_of_ble_eq_true rfl, Nat.le_of_ble_eq_true rfl⟩) (lpreS hK hA hW hE hZ hE2) rfl rfl hl.1 rfl (lv_room (Nat.le_of_ble_eq_true rfl)) dL_isCue_352 ⟨Nat.le_of_ble_eq_true rfl, Nat.le_of_ble_eq_true rfl⟩) hA hW (fun x352' M352' H locs p352' hW => ?_)
                      try dsimp only at p352'
                      obtain ⟨kp352, hXX, r352⟩ := p352'
                      have hL := hL.kp kp352
                      rw [ifB_t hcu, n1i] at r352
                      rw [ifB_t (show inB 1 0 3 = true by decide), tol1] at r352
                      refine wc_ri (va_runS (As := [.int x352']) (rest := [.int x171']) ⟨hx, hb, hml, hown, hts⟩ (c_L_down l x352' (by rw [r352]; omega) (by rw [r352]; omega)) (va_cwS 1 hts gL_isCue_L_down rfl rfl rfl (by decide +kernel) ⟨Nat.le_of_ble_eq_true rfl, Nat.le_of_ble_eq_true rfl⟩) npreS rfl rfl hl.1 rfl (lv_room (Nat.le_of_ble_eq_true rfl)) dL_isCue_355 ⟨Nat.le_of_ble_eq_true rfl, Nat.le_of_ble_eq_true rfl⟩) hW (fun x355' H locs p355' hW => ?_)
                      try dsimp only at p355'
                      refine lv_icmp_ne (tgt := 388) hx hb dL_isCue_358 (by decide) (fun c358' => ?_) (fun c358' => ?_)
                      · exact ((c358' (by rw [p355', r352]; exact el))).elim
                      · refine lv_aload_n hx hb dL_isCue_361 rfl (lv_at hl 7 rfl) ?_
                        refine lv_iload hx hb dL_isCue_362 (lv_at hl 12 rfl) ?_
                        refine wc_wiN (vx_runSW (As := [.ref (ad 0), .int xi]) (rest := []) ⟨hx, hb, hml, hown, hts⟩ (c_L_bursts l hl9 D cA sh ad M352' _ σ v hX hXX xi ) (vx_cwSW 2 hts gL_isCue_L_bursts rfl rfl rfl (by decide +kernel) ⟨Nat.le_of_ble_eq_true rfl, Nat.le_of_ble_eq_true rfl⟩) (lpreS hK hA hW hE hZ hE2) rfl rfl hl.1 rfl (lv_room (Nat.le_of_ble_eq_true rfl)) dL_isCue_364 ⟨Nat.le_of_ble_eq_true rfl, Nat.le_of_ble_eq_true rfl⟩) hA hW (fun x364' M364' H locs p364' hW => ?_)
                        try dsimp only at p364'
                        obtain ⟨kp364, hXX, r364⟩ := p364'
                        have hL := hL.kp kp364
                        rw [ifB_t hcu, n1i] at r364
                        refine lv_aload_n hx hb dL_isCue_367 rfl (lv_at hl 7 rfl) ?_
                        refine lv_iload hx hb dL_isCue_368 (lv_at hl 12 rfl) ?_
                        refine wc_wiN (vx_runSW (As := [.ref (ad 0), .int xi]) (rest := [.int x364']) ⟨hx, hb, hml, hown, hts⟩ (c_L_fires l hl9 D cA sh ad M364' _ σ v hX hXX xi ) (vx_cwSW 2 hts gL_isCue_L_fires rfl rfl rfl (by decide +kernel) ⟨Nat.le_of_ble_eq_true rfl, Nat.le_of_ble_eq_true rfl⟩) (lpreS hK hA hW hE hZ hE2) rfl rfl hl.1 rfl (lv_room (Nat.le_of_ble_eq_true rfl)) dL_isCue_370 ⟨Nat.le_of_ble_eq_true rfl, Nat.le_of_ble_eq_true rfl⟩) hA hW (fun x370' M370' H locs p370' hW => ?_)
                        try dsimp only at p370'
                        obtain ⟨kp370, hXX, r370⟩ := p370'
                        have hL := hL.kp kp370
                        rw [ifB_t hcu, n1i] at r370
                        refine lv_isub hx hb dL_isCue_373 ?_
                        refine lv_topi (fun x373' e373' => ?_)
                        refine lv_aload_n hx hb dL_isCue_374 rfl (lv_at hl 9 rfl) ?_
                        refine lv_iload hx hb dL_isCue_375 (lv_at hl 6 rfl) ?_
                        refine walI (j := (σ.2 8 i)) hx hb hK hW (hMs 61 (by decide) (by decide)) (n146'.trans (by rw [hcc.2.2.2])) (by omega) (by decide) dL_isCue_377 (fun x377' e377' => ?_)
                        have n377' : x377' = nI (ddN σ (σ.2 8 i)) := (e377'.trans (hL.2.1 _ hbb.2.1))
                        refine lv_bipush (v := 32) hx hb dL_isCue_378 (by decide) ?_
                        refine lv_irem hx hb dL_isCue_380 (by decide) ?_
                        refine lv_topi (fun x380' e380' => ?_)
                        have n380' : x380' = nI ((ddN σ (σ.2 8 i)) % 32) := (by rw [e380', n377', (nlit 32)]; exact pk_rem (by omega) (by omega) (by omega))
                        refine lv_icmp_ne (tgt := 388) hx hb dL_isCue_381 (by decide) (fun c381' => ?_) (fun c381' => ?_)
                        · exact ((c381' (by rw [e373', r364, r370, bur_eq, n380', hdd.2.2]; rfl))).elim
                        · refine lv_iconst (v := 1) hx hb dL_isCue_384 (by decide) ?_
                          refine lv_goto (tgt := 389) hx hb dL_isCue_385 (by decide) ?_
                          refine lv_istore (lv' := [(13, .int 1), (12, .int xs), (10, .long z), (9, .int x171'), (8, .int x162'), (7, .int x155'), (6, .int x146'), (0, .ref (ad 0)), (1, .ref (ad 60)), (2, .ref (ad 61)), (3, .ref (ad 62)), (4, .ref (ad 66)), (5, .int xi)]) hx hb dL_isCue_389 hl (by decide) rfl (fun ls hl => ?_)
                          refine lv_iconst (v := 0) hx hb dL_isCue_391 (by decide) ?_
                          refine lv_istore (lv' := [(14, .int 0), (13, .int 1), (12, .int xs), (10, .long z), (9, .int x171'), (8, .int x162'), (7, .int x155'), (6, .int x146'), (0, .ref (ad 0)), (1, .ref (ad 60)), (2, .ref (ad 61)), (3, .ref (ad 62)), (4, .ref (ad 66)), (5, .int xi)]) hx hb dL_isCue_392 hl (by decide) rfl (fun ls hl => ?_)
                          have L394 : ∀ (fu : Nat) (t : Nat) (xt : Int32) (Mk : MS) (H : Heap) (locs : List Loc), 4 - t < fu → (t ≤ 4) → (xt = nI t) → (XX σ v Mk) → (LSt σ v Mk) → WS D cA sh ad A s.heap Mk H locs → ∀ ls, lv_has ls 15 [(14, .int xt), (13, .int 1), (12, .int xs), (10, .long z), (9, .int x171'), (8, .int x162'), (7, .int x155'), (6, .int x146'), (0, .ref (ad 0)), (1, .ref (ad 60)), (2, .ref (ad 61)), (3, .ref (ad 62)), (4, .ref (ad 66)), (5, .int xi)] → W p l e (headSpec wsL_isCue { frames := 10, cells := 40, slots := 240, locals := 177 }).room s m ([.ref (ad 0), .ref (ad 60), .ref (ad 61), .ref (ad 62), .ref (ad 66), .int xi] : List Value).toArray below meth cd0 H locs (12 + 4 * t) (72 + 24 * t) (MQ below (wQi D cA sh ad (fun r M' => r = 1 ∧ XX σ v M' ∧ LSt σ v M') A) ([.ref (ad 0), .ref (ad 60), .ref (ad 61), .ref (ad 62), .ref (ad 66), .int xi] : List Value).toArray s 40 240 A) (F0 m 394 ls []) := by
                            intro fu
                            induction fu with
                            | zero =>
                              intro t xt Mk H locs hn ht et hXX hL hW ls hl
                              exact absurd hn (Nat.not_lt_zero _)
                            | succ fu ih394 =>
                              intro t xt Mk H locs hn ht et hXX hL hW ls hl
                              refine lv_iload hx hb dL_isCue_394 (lv_at hl 0 rfl) ?_
                              refine lv_iconst (v := 4) hx hb dL_isCue_396 (by decide) ?_
                              refine lv_icmp_ge (tgt := 437) hx hb dL_isCue_397 (by decide) (fun c397' => ?_) (fun c397' => ?_)
                              · have k397' : 4 ≤ t := kc_ge et (nlit 4) (by omega) (by omega) c397'
                                refine lv_iload hx hb dL_isCue_437 (lv_at hl 1 rfl) ?_
                                refine lv_if_eq (tgt := 492) hx hb dL_isCue_439 (by decide) (fun c439' => ?_) (fun c439' => ?_)
                                · have k439' : 1 = 0 := kc_eq (nlit 1) (nlit 0) (by omega) (by omega) c439'
                                  exact ((show False from by omega)).elim
                                · have k439' : ¬ 1 = 0 := kc_eqn (nlit 1) (nlit 0) (by omega) (by omega) c439'
                                  refine lv_aload_n hx hb dL_isCue_442 rfl (lv_at hl 8 rfl) ?_
                                  refine lv_iload hx hb dL_isCue_443 (lv_at hl 13 rfl) ?_
                                  refine lv_iconst (v := 4) hx hb dL_isCue_445 (by decide) ?_
                                  refine wc_wiN (vx_runSW (As := [.ref (ad 0), .int xi, .int 4]) (rest := []) ⟨hx, hb, hml, hown, hts⟩ (c_L_falls l hl9 D cA sh ad Mk _ σ v hX hXX xi 4 ) (vx_cwSW 3 hts gL_isCue_L_falls rfl rfl rfl (by decide +kernel) ⟨Nat.le_of_ble_eq_true rfl, Nat.le_of_ble_eq_true rfl⟩) (lpreS hK hA hW hE hZ hE2) rfl rfl hl.1 rfl (lv_room (Nat.le_of_ble_eq_true rfl)) dL_isCue_446 ⟨(by show 12 + 4 * t + 2 ≤ 40; omega), (by show 72 + 24 * t + 12 ≤ 240; omega)⟩) hA hW (fun x446' M446' H locs p446' hW => ?_)
                                  try dsimp only at p446'
                                  obtain ⟨kp446, hXX, r446⟩ := p446'
                                  have hL := hL.kp kp446
                                  rw [ifB_t hcu, n1i] at r446
                                  rw [ifB_f (show inB 4 0 3 = false by decide)] at r446
                                  refine lv_ldc (v := (-1000002)) hx hb hown (hts (.constant RL 18 (-1000002)) (List.mem_of_getElem? (i := 3) rfl)) dL_isCue_449 ?_
                                  refine lv_icmp_ne (tgt := 492) hx hb dL_isCue_451 (by decide) (fun c451' => ?_) (fun c451' => ?_)
                                  · exact ((c451' r446)).elim
                                  · refine lv_aload_n hx hb dL_isCue_454 rfl (lv_at hl 8 rfl) ?_
                                    refine lv_iload hx hb dL_isCue_455 (lv_at hl 13 rfl) ?_
                                    refine lv_iconst (v := (-1)) hx hb dL_isCue_457 (by decide) ?_
                                    refine wc_wiN (vx_runSW (As := [.ref (ad 0), .int xi, .int (-1)]) (rest := []) ⟨hx, hb, hml, hown, hts⟩ (c_L_fallsBySteps l hl9 D cA sh ad M446' _ σ v hX hXX xi (-1) ) (vx_cwSW 3 hts gL_isCue_L_fallsBySteps rfl rfl rfl (by decide +kernel) ⟨Nat.le_of_ble_eq_true rfl, Nat.le_of_ble_eq_true rfl⟩) (lpreS hK hA hW hE hZ hE2) rfl rfl hl.1 rfl (lv_room (Nat.le_of_ble_eq_true rfl)) dL_isCue_458 ⟨(by show 12 + 4 * t + 2 + 2 ≤ 40; omega), (by show 72 + 24 * t + 12 + 12 ≤ 240; omega)⟩) hA hW (fun x458' M458' H locs p458' hW => ?_)
                                    try dsimp only at p458'
                                    obtain ⟨kp458, hXX, r458⟩ := p458'
                                    have hL := hL.kp kp458
                                    rw [ifB_t hcu, n1i] at r458
                                    rw [ifB_f (show inB (-1) 0 3 = false by decide)] at r458
                                    refine lv_ldc (v := (-1000002)) hx hb hown (hts (.constant RL 18 (-1000002)) (List.mem_of_getElem? (i := 3) rfl)) dL_isCue_461 ?_
                                    refine lv_icmp_ne (tgt := 492) hx hb dL_isCue_463 (by decide) (fun c463' => ?_) (fun c463' => ?_)
                                    · exact ((c463' r458)).elim
                                    · refine lv_aload_n hx hb dL_isCue_466 rfl (lv_at hl 8 rfl) ?_
                                      refine lv_iload hx hb dL_isCue_467 (lv_at hl 13 rfl) ?_
                                      refine lv_iconst (v := 3) hx hb dL_isCue_469 (by decide) ?_
                                      refine wc_wiN (vx_runSW (As := [.ref (ad 0), .int xi, .int 3]) (rest := []) ⟨hx, hb, hml, hown, hts⟩ (c_L_burstAt l hl9 D cA sh ad M458' _ σ v hX hXX xi 3 ) (vx_cwSW 3 hts gL_isCue_L_burstAt rfl rfl rfl (by decide +kernel) ⟨Nat.le_of_ble_eq_true rfl, Nat.le_of_ble_eq_true rfl⟩) (lpreS hK hA hW hE hZ hE2) rfl rfl hl.1 rfl (lv_room (Nat.le_of_ble_eq_true rfl)) dL_isCue_470 ⟨(by show 12 + 4 * t + 2 + 2 + 2 ≤ 40; omega), (by show 72 + 24 * t + 12 + 12 + 12 ≤ 240; omega)⟩) hA hW (fun x470' M470' H locs p470' hW => ?_)
                                      try dsimp only at p470'
                                      obtain ⟨kp470, hXX, r470⟩ := p470'
                                      have hL := hL.kp kp470
                                      rw [ifB_t hcu, n1i] at r470
                                      rw [ifB_f (show inB 3 0 2 = false by decide)] at r470
                                      refine lv_ldc (v := (-1000002)) hx hb hown (hts (.constant RL 18 (-1000002)) (List.mem_of_getElem? (i := 3) rfl)) dL_isCue_473 ?_
                                      refine lv_icmp_ne (tgt := 492) hx hb dL_isCue_475 (by decide) (fun c475' => ?_) (fun c475' => ?_)
                                      · exact ((c475' r470)).elim
                                      · refine lv_aload_n hx hb dL_isCue_478 rfl (lv_at hl 8 rfl) ?_
                                        refine lv_iload hx hb dL_isCue_479 (lv_at hl 13 rfl) ?_
                                        refine lv_iconst (v := 2) hx hb dL_isCue_481 (by decide) ?_
                                        refine wc_wiN (vx_runSW (As := [.ref (ad 0), .int xi, .int 2]) (rest := []) ⟨hx, hb, hml, hown, hts⟩ (c_L_burstAt l hl9 D cA sh ad M470' _ σ v hX hXX xi 2 ) (vx_cwSW 3 hts gL_isCue_L_burstAt rfl rfl rfl (by decide +kernel) ⟨Nat.le_of_ble_eq_true rfl, Nat.le_of_ble_eq_true rfl⟩) (lpreS hK hA hW hE hZ hE2) rfl rfl hl.1 rfl (lv_room (Nat.le_of_ble_eq_true rfl)) dL_isCue_482 ⟨(by show 12 + 4 * t + 2 + 2 + 2 + 2 ≤ 40; omega), (by show 72 + 24 * t + 12 + 12 + 12 + 12 ≤ 240; omega)⟩) hA hW (fun x482' M482' H locs p482' hW => ?_)
                                        try dsimp only at p482'
                                        obtain ⟨kp482, hXX, r482⟩ := p482'
                                        have hL := hL.kp kp482
                                        rw [ifB_t hcu, n1i] at r482
                                        rw [ifB_t (show inB 2 0 2 = true by decide)] at r482
                                        refine lv_if_le (tgt := 492) hx hb dL_isCue_485 (by decide) (fun c485' => ?_) (fun c485' => ?_)
                                        · exact ((show False from by rw [r482, i32le] at c485'; have h0 := bst_pos ok hi9; have z0 := i32z; omega)).elim
                                        · refine lv_iconst (v := 1) hx hb dL_isCue_488 (by decide) ?_
                                          refine lv_goto (tgt := 493) hx hb dL_isCue_489 (by decide) ?_
                                          refine W.widen (k := 40) (n := 240) (by omega) (by omega) ?_
                                          exact wr_wz hx hb hr hlocks hW dL_isCue_493 rfl ⟨rfl, hXX, hL⟩
                              · have k397' : ¬ 4 ≤ t := kc_gen et (nlit 4) (by omega) (by omega) c397'
                                refine lv_iload hx hb dL_isCue_400 (lv_at hl 1 rfl) ?_
                                refine lv_if_eq (tgt := 428) hx hb dL_isCue_402 (by decide) (fun c402' => ?_) (fun c402' => ?_)
                                · have k402' : 1 = 0 := kc_eq (nlit 1) (nlit 0) (by omega) (by omega) c402'
                                  exact ((show False from by omega)).elim
                                · have k402' : ¬ 1 = 0 := kc_eqn (nlit 1) (nlit 0) (by omega) (by omega) c402'
                                  refine lv_aload_n hx hb dL_isCue_405 rfl (lv_at hl 8 rfl) ?_
                                  refine lv_iload hx hb dL_isCue_406 (lv_at hl 13 rfl) ?_
                                  refine lv_iload hx hb dL_isCue_408 (lv_at hl 0 rfl) ?_
                                  refine wc_wiN (vx_runSW (As := [.ref (ad 0), .int xi, .int xt]) (rest := []) ⟨hx, hb, hml, hown, hts⟩ (c_L_falls l hl9 D cA sh ad Mk _ σ v hX hXX xi xt ) (vx_cwSW 3 hts gL_isCue_L_falls rfl rfl rfl (by decide +kernel) ⟨Nat.le_of_ble_eq_true rfl, Nat.le_of_ble_eq_true rfl⟩) (lpreS hK hA hW hE hZ hE2) rfl rfl hl.1 rfl (lv_room (Nat.le_of_ble_eq_true rfl)) dL_isCue_410 ⟨(by show 12 + 4 * t + 2 ≤ 40; omega), (by show 72 + 24 * t + 12 ≤ 240; omega)⟩) hA hW (fun x410' M410' H locs p410' hW => ?_)
                                  try dsimp only at p410'
                                  obtain ⟨kp410, hXX, r410⟩ := p410'
                                  have hL := hL.kp kp410
                                  rw [ifB_t hcu, n1i] at r410
                                  refine lv_aload_n hx hb dL_isCue_413 rfl (lv_at hl 8 rfl) ?_
                                  refine lv_iload hx hb dL_isCue_414 (lv_at hl 13 rfl) ?_
                                  refine lv_iload hx hb dL_isCue_416 (lv_at hl 0 rfl) ?_
                                  refine wc_wiN (vx_runSW (As := [.ref (ad 0), .int xi, .int xt]) (rest := [.int x410']) ⟨hx, hb, hml, hown, hts⟩ (c_L_fallsBySteps l hl9 D cA sh ad M410' _ σ v hX hXX xi xt ) (vx_cwSW 3 hts gL_isCue_L_fallsBySteps rfl rfl rfl (by decide +kernel) ⟨Nat.le_of_ble_eq_true rfl, Nat.le_of_ble_eq_true rfl⟩) (lpreS hK hA hW hE hZ hE2) rfl rfl hl.1 rfl (lv_room (Nat.le_of_ble_eq_true rfl)) dL_isCue_418 ⟨(by show 12 + 4 * t + 2 + 2 ≤ 40; omega), (by show 72 + 24 * t + 12 + 12 ≤ 240; omega)⟩) hA hW (fun x418' M418' H locs p418' hW => ?_)
                                  try dsimp only at p418'
                                  obtain ⟨kp418, hXX, r418⟩ := p418'
                                  have hL := hL.kp kp418
                                  rw [ifB_t hcu, n1i] at r418
                                  refine lv_icmp_ne (tgt := 428) hx hb dL_isCue_421 (by decide) (fun c421' => ?_) (fun c421' => ?_)
                                  · exact ((c421' (r410.trans r418.symm))).elim
                                  · refine lv_iconst (v := 1) hx hb dL_isCue_424 (by decide) ?_
                                    refine lv_goto (tgt := 429) hx hb dL_isCue_425 (by decide) ?_
                                    refine lv_istore (lv' := [(13, .int 1), (14, .int xt), (12, .int xs), (10, .long z), (9, .int x171'), (8, .int x162'), (7, .int x155'), (6, .int x146'), (0, .ref (ad 0)), (1, .ref (ad 60)), (2, .ref (ad 61)), (3, .ref (ad 62)), (4, .ref (ad 66)), (5, .int xi)]) hx hb dL_isCue_429 hl (by decide) rfl (fun ls hl => ?_)
                                    obtain ⟨x431', e431'⟩ : ∃ y : Int32, y = xt + 1 := ⟨_, rfl⟩
                                    refine lv_iinc (v := x431') (lv' := [(14, .int x431'), (13, .int 1), (12, .int xs), (10, .long z), (9, .int x171'), (8, .int x162'), (7, .int x155'), (6, .int x146'), (0, .ref (ad 0)), (1, .ref (ad 60)), (2, .ref (ad 61)), (3, .ref (ad 62)), (4, .ref (ad 66)), (5, .int xi)]) hx hb dL_isCue_431 hl (k := 1) rfl (by rw [e431']; rfl) (by decide) rfl (fun ls hl => ?_)
                                    refine lv_goto (tgt := 394) hx hb dL_isCue_434 (by decide) ?_
                                    refine W.widen (k := 12 + 4 * (t + 1)) (n := 72 + 24 * (t + 1)) (by omega) (by omega) ?_
                                    exact ih394 (t + 1) x431' M418' _ _ (by omega) (by omega) (by rw [e431', et, nlit 1, nI_add]) hXX hL hW ls (lv_sub hl [0, 1, 2, 3, 4, 5, 6, 7, 8, 9, 10, 11, 12, 13] rfl)
                          exact L394 (_ + 1) 0 0 M370' _ _ (Nat.lt_succ_self _) (Nat.zero_le _) rfl hXX hL hW ls (lv_sub hl [0, 1, 2, 3, 4, 5, 6, 7, 8, 9, 10, 11, 12, 13] rfl)
                refine lv_icmp_ne (tgt := 325) hx hb dL_isCue_318 (by decide) (fun c318' => ?_) (fun c318' => ?_)
                · refine lv_iconst (v := 0) hx hb dL_isCue_325 (by decide) ?_
                  exact J326 0 _ _ (by
                      first
                      | exact bI_tt ((fa_stk hs (by omega)).mp (r314.symm.trans c318'))
                      | exact bI_ff (by
                          cases hz : stkB σ i with
                          | false => rfl
                          | true => exact absurd (r314.trans ((fa_stk hs (by omega)).mpr hz)) c318')) hW ls (lv_sub hl [0, 1, 2, 3, 4, 5, 6, 7, 8, 9, 10, 11, 12] rfl)
                · refine lv_iconst (v := 1) hx hb dL_isCue_321 (by decide) ?_
                  refine lv_goto (tgt := 326) hx hb dL_isCue_322 (by decide) ?_
                  exact J326 1 _ _ (by
                      first
                      | exact bI_tt ((fa_stk hs (by omega)).mp (r314.symm.trans c318'))
                      | exact bI_ff (by
                          cases hz : stkB σ i with
                          | false => rfl
                          | true => exact absurd (r314.trans ((fa_stk hs (by omega)).mpr hz)) c318')) hW ls (lv_sub hl [0, 1, 2, 3, 4, 5, 6, 7, 8, 9, 10, 11, 12] rfl)
            · have k189' : ¬ 64 ≤ k := kc_gen ek (nlit 64) (by omega) (by omega) c189'
              have J249 : ∀ (yn : Int32) (H : Heap) (locs : List Loc), (yn = bI (zonB σ i k)) → WS D cA sh ad A s.heap M171' H locs → ∀ ls, lv_has ls 15 [(13, .int xk), (12, .int xs), (10, .long z), (9, .int x171'), (8, .int x162'), (7, .int x155'), (6, .int x146'), (0, .ref (ad 0)), (1, .ref (ad 60)), (2, .ref (ad 61)), (3, .ref (ad 62)), (4, .ref (ad 66)), (5, .int xi)] → W p l e (headSpec wsL_isCue { frames := 10, cells := 40, slots := 240, locals := 177 }).room s m ([.ref (ad 0), .ref (ad 60), .ref (ad 61), .ref (ad 62), .ref (ad 66), .int xi] : List Value).toArray below meth cd0 H locs 4 24 (MQ below (wQi D cA sh ad (fun r M' => r = 1 ∧ XX σ v M' ∧ LSt σ v M') A) ([.ref (ad 0), .ref (ad 60), .ref (ad 61), .ref (ad 62), .ref (ad 66), .int xi] : List Value).toArray s 40 240 A) (F0 m 249 ls [.int yn]) := by
                intro yn H locs hyn hW ls hl
                refine lv_istore (lv' := [(14, .int yn), (13, .int xk), (12, .int xs), (10, .long z), (9, .int x171'), (8, .int x162'), (7, .int x155'), (6, .int x146'), (0, .ref (ad 0)), (1, .ref (ad 60)), (2, .ref (ad 61)), (3, .ref (ad 62)), (4, .ref (ad 66)), (5, .int xi)]) hx hb dL_isCue_249 hl (by decide) rfl (fun ls hl => ?_)
                refine lv_lload hx hb dL_isCue_251 (lv_at hl 3 rfl) ?_
                have J266 : ∀ (yz : Int64) (H : Heap) (locs : List Loc), (yz = (if zonB σ i k = true then (1 : Int64) <<< ((nI k).toInt64 &&& 63) else 0)) → WS D cA sh ad A s.heap M171' H locs → ∀ ls, lv_has ls 15 [(14, .int yn), (13, .int xk), (12, .int xs), (10, .long z), (9, .int x171'), (8, .int x162'), (7, .int x155'), (6, .int x146'), (0, .ref (ad 0)), (1, .ref (ad 60)), (2, .ref (ad 61)), (3, .ref (ad 62)), (4, .ref (ad 66)), (5, .int xi)] → W p l e (headSpec wsL_isCue { frames := 10, cells := 40, slots := 240, locals := 177 }).room s m ([.ref (ad 0), .ref (ad 60), .ref (ad 61), .ref (ad 62), .ref (ad 66), .int xi] : List Value).toArray below meth cd0 H locs 4 24 (MQ below (wQi D cA sh ad (fun r M' => r = 1 ∧ XX σ v M' ∧ LSt σ v M') A) ([.ref (ad 0), .ref (ad 60), .ref (ad 61), .ref (ad 62), .ref (ad 66), .int xi] : List Value).toArray s 40 240 A) (F0 m 266 ls [.long yz, .long z]) := by
                  intro yz H locs hyz hW ls hl
                  refine lv_lor hx hb dL_isCue_266 ?_
                  refine lv_topl (fun x266' e266' => ?_)
                  refine lv_lstore (lv' := [(10, .long x266'), (14, .int yn), (13, .int xk), (12, .int xs), (9, .int x171'), (8, .int x162'), (7, .int x155'), (6, .int x146'), (0, .ref (ad 0)), (1, .ref (ad 60)), (2, .ref (ad 61)), (3, .ref (ad 62)), (4, .ref (ad 66)), (5, .int xi)]) hx hb dL_isCue_267 hl (by decide) rfl (fun ls hl => ?_)
                  have J291 : ∀ (ys : Int32) (H : Heap) (locs : List Loc), (ys = bI (stkT σ i (k + 1))) → WS D cA sh ad A s.heap M171' H locs → ∀ ls, lv_has ls 15 [(10, .long x266'), (14, .int yn), (13, .int xk), (12, .int xs), (9, .int x171'), (8, .int x162'), (7, .int x155'), (6, .int x146'), (0, .ref (ad 0)), (1, .ref (ad 60)), (2, .ref (ad 61)), (3, .ref (ad 62)), (4, .ref (ad 66)), (5, .int xi)] → W p l e (headSpec wsL_isCue { frames := 10, cells := 40, slots := 240, locals := 177 }).room s m ([.ref (ad 0), .ref (ad 60), .ref (ad 61), .ref (ad 62), .ref (ad 66), .int xi] : List Value).toArray below meth cd0 H locs 4 24 (MQ below (wQi D cA sh ad (fun r M' => r = 1 ∧ XX σ v M' ∧ LSt σ v M') A) ([.ref (ad 0), .ref (ad 60), .ref (ad 61), .ref (ad 62), .ref (ad 66), .int xi] : List Value).toArray s 40 240 A) (F0 m 291 ls [.int ys]) := by
                    intro ys H locs hys hW ls hl
                    refine lv_istore (lv' := [(12, .int ys), (10, .long x266'), (14, .int yn), (13, .int xk), (9, .int x171'), (8, .int x162'), (7, .int x155'), (6, .int x146'), (0, .ref (ad 0)), (1, .ref (ad 60)), (2, .ref (ad 61)), (3, .ref (ad 62)), (4, .ref (ad 66)), (5, .int xi)]) hx hb dL_isCue_291 hl (by decide) rfl (fun ls hl => ?_)
                    obtain ⟨x293', e293'⟩ : ∃ y : Int32, y = xk + 1 := ⟨_, rfl⟩
                    refine lv_iinc (v := x293') (lv' := [(13, .int x293'), (12, .int ys), (10, .long x266'), (14, .int yn), (9, .int x171'), (8, .int x162'), (7, .int x155'), (6, .int x146'), (0, .ref (ad 0)), (1, .ref (ad 60)), (2, .ref (ad 61)), (3, .ref (ad 62)), (4, .ref (ad 66)), (5, .int xi)]) hx hb dL_isCue_293 hl (k := 3) rfl (by rw [e293']; rfl) (by decide) rfl (fun ls hl => ?_)
                    refine lv_goto (tgt := 185) hx hb dL_isCue_296 (by decide) ?_
                    exact ih185 (k + 1) x293' ys x266' _ _ (by omega) (by omega) (by rw [e293', ek, nlit 1, nI_add]) (by rw [e266', hyz]; exact zz_s ez (by omega)) hys hW ls (lv_sub hl [0, 1, 2, 4, 5, 6, 7, 8, 9, 10, 11, 12, 13] rfl)
                  refine lv_iload hx hb dL_isCue_269 (lv_at hl 3 rfl) ?_
                  refine lv_if_ne (tgt := 286) hx hb dL_isCue_271 (by decide) (fun c271' => ?_) (fun c271' => ?_)
                  · refine lv_iconst (v := 1) hx hb dL_isCue_286 (by decide) ?_
                    refine lv_goto (tgt := 291) hx hb dL_isCue_287 (by decide) ?_
                    exact J291 1 _ _ (by
                        rw [stkT_s]
                        first
                        | (rw [show stkT σ i k = true from bI_t.mp (fun z9 => c271' (es.trans z9))]; rfl)
                        | (rw [show stkT σ i k = false from bI_z.mp (es.symm.trans c271'), show zonB σ i k = false from bI_z.mp (hyn.symm.trans c276'), Bool.and_false]; rfl)
                        | (rw [show stkT σ i k = false from bI_z.mp (es.symm.trans c271'), show zonB σ i k = true from bI_t.mp (fun z9 => c276' (hyn.trans z9)), show decide (0 < σ.1 0 k) = false from decide_eq_false (fun z9 => by rw [← hL.2.2.1 k (by omega), ← e282', i32lt] at z9; rw [i32le] at c283'; omega)]; rfl)
                        | (rw [show stkT σ i k = false from bI_z.mp (es.symm.trans c271'), show zonB σ i k = true from bI_t.mp (fun z9 => c276' (hyn.trans z9)), show decide (0 < σ.1 0 k) = true from decide_eq_true (by rw [← hL.2.2.1 k (by omega), ← e282', i32lt]; rw [i32le] at c283'; omega)]; rfl)) hW ls (lv_sub hl [0, 1, 2, 3, 4, 5, 6, 7, 8, 9, 10, 11, 12, 13] rfl)
                  · refine lv_iload hx hb dL_isCue_274 (lv_at hl 1 rfl) ?_
                    refine lv_if_eq (tgt := 290) hx hb dL_isCue_276 (by decide) (fun c276' => ?_) (fun c276' => ?_)
                    · refine lv_iconst (v := 0) hx hb dL_isCue_290 (by decide) ?_
                      exact J291 0 _ _ (by
                          rw [stkT_s]
                          first
                          | (rw [show stkT σ i k = true from bI_t.mp (fun z9 => c271' (es.trans z9))]; rfl)
                          | (rw [show stkT σ i k = false from bI_z.mp (es.symm.trans c271'), show zonB σ i k = false from bI_z.mp (hyn.symm.trans c276'), Bool.and_false]; rfl)
                          | (rw [show stkT σ i k = false from bI_z.mp (es.symm.trans c271'), show zonB σ i k = true from bI_t.mp (fun z9 => c276' (hyn.trans z9)), show decide (0 < σ.1 0 k) = false from decide_eq_false (fun z9 => by rw [← hL.2.2.1 k (by omega), ← e282', i32lt] at z9; rw [i32le] at c283'; omega)]; rfl)
                          | (rw [show stkT σ i k = false from bI_z.mp (es.symm.trans c271'), show zonB σ i k = true from bI_t.mp (fun z9 => c276' (hyn.trans z9)), show decide (0 < σ.1 0 k) = true from decide_eq_true (by rw [← hL.2.2.1 k (by omega), ← e282', i32lt]; rw [i32le] at c283'; omega)]; rfl)) hW ls (lv_sub hl [0, 1, 2, 3, 4, 5, 6, 7, 8, 9, 10, 11, 12, 13] rfl)
                    · refine lv_aload_n hx hb dL_isCue_279 rfl (lv_at hl 11 rfl) ?_
                      refine lv_iload hx hb dL_isCue_280 (lv_at hl 2 rfl) ?_
                      refine walI (j := k) hx hb hK hW (hMs 62 (by decide) (by decide)) ek (by omega) (by decide) dL_isCue_282 (fun x282' e282' => ?_)
                      refine lv_if_le (tgt := 290) hx hb dL_isCue_283 (by decide) (fun c283' => ?_) (fun c283' => ?_)
                      · refine lv_iconst (v := 0) hx hb dL_isCue_290 (by decide) ?_
                        exact J291 0 _ _ (by
                            rw [stkT_s]
                            first
                            | (rw [show stkT σ i k = true from bI_t.mp (fun z9 => c271' (es.trans z9))]; rfl)
                            | (rw [show stkT σ i k = false from bI_z.mp (es.symm.trans c271'), show zonB σ i k = false from bI_z.mp (hyn.symm.trans c276'), Bool.and_false]; rfl)
                            | (rw [show stkT σ i k = false from bI_z.mp (es.symm.trans c271'), show zonB σ i k = true from bI_t.mp (fun z9 => c276' (hyn.trans z9)), show decide (0 < σ.1 0 k) = false from decide_eq_false (fun z9 => by rw [← hL.2.2.1 k (by omega), ← e282', i32lt] at z9; rw [i32le] at c283'; omega)]; rfl)
                            | (rw [show stkT σ i k = false from bI_z.mp (es.symm.trans c271'), show zonB σ i k = true from bI_t.mp (fun z9 => c276' (hyn.trans z9)), show decide (0 < σ.1 0 k) = true from decide_eq_true (by rw [← hL.2.2.1 k (by omega), ← e282', i32lt]; rw [i32le] at c283'; omega)]; rfl)) hW ls (lv_sub hl [0, 1, 2, 3, 4, 5, 6, 7, 8, 9, 10, 11, 12, 13] rfl)
                      · refine lv_iconst (v := 1) hx hb dL_isCue_286 (by decide) ?_
                        refine lv_goto (tgt := 291) hx hb dL_isCue_287 (by decide) ?_
                        exact J291 1 _ _ (by
                            rw [stkT_s]
                            first
                            | (rw [show stkT σ i k = true from bI_t.mp (fun z9 => c271' (es.trans z9))]; rfl)
                            | (rw [show stkT σ i k = false from bI_z.mp (es.symm.trans c271'), show zonB σ i k = false from bI_z.mp (hyn.symm.trans c276'), Bool.and_false]; rfl)
                            | (rw [show stkT σ i k = false from bI_z.mp (es.symm.trans c271'), show zonB σ i k = true from bI_t.mp (fun z9 => c276' (hyn.trans z9)), show decide (0 < σ.1 0 k) = false from decide_eq_false (fun z9 => by rw [← hL.2.2.1 k (by omega), ← e282', i32lt] at z9; rw [i32le] at c283'; omega)]; rfl)
                            | (rw [show stkT σ i k = false from bI_z.mp (es.symm.trans c271'), show zonB σ i k = true from bI_t.mp (fun z9 => c276' (hyn.trans z9)), show decide (0 < σ.1 0 k) = true from decide_eq_true (by rw [← hL.2.2.1 k (by omega), ← e282', i32lt]; rw [i32le] at c283'; omega)]; rfl)) hW ls (lv_sub hl [0, 1, 2, 3, 4, 5, 6, 7, 8, 9, 10, 11, 12, 13] rfl)
                refine lv_iload hx hb dL_isCue_253 (lv_at hl 0 rfl) ?_
                refine lv_if_eq (tgt := 265) hx hb dL_isCue_255 (by decide) (fun c255' => ?_) (fun c255' => ?_)
                · refine lv_lconst (v := 0) hx hb dL_isCue_265 (by decide) ?_
                  exact J266 0 _ _ (by
                      first
                      | exact (ifB_f (bI_z.mp (hyn.symm.trans c255'))).symm
                      | (rw [ifB_t (bI_t.mp (fun z9 => c255' (hyn.trans z9))), e261', ek])) hW ls (lv_sub hl [0, 1, 2, 3, 4, 5, 6, 7, 8, 9, 10, 11, 12, 13] rfl)
                · refine lv_lconst (v := 1) hx hb dL_isCue_258 (by decide) ?_
                  refine lv_iload hx hb dL_isCue_259 (lv_at hl 1 rfl) ?_
                  refine lv_lshl hx hb dL_isCue_261 rfl ?_
                  refine lv_topl (fun x261' e261' => ?_)
                  refine lv_goto (tgt := 266) hx hb dL_isCue_262 (by decide) ?_
                  exact J266 x261' _ _ (by
                      first
                      | exact (ifB_f (bI_z.mp (hyn.symm.trans c255'))).symm
                      | (rw [ifB_t (bI_t.mp (fun z9 => c255' (hyn.trans z9))), e261', ek])) hW ls (lv_sub hl [0, 1, 2, 3, 4, 5, 6, 7, 8, 9, 10, 11, 12, 13] rfl)
              refine lv_iload hx hb dL_isCue_192 (lv_at hl 0 rfl) ?_
              refine lv_bipush (v := 8) hx hb dL_isCue_194 (by decide) ?_
              refine lv_irem hx hb dL_isCue_196 (by decide) ?_
              refine lv_topi (fun x196' e196' => ?_)
              have n196' : x196' = nI (k % 8) := (by rw [e196', ek, (nlit 8)]; exact pk_rem (by omega) (by omega) (by omega))
              refine lv_iload hx hb dL_isCue_197 (lv_at hl 4 rfl) ?_
              refine lv_isub hx hb dL_isCue_199 ?_
              refine lv_topi (fun x199' e199' => ?_)
              refine lv_iload hx hb dL_isCue_200 (lv_at hl 5 rfl) ?_
              refine lv_icmp_gt (tgt := 248) hx hb dL_isCue_202 (by decide) (fun c202' => ?_) (fun c202' => ?_)
              · refine lv_iconst (v := 0) hx hb dL_isCue_248 (by decide) ?_
                exact J249 0 _ _ (by
                    first
                    | exact near_n ok hi9 (by omega) ec el ef c202' (Or.inl (by rw [e199', n196']))
                    | exact near_n ok hi9 (by omega) ec el ef c215' (Or.inr (Or.inl (by rw [e212', n211'])))
                    | exact near_n ok hi9 (by omega) ec el ef c228' (Or.inr (Or.inr (Or.inl (by rw [e225', n222']))))
                    | exact near_n ok hi9 (by omega) ec el ef c241' (Or.inr (Or.inr (Or.inr (by rw [e238', n237']))))
                    | exact near_y ok hi9 (by omega) ec el ef (by rw [e199', n196']) (by rw [e212', n211']) (by rw [e225', n222']) (by rw [e238', n237']) c202' c215' c228' c241') hW ls (lv_sub hl [0, 1, 2, 3, 4, 5, 6, 7, 8, 9, 10, 11, 12] rfl)
              · refine lv_iload hx hb dL_isCue_205 (lv_at hl 4 rfl) ?_
                refine lv_iload hx hb dL_isCue_207 (lv_at hl 0 rfl) ?_
                refine lv_bipush (v := 8) hx hb dL_isCue_209 (by decide) ?_
                refine lv_irem hx hb dL_isCue_211 (by decide) ?_
                refine lv_topi (fun x211' e211' => ?_)
                have n211' : x211' = nI (k % 8) := (by rw [e211', ek, (nlit 8)]; exact pk_rem (by omega) (by omega) (by omega))
                refine lv_isub hx hb dL_isCue_212 ?_
                refine lv_topi (fun x212' e212' => ?_)
                refine lv_iload hx hb dL_isCue_213 (lv_at hl 5 rfl) ?_
                refine lv_icmp_gt (tgt := 248) hx hb dL_isCue_215 (by decide) (fun c215' => ?_) (fun c215' => ?_)
                · refine lv_iconst (v := 0) hx hb dL_isCue_248 (by decide) ?_
                  exact J249 0 _ _ (by
                      first
                      | exact near_n ok hi9 (by omega) ec el ef c202' (Or.inl (by rw [e199', n196']))
                      | exact near_n ok hi9 (by omega) ec el ef c215' (Or.inr (Or.inl (by rw [e212', n211'])))
                      | exact near_n ok hi9 (by omega) ec el ef c228' (Or.inr (Or.inr (Or.inl (by rw [e225', n222']))))
                      | exact near_n ok hi9 (by omega) ec el ef c241' (Or.inr (Or.inr (Or.inr (by rw [e238', n237']))))
                      | exact near_y ok hi9 (by omega) ec el ef (by rw [e199', n196']) (by rw [e212', n211']) (by rw [e225', n222']) (by rw [e238', n237']) c202' c215' c228' c241') hW ls (lv_sub hl [0, 1, 2, 3, 4, 5, 6, 7, 8, 9, 10, 11, 12] rfl)
                · refine lv_iload hx hb dL_isCue_218 (lv_at hl 0 rfl) ?_
                  refine lv_bipush (v := 8) hx hb dL_isCue_220 (by decide) ?_
                  refine lv_idiv hx hb dL_isCue_222 (by decide) ?_
                  refine lv_topi (fun x222' e222' => ?_)
                  have n222' : x222' = nI (k / 8) := (by rw [e222', ek, (nlit 8)]; exact pk_div (by omega) (by omega) (by omega))
                  refine lv_iload hx hb dL_isCue_223 (lv_at hl 3 rfl) ?_
                  refine lv_isub hx hb dL_isCue_225 ?_
                  refine lv_topi (fun x225' e225' => ?_)
                  refine lv_iload hx hb dL_isCue_226 (lv_at hl 5 rfl) ?_
                  refine lv_icmp_gt (tgt := 248) hx hb dL_isCue_228 (by decide) (fun c228' => ?_) (fun c228' => ?_)
                  · refine lv_iconst (v := 0) hx hb dL_isCue_248 (by decide) ?_
                    exact J249 0 _ _ (by
                        first
                        | exact near_n ok hi9 (by omega) ec el ef c202' (Or.inl (by rw [e199', n196']))
                        | exact near_n ok hi9 (by omega) ec el ef c215' (Or.inr (Or.inl (by rw [e212', n211'])))
                        | exact near_n ok hi9 (by omega) ec el ef c228' (Or.inr (Or.inr (Or.inl (by rw [e225', n222']))))
                        | exact near_n ok hi9 (by omega) ec el ef c241' (Or.inr (Or.inr (Or.inr (by rw [e238', n237']))))
                        | exact near_y ok hi9 (by omega) ec el ef (by rw [e199', n196']) (by rw [e212', n211']) (by rw [e225', n222']) (by rw [e238', n237']) c202' c215' c228' c241') hW ls (lv_sub hl [0, 1, 2, 3, 4, 5, 6, 7, 8, 9, 10, 11, 12] rfl)
                  · refine lv_iload hx hb dL_isCue_231 (lv_at hl 3 rfl) ?_
                    refine lv_iload hx hb dL_isCue_233 (lv_at hl 0 rfl) ?_
                    refine lv_bipush (v := 8) hx hb dL_isCue_235 (by decide) ?_
                    refine lv_idiv hx hb dL_isCue_237 (by decide) ?_
                    refine lv_topi (fun x237' e237' => ?_)
                    have n237' : x237' = nI (k / 8) := (by rw [e237', ek, (nlit 8)]; exact pk_div (by omega) (by omega) (by omega))
                    refine lv_isub hx hb dL_isCue_238 ?_
                    refine lv_topi (fun x238' e238' => ?_)
                    refine lv_iload hx hb dL_isCue_239 (lv_at hl 5 rfl) ?_
                    refine lv_icmp_gt (tgt := 248) hx hb dL_isCue_241 (by decide) (fun c241' => ?_) (fun c241' => ?_)
                    · refine lv_iconst (v := 0) hx hb dL_isCue_248 (by decide) ?_
                      exact J249 0 _ _ (by
                          first
                          | exact near_n ok hi9 (by omega) ec el ef c202' (Or.inl (by rw [e199', n196']))
                          | exact near_n ok hi9 (by omega) ec el ef c215' (Or.inr (Or.inl (by rw [e212', n211'])))
                          | exact near_n ok hi9 (by omega) ec el ef c228' (Or.inr (Or.inr (Or.inl (by rw [e225', n222']))))
                          | exact near_n ok hi9 (by omega) ec el ef c241' (Or.inr (Or.inr (Or.inr (by rw [e238', n237']))))
                          | exact near_y ok hi9 (by omega) ec el ef (by rw [e199', n196']) (by rw [e212', n211']) (by rw [e225', n222']) (by rw [e238', n237']) c202' c215' c228' c241') hW ls (lv_sub hl [0, 1, 2, 3, 4, 5, 6, 7, 8, 9, 10, 11, 12] rfl)
                    · refine lv_iconst (v := 1) hx hb dL_isCue_244 (by decide) ?_
                      refine lv_goto (tgt := 249) hx hb dL_isCue_245 (by decide) ?_
                      exact J249 1 _ _ (by
                          first
                          | exact near_n ok hi9 (by omega) ec el ef c202' (Or.inl (by rw [e199', n196']))
                          | exact near_n ok hi9 (by omega) ec el ef c215' (Or.inr (Or.inl (by rw [e212', n211'])))
                          | exact near_n ok hi9 (by omega) ec el ef c228' (Or.inr (Or.inr (Or.inl (by rw [e225', n222']))))
                          | exact near_n ok hi9 (by omega) ec el ef c241' (Or.inr (Or.inr (Or.inr (by rw [e238', n237']))))
                          | exact near_y ok hi9 (by omega) ec el ef (by rw [e199', n196']) (by rw [e212', n211']) (by rw [e225', n222']) (by rw [e238', n237']) c202' c215' c228' c241') hW ls (lv_sub hl [0, 1, 2, 3, 4, 5, 6, 7, 8, 9, 10, 11, 12] rfl)
        exact L185 (_ + 1) 0 0 0 0 _ _ (Nat.lt_succ_self _) (Nat.zero_le _) rfl (fun j _ => by simp [bitL_0]) rfl hW ls (lv_sub hl [0, 1, 2, 3, 4, 5, 6, 7, 8, 9, 10, 11, 12] rfl)
      · have k21' : ¬ (ccN σ i) ≤ 4095 := kc_len n17' (nlit 4095) (by omega) (by omega) c21'
        have hcu : cuB σ xi = false := cu_n o1 ei (by omega) (fun z => by have := hcc.2.1.mpr z.2; omega)
        refine lv_aload_n hx hb dL_isCue_24 rfl (lv_at hl 0 rfl) ?_
        refine lv_iload hx hb dL_isCue_25 (lv_at hl 5 rfl) ?_
        refine wc_wiN (vx_runSW (As := [.ref (ad 0), .int xi]) (rest := []) ⟨hx, hb, hml, hown, hts⟩ (c_L_becomes l hl9 D cA sh ad M _ σ v hX hXX xi q c hs ) (vx_cwSW 2 hts gL_isCue_L_becomes rfl rfl rfl (by decide +kernel) ⟨Nat.le_of_ble_eq_true rfl, Nat.le_of_ble_eq_true rfl⟩) (lpreS hK hA hW hE hZ hE2) rfl rfl hl.1 rfl (lv_room (Nat.le_of_ble_eq_true rfl)) dL_isCue_27 ⟨Nat.le_of_ble_eq_true rfl, Nat.le_of_ble_eq_true rfl⟩) hA hW (fun x27' M27' H locs p27' hW => ?_)
        try dsimp only at p27'
        obtain ⟨kp27, hXX, r27⟩ := p27'
        have hL := hL.kp kp27
        rw [ifB_f hcu] at r27
        refine lv_ldc (v := (-1000001)) hx hb hown (hts (.constant RL 51 (-1000001)) (List.mem_of_getElem? (i := 1) rfl)) dL_isCue_30 ?_
        refine lv_icmp_ne (tgt := 135) hx hb dL_isCue_32 (by decide) (fun c32' => ?_) (fun c32' => ?_)
        · exact ((c32' r27)).elim
        · refine lv_aload_n hx hb dL_isCue_35 rfl (lv_at hl 0 rfl) ?_
          refine lv_iload hx hb dL_isCue_36 (lv_at hl 5 rfl) ?_
          refine wc_wiN (vx_runSW (As := [.ref (ad 0), .int xi]) (rest := []) ⟨hx, hb, hml, hown, hts⟩ (c_L_bursts l hl9 D cA sh ad M27' _ σ v hX hXX xi ) (vx_cwSW 2 hts gL_isCue_L_bursts rfl rfl rfl (by decide +kernel) ⟨Nat.le_of_ble_eq_true rfl, Nat.le_of_ble_eq_true rfl⟩) (lpreS hK hA hW hE hZ hE2) rfl rfl hl.1 rfl (lv_room (Nat.le_of_ble_eq_true rfl)) dL_isCue_38 ⟨Nat.le_of_ble_eq_true rfl, Nat.le_of_ble_eq_true rfl⟩) hA hW (fun x38' M38' H locs p38' hW => ?_)
          try dsimp only at p38'
          obtain ⟨kp38, hXX, r38⟩ := p38'
          have hL := hL.kp kp38
          rw [ifB_f hcu] at r38
          refine lv_ldc (v := (-1000001)) hx hb hown (hts (.constant RL 51 (-1000001)) (List.mem_of_getElem? (i := 1) rfl)) dL_isCue_41 ?_
          refine lv_icmp_ne (tgt := 135) hx hb dL_isCue_43 (by decide) (fun c43' => ?_) (fun c43' => ?_)
          · exact ((c43' r38)).elim
          · refine lv_aload_n hx hb dL_isCue_46 rfl (lv_at hl 0 rfl) ?_
            refine lv_iload hx hb dL_isCue_47 (lv_at hl 5 rfl) ?_
            refine wc_wiN (vx_runSW (As := [.ref (ad 0), .int xi]) (rest := []) ⟨hx, hb, hml, hown, hts⟩ (c_L_fires l hl9 D cA sh ad M38' _ σ v hX hXX xi ) (vx_cwSW 2 hts gL_isCue_L_fires rfl rfl rfl (by decide +kernel) ⟨Nat.le_of_ble_eq_true rfl, Nat.le_of_ble_eq_true rfl⟩) (lpreS hK hA hW hE hZ hE2) rfl rfl hl.1 rfl (lv_room (Nat.le_of_ble_eq_true rfl)) dL_isCue_49 ⟨Nat.le_of_ble_eq_true rfl, Nat.le_of_ble_eq_true rfl⟩) hA hW (fun x49' M49' H locs p49' hW => ?_)
            try dsimp only at p49'
            obtain ⟨kp49, hXX, r49⟩ := p49'
            have hL := hL.kp kp49
            rw [ifB_f hcu] at r49
            refine lv_ldc (v := (-1000001)) hx hb hown (hts (.constant RL 51 (-1000001)) (List.mem_of_getElem? (i := 1) rfl)) dL_isCue_52 ?_
            refine lv_icmp_ne (tgt := 135) hx hb dL_isCue_54 (by decide) (fun c54' => ?_) (fun c54' => ?_)
            · exact ((c54' r49)).elim
            · refine lv_aload_n hx hb dL_isCue_57 rfl (lv_at hl 0 rfl) ?_
              refine lv_iload hx hb dL_isCue_58 (lv_at hl 5 rfl) ?_
              refine lv_bipush (v := 9) hx hb dL_isCue_60 (by decide) ?_
              refine wc_wiN (vx_runSW (As := [.ref (ad 0), .int xi, .int 9]) (rest := []) ⟨hx, hb, hml, hown, hts⟩ (c_L_falls l hl9 D cA sh ad M49' _ σ v hX hXX xi 9 ) (vx_cwSW 3 hts gL_isCue_L_falls rfl rfl rfl (by decide +kernel) ⟨Nat.le_of_ble_eq_true rfl, Nat.le_of_ble_eq_true rfl⟩) (lpreS hK hA hW hE hZ hE2) rfl rfl hl.1 rfl (lv_room (Nat.le_of_ble_eq_true rfl)) dL_isCue_62 ⟨Nat.le_of_ble_eq_true rfl, Nat.le_of_ble_eq_true rfl⟩) hA hW (fun x62' M62' H locs p62' hW => ?_)
              try dsimp only at p62'
              obtain ⟨kp62, hXX, r62⟩ := p62'
              have hL := hL.kp kp62
              rw [ifB_f hcu] at r62
              refine lv_ldc (v := (-1000001)) hx hb hown (hts (.constant RL 51 (-1000001)) (List.mem_of_getElem? (i := 1) rfl)) dL_isCue_65 ?_
              refine lv_icmp_ne (tgt := 135) hx hb dL_isCue_67 (by decide) (fun c67' => ?_) (fun c67' => ?_)
              · exact ((c67' r62)).elim
              · refine lv_aload_n hx hb dL_isCue_70 rfl (lv_at hl 0 rfl) ?_
                refine lv_iload hx hb dL_isCue_71 (lv_at hl 5 rfl) ?_
                refine lv_bipush (v := 9) hx hb dL_isCue_73 (by decide) ?_
                refine wc_wiN (vx_runSW (As := [.ref (ad 0), .int xi, .int 9]) (rest := []) ⟨hx, hb, hml, hown, hts⟩ (c_L_fallsBySteps l hl9 D cA sh ad M62' _ σ v hX hXX xi 9 ) (vx_cwSW 3 hts gL_isCue_L_fallsBySteps rfl rfl rfl (by decide +kernel) ⟨Nat.le_of_ble_eq_true rfl, Nat.le_of_ble_eq_true rfl⟩) (lpreS hK hA hW hE hZ hE2) rfl rfl hl.1 rfl (lv_room (Nat.le_of_ble_eq_true rfl)) dL_isCue_75 ⟨Nat.le_of_ble_eq_true rfl, Nat.le_of_ble_eq_true rfl⟩) hA hW (fun x75' M75' H locs p75' hW => ?_)
                try dsimp only at p75'
                obtain ⟨kp75, hXX, r75⟩ := p75'
                have hL := hL.kp kp75
                rw [ifB_f hcu] at r75
                refine lv_ldc (v := (-1000001)) hx hb hown (hts (.constant RL 51 (-1000001)) (List.mem_of_getElem? (i := 1) rfl)) dL_isCue_78 ?_
                refine lv_icmp_ne (tgt := 135) hx hb dL_isCue_80 (by decide) (fun c80' => ?_) (fun c80' => ?_)
                · exact ((c80' r75)).elim
                · refine lv_aload_n hx hb dL_isCue_83 rfl (lv_at hl 0 rfl) ?_
                  refine lv_iload hx hb dL_isCue_84 (lv_at hl 5 rfl) ?_
                  refine lv_bipush (v := 9) hx hb dL_isCue_86 (by decide) ?_
                  refine wc_wiN (vx_runSW (As := [.ref (ad 0), .int xi, .int 9]) (rest := []) ⟨hx, hb, hml, hown, hts⟩ (c_L_burstAt l hl9 D cA sh ad M75' _ σ v hX hXX xi 9 ) (vx_cwSW 3 hts gL_isCue_L_burstAt rfl rfl rfl (by decide +kernel) ⟨Nat.le_of_ble_eq_true rfl, Nat.le_of_ble_eq_true rfl⟩) (lpreS hK hA hW hE hZ hE2) rfl rfl hl.1 rfl (lv_room (Nat.le_of_ble_eq_true rfl)) dL_isCue_88 ⟨Nat.le_of_ble_eq_true rfl, Nat.le_of_ble_eq_true rfl⟩) hA hW (fun x88' M88' H locs p88' hW => ?_)
                  try dsimp only at p88'
                  obtain ⟨kp88, hXX, r88⟩ := p88'
                  have hL := hL.kp kp88
                  rw [ifB_f hcu] at r88
                  refine lv_ldc (v := (-1000001)) hx hb hown (hts (.constant RL 51 (-1000001)) (List.mem_of_getElem? (i := 1) rfl)) dL_isCue_91 ?_
                  refine lv_icmp_ne (tgt := 135) hx hb dL_isCue_93 (by decide) (fun c93' => ?_) (fun c93' => ?_)
                  · exact ((c93' r88)).elim
                  · refine lv_aload_n hx hb dL_isCue_96 rfl (lv_at hl 0 rfl) ?_
                    refine lv_iload hx hb dL_isCue_97 (lv_at hl 5 rfl) ?_
                    refine wc_wlN (vx_runSW (As := [.ref (ad 0), .int xi]) (rest := []) ⟨hx, hb, hml, hown, hts⟩ (c_L_danger l hl9 D cA sh ad M88' _ σ v hX hXX xi ) (vx_cwSW 2 hts gL_isCue_L_danger rfl rfl rfl (by decide +kernel) ⟨Nat.le_of_ble_eq_true rfl, Nat.le_of_ble_eq_true rfl⟩) (lpreS hK hA hW hE hZ hE2) rfl rfl hl.1 rfl (lv_room (Nat.le_of_ble_eq_true rfl)) dL_isCue_99 ⟨Nat.le_of_ble_eq_true rfl, Nat.le_of_ble_eq_true rfl⟩) hA hW (fun x99' M99' H locs p99' hW => ?_)
                    try dsimp only at p99'
                    obtain ⟨kp99, hXX, r99⟩ := p99'
                    have hL := hL.kp kp99
                    have r99 := or_no r99 hcu
                    refine lv_ldc2 (v := (-1000001)) hx hb hown (hts (.constantLong RL 99 (-1000001)) (List.mem_of_getElem? (i := 2) rfl)) dL_isCue_102 ?_
                    refine W.lcmp hx hb dL_isCue_105 ?_
                    refine lv_topi (fun x105' e105' => ?_)
                    refine lv_if_ne (tgt := 135) hx hb dL_isCue_106 (by decide) (fun c106' => ?_) (fun c106' => ?_)
                    · exact ((c106' (by rw [e105', r99]; exact lg_self _))).elim
                    · refine lv_aload_n hx hb dL_isCue_109 rfl (lv_at hl 0 rfl) ?_
                      refine lv_iload hx hb dL_isCue_110 (lv_at hl 5 rfl) ?_
                      refine wc_wiN (vx_runSW (As := [.ref (ad 0), .int xi]) (rest := []) ⟨hx, hb, hml, hown, hts⟩ (c_L_channelOf l hl9 D cA sh ad M99' _ σ v hX hXX xi q c hs ) (vx_cwSW 2 hts gL_isCue_L_channelOf rfl rfl rfl (by decide +kernel) ⟨Nat.le_of_ble_eq_true rfl, Nat.le_of_ble_eq_true rfl⟩) (lpreS hK hA hW hE hZ hE2) rfl rfl hl.1 rfl (lv_room (Nat.le_of_ble_eq_true rfl)) dL_isCue_112 ⟨Nat.le_of_ble_eq_true rfl, Nat.le_of_ble_eq_true rfl⟩) hA hW (fun x112' M112' H locs p112' hW => ?_)
                      try dsimp only at p112'
                      obtain ⟨kp112, hXX, r112⟩ := p112'
                      have hL := hL.kp kp112
                      rw [ifB_f hcu] at r112
                      refine lv_ldc (v := (-1000001)) hx hb hown (hts (.constant RL 51 (-1000001)) (List.mem_of_getElem? (i := 1) rfl)) dL_isCue_115 ?_
                      refine lv_icmp_ne (tgt := 135) hx hb dL_isCue_117 (by decide) (fun c117' => ?_) (fun c117' => ?_)
                      · exact ((c117' r112)).elim
                      · refine lv_aload_n hx hb dL_isCue_120 rfl (lv_at hl 0 rfl) ?_
                        refine lv_iload hx hb dL_isCue_121 (lv_at hl 5 rfl) ?_
                        refine wc_wiN (vx_runSW (As := [.ref (ad 0), .int xi]) (rest := []) ⟨hx, hb, hml, hown, hts⟩ (c_L_price l hl9 D cA sh ad M112' _ σ v hX hXX xi q c hs ) (vx_cwSW 2 hts gL_isCue_L_price rfl rfl rfl (by decide +kernel) ⟨Nat.le_of_ble_eq_true rfl, Nat.le_of_ble_eq_true rfl⟩) (lpreS hK hA hW hE hZ hE2) rfl rfl hl.1 rfl (lv_room (Nat.le_of_ble_eq_true rfl)) dL_isCue_123 ⟨Nat.le_of_ble_eq_true rfl, Nat.le_of_ble_eq_true rfl⟩) hA hW (fun x123' M123' H locs p123' hW => ?_)
                        try dsimp only at p123'
                        obtain ⟨kp123, hXX, r123⟩ := p123'
                        have hL := hL.kp kp123
                        rw [ifB_f hcu] at r123
                        refine lv_ldc (v := (-1000001)) hx hb hown (hts (.constant RL 51 (-1000001)) (List.mem_of_getElem? (i := 1) rfl)) dL_isCue_126 ?_
                        refine lv_icmp_ne (tgt := 135) hx hb dL_isCue_128 (by decide) (fun c128' => ?_) (fun c128' => ?_)
                        · exact ((c128' r123)).elim
                        · refine lv_iconst (v := 1) hx hb dL_isCue_131 (by decide) ?_
                          refine lv_goto (tgt := 136) hx hb dL_isCue_132 (by decide) ?_
                          refine W.widen (k := 40) (n := 240) (by decide) (by decide) ?_
                          exact wr_wz hx hb hr hlocks hW dL_isCue_136 rfl ⟨rfl, hXX, hL⟩

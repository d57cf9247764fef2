/-! sets. -/
theorem wr_lz {p : Program} {l : Launch} {e : Env} {R : Room} {s : State} {m : MethodId} {args : Array Value} {below : List Frame} {meth : Method} {c : Code} {H : Heap} {locs : List Loc} {cells slots : Nat} {cc : ByteArray} {pc : Nat} {ls : Array Slot} {D : va_G} {cA : Nat → ClassId} {sh : Nat → Option Sh} {ad : Nat → Nat} {A : Nat → Prop} {M : MS}
    {sh0 : Nat → Option Sh} {ad0 : Nat → Nat} {post : Int32 → (Nat → Option Sh) → MS → Prop} {x : Int32} (hexec : p.tables.exec = Jvm.exec) (hb : c.code = cc) (hr : meth.sig.returnType = some .boolean) (hlocks : meth.locks = false) (hW : WS D cA sh ad A s.heap M H locs) (hdg : decode cc pc = .ok (.ireturn, 1)) (hn : narrow .boolean (.int x) = .int x) (hG : GR sh0 ad0 s.heap.size sh ad) (hp : post x sh M) :
    W p l e R s m args below meth c H locs cells slots (MQ below (lQc D cA sh0 ad0 s.heap.size post A) args s cells slots A) (F0 m pc ls [.int x]) :=
  W.zret (v := x) hexec hb hr hn (fun t ht _ => ⟨⟨x, (sh, ad, M), rfl, ⟨hG, hp⟩, (show WM D cA sh ad M t.heap by rw [ht]; exact hW.1)⟩, hW.2.F ht⟩) hW.2.2.2 hdg hlocks
set_option maxHeartbeats 4000000 in
set_option maxRecDepth 100000 in
theorem c_L_sets (l : Launch) (hl9 : l.stackTraces = false) (D : va_G) (cA : Nat → ClassId) (sh : Nat → Option Sh) (ad : Nat → Nat) (M : MS) (sz : Nat) (σ : AS) (v : VT) (hsh : sh = shL (aN σ)) (hXX : XX σ v M) (hL : LSt σ v M) (xa xb : Int32) : Met l yL_sets wsL_sets ({ frames := 10, cells := 90, slots := 600, locals := 176 }) (lPc D cA sh ad M sz [.ref (ad 0), .ref (ad 60), .ref (ad 61), .ref (ad 62), .ref (ad 63), .ref (ad 64), .ref (ad 65), .ref (ad 66), .int xa, .int xb]) (lQc D cA sh ad sz (fun r sh' M' => r = 1 ∧ ∃ σ' v', sh' = shL (aN σ') ∧ XX σ' v' M' ∧ LSt σ' v' M') (wA sh ad sz)) 90 600 (wA sh ad sz) := by
  refine Met.ofW (cc := cL_sets) (maxL := 17) (ret := (some .boolean)) (by decide) rfl ?_
  intro p e s m args below meth cd0 s₁ B hml hv
  obtain ⟨rfl, hsz, hM, hK, hE, hZ, hE2⟩ := hv
  have hx := B.exec
  have hb := B.bytes
  have hr := B.returns
  have hts := atoms_spec (ws := wsL_sets) B.pre
  have hown : s.vm.findClass RL = some m.cls := findClass_of_methodNamed B.named
  have hlocks := B.notSynchronized
  subst hsz
  have hA := wA_PA sh ad s.heap
  generalize wA sh ad s.heap.size = A at hA hZ ⊢
  have hW : WS D cA sh ad A s.heap M s.heap [] := ⟨hM, va_S.rf⟩
  have hl := lv_entry ([.ref (ad 0), .ref (ad 60), .ref (ad 61), .ref (ad 62), .ref (ad 63), .ref (ad 64), .ref (ad 65), .ref (ad 66), .int xa, .int xb]) (n := 17) (Nat.le_of_ble_eq_true rfl)
  rw [lg_entry_eq]
  generalize (lg_sl ([.ref (ad 0), .ref (ad 60), .ref (ad 61), .ref (ad 62), .ref (ad 63), .ref (ad 64), .ref (ad 65), .ref (ad 66), .int xa, .int xb]) ++ List.replicate (17 - (lg_sl ([.ref (ad 0), .ref (ad 60), .ref (ad 61), .ref (ad 62), .ref (ad 63), .ref (ad 64), .ref (ad 65), .ref (ad 66), .int xa, .int xb])).length) Slot.unset).toArray = ls at hl ⊢
  have hl : lv_has ls 17 [(0, .ref (ad 0)), (1, .ref (ad 60)), (2, .ref (ad 61)), (3, .ref (ad 62)), (4, .ref (ad 63)), (5, .ref (ad 64)), (6, .ref (ad 65)), (7, .ref (ad 66)), (8, .int xa), (9, .int xb)] := hl
  have hX : XSh (aN σ) sh := by rw [hsh]; exact shL_X _
  have hMs : LSh sh := by rw [hsh]; exact shL_LSh _
  obtain ⟨ok, -⟩ := id hXX
  have o1 := ok.1
  obtain ⟨q, c, hs⟩ := srt_ex σ 40
  have hL0 := hL
  generalize hQ9 : (lQc D cA sh ad s.heap.size (fun r sh' M' => r = 1 ∧ ∃ σ' v', sh' = shL (aN σ') ∧ XX σ' v' M' ∧ LSt σ' v' M') A) = Q9
  generalize hae : ([.ref (ad 0), .ref (ad 60), .ref (ad 61), .ref (ad 62), .ref (ad 63), .ref (ad 64), .ref (ad 65), .ref (ad 66), .int xa, .int xb] : List Value).toArray = ar at hts ⊢
  refine lv_iload hx hb dL_sets_0 (lv_at hl 8 rfl) ?_
  refine lv_bipush (v := 12) hx hb dL_sets_2 (by decide) ?_
  refine wc_ri (va_runS (As := [.int xa, .int 12]) (rest := []) ⟨hx, hb, hml, hown, hts⟩ (c_L_low l xa 12 (by decide)) (va_cwS 2 hts gL_sets_L_low rfl rfl rfl (by decide +kernel) ⟨Nat.le_of_ble_eq_true rfl, Nat.le_of_ble_eq_true rfl⟩) npreS rfl rfl hl.1 rfl (lv_room (Nat.le_of_ble_eq_true rfl)) dL_sets_4 ⟨Nat.le_of_ble_eq_true rfl, Nat.le_of_ble_eq_true rfl⟩) hW (fun x4' H locs p4' hW => ?_)
  try dsimp only at p4'
  obtain ⟨kn, hkn, ekn⟩ := low_n xa (n := 12) (by decide) (by decide)
  have r4 : x4' = nI kn := p4'.trans ekn
  have n4' : x4' = nI kn := r4
  refine lv_istore (lv' := [(10, .int x4'), (0, .ref (ad 0)), (1, .ref (ad 60)), (2, .ref (ad 61)), (3, .ref (ad 62)), (4, .ref (ad 63)), (5, .ref (ad 64)), (6, .ref (ad 65)), (7, .ref (ad 66)), (8, .int xa), (9, .int xb)]) hx hb dL_sets_7 hl (by decide) rfl (fun ls hl => ?_)
  refine lv_iload hx hb dL_sets_9 (lv_at hl 10 rfl) ?_
  refine lv_bipush (v := 8) hx hb dL_sets_11 (by decide) ?_
  refine wc_ri (va_runS (As := [.int xb, .int 8]) (rest := []) ⟨hx, hb, hml, hown, hts⟩ (c_L_low l xb 8 (by decide)) (va_cwS 2 hts gL_sets_L_low rfl rfl rfl (by decide +kernel) ⟨Nat.le_of_ble_eq_true rfl, Nat.le_of_ble_eq_true rfl⟩) npreS rfl rfl hl.1 rfl (lv_room (Nat.le_of_ble_eq_true rfl)) dL_sets_13 ⟨Nat.le_of_ble_eq_true rfl, Nat.le_of_ble_eq_true rfl⟩) hW (fun x13' H locs p13' hW => ?_)
  try dsimp only at p13'
  obtain ⟨cl, hcl, ecl⟩ := low_n xb (n := 8) (by decide) (by decide)
  have r13 : x13' = nI cl := p13'.trans ecl
  have n13' : x13' = nI cl := r13
  refine lv_istore (lv' := [(11, .int x13'), (10, .int x4'), (0, .ref (ad 0)), (1, .ref (ad 60)), (2, .ref (ad 61)), (3, .ref (ad 62)), (4, .ref (ad 63)), (5, .ref (ad 64)), (6, .ref (ad 65)), (7, .ref (ad 66)), (8, .int xa), (9, .int xb)]) hx hb dL_sets_16 hl (by decide) rfl (fun ls hl => ?_)
  refine lv_iload hx hb dL_sets_18 (lv_at hl 11 rfl) ?_
  refine lv_iconst (v := 3) hx hb dL_sets_20 (by decide) ?_
  refine lv_ishr hx hb dL_sets_21 ?_
  refine lv_topi (fun x21' e21' => ?_)
  refine lv_bipush (v := 8) hx hb dL_sets_22 (by decide) ?_
  refine wc_ri (va_runS (As := [.int x21', .int 8]) (rest := []) ⟨hx, hb, hml, hown, hts⟩ (c_L_low l x21' 8 (by decide)) (va_cwS 2 hts gL_sets_L_low rfl rfl rfl (by decide +kernel) ⟨Nat.le_of_ble_eq_true rfl, Nat.le_of_ble_eq_true rfl⟩) npreS rfl rfl hl.1 rfl (lv_room (Nat.le_of_ble_eq_true rfl)) dL_sets_24 ⟨Nat.le_of_ble_eq_true rfl, Nat.le_of_ble_eq_true rfl⟩) hW (fun x24' H locs p24' hW => ?_)
  try dsimp only at p24'
  obtain ⟨ln, hln, eln⟩ := low_n x21' (n := 8) (by decide) (by decide)
  have r24 : x24' = nI ln := p24'.trans eln
  have n1c : n1 x13' = cl := n1e r13 (by omega)
  have n1l : n1 x24' = ln := n1e r24 (by omega)
  have hzo : zoB x13' x24' = true := zo_t r13 r24 hcl hln
  have hZ8 : 8 * ln + cl < 64 := by omega
  have n24' : x24' = nI ln := r24
  refine lv_istore (lv' := [(12, .int x24'), (11, .int x13'), (10, .int x4'), (0, .ref (ad 0)), (1, .ref (ad 60)), (2, .ref (ad 61)), (3, .ref (ad 62)), (4, .ref (ad 63)), (5, .ref (ad 64)), (6, .ref (ad 65)), (7, .ref (ad 66)), (8, .int xa), (9, .int xb)]) hx hb dL_sets_27 hl (by decide) rfl (fun ls hl => ?_)
  refine lv_iload hx hb dL_sets_29 (lv_at hl 2 rfl) ?_
  refine lv_if_ne (tgt := 137) hx hb dL_sets_31 (by decide) (fun c31' => ?_) (fun c31' => ?_)
  · have k31' : ¬ kn = 0 := kc_ne n4' (nlit 0) (by omega) (by omega) c31'
    refine lv_iload hx hb dL_sets_137 (lv_at hl 2 rfl) ?_
    refine lv_iconst (v := 1) hx hb dL_sets_139 (by decide) ?_
    refine lv_icmp_ne (tgt := 339) hx hb dL_sets_140 (by decide) (fun c140' => ?_) (fun c140' => ?_)
    · have k140' : ¬ kn = 1 := kc_ne n4' (nlit 1) (by omega) (by omega) c140'
      refine lv_iload hx hb dL_sets_339 (lv_at hl 2 rfl) ?_
      refine lv_iconst (v := 4) hx hb dL_sets_341 (by decide) ?_
      refine lv_icmp_ge (tgt := 526) hx hb dL_sets_342 (by decide) (fun c342' => ?_) (fun c342' => ?_)
      · have k342' : 4 ≤ kn := kc_ge n4' (nlit 4) (by omega) (by omega) c342'
        refine lv_iload hx hb dL_sets_526 (lv_at hl 2 rfl) ?_
        refine lv_bipush (v := 6) hx hb dL_sets_528 (by decide) ?_
        refine lv_icmp_ge (tgt := 678) hx hb dL_sets_530 (by decide) (fun c530' => ?_) (fun c530' => ?_)
        · have k530' : 6 ≤ kn := kc_ge n4' (nlit 6) (by omega) (by omega) c530'
          refine lv_iload hx hb dL_sets_678 (lv_at hl 2 rfl) ?_
          refine lv_bipush (v := 6) hx hb dL_sets_680 (by decide) ?_
          refine lv_icmp_ne (tgt := 816) hx hb dL_sets_682 (by decide) (fun c682' => ?_) (fun c682' => ?_)
          · have k682' : ¬ kn = 6 := kc_ne n4' (nlit 6) (by omega) (by omega) c682'
            refine lv_iload hx hb dL_sets_816 (lv_at hl 2 rfl) ?_
            refine lv_bipush (v := 7) hx hb dL_sets_818 (by decide) ?_
            refine lv_icmp_ne (tgt := 938) hx hb dL_sets_820 (by decide) (fun c820' => ?_) (fun c820' => ?_)
            · have k820' : ¬ kn = 7 := kc_ne n4' (nlit 7) (by omega) (by omega) c820'
              refine lv_iload hx hb dL_sets_938 (lv_at hl 2 rfl) ?_
              refine lv_bipush (v := 10) hx hb dL_sets_940 (by decide) ?_
              refine lv_icmp_ge (tgt := 1016) hx hb dL_sets_942 (by decide) (fun c942' => ?_) (fun c942' => ?_)
              · have k942' : 10 ≤ kn := kc_ge n4' (nlit 10) (by omega) (by omega) c942'
                refine lv_iload hx hb dL_sets_1016 (lv_at hl 2 rfl) ?_
                refine lv_bipush (v := 10) hx hb dL_sets_1018 (by decide) ?_
                refine lv_icmp_ne (tgt := 1080) hx hb dL_sets_1020 (by decide) (fun c1020' => ?_) (fun c1020' => ?_)
                · have k1020' : ¬ kn = 10 := kc_ne n4' (nlit 10) (by omega) (by omega) c1020'
                  refine lv_aload hx hb dL_sets_1080 (lv_at hl 10 rfl) ?_
                  refine lv_iconst (v := 2) hx hb dL_sets_1082 (by decide) ?_
                  refine walI (j := 2) hx hb hK hW (hMs 66 (by decide) (by decide)) (nlit 2) (by omega) (by decide) dL_sets_1083 (fun x1083' e1083' => ?_)
                  refine lv_istore (lv' := [(13, .int x1083'), (12, .int x24'), (11, .int x13'), (10, .int x4'), (0, .ref (ad 0)), (1, .ref (ad 60)), (2, .ref (ad 61)), (3, .ref (ad 62)), (4, .ref (ad 63)), (5, .ref (ad 64)), (6, .ref (ad 65)), (7, .ref (ad 66)), (8, .int xa), (9, .int xb)]) hx hb dL_sets_1084 hl (by decide) rfl (fun ls hl => ?_)
                  refine lv_aload hx hb dL_sets_1086 (lv_at hl 11 rfl) ?_
                  refine lv_iconst (v := 2) hx hb dL_sets_1088 (by decide) ?_
                  refine lv_iconst (v := 1) hx hb dL_sets_1089 (by decide) ?_
                  refine lv_iload hx hb dL_sets_1090 (lv_at hl 13 rfl) ?_
                  refine lv_bipush (v := 100) hx hb dL_sets_1092 (by decide) ?_
                  refine wc_ri (va_runS (As := [.int xb, .int 100]) (rest := [.int 1, .int 2, .ref (ad 66)]) ⟨hx, hb, hml, hown, hts⟩ (c_L_low l xb 100 (by decide)) (va_cwS 2 hts gL_sets_L_low rfl rfl rfl (by decide +kernel) ⟨Nat.le_of_ble_eq_true rfl, Nat.le_of_ble_eq_true rfl⟩) npreS rfl rfl hl.1 rfl (lv_room (Nat.le_of_ble_eq_true rfl)) dL_sets_1094 ⟨Nat.le_of_ble_eq_true rfl, Nat.le_of_ble_eq_true rfl⟩) hW (fun x1094' H locs p1094' hW => ?_)
                  try dsimp only at p1094'
                  obtain ⟨tp, htp, etp⟩ := low_n xb (n := 100) (by decide) (by decide)
                  have r1094 : x1094' = nI tp := p1094'.trans etp
                  have n1094' : x1094' = nI tp := r1094
                  refine lv_iadd hx hb dL_sets_1097 ?_
                  refine lv_topi (fun x1097' e1097' => ?_)
                  have n1097' : x1097' = nI (1 + tp) := (by rw [e1097', (nlit 1), n1094', nI_add])
                  refine wasI (j := 2) hx hb hK hA hW (hMs 66 (by decide) (by decide)) (nlit 2) (by omega) (by decide) dL_sets_1098 (fun M1098' H locs eM1098 hW => ?_)
                  have hKx : KPx 66 2 M M1098' := by rw [eM1098]; exact KPx.sI
                  have hKe : gI M1098' 66 2 = nI (1 + tp) := by rw [eM1098, kp_eq]; exact n1097'
                  have hXX : XX σ v M1098' := by rw [eM1098]; exact XX_sL hXX (by omega) (by omega)
                  refine lv_aload_n hx hb dL_sets_1099 rfl (lv_at hl 4 rfl) ?_
                  refine lv_aload hx hb dL_sets_1100 (lv_at hl 11 rfl) ?_
                  refine lv_iconst (v := 2) hx hb dL_sets_1102 (by decide) ?_
                  refine walI (j := 2) hx hb hK hW (hMs 66 (by decide) (by decide)) (nlit 2) (by omega) (by decide) dL_sets_1103 (fun x1103' e1103' => ?_)
                  have n1103' : x1103' = nI (1 + tp) := (e1103'.trans hKe)
                  refine wc_wiN (vx_runSW (As := [.ref (ad 0), .int x1103']) (rest := []) ⟨hx, hb, hml, hown, hts⟩ (c_L_setTempo l hl9 D cA sh ad M1098' _ σ v hX hXX x1103' ) (vx_cwSW 2 hts gL_sets_L_setTempo rfl rfl rfl (by decide +kernel) ⟨Nat.le_of_ble_eq_true rfl, Nat.le_of_ble_eq_true rfl⟩) (lpreS hK hA hW hE hZ hE2) rfl rfl hl.1 rfl (lv_room (Nat.le_of_ble_eq_true rfl)) dL_sets_1104 ⟨Nat.le_of_ble_eq_true rfl, Nat.le_of_ble_eq_true rfl⟩) hA hW (fun x1104' M1104' H locs p1104' hW => ?_)
                  try dsimp only at p1104'
                  have n1t : n1 x1103' = 1 + tp := n1e n1103' (by omega)
                  have hG1104 : inB x1103' 1 100 = true := in_t1 (n := 100) n1103' (by omega) (by omega) (by decide)
                  obtain ⟨kp1104, gg1104⟩ := p1104'
                  obtain ⟨r1104, hXX⟩ := or_ok gg1104 hG1104
                  rw [n1t] at hXX
                  obtain ⟨σ1, esσ1⟩ : ∃ z9, z9 = oTemp σ (1 + tp) := ⟨_, rfl⟩
                  rw [← esσ1] at hXX
                  have hX : XSh (aN σ1) sh := by rw [esσ1]; exact hX
                  have hL : LSt σ1 v M1104' := by rw [esσ1]; exact LS_temp hL (hKx.kp kp1104) (by rw [kp1104 66 _ (by omega) (by omega), hKe])
                  refine lv_iload hx hb dL_sets_1107 (lv_at hl 0 rfl) ?_
                  refine lv_icmp_ne (tgt := 1137) hx hb dL_sets_1109 (by decide) (fun c1109' => ?_) (fun c1109' => ?_)
                  · exact ((c1109' (by rw [r1104, e1083', hL0.2.2.2.2.2.2.2.2.1]))).elim
                  · refine lv_aload_n hx hb dL_sets_1112 rfl (lv_at hl 4 rfl) ?_
                    refine lv_iconst (v := 0) hx hb dL_sets_1113 (by decide) ?_
                    refine wc_wiN (vx_runSW (As := [.ref (ad 0), .int 0]) (rest := []) ⟨hx, hb, hml, hown, hts⟩ (c_L_setTempo l hl9 D cA sh ad M1104' _ σ1 v hX hXX 0 ) (vx_cwSW 2 hts gL_sets_L_setTempo rfl rfl rfl (by decide +kernel) ⟨Nat.le_of_ble_eq_true rfl, Nat.le_of_ble_eq_true rfl⟩) (lpreS hK hA hW hE hZ hE2) rfl rfl hl.1 rfl (lv_room (Nat.le_of_ble_eq_true rfl)) dL_sets_1114 ⟨Nat.le_of_ble_eq_true rfl, Nat.le_of_ble_eq_true rfl⟩) hA hW (fun x1114' M1114' H locs p1114' hW => ?_)
                    try dsimp only at p1114'
                    obtain ⟨kp1114, gg1114⟩ := p1114'
                    obtain ⟨r1114, hXX⟩ := or_no gg1114 (by decide)
                    have hL := hL.kp kp1114
                    refine lv_ldc (v := (-1000002)) hx hb hown (hts (.constant RL 18 (-1000002)) (List.mem_of_getElem? (i := 1) rfl)) dL_sets_1117 ?_
                    refine lv_icmp_ne (tgt := 1137) hx hb dL_sets_1119 (by decide) (fun c1119' => ?_) (fun c1119' => ?_)
                    · exact ((c1119' r1114)).elim
                    · refine lv_aload_n hx hb dL_sets_1122 rfl (lv_at hl 4 rfl) ?_
                      refine lv_bipush (v := 101) hx hb dL_sets_1123 (by decide) ?_
                      refine wc_wiN (vx_runSW (As := [.ref (ad 0), .int 101]) (rest := []) ⟨hx, hb, hml, hown, hts⟩ (c_L_setTempo l hl9 D cA sh ad M1114' _ σ1 v hX hXX 101 ) (vx_cwSW 2 hts gL_sets_L_setTempo rfl rfl rfl (by decide +kernel) ⟨Nat.le_of_ble_eq_true rfl, Nat.le_of_ble_eq_true rfl⟩) (lpreS hK hA hW hE hZ hE2) rfl rfl hl.1 rfl (lv_room (Nat.le_of_ble_eq_true rfl)) dL_sets_1125 ⟨Nat.le_of_ble_eq_true rfl, Nat.le_of_ble_eq_true rfl⟩) hA hW (fun x1125' M1125' H locs p1125' hW => ?_)
                      try dsimp only at p1125'
                      obtain ⟨kp1125, gg1125⟩ := p1125'
                      obtain ⟨r1125, hXX⟩ := or_no gg1125 (by decide)
                      have hL := hL.kp kp1125
                      refine lv_ldc (v := (-1000002)) hx hb hown (hts (.constant RL 18 (-1000002)) (List.mem_of_getElem? (i := 1) rfl)) dL_sets_1128 ?_
                      refine lv_icmp_ne (tgt := 1137) hx hb dL_sets_1130 (by decide) (fun c1130' => ?_) (fun c1130' => ?_)
                      · exact ((c1130' r1125)).elim
                      · refine lv_iconst (v := 1) hx hb dL_sets_1133 (by decide) ?_
                        refine lv_goto (tgt := 1138) hx hb dL_sets_1134 (by decide) ?_
                        refine W.widen (k := 90) (n := 600) (by decide) (by decide) ?_
                        rw [← hQ9]
                        exact wr_lz hx hb hr hlocks hW dL_sets_1138 rfl GR.rf ⟨rfl, σ1, v, by rw [esσ1]; exact hsh, hXX, hL⟩
                · have k1020' : kn = 10 := kc_nen n4' (nlit 10) (by omega) (by omega) c1020'
                  refine lv_aload hx hb dL_sets_1023 (lv_at hl 10 rfl) ?_
                  refine lv_iconst (v := 3) hx hb dL_sets_1025 (by decide) ?_
                  refine walI (j := 3) hx hb hK hW (hMs 66 (by decide) (by decide)) (nlit 3) (by omega) (by decide) dL_sets_1026 (fun x1026' e1026' => ?_)
                  refine lv_istore (lv' := [(13, .int x1026'), (12, .int x24'), (11, .int x13'), (10, .int x4'), (0, .ref (ad 0)), (1, .ref (ad 60)), (2, .ref (ad 61)), (3, .ref (ad 62)), (4, .ref (ad 63)), (5, .ref (ad 64)), (6, .ref (ad 65)), (7, .ref (ad 66)), (8, .int xa), (9, .int xb)]) hx hb dL_sets_1027 hl (by decide) rfl (fun ls hl => ?_)
                  refine lv_aload hx hb dL_sets_1029 (lv_at hl 11 rfl) ?_
                  refine lv_iconst (v := 3) hx hb dL_sets_1031 (by decide) ?_
                  refine lv_iload hx hb dL_sets_1032 (lv_at hl 13 rfl) ?_
                  refine lv_bipush (v := 21) hx hb dL_sets_1034 (by decide) ?_
                  refine wc_ri (va_runS (As := [.int xb, .int 21]) (rest := [.int 3, .ref (ad 66)]) ⟨hx, hb, hml, hown, hts⟩ (c_L_low l xb 21 (by decide)) (va_cwS 2 hts gL_sets_L_low rfl rfl rfl (by decide +kernel) ⟨Nat.le_of_ble_eq_true rfl, Nat.le_of_ble_eq_true rfl⟩) npreS rfl rfl hl.1 rfl (lv_room (Nat.le_of_ble_eq_true rfl)) dL_sets_1036 ⟨Nat.le_of_ble_eq_true rfl, Nat.le_of_ble_eq_true rfl⟩) hW (fun x1036' H locs p1036' hW => ?_)
                  try dsimp only at p1036'
                  obtain ⟨gp, hgp, egp⟩ := low_n xb (n := 21) (by decide) (by decide)
                  have r1036 : x1036' = nI gp := p1036'.trans egp
                  have n1036' : x1036' = nI gp := r1036
                  refine wasI (j := 3) hx hb hK hA hW (hMs 66 (by decide) (by decide)) (nlit 3) (by omega) (by decide) dL_sets_1039 (fun M1039' H locs eM1039 hW => ?_)
                  have hKx : KPx 66 3 M M1039' := by rw [eM1039]; exact KPx.sI
                  have hKe : gI M1039' 66 3 = nI gp := by rw [eM1039, kp_eq]; exact r1036
                  have hXX : XX σ v M1039' := by rw [eM1039]; exact XX_sL hXX (by omega) (by omega)
                  refine lv_aload_n hx hb dL_sets_1040 rfl (lv_at hl 4 rfl) ?_
                  refine lv_aload hx hb dL_sets_1041 (lv_at hl 11 rfl) ?_
                  refine lv_iconst (v := 3) hx hb dL_sets_1043 (by decide) ?_
                  refine walI (j := 3) hx hb hK hW (hMs 66 (by decide) (by decide)) (nlit 3) (by omega) (by decide) dL_sets_1044 (fun x1044' e1044' => ?_)
                  have n1044' : x1044' = nI gp := (e1044'.trans hKe)
                  refine wc_wiN (vx_runSW (As := [.ref (ad 0), .int x1044']) (rest := []) ⟨hx, hb, hml, hown, hts⟩ (c_L_setGap l hl9 D cA sh ad M1039' _ σ v hX hXX x1044' ) (vx_cwSW 2 hts gL_sets_L_setGap rfl rfl rfl (by decide +kernel) ⟨Nat.le_of_ble_eq_true rfl, Nat.le_of_ble_eq_true rfl⟩) (lpreS hK hA hW hE hZ hE2) rfl rfl hl.1 rfl (lv_room (Nat.le_of_ble_eq_true rfl)) dL_sets_1045 ⟨Nat.le_of_ble_eq_true rfl, Nat.le_of_ble_eq_true rfl⟩) hA hW (fun x1045' M1045' H locs p1045' hW => ?_)
                  try dsimp only at p1045'
                  have n1g : n1 x1044' = gp := n1e n1044' (by omega)
                  have hG1045 : inB x1044' 0 20 = true := in_t (n := 20) n1044' (by omega) (by decide)
                  obtain ⟨kp1045, gg1045⟩ := p1045'
                  obtain ⟨r1045, hXX⟩ := or_ok gg1045 hG1045
                  rw [n1g] at hXX
                  obtain ⟨σ1, esσ1⟩ : ∃ z9, z9 = oGap σ gp := ⟨_, rfl⟩
                  rw [← esσ1] at hXX
                  have hX : XSh (aN σ1) sh := by rw [esσ1]; exact hX
                  have hL : LSt σ1 v M1045' := by rw [esσ1]; exact LS_gap hL (hKx.kp kp1045) (by rw [kp1045 66 _ (by omega) (by omega), hKe])
                  refine lv_iload hx hb dL_sets_1048 (lv_at hl 0 rfl) ?_
                  refine lv_icmp_ne (tgt := 1078) hx hb dL_sets_1050 (by decide) (fun c1050' => ?_) (fun c1050' => ?_)
                  · exact ((c1050' (by rw [r1045, e1026', hL0.2.2.2.2.2.2.2.2.2]))).elim
                  · refine lv_aload_n hx hb dL_sets_1053 rfl (lv_at hl 4 rfl) ?_
                    refine lv_bipush (v := 21) hx hb dL_sets_1054 (by decide) ?_
                    refine wc_wiN (vx_runSW (As := [.ref (ad 0), .int 21]) (rest := []) ⟨hx, hb, hml, hown, hts⟩ (c_L_setGap l hl9 D cA sh ad M1045' _ σ1 v hX hXX 21 ) (vx_cwSW 2 hts gL_sets_L_setGap rfl rfl rfl (by decide +kernel) ⟨Nat.le_of_ble_eq_true rfl, Nat.le_of_ble_eq_true rfl⟩) (lpreS hK hA hW hE hZ hE2) rfl rfl hl.1 rfl (lv_room (Nat.le_of_ble_eq_true rfl)) dL_sets_1056 ⟨Nat.le_of_ble_eq_true rfl, Nat.le_of_ble_eq_true rfl⟩) hA hW (fun x1056' M1056' H locs p1056' hW => ?_)
                    try dsimp only at p1056'
                    obtain ⟨kp1056, gg1056⟩ := p1056'
                    obtain ⟨r1056, hXX⟩ := or_no gg1056 (by decide)
                    have hL := hL.kp kp1056
                    refine lv_ldc (v := (-1000002)) hx hb hown (hts (.constant RL 18 (-1000002)) (List.mem_of_getElem? (i := 1) rfl)) dL_sets_1059 ?_
                    refine lv_icmp_ne (tgt := 1078) hx hb dL_sets_1061 (by decide) (fun c1061' => ?_) (fun c1061' => ?_)
                    · exact ((c1061' r1056)).elim
                    · refine lv_aload_n hx hb dL_sets_1064 rfl (lv_at hl 4 rfl) ?_
                      refine lv_iconst (v := (-1)) hx hb dL_sets_1065 (by decide) ?_
                      refine wc_wiN (vx_runSW (As := [.ref (ad 0), .int (-1)]) (rest := []) ⟨hx, hb, hml, hown, hts⟩ (c_L_setGap l hl9 D cA sh ad M1056' _ σ1 v hX hXX (-1) ) (vx_cwSW 2 hts gL_sets_L_setGap rfl rfl rfl (by decide +kernel) ⟨Nat.le_of_ble_eq_true rfl, Nat.le_of_ble_eq_true rfl⟩) (lpreS hK hA hW hE hZ hE2) rfl rfl hl.1 rfl (lv_room (Nat.le_of_ble_eq_true rfl)) dL_sets_1066 ⟨Nat.le_of_ble_eq_true rfl, Nat.le_of_ble_eq_true rfl⟩) hA hW (fun x1066' M1066' H locs p1066' hW => ?_)
                      try dsimp only at p1066'
                      obtain ⟨kp1066, gg1066⟩ := p1066'
                      obtain ⟨r1066, hXX⟩ := or_no gg1066 (by decide)
                      have hL := hL.kp kp1066
                      refine lv_ldc (v := (-1000002)) hx hb hown (hts (.constant RL 18 (-1000002)) (List.mem_of_getElem? (i := 1) rfl)) dL_sets_1069 ?_
                      refine lv_icmp_ne (tgt := 1078) hx hb dL_sets_1071 (by decide) (fun c1071' => ?_) (fun c1071' => ?_)
                      · exact ((c1071' r1066)).elim
                      · refine lv_iconst (v := 1) hx hb dL_sets_1074 (by decide) ?_
                        refine lv_goto (tgt := 1079) hx hb dL_sets_1075 (by decide) ?_
                        refine W.widen (k := 90) (n := 600) (by decide) (by decide) ?_
                        rw [← hQ9]
                        exact wr_lz hx hb hr hlocks hW dL_sets_1079 rfl GR.rf ⟨rfl, σ1, v, by rw [esσ1]; exact hsh, hXX, hL⟩
              · have k942' : ¬ 10 ≤ kn := kc_gen n4' (nlit 10) (by omega) (by omega) c942'
                refine lv_iload hx hb dL_sets_945 (lv_at hl 12 rfl) ?_
                refine lv_bipush (v := 32) hx hb dL_sets_947 (by decide) ?_
                refine wc_ri (va_runS (As := [.int xb, .int 32]) (rest := []) ⟨hx, hb, hml, hown, hts⟩ (c_L_low l xb 32 (by decide)) (va_cwS 2 hts gL_sets_L_low rfl rfl rfl (by decide +kernel) ⟨Nat.le_of_ble_eq_true rfl, Nat.le_of_ble_eq_true rfl⟩) npreS rfl rfl hl.1 rfl (lv_room (Nat.le_of_ble_eq_true rfl)) dL_sets_949 ⟨Nat.le_of_ble_eq_true rfl, Nat.le_of_ble_eq_true rfl⟩) hW (fun x949' H locs p949' hW => ?_)
                try dsimp only at p949'
                obtain ⟨ch, hch, ech⟩ := low_n xb (n := 32) (by decide) (by decide)
                have r949 : x949' = nI ch := p949'.trans ech
                have hd1 := ok.2.2.2.1 ch hch
                have n949' : x949' = nI ch := r949
                refine lv_istore (lv' := [(13, .int x949'), (12, .int x24'), (11, .int x13'), (10, .int x4'), (0, .ref (ad 0)), (1, .ref (ad 60)), (2, .ref (ad 61)), (3, .ref (ad 62)), (4, .ref (ad 63)), (5, .ref (ad 64)), (6, .ref (ad 65)), (7, .ref (ad 66)), (8, .int xa), (9, .int xb)]) hx hb dL_sets_952 hl (by decide) rfl (fun ls hl => ?_)
                refine lv_aload hx hb dL_sets_954 (lv_at hl 10 rfl) ?_
                refine lv_iload hx hb dL_sets_956 (lv_at hl 0 rfl) ?_
                refine lv_iconst (v := 1) hx hb dL_sets_958 (by decide) ?_
                refine lv_aload hx hb dL_sets_959 (lv_at hl 10 rfl) ?_
                refine lv_iload hx hb dL_sets_961 (lv_at hl 0 rfl) ?_
                refine walI (j := ch) hx hb hK hW (hMs 65 (by decide) (by decide)) n949' (by omega) (by decide) dL_sets_963 (fun x963' e963' => ?_)
                have n963' : x963' = nI (σ.2 3 ch) := (e963'.trans (hL.2.2.2.2.2.1 ch hch))
                refine lv_isub hx hb dL_sets_964 ?_
                refine lv_topi (fun x964' e964' => ?_)
                have n964' : x964' = nI (1 - (σ.2 3 ch)) := (by rw [e964', (nlit 1), n963']; exact pk_sub (by omega))
                refine wasI (j := ch) hx hb hK hA hW (hMs 65 (by decide) (by decide)) n949' (by omega) (by decide) dL_sets_965 (fun M965' H locs eM965 hW => ?_)
                have hKx : KPx 65 ch M M965' := by rw [eM965]; exact KPx.sI
                have hKe : gI M965' 65 ch = nI (1 - σ.2 3 ch) := by rw [eM965, kp_eq]; exact n964'
                have hXX : XX σ v M965' := by rw [eM965]; exact XX_sL hXX (by omega) (by omega)
                refine lv_aload_n hx hb dL_sets_966 rfl (lv_at hl 4 rfl) ?_
                refine lv_iload hx hb dL_sets_967 (lv_at hl 0 rfl) ?_
                refine lv_bipush (v := 8) hx hb dL_sets_969 (by decide) ?_
                refine lv_idiv hx hb dL_sets_971 (by decide) ?_
                refine lv_topi (fun x971' e971' => ?_)
                have n971' : x971' = nI (ch / 8) := (by rw [e971', n949', (nlit 8)]; exact pk_div (by omega) (by omega) (by omega))
                refine lv_iload hx hb dL_sets_972 (lv_at hl 0 rfl) ?_
                refine lv_bipush (v := 8) hx hb dL_sets_974 (by decide) ?_
                refine lv_irem hx hb dL_sets_976 (by decide) ?_
                refine lv_topi (fun x976' e976' => ?_)
                have n976' : x976' = nI (ch % 8) := (by rw [e976', n949', (nlit 8)]; exact pk_rem (by omega) (by omega) (by omega))
                refine wc_wiN (vx_runSW (As := [.ref (ad 0), .int x971', .int x976']) (rest := []) ⟨hx, hb, hml, hown, hts⟩ (c_L_kill l hl9 D cA sh ad M965' _ σ v hX hXX x971' x976' ) (vx_cwSW 3 hts gL_sets_L_kill rfl rfl rfl (by decide +kernel) ⟨Nat.le_of_ble_eq_true rfl, Nat.le_of_ble_eq_true rfl⟩) (lpreS hK hA hW hE hZ hE2) rfl rfl hl.1 rfl (lv_room (Nat.le_of_ble_eq_true rfl)) dL_sets_977 ⟨Nat.le_of_ble_eq_true rfl, Nat.le_of_ble_eq_true rfl⟩) hA hW (fun x977' M977' H locs p977' hW => ?_)
                try dsimp only at p977'
                have n1a : n1 x971' = ch / 8 := n1e n971' (by omega)
                have n1b : n1 x976' = ch % 8 := n1e n976' (by omega)
                have h8 : 8 * (ch / 8) + ch % 8 = ch := by omega
                have hG977 : (inB x971' 0 3 && inB x976' 0 7) = true := and_t (in_t (n := 3) n971' (by omega) (by decide)) (in_t (n := 7) n976' (by omega) (by decide))
                obtain ⟨kp977, gg977⟩ := p977'
                obtain ⟨r977, hXX⟩ := or_ok gg977 hG977
                rw [n1a, n1b, h8] at r977
                rw [n1a, n1b, h8] at hXX
                obtain ⟨σ1, esσ1⟩ : ∃ z9, z9 = oKill σ ch := ⟨_, rfl⟩
                rw [← esσ1] at hXX
                have hX : XSh (aN σ1) sh := by rw [esσ1]; exact hX
                have hL : LSt σ1 v M977' := by rw [esσ1]; exact LS_kill hL (hKx.kp kp977) (by rw [kp977 65 _ (by omega) (by omega), hKe])
                refine lv_aload hx hb dL_sets_980 (lv_at hl 10 rfl) ?_
                refine lv_iload hx hb dL_sets_982 (lv_at hl 0 rfl) ?_
                refine walI (j := ch) hx hb hK hW (hMs 65 (by decide) (by decide)) n949' (by omega) (by decide) dL_sets_984 (fun x984' e984' => ?_)
                refine lv_icmp_ne (tgt := 1014) hx hb dL_sets_985 (by decide) (fun c985' => ?_) (fun c985' => ?_)
                · exact ((c985' (by rw [r977, e984', kp977 65 _ (by omega) (by omega), hKe]))).elim
                · refine lv_aload_n hx hb dL_sets_988 rfl (lv_at hl 4 rfl) ?_
                  refine lv_iconst (v := 4) hx hb dL_sets_989 (by decide) ?_
                  refine lv_iconst (v := 0) hx hb dL_sets_990 (by decide) ?_
                  refine wc_wiN (vx_runSW (As := [.ref (ad 0), .int 4, .int 0]) (rest := []) ⟨hx, hb, hml, hown, hts⟩ (c_L_kill l hl9 D cA sh ad M977' _ σ1 v hX hXX 4 0 ) (vx_cwSW 3 hts gL_sets_L_kill rfl rfl rfl (by decide +kernel) ⟨Nat.le_of_ble_eq_true rfl, Nat.le_of_ble_eq_true rfl⟩) (lpreS hK hA hW hE hZ hE2) rfl rfl hl.1 rfl (lv_room (Nat.le_of_ble_eq_true rfl)) dL_sets_991 ⟨Nat.le_of_ble_eq_true rfl, Nat.le_of_ble_eq_true rfl⟩) hA hW (fun x991' M991' H locs p991' hW => ?_)
                  try dsimp only at p991'
                  obtain ⟨kp991, gg991⟩ := p991'
                  obtain ⟨r991, hXX⟩ := or_no gg991 (by decide)
                  have hL := hL.kp kp991
                  refine lv_ldc (v := (-1000002)) hx hb hown (hts (.constant RL 18 (-1000002)) (List.mem_of_getElem? (i := 1) rfl)) dL_sets_994 ?_
                  refine lv_icmp_ne (tgt := 1014) hx hb dL_sets_996 (by decide) (fun c996' => ?_) (fun c996' => ?_)
                  · exact ((c996' r991)).elim
                  · refine lv_aload_n hx hb dL_sets_999 rfl (lv_at hl 4 rfl) ?_
                    refine lv_iconst (v := 0) hx hb dL_sets_1000 (by decide) ?_
                    refine lv_iconst (v := (-1)) hx hb dL_sets_1001 (by decide) ?_
                    refine wc_wiN (vx_runSW (As := [.ref (ad 0), .int 0, .int (-1)]) (rest := []) ⟨hx, hb, hml, hown, hts⟩ (c_L_kill l hl9 D cA sh ad M991' _ σ1 v hX hXX 0 (-1) ) (vx_cwSW 3 hts gL_sets_L_kill rfl rfl rfl (by decide +kernel) ⟨Nat.le_of_ble_eq_true rfl, Nat.le_of_ble_eq_true rfl⟩) (lpreS hK hA hW hE hZ hE2) rfl rfl hl.1 rfl (lv_room (Nat.le_of_ble_eq_true rfl)) dL_sets_1002 ⟨Nat.le_of_ble_eq_true rfl, Nat.le_of_ble_eq_true rfl⟩) hA hW (fun x1002' M1002' H locs p1002' hW => ?_)
                    try dsimp only at p1002'
                    obtain ⟨kp1002, gg1002⟩ := p1002'
                    obtain ⟨r1002, hXX⟩ := or_no gg1002 (by decide)
                    have hL := hL.kp kp1002
                    refine lv_ldc (v := (-1000002)) hx hb hown (hts (.constant RL 18 (-1000002)) (List.mem_of_getElem? (i := 1) rfl)) dL_sets_1005 ?_
                    refine lv_icmp_ne (tgt := 1014) hx hb dL_sets_1007 (by decide) (fun c1007' => ?_) (fun c1007' => ?_)
                    · exact ((c1007' r1002)).elim
                    · refine lv_iconst (v := 1) hx hb dL_sets_1010 (by decide) ?_
                      refine lv_goto (tgt := 1015) hx hb dL_sets_1011 (by decide) ?_
                      refine W.widen (k := 90) (n := 600) (by decide) (by decide) ?_
                      rw [← hQ9]
                      exact wr_lz hx hb hr hlocks hW dL_sets_1015 rfl GR.rf ⟨rfl, σ1, v, by rw [esσ1]; exact hsh, hXX, hL⟩
            · have k820' : kn = 7 := kc_nen n4' (nlit 7) (by omega) (by omega) c820'
              refine lv_iload hx hb dL_sets_823 (lv_at hl 12 rfl) ?_
              refine lv_bipush (v := 10) hx hb dL_sets_825 (by decide) ?_
              refine wc_ri (va_runS (As := [.int xb, .int 10]) (rest := []) ⟨hx, hb, hml, hown, hts⟩ (c_L_low l xb 10 (by decide)) (va_cwS 2 hts gL_sets_L_low rfl rfl rfl (by decide +kernel) ⟨Nat.le_of_ble_eq_true rfl, Nat.le_of_ble_eq_true rfl⟩) npreS rfl rfl hl.1 rfl (lv_room (Nat.le_of_ble_eq_true rfl)) dL_sets_827 ⟨Nat.le_of_ble_eq_true rfl, Nat.le_of_ble_eq_true rfl⟩) hW (fun x827' H locs p827' hW => ?_)
              try dsimp only at p827'
              obtain ⟨hh, hhh, ehh⟩ := low_n xb (n := 10) (by decide) (by decide)
              have r827 : x827' = nI hh := p827'.trans ehh
              have n1h : n1 x827' = hh := n1e r827 (by omega)
              have n827' : x827' = nI hh := r827
              refine lv_istore (lv' := [(13, .int x827'), (12, .int x24'), (11, .int x13'), (10, .int x4'), (0, .ref (ad 0)), (1, .ref (ad 60)), (2, .ref (ad 61)), (3, .ref (ad 62)), (4, .ref (ad 63)), (5, .ref (ad 64)), (6, .ref (ad 65)), (7, .ref (ad 66)), (8, .int xa), (9, .int xb)]) hx hb dL_sets_830 hl (by decide) rfl (fun ls hl => ?_)
              refine lv_aload hx hb dL_sets_832 (lv_at hl 9 rfl) ?_
              refine lv_iload hx hb dL_sets_834 (lv_at hl 0 rfl) ?_
              refine walI (j := hh) hx hb hK hW (hMs 64 (by decide) (by decide)) n827' (by omega) (by decide) dL_sets_836 (fun x836' e836' => ?_)
              refine lv_istore (lv' := [(14, .int x836'), (13, .int x827'), (12, .int x24'), (11, .int x13'), (10, .int x4'), (0, .ref (ad 0)), (1, .ref (ad 60)), (2, .ref (ad 61)), (3, .ref (ad 62)), (4, .ref (ad 63)), (5, .ref (ad 64)), (6, .ref (ad 65)), (7, .ref (ad 66)), (8, .int xa), (9, .int xb)]) hx hb dL_sets_837 hl (by decide) rfl (fun ls hl => ?_)
              refine lv_aload hx hb dL_sets_839 (lv_at hl 10 rfl) ?_
              refine lv_iload hx hb dL_sets_841 (lv_at hl 1 rfl) ?_
              have J880 : ∀ (yw : Int32) (H : Heap) (locs : List Loc), (∃ wm, wm ≤ 100000 ∧ yw = nI wm) → WS D cA sh ad A s.heap M H locs → ∀ ls, lv_has ls 17 [(14, .int x836'), (13, .int x827'), (12, .int x24'), (11, .int x13'), (10, .int x4'), (0, .ref (ad 0)), (1, .ref (ad 60)), (2, .ref (ad 61)), (3, .ref (ad 62)), (4, .ref (ad 63)), (5, .ref (ad 64)), (6, .ref (ad 65)), (7, .ref (ad 66)), (8, .int xa), (9, .int xb)] → W p l e (headSpec wsL_sets { frames := 10, cells := 90, slots := 600, locals := 176 }).room s m ar below meth cd0 H locs 0 0 (MQ below Q9 ar s 90 600 A) (F0 m 880 ls [.int yw, .int x827', .ref (ad 64)]) := by
                intro yw H locs hyw hW ls hl
                obtain ⟨wm, hwm, eyw⟩ := hyw
                refine wasI (j := hh) hx hb hK hA hW (hMs 64 (by decide) (by decide)) n827' (by omega) (by decide) dL_sets_880 (fun M880' H locs eM880 hW => ?_)
                have hKx : KPx 64 hh M M880' := by rw [eM880]; exact KPx.sI
                have hKe : gI M880' 64 hh = yw := by rw [eM880, kp_eq]
                have hXX : XX σ v M880' := by rw [eM880]; exact XX_sL hXX (by omega) (by omega)
                refine lv_aload_n hx hb dL_sets_881 rfl (lv_at hl 5 rfl) ?_
                refine lv_iload hx hb dL_sets_882 (lv_at hl 1 rfl) ?_
                refine lv_aload hx hb dL_sets_884 (lv_at hl 10 rfl) ?_
                refine lv_iload hx hb dL_sets_886 (lv_at hl 1 rfl) ?_
                refine walI (j := hh) hx hb hK hW (hMs 64 (by decide) (by decide)) n827' (by omega) (by decide) dL_sets_888 (fun x888' e888' => ?_)
                refine wc_wiN (vx_runSW (As := [.ref (ad 0), .int x827', .int x888']) (rest := []) ⟨hx, hb, hml, hown, hts⟩ (c_L_setRate l hl9 D cA sh ad M880' _ σ v hX hXX x827' x888' ) (vx_cwSW 3 hts gL_sets_L_setRate rfl rfl rfl (by decide +kernel) ⟨Nat.le_of_ble_eq_true rfl, Nat.le_of_ble_eq_true rfl⟩) (lpreS hK hA hW hE hZ hE2) rfl rfl hl.1 rfl (lv_room (Nat.le_of_ble_eq_true rfl)) dL_sets_889 ⟨Nat.le_of_ble_eq_true rfl, Nat.le_of_ble_eq_true rfl⟩) hA hW (fun x889' M889' H locs p889' hW => ?_)
                try dsimp only at p889'
                have e7' : x888' = yw := by rw [e888', hKe]
                have hG889 : (inB x827' 0 9 && inB x888' 0 100000) = true := and_t (in_t (n := 9) r827 (by omega) (by decide)) (in_t (n := 100000) (e7'.trans eyw) hwm (by decide))
                obtain ⟨kp889, gg889⟩ := p889'
                obtain ⟨r889, hXX⟩ := or_ok gg889 hG889
                rw [n1h] at r889
                rw [n1h] at hXX
                obtain ⟨v1, esv1⟩ : ∃ z9 : VT, z9 = (v.1, fun k => if k = hh then x888' else v.2 k) := ⟨_, rfl⟩
                rw [← esv1] at hXX
                have hL : LSt σ v1 M889' := by rw [esv1]; exact LS_rate hL (hKx.kp kp889) (by rw [kp889 64 _ (by omega) (by omega), hKe, e7'])
                refine lv_iload hx hb dL_sets_892 (lv_at hl 0 rfl) ?_
                refine lv_icmp_ne (tgt := 936) hx hb dL_sets_894 (by decide) (fun c894' => ?_) (fun c894' => ?_)
                · exact ((c894' (by rw [r889, e836', hL0.2.2.2.2.1 _ hhh]))).elim
                · refine lv_aload_n hx hb dL_sets_897 rfl (lv_at hl 5 rfl) ?_
                  refine lv_bipush (v := 10) hx hb dL_sets_898 (by decide) ?_
                  refine lv_iconst (v := 0) hx hb dL_sets_900 (by decide) ?_
                  refine wc_wiN (vx_runSW (As := [.ref (ad 0), .int 10, .int 0]) (rest := []) ⟨hx, hb, hml, hown, hts⟩ (c_L_setRate l hl9 D cA sh ad M889' _ σ v1 hX hXX 10 0 ) (vx_cwSW 3 hts gL_sets_L_setRate rfl rfl rfl (by decide +kernel) ⟨Nat.le_of_ble_eq_true rfl, Nat.le_of_ble_eq_true rfl⟩) (lpreS hK hA hW hE hZ hE2) rfl rfl hl.1 rfl (lv_room (Nat.le_of_ble_eq_true rfl)) dL_sets_901 ⟨Nat.le_of_ble_eq_true rfl, Nat.le_of_ble_eq_true rfl⟩) hA hW (fun x901' M901' H locs p901' hW => ?_)
                  try dsimp only at p901'
                  obtain ⟨kp901, gg901⟩ := p901'
                  obtain ⟨r901, hXX⟩ := or_no gg901 (by decide)
                  have hL := hL.kp kp901
                  refine lv_ldc (v := (-1000002)) hx hb hown (hts (.constant RL 18 (-1000002)) (List.mem_of_getElem? (i := 1) rfl)) dL_sets_904 ?_
                  refine lv_icmp_ne (tgt := 936) hx hb dL_sets_906 (by decide) (fun c906' => ?_) (fun c906' => ?_)
                  · exact ((c906' r901)).elim
                  · refine lv_aload_n hx hb dL_sets_909 rfl (lv_at hl 5 rfl) ?_
                    refine lv_iconst (v := 0) hx hb dL_sets_910 (by decide) ?_
                    refine lv_ldc (v := 100001) hx hb hown (hts (.constant RL 176 (100001)) (List.mem_of_getElem? (i := 6) rfl)) dL_sets_911 ?_
                    refine wc_wiN (vx_runSW (As := [.ref (ad 0), .int 0, .int 100001]) (rest := []) ⟨hx, hb, hml, hown, hts⟩ (c_L_setRate l hl9 D cA sh ad M901' _ σ v1 hX hXX 0 100001 ) (vx_cwSW 3 hts gL_sets_L_setRate rfl rfl rfl (by decide +kernel) ⟨Nat.le_of_ble_eq_true rfl, Nat.le_of_ble_eq_true rfl⟩) (lpreS hK hA hW hE hZ hE2) rfl rfl hl.1 rfl (lv_room (Nat.le_of_ble_eq_true rfl)) dL_sets_913 ⟨Nat.le_of_ble_eq_true rfl, Nat.le_of_ble_eq_true rfl⟩) hA hW (fun x913' M913' H locs p913' hW => ?_)
                    try dsimp only at p913'
                    obtain ⟨kp913, gg913⟩ := p913'
                    obtain ⟨r913, hXX⟩ := or_no gg913 (by decide)
                    have hL := hL.kp kp913
                    refine lv_ldc (v := (-1000002)) hx hb hown (hts (.constant RL 18 (-1000002)) (List.mem_of_getElem? (i := 1) rfl)) dL_sets_916 ?_
                    refine lv_icmp_ne (tgt := 936) hx hb dL_sets_918 (by decide) (fun c918' => ?_) (fun c918' => ?_)
                    · exact ((c918' r913)).elim
                    · refine lv_aload_n hx hb dL_sets_921 rfl (lv_at hl 5 rfl) ?_
                      refine lv_iconst (v := 0) hx hb dL_sets_922 (by decide) ?_
                      refine lv_iconst (v := (-1)) hx hb dL_sets_923 (by decide) ?_
                      refine wc_wiN (vx_runSW (As := [.ref (ad 0), .int 0, .int (-1)]) (rest := []) ⟨hx, hb, hml, hown, hts⟩ (c_L_setRate l hl9 D cA sh ad M913' _ σ v1 hX hXX 0 (-1) ) (vx_cwSW 3 hts gL_sets_L_setRate rfl rfl rfl (by decide +kernel) ⟨Nat.le_of_ble_eq_true rfl, Nat.le_of_ble_eq_true rfl⟩) (lpreS hK hA hW hE hZ hE2) rfl rfl hl.1 rfl (lv_room (Nat.le_of_ble_eq_true rfl)) dL_sets_924 ⟨Nat.le_of_ble_eq_true rfl, Nat.le_of_ble_eq_true rfl⟩) hA hW (fun x924' M924' H locs p924' hW => ?_)
                      try dsimp only at p924'
                      obtain ⟨kp924, gg924⟩ := p924'
                      obtain ⟨r924, hXX⟩ := or_no gg924 (by decide)
                      have hL := hL.kp kp924
                      refine lv_ldc (v := (-1000002)) hx hb hown (hts (.constant RL 18 (-1000002)) (List.mem_of_getElem? (i := 1) rfl)) dL_sets_927 ?_
                      refine lv_icmp_ne (tgt := 936) hx hb dL_sets_929 (by decide) (fun c929' => ?_) (fun c929' => ?_)
                      · exact ((c929' r924)).elim
                      · refine lv_iconst (v := 1) hx hb dL_sets_932 (by decide) ?_
                        refine lv_goto (tgt := 937) hx hb dL_sets_933 (by decide) ?_
                        refine W.widen (k := 90) (n := 600) (by decide) (by decide) ?_
                        rw [← hQ9]
                        exact wr_lz hx hb hr hlocks hW dL_sets_937 rfl GR.rf ⟨rfl, σ, v1, by skip; exact hsh, hXX, hL⟩
              refine lv_iload hx hb dL_sets_843 (lv_at hl 14 rfl) ?_
              refine lv_iconst (v := 4) hx hb dL_sets_845 (by decide) ?_
              refine lv_ishr hx hb dL_sets_846 ?_
              refine lv_topi (fun x846' e846' => ?_)
              refine lv_iconst (v := 3) hx hb dL_sets_847 (by decide) ?_
              refine wc_ri (va_runS (As := [.int x846', .int 3]) (rest := [.int x827', .ref (ad 64)]) ⟨hx, hb, hml, hown, hts⟩ (c_L_low l x846' 3 (by decide)) (va_cwS 2 hts gL_sets_L_low rfl rfl rfl (by decide +kernel) ⟨Nat.le_of_ble_eq_true rfl, Nat.le_of_ble_eq_true rfl⟩) npreS rfl rfl hl.1 rfl (lv_room (Nat.le_of_ble_eq_true rfl)) dL_sets_848 ⟨Nat.le_of_ble_eq_true rfl, Nat.le_of_ble_eq_true rfl⟩) hW (fun x848' H locs p848' hW => ?_)
              try dsimp only at p848'
              refine lv_if_ne (tgt := 870) hx hb dL_sets_851 (by decide) (fun c851' => ?_) (fun c851' => ?_)
              · refine lv_iload hx hb dL_sets_870 (lv_at hl 14 rfl) ?_
                refine lv_bipush (v := 6) hx hb dL_sets_872 (by decide) ?_
                refine lv_ishr hx hb dL_sets_874 ?_
                refine lv_topi (fun x874' e874' => ?_)
                refine lv_bipush (v := 9) hx hb dL_sets_875 (by decide) ?_
                refine wc_ri (va_runS (As := [.int x874', .int 9]) (rest := [.int x827', .ref (ad 64)]) ⟨hx, hb, hml, hown, hts⟩ (c_L_low l x874' 9 (by decide)) (va_cwS 2 hts gL_sets_L_low rfl rfl rfl (by decide +kernel) ⟨Nat.le_of_ble_eq_true rfl, Nat.le_of_ble_eq_true rfl⟩) npreS rfl rfl hl.1 rfl (lv_room (Nat.le_of_ble_eq_true rfl)) dL_sets_877 ⟨Nat.le_of_ble_eq_true rfl, Nat.le_of_ble_eq_true rfl⟩) hW (fun x877' H locs p877' hW => ?_)
                try dsimp only at p877'
                obtain ⟨wb, hwb, ewb⟩ := low_n x874' (n := 9) (by decide) (by decide)
                have r877 : x877' = nI wb := p877'.trans ewb
                have n877' : x877' = nI wb := r877
                exact J880 x877' _ _ (by first | exact ⟨100000 - wa, by omega, n866'⟩ | exact ⟨wb, by omega, r877⟩) hW ls (lv_sub hl [0, 1, 2, 3, 4, 5, 6, 7, 8, 9, 10, 11, 12, 13, 14] rfl)
              · refine lv_ldc (v := 100000) hx hb hown (hts (.constant RL 173 (100000)) (List.mem_of_getElem? (i := 5) rfl)) dL_sets_854 ?_
                refine lv_iload hx hb dL_sets_856 (lv_at hl 14 rfl) ?_
                refine lv_bipush (v := 6) hx hb dL_sets_858 (by decide) ?_
                refine lv_ishr hx hb dL_sets_860 ?_
                refine lv_topi (fun x860' e860' => ?_)
                refine lv_bipush (v := 9) hx hb dL_sets_861 (by decide) ?_
                refine wc_ri (va_runS (As := [.int x860', .int 9]) (rest := [.int 100000, .int x827', .ref (ad 64)]) ⟨hx, hb, hml, hown, hts⟩ (c_L_low l x860' 9 (by decide)) (va_cwS 2 hts gL_sets_L_low rfl rfl rfl (by decide +kernel) ⟨Nat.le_of_ble_eq_true rfl, Nat.le_of_ble_eq_true rfl⟩) npreS rfl rfl hl.1 rfl (lv_room (Nat.le_of_ble_eq_true rfl)) dL_sets_863 ⟨Nat.le_of_ble_eq_true rfl, Nat.le_of_ble_eq_true rfl⟩) hW (fun x863' H locs p863' hW => ?_)
                try dsimp only at p863'
                obtain ⟨wa, hwa, ewa⟩ := low_n x860' (n := 9) (by decide) (by decide)
                have r863 : x863' = nI wa := p863'.trans ewa
                have n863' : x863' = nI wa := r863
                refine lv_isub hx hb dL_sets_866 ?_
                refine lv_topi (fun x866' e866' => ?_)
                have n866' : x866' = nI (100000 - wa) := (by rw [e866', (nlit 100000), n863']; exact pk_sub (by omega))
                refine lv_goto (tgt := 880) hx hb dL_sets_867 (by decide) ?_
                exact J880 x866' _ _ (by first | exact ⟨100000 - wa, by omega, n866'⟩ | exact ⟨wb, by omega, r877⟩) hW ls (lv_sub hl [0, 1, 2, 3, 4, 5, 6, 7, 8, 9, 10, 11, 12, 13, 14] rfl)
          · have k682' : kn = 6 := kc_nen n4' (nlit 6) (by omega) (by omega) c682'
            refine lv_aload hx hb dL_sets_685 (lv_at hl 7 rfl) ?_
            refine lv_bipush (v := 8) hx hb dL_sets_687 (by decide) ?_
            refine lv_iload hx hb dL_sets_689 (lv_at hl 0 rfl) ?_
            refine lv_imul hx hb dL_sets_691 ?_
            refine lv_topi (fun x691' e691' => ?_)
            have n691' : x691' = nI (8 * ln) := (by rw [e691', (nlit 8), n24', pk_mul])
            refine lv_iload hx hb dL_sets_692 (lv_at hl 1 rfl) ?_
            refine lv_iadd hx hb dL_sets_694 ?_
            refine lv_topi (fun x694' e694' => ?_)
            have n694' : x694' = nI ((8 * ln) + cl) := (by rw [e694', n691', n13', nI_add])
            refine walI (j := ((8 * ln) + cl)) hx hb hK hW (hMs 63 (by decide) (by decide)) n694' (by omega) (by decide) dL_sets_695 (fun x695' e695' => ?_)
            refine lv_istore (lv' := [(13, .int x695'), (12, .int x24'), (11, .int x13'), (10, .int x4'), (0, .ref (ad 0)), (1, .ref (ad 60)), (2, .ref (ad 61)), (3, .ref (ad 62)), (4, .ref (ad 63)), (5, .ref (ad 64)), (6, .ref (ad 65)), (7, .ref (ad 66)), (8, .int xa), (9, .int xb)]) hx hb dL_sets_696 hl (by decide) rfl (fun ls hl => ?_)
            refine lv_aload hx hb dL_sets_698 (lv_at hl 8 rfl) ?_
            refine lv_bipush (v := 8) hx hb dL_sets_700 (by decide) ?_
            refine lv_iload hx hb dL_sets_702 (lv_at hl 1 rfl) ?_
            refine lv_imul hx hb dL_sets_704 ?_
            refine lv_topi (fun x704' e704' => ?_)
            have n704' : x704' = nI (8 * ln) := (by rw [e704', (nlit 8), n24', pk_mul])
            refine lv_iload hx hb dL_sets_705 (lv_at hl 2 rfl) ?_
            refine lv_iadd hx hb dL_sets_707 ?_
            refine lv_topi (fun x707' e707' => ?_)
            have n707' : x707' = nI ((8 * ln) + cl) := (by rw [e707', n704', n13', nI_add])
            have J747 : ∀ (yv : Int32) (H : Heap) (locs : List Loc), (∃ vm, vm ≤ 100000000 ∧ yv = nI vm) → WS D cA sh ad A s.heap M H locs → ∀ ls, lv_has ls 17 [(13, .int x695'), (12, .int x24'), (11, .int x13'), (10, .int x4'), (0, .ref (ad 0)), (1, .ref (ad 60)), (2, .ref (ad 61)), (3, .ref (ad 62)), (4, .ref (ad 63)), (5, .ref (ad 64)), (6, .ref (ad 65)), (7, .ref (ad 66)), (8, .int xa), (9, .int xb)] → W p l e (headSpec wsL_sets { frames := 10, cells := 90, slots := 600, locals := 176 }).room s m ar below meth cd0 H locs 0 0 (MQ below Q9 ar s 90 600 A) (F0 m 747 ls [.int yv, .int x707', .ref (ad 63)]) := by
              intro yv H locs hyv hW ls hl
              obtain ⟨vm, hvm, eyv⟩ := hyv
              refine wasI (j := ((8 * ln) + cl)) hx hb hK hA hW (hMs 63 (by decide) (by decide)) n707' (by omega) (by decide) dL_sets_747 (fun M747' H locs eM747 hW => ?_)
              have hKx : KPx 63 (8 * ln + cl) M M747' := by rw [eM747]; exact KPx.sI
              have hKe : gI M747' 63 (8 * ln + cl) = yv := by rw [eM747, kp_eq]
              have hXX : XX σ v M747' := by rw [eM747]; exact XX_sL hXX (by omega) (by omega)
              refine lv_aload_n hx hb dL_sets_748 rfl (lv_at hl 4 rfl) ?_
              refine lv_iload hx hb dL_sets_749 (lv_at hl 2 rfl) ?_
              refine lv_iload hx hb dL_sets_751 (lv_at hl 1 rfl) ?_
              refine lv_aload hx hb dL_sets_753 (lv_at hl 8 rfl) ?_
              refine lv_bipush (v := 8) hx hb dL_sets_755 (by decide) ?_
              refine lv_iload hx hb dL_sets_757 (lv_at hl 1 rfl) ?_
              refine lv_imul hx hb dL_sets_759 ?_
              refine lv_topi (fun x759' e759' => ?_)
              have n759' : x759' = nI (8 * ln) := (by rw [e759', (nlit 8), n24', pk_mul])
              refine lv_iload hx hb dL_sets_760 (lv_at hl 2 rfl) ?_
              refine lv_iadd hx hb dL_sets_762 ?_
              refine lv_topi (fun x762' e762' => ?_)
              have n762' : x762' = nI ((8 * ln) + cl) := (by rw [e762', n759', n13', nI_add])
              refine walI (j := ((8 * ln) + cl)) hx hb hK hW (hMs 63 (by decide) (by decide)) n762' (by omega) (by decide) dL_sets_763 (fun x763' e763' => ?_)
              refine wc_wiN (vx_runSW (As := [.ref (ad 0), .int x13', .int x24', .int x763']) (rest := []) ⟨hx, hb, hml, hown, hts⟩ (c_L_setValue l hl9 D cA sh ad M747' _ σ v hX hXX x13' x24' x763' ) (vx_cwSW 4 hts gL_sets_L_setValue rfl rfl rfl (by decide +kernel) ⟨Nat.le_of_ble_eq_true rfl, Nat.le_of_ble_eq_true rfl⟩) (lpreS hK hA hW hE hZ hE2) rfl rfl hl.1 rfl (lv_room (Nat.le_of_ble_eq_true rfl)) dL_sets_764 ⟨Nat.le_of_ble_eq_true rfl, Nat.le_of_ble_eq_true rfl⟩) hA hW (fun x764' M764' H locs p764' hW => ?_)
              try dsimp only at p764'
              have e7' : x763' = yv := by rw [e763', hKe]
              have hG764 : (zoB x13' x24' && inB x763' 0 100000000) = true := and_t hzo (in_t (n := 100000000) (e7'.trans eyv) hvm (by decide))
              obtain ⟨kp764, gg764⟩ := p764'
              obtain ⟨r764, hXX⟩ := or_ok gg764 hG764
              rw [n1c, n1l] at r764
              rw [n1c, n1l] at hXX
              obtain ⟨v1, esv1⟩ : ∃ z9 : VT, z9 = (fun k => if k = 8 * ln + cl then x763' else v.1 k, v.2) := ⟨_, rfl⟩
              rw [← esv1] at hXX
              have hL : LSt σ v1 M764' := by rw [esv1]; exact LS_val hL (hKx.kp kp764) (by rw [kp764 63 _ (by omega) (by omega), hKe, e7'])
              refine lv_iload hx hb dL_sets_767 (lv_at hl 0 rfl) ?_
              refine lv_icmp_ne (tgt := 814) hx hb dL_sets_769 (by decide) (fun c769' => ?_) (fun c769' => ?_)
              · exact ((c769' (by rw [r764, e695', hL0.2.2.2.1 _ hZ8]))).elim
              · refine lv_aload_n hx hb dL_sets_772 rfl (lv_at hl 4 rfl) ?_
                refine lv_iconst (v := 0) hx hb dL_sets_773 (by decide) ?_
                refine lv_bipush (v := 8) hx hb dL_sets_774 (by decide) ?_
                refine lv_iconst (v := 0) hx hb dL_sets_776 (by decide) ?_
                refine wc_wiN (vx_runSW (As := [.ref (ad 0), .int 0, .int 8, .int 0]) (rest := []) ⟨hx, hb, hml, hown, hts⟩ (c_L_setValue l hl9 D cA sh ad M764' _ σ v1 hX hXX 0 8 0 ) (vx_cwSW 4 hts gL_sets_L_setValue rfl rfl rfl (by decide +kernel) ⟨Nat.le_of_ble_eq_true rfl, Nat.le_of_ble_eq_true rfl⟩) (lpreS hK hA hW hE hZ hE2) rfl rfl hl.1 rfl (lv_room (Nat.le_of_ble_eq_true rfl)) dL_sets_777 ⟨Nat.le_of_ble_eq_true rfl, Nat.le_of_ble_eq_true rfl⟩) hA hW (fun x777' M777' H locs p777' hW => ?_)
                try dsimp only at p777'
                obtain ⟨kp777, gg777⟩ := p777'
                obtain ⟨r777, hXX⟩ := or_no gg777 (by decide)
                have hL := hL.kp kp777
                refine lv_ldc (v := (-1000002)) hx hb hown (hts (.constant RL 18 (-1000002)) (List.mem_of_getElem? (i := 1) rfl)) dL_sets_780 ?_
                refine lv_icmp_ne (tgt := 814) hx hb dL_sets_782 (by decide) (fun c782' => ?_) (fun c782' => ?_)
                · exact ((c782' r777)).elim
                · refine lv_aload_n hx hb dL_sets_785 rfl (lv_at hl 4 rfl) ?_
                  refine lv_iconst (v := 0) hx hb dL_sets_786 (by decide) ?_
                  refine lv_iconst (v := 0) hx hb dL_sets_787 (by decide) ?_
                  refine lv_ldc (v := 100000001) hx hb hown (hts (.constant RL 172 (100000001)) (List.mem_of_getElem? (i := 4) rfl)) dL_sets_788 ?_
                  refine wc_wiN (vx_runSW (As := [.ref (ad 0), .int 0, .int 0, .int 100000001]) (rest := []) ⟨hx, hb, hml, hown, hts⟩ (c_L_setValue l hl9 D cA sh ad M777' _ σ v1 hX hXX 0 0 100000001 ) (vx_cwSW 4 hts gL_sets_L_setValue rfl rfl rfl (by decide +kernel) ⟨Nat.le_of_ble_eq_true rfl, Nat.le_of_ble_eq_true rfl⟩) (lpreS hK hA hW hE hZ hE2) rfl rfl hl.1 rfl (lv_room (Nat.le_of_ble_eq_true rfl)) dL_sets_790 ⟨Nat.le_of_ble_eq_true rfl, Nat.le_of_ble_eq_true rfl⟩) hA hW (fun x790' M790' H locs p790' hW => ?_)
                  try dsimp only at p790'
                  obtain ⟨kp790, gg790⟩ := p790'
                  obtain ⟨r790, hXX⟩ := or_no gg790 (by decide)
                  have hL := hL.kp kp790
                  refine lv_ldc (v := (-1000002)) hx hb hown (hts (.constant RL 18 (-1000002)) (List.mem_of_getElem? (i := 1) rfl)) dL_sets_793 ?_
                  refine lv_icmp_ne (tgt := 814) hx hb dL_sets_795 (by decide) (fun c795' => ?_) (fun c795' => ?_)
                  · exact ((c795' r790)).elim
                  · refine lv_aload_n hx hb dL_sets_798 rfl (lv_at hl 4 rfl) ?_
                    refine lv_iconst (v := 0) hx hb dL_sets_799 (by decide) ?_
                    refine lv_iconst (v := 0) hx hb dL_sets_800 (by decide) ?_
                    refine lv_iconst (v := (-1)) hx hb dL_sets_801 (by decide) ?_
                    refine wc_wiN (vx_runSW (As := [.ref (ad 0), .int 0, .int 0, .int (-1)]) (rest := []) ⟨hx, hb, hml, hown, hts⟩ (c_L_setValue l hl9 D cA sh ad M790' _ σ v1 hX hXX 0 0 (-1) ) (vx_cwSW 4 hts gL_sets_L_setValue rfl rfl rfl (by decide +kernel) ⟨Nat.le_of_ble_eq_true rfl, Nat.le_of_ble_eq_true rfl⟩) (lpreS hK hA hW hE hZ hE2) rfl rfl hl.1 rfl (lv_room (Nat.le_of_ble_eq_true rfl)) dL_sets_802 ⟨Nat.le_of_ble_eq_true rfl, Nat.le_of_ble_eq_true rfl⟩) hA hW (fun x802' M802' H locs p802' hW => ?_)
                    try dsimp only at p802'
                    obtain ⟨kp802, gg802⟩ := p802'
                    obtain ⟨r802, hXX⟩ := or_no gg802 (by decide)
                    have hL := hL.kp kp802
                    refine lv_ldc (v := (-1000002)) hx hb hown (hts (.constant RL 18 (-1000002)) (List.mem_of_getElem? (i := 1) rfl)) dL_sets_805 ?_
                    refine lv_icmp_ne (tgt := 814) hx hb dL_sets_807 (by decide) (fun c807' => ?_) (fun c807' => ?_)
                    · exact ((c807' r802)).elim
                    · refine lv_iconst (v := 1) hx hb dL_sets_810 (by decide) ?_
                      refine lv_goto (tgt := 815) hx hb dL_sets_811 (by decide) ?_
                      refine W.widen (k := 90) (n := 600) (by decide) (by decide) ?_
                      rw [← hQ9]
                      exact wr_lz hx hb hr hlocks hW dL_sets_815 rfl GR.rf ⟨rfl, σ, v1, by skip; exact hsh, hXX, hL⟩
            refine lv_iload hx hb dL_sets_708 (lv_at hl 13 rfl) ?_
            refine lv_bipush (v := 6) hx hb dL_sets_710 (by decide) ?_
            refine lv_ishr hx hb dL_sets_712 ?_
            refine lv_topi (fun x712' e712' => ?_)
            refine lv_iconst (v := 3) hx hb dL_sets_713 (by decide) ?_
            refine wc_ri (va_runS (As := [.int x712', .int 3]) (rest := [.int x707', .ref (ad 63)]) ⟨hx, hb, hml, hown, hts⟩ (c_L_low l x712' 3 (by decide)) (va_cwS 2 hts gL_sets_L_low rfl rfl rfl (by decide +kernel) ⟨Nat.le_of_ble_eq_true rfl, Nat.le_of_ble_eq_true rfl⟩) npreS rfl rfl hl.1 rfl (lv_room (Nat.le_of_ble_eq_true rfl)) dL_sets_714 ⟨Nat.le_of_ble_eq_true rfl, Nat.le_of_ble_eq_true rfl⟩) hW (fun x714' H locs p714' hW => ?_)
            try dsimp only at p714'
            refine lv_if_ne (tgt := 736) hx hb dL_sets_717 (by decide) (fun c717' => ?_) (fun c717' => ?_)
            · refine lv_iload hx hb dL_sets_736 (lv_at hl 13 rfl) ?_
              refine lv_bipush (v := 8) hx hb dL_sets_738 (by decide) ?_
              refine lv_ishr hx hb dL_sets_740 ?_
              refine lv_topi (fun x740' e740' => ?_)
              refine lv_sipush (v := 1000) hx hb dL_sets_741 (by decide) ?_
              refine wc_ri (va_runS (As := [.int x740', .int 1000]) (rest := [.int x707', .ref (ad 63)]) ⟨hx, hb, hml, hown, hts⟩ (c_L_low l x740' 1000 (by decide)) (va_cwS 2 hts gL_sets_L_low rfl rfl rfl (by decide +kernel) ⟨Nat.le_of_ble_eq_true rfl, Nat.le_of_ble_eq_true rfl⟩) npreS rfl rfl hl.1 rfl (lv_room (Nat.le_of_ble_eq_true rfl)) dL_sets_744 ⟨Nat.le_of_ble_eq_true rfl, Nat.le_of_ble_eq_true rfl⟩) hW (fun x744' H locs p744' hW => ?_)
              try dsimp only at p744'
              obtain ⟨vb, hvb, evb⟩ := low_n x740' (n := 1000) (by decide) (by decide)
              have r744 : x744' = nI vb := p744'.trans evb
              have n744' : x744' = nI vb := r744
              exact J747 x744' _ _ (by first | exact ⟨100000000 - va, by omega, n732'⟩ | exact ⟨vb, by omega, r744⟩) hW ls (lv_sub hl [0, 1, 2, 3, 4, 5, 6, 7, 8, 9, 10, 11, 12, 13] rfl)
            · refine lv_ldc (v := 100000000) hx hb hown (hts (.constant RL 169 (100000000)) (List.mem_of_getElem? (i := 3) rfl)) dL_sets_720 ?_
              refine lv_iload hx hb dL_sets_722 (lv_at hl 13 rfl) ?_
              refine lv_bipush (v := 8) hx hb dL_sets_724 (by decide) ?_
              refine lv_ishr hx hb dL_sets_726 ?_
              refine lv_topi (fun x726' e726' => ?_)
              refine lv_bipush (v := 9) hx hb dL_sets_727 (by decide) ?_
              refine wc_ri (va_runS (As := [.int x726', .int 9]) (rest := [.int 100000000, .int x707', .ref (ad 63)]) ⟨hx, hb, hml, hown, hts⟩ (c_L_low l x726' 9 (by decide)) (va_cwS 2 hts gL_sets_L_low rfl rfl rfl (by decide +kernel) ⟨Nat.le_of_ble_eq_true rfl, Nat.le_of_ble_eq_true rfl⟩) npreS rfl rfl hl.1 rfl (lv_room (Nat.le_of_ble_eq_true rfl)) dL_sets_729 ⟨Nat.le_of_ble_eq_true rfl, Nat.le_of_ble_eq_true rfl⟩) hW (fun x729' H locs p729' hW => ?_)
              try dsimp only at p729'
              obtain ⟨va, hva, eva⟩ := low_n x726' (n := 9) (by decide) (by decide)
              have r729 : x729' = nI va := p729'.trans eva
              have n729' : x729' = nI va := r729
              refine lv_isub hx hb dL_sets_732 ?_
              refine lv_topi (fun x732' e732' => ?_)
              have n732' : x732' = nI (100000000 - va) := (by rw [e732', (nlit 100000000), n729']; exact pk_sub (by omega))
              refine lv_goto (tgt := 747) hx hb dL_sets_733 (by decide) ?_
              exact J747 x732' _ _ (by first | exact ⟨100000000 - va, by omega, n732'⟩ | exact ⟨vb, by omega, r744⟩) hW ls (lv_sub hl [0, 1, 2, 3, 4, 5, 6, 7, 8, 9, 10, 11, 12, 13] rfl)
        · have k530' : ¬ 6 ≤ kn := kc_gen n4' (nlit 6) (by omega) (by omega) c530'
          have J561 : ∀ (yp : Int32) (H : Heap) (locs : List Loc), (∃ pm, pm ≤ 9 ∧ yp = nI pm) → WS D cA sh ad A s.heap M H locs → ∀ ls, lv_has ls 17 [(12, .int x24'), (11, .int x13'), (10, .int x4'), (0, .ref (ad 0)), (1, .ref (ad 60)), (2, .ref (ad 61)), (3, .ref (ad 62)), (4, .ref (ad 63)), (5, .ref (ad 64)), (6, .ref (ad 65)), (7, .ref (ad 66)), (8, .int xa), (9, .int xb)] → W p l e (headSpec wsL_sets { frames := 10, cells := 90, slots := 600, locals := 176 }).room s m ar below meth cd0 H locs 0 0 (MQ below Q9 ar s 90 600 A) (F0 m 561 ls [.int yp]) := by
            intro yp H locs hyp hW ls hl
            obtain ⟨pm, hpm, eyp⟩ := hyp
            refine lv_istore (lv' := [(13, .int yp), (12, .int x24'), (11, .int x13'), (10, .int x4'), (0, .ref (ad 0)), (1, .ref (ad 60)), (2, .ref (ad 61)), (3, .ref (ad 62)), (4, .ref (ad 63)), (5, .ref (ad 64)), (6, .ref (ad 65)), (7, .ref (ad 66)), (8, .int xa), (9, .int xb)]) hx hb dL_sets_561 hl (by decide) rfl (fun ls hl => ?_)
            refine lv_aload_n hx hb dL_sets_563 rfl (lv_at hl 7 rfl) ?_
            refine lv_bipush (v := 8) hx hb dL_sets_564 (by decide) ?_
            refine lv_iload hx hb dL_sets_566 (lv_at hl 1 rfl) ?_
            refine lv_imul hx hb dL_sets_568 ?_
            refine lv_topi (fun x568' e568' => ?_)
            have n568' : x568' = nI (8 * ln) := (by rw [e568', (nlit 8), n24', pk_mul])
            refine lv_iload hx hb dL_sets_569 (lv_at hl 2 rfl) ?_
            refine lv_iadd hx hb dL_sets_571 ?_
            refine lv_topi (fun x571' e571' => ?_)
            have n571' : x571' = nI ((8 * ln) + cl) := (by rw [e571', n568', n13', nI_add])
            refine walI (j := ((8 * ln) + cl)) hx hb hK hW (hMs 62 (by decide) (by decide)) n571' (by omega) (by decide) dL_sets_572 (fun x572' e572' => ?_)
            refine lv_istore (lv' := [(14, .int x572'), (13, .int yp), (12, .int x24'), (11, .int x13'), (10, .int x4'), (0, .ref (ad 0)), (1, .ref (ad 60)), (2, .ref (ad 61)), (3, .ref (ad 62)), (4, .ref (ad 63)), (5, .ref (ad 64)), (6, .ref (ad 65)), (7, .ref (ad 66)), (8, .int xa), (9, .int xb)]) hx hb dL_sets_573 hl (by decide) rfl (fun ls hl => ?_)
            refine lv_aload_n hx hb dL_sets_575 rfl (lv_at hl 8 rfl) ?_
            refine lv_bipush (v := 8) hx hb dL_sets_576 (by decide) ?_
            refine lv_iload hx hb dL_sets_578 (lv_at hl 2 rfl) ?_
            refine lv_imul hx hb dL_sets_580 ?_
            refine lv_topi (fun x580' e580' => ?_)
            have n580' : x580' = nI (8 * ln) := (by rw [e580', (nlit 8), n24', pk_mul])
            refine lv_iload hx hb dL_sets_581 (lv_at hl 3 rfl) ?_
            refine lv_iadd hx hb dL_sets_583 ?_
            refine lv_topi (fun x583' e583' => ?_)
            have n583' : x583' = nI ((8 * ln) + cl) := (by rw [e583', n580', n13', nI_add])
            refine lv_iload hx hb dL_sets_584 (lv_at hl 1 rfl) ?_
            refine wasI (j := ((8 * ln) + cl)) hx hb hK hA hW (hMs 62 (by decide) (by decide)) n583' (by omega) (by decide) dL_sets_586 (fun M586' H locs eM586 hW => ?_)
            have hKx : KPx 62 (8 * ln + cl) M M586' := by rw [eM586]; exact KPx.sI
            have hKe : gI M586' 62 (8 * ln + cl) = yp := by rw [eM586, kp_eq]
            have hXX : XX σ v M586' := by rw [eM586]; exact XX_sL hXX (by omega) (by omega)
            have h62 : ∀ j, j < 64 → gI M586' 62 j = (oPeop σ (8 * ln + cl) yp).1 0 j := fun j hj => by rw [eM586]; exact peop_is σ _ yp hL.2.2.1 hj
            refine lv_iconst (v := 0) hx hb dL_sets_587 (by decide) ?_
            refine lv_istore (lv' := [(15, .int 0), (14, .int x572'), (13, .int yp), (12, .int x24'), (11, .int x13'), (10, .int x4'), (0, .ref (ad 0)), (1, .ref (ad 60)), (2, .ref (ad 61)), (3, .ref (ad 62)), (4, .ref (ad 63)), (5, .ref (ad 64)), (6, .ref (ad 65)), (7, .ref (ad 66)), (8, .int xa), (9, .int xb)]) hx hb dL_sets_588 hl (by decide) rfl (fun ls hl => ?_)
            refine lv_iconst (v := 0) hx hb dL_sets_590 (by decide) ?_
            refine lv_istore (lv' := [(16, .int 0), (15, .int 0), (14, .int x572'), (13, .int yp), (12, .int x24'), (11, .int x13'), (10, .int x4'), (0, .ref (ad 0)), (1, .ref (ad 60)), (2, .ref (ad 61)), (3, .ref (ad 62)), (4, .ref (ad 63)), (5, .ref (ad 64)), (6, .ref (ad 65)), (7, .ref (ad 66)), (8, .int xa), (9, .int xb)]) hx hb dL_sets_591 hl (by decide) rfl (fun ls hl => ?_)
            have L593 : ∀ (fu : Nat) (k : Nat) (xk : Int32) (xs : Int32) (H : Heap) (locs : List Loc), 64 - k < fu → (k ≤ 64) → (xk = nI k) → (xs = nI (ctN (fun j => decide (0 < (oPeop σ (8 * ln + cl) yp).1 0 j)) k)) → WS D cA sh ad A s.heap M586' H locs → ∀ ls, lv_has ls 17 [(16, .int xk), (15, .int xs), (14, .int x572'), (13, .int yp), (12, .int x24'), (11, .int x13'), (10, .int x4'), (0, .ref (ad 0)), (1, .ref (ad 60)), (2, .ref (ad 61)), (3, .ref (ad 62)), (4, .ref (ad 63)), (5, .ref (ad 64)), (6, .ref (ad 65)), (7, .ref (ad 66)), (8, .int xa), (9, .int xb)] → W p l e (headSpec wsL_sets { frames := 10, cells := 90, slots := 600, locals := 176 }).room s m ar below meth cd0 H locs 0 0 (MQ below Q9 ar s 90 600 A) (F0 m 593 ls []) := by
              intro fu
              induction fu with
              | zero =>
                intro k xk xs H locs hn hk5 ek es hW ls hl
                exact absurd hn (Nat.not_lt_zero _)
              | succ fu ih593 =>
                intro k xk xs H locs hn hk5 ek es hW ls hl
                refine lv_iload hx hb dL_sets_593 (lv_at hl 0 rfl) ?_
                refine lv_bipush (v := 64) hx hb dL_sets_595 (by decide) ?_
                refine lv_icmp_ge (tgt := 623) hx hb dL_sets_597 (by decide) (fun c597' => ?_) (fun c597' => ?_)
                · have k597' : 64 ≤ k := kc_ge ek (nlit 64) (by omega) (by omega) c597'
                  refine lv_aload_n hx hb dL_sets_623 rfl (lv_at hl 7 rfl) ?_
                  refine lv_iload hx hb dL_sets_624 (lv_at hl 5 rfl) ?_
                  refine lv_iload hx hb dL_sets_626 (lv_at hl 4 rfl) ?_
                  refine lv_iload hx hb dL_sets_628 (lv_at hl 3 rfl) ?_
                  refine wc_wiN (vx_runSW (As := [.ref (ad 0), .int x13', .int x24', .int yp]) (rest := []) ⟨hx, hb, hml, hown, hts⟩ (c_L_setPeople l hl9 D cA sh ad M586' _ σ v hX hXX x13' x24' yp ) (vx_cwSW 4 hts gL_sets_L_setPeople rfl rfl rfl (by decide +kernel) ⟨Nat.le_of_ble_eq_true rfl, Nat.le_of_ble_eq_true rfl⟩) (lpreS hK hA hW hE hZ hE2) rfl rfl hl.1 rfl (lv_room (Nat.le_of_ble_eq_true rfl)) dL_sets_630 ⟨Nat.le_of_ble_eq_true rfl, Nat.le_of_ble_eq_true rfl⟩) hA hW (fun x630' M630' H locs p630' hW => ?_)
                  try dsimp only at p630'
                  have hG630 : (zoB x13' x24' && decide (0 ≤ yp)) = true := and_t hzo (decide_eq_true (by rw [eyp, i32le, nI_toInt (by omega), i32z]; omega))
                  obtain ⟨kp630, gg630⟩ := p630'
                  obtain ⟨r630, hXX⟩ := or_ok gg630 hG630
                  rw [n1c, n1l] at r630
                  rw [n1c, n1l] at hXX
                  obtain ⟨σ1, esσ1⟩ : ∃ z9, z9 = oPeop σ (8 * ln + cl) yp := ⟨_, rfl⟩
                  rw [← esσ1] at hXX
                  have hX : XSh (aN σ1) sh := by rw [esσ1]; exact hX
                  have hL : LSt σ1 v M630' := by rw [esσ1]; exact LS_peop hL (hKx.kp kp630) (by rw [kp630 62 _ (by omega) (by omega), hKe])
                  refine lv_iload hx hb dL_sets_633 (lv_at hl 2 rfl) ?_
                  refine lv_icmp_ne (tgt := 676) hx hb dL_sets_635 (by decide) (fun c635' => ?_) (fun c635' => ?_)
                  · exact ((c635' (by rw [r630, e572', hL0.2.2.1 _ hZ8]))).elim
                  · refine lv_aload_n hx hb dL_sets_638 rfl (lv_at hl 7 rfl) ?_
                    refine wc_ri (va_runV (As := []) (rest := []) ⟨hx, hb, hml, hown, hts⟩ (c_X9_peopled l D cA sh ad M630' _ σ1 v hX hXX) (cwV 0 hts gL_sets_X9_peopled rfl rfl rfl (by decide +kernel) ⟨Nat.le_of_ble_eq_true rfl, Nat.le_of_ble_eq_true rfl⟩) (wpreV hK hW (C := RX9) (ci := 9) (hX.1 0 (by decide)) rfl) rfl rfl hl.1 rfl (lv_room (Nat.le_of_ble_eq_true rfl)) dL_sets_639 ⟨Nat.le_of_ble_eq_true rfl, Nat.le_of_ble_eq_true rfl⟩) hW (fun x639' H locs p639' hW => ?_)
                    try dsimp only at p639'
                    refine lv_iload hx hb dL_sets_642 (lv_at hl 1 rfl) ?_
                    refine lv_icmp_ne (tgt := 676) hx hb dL_sets_644 (by decide) (fun c644' => ?_) (fun c644' => ?_)
                    · exact ((c644' (by rw [p639', es, show k = 64 by omega, esσ1]))).elim
                    · refine lv_aload_n hx hb dL_sets_647 rfl (lv_at hl 7 rfl) ?_
                      refine lv_bipush (v := 8) hx hb dL_sets_648 (by decide) ?_
                      refine lv_iconst (v := 0) hx hb dL_sets_650 (by decide) ?_
                      refine lv_iconst (v := 0) hx hb dL_sets_651 (by decide) ?_
                      refine wc_wiN (vx_runSW (As := [.ref (ad 0), .int 8, .int 0, .int 0]) (rest := []) ⟨hx, hb, hml, hown, hts⟩ (c_L_setPeople l hl9 D cA sh ad M630' _ σ1 v hX hXX 8 0 0 ) (vx_cwSW 4 hts gL_sets_L_setPeople rfl rfl rfl (by decide +kernel) ⟨Nat.le_of_ble_eq_true rfl, Nat.le_of_ble_eq_true rfl⟩) (lpreS hK hA hW hE hZ hE2) rfl rfl hl.1 rfl (lv_room (Nat.le_of_ble_eq_true rfl)) dL_sets_652 ⟨Nat.le_of_ble_eq_true rfl, Nat.le_of_ble_eq_true rfl⟩) hA hW (fun x652' M652' H locs p652' hW => ?_)
                      try dsimp only at p652'
                      obtain ⟨kp652, gg652⟩ := p652'
                      obtain ⟨r652, hXX⟩ := or_no gg652 (by decide)
                      have hL := hL.kp kp652
                      refine lv_ldc (v := (-1000002)) hx hb hown (hts (.constant RL 18 (-1000002)) (List.mem_of_getElem? (i := 1) rfl)) dL_sets_655 ?_
                      refine lv_icmp_ne (tgt := 676) hx hb dL_sets_657 (by decide) (fun c657' => ?_) (fun c657' => ?_)
                      · exact ((c657' r652)).elim
                      · refine lv_aload_n hx hb dL_sets_660 rfl (lv_at hl 7 rfl) ?_
                        refine lv_iconst (v := 0) hx hb dL_sets_661 (by decide) ?_
                        refine lv_iconst (v := 0) hx hb dL_sets_662 (by decide) ?_
                        refine lv_iconst (v := (-1)) hx hb dL_sets_663 (by decide) ?_
                        refine wc_wiN (vx_runSW (As := [.ref (ad 0), .int 0, .int 0, .int (-1)]) (rest := []) ⟨hx, hb, hml, hown, hts⟩ (c_L_setPeople l hl9 D cA sh ad M652' _ σ1 v hX hXX 0 0 (-1) ) (vx_cwSW 4 hts gL_sets_L_setPeople rfl rfl rfl (by decide +kernel) ⟨Nat.le_of_ble_eq_true rfl, Nat.le_of_ble_eq_true rfl⟩) (lpreS hK hA hW hE hZ hE2) rfl rfl hl.1 rfl (lv_room (Nat.le_of_ble_eq_true rfl)) dL_sets_664 ⟨Nat.le_of_ble_eq_true rfl, Nat.le_of_ble_eq_true rfl⟩) hA hW (fun x664' M664' H locs p664' hW => ?_)
                        try dsimp only at p664'
                        obtain ⟨kp664, gg664⟩ := p664'
                        obtain ⟨r664, hXX⟩ := or_no gg664 (by decide)
                        have hL := hL.kp kp664
                        refine lv_ldc (v := (-1000002)) hx hb hown (hts (.constant RL 18 (-1000002)) (List.mem_of_getElem? (i := 1) rfl)) dL_sets_667 ?_
                        refine lv_icmp_ne (tgt := 676) hx hb dL_sets_669 (by decide) (fun c669' => ?_) (fun c669' => ?_)
                        · exact ((c669' r664)).elim
                        · refine lv_iconst (v := 1) hx hb dL_sets_672 (by decide) ?_
                          refine lv_goto (tgt := 677) hx hb dL_sets_673 (by decide) ?_
                          refine W.widen (k := 90) (n := 600) (by decide) (by decide) ?_
                          rw [← hQ9]
                          exact wr_lz hx hb hr hlocks hW dL_sets_677 rfl GR.rf ⟨rfl, σ1, v, by rw [esσ1]; exact hsh, hXX, hL⟩
                · have k597' : ¬ 64 ≤ k := kc_gen ek (nlit 64) (by omega) (by omega) c597'
                  refine lv_iload hx hb dL_sets_600 (lv_at hl 1 rfl) ?_
                  have J614 : ∀ (ys : Int32) (H : Heap) (locs : List Loc), (ys = bI (decide (0 < (oPeop σ (8 * ln + cl) yp).1 0 k))) → WS D cA sh ad A s.heap M586' H locs → ∀ ls, lv_has ls 17 [(16, .int xk), (15, .int xs), (14, .int x572'), (13, .int yp), (12, .int x24'), (11, .int x13'), (10, .int x4'), (0, .ref (ad 0)), (1, .ref (ad 60)), (2, .ref (ad 61)), (3, .ref (ad 62)), (4, .ref (ad 63)), (5, .ref (ad 64)), (6, .ref (ad 65)), (7, .ref (ad 66)), (8, .int xa), (9, .int xb)] → W p l e (headSpec wsL_sets { frames := 10, cells := 90, slots := 600, locals := 176 }).room s m ar below meth cd0 H locs 0 0 (MQ below Q9 ar s 90 600 A) (F0 m 614 ls [.int ys, .int xs]) := by
                    intro ys H locs hys hW ls hl
                    refine lv_iadd hx hb dL_sets_614 ?_
                    refine lv_topi (fun x614' e614' => ?_)
                    refine lv_istore (lv' := [(15, .int x614'), (16, .int xk), (14, .int x572'), (13, .int yp), (12, .int x24'), (11, .int x13'), (10, .int x4'), (0, .ref (ad 0)), (1, .ref (ad 60)), (2, .ref (ad 61)), (3, .ref (ad 62)), (4, .ref (ad 63)), (5, .ref (ad 64)), (6, .ref (ad 65)), (7, .ref (ad 66)), (8, .int xa), (9, .int xb)]) hx hb dL_sets_615 hl (by decide) rfl (fun ls hl => ?_)
                    obtain ⟨x617', e617'⟩ : ∃ y : Int32, y = xk + 1 := ⟨_, rfl⟩
                    refine lv_iinc (v := x617') (lv' := [(16, .int x617'), (15, .int x614'), (14, .int x572'), (13, .int yp), (12, .int x24'), (11, .int x13'), (10, .int x4'), (0, .ref (ad 0)), (1, .ref (ad 60)), (2, .ref (ad 61)), (3, .ref (ad 62)), (4, .ref (ad 63)), (5, .ref (ad 64)), (6, .ref (ad 65)), (7, .ref (ad 66)), (8, .int xa), (9, .int xb)]) hx hb dL_sets_617 hl (k := 1) rfl (by rw [e617']; rfl) (by decide) rfl (fun ls hl => ?_)
                    refine lv_goto (tgt := 593) hx hb dL_sets_620 (by decide) ?_
                    exact ih593 (k + 1) x617' x614' _ _ (by omega) (by omega) (by rw [e617', ek, nlit 1, nI_add]) (by rw [e614', hys]; exact ct_b (p := fun j => decide (0 < (oPeop σ (8 * ln + cl) yp).1 0 j)) es) hW ls (lv_sub hl [0, 1, 2, 3, 4, 5, 6, 7, 8, 9, 10, 11, 12, 13, 14, 15, 16] rfl)
                  refine lv_aload_n hx hb dL_sets_602 rfl (lv_at hl 10 rfl) ?_
                  refine lv_iload hx hb dL_sets_603 (lv_at hl 0 rfl) ?_
                  refine walI (j := k) hx hb hK hW (hMs 62 (by decide) (by decide)) ek (by omega) (by decide) dL_sets_605 (fun x605' e605' => ?_)
                  refine lv_if_le (tgt := 613) hx hb dL_sets_606 (by decide) (fun c606' => ?_) (fun c606' => ?_)
                  · refine lv_iconst (v := 0) hx hb dL_sets_613 (by decide) ?_
                    exact J614 0 _ _ (by
                        rw [e605', h62 k (by omega), i32le, i32z] at c606'
                        first
                        | exact bI_ff (decide_eq_false (fun z9 => by rw [i32lt, i32z] at z9; omega))
                        | exact bI_tt (decide_eq_true (by rw [i32lt, i32z]; omega))) hW ls (lv_sub hl [0, 1, 2, 3, 4, 5, 6, 7, 8, 9, 10, 11, 12, 13, 14, 15, 16] rfl)
                  · refine lv_iconst (v := 1) hx hb dL_sets_609 (by decide) ?_
                    refine lv_goto (tgt := 614) hx hb dL_sets_610 (by decide) ?_
                    exact J614 1 _ _ (by
                        rw [e605', h62 k (by omega), i32le, i32z] at c606'
                        first
                        | exact bI_ff (decide_eq_false (fun z9 => by rw [i32lt, i32z] at z9; omega))
                        | exact bI_tt (decide_eq_true (by rw [i32lt, i32z]; omega))) hW ls (lv_sub hl [0, 1, 2, 3, 4, 5, 6, 7, 8, 9, 10, 11, 12, 13, 14, 15, 16] rfl)
            exact L593 (_ + 1) 0 0 0 _ _ (Nat.lt_succ_self _) (Nat.zero_le _) rfl rfl hW ls (lv_sub hl [0, 1, 2, 3, 4, 5, 6, 7, 8, 9, 10, 11, 12, 13, 14, 15, 16] rfl)
          refine lv_iload hx hb dL_sets_533 (lv_at hl 12 rfl) ?_
          refine lv_bipush (v := 6) hx hb dL_sets_535 (by decide) ?_
          refine lv_ishr hx hb dL_sets_537 ?_
          refine lv_topi (fun x537' e537' => ?_)
          refine lv_iconst (v := 3) hx hb dL_sets_538 (by decide) ?_
          refine wc_ri (va_runS (As := [.int x537', .int 3]) (rest := []) ⟨hx, hb, hml, hown, hts⟩ (c_L_low l x537' 3 (by decide)) (va_cwS 2 hts gL_sets_L_low rfl rfl rfl (by decide +kernel) ⟨Nat.le_of_ble_eq_true rfl, Nat.le_of_ble_eq_true rfl⟩) npreS rfl rfl hl.1 rfl (lv_room (Nat.le_of_ble_eq_true rfl)) dL_sets_539 ⟨Nat.le_of_ble_eq_true rfl, Nat.le_of_ble_eq_true rfl⟩) hW (fun x539' H locs p539' hW => ?_)
          try dsimp only at p539'
          refine lv_if_ne (tgt := 560) hx hb dL_sets_542 (by decide) (fun c542' => ?_) (fun c542' => ?_)
          · refine lv_iconst (v := 0) hx hb dL_sets_560 (by decide) ?_
            exact J561 0 _ _ (by first | exact ⟨0, by omega, rfl⟩ | exact ⟨1 + pa, by omega, n556'⟩) hW ls (lv_sub hl [0, 1, 2, 3, 4, 5, 6, 7, 8, 9, 10, 11, 12] rfl)
          · refine lv_iconst (v := 1) hx hb dL_sets_545 (by decide) ?_
            refine lv_iload hx hb dL_sets_546 (lv_at hl 12 rfl) ?_
            refine lv_bipush (v := 8) hx hb dL_sets_548 (by decide) ?_
            refine lv_ishr hx hb dL_sets_550 ?_
            refine lv_topi (fun x550' e550' => ?_)
            refine lv_bipush (v := 9) hx hb dL_sets_551 (by decide) ?_
            refine wc_ri (va_runS (As := [.int x550', .int 9]) (rest := [.int 1]) ⟨hx, hb, hml, hown, hts⟩ (c_L_low l x550' 9 (by decide)) (va_cwS 2 hts gL_sets_L_low rfl rfl rfl (by decide +kernel) ⟨Nat.le_of_ble_eq_true rfl, Nat.le_of_ble_eq_true rfl⟩) npreS rfl rfl hl.1 rfl (lv_room (Nat.le_of_ble_eq_true rfl)) dL_sets_553 ⟨Nat.le_of_ble_eq_true rfl, Nat.le_of_ble_eq_true rfl⟩) hW (fun x553' H locs p553' hW => ?_)
            try dsimp only at p553'
            obtain ⟨pa, hpa, epa⟩ := low_n x550' (n := 9) (by decide) (by decide)
            have r553 : x553' = nI pa := p553'.trans epa
            have n553' : x553' = nI pa := r553
            refine lv_iadd hx hb dL_sets_556 ?_
            refine lv_topi (fun x556' e556' => ?_)
            have n556' : x556' = nI (1 + pa) := (by rw [e556', (nlit 1), n553', nI_add])
            refine lv_goto (tgt := 561) hx hb dL_sets_557 (by decide) ?_
            exact J561 x556' _ _ (by first | exact ⟨0, by omega, rfl⟩ | exact ⟨1 + pa, by omega, n556'⟩) hW ls (lv_sub hl [0, 1, 2, 3, 4, 5, 6, 7, 8, 9, 10, 11, 12] rfl)
      · have k342' : ¬ 4 ≤ kn := kc_gen n4' (nlit 4) (by omega) (by omega) c342'
        refine lv_iconst (v := 0) hx hb dL_sets_345 (by decide) ?_
        refine lv_istore (lv' := [(13, .int 0), (12, .int x24'), (11, .int x13'), (10, .int x4'), (0, .ref (ad 0)), (1, .ref (ad 60)), (2, .ref (ad 61)), (3, .ref (ad 62)), (4, .ref (ad 63)), (5, .ref (ad 64)), (6, .ref (ad 65)), (7, .ref (ad 66)), (8, .int xa), (9, .int xb)]) hx hb dL_sets_346 hl (by decide) rfl (fun ls hl => ?_)
        refine lv_bipush (v := 40) hx hb dL_sets_348 (by decide) ?_
        obtain ⟨shB, eshB⟩ : ∃ z9, z9 = sh := ⟨_, rfl⟩
        obtain ⟨adB, eadB⟩ : ∃ z9, z9 = ad := ⟨_, rfl⟩
        have hlo : L67 sh := by rw [hsh]; exact shL_L67 o1
        have hlB : L67 shB := by rw [eshB]; exact hlo
        refine wnewAS (N := 40) (n := 40) hx hb (hts (.arrayClass .int) (List.mem_of_getElem? (i := 2) rfl)) hK hA hW hlo rfl (by decide) ⟨Nat.le_of_ble_eq_true rfl, Nat.le_of_ble_eq_true rfl⟩ dL_sets_350 (fun sh ad M350' H esh eM350 hk hge hA hW => ?_)
        rw [← (hk 0 (by omega) (by omega))] at hl
        rw [← (hk 60 (by omega) (by omega))] at hl
        rw [← (hk 61 (by omega) (by omega))] at hl
        rw [← (hk 62 (by omega) (by omega))] at hl
        rw [← (hk 63 (by omega) (by omega))] at hl
        rw [← (hk 64 (by omega) (by omega))] at hl
        rw [← (hk 65 (by omega) (by omega))] at hl
        rw [← (hk 66 (by omega) (by omega))] at hl
        have hXX : XX σ v M350' := by rw [eM350]; exact XX_m67 hXX
        have hL : LSt σ v M350' := by rw [eM350]; exact LS_m67 hL
        rw [← eshB] at esh
        have hne67 : ∀ p, p ≠ 67 → sh p = shB p := fun p hp => by rw [esh]; exact shU_ne hp
        have hX : XSh (aN σ) sh := ⟨fun p hp => by rw [hne67 p (by omega), eshB]; exact hX.1 p hp, fun i hi => by rw [hne67 _ (by omega), eshB]; exact hX.2 i hi⟩
        have hMs : LSh sh := fun p a b => by rw [hne67 p (by omega), eshB]; exact hMs p a b
        have h67 : sh 67 = some (.inr (0, 40)) := by rw [esh]; exact shU_eq
        have hless : ∀ p y, shB p = some y → sh p = some y := fun p y hy => by rw [hne67 p (fun z9 => by rw [z9, hlB.1] at hy; cases hy)]; exact hy
        have hG : GR shB adB s.heap.size shB ad := ⟨fun t ht => ⟨ht, by rw [eadB]; exact hk t (l67_lt hlB ht) (fun z9 => ht (by rw [z9]; exact hlB.1))⟩, fun p h1 h2 => absurd h2 h1⟩
        refine lv_astore (lv' := [(14, .ref (ad 67)), (13, .int 0), (12, .int x24'), (11, .int x13'), (10, .int x4'), (0, .ref (ad 0)), (1, .ref (ad 60)), (2, .ref (ad 61)), (3, .ref (ad 62)), (4, .ref (ad 63)), (5, .ref (ad 64)), (6, .ref (ad 65)), (7, .ref (ad 66)), (8, .int xa), (9, .int xb)]) hx hb dL_sets_352 hl (by decide) rfl (fun ls hl => ?_)
        refine lv_iconst (v := 0) hx hb dL_sets_354 (by decide) ?_
        refine lv_istore (lv' := [(15, .int 0), (14, .ref (ad 67)), (13, .int 0), (12, .int x24'), (11, .int x13'), (10, .int x4'), (0, .ref (ad 0)), (1, .ref (ad 60)), (2, .ref (ad 61)), (3, .ref (ad 62)), (4, .ref (ad 63)), (5, .ref (ad 64)), (6, .ref (ad 65)), (7, .ref (ad 66)), (8, .int xa), (9, .int xb)]) hx hb dL_sets_355 hl (by decide) rfl (fun ls hl => ?_)
        have L357 : ∀ (fu : Nat) (k : Nat) (xk : Int32) (Mk : MS) (H : Heap) (locs : List Loc), aN σ - k < fu → (k ≤ aN σ) → (xk = nI k) → (∀ j, j < k → gI Mk 67 j = bI (stP σ j)) → (XX σ v Mk) → (LSt σ v Mk) → WS D cA sh ad A s.heap Mk H locs → ∀ ls, lv_has ls 17 [(15, .int xk), (14, .ref (ad 67)), (13, .int 0), (12, .int x24'), (11, .int x13'), (10, .int x4'), (0, .ref (ad 0)), (1, .ref (ad 60)), (2, .ref (ad 61)), (3, .ref (ad 62)), (4, .ref (ad 63)), (5, .ref (ad 64)), (6, .ref (ad 65)), (7, .ref (ad 66)), (8, .int xa), (9, .int xb)] → W p l e (headSpec wsL_sets { frames := 10, cells := 90, slots := 600, locals := 176 }).room s m ar below meth cd0 H locs (1 + k) (40 + 6 * k) (MQ below Q9 ar s 90 600 A) (F0 m 357 ls []) := by
          intro fu
          induction fu with
          | zero =>
            intro k xk Mk H locs hn hk5 ek hst hXX hL hW ls hl
            exact absurd hn (Nat.not_lt_zero _)
          | succ fu ih357 =>
            intro k xk Mk H locs hn hk5 ek hst hXX hL hW ls hl
            refine lv_iload hx hb dL_sets_357 (lv_at hl 0 rfl) ?_
            refine lv_aload hx hb dL_sets_359 (lv_at hl 13 rfl) ?_
            refine lv_iconst (v := 0) hx hb dL_sets_361 (by decide) ?_
            refine walI (j := 0) hx hb hK hW (hMs 66 (by decide) (by decide)) (nlit 0) (by omega) (by decide) dL_sets_362 (fun x362' e362' => ?_)
            have n362' : x362' = nI (aN σ) := (e362'.trans hL.2.2.2.2.2.2.1)
            refine lv_icmp_ge (tgt := 392) hx hb dL_sets_363 (by decide) (fun c363' => ?_) (fun c363' => ?_)
            · have k363' : (aN σ) ≤ k := kc_ge ek n362' (by omega) (by omega) c363'
              refine lv_aload_n hx hb dL_sets_392 rfl (lv_at hl 6 rfl) ?_
              refine lv_iload hx hb dL_sets_393 (lv_at hl 14 rfl) ?_
              refine lv_iconst (v := 4) hx hb dL_sets_395 (by decide) ?_
              refine lv_ishr hx hb dL_sets_396 ?_
              refine lv_topi (fun x396' e396' => ?_)
              refine lv_iconst (v := 4) hx hb dL_sets_397 (by decide) ?_
              refine wc_ri (va_runS (As := [.int x396', .int 4]) (rest := [.ref (ad 0)]) ⟨hx, hb, hml, hown, hts⟩ (c_L_low l x396' 4 (by decide)) (va_cwS 2 hts gL_sets_L_low rfl rfl rfl (by decide +kernel) ⟨Nat.le_of_ble_eq_true rfl, Nat.le_of_ble_eq_true rfl⟩) npreS rfl rfl hl.1 rfl (lv_room (Nat.le_of_ble_eq_true rfl)) dL_sets_398 ⟨(by show 1 + k + 0 ≤ 90; omega), (by show 40 + 6 * k + 0 ≤ 600; omega)⟩) hW (fun x398' H locs p398' hW => ?_)
              try dsimp only at p398'
              obtain ⟨ly, hly, ely⟩ := low_n x396' (n := 4) (by decide) (by decide)
              have r398 : x398' = nI ly := p398'.trans ely
              have n1y : n1 x398' = ly := n1e r398 (by omega)
              have n398' : x398' = nI ly := r398
              refine lv_iload hx hb dL_sets_401 (lv_at hl 15 rfl) ?_
              refine lv_bipush (v := 61) hx hb dL_sets_403 (by decide) ?_
              refine wc_ri (va_runS (As := [.int xb, .int 61]) (rest := [.int x398', .ref (ad 0)]) ⟨hx, hb, hml, hown, hts⟩ (c_L_low l xb 61 (by decide)) (va_cwS 2 hts gL_sets_L_low rfl rfl rfl (by decide +kernel) ⟨Nat.le_of_ble_eq_true rfl, Nat.le_of_ble_eq_true rfl⟩) npreS rfl rfl hl.1 rfl (lv_room (Nat.le_of_ble_eq_true rfl)) dL_sets_405 ⟨(by show 1 + k + 0 ≤ 90; omega), (by show 40 + 6 * k + 0 ≤ 600; omega)⟩) hW (fun x405' H locs p405' hW => ?_)
              try dsimp only at p405'
              obtain ⟨wx, hwx, ewx⟩ := low_n xb (n := 61) (by decide) (by decide)
              have r405 : x405' = nI wx := p405'.trans ewx
              refine lv_bipush (v := 30) hx hb dL_sets_408 (by decide) ?_
              refine lv_isub hx hb dL_sets_410 ?_
              refine lv_topi (fun x410' e410' => ?_)
              refine lv_iload hx hb dL_sets_411 (lv_at hl 15 rfl) ?_
              refine lv_bipush (v := 6) hx hb dL_sets_413 (by decide) ?_
              refine lv_ishr hx hb dL_sets_415 ?_
              refine lv_topi (fun x415' e415' => ?_)
              refine lv_bipush (v := 61) hx hb dL_sets_416 (by decide) ?_
              refine wc_ri (va_runS (As := [.int x415', .int 61]) (rest := [.int x410', .int x398', .ref (ad 0)]) ⟨hx, hb, hml, hown, hts⟩ (c_L_low l x415' 61 (by decide)) (va_cwS 2 hts gL_sets_L_low rfl rfl rfl (by decide +kernel) ⟨Nat.le_of_ble_eq_true rfl, Nat.le_of_ble_eq_true rfl⟩) npreS rfl rfl hl.1 rfl (lv_room (Nat.le_of_ble_eq_true rfl)) dL_sets_418 ⟨(by show 1 + k + 0 ≤ 90; omega), (by show 40 + 6 * k + 0 ≤ 600; omega)⟩) hW (fun x418' H locs p418' hW => ?_)
              try dsimp only at p418'
              obtain ⟨wy, hwy, ewy⟩ := low_n x415' (n := 61) (by decide) (by decide)
              have r418 : x418' = nI wy := p418'.trans ewy
              refine lv_bipush (v := 30) hx hb dL_sets_421 (by decide) ?_
              refine lv_isub hx hb dL_sets_423 ?_
              refine lv_topi (fun x423' e423' => ?_)
              refine wc_wiN (vx_runSW (As := [.ref (ad 0), .int x398', .int x410', .int x423']) (rest := []) ⟨hx, hb, hml, hown, hts⟩ (c_L_setWind l hl9 D cA sh ad Mk _ σ v hX hXX x398' x410' x423' ) (vx_cwSW 4 hts gL_sets_L_setWind rfl rfl rfl (by decide +kernel) ⟨Nat.le_of_ble_eq_true rfl, Nat.le_of_ble_eq_true rfl⟩) (lpreS hK hA hW hE hZ hE2) rfl rfl hl.1 rfl (lv_room (Nat.le_of_ble_eq_true rfl)) dL_sets_424 ⟨(by show 1 + k + 1 ≤ 90; omega), (by show 40 + 6 * k + 6 ≤ 600; omega)⟩) hA hW (fun x424' M424' H locs p424' hW => ?_)
              try dsimp only at p424'
              obtain ⟨hw1, -⟩ := wd_in r405 hwx e410'
              obtain ⟨hw2, -⟩ := wd_in r418 hwy e423'
              have hG424 : (inB x398' 0 3 && inB x410' (-100) 100 && inB x423' (-100) 100) = true := and_t (and_t (in_t (n := 3) r398 (by omega) (by decide)) hw1) hw2
              obtain ⟨kp424, gg424⟩ := p424'
              obtain ⟨r424, hXX⟩ := or_ok gg424 hG424
              rw [n1y] at r424
              rw [n1y] at hXX
              obtain ⟨σ1, esσ1⟩ : ∃ z9, z9 = oWind σ ly x410' x423' := ⟨_, rfl⟩
              rw [← esσ1] at hXX
              have hX : XSh (aN σ1) sh := by rw [esσ1]; exact hX
              have hL : LSt σ1 v M424' := by rw [esσ1]; exact LS_wind (hL.kp kp424)
              rw [← esσ1] at r424
              have hn1 : aN σ1 = aN σ := by rw [esσ1]; rfl
              obtain ⟨q1, c1', hs1⟩ := srt_ex σ1 40
              have hst : ∀ j, j < aN σ → gI M424' 67 j = bI (stP σ j) := fun j hj => by rw [kp424 67 j (by omega) (by omega)]; exact hst j (by omega)
              refine W.widen (k := 1 + 40 + 1) (n := 40 + 240 + 6) (by omega) (by omega) ?_
              refine lv_istore (lv' := [(15, .int x424'), (14, .ref (ad 67)), (13, .int 0), (12, .int x24'), (11, .int x13'), (10, .int x4'), (0, .ref (ad 0)), (1, .ref (ad 60)), (2, .ref (ad 61)), (3, .ref (ad 62)), (4, .ref (ad 63)), (5, .ref (ad 64)), (6, .ref (ad 65)), (7, .ref (ad 66)), (8, .int xa), (9, .int xb)]) hx hb dL_sets_427 hl (by decide) rfl (fun ls hl => ?_)
              refine lv_iconst (v := 0) hx hb dL_sets_429 (by decide) ?_
              refine lv_istore (lv' := [(16, .int 0), (15, .int x424'), (14, .ref (ad 67)), (13, .int 0), (12, .int x24'), (11, .int x13'), (10, .int x4'), (0, .ref (ad 0)), (1, .ref (ad 60)), (2, .ref (ad 61)), (3, .ref (ad 62)), (4, .ref (ad 63)), (5, .ref (ad 64)), (6, .ref (ad 65)), (7, .ref (ad 66)), (8, .int xa), (9, .int xb)]) hx hb dL_sets_430 hl (by decide) rfl (fun ls hl => ?_)
              have L432 : ∀ (fu : Nat) (k : Nat) (xk : Int32) (xn : Int32) (Mk : MS) (H : Heap) (locs : List Loc), aN σ - k < fu → (k ≤ aN σ) → (xk = nI k) → (xn = nI (ctN (fun j => stP σ1 j && !stP σ j) k)) → (∀ j, j < aN σ → gI Mk 67 j = bI (stP σ j)) → (XX σ1 v Mk) → (LSt σ1 v Mk) → WS D cA sh ad A s.heap Mk H locs → ∀ ls, lv_has ls 17 [(16, .int xk), (15, .int x424'), (14, .ref (ad 67)), (13, .int xn), (12, .int x24'), (11, .int x13'), (10, .int x4'), (0, .ref (ad 0)), (1, .ref (ad 60)), (2, .ref (ad 61)), (3, .ref (ad 62)), (4, .ref (ad 63)), (5, .ref (ad 64)), (6, .ref (ad 65)), (7, .ref (ad 66)), (8, .int xa), (9, .int xb)] → W p l e (headSpec wsL_sets { frames := 10, cells := 90, slots := 600, locals := 176 }).room s m ar below meth cd0 H locs (1 + 40 + 1 + k) (40 + 240 + 6 + 6 * k) (MQ below Q9 ar s 90 600 A) (F0 m 432 ls []) := by
                intro fu
                induction fu with
                | zero =>
                  intro k xk xn Mk H locs hn hk5 ek en hst hXX hL hW ls hl
                  exact absurd hn (Nat.not_lt_zero _)
                | succ fu ih432 =>
                  intro k xk xn Mk H locs hn hk5 ek en hst hXX hL hW ls hl
                  refine lv_iload hx hb dL_sets_432 (lv_at hl 0 rfl) ?_
                  refine lv_aload hx hb dL_sets_434 (lv_at hl 14 rfl) ?_
                  refine lv_iconst (v := 0) hx hb dL_sets_436 (by decide) ?_
                  refine walI (j := 0) hx hb hK hW (hMs 66 (by decide) (by decide)) (nlit 0) (by omega) (by decide) dL_sets_437 (fun x437' e437' => ?_)
                  have n437' : x437' = nI (aN σ) := (e437'.trans (hL.2.2.2.2.2.2.1.trans (by rw [hn1])))
                  refine lv_icmp_ge (tgt := 475) hx hb dL_sets_438 (by decide) (fun c438' => ?_) (fun c438' => ?_)
                  · have k438' : (aN σ) ≤ k := kc_ge ek n437' (by omega) (by omega) c438'
                    refine lv_iload hx hb dL_sets_475 (lv_at hl 1 rfl) ?_
                    refine lv_iload hx hb dL_sets_477 (lv_at hl 3 rfl) ?_
                    refine lv_icmp_ne (tgt := 524) hx hb dL_sets_479 (by decide) (fun c479' => ?_) (fun c479' => ?_)
                    · exact ((c479' (by rw [r424, en, ctN_64 (n := aN σ) o1 (fun j hj => by rw [stP_hi (by omega)]; rfl), show k = aN σ by omega]))).elim
                    · refine lv_aload_n hx hb dL_sets_482 rfl (lv_at hl 7 rfl) ?_
                      refine lv_iconst (v := 4) hx hb dL_sets_483 (by decide) ?_
                      refine lv_iconst (v := 0) hx hb dL_sets_484 (by decide) ?_
                      refine lv_iconst (v := 0) hx hb dL_sets_485 (by decide) ?_
                      refine wc_wiN (vx_runSW (As := [.ref (ad 0), .int 4, .int 0, .int 0]) (rest := []) ⟨hx, hb, hml, hown, hts⟩ (c_L_setWind l hl9 D cA sh ad Mk _ σ1 v hX hXX 4 0 0 ) (vx_cwSW 4 hts gL_sets_L_setWind rfl rfl rfl (by decide +kernel) ⟨Nat.le_of_ble_eq_true rfl, Nat.le_of_ble_eq_true rfl⟩) (lpreS hK hA hW hE hZ hE2) rfl rfl hl.1 rfl (lv_room (Nat.le_of_ble_eq_true rfl)) dL_sets_486 ⟨(by show 1 + 40 + 1 + k + 1 ≤ 90; omega), (by show 40 + 240 + 6 + 6 * k + 6 ≤ 600; omega)⟩) hA hW (fun x486' M486' H locs p486' hW => ?_)
                      try dsimp only at p486'
                      obtain ⟨kp486, gg486⟩ := p486'
                      obtain ⟨r486, hXX⟩ := or_no gg486 (by decide)
                      have hL := hL.kp kp486
                      refine lv_ldc (v := (-1000002)) hx hb hown (hts (.constant RL 18 (-1000002)) (List.mem_of_getElem? (i := 1) rfl)) dL_sets_489 ?_
                      refine lv_icmp_ne (tgt := 524) hx hb dL_sets_491 (by decide) (fun c491' => ?_) (fun c491' => ?_)
                      · exact ((c491' r486)).elim
                      · refine lv_aload_n hx hb dL_sets_494 rfl (lv_at hl 7 rfl) ?_
                        refine lv_iconst (v := 0) hx hb dL_sets_495 (by decide) ?_
                        refine lv_bipush (v := 101) hx hb dL_sets_496 (by decide) ?_
                        refine lv_iconst (v := 0) hx hb dL_sets_498 (by decide) ?_
                        refine wc_wiN (vx_runSW (As := [.ref (ad 0), .int 0, .int 101, .int 0]) (rest := []) ⟨hx, hb, hml, hown, hts⟩ (c_L_setWind l hl9 D cA sh ad M486' _ σ1 v hX hXX 0 101 0 ) (vx_cwSW 4 hts gL_sets_L_setWind rfl rfl rfl (by decide +kernel) ⟨Nat.le_of_ble_eq_true rfl, Nat.le_of_ble_eq_true rfl⟩) (lpreS hK hA hW hE hZ hE2) rfl rfl hl.1 rfl (lv_room (Nat.le_of_ble_eq_true rfl)) dL_sets_499 ⟨(by show 1 + 40 + 1 + k + 1 + 1 ≤ 90; omega), (by show 40 + 240 + 6 + 6 * k + 6 + 6 ≤ 600; omega)⟩) hA hW (fun x499' M499' H locs p499' hW => ?_)
                        try dsimp only at p499'
                        obtain ⟨kp499, gg499⟩ := p499'
                        obtain ⟨r499, hXX⟩ := or_no gg499 (by decide)
                        have hL := hL.kp kp499
                        refine lv_ldc (v := (-1000002)) hx hb hown (hts (.constant RL 18 (-1000002)) (List.mem_of_getElem? (i := 1) rfl)) dL_sets_502 ?_
                        refine lv_icmp_ne (tgt := 524) hx hb dL_sets_504 (by decide) (fun c504' => ?_) (fun c504' => ?_)
                        · exact ((c504' r499)).elim
                        · refine lv_aload_n hx hb dL_sets_507 rfl (lv_at hl 7 rfl) ?_
                          refine lv_iconst (v := 0) hx hb dL_sets_508 (by decide) ?_
                          refine lv_iconst (v := 0) hx hb dL_sets_509 (by decide) ?_
                          refine lv_bipush (v := (-101)) hx hb dL_sets_510 (by decide) ?_
                          refine wc_wiN (vx_runSW (As := [.ref (ad 0), .int 0, .int 0, .int (-101)]) (rest := []) ⟨hx, hb, hml, hown, hts⟩ (c_L_setWind l hl9 D cA sh ad M499' _ σ1 v hX hXX 0 0 (-101) ) (vx_cwSW 4 hts gL_sets_L_setWind rfl rfl rfl (by decide +kernel) ⟨Nat.le_of_ble_eq_true rfl, Nat.le_of_ble_eq_true rfl⟩) (lpreS hK hA hW hE hZ hE2) rfl rfl hl.1 rfl (lv_room (Nat.le_of_ble_eq_true rfl)) dL_sets_512 ⟨(by show 1 + 40 + 1 + k + 1 + 1 + 1 ≤ 90; omega), (by show 40 + 240 + 6 + 6 * k + 6 + 6 + 6 ≤ 600; omega)⟩) hA hW (fun x512' M512' H locs p512' hW => ?_)
                          try dsimp only at p512'
                          obtain ⟨kp512, gg512⟩ := p512'
                          obtain ⟨r512, hXX⟩ := or_no gg512 (by decide)
                          have hL := hL.kp kp512
                          refine lv_ldc (v := (-1000002)) hx hb hown (hts (.constant RL 18 (-1000002)) (List.mem_of_getElem? (i := 1) rfl)) dL_sets_515 ?_
                          refine lv_icmp_ne (tgt := 524) hx hb dL_sets_517 (by decide) (fun c517' => ?_) (fun c517' => ?_)
                          · exact ((c517' r512)).elim
                          · refine lv_iconst (v := 1) hx hb dL_sets_520 (by decide) ?_
                            refine lv_goto (tgt := 525) hx hb dL_sets_521 (by decide) ?_
                            have hW := hW.less hless
                            rw [eshB] at hW
                            rw [eshB, eadB] at hG
                            refine W.widen (k := 90) (n := 600) (by omega) (by omega) ?_
                            rw [← hQ9]
                            exact wr_lz hx hb hr hlocks hW dL_sets_525 rfl hG ⟨rfl, σ1, v, by rw [esσ1]; exact hsh, hXX, hL⟩
                  · have k438' : ¬ (aN σ) ≤ k := kc_gen ek n437' (by omega) (by omega) c438'
                    refine lv_iload hx hb dL_sets_441 (lv_at hl 3 rfl) ?_
                    refine lv_aload_n hx hb dL_sets_443 rfl (lv_at hl 7 rfl) ?_
                    refine lv_iload hx hb dL_sets_444 (lv_at hl 0 rfl) ?_
                    refine wc_wiN (vx_runSW (As := [.ref (ad 0), .int xk]) (rest := [.int xn]) ⟨hx, hb, hml, hown, hts⟩ (c_L_becomes l hl9 D cA sh ad Mk _ σ1 v hX hXX xk q1 c1' hs1 ) (vx_cwSW 2 hts gL_sets_L_becomes rfl rfl rfl (by decide +kernel) ⟨Nat.le_of_ble_eq_true rfl, Nat.le_of_ble_eq_true rfl⟩) (lpreS hK hA hW hE hZ hE2) rfl rfl hl.1 rfl (lv_room (Nat.le_of_ble_eq_true rfl)) dL_sets_446 ⟨(by show 1 + 40 + 1 + k + 1 ≤ 90; omega), (by show 40 + 240 + 6 + 6 * k + 6 ≤ 600; omega)⟩) hA hW (fun x446' M446' H locs p446' hW => ?_)
                    try dsimp only at p446'
                    obtain ⟨kp446, hXX, r446⟩ := p446'
                    have hL := hL.kp kp446
                    refine lv_iconst (v := 1) hx hb dL_sets_449 (by decide) ?_
                    have J466 : ∀ (yb : Int32) (H : Heap) (locs : List Loc), (yb = bI (stP σ1 k && !stP σ k)) → WS D cA sh ad A s.heap M446' H locs → ∀ ls, lv_has ls 17 [(16, .int xk), (15, .int x424'), (14, .ref (ad 67)), (13, .int xn), (12, .int x24'), (11, .int x13'), (10, .int x4'), (0, .ref (ad 0)), (1, .ref (ad 60)), (2, .ref (ad 61)), (3, .ref (ad 62)), (4, .ref (ad 63)), (5, .ref (ad 64)), (6, .ref (ad 65)), (7, .ref (ad 66)), (8, .int xa), (9, .int xb)] → W p l e (headSpec wsL_sets { frames := 10, cells := 90, slots := 600, locals := 176 }).room s m ar below meth cd0 H locs (1 + 40 + 1 + k + 1) (40 + 240 + 6 + 6 * k + 6) (MQ below Q9 ar s 90 600 A) (F0 m 466 ls [.int yb, .int xn]) := by
                      intro yb H locs hyb hW ls hl
                      refine lv_iadd hx hb dL_sets_466 ?_
                      refine lv_topi (fun x466' e466' => ?_)
                      refine lv_istore (lv' := [(13, .int x466'), (16, .int xk), (15, .int x424'), (14, .ref (ad 67)), (12, .int x24'), (11, .int x13'), (10, .int x4'), (0, .ref (ad 0)), (1, .ref (ad 60)), (2, .ref (ad 61)), (3, .ref (ad 62)), (4, .ref (ad 63)), (5, .ref (ad 64)), (6, .ref (ad 65)), (7, .ref (ad 66)), (8, .int xa), (9, .int xb)]) hx hb dL_sets_467 hl (by decide) rfl (fun ls hl => ?_)
                      obtain ⟨x469', e469'⟩ : ∃ y : Int32, y = xk + 1 := ⟨_, rfl⟩
                      refine lv_iinc (v := x469') (lv' := [(16, .int x469'), (13, .int x466'), (15, .int x424'), (14, .ref (ad 67)), (12, .int x24'), (11, .int x13'), (10, .int x4'), (0, .ref (ad 0)), (1, .ref (ad 60)), (2, .ref (ad 61)), (3, .ref (ad 62)), (4, .ref (ad 63)), (5, .ref (ad 64)), (6, .ref (ad 65)), (7, .ref (ad 66)), (8, .int xa), (9, .int xb)]) hx hb dL_sets_469 hl (k := 1) rfl (by rw [e469']; rfl) (by decide) rfl (fun ls hl => ?_)
                      refine lv_goto (tgt := 432) hx hb dL_sets_472 (by decide) ?_
                      refine W.widen (k := 1 + 40 + 1 + (k + 1)) (n := 40 + 240 + 6 + 6 * (k + 1)) (by omega) (by omega) ?_
                      exact ih432 (k + 1) x469' x466' M446' _ _ (by omega) (by omega) (by rw [e469', ek, nlit 1, nI_add]) (by rw [e466', hyb]; exact ct_b (p := fun j => stP σ1 j && !stP σ j) en) (fun j hj => (kp446 67 j (by omega) (by omega)).trans (hst j hj)) hXX hL hW ls (lv_sub hl [0, 2, 3, 1, 4, 5, 6, 7, 8, 9, 10, 11, 12, 13, 14, 15, 16] rfl)
                    refine lv_icmp_ne (tgt := 465) hx hb dL_sets_450 (by decide) (fun c450' => ?_) (fun c450' => ?_)
                    · refine lv_iconst (v := 0) hx hb dL_sets_465 (by decide) ?_
                      exact J466 0 _ _ (by
                          have hbe := bec_is hs1 (show aN σ1 ≤ 40 by omega) ek (show k < 40 by omega) r446
                          first
                          | (have he9 : x457' = bI (stP σ k) := by rw [e457', kp446 67 k (by omega) (by omega)]; exact hst k (by omega)
                             first
                             | exact bI_ff (by
                                 rw [show stP σ k = true from bI_t.mp (fun z9 => c458' (he9.trans z9))]; exact Bool.and_false _)
                             | exact bI_tt (by
                                 rw [show stP σ k = false from bI_z.mp (he9.symm.trans c458'), hbe.mp c450']; rfl))
                          | exact bI_ff (by
                              cases hz : stP σ1 k with
                              | false => rfl
                              | true => exact absurd (hbe.mpr hz) c450')) hW ls (lv_sub hl [0, 1, 2, 3, 4, 5, 6, 7, 8, 9, 10, 11, 12, 13, 14, 15, 16] rfl)
                    · refine lv_aload hx hb dL_sets_453 (lv_at hl 2 rfl) ?_
                      refine lv_iload hx hb dL_sets_455 (lv_at hl 0 rfl) ?_
                      refine walI (j := k) hx hb hK hW h67 ek (by omega) (by decide) dL_sets_457 (fun x457' e457' => ?_)
                      refine lv_if_ne (tgt := 465) hx hb dL_sets_458 (by decide) (fun c458' => ?_) (fun c458' => ?_)
                      · refine lv_iconst (v := 0) hx hb dL_sets_465 (by decide) ?_
                        exact J466 0 _ _ (by
                            have hbe := bec_is hs1 (show aN σ1 ≤ 40 by omega) ek (show k < 40 by omega) r446
                            first
                            | (have he9 : x457' = bI (stP σ k) := by rw [e457', kp446 67 k (by omega) (by omega)]; exact hst k (by omega)
                               first
                               | exact bI_ff (by
                                   rw [show stP σ k = true from bI_t.mp (fun z9 => c458' (he9.trans z9))]; exact Bool.and_false _)
                               | exact bI_tt (by
                                   rw [show stP σ k = false from bI_z.mp (he9.symm.trans c458'), hbe.mp c450']; rfl))
                            | exact bI_ff (by
                                cases hz : stP σ1 k with
                                | false => rfl
                                | true => exact absurd (hbe.mpr hz) c450')) hW ls (lv_sub hl [0, 1, 2, 3, 4, 5, 6, 7, 8, 9, 10, 11, 12, 13, 14, 15, 16] rfl)
                      · refine lv_iconst (v := 1) hx hb dL_sets_461 (by decide) ?_
                        refine lv_goto (tgt := 466) hx hb dL_sets_462 (by decide) ?_
                        exact J466 1 _ _ (by
                            have hbe := bec_is hs1 (show aN σ1 ≤ 40 by omega) ek (show k < 40 by omega) r446
                            first
                            | (have he9 : x457' = bI (stP σ k) := by rw [e457', kp446 67 k (by omega) (by omega)]; exact hst k (by omega)
                               first
                               | exact bI_ff (by
                                   rw [show stP σ k = true from bI_t.mp (fun z9 => c458' (he9.trans z9))]; exact Bool.and_false _)
                               | exact bI_tt (by
                                   rw [show stP σ k = false from bI_z.mp (he9.symm.trans c458'), hbe.mp c450']; rfl))
                            | exact bI_ff (by
                                cases hz : stP σ1 k with
                                | false => rfl
                                | true => exact absurd (hbe.mpr hz) c450')) hW ls (lv_sub hl [0, 1, 2, 3, 4, 5, 6, 7, 8, 9, 10, 11, 12, 13, 14, 15, 16] rfl)
              exact L432 (_ + 1) 0 0 0 M424' _ _ (Nat.lt_succ_self _) (Nat.zero_le _) rfl rfl hst hXX hL hW ls (lv_sub hl [0, 1, 2, 3, 4, 5, 6, 7, 8, 9, 10, 11, 12, 13, 14, 15, 16] rfl)
            · have k363' : ¬ (aN σ) ≤ k := kc_gen ek n362' (by omega) (by omega) c363'
              refine lv_aload hx hb dL_sets_366 (lv_at hl 1 rfl) ?_
              refine lv_iload hx hb dL_sets_368 (lv_at hl 0 rfl) ?_
              refine lv_aload_n hx hb dL_sets_370 rfl (lv_at hl 6 rfl) ?_
              refine lv_iload hx hb dL_sets_371 (lv_at hl 0 rfl) ?_
              refine wc_wiN (vx_runSW (As := [.ref (ad 0), .int xk]) (rest := [.int xk, .ref (ad 67)]) ⟨hx, hb, hml, hown, hts⟩ (c_L_becomes l hl9 D cA sh ad Mk _ σ v hX hXX xk q c hs ) (vx_cwSW 2 hts gL_sets_L_becomes rfl rfl rfl (by decide +kernel) ⟨Nat.le_of_ble_eq_true rfl, Nat.le_of_ble_eq_true rfl⟩) (lpreS hK hA hW hE hZ hE2) rfl rfl hl.1 rfl (lv_room (Nat.le_of_ble_eq_true rfl)) dL_sets_373 ⟨(by show 1 + k + 1 ≤ 90; omega), (by show 40 + 6 * k + 6 ≤ 600; omega)⟩) hA hW (fun x373' M373' H locs p373' hW => ?_)
              try dsimp only at p373'
              obtain ⟨kp373, hXX, r373⟩ := p373'
              have hL := hL.kp kp373
              refine lv_iconst (v := 1) hx hb dL_sets_376 (by decide) ?_
              have J385 : ∀ (yb : Int32) (H : Heap) (locs : List Loc), (yb = bI (stP σ k)) → WS D cA sh ad A s.heap M373' H locs → ∀ ls, lv_has ls 17 [(15, .int xk), (14, .ref (ad 67)), (13, .int 0), (12, .int x24'), (11, .int x13'), (10, .int x4'), (0, .ref (ad 0)), (1, .ref (ad 60)), (2, .ref (ad 61)), (3, .ref (ad 62)), (4, .ref (ad 63)), (5, .ref (ad 64)), (6, .ref (ad 65)), (7, .ref (ad 66)), (8, .int xa), (9, .int xb)] → W p l e (headSpec wsL_sets { frames := 10, cells := 90, slots := 600, locals := 176 }).room s m ar below meth cd0 H locs (1 + k + 1) (40 + 6 * k + 6) (MQ below Q9 ar s 90 600 A) (F0 m 385 ls [.int yb, .int xk, .ref (ad 67)]) := by
                intro yb H locs hyb hW ls hl
                refine wasI (j := k) hx hb hK hA hW h67 ek (by omega) (by decide) dL_sets_385 (fun M385' H locs eM385 hW => ?_)
                have hXX : XX σ v M385' := by rw [eM385]; exact XX_sL hXX (by omega) (by omega)
                have hL : LSt σ v M385' := by rw [eM385]; exact LS_67 hL
                obtain ⟨x386', e386'⟩ : ∃ y : Int32, y = xk + 1 := ⟨_, rfl⟩
                refine lv_iinc (v := x386') (lv' := [(15, .int x386'), (14, .ref (ad 67)), (13, .int 0), (12, .int x24'), (11, .int x13'), (10, .int x4'), (0, .ref (ad 0)), (1, .ref (ad 60)), (2, .ref (ad 61)), (3, .ref (ad 62)), (4, .ref (ad 63)), (5, .ref (ad 64)), (6, .ref (ad 65)), (7, .ref (ad 66)), (8, .int xa), (9, .int xb)]) hx hb dL_sets_386 hl (k := 0) rfl (by rw [e386']; rfl) (by decide) rfl (fun ls hl => ?_)
                refine lv_goto (tgt := 357) hx hb dL_sets_389 (by decide) ?_
                refine W.widen (k := 1 + (k + 1)) (n := 40 + 6 * (k + 1)) (by omega) (by omega) ?_
                exact ih357 (k + 1) x386' M385' _ _ (by omega) (by omega) (by rw [e386', ek, nlit 1, nI_add]) (by
                    intro j hj
                    rw [eM385]
                    by_cases z9 : j = k
                    · rw [z9, kp_eq]; exact hyb
                    · rw [kp_sI (fun w9 => z9 w9.2), kp373 67 j (by omega) (by omega)]; exact hst j (by omega)) hXX hL hW ls (lv_sub hl [0, 1, 2, 3, 4, 5, 6, 7, 8, 9, 10, 11, 12, 13, 14, 15] rfl)
              refine lv_icmp_ne (tgt := 384) hx hb dL_sets_377 (by decide) (fun c377' => ?_) (fun c377' => ?_)
              · refine lv_iconst (v := 0) hx hb dL_sets_384 (by decide) ?_
                exact J385 0 _ _ (by
                    have hbe := bec_is hs o1 ek (show k < 40 by omega) r373
                    first
                    | exact bI_tt (hbe.mp c377')
                    | exact bI_ff (by
                        cases hz : stP σ k with
                        | false => rfl
                        | true => exact absurd (hbe.mpr hz) c377')) hW ls (lv_sub hl [0, 1, 2, 3, 4, 5, 6, 7, 8, 9, 10, 11, 12, 13, 14, 15] rfl)
              · refine lv_iconst (v := 1) hx hb dL_sets_380 (by decide) ?_
                refine lv_goto (tgt := 385) hx hb dL_sets_381 (by decide) ?_
                exact J385 1 _ _ (by
                    have hbe := bec_is hs o1 ek (show k < 40 by omega) r373
                    first
                    | exact bI_tt (hbe.mp c377')
                    | exact bI_ff (by
                        cases hz : stP σ k with
                        | false => rfl
                        | true => exact absurd (hbe.mpr hz) c377')) hW ls (lv_sub hl [0, 1, 2, 3, 4, 5, 6, 7, 8, 9, 10, 11, 12, 13, 14, 15] rfl)
        exact L357 (_ + 1) 0 0 M350' _ _ (Nat.lt_succ_self _) (Nat.zero_le _) rfl (fun j hj => absurd hj (Nat.not_lt_zero j)) hXX hL hW ls (lv_sub hl [0, 1, 2, 3, 4, 5, 6, 7, 8, 9, 10, 11, 12, 13, 14, 15] rfl)
    · have k140' : kn = 1 := kc_nen n4' (nlit 1) (by omega) (by omega) c140'
      refine lv_iload hx hb dL_sets_143 (lv_at hl 11 rfl) ?_
      refine lv_iconst (v := 4) hx hb dL_sets_145 (by decide) ?_
      refine lv_ishr hx hb dL_sets_146 ?_
      refine lv_topi (fun x146' e146' => ?_)
      refine lv_iconst (v := 4) hx hb dL_sets_147 (by decide) ?_
      refine wc_ri (va_runS (As := [.int x146', .int 4]) (rest := []) ⟨hx, hb, hml, hown, hts⟩ (c_L_low l x146' 4 (by decide)) (va_cwS 2 hts gL_sets_L_low rfl rfl rfl (by decide +kernel) ⟨Nat.le_of_ble_eq_true rfl, Nat.le_of_ble_eq_true rfl⟩) npreS rfl rfl hl.1 rfl (lv_room (Nat.le_of_ble_eq_true rfl)) dL_sets_148 ⟨Nat.le_of_ble_eq_true rfl, Nat.le_of_ble_eq_true rfl⟩) hW (fun x148' H locs p148' hW => ?_)
      try dsimp only at p148'
      obtain ⟨kd, hkd, ekd⟩ := low_n x146' (n := 4) (by decide) (by decide)
      have r148 : x148' = nI kd := p148'.trans ekd
      have n1k : n1 x148' = kd := n1e r148 (by omega)
      have n148' : x148' = nI kd := r148
      refine lv_istore (lv' := [(13, .int x148'), (12, .int x24'), (11, .int x13'), (10, .int x4'), (0, .ref (ad 0)), (1, .ref (ad 60)), (2, .ref (ad 61)), (3, .ref (ad 62)), (4, .ref (ad 63)), (5, .ref (ad 64)), (6, .ref (ad 65)), (7, .ref (ad 66)), (8, .int xa), (9, .int xb)]) hx hb dL_sets_151 hl (by decide) rfl (fun ls hl => ?_)
      have J188 : ∀ (ysp : Int32) (H : Heap) (locs : List Loc), (∃ sp, 1 ≤ sp ∧ sp ≤ 200 ∧ ysp = nI sp) → WS D cA sh ad A s.heap M H locs → ∀ ls, lv_has ls 17 [(13, .int x148'), (12, .int x24'), (11, .int x13'), (10, .int x4'), (0, .ref (ad 0)), (1, .ref (ad 60)), (2, .ref (ad 61)), (3, .ref (ad 62)), (4, .ref (ad 63)), (5, .ref (ad 64)), (6, .ref (ad 65)), (7, .ref (ad 66)), (8, .int xa), (9, .int xb)] → W p l e (headSpec wsL_sets { frames := 10, cells := 90, slots := 600, locals := 176 }).room s m ar below meth cd0 H locs 0 0 (MQ below Q9 ar s 90 600 A) (F0 m 188 ls [.int ysp]) := by
        intro ysp H locs hysp hW ls hl
        obtain ⟨sp, hsp1, hsp2, esp⟩ := hysp
        refine lv_istore (lv' := [(14, .int ysp), (13, .int x148'), (12, .int x24'), (11, .int x13'), (10, .int x4'), (0, .ref (ad 0)), (1, .ref (ad 60)), (2, .ref (ad 61)), (3, .ref (ad 62)), (4, .ref (ad 63)), (5, .ref (ad 64)), (6, .ref (ad 65)), (7, .ref (ad 66)), (8, .int xa), (9, .int xb)]) hx hb dL_sets_188 hl (by decide) rfl (fun ls hl => ?_)
        refine lv_iload hx hb dL_sets_190 (lv_at hl 14 rfl) ?_
        refine lv_bipush (v := 10) hx hb dL_sets_192 (by decide) ?_
        refine lv_ishr hx hb dL_sets_194 ?_
        refine lv_topi (fun x194' e194' => ?_)
        refine lv_iconst (v := 4) hx hb dL_sets_195 (by decide) ?_
        refine wc_ri (va_runS (As := [.int x194', .int 4]) (rest := []) ⟨hx, hb, hml, hown, hts⟩ (c_L_low l x194' 4 (by decide)) (va_cwS 2 hts gL_sets_L_low rfl rfl rfl (by decide +kernel) ⟨Nat.le_of_ble_eq_true rfl, Nat.le_of_ble_eq_true rfl⟩) npreS rfl rfl hl.1 rfl (lv_room (Nat.le_of_ble_eq_true rfl)) dL_sets_196 ⟨Nat.le_of_ble_eq_true rfl, Nat.le_of_ble_eq_true rfl⟩) hW (fun x196' H locs p196' hW => ?_)
        try dsimp only at p196'
        obtain ⟨fr, hfr, efr⟩ := low_n x194' (n := 4) (by decide) (by decide)
        have r196 : x196' = nI fr := p196'.trans efr
        have n1f : n1 x196' = fr := n1e r196 (by omega)
        have n196' : x196' = nI fr := r196
        refine lv_istore (lv' := [(15, .int x196'), (14, .int ysp), (13, .int x148'), (12, .int x24'), (11, .int x13'), (10, .int x4'), (0, .ref (ad 0)), (1, .ref (ad 60)), (2, .ref (ad 61)), (3, .ref (ad 62)), (4, .ref (ad 63)), (5, .ref (ad 64)), (6, .ref (ad 65)), (7, .ref (ad 66)), (8, .int xa), (9, .int xb)]) hx hb dL_sets_199 hl (by decide) rfl (fun ls hl => ?_)
        refine lv_aload_n hx hb dL_sets_201 rfl (lv_at hl 8 rfl) ?_
        refine lv_iload hx hb dL_sets_202 (lv_at hl 2 rfl) ?_
        refine lv_iload hx hb dL_sets_204 (lv_at hl 1 rfl) ?_
        refine lv_bipush (v := 9) hx hb dL_sets_206 (by decide) ?_
        refine lv_iadd hx hb dL_sets_208 ?_
        refine lv_topi (fun x208' e208' => ?_)
        have n208' : x208' = nI (sp + 9) := (by rw [e208', esp, (nlit 9), nI_add])
        refine lv_bipush (v := 10) hx hb dL_sets_209 (by decide) ?_
        refine lv_idiv hx hb dL_sets_211 (by decide) ?_
        refine lv_topi (fun x211' e211' => ?_)
        have n211' : x211' = nI ((sp + 9) / 10) := (by rw [e211', n208', (nlit 10)]; exact pk_div (by omega) (by omega) (by omega))
        refine lv_bipush (v := 32) hx hb dL_sets_212 (by decide) ?_
        refine lv_iload hx hb dL_sets_214 (lv_at hl 0 rfl) ?_
        refine lv_imul hx hb dL_sets_216 ?_
        refine lv_topi (fun x216' e216' => ?_)
        have n216' : x216' = nI (32 * fr) := (by rw [e216', (nlit 32), n196', pk_mul])
        refine lv_iadd hx hb dL_sets_217 ?_
        refine lv_topi (fun x217' e217' => ?_)
        have n217' : x217' = nI (((sp + 9) / 10) + (32 * fr)) := (by rw [e217', n211', n216', nI_add])
        refine wasI (j := kd) hx hb hK hA hW (hMs 61 (by decide) (by decide)) n148' (by omega) (by decide) dL_sets_218 (fun M218' H locs eM218 hW => ?_)
        have hKx : KPx 61 kd M M218' := by rw [eM218]; exact KPx.sI
        have hKe : gI M218' 61 kd = nI ((sp + 9) / 10 + 32 * fr) := by rw [eM218, kp_eq]; exact n217'
        have hXX : XX σ v M218' := by rw [eM218]; exact XX_sL hXX (by omega) (by omega)
        refine lv_aload_n hx hb dL_sets_219 rfl (lv_at hl 6 rfl) ?_
        refine lv_iload hx hb dL_sets_220 (lv_at hl 2 rfl) ?_
        refine lv_iload hx hb dL_sets_222 (lv_at hl 1 rfl) ?_
        refine lv_iconst (v := 1) hx hb dL_sets_224 (by decide) ?_
        refine lv_iload hx hb dL_sets_225 (lv_at hl 15 rfl) ?_
        refine lv_bipush (v := 12) hx hb dL_sets_227 (by decide) ?_
        refine lv_ishr hx hb dL_sets_229 ?_
        refine lv_topi (fun x229' e229' => ?_)
        refine lv_bipush (v := 100) hx hb dL_sets_230 (by decide) ?_
        refine wc_ri (va_runS (As := [.int x229', .int 100]) (rest := [.int 1, .int ysp, .int x148', .ref (ad 0)]) ⟨hx, hb, hml, hown, hts⟩ (c_L_low l x229' 100 (by decide)) (va_cwS 2 hts gL_sets_L_low rfl rfl rfl (by decide +kernel) ⟨Nat.le_of_ble_eq_true rfl, Nat.le_of_ble_eq_true rfl⟩) npreS rfl rfl hl.1 rfl (lv_room (Nat.le_of_ble_eq_true rfl)) dL_sets_232 ⟨Nat.le_of_ble_eq_true rfl, Nat.le_of_ble_eq_true rfl⟩) hW (fun x232' H locs p232' hW => ?_)
        try dsimp only at p232'
        obtain ⟨fl, hfl, efl⟩ := low_n x229' (n := 100) (by decide) (by decide)
        have r232 : x232' = nI fl := p232'.trans efl
        have n232' : x232' = nI fl := r232
        refine lv_iadd hx hb dL_sets_235 ?_
        refine lv_topi (fun x235' e235' => ?_)
        have n235' : x235' = nI (1 + fl) := (by rw [e235', (nlit 1), n232', nI_add])
        refine lv_iload hx hb dL_sets_236 (lv_at hl 0 rfl) ?_
        refine wc_wiN (vx_runSW (As := [.ref (ad 0), .int x148', .int ysp, .int x235', .int x196']) (rest := []) ⟨hx, hb, hml, hown, hts⟩ (c_L_setShell l hl9 D cA sh ad M218' _ σ v hX hXX x148' ysp x235' x196' ) (vx_cwSW 5 hts gL_sets_L_setShell rfl rfl rfl (by decide +kernel) ⟨Nat.le_of_ble_eq_true rfl, Nat.le_of_ble_eq_true rfl⟩) (lpreS hK hA hW hE hZ hE2) rfl rfl hl.1 rfl (lv_room (Nat.le_of_ble_eq_true rfl)) dL_sets_238 ⟨Nat.le_of_ble_eq_true rfl, Nat.le_of_ble_eq_true rfl⟩) hA hW (fun x238' M238' H locs p238' hW => ?_)
        try dsimp only at p238'
        have hlf := lift_fl (x := ysp) (y := x235') esp n235' ⟨hsp1, hsp2⟩ ⟨by omega, by omega⟩
        have hG238 : (inB x148' 0 3 && inB ysp 1 200 && inB x235' 1 100 && inB x196' 0 3) = true := and_t (and_t (and_t (in_t (n := 3) r148 (by omega) (by decide)) (in_t1 (n := 200) esp hsp1 hsp2 (by decide))) (in_t1 (n := 100) n235' (by omega) (by omega) (by decide))) (in_t (n := 3) r196 (by omega) (by decide))
        obtain ⟨kp238, gg238⟩ := p238'
        obtain ⟨r238, hXX⟩ := or_ok gg238 hG238
        rw [hlf] at r238
        rw [n1k, n1f] at hXX
        obtain ⟨σ1, esσ1⟩ : ∃ z9, z9 = oShell σ kd ysp x235' fr := ⟨_, rfl⟩
        rw [← esσ1] at hXX
        have hX : XSh (aN σ1) sh := by rw [esσ1]; exact hX
        have hL : LSt σ1 v M238' := by rw [esσ1]; exact LS_shell hL (hKx.kp kp238) (by rw [kp238 61 kd (by omega) (by omega), hKe, hlf])
        refine lv_iload hx hb dL_sets_241 (lv_at hl 1 rfl) ?_
        refine lv_bipush (v := 9) hx hb dL_sets_243 (by decide) ?_
        refine lv_iadd hx hb dL_sets_245 ?_
        refine lv_topi (fun x245' e245' => ?_)
        have n245' : x245' = nI (sp + 9) := (by rw [e245', esp, (nlit 9), nI_add])
        refine lv_bipush (v := 10) hx hb dL_sets_246 (by decide) ?_
        refine lv_idiv hx hb dL_sets_248 (by decide) ?_
        refine lv_topi (fun x248' e248' => ?_)
        have n248' : x248' = nI ((sp + 9) / 10) := (by rw [e248', n245', (nlit 10)]; exact pk_div (by omega) (by omega) (by omega))
        refine lv_icmp_ne (tgt := 337) hx hb dL_sets_249 (by decide) (fun c249' => ?_) (fun c249' => ?_)
        · exact ((c249' (r238.trans n248'.symm))).elim
        · refine lv_aload_n hx hb dL_sets_252 rfl (lv_at hl 6 rfl) ?_
          refine lv_iconst (v := 4) hx hb dL_sets_253 (by decide) ?_
          refine lv_iconst (v := 1) hx hb dL_sets_254 (by decide) ?_
          refine lv_iconst (v := 1) hx hb dL_sets_255 (by decide) ?_
          refine lv_iconst (v := 0) hx hb dL_sets_256 (by decide) ?_
          refine wc_wiN (vx_runSW (As := [.ref (ad 0), .int 4, .int 1, .int 1, .int 0]) (rest := []) ⟨hx, hb, hml, hown, hts⟩ (c_L_setShell l hl9 D cA sh ad M238' _ σ1 v hX hXX 4 1 1 0 ) (vx_cwSW 5 hts gL_sets_L_setShell rfl rfl rfl (by decide +kernel) ⟨Nat.le_of_ble_eq_true rfl, Nat.le_of_ble_eq_true rfl⟩) (lpreS hK hA hW hE hZ hE2) rfl rfl hl.1 rfl (lv_room (Nat.le_of_ble_eq_true rfl)) dL_sets_257 ⟨Nat.le_of_ble_eq_true rfl, Nat.le_of_ble_eq_true rfl⟩) hA hW (fun x257' M257' H locs p257' hW => ?_)
          try dsimp only at p257'
          obtain ⟨kp257, gg257⟩ := p257'
          obtain ⟨r257, hXX⟩ := or_no gg257 (by decide)
          have hL := hL.kp kp257
          refine lv_ldc (v := (-1000002)) hx hb hown (hts (.constant RL 18 (-1000002)) (List.mem_of_getElem? (i := 1) rfl)) dL_sets_260 ?_
          refine lv_icmp_ne (tgt := 337) hx hb dL_sets_262 (by decide) (fun c262' => ?_) (fun c262' => ?_)
          · exact ((c262' r257)).elim
          · refine lv_aload_n hx hb dL_sets_265 rfl (lv_at hl 6 rfl) ?_
            refine lv_iconst (v := 0) hx hb dL_sets_266 (by decide) ?_
            refine lv_iconst (v := 0) hx hb dL_sets_267 (by decide) ?_
            refine lv_iconst (v := 1) hx hb dL_sets_268 (by decide) ?_
            refine lv_iconst (v := 0) hx hb dL_sets_269 (by decide) ?_
            refine wc_wiN (vx_runSW (As := [.ref (ad 0), .int 0, .int 0, .int 1, .int 0]) (rest := []) ⟨hx, hb, hml, hown, hts⟩ (c_L_setShell l hl9 D cA sh ad M257' _ σ1 v hX hXX 0 0 1 0 ) (vx_cwSW 5 hts gL_sets_L_setShell rfl rfl rfl (by decide +kernel) ⟨Nat.le_of_ble_eq_true rfl, Nat.le_of_ble_eq_true rfl⟩) (lpreS hK hA hW hE hZ hE2) rfl rfl hl.1 rfl (lv_room (Nat.le_of_ble_eq_true rfl)) dL_sets_270 ⟨Nat.le_of_ble_eq_true rfl, Nat.le_of_ble_eq_true rfl⟩) hA hW (fun x270' M270' H locs p270' hW => ?_)
            try dsimp only at p270'
            obtain ⟨kp270, gg270⟩ := p270'
            obtain ⟨r270, hXX⟩ := or_no gg270 (by decide)
            have hL := hL.kp kp270
            refine lv_ldc (v := (-1000002)) hx hb hown (hts (.constant RL 18 (-1000002)) (List.mem_of_getElem? (i := 1) rfl)) dL_sets_273 ?_
            refine lv_icmp_ne (tgt := 337) hx hb dL_sets_275 (by decide) (fun c275' => ?_) (fun c275' => ?_)
            · exact ((c275' r270)).elim
            · refine lv_aload_n hx hb dL_sets_278 rfl (lv_at hl 6 rfl) ?_
              refine lv_iconst (v := 0) hx hb dL_sets_279 (by decide) ?_
              refine lv_sipush (v := 201) hx hb dL_sets_280 (by decide) ?_
              refine lv_iconst (v := 1) hx hb dL_sets_283 (by decide) ?_
              refine lv_iconst (v := 0) hx hb dL_sets_284 (by decide) ?_
              refine wc_wiN (vx_runSW (As := [.ref (ad 0), .int 0, .int 201, .int 1, .int 0]) (rest := []) ⟨hx, hb, hml, hown, hts⟩ (c_L_setShell l hl9 D cA sh ad M270' _ σ1 v hX hXX 0 201 1 0 ) (vx_cwSW 5 hts gL_sets_L_setShell rfl rfl rfl (by decide +kernel) ⟨Nat.le_of_ble_eq_true rfl, Nat.le_of_ble_eq_true rfl⟩) (lpreS hK hA hW hE hZ hE2) rfl rfl hl.1 rfl (lv_room (Nat.le_of_ble_eq_true rfl)) dL_sets_285 ⟨Nat.le_of_ble_eq_true rfl, Nat.le_of_ble_eq_true rfl⟩) hA hW (fun x285' M285' H locs p285' hW => ?_)
              try dsimp only at p285'
              obtain ⟨kp285, gg285⟩ := p285'
              obtain ⟨r285, hXX⟩ := or_no gg285 (by decide)
              have hL := hL.kp kp285
              refine lv_ldc (v := (-1000002)) hx hb hown (hts (.constant RL 18 (-1000002)) (List.mem_of_getElem? (i := 1) rfl)) dL_sets_288 ?_
              refine lv_icmp_ne (tgt := 337) hx hb dL_sets_290 (by decide) (fun c290' => ?_) (fun c290' => ?_)
              · exact ((c290' r285)).elim
              · refine lv_aload_n hx hb dL_sets_293 rfl (lv_at hl 6 rfl) ?_
                refine lv_iconst (v := 0) hx hb dL_sets_294 (by decide) ?_
                refine lv_iconst (v := 1) hx hb dL_sets_295 (by decide) ?_
                refine lv_iconst (v := 0) hx hb dL_sets_296 (by decide) ?_
                refine lv_iconst (v := 0) hx hb dL_sets_297 (by decide) ?_
                refine wc_wiN (vx_runSW (As := [.ref (ad 0), .int 0, .int 1, .int 0, .int 0]) (rest := []) ⟨hx, hb, hml, hown, hts⟩ (c_L_setShell l hl9 D cA sh ad M285' _ σ1 v hX hXX 0 1 0 0 ) (vx_cwSW 5 hts gL_sets_L_setShell rfl rfl rfl (by decide +kernel) ⟨Nat.le_of_ble_eq_true rfl, Nat.le_of_ble_eq_true rfl⟩) (lpreS hK hA hW hE hZ hE2) rfl rfl hl.1 rfl (lv_room (Nat.le_of_ble_eq_true rfl)) dL_sets_298 ⟨Nat.le_of_ble_eq_true rfl, Nat.le_of_ble_eq_true rfl⟩) hA hW (fun x298' M298' H locs p298' hW => ?_)
                try dsimp only at p298'
                obtain ⟨kp298, gg298⟩ := p298'
                obtain ⟨r298, hXX⟩ := or_no gg298 (by decide)
                have hL := hL.kp kp298
                refine lv_ldc (v := (-1000002)) hx hb hown (hts (.constant RL 18 (-1000002)) (List.mem_of_getElem? (i := 1) rfl)) dL_sets_301 ?_
                refine lv_icmp_ne (tgt := 337) hx hb dL_sets_303 (by decide) (fun c303' => ?_) (fun c303' => ?_)
                · exact ((c303' r298)).elim
                · refine lv_aload_n hx hb dL_sets_306 rfl (lv_at hl 6 rfl) ?_
                  refine lv_iconst (v := 0) hx hb dL_sets_307 (by decide) ?_
                  refine lv_iconst (v := 1) hx hb dL_sets_308 (by decide) ?_
                  refine lv_bipush (v := 101) hx hb dL_sets_309 (by decide) ?_
                  refine lv_iconst (v := 0) hx hb dL_sets_311 (by decide) ?_
                  refine wc_wiN (vx_runSW (As := [.ref (ad 0), .int 0, .int 1, .int 101, .int 0]) (rest := []) ⟨hx, hb, hml, hown, hts⟩ (c_L_setShell l hl9 D cA sh ad M298' _ σ1 v hX hXX 0 1 101 0 ) (vx_cwSW 5 hts gL_sets_L_setShell rfl rfl rfl (by decide +kernel) ⟨Nat.le_of_ble_eq_true rfl, Nat.le_of_ble_eq_true rfl⟩) (lpreS hK hA hW hE hZ hE2) rfl rfl hl.1 rfl (lv_room (Nat.le_of_ble_eq_true rfl)) dL_sets_312 ⟨Nat.le_of_ble_eq_true rfl, Nat.le_of_ble_eq_true rfl⟩) hA hW (fun x312' M312' H locs p312' hW => ?_)
                  try dsimp only at p312'
                  obtain ⟨kp312, gg312⟩ := p312'
                  obtain ⟨r312, hXX⟩ := or_no gg312 (by decide)
                  have hL := hL.kp kp312
                  refine lv_ldc (v := (-1000002)) hx hb hown (hts (.constant RL 18 (-1000002)) (List.mem_of_getElem? (i := 1) rfl)) dL_sets_315 ?_
                  refine lv_icmp_ne (tgt := 337) hx hb dL_sets_317 (by decide) (fun c317' => ?_) (fun c317' => ?_)
                  · exact ((c317' r312)).elim
                  · refine lv_aload_n hx hb dL_sets_320 rfl (lv_at hl 6 rfl) ?_
                    refine lv_iconst (v := 0) hx hb dL_sets_321 (by decide) ?_
                    refine lv_iconst (v := 1) hx hb dL_sets_322 (by decide) ?_
                    refine lv_iconst (v := 1) hx hb dL_sets_323 (by decide) ?_
                    refine lv_iconst (v := 4) hx hb dL_sets_324 (by decide) ?_
                    refine wc_wiN (vx_runSW (As := [.ref (ad 0), .int 0, .int 1, .int 1, .int 4]) (rest := []) ⟨hx, hb, hml, hown, hts⟩ (c_L_setShell l hl9 D cA sh ad M312' _ σ1 v hX hXX 0 1 1 4 ) (vx_cwSW 5 hts gL_sets_L_setShell rfl rfl rfl (by decide +kernel) ⟨Nat.le_of_ble_eq_true rfl, Nat.le_of_ble_eq_true rfl⟩) (lpreS hK hA hW hE hZ hE2) rfl rfl hl.1 rfl (lv_room (Nat.le_of_ble_eq_true rfl)) dL_sets_325 ⟨Nat.le_of_ble_eq_true rfl, Nat.le_of_ble_eq_true rfl⟩) hA hW (fun x325' M325' H locs p325' hW => ?_)
                    try dsimp only at p325'
                    obtain ⟨kp325, gg325⟩ := p325'
                    obtain ⟨r325, hXX⟩ := or_no gg325 (by decide)
                    have hL := hL.kp kp325
                    refine lv_ldc (v := (-1000002)) hx hb hown (hts (.constant RL 18 (-1000002)) (List.mem_of_getElem? (i := 1) rfl)) dL_sets_328 ?_
                    refine lv_icmp_ne (tgt := 337) hx hb dL_sets_330 (by decide) (fun c330' => ?_) (fun c330' => ?_)
                    · exact ((c330' r325)).elim
                    · refine lv_iconst (v := 1) hx hb dL_sets_333 (by decide) ?_
                      refine lv_goto (tgt := 338) hx hb dL_sets_334 (by decide) ?_
                      refine W.widen (k := 90) (n := 600) (by decide) (by decide) ?_
                      rw [← hQ9]
                      exact wr_lz hx hb hr hlocks hW dL_sets_338 rfl GR.rf ⟨rfl, σ1, v, by rw [esσ1]; exact hsh, hXX, hL⟩
      refine lv_iload hx hb dL_sets_153 (lv_at hl 13 rfl) ?_
      refine lv_iconst (v := 3) hx hb dL_sets_155 (by decide) ?_
      refine wc_ri (va_runS (As := [.int xb, .int 3]) (rest := []) ⟨hx, hb, hml, hown, hts⟩ (c_L_low l xb 3 (by decide)) (va_cwS 2 hts gL_sets_L_low rfl rfl rfl (by decide +kernel) ⟨Nat.le_of_ble_eq_true rfl, Nat.le_of_ble_eq_true rfl⟩) npreS rfl rfl hl.1 rfl (lv_room (Nat.le_of_ble_eq_true rfl)) dL_sets_156 ⟨Nat.le_of_ble_eq_true rfl, Nat.le_of_ble_eq_true rfl⟩) hW (fun x156' H locs p156' hW => ?_)
      try dsimp only at p156'
      refine lv_if_ne (tgt := 177) hx hb dL_sets_159 (by decide) (fun c159' => ?_) (fun c159' => ?_)
      · refine lv_iconst (v := 1) hx hb dL_sets_177 (by decide) ?_
        refine lv_iload hx hb dL_sets_178 (lv_at hl 13 rfl) ?_
        refine lv_iconst (v := 2) hx hb dL_sets_180 (by decide) ?_
        refine lv_ishr hx hb dL_sets_181 ?_
        refine lv_topi (fun x181' e181' => ?_)
        refine lv_bipush (v := 60) hx hb dL_sets_182 (by decide) ?_
        refine wc_ri (va_runS (As := [.int x181', .int 60]) (rest := [.int 1]) ⟨hx, hb, hml, hown, hts⟩ (c_L_low l x181' 60 (by decide)) (va_cwS 2 hts gL_sets_L_low rfl rfl rfl (by decide +kernel) ⟨Nat.le_of_ble_eq_true rfl, Nat.le_of_ble_eq_true rfl⟩) npreS rfl rfl hl.1 rfl (lv_room (Nat.le_of_ble_eq_true rfl)) dL_sets_184 ⟨Nat.le_of_ble_eq_true rfl, Nat.le_of_ble_eq_true rfl⟩) hW (fun x184' H locs p184' hW => ?_)
        try dsimp only at p184'
        obtain ⟨sb, hsb, esb⟩ := low_n x181' (n := 60) (by decide) (by decide)
        have r184 : x184' = nI sb := p184'.trans esb
        have n184' : x184' = nI sb := r184
        refine lv_iadd hx hb dL_sets_187 ?_
        refine lv_topi (fun x187' e187' => ?_)
        have n187' : x187' = nI (1 + sb) := (by rw [e187', (nlit 1), n184', nI_add])
        exact J188 x187' _ _ (by first | exact ⟨1 + sa, by omega, by omega, n173'⟩ | exact ⟨1 + sb, by omega, by omega, n187'⟩) hW ls (lv_sub hl [0, 1, 2, 3, 4, 5, 6, 7, 8, 9, 10, 11, 12, 13] rfl)
      · refine lv_iconst (v := 1) hx hb dL_sets_162 (by decide) ?_
        refine lv_iload hx hb dL_sets_163 (lv_at hl 13 rfl) ?_
        refine lv_iconst (v := 2) hx hb dL_sets_165 (by decide) ?_
        refine lv_ishr hx hb dL_sets_166 ?_
        refine lv_topi (fun x166' e166' => ?_)
        refine lv_sipush (v := 200) hx hb dL_sets_167 (by decide) ?_
        refine wc_ri (va_runS (As := [.int x166', .int 200]) (rest := [.int 1]) ⟨hx, hb, hml, hown, hts⟩ (c_L_low l x166' 200 (by decide)) (va_cwS 2 hts gL_sets_L_low rfl rfl rfl (by decide +kernel) ⟨Nat.le_of_ble_eq_true rfl, Nat.le_of_ble_eq_true rfl⟩) npreS rfl rfl hl.1 rfl (lv_room (Nat.le_of_ble_eq_true rfl)) dL_sets_170 ⟨Nat.le_of_ble_eq_true rfl, Nat.le_of_ble_eq_true rfl⟩) hW (fun x170' H locs p170' hW => ?_)
        try dsimp only at p170'
        obtain ⟨sa, hsa, esa⟩ := low_n x166' (n := 200) (by decide) (by decide)
        have r170 : x170' = nI sa := p170'.trans esa
        have n170' : x170' = nI sa := r170
        refine lv_iadd hx hb dL_sets_173 ?_
        refine lv_topi (fun x173' e173' => ?_)
        have n173' : x173' = nI (1 + sa) := (by rw [e173', (nlit 1), n170', nI_add])
        refine lv_goto (tgt := 188) hx hb dL_sets_174 (by decide) ?_
        exact J188 x173' _ _ (by first | exact ⟨1 + sa, by omega, by omega, n173'⟩ | exact ⟨1 + sb, by omega, by omega, n187'⟩) hW ls (lv_sub hl [0, 1, 2, 3, 4, 5, 6, 7, 8, 9, 10, 11, 12, 13] rfl)
  · have k31' : kn = 0 := kc_nen n4' (nlit 0) (by omega) (by omega) c31'
    refine lv_aload_n hx hb dL_sets_34 rfl (lv_at hl 3 rfl) ?_
    refine lv_iload hx hb dL_sets_35 (lv_at hl 11 rfl) ?_
    refine lv_iconst (v := 4) hx hb dL_sets_37 (by decide) ?_
    refine lv_ishr hx hb dL_sets_38 ?_
    refine lv_topi (fun x38' e38' => ?_)
    refine lv_bipush (v := 6) hx hb dL_sets_39 (by decide) ?_
    refine wc_ri (va_runS (As := [.int x38', .int 6]) (rest := [.ref (ad 0)]) ⟨hx, hb, hml, hown, hts⟩ (c_L_low l x38' 6 (by decide)) (va_cwS 2 hts gL_sets_L_low rfl rfl rfl (by decide +kernel) ⟨Nat.le_of_ble_eq_true rfl, Nat.le_of_ble_eq_true rfl⟩) npreS rfl rfl hl.1 rfl (lv_room (Nat.le_of_ble_eq_true rfl)) dL_sets_41 ⟨Nat.le_of_ble_eq_true rfl, Nat.le_of_ble_eq_true rfl⟩) hW (fun x41' H locs p41' hW => ?_)
    try dsimp only at p41'
    obtain ⟨rk, hrk, erk⟩ := low_n x38' (n := 6) (by decide) (by decide)
    have r41 : x41' = nI rk := p41'.trans erk
    have n1r : n1 x41' = rk := n1e r41 (by omega)
    have hrb := ok.2.1 rk hrk
    have hG41 : (inB x41' 0 5 && zoB x13' x24') = true := and_t (in_t (n := 5) r41 (by omega) (by decide)) hzo
    have n41' : x41' = nI rk := r41
    refine lv_iload hx hb dL_sets_44 (lv_at hl 1 rfl) ?_
    refine lv_iload hx hb dL_sets_46 (lv_at hl 0 rfl) ?_
    refine wc_wiN (vx_runSW (As := [.ref (ad 0), .int x41', .int x13', .int x24']) (rest := []) ⟨hx, hb, hml, hown, hts⟩ (c_L_setRack l hl9 D cA sh ad M _ σ v hX hXX x41' x13' x24' ) (vx_cwSW 4 hts gL_sets_L_setRack rfl rfl rfl (by decide +kernel) ⟨Nat.le_of_ble_eq_true rfl, Nat.le_of_ble_eq_true rfl⟩) (lpreS hK hA hW hE hZ hE2) rfl rfl hl.1 rfl (lv_room (Nat.le_of_ble_eq_true rfl)) dL_sets_48 ⟨Nat.le_of_ble_eq_true rfl, Nat.le_of_ble_eq_true rfl⟩) hA hW (fun x48' M48' H locs p48' hW => ?_)
    try dsimp only at p48'
    obtain ⟨kp48, gg48⟩ := p48'
    obtain ⟨r48, hXX⟩ := or_ok gg48 hG41
    rw [n1r] at r48
    rw [n1r, n1c, n1l] at hXX
    obtain ⟨σ1, esσ1⟩ : ∃ z9, z9 = oRack σ rk cl ln := ⟨_, rfl⟩
    rw [← esσ1] at hXX
    have hX : XSh (aN σ1) sh := by rw [esσ1]; exact hX
    have hL : LSt σ1 v M48' := by rw [esσ1]; exact LS_rack (hL.kp kp48)
    have n48' : x48' = nI (8 * σ.2 1 rk + σ.2 0 rk) := r48
    refine lv_istore (lv' := [(13, .int x48'), (12, .int x24'), (11, .int x13'), (10, .int x4'), (0, .ref (ad 0)), (1, .ref (ad 60)), (2, .ref (ad 61)), (3, .ref (ad 62)), (4, .ref (ad 63)), (5, .ref (ad 64)), (6, .ref (ad 65)), (7, .ref (ad 66)), (8, .int xa), (9, .int xb)]) hx hb dL_sets_51 hl (by decide) rfl (fun ls hl => ?_)
    refine lv_iload hx hb dL_sets_53 (lv_at hl 0 rfl) ?_
    refine lv_if_lt (tgt := 135) hx hb dL_sets_55 (by decide) (fun c55' => ?_) (fun c55' => ?_)
    · have k55' : (8 * σ.2 1 rk + σ.2 0 rk) < 0 := kc_lt n48' (nlit 0) (by omega) (by omega) c55'
      exact ((show False from by omega)).elim
    · have k55' : ¬ (8 * σ.2 1 rk + σ.2 0 rk) < 0 := kc_ltn n48' (nlit 0) (by omega) (by omega) c55'
      refine lv_iload hx hb dL_sets_58 (lv_at hl 0 rfl) ?_
      refine lv_bipush (v := 64) hx hb dL_sets_60 (by decide) ?_
      refine lv_icmp_ge (tgt := 135) hx hb dL_sets_62 (by decide) (fun c62' => ?_) (fun c62' => ?_)
      · have k62' : 64 ≤ (8 * σ.2 1 rk + σ.2 0 rk) := kc_ge n48' (nlit 64) (by omega) (by omega) c62'
        exact ((show False from by omega)).elim
      · have k62' : ¬ 64 ≤ (8 * σ.2 1 rk + σ.2 0 rk) := kc_gen n48' (nlit 64) (by omega) (by omega) c62'
        refine lv_aload_n hx hb dL_sets_65 rfl (lv_at hl 4 rfl) ?_
        refine lv_iload hx hb dL_sets_66 (lv_at hl 12 rfl) ?_
        refine lv_iconst (v := 4) hx hb dL_sets_68 (by decide) ?_
        refine lv_ishr hx hb dL_sets_69 ?_
        refine lv_topi (fun x69' e69' => ?_)
        refine lv_bipush (v := 6) hx hb dL_sets_70 (by decide) ?_
        refine wc_ri (va_runS (As := [.int x69', .int 6]) (rest := [.ref (ad 0)]) ⟨hx, hb, hml, hown, hts⟩ (c_L_low l x69' 6 (by decide)) (va_cwS 2 hts gL_sets_L_low rfl rfl rfl (by decide +kernel) ⟨Nat.le_of_ble_eq_true rfl, Nat.le_of_ble_eq_true rfl⟩) npreS rfl rfl hl.1 rfl (lv_room (Nat.le_of_ble_eq_true rfl)) dL_sets_72 ⟨Nat.le_of_ble_eq_true rfl, Nat.le_of_ble_eq_true rfl⟩) hW (fun x72' H locs p72' hW => ?_)
        try dsimp only at p72'
        have r72 : x72' = nI rk := by rw [p72', e69', ← e38', ← p41']; exact r41
        have n1s : n1 x72' = rk := n1e r72 (by omega)
        have hG72 : (inB x72' 0 5 && zoB x13' x24') = true := and_t (in_t (n := 5) r72 (by omega) (by decide)) hzo
        have n72' : x72' = nI rk := r72
        refine lv_iload hx hb dL_sets_75 (lv_at hl 2 rfl) ?_
        refine lv_iload hx hb dL_sets_77 (lv_at hl 1 rfl) ?_
        refine wc_wiN (vx_runSW (As := [.ref (ad 0), .int x72', .int x13', .int x24']) (rest := []) ⟨hx, hb, hml, hown, hts⟩ (c_L_setRack l hl9 D cA sh ad M48' _ σ1 v hX hXX x72' x13' x24' ) (vx_cwSW 4 hts gL_sets_L_setRack rfl rfl rfl (by decide +kernel) ⟨Nat.le_of_ble_eq_true rfl, Nat.le_of_ble_eq_true rfl⟩) (lpreS hK hA hW hE hZ hE2) rfl rfl hl.1 rfl (lv_room (Nat.le_of_ble_eq_true rfl)) dL_sets_79 ⟨Nat.le_of_ble_eq_true rfl, Nat.le_of_ble_eq_true rfl⟩) hA hW (fun x79' M79' H locs p79' hW => ?_)
        try dsimp only at p79'
        obtain ⟨kp79, gg79⟩ := p79'
        obtain ⟨r79, hXX⟩ := or_ok gg79 hG72
        rw [n1s, esσ1, rack_old] at r79
        rw [n1s, n1c, n1l] at hXX
        obtain ⟨σ2, esσ2⟩ : ∃ z9, z9 = oRack σ1 rk cl ln := ⟨_, rfl⟩
        rw [← esσ2] at hXX
        have hX : XSh (aN σ2) sh := by rw [esσ2]; exact hX
        have hL : LSt σ2 v M79' := by rw [esσ2]; exact LS_rack (hL.kp kp79)
        refine lv_bipush (v := 8) hx hb dL_sets_82 (by decide) ?_
        refine lv_iload hx hb dL_sets_84 (lv_at hl 1 rfl) ?_
        refine lv_imul hx hb dL_sets_86 ?_
        refine lv_topi (fun x86' e86' => ?_)
        have n86' : x86' = nI (8 * ln) := (by rw [e86', (nlit 8), n24', pk_mul])
        refine lv_iload hx hb dL_sets_87 (lv_at hl 2 rfl) ?_
        refine lv_iadd hx hb dL_sets_89 ?_
        refine lv_topi (fun x89' e89' => ?_)
        have n89' : x89' = nI ((8 * ln) + cl) := (by rw [e89', n86', n13', nI_add])
        refine lv_icmp_ne (tgt := 135) hx hb dL_sets_90 (by decide) (fun c90' => ?_) (fun c90' => ?_)
        · exact ((c90' (r79.trans n89'.symm))).elim
        · refine lv_aload_n hx hb dL_sets_93 rfl (lv_at hl 4 rfl) ?_
          refine lv_bipush (v := 6) hx hb dL_sets_94 (by decide) ?_
          refine lv_iconst (v := 0) hx hb dL_sets_96 (by decide) ?_
          refine lv_iconst (v := 0) hx hb dL_sets_97 (by decide) ?_
          refine wc_wiN (vx_runSW (As := [.ref (ad 0), .int 6, .int 0, .int 0]) (rest := []) ⟨hx, hb, hml, hown, hts⟩ (c_L_setRack l hl9 D cA sh ad M79' _ σ2 v hX hXX 6 0 0 ) (vx_cwSW 4 hts gL_sets_L_setRack rfl rfl rfl (by decide +kernel) ⟨Nat.le_of_ble_eq_true rfl, Nat.le_of_ble_eq_true rfl⟩) (lpreS hK hA hW hE hZ hE2) rfl rfl hl.1 rfl (lv_room (Nat.le_of_ble_eq_true rfl)) dL_sets_98 ⟨Nat.le_of_ble_eq_true rfl, Nat.le_of_ble_eq_true rfl⟩) hA hW (fun x98' M98' H locs p98' hW => ?_)
          try dsimp only at p98'
          obtain ⟨kp98, gg98⟩ := p98'
          obtain ⟨r98, hXX⟩ := or_no gg98 (by decide)
          have hL := hL.kp kp98
          refine lv_ldc (v := (-1000002)) hx hb hown (hts (.constant RL 18 (-1000002)) (List.mem_of_getElem? (i := 1) rfl)) dL_sets_101 ?_
          refine lv_icmp_ne (tgt := 135) hx hb dL_sets_103 (by decide) (fun c103' => ?_) (fun c103' => ?_)
          · exact ((c103' r98)).elim
          · refine lv_aload_n hx hb dL_sets_106 rfl (lv_at hl 4 rfl) ?_
            refine lv_iconst (v := 0) hx hb dL_sets_107 (by decide) ?_
            refine lv_bipush (v := 8) hx hb dL_sets_108 (by decide) ?_
            refine lv_iconst (v := 0) hx hb dL_sets_110 (by decide) ?_
            refine wc_wiN (vx_runSW (As := [.ref (ad 0), .int 0, .int 8, .int 0]) (rest := []) ⟨hx, hb, hml, hown, hts⟩ (c_L_setRack l hl9 D cA sh ad M98' _ σ2 v hX hXX 0 8 0 ) (vx_cwSW 4 hts gL_sets_L_setRack rfl rfl rfl (by decide +kernel) ⟨Nat.le_of_ble_eq_true rfl, Nat.le_of_ble_eq_true rfl⟩) (lpreS hK hA hW hE hZ hE2) rfl rfl hl.1 rfl (lv_room (Nat.le_of_ble_eq_true rfl)) dL_sets_111 ⟨Nat.le_of_ble_eq_true rfl, Nat.le_of_ble_eq_true rfl⟩) hA hW (fun x111' M111' H locs p111' hW => ?_)
            try dsimp only at p111'
            obtain ⟨kp111, gg111⟩ := p111'
            obtain ⟨r111, hXX⟩ := or_no gg111 (by decide)
            have hL := hL.kp kp111
            refine lv_ldc (v := (-1000002)) hx hb hown (hts (.constant RL 18 (-1000002)) (List.mem_of_getElem? (i := 1) rfl)) dL_sets_114 ?_
            refine lv_icmp_ne (tgt := 135) hx hb dL_sets_116 (by decide) (fun c116' => ?_) (fun c116' => ?_)
            · exact ((c116' r111)).elim
            · refine lv_aload_n hx hb dL_sets_119 rfl (lv_at hl 4 rfl) ?_
              refine lv_iconst (v := 0) hx hb dL_sets_120 (by decide) ?_
              refine lv_iconst (v := 0) hx hb dL_sets_121 (by decide) ?_
              refine lv_iconst (v := (-1)) hx hb dL_sets_122 (by decide) ?_
              refine wc_wiN (vx_runSW (As := [.ref (ad 0), .int 0, .int 0, .int (-1)]) (rest := []) ⟨hx, hb, hml, hown, hts⟩ (c_L_setRack l hl9 D cA sh ad M111' _ σ2 v hX hXX 0 0 (-1) ) (vx_cwSW 4 hts gL_sets_L_setRack rfl rfl rfl (by decide +kernel) ⟨Nat.le_of_ble_eq_true rfl, Nat.le_of_ble_eq_true rfl⟩) (lpreS hK hA hW hE hZ hE2) rfl rfl hl.1 rfl (lv_room (Nat.le_of_ble_eq_true rfl)) dL_sets_123 ⟨Nat.le_of_ble_eq_true rfl, Nat.le_of_ble_eq_true rfl⟩) hA hW (fun x123' M123' H locs p123' hW => ?_)
              try dsimp only at p123'
              obtain ⟨kp123, gg123⟩ := p123'
              obtain ⟨r123, hXX⟩ := or_no gg123 (by decide)
              have hL := hL.kp kp123
              refine lv_ldc (v := (-1000002)) hx hb hown (hts (.constant RL 18 (-1000002)) (List.mem_of_getElem? (i := 1) rfl)) dL_sets_126 ?_
              refine lv_icmp_ne (tgt := 135) hx hb dL_sets_128 (by decide) (fun c128' => ?_) (fun c128' => ?_)
              · exact ((c128' r123)).elim
              · refine lv_iconst (v := 1) hx hb dL_sets_131 (by decide) ?_
                refine lv_goto (tgt := 136) hx hb dL_sets_132 (by decide) ?_
                refine W.widen (k := 90) (n := 600) (by decide) (by decide) ?_
                rw [← hQ9]
                exact wr_lz hx hb hr hlocks hW dL_sets_136 rfl GR.rf ⟨rfl, σ2, v, by rw [esσ2, esσ1]; exact hsh, hXX, hL⟩

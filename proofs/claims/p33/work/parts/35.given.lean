/-! areGiven. -/
set_option maxHeartbeats 4000000 in
set_option maxRecDepth 100000 in
theorem c_L_areGiven (l : Launch) (hl9 : l.stackTraces = false) (D : va_G) (cA : Nat → ClassId) (sh : Nat → Option Sh) (ad : Nat → Nat) (M : MS) (sz : Nat) (σ : AS) (v : VT) (hX : XSh (aN σ) sh) (hXX : XX σ v M) (hMs : LSh sh) (hL : LSt σ v M) (q : Nat → Nat) (c : Nat) (hs : Srt σ 40 q c) : Met l yL_areGiven wsL_areGiven ({ frames := 10, cells := 1010, slots := 6060, locals := 176 }) (lPc D cA sh ad M sz [.ref (ad 0), .ref (ad 60), .ref (ad 65), .ref (ad 66)]) (wQi D cA sh ad (fun r M' => r = 1 ∧ XX σ v M' ∧ LSt σ v M') (wA sh ad sz)) 1010 6060 (wA sh ad sz) := by
  refine Met.ofW (cc := cL_areGiven) (maxL := 11) (ret := (some .boolean)) (by decide) rfl ?_
  intro p e s m args below meth cd0 s₁ B hml hv
  obtain ⟨rfl, hsz, hM, hK, hE, hZ, hE2⟩ := hv
  have hx := B.exec
  have hb := B.bytes
  have hr := B.returns
  have hts := atoms_spec (ws := wsL_areGiven) B.pre
  have hown : s.vm.findClass RL = some m.cls := findClass_of_methodNamed B.named
  have hlocks := B.notSynchronized
  subst hsz
  have hA := wA_PA sh ad s.heap
  generalize wA sh ad s.heap.size = A at hA hZ ⊢
  have hW : WS D cA sh ad A s.heap M s.heap [] := ⟨hM, va_S.rf⟩
  have hl := lv_entry ([.ref (ad 0), .ref (ad 60), .ref (ad 65), .ref (ad 66)]) (n := 11) (Nat.le_of_ble_eq_true rfl)
  rw [lg_entry_eq]
  generalize (lg_sl ([.ref (ad 0), .ref (ad 60), .ref (ad 65), .ref (ad 66)]) ++ List.replicate (11 - (lg_sl ([.ref (ad 0), .ref (ad 60), .ref (ad 65), .ref (ad 66)])).length) Slot.unset).toArray = ls at hl ⊢
  have hl : lv_has ls 11 [(0, .ref (ad 0)), (1, .ref (ad 60)), (2, .ref (ad 65)), (3, .ref (ad 66))] := hl
  obtain ⟨ok, -⟩ := id hXX
  have o1 := ok.1
  refine lv_iconst (v := 0) hx hb dL_areGiven_0 (by decide) ?_
  refine lv_istore (lv' := [(4, .int 0), (0, .ref (ad 0)), (1, .ref (ad 60)), (2, .ref (ad 65)), (3, .ref (ad 66))]) hx hb dL_areGiven_1 hl (by decide) rfl (fun ls hl => ?_)
  refine lv_iconst (v := 0) hx hb dL_areGiven_3 (by decide) ?_
  refine lv_istore (lv' := [(5, .int 0), (4, .int 0), (0, .ref (ad 0)), (1, .ref (ad 60)), (2, .ref (ad 65)), (3, .ref (ad 66))]) hx hb dL_areGiven_4 hl (by decide) rfl (fun ls hl => ?_)
  refine lv_iconst (v := 1) hx hb dL_areGiven_6 (by decide) ?_
  refine lv_istore (lv' := [(6, .int 1), (5, .int 0), (4, .int 0), (0, .ref (ad 0)), (1, .ref (ad 60)), (2, .ref (ad 65)), (3, .ref (ad 66))]) hx hb dL_areGiven_7 hl (by decide) rfl (fun ls hl => ?_)
  refine lv_iconst (v := 0) hx hb dL_areGiven_9 (by decide) ?_
  refine lv_istore (lv' := [(7, .int 0), (6, .int 1), (5, .int 0), (4, .int 0), (0, .ref (ad 0)), (1, .ref (ad 60)), (2, .ref (ad 65)), (3, .ref (ad 66))]) hx hb dL_areGiven_10 hl (by decide) rfl (fun ls hl => ?_)
  have L12 : ∀ (fu : Nat) (k : Nat) (xk : Int32) (xp : Int32) (xf : Int32) (Mk : MS) (H : Heap) (locs : List Loc), aN σ - k < fu → (k ≤ aN σ) → (xk = nI k) → (xf = nI (ctN (firB σ q c) k)) → (xp = nI (ctN (sprB σ q c) k)) → (XX σ v Mk) → (LSt σ v Mk) → WS D cA sh ad A s.heap Mk H locs → ∀ ls, lv_has ls 11 [(7, .int xk), (6, .int 1), (5, .int xp), (4, .int xf), (0, .ref (ad 0)), (1, .ref (ad 60)), (2, .ref (ad 65)), (3, .ref (ad 66))] → W p l e (headSpec wsL_areGiven { frames := 10, cells := 1010, slots := 6060, locals := 176 }).room s m ([.ref (ad 0), .ref (ad 60), .ref (ad 65), .ref (ad 66)] : List Value).toArray below meth cd0 H locs (3 * k) (18 * k) (MQ below (wQi D cA sh ad (fun r M' => r = 1 ∧ XX σ v M' ∧ LSt σ v M') A) ([.ref (ad 0), .ref (ad 60), .ref (ad 65), .ref (ad 66)] : List Value).toArray s 1010 6060 A) (F0 m 12 ls []) := by
    intro fu
    induction fu with
    | zero =>
      intro k xk xp xf Mk H locs hn hk ek ef ep hXX hL hW ls hl
      exact absurd hn (Nat.not_lt_zero _)
    | succ fu ih12 =>
      intro k xk xp xf Mk H locs hn hk ek ef ep hXX hL hW ls hl
      refine lv_iload hx hb dL_areGiven_12 (lv_at hl 0 rfl) ?_
      refine lv_aload_n hx hb dL_areGiven_14 rfl (lv_at hl 7 rfl) ?_
      refine lv_iconst (v := 0) hx hb dL_areGiven_15 (by decide) ?_
      refine walI (j := 0) hx hb hK hW (hMs 66 (by decide) (by decide)) (nlit 0) (by omega) (by decide) dL_areGiven_16 (fun x16' e16' => ?_)
      have n16' : x16' = nI (aN σ) := (e16'.trans hL.2.2.2.2.2.2.1)
      refine lv_icmp_ge (tgt := 170) hx hb dL_areGiven_17 (by decide) (fun c17' => ?_) (fun c17' => ?_)
      · have k17' : (aN σ) ≤ k := kc_ge ek n16' (by omega) (by omega) c17'
        have hke : k = aN σ := by omega
        have hf : xf = nI (lit σ q c) := by rw [ef, hke, fired_ct hs o1]
        have hp : xp = nI (ctN (spB (fun d => (gvn σ q c d).isSome)) 32) := by rw [ep, hke, spare_ct hs o1]
        have hl40 : lit σ q c ≤ 40 := Nat.le_trans (lit_le σ q c) hs.2.2.2
        refine lv_iconst (v := 0) hx hb dL_areGiven_170 (by decide) ?_
        refine lv_istore (lv' := [(7, .int 0), (6, .int 1), (5, .int xp), (4, .int xf), (0, .ref (ad 0)), (1, .ref (ad 60)), (2, .ref (ad 65)), (3, .ref (ad 66))]) hx hb dL_areGiven_171 hl (by decide) rfl (fun ls hl => ?_)
        have L173 : ∀ (fu : Nat) (bx : Nat) (xb : Int32) (Mb : MS) (H : Heap) (locs : List Loc), 4 - bx < fu → (bx ≤ 4) → (xb = nI bx) → (XX σ v Mb) → (LSt σ v Mb) → WS D cA sh ad A s.heap Mb H locs → ∀ ls, lv_has ls 11 [(7, .int xb), (6, .int 1), (5, .int xp), (4, .int xf), (0, .ref (ad 0)), (1, .ref (ad 60)), (2, .ref (ad 65)), (3, .ref (ad 66))] → W p l e (headSpec wsL_areGiven { frames := 10, cells := 1010, slots := 6060, locals := 176 }).room s m ([.ref (ad 0), .ref (ad 60), .ref (ad 65), .ref (ad 66)] : List Value).toArray below meth cd0 H locs (3 * k + 160 * bx) (18 * k + 960 * bx) (MQ below (wQi D cA sh ad (fun r M' => r = 1 ∧ XX σ v M' ∧ LSt σ v M') A) ([.ref (ad 0), .ref (ad 60), .ref (ad 65), .ref (ad 66)] : List Value).toArray s 1010 6060 A) (F0 m 173 ls []) := by
          intro fu
          induction fu with
          | zero =>
            intro bx xb Mb H locs hn hbx ebx hXX hL hW ls hl
            exact absurd hn (Nat.not_lt_zero _)
          | succ fu ih173 =>
            intro bx xb Mb H locs hn hbx ebx hXX hL hW ls hl
            refine lv_iload hx hb dL_areGiven_173 (lv_at hl 0 rfl) ?_
            refine lv_iconst (v := 4) hx hb dL_areGiven_175 (by decide) ?_
            refine lv_icmp_ge (tgt := 268) hx hb dL_areGiven_176 (by decide) (fun c176' => ?_) (fun c176' => ?_)
            · have k176' : 4 ≤ bx := kc_ge ebx (nlit 4) (by omega) (by omega) c176'
              refine W.widen (k := 3 * k + 640) (n := 18 * k + 3840) (by omega) (by omega) ?_
              refine lv_iconst (v := 1) hx hb dL_areGiven_268 (by decide) ?_
              refine lv_istore (lv' := [(7, .int 1), (6, .int 1), (5, .int xp), (4, .int xf), (0, .ref (ad 0)), (1, .ref (ad 60)), (2, .ref (ad 65)), (3, .ref (ad 66))]) hx hb dL_areGiven_269 hl (by decide) rfl (fun ls hl => ?_)
              have L271 : ∀ (fu : Nat) (w : Nat) (xm : Int32) (Mm : MS) (H : Heap) (locs : List Loc), 41 - w < fu → (w ≤ 40) → (xm = nI (w + 1)) → (XX σ v Mm) → (LSt σ v Mm) → WS D cA sh ad A s.heap Mm H locs → ∀ ls, lv_has ls 11 [(7, .int xm), (6, .int 1), (5, .int xp), (4, .int xf), (0, .ref (ad 0)), (1, .ref (ad 60)), (2, .ref (ad 65)), (3, .ref (ad 66))] → W p l e (headSpec wsL_areGiven { frames := 10, cells := 1010, slots := 6060, locals := 176 }).room s m ([.ref (ad 0), .ref (ad 60), .ref (ad 65), .ref (ad 66)] : List Value).toArray below meth cd0 H locs (3 * k + 640 + 6 * w) (18 * k + 3840 + 36 * w) (MQ below (wQi D cA sh ad (fun r M' => r = 1 ∧ XX σ v M' ∧ LSt σ v M') A) ([.ref (ad 0), .ref (ad 60), .ref (ad 65), .ref (ad 66)] : List Value).toArray s 1010 6060 A) (F0 m 271 ls []) := by
                intro fu
                induction fu with
                | zero =>
                  intro w xm Mm H locs hn hw ew hXX hL hW ls hl
                  exact absurd hn (Nat.not_lt_zero _)
                | succ fu ih271 =>
                  intro w xm Mm H locs hn hw ew hXX hL hW ls hl
                  refine lv_iload hx hb dL_areGiven_271 (lv_at hl 0 rfl) ?_
                  refine lv_iload hx hb dL_areGiven_273 (lv_at hl 3 rfl) ?_
                  refine lv_icmp_ge (tgt := 351) hx hb dL_areGiven_275 (by decide) (fun c275' => ?_) (fun c275' => ?_)
                  · have k275' : (lit σ q c) ≤ (w + 1) := kc_ge ew hf (by omega) (by omega) c275'
                    refine lv_iload hx hb dL_areGiven_351 (lv_at hl 1 rfl) ?_
                    refine lv_if_eq (tgt := 422) hx hb dL_areGiven_353 (by decide) (fun c353' => ?_) (fun c353' => ?_)
                    · have k353' : 1 = 0 := kc_eq (nlit 1) (nlit 0) (by omega) (by omega) c353'
                      exact ((show False from by omega)).elim
                    · have k353' : ¬ 1 = 0 := kc_eqn (nlit 1) (nlit 0) (by omega) (by omega) c353'
                      refine lv_aload_n hx hb dL_areGiven_356 rfl (lv_at hl 4 rfl) ?_
                      refine wc_wi (va_runV (As := []) (rest := []) ⟨hx, hb, hml, hown, hts⟩ (c_X9_fired l D cA sh ad Mm _ σ v hX hXX) (cwV 0 hts gL_areGiven_X9_fired rfl rfl rfl (by decide +kernel) ⟨Nat.le_of_ble_eq_true rfl, Nat.le_of_ble_eq_true rfl⟩) (wpreV hK hW (C := RX9) (ci := 9) (hX.1 0 (by decide)) rfl) rfl rfl hl.1 rfl (lv_room (Nat.le_of_ble_eq_true rfl)) dL_areGiven_357 ⟨(by show 3 * k + 640 + 6 * w + 0 ≤ 1010; omega), (by show 18 * k + 3840 + 36 * w + 0 ≤ 6060; omega)⟩) hA hW (fun x357' M357' H locs p357' hW => ?_)
                      try dsimp only at p357'
                      obtain ⟨kp357, hXX, r357⟩ := p357'
                      have hL := hL.kp (KPm.oA kp357)
                      obtain ⟨q9, c9', s9, f9⟩ := r357
                      refine lv_iload hx hb dL_areGiven_360 (lv_at hl 3 rfl) ?_
                      refine lv_icmp_ne (tgt := 422) hx hb dL_areGiven_362 (by decide) (fun c362' => ?_) (fun c362' => ?_)
                      · exact ((c362' (by rw [f9, lit_un hs s9, hf]))).elim
                      · refine lv_aload_n hx hb dL_areGiven_365 rfl (lv_at hl 4 rfl) ?_
                        refine wc_wi (va_runV (As := []) (rest := []) ⟨hx, hb, hml, hown, hts⟩ (c_X9_spares l D cA sh ad M357' _ σ v hX hXX) (cwV 0 hts gL_areGiven_X9_spares rfl rfl rfl (by decide +kernel) ⟨Nat.le_of_ble_eq_true rfl, Nat.le_of_ble_eq_true rfl⟩) (wpreV hK hW (C := RX9) (ci := 9) (hX.1 0 (by decide)) rfl) rfl rfl hl.1 rfl (lv_room (Nat.le_of_ble_eq_true rfl)) dL_areGiven_366 ⟨(by show 3 * k + 640 + 6 * w + 0 ≤ 1010; omega), (by show 18 * k + 3840 + 36 * w + 0 ≤ 6060; omega)⟩) hA hW (fun x366' M366' H locs p366' hW => ?_)
                        try dsimp only at p366'
                        obtain ⟨kp366, hXX, r366⟩ := p366'
                        have hL := hL.kp (KPm.oA kp366)
                        obtain ⟨q8, c8', s8, f8⟩ := r366
                        refine lv_iload hx hb dL_areGiven_369 (lv_at hl 2 rfl) ?_
                        refine lv_icmp_ne (tgt := 422) hx hb dL_areGiven_371 (by decide) (fun c371' => ?_) (fun c371' => ?_)
                        · exact ((c371' (by rw [f8, gvn_un hs s8, hp]))).elim
                        · refine lv_aload_n hx hb dL_areGiven_374 rfl (lv_at hl 4 rfl) ?_
                          refine lv_iload hx hb dL_areGiven_375 (lv_at hl 3 rfl) ?_
                          refine wc_wiN (vx_runSW (As := [.ref (ad 0), .int xf]) (rest := []) ⟨hx, hb, hml, hown, hts⟩ (c_L_firing l hl9 D cA sh ad M366' _ σ v hX hXX xf q c hs ) (vx_cwSW 2 hts gL_areGiven_L_firing rfl rfl rfl (by decide +kernel) ⟨Nat.le_of_ble_eq_true rfl, Nat.le_of_ble_eq_true rfl⟩) (lpreS hK hA hW hE hZ hE2) rfl rfl hl.1 rfl (lv_room (Nat.le_of_ble_eq_true rfl)) dL_areGiven_377 ⟨(by show 3 * k + 640 + 6 * w + 1 ≤ 1010; omega), (by show 18 * k + 3840 + 36 * w + 6 ≤ 6060; omega)⟩) hA hW (fun x377' M377' H locs p377' hW => ?_)
                          try dsimp only at p377'
                          obtain ⟨kp377, hXX, r377⟩ := p377'
                          have hL := hL.kp kp377
                          rw [ifB_f (fi_f hf (by omega) (by omega))] at r377
                          refine lv_ldc (v := (-1000001)) hx hb hown (hts (.constant RL 51 (-1000001)) (List.mem_of_getElem? (i := 1) rfl)) dL_areGiven_380 ?_
                          refine lv_icmp_ne (tgt := 422) hx hb dL_areGiven_382 (by decide) (fun c382' => ?_) (fun c382' => ?_)
                          · exact ((c382' r377)).elim
                          · refine lv_aload_n hx hb dL_areGiven_385 rfl (lv_at hl 4 rfl) ?_
                            refine lv_iconst (v := (-1)) hx hb dL_areGiven_386 (by decide) ?_
                            refine wc_wiN (vx_runSW (As := [.ref (ad 0), .int (-1)]) (rest := []) ⟨hx, hb, hml, hown, hts⟩ (c_L_firing l hl9 D cA sh ad M377' _ σ v hX hXX (-1) q c hs ) (vx_cwSW 2 hts gL_areGiven_L_firing rfl rfl rfl (by decide +kernel) ⟨Nat.le_of_ble_eq_true rfl, Nat.le_of_ble_eq_true rfl⟩) (lpreS hK hA hW hE hZ hE2) rfl rfl hl.1 rfl (lv_room (Nat.le_of_ble_eq_true rfl)) dL_areGiven_387 ⟨(by show 3 * k + 640 + 6 * w + 1 + 1 ≤ 1010; omega), (by show 18 * k + 3840 + 36 * w + 6 + 6 ≤ 6060; omega)⟩) hA hW (fun x387' M387' H locs p387' hW => ?_)
                            try dsimp only at p387'
                            obtain ⟨kp387, hXX, r387⟩ := p387'
                            have hL := hL.kp kp387
                            rw [ifB_f (fi_m1 _)] at r387
                            refine lv_ldc (v := (-1000001)) hx hb hown (hts (.constant RL 51 (-1000001)) (List.mem_of_getElem? (i := 1) rfl)) dL_areGiven_390 ?_
                            refine lv_icmp_ne (tgt := 422) hx hb dL_areGiven_392 (by decide) (fun c392' => ?_) (fun c392' => ?_)
                            · exact ((c392' r387)).elim
                            · refine lv_aload_n hx hb dL_areGiven_395 rfl (lv_at hl 4 rfl) ?_
                              refine lv_iconst (v := 4) hx hb dL_areGiven_396 (by decide) ?_
                              refine lv_iconst (v := 0) hx hb dL_areGiven_397 (by decide) ?_
                              refine wc_wiN (vx_runSW (As := [.ref (ad 0), .int 4, .int 0]) (rest := []) ⟨hx, hb, hml, hown, hts⟩ (c_L_cueOn l hl9 D cA sh ad M387' _ σ v hX hXX 4 0 q c hs ) (vx_cwSW 3 hts gL_areGiven_L_cueOn rfl rfl rfl (by decide +kernel) ⟨Nat.le_of_ble_eq_true rfl, Nat.le_of_ble_eq_true rfl⟩) (lpreS hK hA hW hE hZ hE2) rfl rfl hl.1 rfl (lv_room (Nat.le_of_ble_eq_true rfl)) dL_areGiven_398 ⟨(by show 3 * k + 640 + 6 * w + 1 + 1 + 1 ≤ 1010; omega), (by show 18 * k + 3840 + 36 * w + 6 + 6 + 6 ≤ 6060; omega)⟩) hA hW (fun x398' M398' H locs p398' hW => ?_)
                              try dsimp only at p398'
                              obtain ⟨kp398, hXX, r398⟩ := p398'
                              have hL := hL.kp kp398
                              rw [ifB_f (show (inB 4 0 3 && inB 0 0 7) = false by decide)] at r398
                              refine lv_ldc (v := (-1000002)) hx hb hown (hts (.constant RL 18 (-1000002)) (List.mem_of_getElem? (i := 2) rfl)) dL_areGiven_401 ?_
                              refine lv_icmp_ne (tgt := 422) hx hb dL_areGiven_403 (by decide) (fun c403' => ?_) (fun c403' => ?_)
                              · exact ((c403' r398)).elim
                              · refine lv_aload_n hx hb dL_areGiven_406 rfl (lv_at hl 4 rfl) ?_
                                refine lv_iconst (v := 0) hx hb dL_areGiven_407 (by decide) ?_
                                refine lv_bipush (v := 8) hx hb dL_areGiven_408 (by decide) ?_
                                refine wc_wiN (vx_runSW (As := [.ref (ad 0), .int 0, .int 8]) (rest := []) ⟨hx, hb, hml, hown, hts⟩ (c_L_cueOn l hl9 D cA sh ad M398' _ σ v hX hXX 0 8 q c hs ) (vx_cwSW 3 hts gL_areGiven_L_cueOn rfl rfl rfl (by decide +kernel) ⟨Nat.le_of_ble_eq_true rfl, Nat.le_of_ble_eq_true rfl⟩) (lpreS hK hA hW hE hZ hE2) rfl rfl hl.1 rfl (lv_room (Nat.le_of_ble_eq_true rfl)) dL_areGiven_410 ⟨(by show 3 * k + 640 + 6 * w + 1 + 1 + 1 + 1 ≤ 1010; omega), (by show 18 * k + 3840 + 36 * w + 6 + 6 + 6 + 6 ≤ 6060; omega)⟩) hA hW (fun x410' M410' H locs p410' hW => ?_)
                                try dsimp only at p410'
                                obtain ⟨kp410, hXX, r410⟩ := p410'
                                have hL := hL.kp kp410
                                rw [ifB_f (show (inB 0 0 3 && inB 8 0 7) = false by decide)] at r410
                                refine lv_ldc (v := (-1000002)) hx hb hown (hts (.constant RL 18 (-1000002)) (List.mem_of_getElem? (i := 2) rfl)) dL_areGiven_413 ?_
                                refine lv_icmp_ne (tgt := 422) hx hb dL_areGiven_415 (by decide) (fun c415' => ?_) (fun c415' => ?_)
                                · exact ((c415' r410)).elim
                                · refine lv_iconst (v := 1) hx hb dL_areGiven_418 (by decide) ?_
                                  refine lv_goto (tgt := 423) hx hb dL_areGiven_419 (by decide) ?_
                                  refine W.widen (k := 1010) (n := 6060) (by omega) (by omega) ?_
                                  exact wr_wz hx hb hr hlocks hW dL_areGiven_423 rfl ⟨rfl, hXX, hL⟩
                  · have k275' : ¬ (lit σ q c) ≤ (w + 1) := kc_gen ew hf (by omega) (by omega) c275'
                    have hbf := fir_bef hs (show w < w + 1 by omega) (show w + 1 < lit σ q c by omega)
                    obtain ⟨j8, -, hj8, -, -, ef8, he8, -⟩ := fir_at hs (show w < lit σ q c by omega)
                    obtain ⟨j9, -, hj9, -, -, ef9, he9, -⟩ := fir_at hs (show w + 1 < lit σ q c by omega)
                    have hiN1 : firA σ q c w < aN σ := by rw [ef8]; exact he8.1
                    have hig1 : σ.2 10 (firA σ q c w) = 0 := by rw [ef8]; exact he8.2.1
                    have hiN2 : firA σ q c (w + 1) < aN σ := by rw [ef9]; exact he9.1
                    have hig2 : σ.2 10 (firA σ q c (w + 1)) = 0 := by rw [ef9]; exact he9.2.1
                    refine lv_iload hx hb dL_areGiven_278 (lv_at hl 1 rfl) ?_
                    refine lv_if_eq (tgt := 351) hx hb dL_areGiven_280 (by decide) (fun c280' => ?_) (fun c280' => ?_)
                    · have k280' : 1 = 0 := kc_eq (nlit 1) (nlit 0) (by omega) (by omega) c280'
                      exact ((show False from by omega)).elim
                    · have k280' : ¬ 1 = 0 := kc_eqn (nlit 1) (nlit 0) (by omega) (by omega) c280'
                      refine lv_aload_n hx hb dL_areGiven_283 rfl (lv_at hl 4 rfl) ?_
                      refine lv_iload hx hb dL_areGiven_284 (lv_at hl 0 rfl) ?_
                      refine lv_iconst (v := 1) hx hb dL_areGiven_286 (by decide) ?_
                      refine lv_isub hx hb dL_areGiven_287 ?_
                      refine lv_topi (fun x287' e287' => ?_)
                      have n287' : x287' = nI ((w + 1) - 1) := (by rw [e287', ew, (nlit 1)]; exact pk_sub (by omega))
                      refine wc_wiN (vx_runSW (As := [.ref (ad 0), .int x287']) (rest := []) ⟨hx, hb, hml, hown, hts⟩ (c_L_firing l hl9 D cA sh ad Mm _ σ v hX hXX x287' q c hs ) (vx_cwSW 2 hts gL_areGiven_L_firing rfl rfl rfl (by decide +kernel) ⟨Nat.le_of_ble_eq_true rfl, Nat.le_of_ble_eq_true rfl⟩) (lpreS hK hA hW hE hZ hE2) rfl rfl hl.1 rfl (lv_room (Nat.le_of_ble_eq_true rfl)) dL_areGiven_288 ⟨(by show 3 * k + 640 + 6 * w + 1 ≤ 1010; omega), (by show 18 * k + 3840 + 36 * w + 6 ≤ 6060; omega)⟩) hA hW (fun x288' M288' H locs p288' hW => ?_)
                      try dsimp only at p288'
                      obtain ⟨kp288, hXX, r288⟩ := p288'
                      have hL := hL.kp kp288
                      rw [ifB_t (fi_t n287' (by omega) (by omega)), n1e n287' (by omega), show w + 1 - 1 = w by omega] at r288
                      have hcu1 : cuB σ x288' = true := cu_y r288 hiN1 hig1
                      have n1a : n1 x288' = firA σ q c w := n1e r288 (by omega)
                      have n288' : x288' = nI (firA σ q c w) := r288
                      refine lv_istore (lv' := [(8, .int x288'), (7, .int xm), (6, .int 1), (5, .int xp), (4, .int xf), (0, .ref (ad 0)), (1, .ref (ad 60)), (2, .ref (ad 65)), (3, .ref (ad 66))]) hx hb dL_areGiven_291 hl (by decide) rfl (fun ls hl => ?_)
                      refine lv_aload_n hx hb dL_areGiven_293 rfl (lv_at hl 5 rfl) ?_
                      refine lv_iload hx hb dL_areGiven_294 (lv_at hl 1 rfl) ?_
                      refine wc_wiN (vx_runSW (As := [.ref (ad 0), .int xm]) (rest := []) ⟨hx, hb, hml, hown, hts⟩ (c_L_firing l hl9 D cA sh ad M288' _ σ v hX hXX xm q c hs ) (vx_cwSW 2 hts gL_areGiven_L_firing rfl rfl rfl (by decide +kernel) ⟨Nat.le_of_ble_eq_true rfl, Nat.le_of_ble_eq_true rfl⟩) (lpreS hK hA hW hE hZ hE2) rfl rfl hl.1 rfl (lv_room (Nat.le_of_ble_eq_true rfl)) dL_areGiven_296 ⟨(by show 3 * k + 640 + 6 * w + 1 + 1 ≤ 1010; omega), (by show 18 * k + 3840 + 36 * w + 6 + 6 ≤ 6060; omega)⟩) hA hW (fun x296' M296' H locs p296' hW => ?_)
                      try dsimp only at p296'
                      obtain ⟨kp296, hXX, r296⟩ := p296'
                      have hL := hL.kp kp296
                      rw [ifB_t (fi_t ew (by omega) (by omega)), n1e ew (by omega)] at r296
                      have hcu2 : cuB σ x296' = true := cu_y r296 hiN2 hig2
                      have n1b : n1 x296' = firA σ q c (w + 1) := n1e r296 (by omega)
                      have n296' : x296' = nI (firA σ q c (w + 1)) := r296
                      refine lv_istore (lv' := [(9, .int x296'), (8, .int x288'), (7, .int xm), (6, .int 1), (5, .int xp), (4, .int xf), (0, .ref (ad 0)), (1, .ref (ad 60)), (2, .ref (ad 65)), (3, .ref (ad 66))]) hx hb dL_areGiven_299 hl (by decide) rfl (fun ls hl => ?_)
                      refine lv_aload_n hx hb dL_areGiven_301 rfl (lv_at hl 6 rfl) ?_
                      refine lv_iload hx hb dL_areGiven_302 (lv_at hl 1 rfl) ?_
                      refine wc_wiN (vx_runSW (As := [.ref (ad 0), .int x288']) (rest := []) ⟨hx, hb, hml, hown, hts⟩ (c_L_fires l hl9 D cA sh ad M296' _ σ v hX hXX x288' ) (vx_cwSW 2 hts gL_areGiven_L_fires rfl rfl rfl (by decide +kernel) ⟨Nat.le_of_ble_eq_true rfl, Nat.le_of_ble_eq_true rfl⟩) (lpreS hK hA hW hE hZ hE2) rfl rfl hl.1 rfl (lv_room (Nat.le_of_ble_eq_true rfl)) dL_areGiven_304 ⟨(by show 3 * k + 640 + 6 * w + 1 + 1 + 1 ≤ 1010; omega), (by show 18 * k + 3840 + 36 * w + 6 + 6 + 6 ≤ 6060; omega)⟩) hA hW (fun x304' M304' H locs p304' hW => ?_)
                      try dsimp only at p304'
                      obtain ⟨kp304, hXX, r304⟩ := p304'
                      have hL := hL.kp kp304
                      rw [ifB_t hcu1, n1a] at r304
                      refine lv_aload_n hx hb dL_areGiven_307 rfl (lv_at hl 6 rfl) ?_
                      refine lv_iload hx hb dL_areGiven_308 (lv_at hl 0 rfl) ?_
                      refine wc_wiN (vx_runSW (As := [.ref (ad 0), .int x296']) (rest := [.int x304']) ⟨hx, hb, hml, hown, hts⟩ (c_L_fires l hl9 D cA sh ad M304' _ σ v hX hXX x296' ) (vx_cwSW 2 hts gL_areGiven_L_fires rfl rfl rfl (by decide +kernel) ⟨Nat.le_of_ble_eq_true rfl, Nat.le_of_ble_eq_true rfl⟩) (lpreS hK hA hW hE hZ hE2) rfl rfl hl.1 rfl (lv_room (Nat.le_of_ble_eq_true rfl)) dL_areGiven_310 ⟨(by show 3 * k + 640 + 6 * w + 1 + 1 + 1 + 1 ≤ 1010; omega), (by show 18 * k + 3840 + 36 * w + 6 + 6 + 6 + 6 ≤ 6060; omega)⟩) hA hW (fun x310' M310' H locs p310' hW => ?_)
                      try dsimp only at p310'
                      obtain ⟨kp310, hXX, r310⟩ := p310'
                      have hL := hL.kp kp310
                      rw [ifB_t hcu2, n1b] at r310
                      refine lv_icmp_lt (tgt := 338) hx hb dL_areGiven_313 (by decide) (fun c313' => ?_) (fun c313' => ?_)
                      · refine lv_iconst (v := 1) hx hb dL_areGiven_338 (by decide) ?_
                        refine lv_goto (tgt := 343) hx hb dL_areGiven_339 (by decide) ?_
                        refine lv_istore (lv' := [(6, .int 1), (9, .int x296'), (8, .int x288'), (7, .int xm), (5, .int xp), (4, .int xf), (0, .ref (ad 0)), (1, .ref (ad 60)), (2, .ref (ad 65)), (3, .ref (ad 66))]) hx hb dL_areGiven_343 hl (by decide) rfl (fun ls hl => ?_)
                        obtain ⟨x345', e345'⟩ : ∃ y : Int32, y = xm + 1 := ⟨_, rfl⟩
                        refine lv_iinc (v := x345') (lv' := [(7, .int x345'), (6, .int 1), (9, .int x296'), (8, .int x288'), (5, .int xp), (4, .int xf), (0, .ref (ad 0)), (1, .ref (ad 60)), (2, .ref (ad 65)), (3, .ref (ad 66))]) hx hb dL_areGiven_345 hl (k := 3) rfl (by rw [e345']; rfl) (by decide) rfl (fun ls hl => ?_)
                        refine lv_goto (tgt := 271) hx hb dL_areGiven_348 (by decide) ?_
                        refine W.widen (k := 3 * k + 640 + 6 * (w + 1)) (n := 18 * k + 3840 + 36 * (w + 1)) (by omega) (by omega) ?_
                        exact ih271 (w + 1) x345' M310' _ _ (by omega) (by omega) (by rw [e345', ew, nlit 1, nI_add]) hXX hL hW ls (lv_sub hl [0, 1, 4, 5, 6, 7, 8, 9] rfl)
                      · refine lv_aload_n hx hb dL_areGiven_316 rfl (lv_at hl 6 rfl) ?_
                        refine lv_iload hx hb dL_areGiven_317 (lv_at hl 1 rfl) ?_
                        refine wc_wiN (vx_runSW (As := [.ref (ad 0), .int x288']) (rest := []) ⟨hx, hb, hml, hown, hts⟩ (c_L_fires l hl9 D cA sh ad M310' _ σ v hX hXX x288' ) (vx_cwSW 2 hts gL_areGiven_L_fires rfl rfl rfl (by decide +kernel) ⟨Nat.le_of_ble_eq_true rfl, Nat.le_of_ble_eq_true rfl⟩) (lpreS hK hA hW hE hZ hE2) rfl rfl hl.1 rfl (lv_room (Nat.le_of_ble_eq_true rfl)) dL_areGiven_319 ⟨(by show 3 * k + 640 + 6 * w + 1 + 1 + 1 + 1 + 1 ≤ 1010; omega), (by show 18 * k + 3840 + 36 * w + 6 + 6 + 6 + 6 + 6 ≤ 6060; omega)⟩) hA hW (fun x319' M319' H locs p319' hW => ?_)
                        try dsimp only at p319'
                        obtain ⟨kp319, hXX, r319⟩ := p319'
                        have hL := hL.kp kp319
                        rw [ifB_t hcu1, n1a] at r319
                        refine lv_aload_n hx hb dL_areGiven_322 rfl (lv_at hl 6 rfl) ?_
                        refine lv_iload hx hb dL_areGiven_323 (lv_at hl 0 rfl) ?_
                        refine wc_wiN (vx_runSW (As := [.ref (ad 0), .int x296']) (rest := [.int x319']) ⟨hx, hb, hml, hown, hts⟩ (c_L_fires l hl9 D cA sh ad M319' _ σ v hX hXX x296' ) (vx_cwSW 2 hts gL_areGiven_L_fires rfl rfl rfl (by decide +kernel) ⟨Nat.le_of_ble_eq_true rfl, Nat.le_of_ble_eq_true rfl⟩) (lpreS hK hA hW hE hZ hE2) rfl rfl hl.1 rfl (lv_room (Nat.le_of_ble_eq_true rfl)) dL_areGiven_325 ⟨(by show 3 * k + 640 + 6 * w + 1 + 1 + 1 + 1 + 1 + 1 ≤ 1010; omega), (by show 18 * k + 3840 + 36 * w + 6 + 6 + 6 + 6 + 6 + 6 ≤ 6060; omega)⟩) hA hW (fun x325' M325' H locs p325' hW => ?_)
                        try dsimp only at p325'
                        obtain ⟨kp325, hXX, r325⟩ := p325'
                        have hL := hL.kp kp325
                        rw [ifB_t hcu2, n1b] at r325
                        refine lv_icmp_ne (tgt := 342) hx hb dL_areGiven_328 (by decide) (fun c328' => ?_) (fun c328' => ?_)
                        · exact ((show False from by rcases hbf with z9 | ⟨z9, -⟩ <;> first | exact c313' (by rw [r304, r310]; exact z9) | exact c328' (by rw [r319, r325]; exact z9))).elim
                        · refine lv_iload hx hb dL_areGiven_331 (lv_at hl 1 rfl) ?_
                          refine lv_iload hx hb dL_areGiven_333 (lv_at hl 0 rfl) ?_
                          refine lv_icmp_ge (tgt := 342) hx hb dL_areGiven_335 (by decide) (fun c335' => ?_) (fun c335' => ?_)
                          · have k335' : (firA σ q c (w + 1)) ≤ (firA σ q c w) := kc_ge n288' n296' (by omega) (by omega) c335'
                            exact ((show False from by rcases hbf with z9 | ⟨-, z9⟩ <;> first | exact c313' (by rw [r304, r310]; exact z9) | omega)).elim
                          · have k335' : ¬ (firA σ q c (w + 1)) ≤ (firA σ q c w) := kc_gen n288' n296' (by omega) (by omega) c335'
                            refine lv_iconst (v := 1) hx hb dL_areGiven_338 (by decide) ?_
                            refine lv_goto (tgt := 343) hx hb dL_areGiven_339 (by decide) ?_
                            refine lv_istore (lv' := [(6, .int 1), (9, .int x296'), (8, .int x288'), (7, .int xm), (5, .int xp), (4, .int xf), (0, .ref (ad 0)), (1, .ref (ad 60)), (2, .ref (ad 65)), (3, .ref (ad 66))]) hx hb dL_areGiven_343 hl (by decide) rfl (fun ls hl => ?_)
                            obtain ⟨x345', e345'⟩ : ∃ y : Int32, y = xm + 1 := ⟨_, rfl⟩
                            refine lv_iinc (v := x345') (lv' := [(7, .int x345'), (6, .int 1), (9, .int x296'), (8, .int x288'), (5, .int xp), (4, .int xf), (0, .ref (ad 0)), (1, .ref (ad 60)), (2, .ref (ad 65)), (3, .ref (ad 66))]) hx hb dL_areGiven_345 hl (k := 3) rfl (by rw [e345']; rfl) (by decide) rfl (fun ls hl => ?_)
                            refine lv_goto (tgt := 271) hx hb dL_areGiven_348 (by decide) ?_
                            refine W.widen (k := 3 * k + 640 + 6 * (w + 1)) (n := 18 * k + 3840 + 36 * (w + 1)) (by omega) (by omega) ?_
                            exact ih271 (w + 1) x345' M325' _ _ (by omega) (by omega) (by rw [e345', ew, nlit 1, nI_add]) hXX hL hW ls (lv_sub hl [0, 1, 4, 5, 6, 7, 8, 9] rfl)
              exact L271 (_ + 1) 0 1 Mb _ _ (Nat.lt_succ_self _) (Nat.zero_le _) rfl hXX hL hW ls (lv_sub hl [0, 1, 2, 3, 4, 5, 6, 7] rfl)
            · have k176' : ¬ 4 ≤ bx := kc_gen ebx (nlit 4) (by omega) (by omega) c176'
              refine lv_iload hx hb dL_areGiven_179 (lv_at hl 1 rfl) ?_
              refine lv_if_eq (tgt := 268) hx hb dL_areGiven_181 (by decide) (fun c181' => ?_) (fun c181' => ?_)
              · have k181' : 1 = 0 := kc_eq (nlit 1) (nlit 0) (by omega) (by omega) c181'
                exact ((show False from by omega)).elim
              · have k181' : ¬ 1 = 0 := kc_eqn (nlit 1) (nlit 0) (by omega) (by omega) c181'
                refine lv_sipush (v := (-1000)) hx hb dL_areGiven_184 (by decide) ?_
                refine lv_istore (lv' := [(8, .int (-1000)), (7, .int xb), (6, .int 1), (5, .int xp), (4, .int xf), (0, .ref (ad 0)), (1, .ref (ad 60)), (2, .ref (ad 65)), (3, .ref (ad 66))]) hx hb dL_areGiven_187 hl (by decide) rfl (fun ls hl => ?_)
                refine lv_iconst (v := 0) hx hb dL_areGiven_189 (by decide) ?_
                refine lv_istore (lv' := [(9, .int 0), (8, .int (-1000)), (7, .int xb), (6, .int 1), (5, .int xp), (4, .int xf), (0, .ref (ad 0)), (1, .ref (ad 60)), (2, .ref (ad 65)), (3, .ref (ad 66))]) hx hb dL_areGiven_190 hl (by decide) rfl (fun ls hl => ?_)
                have L192 : ∀ (fu : Nat) (n : Nat) (xn : Int32) (xl : Int32) (Mn : MS) (H : Heap) (locs : List Loc), lit σ q c - n < fu → (n ≤ lit σ q c) → (xn = nI n) → (LaR σ q c bx n xl) → (XX σ v Mn) → (LSt σ v Mn) → WS D cA sh ad A s.heap Mn H locs → ∀ ls, lv_has ls 11 [(9, .int xn), (8, .int xl), (7, .int xb), (6, .int 1), (5, .int xp), (4, .int xf), (0, .ref (ad 0)), (1, .ref (ad 60)), (2, .ref (ad 65)), (3, .ref (ad 66))] → W p l e (headSpec wsL_areGiven { frames := 10, cells := 1010, slots := 6060, locals := 176 }).room s m ([.ref (ad 0), .ref (ad 60), .ref (ad 65), .ref (ad 66)] : List Value).toArray below meth cd0 H locs (3 * k + 160 * bx + 4 * n) (18 * k + 960 * bx + 24 * n) (MQ below (wQi D cA sh ad (fun r M' => r = 1 ∧ XX σ v M' ∧ LSt σ v M') A) ([.ref (ad 0), .ref (ad 60), .ref (ad 65), .ref (ad 66)] : List Value).toArray s 1010 6060 A) (F0 m 192 ls []) := by
                  intro fu
                  induction fu with
                  | zero =>
                    intro n xn xl Mn H locs hn hn9 en hla hXX hL hW ls hl
                    exact absurd hn (Nat.not_lt_zero _)
                  | succ fu ih192 =>
                    intro n xn xl Mn H locs hn hn9 en hla hXX hL hW ls hl
                    refine lv_iload hx hb dL_areGiven_192 (lv_at hl 0 rfl) ?_
                    refine lv_iload hx hb dL_areGiven_194 (lv_at hl 5 rfl) ?_
                    refine lv_icmp_ge (tgt := 262) hx hb dL_areGiven_196 (by decide) (fun c196' => ?_) (fun c196' => ?_)
                    · have k196' : (lit σ q c) ≤ n := kc_ge en hf (by omega) (by omega) c196'
                      obtain ⟨x262', e262'⟩ : ∃ y : Int32, y = xb + 1 := ⟨_, rfl⟩
                      refine lv_iinc (v := x262') (lv' := [(7, .int x262'), (9, .int xn), (8, .int xl), (6, .int 1), (5, .int xp), (4, .int xf), (0, .ref (ad 0)), (1, .ref (ad 60)), (2, .ref (ad 65)), (3, .ref (ad 66))]) hx hb dL_areGiven_262 hl (k := 2) rfl (by rw [e262']; rfl) (by decide) rfl (fun ls hl => ?_)
                      refine lv_goto (tgt := 173) hx hb dL_areGiven_265 (by decide) ?_
                      refine W.widen (k := 3 * k + 160 * (bx + 1)) (n := 18 * k + 960 * (bx + 1)) (by omega) (by omega) ?_
                      exact ih173 (bx + 1) x262' Mn _ _ (by omega) (by omega) (by rw [e262', ebx, nlit 1, nI_add]) hXX hL hW ls (lv_sub hl [0, 3, 4, 5, 6, 7, 8, 9] rfl)
                    · have k196' : ¬ (lit σ q c) ≤ n := kc_gen en hf (by omega) (by omega) c196'
                      obtain ⟨j9, d, hj9, ej9, hd9, ef9, he9, hd32, ech⟩ := fir_at hs (show n < lit σ q c by omega)
                      have hiN : firA σ q c n < aN σ := by rw [ef9]; exact he9.1
                      have hig : σ.2 10 (firA σ q c n) = 0 := by rw [ef9]; exact he9.2.1
                      refine lv_aload_n hx hb dL_areGiven_199 rfl (lv_at hl 6 rfl) ?_
                      refine lv_iload hx hb dL_areGiven_200 (lv_at hl 0 rfl) ?_
                      refine wc_wiN (vx_runSW (As := [.ref (ad 0), .int xn]) (rest := []) ⟨hx, hb, hml, hown, hts⟩ (c_L_firing l hl9 D cA sh ad Mn _ σ v hX hXX xn q c hs ) (vx_cwSW 2 hts gL_areGiven_L_firing rfl rfl rfl (by decide +kernel) ⟨Nat.le_of_ble_eq_true rfl, Nat.le_of_ble_eq_true rfl⟩) (lpreS hK hA hW hE hZ hE2) rfl rfl hl.1 rfl (lv_room (Nat.le_of_ble_eq_true rfl)) dL_areGiven_202 ⟨(by show 3 * k + 160 * bx + 4 * n + 1 ≤ 1010; omega), (by show 18 * k + 960 * bx + 24 * n + 6 ≤ 6060; omega)⟩) hA hW (fun x202' M202' H locs p202' hW => ?_)
                      try dsimp only at p202'
                      obtain ⟨kp202, hXX, r202⟩ := p202'
                      have hL := hL.kp kp202
                      rw [ifB_t (fi_t en (by omega) (by omega)), n1e en (by omega)] at r202
                      have hcu : cuB σ x202' = true := cu_y r202 hiN hig
                      have n1i : n1 x202' = firA σ q c n := n1e r202 (by omega)
                      refine lv_istore (lv' := [(10, .int x202'), (9, .int xn), (8, .int xl), (7, .int xb), (6, .int 1), (5, .int xp), (4, .int xf), (0, .ref (ad 0)), (1, .ref (ad 60)), (2, .ref (ad 65)), (3, .ref (ad 66))]) hx hb dL_areGiven_205 hl (by decide) rfl (fun ls hl => ?_)
                      refine lv_aload_n hx hb dL_areGiven_207 rfl (lv_at hl 7 rfl) ?_
                      refine lv_iload hx hb dL_areGiven_208 (lv_at hl 0 rfl) ?_
                      refine wc_wiN (vx_runSW (As := [.ref (ad 0), .int x202']) (rest := []) ⟨hx, hb, hml, hown, hts⟩ (c_L_channelOf l hl9 D cA sh ad M202' _ σ v hX hXX x202' q c hs ) (vx_cwSW 2 hts gL_areGiven_L_channelOf rfl rfl rfl (by decide +kernel) ⟨Nat.le_of_ble_eq_true rfl, Nat.le_of_ble_eq_true rfl⟩) (lpreS hK hA hW hE hZ hE2) rfl rfl hl.1 rfl (lv_room (Nat.le_of_ble_eq_true rfl)) dL_areGiven_210 ⟨(by show 3 * k + 160 * bx + 4 * n + 1 + 1 ≤ 1010; omega), (by show 18 * k + 960 * bx + 24 * n + 6 + 6 ≤ 6060; omega)⟩) hA hW (fun x210' M210' H locs p210' hW => ?_)
                      try dsimp only at p210'
                      obtain ⟨kp210, hXX, r210⟩ := p210'
                      have hL := hL.kp kp210
                      rw [ifB_t hcu, n1i] at r210
                      have r210 := r210.trans ech
                      have n210' : x210' = nI d := r210
                      refine lv_bipush (v := 8) hx hb dL_areGiven_213 (by decide) ?_
                      refine lv_idiv hx hb dL_areGiven_215 (by decide) ?_
                      refine lv_topi (fun x215' e215' => ?_)
                      have n215' : x215' = nI (d / 8) := (by rw [e215', n210', (nlit 8)]; exact pk_div (by omega) (by omega) (by omega))
                      refine lv_iload hx hb dL_areGiven_216 (lv_at hl 3 rfl) ?_
                      refine lv_icmp_ne (tgt := 256) hx hb dL_areGiven_218 (by decide) (fun c218' => ?_) (fun c218' => ?_)
                      · have k218' : ¬ (d / 8) = bx := kc_ne n215' ebx (by omega) (by omega) c218'
                        obtain ⟨x256', e256'⟩ : ∃ y : Int32, y = xn + 1 := ⟨_, rfl⟩
                        refine lv_iinc (v := x256') (lv' := [(9, .int x256'), (10, .int x202'), (8, .int xl), (7, .int xb), (6, .int 1), (5, .int xp), (4, .int xf), (0, .ref (ad 0)), (1, .ref (ad 60)), (2, .ref (ad 65)), (3, .ref (ad 66))]) hx hb dL_areGiven_256 hl (k := 1) rfl (by rw [e256']; rfl) (by decide) rfl (fun ls hl => ?_)
                        refine lv_goto (tgt := 192) hx hb dL_areGiven_259 (by decide) ?_
                        refine W.widen (k := 3 * k + 160 * bx + 4 * (n + 1)) (n := 18 * k + 960 * bx + 24 * (n + 1)) (by omega) (by omega) ?_
                        exact ih192 (n + 1) x256' xl M210' _ _ (by omega) (by omega) (by rw [e256', en, nlit 1, nI_add]) (by first | exact Or.inr ⟨n, by omega, ⟨d, hd32, ech, k218'⟩, r251⟩ | exact LaR.up hla) hXX hL hW ls (lv_sub hl [0, 2, 3, 4, 5, 6, 7, 8, 9, 10] rfl)
                      · have k218' : (d / 8) = bx := kc_nen n215' ebx (by omega) (by omega) c218'
                        refine lv_iload hx hb dL_areGiven_221 (lv_at hl 4 rfl) ?_
                        refine lv_if_eq (tgt := 245) hx hb dL_areGiven_223 (by decide) (fun c223' => ?_) (fun c223' => ?_)
                        · have k223' : 1 = 0 := kc_eq (nlit 1) (nlit 0) (by omega) (by omega) c223'
                          exact ((show False from by omega)).elim
                        · have k223' : ¬ 1 = 0 := kc_eqn (nlit 1) (nlit 0) (by omega) (by omega) c223'
                          refine lv_aload_n hx hb dL_areGiven_226 rfl (lv_at hl 7 rfl) ?_
                          refine lv_iload hx hb dL_areGiven_227 (lv_at hl 0 rfl) ?_
                          refine wc_wiN (vx_runSW (As := [.ref (ad 0), .int x202']) (rest := []) ⟨hx, hb, hml, hown, hts⟩ (c_L_fires l hl9 D cA sh ad M210' _ σ v hX hXX x202' ) (vx_cwSW 2 hts gL_areGiven_L_fires rfl rfl rfl (by decide +kernel) ⟨Nat.le_of_ble_eq_true rfl, Nat.le_of_ble_eq_true rfl⟩) (lpreS hK hA hW hE hZ hE2) rfl rfl hl.1 rfl (lv_room (Nat.le_of_ble_eq_true rfl)) dL_areGiven_229 ⟨(by show 3 * k + 160 * bx + 4 * n + 1 + 1 + 1 ≤ 1010; omega), (by show 18 * k + 960 * bx + 24 * n + 6 + 6 + 6 ≤ 6060; omega)⟩) hA hW (fun x229' M229' H locs p229' hW => ?_)
                          try dsimp only at p229'
                          obtain ⟨kp229, hXX, r229⟩ := p229'
                          have hL := hL.kp kp229
                          rw [ifB_t hcu, n1i] at r229
                          refine lv_iload hx hb dL_areGiven_232 (lv_at hl 2 rfl) ?_
                          refine lv_isub hx hb dL_areGiven_234 ?_
                          refine lv_topi (fun x234' e234' => ?_)
                          refine lv_aload_n hx hb dL_areGiven_235 rfl (lv_at hl 10 rfl) ?_
                          refine lv_iconst (v := 3) hx hb dL_areGiven_236 (by decide) ?_
                          refine walI (j := 3) hx hb hK hW (hMs 66 (by decide) (by decide)) (nlit 3) (by omega) (by decide) dL_areGiven_237 (fun x237' e237' => ?_)
                          have n237' : x237' = nI (σ.2 5 0) := (e237'.trans hL.2.2.2.2.2.2.2.2.2)
                          refine lv_icmp_lt (tgt := 245) hx hb dL_areGiven_238 (by decide) (fun c238' => ?_) (fun c238' => ?_)
                          · exact ((show False from by rw [n237'] at c238'; exact gp_no ok hs (by omega) hd32 ech k218' hla (by rw [e234', r229]) c238')).elim
                          · refine lv_iconst (v := 1) hx hb dL_areGiven_241 (by decide) ?_
                            refine lv_goto (tgt := 246) hx hb dL_areGiven_242 (by decide) ?_
                            refine lv_istore (lv' := [(6, .int 1), (10, .int x202'), (9, .int xn), (8, .int xl), (7, .int xb), (5, .int xp), (4, .int xf), (0, .ref (ad 0)), (1, .ref (ad 60)), (2, .ref (ad 65)), (3, .ref (ad 66))]) hx hb dL_areGiven_246 hl (by decide) rfl (fun ls hl => ?_)
                            refine lv_aload_n hx hb dL_areGiven_248 rfl (lv_at hl 7 rfl) ?_
                            refine lv_iload hx hb dL_areGiven_249 (lv_at hl 1 rfl) ?_
                            refine wc_wiN (vx_runSW (As := [.ref (ad 0), .int x202']) (rest := []) ⟨hx, hb, hml, hown, hts⟩ (c_L_fires l hl9 D cA sh ad M229' _ σ v hX hXX x202' ) (vx_cwSW 2 hts gL_areGiven_L_fires rfl rfl rfl (by decide +kernel) ⟨Nat.le_of_ble_eq_true rfl, Nat.le_of_ble_eq_true rfl⟩) (lpreS hK hA hW hE hZ hE2) rfl rfl hl.1 rfl (lv_room (Nat.le_of_ble_eq_true rfl)) dL_areGiven_251 ⟨(by show 3 * k + 160 * bx + 4 * n + 1 + 1 + 1 + 1 ≤ 1010; omega), (by show 18 * k + 960 * bx + 24 * n + 6 + 6 + 6 + 6 ≤ 6060; omega)⟩) hA hW (fun x251' M251' H locs p251' hW => ?_)
                            try dsimp only at p251'
                            obtain ⟨kp251, hXX, r251⟩ := p251'
                            have hL := hL.kp kp251
                            rw [ifB_t hcu, n1i] at r251
                            refine lv_istore (lv' := [(8, .int x251'), (6, .int 1), (10, .int x202'), (9, .int xn), (7, .int xb), (5, .int xp), (4, .int xf), (0, .ref (ad 0)), (1, .ref (ad 60)), (2, .ref (ad 65)), (3, .ref (ad 66))]) hx hb dL_areGiven_254 hl (by decide) rfl (fun ls hl => ?_)
                            obtain ⟨x256', e256'⟩ : ∃ y : Int32, y = xn + 1 := ⟨_, rfl⟩
                            refine lv_iinc (v := x256') (lv' := [(9, .int x256'), (8, .int x251'), (6, .int 1), (10, .int x202'), (7, .int xb), (5, .int xp), (4, .int xf), (0, .ref (ad 0)), (1, .ref (ad 60)), (2, .ref (ad 65)), (3, .ref (ad 66))]) hx hb dL_areGiven_256 hl (k := 3) rfl (by rw [e256']; rfl) (by decide) rfl (fun ls hl => ?_)
                            refine lv_goto (tgt := 192) hx hb dL_areGiven_259 (by decide) ?_
                            refine W.widen (k := 3 * k + 160 * bx + 4 * (n + 1)) (n := 18 * k + 960 * bx + 24 * (n + 1)) (by omega) (by omega) ?_
                            exact ih192 (n + 1) x256' x251' M251' _ _ (by omega) (by omega) (by rw [e256', en, nlit 1, nI_add]) (by first | exact Or.inr ⟨n, by omega, ⟨d, hd32, ech, k218'⟩, r251⟩ | exact LaR.up hla) hXX hL hW ls (lv_sub hl [0, 1, 4, 2, 5, 6, 7, 8, 9, 10] rfl)
                exact L192 (_ + 1) 0 0 (-1000) Mb _ _ (Nat.lt_succ_self _) (Nat.zero_le _) rfl (Or.inl rfl) hXX hL hW ls (lv_sub hl [0, 1, 2, 3, 4, 5, 6, 7, 8, 9] rfl)
        exact L173 (_ + 1) 0 0 Mk _ _ (Nat.lt_succ_self _) (Nat.zero_le _) rfl hXX hL hW ls (lv_sub hl [0, 1, 2, 3, 4, 5, 6, 7] rfl)
      · have k17' : ¬ (aN σ) ≤ k := kc_gen ek n16' (by omega) (by omega) c17'
        have hcc := cc_lt ok (show k < aN σ by omega)
        refine lv_aload_n hx hb dL_areGiven_20 rfl (lv_at hl 5 rfl) ?_
        refine lv_iload hx hb dL_areGiven_21 (lv_at hl 0 rfl) ?_
        refine walI (j := k) hx hb hK hW (hMs 60 (by decide) (by decide)) ek (by omega) (by decide) dL_areGiven_23 (fun x23' e23' => ?_)
        have n23' : x23' = nI (ccN σ k) := (e23'.trans (hL.1 k (by omega)))
        refine lv_sipush (v := 4096) hx hb dL_areGiven_24 (by decide) ?_
        refine lv_icmp_ge (tgt := 164) hx hb dL_areGiven_27 (by decide) (fun c27' => ?_) (fun c27' => ?_)
        · have k27' : 4096 ≤ (ccN σ k) := kc_ge n23' (nlit 4096) (by omega) (by omega) c27'
          have hpf : pres σ k = false := pres_f (fun z9 => by have := hcc.2.1.mpr z9.2; omega)
          obtain ⟨x164', e164'⟩ : ∃ y : Int32, y = xk + 1 := ⟨_, rfl⟩
          refine lv_iinc (v := x164') (lv' := [(7, .int x164'), (6, .int 1), (5, .int xp), (4, .int xf), (0, .ref (ad 0)), (1, .ref (ad 60)), (2, .ref (ad 65)), (3, .ref (ad 66))]) hx hb dL_areGiven_164 hl (k := 0) rfl (by rw [e164']; rfl) (by decide) rfl (fun ls hl => ?_)
          refine lv_goto (tgt := 12) hx hb dL_areGiven_167 (by decide) ?_
          refine W.widen (k := 3 * (k + 1)) (n := 18 * (k + 1)) (by omega) (by omega) ?_
          exact ih12 (k + 1) x164' xp xf Mk _ _ (by omega) (by omega) (by rw [e164', ek, nlit 1, nI_add]) (by first | exact ct_f ef (fb_no hpf) | (rw [e66', hy1]; exact ct_b ef)) (by first | exact ct_f ep (sp_no hpf) | (rw [e161', hy3]; exact ct_b ep)) hXX hL hW ls (lv_sub hl [0, 1, 2, 3, 4, 5, 6, 7] rfl)
        · have k27' : ¬ 4096 ≤ (ccN σ k) := kc_gen n23' (nlit 4096) (by omega) (by omega) c27'
          have hk9 : k < aN σ := by omega
          have hg : σ.2 10 k = 0 := hcc.2.1.mp (by omega)
          have hcu : cuB σ xk = true := cu_y ek hk9 hg
          have n1k : n1 xk = k := n1e ek (by omega)
          have hpt : pres σ k = true := pres_t hk9 hg
          refine lv_aload_n hx hb dL_areGiven_30 rfl (lv_at hl 4 rfl) ?_
          refine lv_iload hx hb dL_areGiven_31 (lv_at hl 0 rfl) ?_
          refine wc_wiN (vx_runSW (As := [.ref (ad 0), .int xk]) (rest := []) ⟨hx, hb, hml, hown, hts⟩ (c_L_channelOf l hl9 D cA sh ad Mk _ σ v hX hXX xk q c hs ) (vx_cwSW 2 hts gL_areGiven_L_channelOf rfl rfl rfl (by decide +kernel) ⟨Nat.le_of_ble_eq_true rfl, Nat.le_of_ble_eq_true rfl⟩) (lpreS hK hA hW hE hZ hE2) rfl rfl hl.1 rfl (lv_room (Nat.le_of_ble_eq_true rfl)) dL_areGiven_33 ⟨(by show 3 * k + 1 ≤ 1010; omega), (by show 18 * k + 6 ≤ 6060; omega)⟩) hA hW (fun x33' M33' H locs p33' hW => ?_)
          try dsimp only at p33'
          obtain ⟨kp33, hXX, r33⟩ := p33'
          have hL := hL.kp kp33
          rw [ifB_t hcu, n1k] at r33
          have hsg := ch_sgn hs (show k < 40 by omega) hpt r33
          refine lv_istore (lv' := [(8, .int x33'), (7, .int xk), (6, .int 1), (5, .int xp), (4, .int xf), (0, .ref (ad 0)), (1, .ref (ad 60)), (2, .ref (ad 65)), (3, .ref (ad 66))]) hx hb dL_areGiven_36 hl (by decide) rfl (fun ls hl => ?_)
          refine lv_aload_n hx hb dL_areGiven_38 rfl (lv_at hl 5 rfl) ?_
          refine lv_iload hx hb dL_areGiven_39 (lv_at hl 1 rfl) ?_
          refine wc_wiN (vx_runSW (As := [.ref (ad 0), .int xk]) (rest := []) ⟨hx, hb, hml, hown, hts⟩ (c_L_becomes l hl9 D cA sh ad M33' _ σ v hX hXX xk q c hs ) (vx_cwSW 2 hts gL_areGiven_L_becomes rfl rfl rfl (by decide +kernel) ⟨Nat.le_of_ble_eq_true rfl, Nat.le_of_ble_eq_true rfl⟩) (lpreS hK hA hW hE hZ hE2) rfl rfl hl.1 rfl (lv_room (Nat.le_of_ble_eq_true rfl)) dL_areGiven_41 ⟨(by show 3 * k + 1 + 1 ≤ 1010; omega), (by show 18 * k + 6 + 6 ≤ 6060; omega)⟩) hA hW (fun x41' M41' H locs p41' hW => ?_)
          try dsimp only at p41'
          obtain ⟨kp41, hXX, r41⟩ := p41'
          have hL := hL.kp kp41
          rw [ifB_t hcu, n1k] at r41
          have J52 : ∀ (yf : Int32) (H : Heap) (locs : List Loc), (yf = bI (firB σ q c k)) → WS D cA sh ad A s.heap M41' H locs → ∀ ls, lv_has ls 11 [(8, .int x33'), (7, .int xk), (6, .int 1), (5, .int xp), (4, .int xf), (0, .ref (ad 0)), (1, .ref (ad 60)), (2, .ref (ad 65)), (3, .ref (ad 66))] → W p l e (headSpec wsL_areGiven { frames := 10, cells := 1010, slots := 6060, locals := 176 }).room s m ([.ref (ad 0), .ref (ad 60), .ref (ad 65), .ref (ad 66)] : List Value).toArray below meth cd0 H locs (3 * k + 1 + 1) (18 * k + 6 + 6) (MQ below (wQi D cA sh ad (fun r M' => r = 1 ∧ XX σ v M' ∧ LSt σ v M') A) ([.ref (ad 0), .ref (ad 60), .ref (ad 65), .ref (ad 66)] : List Value).toArray s 1010 6060 A) (F0 m 52 ls [.int yf]) := by
            intro yf H locs hyf hW ls hl
            refine lv_istore (lv' := [(9, .int yf), (8, .int x33'), (7, .int xk), (6, .int 1), (5, .int xp), (4, .int xf), (0, .ref (ad 0)), (1, .ref (ad 60)), (2, .ref (ad 65)), (3, .ref (ad 66))]) hx hb dL_areGiven_52 hl (by decide) rfl (fun ls hl => ?_)
            refine lv_iload hx hb dL_areGiven_54 (lv_at hl 5 rfl) ?_
            have J66 : ∀ (y1 : Int32) (H : Heap) (locs : List Loc), (y1 = bI (firB σ q c k)) → WS D cA sh ad A s.heap M41' H locs → ∀ ls, lv_has ls 11 [(9, .int yf), (8, .int x33'), (7, .int xk), (6, .int 1), (5, .int xp), (4, .int xf), (0, .ref (ad 0)), (1, .ref (ad 60)), (2, .ref (ad 65)), (3, .ref (ad 66))] → W p l e (headSpec wsL_areGiven { frames := 10, cells := 1010, slots := 6060, locals := 176 }).room s m ([.ref (ad 0), .ref (ad 60), .ref (ad 65), .ref (ad 66)] : List Value).toArray below meth cd0 H locs (3 * k + 1 + 1) (18 * k + 6 + 6) (MQ below (wQi D cA sh ad (fun r M' => r = 1 ∧ XX σ v M' ∧ LSt σ v M') A) ([.ref (ad 0), .ref (ad 60), .ref (ad 65), .ref (ad 66)] : List Value).toArray s 1010 6060 A) (F0 m 66 ls [.int y1, .int xf]) := by
              intro y1 H locs hy1 hW ls hl
              refine lv_iadd hx hb dL_areGiven_66 ?_
              refine lv_topi (fun x66' e66' => ?_)
              refine lv_istore (lv' := [(4, .int x66'), (9, .int yf), (8, .int x33'), (7, .int xk), (6, .int 1), (5, .int xp), (0, .ref (ad 0)), (1, .ref (ad 60)), (2, .ref (ad 65)), (3, .ref (ad 66))]) hx hb dL_areGiven_67 hl (by decide) rfl (fun ls hl => ?_)
              refine lv_iload hx hb dL_areGiven_69 (lv_at hl 4 rfl) ?_
              refine lv_if_eq (tgt := 137) hx hb dL_areGiven_71 (by decide) (fun c71' => ?_) (fun c71' => ?_)
              · have k71' : 1 = 0 := kc_eq (nlit 1) (nlit 0) (by omega) (by omega) c71'
                exact ((show False from by omega)).elim
              · have k71' : ¬ 1 = 0 := kc_eqn (nlit 1) (nlit 0) (by omega) (by omega) c71'
                refine lv_iload hx hb dL_areGiven_74 (lv_at hl 1 rfl) ?_
                refine lv_iload hx hb dL_areGiven_76 (lv_at hl 2 rfl) ?_
                have J86 : ∀ (y2 : Int32) (H : Heap) (locs : List Loc), (y2 = bI (firB σ q c k)) → WS D cA sh ad A s.heap M41' H locs → ∀ ls, lv_has ls 11 [(4, .int x66'), (9, .int yf), (8, .int x33'), (7, .int xk), (6, .int 1), (5, .int xp), (0, .ref (ad 0)), (1, .ref (ad 60)), (2, .ref (ad 65)), (3, .ref (ad 66))] → W p l e (headSpec wsL_areGiven { frames := 10, cells := 1010, slots := 6060, locals := 176 }).room s m ([.ref (ad 0), .ref (ad 60), .ref (ad 65), .ref (ad 66)] : List Value).toArray below meth cd0 H locs (3 * k + 1 + 1) (18 * k + 6 + 6) (MQ below (wQi D cA sh ad (fun r M' => r = 1 ∧ XX σ v M' ∧ LSt σ v M') A) ([.ref (ad 0), .ref (ad 60), .ref (ad 65), .ref (ad 66)] : List Value).toArray s 1010 6060 A) (F0 m 86 ls [.int y2, .int yf]) := by
                  intro y2 H locs hy2 hW ls hl
                  refine lv_icmp_ne (tgt := 137) hx hb dL_areGiven_86 (by decide) (fun c86' => ?_) (fun c86' => ?_)
                  · exact ((c86' (by rw [hyf, hy2]))).elim
                  · refine lv_iload hx hb dL_areGiven_89 (lv_at hl 2 rfl) ?_
                    refine lv_iconst (v := (-1)) hx hb dL_areGiven_91 (by decide) ?_
                    refine lv_icmp_lt (tgt := 137) hx hb dL_areGiven_92 (by decide) (fun c92' => ?_) (fun c92' => ?_)
                    · exact ((hsg.2.1 c92')).elim
                    · refine lv_iload hx hb dL_areGiven_95 (lv_at hl 2 rfl) ?_
                      refine lv_bipush (v := 32) hx hb dL_areGiven_97 (by decide) ?_
                      refine lv_icmp_ge (tgt := 137) hx hb dL_areGiven_99 (by decide) (fun c99' => ?_) (fun c99' => ?_)
                      · exact ((hsg.2.2 c99')).elim
                      · have J138 : ∀ (Mj : MS) (H : Heap) (locs : List Loc), (XX σ v Mj) → (LSt σ v Mj) → WS D cA sh ad A s.heap Mj H locs → ∀ ls, lv_has ls 11 [(4, .int x66'), (9, .int yf), (8, .int x33'), (7, .int xk), (6, .int 1), (5, .int xp), (0, .ref (ad 0)), (1, .ref (ad 60)), (2, .ref (ad 65)), (3, .ref (ad 66))] → W p l e (headSpec wsL_areGiven { frames := 10, cells := 1010, slots := 6060, locals := 176 }).room s m ([.ref (ad 0), .ref (ad 60), .ref (ad 65), .ref (ad 66)] : List Value).toArray below meth cd0 H locs (3 * k + 3) (18 * k + 18) (MQ below (wQi D cA sh ad (fun r M' => r = 1 ∧ XX σ v M' ∧ LSt σ v M') A) ([.ref (ad 0), .ref (ad 60), .ref (ad 65), .ref (ad 66)] : List Value).toArray s 1010 6060 A) (F0 m 138 ls [.int 1]) := by
                          intro Mj H locs hXX hL hW ls hl
                          refine lv_istore (lv' := [(6, .int 1), (4, .int x66'), (9, .int yf), (8, .int x33'), (7, .int xk), (5, .int xp), (0, .ref (ad 0)), (1, .ref (ad 60)), (2, .ref (ad 65)), (3, .ref (ad 66))]) hx hb dL_areGiven_138 hl (by decide) rfl (fun ls hl => ?_)
                          refine lv_iload hx hb dL_areGiven_140 (lv_at hl 5 rfl) ?_
                          have J161 : ∀ (y3 : Int32) (H : Heap) (locs : List Loc), (y3 = bI (sprB σ q c k)) → WS D cA sh ad A s.heap Mj H locs → ∀ ls, lv_has ls 11 [(6, .int 1), (4, .int x66'), (9, .int yf), (8, .int x33'), (7, .int xk), (5, .int xp), (0, .ref (ad 0)), (1, .ref (ad 60)), (2, .ref (ad 65)), (3, .ref (ad 66))] → W p l e (headSpec wsL_areGiven { frames := 10, cells := 1010, slots := 6060, locals := 176 }).room s m ([.ref (ad 0), .ref (ad 60), .ref (ad 65), .ref (ad 66)] : List Value).toArray below meth cd0 H locs (3 * k + 3) (18 * k + 18) (MQ below (wQi D cA sh ad (fun r M' => r = 1 ∧ XX σ v M' ∧ LSt σ v M') A) ([.ref (ad 0), .ref (ad 60), .ref (ad 65), .ref (ad 66)] : List Value).toArray s 1010 6060 A) (F0 m 161 ls [.int y3, .int xp]) := by
                            intro y3 H locs hy3 hW ls hl
                            refine lv_iadd hx hb dL_areGiven_161 ?_
                            refine lv_topi (fun x161' e161' => ?_)
                            refine lv_istore (lv' := [(5, .int x161'), (6, .int 1), (4, .int x66'), (9, .int yf), (8, .int x33'), (7, .int xk), (0, .ref (ad 0)), (1, .ref (ad 60)), (2, .ref (ad 65)), (3, .ref (ad 66))]) hx hb dL_areGiven_162 hl (by decide) rfl (fun ls hl => ?_)
                            obtain ⟨x164', e164'⟩ : ∃ y : Int32, y = xk + 1 := ⟨_, rfl⟩
                            refine lv_iinc (v := x164') (lv' := [(7, .int x164'), (5, .int x161'), (6, .int 1), (4, .int x66'), (9, .int yf), (8, .int x33'), (0, .ref (ad 0)), (1, .ref (ad 60)), (2, .ref (ad 65)), (3, .ref (ad 66))]) hx hb dL_areGiven_164 hl (k := 5) rfl (by rw [e164']; rfl) (by decide) rfl (fun ls hl => ?_)
                            refine lv_goto (tgt := 12) hx hb dL_areGiven_167 (by decide) ?_
                            refine W.widen (k := 3 * (k + 1)) (n := 18 * (k + 1)) (by omega) (by omega) ?_
                            exact ih12 (k + 1) x164' x161' x66' Mj _ _ (by omega) (by omega) (by rw [e164', ek, nlit 1, nI_add]) (by first | exact ct_f ef (fb_no hpf) | (rw [e66', hy1]; exact ct_b ef)) (by first | exact ct_f ep (sp_no hpf) | (rw [e161', hy3]; exact ct_b ep)) hXX hL hW ls (lv_sub hl [0, 2, 1, 3, 6, 7, 8, 9] rfl)
                          refine lv_iload hx hb dL_areGiven_142 (lv_at hl 3 rfl) ?_
                          refine lv_if_lt (tgt := 160) hx hb dL_areGiven_144 (by decide) (fun c144' => ?_) (fun c144' => ?_)
                          · refine lv_iconst (v := 0) hx hb dL_areGiven_160 (by decide) ?_
                            exact J161 0 _ _ (by
                                first
                                | exact bI_ff (sp_neg r33 c144')
                                | exact bI_ff (by rw [sp_is hpt r33 hd ed]; exact decide_eq_false (by omega))
                                | exact bI_tt (by rw [sp_is hpt r33 hd ed]; exact decide_eq_true (by omega))) hW ls (lv_sub hl [0, 1, 2, 3, 4, 5, 6, 7, 8, 9] rfl)
                          · obtain ⟨d, hd, ed, hdd, hgv⟩ := ch_pos hs (show k < 40 by omega) r33 c144'
                            refine lv_iload hx hb dL_areGiven_147 (lv_at hl 3 rfl) ?_
                            refine lv_bipush (v := 8) hx hb dL_areGiven_149 (by decide) ?_
                            refine lv_irem hx hb dL_areGiven_151 (by decide) ?_
                            refine lv_topi (fun x151' e151' => ?_)
                            have n151' : x151' = nI (d % 8) := (by rw [e151', ed, (nlit 8)]; exact pk_rem (by omega) (by omega) (by omega))
                            refine lv_iconst (v := 5) hx hb dL_areGiven_152 (by decide) ?_
                            refine lv_icmp_le (tgt := 160) hx hb dL_areGiven_153 (by decide) (fun c153' => ?_) (fun c153' => ?_)
                            · have k153' : (d % 8) ≤ 5 := kc_le n151' (nlit 5) (by omega) (by omega) c153'
                              refine lv_iconst (v := 0) hx hb dL_areGiven_160 (by decide) ?_
                              exact J161 0 _ _ (by
                                  first
                                  | exact bI_ff (sp_neg r33 c144')
                                  | exact bI_ff (by rw [sp_is hpt r33 hd ed]; exact decide_eq_false (by omega))
                                  | exact bI_tt (by rw [sp_is hpt r33 hd ed]; exact decide_eq_true (by omega))) hW ls (lv_sub hl [0, 1, 2, 3, 4, 5, 6, 7, 8, 9] rfl)
                            · have k153' : ¬ (d % 8) ≤ 5 := kc_len n151' (nlit 5) (by omega) (by omega) c153'
                              refine lv_iconst (v := 1) hx hb dL_areGiven_156 (by decide) ?_
                              refine lv_goto (tgt := 161) hx hb dL_areGiven_157 (by decide) ?_
                              exact J161 1 _ _ (by
                                  first
                                  | exact bI_ff (sp_neg r33 c144')
                                  | exact bI_ff (by rw [sp_is hpt r33 hd ed]; exact decide_eq_false (by omega))
                                  | exact bI_tt (by rw [sp_is hpt r33 hd ed]; exact decide_eq_true (by omega))) hW ls (lv_sub hl [0, 1, 2, 3, 4, 5, 6, 7, 8, 9] rfl)
                        refine lv_iload hx hb dL_areGiven_102 (lv_at hl 2 rfl) ?_
                        refine lv_if_lt (tgt := 133) hx hb dL_areGiven_104 (by decide) (fun c104' => ?_) (fun c104' => ?_)
                        · refine lv_iconst (v := 1) hx hb dL_areGiven_133 (by decide) ?_
                          refine lv_goto (tgt := 138) hx hb dL_areGiven_134 (by decide) ?_
                          refine W.widen (k := (3 * k + 3)) (n := (18 * k + 18)) (by omega) (by omega) ?_
                          exact J138  M41' _ _ hXX hL hW ls (lv_sub hl [0, 1, 2, 3, 4, 5, 6, 7, 8, 9] rfl)
                        · obtain ⟨d, hd, ed, hdd, hgv⟩ := ch_pos hs (show k < 40 by omega) r33 c104'
                          refine lv_aload_n hx hb dL_areGiven_107 rfl (lv_at hl 8 rfl) ?_
                          refine lv_iload hx hb dL_areGiven_108 (lv_at hl 2 rfl) ?_
                          refine walI (j := d) hx hb hK hW (hMs 65 (by decide) (by decide)) ed (by omega) (by decide) dL_areGiven_110 (fun x110' e110' => ?_)
                          refine lv_if_ne (tgt := 137) hx hb dL_areGiven_111 (by decide) (fun c111' => ?_) (fun c111' => ?_)
                          · exact ((c111' (by rw [e110', hL.2.2.2.2.2.1 d hd, hdd]; rfl))).elim
                          · refine lv_aload_n hx hb dL_areGiven_114 rfl (lv_at hl 6 rfl) ?_
                            refine lv_iload hx hb dL_areGiven_115 (lv_at hl 2 rfl) ?_
                            refine lv_bipush (v := 8) hx hb dL_areGiven_117 (by decide) ?_
                            refine lv_idiv hx hb dL_areGiven_119 (by decide) ?_
                            refine lv_topi (fun x119' e119' => ?_)
                            have n119' : x119' = nI (d / 8) := (by rw [e119', ed, (nlit 8)]; exact pk_div (by omega) (by omega) (by omega))
                            refine lv_iload hx hb dL_areGiven_120 (lv_at hl 2 rfl) ?_
                            refine lv_bipush (v := 8) hx hb dL_areGiven_122 (by decide) ?_
                            refine lv_irem hx hb dL_areGiven_124 (by decide) ?_
                            refine lv_topi (fun x124' e124' => ?_)
                            have n124' : x124' = nI (d % 8) := (by rw [e124', ed, (nlit 8)]; exact pk_rem (by omega) (by omega) (by omega))
                            refine wc_wiN (vx_runSW (As := [.ref (ad 0), .int x119', .int x124']) (rest := []) ⟨hx, hb, hml, hown, hts⟩ (c_L_cueOn l hl9 D cA sh ad M41' _ σ v hX hXX x119' x124' q c hs ) (vx_cwSW 3 hts gL_areGiven_L_cueOn rfl rfl rfl (by decide +kernel) ⟨Nat.le_of_ble_eq_true rfl, Nat.le_of_ble_eq_true rfl⟩) (lpreS hK hA hW hE hZ hE2) rfl rfl hl.1 rfl (lv_room (Nat.le_of_ble_eq_true rfl)) dL_areGiven_125 ⟨(by show 3 * k + 1 + 1 + 1 ≤ 1010; omega), (by show 18 * k + 6 + 6 + 6 ≤ 6060; omega)⟩) hA hW (fun x125' M125' H locs p125' hW => ?_)
                            try dsimp only at p125'
                            obtain ⟨kp125, hXX, r125⟩ := p125'
                            have hL := hL.kp kp125
                            have hG9 : (inB x119' 0 3 && inB x124' 0 7) = true := by rw [show inB x119' 0 3 = true from in_t (n := 3) n119' (by omega) (by decide), show inB x124' 0 7 = true from in_t (n := 7) n124' (by omega) (by decide)]; rfl
                            rw [ifB_t hG9, n1e n119' (by omega), n1e n124' (by omega), show 8 * (d / 8) + d % 8 = d by omega, hgv] at r125
                            refine lv_iload hx hb dL_areGiven_128 (lv_at hl 3 rfl) ?_
                            refine lv_icmp_ne (tgt := 137) hx hb dL_areGiven_130 (by decide) (fun c130' => ?_) (fun c130' => ?_)
                            · exact ((c130' (r125.trans (show opI (some k) = xk from ek.symm)))).elim
                            · refine lv_iconst (v := 1) hx hb dL_areGiven_133 (by decide) ?_
                              refine lv_goto (tgt := 138) hx hb dL_areGiven_134 (by decide) ?_
                              refine W.widen (k := (3 * k + 3)) (n := (18 * k + 18)) (by omega) (by omega) ?_
                              exact J138  M125' _ _ hXX hL hW ls (lv_sub hl [0, 1, 2, 3, 4, 5, 6, 7, 8, 9] rfl)
                refine lv_if_lt (tgt := 85) hx hb dL_areGiven_78 (by decide) (fun c78' => ?_) (fun c78' => ?_)
                · refine lv_iconst (v := 0) hx hb dL_areGiven_85 (by decide) ?_
                  exact J86 0 _ _ (by
                      first
                      | exact bI_ff (hsg.1.mp c78')
                      | exact bI_tt (by
                          cases hz : firB σ q c k with
                          | true => rfl
                          | false => exact absurd (hsg.1.mpr hz) c78')) hW ls (lv_sub hl [0, 1, 2, 3, 4, 5, 6, 7, 8, 9] rfl)
                · refine lv_iconst (v := 1) hx hb dL_areGiven_81 (by decide) ?_
                  refine lv_goto (tgt := 86) hx hb dL_areGiven_82 (by decide) ?_
                  exact J86 1 _ _ (by
                      first
                      | exact bI_ff (hsg.1.mp c78')
                      | exact bI_tt (by
                          cases hz : firB σ q c k with
                          | true => rfl
                          | false => exact absurd (hsg.1.mpr hz) c78')) hW ls (lv_sub hl [0, 1, 2, 3, 4, 5, 6, 7, 8, 9] rfl)
            refine lv_iload hx hb dL_areGiven_56 (lv_at hl 0 rfl) ?_
            refine lv_if_eq (tgt := 65) hx hb dL_areGiven_58 (by decide) (fun c58' => ?_) (fun c58' => ?_)
            · refine lv_iconst (v := 0) hx hb dL_areGiven_65 (by decide) ?_
              exact J66 0 _ _ (by
                  first
                  | exact bI_ff (bI_z.mp (hyf.symm.trans c58'))
                  | exact bI_tt (bI_t.mp (fun z9 => c58' (hyf.trans z9)))) hW ls (lv_sub hl [0, 1, 2, 3, 4, 5, 6, 7, 8, 9] rfl)
            · refine lv_iconst (v := 1) hx hb dL_areGiven_61 (by decide) ?_
              refine lv_goto (tgt := 66) hx hb dL_areGiven_62 (by decide) ?_
              exact J66 1 _ _ (by
                  first
                  | exact bI_ff (bI_z.mp (hyf.symm.trans c58'))
                  | exact bI_tt (bI_t.mp (fun z9 => c58' (hyf.trans z9)))) hW ls (lv_sub hl [0, 1, 2, 3, 4, 5, 6, 7, 8, 9] rfl)
          refine lv_if_ne (tgt := 51) hx hb dL_areGiven_44 (by decide) (fun c44' => ?_) (fun c44' => ?_)
          · refine lv_iconst (v := 0) hx hb dL_areGiven_51 (by decide) ?_
            exact J52 0 _ _ (by
                first
                | exact bI_tt ((fb_is hs (by omega) hpt).mp (r41.symm.trans c44'))
                | exact bI_ff (by
                    cases hz : firB σ q c k with
                    | false => rfl
                    | true => exact absurd (r41.trans ((fb_is hs (by omega) hpt).mpr hz)) c44')) hW ls (lv_sub hl [0, 1, 2, 3, 4, 5, 6, 7, 8] rfl)
          · refine lv_iconst (v := 1) hx hb dL_areGiven_47 (by decide) ?_
            refine lv_goto (tgt := 52) hx hb dL_areGiven_48 (by decide) ?_
            exact J52 1 _ _ (by
                first
                | exact bI_tt ((fb_is hs (by omega) hpt).mp (r41.symm.trans c44'))
                | exact bI_ff (by
                    cases hz : firB σ q c k with
                    | false => rfl
                    | true => exact absurd (r41.trans ((fb_is hs (by omega) hpt).mpr hz)) c44')) hW ls (lv_sub hl [0, 1, 2, 3, 4, 5, 6, 7, 8] rfl)
  exact L12 (_ + 1) 0 0 0 0 M _ _ (Nat.lt_succ_self _) (Nat.zero_le _) rfl rfl rfl hXX hL hW ls (lv_sub hl [0, 1, 2, 3, 4, 5, 6, 7] rfl)

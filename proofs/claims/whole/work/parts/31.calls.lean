/-! The law's own calls. -/
theorem Met.ofWH {l : Launch} {y : MethodName} {ws ws' : List Cond} {rm : Room} {Pc : Array Value → State → Prop} {Qc : Array Value → State → Outcome → State → Prop} {mc ms : Nat} {free : Addr → Prop} {cc : ByteArray} {maxL : Nat} {ret : Option FieldType} {hh : List (Nat × Nat × Nat × Nat)}
    (hy : plainName y.cls = true) (hw : ws = Cond.codeWith y cc maxL ret hh :: ws')
    (body : ∀ p e s m args below meth c s₁, BodyLoose p l y (headSpec ws rm) cc maxL ret e s m args below meth c s₁ → c.maxLocals = maxL → c.exceptionTable.toList = tableOf hh → Pc args s →
      W p l e (headSpec ws rm).room s m args below meth c s.heap [] 0 0 (MQ below Qc args s mc ms free) (entryFrame m args maxL)) : Met l y ws rm Pc Qc mc ms free := by
  refine MetFree.of_bodyS (code := cc) (maxLocals := maxL) (ret := ret) hy ?_ ?_
  · intro args s m h hn
    obtain ⟨m9, meth, c, hn9, h1, h2, h3, h4, -, h5, h6, -⟩ := Cond.codeWith_spec (atoms_spec (ws := ws) h _ (by rw [hw]; exact List.mem_cons_self))
    cases hn.symm.trans hn9
    exact ⟨meth, c, h1, h2, h3, h4, h5, h6⟩
  · intro p e s m args below meth c s₁ B hml hP _
    have hh0 : s₁.heap = s.heap := by rw [B.state]; rfl
    have hT := vx_table (x := y) B (atoms_spec (ws := ws) B.pre _ (by rw [hw]; exact List.mem_cons_self))
    obtain ⟨t, a1, o, b1, b2, b3⟩ := body p e s m args below meth c s₁ B hml hT hP s₁ hh0 (Stand.of_body B)
    exact ⟨t, o, a1, b1, b2, ⟨b3.1, b3.2⟩⟩
def lPc (D : va_G) (cA : Nat → ClassId) (sh : Nat → Option Sh) (ad : Nat → Nat) (M : MS) (sz : Nat) (av : List Value) : Array Value → State → Prop := va_Pc av (fun U => U.heap.size = sz ∧ WM D cA sh ad M U.heap ∧ va_K D vwCl (wty cA) U ∧ EXs U ∧ EXz (wA sh ad sz) U U.heap ∧ va_Nc nIS nIA U ∧ va_Nc nIA nIO U)
theorem lPc_blind {D : va_G} {cA : Nat → ClassId} {sh : Nat → Option Sh} {ad : Nat → Nat} {M : MS} {sz : Nat} {av : List Value} : FrameBlind (lPc D cA sh ad M sz av) := fun a U g mk q => by
  obtain ⟨q0, q1, qP, qK, qE, qZ, qN1, qN2⟩ := q
  exact ⟨q0, q1, qP, va_K.moved (u := U) (U := U.calling g mk a) (Vm.Alike.refl U.vm) qK, EXs.warm (U := U.calling g mk a) (State.WarmedH.refl U) qE, EXz.to (U := U.calling g mk a) (Vm.Alike.refl U.vm) qZ (fun _ _ _ => rfl) (fun _ h => h), va_Nc.moved (u := U) (U := U.calling g mk a) (Vm.Alike.refl U.vm) qN1, va_Nc.moved (u := U) (U := U.calling g mk a) (Vm.Alike.refl U.vm) qN2⟩
def lQc (D : va_G) (cA : Nat → ClassId) (sh : Nat → Option Sh) (ad : Nat → Nat) (sz : Nat) (post : Int32 → (Nat → Option Sh) → MS → Prop) (A : Nat → Prop) : Array Value → State → Outcome → State → Prop :=
  va_Qi (S := (Nat → Option Sh) × (Nat → Nat) × MS) (fun r u => GR sh ad sz u.1 u.2.1 ∧ post r u.1 u.2.2) (fun u t => WM D cA u.1 u.2.1 u.2.2 t.heap) A
section WL
variable {p : Program} {l : Launch} {e : Env} {R : Room} {s : State} {m : MethodId} {args : Array Value} {below : List Frame} {meth : Method} {c : Code} {H : Heap} {locs : List Loc} {cells slots : Nat} {Q : State → Prop}
variable {cc : ByteArray} {pc : Nat} {ls : Array Slot} {st0 rest : List Value} {D : va_G} {cA : Nat → ClassId} {sh : Nat → Option Sh} {ad : Nat → Nat} {A : Nat → Prop} {H0 : Heap} {M : MS} {a : Array Value} {As : List Value}
theorem lpreS (hK : va_K D vwCl (wty cA) s) (hA : PA sh ad A s.heap) (hW : WS D cA sh ad A s.heap M H locs) (hE : EXs s) (hZ : EXz A s s.heap) (hN : va_Nc nIS nIA s ∧ va_Nc nIA nIO s) : PreS s H (lPc D cA sh ad M H.size As) As :=
  ⟨lPc_blind, fun U hU hv => ⟨rfl, by rw [hU], by rw [hU]; exact hW.1, va_K.moved hv.alike hK, hE.warm hv, by rw [hU]; exact hZ.to hv.alike hW.2.2.1 (wA_in hA hW.2.1), va_Nc.moved hv.alike hN.1, va_Nc.moved hv.alike hN.2⟩⟩
/-- behind a call that makes, or throws -/
theorem wx_ci {post : Int32 → MS → Prop} {pxc : String → MS → Prop} {sh2 : Nat → Option Sh} {mc1 ms1 : Nat} (hr : vx_Run p l e R s m args below meth c H locs cells slots mc1 ms1 (F0 m pc ls st0) rest (cQi D cA sh ad H.size sh2 post (wA sh ad H.size) a) (xXC D cA sh ad pxc (wA sh ad H.size)) (wA sh ad H.size)) (hA : PA sh ad A s.heap) (hW : WS D cA sh ad A s.heap M H locs)
    (kx : ∀ (E : String) (ce : Cell) (q9 : Addr) (M' : MS) (H1 : Heap) (locs1 : List Loc), pxc E M' → WS D cA sh ad A s.heap M' H1 locs1 → H1[q9]? = some ce → ce.vm = .none → s.vm.findClass E = some ce.cls → vx_W p l e R s m args below meth c H1 locs1 (cells + mc1) (slots + ms1) Q (F0 m pc ls rest) q9)
    (kk : ∀ (r : Int32) (sh1 : Nat → Option Sh) (ad1 : Nat → Nat) (M' : MS) (H1 : Heap) (locs1 : List Loc), sh1 = sh2 → (∀ p y, sh p = some y → ad1 p = ad p) → (∀ p y, sh1 p = some y → sh p = none → s.heap.size ≤ ad1 p) → post r M' → PA sh1 ad1 A s.heap → WS D cA sh1 ad1 A s.heap M' H1 locs1 → W p l e R s m args below meth c H1 locs1 (cells + mc1) (slots + ms1) Q (F0 m (pc + 3) ls (.int r :: rest))) : W p l e R s m args below meth c H locs cells slots Q (F0 m pc ls st0) :=
  vx_calli hr hW.2 (fun q _ h => wA_in hA hW.2.1 q h) (fun q h => wA_in hA hW.2.1 q h) (fun q _ h => wA_in hA hW.2.1 q h)
    (fun E ce q9 u t H1 locs1 ht _ _ hB _ _ hS hce hcv hcl => kx E ce q9 u H1 locs1 hB.1 ⟨ht ▸ hB.2, hS⟩ hce hcv hcl)
    (fun r u t H1 locs1 ht _ hp hB _ _ hS => by
      have hf : ∀ p y, sh2 p = some y → sh p = none → s.heap.size ≤ u.1 p := fun p y h1 h2 => Nat.le_trans hW.2.1 (hp.2.1 p y h1 h2)
      refine kk r sh2 u.1 u.2 H1 locs1 rfl hp.1 hf hp.2.2 ⟨fun p x hx => ?_, hA.2⟩ ⟨ht ▸ hB, hS⟩
      cases h : sh p with
      | none => exact hA.2 _ (hf p x hx h)
      | some y => rw [hp.1 p y h]; exact hA.1 p y h)
theorem wr_lc {sh0 : Nat → Option Sh} {ad0 : Nat → Nat} {post : Int32 → (Nat → Option Sh) → MS → Prop} {x : Int32} (hexec : p.tables.exec = Jvm.exec) (hb : c.code = cc) (hr : meth.sig.returnType = some .int) (hlocks : meth.locks = false) (hW : WS D cA sh ad A s.heap M H locs) (hdg : decode cc pc = .ok (.ireturn, 1)) (hG : GR sh0 ad0 s.heap.size sh ad) (hp : post x sh M) :
    W p l e R s m args below meth c H locs cells slots (MQ below (lQc D cA sh0 ad0 s.heap.size post A) args s cells slots A) (F0 m pc ls [.int x]) :=
  W.iret (v := x) hexec hb hr (fun t ht _ => ⟨⟨x, (sh, ad, M), rfl, ⟨hG, hp⟩, (show WM D cA sh ad M t.heap by rw [ht]; exact hW.1)⟩, hW.2.F ht⟩) hW.2.2.2 hdg hlocks
end WL
theorem GR_of {sh0 sh : Nat → Option Sh} {ad0 ad : Nat → Nat} {sz : Nat} (hk : ∀ p y, sh0 p = some y → ad p = ad0 p) (hf : ∀ p y, sh p = some y → sh0 p = none → sz ≤ ad p) (hu : ∀ t, sh0 t ≠ none → sh t ≠ none) : GR sh0 ad0 sz sh ad := by
  refine ⟨fun t ht => ⟨hu t ht, ?_⟩, fun p hp h0 => ?_⟩
  · cases h : sh0 t with
    | none => exact absurd h ht
    | some y => exact hk t y h
  · cases h : sh p with
    | none => exact absurd h hp
    | some y => exact hf p y h h0
theorem shL_up {n t : Nat} (h : shL n t ≠ none) : shL (n + 1) t ≠ none := by
  rw [← shL_s n]
  by_cases e : t = 100 + n
  · rw [e, shU_eq]; exact fun z => by cases z
  · rw [shU_ne e]; exact h
set_option maxHeartbeats 4000000 in
set_option maxRecDepth 100000 in
theorem c_L_setRack (l : Launch) (hl9 : l.stackTraces = false) (D : va_G) (cA : Nat → ClassId) (sh : Nat → Option Sh) (ad : Nat → Nat) (M : MS) (sz : Nat) (σ : AS) (v : VT) (hX : XSh (aN σ) sh) (hXX : XX σ v M) (hO : sh 90 = some (.inr (2, 1))) (a : Int32) (b : Int32) (d : Int32) : Met l yL_setRack wsL_setRack ({ frames := 7, cells := 1, slots := 6, locals := 114 }) (lPc D cA sh ad M sz [.ref (ad 0), .int a, .int b, .int d, .ref (ad 90)]) (wQi D cA sh ad (fun r M' => (∀ p k, 60 ≤ p → p ≤ 84 → gI M' p k = gI M p k) ∧ ((r = 0 ∧ XX (oRack σ (n1 a) (n1 b) (n1 d)) v M' ∧ (inB a 0 5 && zoB b d) = true ∧ ∃ x, (x = nI (8 * σ.2 1 (n1 a) + σ.2 0 (n1 a))) ∧ gL M' 90 0 = x.toInt64) ∨ (r = 1 ∧ (inB a 0 5 && zoB b d) = false ∧ XX σ v M'))) (wA sh ad sz)) 1 6 (wA sh ad sz) := by
  refine Met.ofWH (cc := cL_setRack) (maxL := 6) (ret := (some .int)) (hh := [(0, 12, 15, 13)]) (by decide) rfl ?_
  intro p e s m args below meth cd0 s₁ B hml hTB hv
  obtain ⟨rfl, hsz, hM, hK, hE, hZ, hE2⟩ := hv
  have hx := B.exec
  have hb := B.bytes
  have hr := B.returns
  have hts := atoms_spec (ws := wsL_setRack) B.pre
  have hown : s.vm.findClass RL = some m.cls := findClass_of_methodNamed B.named
  have hlocks := B.notSynchronized
  subst hsz
  have hA := wA_PA sh ad s.heap
  generalize wA sh ad s.heap.size = A at hA hZ ⊢
  have hW : WS D cA sh ad A s.heap M s.heap [] := ⟨hM, va_S.rf⟩
  have hl := lv_entry ([.ref (ad 0), .int a, .int b, .int d, .ref (ad 90)]) (n := 6) (Nat.le_of_ble_eq_true rfl)
  rw [lg_entry_eq]
  generalize (lg_sl ([.ref (ad 0), .int a, .int b, .int d, .ref (ad 90)]) ++ List.replicate (6 - (lg_sl ([.ref (ad 0), .int a, .int b, .int d, .ref (ad 90)])).length) Slot.unset).toArray = ls at hl ⊢
  have hl : lv_has ls 6 [(0, .ref (ad 0)), (1, .int a), (2, .int b), (3, .int d), (4, .ref (ad 90))] := hl
  refine lv_aload hx hb dL_setRack_0 (lv_at hl 4 rfl) ?_
  refine lv_iconst (v := 0) hx hb dL_setRack_2 (by decide) ?_
  refine lv_aload_n hx hb dL_setRack_3 rfl (lv_at hl 0 rfl) ?_
  refine lv_iload_n hx hb dL_setRack_4 rfl (lv_at hl 1 rfl) ?_
  refine lv_iload_n hx hb dL_setRack_5 rfl (lv_at hl 2 rfl) ?_
  refine lv_iload_n hx hb dL_setRack_6 rfl (lv_at hl 3 rfl) ?_
  refine wx_wi (vx_runV (As := [.int a, .int b, .int d]) (rest := [.int 0, .ref (ad 90)]) ⟨hx, hb, hml, hown, hts⟩ (c_X9_setRack l hl9 D cA sh ad M _ σ v hX hXX a b d) (cwV 3 hts gL_setRack_X9_setRack rfl rfl rfl (by decide +kernel) ⟨Nat.le_of_ble_eq_true rfl, Nat.le_of_ble_eq_true rfl⟩) (xpreV hK hA hW hE hZ (C := RX9) (ci := 9) (hX.1 0 (by decide)) rfl) rfl rfl hl.1 rfl (lv_room (Nat.le_of_ble_eq_true rfl)) dL_setRack_7 ⟨Nat.le_of_ble_eq_true rfl, Nat.le_of_ble_eq_true rfl⟩) hA hW (fun E ce q9 M9' H locs p9' hW hce hcv hcl => ?_) (fun x7' M7' H locs p7' hW => ?_)
  · obtain ⟨eE, hG9, o9, hX9⟩ := p9'
    subst eE
    refine vx_catch (own := RL) (name := nIA) hown [] _ [] (show _ = [] ++ _ :: [] from hTB) (fun z hz => nomatch hz) (by decide) (by decide) (hts (.classLink RL 13 "java/lang/IllegalArgumentException") (List.mem_of_getElem? (i := 1) rfl)) (va_Nw.use rfl (hE.1 _ List.mem_cons_self)) hce hcv hcl ?_
    refine W.eq (g2 := F0 m 15 ls [.ref q9]) rfl ?_
    refine lv_astore (lv' := [(5, .ref q9), (0, .ref (ad 0)), (1, .int a), (2, .int b), (3, .int d), (4, .ref (ad 90))]) hx hb dL_setRack_15 hl (by decide) rfl (fun ls hl => ?_)
    refine lv_iconst (v := 1) hx hb dL_setRack_17 (by decide) ?_
    refine W.widen (k := 1) (n := 6) (by decide) (by decide) ?_
    exact wr_wi hx hb hr hlocks hW dL_setRack_18 ⟨(fun p k h1 h2 => (o9 p k (fun z => by unfold XSx at z; omega)).1), Or.inr ⟨rfl, hG9, hX9⟩⟩
  · try dsimp only at p7'
    obtain ⟨o7, hX7, hG7, hR7⟩ := p7'
    refine lv_i2l hx hb dL_setRack_10 rfl ?_
    refine lv_topl (fun x10' e10' => ?_)
    refine wasL (j := 0) hx hb hK hA hW hO (nlit 0) (by omega) (by decide) dL_setRack_11 (fun M11' H locs eM11 hW => ?_)
    refine lv_goto (tgt := 19) hx hb dL_setRack_12 (by decide) ?_
    refine lv_iconst (v := 0) hx hb dL_setRack_19 (by decide) ?_
    refine W.widen (k := 1) (n := 6) (by decide) (by decide) ?_
    exact wr_wi hx hb hr hlocks hW dL_setRack_20 ⟨fun p k h1 h2 => by rw [eM11, gI_sL]; exact (o7 p k (fun z => by unfold XSx at z; omega)).1, Or.inl ⟨rfl, hX7.fr (S := fun p _ => p = 90) (by rw [eM11]; exact oA.putL oA.rf rfl) (fun p k z => by omega), hG7, x7', hR7, by rw [eM11, gL_sL, if_pos ⟨rfl, rfl⟩, e10']⟩⟩
set_option maxHeartbeats 4000000 in
set_option maxRecDepth 100000 in
theorem c_L_setShell (l : Launch) (hl9 : l.stackTraces = false) (D : va_G) (cA : Nat → ClassId) (sh : Nat → Option Sh) (ad : Nat → Nat) (M : MS) (sz : Nat) (σ : AS) (v : VT) (hX : XSh (aN σ) sh) (hXX : XX σ v M) (hO : sh 90 = some (.inr (2, 1))) (a : Int32) (b : Int32) (d : Int32) (f : Int32) : Met l yL_setShell wsL_setShell ({ frames := 7, cells := 1, slots := 6, locals := 114 }) (lPc D cA sh ad M sz [.ref (ad 0), .int a, .int b, .int d, .int f, .ref (ad 90)]) (wQi D cA sh ad (fun r M' => (∀ p k, 60 ≤ p → p ≤ 84 → gI M' p k = gI M p k) ∧ ((r = 0 ∧ XX (oShell σ (n1 a) b d (n1 f)) v M' ∧ (inB a 0 3 && inB b 1 200 && inB d 1 100 && inB f 0 3) = true ∧ ∃ x, (x = nI (liftN b d (flN b d))) ∧ gL M' 90 0 = x.toInt64) ∨ (r = 1 ∧ (inB a 0 3 && inB b 1 200 && inB d 1 100 && inB f 0 3) = false ∧ XX σ v M'))) (wA sh ad sz)) 1 6 (wA sh ad sz) := by
  refine Met.ofWH (cc := cL_setShell) (maxL := 7) (ret := (some .int)) (hh := [(0, 14, 17, 13)]) (by decide) rfl ?_
  intro p e s m args below meth cd0 s₁ B hml hTB hv
  obtain ⟨rfl, hsz, hM, hK, hE, hZ, hE2⟩ := hv
  have hx := B.exec
  have hb := B.bytes
  have hr := B.returns
  have hts := atoms_spec (ws := wsL_setShell) B.pre
  have hown : s.vm.findClass RL = some m.cls := findClass_of_methodNamed B.named
  have hlocks := B.notSynchronized
  subst hsz
  have hA := wA_PA sh ad s.heap
  generalize wA sh ad s.heap.size = A at hA hZ ⊢
  have hW : WS D cA sh ad A s.heap M s.heap [] := ⟨hM, va_S.rf⟩
  have hl := lv_entry ([.ref (ad 0), .int a, .int b, .int d, .int f, .ref (ad 90)]) (n := 7) (Nat.le_of_ble_eq_true rfl)
  rw [lg_entry_eq]
  generalize (lg_sl ([.ref (ad 0), .int a, .int b, .int d, .int f, .ref (ad 90)]) ++ List.replicate (7 - (lg_sl ([.ref (ad 0), .int a, .int b, .int d, .int f, .ref (ad 90)])).length) Slot.unset).toArray = ls at hl ⊢
  have hl : lv_has ls 7 [(0, .ref (ad 0)), (1, .int a), (2, .int b), (3, .int d), (4, .int f), (5, .ref (ad 90))] := hl
  refine lv_aload hx hb dL_setShell_0 (lv_at hl 5 rfl) ?_
  refine lv_iconst (v := 0) hx hb dL_setShell_2 (by decide) ?_
  refine lv_aload_n hx hb dL_setShell_3 rfl (lv_at hl 0 rfl) ?_
  refine lv_iload_n hx hb dL_setShell_4 rfl (lv_at hl 1 rfl) ?_
  refine lv_iload_n hx hb dL_setShell_5 rfl (lv_at hl 2 rfl) ?_
  refine lv_iload_n hx hb dL_setShell_6 rfl (lv_at hl 3 rfl) ?_
  refine lv_iload hx hb dL_setShell_7 (lv_at hl 4 rfl) ?_
  refine wx_wi (vx_runV (As := [.int a, .int b, .int d, .int f]) (rest := [.int 0, .ref (ad 90)]) ⟨hx, hb, hml, hown, hts⟩ (c_X9_setShell l hl9 D cA sh ad M _ σ v hX hXX a b d f) (cwV 4 hts gL_setShell_X9_setShell rfl rfl rfl (by decide +kernel) ⟨Nat.le_of_ble_eq_true rfl, Nat.le_of_ble_eq_true rfl⟩) (xpreV hK hA hW hE hZ (C := RX9) (ci := 9) (hX.1 0 (by decide)) rfl) rfl rfl hl.1 rfl (lv_room (Nat.le_of_ble_eq_true rfl)) dL_setShell_9 ⟨Nat.le_of_ble_eq_true rfl, Nat.le_of_ble_eq_true rfl⟩) hA hW (fun E ce q9 M9' H locs p9' hW hce hcv hcl => ?_) (fun x9' M9' H locs p9' hW => ?_)
  · obtain ⟨eE, hG9, o9, hX9⟩ := p9'
    subst eE
    refine vx_catch (own := RL) (name := nIA) hown [] _ [] (show _ = [] ++ _ :: [] from hTB) (fun z hz => nomatch hz) (by decide) (by decide) (hts (.classLink RL 13 "java/lang/IllegalArgumentException") (List.mem_of_getElem? (i := 1) rfl)) (va_Nw.use rfl (hE.1 _ List.mem_cons_self)) hce hcv hcl ?_
    refine W.eq (g2 := F0 m 17 ls [.ref q9]) rfl ?_
    refine lv_astore (lv' := [(6, .ref q9), (0, .ref (ad 0)), (1, .int a), (2, .int b), (3, .int d), (4, .int f), (5, .ref (ad 90))]) hx hb dL_setShell_17 hl (by decide) rfl (fun ls hl => ?_)
    refine lv_iconst (v := 1) hx hb dL_setShell_19 (by decide) ?_
    refine W.widen (k := 1) (n := 6) (by decide) (by decide) ?_
    exact wr_wi hx hb hr hlocks hW dL_setShell_20 ⟨(fun p k h1 h2 => (o9 p k (fun z => by unfold XSx at z; omega)).1), Or.inr ⟨rfl, hG9, hX9⟩⟩
  · try dsimp only at p9'
    obtain ⟨o7, hX7, hG7, hR7⟩ := p9'
    refine lv_i2l hx hb dL_setShell_12 rfl ?_
    refine lv_topl (fun x12' e12' => ?_)
    refine wasL (j := 0) hx hb hK hA hW hO (nlit 0) (by omega) (by decide) dL_setShell_13 (fun M13' H locs eM13 hW => ?_)
    refine lv_goto (tgt := 21) hx hb dL_setShell_14 (by decide) ?_
    refine lv_iconst (v := 0) hx hb dL_setShell_21 (by decide) ?_
    refine W.widen (k := 1) (n := 6) (by decide) (by decide) ?_
    exact wr_wi hx hb hr hlocks hW dL_setShell_22 ⟨fun p k h1 h2 => by rw [eM13, gI_sL]; exact (o7 p k (fun z => by unfold XSx at z; omega)).1, Or.inl ⟨rfl, hX7.fr (S := fun p _ => p = 90) (by rw [eM13]; exact oA.putL oA.rf rfl) (fun p k z => by omega), hG7, x9', hR7, by rw [eM13, gL_sL, if_pos ⟨rfl, rfl⟩, e12']⟩⟩
set_option maxHeartbeats 4000000 in
set_option maxRecDepth 100000 in
theorem c_L_setWind (l : Launch) (hl9 : l.stackTraces = false) (D : va_G) (cA : Nat → ClassId) (sh : Nat → Option Sh) (ad : Nat → Nat) (M : MS) (sz : Nat) (σ : AS) (v : VT) (hX : XSh (aN σ) sh) (hXX : XX σ v M) (hO : sh 90 = some (.inr (2, 1))) (a : Int32) (b : Int32) (d : Int32) : Met l yL_setWind wsL_setWind ({ frames := 7, cells := 1, slots := 6, locals := 146 }) (lPc D cA sh ad M sz [.ref (ad 0), .int a, .int b, .int d, .ref (ad 90)]) (wQi D cA sh ad (fun r M' => (∀ p k, 60 ≤ p → p ≤ 84 → gI M' p k = gI M p k) ∧ ((r = 0 ∧ XX (oWind σ (n1 a) b d) v M' ∧ (inB a 0 3 && inB b (-100) 100 && inB d (-100) 100) = true ∧ ∃ x, (x = nI (ctN (fun k => stP (oWind σ (n1 a) b d) k && !stP σ k) 64)) ∧ gL M' 90 0 = x.toInt64) ∨ (r = 1 ∧ (inB a 0 3 && inB b (-100) 100 && inB d (-100) 100) = false ∧ XX σ v M'))) (wA sh ad sz)) 1 6 (wA sh ad sz) := by
  refine Met.ofWH (cc := cL_setWind) (maxL := 6) (ret := (some .int)) (hh := [(0, 12, 15, 13)]) (by decide) rfl ?_
  intro p e s m args below meth cd0 s₁ B hml hTB hv
  obtain ⟨rfl, hsz, hM, hK, hE, hZ, hE2⟩ := hv
  have hx := B.exec
  have hb := B.bytes
  have hr := B.returns
  have hts := atoms_spec (ws := wsL_setWind) B.pre
  have hown : s.vm.findClass RL = some m.cls := findClass_of_methodNamed B.named
  have hlocks := B.notSynchronized
  subst hsz
  have hA := wA_PA sh ad s.heap
  generalize wA sh ad s.heap.size = A at hA hZ ⊢
  have hW : WS D cA sh ad A s.heap M s.heap [] := ⟨hM, va_S.rf⟩
  have hl := lv_entry ([.ref (ad 0), .int a, .int b, .int d, .ref (ad 90)]) (n := 6) (Nat.le_of_ble_eq_true rfl)
  rw [lg_entry_eq]
  generalize (lg_sl ([.ref (ad 0), .int a, .int b, .int d, .ref (ad 90)]) ++ List.replicate (6 - (lg_sl ([.ref (ad 0), .int a, .int b, .int d, .ref (ad 90)])).length) Slot.unset).toArray = ls at hl ⊢
  have hl : lv_has ls 6 [(0, .ref (ad 0)), (1, .int a), (2, .int b), (3, .int d), (4, .ref (ad 90))] := hl
  refine lv_aload hx hb dL_setWind_0 (lv_at hl 4 rfl) ?_
  refine lv_iconst (v := 0) hx hb dL_setWind_2 (by decide) ?_
  refine lv_aload_n hx hb dL_setWind_3 rfl (lv_at hl 0 rfl) ?_
  refine lv_iload_n hx hb dL_setWind_4 rfl (lv_at hl 1 rfl) ?_
  refine lv_iload_n hx hb dL_setWind_5 rfl (lv_at hl 2 rfl) ?_
  refine lv_iload_n hx hb dL_setWind_6 rfl (lv_at hl 3 rfl) ?_
  refine wx_wi (vx_runV (As := [.int a, .int b, .int d]) (rest := [.int 0, .ref (ad 90)]) ⟨hx, hb, hml, hown, hts⟩ (c_X9_setWind l hl9 D cA sh ad M _ σ v hX hXX a b d) (cwV 3 hts gL_setWind_X9_setWind rfl rfl rfl (by decide +kernel) ⟨Nat.le_of_ble_eq_true rfl, Nat.le_of_ble_eq_true rfl⟩) (xpreV hK hA hW hE hZ (C := RX9) (ci := 9) (hX.1 0 (by decide)) rfl) rfl rfl hl.1 rfl (lv_room (Nat.le_of_ble_eq_true rfl)) dL_setWind_7 ⟨Nat.le_of_ble_eq_true rfl, Nat.le_of_ble_eq_true rfl⟩) hA hW (fun E ce q9 M9' H locs p9' hW hce hcv hcl => ?_) (fun x7' M7' H locs p7' hW => ?_)
  · obtain ⟨eE, hG9, o9, hX9⟩ := p9'
    subst eE
    refine vx_catch (own := RL) (name := nIA) hown [] _ [] (show _ = [] ++ _ :: [] from hTB) (fun z hz => nomatch hz) (by decide) (by decide) (hts (.classLink RL 13 "java/lang/IllegalArgumentException") (List.mem_of_getElem? (i := 1) rfl)) (va_Nw.use rfl (hE.1 _ List.mem_cons_self)) hce hcv hcl ?_
    refine W.eq (g2 := F0 m 15 ls [.ref q9]) rfl ?_
    refine lv_astore (lv' := [(5, .ref q9), (0, .ref (ad 0)), (1, .int a), (2, .int b), (3, .int d), (4, .ref (ad 90))]) hx hb dL_setWind_15 hl (by decide) rfl (fun ls hl => ?_)
    refine lv_iconst (v := 1) hx hb dL_setWind_17 (by decide) ?_
    refine W.widen (k := 1) (n := 6) (by decide) (by decide) ?_
    exact wr_wi hx hb hr hlocks hW dL_setWind_18 ⟨(fun p k h1 h2 => (o9 p k (fun z => by unfold XSx at z; omega)).1), Or.inr ⟨rfl, hG9, hX9⟩⟩
  · try dsimp only at p7'
    obtain ⟨o7, hX7, hG7, hR7⟩ := p7'
    refine lv_i2l hx hb dL_setWind_10 rfl ?_
    refine lv_topl (fun x10' e10' => ?_)
    refine wasL (j := 0) hx hb hK hA hW hO (nlit 0) (by omega) (by decide) dL_setWind_11 (fun M11' H locs eM11 hW => ?_)
    refine lv_goto (tgt := 19) hx hb dL_setWind_12 (by decide) ?_
    refine lv_iconst (v := 0) hx hb dL_setWind_19 (by decide) ?_
    refine W.widen (k := 1) (n := 6) (by decide) (by decide) ?_
    exact wr_wi hx hb hr hlocks hW dL_setWind_20 ⟨fun p k h1 h2 => by rw [eM11, gI_sL]; exact (o7 p k (fun z => by unfold XSx at z; omega)).1, Or.inl ⟨rfl, hX7.fr (S := fun p _ => p = 90) (by rw [eM11]; exact oA.putL oA.rf rfl) (fun p k z => by omega), hG7, x7', hR7, by rw [eM11, gL_sL, if_pos ⟨rfl, rfl⟩, e10']⟩⟩
set_option maxHeartbeats 4000000 in
set_option maxRecDepth 100000 in
theorem c_L_setPeople (l : Launch) (hl9 : l.stackTraces = false) (D : va_G) (cA : Nat → ClassId) (sh : Nat → Option Sh) (ad : Nat → Nat) (M : MS) (sz : Nat) (σ : AS) (v : VT) (hX : XSh (aN σ) sh) (hXX : XX σ v M) (hO : sh 90 = some (.inr (2, 1))) (a : Int32) (b : Int32) (d : Int32) : Met l yL_setPeople wsL_setPeople ({ frames := 7, cells := 1, slots := 6, locals := 115 }) (lPc D cA sh ad M sz [.ref (ad 0), .int a, .int b, .int d, .ref (ad 90)]) (wQi D cA sh ad (fun r M' => (∀ p k, 60 ≤ p → p ≤ 84 → gI M' p k = gI M p k) ∧ ((r = 0 ∧ XX (oPeop σ (8 * n1 b + n1 a) d) v M' ∧ (zoB a b && decide (0 ≤ d)) = true ∧ ∃ x, (x = σ.1 0 (8 * n1 b + n1 a)) ∧ gL M' 90 0 = x.toInt64) ∨ (r = 1 ∧ (zoB a b && decide (0 ≤ d)) = false ∧ XX σ v M'))) (wA sh ad sz)) 1 6 (wA sh ad sz) := by
  refine Met.ofWH (cc := cL_setPeople) (maxL := 6) (ret := (some .int)) (hh := [(0, 12, 15, 13)]) (by decide) rfl ?_
  intro p e s m args below meth cd0 s₁ B hml hTB hv
  obtain ⟨rfl, hsz, hM, hK, hE, hZ, hE2⟩ := hv
  have hx := B.exec
  have hb := B.bytes
  have hr := B.returns
  have hts := atoms_spec (ws := wsL_setPeople) B.pre
  have hown : s.vm.findClass RL = some m.cls := findClass_of_methodNamed B.named
  have hlocks := B.notSynchronized
  subst hsz
  have hA := wA_PA sh ad s.heap
  generalize wA sh ad s.heap.size = A at hA hZ ⊢
  have hW : WS D cA sh ad A s.heap M s.heap [] := ⟨hM, va_S.rf⟩
  have hl := lv_entry ([.ref (ad 0), .int a, .int b, .int d, .ref (ad 90)]) (n := 6) (Nat.le_of_ble_eq_true rfl)
  rw [lg_entry_eq]
  generalize (lg_sl ([.ref (ad 0), .int a, .int b, .int d, .ref (ad 90)]) ++ List.replicate (6 - (lg_sl ([.ref (ad 0), .int a, .int b, .int d, .ref (ad 90)])).length) Slot.unset).toArray = ls at hl ⊢
  have hl : lv_has ls 6 [(0, .ref (ad 0)), (1, .int a), (2, .int b), (3, .int d), (4, .ref (ad 90))] := hl
  refine lv_aload hx hb dL_setPeople_0 (lv_at hl 4 rfl) ?_
  refine lv_iconst (v := 0) hx hb dL_setPeople_2 (by decide) ?_
  refine lv_aload_n hx hb dL_setPeople_3 rfl (lv_at hl 0 rfl) ?_
  refine lv_iload_n hx hb dL_setPeople_4 rfl (lv_at hl 1 rfl) ?_
  refine lv_iload_n hx hb dL_setPeople_5 rfl (lv_at hl 2 rfl) ?_
  refine lv_iload_n hx hb dL_setPeople_6 rfl (lv_at hl 3 rfl) ?_
  refine wx_wi (vx_runV (As := [.int a, .int b, .int d]) (rest := [.int 0, .ref (ad 90)]) ⟨hx, hb, hml, hown, hts⟩ (c_X9_setPeople l hl9 D cA sh ad M _ σ v hX hXX a b d) (cwV 3 hts gL_setPeople_X9_setPeople rfl rfl rfl (by decide +kernel) ⟨Nat.le_of_ble_eq_true rfl, Nat.le_of_ble_eq_true rfl⟩) (xpreV hK hA hW hE hZ (C := RX9) (ci := 9) (hX.1 0 (by decide)) rfl) rfl rfl hl.1 rfl (lv_room (Nat.le_of_ble_eq_true rfl)) dL_setPeople_7 ⟨Nat.le_of_ble_eq_true rfl, Nat.le_of_ble_eq_true rfl⟩) hA hW (fun E ce q9 M9' H locs p9' hW hce hcv hcl => ?_) (fun x7' M7' H locs p7' hW => ?_)
  · obtain ⟨eE, hG9, o9, hX9⟩ := p9'
    subst eE
    refine vx_catch (own := RL) (name := nIA) hown [] _ [] (show _ = [] ++ _ :: [] from hTB) (fun z hz => nomatch hz) (by decide) (by decide) (hts (.classLink RL 13 "java/lang/IllegalArgumentException") (List.mem_of_getElem? (i := 1) rfl)) (va_Nw.use rfl (hE.1 _ List.mem_cons_self)) hce hcv hcl ?_
    refine W.eq (g2 := F0 m 15 ls [.ref q9]) rfl ?_
    refine lv_astore (lv' := [(5, .ref q9), (0, .ref (ad 0)), (1, .int a), (2, .int b), (3, .int d), (4, .ref (ad 90))]) hx hb dL_setPeople_15 hl (by decide) rfl (fun ls hl => ?_)
    refine lv_iconst (v := 1) hx hb dL_setPeople_17 (by decide) ?_
    refine W.widen (k := 1) (n := 6) (by decide) (by decide) ?_
    exact wr_wi hx hb hr hlocks hW dL_setPeople_18 ⟨(fun p k h1 h2 => (o9 p k (fun z => by unfold XSx at z; omega)).1), Or.inr ⟨rfl, hG9, hX9⟩⟩
  · try dsimp only at p7'
    obtain ⟨o7, hX7, hG7, hR7⟩ := p7'
    refine lv_i2l hx hb dL_setPeople_10 rfl ?_
    refine lv_topl (fun x10' e10' => ?_)
    refine wasL (j := 0) hx hb hK hA hW hO (nlit 0) (by omega) (by decide) dL_setPeople_11 (fun M11' H locs eM11 hW => ?_)
    refine lv_goto (tgt := 19) hx hb dL_setPeople_12 (by decide) ?_
    refine lv_iconst (v := 0) hx hb dL_setPeople_19 (by decide) ?_
    refine W.widen (k := 1) (n := 6) (by decide) (by decide) ?_
    exact wr_wi hx hb hr hlocks hW dL_setPeople_20 ⟨fun p k h1 h2 => by rw [eM11, gI_sL]; exact (o7 p k (fun z => by unfold XSx at z; omega)).1, Or.inl ⟨rfl, hX7.fr (S := fun p _ => p = 90) (by rw [eM11]; exact oA.putL oA.rf rfl) (fun p k z => by omega), hG7, x7', hR7, by rw [eM11, gL_sL, if_pos ⟨rfl, rfl⟩, e10']⟩⟩
set_option maxHeartbeats 4000000 in
set_option maxRecDepth 100000 in
theorem c_L_setValue (l : Launch) (hl9 : l.stackTraces = false) (D : va_G) (cA : Nat → ClassId) (sh : Nat → Option Sh) (ad : Nat → Nat) (M : MS) (sz : Nat) (σ : AS) (v : VT) (hX : XSh (aN σ) sh) (hXX : XX σ v M) (hO : sh 90 = some (.inr (2, 1))) (a : Int32) (b : Int32) (d : Int32) : Met l yL_setValue wsL_setValue ({ frames := 7, cells := 1, slots := 6, locals := 115 }) (lPc D cA sh ad M sz [.ref (ad 0), .int a, .int b, .int d, .ref (ad 90)]) (wQi D cA sh ad (fun r M' => (∀ p k, 60 ≤ p → p ≤ 84 → gI M' p k = gI M p k) ∧ ((r = 0 ∧ XX σ (fun k => if k = 8 * n1 b + n1 a then d else v.1 k, v.2) M' ∧ (zoB a b && inB d 0 100000000) = true ∧ ∃ x, (x = v.1 (8 * n1 b + n1 a)) ∧ gL M' 90 0 = x.toInt64) ∨ (r = 1 ∧ (zoB a b && inB d 0 100000000) = false ∧ XX σ v M'))) (wA sh ad sz)) 1 6 (wA sh ad sz) := by
  refine Met.ofWH (cc := cL_setValue) (maxL := 6) (ret := (some .int)) (hh := [(0, 12, 15, 13)]) (by decide) rfl ?_
  intro p e s m args below meth cd0 s₁ B hml hTB hv
  obtain ⟨rfl, hsz, hM, hK, hE, hZ, hE2⟩ := hv
  have hx := B.exec
  have hb := B.bytes
  have hr := B.returns
  have hts := atoms_spec (ws := wsL_setValue) B.pre
  have hown : s.vm.findClass RL = some m.cls := findClass_of_methodNamed B.named
  have hlocks := B.notSynchronized
  subst hsz
  have hA := wA_PA sh ad s.heap
  generalize wA sh ad s.heap.size = A at hA hZ ⊢
  have hW : WS D cA sh ad A s.heap M s.heap [] := ⟨hM, va_S.rf⟩
  have hl := lv_entry ([.ref (ad 0), .int a, .int b, .int d, .ref (ad 90)]) (n := 6) (Nat.le_of_ble_eq_true rfl)
  rw [lg_entry_eq]
  generalize (lg_sl ([.ref (ad 0), .int a, .int b, .int d, .ref (ad 90)]) ++ List.replicate (6 - (lg_sl ([.ref (ad 0), .int a, .int b, .int d, .ref (ad 90)])).length) Slot.unset).toArray = ls at hl ⊢
  have hl : lv_has ls 6 [(0, .ref (ad 0)), (1, .int a), (2, .int b), (3, .int d), (4, .ref (ad 90))] := hl
  refine lv_aload hx hb dL_setValue_0 (lv_at hl 4 rfl) ?_
  refine lv_iconst (v := 0) hx hb dL_setValue_2 (by decide) ?_
  refine lv_aload_n hx hb dL_setValue_3 rfl (lv_at hl 0 rfl) ?_
  refine lv_iload_n hx hb dL_setValue_4 rfl (lv_at hl 1 rfl) ?_
  refine lv_iload_n hx hb dL_setValue_5 rfl (lv_at hl 2 rfl) ?_
  refine lv_iload_n hx hb dL_setValue_6 rfl (lv_at hl 3 rfl) ?_
  refine wx_wi (vx_runV (As := [.int a, .int b, .int d]) (rest := [.int 0, .ref (ad 90)]) ⟨hx, hb, hml, hown, hts⟩ (c_X9_setValue l hl9 D cA sh ad M _ σ v hX hXX a b d) (cwV 3 hts gL_setValue_X9_setValue rfl rfl rfl (by decide +kernel) ⟨Nat.le_of_ble_eq_true rfl, Nat.le_of_ble_eq_true rfl⟩) (xpreV hK hA hW hE hZ (C := RX9) (ci := 9) (hX.1 0 (by decide)) rfl) rfl rfl hl.1 rfl (lv_room (Nat.le_of_ble_eq_true rfl)) dL_setValue_7 ⟨Nat.le_of_ble_eq_true rfl, Nat.le_of_ble_eq_true rfl⟩) hA hW (fun E ce q9 M9' H locs p9' hW hce hcv hcl => ?_) (fun x7' M7' H locs p7' hW => ?_)
  · obtain ⟨eE, hG9, o9, hX9⟩ := p9'
    subst eE
    refine vx_catch (own := RL) (name := nIA) hown [] _ [] (show _ = [] ++ _ :: [] from hTB) (fun z hz => nomatch hz) (by decide) (by decide) (hts (.classLink RL 13 "java/lang/IllegalArgumentException") (List.mem_of_getElem? (i := 1) rfl)) (va_Nw.use rfl (hE.1 _ List.mem_cons_self)) hce hcv hcl ?_
    refine W.eq (g2 := F0 m 15 ls [.ref q9]) rfl ?_
    refine lv_astore (lv' := [(5, .ref q9), (0, .ref (ad 0)), (1, .int a), (2, .int b), (3, .int d), (4, .ref (ad 90))]) hx hb dL_setValue_15 hl (by decide) rfl (fun ls hl => ?_)
    refine lv_iconst (v := 1) hx hb dL_setValue_17 (by decide) ?_
    refine W.widen (k := 1) (n := 6) (by decide) (by decide) ?_
    exact wr_wi hx hb hr hlocks hW dL_setValue_18 ⟨(fun p k h1 h2 => (o9 p k (fun z => by unfold XSx at z; omega)).1), Or.inr ⟨rfl, hG9, hX9⟩⟩
  · try dsimp only at p7'
    obtain ⟨o7, hX7, hG7, hR7⟩ := p7'
    refine lv_i2l hx hb dL_setValue_10 rfl ?_
    refine lv_topl (fun x10' e10' => ?_)
    refine wasL (j := 0) hx hb hK hA hW hO (nlit 0) (by omega) (by decide) dL_setValue_11 (fun M11' H locs eM11 hW => ?_)
    refine lv_goto (tgt := 19) hx hb dL_setValue_12 (by decide) ?_
    refine lv_iconst (v := 0) hx hb dL_setValue_19 (by decide) ?_
    refine W.widen (k := 1) (n := 6) (by decide) (by decide) ?_
    exact wr_wi hx hb hr hlocks hW dL_setValue_20 ⟨fun p k h1 h2 => by rw [eM11, gI_sL]; exact (o7 p k (fun z => by unfold XSx at z; omega)).1, Or.inl ⟨rfl, hX7.fr (S := fun p _ => p = 90) (by rw [eM11]; exact oA.putL oA.rf rfl) (fun p k z => by omega), hG7, x7', hR7, by rw [eM11, gL_sL, if_pos ⟨rfl, rfl⟩, e10']⟩⟩
set_option maxHeartbeats 4000000 in
set_option maxRecDepth 100000 in
theorem c_L_setRate (l : Launch) (hl9 : l.stackTraces = false) (D : va_G) (cA : Nat → ClassId) (sh : Nat → Option Sh) (ad : Nat → Nat) (M : MS) (sz : Nat) (σ : AS) (v : VT) (hX : XSh (aN σ) sh) (hXX : XX σ v M) (hO : sh 90 = some (.inr (2, 1))) (a : Int32) (b : Int32) : Met l yL_setRate wsL_setRate ({ frames := 7, cells := 1, slots := 6, locals := 113 }) (lPc D cA sh ad M sz [.ref (ad 0), .int a, .int b, .ref (ad 90)]) (wQi D cA sh ad (fun r M' => (∀ p k, 60 ≤ p → p ≤ 84 → gI M' p k = gI M p k) ∧ ((r = 0 ∧ XX σ (v.1, fun k => if k = n1 a then b else v.2 k) M' ∧ (inB a 0 9 && inB b 0 100000) = true ∧ ∃ x, (x = v.2 (n1 a)) ∧ gL M' 90 0 = x.toInt64) ∨ (r = 1 ∧ (inB a 0 9 && inB b 0 100000) = false ∧ XX σ v M'))) (wA sh ad sz)) 1 6 (wA sh ad sz) := by
  refine Met.ofWH (cc := cL_setRate) (maxL := 5) (ret := (some .int)) (hh := [(0, 10, 13, 13)]) (by decide) rfl ?_
  intro p e s m args below meth cd0 s₁ B hml hTB hv
  obtain ⟨rfl, hsz, hM, hK, hE, hZ, hE2⟩ := hv
  have hx := B.exec
  have hb := B.bytes
  have hr := B.returns
  have hts := atoms_spec (ws := wsL_setRate) B.pre
  have hown : s.vm.findClass RL = some m.cls := findClass_of_methodNamed B.named
  have hlocks := B.notSynchronized
  subst hsz
  have hA := wA_PA sh ad s.heap
  generalize wA sh ad s.heap.size = A at hA hZ ⊢
  have hW : WS D cA sh ad A s.heap M s.heap [] := ⟨hM, va_S.rf⟩
  have hl := lv_entry ([.ref (ad 0), .int a, .int b, .ref (ad 90)]) (n := 5) (Nat.le_of_ble_eq_true rfl)
  rw [lg_entry_eq]
  generalize (lg_sl ([.ref (ad 0), .int a, .int b, .ref (ad 90)]) ++ List.replicate (5 - (lg_sl ([.ref (ad 0), .int a, .int b, .ref (ad 90)])).length) Slot.unset).toArray = ls at hl ⊢
  have hl : lv_has ls 5 [(0, .ref (ad 0)), (1, .int a), (2, .int b), (3, .ref (ad 90))] := hl
  refine lv_aload_n hx hb dL_setRate_0 rfl (lv_at hl 3 rfl) ?_
  refine lv_iconst (v := 0) hx hb dL_setRate_1 (by decide) ?_
  refine lv_aload_n hx hb dL_setRate_2 rfl (lv_at hl 0 rfl) ?_
  refine lv_iload_n hx hb dL_setRate_3 rfl (lv_at hl 1 rfl) ?_
  refine lv_iload_n hx hb dL_setRate_4 rfl (lv_at hl 2 rfl) ?_
  refine wx_wi (vx_runV (As := [.int a, .int b]) (rest := [.int 0, .ref (ad 90)]) ⟨hx, hb, hml, hown, hts⟩ (c_X9_setRate l hl9 D cA sh ad M _ σ v hX hXX a b) (cwV 2 hts gL_setRate_X9_setRate rfl rfl rfl (by decide +kernel) ⟨Nat.le_of_ble_eq_true rfl, Nat.le_of_ble_eq_true rfl⟩) (xpreV hK hA hW hE hZ (C := RX9) (ci := 9) (hX.1 0 (by decide)) rfl) rfl rfl hl.1 rfl (lv_room (Nat.le_of_ble_eq_true rfl)) dL_setRate_5 ⟨Nat.le_of_ble_eq_true rfl, Nat.le_of_ble_eq_true rfl⟩) hA hW (fun E ce q9 M9' H locs p9' hW hce hcv hcl => ?_) (fun x5' M5' H locs p5' hW => ?_)
  · obtain ⟨eE, hG9, o9, hX9⟩ := p9'
    subst eE
    refine vx_catch (own := RL) (name := nIA) hown [] _ [] (show _ = [] ++ _ :: [] from hTB) (fun z hz => nomatch hz) (by decide) (by decide) (hts (.classLink RL 13 "java/lang/IllegalArgumentException") (List.mem_of_getElem? (i := 1) rfl)) (va_Nw.use rfl (hE.1 _ List.mem_cons_self)) hce hcv hcl ?_
    refine W.eq (g2 := F0 m 13 ls [.ref q9]) rfl ?_
    refine lv_astore (lv' := [(4, .ref q9), (0, .ref (ad 0)), (1, .int a), (2, .int b), (3, .ref (ad 90))]) hx hb dL_setRate_13 hl (by decide) rfl (fun ls hl => ?_)
    refine lv_iconst (v := 1) hx hb dL_setRate_15 (by decide) ?_
    refine W.widen (k := 1) (n := 6) (by decide) (by decide) ?_
    exact wr_wi hx hb hr hlocks hW dL_setRate_16 ⟨(fun p k h1 h2 => (o9 p k (fun z => by unfold XSx at z; omega)).1), Or.inr ⟨rfl, hG9, hX9⟩⟩
  · try dsimp only at p5'
    obtain ⟨o7, hX7, hG7, hR7⟩ := p5'
    refine lv_i2l hx hb dL_setRate_8 rfl ?_
    refine lv_topl (fun x8' e8' => ?_)
    refine wasL (j := 0) hx hb hK hA hW hO (nlit 0) (by omega) (by decide) dL_setRate_9 (fun M9' H locs eM9 hW => ?_)
    refine lv_goto (tgt := 17) hx hb dL_setRate_10 (by decide) ?_
    refine lv_iconst (v := 0) hx hb dL_setRate_17 (by decide) ?_
    refine W.widen (k := 1) (n := 6) (by decide) (by decide) ?_
    exact wr_wi hx hb hr hlocks hW dL_setRate_18 ⟨fun p k h1 h2 => by rw [eM9, gI_sL]; exact (o7 p k (fun z => by unfold XSx at z; omega)).1, Or.inl ⟨rfl, hX7.fr (S := fun p _ => p = 90) (by rw [eM9]; exact oA.putL oA.rf rfl) (fun p k z => by omega), hG7, x5', hR7, by rw [eM9, gL_sL, if_pos ⟨rfl, rfl⟩, e8']⟩⟩
set_option maxHeartbeats 4000000 in
set_option maxRecDepth 100000 in
theorem c_L_flight (l : Launch) (hl9 : l.stackTraces = false) (D : va_G) (cA : Nat → ClassId) (sh : Nat → Option Sh) (ad : Nat → Nat) (M : MS) (sz : Nat) (σ : AS) (v : VT) (hX : XSh (aN σ) sh) (hXX : XX σ v M) (hO : sh 90 = some (.inr (2, 1))) (a : Int32) : Met l yL_flight wsL_flight ({ frames := 7, cells := 1, slots := 6, locals := 111 }) (lPc D cA sh ad M sz [.ref (ad 0), .int a, .ref (ad 90)]) (wQi D cA sh ad (fun r M' => (∀ p k, 60 ≤ p → p ≤ 84 → gI M' p k = gI M p k) ∧ ((r = 0 ∧ XX σ v M' ∧ inB a 0 3 = true ∧ ∃ x, (x = nI (σ.2 11 (n1 a))) ∧ gL M' 90 0 = x.toInt64) ∨ (r = 1 ∧ inB a 0 3 = false ∧ XX σ v M'))) (wA sh ad sz)) 1 6 (wA sh ad sz) := by
  refine Met.ofWH (cc := cL_flight) (maxL := 4) (ret := (some .int)) (hh := [(0, 9, 12, 13)]) (by decide) rfl ?_
  intro p e s m args below meth cd0 s₁ B hml hTB hv
  obtain ⟨rfl, hsz, hM, hK, hE, hZ, hE2⟩ := hv
  have hx := B.exec
  have hb := B.bytes
  have hr := B.returns
  have hts := atoms_spec (ws := wsL_flight) B.pre
  have hown : s.vm.findClass RL = some m.cls := findClass_of_methodNamed B.named
  have hlocks := B.notSynchronized
  subst hsz
  have hA := wA_PA sh ad s.heap
  generalize wA sh ad s.heap.size = A at hA hZ ⊢
  have hW : WS D cA sh ad A s.heap M s.heap [] := ⟨hM, va_S.rf⟩
  have hl := lv_entry ([.ref (ad 0), .int a, .ref (ad 90)]) (n := 4) (Nat.le_of_ble_eq_true rfl)
  rw [lg_entry_eq]
  generalize (lg_sl ([.ref (ad 0), .int a, .ref (ad 90)]) ++ List.replicate (4 - (lg_sl ([.ref (ad 0), .int a, .ref (ad 90)])).length) Slot.unset).toArray = ls at hl ⊢
  have hl : lv_has ls 4 [(0, .ref (ad 0)), (1, .int a), (2, .ref (ad 90))] := hl
  refine lv_aload_n hx hb dL_flight_0 rfl (lv_at hl 2 rfl) ?_
  refine lv_iconst (v := 0) hx hb dL_flight_1 (by decide) ?_
  refine lv_aload_n hx hb dL_flight_2 rfl (lv_at hl 0 rfl) ?_
  refine lv_iload_n hx hb dL_flight_3 rfl (lv_at hl 1 rfl) ?_
  refine wx_wi (vx_runV (As := [.int a]) (rest := [.int 0, .ref (ad 90)]) ⟨hx, hb, hml, hown, hts⟩ (c_X9_flight l hl9 D cA sh ad M _ σ v hX hXX a) (cwV 1 hts gL_flight_X9_flight rfl rfl rfl (by decide +kernel) ⟨Nat.le_of_ble_eq_true rfl, Nat.le_of_ble_eq_true rfl⟩) (xpreV hK hA hW hE hZ (C := RX9) (ci := 9) (hX.1 0 (by decide)) rfl) rfl rfl hl.1 rfl (lv_room (Nat.le_of_ble_eq_true rfl)) dL_flight_4 ⟨Nat.le_of_ble_eq_true rfl, Nat.le_of_ble_eq_true rfl⟩) hA hW (fun E ce q9 M9' H locs p9' hW hce hcv hcl => ?_) (fun x4' M4' H locs p4' hW => ?_)
  · obtain ⟨eE, hG9, o9, hX9⟩ := p9'
    subst eE
    refine vx_catch (own := RL) (name := nIA) hown [] _ [] (show _ = [] ++ _ :: [] from hTB) (fun z hz => nomatch hz) (by decide) (by decide) (hts (.classLink RL 13 "java/lang/IllegalArgumentException") (List.mem_of_getElem? (i := 1) rfl)) (va_Nw.use rfl (hE.1 _ List.mem_cons_self)) hce hcv hcl ?_
    refine W.eq (g2 := F0 m 12 ls [.ref q9]) rfl ?_
    refine lv_astore_n (lv' := [(3, .ref q9), (0, .ref (ad 0)), (1, .int a), (2, .ref (ad 90))]) hx hb dL_flight_12 rfl hl (by decide) rfl (fun ls hl => ?_)
    refine lv_iconst (v := 1) hx hb dL_flight_13 (by decide) ?_
    refine W.widen (k := 1) (n := 6) (by decide) (by decide) ?_
    exact wr_wi hx hb hr hlocks hW dL_flight_14 ⟨(fun p k h1 h2 => (o9 p k (fun z => by unfold XSx at z; omega)).1), Or.inr ⟨rfl, hG9, hX9⟩⟩
  · try dsimp only at p4'
    obtain ⟨o7, hX7, hG7, hR7⟩ := p4'
    refine lv_i2l hx hb dL_flight_7 rfl ?_
    refine lv_topl (fun x7' e7' => ?_)
    refine wasL (j := 0) hx hb hK hA hW hO (nlit 0) (by omega) (by decide) dL_flight_8 (fun M8' H locs eM8 hW => ?_)
    refine lv_goto (tgt := 15) hx hb dL_flight_9 (by decide) ?_
    refine lv_iconst (v := 0) hx hb dL_flight_15 (by decide) ?_
    refine W.widen (k := 1) (n := 6) (by decide) (by decide) ?_
    exact wr_wi hx hb hr hlocks hW dL_flight_16 ⟨fun p k h1 h2 => by rw [eM8, gI_sL]; exact (o7 p k (fun z => by unfold XSx at z; omega)).1, Or.inl ⟨rfl, hX7.fr (S := fun p _ => p = 90) (by rw [eM8]; exact oA.putL oA.rf rfl) (fun p k z => by omega), hG7, x4', hR7, by rw [eM8, gL_sL, if_pos ⟨rfl, rfl⟩, e7']⟩⟩
set_option maxHeartbeats 4000000 in
set_option maxRecDepth 100000 in
theorem c_L_inLayer (l : Launch) (hl9 : l.stackTraces = false) (D : va_G) (cA : Nat → ClassId) (sh : Nat → Option Sh) (ad : Nat → Nat) (M : MS) (sz : Nat) (σ : AS) (v : VT) (hX : XSh (aN σ) sh) (hXX : XX σ v M) (hO : sh 90 = some (.inr (2, 1))) (a : Int32) (b : Int32) : Met l yL_inLayer wsL_inLayer ({ frames := 7, cells := 1, slots := 6, locals := 112 }) (lPc D cA sh ad M sz [.ref (ad 0), .int a, .int b, .ref (ad 90)]) (wQi D cA sh ad (fun r M' => (∀ p k, 60 ≤ p → p ≤ 84 → gI M' p k = gI M p k) ∧ ((r = 0 ∧ XX σ v M' ∧ (inB a 0 3 && inB b 0 3) = true ∧ ∃ x, (x = nI (cntN (σ.1 2 (n1 a)) (σ.1 3 (n1 a)) (σ.2 11 (n1 a)) (n1 b))) ∧ gL M' 90 0 = x.toInt64) ∨ (r = 1 ∧ (inB a 0 3 && inB b 0 3) = false ∧ XX σ v M'))) (wA sh ad sz)) 1 6 (wA sh ad sz) := by
  refine Met.ofWH (cc := cL_inLayer) (maxL := 5) (ret := (some .int)) (hh := [(0, 10, 13, 13)]) (by decide) rfl ?_
  intro p e s m args below meth cd0 s₁ B hml hTB hv
  obtain ⟨rfl, hsz, hM, hK, hE, hZ, hE2⟩ := hv
  have hx := B.exec
  have hb := B.bytes
  have hr := B.returns
  have hts := atoms_spec (ws := wsL_inLayer) B.pre
  have hown : s.vm.findClass RL = some m.cls := findClass_of_methodNamed B.named
  have hlocks := B.notSynchronized
  subst hsz
  have hA := wA_PA sh ad s.heap
  generalize wA sh ad s.heap.size = A at hA hZ ⊢
  have hW : WS D cA sh ad A s.heap M s.heap [] := ⟨hM, va_S.rf⟩
  have hl := lv_entry ([.ref (ad 0), .int a, .int b, .ref (ad 90)]) (n := 5) (Nat.le_of_ble_eq_true rfl)
  rw [lg_entry_eq]
  generalize (lg_sl ([.ref (ad 0), .int a, .int b, .ref (ad 90)]) ++ List.replicate (5 - (lg_sl ([.ref (ad 0), .int a, .int b, .ref (ad 90)])).length) Slot.unset).toArray = ls at hl ⊢
  have hl : lv_has ls 5 [(0, .ref (ad 0)), (1, .int a), (2, .int b), (3, .ref (ad 90))] := hl
  refine lv_aload_n hx hb dL_inLayer_0 rfl (lv_at hl 3 rfl) ?_
  refine lv_iconst (v := 0) hx hb dL_inLayer_1 (by decide) ?_
  refine lv_aload_n hx hb dL_inLayer_2 rfl (lv_at hl 0 rfl) ?_
  refine lv_iload_n hx hb dL_inLayer_3 rfl (lv_at hl 1 rfl) ?_
  refine lv_iload_n hx hb dL_inLayer_4 rfl (lv_at hl 2 rfl) ?_
  refine wx_wi (vx_runV (As := [.int a, .int b]) (rest := [.int 0, .ref (ad 90)]) ⟨hx, hb, hml, hown, hts⟩ (c_X9_inLayer l hl9 D cA sh ad M _ σ v hX hXX a b) (cwV 2 hts gL_inLayer_X9_inLayer rfl rfl rfl (by decide +kernel) ⟨Nat.le_of_ble_eq_true rfl, Nat.le_of_ble_eq_true rfl⟩) (xpreV hK hA hW hE hZ (C := RX9) (ci := 9) (hX.1 0 (by decide)) rfl) rfl rfl hl.1 rfl (lv_room (Nat.le_of_ble_eq_true rfl)) dL_inLayer_5 ⟨Nat.le_of_ble_eq_true rfl, Nat.le_of_ble_eq_true rfl⟩) hA hW (fun E ce q9 M9' H locs p9' hW hce hcv hcl => ?_) (fun x5' M5' H locs p5' hW => ?_)
  · obtain ⟨eE, hG9, o9, hX9⟩ := p9'
    subst eE
    refine vx_catch (own := RL) (name := nIA) hown [] _ [] (show _ = [] ++ _ :: [] from hTB) (fun z hz => nomatch hz) (by decide) (by decide) (hts (.classLink RL 13 "java/lang/IllegalArgumentException") (List.mem_of_getElem? (i := 1) rfl)) (va_Nw.use rfl (hE.1 _ List.mem_cons_self)) hce hcv hcl ?_
    refine W.eq (g2 := F0 m 13 ls [.ref q9]) rfl ?_
    refine lv_astore (lv' := [(4, .ref q9), (0, .ref (ad 0)), (1, .int a), (2, .int b), (3, .ref (ad 90))]) hx hb dL_inLayer_13 hl (by decide) rfl (fun ls hl => ?_)
    refine lv_iconst (v := 1) hx hb dL_inLayer_15 (by decide) ?_
    refine W.widen (k := 1) (n := 6) (by decide) (by decide) ?_
    exact wr_wi hx hb hr hlocks hW dL_inLayer_16 ⟨(fun p k h1 h2 => (o9 p k (fun z => by unfold XSx at z; omega)).1), Or.inr ⟨rfl, hG9, hX9⟩⟩
  · try dsimp only at p5'
    obtain ⟨o7, hX7, hG7, hR7⟩ := p5'
    refine lv_i2l hx hb dL_inLayer_8 rfl ?_
    refine lv_topl (fun x8' e8' => ?_)
    refine wasL (j := 0) hx hb hK hA hW hO (nlit 0) (by omega) (by decide) dL_inLayer_9 (fun M9' H locs eM9 hW => ?_)
    refine lv_goto (tgt := 17) hx hb dL_inLayer_10 (by decide) ?_
    refine lv_iconst (v := 0) hx hb dL_inLayer_17 (by decide) ?_
    refine W.widen (k := 1) (n := 6) (by decide) (by decide) ?_
    exact wr_wi hx hb hr hlocks hW dL_inLayer_18 ⟨fun p k h1 h2 => by rw [eM9, gI_sL]; exact (o7 p k (fun z => by unfold XSx at z; omega)).1, Or.inl ⟨rfl, hX7.fr (S := fun p _ => p = 90) (by rw [eM9]; exact oA.putL oA.rf rfl) (fun p k z => by omega), hG7, x5', hR7, by rw [eM9, gL_sL, if_pos ⟨rfl, rfl⟩, e8']⟩⟩
set_option maxHeartbeats 4000000 in
set_option maxRecDepth 100000 in
theorem c_L_cut (l : Launch) (hl9 : l.stackTraces = false) (D : va_G) (cA : Nat → ClassId) (sh : Nat → Option Sh) (ad : Nat → Nat) (M : MS) (sz : Nat) (σ : AS) (v : VT) (hX : XSh (aN σ) sh) (hXX : XX σ v M) (hO : sh 90 = some (.inr (2, 1))) (a : Int32) : Met l yL_cut wsL_cut ({ frames := 8, cells := 1, slots := 6, locals := 133 }) (lPc D cA sh ad M sz [.ref (ad 0), .int a, .ref (ad 90)]) (wQi D cA sh ad (fun r M' => (∀ p k, 60 ≤ p → p ≤ 84 → gI M' p k = gI M p k) ∧ ((r = 0 ∧ XX (oCut σ (n1 a)) v M' ∧ cuB σ a = true ∧ ∃ x, (x = nI (ctN (pres (oCut σ (n1 a))) 40)) ∧ gL M' 90 0 = x.toInt64) ∨ (r = 1 ∧ cuB σ a = false ∧ XX σ v M'))) (wA sh ad sz)) 1 6 (wA sh ad sz) := by
  refine Met.ofWH (cc := cL_cut) (maxL := 4) (ret := (some .int)) (hh := [(0, 9, 12, 44)]) (by decide) rfl ?_
  intro p e s m args below meth cd0 s₁ B hml hTB hv
  obtain ⟨rfl, hsz, hM, hK, hE, hZ, hE2⟩ := hv
  have hx := B.exec
  have hb := B.bytes
  have hr := B.returns
  have hts := atoms_spec (ws := wsL_cut) B.pre
  have hown : s.vm.findClass RL = some m.cls := findClass_of_methodNamed B.named
  have hlocks := B.notSynchronized
  subst hsz
  have hA := wA_PA sh ad s.heap
  generalize wA sh ad s.heap.size = A at hA hZ ⊢
  have hW : WS D cA sh ad A s.heap M s.heap [] := ⟨hM, va_S.rf⟩
  have hl := lv_entry ([.ref (ad 0), .int a, .ref (ad 90)]) (n := 4) (Nat.le_of_ble_eq_true rfl)
  rw [lg_entry_eq]
  generalize (lg_sl ([.ref (ad 0), .int a, .ref (ad 90)]) ++ List.replicate (4 - (lg_sl ([.ref (ad 0), .int a, .ref (ad 90)])).length) Slot.unset).toArray = ls at hl ⊢
  have hl : lv_has ls 4 [(0, .ref (ad 0)), (1, .int a), (2, .ref (ad 90))] := hl
  refine lv_aload_n hx hb dL_cut_0 rfl (lv_at hl 2 rfl) ?_
  refine lv_iconst (v := 0) hx hb dL_cut_1 (by decide) ?_
  refine lv_aload_n hx hb dL_cut_2 rfl (lv_at hl 0 rfl) ?_
  refine lv_iload_n hx hb dL_cut_3 rfl (lv_at hl 1 rfl) ?_
  refine wx_wi (vx_runV (As := [.int a]) (rest := [.int 0, .ref (ad 90)]) ⟨hx, hb, hml, hown, hts⟩ (c_X9_cut l hl9 D cA sh ad M _ σ v hX hXX a) (cwV 1 hts gL_cut_X9_cut rfl rfl rfl (by decide +kernel) ⟨Nat.le_of_ble_eq_true rfl, Nat.le_of_ble_eq_true rfl⟩) (xpreV hK hA hW hE hZ (C := RX9) (ci := 9) (hX.1 0 (by decide)) rfl) rfl rfl hl.1 rfl (lv_room (Nat.le_of_ble_eq_true rfl)) dL_cut_4 ⟨Nat.le_of_ble_eq_true rfl, Nat.le_of_ble_eq_true rfl⟩) hA hW (fun E ce q9 M9' H locs p9' hW hce hcv hcl => ?_) (fun x4' M4' H locs p4' hW => ?_)
  · obtain ⟨eE, hG9, o9, hX9⟩ := p9'
    subst eE
    refine vx_catch (own := RL) (name := nIO) hown [] _ [] (show _ = [] ++ _ :: [] from hTB) (fun z hz => nomatch hz) (by decide) (by decide) (hts (.classLink RL 44 "java/lang/IndexOutOfBoundsException") (List.mem_of_getElem? (i := 1) rfl)) (va_Nw.use rfl (hE.1 _ (List.mem_cons_of_mem _ (List.mem_cons_of_mem _ List.mem_cons_self)))) hce hcv hcl ?_
    refine W.eq (g2 := F0 m 12 ls [.ref q9]) rfl ?_
    refine lv_astore_n (lv' := [(3, .ref q9), (0, .ref (ad 0)), (1, .int a), (2, .ref (ad 90))]) hx hb dL_cut_12 rfl hl (by decide) rfl (fun ls hl => ?_)
    refine lv_iconst (v := 1) hx hb dL_cut_13 (by decide) ?_
    refine W.widen (k := 1) (n := 6) (by decide) (by decide) ?_
    exact wr_wi hx hb hr hlocks hW dL_cut_14 ⟨(fun p k h1 h2 => (o9 p k (fun z => by unfold XSx at z; omega)).1), Or.inr ⟨rfl, hG9, hX9⟩⟩
  · try dsimp only at p4'
    obtain ⟨o7, hX7, hG7, hR7⟩ := p4'
    refine lv_i2l hx hb dL_cut_7 rfl ?_
    refine lv_topl (fun x7' e7' => ?_)
    refine wasL (j := 0) hx hb hK hA hW hO (nlit 0) (by omega) (by decide) dL_cut_8 (fun M8' H locs eM8 hW => ?_)
    refine lv_goto (tgt := 15) hx hb dL_cut_9 (by decide) ?_
    refine lv_iconst (v := 0) hx hb dL_cut_15 (by decide) ?_
    refine W.widen (k := 1) (n := 6) (by decide) (by decide) ?_
    exact wr_wi hx hb hr hlocks hW dL_cut_16 ⟨fun p k h1 h2 => by rw [eM8, gI_sL]; exact (o7 p k (fun z => by unfold XSx at z; omega)).1, Or.inl ⟨rfl, hX7.fr (S := fun p _ => p = 90) (by rw [eM8]; exact oA.putL oA.rf rfl) (fun p k z => by omega), hG7, x4', hR7, by rw [eM8, gL_sL, if_pos ⟨rfl, rfl⟩, e7']⟩⟩
set_option maxHeartbeats 4000000 in
set_option maxRecDepth 100000 in
theorem c_L_setTempo (l : Launch) (hl9 : l.stackTraces = false) (D : va_G) (cA : Nat → ClassId) (sh : Nat → Option Sh) (ad : Nat → Nat) (M : MS) (sz : Nat) (σ : AS) (v : VT) (hX : XSh (aN σ) sh) (hXX : XX σ v M) (hO : sh 90 = some (.inr (2, 1))) (a : Int32) : Met l yL_setTempo wsL_setTempo ({ frames := 7, cells := 1, slots := 6, locals := 112 }) (lPc D cA sh ad M sz [.ref (ad 0), .int a, .ref (ad 90)]) (wQi D cA sh ad (fun r M' => (∀ p k, 60 ≤ p → p ≤ 84 → gI M' p k = gI M p k) ∧ ((r = 0 ∧ XX (oTemp σ (n1 a)) v M' ∧ inB a 1 100 = true ∧ ∃ x, (x = nI (σ.2 4 0)) ∧ gL M' 90 0 = x.toInt64) ∨ (r = 1 ∧ inB a 1 100 = false ∧ XX σ v M'))) (wA sh ad sz)) 1 6 (wA sh ad sz) := by
  refine Met.ofWH (cc := cL_setTempo) (maxL := 4) (ret := (some .int)) (hh := [(0, 9, 12, 13)]) (by decide) rfl ?_
  intro p e s m args below meth cd0 s₁ B hml hTB hv
  obtain ⟨rfl, hsz, hM, hK, hE, hZ, hE2⟩ := hv
  have hx := B.exec
  have hb := B.bytes
  have hr := B.returns
  have hts := atoms_spec (ws := wsL_setTempo) B.pre
  have hown : s.vm.findClass RL = some m.cls := findClass_of_methodNamed B.named
  have hlocks := B.notSynchronized
  subst hsz
  have hA := wA_PA sh ad s.heap
  generalize wA sh ad s.heap.size = A at hA hZ ⊢
  have hW : WS D cA sh ad A s.heap M s.heap [] := ⟨hM, va_S.rf⟩
  have hl := lv_entry ([.ref (ad 0), .int a, .ref (ad 90)]) (n := 4) (Nat.le_of_ble_eq_true rfl)
  rw [lg_entry_eq]
  generalize (lg_sl ([.ref (ad 0), .int a, .ref (ad 90)]) ++ List.replicate (4 - (lg_sl ([.ref (ad 0), .int a, .ref (ad 90)])).length) Slot.unset).toArray = ls at hl ⊢
  have hl : lv_has ls 4 [(0, .ref (ad 0)), (1, .int a), (2, .ref (ad 90))] := hl
  refine lv_aload_n hx hb dL_setTempo_0 rfl (lv_at hl 2 rfl) ?_
  refine lv_iconst (v := 0) hx hb dL_setTempo_1 (by decide) ?_
  refine lv_aload_n hx hb dL_setTempo_2 rfl (lv_at hl 0 rfl) ?_
  refine lv_iload_n hx hb dL_setTempo_3 rfl (lv_at hl 1 rfl) ?_
  refine wx_wi (vx_runV (As := [.int a]) (rest := [.int 0, .ref (ad 90)]) ⟨hx, hb, hml, hown, hts⟩ (c_X9_setTempo l hl9 D cA sh ad M _ σ v hX hXX a) (cwV 1 hts gL_setTempo_X9_setTempo rfl rfl rfl (by decide +kernel) ⟨Nat.le_of_ble_eq_true rfl, Nat.le_of_ble_eq_true rfl⟩) (xpreV hK hA hW hE hZ (C := RX9) (ci := 9) (hX.1 0 (by decide)) rfl) rfl rfl hl.1 rfl (lv_room (Nat.le_of_ble_eq_true rfl)) dL_setTempo_4 ⟨Nat.le_of_ble_eq_true rfl, Nat.le_of_ble_eq_true rfl⟩) hA hW (fun E ce q9 M9' H locs p9' hW hce hcv hcl => ?_) (fun x4' M4' H locs p4' hW => ?_)
  · obtain ⟨eE, hG9, o9, hX9⟩ := p9'
    subst eE
    refine vx_catch (own := RL) (name := nIA) hown [] _ [] (show _ = [] ++ _ :: [] from hTB) (fun z hz => nomatch hz) (by decide) (by decide) (hts (.classLink RL 13 "java/lang/IllegalArgumentException") (List.mem_of_getElem? (i := 1) rfl)) (va_Nw.use rfl (hE.1 _ List.mem_cons_self)) hce hcv hcl ?_
    refine W.eq (g2 := F0 m 12 ls [.ref q9]) rfl ?_
    refine lv_astore_n (lv' := [(3, .ref q9), (0, .ref (ad 0)), (1, .int a), (2, .ref (ad 90))]) hx hb dL_setTempo_12 rfl hl (by decide) rfl (fun ls hl => ?_)
    refine lv_iconst (v := 1) hx hb dL_setTempo_13 (by decide) ?_
    refine W.widen (k := 1) (n := 6) (by decide) (by decide) ?_
    exact wr_wi hx hb hr hlocks hW dL_setTempo_14 ⟨(fun p k h1 h2 => (o9 p k (fun z => by unfold XSx at z; omega)).1), Or.inr ⟨rfl, hG9, hX9⟩⟩
  · try dsimp only at p4'
    obtain ⟨o7, hX7, hG7, hR7⟩ := p4'
    refine lv_i2l hx hb dL_setTempo_7 rfl ?_
    refine lv_topl (fun x7' e7' => ?_)
    refine wasL (j := 0) hx hb hK hA hW hO (nlit 0) (by omega) (by decide) dL_setTempo_8 (fun M8' H locs eM8 hW => ?_)
    refine lv_goto (tgt := 15) hx hb dL_setTempo_9 (by decide) ?_
    refine lv_iconst (v := 0) hx hb dL_setTempo_15 (by decide) ?_
    refine W.widen (k := 1) (n := 6) (by decide) (by decide) ?_
    exact wr_wi hx hb hr hlocks hW dL_setTempo_16 ⟨fun p k h1 h2 => by rw [eM8, gI_sL]; exact (o7 p k (fun z => by unfold XSx at z; omega)).1, Or.inl ⟨rfl, hX7.fr (S := fun p _ => p = 90) (by rw [eM8]; exact oA.putL oA.rf rfl) (fun p k z => by omega), hG7, x4', hR7, by rw [eM8, gL_sL, if_pos ⟨rfl, rfl⟩, e7']⟩⟩
set_option maxHeartbeats 4000000 in
set_option maxRecDepth 100000 in
theorem c_L_setGap (l : Launch) (hl9 : l.stackTraces = false) (D : va_G) (cA : Nat → ClassId) (sh : Nat → Option Sh) (ad : Nat → Nat) (M : MS) (sz : Nat) (σ : AS) (v : VT) (hX : XSh (aN σ) sh) (hXX : XX σ v M) (hO : sh 90 = some (.inr (2, 1))) (a : Int32) : Met l yL_setGap wsL_setGap ({ frames := 7, cells := 1, slots := 6, locals := 112 }) (lPc D cA sh ad M sz [.ref (ad 0), .int a, .ref (ad 90)]) (wQi D cA sh ad (fun r M' => (∀ p k, 60 ≤ p → p ≤ 84 → gI M' p k = gI M p k) ∧ ((r = 0 ∧ XX (oGap σ (n1 a)) v M' ∧ inB a 0 20 = true ∧ ∃ x, (x = nI (σ.2 5 0)) ∧ gL M' 90 0 = x.toInt64) ∨ (r = 1 ∧ inB a 0 20 = false ∧ XX σ v M'))) (wA sh ad sz)) 1 6 (wA sh ad sz) := by
  refine Met.ofWH (cc := cL_setGap) (maxL := 4) (ret := (some .int)) (hh := [(0, 9, 12, 13)]) (by decide) rfl ?_
  intro p e s m args below meth cd0 s₁ B hml hTB hv
  obtain ⟨rfl, hsz, hM, hK, hE, hZ, hE2⟩ := hv
  have hx := B.exec
  have hb := B.bytes
  have hr := B.returns
  have hts := atoms_spec (ws := wsL_setGap) B.pre
  have hown : s.vm.findClass RL = some m.cls := findClass_of_methodNamed B.named
  have hlocks := B.notSynchronized
  subst hsz
  have hA := wA_PA sh ad s.heap
  generalize wA sh ad s.heap.size = A at hA hZ ⊢
  have hW : WS D cA sh ad A s.heap M s.heap [] := ⟨hM, va_S.rf⟩
  have hl := lv_entry ([.ref (ad 0), .int a, .ref (ad 90)]) (n := 4) (Nat.le_of_ble_eq_true rfl)
  rw [lg_entry_eq]
  generalize (lg_sl ([.ref (ad 0), .int a, .ref (ad 90)]) ++ List.replicate (4 - (lg_sl ([.ref (ad 0), .int a, .ref (ad 90)])).length) Slot.unset).toArray = ls at hl ⊢
  have hl : lv_has ls 4 [(0, .ref (ad 0)), (1, .int a), (2, .ref (ad 90))] := hl
  refine lv_aload_n hx hb dL_setGap_0 rfl (lv_at hl 2 rfl) ?_
  refine lv_iconst (v := 0) hx hb dL_setGap_1 (by decide) ?_
  refine lv_aload_n hx hb dL_setGap_2 rfl (lv_at hl 0 rfl) ?_
  refine lv_iload_n hx hb dL_setGap_3 rfl (lv_at hl 1 rfl) ?_
  refine wx_wi (vx_runV (As := [.int a]) (rest := [.int 0, .ref (ad 90)]) ⟨hx, hb, hml, hown, hts⟩ (c_X9_setGap l hl9 D cA sh ad M _ σ v hX hXX a) (cwV 1 hts gL_setGap_X9_setGap rfl rfl rfl (by decide +kernel) ⟨Nat.le_of_ble_eq_true rfl, Nat.le_of_ble_eq_true rfl⟩) (xpreV hK hA hW hE hZ (C := RX9) (ci := 9) (hX.1 0 (by decide)) rfl) rfl rfl hl.1 rfl (lv_room (Nat.le_of_ble_eq_true rfl)) dL_setGap_4 ⟨Nat.le_of_ble_eq_true rfl, Nat.le_of_ble_eq_true rfl⟩) hA hW (fun E ce q9 M9' H locs p9' hW hce hcv hcl => ?_) (fun x4' M4' H locs p4' hW => ?_)
  · obtain ⟨eE, hG9, o9, hX9⟩ := p9'
    subst eE
    refine vx_catch (own := RL) (name := nIA) hown [] _ [] (show _ = [] ++ _ :: [] from hTB) (fun z hz => nomatch hz) (by decide) (by decide) (hts (.classLink RL 13 "java/lang/IllegalArgumentException") (List.mem_of_getElem? (i := 1) rfl)) (va_Nw.use rfl (hE.1 _ List.mem_cons_self)) hce hcv hcl ?_
    refine W.eq (g2 := F0 m 12 ls [.ref q9]) rfl ?_
    refine lv_astore_n (lv' := [(3, .ref q9), (0, .ref (ad 0)), (1, .int a), (2, .ref (ad 90))]) hx hb dL_setGap_12 rfl hl (by decide) rfl (fun ls hl => ?_)
    refine lv_iconst (v := 1) hx hb dL_setGap_13 (by decide) ?_
    refine W.widen (k := 1) (n := 6) (by decide) (by decide) ?_
    exact wr_wi hx hb hr hlocks hW dL_setGap_14 ⟨(fun p k h1 h2 => (o9 p k (fun z => by unfold XSx at z; omega)).1), Or.inr ⟨rfl, hG9, hX9⟩⟩
  · try dsimp only at p4'
    obtain ⟨o7, hX7, hG7, hR7⟩ := p4'
    refine lv_i2l hx hb dL_setGap_7 rfl ?_
    refine lv_topl (fun x7' e7' => ?_)
    refine wasL (j := 0) hx hb hK hA hW hO (nlit 0) (by omega) (by decide) dL_setGap_8 (fun M8' H locs eM8 hW => ?_)
    refine lv_goto (tgt := 15) hx hb dL_setGap_9 (by decide) ?_
    refine lv_iconst (v := 0) hx hb dL_setGap_15 (by decide) ?_
    refine W.widen (k := 1) (n := 6) (by decide) (by decide) ?_
    exact wr_wi hx hb hr hlocks hW dL_setGap_16 ⟨fun p k h1 h2 => by rw [eM8, gI_sL]; exact (o7 p k (fun z => by unfold XSx at z; omega)).1, Or.inl ⟨rfl, hX7.fr (S := fun p _ => p = 90) (by rw [eM8]; exact oA.putL oA.rf rfl) (fun p k z => by omega), hG7, x4', hR7, by rw [eM8, gL_sL, if_pos ⟨rfl, rfl⟩, e7']⟩⟩
set_option maxHeartbeats 4000000 in
set_option maxRecDepth 100000 in
theorem c_L_kill (l : Launch) (hl9 : l.stackTraces = false) (D : va_G) (cA : Nat → ClassId) (sh : Nat → Option Sh) (ad : Nat → Nat) (M : MS) (sz : Nat) (σ : AS) (v : VT) (hX : XSh (aN σ) sh) (hXX : XX σ v M) (hO : sh 90 = some (.inr (2, 1))) (a : Int32) (b : Int32) : Met l yL_kill wsL_kill ({ frames := 7, cells := 1, slots := 6, locals := 113 }) (lPc D cA sh ad M sz [.ref (ad 0), .int a, .int b, .ref (ad 90)]) (wQi D cA sh ad (fun r M' => (∀ p k, 60 ≤ p → p ≤ 84 → gI M' p k = gI M p k) ∧ ((r = 0 ∧ XX (oKill σ (8 * n1 a + n1 b)) v M' ∧ (inB a 0 3 && inB b 0 7) = true ∧ ∃ x, (x = nI (1 - σ.2 3 (8 * n1 a + n1 b))) ∧ gL M' 90 0 = (if x = 0 then 0 else 1)) ∨ (r = 1 ∧ (inB a 0 3 && inB b 0 7) = false ∧ XX σ v M'))) (wA sh ad sz)) 1 6 (wA sh ad sz) := by
  refine Met.ofWH (cc := cL_kill) (maxL := 5) (ret := (some .int)) (hh := [(0, 17, 20, 13)]) (by decide) rfl ?_
  intro p e s m args below meth cd0 s₁ B hml hTB hv
  obtain ⟨rfl, hsz, hM, hK, hE, hZ, hE2⟩ := hv
  have hx := B.exec
  have hb := B.bytes
  have hr := B.returns
  have hts := atoms_spec (ws := wsL_kill) B.pre
  have hown : s.vm.findClass RL = some m.cls := findClass_of_methodNamed B.named
  have hlocks := B.notSynchronized
  subst hsz
  have hA := wA_PA sh ad s.heap
  generalize wA sh ad s.heap.size = A at hA hZ ⊢
  have hW : WS D cA sh ad A s.heap M s.heap [] := ⟨hM, va_S.rf⟩
  have hl := lv_entry ([.ref (ad 0), .int a, .int b, .ref (ad 90)]) (n := 5) (Nat.le_of_ble_eq_true rfl)
  rw [lg_entry_eq]
  generalize (lg_sl ([.ref (ad 0), .int a, .int b, .ref (ad 90)]) ++ List.replicate (5 - (lg_sl ([.ref (ad 0), .int a, .int b, .ref (ad 90)])).length) Slot.unset).toArray = ls at hl ⊢
  have hl : lv_has ls 5 [(0, .ref (ad 0)), (1, .int a), (2, .int b), (3, .ref (ad 90))] := hl
  refine lv_aload_n hx hb dL_kill_0 rfl (lv_at hl 3 rfl) ?_
  refine lv_iconst (v := 0) hx hb dL_kill_1 (by decide) ?_
  refine lv_aload_n hx hb dL_kill_2 rfl (lv_at hl 0 rfl) ?_
  refine lv_iload_n hx hb dL_kill_3 rfl (lv_at hl 1 rfl) ?_
  refine lv_iload_n hx hb dL_kill_4 rfl (lv_at hl 2 rfl) ?_
  refine wx_wi (vx_runV (As := [.int a, .int b]) (rest := [.int 0, .ref (ad 90)]) ⟨hx, hb, hml, hown, hts⟩ (c_X9_kill l hl9 D cA sh ad M _ σ v hX hXX a b) (cwV 2 hts gL_kill_X9_kill rfl rfl rfl (by decide +kernel) ⟨Nat.le_of_ble_eq_true rfl, Nat.le_of_ble_eq_true rfl⟩) (xpreV hK hA hW hE hZ (C := RX9) (ci := 9) (hX.1 0 (by decide)) rfl) rfl rfl hl.1 rfl (lv_room (Nat.le_of_ble_eq_true rfl)) dL_kill_5 ⟨Nat.le_of_ble_eq_true rfl, Nat.le_of_ble_eq_true rfl⟩) hA hW (fun E ce q9 M9' H locs p9' hW hce hcv hcl => ?_) (fun x5' M5' H locs p5' hW => ?_)
  · obtain ⟨eE, hG9, o9, hX9⟩ := p9'
    subst eE
    refine vx_catch (own := RL) (name := nIA) hown [] _ [] (show _ = [] ++ _ :: [] from hTB) (fun z hz => nomatch hz) (by decide) (by decide) (hts (.classLink RL 13 "java/lang/IllegalArgumentException") (List.mem_of_getElem? (i := 1) rfl)) (va_Nw.use rfl (hE.1 _ List.mem_cons_self)) hce hcv hcl ?_
    refine W.eq (g2 := F0 m 20 ls [.ref q9]) rfl ?_
    refine lv_astore (lv' := [(4, .ref q9), (0, .ref (ad 0)), (1, .int a), (2, .int b), (3, .ref (ad 90))]) hx hb dL_kill_20 hl (by decide) rfl (fun ls hl => ?_)
    refine lv_iconst (v := 1) hx hb dL_kill_22 (by decide) ?_
    refine W.widen (k := 1) (n := 6) (by decide) (by decide) ?_
    exact wr_wi hx hb hr hlocks hW dL_kill_23 ⟨(fun p k h1 h2 => (o9 p k (fun z => by unfold XSx at z; omega)).1), Or.inr ⟨rfl, hG9, hX9⟩⟩
  · try dsimp only at p5'
    obtain ⟨o7, hX7, hG7, hR7⟩ := p5'
    refine lv_if_eq (tgt := 15) hx hb dL_kill_8 (by decide) (fun c8' => ?_) (fun c8' => ?_)
    · refine lv_lconst (v := 0) hx hb dL_kill_15 (by decide) ?_
      refine wasL (j := 0) hx hb hK hA hW hO (nlit 0) (by omega) (by decide) dL_kill_16 (fun M16' H locs eM16 hW => ?_)
      refine lv_goto (tgt := 24) hx hb dL_kill_17 (by decide) ?_
      refine lv_iconst (v := 0) hx hb dL_kill_24 (by decide) ?_
      refine W.widen (k := 1) (n := 6) (by decide) (by decide) ?_
      exact wr_wi hx hb hr hlocks hW dL_kill_25 ⟨fun p k h1 h2 => by rw [eM16, gI_sL]; exact (o7 p k (fun z => by unfold XSx at z; omega)).1, Or.inl ⟨rfl, hX7.fr (S := fun p _ => p = 90) (by rw [eM16]; exact oA.putL oA.rf rfl) (fun p k z => by omega), hG7, x5', hR7, by rw [eM16, gL_sL, if_pos ⟨rfl, rfl⟩]; first | (rw [if_pos c8']) | (rw [if_neg c8'])⟩⟩
    · refine lv_lconst (v := 1) hx hb dL_kill_11 (by decide) ?_
      refine lv_goto (tgt := 16) hx hb dL_kill_12 (by decide) ?_
      refine wasL (j := 0) hx hb hK hA hW hO (nlit 0) (by omega) (by decide) dL_kill_16 (fun M16' H locs eM16 hW => ?_)
      refine lv_goto (tgt := 24) hx hb dL_kill_17 (by decide) ?_
      refine lv_iconst (v := 0) hx hb dL_kill_24 (by decide) ?_
      refine W.widen (k := 1) (n := 6) (by decide) (by decide) ?_
      exact wr_wi hx hb hr hlocks hW dL_kill_25 ⟨fun p k h1 h2 => by rw [eM16, gI_sL]; exact (o7 p k (fun z => by unfold XSx at z; omega)).1, Or.inl ⟨rfl, hX7.fr (S := fun p _ => p = 90) (by rw [eM16]; exact oA.putL oA.rf rfl) (fun p k z => by omega), hG7, x5', hR7, by rw [eM16, gL_sL, if_pos ⟨rfl, rfl⟩]; first | (rw [if_pos c8']) | (rw [if_neg c8'])⟩⟩
set_option maxHeartbeats 4000000 in
set_option maxRecDepth 100000 in
theorem c_L_becomes (l : Launch) (hl9 : l.stackTraces = false) (D : va_G) (cA : Nat → ClassId) (sh : Nat → Option Sh) (ad : Nat → Nat) (M : MS) (sz : Nat) (σ : AS) (v : VT) (hX : XSh (aN σ) sh) (hXX : XX σ v M) (hO : sh 90 = some (.inr (2, 1))) (a : Int32) : Met l yL_becomes wsL_becomes ({ frames := 9, cells := 1, slots := 6, locals := 154 }) (lPc D cA sh ad M sz [.ref (ad 0), .int a, .ref (ad 90)]) (wQi D cA sh ad (fun r M' => (∀ p k, 60 ≤ p → p ≤ 84 → gI M' p k = gI M p k) ∧ ((r = 0 ∧ XX σ v M' ∧ cuB σ a = true ∧ ∃ x, (∃ q c, Srt σ 40 q c ∧ x = nI (fateA σ q c (n1 a))) ∧ gL M' 90 0 = x.toInt64) ∨ (r = 1 ∧ cuB σ a = false ∧ XX σ v M'))) (wA sh ad sz)) 1 6 (wA sh ad sz) := by
  refine Met.ofWH (cc := cL_becomes) (maxL := 4) (ret := (some .int)) (hh := [(0, 9, 12, 44)]) (by decide) rfl ?_
  intro p e s m args below meth cd0 s₁ B hml hTB hv
  obtain ⟨rfl, hsz, hM, hK, hE, hZ, hE2⟩ := hv
  have hx := B.exec
  have hb := B.bytes
  have hr := B.returns
  have hts := atoms_spec (ws := wsL_becomes) B.pre
  have hown : s.vm.findClass RL = some m.cls := findClass_of_methodNamed B.named
  have hlocks := B.notSynchronized
  subst hsz
  have hA := wA_PA sh ad s.heap
  generalize wA sh ad s.heap.size = A at hA hZ ⊢
  have hW : WS D cA sh ad A s.heap M s.heap [] := ⟨hM, va_S.rf⟩
  have hl := lv_entry ([.ref (ad 0), .int a, .ref (ad 90)]) (n := 4) (Nat.le_of_ble_eq_true rfl)
  rw [lg_entry_eq]
  generalize (lg_sl ([.ref (ad 0), .int a, .ref (ad 90)]) ++ List.replicate (4 - (lg_sl ([.ref (ad 0), .int a, .ref (ad 90)])).length) Slot.unset).toArray = ls at hl ⊢
  have hl : lv_has ls 4 [(0, .ref (ad 0)), (1, .int a), (2, .ref (ad 90))] := hl
  refine lv_aload_n hx hb dL_becomes_0 rfl (lv_at hl 2 rfl) ?_
  refine lv_iconst (v := 0) hx hb dL_becomes_1 (by decide) ?_
  refine lv_aload_n hx hb dL_becomes_2 rfl (lv_at hl 0 rfl) ?_
  refine lv_iload_n hx hb dL_becomes_3 rfl (lv_at hl 1 rfl) ?_
  refine wx_wi (vx_runV (As := [.int a]) (rest := [.int 0, .ref (ad 90)]) ⟨hx, hb, hml, hown, hts⟩ (c_X9_becomes l hl9 D cA sh ad M _ σ v hX hXX a) (cwV 1 hts gL_becomes_X9_becomes rfl rfl rfl (by decide +kernel) ⟨Nat.le_of_ble_eq_true rfl, Nat.le_of_ble_eq_true rfl⟩) (xpreV hK hA hW hE hZ (C := RX9) (ci := 9) (hX.1 0 (by decide)) rfl) rfl rfl hl.1 rfl (lv_room (Nat.le_of_ble_eq_true rfl)) dL_becomes_4 ⟨Nat.le_of_ble_eq_true rfl, Nat.le_of_ble_eq_true rfl⟩) hA hW (fun E ce q9 M9' H locs p9' hW hce hcv hcl => ?_) (fun x4' M4' H locs p4' hW => ?_)
  · obtain ⟨eE, hG9, o9, hX9⟩ := p9'
    subst eE
    refine vx_catch (own := RL) (name := nIO) hown [] _ [] (show _ = [] ++ _ :: [] from hTB) (fun z hz => nomatch hz) (by decide) (by decide) (hts (.classLink RL 44 "java/lang/IndexOutOfBoundsException") (List.mem_of_getElem? (i := 1) rfl)) (va_Nw.use rfl (hE.1 _ (List.mem_cons_of_mem _ (List.mem_cons_of_mem _ List.mem_cons_self)))) hce hcv hcl ?_
    refine W.eq (g2 := F0 m 12 ls [.ref q9]) rfl ?_
    refine lv_astore_n (lv' := [(3, .ref q9), (0, .ref (ad 0)), (1, .int a), (2, .ref (ad 90))]) hx hb dL_becomes_12 rfl hl (by decide) rfl (fun ls hl => ?_)
    refine lv_iconst (v := 1) hx hb dL_becomes_13 (by decide) ?_
    refine W.widen (k := 1) (n := 6) (by decide) (by decide) ?_
    exact wr_wi hx hb hr hlocks hW dL_becomes_14 ⟨(fun p k h1 h2 => (o9 p k (fun z => by unfold XSx at z; omega)).1), Or.inr ⟨rfl, hG9, hX9⟩⟩
  · try dsimp only at p4'
    obtain ⟨o7, hX7, hG7, hR7⟩ := p4'
    refine lv_i2l hx hb dL_becomes_7 rfl ?_
    refine lv_topl (fun x7' e7' => ?_)
    refine wasL (j := 0) hx hb hK hA hW hO (nlit 0) (by omega) (by decide) dL_becomes_8 (fun M8' H locs eM8 hW => ?_)
    refine lv_goto (tgt := 15) hx hb dL_becomes_9 (by decide) ?_
    refine lv_iconst (v := 0) hx hb dL_becomes_15 (by decide) ?_
    refine W.widen (k := 1) (n := 6) (by decide) (by decide) ?_
    exact wr_wi hx hb hr hlocks hW dL_becomes_16 ⟨fun p k h1 h2 => by rw [eM8, gI_sL]; exact (o7 p k (fun z => by unfold XSx at z; omega)).1, Or.inl ⟨rfl, hX7.fr (S := fun p _ => p = 90) (by rw [eM8]; exact oA.putL oA.rf rfl) (fun p k z => by omega), hG7, x4', hR7, by rw [eM8, gL_sL, if_pos ⟨rfl, rfl⟩, e7']⟩⟩
set_option maxHeartbeats 4000000 in
set_option maxRecDepth 100000 in
theorem c_L_bursts (l : Launch) (hl9 : l.stackTraces = false) (D : va_G) (cA : Nat → ClassId) (sh : Nat → Option Sh) (ad : Nat → Nat) (M : MS) (sz : Nat) (σ : AS) (v : VT) (hX : XSh (aN σ) sh) (hXX : XX σ v M) (hO : sh 90 = some (.inr (2, 1))) (a : Int32) : Met l yL_bursts wsL_bursts ({ frames := 9, cells := 1, slots := 6, locals := 154 }) (lPc D cA sh ad M sz [.ref (ad 0), .int a, .ref (ad 90)]) (wQi D cA sh ad (fun r M' => (∀ p k, 60 ≤ p → p ≤ 84 → gI M' p k = gI M p k) ∧ ((r = 0 ∧ XX σ v M' ∧ cuB σ a = true ∧ ∃ x, (∃ q c, Srt σ 40 q c ∧ x = burI σ (n1 a)) ∧ gL M' 90 0 = x.toInt64) ∨ (r = 1 ∧ cuB σ a = false ∧ XX σ v M'))) (wA sh ad sz)) 1 6 (wA sh ad sz) := by
  refine Met.ofWH (cc := cL_bursts) (maxL := 4) (ret := (some .int)) (hh := [(0, 9, 12, 44)]) (by decide) rfl ?_
  intro p e s m args below meth cd0 s₁ B hml hTB hv
  obtain ⟨rfl, hsz, hM, hK, hE, hZ, hE2⟩ := hv
  have hx := B.exec
  have hb := B.bytes
  have hr := B.returns
  have hts := atoms_spec (ws := wsL_bursts) B.pre
  have hown : s.vm.findClass RL = some m.cls := findClass_of_methodNamed B.named
  have hlocks := B.notSynchronized
  subst hsz
  have hA := wA_PA sh ad s.heap
  generalize wA sh ad s.heap.size = A at hA hZ ⊢
  have hW : WS D cA sh ad A s.heap M s.heap [] := ⟨hM, va_S.rf⟩
  have hl := lv_entry ([.ref (ad 0), .int a, .ref (ad 90)]) (n := 4) (Nat.le_of_ble_eq_true rfl)
  rw [lg_entry_eq]
  generalize (lg_sl ([.ref (ad 0), .int a, .ref (ad 90)]) ++ List.replicate (4 - (lg_sl ([.ref (ad 0), .int a, .ref (ad 90)])).length) Slot.unset).toArray = ls at hl ⊢
  have hl : lv_has ls 4 [(0, .ref (ad 0)), (1, .int a), (2, .ref (ad 90))] := hl
  refine lv_aload_n hx hb dL_bursts_0 rfl (lv_at hl 2 rfl) ?_
  refine lv_iconst (v := 0) hx hb dL_bursts_1 (by decide) ?_
  refine lv_aload_n hx hb dL_bursts_2 rfl (lv_at hl 0 rfl) ?_
  refine lv_iload_n hx hb dL_bursts_3 rfl (lv_at hl 1 rfl) ?_
  refine wx_wi (vx_runV (As := [.int a]) (rest := [.int 0, .ref (ad 90)]) ⟨hx, hb, hml, hown, hts⟩ (c_X9_bursts l hl9 D cA sh ad M _ σ v hX hXX a) (cwV 1 hts gL_bursts_X9_bursts rfl rfl rfl (by decide +kernel) ⟨Nat.le_of_ble_eq_true rfl, Nat.le_of_ble_eq_true rfl⟩) (xpreV hK hA hW hE hZ (C := RX9) (ci := 9) (hX.1 0 (by decide)) rfl) rfl rfl hl.1 rfl (lv_room (Nat.le_of_ble_eq_true rfl)) dL_bursts_4 ⟨Nat.le_of_ble_eq_true rfl, Nat.le_of_ble_eq_true rfl⟩) hA hW (fun E ce q9 M9' H locs p9' hW hce hcv hcl => ?_) (fun x4' M4' H locs p4' hW => ?_)
  · obtain ⟨eE, hG9, o9, hX9⟩ := p9'
    subst eE
    refine vx_catch (own := RL) (name := nIO) hown [] _ [] (show _ = [] ++ _ :: [] from hTB) (fun z hz => nomatch hz) (by decide) (by decide) (hts (.classLink RL 44 "java/lang/IndexOutOfBoundsException") (List.mem_of_getElem? (i := 1) rfl)) (va_Nw.use rfl (hE.1 _ (List.mem_cons_of_mem _ (List.mem_cons_of_mem _ List.mem_cons_self)))) hce hcv hcl ?_
    refine W.eq (g2 := F0 m 12 ls [.ref q9]) rfl ?_
    refine lv_astore_n (lv' := [(3, .ref q9), (0, .ref (ad 0)), (1, .int a), (2, .ref (ad 90))]) hx hb dL_bursts_12 rfl hl (by decide) rfl (fun ls hl => ?_)
    refine lv_iconst (v := 1) hx hb dL_bursts_13 (by decide) ?_
    refine W.widen (k := 1) (n := 6) (by decide) (by decide) ?_
    exact wr_wi hx hb hr hlocks hW dL_bursts_14 ⟨(fun p k h1 h2 => (o9 p k (fun z => by unfold XSx at z; omega)).1), Or.inr ⟨rfl, hG9, hX9⟩⟩
  · try dsimp only at p4'
    obtain ⟨o7, hX7, hG7, hR7⟩ := p4'
    refine lv_i2l hx hb dL_bursts_7 rfl ?_
    refine lv_topl (fun x7' e7' => ?_)
    refine wasL (j := 0) hx hb hK hA hW hO (nlit 0) (by omega) (by decide) dL_bursts_8 (fun M8' H locs eM8 hW => ?_)
    refine lv_goto (tgt := 15) hx hb dL_bursts_9 (by decide) ?_
    refine lv_iconst (v := 0) hx hb dL_bursts_15 (by decide) ?_
    refine W.widen (k := 1) (n := 6) (by decide) (by decide) ?_
    exact wr_wi hx hb hr hlocks hW dL_bursts_16 ⟨fun p k h1 h2 => by rw [eM8, gI_sL]; exact (o7 p k (fun z => by unfold XSx at z; omega)).1, Or.inl ⟨rfl, hX7.fr (S := fun p _ => p = 90) (by rw [eM8]; exact oA.putL oA.rf rfl) (fun p k z => by omega), hG7, x4', hR7, by rw [eM8, gL_sL, if_pos ⟨rfl, rfl⟩, e7']⟩⟩
set_option maxHeartbeats 4000000 in
set_option maxRecDepth 100000 in
theorem c_L_fires (l : Launch) (hl9 : l.stackTraces = false) (D : va_G) (cA : Nat → ClassId) (sh : Nat → Option Sh) (ad : Nat → Nat) (M : MS) (sz : Nat) (σ : AS) (v : VT) (hX : XSh (aN σ) sh) (hXX : XX σ v M) (hO : sh 90 = some (.inr (2, 1))) (a : Int32) : Met l yL_fires wsL_fires ({ frames := 9, cells := 1, slots := 6, locals := 154 }) (lPc D cA sh ad M sz [.ref (ad 0), .int a, .ref (ad 90)]) (wQi D cA sh ad (fun r M' => (∀ p k, 60 ≤ p → p ≤ 84 → gI M' p k = gI M p k) ∧ ((r = 0 ∧ XX σ v M' ∧ cuB σ a = true ∧ ∃ x, (∃ q c, Srt σ 40 q c ∧ x = tkI σ (n1 a)) ∧ gL M' 90 0 = x.toInt64) ∨ (r = 1 ∧ cuB σ a = false ∧ XX σ v M'))) (wA sh ad sz)) 1 6 (wA sh ad sz) := by
  refine Met.ofWH (cc := cL_fires) (maxL := 4) (ret := (some .int)) (hh := [(0, 9, 12, 44)]) (by decide) rfl ?_
  intro p e s m args below meth cd0 s₁ B hml hTB hv
  obtain ⟨rfl, hsz, hM, hK, hE, hZ, hE2⟩ := hv
  have hx := B.exec
  have hb := B.bytes
  have hr := B.returns
  have hts := atoms_spec (ws := wsL_fires) B.pre
  have hown : s.vm.findClass RL = some m.cls := findClass_of_methodNamed B.named
  have hlocks := B.notSynchronized
  subst hsz
  have hA := wA_PA sh ad s.heap
  generalize wA sh ad s.heap.size = A at hA hZ ⊢
  have hW : WS D cA sh ad A s.heap M s.heap [] := ⟨hM, va_S.rf⟩
  have hl := lv_entry ([.ref (ad 0), .int a, .ref (ad 90)]) (n := 4) (Nat.le_of_ble_eq_true rfl)
  rw [lg_entry_eq]
  generalize (lg_sl ([.ref (ad 0), .int a, .ref (ad 90)]) ++ List.replicate (4 - (lg_sl ([.ref (ad 0), .int a, .ref (ad 90)])).length) Slot.unset).toArray = ls at hl ⊢
  have hl : lv_has ls 4 [(0, .ref (ad 0)), (1, .int a), (2, .ref (ad 90))] := hl
  refine lv_aload_n hx hb dL_fires_0 rfl (lv_at hl 2 rfl) ?_
  refine lv_iconst (v := 0) hx hb dL_fires_1 (by decide) ?_
  refine lv_aload_n hx hb dL_fires_2 rfl (lv_at hl 0 rfl) ?_
  refine lv_iload_n hx hb dL_fires_3 rfl (lv_at hl 1 rfl) ?_
  refine wx_wi (vx_runV (As := [.int a]) (rest := [.int 0, .ref (ad 90)]) ⟨hx, hb, hml, hown, hts⟩ (c_X9_fires l hl9 D cA sh ad M _ σ v hX hXX a) (cwV 1 hts gL_fires_X9_fires rfl rfl rfl (by decide +kernel) ⟨Nat.le_of_ble_eq_true rfl, Nat.le_of_ble_eq_true rfl⟩) (xpreV hK hA hW hE hZ (C := RX9) (ci := 9) (hX.1 0 (by decide)) rfl) rfl rfl hl.1 rfl (lv_room (Nat.le_of_ble_eq_true rfl)) dL_fires_4 ⟨Nat.le_of_ble_eq_true rfl, Nat.le_of_ble_eq_true rfl⟩) hA hW (fun E ce q9 M9' H locs p9' hW hce hcv hcl => ?_) (fun x4' M4' H locs p4' hW => ?_)
  · obtain ⟨eE, hG9, o9, hX9⟩ := p9'
    subst eE
    refine vx_catch (own := RL) (name := nIO) hown [] _ [] (show _ = [] ++ _ :: [] from hTB) (fun z hz => nomatch hz) (by decide) (by decide) (hts (.classLink RL 44 "java/lang/IndexOutOfBoundsException") (List.mem_of_getElem? (i := 1) rfl)) (va_Nw.use rfl (hE.1 _ (List.mem_cons_of_mem _ (List.mem_cons_of_mem _ List.mem_cons_self)))) hce hcv hcl ?_
    refine W.eq (g2 := F0 m 12 ls [.ref q9]) rfl ?_
    refine lv_astore_n (lv' := [(3, .ref q9), (0, .ref (ad 0)), (1, .int a), (2, .ref (ad 90))]) hx hb dL_fires_12 rfl hl (by decide) rfl (fun ls hl => ?_)
    refine lv_iconst (v := 1) hx hb dL_fires_13 (by decide) ?_
    refine W.widen (k := 1) (n := 6) (by decide) (by decide) ?_
    exact wr_wi hx hb hr hlocks hW dL_fires_14 ⟨(fun p k h1 h2 => (o9 p k (fun z => by unfold XSx at z; omega)).1), Or.inr ⟨rfl, hG9, hX9⟩⟩
  · try dsimp only at p4'
    obtain ⟨o7, hX7, hG7, hR7⟩ := p4'
    refine lv_i2l hx hb dL_fires_7 rfl ?_
    refine lv_topl (fun x7' e7' => ?_)
    refine wasL (j := 0) hx hb hK hA hW hO (nlit 0) (by omega) (by decide) dL_fires_8 (fun M8' H locs eM8 hW => ?_)
    refine lv_goto (tgt := 15) hx hb dL_fires_9 (by decide) ?_
    refine lv_iconst (v := 0) hx hb dL_fires_15 (by decide) ?_
    refine W.widen (k := 1) (n := 6) (by decide) (by decide) ?_
    exact wr_wi hx hb hr hlocks hW dL_fires_16 ⟨fun p k h1 h2 => by rw [eM8, gI_sL]; exact (o7 p k (fun z => by unfold XSx at z; omega)).1, Or.inl ⟨rfl, hX7.fr (S := fun p _ => p = 90) (by rw [eM8]; exact oA.putL oA.rf rfl) (fun p k z => by omega), hG7, x4', hR7, by rw [eM8, gL_sL, if_pos ⟨rfl, rfl⟩, e7']⟩⟩
set_option maxHeartbeats 4000000 in
set_option maxRecDepth 100000 in
theorem c_L_channelOf (l : Launch) (hl9 : l.stackTraces = false) (D : va_G) (cA : Nat → ClassId) (sh : Nat → Option Sh) (ad : Nat → Nat) (M : MS) (sz : Nat) (σ : AS) (v : VT) (hX : XSh (aN σ) sh) (hXX : XX σ v M) (hO : sh 90 = some (.inr (2, 1))) (a : Int32) : Met l yL_channelOf wsL_channelOf ({ frames := 9, cells := 1, slots := 6, locals := 154 }) (lPc D cA sh ad M sz [.ref (ad 0), .int a, .ref (ad 90)]) (wQi D cA sh ad (fun r M' => (∀ p k, 60 ≤ p → p ≤ 84 → gI M' p k = gI M p k) ∧ ((r = 0 ∧ XX σ v M' ∧ cuB σ a = true ∧ ∃ x, (∃ q c, Srt σ 40 q c ∧ x = chanA σ q c (n1 a)) ∧ gL M' 90 0 = x.toInt64) ∨ (r = 1 ∧ cuB σ a = false ∧ XX σ v M'))) (wA sh ad sz)) 1 6 (wA sh ad sz) := by
  refine Met.ofWH (cc := cL_channelOf) (maxL := 4) (ret := (some .int)) (hh := [(0, 9, 12, 44)]) (by decide) rfl ?_
  intro p e s m args below meth cd0 s₁ B hml hTB hv
  obtain ⟨rfl, hsz, hM, hK, hE, hZ, hE2⟩ := hv
  have hx := B.exec
  have hb := B.bytes
  have hr := B.returns
  have hts := atoms_spec (ws := wsL_channelOf) B.pre
  have hown : s.vm.findClass RL = some m.cls := findClass_of_methodNamed B.named
  have hlocks := B.notSynchronized
  subst hsz
  have hA := wA_PA sh ad s.heap
  generalize wA sh ad s.heap.size = A at hA hZ ⊢
  have hW : WS D cA sh ad A s.heap M s.heap [] := ⟨hM, va_S.rf⟩
  have hl := lv_entry ([.ref (ad 0), .int a, .ref (ad 90)]) (n := 4) (Nat.le_of_ble_eq_true rfl)
  rw [lg_entry_eq]
  generalize (lg_sl ([.ref (ad 0), .int a, .ref (ad 90)]) ++ List.replicate (4 - (lg_sl ([.ref (ad 0), .int a, .ref (ad 90)])).length) Slot.unset).toArray = ls at hl ⊢
  have hl : lv_has ls 4 [(0, .ref (ad 0)), (1, .int a), (2, .ref (ad 90))] := hl
  refine lv_aload_n hx hb dL_channelOf_0 rfl (lv_at hl 2 rfl) ?_
  refine lv_iconst (v := 0) hx hb dL_channelOf_1 (by decide) ?_
  refine lv_aload_n hx hb dL_channelOf_2 rfl (lv_at hl 0 rfl) ?_
  refine lv_iload_n hx hb dL_channelOf_3 rfl (lv_at hl 1 rfl) ?_
  refine wx_wi (vx_runV (As := [.int a]) (rest := [.int 0, .ref (ad 90)]) ⟨hx, hb, hml, hown, hts⟩ (c_X9_channelOf l hl9 D cA sh ad M _ σ v hX hXX a) (cwV 1 hts gL_channelOf_X9_channelOf rfl rfl rfl (by decide +kernel) ⟨Nat.le_of_ble_eq_true rfl, Nat.le_of_ble_eq_true rfl⟩) (xpreV hK hA hW hE hZ (C := RX9) (ci := 9) (hX.1 0 (by decide)) rfl) rfl rfl hl.1 rfl (lv_room (Nat.le_of_ble_eq_true rfl)) dL_channelOf_4 ⟨Nat.le_of_ble_eq_true rfl, Nat.le_of_ble_eq_true rfl⟩) hA hW (fun E ce q9 M9' H locs p9' hW hce hcv hcl => ?_) (fun x4' M4' H locs p4' hW => ?_)
  · obtain ⟨eE, hG9, o9, hX9⟩ := p9'
    subst eE
    refine vx_catch (own := RL) (name := nIO) hown [] _ [] (show _ = [] ++ _ :: [] from hTB) (fun z hz => nomatch hz) (by decide) (by decide) (hts (.classLink RL 44 "java/lang/IndexOutOfBoundsException") (List.mem_of_getElem? (i := 1) rfl)) (va_Nw.use rfl (hE.1 _ (List.mem_cons_of_mem _ (List.mem_cons_of_mem _ List.mem_cons_self)))) hce hcv hcl ?_
    refine W.eq (g2 := F0 m 12 ls [.ref q9]) rfl ?_
    refine lv_astore_n (lv' := [(3, .ref q9), (0, .ref (ad 0)), (1, .int a), (2, .ref (ad 90))]) hx hb dL_channelOf_12 rfl hl (by decide) rfl (fun ls hl => ?_)
    refine lv_iconst (v := 1) hx hb dL_channelOf_13 (by decide) ?_
    refine W.widen (k := 1) (n := 6) (by decide) (by decide) ?_
    exact wr_wi hx hb hr hlocks hW dL_channelOf_14 ⟨(fun p k h1 h2 => (o9 p k (fun z => by unfold XSx at z; omega)).1), Or.inr ⟨rfl, hG9, hX9⟩⟩
  · try dsimp only at p4'
    obtain ⟨o7, hX7, hG7, hR7⟩ := p4'
    refine lv_i2l hx hb dL_channelOf_7 rfl ?_
    refine lv_topl (fun x7' e7' => ?_)
    refine wasL (j := 0) hx hb hK hA hW hO (nlit 0) (by omega) (by decide) dL_channelOf_8 (fun M8' H locs eM8 hW => ?_)
    refine lv_goto (tgt := 15) hx hb dL_channelOf_9 (by decide) ?_
    refine lv_iconst (v := 0) hx hb dL_channelOf_15 (by decide) ?_
    refine W.widen (k := 1) (n := 6) (by decide) (by decide) ?_
    exact wr_wi hx hb hr hlocks hW dL_channelOf_16 ⟨fun p k h1 h2 => by rw [eM8, gI_sL]; exact (o7 p k (fun z => by unfold XSx at z; omega)).1, Or.inl ⟨rfl, hX7.fr (S := fun p _ => p = 90) (by rw [eM8]; exact oA.putL oA.rf rfl) (fun p k z => by omega), hG7, x4', hR7, by rw [eM8, gL_sL, if_pos ⟨rfl, rfl⟩, e7']⟩⟩
set_option maxHeartbeats 4000000 in
set_option maxRecDepth 100000 in
theorem c_L_price (l : Launch) (hl9 : l.stackTraces = false) (D : va_G) (cA : Nat → ClassId) (sh : Nat → Option Sh) (ad : Nat → Nat) (M : MS) (sz : Nat) (σ : AS) (v : VT) (hX : XSh (aN σ) sh) (hXX : XX σ v M) (hO : sh 90 = some (.inr (2, 1))) (a : Int32) : Met l yL_price wsL_price ({ frames := 9, cells := 1, slots := 6, locals := 155 }) (lPc D cA sh ad M sz [.ref (ad 0), .int a, .ref (ad 90)]) (wQi D cA sh ad (fun r M' => (∀ p k, 60 ≤ p → p ≤ 84 → gI M' p k = gI M p k) ∧ ((r = 0 ∧ XX σ v M' ∧ cuB σ a = true ∧ ∃ x, (∃ q c, Srt σ 40 q c ∧ x = prA σ v q c (n1 a)) ∧ gL M' 90 0 = x.toInt64) ∨ (r = 1 ∧ cuB σ a = false ∧ XX σ v M'))) (wA sh ad sz)) 1 6 (wA sh ad sz) := by
  refine Met.ofWH (cc := cL_price) (maxL := 4) (ret := (some .int)) (hh := [(0, 9, 12, 44)]) (by decide) rfl ?_
  intro p e s m args below meth cd0 s₁ B hml hTB hv
  obtain ⟨rfl, hsz, hM, hK, hE, hZ, hE2⟩ := hv
  have hx := B.exec
  have hb := B.bytes
  have hr := B.returns
  have hts := atoms_spec (ws := wsL_price) B.pre
  have hown : s.vm.findClass RL = some m.cls := findClass_of_methodNamed B.named
  have hlocks := B.notSynchronized
  subst hsz
  have hA := wA_PA sh ad s.heap
  generalize wA sh ad s.heap.size = A at hA hZ ⊢
  have hW : WS D cA sh ad A s.heap M s.heap [] := ⟨hM, va_S.rf⟩
  have hl := lv_entry ([.ref (ad 0), .int a, .ref (ad 90)]) (n := 4) (Nat.le_of_ble_eq_true rfl)
  rw [lg_entry_eq]
  generalize (lg_sl ([.ref (ad 0), .int a, .ref (ad 90)]) ++ List.replicate (4 - (lg_sl ([.ref (ad 0), .int a, .ref (ad 90)])).length) Slot.unset).toArray = ls at hl ⊢
  have hl : lv_has ls 4 [(0, .ref (ad 0)), (1, .int a), (2, .ref (ad 90))] := hl
  refine lv_aload_n hx hb dL_price_0 rfl (lv_at hl 2 rfl) ?_
  refine lv_iconst (v := 0) hx hb dL_price_1 (by decide) ?_
  refine lv_aload_n hx hb dL_price_2 rfl (lv_at hl 0 rfl) ?_
  refine lv_iload_n hx hb dL_price_3 rfl (lv_at hl 1 rfl) ?_
  refine wx_wi (vx_runV (As := [.int a]) (rest := [.int 0, .ref (ad 90)]) ⟨hx, hb, hml, hown, hts⟩ (c_X9_price l hl9 D cA sh ad M _ σ v hX hXX a) (cwV 1 hts gL_price_X9_price rfl rfl rfl (by decide +kernel) ⟨Nat.le_of_ble_eq_true rfl, Nat.le_of_ble_eq_true rfl⟩) (xpreV hK hA hW hE hZ (C := RX9) (ci := 9) (hX.1 0 (by decide)) rfl) rfl rfl hl.1 rfl (lv_room (Nat.le_of_ble_eq_true rfl)) dL_price_4 ⟨Nat.le_of_ble_eq_true rfl, Nat.le_of_ble_eq_true rfl⟩) hA hW (fun E ce q9 M9' H locs p9' hW hce hcv hcl => ?_) (fun x4' M4' H locs p4' hW => ?_)
  · obtain ⟨eE, hG9, o9, hX9⟩ := p9'
    subst eE
    refine vx_catch (own := RL) (name := nIO) hown [] _ [] (show _ = [] ++ _ :: [] from hTB) (fun z hz => nomatch hz) (by decide) (by decide) (hts (.classLink RL 44 "java/lang/IndexOutOfBoundsException") (List.mem_of_getElem? (i := 1) rfl)) (va_Nw.use rfl (hE.1 _ (List.mem_cons_of_mem _ (List.mem_cons_of_mem _ List.mem_cons_self)))) hce hcv hcl ?_
    refine W.eq (g2 := F0 m 12 ls [.ref q9]) rfl ?_
    refine lv_astore_n (lv' := [(3, .ref q9), (0, .ref (ad 0)), (1, .int a), (2, .ref (ad 90))]) hx hb dL_price_12 rfl hl (by decide) rfl (fun ls hl => ?_)
    refine lv_iconst (v := 1) hx hb dL_price_13 (by decide) ?_
    refine W.widen (k := 1) (n := 6) (by decide) (by decide) ?_
    exact wr_wi hx hb hr hlocks hW dL_price_14 ⟨(fun p k h1 h2 => (o9 p k (fun z => by unfold XSx at z; omega)).1), Or.inr ⟨rfl, hG9, hX9⟩⟩
  · try dsimp only at p4'
    obtain ⟨o7, hX7, hG7, hR7⟩ := p4'
    refine lv_i2l hx hb dL_price_7 rfl ?_
    refine lv_topl (fun x7' e7' => ?_)
    refine wasL (j := 0) hx hb hK hA hW hO (nlit 0) (by omega) (by decide) dL_price_8 (fun M8' H locs eM8 hW => ?_)
    refine lv_goto (tgt := 15) hx hb dL_price_9 (by decide) ?_
    refine lv_iconst (v := 0) hx hb dL_price_15 (by decide) ?_
    refine W.widen (k := 1) (n := 6) (by decide) (by decide) ?_
    exact wr_wi hx hb hr hlocks hW dL_price_16 ⟨fun p k h1 h2 => by rw [eM8, gI_sL]; exact (o7 p k (fun z => by unfold XSx at z; omega)).1, Or.inl ⟨rfl, hX7.fr (S := fun p _ => p = 90) (by rw [eM8]; exact oA.putL oA.rf rfl) (fun p k z => by omega), hG7, x4', hR7, by rw [eM8, gL_sL, if_pos ⟨rfl, rfl⟩, e7']⟩⟩
set_option maxHeartbeats 4000000 in
set_option maxRecDepth 100000 in
theorem c_L_danger (l : Launch) (hl9 : l.stackTraces = false) (D : va_G) (cA : Nat → ClassId) (sh : Nat → Option Sh) (ad : Nat → Nat) (M : MS) (sz : Nat) (σ : AS) (v : VT) (hX : XSh (aN σ) sh) (hXX : XX σ v M) (hO : sh 90 = some (.inr (2, 1))) (a : Int32) : Met l yL_danger wsL_danger ({ frames := 9, cells := 1, slots := 6, locals := 154 }) (lPc D cA sh ad M sz [.ref (ad 0), .int a, .ref (ad 90)]) (wQi D cA sh ad (fun r M' => (∀ p k, 60 ≤ p → p ≤ 84 → gI M' p k = gI M p k) ∧ ((r = 0 ∧ XX σ v M' ∧ cuB σ a = true ∧ ∃ x, (∃ q c, Srt σ 40 q c ∧ ∀ k, k < 64 → bitL x k = zonB σ (n1 a) k) ∧ gL M' 90 0 = x) ∨ (r = 1 ∧ cuB σ a = false ∧ XX σ v M'))) (wA sh ad sz)) 1 6 (wA sh ad sz) := by
  refine Met.ofWH (cc := cL_danger) (maxL := 4) (ret := (some .int)) (hh := [(0, 8, 11, 44)]) (by decide) rfl ?_
  intro p e s m args below meth cd0 s₁ B hml hTB hv
  obtain ⟨rfl, hsz, hM, hK, hE, hZ, hE2⟩ := hv
  have hx := B.exec
  have hb := B.bytes
  have hr := B.returns
  have hts := atoms_spec (ws := wsL_danger) B.pre
  have hown : s.vm.findClass RL = some m.cls := findClass_of_methodNamed B.named
  have hlocks := B.notSynchronized
  subst hsz
  have hA := wA_PA sh ad s.heap
  generalize wA sh ad s.heap.size = A at hA hZ ⊢
  have hW : WS D cA sh ad A s.heap M s.heap [] := ⟨hM, va_S.rf⟩
  have hl := lv_entry ([.ref (ad 0), .int a, .ref (ad 90)]) (n := 4) (Nat.le_of_ble_eq_true rfl)
  rw [lg_entry_eq]
  generalize (lg_sl ([.ref (ad 0), .int a, .ref (ad 90)]) ++ List.replicate (4 - (lg_sl ([.ref (ad 0), .int a, .ref (ad 90)])).length) Slot.unset).toArray = ls at hl ⊢
  have hl : lv_has ls 4 [(0, .ref (ad 0)), (1, .int a), (2, .ref (ad 90))] := hl
  refine lv_aload_n hx hb dL_danger_0 rfl (lv_at hl 2 rfl) ?_
  refine lv_iconst (v := 0) hx hb dL_danger_1 (by decide) ?_
  refine lv_aload_n hx hb dL_danger_2 rfl (lv_at hl 0 rfl) ?_
  refine lv_iload_n hx hb dL_danger_3 rfl (lv_at hl 1 rfl) ?_
  refine wx_wl (vx_runV (As := [.int a]) (rest := [.int 0, .ref (ad 90)]) ⟨hx, hb, hml, hown, hts⟩ (c_X9_danger l hl9 D cA sh ad M _ σ v hX hXX a) (cwV 1 hts gL_danger_X9_danger rfl rfl rfl (by decide +kernel) ⟨Nat.le_of_ble_eq_true rfl, Nat.le_of_ble_eq_true rfl⟩) (xpreV hK hA hW hE hZ (C := RX9) (ci := 9) (hX.1 0 (by decide)) rfl) rfl rfl hl.1 rfl (lv_room (Nat.le_of_ble_eq_true rfl)) dL_danger_4 ⟨Nat.le_of_ble_eq_true rfl, Nat.le_of_ble_eq_true rfl⟩) hA hW (fun E ce q9 M9' H locs p9' hW hce hcv hcl => ?_) (fun x4' M4' H locs p4' hW => ?_)
  · obtain ⟨eE, hG9, o9, hX9⟩ := p9'
    subst eE
    refine vx_catch (own := RL) (name := nIO) hown [] _ [] (show _ = [] ++ _ :: [] from hTB) (fun z hz => nomatch hz) (by decide) (by decide) (hts (.classLink RL 44 "java/lang/IndexOutOfBoundsException") (List.mem_of_getElem? (i := 1) rfl)) (va_Nw.use rfl (hE.1 _ (List.mem_cons_of_mem _ (List.mem_cons_of_mem _ List.mem_cons_self)))) hce hcv hcl ?_
    refine W.eq (g2 := F0 m 11 ls [.ref q9]) rfl ?_
    refine lv_astore_n (lv' := [(3, .ref q9), (0, .ref (ad 0)), (1, .int a), (2, .ref (ad 90))]) hx hb dL_danger_11 rfl hl (by decide) rfl (fun ls hl => ?_)
    refine lv_iconst (v := 1) hx hb dL_danger_12 (by decide) ?_
    refine W.widen (k := 1) (n := 6) (by decide) (by decide) ?_
    exact wr_wi hx hb hr hlocks hW dL_danger_13 ⟨(fun p k h1 h2 => (o9 p k (fun z => by unfold XSx at z; omega)).1), Or.inr ⟨rfl, hG9, hX9⟩⟩
  · try dsimp only at p4'
    obtain ⟨o7, hX7, hG7, hR7⟩ := p4'
    refine wasL (j := 0) hx hb hK hA hW hO (nlit 0) (by omega) (by decide) dL_danger_7 (fun M7' H locs eM7 hW => ?_)
    refine lv_goto (tgt := 14) hx hb dL_danger_8 (by decide) ?_
    refine lv_iconst (v := 0) hx hb dL_danger_14 (by decide) ?_
    refine W.widen (k := 1) (n := 6) (by decide) (by decide) ?_
    exact wr_wi hx hb hr hlocks hW dL_danger_15 ⟨fun p k h1 h2 => by rw [eM7, gI_sL]; exact (o7 p k (fun z => by unfold XSx at z; omega)).1, Or.inl ⟨rfl, hX7.fr (S := fun p _ => p = 90) (by rw [eM7]; exact oA.putL oA.rf rfl) (fun p k z => by omega), hG7, x4', hR7, by rw [eM7, gL_sL, if_pos ⟨rfl, rfl⟩]⟩⟩
set_option maxHeartbeats 4000000 in
set_option maxRecDepth 100000 in
theorem c_L_cueOn (l : Launch) (hl9 : l.stackTraces = false) (D : va_G) (cA : Nat → ClassId) (sh : Nat → Option Sh) (ad : Nat → Nat) (M : MS) (sz : Nat) (σ : AS) (v : VT) (hX : XSh (aN σ) sh) (hXX : XX σ v M) (hO : sh 90 = some (.inr (2, 1))) (a : Int32) (b : Int32) : Met l yL_cueOn wsL_cueOn ({ frames := 7, cells := 1, slots := 6, locals := 117 }) (lPc D cA sh ad M sz [.ref (ad 0), .int a, .int b, .ref (ad 90)]) (wQi D cA sh ad (fun r M' => (∀ p k, 60 ≤ p → p ≤ 84 → gI M' p k = gI M p k) ∧ ((r = 0 ∧ XX σ v M' ∧ (inB a 0 3 && inB b 0 7) = true ∧ ∃ x, (∃ q c, Srt σ 40 q c ∧ x = opI (gvn σ q c (8 * n1 a + n1 b))) ∧ gL M' 90 0 = x.toInt64) ∨ (r = 1 ∧ (inB a 0 3 && inB b 0 7) = false ∧ XX σ v M'))) (wA sh ad sz)) 1 6 (wA sh ad sz) := by
  refine Met.ofWH (cc := cL_cueOn) (maxL := 5) (ret := (some .int)) (hh := [(0, 10, 13, 13)]) (by decide) rfl ?_
  intro p e s m args below meth cd0 s₁ B hml hTB hv
  obtain ⟨rfl, hsz, hM, hK, hE, hZ, hE2⟩ := hv
  have hx := B.exec
  have hb := B.bytes
  have hr := B.returns
  have hts := atoms_spec (ws := wsL_cueOn) B.pre
  have hown : s.vm.findClass RL = some m.cls := findClass_of_methodNamed B.named
  have hlocks := B.notSynchronized
  subst hsz
  have hA := wA_PA sh ad s.heap
  generalize wA sh ad s.heap.size = A at hA hZ ⊢
  have hW : WS D cA sh ad A s.heap M s.heap [] := ⟨hM, va_S.rf⟩
  have hl := lv_entry ([.ref (ad 0), .int a, .int b, .ref (ad 90)]) (n := 5) (Nat.le_of_ble_eq_true rfl)
  rw [lg_entry_eq]
  generalize (lg_sl ([.ref (ad 0), .int a, .int b, .ref (ad 90)]) ++ List.replicate (5 - (lg_sl ([.ref (ad 0), .int a, .int b, .ref (ad 90)])).length) Slot.unset).toArray = ls at hl ⊢
  have hl : lv_has ls 5 [(0, .ref (ad 0)), (1, .int a), (2, .int b), (3, .ref (ad 90))] := hl
  refine lv_aload_n hx hb dL_cueOn_0 rfl (lv_at hl 3 rfl) ?_
  refine lv_iconst (v := 0) hx hb dL_cueOn_1 (by decide) ?_
  refine lv_aload_n hx hb dL_cueOn_2 rfl (lv_at hl 0 rfl) ?_
  refine lv_iload_n hx hb dL_cueOn_3 rfl (lv_at hl 1 rfl) ?_
  refine lv_iload_n hx hb dL_cueOn_4 rfl (lv_at hl 2 rfl) ?_
  refine wx_wi (vx_runV (As := [.int a, .int b]) (rest := [.int 0, .ref (ad 90)]) ⟨hx, hb, hml, hown, hts⟩ (c_X9_cueOn l hl9 D cA sh ad M _ σ v hX hXX a b) (cwV 2 hts gL_cueOn_X9_cueOn rfl rfl rfl (by decide +kernel) ⟨Nat.le_of_ble_eq_true rfl, Nat.le_of_ble_eq_true rfl⟩) (xpreV hK hA hW hE hZ (C := RX9) (ci := 9) (hX.1 0 (by decide)) rfl) rfl rfl hl.1 rfl (lv_room (Nat.le_of_ble_eq_true rfl)) dL_cueOn_5 ⟨Nat.le_of_ble_eq_true rfl, Nat.le_of_ble_eq_true rfl⟩) hA hW (fun E ce q9 M9' H locs p9' hW hce hcv hcl => ?_) (fun x5' M5' H locs p5' hW => ?_)
  · obtain ⟨eE, hG9, o9, hX9⟩ := p9'
    subst eE
    refine vx_catch (own := RL) (name := nIA) hown [] _ [] (show _ = [] ++ _ :: [] from hTB) (fun z hz => nomatch hz) (by decide) (by decide) (hts (.classLink RL 13 "java/lang/IllegalArgumentException") (List.mem_of_getElem? (i := 1) rfl)) (va_Nw.use rfl (hE.1 _ List.mem_cons_self)) hce hcv hcl ?_
    refine W.eq (g2 := F0 m 13 ls [.ref q9]) rfl ?_
    refine lv_astore (lv' := [(4, .ref q9), (0, .ref (ad 0)), (1, .int a), (2, .int b), (3, .ref (ad 90))]) hx hb dL_cueOn_13 hl (by decide) rfl (fun ls hl => ?_)
    refine lv_iconst (v := 1) hx hb dL_cueOn_15 (by decide) ?_
    refine W.widen (k := 1) (n := 6) (by decide) (by decide) ?_
    exact wr_wi hx hb hr hlocks hW dL_cueOn_16 ⟨(fun p k h1 h2 => (o9 p k (fun z => by unfold XSx at z; omega)).1), Or.inr ⟨rfl, hG9, hX9⟩⟩
  · try dsimp only at p5'
    obtain ⟨o7, hX7, hG7, hR7⟩ := p5'
    refine lv_i2l hx hb dL_cueOn_8 rfl ?_
    refine lv_topl (fun x8' e8' => ?_)
    refine wasL (j := 0) hx hb hK hA hW hO (nlit 0) (by omega) (by decide) dL_cueOn_9 (fun M9' H locs eM9 hW => ?_)
    refine lv_goto (tgt := 17) hx hb dL_cueOn_10 (by decide) ?_
    refine lv_iconst (v := 0) hx hb dL_cueOn_17 (by decide) ?_
    refine W.widen (k := 1) (n := 6) (by decide) (by decide) ?_
    exact wr_wi hx hb hr hlocks hW dL_cueOn_18 ⟨fun p k h1 h2 => by rw [eM9, gI_sL]; exact (o7 p k (fun z => by unfold XSx at z; omega)).1, Or.inl ⟨rfl, hX7.fr (S := fun p _ => p = 90) (by rw [eM9]; exact oA.putL oA.rf rfl) (fun p k z => by omega), hG7, x5', hR7, by rw [eM9, gL_sL, if_pos ⟨rfl, rfl⟩, e8']⟩⟩
set_option maxHeartbeats 4000000 in
set_option maxRecDepth 100000 in
theorem c_L_firing (l : Launch) (hl9 : l.stackTraces = false) (D : va_G) (cA : Nat → ClassId) (sh : Nat → Option Sh) (ad : Nat → Nat) (M : MS) (sz : Nat) (σ : AS) (v : VT) (hX : XSh (aN σ) sh) (hXX : XX σ v M) (hO : sh 90 = some (.inr (2, 1))) (a : Int32) : Met l yL_firing wsL_firing ({ frames := 7, cells := 1, slots := 6, locals := 116 }) (lPc D cA sh ad M sz [.ref (ad 0), .int a, .ref (ad 90)]) (wQi D cA sh ad (fun r M' => (∀ p k, 60 ≤ p → p ≤ 84 → gI M' p k = gI M p k) ∧ XX σ v M' ∧ ((r = 0 ∧ ∃ x, (∃ q c, Srt σ 40 q c ∧ fiB (lit σ q c) a = true ∧ x = nI (firA σ q c (n1 a))) ∧ gL M' 90 0 = x.toInt64) ∨ (r = 1 ∧ ∃ q c, Srt σ 40 q c ∧ fiB (lit σ q c) a = false))) (wA sh ad sz)) 1 6 (wA sh ad sz) := by
  refine Met.ofWH (cc := cL_firing) (maxL := 4) (ret := (some .int)) (hh := [(0, 9, 12, 44)]) (by decide) rfl ?_
  intro p e s m args below meth cd0 s₁ B hml hTB hv
  obtain ⟨rfl, hsz, hM, hK, hE, hZ, hE2⟩ := hv
  have hx := B.exec
  have hb := B.bytes
  have hr := B.returns
  have hts := atoms_spec (ws := wsL_firing) B.pre
  have hown : s.vm.findClass RL = some m.cls := findClass_of_methodNamed B.named
  have hlocks := B.notSynchronized
  subst hsz
  have hA := wA_PA sh ad s.heap
  generalize wA sh ad s.heap.size = A at hA hZ ⊢
  have hW : WS D cA sh ad A s.heap M s.heap [] := ⟨hM, va_S.rf⟩
  have hl := lv_entry ([.ref (ad 0), .int a, .ref (ad 90)]) (n := 4) (Nat.le_of_ble_eq_true rfl)
  rw [lg_entry_eq]
  generalize (lg_sl ([.ref (ad 0), .int a, .ref (ad 90)]) ++ List.replicate (4 - (lg_sl ([.ref (ad 0), .int a, .ref (ad 90)])).length) Slot.unset).toArray = ls at hl ⊢
  have hl : lv_has ls 4 [(0, .ref (ad 0)), (1, .int a), (2, .ref (ad 90))] := hl
  refine lv_aload_n hx hb dL_firing_0 rfl (lv_at hl 2 rfl) ?_
  refine lv_iconst (v := 0) hx hb dL_firing_1 (by decide) ?_
  refine lv_aload_n hx hb dL_firing_2 rfl (lv_at hl 0 rfl) ?_
  refine lv_iload_n hx hb dL_firing_3 rfl (lv_at hl 1 rfl) ?_
  refine wx_wi (vx_runV (As := [.int a]) (rest := [.int 0, .ref (ad 90)]) ⟨hx, hb, hml, hown, hts⟩ (c_X9_firing l hl9 D cA sh ad M _ σ v hX hXX a) (cwV 1 hts gL_firing_X9_firing rfl rfl rfl (by decide +kernel) ⟨Nat.le_of_ble_eq_true rfl, Nat.le_of_ble_eq_true rfl⟩) (xpreV hK hA hW hE hZ (C := RX9) (ci := 9) (hX.1 0 (by decide)) rfl) rfl rfl hl.1 rfl (lv_room (Nat.le_of_ble_eq_true rfl)) dL_firing_4 ⟨Nat.le_of_ble_eq_true rfl, Nat.le_of_ble_eq_true rfl⟩) hA hW (fun E ce q9 M9' H locs p9' hW hce hcv hcl => ?_) (fun x4' M4' H locs p4' hW => ?_)
  · obtain ⟨eE, o9, hX9, hG9⟩ := p9'
    subst eE
    refine vx_catch (own := RL) (name := nIO) hown [] _ [] (show _ = [] ++ _ :: [] from hTB) (fun z hz => nomatch hz) (by decide) (by decide) (hts (.classLink RL 44 "java/lang/IndexOutOfBoundsException") (List.mem_of_getElem? (i := 1) rfl)) (va_Nw.use rfl (hE.1 _ (List.mem_cons_of_mem _ (List.mem_cons_of_mem _ List.mem_cons_self)))) hce hcv hcl ?_
    refine W.eq (g2 := F0 m 12 ls [.ref q9]) rfl ?_
    refine lv_astore_n (lv' := [(3, .ref q9), (0, .ref (ad 0)), (1, .int a), (2, .ref (ad 90))]) hx hb dL_firing_12 rfl hl (by decide) rfl (fun ls hl => ?_)
    refine lv_iconst (v := 1) hx hb dL_firing_13 (by decide) ?_
    refine W.widen (k := 1) (n := 6) (by decide) (by decide) ?_
    exact wr_wi hx hb hr hlocks hW dL_firing_14 ⟨(fun p k h1 h2 => (o9 p k (fun z => by unfold XSx at z; omega)).1), hX9, Or.inr ⟨rfl, hG9⟩⟩
  · try dsimp only at p4'
    obtain ⟨o7, hX7, hR7⟩ := p4'
    refine lv_i2l hx hb dL_firing_7 rfl ?_
    refine lv_topl (fun x7' e7' => ?_)
    refine wasL (j := 0) hx hb hK hA hW hO (nlit 0) (by omega) (by decide) dL_firing_8 (fun M8' H locs eM8 hW => ?_)
    refine lv_goto (tgt := 15) hx hb dL_firing_9 (by decide) ?_
    refine lv_iconst (v := 0) hx hb dL_firing_15 (by decide) ?_
    refine W.widen (k := 1) (n := 6) (by decide) (by decide) ?_
    exact wr_wi hx hb hr hlocks hW dL_firing_16 ⟨fun p k h1 h2 => by rw [eM8, gI_sL]; exact (o7 p k (fun z => by unfold XSx at z; omega)).1, hX7.fr (S := fun p _ => p = 90) (by rw [eM8]; exact oA.putL oA.rf rfl) (fun p k z => by omega), Or.inl ⟨rfl, x4', hR7, by rw [eM8, gL_sL, if_pos ⟨rfl, rfl⟩, e7']⟩⟩
set_option maxHeartbeats 4000000 in
set_option maxRecDepth 100000 in
theorem c_L_falls (l : Launch) (hl9 : l.stackTraces = false) (D : va_G) (cA : Nat → ClassId) (sh : Nat → Option Sh) (ad : Nat → Nat) (M : MS) (sz : Nat) (σ : AS) (v : VT) (hX : XSh (aN σ) sh) (hXX : XX σ v M) (hO : sh 90 = some (.inr (2, 1))) (a b : Int32) : Met l yL_falls wsL_falls ({ frames := 8, cells := 2, slots := 12, locals := 134 }) (lPc D cA sh ad M sz [.ref (ad 0), .int a, .int b, .ref (ad 90)]) (wQi D cA sh ad (fun r M' => (∀ p k, 60 ≤ p → p ≤ 84 → gI M' p k = gI M p k) ∧ XX σ v M' ∧ ((r = 0 ∧ cuB σ a = true ∧ inB b 0 3 = true ∧ ∃ x, x = tolA σ (n1 a) b ∧ gL M' 90 0 = x.toInt64) ∨ (r = 1 ∧ cuB σ a = false) ∨ (r = 2 ∧ cuB σ a = true ∧ inB b 0 3 = false))) (wA sh ad sz)) 2 12 (wA sh ad sz) := by
  refine Met.ofWH (cc := cL_falls) (maxL := 5) (ret := (some .int)) (hh := [(0, 10, 13, 44), (0, 10, 17, 13)]) (by decide) rfl ?_
  intro p e s m args below meth cd0 s₁ B hml hTB hv
  obtain ⟨rfl, hsz, hM, hK, hE, hZ, hE2⟩ := hv
  have hx := B.exec
  have hb := B.bytes
  have hr := B.returns
  have hts := atoms_spec (ws := wsL_falls) B.pre
  have hown : s.vm.findClass RL = some m.cls := findClass_of_methodNamed B.named
  have hlocks := B.notSynchronized
  subst hsz
  have hA := wA_PA sh ad s.heap
  generalize wA sh ad s.heap.size = A at hA hZ ⊢
  have hW : WS D cA sh ad A s.heap M s.heap [] := ⟨hM, va_S.rf⟩
  have hl := lv_entry ([.ref (ad 0), .int a, .int b, .ref (ad 90)]) (n := 5) (Nat.le_of_ble_eq_true rfl)
  rw [lg_entry_eq]
  generalize (lg_sl ([.ref (ad 0), .int a, .int b, .ref (ad 90)]) ++ List.replicate (5 - (lg_sl ([.ref (ad 0), .int a, .int b, .ref (ad 90)])).length) Slot.unset).toArray = ls at hl ⊢
  have hl : lv_has ls 5 [(0, .ref (ad 0)), (1, .int a), (2, .int b), (3, .ref (ad 90))] := hl
  refine lv_aload_n hx hb dL_falls_0 rfl (lv_at hl 3 rfl) ?_
  refine lv_iconst (v := 0) hx hb dL_falls_1 (by decide) ?_
  refine lv_aload_n hx hb dL_falls_2 rfl (lv_at hl 0 rfl) ?_
  refine lv_iload_n hx hb dL_falls_3 rfl (lv_at hl 1 rfl) ?_
  refine lv_iload_n hx hb dL_falls_4 rfl (lv_at hl 2 rfl) ?_
  refine wx_wi (vx_runV (As := [.int a, .int b]) (rest := [.int 0, .ref (ad 90)]) ⟨hx, hb, hml, hown, hts⟩ (c_X9_falls l hl9 D cA sh ad M _ σ v hX hXX a b) (cwV 2 hts gL_falls_X9_falls rfl rfl rfl (by decide +kernel) ⟨Nat.le_of_ble_eq_true rfl, Nat.le_of_ble_eq_true rfl⟩) (xpreV hK hA hW hE hZ (C := RX9) (ci := 9) (hX.1 0 (by decide)) rfl) rfl rfl hl.1 rfl (lv_room (Nat.le_of_ble_eq_true rfl)) dL_falls_5 ⟨Nat.le_of_ble_eq_true rfl, Nat.le_of_ble_eq_true rfl⟩) hA hW (fun E ce q9 M9' H locs p9' hW hce hcv hcl => ?_) (fun x5' M5' H locs p5' hW => ?_)
  · obtain ⟨⟨eE, hG9⟩ | ⟨eE, hG8, hG9⟩, o9, hX9⟩ := p9'
    · subst eE
      refine vx_catch (own := RL) (name := nIO) hown [] _ [_] (show _ = [] ++ _ :: [_] from hTB) (fun z hz => nomatch hz) (by decide) (by decide) (hts (.classLink RL 44 "java/lang/IndexOutOfBoundsException") (List.mem_of_getElem? (i := 1) rfl)) (va_Nw.use rfl (hE.1 _ (List.mem_cons_of_mem _ (List.mem_cons_of_mem _ List.mem_cons_self)))) hce hcv hcl ?_
      refine W.eq (g2 := F0 m 13 ls [.ref q9]) rfl ?_
      refine lv_astore (lv' := [(4, .ref q9), (0, .ref (ad 0)), (1, .int a), (2, .int b), (3, .ref (ad 90))]) hx hb dL_falls_13 hl (by decide) rfl (fun ls hl => ?_)
      refine lv_iconst (v := 1) hx hb dL_falls_15 (by decide) ?_
      refine W.widen (k := 2) (n := 12) (by decide) (by decide) ?_
      exact wr_wi hx hb hr hlocks hW dL_falls_16 ⟨(fun p k h1 h2 => (o9 p k (fun z => by unfold XSx at z; omega)).1), hX9, Or.inr (Or.inl ⟨rfl, hG9⟩)⟩
    · subst eE
      refine vx_catch (own := RL) (name := nIA) hown [_] _ [] (show _ = [_] ++ _ :: [] from hTB) (fun z hz => by rw [List.mem_singleton.mp hz]; exact Or.inr ⟨by decide, nIO, (hts (.classLink RL 44 "java/lang/IndexOutOfBoundsException") (List.mem_of_getElem? (i := 1) rfl)), hE2.2⟩) (by decide) (by decide) (hts (.classLink RL 13 "java/lang/IllegalArgumentException") (List.mem_of_getElem? (i := 2) rfl)) (va_Nw.use rfl (hE.1 _ List.mem_cons_self)) hce hcv hcl ?_
      refine W.eq (g2 := F0 m 17 ls [.ref q9]) rfl ?_
      refine lv_astore (lv' := [(4, .ref q9), (0, .ref (ad 0)), (1, .int a), (2, .int b), (3, .ref (ad 90))]) hx hb dL_falls_17 hl (by decide) rfl (fun ls hl => ?_)
      refine lv_iconst (v := 2) hx hb dL_falls_19 (by decide) ?_
      refine W.widen (k := 2) (n := 12) (by decide) (by decide) ?_
      exact wr_wi hx hb hr hlocks hW dL_falls_20 ⟨(fun p k h1 h2 => (o9 p k (fun z => by unfold XSx at z; omega)).1), hX9, Or.inr (Or.inr ⟨rfl, hG8, hG9⟩)⟩
  · try dsimp only at p5'
    obtain ⟨o7, hX7, hG7, hH7, hR7⟩ := p5'
    refine lv_i2l hx hb dL_falls_8 rfl ?_
    refine lv_topl (fun x8' e8' => ?_)
    refine wasL (j := 0) hx hb hK hA hW hO (nlit 0) (by omega) (by decide) dL_falls_9 (fun M9' H locs eM9 hW => ?_)
    refine lv_goto (tgt := 21) hx hb dL_falls_10 (by decide) ?_
    refine lv_iconst (v := 0) hx hb dL_falls_21 (by decide) ?_
    refine W.widen (k := 2) (n := 12) (by decide) (by decide) ?_
    exact wr_wi hx hb hr hlocks hW dL_falls_22 ⟨fun p k h1 h2 => by rw [eM9, gI_sL]; exact (o7 p k (fun z => by unfold XSx at z; omega)).1, hX7.fr (S := fun p _ => p = 90) (by rw [eM9]; exact oA.putL oA.rf rfl) (fun p k z => by omega), Or.inl ⟨rfl, hG7, hH7, x5', hR7, by rw [eM9, gL_sL, if_pos ⟨rfl, rfl⟩, e8']⟩⟩
set_option maxHeartbeats 4000000 in
set_option maxRecDepth 100000 in
theorem c_L_fallsBySteps (l : Launch) (hl9 : l.stackTraces = false) (D : va_G) (cA : Nat → ClassId) (sh : Nat → Option Sh) (ad : Nat → Nat) (M : MS) (sz : Nat) (σ : AS) (v : VT) (hX : XSh (aN σ) sh) (hXX : XX σ v M) (hO : sh 90 = some (.inr (2, 1))) (a b : Int32) : Met l yL_fallsBySteps wsL_fallsBySteps ({ frames := 8, cells := 2, slots := 12, locals := 135 }) (lPc D cA sh ad M sz [.ref (ad 0), .int a, .int b, .ref (ad 90)]) (wQi D cA sh ad (fun r M' => (∀ p k, 60 ≤ p → p ≤ 84 → gI M' p k = gI M p k) ∧ XX σ v M' ∧ ((r = 0 ∧ cuB σ a = true ∧ inB b 0 3 = true ∧ ∃ x, x = tolA σ (n1 a) b ∧ gL M' 90 0 = x.toInt64) ∨ (r = 1 ∧ cuB σ a = false) ∨ (r = 2 ∧ cuB σ a = true ∧ inB b 0 3 = false))) (wA sh ad sz)) 2 12 (wA sh ad sz) := by
  refine Met.ofWH (cc := cL_fallsBySteps) (maxL := 5) (ret := (some .int)) (hh := [(0, 10, 13, 44), (0, 10, 17, 13)]) (by decide) rfl ?_
  intro p e s m args below meth cd0 s₁ B hml hTB hv
  obtain ⟨rfl, hsz, hM, hK, hE, hZ, hE2⟩ := hv
  have hx := B.exec
  have hb := B.bytes
  have hr := B.returns
  have hts := atoms_spec (ws := wsL_fallsBySteps) B.pre
  have hown : s.vm.findClass RL = some m.cls := findClass_of_methodNamed B.named
  have hlocks := B.notSynchronized
  subst hsz
  have hA := wA_PA sh ad s.heap
  generalize wA sh ad s.heap.size = A at hA hZ ⊢
  have hW : WS D cA sh ad A s.heap M s.heap [] := ⟨hM, va_S.rf⟩
  have hl := lv_entry ([.ref (ad 0), .int a, .int b, .ref (ad 90)]) (n := 5) (Nat.le_of_ble_eq_true rfl)
  rw [lg_entry_eq]
  generalize (lg_sl ([.ref (ad 0), .int a, .int b, .ref (ad 90)]) ++ List.replicate (5 - (lg_sl ([.ref (ad 0), .int a, .int b, .ref (ad 90)])).length) Slot.unset).toArray = ls at hl ⊢
  have hl : lv_has ls 5 [(0, .ref (ad 0)), (1, .int a), (2, .int b), (3, .ref (ad 90))] := hl
  refine lv_aload_n hx hb dL_fallsBySteps_0 rfl (lv_at hl 3 rfl) ?_
  refine lv_iconst (v := 0) hx hb dL_fallsBySteps_1 (by decide) ?_
  refine lv_aload_n hx hb dL_fallsBySteps_2 rfl (lv_at hl 0 rfl) ?_
  refine lv_iload_n hx hb dL_fallsBySteps_3 rfl (lv_at hl 1 rfl) ?_
  refine lv_iload_n hx hb dL_fallsBySteps_4 rfl (lv_at hl 2 rfl) ?_
  refine wx_wi (vx_runV (As := [.int a, .int b]) (rest := [.int 0, .ref (ad 90)]) ⟨hx, hb, hml, hown, hts⟩ (c_X9_fallsBySteps l hl9 D cA sh ad M _ σ v hX hXX a b) (cwV 2 hts gL_fallsBySteps_X9_fallsBySteps rfl rfl rfl (by decide +kernel) ⟨Nat.le_of_ble_eq_true rfl, Nat.le_of_ble_eq_true rfl⟩) (xpreV hK hA hW hE hZ (C := RX9) (ci := 9) (hX.1 0 (by decide)) rfl) rfl rfl hl.1 rfl (lv_room (Nat.le_of_ble_eq_true rfl)) dL_fallsBySteps_5 ⟨Nat.le_of_ble_eq_true rfl, Nat.le_of_ble_eq_true rfl⟩) hA hW (fun E ce q9 M9' H locs p9' hW hce hcv hcl => ?_) (fun x5' M5' H locs p5' hW => ?_)
  · obtain ⟨⟨eE, hG9⟩ | ⟨eE, hG8, hG9⟩, o9, hX9⟩ := p9'
    · subst eE
      refine vx_catch (own := RL) (name := nIO) hown [] _ [_] (show _ = [] ++ _ :: [_] from hTB) (fun z hz => nomatch hz) (by decide) (by decide) (hts (.classLink RL 44 "java/lang/IndexOutOfBoundsException") (List.mem_of_getElem? (i := 1) rfl)) (va_Nw.use rfl (hE.1 _ (List.mem_cons_of_mem _ (List.mem_cons_of_mem _ List.mem_cons_self)))) hce hcv hcl ?_
      refine W.eq (g2 := F0 m 13 ls [.ref q9]) rfl ?_
      refine lv_astore (lv' := [(4, .ref q9), (0, .ref (ad 0)), (1, .int a), (2, .int b), (3, .ref (ad 90))]) hx hb dL_fallsBySteps_13 hl (by decide) rfl (fun ls hl => ?_)
      refine lv_iconst (v := 1) hx hb dL_fallsBySteps_15 (by decide) ?_
      refine W.widen (k := 2) (n := 12) (by decide) (by decide) ?_
      exact wr_wi hx hb hr hlocks hW dL_fallsBySteps_16 ⟨(fun p k h1 h2 => (o9 p k (fun z => by unfold XSx at z; omega)).1), hX9, Or.inr (Or.inl ⟨rfl, hG9⟩)⟩
    · subst eE
      refine vx_catch (own := RL) (name := nIA) hown [_] _ [] (show _ = [_] ++ _ :: [] from hTB) (fun z hz => by rw [List.mem_singleton.mp hz]; exact Or.inr ⟨by decide, nIO, (hts (.classLink RL 44 "java/lang/IndexOutOfBoundsException") (List.mem_of_getElem? (i := 1) rfl)), hE2.2⟩) (by decide) (by decide) (hts (.classLink RL 13 "java/lang/IllegalArgumentException") (List.mem_of_getElem? (i := 2) rfl)) (va_Nw.use rfl (hE.1 _ List.mem_cons_self)) hce hcv hcl ?_
      refine W.eq (g2 := F0 m 17 ls [.ref q9]) rfl ?_
      refine lv_astore (lv' := [(4, .ref q9), (0, .ref (ad 0)), (1, .int a), (2, .int b), (3, .ref (ad 90))]) hx hb dL_fallsBySteps_17 hl (by decide) rfl (fun ls hl => ?_)
      refine lv_iconst (v := 2) hx hb dL_fallsBySteps_19 (by decide) ?_
      refine W.widen (k := 2) (n := 12) (by decide) (by decide) ?_
      exact wr_wi hx hb hr hlocks hW dL_fallsBySteps_20 ⟨(fun p k h1 h2 => (o9 p k (fun z => by unfold XSx at z; omega)).1), hX9, Or.inr (Or.inr ⟨rfl, hG8, hG9⟩)⟩
  · try dsimp only at p5'
    obtain ⟨o7, hX7, hG7, hH7, hR7⟩ := p5'
    refine lv_i2l hx hb dL_fallsBySteps_8 rfl ?_
    refine lv_topl (fun x8' e8' => ?_)
    refine wasL (j := 0) hx hb hK hA hW hO (nlit 0) (by omega) (by decide) dL_fallsBySteps_9 (fun M9' H locs eM9 hW => ?_)
    refine lv_goto (tgt := 21) hx hb dL_fallsBySteps_10 (by decide) ?_
    refine lv_iconst (v := 0) hx hb dL_fallsBySteps_21 (by decide) ?_
    refine W.widen (k := 2) (n := 12) (by decide) (by decide) ?_
    exact wr_wi hx hb hr hlocks hW dL_fallsBySteps_22 ⟨fun p k h1 h2 => by rw [eM9, gI_sL]; exact (o7 p k (fun z => by unfold XSx at z; omega)).1, hX7.fr (S := fun p _ => p = 90) (by rw [eM9]; exact oA.putL oA.rf rfl) (fun p k z => by omega), Or.inl ⟨rfl, hG7, hH7, x5', hR7, by rw [eM9, gL_sL, if_pos ⟨rfl, rfl⟩, e8']⟩⟩
set_option maxHeartbeats 4000000 in
set_option maxRecDepth 100000 in
theorem c_L_burstAt (l : Launch) (hl9 : l.stackTraces = false) (D : va_G) (cA : Nat → ClassId) (sh : Nat → Option Sh) (ad : Nat → Nat) (M : MS) (sz : Nat) (σ : AS) (v : VT) (hX : XSh (aN σ) sh) (hXX : XX σ v M) (hO : sh 90 = some (.inr (2, 1))) (a b : Int32) : Met l yL_burstAt wsL_burstAt ({ frames := 8, cells := 2, slots := 12, locals := 135 }) (lPc D cA sh ad M sz [.ref (ad 0), .int a, .int b, .ref (ad 90)]) (wQi D cA sh ad (fun r M' => (∀ p k, 60 ≤ p → p ≤ 84 → gI M' p k = gI M p k) ∧ XX σ v M' ∧ ((r = 0 ∧ cuB σ a = true ∧ inB b 0 2 = true ∧ ∃ x, x = bstA σ (n1 a) b ∧ gL M' 90 0 = x.toInt64) ∨ (r = 1 ∧ cuB σ a = false) ∨ (r = 2 ∧ cuB σ a = true ∧ inB b 0 2 = false))) (wA sh ad sz)) 2 12 (wA sh ad sz) := by
  refine Met.ofWH (cc := cL_burstAt) (maxL := 5) (ret := (some .int)) (hh := [(0, 10, 13, 44), (0, 10, 17, 13)]) (by decide) rfl ?_
  intro p e s m args below meth cd0 s₁ B hml hTB hv
  obtain ⟨rfl, hsz, hM, hK, hE, hZ, hE2⟩ := hv
  have hx := B.exec
  have hb := B.bytes
  have hr := B.returns
  have hts := atoms_spec (ws := wsL_burstAt) B.pre
  have hown : s.vm.findClass RL = some m.cls := findClass_of_methodNamed B.named
  have hlocks := B.notSynchronized
  subst hsz
  have hA := wA_PA sh ad s.heap
  generalize wA sh ad s.heap.size = A at hA hZ ⊢
  have hW : WS D cA sh ad A s.heap M s.heap [] := ⟨hM, va_S.rf⟩
  have hl := lv_entry ([.ref (ad 0), .int a, .int b, .ref (ad 90)]) (n := 5) (Nat.le_of_ble_eq_true rfl)
  rw [lg_entry_eq]
  generalize (lg_sl ([.ref (ad 0), .int a, .int b, .ref (ad 90)]) ++ List.replicate (5 - (lg_sl ([.ref (ad 0), .int a, .int b, .ref (ad 90)])).length) Slot.unset).toArray = ls at hl ⊢
  have hl : lv_has ls 5 [(0, .ref (ad 0)), (1, .int a), (2, .int b), (3, .ref (ad 90))] := hl
  refine lv_aload_n hx hb dL_burstAt_0 rfl (lv_at hl 3 rfl) ?_
  refine lv_iconst (v := 0) hx hb dL_burstAt_1 (by decide) ?_
  refine lv_aload_n hx hb dL_burstAt_2 rfl (lv_at hl 0 rfl) ?_
  refine lv_iload_n hx hb dL_burstAt_3 rfl (lv_at hl 1 rfl) ?_
  refine lv_iload_n hx hb dL_burstAt_4 rfl (lv_at hl 2 rfl) ?_
  refine wx_wi (vx_runV (As := [.int a, .int b]) (rest := [.int 0, .ref (ad 90)]) ⟨hx, hb, hml, hown, hts⟩ (c_X9_burstAt l hl9 D cA sh ad M _ σ v hX hXX a b) (cwV 2 hts gL_burstAt_X9_burstAt rfl rfl rfl (by decide +kernel) ⟨Nat.le_of_ble_eq_true rfl, Nat.le_of_ble_eq_true rfl⟩) (xpreV hK hA hW hE hZ (C := RX9) (ci := 9) (hX.1 0 (by decide)) rfl) rfl rfl hl.1 rfl (lv_room (Nat.le_of_ble_eq_true rfl)) dL_burstAt_5 ⟨Nat.le_of_ble_eq_true rfl, Nat.le_of_ble_eq_true rfl⟩) hA hW (fun E ce q9 M9' H locs p9' hW hce hcv hcl => ?_) (fun x5' M5' H locs p5' hW => ?_)
  · obtain ⟨⟨eE, hG9⟩ | ⟨eE, hG8, hG9⟩, o9, hX9⟩ := p9'
    · subst eE
      refine vx_catch (own := RL) (name := nIO) hown [] _ [_] (show _ = [] ++ _ :: [_] from hTB) (fun z hz => nomatch hz) (by decide) (by decide) (hts (.classLink RL 44 "java/lang/IndexOutOfBoundsException") (List.mem_of_getElem? (i := 1) rfl)) (va_Nw.use rfl (hE.1 _ (List.mem_cons_of_mem _ (List.mem_cons_of_mem _ List.mem_cons_self)))) hce hcv hcl ?_
      refine W.eq (g2 := F0 m 13 ls [.ref q9]) rfl ?_
      refine lv_astore (lv' := [(4, .ref q9), (0, .ref (ad 0)), (1, .int a), (2, .int b), (3, .ref (ad 90))]) hx hb dL_burstAt_13 hl (by decide) rfl (fun ls hl => ?_)
      refine lv_iconst (v := 1) hx hb dL_burstAt_15 (by decide) ?_
      refine W.widen (k := 2) (n := 12) (by decide) (by decide) ?_
      exact wr_wi hx hb hr hlocks hW dL_burstAt_16 ⟨(fun p k h1 h2 => (o9 p k (fun z => by unfold XSx at z; omega)).1), hX9, Or.inr (Or.inl ⟨rfl, hG9⟩)⟩
    · subst eE
      refine vx_catch (own := RL) (name := nIA) hown [_] _ [] (show _ = [_] ++ _ :: [] from hTB) (fun z hz => by rw [List.mem_singleton.mp hz]; exact Or.inr ⟨by decide, nIO, (hts (.classLink RL 44 "java/lang/IndexOutOfBoundsException") (List.mem_of_getElem? (i := 1) rfl)), hE2.2⟩) (by decide) (by decide) (hts (.classLink RL 13 "java/lang/IllegalArgumentException") (List.mem_of_getElem? (i := 2) rfl)) (va_Nw.use rfl (hE.1 _ List.mem_cons_self)) hce hcv hcl ?_
      refine W.eq (g2 := F0 m 17 ls [.ref q9]) rfl ?_
      refine lv_astore (lv' := [(4, .ref q9), (0, .ref (ad 0)), (1, .int a), (2, .int b), (3, .ref (ad 90))]) hx hb dL_burstAt_17 hl (by decide) rfl (fun ls hl => ?_)
      refine lv_iconst (v := 2) hx hb dL_burstAt_19 (by decide) ?_
      refine W.widen (k := 2) (n := 12) (by decide) (by decide) ?_
      exact wr_wi hx hb hr hlocks hW dL_burstAt_20 ⟨(fun p k h1 h2 => (o9 p k (fun z => by unfold XSx at z; omega)).1), hX9, Or.inr (Or.inr ⟨rfl, hG8, hG9⟩)⟩
  · try dsimp only at p5'
    obtain ⟨o7, hX7, hG7, hH7, hR7⟩ := p5'
    refine lv_i2l hx hb dL_burstAt_8 rfl ?_
    refine lv_topl (fun x8' e8' => ?_)
    refine wasL (j := 0) hx hb hK hA hW hO (nlit 0) (by omega) (by decide) dL_burstAt_9 (fun M9' H locs eM9 hW => ?_)
    refine lv_goto (tgt := 21) hx hb dL_burstAt_10 (by decide) ?_
    refine lv_iconst (v := 0) hx hb dL_burstAt_21 (by decide) ?_
    refine W.widen (k := 2) (n := 12) (by decide) (by decide) ?_
    exact wr_wi hx hb hr hlocks hW dL_burstAt_22 ⟨fun p k h1 h2 => by rw [eM9, gI_sL]; exact (o7 p k (fun z => by unfold XSx at z; omega)).1, hX7.fr (S := fun p _ => p = 90) (by rw [eM9]; exact oA.putL oA.rf rfl) (fun p k z => by omega), Or.inl ⟨rfl, hG7, hH7, x5', hR7, by rw [eM9, gL_sL, if_pos ⟨rfl, rfl⟩, e8']⟩⟩
set_option maxHeartbeats 4000000 in
set_option maxRecDepth 100000 in
theorem c_L_cue (l : Launch) (hl9 : l.stackTraces = false) (D : va_G) (cA : Nat → ClassId) (sh : Nat → Option Sh) (ad : Nat → Nat) (M : MS) (sz : Nat) (σ : AS) (v : VT) (hsh : sh = shL (aN σ)) (hXX : XX σ v M) (a b d : Int32) : Met l yL_cue wsL_cue ({ frames := 7, cells := 1, slots := 9, locals := 114 }) (lPc D cA sh ad M sz [.ref (ad 0), .int a, .int b, .int d, .ref (ad 90)]) (lQc D cA sh ad sz (fun r sh' M' => (∀ p k, 60 ≤ p → p ≤ 84 → gI M' p k = gI M p k) ∧ ((r = 0 ∧ sh' = shL (aN σ + 1) ∧ XX (oCue σ (n1 a) (n1 b) (n1 d)) v M' ∧ (inB a 0 100 && inB b 0 3 && inB d 0 5) = true ∧ aN σ < 40 ∧ ∃ x, x = nI (aN σ) ∧ gL M' 90 0 = x.toInt64) ∨ (sh' = shL (aN σ) ∧ XX σ v M' ∧ ((r = 1 ∧ (inB a 0 100 && inB b 0 3 && inB d 0 5) = false) ∨ (r = 2 ∧ (inB a 0 100 && inB b 0 3 && inB d 0 5) = true ∧ decide (aN σ < 40) = false))))) (wA sh ad sz)) 1 9 (wA sh ad sz) := by
  refine Met.ofWH (cc := cL_cue) (maxL := 6) (ret := (some .int)) (hh := [(0, 12, 15, 13), (0, 12, 19, 39)]) (by decide) rfl ?_
  intro p e s m args below meth cd0 s₁ B hml hTB hv
  obtain ⟨rfl, hsz, hM, hK, hE, hZ, hE2⟩ := hv
  have hx := B.exec
  have hb := B.bytes
  have hr := B.returns
  have hts := atoms_spec (ws := wsL_cue) B.pre
  have hown : s.vm.findClass RL = some m.cls := findClass_of_methodNamed B.named
  have hlocks := B.notSynchronized
  subst hsz
  have hA := wA_PA sh ad s.heap
  generalize wA sh ad s.heap.size = A at hA hZ ⊢
  have hW : WS D cA sh ad A s.heap M s.heap [] := ⟨hM, va_S.rf⟩
  have hl := lv_entry ([.ref (ad 0), .int a, .int b, .int d, .ref (ad 90)]) (n := 6) (Nat.le_of_ble_eq_true rfl)
  rw [lg_entry_eq]
  generalize (lg_sl ([.ref (ad 0), .int a, .int b, .int d, .ref (ad 90)]) ++ List.replicate (6 - (lg_sl ([.ref (ad 0), .int a, .int b, .int d, .ref (ad 90)])).length) Slot.unset).toArray = ls at hl ⊢
  have hl : lv_has ls 6 [(0, .ref (ad 0)), (1, .int a), (2, .int b), (3, .int d), (4, .ref (ad 90))] := hl
  have hX : XSh (aN σ) sh := by rw [hsh]; exact shL_X _
  have hO : sh 90 = some (.inr (2, 1)) := by rw [hsh]; exact shL_O _
  refine lv_aload hx hb dL_cue_0 (lv_at hl 4 rfl) ?_
  refine lv_iconst (v := 0) hx hb dL_cue_2 (by decide) ?_
  refine lv_aload_n hx hb dL_cue_3 rfl (lv_at hl 0 rfl) ?_
  refine lv_iload_n hx hb dL_cue_4 rfl (lv_at hl 1 rfl) ?_
  refine lv_iload_n hx hb dL_cue_5 rfl (lv_at hl 2 rfl) ?_
  refine lv_iload_n hx hb dL_cue_6 rfl (lv_at hl 3 rfl) ?_
  refine wx_ci (vx_runV (As := [.int a, .int b, .int d]) (rest := [.int 0, .ref (ad 90)]) ⟨hx, hb, hml, hown, hts⟩ (c_X9_cue l hl9 D cA sh ad M _ σ v hsh hXX a b d) (cwV 3 hts gL_cue_X9_cue rfl rfl rfl (by decide +kernel) ⟨Nat.le_of_ble_eq_true rfl, Nat.le_of_ble_eq_true rfl⟩) (xpreV hK hA hW hE hZ (C := RX9) (ci := 9) (hX.1 0 (by decide)) rfl) rfl rfl hl.1 rfl (lv_room (Nat.le_of_ble_eq_true rfl)) dL_cue_7 ⟨Nat.le_of_ble_eq_true rfl, Nat.le_of_ble_eq_true rfl⟩) hA hW (fun E ce q9 M9' H locs p9' hW hce hcv hcl => ?_) (fun x7' sh ad M7' H locs esh hk9 hf9 p7' hA hW => ?_)
  · obtain ⟨⟨eE, hG9⟩ | ⟨eE, hG8, hG9⟩, o9, hX9⟩ := p9'
    · subst eE
      refine vx_catch (own := RL) (name := nIA) hown [] _ [_] (show _ = [] ++ _ :: [_] from hTB) (fun z hz => nomatch hz) (by decide) (by decide) (hts (.classLink RL 13 "java/lang/IllegalArgumentException") (List.mem_of_getElem? (i := 1) rfl)) (va_Nw.use rfl (hE.1 _ List.mem_cons_self)) hce hcv hcl ?_
      refine W.eq (g2 := F0 m 15 ls [.ref q9]) rfl ?_
      refine lv_astore (lv' := [(5, .ref q9), (0, .ref (ad 0)), (1, .int a), (2, .int b), (3, .int d), (4, .ref (ad 90))]) hx hb dL_cue_15 hl (by decide) rfl (fun ls hl => ?_)
      refine lv_iconst (v := 1) hx hb dL_cue_17 (by decide) ?_
      refine W.widen (k := 1) (n := 9) (by decide) (by decide) ?_
      exact wr_lc hx hb hr hlocks hW dL_cue_18 GR.rf ⟨(fun p k h1 h2 => (o9 p k (fun z => by unfold XSx at z; omega)).1), Or.inr ⟨hsh, hX9, Or.inl ⟨rfl, hG9⟩⟩⟩
    · subst eE
      refine vx_catch (own := RL) (name := nIS) hown [_] _ [] (show _ = [_] ++ _ :: [] from hTB) (fun z hz => by rw [List.mem_singleton.mp hz]; exact Or.inr ⟨by decide, nIA, (hts (.classLink RL 13 "java/lang/IllegalArgumentException") (List.mem_of_getElem? (i := 1) rfl)), hE2.1⟩) (by decide) (by decide) (hts (.classLink RL 39 "java/lang/IllegalStateException") (List.mem_of_getElem? (i := 2) rfl)) (va_Nw.use rfl (hE.1 _ (List.mem_cons_of_mem _ List.mem_cons_self))) hce hcv hcl ?_
      refine W.eq (g2 := F0 m 19 ls [.ref q9]) rfl ?_
      refine lv_astore (lv' := [(5, .ref q9), (0, .ref (ad 0)), (1, .int a), (2, .int b), (3, .int d), (4, .ref (ad 90))]) hx hb dL_cue_19 hl (by decide) rfl (fun ls hl => ?_)
      refine lv_iconst (v := 2) hx hb dL_cue_21 (by decide) ?_
      refine W.widen (k := 1) (n := 9) (by decide) (by decide) ?_
      exact wr_lc hx hb hr hlocks hW dL_cue_22 GR.rf ⟨(fun p k h1 h2 => (o9 p k (fun z => by unfold XSx at z; omega)).1), Or.inr ⟨hsh, hX9, Or.inr ⟨rfl, hG8, hG9⟩⟩⟩
  · try dsimp only at p7'
    rw [← (hk9 0 _ (hX.1 0 (by decide)))] at hl
    rw [← (hk9 90 _ hO)] at hl
    rw [← (hk9 90 _ hO)]
    obtain ⟨o7, hX7, hG7, hn7, hR7⟩ := p7'
    have hG := GR_of hk9 hf9 (by rw [esh]; intro t ht; rw [hsh] at ht; exact shL_up ht)
    have hO : sh 90 = some (.inr (2, 1)) := by rw [esh]; exact shL_O _
    refine lv_i2l hx hb dL_cue_10 rfl ?_
    refine lv_topl (fun x10' e10' => ?_)
    refine wasL (j := 0) hx hb hK hA hW hO (nlit 0) (by omega) (by decide) dL_cue_11 (fun M11' H locs eM11 hW => ?_)
    refine lv_goto (tgt := 23) hx hb dL_cue_12 (by decide) ?_
    refine lv_iconst (v := 0) hx hb dL_cue_23 (by decide) ?_
    refine W.widen (k := 1) (n := 9) (by decide) (by decide) ?_
    exact wr_lc hx hb hr hlocks hW dL_cue_24 hG ⟨fun p k h1 h2 => by rw [eM11, gI_sL]; exact (o7 p k (by omega) (by omega)).1, Or.inl ⟨rfl, esh, hX7.fr (S := fun p _ => p = 90) (by rw [eM11]; exact oA.putL oA.rf rfl) (fun p k z => by omega), hG7, hn7, x7', hR7, by rw [eM11, gL_sL, if_pos ⟨rfl, rfl⟩, e10']⟩⟩

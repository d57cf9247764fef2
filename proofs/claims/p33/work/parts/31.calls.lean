/-! The law's own calls. -/
theorem Met.ofWH {l : Launch} {y : MethodName} {ws ws' : List Cond} {rm : Room} {Pc : Array Value → State → Prop} {Qc : Array Value → State → Outcome → State → Prop} {mc ms : Nat} {free : Addr → Prop} {cc : ByteArray} {maxL : Nat} {ret : Option FieldType} {hh : List (Nat × Nat × Nat × Nat)}
    (hy : plainName y.cls = true) (hw : ws = Cond.codeWith y cc maxL ret hh :: ws')
    (body : ∀ p e s m args below meth c s₁, BodyLoose p l y (headSpec ws rm) cc maxL ret e s m args below meth c s₁ → c.maxLocals = maxL → c.exceptionTable.toList = tableOf hh → Pc args s →
      W p l e (headSpec ws rm).room s m args below meth c s.heap [] 0 0 (MQ below Qc args s mc ms free) (entryFrame m args maxL)) : Met l y ws rm Pc Qc mc ms free := by
  refine MetFree.of_bodyS (code := cc) (maxLocals := maxL) (ret := ret) hy ?_ ?_
  · intro args s m h hn
    obtain ⟨m9, meth, c, hn9, h1, h2, h3, h4, -, h5, h6, -⟩ := Cond.codeWith_spec (atoms_spec (ws := ws) h _ (by rw [hw]; exact List.mem_cons_self))
    cases hn.symm.trans hn9
    exact ⟨meth, c, h1, h2, h3, h4, h5, h6⟩
  · intro p e s m args below meth c s₁ B hml hP _
    have hh0 : s₁.heap = s.heap := by rw [B.state]; rfl
    have hT := vx_table (x := y) B (atoms_spec (ws := ws) B.pre _ (by rw [hw]; exact List.mem_cons_self))
    obtain ⟨t, a1, o, b1, b2, b3⟩ := body p e s m args below meth c s₁ B hml hT hP s₁ hh0 (Stand.of_body B)
    exact ⟨t, o, a1, b1, b2, ⟨b3.1, b3.2⟩⟩
def lPc (D : va_G) (cA : Nat → ClassId) (sh : Nat → Option Sh) (ad : Nat → Nat) (M : MS) (sz : Nat) (av : List Value) : Array Value → State → Prop := va_Pc av (fun U => U.heap.size = sz ∧ WM D cA sh ad M U.heap ∧ va_K D vwCl (wty cA) U ∧ EXs U ∧ EXz (wA sh ad sz) U U.heap ∧ va_Nc nIS nIA U ∧ va_Nc nIA nIO U)
theorem lPc_blind {D : va_G} {cA : Nat → ClassId} {sh : Nat → Option Sh} {ad : Nat → Nat} {M : MS} {sz : Nat} {av : List Value} : FrameBlind (lPc D cA sh ad M sz av) := fun a U g mk q => by
  obtain ⟨q0, q1, qP, qK, qE, qZ, qN1, qN2⟩ := q
  exact ⟨q0, q1, qP, va_K.moved (u := U) (U := U.calling g mk a) (Vm.Alike.refl U.vm) qK, EXs.warm (U := U.calling g mk a) (State.WarmedH.refl U) qE, EXz.to (U := U.calling g mk a) (Vm.Alike.refl U.vm) qZ (fun _ _ _ => rfl) (fun _ h => h), va_Nc.moved (u := U) (U := U.calling g mk a) (Vm.Alike.refl U.vm) qN1, va_Nc.moved (u := U) (U := U.calling g mk a) (Vm.Alike.refl U.vm) qN2⟩
def lQc (D : va_G) (cA : Nat → ClassId) (sh : Nat → Option Sh) (ad : Nat → Nat) (sz : Nat) (post : Int32 → (Nat → Option Sh) → MS → Prop) (A : Nat → Prop) : Array Value → State → Outcome → State → Prop :=
  va_Qi (S := (Nat → Option Sh) × (Nat → Nat) × MS) (fun r u => GR sh ad sz u.1 u.2.1 ∧ post r u.1 u.2.2) (fun u t => WM D cA u.1 u.2.1 u.2.2 t.heap) A
section WL
variable {p : Program} {l : Launch} {e : Env} {R : Room} {s : State} {m : MethodId} {args : Array Value} {below : List Frame} {meth : Method} {c : Code} {H : Heap} {locs : List Loc} {cells slots : Nat} {Q : State → Prop}
variable {cc : ByteArray} {pc : Nat} {ls : Array Slot} {st0 rest : List Value} {D : va_G} {cA : Nat → ClassId} {sh : Nat → Option Sh} {ad : Nat → Nat} {A : Nat → Prop} {H0 : Heap} {M : MS} {a : Array Value} {As : List Value}
theorem lpreS (hK : va_K D vwCl (wty cA) s) (hA : PA sh ad A s.heap) (hW : WS D cA sh ad A s.heap M H locs) (hE : EXs s) (hZ : EXz A s s.heap) (hN : va_Nc nIS nIA s ∧ va_Nc nIA nIO s) : PreS s H (lPc D cA sh ad M H.size As) As :=
  ⟨lPc_blind, fun U hU hv => ⟨rfl, by rw [hU], by rw [hU]; exact hW.1, va_K.moved hv.alike hK, hE.warm hv, by rw [hU]; exact hZ.to hv.alike hW.2.2.1 (wA_in hA hW.2.1), va_Nc.moved hv.alike hN.1, va_Nc.moved hv.alike hN.2⟩⟩
/-- behind a call that makes, or throws -/
theorem wx_ci {post : Int32 → MS → Prop} {pxc : String → MS → Prop} {sh2 : Nat → Option Sh} {mc1 ms1 : Nat} (hr : vx_Run p l e R s m args below meth c H locs cells slots mc1 ms1 (F0 m pc ls st0) rest (cQi D cA sh ad H.size sh2 post (wA sh ad H.size) a) (xXC D cA sh ad pxc (wA sh ad H.size)) (wA sh ad H.size)) (hA : PA sh ad A s.heap) (hW : WS D cA sh ad A s.heap M H locs)
    (kx : ∀ (E : String) (ce : Cell) (q9 : Addr) (M' : MS) (H1 : Heap) (locs1 : List Loc), pxc E M' → WS D cA sh ad A s.heap M' H1 locs1 → H1[q9]? = some ce → ce.vm = .none → s.vm.findClass E = some ce.cls → vx_W p l e R s m args below meth c H1 locs1 (cells + mc1) (slots + ms1) Q (F0 m pc ls rest) q9)
    (kk : ∀ (r : Int32) (sh1 : Nat → Option Sh) (ad1 : Nat → Nat) (M' : MS) (H1 : Heap) (locs1 : List Loc), sh1 = sh2 → (∀ p y, sh p = some y → ad1 p = ad p) → (∀ p y, sh1 p = some y → sh p = none → s.heap.size ≤ ad1 p) → post r M' → PA sh1 ad1 A s.heap → WS D cA sh1 ad1 A s.heap M' H1 locs1 → W p l e R s m args below meth c H1 locs1 (cells + mc1) (slots + ms1) Q (F0 m (pc + 3) ls (.int r :: rest))) : W p l e R s m args below meth c H locs cells slots Q (F0 m pc ls st0) :=
  vx_calli hr hW.2 (fun q _ h => wA_in hA hW.2.1 q h) (fun q h => wA_in hA hW.2.1 q h) (fun q _ h => wA_in hA hW.2.1 q h)
    (fun E ce q9 u t H1 locs1 ht _ _ hB _ _ hS hce hcv hcl => kx E ce q9 u H1 locs1 hB.1 ⟨ht ▸ hB.2, hS⟩ hce hcv hcl)
    (fun r u t H1 locs1 ht _ hp hB _ _ hS => by
      have hf : ∀ p y, sh2 p = some y → sh p = none → s.heap.size ≤ u.1 p := fun p y h1 h2 => Nat.le_trans hW.2.1 (hp.2.1 p y h1 h2)
      refine kk r sh2 u.1 u.2 H1 locs1 rfl hp.1 hf hp.2.2 ⟨fun p x hx => ?_, hA.2⟩ ⟨ht ▸ hB, hS⟩
      cases h : sh p with
      | none => exact hA.2 _ (hf p x hx h)
      | some y => rw [hp.1 p y h]; exact hA.1 p y h)
theorem wr_lc {sh0 : Nat → Option Sh} {ad0 : Nat → Nat} {post : Int32 → (Nat → Option Sh) → MS → Prop} {x : Int32} (hexec : p.tables.exec = Jvm.exec) (hb : c.code = cc) (hr : meth.sig.returnType = some .int) (hlocks : meth.locks = false) (hW : WS D cA sh ad A s.heap M H locs) (hdg : decode cc pc = .ok (.ireturn, 1)) (hG : GR sh0 ad0 s.heap.size sh ad) (hp : post x sh M) :
    W p l e R s m args below meth c H locs cells slots (MQ below (lQc D cA sh0 ad0 s.heap.size post A) args s cells slots A) (F0 m pc ls [.int x]) :=
  W.iret (v := x) hexec hb hr (fun t ht _ => ⟨⟨x, (sh, ad, M), rfl, ⟨hG, hp⟩, (show WM D cA sh ad M t.heap by rw [ht]; exact hW.1)⟩, hW.2.F ht⟩) hW.2.2.2 hdg hlocks
/-- behind a call of the law's own that makes -/
theorem wc_wiN {post : Int32 → MS → Prop} {mc1 ms1 : Nat} (hr : va_Run p l e R s m args below meth c H locs cells slots mc1 ms1 (F0 m pc ls st0) rest (wQi D cA sh ad post (wA sh ad H.size) a) (wA sh ad H.size)) (hA : PA sh ad A H0) (hW : WS D cA sh ad A H0 M H locs)
    (kk : ∀ (r : Int32) (M' : MS) (H1 : Heap) (locs1 : List Loc), post r M' → WS D cA sh ad A H0 M' H1 locs1 → W p l e R s m args below meth c H1 locs1 (cells + mc1) (slots + ms1) Q (F0 m (pc + 3) ls (.int r :: rest))) : W p l e R s m args below meth c H locs cells slots Q (F0 m pc ls st0) :=
  va_calli hr hW.2 (fun q _ h => wA_in hA hW.2.1 q h) (fun q h => wA_in hA hW.2.1 q h) (fun r u t H1 locs1 ht _ hp hB _ _ hS => kk r u H1 locs1 hp ⟨ht ▸ hB, hS⟩)
theorem wc_wlN {post : Int64 → MS → Prop} {mc1 ms1 : Nat} (hr : va_Run p l e R s m args below meth c H locs cells slots mc1 ms1 (F0 m pc ls st0) rest (wQl D cA sh ad post (wA sh ad H.size) a) (wA sh ad H.size)) (hA : PA sh ad A H0) (hW : WS D cA sh ad A H0 M H locs)
    (kk : ∀ (r : Int64) (M' : MS) (H1 : Heap) (locs1 : List Loc), post r M' → WS D cA sh ad A H0 M' H1 locs1 → W p l e R s m args below meth c H1 locs1 (cells + mc1) (slots + ms1) Q (F0 m (pc + 3) ls (.long r :: rest))) : W p l e R s m args below meth c H locs cells slots Q (F0 m pc ls st0) :=
  va_calll hr hW.2 (fun q _ h => wA_in hA hW.2.1 q h) (fun q h => wA_in hA hW.2.1 q h) (fun r u t H1 locs1 ht _ hp hB _ _ hS => kk r u H1 locs1 hp ⟨ht ▸ hB, hS⟩)
theorem wc_lc {post : Int32 → (Nat → Option Sh) → MS → Prop} {mc1 ms1 : Nat} (hr : va_Run p l e R s m args below meth c H locs cells slots mc1 ms1 (F0 m pc ls st0) rest (lQc D cA sh ad H.size post (wA sh ad H.size) a) (wA sh ad H.size)) (hA : PA sh ad A H0) (hW : WS D cA sh ad A H0 M H locs)
    (kk : ∀ (r : Int32) (sh1 : Nat → Option Sh) (ad1 : Nat → Nat) (M' : MS) (H1 : Heap) (locs1 : List Loc), GR sh ad H0.size sh1 ad1 → post r sh1 M' → PA sh1 ad1 A H0 → WS D cA sh1 ad1 A H0 M' H1 locs1 → W p l e R s m args below meth c H1 locs1 (cells + mc1) (slots + ms1) Q (F0 m (pc + 3) ls (.int r :: rest))) : W p l e R s m args below meth c H locs cells slots Q (F0 m pc ls st0) :=
  va_calli hr hW.2 (fun q _ h => wA_in hA hW.2.1 q h) (fun q h => wA_in hA hW.2.1 q h) (fun r u t H1 locs1 ht _ hp hB _ _ hS => by
    have hG : GR sh ad H0.size u.1 u.2.1 := ⟨hp.1.1, fun p h1 h2 => Nat.le_trans hW.2.1 (hp.1.2 p h1 h2)⟩
    exact kk r u.1 u.2.1 u.2.2 H1 locs1 hG hp.2 (hA.gr hG) ⟨ht ▸ hB, hS⟩)
end WL
theorem GR_of {sh0 sh : Nat → Option Sh} {ad0 ad : Nat → Nat} {sz : Nat} (hk : ∀ p y, sh0 p = some y → ad p = ad0 p) (hf : ∀ p y, sh p = some y → sh0 p = none → sz ≤ ad p) (hu : ∀ t, sh0 t ≠ none → sh t ≠ none) : GR sh0 ad0 sz sh ad := by
  refine ⟨fun t ht => ⟨hu t ht, ?_⟩, fun p hp h0 => ?_⟩
  · cases h : sh0 t with
    | none => exact absurd h ht
    | some y => exact hk t y h
  · cases h : sh p with
    | none => exact absurd h hp
    | some y => exact hf p y h h0
theorem shL_up {n t : Nat} (h : shL n t ≠ none) : shL (n + 1) t ≠ none := by
  rw [← shL_s n]
  by_cases e : t = 100 + n
  · rw [e, shU_eq]; exact fun z => by cases z
  · rw [shU_ne e]; exact h
set_option maxHeartbeats 4000000 in
set_option maxRecDepth 100000 in
theorem c_L_flight (l : Launch) (hl9 : l.stackTraces = false) (D : va_G) (cA : Nat → ClassId) (sh : Nat → Option Sh) (ad : Nat → Nat) (M : MS) (sz : Nat) (σ : AS) (v : VT) (hX : XSh (aN σ) sh) (hXX : XX σ v M) (a : Int32) : Met l yL_flight wsL_flight ({ frames := 7, cells := 1, slots := 6, locals := 111 }) (lPc D cA sh ad M sz [.ref (ad 0), .int a]) (wQi D cA sh ad (fun r M' => KPm M M' ∧ XX σ v M' ∧ r = (if inB a 0 3 = true then nI (σ.2 11 (n1 a)) else -1000002)) (wA sh ad sz)) 1 6 (wA sh ad sz) := by
  refine Met.ofWH (cc := cL_flight) (maxL := 3) (ret := (some .int)) (hh := [(0, 5, 6, 16)]) (by decide) rfl ?_
  intro p e s m args below meth cd0 s₁ B hml hTB hv
  obtain ⟨rfl, hsz, hM, hK, hE, hZ, hE2⟩ := hv
  have hx := B.exec
  have hb := B.bytes
  have hr := B.returns
  have hts := atoms_spec (ws := wsL_flight) B.pre
  have hown : s.vm.findClass RL = some m.cls := findClass_of_methodNamed B.named
  have hlocks := B.notSynchronized
  subst hsz
  have hA := wA_PA sh ad s.heap
  generalize wA sh ad s.heap.size = A at hA hZ ⊢
  have hW : WS D cA sh ad A s.heap M s.heap [] := ⟨hM, va_S.rf⟩
  have hl := lv_entry ([.ref (ad 0), .int a]) (n := 3) (Nat.le_of_ble_eq_true rfl)
  rw [lg_entry_eq]
  generalize (lg_sl ([.ref (ad 0), .int a]) ++ List.replicate (3 - (lg_sl ([.ref (ad 0), .int a])).length) Slot.unset).toArray = ls at hl ⊢
  have hl : lv_has ls 3 [(0, .ref (ad 0)), (1, .int a)] := hl
  refine lv_aload_n hx hb dL_flight_0 rfl (lv_at hl 0 rfl) ?_
  refine lv_iload_n hx hb dL_flight_1 rfl (lv_at hl 1 rfl) ?_
  refine wx_wi (vx_runV (As := [.int a]) (rest := []) ⟨hx, hb, hml, hown, hts⟩ (c_X9_flight l hl9 D cA sh ad M _ σ v hX hXX a) (cwV 1 hts gL_flight_X9_flight rfl rfl rfl (by decide +kernel) ⟨Nat.le_of_ble_eq_true rfl, Nat.le_of_ble_eq_true rfl⟩) (xpreV hK hA hW hE hZ (C := RX9) (ci := 9) (hX.1 0 (by decide)) rfl) rfl rfl hl.1 rfl (lv_room (Nat.le_of_ble_eq_true rfl)) dL_flight_2 ⟨Nat.le_of_ble_eq_true rfl, Nat.le_of_ble_eq_true rfl⟩) hA hW (fun E ce q9 M9' H locs p9' hW hce hcv hcl => ?_) (fun x2' M2' H locs p2' hW => ?_)
  · obtain ⟨eE, hG9, o9, hX9⟩ := p9'
    subst eE
    refine vx_catch (own := RL) (name := nIA) hown [] _ [] (show _ = [] ++ _ :: [] from hTB) (fun z hz => nomatch hz) (by decide) (by decide) (hts (.classLink RL 16 "java/lang/IllegalArgumentException") (List.mem_of_getElem? (i := 1) rfl)) (va_Nw.use rfl (hE.1 _ List.mem_cons_self)) hce hcv hcl ?_
    refine W.eq (g2 := F0 m 6 ls [.ref q9]) rfl ?_
    refine lv_astore_n (lv' := [(2, .ref q9), (0, .ref (ad 0)), (1, .int a)]) hx hb dL_flight_6 rfl hl (by decide) rfl (fun ls hl => ?_)
    refine lv_ldc (v := (-1000002)) hx hb hown (hts (.constant RL 18 (-1000002)) (List.mem_of_getElem? (i := 2) rfl)) dL_flight_7 ?_
    refine W.widen (k := 1) (n := 6) (by decide) (by decide) ?_
    exact wr_wi hx hb hr hlocks hW dL_flight_9 ⟨(KPm.oA o9), hX9, (ifB_f hG9).symm⟩
  · try dsimp only at p2'
    obtain ⟨o7, hX7, hG7, hR7⟩ := p2'
    refine W.widen (k := 1) (n := 6) (by decide) (by decide) ?_
    exact wr_wi hx hb hr hlocks hW dL_flight_5 ⟨(KPm.oA o7), hX7, by rw [ifB_t hG7]; exact hR7⟩
set_option maxHeartbeats 4000000 in
set_option maxRecDepth 100000 in
theorem c_L_inLayer (l : Launch) (hl9 : l.stackTraces = false) (D : va_G) (cA : Nat → ClassId) (sh : Nat → Option Sh) (ad : Nat → Nat) (M : MS) (sz : Nat) (σ : AS) (v : VT) (hX : XSh (aN σ) sh) (hXX : XX σ v M) (a : Int32) (b : Int32) : Met l yL_inLayer wsL_inLayer ({ frames := 7, cells := 1, slots := 6, locals := 112 }) (lPc D cA sh ad M sz [.ref (ad 0), .int a, .int b]) (wQi D cA sh ad (fun r M' => KPm M M' ∧ XX σ v M' ∧ r = (if (inB a 0 3 && inB b 0 3) = true then nI (cntN (σ.1 2 (n1 a)) (σ.1 3 (n1 a)) (σ.2 11 (n1 a)) (n1 b)) else -1000002)) (wA sh ad sz)) 1 6 (wA sh ad sz) := by
  refine Met.ofWH (cc := cL_inLayer) (maxL := 4) (ret := (some .int)) (hh := [(0, 6, 7, 16)]) (by decide) rfl ?_
  intro p e s m args below meth cd0 s₁ B hml hTB hv
  obtain ⟨rfl, hsz, hM, hK, hE, hZ, hE2⟩ := hv
  have hx := B.exec
  have hb := B.bytes
  have hr := B.returns
  have hts := atoms_spec (ws := wsL_inLayer) B.pre
  have hown : s.vm.findClass RL = some m.cls := findClass_of_methodNamed B.named
  have hlocks := B.notSynchronized
  subst hsz
  have hA := wA_PA sh ad s.heap
  generalize wA sh ad s.heap.size = A at hA hZ ⊢
  have hW : WS D cA sh ad A s.heap M s.heap [] := ⟨hM, va_S.rf⟩
  have hl := lv_entry ([.ref (ad 0), .int a, .int b]) (n := 4) (Nat.le_of_ble_eq_true rfl)
  rw [lg_entry_eq]
  generalize (lg_sl ([.ref (ad 0), .int a, .int b]) ++ List.replicate (4 - (lg_sl ([.ref (ad 0), .int a, .int b])).length) Slot.unset).toArray = ls at hl ⊢
  have hl : lv_has ls 4 [(0, .ref (ad 0)), (1, .int a), (2, .int b)] := hl
  refine lv_aload_n hx hb dL_inLayer_0 rfl (lv_at hl 0 rfl) ?_
  refine lv_iload_n hx hb dL_inLayer_1 rfl (lv_at hl 1 rfl) ?_
  refine lv_iload_n hx hb dL_inLayer_2 rfl (lv_at hl 2 rfl) ?_
  refine wx_wi (vx_runV (As := [.int a, .int b]) (rest := []) ⟨hx, hb, hml, hown, hts⟩ (c_X9_inLayer l hl9 D cA sh ad M _ σ v hX hXX a b) (cwV 2 hts gL_inLayer_X9_inLayer rfl rfl rfl (by decide +kernel) ⟨Nat.le_of_ble_eq_true rfl, Nat.le_of_ble_eq_true rfl⟩) (xpreV hK hA hW hE hZ (C := RX9) (ci := 9) (hX.1 0 (by decide)) rfl) rfl rfl hl.1 rfl (lv_room (Nat.le_of_ble_eq_true rfl)) dL_inLayer_3 ⟨Nat.le_of_ble_eq_true rfl, Nat.le_of_ble_eq_true rfl⟩) hA hW (fun E ce q9 M9' H locs p9' hW hce hcv hcl => ?_) (fun x3' M3' H locs p3' hW => ?_)
  · obtain ⟨eE, hG9, o9, hX9⟩ := p9'
    subst eE
    refine vx_catch (own := RL) (name := nIA) hown [] _ [] (show _ = [] ++ _ :: [] from hTB) (fun z hz => nomatch hz) (by decide) (by decide) (hts (.classLink RL 16 "java/lang/IllegalArgumentException") (List.mem_of_getElem? (i := 1) rfl)) (va_Nw.use rfl (hE.1 _ List.mem_cons_self)) hce hcv hcl ?_
    refine W.eq (g2 := F0 m 7 ls [.ref q9]) rfl ?_
    refine lv_astore_n (lv' := [(3, .ref q9), (0, .ref (ad 0)), (1, .int a), (2, .int b)]) hx hb dL_inLayer_7 rfl hl (by decide) rfl (fun ls hl => ?_)
    refine lv_ldc (v := (-1000002)) hx hb hown (hts (.constant RL 18 (-1000002)) (List.mem_of_getElem? (i := 2) rfl)) dL_inLayer_8 ?_
    refine W.widen (k := 1) (n := 6) (by decide) (by decide) ?_
    exact wr_wi hx hb hr hlocks hW dL_inLayer_10 ⟨(KPm.oA o9), hX9, (ifB_f hG9).symm⟩
  · try dsimp only at p3'
    obtain ⟨o7, hX7, hG7, hR7⟩ := p3'
    refine W.widen (k := 1) (n := 6) (by decide) (by decide) ?_
    exact wr_wi hx hb hr hlocks hW dL_inLayer_6 ⟨(KPm.oA o7), hX7, by rw [ifB_t hG7]; exact hR7⟩
set_option maxHeartbeats 4000000 in
set_option maxRecDepth 100000 in
theorem c_L_becomes (l : Launch) (hl9 : l.stackTraces = false) (D : va_G) (cA : Nat → ClassId) (sh : Nat → Option Sh) (ad : Nat → Nat) (M : MS) (sz : Nat) (σ : AS) (v : VT) (hX : XSh (aN σ) sh) (hXX : XX σ v M) (a : Int32) (q : Nat → Nat) (c : Nat) (hs : Srt σ 40 q c) : Met l yL_becomes wsL_becomes ({ frames := 9, cells := 1, slots := 6, locals := 154 }) (lPc D cA sh ad M sz [.ref (ad 0), .int a]) (wQi D cA sh ad (fun r M' => KPm M M' ∧ XX σ v M' ∧ r = (if cuB σ a = true then nI (fateA σ q c (n1 a)) else -1000001)) (wA sh ad sz)) 1 6 (wA sh ad sz) := by
  refine Met.ofWH (cc := cL_becomes) (maxL := 3) (ret := (some .int)) (hh := [(0, 5, 6, 49)]) (by decide) rfl ?_
  intro p e s m args below meth cd0 s₁ B hml hTB hv
  obtain ⟨rfl, hsz, hM, hK, hE, hZ, hE2⟩ := hv
  have hx := B.exec
  have hb := B.bytes
  have hr := B.returns
  have hts := atoms_spec (ws := wsL_becomes) B.pre
  have hown : s.vm.findClass RL = some m.cls := findClass_of_methodNamed B.named
  have hlocks := B.notSynchronized
  subst hsz
  have hA := wA_PA sh ad s.heap
  generalize wA sh ad s.heap.size = A at hA hZ ⊢
  have hW : WS D cA sh ad A s.heap M s.heap [] := ⟨hM, va_S.rf⟩
  have hl := lv_entry ([.ref (ad 0), .int a]) (n := 3) (Nat.le_of_ble_eq_true rfl)
  rw [lg_entry_eq]
  generalize (lg_sl ([.ref (ad 0), .int a]) ++ List.replicate (3 - (lg_sl ([.ref (ad 0), .int a])).length) Slot.unset).toArray = ls at hl ⊢
  have hl : lv_has ls 3 [(0, .ref (ad 0)), (1, .int a)] := hl
  refine lv_aload_n hx hb dL_becomes_0 rfl (lv_at hl 0 rfl) ?_
  refine lv_iload_n hx hb dL_becomes_1 rfl (lv_at hl 1 rfl) ?_
  refine wx_wi (vx_runV (As := [.int a]) (rest := []) ⟨hx, hb, hml, hown, hts⟩ (c_X9_becomes l hl9 D cA sh ad M _ σ v hX hXX a) (cwV 1 hts gL_becomes_X9_becomes rfl rfl rfl (by decide +kernel) ⟨Nat.le_of_ble_eq_true rfl, Nat.le_of_ble_eq_true rfl⟩) (xpreV hK hA hW hE hZ (C := RX9) (ci := 9) (hX.1 0 (by decide)) rfl) rfl rfl hl.1 rfl (lv_room (Nat.le_of_ble_eq_true rfl)) dL_becomes_2 ⟨Nat.le_of_ble_eq_true rfl, Nat.le_of_ble_eq_true rfl⟩) hA hW (fun E ce q9 M9' H locs p9' hW hce hcv hcl => ?_) (fun x2' M2' H locs p2' hW => ?_)
  · obtain ⟨eE, hG9, o9, hX9⟩ := p9'
    subst eE
    refine vx_catch (own := RL) (name := nIO) hown [] _ [] (show _ = [] ++ _ :: [] from hTB) (fun z hz => nomatch hz) (by decide) (by decide) (hts (.classLink RL 49 "java/lang/IndexOutOfBoundsException") (List.mem_of_getElem? (i := 1) rfl)) (va_Nw.use rfl (hE.1 _ (List.mem_cons_of_mem _ (List.mem_cons_of_mem _ List.mem_cons_self)))) hce hcv hcl ?_
    refine W.eq (g2 := F0 m 6 ls [.ref q9]) rfl ?_
    refine lv_astore_n (lv' := [(2, .ref q9), (0, .ref (ad 0)), (1, .int a)]) hx hb dL_becomes_6 rfl hl (by decide) rfl (fun ls hl => ?_)
    refine lv_ldc (v := (-1000001)) hx hb hown (hts (.constant RL 51 (-1000001)) (List.mem_of_getElem? (i := 2) rfl)) dL_becomes_7 ?_
    refine W.widen (k := 1) (n := 6) (by decide) (by decide) ?_
    exact wr_wi hx hb hr hlocks hW dL_becomes_9 ⟨(KPm.oA o9), hX9, (ifB_f hG9).symm⟩
  · try dsimp only at p2'
    obtain ⟨o7, hX7, hG7, hR7⟩ := p2'
    refine W.widen (k := 1) (n := 6) (by decide) (by decide) ?_
    exact wr_wi hx hb hr hlocks hW dL_becomes_5 (by obtain ⟨q9, c9', s9, e9'⟩ := hR7; exact ⟨(KPm.oA o7), hX7, by rw [ifB_t hG7, e9', fate_un hs s9]⟩)
set_option maxHeartbeats 4000000 in
set_option maxRecDepth 100000 in
theorem c_L_bursts (l : Launch) (hl9 : l.stackTraces = false) (D : va_G) (cA : Nat → ClassId) (sh : Nat → Option Sh) (ad : Nat → Nat) (M : MS) (sz : Nat) (σ : AS) (v : VT) (hX : XSh (aN σ) sh) (hXX : XX σ v M) (a : Int32) : Met l yL_bursts wsL_bursts ({ frames := 9, cells := 1, slots := 6, locals := 154 }) (lPc D cA sh ad M sz [.ref (ad 0), .int a]) (wQi D cA sh ad (fun r M' => KPm M M' ∧ XX σ v M' ∧ r = (if cuB σ a = true then burI σ (n1 a) else -1000001)) (wA sh ad sz)) 1 6 (wA sh ad sz) := by
  refine Met.ofWH (cc := cL_bursts) (maxL := 3) (ret := (some .int)) (hh := [(0, 5, 6, 49)]) (by decide) rfl ?_
  intro p e s m args below meth cd0 s₁ B hml hTB hv
  obtain ⟨rfl, hsz, hM, hK, hE, hZ, hE2⟩ := hv
  have hx := B.exec
  have hb := B.bytes
  have hr := B.returns
  have hts := atoms_spec (ws := wsL_bursts) B.pre
  have hown : s.vm.findClass RL = some m.cls := findClass_of_methodNamed B.named
  have hlocks := B.notSynchronized
  subst hsz
  have hA := wA_PA sh ad s.heap
  generalize wA sh ad s.heap.size = A at hA hZ ⊢
  have hW : WS D cA sh ad A s.heap M s.heap [] := ⟨hM, va_S.rf⟩
  have hl := lv_entry ([.ref (ad 0), .int a]) (n := 3) (Nat.le_of_ble_eq_true rfl)
  rw [lg_entry_eq]
  generalize (lg_sl ([.ref (ad 0), .int a]) ++ List.replicate (3 - (lg_sl ([.ref (ad 0), .int a])).length) Slot.unset).toArray = ls at hl ⊢
  have hl : lv_has ls 3 [(0, .ref (ad 0)), (1, .int a)] := hl
  refine lv_aload_n hx hb dL_bursts_0 rfl (lv_at hl 0 rfl) ?_
  refine lv_iload_n hx hb dL_bursts_1 rfl (lv_at hl 1 rfl) ?_
  refine wx_wi (vx_runV (As := [.int a]) (rest := []) ⟨hx, hb, hml, hown, hts⟩ (c_X9_bursts l hl9 D cA sh ad M _ σ v hX hXX a) (cwV 1 hts gL_bursts_X9_bursts rfl rfl rfl (by decide +kernel) ⟨Nat.le_of_ble_eq_true rfl, Nat.le_of_ble_eq_true rfl⟩) (xpreV hK hA hW hE hZ (C := RX9) (ci := 9) (hX.1 0 (by decide)) rfl) rfl rfl hl.1 rfl (lv_room (Nat.le_of_ble_eq_true rfl)) dL_bursts_2 ⟨Nat.le_of_ble_eq_true rfl, Nat.le_of_ble_eq_true rfl⟩) hA hW (fun E ce q9 M9' H locs p9' hW hce hcv hcl => ?_) (fun x2' M2' H locs p2' hW => ?_)
  · obtain ⟨eE, hG9, o9, hX9⟩ := p9'
    subst eE
    refine vx_catch (own := RL) (name := nIO) hown [] _ [] (show _ = [] ++ _ :: [] from hTB) (fun z hz => nomatch hz) (by decide) (by decide) (hts (.classLink RL 49 "java/lang/IndexOutOfBoundsException") (List.mem_of_getElem? (i := 1) rfl)) (va_Nw.use rfl (hE.1 _ (List.mem_cons_of_mem _ (List.mem_cons_of_mem _ List.mem_cons_self)))) hce hcv hcl ?_
    refine W.eq (g2 := F0 m 6 ls [.ref q9]) rfl ?_
    refine lv_astore_n (lv' := [(2, .ref q9), (0, .ref (ad 0)), (1, .int a)]) hx hb dL_bursts_6 rfl hl (by decide) rfl (fun ls hl => ?_)
    refine lv_ldc (v := (-1000001)) hx hb hown (hts (.constant RL 51 (-1000001)) (List.mem_of_getElem? (i := 2) rfl)) dL_bursts_7 ?_
    refine W.widen (k := 1) (n := 6) (by decide) (by decide) ?_
    exact wr_wi hx hb hr hlocks hW dL_bursts_9 ⟨(KPm.oA o9), hX9, (ifB_f hG9).symm⟩
  · try dsimp only at p2'
    obtain ⟨o7, hX7, hG7, hR7⟩ := p2'
    refine W.widen (k := 1) (n := 6) (by decide) (by decide) ?_
    exact wr_wi hx hb hr hlocks hW dL_bursts_5 (by obtain ⟨q9, c9', s9, e9'⟩ := hR7; exact ⟨(KPm.oA o7), hX7, by rw [ifB_t hG7, e9']⟩)
set_option maxHeartbeats 4000000 in
set_option maxRecDepth 100000 in
theorem c_L_fires (l : Launch) (hl9 : l.stackTraces = false) (D : va_G) (cA : Nat → ClassId) (sh : Nat → Option Sh) (ad : Nat → Nat) (M : MS) (sz : Nat) (σ : AS) (v : VT) (hX : XSh (aN σ) sh) (hXX : XX σ v M) (a : Int32) : Met l yL_fires wsL_fires ({ frames := 9, cells := 1, slots := 6, locals := 154 }) (lPc D cA sh ad M sz [.ref (ad 0), .int a]) (wQi D cA sh ad (fun r M' => KPm M M' ∧ XX σ v M' ∧ r = (if cuB σ a = true then tkI σ (n1 a) else -1000001)) (wA sh ad sz)) 1 6 (wA sh ad sz) := by
  refine Met.ofWH (cc := cL_fires) (maxL := 3) (ret := (some .int)) (hh := [(0, 5, 6, 49)]) (by decide) rfl ?_
  intro p e s m args below meth cd0 s₁ B hml hTB hv
  obtain ⟨rfl, hsz, hM, hK, hE, hZ, hE2⟩ := hv
  have hx := B.exec
  have hb := B.bytes
  have hr := B.returns
  have hts := atoms_spec (ws := wsL_fires) B.pre
  have hown : s.vm.findClass RL = some m.cls := findClass_of_methodNamed B.named
  have hlocks := B.notSynchronized
  subst hsz
  have hA := wA_PA sh ad s.heap
  generalize wA sh ad s.heap.size = A at hA hZ ⊢
  have hW : WS D cA sh ad A s.heap M s.heap [] := ⟨hM, va_S.rf⟩
  have hl := lv_entry ([.ref (ad 0), .int a]) (n := 3) (Nat.le_of_ble_eq_true rfl)
  rw [lg_entry_eq]
  generalize (lg_sl ([.ref (ad 0), .int a]) ++ List.replicate (3 - (lg_sl ([.ref (ad 0), .int a])).length) Slot.unset).toArray = ls at hl ⊢
  have hl : lv_has ls 3 [(0, .ref (ad 0)), (1, .int a)] := hl
  refine lv_aload_n hx hb dL_fires_0 rfl (lv_at hl 0 rfl) ?_
  refine lv_iload_n hx hb dL_fires_1 rfl (lv_at hl 1 rfl) ?_
  refine wx_wi (vx_runV (As := [.int a]) (rest := []) ⟨hx, hb, hml, hown, hts⟩ (c_X9_fires l hl9 D cA sh ad M _ σ v hX hXX a) (cwV 1 hts gL_fires_X9_fires rfl rfl rfl (by decide +kernel) ⟨Nat.le_of_ble_eq_true rfl, Nat.le_of_ble_eq_true rfl⟩) (xpreV hK hA hW hE hZ (C := RX9) (ci := 9) (hX.1 0 (by decide)) rfl) rfl rfl hl.1 rfl (lv_room (Nat.le_of_ble_eq_true rfl)) dL_fires_2 ⟨Nat.le_of_ble_eq_true rfl, Nat.le_of_ble_eq_true rfl⟩) hA hW (fun E ce q9 M9' H locs p9' hW hce hcv hcl => ?_) (fun x2' M2' H locs p2' hW => ?_)
  · obtain ⟨eE, hG9, o9, hX9⟩ := p9'
    subst eE
    refine vx_catch (own := RL) (name := nIO) hown [] _ [] (show _ = [] ++ _ :: [] from hTB) (fun z hz => nomatch hz) (by decide) (by decide) (hts (.classLink RL 49 "java/lang/IndexOutOfBoundsException") (List.mem_of_getElem? (i := 1) rfl)) (va_Nw.use rfl (hE.1 _ (List.mem_cons_of_mem _ (List.mem_cons_of_mem _ List.mem_cons_self)))) hce hcv hcl ?_
    refine W.eq (g2 := F0 m 6 ls [.ref q9]) rfl ?_
    refine lv_astore_n (lv' := [(2, .ref q9), (0, .ref (ad 0)), (1, .int a)]) hx hb dL_fires_6 rfl hl (by decide) rfl (fun ls hl => ?_)
    refine lv_ldc (v := (-1000001)) hx hb hown (hts (.constant RL 51 (-1000001)) (List.mem_of_getElem? (i := 2) rfl)) dL_fires_7 ?_
    refine W.widen (k := 1) (n := 6) (by decide) (by decide) ?_
    exact wr_wi hx hb hr hlocks hW dL_fires_9 ⟨(KPm.oA o9), hX9, (ifB_f hG9).symm⟩
  · try dsimp only at p2'
    obtain ⟨o7, hX7, hG7, hR7⟩ := p2'
    refine W.widen (k := 1) (n := 6) (by decide) (by decide) ?_
    exact wr_wi hx hb hr hlocks hW dL_fires_5 (by obtain ⟨q9, c9', s9, e9'⟩ := hR7; exact ⟨(KPm.oA o7), hX7, by rw [ifB_t hG7, e9']⟩)
set_option maxHeartbeats 4000000 in
set_option maxRecDepth 100000 in
theorem c_L_channelOf (l : Launch) (hl9 : l.stackTraces = false) (D : va_G) (cA : Nat → ClassId) (sh : Nat → Option Sh) (ad : Nat → Nat) (M : MS) (sz : Nat) (σ : AS) (v : VT) (hX : XSh (aN σ) sh) (hXX : XX σ v M) (a : Int32) (q : Nat → Nat) (c : Nat) (hs : Srt σ 40 q c) : Met l yL_channelOf wsL_channelOf ({ frames := 9, cells := 1, slots := 6, locals := 154 }) (lPc D cA sh ad M sz [.ref (ad 0), .int a]) (wQi D cA sh ad (fun r M' => KPm M M' ∧ XX σ v M' ∧ r = (if cuB σ a = true then chanA σ q c (n1 a) else -1000001)) (wA sh ad sz)) 1 6 (wA sh ad sz) := by
  refine Met.ofWH (cc := cL_channelOf) (maxL := 3) (ret := (some .int)) (hh := [(0, 5, 6, 49)]) (by decide) rfl ?_
  intro p e s m args below meth cd0 s₁ B hml hTB hv
  obtain ⟨rfl, hsz, hM, hK, hE, hZ, hE2⟩ := hv
  have hx := B.exec
  have hb := B.bytes
  have hr := B.returns
  have hts := atoms_spec (ws := wsL_channelOf) B.pre
  have hown : s.vm.findClass RL = some m.cls := findClass_of_methodNamed B.named
  have hlocks := B.notSynchronized
  subst hsz
  have hA := wA_PA sh ad s.heap
  generalize wA sh ad s.heap.size = A at hA hZ ⊢
  have hW : WS D cA sh ad A s.heap M s.heap [] := ⟨hM, va_S.rf⟩
  have hl := lv_entry ([.ref (ad 0), .int a]) (n := 3) (Nat.le_of_ble_eq_true rfl)
  rw [lg_entry_eq]
  generalize (lg_sl ([.ref (ad 0), .int a]) ++ List.replicate (3 - (lg_sl ([.ref (ad 0), .int a])).length) Slot.unset).toArray = ls at hl ⊢
  have hl : lv_has ls 3 [(0, .ref (ad 0)), (1, .int a)] := hl
  refine lv_aload_n hx hb dL_channelOf_0 rfl (lv_at hl 0 rfl) ?_
  refine lv_iload_n hx hb dL_channelOf_1 rfl (lv_at hl 1 rfl) ?_
  refine wx_wi (vx_runV (As := [.int a]) (rest := []) ⟨hx, hb, hml, hown, hts⟩ (c_X9_channelOf l hl9 D cA sh ad M _ σ v hX hXX a) (cwV 1 hts gL_channelOf_X9_channelOf rfl rfl rfl (by decide +kernel) ⟨Nat.le_of_ble_eq_true rfl, Nat.le_of_ble_eq_true rfl⟩) (xpreV hK hA hW hE hZ (C := RX9) (ci := 9) (hX.1 0 (by decide)) rfl) rfl rfl hl.1 rfl (lv_room (Nat.le_of_ble_eq_true rfl)) dL_channelOf_2 ⟨Nat.le_of_ble_eq_true rfl, Nat.le_of_ble_eq_true rfl⟩) hA hW (fun E ce q9 M9' H locs p9' hW hce hcv hcl => ?_) (fun x2' M2' H locs p2' hW => ?_)
  · obtain ⟨eE, hG9, o9, hX9⟩ := p9'
    subst eE
    refine vx_catch (own := RL) (name := nIO) hown [] _ [] (show _ = [] ++ _ :: [] from hTB) (fun z hz => nomatch hz) (by decide) (by decide) (hts (.classLink RL 49 "java/lang/IndexOutOfBoundsException") (List.mem_of_getElem? (i := 1) rfl)) (va_Nw.use rfl (hE.1 _ (List.mem_cons_of_mem _ (List.mem_cons_of_mem _ List.mem_cons_self)))) hce hcv hcl ?_
    refine W.eq (g2 := F0 m 6 ls [.ref q9]) rfl ?_
    refine lv_astore_n (lv' := [(2, .ref q9), (0, .ref (ad 0)), (1, .int a)]) hx hb dL_channelOf_6 rfl hl (by decide) rfl (fun ls hl => ?_)
    refine lv_ldc (v := (-1000001)) hx hb hown (hts (.constant RL 51 (-1000001)) (List.mem_of_getElem? (i := 2) rfl)) dL_channelOf_7 ?_
    refine W.widen (k := 1) (n := 6) (by decide) (by decide) ?_
    exact wr_wi hx hb hr hlocks hW dL_channelOf_9 ⟨(KPm.oA o9), hX9, (ifB_f hG9).symm⟩
  · try dsimp only at p2'
    obtain ⟨o7, hX7, hG7, hR7⟩ := p2'
    refine W.widen (k := 1) (n := 6) (by decide) (by decide) ?_
    exact wr_wi hx hb hr hlocks hW dL_channelOf_5 (by obtain ⟨q9, c9', s9, e9'⟩ := hR7; exact ⟨(KPm.oA o7), hX7, by rw [ifB_t hG7, e9', chan_un hs s9]⟩)
set_option maxHeartbeats 4000000 in
set_option maxRecDepth 100000 in
theorem c_L_price (l : Launch) (hl9 : l.stackTraces = false) (D : va_G) (cA : Nat → ClassId) (sh : Nat → Option Sh) (ad : Nat → Nat) (M : MS) (sz : Nat) (σ : AS) (v : VT) (hX : XSh (aN σ) sh) (hXX : XX σ v M) (a : Int32) (q : Nat → Nat) (c : Nat) (hs : Srt σ 40 q c) : Met l yL_price wsL_price ({ frames := 9, cells := 1, slots := 6, locals := 155 }) (lPc D cA sh ad M sz [.ref (ad 0), .int a]) (wQi D cA sh ad (fun r M' => KPm M M' ∧ XX σ v M' ∧ r = (if cuB σ a = true then prA σ v q c (n1 a) else -1000001)) (wA sh ad sz)) 1 6 (wA sh ad sz) := by
  refine Met.ofWH (cc := cL_price) (maxL := 3) (ret := (some .int)) (hh := [(0, 5, 6, 49)]) (by decide) rfl ?_
  intro p e s m args below meth cd0 s₁ B hml hTB hv
  obtain ⟨rfl, hsz, hM, hK, hE, hZ, hE2⟩ := hv
  have hx := B.exec
  have hb := B.bytes
  have hr := B.returns
  have hts := atoms_spec (ws := wsL_price) B.pre
  have hown : s.vm.findClass RL = some m.cls := findClass_of_methodNamed B.named
  have hlocks := B.notSynchronized
  subst hsz
  have hA := wA_PA sh ad s.heap
  generalize wA sh ad s.heap.size = A at hA hZ ⊢
  have hW : WS D cA sh ad A s.heap M s.heap [] := ⟨hM, va_S.rf⟩
  have hl := lv_entry ([.ref (ad 0), .int a]) (n := 3) (Nat.le_of_ble_eq_true rfl)
  rw [lg_entry_eq]
  generalize (lg_sl ([.ref (ad 0), .int a]) ++ List.replicate (3 - (lg_sl ([.ref (ad 0), .int a])).length) Slot.unset).toArray = ls at hl ⊢
  have hl : lv_has ls 3 [(0, .ref (ad 0)), (1, .int a)] := hl
  refine lv_aload_n hx hb dL_price_0 rfl (lv_at hl 0 rfl) ?_
  refine lv_iload_n hx hb dL_price_1 rfl (lv_at hl 1 rfl) ?_
  refine wx_wi (vx_runV (As := [.int a]) (rest := []) ⟨hx, hb, hml, hown, hts⟩ (c_X9_price l hl9 D cA sh ad M _ σ v hX hXX a) (cwV 1 hts gL_price_X9_price rfl rfl rfl (by decide +kernel) ⟨Nat.le_of_ble_eq_true rfl, Nat.le_of_ble_eq_true rfl⟩) (xpreV hK hA hW hE hZ (C := RX9) (ci := 9) (hX.1 0 (by decide)) rfl) rfl rfl hl.1 rfl (lv_room (Nat.le_of_ble_eq_true rfl)) dL_price_2 ⟨Nat.le_of_ble_eq_true rfl, Nat.le_of_ble_eq_true rfl⟩) hA hW (fun E ce q9 M9' H locs p9' hW hce hcv hcl => ?_) (fun x2' M2' H locs p2' hW => ?_)
  · obtain ⟨eE, hG9, o9, hX9⟩ := p9'
    subst eE
    refine vx_catch (own := RL) (name := nIO) hown [] _ [] (show _ = [] ++ _ :: [] from hTB) (fun z hz => nomatch hz) (by decide) (by decide) (hts (.classLink RL 49 "java/lang/IndexOutOfBoundsException") (List.mem_of_getElem? (i := 1) rfl)) (va_Nw.use rfl (hE.1 _ (List.mem_cons_of_mem _ (List.mem_cons_of_mem _ List.mem_cons_self)))) hce hcv hcl ?_
    refine W.eq (g2 := F0 m 6 ls [.ref q9]) rfl ?_
    refine lv_astore_n (lv' := [(2, .ref q9), (0, .ref (ad 0)), (1, .int a)]) hx hb dL_price_6 rfl hl (by decide) rfl (fun ls hl => ?_)
    refine lv_ldc (v := (-1000001)) hx hb hown (hts (.constant RL 51 (-1000001)) (List.mem_of_getElem? (i := 2) rfl)) dL_price_7 ?_
    refine W.widen (k := 1) (n := 6) (by decide) (by decide) ?_
    exact wr_wi hx hb hr hlocks hW dL_price_9 ⟨(KPm.oA o9), hX9, (ifB_f hG9).symm⟩
  · try dsimp only at p2'
    obtain ⟨o7, hX7, hG7, hR7⟩ := p2'
    refine W.widen (k := 1) (n := 6) (by decide) (by decide) ?_
    exact wr_wi hx hb hr hlocks hW dL_price_5 (by obtain ⟨q9, c9', s9, e9'⟩ := hR7; exact ⟨(KPm.oA o7), hX7, by rw [ifB_t hG7, e9', prA_un hs s9]⟩)
set_option maxHeartbeats 4000000 in
set_option maxRecDepth 100000 in
theorem c_L_cueOn (l : Launch) (hl9 : l.stackTraces = false) (D : va_G) (cA : Nat → ClassId) (sh : Nat → Option Sh) (ad : Nat → Nat) (M : MS) (sz : Nat) (σ : AS) (v : VT) (hX : XSh (aN σ) sh) (hXX : XX σ v M) (a : Int32) (b : Int32) (q : Nat → Nat) (c : Nat) (hs : Srt σ 40 q c) : Met l yL_cueOn wsL_cueOn ({ frames := 7, cells := 1, slots := 6, locals := 117 }) (lPc D cA sh ad M sz [.ref (ad 0), .int a, .int b]) (wQi D cA sh ad (fun r M' => KPm M M' ∧ XX σ v M' ∧ r = (if (inB a 0 3 && inB b 0 7) = true then opI (gvn σ q c (8 * n1 a + n1 b)) else -1000002)) (wA sh ad sz)) 1 6 (wA sh ad sz) := by
  refine Met.ofWH (cc := cL_cueOn) (maxL := 4) (ret := (some .int)) (hh := [(0, 6, 7, 16)]) (by decide) rfl ?_
  intro p e s m args below meth cd0 s₁ B hml hTB hv
  obtain ⟨rfl, hsz, hM, hK, hE, hZ, hE2⟩ := hv
  have hx := B.exec
  have hb := B.bytes
  have hr := B.returns
  have hts := atoms_spec (ws := wsL_cueOn) B.pre
  have hown : s.vm.findClass RL = some m.cls := findClass_of_methodNamed B.named
  have hlocks := B.notSynchronized
  subst hsz
  have hA := wA_PA sh ad s.heap
  generalize wA sh ad s.heap.size = A at hA hZ ⊢
  have hW : WS D cA sh ad A s.heap M s.heap [] := ⟨hM, va_S.rf⟩
  have hl := lv_entry ([.ref (ad 0), .int a, .int b]) (n := 4) (Nat.le_of_ble_eq_true rfl)
  rw [lg_entry_eq]
  generalize (lg_sl ([.ref (ad 0), .int a, .int b]) ++ List.replicate (4 - (lg_sl ([.ref (ad 0), .int a, .int b])).length) Slot.unset).toArray = ls at hl ⊢
  have hl : lv_has ls 4 [(0, .ref (ad 0)), (1, .int a), (2, .int b)] := hl
  refine lv_aload_n hx hb dL_cueOn_0 rfl (lv_at hl 0 rfl) ?_
  refine lv_iload_n hx hb dL_cueOn_1 rfl (lv_at hl 1 rfl) ?_
  refine lv_iload_n hx hb dL_cueOn_2 rfl (lv_at hl 2 rfl) ?_
  refine wx_wi (vx_runV (As := [.int a, .int b]) (rest := []) ⟨hx, hb, hml, hown, hts⟩ (c_X9_cueOn l hl9 D cA sh ad M _ σ v hX hXX a b) (cwV 2 hts gL_cueOn_X9_cueOn rfl rfl rfl (by decide +kernel) ⟨Nat.le_of_ble_eq_true rfl, Nat.le_of_ble_eq_true rfl⟩) (xpreV hK hA hW hE hZ (C := RX9) (ci := 9) (hX.1 0 (by decide)) rfl) rfl rfl hl.1 rfl (lv_room (Nat.le_of_ble_eq_true rfl)) dL_cueOn_3 ⟨Nat.le_of_ble_eq_true rfl, Nat.le_of_ble_eq_true rfl⟩) hA hW (fun E ce q9 M9' H locs p9' hW hce hcv hcl => ?_) (fun x3' M3' H locs p3' hW => ?_)
  · obtain ⟨eE, hG9, o9, hX9⟩ := p9'
    subst eE
    refine vx_catch (own := RL) (name := nIA) hown [] _ [] (show _ = [] ++ _ :: [] from hTB) (fun z hz => nomatch hz) (by decide) (by decide) (hts (.classLink RL 16 "java/lang/IllegalArgumentException") (List.mem_of_getElem? (i := 1) rfl)) (va_Nw.use rfl (hE.1 _ List.mem_cons_self)) hce hcv hcl ?_
    refine W.eq (g2 := F0 m 7 ls [.ref q9]) rfl ?_
    refine lv_astore_n (lv' := [(3, .ref q9), (0, .ref (ad 0)), (1, .int a), (2, .int b)]) hx hb dL_cueOn_7 rfl hl (by decide) rfl (fun ls hl => ?_)
    refine lv_ldc (v := (-1000002)) hx hb hown (hts (.constant RL 18 (-1000002)) (List.mem_of_getElem? (i := 2) rfl)) dL_cueOn_8 ?_
    refine W.widen (k := 1) (n := 6) (by decide) (by decide) ?_
    exact wr_wi hx hb hr hlocks hW dL_cueOn_10 ⟨(KPm.oA o9), hX9, (ifB_f hG9).symm⟩
  · try dsimp only at p3'
    obtain ⟨o7, hX7, hG7, hR7⟩ := p3'
    refine W.widen (k := 1) (n := 6) (by decide) (by decide) ?_
    exact wr_wi hx hb hr hlocks hW dL_cueOn_6 (by obtain ⟨q9, c9', s9, e9'⟩ := hR7; exact ⟨(KPm.oA o7), hX7, by rw [ifB_t hG7, e9', gvn_un hs s9]⟩)
set_option maxHeartbeats 4000000 in
set_option maxRecDepth 100000 in
theorem c_L_danger (l : Launch) (hl9 : l.stackTraces = false) (D : va_G) (cA : Nat → ClassId) (sh : Nat → Option Sh) (ad : Nat → Nat) (M : MS) (sz : Nat) (σ : AS) (v : VT) (hX : XSh (aN σ) sh) (hXX : XX σ v M) (a : Int32) : Met l yL_danger wsL_danger ({ frames := 9, cells := 1, slots := 6, locals := 154 }) (lPc D cA sh ad M sz [.ref (ad 0), .int a]) (wQl D cA sh ad (fun r M' => KPm M M' ∧ XX σ v M' ∧ ((cuB σ a = true ∧ ∀ k, k < 64 → bitL r k = zonB σ (n1 a) k) ∨ (cuB σ a = false ∧ r = -1000001))) (wA sh ad sz)) 1 6 (wA sh ad sz) := by
  refine Met.ofWH (cc := cL_danger) (maxL := 3) (ret := (some .long)) (hh := [(0, 5, 6, 49)]) (by decide) rfl ?_
  intro p e s m args below meth cd0 s₁ B hml hTB hv
  obtain ⟨rfl, hsz, hM, hK, hE, hZ, hE2⟩ := hv
  have hx := B.exec
  have hb := B.bytes
  have hr := B.returns
  have hts := atoms_spec (ws := wsL_danger) B.pre
  have hown : s.vm.findClass RL = some m.cls := findClass_of_methodNamed B.named
  have hlocks := B.notSynchronized
  subst hsz
  have hA := wA_PA sh ad s.heap
  generalize wA sh ad s.heap.size = A at hA hZ ⊢
  have hW : WS D cA sh ad A s.heap M s.heap [] := ⟨hM, va_S.rf⟩
  have hl := lv_entry ([.ref (ad 0), .int a]) (n := 3) (Nat.le_of_ble_eq_true rfl)
  rw [lg_entry_eq]
  generalize (lg_sl ([.ref (ad 0), .int a]) ++ List.replicate (3 - (lg_sl ([.ref (ad 0), .int a])).length) Slot.unset).toArray = ls at hl ⊢
  have hl : lv_has ls 3 [(0, .ref (ad 0)), (1, .int a)] := hl
  refine lv_aload_n hx hb dL_danger_0 rfl (lv_at hl 0 rfl) ?_
  refine lv_iload_n hx hb dL_danger_1 rfl (lv_at hl 1 rfl) ?_
  refine wx_wl (vx_runV (As := [.int a]) (rest := []) ⟨hx, hb, hml, hown, hts⟩ (c_X9_danger l hl9 D cA sh ad M _ σ v hX hXX a) (cwV 1 hts gL_danger_X9_danger rfl rfl rfl (by decide +kernel) ⟨Nat.le_of_ble_eq_true rfl, Nat.le_of_ble_eq_true rfl⟩) (xpreV hK hA hW hE hZ (C := RX9) (ci := 9) (hX.1 0 (by decide)) rfl) rfl rfl hl.1 rfl (lv_room (Nat.le_of_ble_eq_true rfl)) dL_danger_2 ⟨Nat.le_of_ble_eq_true rfl, Nat.le_of_ble_eq_true rfl⟩) hA hW (fun E ce q9 M9' H locs p9' hW hce hcv hcl => ?_) (fun x2' M2' H locs p2' hW => ?_)
  · obtain ⟨eE, hG9, o9, hX9⟩ := p9'
    subst eE
    refine vx_catch (own := RL) (name := nIO) hown [] _ [] (show _ = [] ++ _ :: [] from hTB) (fun z hz => nomatch hz) (by decide) (by decide) (hts (.classLink RL 49 "java/lang/IndexOutOfBoundsException") (List.mem_of_getElem? (i := 1) rfl)) (va_Nw.use rfl (hE.1 _ (List.mem_cons_of_mem _ (List.mem_cons_of_mem _ List.mem_cons_self)))) hce hcv hcl ?_
    refine W.eq (g2 := F0 m 6 ls [.ref q9]) rfl ?_
    refine lv_astore_n (lv' := [(2, .ref q9), (0, .ref (ad 0)), (1, .int a)]) hx hb dL_danger_6 rfl hl (by decide) rfl (fun ls hl => ?_)
    refine lv_ldc2 (v := (-1000001)) hx hb hown (hts (.constantLong RL 99 (-1000001)) (List.mem_of_getElem? (i := 2) rfl)) dL_danger_7 ?_
    refine W.widen (k := 1) (n := 6) (by decide) (by decide) ?_
    exact wr_wl hx hb hr hlocks hW dL_danger_10 ⟨(KPm.oA o9), hX9, Or.inr ⟨hG9, rfl⟩⟩
  · try dsimp only at p2'
    obtain ⟨o7, hX7, hG7, hR7⟩ := p2'
    refine W.widen (k := 1) (n := 6) (by decide) (by decide) ?_
    exact wr_wl hx hb hr hlocks hW dL_danger_5 (by obtain ⟨q9, c9', s9, e9'⟩ := hR7; exact ⟨(KPm.oA o7), hX7, Or.inl ⟨hG7, e9'⟩⟩)
set_option maxHeartbeats 4000000 in
set_option maxRecDepth 100000 in
theorem c_L_firing (l : Launch) (hl9 : l.stackTraces = false) (D : va_G) (cA : Nat → ClassId) (sh : Nat → Option Sh) (ad : Nat → Nat) (M : MS) (sz : Nat) (σ : AS) (v : VT) (hX : XSh (aN σ) sh) (hXX : XX σ v M) (a : Int32) (q : Nat → Nat) (c : Nat) (hs : Srt σ 40 q c) : Met l yL_firing wsL_firing ({ frames := 7, cells := 1, slots := 6, locals := 116 }) (lPc D cA sh ad M sz [.ref (ad 0), .int a]) (wQi D cA sh ad (fun r M' => KPm M M' ∧ XX σ v M' ∧ r = (if fiB (lit σ q c) a = true then nI (firA σ q c (n1 a)) else -1000001)) (wA sh ad sz)) 1 6 (wA sh ad sz) := by
  refine Met.ofWH (cc := cL_firing) (maxL := 3) (ret := (some .int)) (hh := [(0, 5, 6, 49)]) (by decide) rfl ?_
  intro p e s m args below meth cd0 s₁ B hml hTB hv
  obtain ⟨rfl, hsz, hM, hK, hE, hZ, hE2⟩ := hv
  have hx := B.exec
  have hb := B.bytes
  have hr := B.returns
  have hts := atoms_spec (ws := wsL_firing) B.pre
  have hown : s.vm.findClass RL = some m.cls := findClass_of_methodNamed B.named
  have hlocks := B.notSynchronized
  subst hsz
  have hA := wA_PA sh ad s.heap
  generalize wA sh ad s.heap.size = A at hA hZ ⊢
  have hW : WS D cA sh ad A s.heap M s.heap [] := ⟨hM, va_S.rf⟩
  have hl := lv_entry ([.ref (ad 0), .int a]) (n := 3) (Nat.le_of_ble_eq_true rfl)
  rw [lg_entry_eq]
  generalize (lg_sl ([.ref (ad 0), .int a]) ++ List.replicate (3 - (lg_sl ([.ref (ad 0), .int a])).length) Slot.unset).toArray = ls at hl ⊢
  have hl : lv_has ls 3 [(0, .ref (ad 0)), (1, .int a)] := hl
  refine lv_aload_n hx hb dL_firing_0 rfl (lv_at hl 0 rfl) ?_
  refine lv_iload_n hx hb dL_firing_1 rfl (lv_at hl 1 rfl) ?_
  refine wx_wi (vx_runV (As := [.int a]) (rest := []) ⟨hx, hb, hml, hown, hts⟩ (c_X9_firing l hl9 D cA sh ad M _ σ v hX hXX a) (cwV 1 hts gL_firing_X9_firing rfl rfl rfl (by decide +kernel) ⟨Nat.le_of_ble_eq_true rfl, Nat.le_of_ble_eq_true rfl⟩) (xpreV hK hA hW hE hZ (C := RX9) (ci := 9) (hX.1 0 (by decide)) rfl) rfl rfl hl.1 rfl (lv_room (Nat.le_of_ble_eq_true rfl)) dL_firing_2 ⟨Nat.le_of_ble_eq_true rfl, Nat.le_of_ble_eq_true rfl⟩) hA hW (fun E ce q9 M9' H locs p9' hW hce hcv hcl => ?_) (fun x2' M2' H locs p2' hW => ?_)
  · obtain ⟨eE, o9, hX9, hG9⟩ := p9'
    subst eE
    refine vx_catch (own := RL) (name := nIO) hown [] _ [] (show _ = [] ++ _ :: [] from hTB) (fun z hz => nomatch hz) (by decide) (by decide) (hts (.classLink RL 49 "java/lang/IndexOutOfBoundsException") (List.mem_of_getElem? (i := 1) rfl)) (va_Nw.use rfl (hE.1 _ (List.mem_cons_of_mem _ (List.mem_cons_of_mem _ List.mem_cons_self)))) hce hcv hcl ?_
    refine W.eq (g2 := F0 m 6 ls [.ref q9]) rfl ?_
    refine lv_astore_n (lv' := [(2, .ref q9), (0, .ref (ad 0)), (1, .int a)]) hx hb dL_firing_6 rfl hl (by decide) rfl (fun ls hl => ?_)
    refine lv_ldc (v := (-1000001)) hx hb hown (hts (.constant RL 51 (-1000001)) (List.mem_of_getElem? (i := 2) rfl)) dL_firing_7 ?_
    refine W.widen (k := 1) (n := 6) (by decide) (by decide) ?_
    exact wr_wi hx hb hr hlocks hW dL_firing_9 (by obtain ⟨q9, c9', s9, f9⟩ := hG9; exact ⟨(KPm.oA o9), hX9, (ifB_f (by rw [← lit_un hs s9]; exact f9)).symm⟩)
  · try dsimp only at p2'
    obtain ⟨o7, hX7, hR7⟩ := p2'
    refine W.widen (k := 1) (n := 6) (by decide) (by decide) ?_
    exact wr_wi hx hb hr hlocks hW dL_firing_5 (by obtain ⟨q9, c9', s9, f9, e9'⟩ := hR7; exact ⟨(KPm.oA o7), hX7, by rw [ifB_t (by rw [← lit_un hs s9]; exact f9), e9', firA_un hs s9]⟩)
set_option maxHeartbeats 4000000 in
set_option maxRecDepth 100000 in
theorem c_L_falls (l : Launch) (hl9 : l.stackTraces = false) (D : va_G) (cA : Nat → ClassId) (sh : Nat → Option Sh) (ad : Nat → Nat) (M : MS) (sz : Nat) (σ : AS) (v : VT) (hX : XSh (aN σ) sh) (hXX : XX σ v M) (a : Int32) (b : Int32) : Met l yL_falls wsL_falls ({ frames := 8, cells := 2, slots := 12, locals := 134 }) (lPc D cA sh ad M sz [.ref (ad 0), .int a, .int b]) (wQi D cA sh ad (fun r M' => KPm M M' ∧ XX σ v M' ∧ r = (if cuB σ a = true then (if inB b 0 3 = true then tolA σ (n1 a) b else -1000002) else -1000001)) (wA sh ad sz)) 2 12 (wA sh ad sz) := by
  refine Met.ofWH (cc := cL_falls) (maxL := 4) (ret := (some .int)) (hh := [(0, 6, 7, 49), (0, 6, 11, 16)]) (by decide) rfl ?_
  intro p e s m args below meth cd0 s₁ B hml hTB hv
  obtain ⟨rfl, hsz, hM, hK, hE, hZ, hE2⟩ := hv
  have hx := B.exec
  have hb := B.bytes
  have hr := B.returns
  have hts := atoms_spec (ws := wsL_falls) B.pre
  have hown : s.vm.findClass RL = some m.cls := findClass_of_methodNamed B.named
  have hlocks := B.notSynchronized
  subst hsz
  have hA := wA_PA sh ad s.heap
  generalize wA sh ad s.heap.size = A at hA hZ ⊢
  have hW : WS D cA sh ad A s.heap M s.heap [] := ⟨hM, va_S.rf⟩
  have hl := lv_entry ([.ref (ad 0), .int a, .int b]) (n := 4) (Nat.le_of_ble_eq_true rfl)
  rw [lg_entry_eq]
  generalize (lg_sl ([.ref (ad 0), .int a, .int b]) ++ List.replicate (4 - (lg_sl ([.ref (ad 0), .int a, .int b])).length) Slot.unset).toArray = ls at hl ⊢
  have hl : lv_has ls 4 [(0, .ref (ad 0)), (1, .int a), (2, .int b)] := hl
  refine lv_aload_n hx hb dL_falls_0 rfl (lv_at hl 0 rfl) ?_
  refine lv_iload_n hx hb dL_falls_1 rfl (lv_at hl 1 rfl) ?_
  refine lv_iload_n hx hb dL_falls_2 rfl (lv_at hl 2 rfl) ?_
  refine wx_wi (vx_runV (As := [.int a, .int b]) (rest := []) ⟨hx, hb, hml, hown, hts⟩ (c_X9_falls l hl9 D cA sh ad M _ σ v hX hXX a b) (cwV 2 hts gL_falls_X9_falls rfl rfl rfl (by decide +kernel) ⟨Nat.le_of_ble_eq_true rfl, Nat.le_of_ble_eq_true rfl⟩) (xpreV hK hA hW hE hZ (C := RX9) (ci := 9) (hX.1 0 (by decide)) rfl) rfl rfl hl.1 rfl (lv_room (Nat.le_of_ble_eq_true rfl)) dL_falls_3 ⟨Nat.le_of_ble_eq_true rfl, Nat.le_of_ble_eq_true rfl⟩) hA hW (fun E ce q9 M9' H locs p9' hW hce hcv hcl => ?_) (fun x3' M3' H locs p3' hW => ?_)
  · obtain ⟨⟨eE, hG9⟩ | ⟨eE, hG8, hG9⟩, o9, hX9⟩ := p9'
    · subst eE
      refine vx_catch (own := RL) (name := nIO) hown [] _ [_] (show _ = [] ++ _ :: [_] from hTB) (fun z hz => nomatch hz) (by decide) (by decide) (hts (.classLink RL 49 "java/lang/IndexOutOfBoundsException") (List.mem_of_getElem? (i := 1) rfl)) (va_Nw.use rfl (hE.1 _ (List.mem_cons_of_mem _ (List.mem_cons_of_mem _ List.mem_cons_self)))) hce hcv hcl ?_
      refine W.eq (g2 := F0 m 7 ls [.ref q9]) rfl ?_
      refine lv_astore_n (lv' := [(3, .ref q9), (0, .ref (ad 0)), (1, .int a), (2, .int b)]) hx hb dL_falls_7 rfl hl (by decide) rfl (fun ls hl => ?_)
      refine lv_ldc (v := (-1000001)) hx hb hown (hts (.constant RL 51 (-1000001)) (List.mem_of_getElem? (i := 3) rfl)) dL_falls_8 ?_
      refine W.widen (k := 2) (n := 12) (by decide) (by decide) ?_
      exact wr_wi hx hb hr hlocks hW dL_falls_10 ⟨(KPm.oA o9), hX9, (ifB_f hG9).symm⟩
    · subst eE
      refine vx_catch (own := RL) (name := nIA) hown [_] _ [] (show _ = [_] ++ _ :: [] from hTB) (fun z hz => by rw [List.mem_singleton.mp hz]; exact Or.inr ⟨by decide, nIO, (hts (.classLink RL 49 "java/lang/IndexOutOfBoundsException") (List.mem_of_getElem? (i := 1) rfl)), hE2.2⟩) (by decide) (by decide) (hts (.classLink RL 16 "java/lang/IllegalArgumentException") (List.mem_of_getElem? (i := 2) rfl)) (va_Nw.use rfl (hE.1 _ List.mem_cons_self)) hce hcv hcl ?_
      refine W.eq (g2 := F0 m 11 ls [.ref q9]) rfl ?_
      refine lv_astore_n (lv' := [(3, .ref q9), (0, .ref (ad 0)), (1, .int a), (2, .int b)]) hx hb dL_falls_11 rfl hl (by decide) rfl (fun ls hl => ?_)
      refine lv_ldc (v := (-1000002)) hx hb hown (hts (.constant RL 18 (-1000002)) (List.mem_of_getElem? (i := 4) rfl)) dL_falls_12 ?_
      refine W.widen (k := 2) (n := 12) (by decide) (by decide) ?_
      exact wr_wi hx hb hr hlocks hW dL_falls_14 ⟨(KPm.oA o9), hX9, by rw [ifB_t hG8, ifB_f hG9]⟩
  · try dsimp only at p3'
    obtain ⟨o7, hX7, hG7, hH7, hR7⟩ := p3'
    refine W.widen (k := 2) (n := 12) (by decide) (by decide) ?_
    exact wr_wi hx hb hr hlocks hW dL_falls_6 ⟨(KPm.oA o7), hX7, by rw [ifB_t hG7, ifB_t hH7]; exact hR7⟩
set_option maxHeartbeats 4000000 in
set_option maxRecDepth 100000 in
theorem c_L_fallsBySteps (l : Launch) (hl9 : l.stackTraces = false) (D : va_G) (cA : Nat → ClassId) (sh : Nat → Option Sh) (ad : Nat → Nat) (M : MS) (sz : Nat) (σ : AS) (v : VT) (hX : XSh (aN σ) sh) (hXX : XX σ v M) (a : Int32) (b : Int32) : Met l yL_fallsBySteps wsL_fallsBySteps ({ frames := 8, cells := 2, slots := 12, locals := 135 }) (lPc D cA sh ad M sz [.ref (ad 0), .int a, .int b]) (wQi D cA sh ad (fun r M' => KPm M M' ∧ XX σ v M' ∧ r = (if cuB σ a = true then (if inB b 0 3 = true then tolA σ (n1 a) b else -1000002) else -1000001)) (wA sh ad sz)) 2 12 (wA sh ad sz) := by
  refine Met.ofWH (cc := cL_fallsBySteps) (maxL := 4) (ret := (some .int)) (hh := [(0, 6, 7, 49), (0, 6, 11, 16)]) (by decide) rfl ?_
  intro p e s m args below meth cd0 s₁ B hml hTB hv
  obtain ⟨rfl, hsz, hM, hK, hE, hZ, hE2⟩ := hv
  have hx := B.exec
  have hb := B.bytes
  have hr := B.returns
  have hts := atoms_spec (ws := wsL_fallsBySteps) B.pre
  have hown : s.vm.findClass RL = some m.cls := findClass_of_methodNamed B.named
  have hlocks := B.notSynchronized
  subst hsz
  have hA := wA_PA sh ad s.heap
  generalize wA sh ad s.heap.size = A at hA hZ ⊢
  have hW : WS D cA sh ad A s.heap M s.heap [] := ⟨hM, va_S.rf⟩
  have hl := lv_entry ([.ref (ad 0), .int a, .int b]) (n := 4) (Nat.le_of_ble_eq_true rfl)
  rw [lg_entry_eq]
  generalize (lg_sl ([.ref (ad 0), .int a, .int b]) ++ List.replicate (4 - (lg_sl ([.ref (ad 0), .int a, .int b])).length) Slot.unset).toArray = ls at hl ⊢
  have hl : lv_has ls 4 [(0, .ref (ad 0)), (1, .int a), (2, .int b)] := hl
  refine lv_aload_n hx hb dL_fallsBySteps_0 rfl (lv_at hl 0 rfl) ?_
  refine lv_iload_n hx hb dL_fallsBySteps_1 rfl (lv_at hl 1 rfl) ?_
  refine lv_iload_n hx hb dL_fallsBySteps_2 rfl (lv_at hl 2 rfl) ?_
  refine wx_wi (vx_runV (As := [.int a, .int b]) (rest := []) ⟨hx, hb, hml, hown, hts⟩ (c_X9_fallsBySteps l hl9 D cA sh ad M _ σ v hX hXX a b) (cwV 2 hts gL_fallsBySteps_X9_fallsBySteps rfl rfl rfl (by decide +kernel) ⟨Nat.le_of_ble_eq_true rfl, Nat.le_of_ble_eq_true rfl⟩) (xpreV hK hA hW hE hZ (C := RX9) (ci := 9) (hX.1 0 (by decide)) rfl) rfl rfl hl.1 rfl (lv_room (Nat.le_of_ble_eq_true rfl)) dL_fallsBySteps_3 ⟨Nat.le_of_ble_eq_true rfl, Nat.le_of_ble_eq_true rfl⟩) hA hW (fun E ce q9 M9' H locs p9' hW hce hcv hcl => ?_) (fun x3' M3' H locs p3' hW => ?_)
  · obtain ⟨⟨eE, hG9⟩ | ⟨eE, hG8, hG9⟩, o9, hX9⟩ := p9'
    · subst eE
      refine vx_catch (own := RL) (name := nIO) hown [] _ [_] (show _ = [] ++ _ :: [_] from hTB) (fun z hz => nomatch hz) (by decide) (by decide) (hts (.classLink RL 49 "java/lang/IndexOutOfBoundsException") (List.mem_of_getElem? (i := 1) rfl)) (va_Nw.use rfl (hE.1 _ (List.mem_cons_of_mem _ (List.mem_cons_of_mem _ List.mem_cons_self)))) hce hcv hcl ?_
      refine W.eq (g2 := F0 m 7 ls [.ref q9]) rfl ?_
      refine lv_astore_n (lv' := [(3, .ref q9), (0, .ref (ad 0)), (1, .int a), (2, .int b)]) hx hb dL_fallsBySteps_7 rfl hl (by decide) rfl (fun ls hl => ?_)
      refine lv_ldc (v := (-1000001)) hx hb hown (hts (.constant RL 51 (-1000001)) (List.mem_of_getElem? (i := 3) rfl)) dL_fallsBySteps_8 ?_
      refine W.widen (k := 2) (n := 12) (by decide) (by decide) ?_
      exact wr_wi hx hb hr hlocks hW dL_fallsBySteps_10 ⟨(KPm.oA o9), hX9, (ifB_f hG9).symm⟩
    · subst eE
      refine vx_catch (own := RL) (name := nIA) hown [_] _ [] (show _ = [_] ++ _ :: [] from hTB) (fun z hz => by rw [List.mem_singleton.mp hz]; exact Or.inr ⟨by decide, nIO, (hts (.classLink RL 49 "java/lang/IndexOutOfBoundsException") (List.mem_of_getElem? (i := 1) rfl)), hE2.2⟩) (by decide) (by decide) (hts (.classLink RL 16 "java/lang/IllegalArgumentException") (List.mem_of_getElem? (i := 2) rfl)) (va_Nw.use rfl (hE.1 _ List.mem_cons_self)) hce hcv hcl ?_
      refine W.eq (g2 := F0 m 11 ls [.ref q9]) rfl ?_
      refine lv_astore_n (lv' := [(3, .ref q9), (0, .ref (ad 0)), (1, .int a), (2, .int b)]) hx hb dL_fallsBySteps_11 rfl hl (by decide) rfl (fun ls hl => ?_)
      refine lv_ldc (v := (-1000002)) hx hb hown (hts (.constant RL 18 (-1000002)) (List.mem_of_getElem? (i := 4) rfl)) dL_fallsBySteps_12 ?_
      refine W.widen (k := 2) (n := 12) (by decide) (by decide) ?_
      exact wr_wi hx hb hr hlocks hW dL_fallsBySteps_14 ⟨(KPm.oA o9), hX9, by rw [ifB_t hG8, ifB_f hG9]⟩
  · try dsimp only at p3'
    obtain ⟨o7, hX7, hG7, hH7, hR7⟩ := p3'
    refine W.widen (k := 2) (n := 12) (by decide) (by decide) ?_
    exact wr_wi hx hb hr hlocks hW dL_fallsBySteps_6 ⟨(KPm.oA o7), hX7, by rw [ifB_t hG7, ifB_t hH7]; exact hR7⟩
set_option maxHeartbeats 4000000 in
set_option maxRecDepth 100000 in
theorem c_L_burstAt (l : Launch) (hl9 : l.stackTraces = false) (D : va_G) (cA : Nat → ClassId) (sh : Nat → Option Sh) (ad : Nat → Nat) (M : MS) (sz : Nat) (σ : AS) (v : VT) (hX : XSh (aN σ) sh) (hXX : XX σ v M) (a : Int32) (b : Int32) : Met l yL_burstAt wsL_burstAt ({ frames := 8, cells := 2, slots := 12, locals := 135 }) (lPc D cA sh ad M sz [.ref (ad 0), .int a, .int b]) (wQi D cA sh ad (fun r M' => KPm M M' ∧ XX σ v M' ∧ r = (if cuB σ a = true then (if inB b 0 2 = true then bstA σ (n1 a) b else -1000002) else -1000001)) (wA sh ad sz)) 2 12 (wA sh ad sz) := by
  refine Met.ofWH (cc := cL_burstAt) (maxL := 4) (ret := (some .int)) (hh := [(0, 6, 7, 49), (0, 6, 11, 16)]) (by decide) rfl ?_
  intro p e s m args below meth cd0 s₁ B hml hTB hv
  obtain ⟨rfl, hsz, hM, hK, hE, hZ, hE2⟩ := hv
  have hx := B.exec
  have hb := B.bytes
  have hr := B.returns
  have hts := atoms_spec (ws := wsL_burstAt) B.pre
  have hown : s.vm.findClass RL = some m.cls := findClass_of_methodNamed B.named
  have hlocks := B.notSynchronized
  subst hsz
  have hA := wA_PA sh ad s.heap
  generalize wA sh ad s.heap.size = A at hA hZ ⊢
  have hW : WS D cA sh ad A s.heap M s.heap [] := ⟨hM, va_S.rf⟩
  have hl := lv_entry ([.ref (ad 0), .int a, .int b]) (n := 4) (Nat.le_of_ble_eq_true rfl)
  rw [lg_entry_eq]
  generalize (lg_sl ([.ref (ad 0), .int a, .int b]) ++ List.replicate (4 - (lg_sl ([.ref (ad 0), .int a, .int b])).length) Slot.unset).toArray = ls at hl ⊢
  have hl : lv_has ls 4 [(0, .ref (ad 0)), (1, .int a), (2, .int b)] := hl
  refine lv_aload_n hx hb dL_burstAt_0 rfl (lv_at hl 0 rfl) ?_
  refine lv_iload_n hx hb dL_burstAt_1 rfl (lv_at hl 1 rfl) ?_
  refine lv_iload_n hx hb dL_burstAt_2 rfl (lv_at hl 2 rfl) ?_
  refine wx_wi (vx_runV (As := [.int a, .int b]) (rest := []) ⟨hx, hb, hml, hown, hts⟩ (c_X9_burstAt l hl9 D cA sh ad M _ σ v hX hXX a b) (cwV 2 hts gL_burstAt_X9_burstAt rfl rfl rfl (by decide +kernel) ⟨Nat.le_of_ble_eq_true rfl, Nat.le_of_ble_eq_true rfl⟩) (xpreV hK hA hW hE hZ (C := RX9) (ci := 9) (hX.1 0 (by decide)) rfl) rfl rfl hl.1 rfl (lv_room (Nat.le_of_ble_eq_true rfl)) dL_burstAt_3 ⟨Nat.le_of_ble_eq_true rfl, Nat.le_of_ble_eq_true rfl⟩) hA hW (fun E ce q9 M9' H locs p9' hW hce hcv hcl => ?_) (fun x3' M3' H locs p3' hW => ?_)
  · obtain ⟨⟨eE, hG9⟩ | ⟨eE, hG8, hG9⟩, o9, hX9⟩ := p9'
    · subst eE
      refine vx_catch (own := RL) (name := nIO) hown [] _ [_] (show _ = [] ++ _ :: [_] from hTB) (fun z hz => nomatch hz) (by decide) (by decide) (hts (.classLink RL 49 "java/lang/IndexOutOfBoundsException") (List.mem_of_getElem? (i := 1) rfl)) (va_Nw.use rfl (hE.1 _ (List.mem_cons_of_mem _ (List.mem_cons_of_mem _ List.mem_cons_self)))) hce hcv hcl ?_
      refine W.eq (g2 := F0 m 7 ls [.ref q9]) rfl ?_
      refine lv_astore_n (lv' := [(3, .ref q9), (0, .ref (ad 0)), (1, .int a), (2, .int b)]) hx hb dL_burstAt_7 rfl hl (by decide) rfl (fun ls hl => ?_)
      refine lv_ldc (v := (-1000001)) hx hb hown (hts (.constant RL 51 (-1000001)) (List.mem_of_getElem? (i := 3) rfl)) dL_burstAt_8 ?_
      refine W.widen (k := 2) (n := 12) (by decide) (by decide) ?_
      exact wr_wi hx hb hr hlocks hW dL_burstAt_10 ⟨(KPm.oA o9), hX9, (ifB_f hG9).symm⟩
    · subst eE
      refine vx_catch (own := RL) (name := nIA) hown [_] _ [] (show _ = [_] ++ _ :: [] from hTB) (fun z hz => by rw [List.mem_singleton.mp hz]; exact Or.inr ⟨by decide, nIO, (hts (.classLink RL 49 "java/lang/IndexOutOfBoundsException") (List.mem_of_getElem? (i := 1) rfl)), hE2.2⟩) (by decide) (by decide) (hts (.classLink RL 16 "java/lang/IllegalArgumentException") (List.mem_of_getElem? (i := 2) rfl)) (va_Nw.use rfl (hE.1 _ List.mem_cons_self)) hce hcv hcl ?_
      refine W.eq (g2 := F0 m 11 ls [.ref q9]) rfl ?_
      refine lv_astore_n (lv' := [(3, .ref q9), (0, .ref (ad 0)), (1, .int a), (2, .int b)]) hx hb dL_burstAt_11 rfl hl (by decide) rfl (fun ls hl => ?_)
      refine lv_ldc (v := (-1000002)) hx hb hown (hts (.constant RL 18 (-1000002)) (List.mem_of_getElem? (i := 4) rfl)) dL_burstAt_12 ?_
      refine W.widen (k := 2) (n := 12) (by decide) (by decide) ?_
      exact wr_wi hx hb hr hlocks hW dL_burstAt_14 ⟨(KPm.oA o9), hX9, by rw [ifB_t hG8, ifB_f hG9]⟩
  · try dsimp only at p3'
    obtain ⟨o7, hX7, hG7, hH7, hR7⟩ := p3'
    refine W.widen (k := 2) (n := 12) (by decide) (by decide) ?_
    exact wr_wi hx hb hr hlocks hW dL_burstAt_6 ⟨(KPm.oA o7), hX7, by rw [ifB_t hG7, ifB_t hH7]; exact hR7⟩
set_option maxHeartbeats 4000000 in
set_option maxRecDepth 100000 in
theorem c_L_setRack (l : Launch) (hl9 : l.stackTraces = false) (D : va_G) (cA : Nat → ClassId) (sh : Nat → Option Sh) (ad : Nat → Nat) (M : MS) (sz : Nat) (σ : AS) (v : VT) (hX : XSh (aN σ) sh) (hXX : XX σ v M) (a : Int32) (b : Int32) (d : Int32) : Met l yL_setRack wsL_setRack ({ frames := 7, cells := 1, slots := 6, locals := 114 }) (lPc D cA sh ad M sz [.ref (ad 0), .int a, .int b, .int d]) (wQi D cA sh ad (fun r M' => KPm M M' ∧ (((inB a 0 5 && zoB b d) = true ∧ r = nI (8 * σ.2 1 (n1 a) + σ.2 0 (n1 a)) ∧ XX (oRack σ (n1 a) (n1 b) (n1 d)) v M') ∨ ((inB a 0 5 && zoB b d) = false ∧ r = -1000002 ∧ XX σ v M'))) (wA sh ad sz)) 1 6 (wA sh ad sz) := by
  refine Met.ofWH (cc := cL_setRack) (maxL := 5) (ret := (some .int)) (hh := [(0, 7, 8, 16)]) (by decide) rfl ?_
  intro p e s m args below meth cd0 s₁ B hml hTB hv
  obtain ⟨rfl, hsz, hM, hK, hE, hZ, hE2⟩ := hv
  have hx := B.exec
  have hb := B.bytes
  have hr := B.returns
  have hts := atoms_spec (ws := wsL_setRack) B.pre
  have hown : s.vm.findClass RL = some m.cls := findClass_of_methodNamed B.named
  have hlocks := B.notSynchronized
  subst hsz
  have hA := wA_PA sh ad s.heap
  generalize wA sh ad s.heap.size = A at hA hZ ⊢
  have hW : WS D cA sh ad A s.heap M s.heap [] := ⟨hM, va_S.rf⟩
  have hl := lv_entry ([.ref (ad 0), .int a, .int b, .int d]) (n := 5) (Nat.le_of_ble_eq_true rfl)
  rw [lg_entry_eq]
  generalize (lg_sl ([.ref (ad 0), .int a, .int b, .int d]) ++ List.replicate (5 - (lg_sl ([.ref (ad 0), .int a, .int b, .int d])).length) Slot.unset).toArray = ls at hl ⊢
  have hl : lv_has ls 5 [(0, .ref (ad 0)), (1, .int a), (2, .int b), (3, .int d)] := hl
  refine lv_aload_n hx hb dL_setRack_0 rfl (lv_at hl 0 rfl) ?_
  refine lv_iload_n hx hb dL_setRack_1 rfl (lv_at hl 1 rfl) ?_
  refine lv_iload_n hx hb dL_setRack_2 rfl (lv_at hl 2 rfl) ?_
  refine lv_iload_n hx hb dL_setRack_3 rfl (lv_at hl 3 rfl) ?_
  refine wx_wi (vx_runV (As := [.int a, .int b, .int d]) (rest := []) ⟨hx, hb, hml, hown, hts⟩ (c_X9_setRack l hl9 D cA sh ad M _ σ v hX hXX a b d) (cwV 3 hts gL_setRack_X9_setRack rfl rfl rfl (by decide +kernel) ⟨Nat.le_of_ble_eq_true rfl, Nat.le_of_ble_eq_true rfl⟩) (xpreV hK hA hW hE hZ (C := RX9) (ci := 9) (hX.1 0 (by decide)) rfl) rfl rfl hl.1 rfl (lv_room (Nat.le_of_ble_eq_true rfl)) dL_setRack_4 ⟨Nat.le_of_ble_eq_true rfl, Nat.le_of_ble_eq_true rfl⟩) hA hW (fun E ce q9 M9' H locs p9' hW hce hcv hcl => ?_) (fun x4' M4' H locs p4' hW => ?_)
  · obtain ⟨eE, hG9, o9, hX9⟩ := p9'
    subst eE
    refine vx_catch (own := RL) (name := nIA) hown [] _ [] (show _ = [] ++ _ :: [] from hTB) (fun z hz => nomatch hz) (by decide) (by decide) (hts (.classLink RL 16 "java/lang/IllegalArgumentException") (List.mem_of_getElem? (i := 1) rfl)) (va_Nw.use rfl (hE.1 _ List.mem_cons_self)) hce hcv hcl ?_
    refine W.eq (g2 := F0 m 8 ls [.ref q9]) rfl ?_
    refine lv_astore (lv' := [(4, .ref q9), (0, .ref (ad 0)), (1, .int a), (2, .int b), (3, .int d)]) hx hb dL_setRack_8 hl (by decide) rfl (fun ls hl => ?_)
    refine lv_ldc (v := (-1000002)) hx hb hown (hts (.constant RL 18 (-1000002)) (List.mem_of_getElem? (i := 2) rfl)) dL_setRack_10 ?_
    refine W.widen (k := 1) (n := 6) (by decide) (by decide) ?_
    exact wr_wi hx hb hr hlocks hW dL_setRack_12 ⟨(KPm.oA o9), Or.inr ⟨hG9, rfl, hX9⟩⟩
  · try dsimp only at p4'
    obtain ⟨o7, hX7, hG7, hR7⟩ := p4'
    refine W.widen (k := 1) (n := 6) (by decide) (by decide) ?_
    exact wr_wi hx hb hr hlocks hW dL_setRack_7 ⟨(KPm.oA o7), Or.inl ⟨hG7, hR7, hX7⟩⟩
set_option maxHeartbeats 4000000 in
set_option maxRecDepth 100000 in
theorem c_L_setShell (l : Launch) (hl9 : l.stackTraces = false) (D : va_G) (cA : Nat → ClassId) (sh : Nat → Option Sh) (ad : Nat → Nat) (M : MS) (sz : Nat) (σ : AS) (v : VT) (hX : XSh (aN σ) sh) (hXX : XX σ v M) (a : Int32) (b : Int32) (d : Int32) (f : Int32) : Met l yL_setShell wsL_setShell ({ frames := 7, cells := 1, slots := 6, locals := 114 }) (lPc D cA sh ad M sz [.ref (ad 0), .int a, .int b, .int d, .int f]) (wQi D cA sh ad (fun r M' => KPm M M' ∧ (((inB a 0 3 && inB b 1 200 && inB d 1 100 && inB f 0 3) = true ∧ r = nI (liftN b d (flN b d)) ∧ XX (oShell σ (n1 a) b d (n1 f)) v M') ∨ ((inB a 0 3 && inB b 1 200 && inB d 1 100 && inB f 0 3) = false ∧ r = -1000002 ∧ XX σ v M'))) (wA sh ad sz)) 1 6 (wA sh ad sz) := by
  refine Met.ofWH (cc := cL_setShell) (maxL := 6) (ret := (some .int)) (hh := [(0, 9, 10, 16)]) (by decide) rfl ?_
  intro p e s m args below meth cd0 s₁ B hml hTB hv
  obtain ⟨rfl, hsz, hM, hK, hE, hZ, hE2⟩ := hv
  have hx := B.exec
  have hb := B.bytes
  have hr := B.returns
  have hts := atoms_spec (ws := wsL_setShell) B.pre
  have hown : s.vm.findClass RL = some m.cls := findClass_of_methodNamed B.named
  have hlocks := B.notSynchronized
  subst hsz
  have hA := wA_PA sh ad s.heap
  generalize wA sh ad s.heap.size = A at hA hZ ⊢
  have hW : WS D cA sh ad A s.heap M s.heap [] := ⟨hM, va_S.rf⟩
  have hl := lv_entry ([.ref (ad 0), .int a, .int b, .int d, .int f]) (n := 6) (Nat.le_of_ble_eq_true rfl)
  rw [lg_entry_eq]
  generalize (lg_sl ([.ref (ad 0), .int a, .int b, .int d, .int f]) ++ List.replicate (6 - (lg_sl ([.ref (ad 0), .int a, .int b, .int d, .int f])).length) Slot.unset).toArray = ls at hl ⊢
  have hl : lv_has ls 6 [(0, .ref (ad 0)), (1, .int a), (2, .int b), (3, .int d), (4, .int f)] := hl
  refine lv_aload_n hx hb dL_setShell_0 rfl (lv_at hl 0 rfl) ?_
  refine lv_iload_n hx hb dL_setShell_1 rfl (lv_at hl 1 rfl) ?_
  refine lv_iload_n hx hb dL_setShell_2 rfl (lv_at hl 2 rfl) ?_
  refine lv_iload_n hx hb dL_setShell_3 rfl (lv_at hl 3 rfl) ?_
  refine lv_iload hx hb dL_setShell_4 (lv_at hl 4 rfl) ?_
  refine wx_wi (vx_runV (As := [.int a, .int b, .int d, .int f]) (rest := []) ⟨hx, hb, hml, hown, hts⟩ (c_X9_setShell l hl9 D cA sh ad M _ σ v hX hXX a b d f) (cwV 4 hts gL_setShell_X9_setShell rfl rfl rfl (by decide +kernel) ⟨Nat.le_of_ble_eq_true rfl, Nat.le_of_ble_eq_true rfl⟩) (xpreV hK hA hW hE hZ (C := RX9) (ci := 9) (hX.1 0 (by decide)) rfl) rfl rfl hl.1 rfl (lv_room (Nat.le_of_ble_eq_true rfl)) dL_setShell_6 ⟨Nat.le_of_ble_eq_true rfl, Nat.le_of_ble_eq_true rfl⟩) hA hW (fun E ce q9 M9' H locs p9' hW hce hcv hcl => ?_) (fun x6' M6' H locs p6' hW => ?_)
  · obtain ⟨eE, hG9, o9, hX9⟩ := p9'
    subst eE
    refine vx_catch (own := RL) (name := nIA) hown [] _ [] (show _ = [] ++ _ :: [] from hTB) (fun z hz => nomatch hz) (by decide) (by decide) (hts (.classLink RL 16 "java/lang/IllegalArgumentException") (List.mem_of_getElem? (i := 1) rfl)) (va_Nw.use rfl (hE.1 _ List.mem_cons_self)) hce hcv hcl ?_
    refine W.eq (g2 := F0 m 10 ls [.ref q9]) rfl ?_
    refine lv_astore (lv' := [(5, .ref q9), (0, .ref (ad 0)), (1, .int a), (2, .int b), (3, .int d), (4, .int f)]) hx hb dL_setShell_10 hl (by decide) rfl (fun ls hl => ?_)
    refine lv_ldc (v := (-1000002)) hx hb hown (hts (.constant RL 18 (-1000002)) (List.mem_of_getElem? (i := 2) rfl)) dL_setShell_12 ?_
    refine W.widen (k := 1) (n := 6) (by decide) (by decide) ?_
    exact wr_wi hx hb hr hlocks hW dL_setShell_14 ⟨(KPm.oA o9), Or.inr ⟨hG9, rfl, hX9⟩⟩
  · try dsimp only at p6'
    obtain ⟨o7, hX7, hG7, hR7⟩ := p6'
    refine W.widen (k := 1) (n := 6) (by decide) (by decide) ?_
    exact wr_wi hx hb hr hlocks hW dL_setShell_9 ⟨(KPm.oA o7), Or.inl ⟨hG7, hR7, hX7⟩⟩
set_option maxHeartbeats 4000000 in
set_option maxRecDepth 100000 in
theorem c_L_setWind (l : Launch) (hl9 : l.stackTraces = false) (D : va_G) (cA : Nat → ClassId) (sh : Nat → Option Sh) (ad : Nat → Nat) (M : MS) (sz : Nat) (σ : AS) (v : VT) (hX : XSh (aN σ) sh) (hXX : XX σ v M) (a : Int32) (b : Int32) (d : Int32) : Met l yL_setWind wsL_setWind ({ frames := 7, cells := 1, slots := 6, locals := 146 }) (lPc D cA sh ad M sz [.ref (ad 0), .int a, .int b, .int d]) (wQi D cA sh ad (fun r M' => KPm M M' ∧ (((inB a 0 3 && inB b (-100) 100 && inB d (-100) 100) = true ∧ r = nI (ctN (fun k => stP (oWind σ (n1 a) b d) k && !stP σ k) 64) ∧ XX (oWind σ (n1 a) b d) v M') ∨ ((inB a 0 3 && inB b (-100) 100 && inB d (-100) 100) = false ∧ r = -1000002 ∧ XX σ v M'))) (wA sh ad sz)) 1 6 (wA sh ad sz) := by
  refine Met.ofWH (cc := cL_setWind) (maxL := 5) (ret := (some .int)) (hh := [(0, 7, 8, 16)]) (by decide) rfl ?_
  intro p e s m args below meth cd0 s₁ B hml hTB hv
  obtain ⟨rfl, hsz, hM, hK, hE, hZ, hE2⟩ := hv
  have hx := B.exec
  have hb := B.bytes
  have hr := B.returns
  have hts := atoms_spec (ws := wsL_setWind) B.pre
  have hown : s.vm.findClass RL = some m.cls := findClass_of_methodNamed B.named
  have hlocks := B.notSynchronized
  subst hsz
  have hA := wA_PA sh ad s.heap
  generalize wA sh ad s.heap.size = A at hA hZ ⊢
  have hW : WS D cA sh ad A s.heap M s.heap [] := ⟨hM, va_S.rf⟩
  have hl := lv_entry ([.ref (ad 0), .int a, .int b, .int d]) (n := 5) (Nat.le_of_ble_eq_true rfl)
  rw [lg_entry_eq]
  generalize (lg_sl ([.ref (ad 0), .int a, .int b, .int d]) ++ List.replicate (5 - (lg_sl ([.ref (ad 0), .int a, .int b, .int d])).length) Slot.unset).toArray = ls at hl ⊢
  have hl : lv_has ls 5 [(0, .ref (ad 0)), (1, .int a), (2, .int b), (3, .int d)] := hl
  refine lv_aload_n hx hb dL_setWind_0 rfl (lv_at hl 0 rfl) ?_
  refine lv_iload_n hx hb dL_setWind_1 rfl (lv_at hl 1 rfl) ?_
  refine lv_iload_n hx hb dL_setWind_2 rfl (lv_at hl 2 rfl) ?_
  refine lv_iload_n hx hb dL_setWind_3 rfl (lv_at hl 3 rfl) ?_
  refine wx_wi (vx_runV (As := [.int a, .int b, .int d]) (rest := []) ⟨hx, hb, hml, hown, hts⟩ (c_X9_setWind l hl9 D cA sh ad M _ σ v hX hXX a b d) (cwV 3 hts gL_setWind_X9_setWind rfl rfl rfl (by decide +kernel) ⟨Nat.le_of_ble_eq_true rfl, Nat.le_of_ble_eq_true rfl⟩) (xpreV hK hA hW hE hZ (C := RX9) (ci := 9) (hX.1 0 (by decide)) rfl) rfl rfl hl.1 rfl (lv_room (Nat.le_of_ble_eq_true rfl)) dL_setWind_4 ⟨Nat.le_of_ble_eq_true rfl, Nat.le_of_ble_eq_true rfl⟩) hA hW (fun E ce q9 M9' H locs p9' hW hce hcv hcl => ?_) (fun x4' M4' H locs p4' hW => ?_)
  · obtain ⟨eE, hG9, o9, hX9⟩ := p9'
    subst eE
    refine vx_catch (own := RL) (name := nIA) hown [] _ [] (show _ = [] ++ _ :: [] from hTB) (fun z hz => nomatch hz) (by decide) (by decide) (hts (.classLink RL 16 "java/lang/IllegalArgumentException") (List.mem_of_getElem? (i := 1) rfl)) (va_Nw.use rfl (hE.1 _ List.mem_cons_self)) hce hcv hcl ?_
    refine W.eq (g2 := F0 m 8 ls [.ref q9]) rfl ?_
    refine lv_astore (lv' := [(4, .ref q9), (0, .ref (ad 0)), (1, .int a), (2, .int b), (3, .int d)]) hx hb dL_setWind_8 hl (by decide) rfl (fun ls hl => ?_)
    refine lv_ldc (v := (-1000002)) hx hb hown (hts (.constant RL 18 (-1000002)) (List.mem_of_getElem? (i := 2) rfl)) dL_setWind_10 ?_
    refine W.widen (k := 1) (n := 6) (by decide) (by decide) ?_
    exact wr_wi hx hb hr hlocks hW dL_setWind_12 ⟨(KPm.oA o9), Or.inr ⟨hG9, rfl, hX9⟩⟩
  · try dsimp only at p4'
    obtain ⟨o7, hX7, hG7, hR7⟩ := p4'
    refine W.widen (k := 1) (n := 6) (by decide) (by decide) ?_
    exact wr_wi hx hb hr hlocks hW dL_setWind_7 ⟨(KPm.oA o7), Or.inl ⟨hG7, hR7, hX7⟩⟩
set_option maxHeartbeats 4000000 in
set_option maxRecDepth 100000 in
theorem c_L_setPeople (l : Launch) (hl9 : l.stackTraces = false) (D : va_G) (cA : Nat → ClassId) (sh : Nat → Option Sh) (ad : Nat → Nat) (M : MS) (sz : Nat) (σ : AS) (v : VT) (hX : XSh (aN σ) sh) (hXX : XX σ v M) (a : Int32) (b : Int32) (d : Int32) : Met l yL_setPeople wsL_setPeople ({ frames := 7, cells := 1, slots := 6, locals := 115 }) (lPc D cA sh ad M sz [.ref (ad 0), .int a, .int b, .int d]) (wQi D cA sh ad (fun r M' => KPm M M' ∧ (((zoB a b && decide (0 ≤ d)) = true ∧ r = σ.1 0 (8 * n1 b + n1 a) ∧ XX (oPeop σ (8 * n1 b + n1 a) d) v M') ∨ ((zoB a b && decide (0 ≤ d)) = false ∧ r = -1000002 ∧ XX σ v M'))) (wA sh ad sz)) 1 6 (wA sh ad sz) := by
  refine Met.ofWH (cc := cL_setPeople) (maxL := 5) (ret := (some .int)) (hh := [(0, 7, 8, 16)]) (by decide) rfl ?_
  intro p e s m args below meth cd0 s₁ B hml hTB hv
  obtain ⟨rfl, hsz, hM, hK, hE, hZ, hE2⟩ := hv
  have hx := B.exec
  have hb := B.bytes
  have hr := B.returns
  have hts := atoms_spec (ws := wsL_setPeople) B.pre
  have hown : s.vm.findClass RL = some m.cls := findClass_of_methodNamed B.named
  have hlocks := B.notSynchronized
  subst hsz
  have hA := wA_PA sh ad s.heap
  generalize wA sh ad s.heap.size = A at hA hZ ⊢
  have hW : WS D cA sh ad A s.heap M s.heap [] := ⟨hM, va_S.rf⟩
  have hl := lv_entry ([.ref (ad 0), .int a, .int b, .int d]) (n := 5) (Nat.le_of_ble_eq_true rfl)
  rw [lg_entry_eq]
  generalize (lg_sl ([.ref (ad 0), .int a, .int b, .int d]) ++ List.replicate (5 - (lg_sl ([.ref (ad 0), .int a, .int b, .int d])).length) Slot.unset).toArray = ls at hl ⊢
  have hl : lv_has ls 5 [(0, .ref (ad 0)), (1, .int a), (2, .int b), (3, .int d)] := hl
  refine lv_aload_n hx hb dL_setPeople_0 rfl (lv_at hl 0 rfl) ?_
  refine lv_iload_n hx hb dL_setPeople_1 rfl (lv_at hl 1 rfl) ?_
  refine lv_iload_n hx hb dL_setPeople_2 rfl (lv_at hl 2 rfl) ?_
  refine lv_iload_n hx hb dL_setPeople_3 rfl (lv_at hl 3 rfl) ?_
  refine wx_wi (vx_runV (As := [.int a, .int b, .int d]) (rest := []) ⟨hx, hb, hml, hown, hts⟩ (c_X9_setPeople l hl9 D cA sh ad M _ σ v hX hXX a b d) (cwV 3 hts gL_setPeople_X9_setPeople rfl rfl rfl (by decide +kernel) ⟨Nat.le_of_ble_eq_true rfl, Nat.le_of_ble_eq_true rfl⟩) (xpreV hK hA hW hE hZ (C := RX9) (ci := 9) (hX.1 0 (by decide)) rfl) rfl rfl hl.1 rfl (lv_room (Nat.le_of_ble_eq_true rfl)) dL_setPeople_4 ⟨Nat.le_of_ble_eq_true rfl, Nat.le_of_ble_eq_true rfl⟩) hA hW (fun E ce q9 M9' H locs p9' hW hce hcv hcl => ?_) (fun x4' M4' H locs p4' hW => ?_)
  · obtain ⟨eE, hG9, o9, hX9⟩ := p9'
    subst eE
    refine vx_catch (own := RL) (name := nIA) hown [] _ [] (show _ = [] ++ _ :: [] from hTB) (fun z hz => nomatch hz) (by decide) (by decide) (hts (.classLink RL 16 "java/lang/IllegalArgumentException") (List.mem_of_getElem? (i := 1) rfl)) (va_Nw.use rfl (hE.1 _ List.mem_cons_self)) hce hcv hcl ?_
    refine W.eq (g2 := F0 m 8 ls [.ref q9]) rfl ?_
    refine lv_astore (lv' := [(4, .ref q9), (0, .ref (ad 0)), (1, .int a), (2, .int b), (3, .int d)]) hx hb dL_setPeople_8 hl (by decide) rfl (fun ls hl => ?_)
    refine lv_ldc (v := (-1000002)) hx hb hown (hts (.constant RL 18 (-1000002)) (List.mem_of_getElem? (i := 2) rfl)) dL_setPeople_10 ?_
    refine W.widen (k := 1) (n := 6) (by decide) (by decide) ?_
    exact wr_wi hx hb hr hlocks hW dL_setPeople_12 ⟨(KPm.oA o9), Or.inr ⟨hG9, rfl, hX9⟩⟩
  · try dsimp only at p4'
    obtain ⟨o7, hX7, hG7, hR7⟩ := p4'
    refine W.widen (k := 1) (n := 6) (by decide) (by decide) ?_
    exact wr_wi hx hb hr hlocks hW dL_setPeople_7 ⟨(KPm.oA o7), Or.inl ⟨hG7, hR7, hX7⟩⟩
set_option maxHeartbeats 4000000 in
set_option maxRecDepth 100000 in
theorem c_L_setValue (l : Launch) (hl9 : l.stackTraces = false) (D : va_G) (cA : Nat → ClassId) (sh : Nat → Option Sh) (ad : Nat → Nat) (M : MS) (sz : Nat) (σ : AS) (v : VT) (hX : XSh (aN σ) sh) (hXX : XX σ v M) (a : Int32) (b : Int32) (d : Int32) : Met l yL_setValue wsL_setValue ({ frames := 7, cells := 1, slots := 6, locals := 115 }) (lPc D cA sh ad M sz [.ref (ad 0), .int a, .int b, .int d]) (wQi D cA sh ad (fun r M' => KPm M M' ∧ (((zoB a b && inB d 0 100000000) = true ∧ r = v.1 (8 * n1 b + n1 a) ∧ XX σ (fun k => if k = 8 * n1 b + n1 a then d else v.1 k, v.2) M') ∨ ((zoB a b && inB d 0 100000000) = false ∧ r = -1000002 ∧ XX σ v M'))) (wA sh ad sz)) 1 6 (wA sh ad sz) := by
  refine Met.ofWH (cc := cL_setValue) (maxL := 5) (ret := (some .int)) (hh := [(0, 7, 8, 16)]) (by decide) rfl ?_
  intro p e s m args below meth cd0 s₁ B hml hTB hv
  obtain ⟨rfl, hsz, hM, hK, hE, hZ, hE2⟩ := hv
  have hx := B.exec
  have hb := B.bytes
  have hr := B.returns
  have hts := atoms_spec (ws := wsL_setValue) B.pre
  have hown : s.vm.findClass RL = some m.cls := findClass_of_methodNamed B.named
  have hlocks := B.notSynchronized
  subst hsz
  have hA := wA_PA sh ad s.heap
  generalize wA sh ad s.heap.size = A at hA hZ ⊢
  have hW : WS D cA sh ad A s.heap M s.heap [] := ⟨hM, va_S.rf⟩
  have hl := lv_entry ([.ref (ad 0), .int a, .int b, .int d]) (n := 5) (Nat.le_of_ble_eq_true rfl)
  rw [lg_entry_eq]
  generalize (lg_sl ([.ref (ad 0), .int a, .int b, .int d]) ++ List.replicate (5 - (lg_sl ([.ref (ad 0), .int a, .int b, .int d])).length) Slot.unset).toArray = ls at hl ⊢
  have hl : lv_has ls 5 [(0, .ref (ad 0)), (1, .int a), (2, .int b), (3, .int d)] := hl
  refine lv_aload_n hx hb dL_setValue_0 rfl (lv_at hl 0 rfl) ?_
  refine lv_iload_n hx hb dL_setValue_1 rfl (lv_at hl 1 rfl) ?_
  refine lv_iload_n hx hb dL_setValue_2 rfl (lv_at hl 2 rfl) ?_
  refine lv_iload_n hx hb dL_setValue_3 rfl (lv_at hl 3 rfl) ?_
  refine wx_wi (vx_runV (As := [.int a, .int b, .int d]) (rest := []) ⟨hx, hb, hml, hown, hts⟩ (c_X9_setValue l hl9 D cA sh ad M _ σ v hX hXX a b d) (cwV 3 hts gL_setValue_X9_setValue rfl rfl rfl (by decide +kernel) ⟨Nat.le_of_ble_eq_true rfl, Nat.le_of_ble_eq_true rfl⟩) (xpreV hK hA hW hE hZ (C := RX9) (ci := 9) (hX.1 0 (by decide)) rfl) rfl rfl hl.1 rfl (lv_room (Nat.le_of_ble_eq_true rfl)) dL_setValue_4 ⟨Nat.le_of_ble_eq_true rfl, Nat.le_of_ble_eq_true rfl⟩) hA hW (fun E ce q9 M9' H locs p9' hW hce hcv hcl => ?_) (fun x4' M4' H locs p4' hW => ?_)
  · obtain ⟨eE, hG9, o9, hX9⟩ := p9'
    subst eE
    refine vx_catch (own := RL) (name := nIA) hown [] _ [] (show _ = [] ++ _ :: [] from hTB) (fun z hz => nomatch hz) (by decide) (by decide) (hts (.classLink RL 16 "java/lang/IllegalArgumentException") (List.mem_of_getElem? (i := 1) rfl)) (va_Nw.use rfl (hE.1 _ List.mem_cons_self)) hce hcv hcl ?_
    refine W.eq (g2 := F0 m 8 ls [.ref q9]) rfl ?_
    refine lv_astore (lv' := [(4, .ref q9), (0, .ref (ad 0)), (1, .int a), (2, .int b), (3, .int d)]) hx hb dL_setValue_8 hl (by decide) rfl (fun ls hl => ?_)
    refine lv_ldc (v := (-1000002)) hx hb hown (hts (.constant RL 18 (-1000002)) (List.mem_of_getElem? (i := 2) rfl)) dL_setValue_10 ?_
    refine W.widen (k := 1) (n := 6) (by decide) (by decide) ?_
    exact wr_wi hx hb hr hlocks hW dL_setValue_12 ⟨(KPm.oA o9), Or.inr ⟨hG9, rfl, hX9⟩⟩
  · try dsimp only at p4'
    obtain ⟨o7, hX7, hG7, hR7⟩ := p4'
    refine W.widen (k := 1) (n := 6) (by decide) (by decide) ?_
    exact wr_wi hx hb hr hlocks hW dL_setValue_7 ⟨(KPm.oA o7), Or.inl ⟨hG7, hR7, hX7⟩⟩
set_option maxHeartbeats 4000000 in
set_option maxRecDepth 100000 in
theorem c_L_setRate (l : Launch) (hl9 : l.stackTraces = false) (D : va_G) (cA : Nat → ClassId) (sh : Nat → Option Sh) (ad : Nat → Nat) (M : MS) (sz : Nat) (σ : AS) (v : VT) (hX : XSh (aN σ) sh) (hXX : XX σ v M) (a : Int32) (b : Int32) : Met l yL_setRate wsL_setRate ({ frames := 7, cells := 1, slots := 6, locals := 113 }) (lPc D cA sh ad M sz [.ref (ad 0), .int a, .int b]) (wQi D cA sh ad (fun r M' => KPm M M' ∧ (((inB a 0 9 && inB b 0 100000) = true ∧ r = v.2 (n1 a) ∧ XX σ (v.1, fun k => if k = n1 a then b else v.2 k) M') ∨ ((inB a 0 9 && inB b 0 100000) = false ∧ r = -1000002 ∧ XX σ v M'))) (wA sh ad sz)) 1 6 (wA sh ad sz) := by
  refine Met.ofWH (cc := cL_setRate) (maxL := 4) (ret := (some .int)) (hh := [(0, 6, 7, 16)]) (by decide) rfl ?_
  intro p e s m args below meth cd0 s₁ B hml hTB hv
  obtain ⟨rfl, hsz, hM, hK, hE, hZ, hE2⟩ := hv
  have hx := B.exec
  have hb := B.bytes
  have hr := B.returns
  have hts := atoms_spec (ws := wsL_setRate) B.pre
  have hown : s.vm.findClass RL = some m.cls := findClass_of_methodNamed B.named
  have hlocks := B.notSynchronized
  subst hsz
  have hA := wA_PA sh ad s.heap
  generalize wA sh ad s.heap.size = A at hA hZ ⊢
  have hW : WS D cA sh ad A s.heap M s.heap [] := ⟨hM, va_S.rf⟩
  have hl := lv_entry ([.ref (ad 0), .int a, .int b]) (n := 4) (Nat.le_of_ble_eq_true rfl)
  rw [lg_entry_eq]
  generalize (lg_sl ([.ref (ad 0), .int a, .int b]) ++ List.replicate (4 - (lg_sl ([.ref (ad 0), .int a, .int b])).length) Slot.unset).toArray = ls at hl ⊢
  have hl : lv_has ls 4 [(0, .ref (ad 0)), (1, .int a), (2, .int b)] := hl
  refine lv_aload_n hx hb dL_setRate_0 rfl (lv_at hl 0 rfl) ?_
  refine lv_iload_n hx hb dL_setRate_1 rfl (lv_at hl 1 rfl) ?_
  refine lv_iload_n hx hb dL_setRate_2 rfl (lv_at hl 2 rfl) ?_
  refine wx_wi (vx_runV (As := [.int a, .int b]) (rest := []) ⟨hx, hb, hml, hown, hts⟩ (c_X9_setRate l hl9 D cA sh ad M _ σ v hX hXX a b) (cwV 2 hts gL_setRate_X9_setRate rfl rfl rfl (by decide +kernel) ⟨Nat.le_of_ble_eq_true rfl, Nat.le_of_ble_eq_true rfl⟩) (xpreV hK hA hW hE hZ (C := RX9) (ci := 9) (hX.1 0 (by decide)) rfl) rfl rfl hl.1 rfl (lv_room (Nat.le_of_ble_eq_true rfl)) dL_setRate_3 ⟨Nat.le_of_ble_eq_true rfl, Nat.le_of_ble_eq_true rfl⟩) hA hW (fun E ce q9 M9' H locs p9' hW hce hcv hcl => ?_) (fun x3' M3' H locs p3' hW => ?_)
  · obtain ⟨eE, hG9, o9, hX9⟩ := p9'
    subst eE
    refine vx_catch (own := RL) (name := nIA) hown [] _ [] (show _ = [] ++ _ :: [] from hTB) (fun z hz => nomatch hz) (by decide) (by decide) (hts (.classLink RL 16 "java/lang/IllegalArgumentException") (List.mem_of_getElem? (i := 1) rfl)) (va_Nw.use rfl (hE.1 _ List.mem_cons_self)) hce hcv hcl ?_
    refine W.eq (g2 := F0 m 7 ls [.ref q9]) rfl ?_
    refine lv_astore_n (lv' := [(3, .ref q9), (0, .ref (ad 0)), (1, .int a), (2, .int b)]) hx hb dL_setRate_7 rfl hl (by decide) rfl (fun ls hl => ?_)
    refine lv_ldc (v := (-1000002)) hx hb hown (hts (.constant RL 18 (-1000002)) (List.mem_of_getElem? (i := 2) rfl)) dL_setRate_8 ?_
    refine W.widen (k := 1) (n := 6) (by decide) (by decide) ?_
    exact wr_wi hx hb hr hlocks hW dL_setRate_10 ⟨(KPm.oA o9), Or.inr ⟨hG9, rfl, hX9⟩⟩
  · try dsimp only at p3'
    obtain ⟨o7, hX7, hG7, hR7⟩ := p3'
    refine W.widen (k := 1) (n := 6) (by decide) (by decide) ?_
    exact wr_wi hx hb hr hlocks hW dL_setRate_6 ⟨(KPm.oA o7), Or.inl ⟨hG7, hR7, hX7⟩⟩
set_option maxHeartbeats 4000000 in
set_option maxRecDepth 100000 in
theorem c_L_cut (l : Launch) (hl9 : l.stackTraces = false) (D : va_G) (cA : Nat → ClassId) (sh : Nat → Option Sh) (ad : Nat → Nat) (M : MS) (sz : Nat) (σ : AS) (v : VT) (hX : XSh (aN σ) sh) (hXX : XX σ v M) (a : Int32) : Met l yL_cut wsL_cut ({ frames := 8, cells := 1, slots := 6, locals := 133 }) (lPc D cA sh ad M sz [.ref (ad 0), .int a]) (wQi D cA sh ad (fun r M' => KPm M M' ∧ ((cuB σ a = true ∧ r = nI (ctN (pres (oCut σ (n1 a))) 40) ∧ XX (oCut σ (n1 a)) v M') ∨ (cuB σ a = false ∧ r = -1000001 ∧ XX σ v M'))) (wA sh ad sz)) 1 6 (wA sh ad sz) := by
  refine Met.ofWH (cc := cL_cut) (maxL := 3) (ret := (some .int)) (hh := [(0, 5, 6, 49)]) (by decide) rfl ?_
  intro p e s m args below meth cd0 s₁ B hml hTB hv
  obtain ⟨rfl, hsz, hM, hK, hE, hZ, hE2⟩ := hv
  have hx := B.exec
  have hb := B.bytes
  have hr := B.returns
  have hts := atoms_spec (ws := wsL_cut) B.pre
  have hown : s.vm.findClass RL = some m.cls := findClass_of_methodNamed B.named
  have hlocks := B.notSynchronized
  subst hsz
  have hA := wA_PA sh ad s.heap
  generalize wA sh ad s.heap.size = A at hA hZ ⊢
  have hW : WS D cA sh ad A s.heap M s.heap [] := ⟨hM, va_S.rf⟩
  have hl := lv_entry ([.ref (ad 0), .int a]) (n := 3) (Nat.le_of_ble_eq_true rfl)
  rw [lg_entry_eq]
  generalize (lg_sl ([.ref (ad 0), .int a]) ++ List.replicate (3 - (lg_sl ([.ref (ad 0), .int a])).length) Slot.unset).toArray = ls at hl ⊢
  have hl : lv_has ls 3 [(0, .ref (ad 0)), (1, .int a)] := hl
  refine lv_aload_n hx hb dL_cut_0 rfl (lv_at hl 0 rfl) ?_
  refine lv_iload_n hx hb dL_cut_1 rfl (lv_at hl 1 rfl) ?_
  refine wx_wi (vx_runV (As := [.int a]) (rest := []) ⟨hx, hb, hml, hown, hts⟩ (c_X9_cut l hl9 D cA sh ad M _ σ v hX hXX a) (cwV 1 hts gL_cut_X9_cut rfl rfl rfl (by decide +kernel) ⟨Nat.le_of_ble_eq_true rfl, Nat.le_of_ble_eq_true rfl⟩) (xpreV hK hA hW hE hZ (C := RX9) (ci := 9) (hX.1 0 (by decide)) rfl) rfl rfl hl.1 rfl (lv_room (Nat.le_of_ble_eq_true rfl)) dL_cut_2 ⟨Nat.le_of_ble_eq_true rfl, Nat.le_of_ble_eq_true rfl⟩) hA hW (fun E ce q9 M9' H locs p9' hW hce hcv hcl => ?_) (fun x2' M2' H locs p2' hW => ?_)
  · obtain ⟨eE, hG9, o9, hX9⟩ := p9'
    subst eE
    refine vx_catch (own := RL) (name := nIO) hown [] _ [] (show _ = [] ++ _ :: [] from hTB) (fun z hz => nomatch hz) (by decide) (by decide) (hts (.classLink RL 49 "java/lang/IndexOutOfBoundsException") (List.mem_of_getElem? (i := 1) rfl)) (va_Nw.use rfl (hE.1 _ (List.mem_cons_of_mem _ (List.mem_cons_of_mem _ List.mem_cons_self)))) hce hcv hcl ?_
    refine W.eq (g2 := F0 m 6 ls [.ref q9]) rfl ?_
    refine lv_astore_n (lv' := [(2, .ref q9), (0, .ref (ad 0)), (1, .int a)]) hx hb dL_cut_6 rfl hl (by decide) rfl (fun ls hl => ?_)
    refine lv_ldc (v := (-1000001)) hx hb hown (hts (.constant RL 51 (-1000001)) (List.mem_of_getElem? (i := 2) rfl)) dL_cut_7 ?_
    refine W.widen (k := 1) (n := 6) (by decide) (by decide) ?_
    exact wr_wi hx hb hr hlocks hW dL_cut_9 ⟨(KPm.oA o9), Or.inr ⟨hG9, rfl, hX9⟩⟩
  · try dsimp only at p2'
    obtain ⟨o7, hX7, hG7, hR7⟩ := p2'
    refine W.widen (k := 1) (n := 6) (by decide) (by decide) ?_
    exact wr_wi hx hb hr hlocks hW dL_cut_5 ⟨(KPm.oA o7), Or.inl ⟨hG7, hR7, hX7⟩⟩
set_option maxHeartbeats 4000000 in
set_option maxRecDepth 100000 in
theorem c_L_setTempo (l : Launch) (hl9 : l.stackTraces = false) (D : va_G) (cA : Nat → ClassId) (sh : Nat → Option Sh) (ad : Nat → Nat) (M : MS) (sz : Nat) (σ : AS) (v : VT) (hX : XSh (aN σ) sh) (hXX : XX σ v M) (a : Int32) : Met l yL_setTempo wsL_setTempo ({ frames := 7, cells := 1, slots := 6, locals := 112 }) (lPc D cA sh ad M sz [.ref (ad 0), .int a]) (wQi D cA sh ad (fun r M' => KPm M M' ∧ ((inB a 1 100 = true ∧ r = nI (σ.2 4 0) ∧ XX (oTemp σ (n1 a)) v M') ∨ (inB a 1 100 = false ∧ r = -1000002 ∧ XX σ v M'))) (wA sh ad sz)) 1 6 (wA sh ad sz) := by
  refine Met.ofWH (cc := cL_setTempo) (maxL := 3) (ret := (some .int)) (hh := [(0, 5, 6, 16)]) (by decide) rfl ?_
  intro p e s m args below meth cd0 s₁ B hml hTB hv
  obtain ⟨rfl, hsz, hM, hK, hE, hZ, hE2⟩ := hv
  have hx := B.exec
  have hb := B.bytes
  have hr := B.returns
  have hts := atoms_spec (ws := wsL_setTempo) B.pre
  have hown : s.vm.findClass RL = some m.cls := findClass_of_methodNamed B.named
  have hlocks := B.notSynchronized
  subst hsz
  have hA := wA_PA sh ad s.heap
  generalize wA sh ad s.heap.size = A at hA hZ ⊢
  have hW : WS D cA sh ad A s.heap M s.heap [] := ⟨hM, va_S.rf⟩
  have hl := lv_entry ([.ref (ad 0), .int a]) (n := 3) (Nat.le_of_ble_eq_true rfl)
  rw [lg_entry_eq]
  generalize (lg_sl ([.ref (ad 0), .int a]) ++ List.replicate (3 - (lg_sl ([.ref (ad 0), .int a])).length) Slot.unset).toArray = ls at hl ⊢
  have hl : lv_has ls 3 [(0, .ref (ad 0)), (1, .int a)] := hl
  refine lv_aload_n hx hb dL_setTempo_0 rfl (lv_at hl 0 rfl) ?_
  refine lv_iload_n hx hb dL_setTempo_1 rfl (lv_at hl 1 rfl) ?_
  refine wx_wi (vx_runV (As := [.int a]) (rest := []) ⟨hx, hb, hml, hown, hts⟩ (c_X9_setTempo l hl9 D cA sh ad M _ σ v hX hXX a) (cwV 1 hts gL_setTempo_X9_setTempo rfl rfl rfl (by decide +kernel) ⟨Nat.le_of_ble_eq_true rfl, Nat.le_of_ble_eq_true rfl⟩) (xpreV hK hA hW hE hZ (C := RX9) (ci := 9) (hX.1 0 (by decide)) rfl) rfl rfl hl.1 rfl (lv_room (Nat.le_of_ble_eq_true rfl)) dL_setTempo_2 ⟨Nat.le_of_ble_eq_true rfl, Nat.le_of_ble_eq_true rfl⟩) hA hW (fun E ce q9 M9' H locs p9' hW hce hcv hcl => ?_) (fun x2' M2' H locs p2' hW => ?_)
  · obtain ⟨eE, hG9, o9, hX9⟩ := p9'
    subst eE
    refine vx_catch (own := RL) (name := nIA) hown [] _ [] (show _ = [] ++ _ :: [] from hTB) (fun z hz => nomatch hz) (by decide) (by decide) (hts (.classLink RL 16 "java/lang/IllegalArgumentException") (List.mem_of_getElem? (i := 1) rfl)) (va_Nw.use rfl (hE.1 _ List.mem_cons_self)) hce hcv hcl ?_
    refine W.eq (g2 := F0 m 6 ls [.ref q9]) rfl ?_
    refine lv_astore_n (lv' := [(2, .ref q9), (0, .ref (ad 0)), (1, .int a)]) hx hb dL_setTempo_6 rfl hl (by decide) rfl (fun ls hl => ?_)
    refine lv_ldc (v := (-1000002)) hx hb hown (hts (.constant RL 18 (-1000002)) (List.mem_of_getElem? (i := 2) rfl)) dL_setTempo_7 ?_
    refine W.widen (k := 1) (n := 6) (by decide) (by decide) ?_
    exact wr_wi hx hb hr hlocks hW dL_setTempo_9 ⟨(KPm.oA o9), Or.inr ⟨hG9, rfl, hX9⟩⟩
  · try dsimp only at p2'
    obtain ⟨o7, hX7, hG7, hR7⟩ := p2'
    refine W.widen (k := 1) (n := 6) (by decide) (by decide) ?_
    exact wr_wi hx hb hr hlocks hW dL_setTempo_5 ⟨(KPm.oA o7), Or.inl ⟨hG7, hR7, hX7⟩⟩
set_option maxHeartbeats 4000000 in
set_option maxRecDepth 100000 in
theorem c_L_setGap (l : Launch) (hl9 : l.stackTraces = false) (D : va_G) (cA : Nat → ClassId) (sh : Nat → Option Sh) (ad : Nat → Nat) (M : MS) (sz : Nat) (σ : AS) (v : VT) (hX : XSh (aN σ) sh) (hXX : XX σ v M) (a : Int32) : Met l yL_setGap wsL_setGap ({ frames := 7, cells := 1, slots := 6, locals := 112 }) (lPc D cA sh ad M sz [.ref (ad 0), .int a]) (wQi D cA sh ad (fun r M' => KPm M M' ∧ ((inB a 0 20 = true ∧ r = nI (σ.2 5 0) ∧ XX (oGap σ (n1 a)) v M') ∨ (inB a 0 20 = false ∧ r = -1000002 ∧ XX σ v M'))) (wA sh ad sz)) 1 6 (wA sh ad sz) := by
  refine Met.ofWH (cc := cL_setGap) (maxL := 3) (ret := (some .int)) (hh := [(0, 5, 6, 16)]) (by decide) rfl ?_
  intro p e s m args below meth cd0 s₁ B hml hTB hv
  obtain ⟨rfl, hsz, hM, hK, hE, hZ, hE2⟩ := hv
  have hx := B.exec
  have hb := B.bytes
  have hr := B.returns
  have hts := atoms_spec (ws := wsL_setGap) B.pre
  have hown : s.vm.findClass RL = some m.cls := findClass_of_methodNamed B.named
  have hlocks := B.notSynchronized
  subst hsz
  have hA := wA_PA sh ad s.heap
  generalize wA sh ad s.heap.size = A at hA hZ ⊢
  have hW : WS D cA sh ad A s.heap M s.heap [] := ⟨hM, va_S.rf⟩
  have hl := lv_entry ([.ref (ad 0), .int a]) (n := 3) (Nat.le_of_ble_eq_true rfl)
  rw [lg_entry_eq]
  generalize (lg_sl ([.ref (ad 0), .int a]) ++ List.replicate (3 - (lg_sl ([.ref (ad 0), .int a])).length) Slot.unset).toArray = ls at hl ⊢
  have hl : lv_has ls 3 [(0, .ref (ad 0)), (1, .int a)] := hl
  refine lv_aload_n hx hb dL_setGap_0 rfl (lv_at hl 0 rfl) ?_
  refine lv_iload_n hx hb dL_setGap_1 rfl (lv_at hl 1 rfl) ?_
  refine wx_wi (vx_runV (As := [.int a]) (rest := []) ⟨hx, hb, hml, hown, hts⟩ (c_X9_setGap l hl9 D cA sh ad M _ σ v hX hXX a) (cwV 1 hts gL_setGap_X9_setGap rfl rfl rfl (by decide +kernel) ⟨Nat.le_of_ble_eq_true rfl, Nat.le_of_ble_eq_true rfl⟩) (xpreV hK hA hW hE hZ (C := RX9) (ci := 9) (hX.1 0 (by decide)) rfl) rfl rfl hl.1 rfl (lv_room (Nat.le_of_ble_eq_true rfl)) dL_setGap_2 ⟨Nat.le_of_ble_eq_true rfl, Nat.le_of_ble_eq_true rfl⟩) hA hW (fun E ce q9 M9' H locs p9' hW hce hcv hcl => ?_) (fun x2' M2' H locs p2' hW => ?_)
  · obtain ⟨eE, hG9, o9, hX9⟩ := p9'
    subst eE
    refine vx_catch (own := RL) (name := nIA) hown [] _ [] (show _ = [] ++ _ :: [] from hTB) (fun z hz => nomatch hz) (by decide) (by decide) (hts (.classLink RL 16 "java/lang/IllegalArgumentException") (List.mem_of_getElem? (i := 1) rfl)) (va_Nw.use rfl (hE.1 _ List.mem_cons_self)) hce hcv hcl ?_
    refine W.eq (g2 := F0 m 6 ls [.ref q9]) rfl ?_
    refine lv_astore_n (lv' := [(2, .ref q9), (0, .ref (ad 0)), (1, .int a)]) hx hb dL_setGap_6 rfl hl (by decide) rfl (fun ls hl => ?_)
    refine lv_ldc (v := (-1000002)) hx hb hown (hts (.constant RL 18 (-1000002)) (List.mem_of_getElem? (i := 2) rfl)) dL_setGap_7 ?_
    refine W.widen (k := 1) (n := 6) (by decide) (by decide) ?_
    exact wr_wi hx hb hr hlocks hW dL_setGap_9 ⟨(KPm.oA o9), Or.inr ⟨hG9, rfl, hX9⟩⟩
  · try dsimp only at p2'
    obtain ⟨o7, hX7, hG7, hR7⟩ := p2'
    refine W.widen (k := 1) (n := 6) (by decide) (by decide) ?_
    exact wr_wi hx hb hr hlocks hW dL_setGap_5 ⟨(KPm.oA o7), Or.inl ⟨hG7, hR7, hX7⟩⟩
set_option maxHeartbeats 4000000 in
set_option maxRecDepth 100000 in
theorem c_L_kill (l : Launch) (hl9 : l.stackTraces = false) (D : va_G) (cA : Nat → ClassId) (sh : Nat → Option Sh) (ad : Nat → Nat) (M : MS) (sz : Nat) (σ : AS) (v : VT) (hX : XSh (aN σ) sh) (hXX : XX σ v M) (a : Int32) (b : Int32) : Met l yL_kill wsL_kill ({ frames := 7, cells := 1, slots := 6, locals := 113 }) (lPc D cA sh ad M sz [.ref (ad 0), .int a, .int b]) (wQi D cA sh ad (fun r M' => KPm M M' ∧ (((inB a 0 3 && inB b 0 7) = true ∧ r = nI (1 - σ.2 3 (8 * n1 a + n1 b)) ∧ XX (oKill σ (8 * n1 a + n1 b)) v M') ∨ ((inB a 0 3 && inB b 0 7) = false ∧ r = -1000002 ∧ XX σ v M'))) (wA sh ad sz)) 1 6 (wA sh ad sz) := by
  refine Met.ofWH (cc := cL_kill) (maxL := 4) (ret := (some .int)) (hh := [(0, 14, 15, 16)]) (by decide) rfl ?_
  intro p e s m args below meth cd0 s₁ B hml hTB hv
  obtain ⟨rfl, hsz, hM, hK, hE, hZ, hE2⟩ := hv
  have hx := B.exec
  have hb := B.bytes
  have hr := B.returns
  have hts := atoms_spec (ws := wsL_kill) B.pre
  have hown : s.vm.findClass RL = some m.cls := findClass_of_methodNamed B.named
  have hlocks := B.notSynchronized
  subst hsz
  have hA := wA_PA sh ad s.heap
  generalize wA sh ad s.heap.size = A at hA hZ ⊢
  have hW : WS D cA sh ad A s.heap M s.heap [] := ⟨hM, va_S.rf⟩
  have hl := lv_entry ([.ref (ad 0), .int a, .int b]) (n := 4) (Nat.le_of_ble_eq_true rfl)
  rw [lg_entry_eq]
  generalize (lg_sl ([.ref (ad 0), .int a, .int b]) ++ List.replicate (4 - (lg_sl ([.ref (ad 0), .int a, .int b])).length) Slot.unset).toArray = ls at hl ⊢
  have hl : lv_has ls 4 [(0, .ref (ad 0)), (1, .int a), (2, .int b)] := hl
  refine lv_aload_n hx hb dL_kill_0 rfl (lv_at hl 0 rfl) ?_
  refine lv_iload_n hx hb dL_kill_1 rfl (lv_at hl 1 rfl) ?_
  refine lv_iload_n hx hb dL_kill_2 rfl (lv_at hl 2 rfl) ?_
  refine wx_wi (vx_runV (As := [.int a, .int b]) (rest := []) ⟨hx, hb, hml, hown, hts⟩ (c_X9_kill l hl9 D cA sh ad M _ σ v hX hXX a b) (cwV 2 hts gL_kill_X9_kill rfl rfl rfl (by decide +kernel) ⟨Nat.le_of_ble_eq_true rfl, Nat.le_of_ble_eq_true rfl⟩) (xpreV hK hA hW hE hZ (C := RX9) (ci := 9) (hX.1 0 (by decide)) rfl) rfl rfl hl.1 rfl (lv_room (Nat.le_of_ble_eq_true rfl)) dL_kill_3 ⟨Nat.le_of_ble_eq_true rfl, Nat.le_of_ble_eq_true rfl⟩) hA hW (fun E ce q9 M9' H locs p9' hW hce hcv hcl => ?_) (fun x3' M3' H locs p3' hW => ?_)
  · obtain ⟨eE, hG9, o9, hX9⟩ := p9'
    subst eE
    refine vx_catch (own := RL) (name := nIA) hown [] _ [] (show _ = [] ++ _ :: [] from hTB) (fun z hz => nomatch hz) (by decide) (by decide) (hts (.classLink RL 16 "java/lang/IllegalArgumentException") (List.mem_of_getElem? (i := 1) rfl)) (va_Nw.use rfl (hE.1 _ List.mem_cons_self)) hce hcv hcl ?_
    refine W.eq (g2 := F0 m 15 ls [.ref q9]) rfl ?_
    refine lv_astore_n (lv' := [(3, .ref q9), (0, .ref (ad 0)), (1, .int a), (2, .int b)]) hx hb dL_kill_15 rfl hl (by decide) rfl (fun ls hl => ?_)
    refine lv_ldc (v := (-1000002)) hx hb hown (hts (.constant RL 18 (-1000002)) (List.mem_of_getElem? (i := 2) rfl)) dL_kill_16 ?_
    refine W.widen (k := 1) (n := 6) (by decide) (by decide) ?_
    exact wr_wi hx hb hr hlocks hW dL_kill_18 ⟨(KPm.oA o9), Or.inr ⟨hG9, rfl, hX9⟩⟩
  · try dsimp only at p3'
    obtain ⟨o7, hX7, hG7, hR7⟩ := p3'
    refine lv_if_eq (tgt := 13) hx hb dL_kill_6 (by decide) (fun c6' => ?_) (fun c6' => ?_)
    · refine lv_iconst (v := 0) hx hb dL_kill_13 (by decide) ?_
      refine W.widen (k := 1) (n := 6) (by decide) (by decide) ?_
      exact wr_wi hx hb hr hlocks hW dL_kill_14 ⟨(KPm.oA o7), Or.inl ⟨hG7, by first | exact sub_ne (fun z => c6' (hR7.trans z)) | exact (Eq.symm c6').trans hR7, hX7⟩⟩
    · refine lv_iconst (v := 1) hx hb dL_kill_9 (by decide) ?_
      refine lv_goto (tgt := 14) hx hb dL_kill_10 (by decide) ?_
      refine W.widen (k := 1) (n := 6) (by decide) (by decide) ?_
      exact wr_wi hx hb hr hlocks hW dL_kill_14 ⟨(KPm.oA o7), Or.inl ⟨hG7, by first | exact sub_ne (fun z => c6' (hR7.trans z)) | exact (Eq.symm c6').trans hR7, hX7⟩⟩
set_option maxHeartbeats 4000000 in
set_option maxRecDepth 100000 in
theorem c_L_cue (l : Launch) (hl9 : l.stackTraces = false) (D : va_G) (cA : Nat → ClassId) (sh : Nat → Option Sh) (ad : Nat → Nat) (M : MS) (sz : Nat) (σ : AS) (v : VT) (hsh : sh = shL (aN σ)) (hXX : XX σ v M) (a b d : Int32) : Met l yL_cue wsL_cue ({ frames := 7, cells := 1, slots := 9, locals := 114 }) (lPc D cA sh ad M sz [.ref (ad 0), .int a, .int b, .int d]) (lQc D cA sh ad sz (fun r sh' M' => KPm M M' ∧ ((sh' = shL (aN σ + 1) ∧ XX (oCue σ (n1 a) (n1 b) (n1 d)) v M' ∧ (inB a 0 100 && inB b 0 3 && inB d 0 5) = true ∧ aN σ < 40 ∧ r = nI (aN σ)) ∨ (sh' = shL (aN σ) ∧ XX σ v M' ∧ ((r = -1000002 ∧ (inB a 0 100 && inB b 0 3 && inB d 0 5) = false) ∨ (r = -1000003 ∧ (inB a 0 100 && inB b 0 3 && inB d 0 5) = true ∧ ¬ aN σ < 40))))) (wA sh ad sz)) 1 9 (wA sh ad sz) := by
  refine Met.ofWH (cc := cL_cue) (maxL := 5) (ret := (some .int)) (hh := [(0, 7, 8, 16), (0, 7, 13, 43)]) (by decide) rfl ?_
  intro p e s m args below meth cd0 s₁ B hml hTB hv
  obtain ⟨rfl, hsz, hM, hK, hE, hZ, hE2⟩ := hv
  have hx := B.exec
  have hb := B.bytes
  have hr := B.returns
  have hts := atoms_spec (ws := wsL_cue) B.pre
  have hown : s.vm.findClass RL = some m.cls := findClass_of_methodNamed B.named
  have hlocks := B.notSynchronized
  subst hsz
  have hA := wA_PA sh ad s.heap
  generalize wA sh ad s.heap.size = A at hA hZ ⊢
  have hW : WS D cA sh ad A s.heap M s.heap [] := ⟨hM, va_S.rf⟩
  have hl := lv_entry ([.ref (ad 0), .int a, .int b, .int d]) (n := 5) (Nat.le_of_ble_eq_true rfl)
  rw [lg_entry_eq]
  generalize (lg_sl ([.ref (ad 0), .int a, .int b, .int d]) ++ List.replicate (5 - (lg_sl ([.ref (ad 0), .int a, .int b, .int d])).length) Slot.unset).toArray = ls at hl ⊢
  have hl : lv_has ls 5 [(0, .ref (ad 0)), (1, .int a), (2, .int b), (3, .int d)] := hl
  have hX : XSh (aN σ) sh := by rw [hsh]; exact shL_X _
  refine lv_aload_n hx hb dL_cue_0 rfl (lv_at hl 0 rfl) ?_
  refine lv_iload_n hx hb dL_cue_1 rfl (lv_at hl 1 rfl) ?_
  refine lv_iload_n hx hb dL_cue_2 rfl (lv_at hl 2 rfl) ?_
  refine lv_iload_n hx hb dL_cue_3 rfl (lv_at hl 3 rfl) ?_
  refine wx_ci (vx_runV (As := [.int a, .int b, .int d]) (rest := []) ⟨hx, hb, hml, hown, hts⟩ (c_X9_cue l hl9 D cA sh ad M _ σ v hsh hXX a b d) (cwV 3 hts gL_cue_X9_cue rfl rfl rfl (by decide +kernel) ⟨Nat.le_of_ble_eq_true rfl, Nat.le_of_ble_eq_true rfl⟩) (xpreV hK hA hW hE hZ (C := RX9) (ci := 9) (hX.1 0 (by decide)) rfl) rfl rfl hl.1 rfl (lv_room (Nat.le_of_ble_eq_true rfl)) dL_cue_4 ⟨Nat.le_of_ble_eq_true rfl, Nat.le_of_ble_eq_true rfl⟩) hA hW (fun E ce q9 M9' H locs p9' hW hce hcv hcl => ?_) (fun x4' sh ad M4' H locs esh hk9 hf9 p4' hA hW => ?_)
  · obtain ⟨⟨eE, hG9⟩ | ⟨eE, hG8, hG9⟩, o9, hX9⟩ := p9'
    · subst eE
      refine vx_catch (own := RL) (name := nIA) hown [] _ [_] (show _ = [] ++ _ :: [_] from hTB) (fun z hz => nomatch hz) (by decide) (by decide) (hts (.classLink RL 16 "java/lang/IllegalArgumentException") (List.mem_of_getElem? (i := 1) rfl)) (va_Nw.use rfl (hE.1 _ List.mem_cons_self)) hce hcv hcl ?_
      refine W.eq (g2 := F0 m 8 ls [.ref q9]) rfl ?_
      refine lv_astore (lv' := [(4, .ref q9), (0, .ref (ad 0)), (1, .int a), (2, .int b), (3, .int d)]) hx hb dL_cue_8 hl (by decide) rfl (fun ls hl => ?_)
      refine lv_ldc (v := (-1000002)) hx hb hown (hts (.constant RL 18 (-1000002)) (List.mem_of_getElem? (i := 3) rfl)) dL_cue_10 ?_
      refine W.widen (k := 1) (n := 9) (by decide) (by decide) ?_
      exact wr_lc hx hb hr hlocks hW dL_cue_12 GR.rf ⟨(KPm.oA o9), Or.inr ⟨hsh, hX9, Or.inl ⟨rfl, hG9⟩⟩⟩
    · subst eE
      refine vx_catch (own := RL) (name := nIS) hown [_] _ [] (show _ = [_] ++ _ :: [] from hTB) (fun z hz => by rw [List.mem_singleton.mp hz]; exact Or.inr ⟨by decide, nIA, (hts (.classLink RL 16 "java/lang/IllegalArgumentException") (List.mem_of_getElem? (i := 1) rfl)), hE2.1⟩) (by decide) (by decide) (hts (.classLink RL 43 "java/lang/IllegalStateException") (List.mem_of_getElem? (i := 2) rfl)) (va_Nw.use rfl (hE.1 _ (List.mem_cons_of_mem _ List.mem_cons_self))) hce hcv hcl ?_
      refine W.eq (g2 := F0 m 13 ls [.ref q9]) rfl ?_
      refine lv_astore (lv' := [(4, .ref q9), (0, .ref (ad 0)), (1, .int a), (2, .int b), (3, .int d)]) hx hb dL_cue_13 hl (by decide) rfl (fun ls hl => ?_)
      refine lv_ldc (v := (-1000003)) hx hb hown (hts (.constant RL 45 (-1000003)) (List.mem_of_getElem? (i := 4) rfl)) dL_cue_15 ?_
      refine W.widen (k := 1) (n := 9) (by decide) (by decide) ?_
      exact wr_lc hx hb hr hlocks hW dL_cue_17 GR.rf ⟨(KPm.oA o9), Or.inr ⟨hsh, hX9, Or.inr ⟨rfl, hG8, of_decide_eq_false hG9⟩⟩⟩
  · try dsimp only at p4'
    rw [← (hk9 0 _ (hX.1 0 (by decide)))] at hl
    obtain ⟨o7, hX7, hG7, hn7, hR7⟩ := p4'
    have hG := GR_of hk9 hf9 (by rw [esh]; intro t ht; rw [hsh] at ht; exact shL_up ht)
    refine W.widen (k := 1) (n := 9) (by decide) (by decide) ?_
    exact wr_lc hx hb hr hlocks hW dL_cue_7 hG ⟨fun p k h1 h2 => (o7 p k h1 (by omega)).1, Or.inl ⟨esh, hX7, hG7, hn7, hR7⟩⟩

/-! Methods that throw, over the world by places. -/
abbrev nIA : String := "java/lang/IllegalArgumentException"
abbrev nIS : String := "java/lang/IllegalStateException"
abbrev nIO : String := "java/lang/IndexOutOfBoundsException"
abbrev exN : List String := ["java/lang/RuntimeException", "java/lang/Exception"]
def exT : List (Nat × String) := [(98, "rack, column or line is out of range"), (113, "kind, speed, fall or radius is out of range"), (122, "layer, x or y is out of range"), (142, "column or line is out of range, or people is below 0"), (148, "column, line or value is out of range"), (156, "kind is out of range"), (161, "kind or layer is out of range"), (166, "beat, kind or rack is out of range"), (170, "there were 40 cues"), (183, "ticks is out of range"), (197, "what is out of range"), (255, "there is no such place"), (261, "box or channel is out of range"), (281, "hour or rate is out of range"), (295, "there is no such cue")]
def exD : List String := ["java/lang/RuntimeException", "java/lang/Exception", Bundle.tN]
def EXs (U : State) : Prop := (∀ E ∈ [nIA, nIS, nIO], va_Nw (.castable E E) U) ∧ (∀ E ∈ exD, va_Nw (.declares (Bundle.initS E)) U) ∧ ∀ q ∈ exT, ∃ sa, vk_R RX9 q.1 q.2 sa U
def EXz (A : Nat → Prop) (U : State) (H : Heap) : Prop := vx_Zq Bundle.tN "UNASSIGNED_STACK" Bundle.steD A U H ∧ vx_Zq Bundle.tN "SUPPRESSED_SENTINEL" Bundle.listD A U H
theorem EXs.warm {s U : State} (hW : s.WarmedH U.vm) (h : EXs s) : EXs U := ⟨fun E hE => va_Nw.warmC hW (h.1 E hE), fun E hE => va_Nw.warmD hW (h.2.1 E hE), fun q hq => by
  obtain ⟨sa, h2⟩ := h.2.2 q hq
  exact ⟨sa, vk_R.warm hW h2⟩⟩
theorem EXz.to {s U : State} {H H1 : Heap} {A B : Nat → Prop} (hvm : s.vm.Alike U.vm) (h : EXz A s H) (hq : ∀ a : Nat, a < H.size → ¬ A a → H1[a]? = H[a]?) (hAB : ∀ q, B q → A q) : EXz B U H1 :=
  ⟨vx_Zq.moved hvm ((h.1.kept hq).narrow hAB), vx_Zq.moved hvm ((h.2.kept hq).narrow hAB)⟩
def xPc (D : va_G) (cA : Nat → ClassId) (sh : Nat → Option Sh) (ad : Nat → Nat) (M : MS) (sz : Nat) (av : List Value) : Array Value → State → Prop := va_Pc av (fun U => U.heap.size = sz ∧ WM D cA sh ad M U.heap ∧ va_K D vwCl (wty cA) U ∧ EXs U ∧ EXz (wA sh ad sz) U U.heap)
def xXC (D : va_G) (cA : Nat → ClassId) (sh : Nat → Option Sh) (ad : Nat → Nat) (px : String → MS → Prop) (A : Nat → Prop) : String → State → State → Prop := vx_X (S := MS) (fun _ => True) (fun E M t => px E M ∧ WM D cA sh ad M t.heap) A
theorem xPc_blind {D : va_G} {cA : Nat → ClassId} {sh : Nat → Option Sh} {ad : Nat → Nat} {M : MS} {sz : Nat} {av : List Value} : FrameBlind (xPc D cA sh ad M sz av) := fun a U g mk q => by
  obtain ⟨q0, q1, qP, qK, qE, qZ⟩ := q
  exact ⟨q0, q1, qP, va_K.moved (u := U) (U := U.calling g mk a) (Vm.Alike.refl U.vm) qK, EXs.warm (U := U.calling g mk a) (State.WarmedH.refl U) qE, EXz.to (U := U.calling g mk a) (Vm.Alike.refl U.vm) qZ (fun _ _ _ => rfl) (fun _ h => h)⟩
section WX
variable {p : Program} {l : Launch} {e : Env} {R : Room} {s : State} {m : MethodId} {args : Array Value} {below : List Frame} {meth : Method} {c : Code} {H : Heap} {locs : List Loc} {cells slots : Nat} {Q : State → Prop}
variable {cc : ByteArray} {pc : Nat} {ls : Array Slot} {st0 rest : List Value} {D : va_G} {cA : Nat → ClassId} {sh : Nat → Option Sh} {ad : Nat → Nat} {A : Nat → Prop} {H0 : Heap} {M : MS} {a : Array Value} {As : List Value}
theorem xpreV (hK : va_K D vwCl (wty cA) s) (hA : PA sh ad A s.heap) (hW : WS D cA sh ad A s.heap M H locs) (hE : EXs s) (hZ : EXz A s s.heap) {q ci : Nat} {ks : List Nat} {C : String} {T : u_T} {N : Nat} (hq : sh q = some (.inl (ci, ks))) (hc : vwCl[ci]? = some (C, T, N)) : PreV s H C (ad q) (xPc D cA sh ad M H.size (.ref (ad q) :: As)) As := by
  refine ⟨xPc_blind, ?_, fun U hU hv => ⟨rfl, by rw [hU], by rw [hU]; exact hW.1, va_K.moved hv.alike hK, hE.warm hv, by rw [hU]; exact hZ.to hv.alike hW.2.2.1 (wA_in hA hW.2.1)⟩⟩
  obtain ⟨r, h1, cell, q1, q2, q3, q4⟩ := hW.1.1 q _ hq
  exact ⟨cell, q1, by rw [q3]; rfl, by rw [q2]; exact (hK.1 ci _ hc).2.1⟩
theorem xpreS (hK : va_K D vwCl (wty cA) s) (hA : PA sh ad A s.heap) (hW : WS D cA sh ad A s.heap M H locs) (hE : EXs s) (hZ : EXz A s s.heap) : PreS s H (xPc D cA sh ad M H.size As) As :=
  ⟨xPc_blind, fun U hU hv => ⟨rfl, by rw [hU], by rw [hU]; exact hW.1, va_K.moved hv.alike hK, hE.warm hv, by rw [hU]; exact hZ.to hv.alike hW.2.2.1 (wA_in hA hW.2.1)⟩⟩
/-- what is decided of an exception's class once and for all -/
def XOK (ik ic : Nat) (cls : String) : Prop := Bundle.fit cls = true ∧ (∀ n ∈ exN, Bundle.fit n = true) ∧ (∀ w ∈ (vx_atS RX9 ic cls exN).filter (fun w => !goodWord w), w ∈ Cond.castable cls cls :: exD.map (fun E => Cond.declares (Bundle.initS E))) ∧ ∀ w ∈ Cond.classLink RX9 ik cls :: Cond.initialized cls :: vx_atS RX9 ic cls exN, vx_ot w = true
theorem exW {args : Array Value} {s : State} {cls : String} (hE : EXs s) (hcl : cls ∈ [nIA, nIS, nIO]) : ∀ w ∈ Cond.castable cls cls :: exD.map (fun E => Cond.declares (Bundle.initS E)), w.before args s = true := fun w hw => by
  rcases List.mem_cons.mp hw with h | h
  · rw [h]; exact va_Nw.use rfl (hE.1 _ hcl)
  · obtain ⟨E, h1, h2⟩ := List.mem_map.mp h
    rw [← h2]; exact va_Nw.use rfl (hE.2.1 E h1)
theorem xok_IA : XOK 96 100 nIA := ⟨by decide +kernel, by decide +kernel, by decide +kernel, by decide +kernel⟩
theorem xok_IS : XOK 168 172 nIS := ⟨by decide +kernel, by decide +kernel, by decide +kernel, by decide +kernel⟩
theorem xok_IO : XOK 253 257 nIO := ⟨by decide +kernel, by decide +kernel, by decide +kernel, by decide +kernel⟩
theorem wx_throw (hexec : p.tables.exec = Jvm.exec) (hb : c.code = cc) (hl : l.stackTraces = false) {Qc : Array Value → State → Outcome → State → Prop} {px : String → MS → Prop} {cls text : String} {ik is ic mc ms : Nat} (hok : XOK ik ic cls) (hcl : cls ∈ [nIA, nIS, nIO]) (htx : (is, text) ∈ exT) (ht : ∀ x ∈ c.exceptionTable.toList, False)
    (hown : s.vm.findClass RX9 = some m.cls) (hk : (Cond.classLink RX9 ik cls).before args s = true) (hini : (Cond.initialized cls).before args s = true) (hg : ∀ w ∈ (vx_atS RX9 ic cls exN).filter goodWord, w.before args s = true)
    (hE : EXs s) (hZ : EXz A s s.heap) (hW : WS D cA sh ad A s.heap M H locs) (hsize : ls.size = c.maxLocals)
    (d0 : decode cc pc = .ok (.new ik, 3)) (d3 : decode cc (pc + 3) = .ok (.dup, 1)) (d4 : decode cc (pc + 4) = .ok (.ldc is, 2)) (d6 : decode cc (pc + 6) = .ok (.invokespecial ic, 3)) (d9 : decode cc (pc + 9) = .ok (.athrow, 1))
    (hR : 5 < R.frames ∧ (rest.map fun v => v.category).sum + 82 ≤ R.locals) (hRc : cells + 1 ≤ R.cells ∧ slots + 6 ≤ R.slots) (hlocks : meth.locks = false) (hm : cells + 1 ≤ mc ∧ slots + 6 ≤ ms) (hp : px cls M) :
    W p l e R s m args below meth c H locs cells slots (vx_MQ below Qc (xXC D cA sh ad px A) args s mc ms A) (F0 m pc ls rest) := by
  obtain ⟨sa, hsa⟩ := hE.2.2 _ htx
  refine vx_throwS (A := A) hexec hb hl hown hok.1 hok.2.1 hk hini hsa (vx_hat hg hok.2.2.1 (exW hE hcl)) hok.2.2.2 hZ.1 hZ.2 hW.2 hsize d0 d3 d4 d6 d9 (fun x hx => (ht x hx).elim) hR.1 hR.2 hRc.1 hRc.2 hlocks ?_ hW.2.2.2 hm.1 hm.2
  intro t hvm hsz hk2
  exact ⟨M, trivial, ⟨hp, hW.1.kept hk2⟩, Nat.le_trans hW.2.1 hsz, fun q h1 h2 => by rw [hk2 q (Nat.lt_of_lt_of_le h1 hW.2.1)]; exact hW.2.2.1 q h1 h2⟩
theorem wx_throwW (hexec : p.tables.exec = Jvm.exec) (hb : c.code = cc) (hl : l.stackTraces = false) {Qc : Array Value → State → Outcome → State → Prop} {px : String → MS → Prop} {cls text : String} {ik is ic mc ms : Nat} (hok : XOK ik ic cls) (hcl : cls ∈ [nIA, nIS, nIO]) (htx : (is, text) ∈ exT) (ht : ∀ x ∈ c.exceptionTable.toList, False)
    (hown : s.vm.findClass RX9 = some m.cls) (hk : (Cond.classLink RX9 ik cls).before args s = true) (hini : (Cond.initialized cls).before args s = true) (hg : ∀ w ∈ (vx_atS RX9 ic cls exN).filter goodWord, w.before args s = true)
    (hE : EXs s) (hZ : EXz A s s.heap) (hW : WS D cA sh ad A s.heap M H locs) (hsize : ls.size = c.maxLocals)
    (d0 : decode cc pc = .ok (.new ik, 3)) (d3 : decode cc (pc + 3) = .ok (.dup, 1)) (d4 : decode cc (pc + 4) = .ok (.ldc_w is, 3)) (d7 : decode cc (pc + 7) = .ok (.invokespecial ic, 3)) (d10 : decode cc (pc + 10) = .ok (.athrow, 1))
    (hR : 5 < R.frames ∧ (rest.map fun v => v.category).sum + 82 ≤ R.locals) (hRc : cells + 1 ≤ R.cells ∧ slots + 6 ≤ R.slots) (hlocks : meth.locks = false) (hm : cells + 1 ≤ mc ∧ slots + 6 ≤ ms) (hp : px cls M) :
    W p l e R s m args below meth c H locs cells slots (vx_MQ below Qc (xXC D cA sh ad px A) args s mc ms A) (F0 m pc ls rest) := by
  obtain ⟨sa, hsa⟩ := hE.2.2 _ htx
  refine vx_throwSW (A := A) hexec hb hl hown hok.1 hok.2.1 hk hini hsa (vx_hat hg hok.2.2.1 (exW hE hcl)) hok.2.2.2 hZ.1 hZ.2 hW.2 hsize d0 d3 d4 d7 d10 (fun x hx => (ht x hx).elim) hR.1 hR.2 hRc.1 hRc.2 hlocks ?_ hW.2.2.2 hm.1 hm.2
  intro t hvm hsz hk2
  exact ⟨M, trivial, ⟨hp, hW.1.kept hk2⟩, Nat.le_trans hW.2.1 hsz, fun q h1 h2 => by rw [hk2 q (Nat.lt_of_lt_of_le h1 hW.2.1)]; exact hW.2.2.1 q h1 h2⟩
/-- behind a call that returns a place, or throws on -/
theorem wx_wr {Qc : Array Value → State → Outcome → State → Prop} {post : Nat → MS → Prop} {pxc px : String → MS → Prop} {mc1 ms1 mc ms : Nat} (hr : vx_Run p l e R s m args below meth c H locs cells slots mc1 ms1 (F0 m pc ls st0) rest (wQr D cA sh ad post (wA sh ad H.size) a) (xXC D cA sh ad pxc (wA sh ad H.size)) (wA sh ad H.size)) (hA : PA sh ad A s.heap) (hW : WS D cA sh ad A s.heap M H locs)
    (ht : ∀ x ∈ c.exceptionTable.toList, False) (hlocks : meth.locks = false) (hm : cells + mc1 ≤ mc ∧ slots + ms1 ≤ ms) (himp : ∀ E M', pxc E M' → px E M')
    (kk : ∀ (q : Nat) (M' : MS) (H1 : Heap) (locs1 : List Loc), post q M' → WS D cA sh ad A s.heap M' H1 locs1 → W p l e R s m args below meth c H1 locs1 (cells + mc1) (slots + ms1) (vx_MQ below Qc (xXC D cA sh ad px A) args s mc ms A) (F0 m (pc + 3) ls (.ref (ad q) :: rest))) : W p l e R s m args below meth c H locs cells slots (vx_MQ below Qc (xXC D cA sh ad px A) args s mc ms A) (F0 m pc ls st0) := by
  intro T hT X
  rcases hr T hT X with ⟨v, st₀, t, T', L, h0, X', hL, e1, e2, ⟨⟨u, x, hv, hp, hb⟩, hF⟩, st⟩ | ⟨q, st₀, t, T', L, E, ce, h0, X', hL, e1, e2, ⟨u, -, ⟨hp, hb⟩, hF⟩, hce, hcv, hcl, st⟩
  · cases hv
    obtain ⟨k1, k2, k3⟩ := vx_keep h0 e1 hW.2 (fun q _ h => wA_in hA hW.2.1 q h) (fun q h => wA_in hA hW.2.1 q h) hL hF
    obtain ⟨t2, a1, b1⟩ := kk u.1 u.2 T'.heap (locs ++ L) hp ⟨by rw [e1]; exact hb.2, k3⟩ T' rfl X'
    rw [hb.1] at st
    exact ⟨t2, st t2 a1, b1⟩
  · obtain ⟨k1, k2, k3⟩ := vx_keep h0 e1 hW.2 (fun q _ h => wA_in hA hW.2.1 q h) (fun q h => wA_in hA hW.2.1 q h) hL hF
    have hout : vx_W p l e R s m args below meth c T'.heap (locs ++ L) (cells + mc1) (slots + ms1) (vx_MQ below Qc (xXC D cA sh ad px A) args s mc ms A) (F0 m pc ls rest) q := by
      refine vx_out (fun x hx => (ht x hx).elim) hlocks (by rw [e1]; exact hce) hcv hcl (fun t2 ht2 hvm => ?_) k3.2.2 hm.1 hm.2
      exact ⟨u, trivial, ⟨himp E u hp, by rw [ht2, e1]; exact hb⟩, by rw [ht2]; exact k3.1, fun q h1 h2 => by rw [ht2]; exact k3.2.1 q h1 h2⟩
    obtain ⟨t2, a1, b1⟩ := hout T' rfl X'
    exact ⟨t2, st.trans a1, b1⟩
/-- behind a call that returns an int, or throws: both go on -/
theorem wx_wi {post : Int32 → MS → Prop} {pxc : String → MS → Prop} {mc1 ms1 : Nat} (hr : vx_Run p l e R s m args below meth c H locs cells slots mc1 ms1 (F0 m pc ls st0) rest (wQi D cA sh ad post (wA sh ad H.size) a) (xXC D cA sh ad pxc (wA sh ad H.size)) (wA sh ad H.size)) (hA : PA sh ad A s.heap) (hW : WS D cA sh ad A s.heap M H locs)
    (kx : ∀ (E : String) (ce : Cell) (q9 : Addr) (M' : MS) (H1 : Heap) (locs1 : List Loc), pxc E M' → WS D cA sh ad A s.heap M' H1 locs1 → H1[q9]? = some ce → ce.vm = .none → s.vm.findClass E = some ce.cls → vx_W p l e R s m args below meth c H1 locs1 (cells + mc1) (slots + ms1) Q (F0 m pc ls rest) q9)
    (kk : ∀ (r : Int32) (M' : MS) (H1 : Heap) (locs1 : List Loc), post r M' → WS D cA sh ad A s.heap M' H1 locs1 → W p l e R s m args below meth c H1 locs1 (cells + mc1) (slots + ms1) Q (F0 m (pc + 3) ls (.int r :: rest))) : W p l e R s m args below meth c H locs cells slots Q (F0 m pc ls st0) :=
  vx_calli hr hW.2 (fun q _ h => wA_in hA hW.2.1 q h) (fun q h => wA_in hA hW.2.1 q h) (fun q _ h => wA_in hA hW.2.1 q h)
    (fun E ce q9 u t H1 locs1 ht _ _ hB _ _ hS hce hcv hcl => kx E ce q9 u H1 locs1 hB.1 ⟨ht ▸ hB.2, hS⟩ hce hcv hcl)
    (fun r u t H1 locs1 ht _ hp hB _ _ hS => kk r u H1 locs1 hp ⟨ht ▸ hB, hS⟩)
theorem wx_wl {post : Int64 → MS → Prop} {pxc : String → MS → Prop} {mc1 ms1 : Nat} (hr : vx_Run p l e R s m args below meth c H locs cells slots mc1 ms1 (F0 m pc ls st0) rest (wQl D cA sh ad post (wA sh ad H.size) a) (xXC D cA sh ad pxc (wA sh ad H.size)) (wA sh ad H.size)) (hA : PA sh ad A s.heap) (hW : WS D cA sh ad A s.heap M H locs)
    (kx : ∀ (E : String) (ce : Cell) (q9 : Addr) (M' : MS) (H1 : Heap) (locs1 : List Loc), pxc E M' → WS D cA sh ad A s.heap M' H1 locs1 → H1[q9]? = some ce → ce.vm = .none → s.vm.findClass E = some ce.cls → vx_W p l e R s m args below meth c H1 locs1 (cells + mc1) (slots + ms1) Q (F0 m pc ls rest) q9)
    (kk : ∀ (r : Int64) (M' : MS) (H1 : Heap) (locs1 : List Loc), post r M' → WS D cA sh ad A s.heap M' H1 locs1 → W p l e R s m args below meth c H1 locs1 (cells + mc1) (slots + ms1) Q (F0 m (pc + 3) ls (.long r :: rest))) : W p l e R s m args below meth c H locs cells slots Q (F0 m pc ls st0) :=
  vx_calll hr hW.2 (fun q _ h => wA_in hA hW.2.1 q h) (fun q h => wA_in hA hW.2.1 q h) (fun q _ h => wA_in hA hW.2.1 q h)
    (fun E ce q9 u t H1 locs1 ht _ _ hB _ _ hS hce hcv hcl => kx E ce q9 u H1 locs1 hB.1 ⟨ht ▸ hB.2, hS⟩ hce hcv hcl)
    (fun r u t H1 locs1 ht _ hp hB _ _ hS => kk r u H1 locs1 hp ⟨ht ▸ hB, hS⟩)
end WX

/-! Contracts over the world by places, and the rows of their calls and ends. -/
def wPc (D : va_G) (cA : Nat → ClassId) (sh : Nat → Option Sh) (ad : Nat → Nat) (M : MS) (sz : Nat) (av : List Value) : Array Value → State → Prop := va_Pc av (fun U => U.heap.size = sz ∧ WM D cA sh ad M U.heap ∧ va_K D vwCl (wty cA) U)
/-- a method that touches nothing, and needs no world -/
def nPc (av : List Value) : Array Value → State → Prop := va_Pc av (fun _ => True)
abbrev nA : Nat → Prop := fun _ => False
def rQi (post : Int32 → Prop) : Array Value → State → Outcome → State → Prop := va_Qi (S := Unit) (fun r _ => post r) (fun _ _ => True) nA
def rQl (post : Int64 → Prop) : Array Value → State → Outcome → State → Prop := va_Ql (S := Unit) (fun r _ => post r) (fun _ _ => True) nA
def rQr (ad : Nat → Nat) (post : Nat → Prop) : Array Value → State → Outcome → State → Prop := va_Qr (S := Nat) post (fun q a _ => a = ad q) nA
def wQi (D : va_G) (cA : Nat → ClassId) (sh : Nat → Option Sh) (ad : Nat → Nat) (post : Int32 → MS → Prop) (A : Nat → Prop) : Array Value → State → Outcome → State → Prop := va_Qi (S := MS) post (fun M t => WM D cA sh ad M t.heap) A
def wQl (D : va_G) (cA : Nat → ClassId) (sh : Nat → Option Sh) (ad : Nat → Nat) (post : Int64 → MS → Prop) (A : Nat → Prop) : Array Value → State → Outcome → State → Prop := va_Ql (S := MS) post (fun M t => WM D cA sh ad M t.heap) A
def wQv (D : va_G) (cA : Nat → ClassId) (sh : Nat → Option Sh) (ad : Nat → Nat) (post : MS → Prop) (A : Nat → Prop) : Array Value → State → Outcome → State → Prop := va_Qv (S := MS) post (fun M t => WM D cA sh ad M t.heap) A
def wQr (D : va_G) (cA : Nat → ClassId) (sh : Nat → Option Sh) (ad : Nat → Nat) (post : Nat → MS → Prop) (A : Nat → Prop) : Array Value → State → Outcome → State → Prop := va_Qr (S := Nat × MS) (fun u => post u.1 u.2) (fun u a t => a = ad u.1 ∧ WM D cA sh ad u.2 t.heap) A
theorem wPc_blind {D : va_G} {cA : Nat → ClassId} {sh : Nat → Option Sh} {ad : Nat → Nat} {M : MS} {sz : Nat} {av : List Value} : FrameBlind (wPc D cA sh ad M sz av) := fun a U g mk q => by
  obtain ⟨q0, q1, qP, qK⟩ := q
  exact ⟨q0, q1, qP, va_K.moved (u := U) (U := U.calling g mk a) (Vm.Alike.refl U.vm) qK⟩
theorem nPc_blind {av : List Value} : FrameBlind (nPc av) := fun a U g mk q => ⟨q.1, trivial⟩
section WC
variable {p : Program} {l : Launch} {e : Env} {R : Room} {s : State} {m : MethodId} {args : Array Value} {below : List Frame} {meth : Method} {c : Code} {H : Heap} {locs : List Loc} {cells slots : Nat} {Q : State → Prop}
variable {cc : ByteArray} {pc : Nat} {ls : Array Slot} {st0 rest : List Value} {D : va_G} {cA : Nat → ClassId} {sh : Nat → Option Sh} {ad : Nat → Nat} {A : Nat → Prop} {H0 : Heap} {M : MS} {a : Array Value} {As : List Value}
theorem wpreV (hK : va_K D vwCl (wty cA) s) (hW : WS D cA sh ad A H0 M H locs) {q ci : Nat} {ks : List Nat} {C : String} {T : u_T} {N : Nat} (hq : sh q = some (.inl (ci, ks))) (hc : vwCl[ci]? = some (C, T, N)) : PreV s H C (ad q) (wPc D cA sh ad M H.size (.ref (ad q) :: As)) As := by
  refine ⟨wPc_blind, ?_, fun U hU hv => ⟨rfl, by rw [hU], by rw [hU]; exact hW.1, va_K.moved hv.alike hK⟩⟩
  obtain ⟨r, h1, cell, q1, q2, q3, q4⟩ := hW.1.1 q _ hq
  exact ⟨cell, q1, by rw [q3]; rfl, by rw [q2]; exact (hK.1 ci _ hc).2.1⟩
theorem wpreVn (hK : va_K D vwCl (wty cA) s) (hW : WS D cA sh ad A H0 M H locs) {q ci : Nat} {ks : List Nat} {C : String} {T : u_T} {N : Nat} (hq : sh q = some (.inl (ci, ks))) (hc : vwCl[ci]? = some (C, T, N)) : PreV s H C (ad q) (nPc (.ref (ad q) :: As)) As := by
  refine ⟨nPc_blind, ?_, fun U hU hv => ⟨rfl, trivial⟩⟩
  obtain ⟨r, h1, cell, q1, q2, q3, q4⟩ := hW.1.1 q _ hq
  exact ⟨cell, q1, by rw [q3]; rfl, by rw [q2]; exact (hK.1 ci _ hc).2.1⟩
theorem wpreS (hK : va_K D vwCl (wty cA) s) (hW : WS D cA sh ad A H0 M H locs) : PreS s H (wPc D cA sh ad M H.size As) As :=
  ⟨wPc_blind, fun U hU hv => ⟨rfl, by rw [hU], by rw [hU]; exact hW.1, va_K.moved hv.alike hK⟩⟩
theorem npreS : PreS s H (nPc As) As := ⟨nPc_blind, fun _ _ _ => ⟨rfl, trivial⟩⟩
theorem WS.kept {H1 : Heap} {locs1 : List Loc} (hW : WS D cA sh ad A H0 M H locs) (hk : ∀ q : Nat, q < H.size → ¬ nA q → H1[q]? = H[q]?) (hS : va_S A H0 H1 locs1) : WS D cA sh ad A H0 M H1 locs1 := ⟨hW.1.kept (fun q h => hk q h (fun h => h)), hS⟩
/-- behind a call that touches nothing -/
theorem wc_ri {post : Int32 → Prop} (hr : va_Run p l e R s m args below meth c H locs cells slots 0 0 (F0 m pc ls st0) rest (rQi post a) nA) (hW : WS D cA sh ad A H0 M H locs)
    (kk : ∀ (r : Int32) (H1 : Heap) (locs1 : List Loc), post r → WS D cA sh ad A H0 M H1 locs1 → W p l e R s m args below meth c H1 locs1 cells slots Q (F0 m (pc + 3) ls (.int r :: rest))) : W p l e R s m args below meth c H locs cells slots Q (F0 m pc ls st0) :=
  va_calli hr hW.2 (fun _ _ h => h.elim) (fun _ h => h.elim) (fun r u t H1 locs1 _ _ hp _ _ hk hS => kk r H1 locs1 hp (hW.kept hk hS))
theorem wc_rl {post : Int64 → Prop} (hr : va_Run p l e R s m args below meth c H locs cells slots 0 0 (F0 m pc ls st0) rest (rQl post a) nA) (hW : WS D cA sh ad A H0 M H locs)
    (kk : ∀ (r : Int64) (H1 : Heap) (locs1 : List Loc), post r → WS D cA sh ad A H0 M H1 locs1 → W p l e R s m args below meth c H1 locs1 cells slots Q (F0 m (pc + 3) ls (.long r :: rest))) : W p l e R s m args below meth c H locs cells slots Q (F0 m pc ls st0) :=
  va_calll hr hW.2 (fun _ _ h => h.elim) (fun _ h => h.elim) (fun r u t H1 locs1 _ _ hp _ _ hk hS => kk r H1 locs1 hp (hW.kept hk hS))
theorem wc_rr {post : Nat → Prop} (hr : va_Run p l e R s m args below meth c H locs cells slots 0 0 (F0 m pc ls st0) rest (rQr ad post a) nA) (hW : WS D cA sh ad A H0 M H locs)
    (kk : ∀ (q : Nat) (H1 : Heap) (locs1 : List Loc), post q → WS D cA sh ad A H0 M H1 locs1 → W p l e R s m args below meth c H1 locs1 cells slots Q (F0 m (pc + 3) ls (.ref (ad q) :: rest))) : W p l e R s m args below meth c H locs cells slots Q (F0 m pc ls st0) :=
  va_callr hr hW.2 (fun _ _ h => h.elim) (fun _ h => h.elim) (fun u x t H1 locs1 _ _ hp hB _ hk hS => by rw [hB]; exact kk u H1 locs1 hp (hW.kept hk hS))
/-- behind a call that changes the world -/
theorem wc_wi {post : Int32 → MS → Prop} (hr : va_Run p l e R s m args below meth c H locs cells slots 0 0 (F0 m pc ls st0) rest (wQi D cA sh ad post (wA sh ad H.size) a) (wA sh ad H.size)) (hA : PA sh ad A H0) (hW : WS D cA sh ad A H0 M H locs)
    (kk : ∀ (r : Int32) (M' : MS) (H1 : Heap) (locs1 : List Loc), post r M' → WS D cA sh ad A H0 M' H1 locs1 → W p l e R s m args below meth c H1 locs1 cells slots Q (F0 m (pc + 3) ls (.int r :: rest))) : W p l e R s m args below meth c H locs cells slots Q (F0 m pc ls st0) :=
  va_calli hr hW.2 (fun q _ h => wA_in hA hW.2.1 q h) (fun q h => wA_in hA hW.2.1 q h) (fun r u t H1 locs1 ht _ hp hB _ _ hS => kk r u H1 locs1 hp ⟨ht ▸ hB, hS⟩)
theorem wc_wl {post : Int64 → MS → Prop} (hr : va_Run p l e R s m args below meth c H locs cells slots 0 0 (F0 m pc ls st0) rest (wQl D cA sh ad post (wA sh ad H.size) a) (wA sh ad H.size)) (hA : PA sh ad A H0) (hW : WS D cA sh ad A H0 M H locs)
    (kk : ∀ (r : Int64) (M' : MS) (H1 : Heap) (locs1 : List Loc), post r M' → WS D cA sh ad A H0 M' H1 locs1 → W p l e R s m args below meth c H1 locs1 cells slots Q (F0 m (pc + 3) ls (.long r :: rest))) : W p l e R s m args below meth c H locs cells slots Q (F0 m pc ls st0) :=
  va_calll hr hW.2 (fun q _ h => wA_in hA hW.2.1 q h) (fun q h => wA_in hA hW.2.1 q h) (fun r u t H1 locs1 ht _ hp hB _ _ hS => kk r u H1 locs1 hp ⟨ht ▸ hB, hS⟩)
theorem wc_wv {post : MS → Prop} (hr : va_Run p l e R s m args below meth c H locs cells slots 0 0 (F0 m pc ls st0) rest (wQv D cA sh ad post (wA sh ad H.size) a) (wA sh ad H.size)) (hA : PA sh ad A H0) (hW : WS D cA sh ad A H0 M H locs)
    (kk : ∀ (M' : MS) (H1 : Heap) (locs1 : List Loc), post M' → WS D cA sh ad A H0 M' H1 locs1 → W p l e R s m args below meth c H1 locs1 cells slots Q (F0 m (pc + 3) ls rest)) : W p l e R s m args below meth c H locs cells slots Q (F0 m pc ls st0) :=
  va_callv hr hW.2 (fun q _ h => wA_in hA hW.2.1 q h) (fun q h => wA_in hA hW.2.1 q h) (fun u t H1 locs1 ht _ hp hB _ _ hS => kk u H1 locs1 hp ⟨ht ▸ hB, hS⟩)
theorem wc_wr {post : Nat → MS → Prop} (hr : va_Run p l e R s m args below meth c H locs cells slots 0 0 (F0 m pc ls st0) rest (wQr D cA sh ad post (wA sh ad H.size) a) (wA sh ad H.size)) (hA : PA sh ad A H0) (hW : WS D cA sh ad A H0 M H locs)
    (kk : ∀ (q : Nat) (M' : MS) (H1 : Heap) (locs1 : List Loc), post q M' → WS D cA sh ad A H0 M' H1 locs1 → W p l e R s m args below meth c H1 locs1 cells slots Q (F0 m (pc + 3) ls (.ref (ad q) :: rest))) : W p l e R s m args below meth c H locs cells slots Q (F0 m pc ls st0) :=
  va_callr hr hW.2 (fun q _ h => wA_in hA hW.2.1 q h) (fun q h => wA_in hA hW.2.1 q h) (fun u x t H1 locs1 ht _ hp hB _ _ hS => by rw [hB.1]; exact kk u.1 u.2 H1 locs1 hp ⟨ht ▸ hB.2, hS⟩)
/-- ends -/
theorem wr_ri {post : Int32 → Prop} {x : Int32} (hexec : p.tables.exec = Jvm.exec) (hb : c.code = cc) (hr : meth.sig.returnType = some .int) (hlocks : meth.locks = false) (hS : va_S nA s.heap H locs) (hdg : decode cc pc = .ok (.ireturn, 1)) (hp : post x) : W p l e R s m args below meth c H locs cells slots (MQ below (rQi post) args s cells slots nA) (F0 m pc ls [.int x]) :=
  W.iret (v := x) hexec hb hr (fun t ht _ => ⟨⟨x, (), rfl, hp, trivial⟩, hS.F ht⟩) hS.2.2 hdg hlocks
theorem wr_rz {post : Int32 → Prop} {x : Int32} (hexec : p.tables.exec = Jvm.exec) (hb : c.code = cc) (hr : meth.sig.returnType = some .boolean) (hlocks : meth.locks = false) (hS : va_S nA s.heap H locs) (hdg : decode cc pc = .ok (.ireturn, 1)) (hn : narrow .boolean (.int x) = .int x) (hp : post x) : W p l e R s m args below meth c H locs cells slots (MQ below (rQi post) args s cells slots nA) (F0 m pc ls [.int x]) :=
  W.zret (v := x) hexec hb hr hn (fun t ht _ => ⟨⟨x, (), rfl, hp, trivial⟩, hS.F ht⟩) hS.2.2 hdg hlocks
theorem wr_rl {post : Int64 → Prop} {x : Int64} (hexec : p.tables.exec = Jvm.exec) (hb : c.code = cc) (hr : meth.sig.returnType = some .long) (hlocks : meth.locks = false) (hS : va_S nA s.heap H locs) (hdg : decode cc pc = .ok (.lreturn, 1)) (hp : post x) : W p l e R s m args below meth c H locs cells slots (MQ below (rQl post) args s cells slots nA) (F0 m pc ls [.long x]) :=
  W.lret (v := x) hexec hb hr (fun t ht _ => ⟨⟨x, (), rfl, hp, trivial⟩, hS.F ht⟩) hS.2.2 hdg hlocks
theorem wr_wi {post : Int32 → MS → Prop} {x : Int32} (hexec : p.tables.exec = Jvm.exec) (hb : c.code = cc) (hr : meth.sig.returnType = some .int) (hlocks : meth.locks = false) (hW : WS D cA sh ad A s.heap M H locs) (hdg : decode cc pc = .ok (.ireturn, 1)) (hp : post x M) : W p l e R s m args below meth c H locs cells slots (MQ below (wQi D cA sh ad post A) args s cells slots A) (F0 m pc ls [.int x]) :=
  W.iret (v := x) hexec hb hr (fun t ht _ => ⟨⟨x, M, rfl, hp, (show WM D cA sh ad M t.heap by rw [ht]; exact hW.1)⟩, hW.2.F ht⟩) hW.2.2.2 hdg hlocks
theorem wr_wz {post : Int32 → MS → Prop} {x : Int32} (hexec : p.tables.exec = Jvm.exec) (hb : c.code = cc) (hr : meth.sig.returnType = some .boolean) (hlocks : meth.locks = false) (hW : WS D cA sh ad A s.heap M H locs) (hdg : decode cc pc = .ok (.ireturn, 1)) (hn : narrow .boolean (.int x) = .int x) (hp : post x M) : W p l e R s m args below meth c H locs cells slots (MQ below (wQi D cA sh ad post A) args s cells slots A) (F0 m pc ls [.int x]) :=
  W.zret (v := x) hexec hb hr hn (fun t ht _ => ⟨⟨x, M, rfl, hp, (show WM D cA sh ad M t.heap by rw [ht]; exact hW.1)⟩, hW.2.F ht⟩) hW.2.2.2 hdg hlocks
theorem wr_wl {post : Int64 → MS → Prop} {x : Int64} (hexec : p.tables.exec = Jvm.exec) (hb : c.code = cc) (hr : meth.sig.returnType = some .long) (hlocks : meth.locks = false) (hW : WS D cA sh ad A s.heap M H locs) (hdg : decode cc pc = .ok (.lreturn, 1)) (hp : post x M) : W p l e R s m args below meth c H locs cells slots (MQ below (wQl D cA sh ad post A) args s cells slots A) (F0 m pc ls [.long x]) :=
  W.lret (v := x) hexec hb hr (fun t ht _ => ⟨⟨x, M, rfl, hp, (show WM D cA sh ad M t.heap by rw [ht]; exact hW.1)⟩, hW.2.F ht⟩) hW.2.2.2 hdg hlocks
theorem wr_wv {post : MS → Prop} (hexec : p.tables.exec = Jvm.exec) (hb : c.code = cc) (hr : meth.sig.returnType = none) (hlocks : meth.locks = false) (hW : WS D cA sh ad A s.heap M H locs) (hdg : decode cc pc = .ok (.return_, 1)) (hp : post M) : W p l e R s m args below meth c H locs cells slots (MQ below (wQv D cA sh ad post A) args s cells slots A) (F0 m pc ls []) :=
  W.vret hexec hb hr (fun t ht _ => ⟨⟨M, rfl, hp, (show WM D cA sh ad M t.heap by rw [ht]; exact hW.1)⟩, hW.2.F ht⟩) hW.2.2.2 hdg hlocks
theorem wr_wr {post : Nat → MS → Prop} {q : Nat} {rt : FieldType} (hexec : p.tables.exec = Jvm.exec) (hb : c.code = cc) (hr : meth.sig.returnType = some rt) (hrt : (∃ n, rt = .object n) ∨ ∃ t, rt = .array t) (hlocks : meth.locks = false) (hW : WS D cA sh ad A s.heap M H locs) (hdg : decode cc pc = .ok (.areturn, 1)) (hp : post q M) : W p l e R s m args below meth c H locs cells slots (MQ below (wQr D cA sh ad post A) args s cells slots A) (F0 m pc ls [.ref (ad q)]) :=
  W.aret (v := .ref (ad q)) hexec hb hr hrt (Or.inr ⟨_, rfl⟩) (fun t ht _ => ⟨⟨(q, M), ad q, rfl, hp, rfl, by rw [ht]; exact hW.1⟩, hW.2.F ht⟩) hW.2.2.2 hdg hlocks
end WC
/-- a truth as an int -/
def bI (b : Bool) : Int32 := if b then 1 else 0
theorem bI_n (b : Bool) : narrow .boolean (.int (bI b)) = .int (bI b) := by cases b <;> rfl
theorem bI_f (b : Bool) : fits .boolean (.int (bI b)) = true := by cases b <;> rfl
theorem bI_0 {P : Prop} [Decidable P] : bI (decide P) = 0 ↔ ¬ P := by
  by_cases h : P <;> simp [bI, h]
theorem bI_t {b : Bool} : ¬ bI b = 0 ↔ b = true := by cases b <;> simp [bI]
theorem bI_z {b : Bool} : bI b = 0 ↔ b = false := by cases b <;> simp [bI]
theorem bI_1 {P : Prop} [Decidable P] (h : P) : 1 = bI (decide P) := by simp [bI, h]
theorem bI_1n {P : Prop} [Decidable P] (h : ¬ P) : 0 = bI (decide P) := by simp [bI, h]
/-- a world of nothing -/
theorem nWS (s : State) : ∃ (D : va_G) (cA : Nat → ClassId) (sh : Nat → Option Sh) (ad : Nat → Nat) (M : MS), WS D cA sh ad nA s.heap M s.heap [] :=
  ⟨(fun _ => default, fun _ _ => 0), fun _ => default, fun _ => none, fun _ => 0, (fun _ _ => 0, fun _ _ => 0, fun _ _ => none), ⟨fun _ _ h => (nomatch h), fun _ _ _ _ h => (nomatch h)⟩, va_S.rf⟩

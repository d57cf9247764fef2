/-! The world by logical places: a place p has the address ad p, a shape, and what it holds: ints, longs, references to places. -/
abbrev MS : Type := (Nat → Nat → Int32) × (Nat → Nat → Int64) × (Nat → Nat → Option Nat)
def gI (M : MS) (p k : Nat) : Int32 := M.1 p k
def gL (M : MS) (p k : Nat) : Int64 := M.2.1 p k
def gR (M : MS) (p k : Nat) : Option Nat := M.2.2 p k
def sI (M : MS) (p k : Nat) (v : Int32) : MS := (fun a b => if a = p ∧ b = k then v else M.1 a b, M.2.1, M.2.2)
def sL (M : MS) (p k : Nat) (v : Int64) : MS := (M.1, fun a b => if a = p ∧ b = k then v else M.2.1 a b, M.2.2)
def sR (M : MS) (p k : Nat) (v : Option Nat) : MS := (M.1, M.2.1, fun a b => if a = p ∧ b = k then v else M.2.2 a b)
theorem gI_sI (M : MS) (p k : Nat) (v : Int32) (a b : Nat) : gI (sI M p k v) a b = if a = p ∧ b = k then v else gI M a b := rfl
theorem gI_sL (M : MS) (p k : Nat) (v : Int64) (a b : Nat) : gI (sL M p k v) a b = gI M a b := rfl
theorem gI_sR (M : MS) (p k : Nat) (v : Option Nat) (a b : Nat) : gI (sR M p k v) a b = gI M a b := rfl
theorem gL_sL (M : MS) (p k : Nat) (v : Int64) (a b : Nat) : gL (sL M p k v) a b = if a = p ∧ b = k then v else gL M a b := rfl
theorem gL_sI (M : MS) (p k : Nat) (v : Int32) (a b : Nat) : gL (sI M p k v) a b = gL M a b := rfl
theorem gL_sR (M : MS) (p k : Nat) (v : Option Nat) (a b : Nat) : gL (sR M p k v) a b = gL M a b := rfl
theorem gR_sR (M : MS) (p k : Nat) (v : Option Nat) (a b : Nat) : gR (sR M p k v) a b = if a = p ∧ b = k then v else gR M a b := rfl
theorem gR_sI (M : MS) (p k : Nat) (v : Int32) (a b : Nat) : gR (sI M p k v) a b = gR M a b := rfl
theorem gR_sL (M : MS) (p k : Nat) (v : Int64) (a b : Nat) : gR (sL M p k v) a b = gR M a b := rfl
/-- the same at a place -/
def eqAt (M M' : MS) (p : Nat) : Prop := (∀ j, gI M' p j = gI M p j) ∧ (∀ j, gL M' p j = gL M p j) ∧ ∀ j, gR M' p j = gR M p j
theorem eqAt_sI {M : MS} {q k p : Nat} {v : Int32} (h : p ≠ q) : eqAt M (sI M q k v) p := ⟨fun j => by rw [gI_sI, if_neg (fun e => h e.1)], fun j => rfl, fun j => rfl⟩
theorem eqAt_sL {M : MS} {q k p : Nat} {v : Int64} (h : p ≠ q) : eqAt M (sL M q k v) p := ⟨fun j => rfl, fun j => by rw [gL_sL, if_neg (fun e => h e.1)], fun j => rfl⟩
theorem eqAt_sR {M : MS} {q k p : Nat} {v : Option Nat} (h : p ≠ q) : eqAt M (sR M q k v) p := ⟨fun j => rfl, fun j => rfl, fun j => by rw [gR_sR, if_neg (fun e => h e.1)]⟩
/-- shapes: an object (number of its class, the kinds of its slots: 0 int, 1 long, 2 reference, t+3 always the place t); an array (kind, length): 0 ints, 1 booleans, 2 longs, 3 cues, 4 kinds, 5 racks, 6 the kinds 40.., 7 the racks 30.. -/
abbrev Sh : Type := (Nat × List Nat) ⊕ (Nat × Nat)
def fv (ad : Nat → Nat) (M : MS) (p k : Nat) : Nat → Value
  | 0 => .int (gI M p k)
  | 1 => .long (gL M p k)
  | 2 => va_rf ((gR M p k).map ad)
  | t + 3 => .ref (ad t)
def ta (t : Nat) : Nat := if t = 6 then 4 else if t = 7 then 5 else t
def av (ad : Nat → Nat) (M : MS) (p : Nat) (t : Nat) : (Nat → Int32) ⊕ (Nat → Int64) ⊕ (Nat → UInt32) ⊕ (Nat → UInt64) ⊕ (Nat → Option Nat) :=
  if t ≤ 1 then .inl (gI M p) else if t = 2 then .inr (.inl (gL M p)) else if t ≤ 5 then .inr (.inr (.inr (.inr (fun i => (gR M p i).map ad)))) else .inr (.inr (.inr (.inr (fun i => some (ad ((if t = 6 then 40 else 30) + i))))))
def wat (D : va_G) (cA : Nat → ClassId) (ad : Nat → Nat) (M : MS) (H : Heap) (p : Nat) : Sh → Prop
  | .inl o => ∃ r : vw_C, vwCl[o.1]? = some r ∧ t_OB (ad p) (D.1 o.1) r.2.2 (D.2 o.1) H (fun k => fv ad M p k (o.2.getD k 0))
  | .inr a => H[ad p]? = some (vp_cell (cA (ta a.1)) (a.2, av ad M p a.1))
def wty (cA : Nat → ClassId) : List (ClassId × FieldType) := [(cA 0, .int), (cA 1, .boolean), (cA 0, .int), (cA 3, .object "MortarShow$Cue"), (cA 4, .object "MortarShow$Kind"), (cA 5, .object "MortarShow$Rack")]
def WM (D : va_G) (cA : Nat → ClassId) (sh : Nat → Option Sh) (ad : Nat → Nat) (M : MS) (H : Heap) : Prop :=
  (∀ p x, sh p = some x → wat D cA ad M H p x) ∧ ∀ p q x y, sh p = some x → sh q = some y → ad p = ad q → p = q
def WS (D : va_G) (cA : Nat → ClassId) (sh : Nat → Option Sh) (ad : Nat → Nat) (A : Nat → Prop) (H0 : Heap) (M : MS) (H : Heap) (locs : List Loc) : Prop := WM D cA sh ad M H ∧ va_S A H0 H locs
/-- which cells a method may change -/
def wA (sh : Nat → Option Sh) (ad : Nat → Nat) (sz : Nat) : Nat → Prop := fun a => (∃ p x, sh p = some x ∧ a = ad p) ∨ sz ≤ a
def PA (sh : Nat → Option Sh) (ad : Nat → Nat) (A : Nat → Prop) (H0 : Heap) : Prop := (∀ p x, sh p = some x → A (ad p)) ∧ ∀ q, H0.size ≤ q → A q
theorem wA_PA (sh : Nat → Option Sh) (ad : Nat → Nat) (H : Heap) : PA sh ad (wA sh ad H.size) H := ⟨fun p x h => Or.inl ⟨p, x, h, rfl⟩, fun _ h => Or.inr h⟩
theorem wA_in {sh : Nat → Option Sh} {ad : Nat → Nat} {A : Nat → Prop} {H0 H : Heap} (h : PA sh ad A H0) (hs : H0.size ≤ H.size) : ∀ q, wA sh ad H.size q → A q := fun q hq => by
  rcases hq with ⟨p, x, h1, h2⟩ | h1
  · rw [h2]; exact h.1 p x h1
  · exact h.2 q (Nat.le_trans hs h1)
theorem fv_eq {ad : Nat → Nat} {M M' : MS} {p : Nat} (e : eqAt M M' p) (k t : Nat) : fv ad M' p k t = fv ad M p k t := by
  match t with
  | 0 => exact congrArg Value.int (e.1 k)
  | 1 => exact congrArg Value.long (e.2.1 k)
  | 2 => exact congrArg (fun o => va_rf (o.map ad)) (e.2.2 k)
  | t + 3 => rfl
theorem av_eq {ad : Nat → Nat} {M M' : MS} {p : Nat} (e : eqAt M M' p) (t : Nat) : av ad M' p t = av ad M p t := by
  have h1 : gI M' p = gI M p := funext e.1
  have h2 : gL M' p = gL M p := funext e.2.1
  have h3 : (fun i => (gR M' p i).map ad) = fun i => (gR M p i).map ad := funext fun i => by rw [e.2.2 i]
  unfold av
  rw [h1, h2, h3]
theorem wat.lt {D : va_G} {cA : Nat → ClassId} {ad : Nat → Nat} {M : MS} {H : Heap} {p : Nat} {x : Sh} (h : wat D cA ad M H p x) : ad p < H.size := by
  cases x with
  | inl o => obtain ⟨r, -, cell, h2, -⟩ := h; exact (Array.getElem?_eq_some_iff.mp h2).1
  | inr a => exact (Array.getElem?_eq_some_iff.mp h).1
theorem wat.to {D : va_G} {cA : Nat → ClassId} {ad : Nat → Nat} {M M' : MS} {H H1 : Heap} {p : Nat} {x : Sh} (h : wat D cA ad M H p x) (e : eqAt M M' p) (hq : H1[ad p]? = H[ad p]?) : wat D cA ad M' H1 p x := by
  cases x with
  | inl o =>
    obtain ⟨r, h1, h2⟩ := h
    exact ⟨r, h1, (h2.kept hq).to (fun k _ => (fv_eq e k _).symm)⟩
  | inr a =>
    show H1[ad p]? = _
    rw [hq, av_eq e]; exact h
theorem eqAt.rf (M : MS) (p : Nat) : eqAt M M p := ⟨fun _ => rfl, fun _ => rfl, fun _ => rfl⟩
theorem WM.kept {D : va_G} {cA : Nat → ClassId} {sh : Nat → Option Sh} {ad : Nat → Nat} {M : MS} {H H1 : Heap} (h : WM D cA sh ad M H) (hq : ∀ q, q < H.size → H1[q]? = H[q]?) : WM D cA sh ad M H1 :=
  ⟨fun p x hp => (h.1 p x hp).to (eqAt.rf M p) (hq _ (h.1 p x hp).lt), h.2⟩
/-- one place changes -/
theorem WM.put {D : va_G} {cA : Nat → ClassId} {sh : Nat → Option Sh} {ad : Nat → Nat} {M M' : MS} {H H1 : Heap} {q : Nat} {x : Sh} (h : WM D cA sh ad M H) (hs : sh q = some x) (hx : wat D cA ad M' H1 q x) (he : ∀ p, p ≠ q → eqAt M M' p) (oq : ∀ a, a ≠ ad q → H1[a]? = H[a]?) : WM D cA sh ad M' H1 := by
  refine ⟨fun p y hp => ?_, h.2⟩
  by_cases e : p = q
  · subst e
    cases hs.symm.trans hp
    exact hx
  · exact (h.1 p y hp).to (he p e) (oq _ (fun z => e (h.2 p q y x hp hs z)))
/-- a field, as an instruction of this method names it: place index of the pool, slot k of the class ci -/
def FA (D : va_G) (s : State) (m : MethodId) (args : Array Value) (index ci k : Nat) : Prop :=
  ∃ (own C : String) (T : u_T) (N : Nat), vwCl[ci]? = some (C, T, N) ∧ k < N ∧ s.vm.findClass own = some m.cls ∧ (Cond.fieldLink own index (T k).1 (T k).2.1 (T k).2.2.1).before args s = true ∧ u_Kn s C T N (D.1 ci) (D.2 ci) ∧ ((Cond.lays C (T k).1 (T k).2.1 (T k).2.2.1).before args s = true ∨ (Cond.laysFinal C (T k).1 (T k).2.1 (T k).2.2.1).before args s = true)
theorem FA.mk {D : va_G} {cA : Nat → ClassId} {s : State} {m : MethodId} {args : Array Value} {index ci k : Nat} {own C : String} {T : u_T} {N : Nat} {Ts : List Cond} (hts : ∀ w ∈ Ts, w.before args s = true) (hin : ∀ w ∈ u_ws C T N, w ∈ Ts) (hown : s.vm.findClass own = some m.cls) (hK : va_K D vwCl (wty cA) s) (hc : vwCl[ci]? = some (C, T, N)) (hk : k < N) (hlink : (Cond.fieldLink own index (T k).1 (T k).2.1 (T k).2.2.1).before args s = true) : FA D s m args index ci k :=
  ⟨own, C, T, N, hc, hk, hown, hlink, hK.1 ci _ hc, u_lays hts hin hk⟩
def FW (D : va_G) (s : State) (m : MethodId) (args : Array Value) (index ci k : Nat) (ty : FieldType) : Prop :=
  ∃ (own C : String) (T : u_T) (N : Nat), vwCl[ci]? = some (C, T, N) ∧ k < N ∧ s.vm.findClass own = some m.cls ∧ (Cond.fieldLink own index (T k).1 (T k).2.1 (T k).2.2.1).before args s = true ∧ u_Kn s C T N (D.1 ci) (D.2 ci) ∧ (Cond.lays C (T k).1 (T k).2.1 (T k).2.2.1).before args s = true ∧ parseFieldDescriptor (T k).2.2.1 = some ty ∧ ∀ x y, x < N → y < N → x ≠ y → (D.2 ci) x ≠ (D.2 ci) y
theorem FW.mk {D : va_G} {cA : Nat → ClassId} {s : State} {m : MethodId} {args : Array Value} {index ci k : Nat} {own C : String} {T : u_T} {N : Nat} {Ts : List Cond} {ty : FieldType} (hts : ∀ w ∈ Ts, w.before args s = true) (hin : ∀ w ∈ u_ws C T N, w ∈ Ts) (hown : s.vm.findClass own = some m.cls) (hK : va_K D vwCl (wty cA) s) (hc : vwCl[ci]? = some (C, T, N)) (hk : k < N) (hlink : (Cond.fieldLink own index (T k).1 (T k).2.1 (T k).2.2.1).before args s = true) (ty0 : Nat → FieldType) (hty : ∀ k, k < N → parseFieldDescriptor (T k).2.2.1 = some (ty0 k)) (hnm : ∀ a, a < N → ∀ b, b < N → a ≠ b → (T a).2.1 ≠ (T b).2.1) (hfin : (T k).2.2.2 = false) (ht : ty0 k = ty) : FW D s m args index ci k ty := by
  refine ⟨own, C, T, N, hc, hk, hown, hlink, hK.1 ci _ hc, ?_, by rw [hty k hk, ht], va_apart (own := own) hts hin ty0 hty hnm hK hc⟩
  have hlay := hts _ (hin _ (u_in_lay hk))
  unfold u_lay at hlay
  rw [if_neg (by rw [hfin]; decide)] at hlay
  exact hlay
def FF (D : va_G) (s : State) (m : MethodId) (args : Array Value) (index ci k : Nat) (ty : FieldType) : Prop :=
  ∃ (own C : String) (T : u_T) (N : Nat), vwCl[ci]? = some (C, T, N) ∧ k < N ∧ s.vm.findClass own = some m.cls ∧ (Cond.fieldLink own index (T k).1 (T k).2.1 (T k).2.2.1).before args s = true ∧ u_Kn s C T N (D.1 ci) (D.2 ci) ∧ (Cond.laysFinal C (T k).1 (T k).2.1 (T k).2.2.1).before args s = true ∧ parseFieldDescriptor (T k).2.2.1 = some ty ∧ (∀ x y, x < N → y < N → x ≠ y → (D.2 ci) x ≠ (D.2 ci) y) ∧ (T k).1 = own
theorem FF.mk {D : va_G} {cA : Nat → ClassId} {s : State} {m : MethodId} {args : Array Value} {index ci k : Nat} {own C : String} {T : u_T} {N : Nat} {Ts : List Cond} {ty : FieldType} (hts : ∀ w ∈ Ts, w.before args s = true) (hin : ∀ w ∈ u_ws C T N, w ∈ Ts) (hown : s.vm.findClass own = some m.cls) (hK : va_K D vwCl (wty cA) s) (hc : vwCl[ci]? = some (C, T, N)) (hk : k < N) (hlink : (Cond.fieldLink own index (T k).1 (T k).2.1 (T k).2.2.1).before args s = true) (ty0 : Nat → FieldType) (hty : ∀ k, k < N → parseFieldDescriptor (T k).2.2.1 = some (ty0 k)) (hnm : ∀ a, a < N → ∀ b, b < N → a ≠ b → (T a).2.1 ≠ (T b).2.1) (hfin : (T k).2.2.2 = true) (hdecl : (T k).1 = own) (ht : ty0 k = ty) : FF D s m args index ci k ty := by
  refine ⟨own, C, T, N, hc, hk, hown, hlink, hK.1 ci _ hc, ?_, by rw [hty k hk, ht], va_apart (own := own) hts hin ty0 hty hnm hK hc, hdecl⟩
  have hlay := hts _ (hin _ (u_in_lay hk))
  unfold u_lay at hlay
  rw [if_pos hfin] at hlay
  exact hlay
section WR
variable {p : Program} {l : Launch} {e : Env} {R : Room} {s : State} {m : MethodId} {args : Array Value} {below : List Frame} {meth : Method} {c : Code} {H : Heap} {locs : List Loc} {cells slots : Nat} {Q : State → Prop}
variable {cc : ByteArray} {pc : Nat} {ls : Array Slot} {rest : List Value} {D : va_G} {cA : Nat → ClassId} {sh : Nat → Option Sh} {ad : Nat → Nat} {A : Nat → Prop} {H0 : Heap} {M : MS}
theorem WS.put {H1 : Heap} {M' : MS} {q k : Nat} {x : Sh} (hW : WS D cA sh ad A H0 M H locs) (hA : PA sh ad A H0) (hs : sh q = some x) (hx : wat D cA ad M' H1 q x) (he : ∀ p, p ≠ q → eqAt M M' p) (z : H1.size = H.size) (oq : ∀ a, a ≠ ad q → H1[a]? = H[a]?) : WS D cA sh ad A H0 M' H1 (locs ++ [⟨ad q, k⟩]) :=
  ⟨hW.1.put hs hx he oq, hW.2.put z oq (hA.1 q x hs)⟩
theorem wg (hexec : p.tables.exec = Jvm.exec) (hb : c.code = cc) {index ci k q : Nat} {ks : List Nat} {v : Value} (hF : FA D s m args index ci k) (hW : WS D cA sh ad A H0 M H locs) (hq : sh q = some (.inl (ci, ks))) (hv : fv ad M q k (ks.getD k 0) = v) (hdg : decode cc pc = .ok (.getfield index, 3))
    (kk : W p l e R s m args below meth c H locs cells slots Q (F0 m (pc + 3) ls (v :: rest))) : W p l e R s m args below meth c H locs cells slots Q (F0 m pc ls (.ref (ad q) :: rest)) := by
  obtain ⟨own, C, T, N, hc, hk, hown, hlink, ⟨hS, hfc, kC, hkC, hkind⟩, hlay⟩ := hF
  obtain ⟨r, h1, cell, q1, q2, q3, q4⟩ := hW.1.1 q _ hq
  have hr : r = (C, T, N) := Option.some.inj (h1.symm.trans hc)
  subst hr
  obtain ⟨cf, kf, fi, f, hi, hsl⟩ := hS k hk
  refine W.getf hexec hb hown hlink hi (u_facts hfc hkC hlay hi).1 q1 (by rw [q3]; exact fun h => by cases h) (v := v) ?_ rfl rfl hdg kk
  rw [hsl, q4 k hk]; exact congrArg some hv
theorem wp (hexec : p.tables.exec = Jvm.exec) (hb : c.code = cc) {index ci k q : Nat} {ks : List Nat} {ty : FieldType} {v : Value} {M' : MS} (hF : FW D s m args index ci k ty) (hA : PA sh ad A H0) (hW : WS D cA sh ad A H0 M H locs) (hq : sh q = some (.inl (ci, ks))) (hn : narrow ty v = v) (hfit : fits ty v = true) (hv : fv ad M' q k (ks.getD k 0) = v) (he : ∀ j, j ≠ k → fv ad M' q j (ks.getD j 0) = fv ad M q j (ks.getD j 0)) (ho : ∀ p, p ≠ q → eqAt M M' p) (hdg : decode cc pc = .ok (.putfield index, 3))
    (kk : ∀ (H1 : Heap) (locs1 : List Loc), WS D cA sh ad A H0 M' H1 locs1 → W p l e R s m args below meth c H1 locs1 cells slots Q (F0 m (pc + 3) ls rest)) : W p l e R s m args below meth c H locs cells slots Q (F0 m pc ls (v :: .ref (ad q) :: rest)) := by
  obtain ⟨own, C, T, N, hc, hk, hown, hlink, ⟨hS, hfc, kC, hkC, hkind⟩, hlay, hd, hap⟩ := hF
  obtain ⟨r, h1, cell, q1, q2, q3, q4⟩ := hW.1.1 q _ hq
  have hr : r = (C, T, N) := Option.some.inj (h1.symm.trans hc)
  subst hr
  obtain ⟨cf, kf, fi, f, hi, hsl⟩ := hS k hk
  have hst := (u_facts hfc hkC (Or.inl hlay) hi).1
  have h6 := u_store hfc hkC hkind hlay hi hd hn hfit
  refine W.putK hexec hb (f := f) ⟨hown, hlink, ⟨_, _, _, hi⟩, hst⟩ (by rw [q2]; exact h6) q1 q3 (by rw [hsl]; exact k2_hasslot (q4 k hk)) rfl rfl hdg fun H' e1 e2 e3 => ?_
  rw [hsl] at e1 ⊢
  refine kk H' _ (hW.put hA hq ⟨_, hc, t_OB.to (V := updV _ k v) ⟨_, e1, q2, q3, t_set q4 hap hk v⟩ (fun j _ => ?_)⟩ ho e2 e3)
  by_cases hj : j = k
  · subst hj
    rw [hv]; simp [updV]
  · rw [he j hj]; simp [updV, hj]
theorem wpf (hexec : p.tables.exec = Jvm.exec) (hb : c.code = cc) {index ci k q : Nat} {ks : List Nat} {ty : FieldType} {v : Value} {M' : MS} (hF : FF D s m args index ci k ty) (hin2 : meth.name = "<init>") (hA : PA sh ad A H0) (hW : WS D cA sh ad A H0 M H locs) (hq : sh q = some (.inl (ci, ks))) (hn : narrow ty v = v) (hfit : fits ty v = true) (hv : fv ad M' q k (ks.getD k 0) = v) (he : ∀ j, j ≠ k → fv ad M' q j (ks.getD j 0) = fv ad M q j (ks.getD j 0)) (ho : ∀ p, p ≠ q → eqAt M M' p) (hdg : decode cc pc = .ok (.putfield index, 3))
    (kk : ∀ (H1 : Heap) (locs1 : List Loc), WS D cA sh ad A H0 M' H1 locs1 → W p l e R s m args below meth c H1 locs1 cells slots Q (F0 m (pc + 3) ls rest)) : W p l e R s m args below meth c H locs cells slots Q (F0 m pc ls (v :: .ref (ad q) :: rest)) := by
  obtain ⟨own, C, T, N, hc, hk, hown, hlink, ⟨hS, hfc, kC, hkC, hkind⟩, hlay, hd, hap, hdecl⟩ := hF
  obtain ⟨r, h1, cell, q1, q2, q3, q4⟩ := hW.1.1 q _ hq
  have hr : r = (C, T, N) := Option.some.inj (h1.symm.trans hc)
  subst hr
  obtain ⟨cf, kf, fi, f, hi, hsl⟩ := hS k hk
  have hst := (u_facts hfc hkC (Or.inr hlay) hi).1
  have hcf : m.cls = cf := by
    obtain ⟨_, _, c', _, _, _, -, -, hf', -, -, -, hown2, -⟩ := Cond.laysFinal_spec hlay
    have e1 : c' = cf := by have := hi.symm.trans hf'; simp at this; exact this.1.symm
    rw [hdecl] at hown2
    rw [← e1]; exact Option.some.inj (hown.symm.trans hown2)
  have h6 := u_fits hfc hkC hkind (Or.inr hlay) hi hd hn hfit
  refine W.putFinK hexec hb hown hlink hi hst hcf hin2 (by rw [q2]; exact h6) q1 q3 (by rw [hsl]; exact k2_hasslot (q4 k hk)) rfl rfl hdg fun H' e1 e2 e3 => ?_
  rw [hsl] at e1 ⊢
  refine kk H' _ (hW.put hA hq ⟨_, hc, t_OB.to (V := updV _ k v) ⟨_, e1, q2, q3, t_set q4 hap hk v⟩ (fun j _ => ?_)⟩ ho e2 e3)
  by_cases hj : j = k
  · subst hj
    rw [hv]; simp [updV]
  · rw [he j hj]; simp [updV, hj]
end WR

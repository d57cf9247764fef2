/-! Rows over the world by places: fields, arrays, calls. -/
theorem fv_sI {ad : Nat → Nat} {M : MS} {q k : Nat} {v : Int32} (j t : Nat) (h : j ≠ k) : fv ad (sI M q k v) q j t = fv ad M q j t := by
  match t with
  | 0 => show Value.int (gI (sI M q k v) q j) = _; rw [gI_sI, if_neg (fun e => h e.2)]; rfl
  | 1 => rfl
  | 2 => rfl
  | t + 3 => rfl
theorem fv_sL {ad : Nat → Nat} {M : MS} {q k : Nat} {v : Int64} (j t : Nat) (h : j ≠ k) : fv ad (sL M q k v) q j t = fv ad M q j t := by
  match t with
  | 0 => rfl
  | 1 => show Value.long (gL (sL M q k v) q j) = _; rw [gL_sL, if_neg (fun e => h e.2)]; rfl
  | 2 => rfl
  | t + 3 => rfl
theorem fv_sR {ad : Nat → Nat} {M : MS} {q k : Nat} {v : Option Nat} (j t : Nat) (h : j ≠ k) : fv ad (sR M q k v) q j t = fv ad M q j t := by
  match t with
  | 0 => rfl
  | 1 => rfl
  | 2 => show va_rf ((gR (sR M q k v) q j).map ad) = _; rw [gR_sR, if_neg (fun e => h e.2)]; rfl
  | t + 3 => rfl
theorem fv_sI_s (ad : Nat → Nat) (M : MS) (q k : Nat) (v : Int32) : fv ad (sI M q k v) q k 0 = .int v := by
  show Value.int (gI (sI M q k v) q k) = _; rw [gI_sI, if_pos ⟨rfl, rfl⟩]
theorem fv_sL_s (ad : Nat → Nat) (M : MS) (q k : Nat) (v : Int64) : fv ad (sL M q k v) q k 1 = .long v := by
  show Value.long (gL (sL M q k v) q k) = _; rw [gL_sL, if_pos ⟨rfl, rfl⟩]
theorem fv_sR_s (ad : Nat → Nat) (M : MS) (q k : Nat) (v : Option Nat) : fv ad (sR M q k v) q k 2 = va_rf (v.map ad) := by
  show va_rf ((gR (sR M q k v) q k).map ad) = _; rw [gR_sR, if_pos ⟨rfl, rfl⟩]
theorem fv_R {ad : Nat → Nat} {M : MS} {p k : Nat} {o : Option Nat} (h : gR M p k = o) : fv ad M p k 2 = va_rf (o.map ad) := by rw [← h]; rfl
section WR2
variable {p : Program} {l : Launch} {e : Env} {R : Room} {s : State} {m : MethodId} {args : Array Value} {below : List Frame} {meth : Method} {c : Code} {H : Heap} {locs : List Loc} {cells slots : Nat} {Q : State → Prop}
variable {cc : ByteArray} {pc : Nat} {ls : Array Slot} {rest : List Value} {D : va_G} {cA : Nat → ClassId} {sh : Nat → Option Sh} {ad : Nat → Nat} {A : Nat → Prop} {H0 : Heap} {M : MS}
theorem wgI (hexec : p.tables.exec = Jvm.exec) (hb : c.code = cc) {index ci k q : Nat} {ks : List Nat} (hF : FA D s m args index ci k) (hW : WS D cA sh ad A H0 M H locs) (hq : sh q = some (.inl (ci, ks))) (h0 : ks.getD k 0 = 0) (hdg : decode cc pc = .ok (.getfield index, 3))
    (kk : ∀ x : Int32, x = gI M q k → W p l e R s m args below meth c H locs cells slots Q (F0 m (pc + 3) ls (.int x :: rest))) : W p l e R s m args below meth c H locs cells slots Q (F0 m pc ls (.ref (ad q) :: rest)) :=
  wg hexec hb hF hW hq (by rw [h0]; rfl) hdg (kk _ rfl)
theorem wgL (hexec : p.tables.exec = Jvm.exec) (hb : c.code = cc) {index ci k q : Nat} {ks : List Nat} (hF : FA D s m args index ci k) (hW : WS D cA sh ad A H0 M H locs) (hq : sh q = some (.inl (ci, ks))) (h0 : ks.getD k 0 = 1) (hdg : decode cc pc = .ok (.getfield index, 3))
    (kk : ∀ x : Int64, x = gL M q k → W p l e R s m args below meth c H locs cells slots Q (F0 m (pc + 3) ls (.long x :: rest))) : W p l e R s m args below meth c H locs cells slots Q (F0 m pc ls (.ref (ad q) :: rest)) :=
  wg hexec hb hF hW hq (by rw [h0]; rfl) hdg (kk _ rfl)
/-- a field that always names the place t -/
theorem wgF (hexec : p.tables.exec = Jvm.exec) (hb : c.code = cc) {index ci k q t : Nat} {ks : List Nat} (hF : FA D s m args index ci k) (hW : WS D cA sh ad A H0 M H locs) (hq : sh q = some (.inl (ci, ks))) (h0 : ks.getD k 0 = t + 3) (hdg : decode cc pc = .ok (.getfield index, 3))
    (kk : W p l e R s m args below meth c H locs cells slots Q (F0 m (pc + 3) ls (.ref (ad t) :: rest))) : W p l e R s m args below meth c H locs cells slots Q (F0 m pc ls (.ref (ad q) :: rest)) :=
  wg hexec hb hF hW hq (by rw [h0]; rfl) hdg kk
theorem wgR (hexec : p.tables.exec = Jvm.exec) (hb : c.code = cc) {index ci k q t : Nat} {ks : List Nat} (hF : FA D s m args index ci k) (hW : WS D cA sh ad A H0 M H locs) (hq : sh q = some (.inl (ci, ks))) (h0 : ks.getD k 0 = 2) (hv : gR M q k = some t) (hdg : decode cc pc = .ok (.getfield index, 3))
    (kk : W p l e R s m args below meth c H locs cells slots Q (F0 m (pc + 3) ls (.ref (ad t) :: rest))) : W p l e R s m args below meth c H locs cells slots Q (F0 m pc ls (.ref (ad q) :: rest)) :=
  wg hexec hb hF hW hq (by rw [h0, fv_R hv]; rfl) hdg kk
theorem wpI (hexec : p.tables.exec = Jvm.exec) (hb : c.code = cc) {index ci k q : Nat} {ks : List Nat} {x : Int32} (hF : FW D s m args index ci k .int) (hA : PA sh ad A H0) (hW : WS D cA sh ad A H0 M H locs) (hq : sh q = some (.inl (ci, ks))) (h0 : ks.getD k 0 = 0) (hdg : decode cc pc = .ok (.putfield index, 3))
    (kk : ∀ (M' : MS) (H1 : Heap) (locs1 : List Loc), M' = sI M q k x → WS D cA sh ad A H0 M' H1 locs1 → W p l e R s m args below meth c H1 locs1 cells slots Q (F0 m (pc + 3) ls rest)) : W p l e R s m args below meth c H locs cells slots Q (F0 m pc ls (.int x :: .ref (ad q) :: rest)) :=
  wp hexec hb (M' := sI M q k x) hF hA hW hq rfl rfl (by rw [h0, fv_sI_s]) (fun j hj => fv_sI j _ hj) (fun p hp => eqAt_sI hp) hdg (fun H1 l1 h => kk _ H1 l1 rfl h)
theorem wpZ (hexec : p.tables.exec = Jvm.exec) (hb : c.code = cc) {index ci k q : Nat} {ks : List Nat} {x : Int32} (hF : FW D s m args index ci k .boolean) (hA : PA sh ad A H0) (hW : WS D cA sh ad A H0 M H locs) (hq : sh q = some (.inl (ci, ks))) (h0 : ks.getD k 0 = 0) (hn : narrow .boolean (.int x) = .int x ∧ fits .boolean (.int x) = true) (hdg : decode cc pc = .ok (.putfield index, 3))
    (kk : ∀ (M' : MS) (H1 : Heap) (locs1 : List Loc), M' = sI M q k x → WS D cA sh ad A H0 M' H1 locs1 → W p l e R s m args below meth c H1 locs1 cells slots Q (F0 m (pc + 3) ls rest)) : W p l e R s m args below meth c H locs cells slots Q (F0 m pc ls (.int x :: .ref (ad q) :: rest)) :=
  wp hexec hb (M' := sI M q k x) hF hA hW hq hn.1 hn.2 (by rw [h0, fv_sI_s]) (fun j hj => fv_sI j _ hj) (fun p hp => eqAt_sI hp) hdg (fun H1 l1 h => kk _ H1 l1 rfl h)
theorem wpL (hexec : p.tables.exec = Jvm.exec) (hb : c.code = cc) {index ci k q : Nat} {ks : List Nat} {x : Int64} (hF : FW D s m args index ci k .long) (hA : PA sh ad A H0) (hW : WS D cA sh ad A H0 M H locs) (hq : sh q = some (.inl (ci, ks))) (h0 : ks.getD k 0 = 1) (hdg : decode cc pc = .ok (.putfield index, 3))
    (kk : ∀ (M' : MS) (H1 : Heap) (locs1 : List Loc), M' = sL M q k x → WS D cA sh ad A H0 M' H1 locs1 → W p l e R s m args below meth c H1 locs1 cells slots Q (F0 m (pc + 3) ls rest)) : W p l e R s m args below meth c H locs cells slots Q (F0 m pc ls (.long x :: .ref (ad q) :: rest)) :=
  wp hexec hb (M' := sL M q k x) hF hA hW hq rfl rfl (by rw [h0, fv_sL_s]) (fun j hj => fv_sL j _ hj) (fun p hp => eqAt_sL hp) hdg (fun H1 l1 h => kk _ H1 l1 rfl h)
theorem wpfI (hexec : p.tables.exec = Jvm.exec) (hb : c.code = cc) {index ci k q : Nat} {ks : List Nat} {x : Int32} (hF : FF D s m args index ci k .int) (hin2 : meth.name = "<init>") (hA : PA sh ad A H0) (hW : WS D cA sh ad A H0 M H locs) (hq : sh q = some (.inl (ci, ks))) (h0 : ks.getD k 0 = 0) (hdg : decode cc pc = .ok (.putfield index, 3))
    (kk : ∀ (M' : MS) (H1 : Heap) (locs1 : List Loc), M' = sI M q k x → WS D cA sh ad A H0 M' H1 locs1 → W p l e R s m args below meth c H1 locs1 cells slots Q (F0 m (pc + 3) ls rest)) : W p l e R s m args below meth c H locs cells slots Q (F0 m pc ls (.int x :: .ref (ad q) :: rest)) :=
  wpf hexec hb (M' := sI M q k x) hF hin2 hA hW hq rfl rfl (by rw [h0, fv_sI_s]) (fun j hj => fv_sI j _ hj) (fun p hp => eqAt_sI hp) hdg (fun H1 l1 h => kk _ H1 l1 rfl h)
theorem wpfR (hexec : p.tables.exec = Jvm.exec) (hb : c.code = cc) {index ci k q t : Nat} {ks : List Nat} {ty : FieldType} (hF : FF D s m args index ci k ty) (hin2 : meth.name = "<init>") (hA : PA sh ad A H0) (hW : WS D cA sh ad A H0 M H locs) (hq : sh q = some (.inl (ci, ks))) (h0 : ks.getD k 0 = 2) (hn : narrow ty (.ref (ad t)) = .ref (ad t)) (hf : fits ty (.ref (ad t)) = true) (hdg : decode cc pc = .ok (.putfield index, 3))
    (kk : ∀ (M' : MS) (H1 : Heap) (locs1 : List Loc), M' = sR M q k (some t) → WS D cA sh ad A H0 M' H1 locs1 → W p l e R s m args below meth c H1 locs1 cells slots Q (F0 m (pc + 3) ls rest)) : W p l e R s m args below meth c H locs cells slots Q (F0 m pc ls (.ref (ad t) :: .ref (ad q) :: rest)) :=
  wpf hexec hb (M' := sR M q k (some t)) hF hin2 hA hW hq hn hf (by rw [h0, fv_sR_s]; rfl) (fun j hj => fv_sR j _ hj) (fun p hp => eqAt_sR hp) hdg (fun H1 l1 h => kk _ H1 l1 rfl h)
/-! arrays: index i = nI j, j < n -/
theorem in_nI {i : Int32} {j n : Nat} (hi : i = nI j) (hj : j < n) (hn : n < 2 ^ 31) : vp_in i n ∧ i.toNatClampNeg = j := by
  subst hi; exact ⟨vp_in_nI hj hn, nI_clamp (Nat.lt_trans hj hn)⟩
theorem wK_t {k : Nat} {q : ClassId × FieldType} (hK : va_K D vwCl (wty cA) s) (h : (wty cA)[k]? = some q) : ArrOfT s q.1 q.2 ∧ va_RA s q.1 q.2 := hK.2 k q h
theorem walI (hexec : p.tables.exec = Jvm.exec) (hb : c.code = cc) {q n j : Nat} {i : Int32} (hK : va_K D vwCl (wty cA) s) (hW : WS D cA sh ad A H0 M H locs) (hq : sh q = some (.inr (0, n))) (hi : i = nI j) (hj : j < n) (hn : n < 2 ^ 31) (hdg : decode cc pc = .ok (.iaload, 1))
    (kk : ∀ x : Int32, x = gI M q j → W p l e R s m args below meth c H locs cells slots Q (F0 m (pc + 1) ls (.int x :: rest))) : W p l e R s m args below meth c H locs cells slots Q (F0 m pc ls (.int i :: .ref (ad q) :: rest)) := by
  obtain ⟨h1, h2⟩ := in_nI hi hj hn
  refine va_iald (ws := [(ad q, .inl (cA 0, n, .inl (gI M q)))]) hexec hb hK (fun k z hz => ?_) 0 0 rfl rfl h1 hdg (kk _ (by rw [h2]))
  have hz0 : k = 0 := by have := (List.getElem?_eq_some_iff.mp hz).1; simp at this; exact this
  subst hz0; cases hz
  exact hW.1.1 q _ hq
theorem walZ (hexec : p.tables.exec = Jvm.exec) (hb : c.code = cc) {q n j : Nat} {i : Int32} (hK : va_K D vwCl (wty cA) s) (hW : WS D cA sh ad A H0 M H locs) (hq : sh q = some (.inr (1, n))) (hi : i = nI j) (hj : j < n) (hn : n < 2 ^ 31) (hdg : decode cc pc = .ok (.baload, 1))
    (kk : ∀ x : Int32, x = gI M q j → W p l e R s m args below meth c H locs cells slots Q (F0 m (pc + 1) ls (.int x :: rest))) : W p l e R s m args below meth c H locs cells slots Q (F0 m pc ls (.int i :: .ref (ad q) :: rest)) := by
  obtain ⟨h1, h2⟩ := in_nI hi hj hn
  refine va_zald (ws := [(ad q, .inl (cA 1, n, .inl (gI M q)))]) hexec hb hK (fun k z hz => ?_) 0 1 rfl rfl h1 hdg (kk _ (by rw [h2]))
  have hz0 : k = 0 := by have := (List.getElem?_eq_some_iff.mp hz).1; simp at this; exact this
  subst hz0; cases hz
  exact hW.1.1 q _ hq
/-- a cell of an array of references, whatever its kind -/
theorem walq (hexec : p.tables.exec = Jvm.exec) (hb : c.code = cc) {q n j t : Nat} {C : String} {f : Nat → Option Nat} {i : Int32} {v : Value} (hK : va_K D vwCl (wty cA) s) (hW : WS D cA sh ad A H0 M H locs) (hq : sh q = some (.inr (t, n))) (ht : (wty cA)[ta t]? = some (cA (ta t), .object C)) (hf : av ad M q t = .inr (.inr (.inr (.inr f)))) (hv : va_rf (f j) = v) (hi : i = nI j) (hj : j < n) (hn : n < 2 ^ 31) (hdg : decode cc pc = .ok (.aaload, 1))
    (kk : W p l e R s m args below meth c H locs cells slots Q (F0 m (pc + 1) ls (v :: rest))) : W p l e R s m args below meth c H locs cells slots Q (F0 m pc ls (.int i :: .ref (ad q) :: rest)) := by
  obtain ⟨h1, h2⟩ := in_nI hi hj hn
  refine va_aldq (ws := [(ad q, .inl (cA (ta t), n, .inr (.inr (.inr (.inr f)))))]) hexec hb hK (fun k z hz => ?_) 0 (ta t) rfl ht h1 hdg (by rw [h2, hv]; exact kk)
  have hz0 : k = 0 := by have := (List.getElem?_eq_some_iff.mp hz).1; simp at this; exact this
  subst hz0; cases hz
  show _ = _
  rw [← hf]
  exact hW.1.1 q _ hq
theorem walR (hexec : p.tables.exec = Jvm.exec) (hb : c.code = cc) {q n j : Nat} {i : Int32} {o : Option Nat} (hK : va_K D vwCl (wty cA) s) (hW : WS D cA sh ad A H0 M H locs) (hq : sh q = some (.inr (3, n))) (hv : gR M q j = o) (hi : i = nI j) (hj : j < n) (hn : n < 2 ^ 31) (hdg : decode cc pc = .ok (.aaload, 1))
    (kk : W p l e R s m args below meth c H locs cells slots Q (F0 m (pc + 1) ls (va_rf (o.map ad) :: rest))) : W p l e R s m args below meth c H locs cells slots Q (F0 m pc ls (.int i :: .ref (ad q) :: rest)) :=
  walq hexec hb (f := fun i => (gR M q i).map ad) hK hW hq rfl rfl (by rw [← hv]) hi hj hn hdg kk
theorem walK (hexec : p.tables.exec = Jvm.exec) (hb : c.code = cc) {q n j : Nat} {i : Int32} (hK : va_K D vwCl (wty cA) s) (hW : WS D cA sh ad A H0 M H locs) (hq : sh q = some (.inr (6, n))) (hi : i = nI j) (hj : j < n) (hn : n < 2 ^ 31) (hdg : decode cc pc = .ok (.aaload, 1))
    (kk : W p l e R s m args below meth c H locs cells slots Q (F0 m (pc + 1) ls (.ref (ad (40 + j)) :: rest))) : W p l e R s m args below meth c H locs cells slots Q (F0 m pc ls (.int i :: .ref (ad q) :: rest)) :=
  walq hexec hb (f := fun i => some (ad (40 + i))) hK hW hq rfl rfl rfl hi hj hn hdg kk
theorem walC (hexec : p.tables.exec = Jvm.exec) (hb : c.code = cc) {q n j : Nat} {i : Int32} (hK : va_K D vwCl (wty cA) s) (hW : WS D cA sh ad A H0 M H locs) (hq : sh q = some (.inr (7, n))) (hi : i = nI j) (hj : j < n) (hn : n < 2 ^ 31) (hdg : decode cc pc = .ok (.aaload, 1))
    (kk : W p l e R s m args below meth c H locs cells slots Q (F0 m (pc + 1) ls (.ref (ad (30 + j)) :: rest))) : W p l e R s m args below meth c H locs cells slots Q (F0 m pc ls (.int i :: .ref (ad q) :: rest)) :=
  walq hexec hb (f := fun i => some (ad (30 + i))) hK hW hq rfl rfl rfl hi hj hn hdg kk
theorem wlen (hexec : p.tables.exec = Jvm.exec) (hb : c.code = cc) {q n t : Nat} {ty : FieldType} {v : Int32} (hK : va_K D vwCl (wty cA) s) (hW : WS D cA sh ad A H0 M H locs) (hq : sh q = some (.inr (t, n))) (ht : (wty cA)[ta t]? = some (cA (ta t), ty)) (hv : Int32.ofNat n = v) (hdg : decode cc pc = .ok (.arraylength, 1))
    (kk : W p l e R s m args below meth c H locs cells slots Q (F0 m (pc + 1) ls (.int v :: rest))) : W p l e R s m args below meth c H locs cells slots Q (F0 m pc ls (.ref (ad q) :: rest)) := by
  refine va_alen (ws := [(ad q, .inl (cA (ta t), n, av ad M q t))]) hexec hb hK (fun k z hz => ?_) 0 (ta t) rfl ht hv hdg kk
  have hz0 : k = 0 := by have := (List.getElem?_eq_some_iff.mp hz).1; simp at this; exact this
  subst hz0; cases hz
  exact hW.1.1 q _ hq
theorem cellI (cI : ClassId) (n : Nat) (g : Nat → Int32) (j : Nat) (x : Int32) (g' : Nat → Int32) (h : ∀ i, g' i = if i = j then x else g i) : (vp_cell cI (n, .inl g)).setSlot j (.int x) = vp_cell cI (n, .inl g') := by
  rw [vp_cell_i, vp_cell_i, arrV_store]
  congr 1
  funext i
  rw [h i]
  by_cases hi : i = j
  · subst hi; simp [updV]
  · simp [updV, hi]
theorem wasI (hexec : p.tables.exec = Jvm.exec) (hb : c.code = cc) {q n j : Nat} {i x : Int32} (hK : va_K D vwCl (wty cA) s) (hA : PA sh ad A H0) (hW : WS D cA sh ad A H0 M H locs) (hq : sh q = some (.inr (0, n))) (hi : i = nI j) (hj : j < n) (hn : n < 2 ^ 31) (hdg : decode cc pc = .ok (.iastore, 1))
    (kk : ∀ (M' : MS) (H1 : Heap) (locs1 : List Loc), M' = sI M q j x → WS D cA sh ad A H0 M' H1 locs1 → W p l e R s m args below meth c H1 locs1 cells slots Q (F0 m (pc + 1) ls rest)) : W p l e R s m args below meth c H locs cells slots Q (F0 m pc ls (.int x :: .int i :: .ref (ad q) :: rest)) := by
  obtain ⟨h1, h2⟩ := in_nI hi hj hn
  have hc : H[ad q]? = some (vp_cell (cA 0) (n, .inl (gI M q))) := hW.1.1 q _ hq
  refine W.iast hexec hb hc ((hK.2 0 _ rfl).1 n (fun j => .int (gI M q j))) (fun q => by cases q) (by show ¬ (i < 0 ∨ (arrV _ _ _).slots.size ≤ _); rw [arrV_size]; exact h1) rfl rfl hdg fun H1 e z oq => ?_
  refine kk (sI M q j x) H1 _ rfl (hW.put hA hq ?_ (fun p hp => eqAt_sI hp) z oq)
  show H1[ad q]? = some (vp_cell _ _)
  rw [e, h2]
  exact congrArg some (cellI _ n _ j x _ (fun i => by rw [gI_sI]; by_cases hi : i = j <;> simp [hi]))
theorem wasZ (hexec : p.tables.exec = Jvm.exec) (hb : c.code = cc) {q n j : Nat} {i x : Int32} (hK : va_K D vwCl (wty cA) s) (hA : PA sh ad A H0) (hW : WS D cA sh ad A H0 M H locs) (hq : sh q = some (.inr (1, n))) (hz : narrow .boolean (.int x) = .int x) (hi : i = nI j) (hj : j < n) (hn : n < 2 ^ 31) (hdg : decode cc pc = .ok (.bastore, 1))
    (kk : ∀ (M' : MS) (H1 : Heap) (locs1 : List Loc), M' = sI M q j x → WS D cA sh ad A H0 M' H1 locs1 → W p l e R s m args below meth c H1 locs1 cells slots Q (F0 m (pc + 1) ls rest)) : W p l e R s m args below meth c H locs cells slots Q (F0 m pc ls (.int x :: .int i :: .ref (ad q) :: rest)) := by
  obtain ⟨h1, h2⟩ := in_nI hi hj hn
  have hc : H[ad q]? = some (vp_cell (cA 1) (n, .inl (gI M q))) := hW.1.1 q _ hq
  refine W.zast hexec hb hc ((hK.2 1 _ rfl).1 n (fun j => .int (gI M q j))) (fun q => by cases q) (by show ¬ (i < 0 ∨ (arrV _ _ _).slots.size ≤ _); rw [arrV_size]; exact h1) rfl rfl hdg fun H1 e z oq => ?_
  refine kk (sI M q j x) H1 _ rfl (hW.put hA hq ?_ (fun p hp => eqAt_sI hp) z oq)
  show H1[ad q]? = some (vp_cell _ _)
  rw [e, h2, hz]
  exact congrArg some (cellI _ n _ j x _ (fun i => by rw [gI_sI]; by_cases hi : i = j <;> simp [hi]))
theorem cellR (cI : ClassId) (n : Nat) (ad : Nat → Nat) (M : MS) (q j : Nat) (o : Option Nat) (v : Value) (hv : va_rf (o.map ad) = v) : (vp_cell cI (n, .inr (.inr (.inr (.inr (fun i => (gR M q i).map ad)))))).setSlot j v = vp_cell cI (n, .inr (.inr (.inr (.inr (fun i => (gR (sR M q j o) q i).map ad))))) := by
  rw [vp_cell_q, vp_cell_q, arrV_store]
  congr 1
  funext i
  rw [gR_sR]
  by_cases hi : i = j
  · subst hi; simp [updV, hv]
  · simp [updV, hi]
/-- a cue into an array of cues -/
theorem wasR (hexec : p.tables.exec = Jvm.exec) (hb : c.code = cc) {q n j t ci ta0 : Nat} {r : vw_C} {ks : List Nat} {i : Int32} (hK : va_K D vwCl (wty cA) s) (hA : PA sh ad A H0) (hW : WS D cA sh ad A H0 M H locs) (hq : sh q = some (.inr (ta0, n))) (hta : 3 ≤ ta0 ∧ ta0 ≤ 5) (hty : (wty cA)[ta0]? = some (cA ta0, .object r.1)) (hc : vwCl[ci]? = some r) (ht : sh t = some (.inl (ci, ks))) (hi : i = nI j) (hj : j < n) (hn : n < 2 ^ 31) (hdg : decode cc pc = .ok (.aastore, 1))
    (kk : ∀ (M' : MS) (H1 : Heap) (locs1 : List Loc), M' = sR M q j (some t) → WS D cA sh ad A H0 M' H1 locs1 → W p l e R s m args below meth c H1 locs1 cells slots Q (F0 m (pc + 1) ls rest)) : W p l e R s m args below meth c H locs cells slots Q (F0 m pc ls (.ref (ad t) :: .int i :: .ref (ad q) :: rest)) := by
  obtain ⟨h1, h2⟩ := in_nI hi hj hn
  have h0 : ¬ i < 0 := fun q => h1 (Or.inl q)
  have hav : ∀ M0 : MS, av ad M0 q ta0 = .inr (.inr (.inr (.inr (fun i => (gR M0 q i).map ad)))) := fun M0 => by
    unfold av; rw [if_neg (by omega), if_neg (by omega), if_pos hta.2]
  have htt : ta ta0 = ta0 := by unfold ta; rw [if_neg (by omega), if_neg (by omega)]
  have hcell : H[ad q]? = some (vp_cell (cA ta0) (n, .inr (.inr (.inr (.inr (fun i => (gR M q i).map ad)))))) := by
    have := hW.1.1 q _ hq
    show H[ad q]? = _
    rw [← hav M]
    have e2 : H[ad q]? = some (vp_cell (cA (ta ta0)) (n, av ad M q ta0)) := this
    rw [htt] at e2; exact e2
  obtain ⟨r', hr', cellV, g1, g2, g3, -⟩ := hW.1.1 t _ ht
  have hcls := (hK.1 ci r hc).2
  obtain ⟨kA, comp, k1, k2, k3, -⟩ := (hK.2 ta0 _ hty).2
  have hcomp : comp = D.1 ci := Option.some.inj (k3.symm.trans hcls.1)
  subst hcomp
  obtain ⟨kC, hkC, -⟩ := hcls.2
  refine W.aast hexec hb hcell (fun q h => by cases h) (fun h => by cases h) k1 k2 rfl hkC ⟨h0, by show _ < (arrV _ _ _).slots.size; rw [arrV_size, h2]; exact hj⟩ g1 (fun q h => by rw [g3] at h; cases h) (by rw [g2]; exact hkC) (by rw [g2]; exact va_assign hcls) rfl rfl hdg fun H1 e z oq => ?_
  refine kk (sR M q j (some t)) H1 _ rfl (hW.put hA hq ?_ (fun p hp => eqAt_sR hp) z oq)
  show H1[ad q]? = some (vp_cell _ (_, av ad _ q ta0))
  rw [e, h2, hav, htt]
  exact congrArg some (cellR _ n ad M q j _ _ rfl)
theorem wasN (hexec : p.tables.exec = Jvm.exec) (hb : c.code = cc) {q n j : Nat} {i : Int32} (hK : va_K D vwCl (wty cA) s) (hA : PA sh ad A H0) (hW : WS D cA sh ad A H0 M H locs) (hq : sh q = some (.inr (3, n))) (hi : i = nI j) (hj : j < n) (hn : n < 2 ^ 31) (hdg : decode cc pc = .ok (.aastore, 1))
    (kk : ∀ (M' : MS) (H1 : Heap) (locs1 : List Loc), M' = sR M q j none → WS D cA sh ad A H0 M' H1 locs1 → W p l e R s m args below meth c H1 locs1 cells slots Q (F0 m (pc + 1) ls rest)) : W p l e R s m args below meth c H locs cells slots Q (F0 m pc ls (.null :: .int i :: .ref (ad q) :: rest)) := by
  obtain ⟨h1, h2⟩ := in_nI hi hj hn
  have hcell : H[ad q]? = some (vp_cell (cA 3) (n, .inr (.inr (.inr (.inr (fun i => (gR M q i).map ad)))))) := hW.1.1 q _ hq
  refine va_WaastN (C := "MortarShow$Cue") hexec hb hcell ((hK.2 3 _ rfl).1 n (fun j => va_rf ((gR M q j).map ad))) (fun h => by cases h) (by show ¬ (i < 0 ∨ (arrV _ _ _).slots.size ≤ _); rw [arrV_size]; exact h1) rfl rfl hdg fun H1 e z oq => ?_
  refine kk (sR M q j none) H1 _ rfl (hW.put hA hq ?_ (fun p hp => eqAt_sR hp) z oq)
  show H1[ad q]? = some (vp_cell _ _)
  rw [e, h2]
  exact congrArg some (cellR _ n ad M q j _ _ rfl)
end WR2
section WR3
variable {p : Program} {l : Launch} {e : Env} {R : Room} {s : State} {m : MethodId} {args : Array Value} {below : List Frame} {meth : Method} {c : Code} {H : Heap} {locs : List Loc} {cells slots : Nat} {Q : State → Prop}
variable {cc : ByteArray} {pc : Nat} {ls : Array Slot} {rest : List Value} {D : va_G} {cA : Nat → ClassId} {sh : Nat → Option Sh} {ad : Nat → Nat} {A : Nat → Prop} {H0 : Heap} {M : MS}
theorem walRs (hexec : p.tables.exec = Jvm.exec) (hb : c.code = cc) {q n j t : Nat} {i : Int32} (hK : va_K D vwCl (wty cA) s) (hW : WS D cA sh ad A H0 M H locs) (hq : sh q = some (.inr (3, n))) (hv : gR M q j = some t) (hi : i = nI j) (hj : j < n) (hn : n < 2 ^ 31) (hdg : decode cc pc = .ok (.aaload, 1))
    (kk : W p l e R s m args below meth c H locs cells slots Q (F0 m (pc + 1) ls (.ref (ad t) :: rest))) : W p l e R s m args below meth c H locs cells slots Q (F0 m pc ls (.int i :: .ref (ad q) :: rest)) :=
  walR hexec hb hK hW hq hv hi hj hn hdg kk
theorem walRn (hexec : p.tables.exec = Jvm.exec) (hb : c.code = cc) {q n j : Nat} {i : Int32} (hK : va_K D vwCl (wty cA) s) (hW : WS D cA sh ad A H0 M H locs) (hq : sh q = some (.inr (3, n))) (hv : gR M q j = none) (hi : i = nI j) (hj : j < n) (hn : n < 2 ^ 31) (hdg : decode cc pc = .ok (.aaload, 1))
    (kk : W p l e R s m args below meth c H locs cells slots Q (F0 m (pc + 1) ls (.null :: rest))) : W p l e R s m args below meth c H locs cells slots Q (F0 m pc ls (.int i :: .ref (ad q) :: rest)) :=
  walR hexec hb hK hW hq hv hi hj hn hdg kk
end WR3
theorem nlit (n : Nat) : (OfNat.ofNat n : Int32) = nI n := rfl
theorem kc_lt {x y : Int32} {a b : Nat} (hx : x = nI a) (hy : y = nI b) (ha : a < 2 ^ 31) (hb : b < 2 ^ 31) (h : x < y) : a < b := (nI_ltI ha hb).mp (hx ▸ hy ▸ h)
theorem kc_ltn {x y : Int32} {a b : Nat} (hx : x = nI a) (hy : y = nI b) (ha : a < 2 ^ 31) (hb : b < 2 ^ 31) (h : ¬ x < y) : ¬ a < b := fun q => h (hx ▸ hy ▸ (nI_ltI ha hb).mpr q)
theorem kc_gt {x y : Int32} {a b : Nat} (hx : x = nI a) (hy : y = nI b) (ha : a < 2 ^ 31) (hb : b < 2 ^ 31) (h : y < x) : b < a := kc_lt hy hx hb ha h
theorem kc_gtn {x y : Int32} {a b : Nat} (hx : x = nI a) (hy : y = nI b) (ha : a < 2 ^ 31) (hb : b < 2 ^ 31) (h : ¬ y < x) : ¬ b < a := kc_ltn hy hx hb ha h
theorem kc_le {x y : Int32} {a b : Nat} (hx : x = nI a) (hy : y = nI b) (ha : a < 2 ^ 31) (hb : b < 2 ^ 31) (h : x ≤ y) : a ≤ b := (nI_leI ha hb).mp (hx ▸ hy ▸ h)
theorem kc_len {x y : Int32} {a b : Nat} (hx : x = nI a) (hy : y = nI b) (ha : a < 2 ^ 31) (hb : b < 2 ^ 31) (h : ¬ x ≤ y) : ¬ a ≤ b := fun q => h (hx ▸ hy ▸ (nI_leI ha hb).mpr q)
theorem kc_ge {x y : Int32} {a b : Nat} (hx : x = nI a) (hy : y = nI b) (ha : a < 2 ^ 31) (hb : b < 2 ^ 31) (h : y ≤ x) : b ≤ a := kc_le hy hx hb ha h
theorem kc_gen {x y : Int32} {a b : Nat} (hx : x = nI a) (hy : y = nI b) (ha : a < 2 ^ 31) (hb : b < 2 ^ 31) (h : ¬ y ≤ x) : ¬ b ≤ a := kc_len hy hx hb ha h
theorem kc_eq {x y : Int32} {a b : Nat} (hx : x = nI a) (hy : y = nI b) (ha : a < 2 ^ 31) (hb : b < 2 ^ 31) (h : x = y) : a = b := (nI_eq ha hb).mp (hx ▸ hy ▸ h)
theorem kc_eqn {x y : Int32} {a b : Nat} (hx : x = nI a) (hy : y = nI b) (ha : a < 2 ^ 31) (hb : b < 2 ^ 31) (h : ¬ x = y) : ¬ a = b := fun q => h (by rw [hx, hy, q])
theorem kc_ne {x y : Int32} {a b : Nat} (hx : x = nI a) (hy : y = nI b) (ha : a < 2 ^ 31) (hb : b < 2 ^ 31) (h : ¬ x = y) : ¬ a = b := kc_eqn hx hy ha hb h
theorem kc_nen {x y : Int32} {a b : Nat} (hx : x = nI a) (hy : y = nI b) (ha : a < 2 ^ 31) (hb : b < 2 ^ 31) (h : x = y) : a = b := kc_eq hx hy ha hb h

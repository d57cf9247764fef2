/-! What is made. -/
def adU (ad : Nat → Nat) (q n : Nat) : Nat → Nat := fun t => if t = q then n else ad t
theorem adU_q (ad : Nat → Nat) (q n : Nat) : adU ad q n q = n := if_pos rfl
theorem adU_ne (ad : Nat → Nat) {q n t : Nat} (h : t ≠ q) : adU ad q n t = ad t := if_neg h
theorem ne_none {α : Type} {o : Option α} {x : α} (h : o = some x) : o ≠ none := by rw [h]; exact fun z => by cases z
/-- closed: what is named is known, and what is unknown is zero -/
def CZ (sh : Nat → Option Sh) (M : MS) : Prop := (∀ p x t, sh p = some x → frf x t → sh t ≠ none) ∧ (∀ p k t, gR M p k = some t → sh t ≠ none) ∧ ∀ p, sh p = none → ∀ k, gI M p k = 0 ∧ gL M p k = 0 ∧ gR M p k = none
theorem CZ.I {sh : Nat → Option Sh} {M : MS} {q k : Nat} {v : Int32} (h : CZ sh M) (hq : sh q ≠ none) : CZ sh (sI M q k v) := by
  refine ⟨h.1, h.2.1, fun p hp j => ?_⟩
  have hne : ¬ (p = q ∧ j = k) := fun e => hq (by rw [← e.1]; exact hp)
  rw [gI_sI, if_neg hne]; exact h.2.2 p hp j
theorem CZ.L {sh : Nat → Option Sh} {M : MS} {q k : Nat} {v : Int64} (h : CZ sh M) (hq : sh q ≠ none) : CZ sh (sL M q k v) := by
  refine ⟨h.1, h.2.1, fun p hp j => ?_⟩
  have hne : ¬ (p = q ∧ j = k) := fun e => hq (by rw [← e.1]; exact hp)
  rw [gL_sL, if_neg hne]; exact h.2.2 p hp j
theorem CZ.R {sh : Nat → Option Sh} {M : MS} {q k t : Nat} (h : CZ sh M) (hq : sh q ≠ none) (ht : sh t ≠ none) : CZ sh (sR M q k (some t)) := by
  refine ⟨h.1, fun p j t1 h1 => ?_, fun p hp j => ?_⟩
  · rw [gR_sR] at h1
    by_cases e : p = q ∧ j = k
    · rw [if_pos e] at h1; cases h1; exact ht
    · rw [if_neg e] at h1; exact h.2.1 p j t1 h1
  · have hne : ¬ (p = q ∧ j = k) := fun e => hq (by rw [← e.1]; exact hp)
    rw [gR_sR, if_neg hne]; exact h.2.2 p hp j
theorem CZ.oI {sh : Nat → Option Sh} {M M' : MS} {S : Nat → Nat → Prop} (h : CZ sh M) (o : oI S M M') (hs : ∀ p k, S p k → sh p ≠ none) : CZ sh M' :=
  ⟨h.1, fun p k t ht => h.2.1 p k t (by rw [← o.rg p k]; exact ht), fun p hp k => ⟨by rw [o.1 p k (fun z => hs p k z hp)]; exact (h.2.2 p hp k).1, by rw [o.lg, o.rg]; exact (h.2.2 p hp k).2⟩⟩
theorem CZ.sh {sh : Nat → Option Sh} {M : MS} {q : Nat} {x : Sh} (h : CZ sh M) (hx : ∀ t, frf x t → sh t ≠ none) : CZ (shU sh q x) M := by
  have up : ∀ t, sh t ≠ none → shU sh q x t ≠ none := fun t ht => by
    by_cases e : t = q
    · rw [e, shU_eq]; exact fun z => by cases z
    · rw [shU_ne e]; exact ht
  refine ⟨fun p y t hy ht => ?_, fun p k t ht => up t (h.2.1 p k t ht), fun p hp => ?_⟩
  · by_cases e : p = q
    · rw [e, shU_eq] at hy; cases hy; exact up t (hx t ht)
    · rw [shU_ne e] at hy; exact up t (h.1 p y t hy ht)
  · by_cases e : p = q
    · rw [e, shU_eq] at hp; cases hp
    · rw [shU_ne e] at hp; exact h.2.2 p hp
/-- the world has grown -/
def GR (sh0 : Nat → Option Sh) (ad0 : Nat → Nat) (sz : Nat) (sh : Nat → Option Sh) (ad : Nat → Nat) : Prop := (∀ t, sh0 t ≠ none → sh t ≠ none ∧ ad t = ad0 t) ∧ ∀ p, sh p ≠ none → sh0 p = none → sz ≤ ad p
theorem GR.rf {sh : Nat → Option Sh} {ad : Nat → Nat} {sz : Nat} : GR sh ad sz sh ad := ⟨fun t h => ⟨h, rfl⟩, fun p h1 h2 => absurd h2 h1⟩
theorem GR.trans {sh0 sh sh1 : Nat → Option Sh} {ad0 ad ad1 : Nat → Nat} {sz : Nat} (h : GR sh0 ad0 sz sh ad) (h2 : GR sh ad sz sh1 ad1) : GR sh0 ad0 sz sh1 ad1 := by
  refine ⟨fun t ht => ⟨(h2.1 t (h.1 t ht).1).1, ((h2.1 t (h.1 t ht).1).2).trans (h.1 t ht).2⟩, fun p hp h0 => ?_⟩
  by_cases e : sh p = none
  · exact h2.2 p hp e
  · rw [(h2.1 p e).2]; exact h.2 p e h0
theorem GR.new {sh0 sh sh1 : Nat → Option Sh} {ad0 ad ad1 : Nat → Nat} {sz q : Nat} {x : Sh} (h : GR sh0 ad0 sz sh ad) (hq : sh q = none) (es : sh1 = shU sh q x) (hk : ∀ t, t ≠ q → ad1 t = ad t) (hge : sz ≤ ad1 q) : GR sh0 ad0 sz sh1 ad1 := by
  subst es
  refine ⟨fun t ht => ?_, fun p hp h0 => ?_⟩
  · have hne : t ≠ q := fun e => (h.1 t ht).1 (by rw [e]; exact hq)
    rw [shU_ne hne, hk t hne]; exact h.1 t ht
  · by_cases e : p = q
    · rw [e]; exact hge
    · rw [shU_ne e] at hp
      rw [hk p e]; exact h.2 p hp h0
theorem GR.upd {sh0 sh : Nat → Option Sh} {ad0 ad : Nat → Nat} {sz : Nat} {sh1 : Nat → Option Sh} (h : GR sh0 ad0 sz sh ad) (e : ∀ p, sh1 p = none ↔ sh p = none) : GR sh0 ad0 sz sh1 ad :=
  ⟨fun t ht => ⟨fun z => (h.1 t ht).1 ((e t).mp z), (h.1 t ht).2⟩, fun p hp h0 => h.2 p (fun z => hp ((e p).mpr z)) h0⟩
theorem PA.gr {sh sh1 : Nat → Option Sh} {ad ad1 : Nat → Nat} {A : Nat → Prop} {H0 : Heap} (hA : PA sh ad A H0) (hG : GR sh ad H0.size sh1 ad1) : PA sh1 ad1 A H0 := by
  refine ⟨fun p x hx => ?_, hA.2⟩
  cases h : sh p with
  | none => exact hA.2 _ (hG.2 p (ne_none hx) h)
  | some y => rw [(hG.1 p (ne_none h)).2]; exact hA.1 p y h
/-- another shape for what a cell holds -/
theorem shU_none {sh : Nat → Option Sh} {q : Nat} {x : Sh} (hq : sh q ≠ none) : ∀ p, shU sh q x p = none ↔ sh p = none := fun p => by
  by_cases e : p = q
  · rw [e, shU_eq]; exact ⟨fun z => (by cases z), fun z => absurd z hq⟩
  · rw [shU_ne e]
theorem WM.upd {D : va_G} {cA : Nat → ClassId} {sh : Nat → Option Sh} {ad : Nat → Nat} {M : MS} {H : Heap} {q : Nat} {y : Sh} (h : WM D cA sh ad M H) (hq : sh q ≠ none) (hy : wat D cA ad M H q y) : WM D cA (shU sh q y) ad M H := by
  have old : ∀ p, shU sh q y p ≠ none → sh p ≠ none := fun p hp z => hp ((shU_none hq p).mpr z)
  refine ⟨fun p x hx => ?_, fun p p' x x' hx hx' e => ?_⟩
  · by_cases e : p = q
    · rw [e, shU_eq] at hx; cases hx; rw [e]; exact hy
    · rw [shU_ne e] at hx; exact h.1 p x hx
  · cases h1 : sh p with
    | none => exact absurd h1 (old p (ne_none hx))
    | some z => cases h2 : sh p' with
      | none => exact absurd h2 (old p' (ne_none hx'))
      | some z' => exact h.2 p p' z z' h1 h2 e
theorem wat.slots {D : va_G} {cA : Nat → ClassId} {ad : Nat → Nat} {M : MS} {H : Heap} {q ci : Nat} {ks ks' : List Nat} (h : wat D cA ad M H q (.inl (ci, ks))) (e : ∀ k, ks'.getD k 0 = ks.getD k 0 ∨ (ks.getD k 0 = 2 ∧ ∃ t, gR M q k = some t ∧ ks'.getD k 0 = t + 3)) : wat D cA ad M H q (.inl (ci, ks')) := by
  obtain ⟨r, h1, h2⟩ := h
  refine ⟨r, h1, h2.to (fun k _ => ?_)⟩
  show fv ad M q k (ks.getD k 0) = fv ad M q k (ks'.getD k 0)
  rcases e k with z | ⟨z1, t, z2, z3⟩
  · rw [z]
  · rw [z1, z3, fv_R z2]; rfl
theorem wat.refs {D : va_G} {cA : Nat → ClassId} {ad : Nat → Nat} {M : MS} {H : Heap} {q n t b : Nat} (ht : (t = 4 ∧ b = 40) ∨ (t = 5 ∧ b = 30)) (h : wat D cA ad M H q (.inr (t, n))) (e : ∀ i, i < n → gR M q i = some (b + i)) : wat D cA ad M H q (.inr (t + 2, n)) := by
  have h1 : H[ad q]? = some (vp_cell (cA (ta t)) (n, av ad M q t)) := h
  show H[ad q]? = some (vp_cell (cA (ta (t + 2))) (n, av ad M q (t + 2)))
  rw [h1]
  rcases ht with ⟨z1, z2⟩ | ⟨z1, z2⟩ <;> subst z1 <;> subst z2
  · show some (vp_cell (cA 4) (n, .inr (.inr (.inr (.inr (fun i => (gR M q i).map ad)))))) = some (vp_cell (cA 4) (n, .inr (.inr (.inr (.inr (fun i => some (ad (40 + i))))))))
    rw [vp_cell_q, vp_cell_q]
    exact congrArg some (arrV_congr (fun j hj => by rw [e j hj]; rfl))
  · show some (vp_cell (cA 5) (n, .inr (.inr (.inr (.inr (fun i => (gR M q i).map ad)))))) = some (vp_cell (cA 5) (n, .inr (.inr (.inr (.inr (fun i => some (ad (30 + i))))))))
    rw [vp_cell_q, vp_cell_q]
    exact congrArg some (arrV_congr (fun j hj => by rw [e j hj]; rfl))
theorem WM.newZ {D : va_G} {cA : Nat → ClassId} {sh : Nat → Option Sh} {ad : Nat → Nat} {M : MS} {H H1 : Heap} {q : Nat} {x : Sh} (h : WM D cA sh ad M H) (hq : sh q = none) (hC : CZ sh M) (ho : ∀ a, a < H.size → H1[a]? = H[a]?) (hx : wat D cA (adU ad q H.size) M H1 q x) : WM D cA (shU sh q x) (adU ad q H.size) M H1 := by
  have hne : ∀ t, sh t ≠ none → t ≠ q := fun t ht e => ht (by rw [e]; exact hq)
  refine h.newG hq ho (fun p y hy => ⟨adU_ne ad (hne p (ne_none hy)), fre_of (fun _ => rfl) (fun _ => rfl) (fun k => ?_) (fun t ht => adU_ne ad (hne t (hC.1 p y t hy ht)))⟩) (adU_q ad q _) hx
  cases hg : gR M p k with
  | none => rfl
  | some t => exact congrArg some (adU_ne ad (hne t (hC.2.1 p k t hg)))
/-- what the tables say of constructors of nest mates, and of arrays of references -/
def nsts : List (String × Nat × MethodName × String) := [(RX9, 9, yX4_init, RX9), (RX9, 30, yX8_init, RX9), (RX9, 37, yX3_init, RX9), (RX9, 50, yX0_init, RX9), (RX9, 57, yX1_init, RX9), (RX9, 86, yX7_init, RX9), (RX3, 9, yX5_init, RX9), (RX6, 17, yX5_init, RX9)]
def INs (U : State) : Prop := (∀ w ∈ nsts, va_Nw (.methodLinkNest w.1 w.2.1 w.2.2.1 w.2.2.2) U) ∧ ∀ C ∈ [RX2, RX6, RX7], va_AO C U
theorem INs.warm {s U : State} (hW : s.WarmedH U.vm) (h : INs s) : INs U := ⟨fun w hw => va_Nw.warmM hW (h.1 w hw), fun C hC => (h.2 C hC).moved hW.alike⟩
def cPc (D : va_G) (cA : Nat → ClassId) (sh : Nat → Option Sh) (ad : Nat → Nat) (M : MS) (sz : Nat) (av : List Value) : Array Value → State → Prop := va_Pc av (fun U => U.heap.size = sz ∧ WM D cA sh ad M U.heap ∧ va_K D vwCl (wty cA) U ∧ INs U)
def cQv (D : va_G) (cA : Nat → ClassId) (sh : Nat → Option Sh) (ad : Nat → Nat) (sz : Nat) (sh2 : Nat → Option Sh) (post : MS → Prop) (A : Nat → Prop) : Array Value → State → Outcome → State → Prop :=
  va_Qv (S := (Nat → Nat) × MS) (fun u => GR sh ad sz sh2 u.1 ∧ CZ sh2 u.2 ∧ post u.2) (fun u t => WM D cA sh2 u.1 u.2 t.heap) A
theorem cPc_blind {D : va_G} {cA : Nat → ClassId} {sh : Nat → Option Sh} {ad : Nat → Nat} {M : MS} {sz : Nat} {av : List Value} : FrameBlind (cPc D cA sh ad M sz av) := fun a U g mk q => by
  obtain ⟨q0, q1, qP, qK, qN⟩ := q
  exact ⟨q0, q1, qP, va_K.moved (u := U) (U := U.calling g mk a) (Vm.Alike.refl U.vm) qK, INs.warm (U := U.calling g mk a) (State.WarmedH.refl U) qN⟩
section WZ
variable {p : Program} {l : Launch} {e : Env} {R : Room} {s : State} {m : MethodId} {args : Array Value} {below : List Frame} {meth : Method} {c : Code} {H : Heap} {locs : List Loc} {cells slots : Nat} {Q : State → Prop}
variable {cc : ByteArray} {pc : Nat} {ls : Array Slot} {st0 rest : List Value} {D : va_G} {cA : Nat → ClassId} {sh : Nat → Option Sh} {ad : Nat → Nat} {A : Nat → Prop} {H0 : Heap} {M : MS} {a : Array Value} {As : List Value}
theorem W.eqn {c9' n9' : Nat} {g : JFrame} (h1 : cells = c9') (h2 : slots = n9') (k : W p l e R s m args below meth c H locs c9' n9' Q g) : W p l e R s m args below meth c H locs cells slots Q g := by subst h1; subst h2; exact k
theorem cpreS (hK : va_K D vwCl (wty cA) s) (hW : WS D cA sh ad A H0 M H locs) (hN : INs s) : PreS s H (cPc D cA sh ad M H.size As) As :=
  ⟨cPc_blind, fun U hU hv => ⟨rfl, by rw [hU], by rw [hU]; exact hW.1, va_K.moved hv.alike hK, hN.warm hv⟩⟩
theorem wc_cv {post : MS → Prop} {sh2 : Nat → Option Sh} {mc1 ms1 : Nat} (hr : va_Run p l e R s m args below meth c H locs cells slots mc1 ms1 (F0 m pc ls st0) rest (cQv D cA sh ad H.size sh2 post (wA sh ad H.size) a) (wA sh ad H.size)) (hA : PA sh ad A H0) (hW : WS D cA sh ad A H0 M H locs)
    (kk : ∀ (sh1 : Nat → Option Sh) (ad1 : Nat → Nat) (M1' : MS) (H1 : Heap) (locs1 : List Loc), sh1 = sh2 → GR sh ad H0.size sh1 ad1 → CZ sh1 M1' → post M1' → PA sh1 ad1 A H0 → WS D cA sh1 ad1 A H0 M1' H1 locs1 → W p l e R s m args below meth c H1 locs1 (cells + mc1) (slots + ms1) Q (F0 m (pc + 3) ls rest)) : W p l e R s m args below meth c H locs cells slots Q (F0 m pc ls st0) :=
  va_callv hr hW.2 (fun q _ h => wA_in hA hW.2.1 q h) (fun q h => wA_in hA hW.2.1 q h) (fun u t H1 locs1 ht _ hp hB _ _ hS => by
    have hG : GR sh ad H0.size sh2 u.1 := ⟨hp.1.1, fun p h1 h2 => Nat.le_trans hW.2.1 (hp.1.2 p h1 h2)⟩
    exact kk sh2 u.1 u.2 H1 locs1 rfl hG hp.2.1 hp.2.2 (hA.gr hG) ⟨ht ▸ hB, hS⟩)
theorem wr_cv {post : MS → Prop} {sh0 sh2 : Nat → Option Sh} {ad0 : Nat → Nat} (hexec : p.tables.exec = Jvm.exec) (hb : c.code = cc) (hr : meth.sig.returnType = none) (hlocks : meth.locks = false) (hW : WS D cA sh ad A s.heap M H locs) (hdg : decode cc pc = .ok (.return_, 1)) (hG : GR sh0 ad0 s.heap.size sh ad) (hC : CZ sh M) (es : sh = sh2) (hp : post M) :
    W p l e R s m args below meth c H locs cells slots (MQ below (cQv D cA sh0 ad0 s.heap.size sh2 post A) args s cells slots A) (F0 m pc ls []) := by
  subst es
  exact W.vret hexec hb hr (fun t ht _ => ⟨⟨(ad, M), rfl, ⟨hG, hC, hp⟩, (show WM D cA sh ad M t.heap by rw [ht]; exact hW.1)⟩, hW.2.F ht⟩) hW.2.2.2 hdg hlocks
theorem WS.upd {q : Nat} {y : Sh} (hW : WS D cA sh ad A H0 M H locs) (hq : sh q ≠ none) (hy : ∀ H : Heap, WM D cA sh ad M H → wat D cA ad M H q y) : WS D cA (shU sh q y) ad A H0 M H locs := ⟨hW.1.upd hq (hy H hW.1), hW.2⟩
theorem PA.upd {q : Nat} {y : Sh} (hA : PA sh ad A H0) (hq : sh q ≠ none) : PA (shU sh q y) ad A H0 := hA.gr ⟨fun t ht => ⟨fun z => ht ((shU_none hq t).mp z), rfl⟩, fun p h1 h2 => absurd ((shU_none hq p).mpr h2) h1⟩
theorem wnewZ (hexec : p.tables.exec = Jvm.exec) (hb : c.code = cc) {own C : String} {T : u_T} {N ci index q : Nat} {ks : List Nat} {Ts : List Cond} (hts : ∀ w ∈ Ts, w.before args s = true) (hin : ∀ w ∈ u_ws C T N, w ∈ Ts) (ty : Nat → FieldType) (hty : ∀ k, k < N → parseFieldDescriptor (T k).2.2.1 = some (ty k)) (hown : s.vm.findClass own = some m.cls)
    (hcl : (Cond.classLink own index C).before args s = true) (hinst : (Cond.instantiable C N).before args s = true) (hini : (Cond.initialized C).before args s = true) (hK : va_K D vwCl (wty cA) s) (hc : vwCl[ci]? = some (C, T, N)) (hC : CZ sh M) (hq : sh q = none) (hA : PA sh ad A H0) (hW : WS D cA sh ad A H0 M H locs)
    (hz : ∀ j, j < N → defaultValue (ty j) = if ks.getD j 0 = 0 then .int 0 else if ks.getD j 0 = 1 then .long 0 else .null) (hk2 : ∀ j, j < ks.length → ks.getD j 0 ≤ 2) (hcells : cells + 1 ≤ R.cells ∧ slots + N ≤ R.slots) (hdg : decode cc pc = .ok (.new index, 3))
    (kk : ∀ (sh1 : Nat → Option Sh) (ad1 : Nat → Nat) (H1 : Heap), sh1 = shU sh q (.inl (ci, ks)) → (∀ t, t ≠ q → ad1 t = ad t) → H0.size ≤ ad1 q → CZ sh1 M → PA sh1 ad1 A H0 → WS D cA sh1 ad1 A H0 M H1 locs → W p l e R s m args below meth c H1 locs (cells + 1) (slots + N) Q (F0 m (pc + 3) ls (.ref (ad1 q) :: rest))) : W p l e R s m args below meth c H locs cells slots Q (F0 m pc ls rest) := by
  have hne : ∀ t, sh t ≠ none → t ≠ q := fun t ht e => ht (by rw [e]; exact hq)
  have hkz : ∀ j, ks.getD j 0 ≤ 2 := fun j => by
    by_cases h : j < ks.length
    · exact hk2 j h
    · rw [List.getD_eq_getElem?_getD, List.getElem?_eq_none (by omega)]; exact Nat.zero_le 2
  have hC1 : CZ (shU sh q (.inl (ci, ks))) M := hC.sh (fun t ht => by
    obtain ⟨k, hk⟩ := ht
    have h9 : ks.getD k 0 = t + 3 := hk
    have := hkz k
    omega)
  refine wnewO hexec hb hts hin ty hty hown hcl hinst hini hK hc hA hW (q := q) (ks := ks) hq (fun n => adU ad q n) M (fun n p y hy => ⟨adU_ne ad (hne p (ne_none hy)), ?_⟩) (fun n => adU_q ad q n) (fun n j hj => ?_) hcells hdg (fun n H1 h1 h2 h3 => kk _ _ H1 rfl (fun t ht => adU_ne ad ht) h2 hC1 h1 h3)
  · refine fre_of (fun _ => rfl) (fun _ => rfl) (fun k => ?_) (fun t ht => adU_ne ad (hne t (hC.1 p y t hy ht)))
    cases hg : gR M p k with
    | none => rfl
    | some t => exact congrArg some (adU_ne ad (hne t (hC.2.1 p k t hg)))
  · obtain ⟨z1, z2, z3⟩ := hC.2.2 q hq j
    rw [hz j hj]
    have h3 := hkz j
    generalize ks.getD j 0 = t at h3
    match t, h3 with
    | 0, _ => show Value.int 0 = .int (gI M q j); rw [z1]
    | 1, _ => show Value.long 0 = .long (gL M q j); rw [z2]
    | 2, _ => show Value.null = va_rf ((gR M q j).map _); rw [z3]; rfl
    | t + 3, h => exact absurd h (by omega)
theorem wnewAI (hexec : p.tables.exec = Jvm.exec) (hb : c.code = cc) {q N : Nat} {n : Int32} (harr : (Cond.arrayClass .int).before args s = true) (hK : va_K D vwCl (wty cA) s) (hC : CZ sh M) (hq : sh q = none) (hA : PA sh ad A H0) (hW : WS D cA sh ad A H0 M H locs) (hn : n = nI N) (hN : N < 2 ^ 20) (hcells : cells + 1 ≤ R.cells ∧ slots + N ≤ R.slots) (hdg : decode cc pc = .ok (.newarray .int, 2))
    (kk : ∀ (sh1 : Nat → Option Sh) (ad1 : Nat → Nat) (H1 : Heap), sh1 = shU sh q (.inr (0, N)) → (∀ t, t ≠ q → ad1 t = ad t) → H0.size ≤ ad1 q → CZ sh1 M → PA sh1 ad1 A H0 → WS D cA sh1 ad1 A H0 M H1 locs → W p l e R s m args below meth c H1 locs (cells + 1) (slots + N) Q (F0 m (pc + 2) ls (.ref (ad1 q) :: rest))) : W p l e R s m args below meth c H locs cells slots Q (F0 m pc ls (.int n :: rest)) := by
  subst hn
  refine va_newaK (atype := .int) hexec hb harr rfl hdg rfl (nI_pos (by omega)) (nI_clamp (by omega)) (by show N * 4 ≤ 536870912; omega) hcells.1 hcells.2 rfl fun H1 cA1 e1' z1 o1 hAr hNm => ?_
  have hcA : cA1 = cA 0 := Option.some.inj (hNm.symm.trans (hK.2 0 _ rfl).2)
  have hge : H0.size ≤ adU ad q H.size q := by rw [adU_q]; exact hW.2.1
  have k2' := kk (shU sh q (.inr (0, N))) (adU ad q H.size) H1 rfl (fun t ht => adU_ne ad ht) hge (hC.sh (fun t ht => by rcases ht with ⟨z, -⟩ | ⟨z, -⟩ <;> (have z2 := z; dsimp only at z2; omega))) (hA.new (fun p y hy => adU_ne ad (fun e => by rw [e, hq] at hy; cases hy)) hge)
  rw [adU_q] at k2'
  refine k2' ⟨hW.1.newZ hq hC o1 ?_, Nat.le_trans hW.2.1 (by omega), fun x h3 h4 => (o1 x (Nat.lt_of_lt_of_le h3 hW.2.1)).trans (hW.2.2.1 x h3 h4), hW.2.2.2⟩
  show H1[adU ad q H.size q]? = some (vp_cell (cA 0) (N, .inl (gI M q)))
  rw [adU_q, e1', hcA, vp_cell_i]
  exact congrArg some (arrV_congr (fun j _ => by rw [(hC.2.2 q hq j).1]; rfl))
theorem wnewAZ (hexec : p.tables.exec = Jvm.exec) (hb : c.code = cc) {q N : Nat} {n : Int32} (harr : (Cond.arrayClass .boolean).before args s = true) (hK : va_K D vwCl (wty cA) s) (hC : CZ sh M) (hq : sh q = none) (hA : PA sh ad A H0) (hW : WS D cA sh ad A H0 M H locs) (hn : n = nI N) (hN : N < 2 ^ 20) (hcells : cells + 1 ≤ R.cells ∧ slots + N ≤ R.slots) (hdg : decode cc pc = .ok (.newarray .boolean, 2))
    (kk : ∀ (sh1 : Nat → Option Sh) (ad1 : Nat → Nat) (H1 : Heap), sh1 = shU sh q (.inr (1, N)) → (∀ t, t ≠ q → ad1 t = ad t) → H0.size ≤ ad1 q → CZ sh1 M → PA sh1 ad1 A H0 → WS D cA sh1 ad1 A H0 M H1 locs → W p l e R s m args below meth c H1 locs (cells + 1) (slots + N) Q (F0 m (pc + 2) ls (.ref (ad1 q) :: rest))) : W p l e R s m args below meth c H locs cells slots Q (F0 m pc ls (.int n :: rest)) := by
  subst hn
  refine va_newaK (atype := .boolean) hexec hb harr rfl hdg rfl (nI_pos (by omega)) (nI_clamp (by omega)) (by show N * 1 ≤ 536870912; omega) hcells.1 hcells.2 rfl fun H1 cA1 e1' z1 o1 hAr hNm => ?_
  have hcA : cA1 = cA 1 := Option.some.inj (hNm.symm.trans (hK.2 1 _ rfl).2)
  have hge : H0.size ≤ adU ad q H.size q := by rw [adU_q]; exact hW.2.1
  have k2' := kk (shU sh q (.inr (1, N))) (adU ad q H.size) H1 rfl (fun t ht => adU_ne ad ht) hge (hC.sh (fun t ht => by rcases ht with ⟨z, -⟩ | ⟨z, -⟩ <;> (have z2 := z; dsimp only at z2; omega))) (hA.new (fun p y hy => adU_ne ad (fun e => by rw [e, hq] at hy; cases hy)) hge)
  rw [adU_q] at k2'
  refine k2' ⟨hW.1.newZ hq hC o1 ?_, Nat.le_trans hW.2.1 (by omega), fun x h3 h4 => (o1 x (Nat.lt_of_lt_of_le h3 hW.2.1)).trans (hW.2.2.1 x h3 h4), hW.2.2.2⟩
  show H1[adU ad q H.size q]? = some (vp_cell (cA 1) (N, .inl (gI M q)))
  rw [adU_q, e1', hcA, vp_cell_i]
  exact congrArg some (arrV_congr (fun j _ => by rw [(hC.2.2 q hq j).1]; rfl))
theorem wnewAQ (hexec : p.tables.exec = Jvm.exec) (hb : c.code = cc) {own C : String} {q N t index : Nat} {n : Int32} (hown : s.vm.findClass own = some m.cls) (hclink : (Cond.classLink own index C).before args s = true) (hover : va_AO C s) (ht : 3 ≤ t ∧ t ≤ 5) (hK : va_K D vwCl (wty cA) s) (hty : (wty cA)[t]? = some (cA t, .object C)) (hC : CZ sh M) (hq : sh q = none) (hA : PA sh ad A H0) (hW : WS D cA sh ad A H0 M H locs) (hn : n = nI N) (hN : N < 2 ^ 20) (hcells : cells + 1 ≤ R.cells ∧ slots + N ≤ R.slots) (hdg : decode cc pc = .ok (.anewarray index, 3))
    (kk : ∀ (sh1 : Nat → Option Sh) (ad1 : Nat → Nat) (H1 : Heap), sh1 = shU sh q (.inr (t, N)) → (∀ t, t ≠ q → ad1 t = ad t) → H0.size ≤ ad1 q → CZ sh1 M → PA sh1 ad1 A H0 → WS D cA sh1 ad1 A H0 M H1 locs → W p l e R s m args below meth c H1 locs (cells + 1) (slots + N) Q (F0 m (pc + 3) ls (.ref (ad1 q) :: rest))) : W p l e R s m args below meth c H locs cells slots Q (F0 m pc ls (.int n :: rest)) := by
  subst hn
  have hcl : (nI N).toNatClampNeg = N := nI_clamp (by omega)
  refine W.anew hexec hb hown hclink (va_AO.use hover) rfl hdg rfl (nI_pos (by omega)) (by rw [hcl]; omega) hcells.1 (by rw [hcl]; exact hcells.2) fun cA1 kA comp f1 f2 f3 f4 => ?_
  have hcA : cA1 = cA t := by
    obtain ⟨kA2, comp2, g1, g2, g3, g4⟩ := (hK.2 t _ hty).2
    exact Option.some.inj (f1.symm.trans g4)
  rw [hcl]
  generalize hH1 : H.push ({ cls := cA1, slots := Array.replicate N .null, vm := .none } : Cell) = H1
  have z1 : H1.size = H.size + 1 := by rw [← hH1, Array.size_push]
  have e1' : H1[H.size]? = some (arrV cA1 N (fun _ => .null)) := by rw [← hH1, Array.getElem?_push_size, ← arrV_new]
  have o1 : ∀ q : Nat, q < H.size → H1[q]? = H[q]? := fun q hq => by rw [← hH1, Array.getElem?_push, if_neg (Nat.ne_of_lt hq)]
  have hge : H0.size ≤ adU ad q H.size q := by rw [adU_q]; exact hW.2.1
  have k2' := kk (shU sh q (.inr (t, N))) (adU ad q H.size) H1 rfl (fun t ht => adU_ne ad ht) hge (hC.sh (fun t1 ht1 => by rcases ht1 with ⟨z, -⟩ | ⟨z, -⟩ <;> (have z2 := z; dsimp only at z2; omega))) (hA.new (fun p y hy => adU_ne ad (fun e => by rw [e, hq] at hy; cases hy)) hge)
  rw [adU_q] at k2'
  refine k2' ⟨hW.1.newZ hq hC o1 ?_, Nat.le_trans hW.2.1 (by omega), fun x h3 h4 => (o1 x (Nat.lt_of_lt_of_le h3 hW.2.1)).trans (hW.2.2.1 x h3 h4), hW.2.2.2⟩
  show H1[adU ad q H.size q]? = some (vp_cell (cA (ta t)) (N, av (adU ad q H.size) M q t))
  have hta : ta t = t := by unfold ta; rw [if_neg (by omega), if_neg (by omega)]
  have hav : av (adU ad q H.size) M q t = .inr (.inr (.inr (.inr (fun i => (gR M q i).map (adU ad q H.size))))) := by unfold av; rw [if_neg (by omega), if_neg (by omega), if_pos (by omega)]
  rw [adU_q, e1', hcA, hta, hav, vp_cell_q]
  exact congrArg some (arrV_congr (fun j _ => by rw [(hC.2.2 q hq j).2.2]; rfl))
end WZ
set_option maxHeartbeats 4000000 in
set_option maxRecDepth 100000 in
theorem c_X4_init (l : Launch) (D : va_G) (cA : Nat → ClassId) (sh : Nat → Option Sh) (ad : Nat → Nat) (M : MS) (sz : Nat) (q w1 w2 : Nat) (hq : sh q = some (.inl (4, [2, 2]))) (hw1 : sh w1 = none) (hw2 : sh w2 = none) (nw1w2 : w1 ≠ w2) (hC : CZ sh M) : Met l yX4_init wsX4_init ({ frames := 1, cells := 2, slots := 128, locals := 20 }) (cPc D cA sh ad M sz [.ref (ad q)]) (cQv D cA sh ad sz (shU (shU (shU (sh) w1 (.inr (0, 64))) w2 (.inr (0, 64))) q (.inl (4, [w1 + 3, w2 + 3]))) (fun M' => M' = sR (sR M q 0 (some w1)) q 1 (some w2)) (wA sh ad sz)) 2 128 (wA sh ad sz) := by
  refine Met.ofW (cc := cX4_init) (maxL := 1) (ret := none) (by decide) rfl ?_
  intro p e s m args below meth cd0 s₁ B hml hv
  obtain ⟨rfl, hsz, hM, hK, hN⟩ := hv
  have hx := B.exec
  have hb := B.bytes
  have hr := B.returns
  have hts := atoms_spec (ws := wsX4_init) B.pre
  have hown : s.vm.findClass RX4 = some m.cls := findClass_of_methodNamed B.named
  have hlocks := B.notSynchronized
  have hin : meth.name = "<init>" := (name_of_methodNamed B.named B.method).1
  subst hsz
  have hA := wA_PA sh ad s.heap
  generalize wA sh ad s.heap.size = A at hA ⊢
  have hW : WS D cA sh ad A s.heap M s.heap [] := ⟨hM, va_S.rf⟩
  obtain ⟨sh0, es0⟩ : ∃ z, z = sh := ⟨_, rfl⟩
  obtain ⟨ad0, ea0⟩ : ∃ z, z = ad := ⟨_, rfl⟩
  have hG : GR sh0 ad0 s.heap.size sh ad := by rw [es0, ea0]; exact GR.rf
  have hl := lv_entry ([.ref (ad q)]) (n := 1) (Nat.le_of_ble_eq_true rfl)
  rw [lg_entry_eq]
  generalize (lg_sl ([.ref (ad q)]) ++ List.replicate (1 - (lg_sl ([.ref (ad q)])).length) Slot.unset).toArray = ls at hl ⊢
  have hl : lv_has ls 1 [(0, .ref (ad q))] := hl
  generalize hQ9 : (cQv D cA sh ad s.heap.size (shU (shU (shU (sh) w1 (.inr (0, 64))) w2 (.inr (0, 64))) q (.inl (4, [w1 + 3, w2 + 3]))) (fun M' => M' = sR (sR M q 0 (some w1)) q 1 (some w2)) A) = Q9
  rw [← es0, ← ea0] at hQ9
  generalize hae : ([.ref (ad q)] : List Value).toArray = ar at hts ⊢
  have nqw1 : q ≠ w1 := fun e => by rw [e, hw1] at hq; cases hq
  have nqw2 : q ≠ w2 := fun e => by rw [e, hw2] at hq; cases hq
  have ff9 : FF D s m ar 9 4 0 (.array (.int)) := FF.mk (C := RX4) (T := TX4) (N := 2) hts (fun _ h => List.mem_cons_of_mem _ (List.mem_append_right _ (h))) hown hK rfl (by decide) (hts (.fieldLink RX4 9 "MortarShow$Ground" "people" "[I") (List.mem_of_getElem? (i := 5) rfl)) tyX4 tyX4_ok nmX4 rfl rfl rfl
  have ff15 : FF D s m ar 15 4 1 (.array (.int)) := FF.mk (C := RX4) (T := TX4) (N := 2) hts (fun _ h => List.mem_cons_of_mem _ (List.mem_append_right _ (h))) hown hK rfl (by decide) (hts (.fieldLink RX4 15 "MortarShow$Ground" "values" "[I") (List.mem_of_getElem? (i := 6) rfl)) tyX4 tyX4_ok nmX4 rfl rfl rfl
  refine lv_aload_n hx hb dX4_init_0 rfl (lv_at hl 0 rfl) ?_
  refine W.objInit hx hb hown (hts (.methodLink RX4 3 objectInit) (List.mem_of_getElem? (i := 1) rfl)) (hts (.instanceMethod objectInit) (List.mem_of_getElem? (i := 2) rfl)) (hts (.code objectInit ⟨#[0xb1]⟩ 1 none) (List.mem_of_getElem? (i := 3) rfl)) rfl (by rw [hml]; exact hl.1) rfl dX4_init_1 (Nat.le_of_ble_eq_true rfl) (Nat.le_of_ble_eq_true rfl) ?_
  refine W.eq (g2 := F0 m 4 ls []) rfl ?_
  refine lv_aload_n hx hb dX4_init_4 rfl (lv_at hl 0 rfl) ?_
  refine lv_bipush (v := 64) hx hb dX4_init_5 (by decide) ?_
  refine wnewAI (q := w1) (N := 64) (n := 64) hx hb (hts (.arrayClass .int) (List.mem_of_getElem? (i := 4) rfl)) hK hC hw1 hA hW rfl (by decide) ⟨Nat.le_of_ble_eq_true rfl, Nat.le_of_ble_eq_true rfl⟩ dX4_init_7 (fun sh ad H esh hk hge hC hA hW => ?_)
  rw [← (hk q nqw1)] at hl
  rw [← (hk q nqw1)]
  have hG := hG.new hw1 esh hk hge
  have hq : sh q = some (.inl (4, [2, 2])) := by rw [esh, shU_ne nqw1]; exact hq
  have gw1 : sh w1 = some (.inr (0, 64)) := by rw [esh]; exact shU_eq
  have hw2 : sh w2 = none := by rw [esh, shU_ne (Ne.symm nw1w2)]; exact hw2
  have eS := esh
  refine wpfR hx hb ff9 hin hA hW hq rfl rfl rfl dX4_init_9 (fun M9' H locs eM9 hW => ?_)
  have hC : CZ sh M9' := by rw [eM9]; exact hC.R (ne_none hq) (ne_none gw1)
  refine lv_aload_n hx hb dX4_init_12 rfl (lv_at hl 0 rfl) ?_
  refine lv_bipush (v := 64) hx hb dX4_init_13 (by decide) ?_
  refine wnewAI (q := w2) (N := 64) (n := 64) hx hb (hts (.arrayClass .int) (List.mem_of_getElem? (i := 4) rfl)) hK hC hw2 hA hW rfl (by decide) ⟨Nat.le_of_ble_eq_true rfl, Nat.le_of_ble_eq_true rfl⟩ dX4_init_15 (fun sh ad H esh hk hge hC hA hW => ?_)
  rw [← (hk q nqw2)] at hl
  rw [← (hk q nqw2)]
  have hG := hG.new hw2 esh hk hge
  have hq : sh q = some (.inl (4, [2, 2])) := by rw [esh, shU_ne nqw2]; exact hq
  have gw2 : sh w2 = some (.inr (0, 64)) := by rw [esh]; exact shU_eq
  have gw1 : sh w1 = some (.inr (0, 64)) := by rw [esh, shU_ne nw1w2]; exact gw1
  have eS := esh.trans (by rw [eS])
  refine wpfR hx hb ff15 hin hA hW hq rfl rfl rfl dX4_init_17 (fun M17' H locs eM17 hW => ?_)
  have hC : CZ sh M17' := by rw [eM17]; exact hC.R (ne_none hq) (ne_none gw2)
  have rw1 : gR M17' q 0 = some w1 := by rw [eM17, eM9]; simp [gR_sR, gR_sI]
  have rw2 : gR M17' q 1 = some w2 := by rw [eM17, eM9]; simp [gR_sR, gR_sI]
  have hW := hW.upd (y := .inl (4, [w1 + 3, w2 + 3])) (ne_none hq) (fun H hM => (hM.1 q _ hq).slots (fun k => match k with | 0 => Or.inr ⟨rfl, _, rw1, rfl⟩ | 1 => Or.inr ⟨rfl, _, rw2, rfl⟩  | k + 2 => Or.inl rfl))
  have hC := hC.sh (q := q) (x := .inl (4, [w1 + 3, w2 + 3])) (fun t ht => by
      obtain ⟨k, hk⟩ := ht
      match k with
      | 0 => exact (show w1 = t from Nat.add_right_cancel hk) ▸ ne_none gw1
      | 1 => exact (show w2 = t from Nat.add_right_cancel hk) ▸ ne_none gw2
      | k + 2 => exact absurd hk (by simp))
  have hG := hG.upd (shU_none (x := .inl (4, [w1 + 3, w2 + 3])) (ne_none hq))
  refine W.widen (k := 2) (n := 128) (by decide) (by decide) ?_
  rw [← hQ9]
  exact wr_cv hx hb hr hlocks hW dX4_init_20 hG hC (by rw [eS, ← es0]) (by rw [eM17, eM9])
set_option maxHeartbeats 4000000 in
set_option maxRecDepth 100000 in
theorem c_X8_init (l : Launch) (D : va_G) (cA : Nat → ClassId) (sh : Nat → Option Sh) (ad : Nat → Nat) (M : MS) (sz : Nat) (q w1 w2 : Nat) (hq : sh q = some (.inl (8, [2, 2]))) (hw1 : sh w1 = none) (hw2 : sh w2 = none) (nw1w2 : w1 ≠ w2) (hC : CZ sh M) : Met l yX8_init wsX8_init ({ frames := 1, cells := 2, slots := 8, locals := 20 }) (cPc D cA sh ad M sz [.ref (ad q)]) (cQv D cA sh ad sz (shU (shU (shU (sh) w1 (.inr (0, 4))) w2 (.inr (0, 4))) q (.inl (8, [w1 + 3, w2 + 3]))) (fun M' => M' = sR (sR M q 0 (some w1)) q 1 (some w2)) (wA sh ad sz)) 2 8 (wA sh ad sz) := by
  refine Met.ofW (cc := cX8_init) (maxL := 1) (ret := none) (by decide) rfl ?_
  intro p e s m args below meth cd0 s₁ B hml hv
  obtain ⟨rfl, hsz, hM, hK, hN⟩ := hv
  have hx := B.exec
  have hb := B.bytes
  have hr := B.returns
  have hts := atoms_spec (ws := wsX8_init) B.pre
  have hown : s.vm.findClass RX8 = some m.cls := findClass_of_methodNamed B.named
  have hlocks := B.notSynchronized
  have hin : meth.name = "<init>" := (name_of_methodNamed B.named B.method).1
  subst hsz
  have hA := wA_PA sh ad s.heap
  generalize wA sh ad s.heap.size = A at hA ⊢
  have hW : WS D cA sh ad A s.heap M s.heap [] := ⟨hM, va_S.rf⟩
  obtain ⟨sh0, es0⟩ : ∃ z, z = sh := ⟨_, rfl⟩
  obtain ⟨ad0, ea0⟩ : ∃ z, z = ad := ⟨_, rfl⟩
  have hG : GR sh0 ad0 s.heap.size sh ad := by rw [es0, ea0]; exact GR.rf
  have hl := lv_entry ([.ref (ad q)]) (n := 1) (Nat.le_of_ble_eq_true rfl)
  rw [lg_entry_eq]
  generalize (lg_sl ([.ref (ad q)]) ++ List.replicate (1 - (lg_sl ([.ref (ad q)])).length) Slot.unset).toArray = ls at hl ⊢
  have hl : lv_has ls 1 [(0, .ref (ad q))] := hl
  generalize hQ9 : (cQv D cA sh ad s.heap.size (shU (shU (shU (sh) w1 (.inr (0, 4))) w2 (.inr (0, 4))) q (.inl (8, [w1 + 3, w2 + 3]))) (fun M' => M' = sR (sR M q 0 (some w1)) q 1 (some w2)) A) = Q9
  rw [← es0, ← ea0] at hQ9
  generalize hae : ([.ref (ad q)] : List Value).toArray = ar at hts ⊢
  have nqw1 : q ≠ w1 := fun e => by rw [e, hw1] at hq; cases hq
  have nqw2 : q ≠ w2 := fun e => by rw [e, hw2] at hq; cases hq
  have ff9 : FF D s m ar 9 8 0 (.array (.int)) := FF.mk (C := RX8) (T := TX8) (N := 2) hts (fun _ h => List.mem_cons_of_mem _ (List.mem_append_right _ (h))) hown hK rfl (by decide) (hts (.fieldLink RX8 9 "MortarShow$Wind" "x" "[I") (List.mem_of_getElem? (i := 5) rfl)) tyX8 tyX8_ok nmX8 rfl rfl rfl
  have ff15 : FF D s m ar 15 8 1 (.array (.int)) := FF.mk (C := RX8) (T := TX8) (N := 2) hts (fun _ h => List.mem_cons_of_mem _ (List.mem_append_right _ (h))) hown hK rfl (by decide) (hts (.fieldLink RX8 15 "MortarShow$Wind" "y" "[I") (List.mem_of_getElem? (i := 6) rfl)) tyX8 tyX8_ok nmX8 rfl rfl rfl
  refine lv_aload_n hx hb dX8_init_0 rfl (lv_at hl 0 rfl) ?_
  refine W.objInit hx hb hown (hts (.methodLink RX8 3 objectInit) (List.mem_of_getElem? (i := 1) rfl)) (hts (.instanceMethod objectInit) (List.mem_of_getElem? (i := 2) rfl)) (hts (.code objectInit ⟨#[0xb1]⟩ 1 none) (List.mem_of_getElem? (i := 3) rfl)) rfl (by rw [hml]; exact hl.1) rfl dX8_init_1 (Nat.le_of_ble_eq_true rfl) (Nat.le_of_ble_eq_true rfl) ?_
  refine W.eq (g2 := F0 m 4 ls []) rfl ?_
  refine lv_aload_n hx hb dX8_init_4 rfl (lv_at hl 0 rfl) ?_
  refine lv_iconst (v := 4) hx hb dX8_init_5 (by decide) ?_
  refine wnewAI (q := w1) (N := 4) (n := 4) hx hb (hts (.arrayClass .int) (List.mem_of_getElem? (i := 4) rfl)) hK hC hw1 hA hW rfl (by decide) ⟨Nat.le_of_ble_eq_true rfl, Nat.le_of_ble_eq_true rfl⟩ dX8_init_6 (fun sh ad H esh hk hge hC hA hW => ?_)
  rw [← (hk q nqw1)] at hl
  rw [← (hk q nqw1)]
  have hG := hG.new hw1 esh hk hge
  have hq : sh q = some (.inl (8, [2, 2])) := by rw [esh, shU_ne nqw1]; exact hq
  have gw1 : sh w1 = some (.inr (0, 4)) := by rw [esh]; exact shU_eq
  have hw2 : sh w2 = none := by rw [esh, shU_ne (Ne.symm nw1w2)]; exact hw2
  have eS := esh
  refine wpfR hx hb ff9 hin hA hW hq rfl rfl rfl dX8_init_8 (fun M8' H locs eM8 hW => ?_)
  have hC : CZ sh M8' := by rw [eM8]; exact hC.R (ne_none hq) (ne_none gw1)
  refine lv_aload_n hx hb dX8_init_11 rfl (lv_at hl 0 rfl) ?_
  refine lv_iconst (v := 4) hx hb dX8_init_12 (by decide) ?_
  refine wnewAI (q := w2) (N := 4) (n := 4) hx hb (hts (.arrayClass .int) (List.mem_of_getElem? (i := 4) rfl)) hK hC hw2 hA hW rfl (by decide) ⟨Nat.le_of_ble_eq_true rfl, Nat.le_of_ble_eq_true rfl⟩ dX8_init_13 (fun sh ad H esh hk hge hC hA hW => ?_)
  rw [← (hk q nqw2)] at hl
  rw [← (hk q nqw2)]
  have hG := hG.new hw2 esh hk hge
  have hq : sh q = some (.inl (8, [2, 2])) := by rw [esh, shU_ne nqw2]; exact hq
  have gw2 : sh w2 = some (.inr (0, 4)) := by rw [esh]; exact shU_eq
  have gw1 : sh w1 = some (.inr (0, 4)) := by rw [esh, shU_ne nw1w2]; exact gw1
  have eS := esh.trans (by rw [eS])
  refine wpfR hx hb ff15 hin hA hW hq rfl rfl rfl dX8_init_15 (fun M15' H locs eM15 hW => ?_)
  have hC : CZ sh M15' := by rw [eM15]; exact hC.R (ne_none hq) (ne_none gw2)
  have rw1 : gR M15' q 0 = some w1 := by rw [eM15, eM8]; simp [gR_sR, gR_sI]
  have rw2 : gR M15' q 1 = some w2 := by rw [eM15, eM8]; simp [gR_sR, gR_sI]
  have hW := hW.upd (y := .inl (8, [w1 + 3, w2 + 3])) (ne_none hq) (fun H hM => (hM.1 q _ hq).slots (fun k => match k with | 0 => Or.inr ⟨rfl, _, rw1, rfl⟩ | 1 => Or.inr ⟨rfl, _, rw2, rfl⟩  | k + 2 => Or.inl rfl))
  have hC := hC.sh (q := q) (x := .inl (8, [w1 + 3, w2 + 3])) (fun t ht => by
      obtain ⟨k, hk⟩ := ht
      match k with
      | 0 => exact (show w1 = t from Nat.add_right_cancel hk) ▸ ne_none gw1
      | 1 => exact (show w2 = t from Nat.add_right_cancel hk) ▸ ne_none gw2
      | k + 2 => exact absurd hk (by simp))
  have hG := hG.upd (shU_none (x := .inl (8, [w1 + 3, w2 + 3])) (ne_none hq))
  refine W.widen (k := 2) (n := 8) (by decide) (by decide) ?_
  rw [← hQ9]
  exact wr_cv hx hb hr hlocks hW dX8_init_18 hG hC (by rw [eS, ← es0]) (by rw [eM15, eM8])
set_option maxHeartbeats 4000000 in
set_option maxRecDepth 100000 in
theorem c_X0_init (l : Launch) (D : va_G) (cA : Nat → ClassId) (sh : Nat → Option Sh) (ad : Nat → Nat) (M : MS) (sz : Nat) (q w1 w2 w3 : Nat) (hq : sh q = some (.inl (0, [2, 2, 2, 0]))) (hw1 : sh w1 = none) (hw2 : sh w2 = none) (hw3 : sh w3 = none) (nw1w2 : w1 ≠ w2) (nw1w3 : w1 ≠ w3) (nw2w3 : w2 ≠ w3) (hC : CZ sh M) : Met l yX0_init wsX0_init ({ frames := 1, cells := 3, slots := 303, locals := 20 }) (cPc D cA sh ad M sz [.ref (ad q)]) (cQv D cA sh ad sz (shU (shU (shU (shU (sh) w1 (.inr (0, 101))) w2 (.inr (0, 101))) w3 (.inr (0, 101))) q (.inl (0, [w1 + 3, w2 + 3, w3 + 3, 0]))) (fun M' => M' = sI (sR (sR (sR M q 0 (some w1)) q 1 (some w2)) q 2 (some w3)) q 3 0) (wA sh ad sz)) 3 303 (wA sh ad sz) := by
  refine Met.ofW (cc := cX0_init) (maxL := 1) (ret := none) (by decide) rfl ?_
  intro p e s m args below meth cd0 s₁ B hml hv
  obtain ⟨rfl, hsz, hM, hK, hN⟩ := hv
  have hx := B.exec
  have hb := B.bytes
  have hr := B.returns
  have hts := atoms_spec (ws := wsX0_init) B.pre
  have hown : s.vm.findClass RX0 = some m.cls := findClass_of_methodNamed B.named
  have hlocks := B.notSynchronized
  have hin : meth.name = "<init>" := (name_of_methodNamed B.named B.method).1
  subst hsz
  have hA := wA_PA sh ad s.heap
  generalize wA sh ad s.heap.size = A at hA ⊢
  have hW : WS D cA sh ad A s.heap M s.heap [] := ⟨hM, va_S.rf⟩
  obtain ⟨sh0, es0⟩ : ∃ z, z = sh := ⟨_, rfl⟩
  obtain ⟨ad0, ea0⟩ : ∃ z, z = ad := ⟨_, rfl⟩
  have hG : GR sh0 ad0 s.heap.size sh ad := by rw [es0, ea0]; exact GR.rf
  have hl := lv_entry ([.ref (ad q)]) (n := 1) (Nat.le_of_ble_eq_true rfl)
  rw [lg_entry_eq]
  generalize (lg_sl ([.ref (ad q)]) ++ List.replicate (1 - (lg_sl ([.ref (ad q)])).length) Slot.unset).toArray = ls at hl ⊢
  have hl : lv_has ls 1 [(0, .ref (ad q))] := hl
  generalize hQ9 : (cQv D cA sh ad s.heap.size (shU (shU (shU (shU (sh) w1 (.inr (0, 101))) w2 (.inr (0, 101))) w3 (.inr (0, 101))) q (.inl (0, [w1 + 3, w2 + 3, w3 + 3, 0]))) (fun M' => M' = sI (sR (sR (sR M q 0 (some w1)) q 1 (some w2)) q 2 (some w3)) q 3 0) A) = Q9
  rw [← es0, ← ea0] at hQ9
  generalize hae : ([.ref (ad q)] : List Value).toArray = ar at hts ⊢
  have nqw1 : q ≠ w1 := fun e => by rw [e, hw1] at hq; cases hq
  have nqw2 : q ≠ w2 := fun e => by rw [e, hw2] at hq; cases hq
  have nqw3 : q ≠ w3 := fun e => by rw [e, hw3] at hq; cases hq
  have ff9 : FF D s m ar 9 0 0 (.array (.int)) := FF.mk (C := RX0) (T := TX0) (N := 4) hts (fun _ h => List.mem_cons_of_mem _ (List.mem_append_right _ (h))) hown hK rfl (by decide) (hts (.fieldLink RX0 9 "MortarShow$Beats" "cuesOn" "[I") (List.mem_of_getElem? (i := 5) rfl)) tyX0 tyX0_ok nmX0 rfl rfl rfl
  have ff15 : FF D s m ar 15 0 1 (.array (.int)) := FF.mk (C := RX0) (T := TX0) (N := 4) hts (fun _ h => List.mem_cons_of_mem _ (List.mem_append_right _ (h))) hown hK rfl (by decide) (hts (.fieldLink RX0 15 "MortarShow$Beats" "struckOn" "[I") (List.mem_of_getElem? (i := 6) rfl)) tyX0 tyX0_ok nmX0 rfl rfl rfl
  have ff18 : FF D s m ar 18 0 2 (.array (.int)) := FF.mk (C := RX0) (T := TX0) (N := 4) hts (fun _ h => List.mem_cons_of_mem _ (List.mem_append_right _ (h))) hown hK rfl (by decide) (hts (.fieldLink RX0 18 "MortarShow$Beats" "closedBefore" "[I") (List.mem_of_getElem? (i := 7) rfl)) tyX0 tyX0_ok nmX0 rfl rfl rfl
  have fw21 : FW D s m ar 21 0 3 (.int) := FW.mk (C := RX0) (T := TX0) (N := 4) hts (fun _ h => List.mem_cons_of_mem _ (List.mem_append_right _ (h))) hown hK rfl (by decide) (hts (.fieldLink RX0 21 "MortarShow$Beats" "closedInAll" "I") (List.mem_of_getElem? (i := 8) rfl)) tyX0 tyX0_ok nmX0 rfl rfl
  refine lv_aload_n hx hb dX0_init_0 rfl (lv_at hl 0 rfl) ?_
  refine W.objInit hx hb hown (hts (.methodLink RX0 3 objectInit) (List.mem_of_getElem? (i := 1) rfl)) (hts (.instanceMethod objectInit) (List.mem_of_getElem? (i := 2) rfl)) (hts (.code objectInit ⟨#[0xb1]⟩ 1 none) (List.mem_of_getElem? (i := 3) rfl)) rfl (by rw [hml]; exact hl.1) rfl dX0_init_1 (Nat.le_of_ble_eq_true rfl) (Nat.le_of_ble_eq_true rfl) ?_
  refine W.eq (g2 := F0 m 4 ls []) rfl ?_
  refine lv_aload_n hx hb dX0_init_4 rfl (lv_at hl 0 rfl) ?_
  refine lv_bipush (v := 101) hx hb dX0_init_5 (by decide) ?_
  refine wnewAI (q := w1) (N := 101) (n := 101) hx hb (hts (.arrayClass .int) (List.mem_of_getElem? (i := 4) rfl)) hK hC hw1 hA hW rfl (by decide) ⟨Nat.le_of_ble_eq_true rfl, Nat.le_of_ble_eq_true rfl⟩ dX0_init_7 (fun sh ad H esh hk hge hC hA hW => ?_)
  rw [← (hk q nqw1)] at hl
  rw [← (hk q nqw1)]
  have hG := hG.new hw1 esh hk hge
  have hq : sh q = some (.inl (0, [2, 2, 2, 0])) := by rw [esh, shU_ne nqw1]; exact hq
  have gw1 : sh w1 = some (.inr (0, 101)) := by rw [esh]; exact shU_eq
  have hw2 : sh w2 = none := by rw [esh, shU_ne (Ne.symm nw1w2)]; exact hw2
  have hw3 : sh w3 = none := by rw [esh, shU_ne (Ne.symm nw1w3)]; exact hw3
  have eS := esh
  refine wpfR hx hb ff9 hin hA hW hq rfl rfl rfl dX0_init_9 (fun M9' H locs eM9 hW => ?_)
  have hC : CZ sh M9' := by rw [eM9]; exact hC.R (ne_none hq) (ne_none gw1)
  refine lv_aload_n hx hb dX0_init_12 rfl (lv_at hl 0 rfl) ?_
  refine lv_bipush (v := 101) hx hb dX0_init_13 (by decide) ?_
  refine wnewAI (q := w2) (N := 101) (n := 101) hx hb (hts (.arrayClass .int) (List.mem_of_getElem? (i := 4) rfl)) hK hC hw2 hA hW rfl (by decide) ⟨Nat.le_of_ble_eq_true rfl, Nat.le_of_ble_eq_true rfl⟩ dX0_init_15 (fun sh ad H esh hk hge hC hA hW => ?_)
  rw [← (hk q nqw2)] at hl
  rw [← (hk q nqw2)]
  have hG := hG.new hw2 esh hk hge
  have hq : sh q = some (.inl (0, [2, 2, 2, 0])) := by rw [esh, shU_ne nqw2]; exact hq
  have gw2 : sh w2 = some (.inr (0, 101)) := by rw [esh]; exact shU_eq
  have gw1 : sh w1 = some (.inr (0, 101)) := by rw [esh, shU_ne nw1w2]; exact gw1
  have hw3 : sh w3 = none := by rw [esh, shU_ne (Ne.symm nw2w3)]; exact hw3
  have eS := esh.trans (by rw [eS])
  refine wpfR hx hb ff15 hin hA hW hq rfl rfl rfl dX0_init_17 (fun M17' H locs eM17 hW => ?_)
  have hC : CZ sh M17' := by rw [eM17]; exact hC.R (ne_none hq) (ne_none gw2)
  refine lv_aload_n hx hb dX0_init_20 rfl (lv_at hl 0 rfl) ?_
  refine lv_bipush (v := 101) hx hb dX0_init_21 (by decide) ?_
  refine wnewAI (q := w3) (N := 101) (n := 101) hx hb (hts (.arrayClass .int) (List.mem_of_getElem? (i := 4) rfl)) hK hC hw3 hA hW rfl (by decide) ⟨Nat.le_of_ble_eq_true rfl, Nat.le_of_ble_eq_true rfl⟩ dX0_init_23 (fun sh ad H esh hk hge hC hA hW => ?_)
  rw [← (hk q nqw3)] at hl
  rw [← (hk q nqw3)]
  have hG := hG.new hw3 esh hk hge
  have hq : sh q = some (.inl (0, [2, 2, 2, 0])) := by rw [esh, shU_ne nqw3]; exact hq
  have gw3 : sh w3 = some (.inr (0, 101)) := by rw [esh]; exact shU_eq
  have gw1 : sh w1 = some (.inr (0, 101)) := by rw [esh, shU_ne nw1w3]; exact gw1
  have gw2 : sh w2 = some (.inr (0, 101)) := by rw [esh, shU_ne nw2w3]; exact gw2
  have eS := esh.trans (by rw [eS])
  refine wpfR hx hb ff18 hin hA hW hq rfl rfl rfl dX0_init_25 (fun M25' H locs eM25 hW => ?_)
  have hC : CZ sh M25' := by rw [eM25]; exact hC.R (ne_none hq) (ne_none gw3)
  refine lv_aload_n hx hb dX0_init_28 rfl (lv_at hl 0 rfl) ?_
  refine lv_iconst (v := 0) hx hb dX0_init_29 (by decide) ?_
  refine wpI hx hb fw21 hA hW hq rfl dX0_init_30 (fun M30' H locs eM30 hW => ?_)
  have hC : CZ sh M30' := by rw [eM30]; exact hC.I (ne_none hq)
  have rw1 : gR M30' q 0 = some w1 := by rw [eM30, eM25, eM17, eM9]; simp [gR_sR, gR_sI]
  have rw2 : gR M30' q 1 = some w2 := by rw [eM30, eM25, eM17, eM9]; simp [gR_sR, gR_sI]
  have rw3 : gR M30' q 2 = some w3 := by rw [eM30, eM25, eM17, eM9]; simp [gR_sR, gR_sI]
  have hW := hW.upd (y := .inl (0, [w1 + 3, w2 + 3, w3 + 3, 0])) (ne_none hq) (fun H hM => (hM.1 q _ hq).slots (fun k => match k with | 0 => Or.inr ⟨rfl, _, rw1, rfl⟩ | 1 => Or.inr ⟨rfl, _, rw2, rfl⟩ | 2 => Or.inr ⟨rfl, _, rw3, rfl⟩ | 3 => Or.inl rfl | k + 4 => Or.inl rfl))
  have hC := hC.sh (q := q) (x := .inl (0, [w1 + 3, w2 + 3, w3 + 3, 0])) (fun t ht => by
      obtain ⟨k, hk⟩ := ht
      match k with
      | 0 => exact (show w1 = t from Nat.add_right_cancel hk) ▸ ne_none gw1
      | 1 => exact (show w2 = t from Nat.add_right_cancel hk) ▸ ne_none gw2
      | 2 => exact (show w3 = t from Nat.add_right_cancel hk) ▸ ne_none gw3
      | 3 => exact absurd hk (by simp)
      | k + 4 => exact absurd hk (by simp))
  have hG := hG.upd (shU_none (x := .inl (0, [w1 + 3, w2 + 3, w3 + 3, 0])) (ne_none hq))
  refine W.widen (k := 3) (n := 303) (by decide) (by decide) ?_
  rw [← hQ9]
  exact wr_cv hx hb hr hlocks hW dX0_init_33 hG hC (by rw [eS, ← es0]) (by rw [eM30, eM25, eM17, eM9])
set_option maxHeartbeats 4000000 in
set_option maxRecDepth 100000 in
theorem c_X1_init (l : Launch) (D : va_G) (cA : Nat → ClassId) (sh : Nat → Option Sh) (ad : Nat → Nat) (M : MS) (sz : Nat) (q w1 w2 w3 : Nat) (hq : sh q = some (.inl (1, [2, 2, 2, 0]))) (hw1 : sh w1 = none) (hw2 : sh w2 = none) (hw3 : sh w3 = none) (nw1w2 : w1 ≠ w2) (nw1w3 : w1 ≠ w3) (nw2w3 : w2 ≠ w3) (hC : CZ sh M) : Met l yX1_init wsX1_init ({ frames := 1, cells := 3, slots := 68, locals := 20 }) (cPc D cA sh ad M sz [.ref (ad q)]) (cQv D cA sh ad sz (shU (shU (shU (shU (sh) w1 (.inr (1, 32))) w2 (.inr (0, 32))) w3 (.inr (0, 4))) q (.inl (1, [w1 + 3, w2 + 3, w3 + 3, 0]))) (fun M' => M' = sI (sR (sR (sR M q 0 (some w1)) q 1 (some w2)) q 2 (some w3)) q 3 2) (wA sh ad sz)) 3 68 (wA sh ad sz) := by
  refine Met.ofW (cc := cX1_init) (maxL := 1) (ret := none) (by decide) rfl ?_
  intro p e s m args below meth cd0 s₁ B hml hv
  obtain ⟨rfl, hsz, hM, hK, hN⟩ := hv
  have hx := B.exec
  have hb := B.bytes
  have hr := B.returns
  have hts := atoms_spec (ws := wsX1_init) B.pre
  have hown : s.vm.findClass RX1 = some m.cls := findClass_of_methodNamed B.named
  have hlocks := B.notSynchronized
  have hin : meth.name = "<init>" := (name_of_methodNamed B.named B.method).1
  subst hsz
  have hA := wA_PA sh ad s.heap
  generalize wA sh ad s.heap.size = A at hA ⊢
  have hW : WS D cA sh ad A s.heap M s.heap [] := ⟨hM, va_S.rf⟩
  obtain ⟨sh0, es0⟩ : ∃ z, z = sh := ⟨_, rfl⟩
  obtain ⟨ad0, ea0⟩ : ∃ z, z = ad := ⟨_, rfl⟩
  have hG : GR sh0 ad0 s.heap.size sh ad := by rw [es0, ea0]; exact GR.rf
  have hl := lv_entry ([.ref (ad q)]) (n := 1) (Nat.le_of_ble_eq_true rfl)
  rw [lg_entry_eq]
  generalize (lg_sl ([.ref (ad q)]) ++ List.replicate (1 - (lg_sl ([.ref (ad q)])).length) Slot.unset).toArray = ls at hl ⊢
  have hl : lv_has ls 1 [(0, .ref (ad q))] := hl
  generalize hQ9 : (cQv D cA sh ad s.heap.size (shU (shU (shU (shU (sh) w1 (.inr (1, 32))) w2 (.inr (0, 32))) w3 (.inr (0, 4))) q (.inl (1, [w1 + 3, w2 + 3, w3 + 3, 0]))) (fun M' => M' = sI (sR (sR (sR M q 0 (some w1)) q 1 (some w2)) q 2 (some w3)) q 3 2) A) = Q9
  rw [← es0, ← ea0] at hQ9
  generalize hae : ([.ref (ad q)] : List Value).toArray = ar at hts ⊢
  have nqw1 : q ≠ w1 := fun e => by rw [e, hw1] at hq; cases hq
  have nqw2 : q ≠ w2 := fun e => by rw [e, hw2] at hq; cases hq
  have nqw3 : q ≠ w3 := fun e => by rw [e, hw3] at hq; cases hq
  have ff9 : FF D s m ar 9 1 0 (.array (.boolean)) := FF.mk (C := RX1) (T := TX1) (N := 4) hts (fun _ h => List.mem_cons_of_mem _ (List.mem_append_right _ (h))) hown hK rfl (by decide) (hts (.fieldLink RX1 9 "MortarShow$Boxes" "dead" "[Z") (List.mem_of_getElem? (i := 5) rfl)) tyX1 tyX1_ok nmX1 rfl rfl rfl
  have ff15 : FF D s m ar 15 1 1 (.array (.int)) := FF.mk (C := RX1) (T := TX1) (N := 4) hts (fun _ h => List.mem_cons_of_mem _ (List.mem_append_right _ (h))) hown hK rfl (by decide) (hts (.fieldLink RX1 15 "MortarShow$Boxes" "given" "[I") (List.mem_of_getElem? (i := 7) rfl)) tyX1 tyX1_ok nmX1 rfl rfl rfl
  have ff19 : FF D s m ar 19 1 2 (.array (.int)) := FF.mk (C := RX1) (T := TX1) (N := 4) hts (fun _ h => List.mem_cons_of_mem _ (List.mem_append_right _ (h))) hown hK rfl (by decide) (hts (.fieldLink RX1 19 "MortarShow$Boxes" "lastTick" "[I") (List.mem_of_getElem? (i := 8) rfl)) tyX1 tyX1_ok nmX1 rfl rfl rfl
  have fw22 : FW D s m ar 22 1 3 (.int) := FW.mk (C := RX1) (T := TX1) (N := 4) hts (fun _ h => List.mem_cons_of_mem _ (List.mem_append_right _ (h))) hown hK rfl (by decide) (hts (.fieldLink RX1 22 "MortarShow$Boxes" "gap" "I") (List.mem_of_getElem? (i := 9) rfl)) tyX1 tyX1_ok nmX1 rfl rfl
  refine lv_aload_n hx hb dX1_init_0 rfl (lv_at hl 0 rfl) ?_
  refine W.objInit hx hb hown (hts (.methodLink RX1 3 objectInit) (List.mem_of_getElem? (i := 1) rfl)) (hts (.instanceMethod objectInit) (List.mem_of_getElem? (i := 2) rfl)) (hts (.code objectInit ⟨#[0xb1]⟩ 1 none) (List.mem_of_getElem? (i := 3) rfl)) rfl (by rw [hml]; exact hl.1) rfl dX1_init_1 (Nat.le_of_ble_eq_true rfl) (Nat.le_of_ble_eq_true rfl) ?_
  refine W.eq (g2 := F0 m 4 ls []) rfl ?_
  refine lv_aload_n hx hb dX1_init_4 rfl (lv_at hl 0 rfl) ?_
  refine lv_bipush (v := 32) hx hb dX1_init_5 (by decide) ?_
  refine wnewAZ (q := w1) (N := 32) (n := 32) hx hb (hts (.arrayClass .boolean) (List.mem_of_getElem? (i := 4) rfl)) hK hC hw1 hA hW rfl (by decide) ⟨Nat.le_of_ble_eq_true rfl, Nat.le_of_ble_eq_true rfl⟩ dX1_init_7 (fun sh ad H esh hk hge hC hA hW => ?_)
  rw [← (hk q nqw1)] at hl
  rw [← (hk q nqw1)]
  have hG := hG.new hw1 esh hk hge
  have hq : sh q = some (.inl (1, [2, 2, 2, 0])) := by rw [esh, shU_ne nqw1]; exact hq
  have gw1 : sh w1 = some (.inr (1, 32)) := by rw [esh]; exact shU_eq
  have hw2 : sh w2 = none := by rw [esh, shU_ne (Ne.symm nw1w2)]; exact hw2
  have hw3 : sh w3 = none := by rw [esh, shU_ne (Ne.symm nw1w3)]; exact hw3
  have eS := esh
  refine wpfR hx hb ff9 hin hA hW hq rfl rfl rfl dX1_init_9 (fun M9' H locs eM9 hW => ?_)
  have hC : CZ sh M9' := by rw [eM9]; exact hC.R (ne_none hq) (ne_none gw1)
  refine lv_aload_n hx hb dX1_init_12 rfl (lv_at hl 0 rfl) ?_
  refine lv_bipush (v := 32) hx hb dX1_init_13 (by decide) ?_
  refine wnewAI (q := w2) (N := 32) (n := 32) hx hb (hts (.arrayClass .int) (List.mem_of_getElem? (i := 6) rfl)) hK hC hw2 hA hW rfl (by decide) ⟨Nat.le_of_ble_eq_true rfl, Nat.le_of_ble_eq_true rfl⟩ dX1_init_15 (fun sh ad H esh hk hge hC hA hW => ?_)
  rw [← (hk q nqw2)] at hl
  rw [← (hk q nqw2)]
  have hG := hG.new hw2 esh hk hge
  have hq : sh q = some (.inl (1, [2, 2, 2, 0])) := by rw [esh, shU_ne nqw2]; exact hq
  have gw2 : sh w2 = some (.inr (0, 32)) := by rw [esh]; exact shU_eq
  have gw1 : sh w1 = some (.inr (1, 32)) := by rw [esh, shU_ne nw1w2]; exact gw1
  have hw3 : sh w3 = none := by rw [esh, shU_ne (Ne.symm nw2w3)]; exact hw3
  have eS := esh.trans (by rw [eS])
  refine wpfR hx hb ff15 hin hA hW hq rfl rfl rfl dX1_init_17 (fun M17' H locs eM17 hW => ?_)
  have hC : CZ sh M17' := by rw [eM17]; exact hC.R (ne_none hq) (ne_none gw2)
  refine lv_aload_n hx hb dX1_init_20 rfl (lv_at hl 0 rfl) ?_
  refine lv_iconst (v := 4) hx hb dX1_init_21 (by decide) ?_
  refine wnewAI (q := w3) (N := 4) (n := 4) hx hb (hts (.arrayClass .int) (List.mem_of_getElem? (i := 6) rfl)) hK hC hw3 hA hW rfl (by decide) ⟨Nat.le_of_ble_eq_true rfl, Nat.le_of_ble_eq_true rfl⟩ dX1_init_22 (fun sh ad H esh hk hge hC hA hW => ?_)
  rw [← (hk q nqw3)] at hl
  rw [← (hk q nqw3)]
  have hG := hG.new hw3 esh hk hge
  have hq : sh q = some (.inl (1, [2, 2, 2, 0])) := by rw [esh, shU_ne nqw3]; exact hq
  have gw3 : sh w3 = some (.inr (0, 4)) := by rw [esh]; exact shU_eq
  have gw1 : sh w1 = some (.inr (1, 32)) := by rw [esh, shU_ne nw1w3]; exact gw1
  have gw2 : sh w2 = some (.inr (0, 32)) := by rw [esh, shU_ne nw2w3]; exact gw2
  have eS := esh.trans (by rw [eS])
  refine wpfR hx hb ff19 hin hA hW hq rfl rfl rfl dX1_init_24 (fun M24' H locs eM24 hW => ?_)
  have hC : CZ sh M24' := by rw [eM24]; exact hC.R (ne_none hq) (ne_none gw3)
  refine lv_aload_n hx hb dX1_init_27 rfl (lv_at hl 0 rfl) ?_
  refine lv_iconst (v := 2) hx hb dX1_init_28 (by decide) ?_
  refine wpI hx hb fw22 hA hW hq rfl dX1_init_29 (fun M29' H locs eM29 hW => ?_)
  have hC : CZ sh M29' := by rw [eM29]; exact hC.I (ne_none hq)
  have rw1 : gR M29' q 0 = some w1 := by rw [eM29, eM24, eM17, eM9]; simp [gR_sR, gR_sI]
  have rw2 : gR M29' q 1 = some w2 := by rw [eM29, eM24, eM17, eM9]; simp [gR_sR, gR_sI]
  have rw3 : gR M29' q 2 = some w3 := by rw [eM29, eM24, eM17, eM9]; simp [gR_sR, gR_sI]
  have hW := hW.upd (y := .inl (1, [w1 + 3, w2 + 3, w3 + 3, 0])) (ne_none hq) (fun H hM => (hM.1 q _ hq).slots (fun k => match k with | 0 => Or.inr ⟨rfl, _, rw1, rfl⟩ | 1 => Or.inr ⟨rfl, _, rw2, rfl⟩ | 2 => Or.inr ⟨rfl, _, rw3, rfl⟩ | 3 => Or.inl rfl | k + 4 => Or.inl rfl))
  have hC := hC.sh (q := q) (x := .inl (1, [w1 + 3, w2 + 3, w3 + 3, 0])) (fun t ht => by
      obtain ⟨k, hk⟩ := ht
      match k with
      | 0 => exact (show w1 = t from Nat.add_right_cancel hk) ▸ ne_none gw1
      | 1 => exact (show w2 = t from Nat.add_right_cancel hk) ▸ ne_none gw2
      | 2 => exact (show w3 = t from Nat.add_right_cancel hk) ▸ ne_none gw3
      | 3 => exact absurd hk (by simp)
      | k + 4 => exact absurd hk (by simp))
  have hG := hG.upd (shU_none (x := .inl (1, [w1 + 3, w2 + 3, w3 + 3, 0])) (ne_none hq))
  refine W.widen (k := 3) (n := 68) (by decide) (by decide) ?_
  rw [← hQ9]
  exact wr_cv hx hb hr hlocks hW dX1_init_32 hG hC (by rw [eS, ← es0]) (by rw [eM29, eM24, eM17, eM9])
set_option maxHeartbeats 4000000 in
set_option maxRecDepth 100000 in
theorem c_X7_init (l : Launch) (D : va_G) (cA : Nat → ClassId) (sh : Nat → Option Sh) (ad : Nat → Nat) (M : MS) (sz : Nat) (q : Nat) (hq : sh q = some (.inl (7, [0, 0]))) : Met l yX7_init wsX7_init ({ frames := 1, cells := 0, slots := 0, locals := 20 }) (wPc D cA sh ad M sz [.ref (ad q)]) (wQv D cA sh ad (fun M' => M' = sI (sI M q 0 0) q 1 0) (wA sh ad sz)) 0 0 (wA sh ad sz) := by
  refine Met.ofW (cc := cX7_init) (maxL := 1) (ret := none) (by decide) rfl ?_
  intro p e s m args below meth cd0 s₁ B hml hv
  obtain ⟨rfl, hsz, hM, hK⟩ := hv
  have hx := B.exec
  have hb := B.bytes
  have hr := B.returns
  have hts := atoms_spec (ws := wsX7_init) B.pre
  have hown : s.vm.findClass RX7 = some m.cls := findClass_of_methodNamed B.named
  have hlocks := B.notSynchronized
  have hin : meth.name = "<init>" := (name_of_methodNamed B.named B.method).1
  subst hsz
  have hA := wA_PA sh ad s.heap
  generalize wA sh ad s.heap.size = A at hA ⊢
  have hW : WS D cA sh ad A s.heap M s.heap [] := ⟨hM, va_S.rf⟩
  have fw9 : FW D s m ([.ref (ad q)] : List Value).toArray 9 7 0 (.int) := FW.mk (C := RX7) (T := TX7) (N := 2) hts (fun _ h => List.mem_cons_of_mem _ (List.mem_append_right _ (h))) hown hK rfl (by decide) (hts (.fieldLink RX7 9 "MortarShow$Rack" "column" "I") (List.mem_of_getElem? (i := 4) rfl)) tyX7 tyX7_ok nmX7 rfl rfl
  have fw15 : FW D s m ([.ref (ad q)] : List Value).toArray 15 7 1 (.int) := FW.mk (C := RX7) (T := TX7) (N := 2) hts (fun _ h => List.mem_cons_of_mem _ (List.mem_append_right _ (h))) hown hK rfl (by decide) (hts (.fieldLink RX7 15 "MortarShow$Rack" "line" "I") (List.mem_of_getElem? (i := 5) rfl)) tyX7 tyX7_ok nmX7 rfl rfl
  have hl := lv_entry ([.ref (ad q)]) (n := 1) (Nat.le_of_ble_eq_true rfl)
  rw [lg_entry_eq]
  generalize (lg_sl ([.ref (ad q)]) ++ List.replicate (1 - (lg_sl ([.ref (ad q)])).length) Slot.unset).toArray = ls at hl ⊢
  have hl : lv_has ls 1 [(0, .ref (ad q))] := hl
  refine lv_aload_n hx hb dX7_init_0 rfl (lv_at hl 0 rfl) ?_
  refine W.objInit hx hb hown (hts (.methodLink RX7 3 objectInit) (List.mem_of_getElem? (i := 1) rfl)) (hts (.instanceMethod objectInit) (List.mem_of_getElem? (i := 2) rfl)) (hts (.code objectInit ⟨#[0xb1]⟩ 1 none) (List.mem_of_getElem? (i := 3) rfl)) rfl (by rw [hml]; exact hl.1) rfl dX7_init_1 (Nat.le_of_ble_eq_true rfl) (Nat.le_of_ble_eq_true rfl) ?_
  refine W.eq (g2 := F0 m 4 ls []) rfl ?_
  refine lv_aload_n hx hb dX7_init_4 rfl (lv_at hl 0 rfl) ?_
  refine lv_iconst (v := 0) hx hb dX7_init_5 (by decide) ?_
  refine wpI hx hb fw9 hA hW hq rfl dX7_init_6 (fun M6' H locs eM6 hW => ?_)
  refine lv_aload_n hx hb dX7_init_9 rfl (lv_at hl 0 rfl) ?_
  refine lv_iconst (v := 0) hx hb dX7_init_10 (by decide) ?_
  refine wpI hx hb fw15 hA hW hq rfl dX7_init_11 (fun M11' H locs eM11 hW => ?_)
  exact wr_wv hx hb hr hlocks hW dX7_init_14 (by rw [eM11, eM6])
set_option maxHeartbeats 4000000 in
set_option maxRecDepth 100000 in
theorem c_X5_init (l : Launch) (D : va_G) (cA : Nat → ClassId) (sh : Nat → Option Sh) (ad : Nat → Nat) (M : MS) (sz : Nat) (q : Nat) : Met l yX5_init wsX5_init ({ frames := 1, cells := 0, slots := 0, locals := 20 }) (wPc D cA sh ad M sz [.ref (ad q)]) (wQv D cA sh ad (fun M' => M' = M) (wA sh ad sz)) 0 0 (wA sh ad sz) := by
  refine Met.ofW (cc := cX5_init) (maxL := 1) (ret := none) (by decide) rfl ?_
  intro p e s m args below meth cd0 s₁ B hml hv
  obtain ⟨rfl, hsz, hM, hK⟩ := hv
  have hx := B.exec
  have hb := B.bytes
  have hr := B.returns
  have hts := atoms_spec (ws := wsX5_init) B.pre
  have hown : s.vm.findClass RX5 = some m.cls := findClass_of_methodNamed B.named
  have hlocks := B.notSynchronized
  have hin : meth.name = "<init>" := (name_of_methodNamed B.named B.method).1
  subst hsz
  have hA := wA_PA sh ad s.heap
  generalize wA sh ad s.heap.size = A at hA ⊢
  have hW : WS D cA sh ad A s.heap M s.heap [] := ⟨hM, va_S.rf⟩
  have hl := lv_entry ([.ref (ad q)]) (n := 1) (Nat.le_of_ble_eq_true rfl)
  rw [lg_entry_eq]
  generalize (lg_sl ([.ref (ad q)]) ++ List.replicate (1 - (lg_sl ([.ref (ad q)])).length) Slot.unset).toArray = ls at hl ⊢
  have hl : lv_has ls 1 [(0, .ref (ad q))] := hl
  refine lv_aload_n hx hb dX5_init_0 rfl (lv_at hl 0 rfl) ?_
  refine W.objInit hx hb hown (hts (.methodLink RX5 3 objectInit) (List.mem_of_getElem? (i := 1) rfl)) (hts (.instanceMethod objectInit) (List.mem_of_getElem? (i := 2) rfl)) (hts (.code objectInit ⟨#[0xb1]⟩ 1 none) (List.mem_of_getElem? (i := 3) rfl)) rfl (by rw [hml]; exact hl.1) rfl dX5_init_1 (Nat.le_of_ble_eq_true rfl) (Nat.le_of_ble_eq_true rfl) ?_
  refine W.eq (g2 := F0 m 4 ls []) rfl ?_
  exact wr_wv hx hb hr hlocks hW dX5_init_4 rfl
set_option maxHeartbeats 4000000 in
set_option maxRecDepth 100000 in
theorem c_X3_init (l : Launch) (D : va_G) (cA : Nat → ClassId) (sh : Nat → Option Sh) (ad : Nat → Nat) (M : MS) (sz : Nat) (q h : Nat) (hq : sh q = some (.inl (3, [2, 0, 0]))) (hh : sh h = none) (hC : CZ sh M) : Met l yX3_init wsX3_init ({ frames := 2, cells := 1, slots := 5, locals := 40 }) (cPc D cA sh ad M sz [.ref (ad q)]) (cQv D cA sh ad sz (shU (shU sh h (.inl (5, [0, 0, 0, 0, 0]))) q (.inl (3, [h + 3, 0, 0]))) (fun M' => M' = sR M q 0 (some h)) (wA sh ad sz)) 1 5 (wA sh ad sz) := by
  refine Met.ofW (cc := cX3_init) (maxL := 1) (ret := none) (by decide) rfl ?_
  intro p e s m args below meth cd0 s₁ B hml hv
  obtain ⟨rfl, hsz, hM, hK, hN⟩ := hv
  have hx := B.exec
  have hb := B.bytes
  have hr := B.returns
  have hts := atoms_spec (ws := wsX3_init) B.pre
  have hown : s.vm.findClass RX3 = some m.cls := findClass_of_methodNamed B.named
  have hlocks := B.notSynchronized
  have hin : meth.name = "<init>" := (name_of_methodNamed B.named B.method).1
  subst hsz
  have hA := wA_PA sh ad s.heap
  generalize wA sh ad s.heap.size = A at hA ⊢
  have hW : WS D cA sh ad A s.heap M s.heap [] := ⟨hM, va_S.rf⟩
  obtain ⟨sh0, es0⟩ : ∃ z, z = sh := ⟨_, rfl⟩
  obtain ⟨ad0, ea0⟩ : ∃ z, z = ad := ⟨_, rfl⟩
  have hG : GR sh0 ad0 s.heap.size sh ad := by rw [es0, ea0]; exact GR.rf
  have hl := lv_entry ([.ref (ad q)]) (n := 1) (Nat.le_of_ble_eq_true rfl)
  rw [lg_entry_eq]
  generalize (lg_sl ([.ref (ad q)]) ++ List.replicate (1 - (lg_sl ([.ref (ad q)])).length) Slot.unset).toArray = ls at hl ⊢
  have hl : lv_has ls 1 [(0, .ref (ad q))] := hl
  generalize hQ9 : (cQv D cA sh ad s.heap.size (shU (shU sh h (.inl (5, [0, 0, 0, 0, 0]))) q (.inl (3, [h + 3, 0, 0]))) (fun M' => M' = sR M q 0 (some h)) A) = Q9
  rw [← es0, ← ea0] at hQ9
  generalize hae : ([.ref (ad q)] : List Value).toArray = ar at hts ⊢
  have nqh : q ≠ h := fun e => by rw [e, hh] at hq; cases hq
  have ff10 : FF D s m ar 10 3 0 (.object "MortarShow$Height") := FF.mk (C := RX3) (T := TX3) (N := 3) hts (fun _ h => List.mem_cons_of_mem _ (List.mem_append_right _ (h))) hown hK rfl (by decide) (hts (.fieldLink RX3 10 "MortarShow$Flight" "height" "LMortarShow$Height;") (List.mem_of_getElem? (i := 7) rfl)) tyX3 tyX3_ok nmX3 rfl rfl rfl
  refine lv_aload_n hx hb dX3_init_0 rfl (lv_at hl 0 rfl) ?_
  refine W.objInit hx hb hown (hts (.methodLink RX3 1 objectInit) (List.mem_of_getElem? (i := 1) rfl)) (hts (.instanceMethod objectInit) (List.mem_of_getElem? (i := 2) rfl)) (hts (.code objectInit ⟨#[0xb1]⟩ 1 none) (List.mem_of_getElem? (i := 3) rfl)) rfl (by rw [hml]; exact hl.1) rfl dX3_init_1 (Nat.le_of_ble_eq_true rfl) (Nat.le_of_ble_eq_true rfl) ?_
  refine W.eq (g2 := F0 m 4 ls []) rfl ?_
  refine lv_aload_n hx hb dX3_init_4 rfl (lv_at hl 0 rfl) ?_
  refine wnewZ (q := h) (ci := 5) (C := RX5) (T := TX5) (N := 5) (ks := [0, 0, 0, 0, 0]) hx hb hts (fun _ h => List.mem_cons_of_mem _ (List.mem_append_left _ (List.mem_append_right _ (h)))) tyX5 tyX5_ok hown (hts (.classLink RX3 7 RX5) (List.mem_of_getElem? (i := 4) rfl)) (hts (.instantiable RX5 5) (List.mem_of_getElem? (i := 5) rfl)) (hts (.initialized RX5) (List.mem_of_getElem? (i := 6) rfl)) hK rfl hC hh hA hW (by decide) (by decide) ⟨Nat.le_of_ble_eq_true rfl, Nat.le_of_ble_eq_true rfl⟩ dX3_init_5 (fun sh ad H esh hk hge hC hA hW => ?_)
  rw [← (hk q nqh)] at hl
  rw [← (hk q nqh)]
  have hG := hG.new hh esh hk hge
  have hq : sh q = some (.inl (3, [2, 0, 0])) := by rw [esh, shU_ne nqh]; exact hq
  have gh : sh h = some (.inl (5, [0, 0, 0, 0, 0])) := by rw [esh]; exact shU_eq
  have eS := esh
  refine lv_dup hx hb dX3_init_8 rfl ?_
  refine wc_wv (va_runIN (As := []) (rest := [.ref (ad h), .ref (ad q)]) ⟨hx, hb, hml, hown, hts⟩ (c_X5_init l D cA sh ad M _ h) ⟨va_cnB 0 hts gX3_init_X5_init_n9 rfl rfl rfl (hN.1 (RX3, 9, yX5_init, RX9) (List.mem_of_getElem? (i := 6) rfl)) (hts (.initialized RX5) (List.mem_of_getElem? (i := 6) rfl)) ⟨by decide, by decide, by decide +kernel⟩ ⟨Nat.le_of_ble_eq_true rfl, Nat.le_of_ble_eq_true rfl⟩, rfl, (hts (.instanceMethod yX5_init) (List.mem_of_getElem? (i := 8) rfl))⟩ (wpreS hK hW) rfl rfl hl.1 rfl (lv_room (Nat.le_of_ble_eq_true rfl)) dX3_init_9 ⟨Nat.le_of_ble_eq_true rfl, Nat.le_of_ble_eq_true rfl⟩) hA hW (fun M9' H locs p9' hW => ?_)
  try dsimp only at p9'
  rw [p9'] at hW
  refine wpfR hx hb ff10 hin hA hW hq rfl rfl rfl dX3_init_12 (fun M12' H locs eM12 hW => ?_)
  have hC : CZ sh M12' := by rw [eM12]; exact hC.R (ne_none hq) (ne_none gh)
  have rh : gR M12' q 0 = some h := by rw [eM12]; simp [gR_sR]
  have hW := hW.upd (y := .inl (3, [h + 3, 0, 0])) (ne_none hq) (fun H hM => (hM.1 q _ hq).slots (fun k => match k with | 0 => Or.inr ⟨rfl, _, rh, rfl⟩ | k + 1 => Or.inl rfl))
  have hC := hC.sh (q := q) (x := .inl (3, [h + 3, 0, 0])) (fun t ht => by
      obtain ⟨k, hk⟩ := ht
      match k with
      | 0 => exact (show h = t from Nat.add_right_cancel hk) ▸ ne_none gh
      | 1 => exact absurd hk (by simp)
      | 2 => exact absurd hk (by simp)
      | k + 3 => exact absurd hk (by simp))
  have hG := hG.upd (shU_none (x := .inl (3, [h + 3, 0, 0])) (ne_none hq))
  refine W.widen (k := 1) (n := 5) (by decide) (by decide) ?_
  rw [← hQ9]
  exact wr_cv hx hb hr hlocks hW dX3_init_15 hG hC (by rw [eS, ← es0]) eM12
set_option maxHeartbeats 4000000 in
set_option maxRecDepth 100000 in
theorem c_X6_init (l : Launch) (D : va_G) (cA : Nat → ClassId) (sh : Nat → Option Sh) (ad : Nat → Nat) (M : MS) (sz : Nat) (q t h : Nat) (hq : sh q = some (.inl (6, [2, 2, 0, 0, 0, 0, 0]))) (ht : sh t = none) (hh : sh h = none) (nth : t ≠ h) (hC : CZ sh M) : Met l yX6_init wsX6_init ({ frames := 3, cells := 2, slots := 9, locals := 65 }) (cPc D cA sh ad M sz [.ref (ad q)]) (cQv D cA sh ad sz (shU (shU (shU sh t (.inr (0, 4))) h (.inl (5, [0, 0, 0, 0, 0]))) q (.inl (6, [t + 3, h + 3, 0, 0, 0, 0, 0]))) (fun M' => ∃ M1', M1' = sR (sR M q 0 (some t)) q 1 (some h) ∧ gI M' q 2 = 50 ∧ gI M' q 3 = 20 ∧ gI M' q 4 = 0 ∧ gI M' q 5 = nI (liftN 50 20 (flN 50 20)) ∧ gI M' q 6 = nI (flN 50 20) ∧ (∀ y, y < 4 → gI M' t y = nI (cntN 50 20 (flN 50 20) y)) ∧ oI (fun p _ => p = q ∨ p = t ∨ p = h) M1' M') (wA sh ad sz)) 2 9 (wA sh ad sz) := by
  refine Met.ofW (cc := cX6_init) (maxL := 1) (ret := none) (by decide) rfl ?_
  intro p e s m args below meth cd0 s₁ B hml hv
  obtain ⟨rfl, hsz, hM, hK, hN⟩ := hv
  have hx := B.exec
  have hb := B.bytes
  have hr := B.returns
  have hts := atoms_spec (ws := wsX6_init) B.pre
  have hown : s.vm.findClass RX6 = some m.cls := findClass_of_methodNamed B.named
  have hlocks := B.notSynchronized
  have hin : meth.name = "<init>" := (name_of_methodNamed B.named B.method).1
  subst hsz
  have hA := wA_PA sh ad s.heap
  generalize wA sh ad s.heap.size = A at hA ⊢
  have hW : WS D cA sh ad A s.heap M s.heap [] := ⟨hM, va_S.rf⟩
  obtain ⟨sh0, es0⟩ : ∃ z, z = sh := ⟨_, rfl⟩
  obtain ⟨ad0, ea0⟩ : ∃ z, z = ad := ⟨_, rfl⟩
  have hG : GR sh0 ad0 s.heap.size sh ad := by rw [es0, ea0]; exact GR.rf
  have hl := lv_entry ([.ref (ad q)]) (n := 1) (Nat.le_of_ble_eq_true rfl)
  rw [lg_entry_eq]
  generalize (lg_sl ([.ref (ad q)]) ++ List.replicate (1 - (lg_sl ([.ref (ad q)])).length) Slot.unset).toArray = ls at hl ⊢
  have hl : lv_has ls 1 [(0, .ref (ad q))] := hl
  generalize hQ9 : (cQv D cA sh ad s.heap.size (shU (shU (shU sh t (.inr (0, 4))) h (.inl (5, [0, 0, 0, 0, 0]))) q (.inl (6, [t + 3, h + 3, 0, 0, 0, 0, 0]))) (fun M' => ∃ M1', M1' = sR (sR M q 0 (some t)) q 1 (some h) ∧ gI M' q 2 = 50 ∧ gI M' q 3 = 20 ∧ gI M' q 4 = 0 ∧ gI M' q 5 = nI (liftN 50 20 (flN 50 20)) ∧ gI M' q 6 = nI (flN 50 20) ∧ (∀ y, y < 4 → gI M' t y = nI (cntN 50 20 (flN 50 20) y)) ∧ oI (fun p _ => p = q ∨ p = t ∨ p = h) M1' M') A) = Q9
  rw [← es0, ← ea0] at hQ9
  generalize hae : ([.ref (ad q)] : List Value).toArray = ar at hts ⊢
  have nqt : q ≠ t := fun e => by rw [e, ht] at hq; cases hq
  have nqh : q ≠ h := fun e => by rw [e, hh] at hq; cases hq
  have hb9 : 1 ≤ (50 : Int32).toInt ∧ (50 : Int32).toInt ≤ 200 := by decide
  have hd9 : 1 ≤ (20 : Int32).toInt ∧ (20 : Int32).toInt ≤ 100 := by decide
  have ff9 : FF D s m ar 9 6 0 (.array (.int)) := FF.mk (C := RX6) (T := TX6) (N := 7) hts (fun _ h => List.mem_cons_of_mem _ (List.mem_append_left _ (List.mem_append_right _ (h)))) hown hK rfl (by decide) (hts (.fieldLink RX6 9 "MortarShow$Kind" "ticksIn" "[I") (List.mem_of_getElem? (i := 5) rfl)) tyX6 tyX6_ok nmX6 rfl rfl rfl
  have ff18 : FF D s m ar 18 6 1 (.object "MortarShow$Height") := FF.mk (C := RX6) (T := TX6) (N := 7) hts (fun _ h => List.mem_cons_of_mem _ (List.mem_append_left _ (List.mem_append_right _ (h)))) hown hK rfl (by decide) (hts (.fieldLink RX6 18 "MortarShow$Kind" "height" "LMortarShow$Height;") (List.mem_of_getElem? (i := 9) rfl)) tyX6 tyX6_ok nmX6 rfl rfl rfl
  refine lv_aload_n hx hb dX6_init_0 rfl (lv_at hl 0 rfl) ?_
  refine W.objInit hx hb hown (hts (.methodLink RX6 3 objectInit) (List.mem_of_getElem? (i := 1) rfl)) (hts (.instanceMethod objectInit) (List.mem_of_getElem? (i := 2) rfl)) (hts (.code objectInit ⟨#[0xb1]⟩ 1 none) (List.mem_of_getElem? (i := 3) rfl)) rfl (by rw [hml]; exact hl.1) rfl dX6_init_1 (Nat.le_of_ble_eq_true rfl) (Nat.le_of_ble_eq_true rfl) ?_
  refine W.eq (g2 := F0 m 4 ls []) rfl ?_
  refine lv_aload_n hx hb dX6_init_4 rfl (lv_at hl 0 rfl) ?_
  refine lv_iconst (v := 4) hx hb dX6_init_5 (by decide) ?_
  refine wnewAI (q := t) (N := 4) (n := 4) hx hb (hts (.arrayClass .int) (List.mem_of_getElem? (i := 4) rfl)) hK hC ht hA hW rfl (by decide) ⟨Nat.le_of_ble_eq_true rfl, Nat.le_of_ble_eq_true rfl⟩ dX6_init_6 (fun sh ad H esh hk hge hC hA hW => ?_)
  rw [← (hk q nqt)] at hl
  rw [← (hk q nqt)]
  have hG := hG.new ht esh hk hge
  have hq : sh q = some (.inl (6, [2, 2, 0, 0, 0, 0, 0])) := by rw [esh, shU_ne nqt]; exact hq
  have gt : sh t = some (.inr (0, 4)) := by rw [esh]; exact shU_eq
  have hh : sh h = none := by rw [esh, shU_ne (Ne.symm nth)]; exact hh
  have eS := esh
  refine wpfR hx hb ff9 hin hA hW hq rfl rfl rfl dX6_init_8 (fun M8' H locs eM8 hW => ?_)
  have hC : CZ sh M8' := by rw [eM8]; exact hC.R (ne_none hq) (ne_none gt)
  refine lv_aload_n hx hb dX6_init_11 rfl (lv_at hl 0 rfl) ?_
  refine wnewZ (q := h) (ci := 5) (C := RX5) (T := TX5) (N := 5) (ks := [0, 0, 0, 0, 0]) hx hb hts (fun _ h => List.mem_cons_of_mem _ (List.mem_append_right _ (h))) tyX5 tyX5_ok hown (hts (.classLink RX6 15 RX5) (List.mem_of_getElem? (i := 6) rfl)) (hts (.instantiable RX5 5) (List.mem_of_getElem? (i := 7) rfl)) (hts (.initialized RX5) (List.mem_of_getElem? (i := 8) rfl)) hK rfl hC hh hA hW (by decide) (by decide) ⟨Nat.le_of_ble_eq_true rfl, Nat.le_of_ble_eq_true rfl⟩ dX6_init_12 (fun sh ad H esh hk hge hC hA hW => ?_)
  rw [← (hk q nqh)] at hl
  rw [← (hk q nqh)]
  have hG := hG.new hh esh hk hge
  have hq : sh q = some (.inl (6, [2, 2, 0, 0, 0, 0, 0])) := by rw [esh, shU_ne nqh]; exact hq
  have gt : sh t = some (.inr (0, 4)) := by rw [esh, shU_ne nth]; exact gt
  have gh : sh h = some (.inl (5, [0, 0, 0, 0, 0])) := by rw [esh]; exact shU_eq
  have eS := esh.trans (by rw [eS])
  refine lv_dup hx hb dX6_init_15 rfl ?_
  refine wc_wv (va_runIN (As := []) (rest := [.ref (ad h), .ref (ad q)]) ⟨hx, hb, hml, hown, hts⟩ (c_X5_init l D cA sh ad M8' _ h) ⟨va_cnB 0 hts gX6_init_X5_init_n17 rfl rfl rfl (hN.1 (RX6, 17, yX5_init, RX9) (List.mem_of_getElem? (i := 7) rfl)) (hts (.initialized RX5) (List.mem_of_getElem? (i := 8) rfl)) ⟨by decide, by decide, by decide +kernel⟩ ⟨Nat.le_of_ble_eq_true rfl, Nat.le_of_ble_eq_true rfl⟩, rfl, (hts (.instanceMethod yX5_init) (List.mem_of_getElem? (i := 10) rfl))⟩ (wpreS hK hW) rfl rfl hl.1 rfl (lv_room (Nat.le_of_ble_eq_true rfl)) dX6_init_16 ⟨Nat.le_of_ble_eq_true rfl, Nat.le_of_ble_eq_true rfl⟩) hA hW (fun M16' H locs p16' hW => ?_)
  try dsimp only at p16'
  rw [p16'] at hW
  refine wpfR hx hb ff18 hin hA hW hq rfl rfl rfl dX6_init_19 (fun M19' H locs eM19 hW => ?_)
  have hC : CZ sh M19' := by rw [eM19]; exact hC.R (ne_none hq) (ne_none gh)
  have rt9 : gR M19' q 0 = some t := by rw [eM19, eM8]; simp [gR_sR]
  have rh9 : gR M19' q 1 = some h := by rw [eM19, eM8]; simp [gR_sR]
  have hW := hW.upd (y := .inl (6, [t + 3, h + 3, 0, 0, 0, 0, 0])) (ne_none hq) (fun H hM => (hM.1 q _ hq).slots (fun k => match k with | 0 => Or.inr ⟨rfl, _, rt9, rfl⟩ | 1 => Or.inr ⟨rfl, _, rh9, rfl⟩ | k + 2 => Or.inl rfl))
  have hC := hC.sh (q := q) (x := .inl (6, [t + 3, h + 3, 0, 0, 0, 0, 0])) (fun t1 ht1 => by
      obtain ⟨k, hk⟩ := ht1
      match k with
      | 0 => exact (show t = t1 from Nat.add_right_cancel hk) ▸ ne_none gt
      | 1 => exact (show h = t1 from Nat.add_right_cancel hk) ▸ ne_none gh
      | 2 => exact absurd hk (by simp)
      | 3 => exact absurd hk (by simp)
      | 4 => exact absurd hk (by simp)
      | 5 => exact absurd hk (by simp)
      | 6 => exact absurd hk (by simp)
      | k + 7 => exact absurd hk (by simp))
  have hG := hG.upd (shU_none (x := .inl (6, [t + 3, h + 3, 0, 0, 0, 0, 0])) (ne_none hq))
  have hA := hA.upd (y := .inl (6, [t + 3, h + 3, 0, 0, 0, 0, 0])) (ne_none hq)
  obtain ⟨sh, eS2⟩ : ∃ z, z = shU sh q (.inl (6, [t + 3, h + 3, 0, 0, 0, 0, 0])) := ⟨_, rfl⟩
  rw [← eS2] at hW hC hG hA
  have gt : sh t = some (.inr (0, 4)) := by rw [eS2, shU_ne (Ne.symm nqt)]; exact gt
  have gh : sh h = some (.inl (5, [0, 0, 0, 0, 0])) := by rw [eS2, shU_ne (Ne.symm nqh)]; exact gh
  have hq : sh q = some (.inl (6, [t + 3, h + 3, 0, 0, 0, 0, 0])) := by rw [eS2]; exact shU_eq
  have eS := eS2.trans (by rw [eS])
  refine lv_aload_n hx hb dX6_init_22 rfl (lv_at hl 0 rfl) ?_
  refine lv_bipush (v := 50) hx hb dX6_init_23 (by decide) ?_
  refine lv_bipush (v := 20) hx hb dX6_init_25 (by decide) ?_
  refine lv_iconst (v := 0) hx hb dX6_init_27 (by decide) ?_
  refine wc_wv (va_runV (As := [.int 50, .int 20, .int 0]) (rest := []) ⟨hx, hb, hml, hown, hts⟩ (c_X6_shape l D cA sh ad M19' _ q t h hq gt gh 50 20 0 (flN 50 20) (flN_ok hb9 hd9)) (cwV 3 hts gX6_init_X6_shape rfl rfl rfl (by decide +kernel) ⟨Nat.le_of_ble_eq_true rfl, Nat.le_of_ble_eq_true rfl⟩) (wpreV hK hW (C := RX6) (ci := 6) hq rfl) rfl rfl hl.1 rfl (lv_room (Nat.le_of_ble_eq_true rfl)) dX6_init_28 ⟨Nat.le_of_ble_eq_true rfl, Nat.le_of_ble_eq_true rfl⟩) hA hW (fun M28' H locs p28' hW => ?_)
  try dsimp only at p28'
  obtain ⟨z1, z2, z3, z4, z5, z6, z7⟩ := p28'
  have hC := hC.oI z7 (fun p k z => by rcases z with z | z | z <;> rw [z]; exact ne_none hq; exact ne_none gt; exact ne_none gh)
  refine W.widen (k := 2) (n := 9) (by decide) (by decide) ?_
  rw [← hQ9]
  exact wr_cv hx hb hr hlocks hW dX6_init_31 hG hC (by rw [eS, ← es0]) ⟨M19', by rw [eM19, eM8], z1, z2, z3, z4, z5, z6, z7⟩

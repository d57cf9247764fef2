/-! The world grows. -/
def shU (sh : Nat → Option Sh) (q : Nat) (x : Sh) : Nat → Option Sh := fun p => if p = q then some x else sh p
theorem shU_eq {sh : Nat → Option Sh} {q : Nat} {x : Sh} : shU sh q x q = some x := if_pos rfl
theorem shU_ne {sh : Nat → Option Sh} {q p : Nat} {x : Sh} (h : p ≠ q) : shU sh q x p = sh p := if_neg h
theorem arrV_congr {cI : ClassId} {N : Nat} {f g : Nat → Value} (h : ∀ j, j < N → f j = g j) : arrV cI N f = arrV cI N g := by
  unfold arrV
  have e : (Array.ofFn (n := N) fun j => f j.val) = Array.ofFn (n := N) fun j => g j.val := by
    congr 1
    funext j
    exact h j.val j.isLt
  rw [e]
/-- what a cell says under another naming of the places -/
def fre (ad ad1 : Nat → Nat) (M M1 : MS) (p : Nat) : Sh → Prop
  | .inl o => ∀ k, fv ad1 M1 p k (o.2.getD k 0) = fv ad M p k (o.2.getD k 0)
  | .inr a => ∀ c : ClassId, vp_cell c (a.2, av ad1 M1 p a.1) = vp_cell c (a.2, av ad M p a.1)
theorem wat.re {D : va_G} {cA : Nat → ClassId} {ad ad1 : Nat → Nat} {M M1 : MS} {H H1 : Heap} {p : Nat} {x : Sh} (h : wat D cA ad M H p x) (e : fre ad ad1 M M1 p x) (hp : ad1 p = ad p) (hq : H1[ad p]? = H[ad p]?) : wat D cA ad1 M1 H1 p x := by
  cases x with
  | inl o =>
    obtain ⟨r, h1, h2⟩ := h
    refine ⟨r, h1, ?_⟩
    rw [hp]
    exact (h2.kept hq).to (fun k _ => (e k).symm)
  | inr a =>
    show H1[ad1 p]? = some (vp_cell _ (a.2, av ad1 M1 p a.1))
    rw [hp, hq, e]
    exact h
theorem WM.newG {D : va_G} {cA : Nat → ClassId} {sh : Nat → Option Sh} {ad ad1 : Nat → Nat} {M M1 : MS} {H H1 : Heap} {q : Nat} {x : Sh} (h : WM D cA sh ad M H) (hq : sh q = none) (ho : ∀ a, a < H.size → H1[a]? = H[a]?)
    (h1 : ∀ p y, sh p = some y → ad1 p = ad p ∧ fre ad ad1 M M1 p y) (h2 : ad1 q = H.size) (hx : wat D cA ad1 M1 H1 q x) : WM D cA (shU sh q x) ad1 M1 H1 := by
  have old : ∀ p y, p ≠ q → shU sh q x p = some y → sh p = some y := fun p y hp hy => by rw [shU_ne hp] at hy; exact hy
  refine ⟨fun p y hy => ?_, fun p p' y y' hy hy' he => ?_⟩
  · by_cases e : p = q
    · subst e
      rw [shU_eq] at hy
      cases hy
      exact hx
    · have hy2 := old p y e hy
      exact (h.1 p y hy2).re (h1 p y hy2).2 (h1 p y hy2).1 (ho _ (h.1 p y hy2).lt)
  · by_cases e : p = q
    · by_cases e2 : p' = q
      · rw [e, e2]
      · exfalso
        have hy2 := old p' y' e2 hy'
        have := (h.1 p' y' hy2).lt
        rw [(h1 p' y' hy2).1.symm, ← he, e, h2] at this
        exact Nat.lt_irrefl _ this
    · have hy1 := old p y e hy
      by_cases e2 : p' = q
      · exfalso
        have := (h.1 p y hy1).lt
        rw [(h1 p y hy1).1.symm, he, e2, h2] at this
        exact Nat.lt_irrefl _ this
      · have hy2 := old p' y' e2 hy'
        exact h.2 p p' y y' hy1 hy2 (by rw [← (h1 p y hy1).1, ← (h1 p' y' hy2).1]; exact he)
theorem PA.new {sh : Nat → Option Sh} {ad ad1 : Nat → Nat} {A : Nat → Prop} {H0 : Heap} {q : Nat} {x : Sh} (h : PA sh ad A H0) (hk : ∀ p y, sh p = some y → ad1 p = ad p) (hge : H0.size ≤ ad1 q) : PA (shU sh q x) ad1 A H0 := by
  refine ⟨fun p y hy => ?_, h.2⟩
  by_cases e : p = q
  · subst e; exact h.2 _ hge
  · rw [shU_ne e] at hy
    rw [hk p y hy]; exact h.1 p y hy
/-- the places of a shape -/
def frf (x : Sh) (t : Nat) : Prop := match x with
  | .inl o => ∃ k, o.2.getD k 0 = t + 3
  | .inr a => (a.1 = 6 ∧ ∃ i, i < a.2 ∧ t = 40 + i) ∨ (6 < a.1 ∧ ∃ i, i < a.2 ∧ t = 30 + i)
/-- the shapes' places are known, the references go to known places -/
def CL (sh : Nat → Option Sh) (M : MS) : Prop := (∀ p x t, sh p = some x → frf x t → sh t ≠ none) ∧ ∀ p k t, gR M p k = some t → sh t ≠ none
theorem fre_of {ad ad1 : Nat → Nat} {M M1 : MS} {p : Nat} {x : Sh} (e1 : ∀ k, gI M1 p k = gI M p k) (e2 : ∀ k, gL M1 p k = gL M p k) (e3 : ∀ k, (gR M1 p k).map ad1 = (gR M p k).map ad) (e4 : ∀ t, frf x t → ad1 t = ad t) : fre ad ad1 M M1 p x := by
  cases x with
  | inl o =>
    intro k
    generalize ht : o.2.getD k 0 = t
    match t, ht with
    | 0, _ => exact congrArg Value.int (e1 k)
    | 1, _ => exact congrArg Value.long (e2 k)
    | 2, _ => exact congrArg va_rf (e3 k)
    | t + 3, ht => exact congrArg Value.ref (e4 t ⟨k, ht⟩)
  | inr a =>
    intro c
    obtain ⟨t, n⟩ := a
    have h1 : gI M1 p = gI M p := funext e1
    have h2 : gL M1 p = gL M p := funext e2
    have h3 : (fun i => (gR M1 p i).map ad1) = fun i => (gR M p i).map ad := funext e3
    show vp_cell c (n, av ad1 M1 p t) = vp_cell c (n, av ad M p t)
    unfold av
    rw [h1, h2, h3]
    split
    · rfl
    · split
      · rfl
      · split
        · rfl
        · rw [vp_cell_q, vp_cell_q]
          refine arrV_congr (fun j hj => ?_)
          by_cases h6 : t = 6
          · subst h6
            rw [if_pos rfl]
            exact congrArg (fun z => va_rf (some z)) (e4 (40 + j) (Or.inl ⟨rfl, j, hj, rfl⟩))
          · rw [if_neg h6]
            exact congrArg (fun z => va_rf (some z)) (e4 (30 + j) (Or.inr ⟨by show 6 < t; omega, j, hj, rfl⟩))
/-- zero at a place -/
def zer (M : MS) (q : Nat) : MS := (fun a b => if a = q then 0 else M.1 a b, fun a b => if a = q then 0 else M.2.1 a b, fun a b => if a = q then none else M.2.2 a b)
theorem gI_zer (M : MS) (q p k : Nat) : gI (zer M q) p k = if p = q then 0 else gI M p k := rfl
theorem gL_zer (M : MS) (q p k : Nat) : gL (zer M q) p k = if p = q then 0 else gL M p k := rfl
theorem gR_zer (M : MS) (q p k : Nat) : gR (zer M q) p k = if p = q then none else gR M p k := rfl
/-- the places from q on move up by one -/
def sft (q t : Nat) : Nat := if q ≤ t then t + 1 else t
def shM (M : MS) (q : Nat) : MS := (fun a b => if a = q then 0 else M.1 a b, fun a b => if a = q then 0 else M.2.1 a b, fun a b => if a = q then none else (M.2.2 a b).map (sft q))
def shA (ad : Nat → Nat) (q n : Nat) : Nat → Nat := fun t => if t < q then ad t else if t = q then n else ad (t - 1)
theorem shA_sft (ad : Nat → Nat) (q n t : Nat) : shA ad q n (sft q t) = ad t := by
  unfold shA sft
  by_cases h : q ≤ t
  · rw [if_pos h, if_neg (by omega), if_neg (by omega)]; rfl
  · rw [if_neg h, if_pos (by omega)]
theorem shA_q (ad : Nat → Nat) (q n : Nat) : shA ad q n q = n := by unfold shA; rw [if_neg (by omega), if_pos rfl]
theorem shA_lo (ad : Nat → Nat) {q n t : Nat} (h : t < q) : shA ad q n t = ad t := by unfold shA; rw [if_pos h]
theorem shM_R1 {M : MS} {q p k t : Nat} (hp : p ≠ q) (ht : t < q) (h : gR M p k = some t) : gR (shM M q) p k = some t := by
  show (if p = q then none else (gR M p k).map (sft q)) = some t
  rw [if_neg hp, h]
  show some (sft q t) = some t
  unfold sft
  rw [if_neg (by omega)]
theorem shM_R0 {M : MS} {q p k : Nat} (hp : p ≠ q) (h : gR M p k = none) : gR (shM M q) p k = none := by
  show (if p = q then none else (gR M p k).map (sft q)) = none
  rw [if_neg hp, h]; rfl
theorem shM_I {M : MS} {q p k : Nat} (hp : p ≠ q) : gI (shM M q) p k = gI M p k := if_neg hp
theorem shM_L {M : MS} {q p k : Nat} (hp : p ≠ q) : gL (shM M q) p k = gL M p k := if_neg hp
section WN
variable {p : Program} {l : Launch} {e : Env} {R : Room} {s : State} {m : MethodId} {args : Array Value} {below : List Frame} {meth : Method} {c : Code} {H : Heap} {locs : List Loc} {cells slots : Nat} {Q : State → Prop}
variable {cc : ByteArray} {pc : Nat} {ls : Array Slot} {rest : List Value} {D : va_G} {cA : Nat → ClassId} {sh : Nat → Option Sh} {ad : Nat → Nat} {A : Nat → Prop} {H0 : Heap} {M : MS}
theorem wnewO (hexec : p.tables.exec = Jvm.exec) (hb : c.code = cc) {own C : String} {T : u_T} {N ci index q : Nat} {ks : List Nat} {Ts : List Cond} (hts : ∀ w ∈ Ts, w.before args s = true) (hin : ∀ w ∈ u_ws C T N, w ∈ Ts) (ty : Nat → FieldType) (hty : ∀ k, k < N → parseFieldDescriptor (T k).2.2.1 = some (ty k)) (hown : s.vm.findClass own = some m.cls)
    (hcl : (Cond.classLink own index C).before args s = true) (hinst : (Cond.instantiable C N).before args s = true) (hini : (Cond.initialized C).before args s = true) (hK : va_K D vwCl (wty cA) s) (hc : vwCl[ci]? = some (C, T, N)) (hA : PA sh ad A H0) (hW : WS D cA sh ad A H0 M H locs) (hq : sh q = none)
    (ad1 : Nat → Nat → Nat) (M1 : MS) (h1 : ∀ n p y, sh p = some y → ad1 n p = ad p ∧ fre ad (ad1 n) M M1 p y) (h2 : ∀ n, ad1 n q = n) (hz : ∀ n j, j < N → defaultValue (ty j) = fv (ad1 n) M1 q j (ks.getD j 0)) (hcells : cells + 1 ≤ R.cells ∧ slots + N ≤ R.slots) (hdg : decode cc pc = .ok (.new index, 3))
    (kk : ∀ (n : Nat) (H1 : Heap), PA (shU sh q (.inl (ci, ks))) (ad1 n) A H0 → H0.size ≤ ad1 n q → WS D cA (shU sh q (.inl (ci, ks))) (ad1 n) A H0 M1 H1 locs → W p l e R s m args below meth c H1 locs (cells + 1) (slots + N) Q (F0 m (pc + 3) ls (.ref (ad1 n q) :: rest))) : W p l e R s m args below meth c H locs cells slots Q (F0 m pc ls rest) := by
  have hKn := hK.1 ci _ hc
  refine W.newcK hexec hb hown hcl hinst hini rfl hdg hcells.1 hcells.2 hKn.2.1 rfl fun H1 kC hkC e1 z1 o1 => ?_
  have hge : H0.size ≤ ad1 H.size q := by rw [h2]; exact hW.2.1
  have kk2 := kk H.size H1 (hA.new (fun p y hy => (h1 H.size p y hy).1) hge) hge
  rw [h2] at kk2
  refine kk2 ⟨hW.1.newG hq o1 (h1 H.size) (h2 H.size) ⟨_, hc, ?_⟩, Nat.le_trans hW.2.1 (by omega), fun x h3 h4 => (o1 x (Nat.lt_of_lt_of_le h3 hW.2.1)).trans (hW.2.2.1 x h3 h4), hW.2.2.2⟩
  rw [h2]
  exact (u_born ty hts hin hKn hkC e1 hty).to (hz H.size)
/-- a new object behind all known places -/
theorem wnewS (hexec : p.tables.exec = Jvm.exec) (hb : c.code = cc) {own C : String} {T : u_T} {N ci index q : Nat} {ks : List Nat} {Ts : List Cond} (hts : ∀ w ∈ Ts, w.before args s = true) (hin : ∀ w ∈ u_ws C T N, w ∈ Ts) (ty : Nat → FieldType) (hty : ∀ k, k < N → parseFieldDescriptor (T k).2.2.1 = some (ty k)) (hown : s.vm.findClass own = some m.cls)
    (hcl : (Cond.classLink own index C).before args s = true) (hinst : (Cond.instantiable C N).before args s = true) (hini : (Cond.initialized C).before args s = true) (hK : va_K D vwCl (wty cA) s) (hc : vwCl[ci]? = some (C, T, N)) (hA : PA sh ad A H0) (hW : WS D cA sh ad A H0 M H locs)
    (hlo : ∀ p y, sh p = some y → p < q ∧ ∀ t, frf y t → t < q) (hz : ∀ j, j < N → defaultValue (ty j) = if ks.getD j 0 = 0 then .int 0 else if ks.getD j 0 = 1 then .long 0 else .null) (hk2 : ∀ j, j < N → ks.getD j 0 ≤ 2) (hcells : cells + 1 ≤ R.cells ∧ slots + N ≤ R.slots) (hdg : decode cc pc = .ok (.new index, 3))
    (kk : ∀ (sh1 : Nat → Option Sh) (ad1 : Nat → Nat) (M1 : MS) (H1 : Heap), sh1 = shU sh q (.inl (ci, ks)) → M1 = shM M q → (∀ t, t < q → ad1 t = ad t) → H0.size ≤ ad1 q → PA sh1 ad1 A H0 → WS D cA sh1 ad1 A H0 M1 H1 locs → W p l e R s m args below meth c H1 locs (cells + 1) (slots + N) Q (F0 m (pc + 3) ls (.ref (ad1 q) :: rest))) : W p l e R s m args below meth c H locs cells slots Q (F0 m pc ls rest) := by
  refine wnewO hexec hb hts hin ty hty hown hcl hinst hini hK hc hA hW (q := q) (ks := ks) ?_ (fun n => shA ad q n) (shM M q) (fun n p y hy => ⟨shA_lo ad (hlo p y hy).1, ?_⟩) (fun n => shA_q ad q n) (fun n j hj => ?_) hcells hdg (fun n H1 h1 h2 h3 => kk _ _ _ H1 rfl rfl (fun t ht => shA_lo ad ht) h2 h1 h3)
  · cases hq : sh q with
    | none => rfl
    | some y => exact absurd (hlo q y hq).1 (Nat.lt_irrefl _)
  · have hne : p ≠ q := Nat.ne_of_lt (hlo p y hy).1
    refine fre_of (fun k => shM_I hne) (fun k => shM_L hne) (fun k => ?_) (fun t ht => shA_lo ad ((hlo p y hy).2 t ht))
    show (if p = q then none else (gR M p k).map (sft q)).map _ = _
    rw [if_neg hne]
    cases gR M p k with
    | none => rfl
    | some t => exact congrArg some (shA_sft ad q n t)
  · rw [hz j hj]
    have h3 := hk2 j hj
    generalize ks.getD j 0 = t at h3
    have e1 : gI (shM M q) q j = 0 := if_pos rfl
    have e2 : gL (shM M q) q j = 0 := if_pos rfl
    have e3 : gR (shM M q) q j = none := if_pos rfl
    match t, h3 with
    | 0, _ => show Value.int 0 = .int (gI (shM M q) q j); rw [e1]
    | 1, _ => show Value.long 0 = .long (gL (shM M q) q j); rw [e2]
    | 2, _ => show Value.null = va_rf ((gR (shM M q) q j).map _); rw [e3]; rfl
    | t + 3, h => exact absurd h (by omega)
end WN
/-- a new cue -/
def oCue (σ : AS) (b k r : Nat) : AS := uN (uN (uN (uN σ 7 (aN σ) b) 8 (aN σ) k) 9 (aN σ) r) 6 0 (aN σ + 1)
theorem oCue_n (σ : AS) (b k r : Nat) : aN (oCue σ b k r) = aN σ + 1 := rfl
theorem oCue_10 (σ : AS) (b k r i : Nat) : (oCue σ b k r).2 10 i = σ.2 10 i := rfl
theorem AOK_cue {σ : AS} {b k r : Nat} (ok : AOK σ) (hn : aN σ < 40) (hb : b ≤ 100) (hk : k < 4) (hr : r < 6) : AOK (oCue σ b k r) := by
  obtain ⟨o1, o2, o3, o4, o5, o6, o7, o8, o9, o10, o11⟩ := ok
  refine ⟨hn, o2, o3, o4, o5, o6, fun i hi => ?_, o8, o9, fun i hi => ?_, o11⟩
  · rw [oCue_10]
    rw [oCue_n] at hi
    simp only [oCue, uN]
    by_cases e9 : i = aN σ
    · subst e9
      have := o10 (aN σ) (Nat.le_refl _)
      simp
      exact ⟨hb, hk, hr, by omega⟩
    · have := o7 i (by omega)
      simpa [e9] using this
  · rw [oCue_n] at hi
    rw [oCue_10]
    exact o10 i (by omega)
theorem XR_cue {σ : AS} {M M' : MS} {b k r n : Nat} (h : XR σ M) (hn : n = aN σ) (hn40 : n < 40) (F : ∀ p j, XRs p j → ¬ (p = 100 + n) → ¬ (p = 0 ∧ j = 10) → gI M' p j = gI M p j)
    (G0 : ∀ i, i ≠ n → gR M 11 i = none → gR M' 11 i = none) (G1 : ∀ p j t, ¬ (p = 11 ∧ j = n) → p ≠ 100 + n → t < 100 + n → gR M p j = some t → gR M' p j = some t) (hok : AOK σ)
    (e0 : gI M' 0 10 = nI (n + 1)) (e1 : gR M' 11 n = some (100 + n)) (e2 : gI M' (100 + n) 0 = nI n ∧ gI M' (100 + n) 1 = nI b ∧ gR M' (100 + n) 2 = some (40 + k) ∧ gR M' (100 + n) 3 = some (30 + r)) : XR (oCue σ b k r) M' := by
  subst hn
  obtain ⟨a1, a2, a3, a4, a5, a6, a7, a8, a9, a10, a11, a12⟩ := h
  refine ⟨?_, ?_, ?_, ?_, ?_, ?_, ?_, ?_, ?_, ?_, ?_, ?_⟩
  · exact fun k9 hk9 => (F _ _ (by unfold XRs; omega) (by omega) (by omega)).trans (a1 k9 hk9)
  · exact trivial
  · exact fun r9 hr9 => ⟨(F _ _ (by unfold XRs; omega) (by omega) (by omega)).trans (a3 r9 hr9).1, (F _ _ (by unfold XRs; omega) (by omega) (by omega)).trans (a3 r9 hr9).2⟩
  · intro k9 hk9
    obtain ⟨b1, b2, b3, b4, b5, b6⟩ := a4 k9 hk9
    exact ⟨(F _ _ (by unfold XRs; omega) (by omega) (by omega)).trans b1, (F _ _ (by unfold XRs; omega) (by omega) (by omega)).trans b2, (F _ _ (by unfold XRs; omega) (by omega) (by omega)).trans b3, (F _ _ (by unfold XRs; omega) (by omega) (by omega)).trans b4, (F _ _ (by unfold XRs; omega) (by omega) (by omega)).trans b5, fun y9 hy9 => (F _ _ (by unfold XRs; omega) (by omega) (by omega)).trans (b6 y9 hy9)⟩
  · exact fun y9 hy9 => ⟨(F _ _ (by unfold XRs; omega) (by omega) (by omega)).trans (a5 y9 hy9).1, (F _ _ (by unfold XRs; omega) (by omega) (by omega)).trans (a5 y9 hy9).2⟩
  · exact trivial
  · exact fun c9 hc9 => (F _ _ (by unfold XRs; omega) (by omega) (by omega)).trans (a7 c9 hc9)
  · exact (F _ _ (by unfold XRs; omega) (by omega) (by omega)).trans a8
  · exact (F _ _ (by unfold XRs; omega) (by omega) (by omega)).trans a9
  · exact e0
  · intro i hi
    rw [oCue_n, oCue_10]
    by_cases e9 : i = aN σ
    · subst e9
      exact Or.inr ⟨e1, by omega, hok.2.2.2.2.2.2.2.2.2.1 _ (Nat.le_refl _)⟩
    · rcases a11 i hi with ⟨z1, z2⟩ | ⟨z1, z2, z3⟩
      · exact Or.inl ⟨G0 i e9 z1, fun z => z2 ⟨by omega, z.2⟩⟩
      · exact Or.inr ⟨G1 11 i _ (by omega) (by omega) (by omega) z1, by omega, z3⟩
  · intro i hi
    rw [oCue_n] at hi
    simp only [oCue, uN]
    by_cases e9 : i = aN σ
    · subst e9
      simpa using e2
    · obtain ⟨z1, z2, z3, z4⟩ := a12 i (by omega)
      obtain ⟨b1, b2, b3, b4⟩ := hok.2.2.2.2.2.2.1 i (by omega)
      rw [F _ _ (by unfold XRs; omega) (by omega) (by omega), F _ _ (by unfold XRs; omega) (by omega) (by omega), G1 _ _ _ (by omega) (by omega) (by omega) z3, G1 _ _ _ (by omega) (by omega) (by omega) z4]
      simpa [e9] using ⟨z1, z2⟩
theorem cue_pres (σ : AS) (b k r : Nat) : ∀ j, pres σ j = (pres (oCue σ b k r) j && decide (j ≠ aN σ)) := fun j => by
  unfold pres
  rw [oCue_n, oCue_10]
  by_cases h : j = aN σ
  · subst h; simp
  · have : j < aN σ + 1 ↔ j < aN σ := by omega
    simp [h, this]
/-- all that is known: the show with n cues, the reference, the law's row -/
def shL (n : Nat) : Nat → Option Sh := fun p => if p < 85 then shT.getD p none else if p = 90 then none else if 100 ≤ p ∧ p < 100 + n then some cueSh else none
theorem shL_X (n : Nat) : XSh n (shL n) := ⟨fun p hp => by unfold shL; rw [if_pos (by omega)], fun i hi => by unfold shL; rw [if_neg (by omega), if_neg (by omega), if_pos (by omega)]⟩
theorem shL_M (n : Nat) : MSh (shL n) := fun p h1 h2 => by unfold shL; rw [if_pos (by omega)]
theorem shL_67 (n : Nat) : shL n 67 = none := rfl
theorem shL_s (n : Nat) : shU (shL n) (100 + n) cueSh = shL (n + 1) := by
  funext p
  unfold shU shL
  by_cases h : p = 100 + n
  · subst h
    rw [if_pos rfl, if_neg (by omega), if_neg (by omega), if_pos (by omega)]
  · rw [if_neg h]
    by_cases h2 : p < 85
    · rw [if_pos h2, if_pos h2]
    · rw [if_neg h2, if_neg h2]
      by_cases h3 : p = 90
      · rw [if_pos h3, if_pos h3]
      · rw [if_neg h3, if_neg h3]
        by_cases h4 : 100 ≤ p ∧ p < 100 + n
        · rw [if_pos h4, if_pos (by omega)]
        · rw [if_neg h4, if_neg (by omega)]
def frB2 (x : Sh) (t : Nat) : Bool := match x with
  | .inl o => o.2.all (fun z => decide (z < t + 3))
  | .inr a => decide (a.1 ≤ 7 ∧ a.2 ≤ 101)
theorem frB2_frf {x : Sh} {q t : Nat} (hq : 100 ≤ q) (h : frB2 x q = true) (hx : ∀ n, x = .inr (6, n) ∨ x = .inr (7, n) → n ≤ 6) (hf : frf x t) : t < q := by
  cases x with
  | inl o =>
    obtain ⟨k, hk⟩ := hf
    unfold frB2 at h
    simp only [List.all_eq_true, decide_eq_true_eq] at h
    by_cases hl : k < o.2.length
    · have := h (o.2[k]) (List.getElem_mem hl)
      rw [List.getD_eq_getElem?_getD, List.getElem?_eq_getElem hl] at hk
      simp at hk
      omega
    · rw [List.getD_eq_getElem?_getD, List.getElem?_eq_none (by omega)] at hk
      simp at hk
  | inr a =>
    obtain ⟨t0, n⟩ := a
    unfold frB2 at h
    have h2 := of_decide_eq_true h
    rcases hf with ⟨z1, i, hi, e⟩ | ⟨z1, i, hi, e⟩
    · have z2 : t0 = 6 := z1
      have := hx n (Or.inl (by rw [z2]))
      have hi2 : i < n := hi
      omega
    · have z2 : 6 < t0 := z1
      have z3 : t0 ≤ 7 := h2.1
      have := hx n (Or.inr (by rw [show t0 = 7 by omega]))
      have hi2 : i < n := hi
      omega
theorem shT_fr : ∀ p, p < 85 → ∀ x, shT.getD p none = some x → frB2 x 100 = true ∧ (∀ n, x = .inr (6, n) ∨ x = .inr (7, n) → n ≤ 6) := by
  intro p hp x hx
  have key : ∀ p, p < 85 → (match shT.getD p none with | none => true | some x => frB2 x 100 && (match x with | .inl _ => true | .inr a => decide (a.1 < 6 ∨ a.2 ≤ 6))) = true := by decide +kernel
  have h := key p hp
  rw [hx] at h
  simp only [Bool.and_eq_true] at h
  refine ⟨h.1, fun n hn => ?_⟩
  rcases hn with e | e <;> subst e
  · have := of_decide_eq_true h.2; simp at this; exact this
  · have := of_decide_eq_true h.2; simp at this; exact this
theorem frB2_mono {x : Sh} {a b : Nat} (h : a ≤ b) (hx : frB2 x a = true) : frB2 x b = true := by
  cases x with
  | inl o =>
    unfold frB2 at hx ⊢
    simp only [List.all_eq_true, decide_eq_true_eq] at hx ⊢
    exact fun z hz => by have := hx z hz; omega
  | inr a => exact hx
theorem shL_lo (n : Nat) : ∀ p y, shL n p = some y → p < 100 + n ∧ ∀ t, frf y t → t < 100 + n := by
  intro p y hy
  unfold shL at hy
  by_cases h2 : p < 85
  · rw [if_pos h2] at hy
    obtain ⟨f1, f2⟩ := shT_fr p h2 y hy
    exact ⟨by omega, fun t ht => frB2_frf (by omega) (frB2_mono (by omega) f1) f2 ht⟩
  · rw [if_neg h2] at hy
    by_cases h3 : p = 90
    · rw [if_pos h3] at hy; cases hy
    · rw [if_neg h3] at hy
      by_cases h4 : 100 ≤ p ∧ p < 100 + n
      · rw [if_pos h4] at hy
        cases hy
        refine ⟨by omega, fun t ht => frB2_frf (by omega) (frB2_mono (show 0 ≤ 100 + n by omega) (by decide)) (fun n hn => by rcases hn with e | e <;> cases e) ht⟩
      · rw [if_neg h4] at hy; cases hy
/-- contracts of what makes: the world behind it is another -/
def cQi (D : va_G) (cA : Nat → ClassId) (sh : Nat → Option Sh) (ad : Nat → Nat) (sz : Nat) (sh2 : Nat → Option Sh) (post : Int32 → MS → Prop) (A : Nat → Prop) : Array Value → State → Outcome → State → Prop :=
  va_Qi (S := (Nat → Nat) × MS) (fun r u => (∀ p y, sh p = some y → u.1 p = ad p) ∧ (∀ p y, sh2 p = some y → sh p = none → sz ≤ u.1 p) ∧ post r u.2) (fun u t => WM D cA sh2 u.1 u.2 t.heap) A
theorem wr_ci {p : Program} {l : Launch} {e : Env} {R : Room} {s : State} {m : MethodId} {args : Array Value} {below : List Frame} {meth : Method} {c : Code} {H : Heap} {locs : List Loc} {cells slots : Nat} {cc : ByteArray} {pc : Nat} {ls : Array Slot} {D : va_G} {cA : Nat → ClassId} {sh sh2 : Nat → Option Sh} {ad ad2 : Nat → Nat} {A : Nat → Prop} {M : MS} {sz : Nat}
    {post : Int32 → MS → Prop} {x : Int32} (hexec : p.tables.exec = Jvm.exec) (hb : c.code = cc) (hr : meth.sig.returnType = some .int) (hlocks : meth.locks = false) (hW : WS D cA sh2 ad2 A s.heap M H locs) (hdg : decode cc pc = .ok (.ireturn, 1)) (h1 : ∀ p y, sh p = some y → ad2 p = ad p) (h2 : ∀ p y, sh2 p = some y → sh p = none → sz ≤ ad2 p) (hp : post x M) :
    W p l e R s m args below meth c H locs cells slots (MQ below (cQi D cA sh ad sz sh2 post A) args s cells slots A) (F0 m pc ls [.int x]) :=
  W.iret (v := x) hexec hb hr (fun t ht _ => ⟨⟨x, (ad2, M), rfl, ⟨h1, h2, hp⟩, (show WM D cA sh2 ad2 M t.heap by rw [ht]; exact hW.1)⟩, hW.2.F ht⟩) hW.2.2.2 hdg hlocks
set_option maxHeartbeats 4000000 in
set_option maxRecDepth 100000 in
theorem c_X2_init (l : Launch) (D : va_G) (cA : Nat → ClassId) (sh : Nat → Option Sh) (ad : Nat → Nat) (M : MS) (sz : Nat) (q kp rp : Nat) (hq : sh q = some (.inl (2, [0, 0, 2, 2, 1, 0, 0, 0, 0]))) (x y : Int32) : Met l yX2_init wsX2_init ({ frames := 1, cells := 0, slots := 0, locals := 20 }) (wPc D cA sh ad M sz [.ref (ad q), .int x, .int y, .ref (ad kp), .ref (ad rp)]) (wQv D cA sh ad (fun M' => gI M' q 0 = x ∧ gI M' q 1 = y ∧ gR M' q 2 = some kp ∧ gR M' q 3 = some rp ∧ oA (fun p _ => p = q) M M') (wA sh ad sz)) 0 0 (wA sh ad sz) := by
  refine Met.ofW (cc := cX2_init) (maxL := 5) (ret := none) (by decide) rfl ?_
  intro p e s m args below meth cd0 s₁ B hml hv
  obtain ⟨rfl, hsz, hM, hK⟩ := hv
  have hx := B.exec
  have hb := B.bytes
  have hr := B.returns
  have hts := atoms_spec (ws := wsX2_init) B.pre
  have hown : s.vm.findClass RX2 = some m.cls := findClass_of_methodNamed B.named
  have hlocks := B.notSynchronized
  have hin : meth.name = "<init>" := (name_of_methodNamed B.named B.method).1
  subst hsz
  have hA := wA_PA sh ad s.heap
  generalize wA sh ad s.heap.size = A at hA ⊢
  have hW : WS D cA sh ad A s.heap M s.heap [] := ⟨hM, va_S.rf⟩
  have ff28 : FF D s m ([.ref (ad q), .int x, .int y, .ref (ad kp), .ref (ad rp)] : List Value).toArray 28 2 0 (.int) := FF.mk (C := RX2) (T := TX2) (N := 9) hts (fun _ h => List.mem_cons_of_mem _ (List.mem_append_right _ (h))) hown hK rfl (by decide) (hts (.fieldLink RX2 28 "MortarShow$Cue" "number" "I") (List.mem_of_getElem? (i := 9) rfl)) tyX2 tyX2_ok nmX2 rfl rfl rfl
  have ff31 : FF D s m ([.ref (ad q), .int x, .int y, .ref (ad kp), .ref (ad rp)] : List Value).toArray 31 2 1 (.int) := FF.mk (C := RX2) (T := TX2) (N := 9) hts (fun _ h => List.mem_cons_of_mem _ (List.mem_append_right _ (h))) hown hK rfl (by decide) (hts (.fieldLink RX2 31 "MortarShow$Cue" "beat" "I") (List.mem_of_getElem? (i := 10) rfl)) tyX2 tyX2_ok nmX2 rfl rfl rfl
  have ff34 : FF D s m ([.ref (ad q), .int x, .int y, .ref (ad kp), .ref (ad rp)] : List Value).toArray 34 2 2 (.object "MortarShow$Kind") := FF.mk (C := RX2) (T := TX2) (N := 9) hts (fun _ h => List.mem_cons_of_mem _ (List.mem_append_right _ (h))) hown hK rfl (by decide) (hts (.fieldLink RX2 34 "MortarShow$Cue" "kind" "LMortarShow$Kind;") (List.mem_of_getElem? (i := 11) rfl)) tyX2 tyX2_ok nmX2 rfl rfl rfl
  have ff38 : FF D s m ([.ref (ad q), .int x, .int y, .ref (ad kp), .ref (ad rp)] : List Value).toArray 38 2 3 (.object "MortarShow$Rack") := FF.mk (C := RX2) (T := TX2) (N := 9) hts (fun _ h => List.mem_cons_of_mem _ (List.mem_append_right _ (h))) hown hK rfl (by decide) (hts (.fieldLink RX2 38 "MortarShow$Cue" "rack" "LMortarShow$Rack;") (List.mem_of_getElem? (i := 12) rfl)) tyX2 tyX2_ok nmX2 rfl rfl rfl
  have fw9 : FW D s m ([.ref (ad q), .int x, .int y, .ref (ad kp), .ref (ad rp)] : List Value).toArray 9 2 4 (.long) := FW.mk (C := RX2) (T := TX2) (N := 9) hts (fun _ h => List.mem_cons_of_mem _ (List.mem_append_right _ (h))) hown hK rfl (by decide) (hts (.fieldLink RX2 9 "MortarShow$Cue" "zones" "J") (List.mem_of_getElem? (i := 4) rfl)) tyX2 tyX2_ok nmX2 rfl rfl
  have fw15 : FW D s m ([.ref (ad q), .int x, .int y, .ref (ad kp), .ref (ad rp)] : List Value).toArray 15 2 5 (.int) := FW.mk (C := RX2) (T := TX2) (N := 9) hts (fun _ h => List.mem_cons_of_mem _ (List.mem_append_right _ (h))) hown hK rfl (by decide) (hts (.fieldLink RX2 15 "MortarShow$Cue" "burstTick" "I") (List.mem_of_getElem? (i := 5) rfl)) tyX2 tyX2_ok nmX2 rfl rfl
  have fw19 : FW D s m ([.ref (ad q), .int x, .int y, .ref (ad kp), .ref (ad rp)] : List Value).toArray 19 2 6 (.int) := FW.mk (C := RX2) (T := TX2) (N := 9) hts (fun _ h => List.mem_cons_of_mem _ (List.mem_append_right _ (h))) hown hK rfl (by decide) (hts (.fieldLink RX2 19 "MortarShow$Cue" "fireTick" "I") (List.mem_of_getElem? (i := 6) rfl)) tyX2 tyX2_ok nmX2 rfl rfl
  have fw22 : FW D s m ([.ref (ad q), .int x, .int y, .ref (ad kp), .ref (ad rp)] : List Value).toArray 22 2 7 (.int) := FW.mk (C := RX2) (T := TX2) (N := 9) hts (fun _ h => List.mem_cons_of_mem _ (List.mem_append_right _ (h))) hown hK rfl (by decide) (hts (.fieldLink RX2 22 "MortarShow$Cue" "fate" "I") (List.mem_of_getElem? (i := 7) rfl)) tyX2 tyX2_ok nmX2 rfl rfl
  have fw25 : FW D s m ([.ref (ad q), .int x, .int y, .ref (ad kp), .ref (ad rp)] : List Value).toArray 25 2 8 (.int) := FW.mk (C := RX2) (T := TX2) (N := 9) hts (fun _ h => List.mem_cons_of_mem _ (List.mem_append_right _ (h))) hown hK rfl (by decide) (hts (.fieldLink RX2 25 "MortarShow$Cue" "channel" "I") (List.mem_of_getElem? (i := 8) rfl)) tyX2 tyX2_ok nmX2 rfl rfl
  have hl := lv_entry ([.ref (ad q), .int x, .int y, .ref (ad kp), .ref (ad rp)]) (n := 5) (Nat.le_of_ble_eq_true rfl)
  rw [lg_entry_eq]
  generalize (lg_sl ([.ref (ad q), .int x, .int y, .ref (ad kp), .ref (ad rp)]) ++ List.replicate (5 - (lg_sl ([.ref (ad q), .int x, .int y, .ref (ad kp), .ref (ad rp)])).length) Slot.unset).toArray = ls at hl ⊢
  have hl : lv_has ls 5 [(0, .ref (ad q)), (1, .int x), (2, .int y), (3, .ref (ad kp)), (4, .ref (ad rp))] := hl
  refine lv_aload_n hx hb dX2_init_0 rfl (lv_at hl 0 rfl) ?_
  refine W.objInit hx hb hown (hts (.methodLink RX2 3 objectInit) (List.mem_of_getElem? (i := 1) rfl)) (hts (.instanceMethod objectInit) (List.mem_of_getElem? (i := 2) rfl)) (hts (.code objectInit ⟨#[0xb1]⟩ 1 none) (List.mem_of_getElem? (i := 3) rfl)) rfl (by rw [hml]; exact hl.1) rfl dX2_init_1 (Nat.le_of_ble_eq_true rfl) (Nat.le_of_ble_eq_true rfl) ?_
  refine W.eq (g2 := F0 m 4 ls []) rfl ?_
  refine lv_aload_n hx hb dX2_init_4 rfl (lv_at hl 0 rfl) ?_
  refine lv_lconst (v := 0) hx hb dX2_init_5 (by decide) ?_
  refine wpL hx hb fw9 hA hW hq rfl dX2_init_6 (fun M6 H locs eM6 hW => ?_)
  refine lv_aload_n hx hb dX2_init_9 rfl (lv_at hl 0 rfl) ?_
  refine lv_iconst (v := 0) hx hb dX2_init_10 (by decide) ?_
  refine wpI hx hb fw15 hA hW hq rfl dX2_init_11 (fun M11 H locs eM11 hW => ?_)
  refine lv_aload_n hx hb dX2_init_14 rfl (lv_at hl 0 rfl) ?_
  refine lv_iconst (v := 0) hx hb dX2_init_15 (by decide) ?_
  refine wpI hx hb fw19 hA hW hq rfl dX2_init_16 (fun M16 H locs eM16 hW => ?_)
  refine lv_aload_n hx hb dX2_init_19 rfl (lv_at hl 0 rfl) ?_
  refine lv_iconst (v := 0) hx hb dX2_init_20 (by decide) ?_
  refine wpI hx hb fw22 hA hW hq rfl dX2_init_21 (fun M21 H locs eM21 hW => ?_)
  refine lv_aload_n hx hb dX2_init_24 rfl (lv_at hl 0 rfl) ?_
  refine lv_iconst (v := (-1)) hx hb dX2_init_25 (by decide) ?_
  refine wpI hx hb fw25 hA hW hq rfl dX2_init_26 (fun M26 H locs eM26 hW => ?_)
  refine lv_aload_n hx hb dX2_init_29 rfl (lv_at hl 0 rfl) ?_
  refine lv_iload_n hx hb dX2_init_30 rfl (lv_at hl 1 rfl) ?_
  refine wpfI hx hb ff28 hin hA hW hq rfl dX2_init_31 (fun M31 H locs eM31 hW => ?_)
  refine lv_aload_n hx hb dX2_init_34 rfl (lv_at hl 0 rfl) ?_
  refine lv_iload_n hx hb dX2_init_35 rfl (lv_at hl 2 rfl) ?_
  refine wpfI hx hb ff31 hin hA hW hq rfl dX2_init_36 (fun M36 H locs eM36 hW => ?_)
  refine lv_aload_n hx hb dX2_init_39 rfl (lv_at hl 0 rfl) ?_
  refine lv_aload_n hx hb dX2_init_40 rfl (lv_at hl 3 rfl) ?_
  refine wpfR hx hb ff34 hin hA hW hq rfl rfl rfl dX2_init_41 (fun M41 H locs eM41 hW => ?_)
  refine lv_aload_n hx hb dX2_init_44 rfl (lv_at hl 0 rfl) ?_
  refine lv_aload hx hb dX2_init_45 (lv_at hl 4 rfl) ?_
  refine wpfR hx hb ff38 hin hA hW hq rfl rfl rfl dX2_init_47 (fun M47 H locs eM47 hW => ?_)
  exact wr_wv hx hb hr hlocks hW dX2_init_50 (by subst_vars; refine ⟨by simp [gI_sI, gI_sR, gI_sL], by simp [gI_sI, gI_sR, gI_sL], by simp [gR_sI, gR_sR, gR_sL], by simp [gR_sI, gR_sR, gR_sL], ?_⟩; exact oA.putR (oA.putR (oA.putI (oA.putI (oA.putI (oA.putI (oA.putI (oA.putI (oA.putL oA.rf rfl) rfl) rfl) rfl) rfl) rfl) rfl) rfl) rfl)
set_option maxHeartbeats 4000000 in
set_option maxRecDepth 100000 in
theorem c_X9_cue (l : Launch) (hl9 : l.stackTraces = false) (D : va_G) (cA : Nat → ClassId) (sh : Nat → Option Sh) (ad : Nat → Nat) (M : MS) (sz : Nat) (σ : AS) (v : VT) (hsh : sh = shL (aN σ)) (hXX : XX σ v M) (a b d : Int32) : vx_Met l yX9_cue wsX9_cue ({ frames := 6, cells := 1, slots := 9, locals := 90 }) (xPc D cA sh ad M sz [.ref (ad 0), .int a, .int b, .int d]) (cQi D cA sh ad sz (shL (aN σ + 1)) (fun r M' => (∀ p k, 60 ≤ p → p < 100 → gI M' p k = gI M p k ∧ gL M' p k = gL M p k) ∧ XX (oCue σ (n1 a) (n1 b) (n1 d)) v M' ∧ (inB a 0 100 && inB b 0 3 && inB d 0 5) = true ∧ aN σ < 40 ∧ r = nI (aN σ)) (wA sh ad sz)) (xXC D cA sh ad (fun E M' => ((E = nIA ∧ (inB a 0 100 && inB b 0 3 && inB d 0 5) = false) ∨ (E = nIS ∧ (inB a 0 100 && inB b 0 3 && inB d 0 5) = true ∧ decide (aN σ < 40) = false)) ∧ oA XSx M M' ∧ XX σ v M') (wA sh ad sz)) 1 9 (wA sh ad sz) := by
  refine vx_ofW (cc := cX9_cue) (maxL := 5) (ret := (some .int)) (by decide) rfl ?_
  intro p e s m args below meth cd0 s₁ B hml ht hv
  obtain ⟨rfl, hsz, hM, hK, hE, hZ⟩ := hv
  have hx := B.exec
  have hb := B.bytes
  have hr := B.returns
  have hts := atoms_spec (ws := wsX9_cue) B.pre
  have hown : s.vm.findClass RX9 = some m.cls := findClass_of_methodNamed B.named
  have hlocks := B.notSynchronized
  subst hsz
  have hA := wA_PA sh ad s.heap
  generalize wA sh ad s.heap.size = A at hA hZ ⊢
  have hW : WS D cA sh ad A s.heap M s.heap [] := ⟨hM, va_S.rf⟩
  have fa18 : FA D s m ([.ref (ad 0), .int a, .int b, .int d] : List Value).toArray 18 9 1 := FA.mk (C := RX9) (T := TX9) (N := 15) hts (fun _ h => List.mem_cons_of_mem _ (List.mem_append_left _ (List.mem_append_left _ (List.mem_append_left _ (List.mem_append_right _ (h)))))) hown hK rfl (by decide) (hts (.fieldLink RX9 18 "MortarShow" "racks" "[LMortarShow$Rack;") (List.mem_of_getElem? (i := 11) rfl))
  have fa24 : FA D s m ([.ref (ad 0), .int a, .int b, .int d] : List Value).toArray 24 9 2 := FA.mk (C := RX9) (T := TX9) (N := 15) hts (fun _ h => List.mem_cons_of_mem _ (List.mem_append_left _ (List.mem_append_left _ (List.mem_append_left _ (List.mem_append_right _ (h)))))) hown hK rfl (by decide) (hts (.fieldLink RX9 24 "MortarShow" "kinds" "[LMortarShow$Kind;") (List.mem_of_getElem? (i := 10) rfl))
  have fa44 : FA D s m ([.ref (ad 0), .int a, .int b, .int d] : List Value).toArray 44 9 5 := FA.mk (C := RX9) (T := TX9) (N := 15) hts (fun _ h => List.mem_cons_of_mem _ (List.mem_append_left _ (List.mem_append_left _ (List.mem_append_left _ (List.mem_append_right _ (h)))))) hown hK rfl (by decide) (hts (.fieldLink RX9 44 "MortarShow" "cueList" "[LMortarShow$Cue;") (List.mem_of_getElem? (i := 6) rfl))
  have fa69 : FA D s m ([.ref (ad 0), .int a, .int b, .int d] : List Value).toArray 69 9 10 := FA.mk (C := RX9) (T := TX9) (N := 15) hts (fun _ h => List.mem_cons_of_mem _ (List.mem_append_left _ (List.mem_append_left _ (List.mem_append_left _ (List.mem_append_right _ (h)))))) hown hK rfl (by decide) (hts (.fieldLink RX9 69 "MortarShow" "made" "I") (List.mem_of_getElem? (i := 5) rfl))
  have fa73 : FA D s m ([.ref (ad 0), .int a, .int b, .int d] : List Value).toArray 73 9 11 := FA.mk (C := RX9) (T := TX9) (N := 15) hts (fun _ h => List.mem_cons_of_mem _ (List.mem_append_left _ (List.mem_append_left _ (List.mem_append_left _ (List.mem_append_right _ (h)))))) hown hK rfl (by decide) (hts (.fieldLink RX9 73 "MortarShow" "left" "I") (List.mem_of_getElem? (i := 12) rfl))
  have fw69 : FW D s m ([.ref (ad 0), .int a, .int b, .int d] : List Value).toArray 69 9 10 (.int) := FW.mk (C := RX9) (T := TX9) (N := 15) hts (fun _ h => List.mem_cons_of_mem _ (List.mem_append_left _ (List.mem_append_left _ (List.mem_append_left _ (List.mem_append_right _ (h)))))) hown hK rfl (by decide) (hts (.fieldLink RX9 69 "MortarShow" "made" "I") (List.mem_of_getElem? (i := 5) rfl)) tyX9 tyX9_ok nmX9 rfl rfl
  have fw73 : FW D s m ([.ref (ad 0), .int a, .int b, .int d] : List Value).toArray 73 9 11 (.int) := FW.mk (C := RX9) (T := TX9) (N := 15) hts (fun _ h => List.mem_cons_of_mem _ (List.mem_append_left _ (List.mem_append_left _ (List.mem_append_left _ (List.mem_append_right _ (h)))))) hown hK rfl (by decide) (hts (.fieldLink RX9 73 "MortarShow" "left" "I") (List.mem_of_getElem? (i := 12) rfl)) tyX9 tyX9_ok nmX9 rfl rfl
  have fw82 : FW D s m ([.ref (ad 0), .int a, .int b, .int d] : List Value).toArray 82 9 14 (.boolean) := FW.mk (C := RX9) (T := TX9) (N := 15) hts (fun _ h => List.mem_cons_of_mem _ (List.mem_append_left _ (List.mem_append_left _ (List.mem_append_left _ (List.mem_append_right _ (h)))))) hown hK rfl (by decide) (hts (.fieldLink RX9 82 "MortarShow" "planned" "Z") (List.mem_of_getElem? (i := 13) rfl)) tyX9 tyX9_ok nmX9 rfl rfl
  have hl := lv_entry ([.ref (ad 0), .int a, .int b, .int d]) (n := 5) (Nat.le_of_ble_eq_true rfl)
  rw [lg_entry_eq]
  generalize (lg_sl ([.ref (ad 0), .int a, .int b, .int d]) ++ List.replicate (5 - (lg_sl ([.ref (ad 0), .int a, .int b, .int d])).length) Slot.unset).toArray = ls at hl ⊢
  have hl : lv_has ls 5 [(0, .ref (ad 0)), (1, .int a), (2, .int b), (3, .int d)] := hl
  have hX : XSh (aN σ) sh := by rw [hsh]; exact shL_X _
  obtain ⟨ok, hR, hP, hL, hV, hT⟩ := hXX
  have hXX : XX σ v M := ⟨ok, hR, hP, hL, hV, hT⟩
  have o1 := ok.1
  obtain ⟨n, en⟩ : ∃ n, n = aN σ := ⟨_, rfl⟩
  have hlo : ∀ p y, sh p = some y → p < 100 + n ∧ ∀ t, frf y t → t < 100 + n := by rw [hsh, en]; exact shL_lo _
  refine lv_iload_n hx hb dX9_cue_0 rfl (lv_at hl 1 rfl) ?_
  refine lv_iconst (v := 0) hx hb dX9_cue_1 (by decide) ?_
  refine lv_bipush (v := 100) hx hb dX9_cue_2 (by decide) ?_
  refine wc_ri (va_runS (As := [.int a, .int 0, .int 100]) (rest := []) ⟨hx, hb, hml, hown, hts⟩ (c_X9_outside l a 0 100) (va_cwS 3 hts gX9_cue_X9_outside rfl rfl rfl (by decide +kernel) ⟨Nat.le_of_ble_eq_true rfl, Nat.le_of_ble_eq_true rfl⟩) npreS rfl rfl hl.1 rfl (lv_room (Nat.le_of_ble_eq_true rfl)) dX9_cue_4 ⟨Nat.le_of_ble_eq_true rfl, Nat.le_of_ble_eq_true rfl⟩) hW (fun x4 H locs p4 hW => ?_)
  try dsimp only at p4
  refine lv_if_ne (tgt := 28) hx hb dX9_cue_7 (by decide) (fun c7 => ?_) (fun c7 => ?_)
  · have t4 := bI_t.mp (fun z => c7 (p4.trans z))
    exact wx_throw (text := "beat, kind or rack is out of range") hx hb hl9 xok_IA (by decide) (List.mem_of_getElem? (i := 7) rfl) ht hown (hts (.classLink RX9 96 "java/lang/IllegalArgumentException") (List.mem_of_getElem? (i := 1) rfl)) (hts (.initialized "java/lang/IllegalArgumentException") (List.mem_of_getElem? (i := 2) rfl)) (fun w h => hts w (List.mem_cons_of_mem _ (List.mem_append_left _ (List.mem_append_right _ (h))))) hE hZ hW (hl.1.trans hml.symm) dX9_cue_28 dX9_cue_31 dX9_cue_32 dX9_cue_34 dX9_cue_37 ⟨Nat.le_of_ble_eq_true rfl, Nat.le_of_ble_eq_true rfl⟩ ⟨Nat.le_of_ble_eq_true rfl, Nat.le_of_ble_eq_true rfl⟩ hlocks ⟨Nat.le_of_ble_eq_true rfl, Nat.le_of_ble_eq_true rfl⟩ ⟨Or.inl ⟨rfl, (by first | (simp [inB, zoB_eq, t4]; done) | (simp [inB, zoB_eq, t13]; done) | (simp [inB, zoB_eq, t22]; done))⟩, oA.rf, hXX⟩
  · have g4 := bI_z.mp (p4.symm.trans c7)
    refine lv_iload_n hx hb dX9_cue_10 rfl (lv_at hl 2 rfl) ?_
    refine lv_iconst (v := 0) hx hb dX9_cue_11 (by decide) ?_
    refine lv_iconst (v := 3) hx hb dX9_cue_12 (by decide) ?_
    refine wc_ri (va_runS (As := [.int b, .int 0, .int 3]) (rest := []) ⟨hx, hb, hml, hown, hts⟩ (c_X9_outside l b 0 3) (va_cwS 3 hts gX9_cue_X9_outside rfl rfl rfl (by decide +kernel) ⟨Nat.le_of_ble_eq_true rfl, Nat.le_of_ble_eq_true rfl⟩) npreS rfl rfl hl.1 rfl (lv_room (Nat.le_of_ble_eq_true rfl)) dX9_cue_13 ⟨Nat.le_of_ble_eq_true rfl, Nat.le_of_ble_eq_true rfl⟩) hW (fun x13 H locs p13 hW => ?_)
    try dsimp only at p13
    refine lv_if_ne (tgt := 28) hx hb dX9_cue_16 (by decide) (fun c16 => ?_) (fun c16 => ?_)
    · have t13 := bI_t.mp (fun z => c16 (p13.trans z))
      exact wx_throw (text := "beat, kind or rack is out of range") hx hb hl9 xok_IA (by decide) (List.mem_of_getElem? (i := 7) rfl) ht hown (hts (.classLink RX9 96 "java/lang/IllegalArgumentException") (List.mem_of_getElem? (i := 1) rfl)) (hts (.initialized "java/lang/IllegalArgumentException") (List.mem_of_getElem? (i := 2) rfl)) (fun w h => hts w (List.mem_cons_of_mem _ (List.mem_append_left _ (List.mem_append_right _ (h))))) hE hZ hW (hl.1.trans hml.symm) dX9_cue_28 dX9_cue_31 dX9_cue_32 dX9_cue_34 dX9_cue_37 ⟨Nat.le_of_ble_eq_true rfl, Nat.le_of_ble_eq_true rfl⟩ ⟨Nat.le_of_ble_eq_true rfl, Nat.le_of_ble_eq_true rfl⟩ hlocks ⟨Nat.le_of_ble_eq_true rfl, Nat.le_of_ble_eq_true rfl⟩ ⟨Or.inl ⟨rfl, (by first | (simp [inB, zoB_eq, t4]; done) | (simp [inB, zoB_eq, t13]; done) | (simp [inB, zoB_eq, t22]; done))⟩, oA.rf, hXX⟩
    · have g13 := bI_z.mp (p13.symm.trans c16)
      refine lv_iload_n hx hb dX9_cue_19 rfl (lv_at hl 3 rfl) ?_
      refine lv_iconst (v := 0) hx hb dX9_cue_20 (by decide) ?_
      refine lv_iconst (v := 5) hx hb dX9_cue_21 (by decide) ?_
      refine wc_ri (va_runS (As := [.int d, .int 0, .int 5]) (rest := []) ⟨hx, hb, hml, hown, hts⟩ (c_X9_outside l d 0 5) (va_cwS 3 hts gX9_cue_X9_outside rfl rfl rfl (by decide +kernel) ⟨Nat.le_of_ble_eq_true rfl, Nat.le_of_ble_eq_true rfl⟩) npreS rfl rfl hl.1 rfl (lv_room (Nat.le_of_ble_eq_true rfl)) dX9_cue_22 ⟨Nat.le_of_ble_eq_true rfl, Nat.le_of_ble_eq_true rfl⟩) hW (fun x22 H locs p22 hW => ?_)
      try dsimp only at p22
      refine lv_if_eq (tgt := 38) hx hb dX9_cue_25 (by decide) (fun c25 => ?_) (fun c25 => ?_)
      · have g22 := bI_z.mp (p22.symm.trans c25)
        obtain ⟨bt, hbt, ebt⟩ := out_n (n := 100) (by decide) g4
        obtain ⟨kd, hkd, ekd⟩ := out_n (n := 3) (by decide) g13
        obtain ⟨rk, hrk, erk⟩ := out_n (n := 5) (by decide) g22
        have f1 : n1 a = bt := by rw [ebt]; exact n1_nI (by omega)
        have f2 : n1 b = kd := by rw [ekd]; exact n1_nI (by omega)
        have f3 : n1 d = rk := by rw [erk]; exact n1_nI (by omega)
        refine lv_aload_n hx hb dX9_cue_38 rfl (lv_at hl 0 rfl) ?_
        refine wgI hx hb fa69 hW (hX.1 0 (by decide)) rfl dX9_cue_39 (fun x39 e39 => ?_)
        have n39 : x39 = nI n := (by rw [e39, en]; exact hR.2.2.2.2.2.2.2.2.2.1)
        refine lv_bipush (v := 40) hx hb dX9_cue_42 (by decide) ?_
        refine lv_icmp_lt (tgt := 57) hx hb dX9_cue_44 (by decide) (fun c44 => ?_) (fun c44 => ?_)
        · have k44 : n < 40 := kc_lt n39 (nlit 40) (by omega) (by omega) c44
          have hn40 : n < 40 := k44
          refine lv_aload_n hx hb dX9_cue_57 rfl (lv_at hl 0 rfl) ?_
          refine wgI hx hb fa69 hW (hX.1 0 (by decide)) rfl dX9_cue_58 (fun x58 e58 => ?_)
          have n58 : x58 = nI n := (by rw [e58, en]; exact hR.2.2.2.2.2.2.2.2.2.1)
          refine lv_istore (lv' := [(4, .int x58), (0, .ref (ad 0)), (1, .int a), (2, .int b), (3, .int d)]) hx hb dX9_cue_61 hl (by decide) rfl (fun ls hl => ?_)
          refine lv_aload_n hx hb dX9_cue_63 rfl (lv_at hl 1 rfl) ?_
          refine wgF (t := 11) hx hb fa44 hW (hX.1 0 (by decide)) rfl dX9_cue_64 ?_
          refine lv_iload hx hb dX9_cue_67 (lv_at hl 0 rfl) ?_
          refine wnewS (q := (100 + n)) (ci := 2) (C := RX2) (T := TX2) (N := 9) (ks := [0, 0, 2, 2, 1, 0, 0, 0, 0]) hx hb hts (fun _ h => List.mem_cons_of_mem _ (List.mem_append_left _ (List.mem_append_left _ (List.mem_append_right _ (h))))) tyX2 tyX2_ok hown (hts (.classLink RX9 42 RX2) (List.mem_of_getElem? (i := 7) rfl)) (hts (.instantiable RX2 9) (List.mem_of_getElem? (i := 8) rfl)) (hts (.initialized RX2) (List.mem_of_getElem? (i := 9) rfl)) hK rfl hA hW hlo (by decide) (by decide) ⟨Nat.le_of_ble_eq_true rfl, Nat.le_of_ble_eq_true rfl⟩ dX9_cue_69 (fun sh ad M69 H esh eM69 hk hge hA hW => ?_)
          rw [← (hk 0 (by omega))] at hl
          rw [← (hk 11 (by omega))]
          have hX : XSh n sh := ⟨fun p hp => by rw [esh, shU_ne (by omega)]; exact hX.1 p hp, fun i hi => by rw [esh, shU_ne (by omega)]; exact hX.2 i (by omega)⟩
          have hl1 := hl
          refine lv_dup hx hb dX9_cue_72 rfl ?_
          refine lv_iload hx hb dX9_cue_73 (lv_at hl 0 rfl) ?_
          refine lv_iload_n hx hb dX9_cue_75 rfl (lv_at hl 2 rfl) ?_
          refine lv_aload_n hx hb dX9_cue_76 rfl (lv_at hl 1 rfl) ?_
          refine wgF (t := 5) hx hb fa24 hW (hX.1 0 (by decide)) rfl dX9_cue_77 ?_
          refine lv_iload_n hx hb dX9_cue_80 rfl (lv_at hl 3 rfl) ?_
          refine walK (j := kd) hx hb hK hW (hX.1 5 (by decide)) ekd (by omega) (by decide) dX9_cue_81 ?_
          refine lv_aload_n hx hb dX9_cue_82 rfl (lv_at hl 1 rfl) ?_
          refine wgF (t := 4) hx hb fa18 hW (hX.1 0 (by decide)) rfl dX9_cue_83 ?_
          refine lv_iload_n hx hb dX9_cue_86 rfl (lv_at hl 4 rfl) ?_
          refine walC (j := rk) hx hb hK hW (hX.1 4 (by decide)) erk (by omega) (by decide) dX9_cue_87 ?_
          refine wc_wv (va_runI (As := [.int x58, .int a, .ref (ad (40 + kd)), .ref (ad (30 + rk))]) (rest := [.ref (ad (100 + n)), .int x58, .ref (ad 11)]) ⟨hx, hb, hml, hown, hts⟩ (c_X2_init l D cA sh ad M69 _ (100 + n) (40 + kd) (30 + rk) (by rw [esh]; exact shU_eq) x58 a) (cwI 4 hts gX9_cue_X2_init rfl rfl rfl (hts (.initialized RX2) (List.mem_of_getElem? (i := 9) rfl)) (hts (.methodLink RX9 173 yX2_init) (List.mem_of_getElem? (i := 18) rfl)) (hts (.instanceMethod yX2_init) (List.mem_of_getElem? (i := 19) rfl)) rfl (by decide +kernel) ⟨Nat.le_of_ble_eq_true rfl, Nat.le_of_ble_eq_true rfl⟩) (wpreS hK hW) rfl rfl hl.1 rfl (lv_room (Nat.le_of_ble_eq_true rfl)) dX9_cue_88 ⟨Nat.le_of_ble_eq_true rfl, Nat.le_of_ble_eq_true rfl⟩) hA hW (fun M88 H locs p88 hW => ?_)
          try dsimp only at p88
          refine wasR (ta0 := 3) (ci := 2) (r := (RX2, TX2, 9)) (j := n) hx hb hK hA hW (hX.1 11 (by decide)) ⟨by decide, by decide⟩ rfl rfl (by rw [esh]; exact shU_eq) n58 (by omega) (by decide) dX9_cue_91 (fun M91 H locs eM91 hW => ?_)
          refine lv_aload_n hx hb dX9_cue_92 rfl (lv_at hl 1 rfl) ?_
          refine lv_dup hx hb dX9_cue_93 rfl ?_
          refine wgI hx hb fa69 hW (hX.1 0 (by decide)) rfl dX9_cue_94 (fun x94 e94 => ?_)
          refine lv_iconst (v := 1) hx hb dX9_cue_97 (by decide) ?_
          refine lv_iadd hx hb dX9_cue_98 ?_
          refine lv_topi (fun x98 e98 => ?_)
          refine wpI hx hb fw69 hA hW (hX.1 0 (by decide)) rfl dX9_cue_99 (fun M99 H locs eM99 hW => ?_)
          refine lv_aload_n hx hb dX9_cue_102 rfl (lv_at hl 1 rfl) ?_
          refine lv_dup hx hb dX9_cue_103 rfl ?_
          refine wgI hx hb fa73 hW (hX.1 0 (by decide)) rfl dX9_cue_104 (fun x104 e104 => ?_)
          refine lv_iconst (v := 1) hx hb dX9_cue_107 (by decide) ?_
          refine lv_iadd hx hb dX9_cue_108 ?_
          refine lv_topi (fun x108 e108 => ?_)
          refine wpI hx hb fw73 hA hW (hX.1 0 (by decide)) rfl dX9_cue_109 (fun M109 H locs eM109 hW => ?_)
          refine lv_aload_n hx hb dX9_cue_112 rfl (lv_at hl 1 rfl) ?_
          refine lv_iconst (v := 0) hx hb dX9_cue_113 (by decide) ?_
          refine wpZ hx hb fw82 hA hW (hX.1 0 (by decide)) rfl ⟨rfl, rfl⟩ dX9_cue_114 (fun M114 H locs eM114 hW => ?_)
          have I8 : ∀ p k, p ≠ 100 + n → ¬ (p = 0 ∧ (k = 10 ∨ k = 11 ∨ k = 14)) → gI M114 p k = gI M p k := fun p k hp hk9 => by
            rw [eM114, gI_sI, if_neg (by omega), eM109, gI_sI, if_neg (by omega), eM99, gI_sI, if_neg (by omega), eM91, gI_sR, (p88.2.2.2.2 p k hp).1, eM69]; exact shM_I hp
          have L8 : ∀ p k, p ≠ 100 + n → gL M114 p k = gL M p k := fun p k hp => by
            rw [eM114, gL_sI, eM109, gL_sI, eM99, gL_sI, eM91, gL_sR, (p88.2.2.2.2 p k hp).2.1, eM69]; exact shM_L hp
          have R8 : ∀ p k, ¬ (p = 11 ∧ k = n) → gR M114 p k = gR M88 p k := fun p k hp => by
            rw [eM114, gR_sI, eM109, gR_sI, eM99, gR_sI, eM91, gR_sR, if_neg hp]
          have R9 : ∀ p k, p ≠ 100 + n → gR M88 p k = gR M69 p k := fun p k hp => (p88.2.2.2.2 p k hp).2.2
          have hl0 : x104 = nI (ctN (pres σ) 40) := by rw [e104, eM99, gI_sI, if_neg (by omega), eM91, gI_sR, (p88.2.2.2.2 _ _ (by omega)).1, eM69]; exact (shM_I (by omega)).trans hL
          have hm0 : x94 = nI n := by rw [e94, eM91, gI_sR, (p88.2.2.2.2 _ _ (by omega)).1, eM69]; exact (shM_I (by omega)).trans (by rw [en]; exact hR.2.2.2.2.2.2.2.2.2.1)
          have hrm := ctN_rm (p := pres (oCue σ bt kd rk)) (q := pres σ) (i := aN σ) (by unfold pres; rw [oCue_n, oCue_10]; exact decide_eq_true ⟨by omega, ok.2.2.2.2.2.2.2.2.2.1 _ (Nat.le_refl _)⟩) (cue_pres σ bt kd rk) 40
          rw [if_pos (by omega)] at hrm
          refine lv_iload hx hb dX9_cue_117 (lv_at hl 0 rfl) ?_
          have es : sh = shL (aN σ + 1) := by rw [esh, hsh, en]; exact shL_s _
          rw [es] at hW
          refine vx_ret ?_
          refine W.widen (k := 1) (n := 9) (by decide) (by decide) ?_
          exact wr_ci hx hb hr hlocks hW dX9_cue_119 (by
              intro p y hp
              exact hk p (hlo p y hp).1) (by
              intro p y hp hn9
              rw [← en, ← shL_s n] at hp
              by_cases e9 : p = 100 + n
              · rw [e9]; exact hge
              · rw [shU_ne e9, en, ← hsh, hn9] at hp; cases hp) ⟨fun p k h1 h2 => ⟨I8 p k (by omega) (by omega), L8 p k (by omega)⟩, by
              rw [f1, f2, f3]
              refine XX_set (AOK_cue ok (by omega) (by omega) hkd hrk) (XR_cue hR en hn40 ?_ ?_ ?_ ok ?_ ?_ ?_) ?_ ?_ ?_ ?_
              · intro p j hx9 h1 h2
                unfold XRs at hx9
                exact I8 p j h1 (by omega)
              · intro i hi h1
                rw [R8 _ _ (by omega), R9 _ _ (by omega), eM69]
                exact shM_R0 (by omega) h1
              · intro p j t h1 h2 h3 h4
                rw [R8 _ _ h1, R9 _ _ h2, eM69]
                exact shM_R1 h2 h3 h4
              · rw [eM114, gI_sI, if_neg (by omega), eM109, gI_sI, if_neg (by omega), eM99, gI_sI, if_pos ⟨rfl, rfl⟩, e98, hm0, nlit 1, nI_add]
              · rw [eM114, gR_sI, eM109, gR_sI, eM99, gR_sI, eM91, gR_sR, if_pos ⟨rfl, rfl⟩]
              · refine ⟨?_, ?_, ?_, ?_⟩
                · rw [eM114, gI_sI, if_neg (by omega), eM109, gI_sI, if_neg (by omega), eM99, gI_sI, if_neg (by omega), eM91, gI_sR, p88.1]; exact n58
                · rw [eM114, gI_sI, if_neg (by omega), eM109, gI_sI, if_neg (by omega), eM99, gI_sI, if_neg (by omega), eM91, gI_sR, p88.2.1]; exact ebt
                · rw [R8 _ _ (by omega)]; exact p88.2.2.1
                · rw [R8 _ _ (by omega)]; exact p88.2.2.2.1
              · rw [eM114, gI_sI, if_pos ⟨rfl, rfl⟩]
              · rw [eM114, gI_sI, if_neg (by omega), eM109, gI_sI, if_pos ⟨rfl, rfl⟩, e108, hl0, nlit 1, nI_add, hrm]
              · intro j hj
                rw [I8 _ _ (by omega) (by omega)]; exact hV j hj
              · intro j hj
                rw [I8 _ _ (by omega) (by omega)]; exact hT j hj, (by simp [inB, zoB_eq, g4, g13, g22]), by omega, n58.trans (by rw [en])⟩
        · have k44 : ¬ n < 40 := kc_ltn n39 (nlit 40) (by omega) (by omega) c44
          exact wx_throw (text := "there were 40 cues") hx hb hl9 xok_IS (by decide) (List.mem_of_getElem? (i := 8) rfl) ht hown (hts (.classLink RX9 168 "java/lang/IllegalStateException") (List.mem_of_getElem? (i := 3) rfl)) (hts (.initialized "java/lang/IllegalStateException") (List.mem_of_getElem? (i := 4) rfl)) (fun w h => hts w (List.mem_cons_of_mem _ (List.mem_append_right _ (h)))) hE hZ hW (hl.1.trans hml.symm) dX9_cue_47 dX9_cue_50 dX9_cue_51 dX9_cue_53 dX9_cue_56 ⟨Nat.le_of_ble_eq_true rfl, Nat.le_of_ble_eq_true rfl⟩ ⟨Nat.le_of_ble_eq_true rfl, Nat.le_of_ble_eq_true rfl⟩ hlocks ⟨Nat.le_of_ble_eq_true rfl, Nat.le_of_ble_eq_true rfl⟩ ⟨Or.inr ⟨rfl, (by simp [inB, zoB_eq, g4, g13, g22]), decide_eq_false (by omega)⟩, oA.rf, hXX⟩
      · have t22 := bI_t.mp (fun z => c25 (p22.trans z))
        exact wx_throw (text := "beat, kind or rack is out of range") hx hb hl9 xok_IA (by decide) (List.mem_of_getElem? (i := 7) rfl) ht hown (hts (.classLink RX9 96 "java/lang/IllegalArgumentException") (List.mem_of_getElem? (i := 1) rfl)) (hts (.initialized "java/lang/IllegalArgumentException") (List.mem_of_getElem? (i := 2) rfl)) (fun w h => hts w (List.mem_cons_of_mem _ (List.mem_append_left _ (List.mem_append_right _ (h))))) hE hZ hW (hl.1.trans hml.symm) dX9_cue_28 dX9_cue_31 dX9_cue_32 dX9_cue_34 dX9_cue_37 ⟨Nat.le_of_ble_eq_true rfl, Nat.le_of_ble_eq_true rfl⟩ ⟨Nat.le_of_ble_eq_true rfl, Nat.le_of_ble_eq_true rfl⟩ hlocks ⟨Nat.le_of_ble_eq_true rfl, Nat.le_of_ble_eq_true rfl⟩ ⟨Or.inl ⟨rfl, (by first | (simp [inB, zoB_eq, t4]; done) | (simp [inB, zoB_eq, t13]; done) | (simp [inB, zoB_eq, t22]; done))⟩, oA.rf, hXX⟩

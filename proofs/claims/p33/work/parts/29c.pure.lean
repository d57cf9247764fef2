/-! Helpers of the law's walks. -/
theorem lg_self (z : Int64) : lg_cmp z z = 0 := by
  unfold lg_cmp
  rw [if_neg (fun h => absurd h (by rw [gt_iff_lt, Int64.lt_iff_toInt_lt]; omega)), if_pos rfl]
def LSh (sh : Nat → Option Sh) : Prop := ∀ p, 60 ≤ p → p ≤ 66 → sh p = shT.getD p none
theorem shL_LSh (n : Nat) : LSh (shL n) := fun p h1 h2 => shL_M n p h1 (by omega)
def lowI (a b : Int32) : Int32 := (a &&& 2147483647) - (a &&& 2147483647) / b * b
theorem low_n (a : Int32) {n : Nat} (h0 : 0 < n) (hn : n < 2 ^ 31) : ∃ j, j < n ∧ lowI a (nI n) = nI j := by
  have h : ¬ (a &&& 2147483647) < 0 := by
    have : 0 ≤ (a &&& 2147483647) := by
      rw [i32ge0, Int32.toBitVec_and, BitVec.msb_and]
      have : (2147483647 : Int32).toBitVec.msb = false := by decide
      rw [this]; simp
    rw [i32le] at this; rw [i32lt]; omega
  obtain ⟨m, hm, e⟩ := nI_of h
  exact ⟨m % n, Nat.mod_lt _ h0, by unfold lowI; rw [e]; exact pk_rem hm h0 hn⟩
theorem low_ne {n : Nat} (h0 : 0 < n) (hn : n < 2 ^ 31) : ¬ nI n = 0 := fun z => by
  have := (nI_eq (b := 0) hn (by decide)).mp z; omega
theorem bI_tt {b : Bool} (h : b = true) : 1 = bI b := by rw [h]; rfl
theorem bI_ff {b : Bool} (h : b = false) : 0 = bI b := by rw [h]; rfl
theorem tol0 (σ : AS) (i : Nat) : tolA σ i 0 = falX σ i := by unfold tolA plT; rw [if_pos rfl]
theorem tol1 (σ : AS) (i : Nat) : tolA σ i 1 = falY σ i := by unfold tolA plT; rw [if_neg (by decide), if_pos rfl]
theorem tol2 (σ : AS) (i : Nat) : tolA σ i 2 = jfd (falX σ i) 100 := by unfold tolA plT; rw [if_neg (by decide), if_neg (by decide), if_pos rfl]
theorem tol3 (σ : AS) (i : Nat) : tolA σ i 3 = jfd (falY σ i) 100 := by unfold tolA plT; rw [if_neg (by decide), if_neg (by decide), if_neg (by decide)]
theorem bst_pos {σ : AS} (ok : AOK σ) {i : Nat} (hi : i < aN σ) : 0 < (bstA σ i 2).toInt := by
  obtain ⟨h1, h2, h3, h4⟩ := kd_ok ok (cc_b ok hi).2.1
  unfold bstA
  rw [if_pos rfl]
  exact (lift_hi h3 h4 h2).2
theorem near_y {σ : AS} (ok : AOK σ) {i k : Nat} (hi : i < aN σ) (hk : k < 64) {col lin far u1 u2 u3 u4 : Int32} (ec : col = jfd (falX σ i) 100) (el : lin = jfd (falY σ i) 100) (ef : far = nI (σ.2 2 (σ.2 8 i))) (e1 : u1 = nI (k % 8) - col) (e2 : u2 = col - nI (k % 8)) (e3 : u3 = nI (k / 8) - lin) (e4 : u4 = lin - nI (k / 8)) (h1 : ¬ far < u1) (h2 : ¬ far < u2) (h3 : ¬ far < u3) (h4 : ¬ far < u4) : 1 = bI (zonB σ i k) := by
  rw [ef] at h1 h2 h3 h4
  exact bI_tt (by rw [near_is ok hi hk ec el e1 e2 e3 e4]; exact decide_eq_true ⟨h1, h2, h3, h4⟩)
theorem near_n {σ : AS} (ok : AOK σ) {i k : Nat} (hi : i < aN σ) (hk : k < 64) {col lin far u : Int32} (ec : col = jfd (falX σ i) 100) (el : lin = jfd (falY σ i) 100) (ef : far = nI (σ.2 2 (σ.2 8 i))) (h : far < u) (e : u = nI (k % 8) - col ∨ u = col - nI (k % 8) ∨ u = nI (k / 8) - lin ∨ u = lin - nI (k / 8)) : 0 = bI (zonB σ i k) := by
  rw [ef] at h
  refine bI_ff ?_
  rw [near_is ok hi hk ec el rfl rfl rfl rfl]
  refine decide_eq_false (fun z => ?_)
  rcases e with e | e | e | e
  · exact z.1 (e ▸ h)
  · exact z.2.1 (e ▸ h)
  · exact z.2.2.1 (e ▸ h)
  · exact z.2.2.2 (e ▸ h)
theorem or_0 (x : Int64) : x ||| 0 = x := by
  apply bitL_ext
  intro k _
  rw [bitL_or, bitL_0, Bool.or_false]
theorem zz_s {P : Nat → Bool} {z : Int64} {k : Nat} (h : ∀ j, j < 64 → bitL z j = decide (j < k ∧ P j = true)) (hk : k < 64) : ∀ j, j < 64 → bitL (z ||| (if P k = true then (1 : Int64) <<< ((nI k).toInt64 &&& 63) else 0)) j = decide (j < k + 1 ∧ P j = true) := by
  cases hp : P k with
  | true => rw [if_pos rfl]; exact zw_t h hp hk
  | false => rw [if_neg (by decide), or_0]; exact zw_f h (by rw [hp]; decide)
theorem dec_and {j k : Nat} {b : Bool} (h : j < k) : decide (j < k ∧ b = true) = b := by
  cases b <;> simp [h]
theorem ne_none' {sh : Nat → Option Sh} {p : Nat} {y : Sh} (h : sh p = some y) : sh p ≠ none := by rw [h]; exact fun z => nomatch z
/-! An array of the law's own for a while, at the place 67. -/
def f67 (t : Nat) : Nat := if t = 67 then 1000 else if 1000 ≤ t then t + 1 else t
def a67 (ad : Nat → Nat) (n : Nat) : Nat → Nat := fun t => if t = 67 then n else if t < 1000 then ad t else if t = 1000 then ad 67 else ad (t - 1)
def m67 (M : MS) : MS := (fun a b => if a = 67 then 0 else M.1 a b, fun a b => if a = 67 then 0 else M.2.1 a b, fun a b => if a = 67 then none else (M.2.2 a b).map f67)
theorem a67_f (ad : Nat → Nat) (n t : Nat) : a67 ad n (f67 t) = ad t := by
  unfold f67 a67
  by_cases h : t = 67
  · rw [if_pos h, if_neg (by omega), if_neg (by omega), if_pos rfl, h]
  · rw [if_neg h]
    by_cases h2 : 1000 ≤ t
    · rw [if_pos h2, if_neg (by omega), if_neg (by omega), if_neg (by omega)]; rfl
    · rw [if_neg h2, if_neg h, if_pos (by omega)]
theorem a67_q (ad : Nat → Nat) (n : Nat) : a67 ad n 67 = n := if_pos rfl
theorem a67_lo (ad : Nat → Nat) {n t : Nat} (h : t < 1000) (h2 : t ≠ 67) : a67 ad n t = ad t := by unfold a67; rw [if_neg h2, if_pos h]
theorem m67_0 (M : MS) (j : Nat) : gI (m67 M) 67 j = 0 := by
  show (if 67 = 67 then (0 : Int32) else M.1 67 j) = 0
  rw [if_pos rfl]
theorem m67_I {M : MS} {p k : Nat} (hp : p ≠ 67) : gI (m67 M) p k = gI M p k := if_neg hp
theorem m67_L {M : MS} {p k : Nat} (hp : p ≠ 67) : gL (m67 M) p k = gL M p k := if_neg hp
theorem m67_R0 {M : MS} {p k : Nat} (hp : p ≠ 67) (h : gR M p k = none) : gR (m67 M) p k = none := by
  show (if p = 67 then none else (gR M p k).map f67) = none
  rw [if_neg hp, h]; rfl
theorem m67_R1 {M : MS} {p k t : Nat} (hp : p ≠ 67) (h1 : t < 1000) (h2 : t ≠ 67) (h : gR M p k = some t) : gR (m67 M) p k = some t := by
  show (if p = 67 then none else (gR M p k).map f67) = some t
  rw [if_neg hp, h]
  show some (f67 t) = some t
  unfold f67
  rw [if_neg h2, if_neg (by omega)]
def L67 (sh : Nat → Option Sh) : Prop := sh 67 = none ∧ ∀ p y, sh p = some y → p < 1000 ∧ ∀ t, frf y t → t < 1000 ∧ t ≠ 67
theorem shT_67 : ∀ p, p < 85 → ∀ x, shT.getD p none = some x → ∀ t, frf x t → t ≠ 67 := by
  intro p hp x hx t ht e
  subst e
  have key : ∀ p, p < 85 → (match shT.getD p none with | none => true | some x => (match x with | .inl o => o.2.all (fun z => decide (z ≠ 70)) | .inr a => decide (a.1 < 6 ∨ a.2 ≤ 6))) = true := by decide +kernel
  have h := key p hp
  rw [hx] at h
  cases x with
  | inl o =>
    obtain ⟨k, hk⟩ := ht
    simp only [List.all_eq_true, decide_eq_true_eq] at h
    by_cases hl : k < o.2.length
    · have := h (o.2[k]) (List.getElem_mem hl)
      rw [List.getD_eq_getElem?_getD, List.getElem?_eq_getElem hl] at hk
      simp at hk
      omega
    · rw [List.getD_eq_getElem?_getD, List.getElem?_eq_none (by omega)] at hk
      simp at hk
  | inr a =>
    obtain ⟨t0, n⟩ := a
    have h2 : t0 < 6 ∨ n ≤ 6 := of_decide_eq_true h
    rcases ht with ⟨z1, i, hi, e⟩ | ⟨z1, i, hi, e⟩
    · have z2 : t0 = 6 := z1
      have hi2 : i < n := hi
      omega
    · have z2 : 6 < t0 := z1
      have hi2 : i < n := hi
      omega
theorem shL_L67 {n : Nat} (hn : n ≤ 40) : L67 (shL n) := by
  refine ⟨shL_67 n, fun p y hy => ⟨by have := (shL_lo n p y hy).1; omega, fun t ht => ⟨by have := (shL_lo n p y hy).2 t ht; omega, ?_⟩⟩⟩
  unfold shL at hy
  by_cases h2 : p < 85
  · rw [if_pos h2] at hy; exact shT_67 p h2 y hy t ht
  · rw [if_neg h2] at hy
    by_cases h3 : p = 90
    · rw [if_pos h3] at hy; cases hy
    · rw [if_neg h3] at hy
      by_cases h4 : 100 ≤ p ∧ p < 100 + n
      · rw [if_pos h4] at hy
        cases hy
        obtain ⟨k, hk⟩ := ht
        intro e
        subst e
        have : ∀ k, ([0, 0, 2, 2, 1, 0, 0, 0, 0] : List Nat).getD k 0 ≠ 67 + 3 := fun k => by
          by_cases hl : k < 9
          · revert hl; revert k; decide
          · rw [List.getD_eq_getElem?_getD, List.getElem?_eq_none (by show 9 ≤ k; omega)]; simp
        exact this k hk
      · rw [if_neg h4] at hy; cases hy
theorem wnewAS {p : Program} {l : Launch} {e : Env} {R : Room} {s : State} {m : MethodId} {args : Array Value} {below : List Frame} {meth : Method} {c : Code} {H : Heap} {locs : List Loc} {cells slots : Nat} {Q : State → Prop} {cc : ByteArray} {pc : Nat} {ls : Array Slot} {rest : List Value} {D : va_G} {cA : Nat → ClassId} {sh : Nat → Option Sh} {ad : Nat → Nat} {A : Nat → Prop} {H0 : Heap} {M : MS}
    (hexec : p.tables.exec = Jvm.exec) (hb : c.code = cc) {N : Nat} {n : Int32} (harr : (Cond.arrayClass .int).before args s = true) (hK : va_K D vwCl (wty cA) s) (hA : PA sh ad A H0) (hW : WS D cA sh ad A H0 M H locs)
    (hlo : L67 sh) (hn : n = nI N) (hN : N < 2 ^ 20) (hcells : cells + 1 ≤ R.cells ∧ slots + N ≤ R.slots) (hdg : decode cc pc = .ok (.newarray .int, 2))
    (kk : ∀ (sh1 : Nat → Option Sh) (ad1 : Nat → Nat) (M1 : MS) (H1 : Heap), sh1 = shU sh 67 (.inr (0, N)) → M1 = m67 M → (∀ t, t < 1000 → t ≠ 67 → ad1 t = ad t) → H0.size ≤ ad1 67 → PA sh1 ad1 A H0 → WS D cA sh1 ad1 A H0 M1 H1 locs → W p l e R s m args below meth c H1 locs (cells + 1) (slots + N) Q (F0 m (pc + 2) ls (.ref (ad1 67) :: rest))) : W p l e R s m args below meth c H locs cells slots Q (F0 m pc ls (.int n :: rest)) := by
  subst hn
  refine va_newaK (atype := .int) hexec hb harr rfl hdg rfl (nI_pos (by omega)) (nI_clamp (by omega)) (by show N * 4 ≤ 536870912; omega) hcells.1 hcells.2 rfl fun H1 cA1 e1' z1 o1 hAr hNm => ?_
  have hcA : cA1 = cA 0 := Option.some.inj (hNm.symm.trans (hK.2 0 _ rfl).2)
  have hne : ∀ p y, sh p = some y → p ≠ 67 := fun p y hy e => by rw [e, hlo.1] at hy; cases hy
  have hge : H0.size ≤ a67 ad H.size 67 := by rw [a67_q]; exact hW.2.1
  have k2' := kk (shU sh 67 (.inr (0, N))) (a67 ad H.size) (m67 M) H1 rfl rfl (fun t ht h2 => a67_lo ad ht h2) hge (hA.new (fun p y hy => a67_lo ad (hlo.2 p y hy).1 (hne p y hy)) hge)
  rw [a67_q] at k2'
  refine k2' ⟨hW.1.newG hlo.1 o1 (fun p y hy => ⟨a67_lo ad (hlo.2 p y hy).1 (hne p y hy), ?_⟩) (a67_q ad _) ?_, Nat.le_trans hW.2.1 (by omega), fun x h3 h4 => (o1 x (Nat.lt_of_lt_of_le h3 hW.2.1)).trans (hW.2.2.1 x h3 h4), hW.2.2.2⟩
  · have hp := hne p y hy
    refine fre_of (fun k => m67_I hp) (fun k => m67_L hp) (fun k => ?_) (fun t ht => a67_lo ad ((hlo.2 p y hy).2 t ht).1 ((hlo.2 p y hy).2 t ht).2)
    show (if p = 67 then none else (gR M p k).map f67).map _ = _
    rw [if_neg hp]
    cases gR M p k with
    | none => rfl
    | some t => exact congrArg some (a67_f ad _ t)
  · show H1[a67 ad H.size 67]? = some (vp_cell (cA 0) (N, .inl (gI (m67 M) 67)))
    rw [a67_q, e1', hcA, vp_cell_i]
    exact congrArg some (arrV_congr (fun j _ => by rw [m67_0]; rfl))
theorem WS.less {D : va_G} {cA : Nat → ClassId} {sh sh' : Nat → Option Sh} {ad : Nat → Nat} {A : Nat → Prop} {H0 H : Heap} {M : MS} {locs : List Loc} (h : WS D cA sh ad A H0 M H locs) (e : ∀ p y, sh' p = some y → sh p = some y) : WS D cA sh' ad A H0 M H locs :=
  ⟨⟨fun p x hp => h.1.1 p x (e p x hp), fun p q x y hp hq => h.1.2 p q x y (e p x hp) (e q y hq)⟩, h.2⟩
/-- the show's state lies below its next cue's place, and needs nothing at 67 -/
theorem XX.lt {σ : AS} {v : VT} {M M' : MS} (h : XX σ v M) (e1 : ∀ p k, p ≠ 67 → gI M' p k = gI M p k) (e2 : ∀ p k, p ≠ 67 → gL M' p k = gL M p k) (e3 : ∀ p k, p ≠ 67 → (gR M p k = none → gR M' p k = none) ∧ ∀ t, t < 140 → t ≠ 67 → gR M p k = some t → gR M' p k = some t) : XX σ v M' := by
  obtain ⟨ok, hR, hP, hL, hV, hT⟩ := h
  have o1 := ok.1
  have F : ∀ {p k : Nat} {x : Int32}, gI M p k = x → p ≠ 67 → gI M' p k = x := fun {p k x} h hp => (e1 p k hp).trans h
  refine ⟨ok, ?_, ?_, F hL (by omega), fun k hk => F (hV k hk) (by omega), fun k hk => F (hT k hk) (by omega)⟩
  · obtain ⟨a1, a2, a3, a4, a5, a6, a7, a8, a9, a10, a11, a12⟩ := hR
    refine ⟨fun k hk => F (a1 k hk) (by omega), trivial, fun r hr => ⟨F (a3 r hr).1 (by omega), F (a3 r hr).2 (by omega)⟩, fun k hk => ?_, fun y hy => ⟨F (a5 y hy).1 (by omega), F (a5 y hy).2 (by omega)⟩, trivial, fun c hc => F (a7 c hc) (by omega), F a8 (by omega), F a9 (by omega), F a10 (by omega), fun i hi => ?_, fun i hi => ?_⟩
    · obtain ⟨b1, b2, b3, b4, b5, b6⟩ := a4 k hk
      exact ⟨F b1 (by omega), F b2 (by omega), F b3 (by omega), F b4 (by omega), F b5 (by omega), fun y hy => F (b6 y hy) (by omega)⟩
    · rcases a11 i hi with ⟨z1, z2⟩ | ⟨z1, z2, z3⟩
      · exact Or.inl ⟨(e3 11 i (by omega)).1 z1, z2⟩
      · exact Or.inr ⟨(e3 11 i (by omega)).2 _ (by omega) (by omega) z1, z2, z3⟩
    · obtain ⟨b1, b2, b3, b4⟩ := a12 i hi
      have hb := cc_b ok hi
      exact ⟨F b1 (by omega), F b2 (by omega), (e3 _ _ (by omega)).2 _ (by omega) (by omega) b3, (e3 _ _ (by omega)).2 _ (by omega) (by omega) b4⟩
  · rcases hP with z | ⟨z, q, c, h1, h2, h3, h4, h5, h6, h7⟩
    · exact Or.inl (F z (by omega))
    · refine Or.inr ⟨F z (by omega), q, c, h1, fun i hi hg => ?_, fun j hj => ⟨F (h3 j hj).1 (by omega), F (h3 j hj).2 (by omega)⟩, fun d hd => F (h4 d hd) (by omega), F h5 (by omega), fun j hj hn => ?_, F h7 (by omega)⟩
      · obtain ⟨b1, b2, b3, b4⟩ := h2 i hi hg
        exact ⟨fun k hk => by rw [e2 _ _ (by omega)]; exact b1 k hk, F b2 (by omega), F b3 (by omega), fun he => ⟨F (b4 he).1 (by omega), F (b4 he).2 (by omega)⟩⟩
      · have hq := (h1.1 j hj).2.1
        exact (e3 _ _ (by omega)).2 _ (by omega) (by omega) (h6 j hj hn)
theorem XX_m67 {σ : AS} {v : VT} {M : MS} (h : XX σ v M) : XX σ v (m67 M) :=
  h.lt (fun p k hp => m67_I hp) (fun p k hp => m67_L hp) (fun p k hp => ⟨fun z => m67_R0 hp z, fun t ht h2 z => m67_R1 hp (by omega) h2 z⟩)
/-- the law's own stores leave the show -/
theorem XX_sL {σ : AS} {v : VT} {M : MS} {p j : Nat} {x : Int32} (h : XX σ v M) (h1 : 60 ≤ p) (h2 : p < 100) : XX σ v (sI M p j x) :=
  h.fr (S := fun a _ => a = p) (oA.putI oA.rf rfl) (fun a k z => by omega)
/-- one cell of the law's own changes -/
theorem kp_sI {M : MS} {p j : Nat} {x : Int32} {a b : Nat} (h : ¬ (a = p ∧ b = j)) : gI (sI M p j x) a b = gI M a b := by rw [gI_sI, if_neg h]
theorem kp_eq (M : MS) (p j : Nat) (x : Int32) : gI (sI M p j x) p j = x := by rw [gI_sI, if_pos ⟨rfl, rfl⟩]

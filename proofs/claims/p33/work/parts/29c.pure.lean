/-! Helpers of the law's walks. -/
theorem lg_self (z : Int64) : lg_cmp z z = 0 := by
  unfold lg_cmp
  rw [if_neg (fun h => absurd h (by rw [gt_iff_lt, Int64.lt_iff_toInt_lt]; omega)), if_pos rfl]
def LSh (sh : Nat → Option Sh) : Prop := ∀ p, 60 ≤ p → p ≤ 66 → sh p = shT.getD p none
theorem shL_LSh (n : Nat) : LSh (shL n) := fun p h1 h2 => shL_M n p h1 (by omega)
def lowI (a b : Int32) : Int32 := (a &&& 2147483647) - (a &&& 2147483647) / b * b
theorem low_n (a : Int32) {n : Nat} (h0 : 0 < n) (hn : n < 2 ^ 31) : ∃ j, j < n ∧ lowI a (nI n) = nI j := by
  have h : ¬ (a &&& 2147483647) < 0 := by
    have : 0 ≤ (a &&& 2147483647) := by
      rw [i32ge0, Int32.toBitVec_and, BitVec.msb_and]
      have : (2147483647 : Int32).toBitVec.msb = false := by decide
      rw [this]; simp
    rw [i32le] at this; rw [i32lt]; omega
  obtain ⟨m, hm, e⟩ := nI_of h
  exact ⟨m % n, Nat.mod_lt _ h0, by unfold lowI; rw [e]; exact pk_rem hm h0 hn⟩
theorem nI_ne0 {n : Nat} (h0 : 0 < n) (hn : n < 2 ^ 31) : ¬ nI n = 0 := fun z => by
  have := (nI_eq (b := 0) hn (by decide)).mp z; omega
theorem bI_tt {b : Bool} (h : b = true) : 1 = bI b := by rw [h]; rfl
theorem bI_ff {b : Bool} (h : b = false) : 0 = bI b := by rw [h]; rfl
theorem tol0 (σ : AS) (i : Nat) : tolA σ i 0 = falX σ i := by unfold tolA plT; rw [if_pos rfl]
theorem tol1 (σ : AS) (i : Nat) : tolA σ i 1 = falY σ i := by unfold tolA plT; rw [if_neg (by decide), if_pos rfl]
theorem tol2 (σ : AS) (i : Nat) : tolA σ i 2 = jfd (falX σ i) 100 := by unfold tolA plT; rw [if_neg (by decide), if_neg (by decide), if_pos rfl]
theorem tol3 (σ : AS) (i : Nat) : tolA σ i 3 = jfd (falY σ i) 100 := by unfold tolA plT; rw [if_neg (by decide), if_neg (by decide), if_neg (by decide)]
theorem bst_pos {σ : AS} (ok : AOK σ) {i : Nat} (hi : i < aN σ) : 0 < (bstA σ i 2).toInt := by
  obtain ⟨h1, h2, h3, h4⟩ := kd_ok ok (cc_b ok hi).2.1
  unfold bstA
  rw [if_pos rfl]
  exact (lift_hi h3 h4 h2).2
theorem near_y {σ : AS} (ok : AOK σ) {i k : Nat} (hi : i < aN σ) (hk : k < 64) {col lin far u1 u2 u3 u4 : Int32} (ec : col = jfd (falX σ i) 100) (el : lin = jfd (falY σ i) 100) (ef : far = nI (σ.2 2 (σ.2 8 i))) (e1 : u1 = nI (k % 8) - col) (e2 : u2 = col - nI (k % 8)) (e3 : u3 = nI (k / 8) - lin) (e4 : u4 = lin - nI (k / 8)) (h1 : ¬ far < u1) (h2 : ¬ far < u2) (h3 : ¬ far < u3) (h4 : ¬ far < u4) : 1 = bI (zonB σ i k) := by
  rw [ef] at h1 h2 h3 h4
  exact bI_tt (by rw [near_is ok hi hk ec el e1 e2 e3 e4]; exact decide_eq_true ⟨h1, h2, h3, h4⟩)
theorem near_n {σ : AS} (ok : AOK σ) {i k : Nat} (hi : i < aN σ) (hk : k < 64) {col lin far u : Int32} (ec : col = jfd (falX σ i) 100) (el : lin = jfd (falY σ i) 100) (ef : far = nI (σ.2 2 (σ.2 8 i))) (h : far < u) (e : u = nI (k % 8) - col ∨ u = col - nI (k % 8) ∨ u = nI (k / 8) - lin ∨ u = lin - nI (k / 8)) : 0 = bI (zonB σ i k) := by
  rw [ef] at h
  refine bI_ff ?_
  rw [near_is ok hi hk ec el rfl rfl rfl rfl]
  refine decide_eq_false (fun z => ?_)
  rcases e with e | e | e | e
  · exact z.1 (e ▸ h)
  · exact z.2.1 (e ▸ h)
  · exact z.2.2.1 (e ▸ h)
  · exact z.2.2.2 (e ▸ h)
theorem or_0 (x : Int64) : x ||| 0 = x := by
  apply bitL_ext
  intro k _
  rw [bitL_or, bitL_0, Bool.or_false]
theorem zz_s {P : Nat → Bool} {z : Int64} {k : Nat} (h : ∀ j, j < 64 → bitL z j = decide (j < k ∧ P j = true)) (hk : k < 64) : ∀ j, j < 64 → bitL (z ||| (if P k = true then (1 : Int64) <<< ((nI k).toInt64 &&& 63) else 0)) j = decide (j < k + 1 ∧ P j = true) := by
  cases hp : P k with
  | true => rw [if_pos rfl]; exact zw_t h hp hk
  | false => rw [if_neg (by decide), or_0]; exact zw_f h (by rw [hp]; decide)
theorem dec_and {j k : Nat} {b : Bool} (h : j < k) : decide (j < k ∧ b = true) = b := by
  cases b <;> simp [h]
theorem ne_none' {sh : Nat → Option Sh} {p : Nat} {y : Sh} (h : sh p = some y) : sh p ≠ none := by rw [h]; exact fun z => nomatch z
/-! An array behind all known places, and its end. -/
theorem wnewAS {p : Program} {l : Launch} {e : Env} {R : Room} {s : State} {m : MethodId} {args : Array Value} {below : List Frame} {meth : Method} {c : Code} {H : Heap} {locs : List Loc} {cells slots : Nat} {Q : State → Prop} {cc : ByteArray} {pc : Nat} {ls : Array Slot} {rest : List Value} {D : va_G} {cA : Nat → ClassId} {sh : Nat → Option Sh} {ad : Nat → Nat} {A : Nat → Prop} {H0 : Heap} {M : MS}
    (hexec : p.tables.exec = Jvm.exec) (hb : c.code = cc) {q N : Nat} {n : Int32} (harr : (Cond.arrayClass .int).before args s = true) (hK : va_K D vwCl (wty cA) s) (hA : PA sh ad A H0) (hW : WS D cA sh ad A H0 M H locs)
    (hlo : ∀ p y, sh p = some y → p < q ∧ ∀ t, frf y t → t < q) (hn : n = nI N) (hN : N < 2 ^ 20) (hcells : cells + 1 ≤ R.cells ∧ slots + N ≤ R.slots) (hdg : decode cc pc = .ok (.newarray .int, 2))
    (kk : ∀ (sh1 : Nat → Option Sh) (ad1 : Nat → Nat) (M1 : MS) (H1 : Heap), sh1 = shU sh q (.inr (0, N)) → M1 = shM M q → (∀ t, t < q → ad1 t = ad t) → H0.size ≤ ad1 q → PA sh1 ad1 A H0 → WS D cA sh1 ad1 A H0 M1 H1 locs → W p l e R s m args below meth c H1 locs (cells + 1) (slots + N) Q (F0 m (pc + 2) ls (.ref (ad1 q) :: rest))) : W p l e R s m args below meth c H locs cells slots Q (F0 m pc ls (.int n :: rest)) := by
  subst hn
  refine va_newaK (atype := .int) hexec hb harr rfl hdg rfl (nI_pos (by omega)) (nI_clamp (by omega)) (by show N * 4 ≤ 536870912; omega) hcells.1 hcells.2 rfl fun H1 cA1 e1' z1 o1 hAr hNm => ?_
  have hcA : cA1 = cA 0 := Option.some.inj (hNm.symm.trans (hK.2 0 _ rfl).2)
  have hq : sh q = none := by
    cases hq : sh q with
    | none => rfl
    | some y => exact absurd (hlo q y hq).1 (Nat.lt_irrefl _)
  have hge : H0.size ≤ shA ad q H.size q := by rw [shA_q]; exact hW.2.1
  have k2' := kk (shU sh q (.inr (0, N))) (shA ad q H.size) (shM M q) H1 rfl rfl (fun t ht => shA_lo ad ht) hge (hA.new (fun p y hy => shA_lo ad (hlo p y hy).1) hge)
  rw [shA_q] at k2'
  refine k2' ⟨hW.1.newG hq o1 (fun p y hy => ⟨shA_lo ad (hlo p y hy).1, ?_⟩) (shA_q ad q _) ?_, Nat.le_trans hW.2.1 (by omega), fun x h3 h4 => (o1 x (Nat.lt_of_lt_of_le h3 hW.2.1)).trans (hW.2.2.1 x h3 h4), hW.2.2.2⟩
  · have hne : p ≠ q := Nat.ne_of_lt (hlo p y hy).1
    refine fre_of (fun k => shM_I hne) (fun k => shM_L hne) (fun k => ?_) (fun t ht => shA_lo ad ((hlo p y hy).2 t ht))
    show (if p = q then none else (gR M p k).map (sft q)).map _ = _
    rw [if_neg hne]
    cases gR M p k with
    | none => rfl
    | some t => exact congrArg some (shA_sft ad q _ t)
  · show H1[shA ad q H.size q]? = some (vp_cell (cA 0) (N, .inl (gI (shM M q) q)))
    rw [shA_q, e1', hcA, vp_cell_i]
    exact congrArg some (arrV_congr (fun j _ => by rw [show gI (shM M q) q j = 0 from if_pos rfl]; rfl))
theorem WS.less {D : va_G} {cA : Nat → ClassId} {sh sh' : Nat → Option Sh} {ad : Nat → Nat} {A : Nat → Prop} {H0 H : Heap} {M : MS} {locs : List Loc} (h : WS D cA sh ad A H0 M H locs) (e : ∀ p y, sh' p = some y → sh p = some y) : WS D cA sh' ad A H0 M H locs :=
  ⟨⟨fun p x hp => h.1.1 p x (e p x hp), fun p q x y hp hq => h.1.2 p q x y (e p x hp) (e q y hq)⟩, h.2⟩
/-- the show's state lies below its next cue's place -/
theorem XX.lt {σ : AS} {v : VT} {M M' : MS} (h : XX σ v M) (e1 : ∀ p k, p < 100 + aN σ → gI M' p k = gI M p k) (e2 : ∀ p k, p < 100 + aN σ → gL M' p k = gL M p k) (e3 : ∀ p k, p < 100 + aN σ → (gR M p k = none → gR M' p k = none) ∧ ∀ t, t < 100 + aN σ → gR M p k = some t → gR M' p k = some t) : XX σ v M' := by
  obtain ⟨ok, hR, hP, hL, hV, hT⟩ := h
  have F : ∀ {p k : Nat} {x : Int32}, gI M p k = x → p < 100 + aN σ → gI M' p k = x := fun {p k x} h hp => (e1 p k hp).trans h
  refine ⟨ok, ?_, ?_, F hL (by omega), fun k hk => F (hV k hk) (by omega), fun k hk => F (hT k hk) (by omega)⟩
  · obtain ⟨a1, a2, a3, a4, a5, a6, a7, a8, a9, a10, a11, a12⟩ := hR
    refine ⟨fun k hk => F (a1 k hk) (by omega), trivial, fun r hr => ⟨F (a3 r hr).1 (by omega), F (a3 r hr).2 (by omega)⟩, fun k hk => ?_, fun y hy => ⟨F (a5 y hy).1 (by omega), F (a5 y hy).2 (by omega)⟩, trivial, fun c hc => F (a7 c hc) (by omega), F a8 (by omega), F a9 (by omega), F a10 (by omega), fun i hi => ?_, fun i hi => ?_⟩
    · obtain ⟨b1, b2, b3, b4, b5, b6⟩ := a4 k hk
      exact ⟨F b1 (by omega), F b2 (by omega), F b3 (by omega), F b4 (by omega), F b5 (by omega), fun y hy => F (b6 y hy) (by omega)⟩
    · rcases a11 i hi with ⟨z1, z2⟩ | ⟨z1, z2, z3⟩
      · exact Or.inl ⟨(e3 11 i (by omega)).1 z1, z2⟩
      · exact Or.inr ⟨(e3 11 i (by omega)).2 _ (by omega) z1, z2, z3⟩
    · obtain ⟨b1, b2, b3, b4⟩ := a12 i hi
      have hb := cc_b ok hi
      exact ⟨F b1 (by omega), F b2 (by omega), (e3 _ _ (by omega)).2 _ (by omega) b3, (e3 _ _ (by omega)).2 _ (by omega) b4⟩
  · rcases hP with z | ⟨z, q, c, h1, h2, h3, h4, h5, h6, h7⟩
    · exact Or.inl (F z (by omega))
    · refine Or.inr ⟨F z (by omega), q, c, h1, fun i hi hg => ?_, fun j hj => ?_, fun d hd => F (h4 d hd) (by omega), F h5 (by omega), fun j hj hn => ?_, F h7 (by omega)⟩
      · obtain ⟨b1, b2, b3, b4⟩ := h2 i hi hg
        exact ⟨fun k hk => by rw [e2 _ _ (by omega)]; exact b1 k hk, F b2 (by omega), F b3 (by omega), fun he => ⟨F (b4 he).1 (by omega), F (b4 he).2 (by omega)⟩⟩
      · have hq := (h1.1 j hj).2.1
        exact ⟨F (h3 j hj).1 (by omega), F (h3 j hj).2 (by omega)⟩
      · have hq := (h1.1 j hj).2.1
        exact (e3 _ _ (by omega)).2 _ (by omega) (h6 j hj hn)
theorem XX_shM {σ : AS} {v : VT} {M : MS} {Q : Nat} (hQ : Q = 100 + aN σ) (h : XX σ v M) : XX σ v (shM M Q) :=
  h.lt (fun p k hp => shM_I (by omega)) (fun p k hp => shM_L (by omega)) (fun p k hp => ⟨fun z => shM_R0 (by omega) z, fun t ht z => shM_R1 (by omega) (by omega) z⟩)
theorem XX_sI {σ : AS} {v : VT} {M : MS} {Q j : Nat} {x : Int32} (hQ : Q = 100 + aN σ) (h : XX σ v M) : XX σ v (sI M Q j x) :=
  h.lt (fun p k hp => by rw [gI_sI, if_neg (fun z => by omega)]) (fun p k hp => gL_sI _ _ _ _ _ _) (fun p k hp => by rw [gR_sI]; exact ⟨id, fun _ _ => id⟩)
/-- the law's own stores leave the show -/
theorem XX_sL {σ : AS} {v : VT} {M : MS} {p j : Nat} {x : Int32} (h : XX σ v M) (h1 : 60 ≤ p) (h2 : p < 100) : XX σ v (sI M p j x) :=
  h.fr (S := fun a _ => a = p) (oA.putI oA.rf rfl) (fun a k z => by omega)
/-- one cell of the law's own changes -/
theorem kp_sI {M : MS} {p j : Nat} {x : Int32} {a b : Nat} (h : ¬ (a = p ∧ b = j)) : gI (sI M p j x) a b = gI M a b := by rw [gI_sI, if_neg h]
theorem kp_eq (M : MS) (p j : Nat) (x : Int32) : gI (sI M p j x) p j = x := by rw [gI_sI, if_pos ⟨rfl, rfl⟩]

/-! What the tables say at the law's entry. -/
theorem lw_arr {s : State} {a : Array Value} {ty : FieldType} (h : (Cond.arrayClass ty).before a s = true) : ∃ c : ClassId, ArrOfT s c ty ∧ s.vm.findClass ("[" ++ ty.toString) = some c := by
  obtain ⟨c, k, comp, h1, h2, h3⟩ := Cond.arrayClass_spec h
  exact ⟨c, fun n z => ⟨fun k h => (by cases h), k, h2, comp, h3⟩, h1⟩
theorem lw_obj {s : State} {a : Array Value} {C : String} (h : (Cond.arrayOver (.object C)).before a s = true) : ∃ c : ClassId, ArrOfT s c (.object C) ∧ va_RA s c (.object C) := by
  obtain ⟨comp, c, k, h1, h2, h3, h4, h5⟩ := Cond.arrayOver_spec h
  exact ⟨c, fun n z => ⟨fun k h => (by cases h), k, h3, comp, h4⟩, k, comp, h3, h4, h1, h5⟩
set_option maxRecDepth 20000 in
theorem lw_K {s : State} {a : Array Value} (hts : ∀ w ∈ lw_tbl, w.before a s = true) : ∃ (D : va_G) (cA : Nat → ClassId), va_K D vwCl (wty cA) s := by
  obtain ⟨c0', i0, k0'⟩ := u_known (C := RX0) (T := TX0) (N := 4) (n := 4) hts inX0 (hts (.instantiable RX0 4) (by decide +kernel))
  obtain ⟨c1', i1, k1'⟩ := u_known (C := RX1) (T := TX1) (N := 4) (n := 4) hts inX1 (hts (.instantiable RX1 4) (by decide +kernel))
  obtain ⟨c2', i2, k2'⟩ := u_known (C := RX2) (T := TX2) (N := 9) (n := 9) hts inX2 (hts (.instantiable RX2 9) (by decide +kernel))
  obtain ⟨c3', i3, k3'⟩ := u_known (C := RX3) (T := TX3) (N := 3) (n := 3) hts inX3 (hts (.instantiable RX3 3) (by decide +kernel))
  obtain ⟨c4', i4, k4'⟩ := u_known (C := RX4) (T := TX4) (N := 2) (n := 2) hts inX4 (hts (.instantiable RX4 2) (by decide +kernel))
  obtain ⟨c5', i5, k5'⟩ := u_known (C := RX5) (T := TX5) (N := 5) (n := 5) hts inX5 (hts (.instantiable RX5 5) (by decide +kernel))
  obtain ⟨c6', i6, k6'⟩ := u_known (C := RX6) (T := TX6) (N := 7) (n := 7) hts inX6 (hts (.instantiable RX6 7) (by decide +kernel))
  obtain ⟨c7', i7, k7'⟩ := u_known (C := RX7) (T := TX7) (N := 2) (n := 2) hts inX7 (hts (.instantiable RX7 2) (by decide +kernel))
  obtain ⟨c8', i8, k8'⟩ := u_known (C := RX8) (T := TX8) (N := 2) (n := 2) hts inX8 (hts (.instantiable RX8 2) (by decide +kernel))
  obtain ⟨c9', i9, k9'⟩ := u_known (C := RX9) (T := TX9) (N := 15) (n := 15) hts inX9 (hts (.instantiable RX9 15) (by decide +kernel))
  obtain ⟨c10', i10, k10'⟩ := u_known (C := RX10) (T := TX10) (N := 29) (n := 29) hts inX10 (hts (.instantiable RX10 29) (by decide +kernel))
  obtain ⟨a0, A0⟩ := lw_arr (hts (.arrayClass .int) (by decide +kernel))
  obtain ⟨a1, A1⟩ := lw_arr (hts (.arrayClass .boolean) (by decide +kernel))
  obtain ⟨a2, A2⟩ := lw_arr (hts (.arrayClass .long) (by decide +kernel))
  obtain ⟨a3, A3⟩ := lw_obj (hts (.arrayOver (.object "MortarShow$Cue")) (by decide +kernel))
  obtain ⟨a4, A4⟩ := lw_obj (hts (.arrayOver (.object "MortarShow$Kind")) (by decide +kernel))
  obtain ⟨a5, A5⟩ := lw_obj (hts (.arrayOver (.object "MortarShow$Rack")) (by decide +kernel))
  refine ⟨(fun k => match k with | 0 => c0' | 1 => c1' | 2 => c2' | 3 => c3' | 4 => c4' | 5 => c5' | 6 => c6' | 7 => c7' | 8 => c8' | 9 => c9' | _ => c10', fun k => match k with | 0 => i0 | 1 => i1 | 2 => i2 | 3 => i3 | 4 => i4 | 5 => i5 | 6 => i6 | 7 => i7 | 8 => i8 | 9 => i9 | _ => i10), (fun k => match k with | 0 => a0 | 1 => a1 | 2 => a2 | 3 => a3 | 4 => a4 | _ => a5), fun c q hq => ?_, fun k q hk => ?_⟩
  · match c, hq with
    | 0, hq => obtain rfl : ((RX0, TX0, 4) : vw_C) = q := Option.some.inj hq; exact k0'
    | 1, hq => obtain rfl : ((RX1, TX1, 4) : vw_C) = q := Option.some.inj hq; exact k1'
    | 2, hq => obtain rfl : ((RX2, TX2, 9) : vw_C) = q := Option.some.inj hq; exact k2'
    | 3, hq => obtain rfl : ((RX3, TX3, 3) : vw_C) = q := Option.some.inj hq; exact k3'
    | 4, hq => obtain rfl : ((RX4, TX4, 2) : vw_C) = q := Option.some.inj hq; exact k4'
    | 5, hq => obtain rfl : ((RX5, TX5, 5) : vw_C) = q := Option.some.inj hq; exact k5'
    | 6, hq => obtain rfl : ((RX6, TX6, 7) : vw_C) = q := Option.some.inj hq; exact k6'
    | 7, hq => obtain rfl : ((RX7, TX7, 2) : vw_C) = q := Option.some.inj hq; exact k7'
    | 8, hq => obtain rfl : ((RX8, TX8, 2) : vw_C) = q := Option.some.inj hq; exact k8'
    | 9, hq => obtain rfl : ((RX9, TX9, 15) : vw_C) = q := Option.some.inj hq; exact k9'
    | 10, hq => obtain rfl : ((RX10, TX10, 29) : vw_C) = q := Option.some.inj hq; exact k10'
    | c + 11, hq => rw [List.getElem?_eq_none (by show 11 ≤ c + 11; omega)] at hq; cases hq
  · match k, hk with
    | 0, hk => obtain rfl : ((a0, .int) : ClassId × FieldType) = q := Option.some.inj hk; exact A0
    | 1, hk => obtain rfl : ((a1, .boolean) : ClassId × FieldType) = q := Option.some.inj hk; exact A1
    | 2, hk => obtain rfl : ((a2, .long) : ClassId × FieldType) = q := Option.some.inj hk; exact A2
    | 3, hk => obtain rfl : ((a3, .object "MortarShow$Cue") : ClassId × FieldType) = q := Option.some.inj hk; exact A3
    | 4, hk => obtain rfl : ((a4, .object "MortarShow$Kind") : ClassId × FieldType) = q := Option.some.inj hk; exact A4
    | 5, hk => obtain rfl : ((a5, .object "MortarShow$Rack") : ClassId × FieldType) = q := Option.some.inj hk; exact A5
    | k + 6, hk => rw [List.getElem?_eq_none (by show 6 ≤ k + 6; omega)] at hk; cases hk
set_option maxRecDepth 20000 in
theorem lw_cst : ∀ E ∈ [nIA, nIS, nIO], Cond.castable E E ∈ lw_tbl := by decide +kernel
set_option maxRecDepth 20000 in
theorem lw_dcl : ∀ E ∈ exD, Cond.declares (Bundle.initS E) ∈ lw_tbl := by decide +kernel
set_option maxRecDepth 20000 in
theorem lw_str : ∀ q ∈ exT, Cond.stringRef RX9 q.1 q.2 ∈ lw_tbl := by decide +kernel
set_option maxRecDepth 20000 in
theorem lw_sex : ∀ q ∈ exT, Cond.exactly (Term.string RX9 q.1) "java/lang/String" ∈ flatC (Jvm.Cond.and given_1 narrow_1) := by decide +kernel
set_option maxRecDepth 20000 in
theorem lw_nst : ∀ w ∈ nsts, Cond.methodLinkNest w.1 w.2.1 w.2.2.1 w.2.2.2 ∈ lw_tbl := by decide +kernel
set_option maxRecDepth 20000 in
theorem lw_ovr : ∀ C ∈ [RX2, RX6, RX7], Cond.arrayOver (.object C) ∈ lw_tbl := by decide +kernel
theorem lw_E {s : State} {a : Array Value} (hts : ∀ w ∈ lw_tbl, w.before a s = true) (hgv : (Jvm.Cond.and given_1 narrow_1).before a s = true) : EXs s :=
  ⟨fun E hE => va_Nw.of rfl (hts _ (lw_cst E hE)), fun E hE => va_Nw.of rfl (hts _ (lw_dcl E hE)), fun q hq => by
    obtain ⟨sa, -, -, -, q1, -⟩ := Cond.exactly_spec (flat_of_before _ hgv _ (lw_sex q hq))
    exact ⟨sa, vk_R.of (hts _ (lw_str q hq)) q1⟩⟩
theorem lw_N {s : State} {a : Array Value} (hts : ∀ w ∈ lw_tbl, w.before a s = true) : INs s :=
  ⟨fun w hw => va_Nw.of rfl (hts _ (lw_nst w hw)), fun C hC => va_AO.of (hts _ (lw_ovr C hC))⟩
set_option maxRecDepth 20000 in
theorem lw_EZ {s : State} {a : Array Value} (hts : ∀ w ∈ lw_tbl, w.before a s = true) (hgv : (Jvm.Cond.and given_1 narrow_1).before a s = true) : EXz (lA s) s s.heap := by
  have hs := flat_of_before _ hgv
  refine ⟨vx_Zqof (args := a) (hts _ (by decide +kernel)) (hts _ (by decide +kernel)) (hs _ (by decide +kernel)) (fun q h z => absurd h (Nat.not_lt.mpr z)), vx_Zqof (args := a) (hts _ (by decide +kernel)) (hts _ (by decide +kernel)) (hs _ (by decide +kernel)) (fun q h z => absurd h (Nat.not_lt.mpr z))⟩
set_option maxRecDepth 20000 in
theorem lw_Nc {s : State} {a : Array Value} (hgv : (Jvm.Cond.and given_1 narrow_1).before a s = true) : va_Nc nIS nIA s ∧ va_Nc nIA nIO s := by
  have hs := flat_of_before _ hgv
  exact ⟨va_Nc.of (args := a) (hs _ (by decide +kernel)), va_Nc.of (args := a) (hs _ (by decide +kernel))⟩
/-! The worlds of the start. -/
theorem shX_0 : shU (fun _ => none) 0 (.inl (9, [2, 2, 2, 2, 2, 2, 2, 2, 2, 2, 0, 0, 0, 0, 0])) = shXn 1 := by
  funext p
  unfold shU shXn
  by_cases h : p = 0
  · rw [if_pos h, if_pos h]
  · rw [if_neg h, if_neg h, if_neg (by omega)]
theorem shM_0 : shU shF 60 (.inl (10, [2, 2, 2, 2, 2, 2, 2, 2, 2, 2, 2, 2, 2, 2, 2, 0, 0, 0, 2, 2, 2, 2, 2, 2, 2, 2, 2, 0, 0])) = shMn 0 := by
  funext p
  unfold shU shF shMn
  by_cases h : p = 60
  · rw [if_pos h, if_neg (by omega), if_pos h]
  · rw [if_neg h]
    by_cases h1 : p < 60
    · rw [if_pos h1, if_pos h1]
    · rw [if_neg h1, if_neg h1, if_neg h, if_neg (by omega)]
theorem shL_00 : shU shMF 90 (.inr (2, 1)) = shL 0 := by
  funext p
  unfold shU shMF shL
  by_cases h : p = 90
  · rw [if_pos h, if_neg (by omega), if_pos h]
  · rw [if_neg h, if_neg h]
    by_cases h1 : p < 85
    · rw [if_pos h1, if_pos h1]
    · rw [if_neg h1, if_neg h1, if_neg (by omega)]
theorem aN_0 : aN as0 = 0 := rfl
/-- with no cue, the show's own places alone tell its state -/
theorem XX.z {σ : AS} {v : VT} {M M' : MS} (h : XX σ v M) (hn : aN σ = 0) (o : ∀ p k, p < 60 → gI M' p k = gI M p k ∧ gL M' p k = gL M p k ∧ gR M' p k = gR M p k) : XX σ v M' := by
  obtain ⟨ok, hR, hP, hL, hV, hT⟩ := h
  have F : ∀ {p k : Nat} {x : Int32}, gI M p k = x → p < 60 → gI M' p k = x := fun {p k x} h hp => (o p k hp).1.trans h
  have no : ∀ i, ¬ i < aN σ := fun i hi => by rw [hn] at hi; exact absurd hi (Nat.not_lt_zero i)
  refine ⟨ok, ?_, ?_, F hL (by omega), fun k hk => F (hV k hk) (by omega), fun k hk => F (hT k hk) (by omega)⟩
  · obtain ⟨a1, a2, a3, a4, a5, a6, a7, a8, a9, a10, a11, a12⟩ := hR
    refine ⟨fun k hk => F (a1 k hk) (by omega), trivial, fun r hr => ⟨F (a3 r hr).1 (by omega), F (a3 r hr).2 (by omega)⟩, fun k hk => ?_, fun y hy => ⟨F (a5 y hy).1 (by omega), F (a5 y hy).2 (by omega)⟩, trivial, fun c hc => F (a7 c hc) (by omega), F a8 (by omega), F a9 (by omega), F a10 (by omega), fun i hi => ?_, fun i hi => absurd hi (no i)⟩
    · obtain ⟨b1, b2, b3, b4, b5, b6⟩ := a4 k hk
      exact ⟨F b1 (by omega), F b2 (by omega), F b3 (by omega), F b4 (by omega), F b5 (by omega), fun y hy => F (b6 y hy) (by omega)⟩
    · rw [(o 11 i (by omega)).2.2]; exact a11 i hi
  · rcases hP with z | ⟨z, q, c, h1, h2, h3, h4, h5, h6, h7⟩
    · exact Or.inl (F z (by omega))
    · refine Or.inr ⟨F z (by omega), q, c, h1, fun i hi => absurd hi (no i), fun j hj => absurd (h1.1 j hj).2.1 (no _), fun d hd => F (h4 d hd) (by omega), F h5 (by omega), fun j hj _ => absurd (h1.1 j hj).2.1 (no _), F h7 (by omega)⟩
/-! The law's loop. -/
theorem lw_hd {i L : Nat} {x y : Int32} (hi : i ≤ 2560) (hL : L ≤ 2560) (ex : x = nI i) (ey : y = nI L - nI 5) (h : ¬ y < x) : i + 5 ≤ L := by
  rw [i32lt, ex, ey, pk_sub_toInt (by omega) (by omega), nI_toInt (by omega)] at h
  omega
set_option maxHeartbeats 4000000 in
set_option maxRecDepth 100000 in
theorem law_loop {p : Program} {l : Launch} {e : Env} {s : State} {m : MethodId} {below : List Frame} {meth : Method} {cd0 : Code} {b L : Nat} {xs : Nat → Int32} {D : va_G} {cA : Nat → ClassId} (C0 : LC p l s m cd0 b L xs D cA) (hr : meth.sig.returnType = ret) (hlocks : meth.locks = false) :
    ∀ (n j : Nat), 5 * j ≤ L → L + 1 ≤ 5 * j + n → ∀ (σ : AS) (v : VT) (sh : Nat → Option Sh) (ad : Nat → Nat) (M : MS) (H : Heap) (locs : List Loc), LI D cA s σ v sh ad M H locs → ∀ (xi : Int32), xi = nI (5 * j) → ∀ (ls : Array Slot), lv_has ls 8 [(4, .int xi), (3, .ref (ad 90)), (2, .ref (ad 60)), (1, .ref (ad 0)), (0, .ref b)] → W p l e room_1 s m #[Value.ref b] below meth cd0 H locs (66 + 2 * j) (1340 + 12 * j) (lw_Z below #[Value.ref b] s) (F0 m 23 ls []) := by
  intro n
  induction n with
  | zero =>
    intro j h1 h2
    exact absurd h2 (by omega)
  | succ n ih =>
    intro j hj hn σ v sh ad M H locs hI xi exi ls hl
    obtain ⟨hx, hb, hml, hown, hts, hK, hl9, hS9, hbl, hL9, hE, hZ, hE2⟩ := id C0
    obtain ⟨hsh, hXX, hMX, hA, hW⟩ := id hI
    have hbA : ¬ lA s b := Nat.not_le.mpr hbl
    refine lv_iload hx hb dL_law_23 (lv_at hl 0 rfl) ?_
    refine lv_aload_n hx hb dL_law_25 rfl (lv_at hl 4 rfl) ?_
    refine va_slen hx hb hS9 hbl hbA hW.2 dL_law_26 ?_
    refine lv_iconst (v := 5) hx hb dL_law_27 (by decide) ?_
    refine lv_isub hx hb dL_law_28 ?_
    refine lv_topi (fun x28' e28' => ?_)
    refine lv_icmp_gt (tgt := 1846) hx hb dL_law_29 (by decide) (fun c29' => ?_) (fun c29' => ?_)
    · refine lv_iconst (v := 1) hx hb dL_law_1846 (by decide) ?_
      refine va_forget (fun q hq => hW.2.2.2 q hq) ?_
      refine W.widen (k := 601024) (n := 7293034) (by omega) (by omega) ?_
      exact lw_ret hx hb hr hlocks dL_law_1847
    have hi5 : 5 * j + 5 ≤ L := lw_hd (by omega) hL9 exi e28' c29'
    have kk1 : ∀ (σ' : AS) (v' : VT) (sh' : Nat → Option Sh) (ad' : Nat → Nat) (M' : MS) (H' : Heap) (locs' : List Loc) (ls' : Array Slot), LI D cA s σ' v' sh' ad' M' H' locs' → lv_has ls' 8 [(4, .int xi), (3, .ref (ad' 90)), (2, .ref (ad' 60)), (1, .ref (ad' 0)), (0, .ref b)] → W p l e room_1 s m #[Value.ref b] below meth cd0 H' locs' (66 + 2 * j + 2) (1340 + 12 * j + 12) (lw_Z below #[Value.ref b] s) (F0 m 1840 ls' []) := by
      intro σ v sh ad M H locs ls hI hl
      obtain ⟨y, ey⟩ : ∃ y : Int32, y = xi + 5 := ⟨_, rfl⟩
      refine lv_iinc (v := y) (lv' := [(4, .int y), (3, .ref (ad 90)), (2, .ref (ad 60)), (1, .ref (ad 0)), (0, .ref b)]) hx hb dL_law_1840 hl (k := 0) rfl (by rw [ey]; rfl) (by decide) rfl (fun ls hl => ?_)
      refine lv_goto (tgt := 23) hx hb dL_law_1843 (by decide) ?_
      refine W.eqn (c9' := 66 + 2 * (j + 1)) (n9' := 1340 + 12 * (j + 1)) (by omega) (by omega) ?_
      exact ih (j + 1) (by omega) (by omega) σ v sh ad M H locs hI y (by rw [ey, exi, nlit 5, nI_add]; rfl) ls hl
    refine lv_aload_n hx hb dL_law_32 rfl (lv_at hl 4 rfl) ?_
    refine lv_iload hx hb dL_law_33 (lv_at hl 0 rfl) ?_
    refine lsld (j := 5 * j) hx hb hS9 hbl hW.2 exi (by omega) hL9 dL_law_35 ?_
    refine lv_bipush (v := 31) hx hb dL_law_36 (by decide) ?_
    refine lv_iand hx hb dL_law_38 ?_
    refine lv_topi (fun x38' e38' => ?_)
    by_cases w0 : x38' = 0
    · refine lv_tableIn (off := 133) (tgt := 172) hx hb dL_law_39 (by rw [w0]; decide) (by rw [w0]; decide) (by rw [w0]; rfl) (by decide) ?_
      exact law_setRack C0 σ v sh ad M H locs hI (5 * j) hi5 xi exi ls hl _ _ ⟨by omega, by omega⟩ kk1
    by_cases w1 : x38' = 1
    · refine lv_tableIn (off := 213) (tgt := 252) hx hb dL_law_39 (by rw [w1]; decide) (by rw [w1]; decide) (by rw [w1]; rfl) (by decide) ?_
      exact law_setShell C0 σ v sh ad M H locs hI (5 * j) hi5 xi exi ls hl _ _ ⟨by omega, by omega⟩ kk1
    by_cases w2 : x38' = 2
    · refine lv_tableIn (off := 305) (tgt := 344) hx hb dL_law_39 (by rw [w2]; decide) (by rw [w2]; decide) (by rw [w2]; rfl) (by decide) ?_
      exact law_setWind C0 σ v sh ad M H locs hI (5 * j) hi5 xi exi ls hl _ _ ⟨by omega, by omega⟩ kk1
    by_cases w3 : x38' = 3
    · refine lv_tableIn (off := 385) (tgt := 424) hx hb dL_law_39 (by rw [w3]; decide) (by rw [w3]; decide) (by rw [w3]; rfl) (by decide) ?_
      exact law_setPeople C0 σ v sh ad M H locs hI (5 * j) hi5 xi exi ls hl _ _ ⟨by omega, by omega⟩ kk1
    by_cases w4 : x38' = 4
    · refine lv_tableIn (off := 465) (tgt := 504) hx hb dL_law_39 (by rw [w4]; decide) (by rw [w4]; decide) (by rw [w4]; rfl) (by decide) ?_
      exact law_setValue C0 σ v sh ad M H locs hI (5 * j) hi5 xi exi ls hl _ _ ⟨by omega, by omega⟩ kk1
    by_cases w5 : x38' = 5
    · refine lv_tableIn (off := 545) (tgt := 584) hx hb dL_law_39 (by rw [w5]; decide) (by rw [w5]; decide) (by rw [w5]; rfl) (by decide) ?_
      exact law_peopled C0 σ v sh ad M H locs hI (5 * j) hi5 xi exi ls hl _ _ ⟨by omega, by omega⟩ kk1
    by_cases w6 : x38' = 6
    · refine lv_tableIn (off := 558) (tgt := 597) hx hb dL_law_39 (by rw [w6]; decide) (by rw [w6]; decide) (by rw [w6]; rfl) (by decide) ?_
      exact law_flight C0 σ v sh ad M H locs hI (5 * j) hi5 xi exi ls hl _ _ ⟨by omega, by omega⟩ kk1
    by_cases w7 : x38' = 7
    · refine lv_tableIn (off := 614) (tgt := 653) hx hb dL_law_39 (by rw [w7]; decide) (by rw [w7]; decide) (by rw [w7]; rfl) (by decide) ?_
      exact law_inLayer C0 σ v sh ad M H locs hI (5 * j) hi5 xi exi ls hl _ _ ⟨by omega, by omega⟩ kk1
    by_cases w8 : x38' = 8
    · refine lv_tableIn (off := 682) (tgt := 721) hx hb dL_law_39 (by rw [w8]; decide) (by rw [w8]; decide) (by rw [w8]; rfl) (by decide) ?_
      exact law_cue_c C0 σ v sh ad M H locs hI (5 * j) hi5 xi exi ls hl _ _ ⟨by omega, by omega⟩ kk1
    by_cases w9 : x38' = 9
    · refine lv_tableIn (off := 762) (tgt := 801) hx hb dL_law_39 (by rw [w9]; decide) (by rw [w9]; decide) (by rw [w9]; rfl) (by decide) ?_
      exact law_cut C0 σ v sh ad M H locs hI (5 * j) hi5 xi exi ls hl _ _ ⟨by omega, by omega⟩ kk1
    by_cases w10 : x38' = 10
    · refine lv_tableIn (off := 818) (tgt := 857) hx hb dL_law_39 (by rw [w10]; decide) (by rw [w10]; decide) (by rw [w10]; rfl) (by decide) ?_
      exact law_setTempo C0 σ v sh ad M H locs hI (5 * j) hi5 xi exi ls hl _ _ ⟨by omega, by omega⟩ kk1
    by_cases w11 : x38' = 11
    · refine lv_tableIn (off := 874) (tgt := 913) hx hb dL_law_39 (by rw [w11]; decide) (by rw [w11]; decide) (by rw [w11]; rfl) (by decide) ?_
      exact law_becomes C0 σ v sh ad M H locs hI (5 * j) hi5 xi exi ls hl _ _ ⟨by omega, by omega⟩ kk1
    by_cases w12 : x38' = 12
    · refine lv_tableIn (off := 930) (tgt := 969) hx hb dL_law_39 (by rw [w12]; decide) (by rw [w12]; decide) (by rw [w12]; rfl) (by decide) ?_
      exact law_bursts C0 σ v sh ad M H locs hI (5 * j) hi5 xi exi ls hl _ _ ⟨by omega, by omega⟩ kk1
    by_cases w13 : x38' = 13
    · refine lv_tableIn (off := 986) (tgt := 1025) hx hb dL_law_39 (by rw [w13]; decide) (by rw [w13]; decide) (by rw [w13]; rfl) (by decide) ?_
      exact law_fires C0 σ v sh ad M H locs hI (5 * j) hi5 xi exi ls hl _ _ ⟨by omega, by omega⟩ kk1
    by_cases w14 : x38' = 14
    · refine lv_tableIn (off := 1042) (tgt := 1081) hx hb dL_law_39 (by rw [w14]; decide) (by rw [w14]; decide) (by rw [w14]; rfl) (by decide) ?_
      exact law_falls C0 σ v sh ad M H locs hI (5 * j) hi5 xi exi ls hl _ _ ⟨by omega, by omega⟩ kk1
    by_cases w15 : x38' = 15
    · refine lv_tableIn (off := 1110) (tgt := 1149) hx hb dL_law_39 (by rw [w15]; decide) (by rw [w15]; decide) (by rw [w15]; rfl) (by decide) ?_
      exact law_fallsBySteps C0 σ v sh ad M H locs hI (5 * j) hi5 xi exi ls hl _ _ ⟨by omega, by omega⟩ kk1
    by_cases w16 : x38' = 16
    · refine lv_tableIn (off := 1178) (tgt := 1217) hx hb dL_law_39 (by rw [w16]; decide) (by rw [w16]; decide) (by rw [w16]; rfl) (by decide) ?_
      exact law_burstAt C0 σ v sh ad M H locs hI (5 * j) hi5 xi exi ls hl _ _ ⟨by omega, by omega⟩ kk1
    by_cases w17 : x38' = 17
    · refine lv_tableIn (off := 1246) (tgt := 1285) hx hb dL_law_39 (by rw [w17]; decide) (by rw [w17]; decide) (by rw [w17]; rfl) (by decide) ?_
      exact law_danger C0 σ v sh ad M H locs hI (5 * j) hi5 xi exi ls hl _ _ ⟨by omega, by omega⟩ kk1
    by_cases w18 : x38' = 18
    · refine lv_tableIn (off := 1301) (tgt := 1340) hx hb dL_law_39 (by rw [w18]; decide) (by rw [w18]; decide) (by rw [w18]; rfl) (by decide) ?_
      exact law_cues C0 σ v sh ad M H locs hI (5 * j) hi5 xi exi ls hl _ _ ⟨by omega, by omega⟩ kk1
    by_cases w19 : x38' = 19
    · refine lv_tableIn (off := 1314) (tgt := 1353) hx hb dL_law_39 (by rw [w19]; decide) (by rw [w19]; decide) (by rw [w19]; rfl) (by decide) ?_
      exact law_fired C0 σ v sh ad M H locs hI (5 * j) hi5 xi exi ls hl _ _ ⟨by omega, by omega⟩ kk1
    by_cases w20 : x38' = 20
    · refine lv_tableIn (off := 1327) (tgt := 1366) hx hb dL_law_39 (by rw [w20]; decide) (by rw [w20]; decide) (by rw [w20]; rfl) (by decide) ?_
      exact law_firing C0 σ v sh ad M H locs hI (5 * j) hi5 xi exi ls hl _ _ ⟨by omega, by omega⟩ kk1
    by_cases w21 : x38' = 21
    · refine lv_tableIn (off := 1383) (tgt := 1422) hx hb dL_law_39 (by rw [w21]; decide) (by rw [w21]; decide) (by rw [w21]; rfl) (by decide) ?_
      exact law_closed C0 σ v sh ad M H locs hI (5 * j) hi5 xi exi ls hl _ _ ⟨by omega, by omega⟩ kk1
    by_cases w22 : x38' = 22
    · refine lv_tableIn (off := 1396) (tgt := 1435) hx hb dL_law_39 (by rw [w22]; decide) (by rw [w22]; decide) (by rw [w22]; rfl) (by decide) ?_
      exact law_kill C0 σ v sh ad M H locs hI (5 * j) hi5 xi exi ls hl _ _ ⟨by omega, by omega⟩ kk1
    by_cases w23 : x38' = 23
    · refine lv_tableIn (off := 1471) (tgt := 1510) hx hb dL_law_39 (by rw [w23]; decide) (by rw [w23]; decide) (by rw [w23]; rfl) (by decide) ?_
      exact law_setGap C0 σ v sh ad M H locs hI (5 * j) hi5 xi exi ls hl _ _ ⟨by omega, by omega⟩ kk1
    by_cases w24 : x38' = 24
    · refine lv_tableIn (off := 1527) (tgt := 1566) hx hb dL_law_39 (by rw [w24]; decide) (by rw [w24]; decide) (by rw [w24]; rfl) (by decide) ?_
      exact law_channelOf C0 σ v sh ad M H locs hI (5 * j) hi5 xi exi ls hl _ _ ⟨by omega, by omega⟩ kk1
    by_cases w25 : x38' = 25
    · refine lv_tableIn (off := 1583) (tgt := 1622) hx hb dL_law_39 (by rw [w25]; decide) (by rw [w25]; decide) (by rw [w25]; rfl) (by decide) ?_
      exact law_cueOn C0 σ v sh ad M H locs hI (5 * j) hi5 xi exi ls hl _ _ ⟨by omega, by omega⟩ kk1
    by_cases w26 : x38' = 26
    · refine lv_tableIn (off := 1651) (tgt := 1690) hx hb dL_law_39 (by rw [w26]; decide) (by rw [w26]; decide) (by rw [w26]; rfl) (by decide) ?_
      exact law_spares C0 σ v sh ad M H locs hI (5 * j) hi5 xi exi ls hl _ _ ⟨by omega, by omega⟩ kk1
    by_cases w27 : x38' = 27
    · refine lv_tableIn (off := 1664) (tgt := 1703) hx hb dL_law_39 (by rw [w27]; decide) (by rw [w27]; decide) (by rw [w27]; rfl) (by decide) ?_
      exact law_setRate C0 σ v sh ad M H locs hI (5 * j) hi5 xi exi ls hl _ _ ⟨by omega, by omega⟩ kk1
    by_cases w28 : x38' = 28
    · refine lv_tableIn (off := 1732) (tgt := 1771) hx hb dL_law_39 (by rw [w28]; decide) (by rw [w28]; decide) (by rw [w28]; rfl) (by decide) ?_
      exact law_price C0 σ v sh ad M H locs hI (5 * j) hi5 xi exi ls hl _ _ ⟨by omega, by omega⟩ kk1
    by_cases w29 : x38' = 29
    · refine lv_tableIn (off := 1788) (tgt := 1827) hx hb dL_law_39 (by rw [w29]; decide) (by rw [w29]; decide) (by rw [w29]; rfl) (by decide) ?_
      exact law_total C0 σ v sh ad M H locs hI (5 * j) hi5 xi exi ls hl _ _ ⟨by omega, by omega⟩ kk1
    have q0 := i32_nl w0 (n := 0) rfl
    have q1 := i32_nl w1 (n := 1) rfl
    have q2 := i32_nl w2 (n := 2) rfl
    have q3 := i32_nl w3 (n := 3) rfl
    have q4 := i32_nl w4 (n := 4) rfl
    have q5 := i32_nl w5 (n := 5) rfl
    have q6 := i32_nl w6 (n := 6) rfl
    have q7 := i32_nl w7 (n := 7) rfl
    have q8 := i32_nl w8 (n := 8) rfl
    have q9 := i32_nl w9 (n := 9) rfl
    have q10 := i32_nl w10 (n := 10) rfl
    have q11 := i32_nl w11 (n := 11) rfl
    have q12 := i32_nl w12 (n := 12) rfl
    have q13 := i32_nl w13 (n := 13) rfl
    have q14 := i32_nl w14 (n := 14) rfl
    have q15 := i32_nl w15 (n := 15) rfl
    have q16 := i32_nl w16 (n := 16) rfl
    have q17 := i32_nl w17 (n := 17) rfl
    have q18 := i32_nl w18 (n := 18) rfl
    have q19 := i32_nl w19 (n := 19) rfl
    have q20 := i32_nl w20 (n := 20) rfl
    have q21 := i32_nl w21 (n := 21) rfl
    have q22 := i32_nl w22 (n := 22) rfl
    have q23 := i32_nl w23 (n := 23) rfl
    have q24 := i32_nl w24 (n := 24) rfl
    have q25 := i32_nl w25 (n := 25) rfl
    have q26 := i32_nl w26 (n := 26) rfl
    have q27 := i32_nl w27 (n := 27) rfl
    have q28 := i32_nl w28 (n := 28) rfl
    have q29 := i32_nl w29 (n := 29) rfl
    refine lv_tableOut (tgt := 1840) hx hb dL_law_39 (by omega) (by decide) ?_
    refine W.widen (k := 66 + 2 * j + 2) (n := 1340 + 12 * j + 12) (by omega) (by omega) ?_
    exact kk1 σ v sh ad M H locs ls hI hl
set_option maxHeartbeats 4000000 in
set_option maxRecDepth 100000 in
/-- the law, from its entry -/
theorem whole_start {p : Program} {e : Env} {s : State} {m : MethodId} {below : List Frame} {meth : Method} {c : Code} (l : Launch) (hflags : l.flags = flags0) {b L : Nat} {xs : Nat → Int32} (hL : L ≤ 2560) (C0 : lw_At p s m meth c b L xs) : W p l e room_1 s m #[Value.ref b] below meth c s.heap [] 0 0 (lw_Z below #[Value.ref b] s) (entryFrame m ([Value.ref b] : List Value).toArray 8) := by
  obtain ⟨hx, hb, hr, hml, hown0, hts0, hX, hbl, hlocks, hgv⟩ := C0
  have hown : s.vm.findClass RL = some m.cls := hown0
  have hts : ∀ w ∈ wsL_law, w.before #[Value.ref b] s = true := fun w h => hts0 w (wsL_law_in w h)
  have hl9 : l.stackTraces = false := by unfold Launch.stackTraces; rw [hflags]; decide +kernel
  obtain ⟨D, cA, hK⟩ := lw_K hts0
  have hE := lw_E hts0 hgv
  have hN := lw_N hts0
  have hZ := lw_EZ hts0 hgv
  have hNc := lw_Nc hgv
  have C1 : LC p l s m c b L xs D cA := ⟨hx, hb, hml, hown, hts, hK, hl9, hX, hbl, hL, hE, hZ, hNc⟩
  have hA : PA (fun _ => none) (fun _ => 0) (lA s) s.heap := ⟨fun p x h => (nomatch h), fun q h => h⟩
  have hW : WS D cA (fun _ => none) (fun _ => 0) (lA s) s.heap zM s.heap [] := ⟨⟨fun p x h => (nomatch h), fun p q x y h => (nomatch h)⟩, va_S.rf⟩
  have hC : CZ (fun _ => none) zM := ⟨fun p x t h => (nomatch h), fun p k t h => (nomatch h), fun p _ k => ⟨rfl, rfl, rfl⟩⟩
  have hl := lv_entry ([.ref b]) (n := 8) (Nat.le_of_ble_eq_true rfl)
  rw [lg_entry_eq]
  generalize (lg_sl ([.ref b]) ++ List.replicate (8 - (lg_sl ([.ref b])).length) Slot.unset).toArray = ls at hl ⊢
  have hl : lv_has ls 8 [(0, .ref b)] := hl
  refine wnewZ (q := 0) (ci := 9) (C := RX9) (T := TX9) (N := 15) (ks := [2, 2, 2, 2, 2, 2, 2, 2, 2, 2, 0, 0, 0, 0, 0]) hx hb hts0 inX9 tyX9 tyX9_ok hown (hts0 (.classLink RL 8 RX9) (by decide +kernel)) (hts0 (.instantiable RX9 15) (by decide +kernel)) (hts0 (.initialized RX9) (by decide +kernel)) hK rfl hC rfl hA hW (by decide) (by decide) ⟨Nat.le_of_ble_eq_true rfl, Nat.le_of_ble_eq_true rfl⟩ dL_law_0 (fun sh ad H esh hk hge hC hA hW => ?_)
  have h0 : sh 0 ≠ none := by rw [esh, shU_eq]; exact fun z => nomatch z
  refine lv_dup hx hb dL_law_3 rfl ?_
  refine wc_cv (va_runI (As := []) (rest := [.ref (ad 0)]) ⟨hx, hb, hml, hown, hts⟩ (c_X9_init l D cA sh ad _ _ (esh.trans shX_0) rfl hC) (cwI 0 hts gL_law_X9_init rfl rfl rfl (hts0 (.initialized RX9) (by decide +kernel)) (hts0 (.methodLink RL 93 yX9_init) (by decide +kernel)) (hts0 (.instanceMethod yX9_init) (by decide +kernel)) rfl (by decide +kernel) ⟨Nat.le_of_ble_eq_true rfl, Nat.le_of_ble_eq_true rfl⟩) (cpreS hK hW hN) rfl rfl hl.1 rfl (lv_room (Nat.le_of_ble_eq_true rfl)) dL_law_4 ⟨Nat.le_of_ble_eq_true rfl, Nat.le_of_ble_eq_true rfl⟩) hA hW (fun sh ad M H locs esh hG1 hC p4' hA hW => ?_)
  rw [← (hG1.1 0 h0).2]
  try dsimp only at p4'
  refine lv_astore_n (lv' := [(1, .ref (ad 0)), (0, .ref b)]) hx hb dL_law_7 rfl hl (by decide) rfl (fun ls hl => ?_)
  have h60 : sh 60 = none := by rw [esh]; rfl
  have hz : ∀ k, gI M 60 k = 0 := fun k => (hC.2.2 60 h60 k).1
  refine wnewZ (q := 60) (ci := 10) (C := RX10) (T := TX10) (N := 29) (ks := [2, 2, 2, 2, 2, 2, 2, 2, 2, 2, 2, 2, 2, 2, 2, 0, 0, 0, 2, 2, 2, 2, 2, 2, 2, 2, 2, 0, 0]) hx hb hts0 inX10 tyX10 tyX10_ok hown (hts0 (.classLink RL 94 RX10) (by decide +kernel)) (hts0 (.instantiable RX10 29) (by decide +kernel)) (hts0 (.initialized RX10) (by decide +kernel)) hK rfl hC h60 hA hW (by decide) (by decide) ⟨Nat.le_of_ble_eq_true rfl, Nat.le_of_ble_eq_true rfl⟩ dL_law_8 (fun sh ad H esh1 hk hge hC hA hW => ?_)
  rw [← hk 0 (by decide)] at hl
  rw [esh, shM_0] at esh1
  have h0 : sh 0 ≠ none := by rw [esh1]; exact fun z => nomatch z
  have h6 : sh 60 ≠ none := by rw [esh1]; exact fun z => nomatch z
  refine lv_dup hx hb dL_law_11 rfl ?_
  refine wc_cv (va_runI (As := []) (rest := [.ref (ad 60)]) ⟨hx, hb, hml, hown, hts⟩ (c_X10_init l D cA sh ad M _ esh1 hz hC) (cwI 0 hts gL_law_X10_init rfl rfl rfl (hts0 (.initialized RX10) (by decide +kernel)) (hts0 (.methodLink RL 96 yX10_init) (by decide +kernel)) (hts0 (.instanceMethod yX10_init) (by decide +kernel)) rfl (by decide +kernel) ⟨Nat.le_of_ble_eq_true rfl, Nat.le_of_ble_eq_true rfl⟩) (cpreS hK hW hN) rfl rfl hl.1 rfl (lv_room (Nat.le_of_ble_eq_true rfl)) dL_law_12 ⟨Nat.le_of_ble_eq_true rfl, Nat.le_of_ble_eq_true rfl⟩) hA hW (fun sh ad M1' H locs esh2 hG1 hC p12' hA hW => ?_)
  rw [← (hG1.1 60 h6).2]
  rw [← (hG1.1 0 h0).2] at hl
  try dsimp only at p12'
  refine lv_astore_n (lv' := [(2, .ref (ad 60)), (1, .ref (ad 0)), (0, .ref b)]) hx hb dL_law_15 rfl hl (by decide) rfl (fun ls hl => ?_)
  refine lv_iconst (v := 1) hx hb dL_law_16 (by decide) ?_
  refine wnewAL (q := 90) (N := 1) (n := 1) hx hb (hts0 (.arrayClass .long) (by decide +kernel)) hK hC (by rw [esh2]; rfl) hA hW rfl (by decide) ⟨Nat.le_of_ble_eq_true rfl, Nat.le_of_ble_eq_true rfl⟩ dL_law_17 (fun sh ad H esh3 hk hge hC hA hW => ?_)
  rw [← hk 0 (by decide), ← hk 60 (by decide)] at hl
  refine lv_astore_n (lv' := [(3, .ref (ad 90)), (2, .ref (ad 60)), (1, .ref (ad 0)), (0, .ref b)]) hx hb dL_law_19 rfl hl (by decide) rfl (fun ls hl => ?_)
  refine lv_iconst (v := 0) hx hb dL_law_20 (by decide) ?_
  refine lv_istore (lv' := [(4, .int 0), (3, .ref (ad 90)), (2, .ref (ad 60)), (1, .ref (ad 0)), (0, .ref b)]) hx hb dL_law_21 hl (by decide) rfl (fun ls hl => ?_)
  refine W.eqn (c9' := 66 + 2 * 0) (n9' := 1340 + 12 * 0) rfl rfl ?_
  exact law_loop C1 hr hlocks (L + 1) 0 (by omega) (by omega) as0 v0 sh ad M1' H locs ⟨by rw [esh3, esh2, shL_00, aN_0], p4'.z aN_0 p12'.1, p12'.2, hA, hW⟩ 0 rfl ls hl

/-! THE CLAIM OUT OF ONE WALK OF THE LAW'S BODY. Your part is whole_start (and what it stands on); all else here is the same for every law, but numbers. -/
def R_law : String := "MortarShowLaw"
def lw_P (b : Addr) (xs : List Int32) (args : Array Value) (s : State) : Prop := args = #[.ref b] ∧ s.IntsAt b xs ∧ xs.length ≤ 260 ∧ (Jvm.Cond.and given_1 narrow_1).before args s = true
def lw_Q (_ : Array Value) (s : State) (o : Outcome) (t : State) : Prop := o = .returned (some (.int 1)) ∧ Framed s o t [] 771020 6788565
def lw_Z (below : List Frame) (a : Array Value) (s : State) : State → Prop := fun t => ∃ o, t.status = .running ∧ Ended t below o ∧ lw_Q a s o t
/-- the law's own end, with 1 on the stack, nothing written that was there before, its room as the claim has it -/
theorem lw_ret {p : Program} {l : Launch} {e : Env} {s : State} {m : MethodId} {below : List Frame} {meth : Method} {c : Code} {b : Nat} (hx : p.tables.exec = Jvm.exec) (hb : c.code = code) (hr : meth.sig.returnType = ret) (hlocks : meth.locks = false) {pc : Nat} {H : Heap} {ls : Array Slot} (hdg : decode code pc = .ok (.ireturn, 1)) : W p l e room_1 s m #[Value.ref b] below meth c H [] 771020 6788565 (lw_Z below #[Value.ref b] s) (F0 m pc ls [.int 1]) := by
  intro T hT X
  obtain ⟨fs, hret, hrun, hended, hW, hframe⟩ := X.leave (v := some (.int 1)) (hlocks := hlocks) (fun h => by rw [hr] at h; cases h)
  have hmeth' : T.vm.method? m = some meth := X.method'
  refine ⟨T.setFrames fs, ?_, .returned (some (.int 1)), hrun, hended, rfl, ⟨_, rfl⟩, hW, hframe⟩
  jvm_step X.here [X.here.top, hx, hb, hdg, hmeth', hr, ret, narrow_b1]
  (try refine ⟨rfl, ?_⟩); (try refine ⟨rfl, ?_⟩)
  first | (intro acts; rw [hret _ acts rfl rfl rfl]) | rw [hret _ _ rfl rfl rfl]
  exact Steps.refl _
/-- what holds at the law's entry: the machine, the code, the tables' words (any of lw_tbl by 'hts w (by decide +kernel)'), the script of L ints xs at the cell b, what the Statement gives of the start (any of its parts by flat_of_before) -/
def lw_At (p : Program) (s : State) (m : MethodId) (meth : Method) (c : Code) (b L : Nat) (xs : Nat → Int32) : Prop :=
  p.tables.exec = Jvm.exec ∧ c.code = code ∧ meth.sig.returnType = ret ∧ c.maxLocals = 12 ∧ s.vm.findClass R_law = some m.cls ∧ (∀ w ∈ lw_tbl, w.before #[Value.ref b] s = true) ∧ va_X b L xs s s.heap ∧ b < s.heap.size ∧ meth.locks = false ∧ (Jvm.Cond.and given_1 narrow_1).before #[Value.ref b] s = true

abbrev lA (s : State) : Nat → Prop := fun q => s.heap.size ≤ q
/-- what stands of the machine in the law -/
def LC (p : Program) (l : Launch) (s : State) (m : MethodId) (c : Code) (b L : Nat) (xs : Nat → Int32) (D : va_G) (cA : Nat → ClassId) : Prop :=
  p.tables.exec = Jvm.exec ∧ c.code = code ∧ c.maxLocals = 12 ∧ s.vm.findClass RL = some m.cls ∧ (∀ w ∈ wsL_law, w.before #[Value.ref b] s = true) ∧ va_K D vwCl (wty cA) s ∧ l.stackTraces = false ∧ va_X b L xs s s.heap ∧ b < s.heap.size ∧ L ≤ 260 ∧ EXs s ∧ EXz (lA s) s s.heap ∧ (va_Nc nIS nIA s ∧ va_Nc nIA nIO s)
/-- the loop's invariant -/
def LI (D : va_G) (cA : Nat → ClassId) (s : State) (σ : AS) (v : VT) (sh : Nat → Option Sh) (ad : Nat → Nat) (M : MS) (H : Heap) (locs : List Loc) : Prop := sh = shL (aN σ) ∧ XX σ v M ∧ LSt σ v M ∧ PA sh ad (lA s) s.heap ∧ WS D cA sh ad (lA s) s.heap M H locs
theorem at_pre {s : State} {H : Heap} {A : Nat → Prop} {locs : List Loc} {b L : Nat} {xs : Nat → Int32} {As : List Value} (hX : va_X b L xs s s.heap) (hbl : b < s.heap.size) (hbA : ¬ A b) (hS : va_S A s.heap H locs) : PreS s H (atPc b L xs As) As :=
  ⟨atPc_blind, fun U hU hv => ⟨rfl, by rw [hU]; exact va_X.moved hv.alike (hX.kept (hS.2.1 b hbl hbA)), by rw [hU]; exact Nat.lt_of_lt_of_le hbl hS.1⟩⟩
/-! A call with more on the stack than the kit's rows allow. -/
theorem lv_room12 {m : MethodId} {pc : Nat} {ls : Array Slot} {rest st : List Value} (h : (st.map fun v => v.category).sum ≤ 12) : 2 * (F0 m pc ls rest).monitorRoom + (st.map fun v => v.category).sum ≤ 12 := by
  show 2 * 0 + _ ≤ 12
  omega
theorem runS12 {p : Program} {l : Launch} {e : Env} {R : Room} {s : State} {m : MethodId} {args : Array Value} {below : List Frame} {meth : Method} {c : Code} {H : Heap} {locs : List Loc} {cells slots : Nat} {y : MethodName} {bytes cc : ByteArray} {maxL nL mc ms n index : Nat} {ret : Option FieldType} {ws : List Cond} {rm : Room} {Pc : Array Value → State → Prop} {Qc : Array Value → State → Outcome → State → Prop} {free : Addr → Prop} {Ts : List Cond} {own : String} {As rest : List Value} {g : JFrame}
    (S : CallFix p m c cc nL s args Ts own) (hM : Met l y ws rm Pc Qc mc ms free) (cw : CallB R s args own index y bytes maxL ret ws rm mc ms n ∧ (Cond.static y).before args s = true) (hR : 12 + (maxL + 11) + rm.locals ≤ R.locals) (hp : PreS s H Pc As)
    (hg : g.method = m) (hn : As.length = n) (hsize : g.locals.size = nL) (hstack : g.stack = As.reverse ++ rest) (hW : 2 * g.monitorRoom + (rest.map fun v => v.category).sum ≤ 12) (hdg : decode cc g.pc = .ok (.invokestatic index, 3)) (hf : cells + mc ≤ R.cells ∧ slots + ms ≤ R.slots) :
    va_Run p l e R s m args below meth c H locs cells slots mc ms g rest (Qc As.toArray) free := by
  obtain ⟨⟨hrc, hrs, hfr, -, hws, hcw, hcode, hini, hy, hlen, hl⟩, hstt⟩ := cw
  have hK : Back l R p e below s args y 3 12 (PreOf R mc ms Pc) (PostOf Qc mc ms free) := back_of (bytes := bytes) (maxL := maxL) (ret := ret) hM hp.1 hrc hrs hfr hR hws hcw (fun a' U hW => word_at hW (Or.inl (by first | rfl | simp [Cond.onTables, Cond.keeps, Cond.steady])) hini)
  obtain ⟨hx, hb, hml, ho, -⟩ := S
  intro T hT X
  obtain ⟨v, vm₁, ⟨U', l2, c2', s2⟩, hW₁, X', ⟨g', mk, t, L, e1', e2', hq, h1, hL, h2, h3⟩, st⟩ := callS X hx (bytes := bytes) (maxL := maxL) (ret := ret) ho hl hstt hini hcode hy hK hg (hsize.trans hml.symm) (argsL := As) (rest := rest) (fun sig h => hn.trans (hlen sig h)) hstack hW (by rw [hb]; exact hdg)
    (fun vm₁ hW₁ => ⟨hf.1, hf.2, hp.2 (T.setVm vm₁) hT hW₁⟩)
  dsimp only [Pt.U, Pt.locs, Pt.cells, Pt.slots] at X' e1' e2' h1 h2 h3 st
  subst h1; subst h2; subst h3
  exact ⟨v, (T.setVm vm₁).calling g' mk As.toArray, t, U', L, hT, X', hL, e1', e2', hq, st⟩
/-! What the tables say at the law's entry. -/
theorem lw_arr {s : State} {a : Array Value} {ty : FieldType} (h : (Cond.arrayClass ty).before a s = true) : ∃ c : ClassId, ArrOfT s c ty ∧ s.vm.findClass ("[" ++ ty.toString) = some c := by
  obtain ⟨c, k, comp, h1, h2, h3⟩ := Cond.arrayClass_spec h
  exact ⟨c, fun n z => ⟨fun k h => (by cases h), k, h2, comp, h3⟩, h1⟩
theorem lw_obj {s : State} {a : Array Value} {C : String} (h : (Cond.arrayOver (.object C)).before a s = true) : ∃ c : ClassId, ArrOfT s c (.object C) ∧ va_RA s c (.object C) := by
  obtain ⟨comp, c, k, h1, h2, h3, h4, h5⟩ := Cond.arrayOver_spec h
  exact ⟨c, fun n z => ⟨fun k h => (by cases h), k, h3, comp, h4⟩, k, comp, h3, h4, h1, h5⟩
set_option maxRecDepth 20000 in
theorem lw_K {s : State} {a : Array Value} (hts : ∀ w ∈ lw_tbl, w.before a s = true) : ∃ (D : va_G) (cA : Nat → ClassId), va_K D vwCl (wty cA) s := by
  obtain ⟨c0', i0, k0'⟩ := u_known (C := RX0) (T := TX0) (N := 4) (n := 4) hts inX0 (hts (.instantiable RX0 4) (by decide +kernel))
  obtain ⟨c1', i1, k1'⟩ := u_known (C := RX1) (T := TX1) (N := 4) (n := 4) hts inX1 (hts (.instantiable RX1 4) (by decide +kernel))
  obtain ⟨c2', i2, k2'⟩ := u_known (C := RX2) (T := TX2) (N := 9) (n := 9) hts inX2 (hts (.instantiable RX2 9) (by decide +kernel))
  obtain ⟨c3', i3, k3'⟩ := u_known (C := RX3) (T := TX3) (N := 3) (n := 3) hts inX3 (hts (.instantiable RX3 3) (by decide +kernel))
  obtain ⟨c4', i4, k4'⟩ := u_known (C := RX4) (T := TX4) (N := 2) (n := 2) hts inX4 (hts (.instantiable RX4 2) (by decide +kernel))
  obtain ⟨c5', i5, k5'⟩ := u_known (C := RX5) (T := TX5) (N := 5) (n := 5) hts inX5 (hts (.instantiable RX5 5) (by decide +kernel))
  obtain ⟨c6', i6, k6'⟩ := u_known (C := RX6) (T := TX6) (N := 7) (n := 7) hts inX6 (hts (.instantiable RX6 7) (by decide +kernel))
  obtain ⟨c7', i7, k7'⟩ := u_known (C := RX7) (T := TX7) (N := 2) (n := 2) hts inX7 (hts (.instantiable RX7 2) (by decide +kernel))
  obtain ⟨c8', i8, k8'⟩ := u_known (C := RX8) (T := TX8) (N := 2) (n := 2) hts inX8 (hts (.instantiable RX8 2) (by decide +kernel))
  obtain ⟨c9', i9, k9'⟩ := u_known (C := RX9) (T := TX9) (N := 15) (n := 15) hts inX9 (hts (.instantiable RX9 15) (by decide +kernel))
  obtain ⟨a0, A0⟩ := lw_arr (hts (.arrayClass .int) (by decide +kernel))
  obtain ⟨a1, A1⟩ := lw_arr (hts (.arrayClass .boolean) (by decide +kernel))
  obtain ⟨a3, A3⟩ := lw_obj (hts (.arrayOver (.object "MortarShow$Cue")) (by decide +kernel))
  obtain ⟨a4, A4⟩ := lw_obj (hts (.arrayOver (.object "MortarShow$Kind")) (by decide +kernel))
  obtain ⟨a5, A5⟩ := lw_obj (hts (.arrayOver (.object "MortarShow$Rack")) (by decide +kernel))
  refine ⟨(fun k => match k with | 0 => c0' | 1 => c1' | 2 => c2' | 3 => c3' | 4 => c4' | 5 => c5' | 6 => c6' | 7 => c7' | 8 => c8' | _ => c9', fun k => match k with | 0 => i0 | 1 => i1 | 2 => i2 | 3 => i3 | 4 => i4 | 5 => i5 | 6 => i6 | 7 => i7 | 8 => i8 | _ => i9), (fun k => match k with | 0 => a0 | 1 => a1 | 2 => a0 | 3 => a3 | 4 => a4 | _ => a5), fun c q hq => ?_, fun k q hk => ?_⟩
  · match c, hq with
    | 0, hq => obtain rfl : ((RX0, TX0, 4) : vw_C) = q := Option.some.inj hq; exact k0'
    | 1, hq => obtain rfl : ((RX1, TX1, 4) : vw_C) = q := Option.some.inj hq; exact k1'
    | 2, hq => obtain rfl : ((RX2, TX2, 9) : vw_C) = q := Option.some.inj hq; exact k2'
    | 3, hq => obtain rfl : ((RX3, TX3, 3) : vw_C) = q := Option.some.inj hq; exact k3'
    | 4, hq => obtain rfl : ((RX4, TX4, 2) : vw_C) = q := Option.some.inj hq; exact k4'
    | 5, hq => obtain rfl : ((RX5, TX5, 5) : vw_C) = q := Option.some.inj hq; exact k5'
    | 6, hq => obtain rfl : ((RX6, TX6, 7) : vw_C) = q := Option.some.inj hq; exact k6'
    | 7, hq => obtain rfl : ((RX7, TX7, 2) : vw_C) = q := Option.some.inj hq; exact k7'
    | 8, hq => obtain rfl : ((RX8, TX8, 2) : vw_C) = q := Option.some.inj hq; exact k8'
    | 9, hq => obtain rfl : ((RX9, TX9, 15) : vw_C) = q := Option.some.inj hq; exact k9'
    | c + 10, hq => rw [List.getElem?_eq_none (by show 10 ≤ c + 10; omega)] at hq; cases hq
  · match k, hk with
    | 0, hk => obtain rfl : ((a0, .int) : ClassId × FieldType) = q := Option.some.inj hk; exact A0
    | 1, hk => obtain rfl : ((a1, .boolean) : ClassId × FieldType) = q := Option.some.inj hk; exact A1
    | 2, hk => obtain rfl : ((a0, .int) : ClassId × FieldType) = q := Option.some.inj hk; exact A0
    | 3, hk => obtain rfl : ((a3, .object "MortarShow$Cue") : ClassId × FieldType) = q := Option.some.inj hk; exact A3
    | 4, hk => obtain rfl : ((a4, .object "MortarShow$Kind") : ClassId × FieldType) = q := Option.some.inj hk; exact A4
    | 5, hk => obtain rfl : ((a5, .object "MortarShow$Rack") : ClassId × FieldType) = q := Option.some.inj hk; exact A5
    | k + 6, hk => rw [List.getElem?_eq_none (by show 6 ≤ k + 6; omega)] at hk; cases hk
set_option maxRecDepth 20000 in
theorem lw_cst : ∀ E ∈ [nIA, nIS, nIO], Cond.castable E E ∈ lw_tbl := by decide +kernel
set_option maxRecDepth 20000 in
theorem lw_dcl : ∀ E ∈ exD, Cond.declares (Bundle.initS E) ∈ lw_tbl := by decide +kernel
set_option maxRecDepth 20000 in
theorem lw_str : ∀ q ∈ exT, Cond.stringRef RX9 q.1 q.2 ∈ lw_tbl := by decide +kernel
set_option maxRecDepth 20000 in
theorem lw_sex : ∀ q ∈ exT, Cond.exactly (Term.string RX9 q.1) "java/lang/String" ∈ flatC (Jvm.Cond.and given_1 narrow_1) := by decide +kernel
set_option maxRecDepth 20000 in
theorem lw_nst : ∀ w ∈ nsts, Cond.methodLinkNest w.1 w.2.1 w.2.2.1 w.2.2.2 ∈ lw_tbl := by decide +kernel
set_option maxRecDepth 20000 in
theorem lw_ovr : ∀ C ∈ [RX2, RX6, RX7], Cond.arrayOver (.object C) ∈ lw_tbl := by decide +kernel
theorem lw_E {s : State} {a : Array Value} (hts : ∀ w ∈ lw_tbl, w.before a s = true) (hgv : (Jvm.Cond.and given_1 narrow_1).before a s = true) : EXs s :=
  ⟨fun E hE => va_Nw.of rfl (hts _ (lw_cst E hE)), fun E hE => va_Nw.of rfl (hts _ (lw_dcl E hE)), fun q hq => by
    obtain ⟨sa, -, -, -, q1, -⟩ := Cond.exactly_spec (flat_of_before _ hgv _ (lw_sex q hq))
    exact ⟨sa, vk_R.of (hts _ (lw_str q hq)) q1⟩⟩
theorem lw_N {s : State} {a : Array Value} (hts : ∀ w ∈ lw_tbl, w.before a s = true) : INs s :=
  ⟨fun w hw => va_Nw.of rfl (hts _ (lw_nst w hw)), fun C hC => va_AO.of (hts _ (lw_ovr C hC))⟩
set_option maxRecDepth 20000 in
theorem lw_EZ {s : State} {a : Array Value} (hts : ∀ w ∈ lw_tbl, w.before a s = true) (hgv : (Jvm.Cond.and given_1 narrow_1).before a s = true) : EXz (lA s) s s.heap := by
  have hs := flat_of_before _ hgv
  refine ⟨vx_Zqof (args := a) (hts _ (by decide +kernel)) (hts _ (by decide +kernel)) (hs _ (by decide +kernel)) (fun q h z => absurd h (Nat.not_lt.mpr z)), vx_Zqof (args := a) (hts _ (by decide +kernel)) (hts _ (by decide +kernel)) (hs _ (by decide +kernel)) (fun q h z => absurd h (Nat.not_lt.mpr z))⟩
set_option maxRecDepth 20000 in
theorem lw_Nc {s : State} {a : Array Value} (hgv : (Jvm.Cond.and given_1 narrow_1).before a s = true) : va_Nc nIS nIA s ∧ va_Nc nIA nIO s := by
  have hs := flat_of_before _ hgv
  exact ⟨va_Nc.of (args := a) (hs _ (by decide +kernel)), va_Nc.of (args := a) (hs _ (by decide +kernel))⟩
/-! The worlds of the start. -/
theorem shX_0 : shU (fun _ => none) 0 (.inl (9, [2, 2, 2, 2, 2, 2, 2, 2, 2, 2, 0, 0, 0, 0, 0])) = shXn 1 := by
  funext p
  unfold shU shXn
  by_cases h : p = 0
  · rw [if_pos h, if_pos h]
  · rw [if_neg h, if_neg h, if_neg (by omega)]

theorem shL_00 : shU (shU (shU (shU (shU (shU (shU shF 60 (.inr (0, 40))) 61 (.inr (0, 4))) 62 (.inr (0, 64))) 63 (.inr (0, 64))) 64 (.inr (0, 10))) 65 (.inr (0, 32))) 66 (.inr (0, 4)) = shL 0 := by
  have key : ∀ p, p < 85 → shU (shU (shU (shU (shU (shU (shU shF 60 (.inr (0, 40))) 61 (.inr (0, 4))) 62 (.inr (0, 64))) 63 (.inr (0, 64))) 64 (.inr (0, 10))) 65 (.inr (0, 32))) 66 (.inr (0, 4)) p = shL 0 p := by decide +kernel
  funext p
  by_cases h : p < 85
  · exact key p h
  · rw [shU_ne (by omega), shU_ne (by omega), shU_ne (by omega), shU_ne (by omega), shU_ne (by omega), shU_ne (by omega), shU_ne (by omega)]
    unfold shF shL
    rw [if_neg (by omega), if_neg h]
    by_cases h3 : p = 90
    · rw [if_pos h3]
    · rw [if_neg h3, if_neg (by omega)]
theorem aN_0 : aN as0 = 0 := rfl
theorem ct_z {p : Nat → Bool} (h : ∀ k, p k = false) : ∀ n, ctN p n = 0
  | 0 => rfl
  | n + 1 => by rw [ctN_s, h n, if_neg (by decide), ct_z h n]
theorem z_pres (i : Nat) : pres as0 i = false := pres_hi (by rw [aN_0]; omega)
theorem z_cues : nI (ctN (pres as0) 40) = 0 := by rw [ct_z z_pres]; rfl
theorem z_c {q : Nat → Nat} {c : Nat} (h : Srt as0 40 q c) : c = 0 := by
  rcases Nat.eq_zero_or_pos c with z | z
  · exact z
  · have := (h.1 0 z).2.1
    rw [aN_0] at this; omega
theorem z_clo : ∀ b, cbN as0 b = 0
  | 0 => rfl
  | b + 1 => by
    show cbN as0 b + (if clB as0 b = true then 1 else 0) = 0
    have h : clB as0 b = false := decide_eq_false (fun z => by
      have := ct_z (p := pb as0 b) (fun k => pb_hi (by rw [aN_0]; omega)) 40
      omega)
    rw [h, if_neg (by decide), z_clo b]
theorem z_spa (q : Nat → Nat) : ctN (spB (fun d => (gvn as0 q 0 d).isSome)) 32 = 0 := ct_z (fun k => by unfold spB; exact Bool.and_false _) 32
theorem z_peo : ctN (fun k => decide (0 < as0.1 0 k)) 64 = 0 := ct_z (fun k => decide_eq_false (by rw [s0_iz 0 k (by decide)]; decide)) 64
theorem LS_0 {M : MS} (h62 : ∀ k, gI M 62 k = 0) (h63 : ∀ k, gI M 63 k = 0) (h65 : ∀ k, gI M 65 k = 0) (h61 : ∀ k, k < 4 → gI M 61 k = 5) (h64 : ∀ k, k < 10 → gI M 64 k = 1) (g0 : gI M 66 0 = 0) (g1 : gI M 66 1 = 0) (g2 : gI M 66 2 = 20) (g3 : gI M 66 3 = 2) : LSt as0 v0 M := by
  refine ⟨fun k hk => absurd hk (by rw [aN_0]; omega), fun k hk => ?_, fun k _ => (h62 k).trans (s0_iz 0 k (by decide)).symm, fun k _ => h63 k, fun k hk => h64 k hk, fun k _ => (h65 k).trans (by rw [s0_z 3 k (by decide)]; rfl), g0, g1.trans z_cues.symm, g2, g3⟩
  have e : ddN as0 k = 5 := by
    unfold ddN
    rw [s0_2, s0_3, s0_11, s0_z 2 k (by decide), (lift_is (a := 50) (b := 20) (by decide) (by decide) (flN_ok (by decide) (by decide))).1]
    decide
  rw [e]; exact h61 k hk

set_option maxHeartbeats 4000000 in
set_option maxRecDepth 100000 in
theorem law_mid {p : Program} {l : Launch} {e : Env} {s : State} {m : MethodId} {below : List Frame} {meth : Method} {cd0 : Code} {b L : Nat} {xs : Nat → Int32} {D : va_G} {cA : Nat → ClassId} (C0 : LC p l s m cd0 b L xs D cA) (sh : Nat → Option Sh) (ad : Nat → Nat) (M : MS) (H : Heap) (locs : List Loc) (hsh : sh = shL 0) (hXX : XX as0 v0 M) (hz : ∀ p k, 60 ≤ p → p ≤ 66 → gI M p k = 0) (hA : PA sh ad (lA s) s.heap) (hW : WS D cA sh ad (lA s) s.heap M H locs) (ls : Array Slot) (hl : lv_has ls 12 [(8, .ref (ad 66)), (7, .ref (ad 65)), (6, .ref (ad 64)), (5, .ref (ad 63)), (4, .ref (ad 62)), (3, .ref (ad 61)), (2, .ref (ad 60)), (1, .ref (ad 0)), (0, .ref b)])
    (kk : ∀ (M' : MS) (H' : Heap) (locs' : List Loc) (ls' : Array Slot), XX as0 v0 M' → LSt as0 v0 M' → WS D cA sh ad (lA s) s.heap M' H' locs' → lv_has ls' 12 [(10, .int 0), (9, .int 1), (8, .ref (ad 66)), (7, .ref (ad 65)), (6, .ref (ad 64)), (5, .ref (ad 63)), (4, .ref (ad 62)), (3, .ref (ad 61)), (2, .ref (ad 60)), (1, .ref (ad 0)), (0, .ref b)] → W p l e room_1 s m #[Value.ref b] below meth cd0 H' locs' 47 936 (lw_Z below #[Value.ref b] s) (F0 m 138 ls' [])) : W p l e room_1 s m #[Value.ref b] below meth cd0 H locs 47 936 (lw_Z below #[Value.ref b] s) (F0 m 46 ls []) := by
  obtain ⟨hx, hb, hml, hown, hts, hK, hl9, hS9, hbl, hL9, hE, hZ, hE2⟩ := C0
  have hbA : ¬ lA s b := Nat.not_le.mpr hbl
  have hX : XSh (aN as0) sh := by rw [hsh]; exact shL_X _
  have hMs : LSh sh := by rw [hsh]; exact shL_LSh _
  refine lv_aload hx hb dL_law_46 (lv_at hl 0 rfl) ?_
  refine lv_iconst (v := 2) hx hb dL_law_48 (by decide) ?_
  refine lv_bipush (v := 20) hx hb dL_law_49 (by decide) ?_
  refine wasI (j := 2) hx hb hK hA hW (hMs 66 (by decide) (by decide)) (nlit 2) (by omega) (by decide) dL_law_51 (fun M51' H locs eM51 hW => ?_)
  have hXX : XX as0 v0 M51' := by rw [eM51]; exact XX_sL hXX (by omega) (by omega)
  refine lv_aload hx hb dL_law_52 (lv_at hl 0 rfl) ?_
  refine lv_iconst (v := 3) hx hb dL_law_54 (by decide) ?_
  refine lv_iconst (v := 2) hx hb dL_law_55 (by decide) ?_
  refine wasI (j := 3) hx hb hK hA hW (hMs 66 (by decide) (by decide)) (nlit 3) (by omega) (by decide) dL_law_56 (fun M56' H locs eM56 hW => ?_)
  have hXX : XX as0 v0 M56' := by rw [eM56]; exact XX_sL hXX (by omega) (by omega)
  refine lv_iconst (v := 0) hx hb dL_law_57 (by decide) ?_
  refine lv_istore (lv' := [(9, .int 0), (8, .ref (ad 66)), (7, .ref (ad 65)), (6, .ref (ad 64)), (5, .ref (ad 63)), (4, .ref (ad 62)), (3, .ref (ad 61)), (2, .ref (ad 60)), (1, .ref (ad 0)), (0, .ref b)]) hx hb dL_law_58 hl (by decide) rfl (fun ls hl => ?_)
  have L60 : ∀ (fu : Nat) (k : Nat) (xk : Int32) (Mk : MS) (H : Heap) (locs : List Loc), 10 - k < fu → (k ≤ 10) → (xk = nI k) → (∀ j, j < k → gI Mk 64 j = 1) → (∀ j, j < k → j < 4 → gI Mk 61 j = 5) → (∀ p9' j9, 60 ≤ p9' → p9' ≤ 66 → p9' ≠ 61 → p9' ≠ 64 → gI Mk p9' j9 = gI M56' p9' j9) → (XX as0 v0 Mk) → WS D cA sh ad (lA s) s.heap Mk H locs → ∀ ls, lv_has ls 12 [(9, .int xk), (8, .ref (ad 66)), (7, .ref (ad 65)), (6, .ref (ad 64)), (5, .ref (ad 63)), (4, .ref (ad 62)), (3, .ref (ad 61)), (2, .ref (ad 60)), (1, .ref (ad 0)), (0, .ref b)] → W p l e room_1 s m #[Value.ref b] below meth cd0 H locs 47 936 (lw_Z below #[Value.ref b] s) (F0 m 60 ls []) := by
    intro fu
    induction fu with
    | zero =>
      intro k xk Mk H locs hn hk5 ek h64 h61 hof hXX hW ls hl
      exact absurd hn (Nat.not_lt_zero _)
    | succ fu ih60 =>
      intro k xk Mk H locs hn hk5 ek h64 h61 hof hXX hW ls hl
      refine lv_iload hx hb dL_law_60 (lv_at hl 0 rfl) ?_
      refine lv_bipush (v := 10) hx hb dL_law_62 (by decide) ?_
      refine lv_icmp_ge (tgt := 86) hx hb dL_law_64 (by decide) (fun c64' => ?_) (fun c64' => ?_)
      · have k64' : 10 ≤ k := kc_ge ek (nlit 10) (by omega) (by omega) c64'
        have hL : LSt as0 v0 Mk := LS_0 (fun j => by rw [hof 62 j (by omega) (by omega) (by omega) (by omega), eM56, kp_sI (by omega), eM51, kp_sI (by omega)]; exact hz _ _ (by omega) (by omega)) (fun j => by rw [hof 63 j (by omega) (by omega) (by omega) (by omega), eM56, kp_sI (by omega), eM51, kp_sI (by omega)]; exact hz _ _ (by omega) (by omega)) (fun j => by rw [hof 65 j (by omega) (by omega) (by omega) (by omega), eM56, kp_sI (by omega), eM51, kp_sI (by omega)]; exact hz _ _ (by omega) (by omega)) (fun j hj => h61 j (by omega) hj) (fun j hj => h64 j (by omega)) (by rw [hof 66 0 (by omega) (by omega) (by omega) (by omega), eM56, kp_sI (by omega), eM51, kp_sI (by omega)]; exact hz _ _ (by omega) (by omega)) (by rw [hof 66 1 (by omega) (by omega) (by omega) (by omega), eM56, kp_sI (by omega), eM51, kp_sI (by omega)]; exact hz _ _ (by omega) (by omega)) (by rw [hof 66 2 (by omega) (by omega) (by omega) (by omega), eM56, kp_sI (by omega), eM51, kp_eq]) (by rw [hof 66 3 (by omega) (by omega) (by omega) (by omega), eM56, kp_eq])
        refine lv_aload_n hx hb dL_law_86 rfl (lv_at hl 8 rfl) ?_
        refine wc_ri (va_runV (As := []) (rest := []) ⟨hx, hb, hml, hown, hts⟩ (c_X9_cues l D cA sh ad Mk _ as0 v0 hX hXX) (cwV 0 hts gL_law_X9_cues rfl rfl rfl (by decide +kernel) ⟨Nat.le_of_ble_eq_true rfl, Nat.le_of_ble_eq_true rfl⟩) (wpreV hK hW (C := RX9) (ci := 9) (hX.1 0 (by decide)) rfl) rfl rfl hl.1 rfl (lv_room (Nat.le_of_ble_eq_true rfl)) dL_law_87 ⟨Nat.le_of_ble_eq_true rfl, Nat.le_of_ble_eq_true rfl⟩) hW (fun x87' H locs p87' hW => ?_)
        try dsimp only at p87'
        refine lv_if_ne (tgt := 132) hx hb dL_law_90 (by decide) (fun c90' => ?_) (fun c90' => ?_)
        · exact ((c90' (p87'.trans z_cues))).elim
        · refine lv_aload_n hx hb dL_law_93 rfl (lv_at hl 8 rfl) ?_
          refine wc_wi (va_runV (As := []) (rest := []) ⟨hx, hb, hml, hown, hts⟩ (c_X9_fired l D cA sh ad Mk _ as0 v0 hX hXX) (cwV 0 hts gL_law_X9_fired rfl rfl rfl (by decide +kernel) ⟨Nat.le_of_ble_eq_true rfl, Nat.le_of_ble_eq_true rfl⟩) (wpreV hK hW (C := RX9) (ci := 9) (hX.1 0 (by decide)) rfl) rfl rfl hl.1 rfl (lv_room (Nat.le_of_ble_eq_true rfl)) dL_law_94 ⟨Nat.le_of_ble_eq_true rfl, Nat.le_of_ble_eq_true rfl⟩) hA hW (fun x94' M94' H locs p94' hW => ?_)
          try dsimp only at p94'
          obtain ⟨kp94, hXX, r94⟩ := p94'
          have hL := hL.kp (KPm.oA kp94)
          obtain ⟨q, c, hs, f94⟩ := r94
          refine lv_if_ne (tgt := 132) hx hb dL_law_97 (by decide) (fun c97' => ?_) (fun c97' => ?_)
          · exact ((c97' (by rw [f94, z_c hs]; rfl))).elim
          · refine lv_aload_n hx hb dL_law_100 rfl (lv_at hl 8 rfl) ?_
            refine wc_wi (va_runV (As := []) (rest := []) ⟨hx, hb, hml, hown, hts⟩ (c_X9_closed l D cA sh ad M94' _ as0 v0 hX hXX) (cwV 0 hts gL_law_X9_closed rfl rfl rfl (by decide +kernel) ⟨Nat.le_of_ble_eq_true rfl, Nat.le_of_ble_eq_true rfl⟩) (wpreV hK hW (C := RX9) (ci := 9) (hX.1 0 (by decide)) rfl) rfl rfl hl.1 rfl (lv_room (Nat.le_of_ble_eq_true rfl)) dL_law_101 ⟨Nat.le_of_ble_eq_true rfl, Nat.le_of_ble_eq_true rfl⟩) hA hW (fun x101' M101' H locs p101' hW => ?_)
            try dsimp only at p101'
            obtain ⟨kp101, hXX, r101⟩ := p101'
            have hL := hL.kp (KPm.oA kp101)
            refine lv_if_ne (tgt := 132) hx hb dL_law_104 (by decide) (fun c104' => ?_) (fun c104' => ?_)
            · exact ((c104' (by rw [r101, z_clo]; rfl))).elim
            · refine lv_aload_n hx hb dL_law_107 rfl (lv_at hl 8 rfl) ?_
              refine wc_wi (va_runV (As := []) (rest := []) ⟨hx, hb, hml, hown, hts⟩ (c_X9_spares l D cA sh ad M101' _ as0 v0 hX hXX) (cwV 0 hts gL_law_X9_spares rfl rfl rfl (by decide +kernel) ⟨Nat.le_of_ble_eq_true rfl, Nat.le_of_ble_eq_true rfl⟩) (wpreV hK hW (C := RX9) (ci := 9) (hX.1 0 (by decide)) rfl) rfl rfl hl.1 rfl (lv_room (Nat.le_of_ble_eq_true rfl)) dL_law_108 ⟨Nat.le_of_ble_eq_true rfl, Nat.le_of_ble_eq_true rfl⟩) hA hW (fun x108' M108' H locs p108' hW => ?_)
              try dsimp only at p108'
              obtain ⟨kp108, hXX, r108⟩ := p108'
              have hL := hL.kp (KPm.oA kp108)
              obtain ⟨q8, c8', s8, f108⟩ := r108
              refine lv_if_ne (tgt := 132) hx hb dL_law_111 (by decide) (fun c111' => ?_) (fun c111' => ?_)
              · exact ((c111' (by rw [f108, z_c s8, z_spa]; rfl))).elim
              · refine lv_aload_n hx hb dL_law_114 rfl (lv_at hl 8 rfl) ?_
                refine wc_wi (va_runV (As := []) (rest := []) ⟨hx, hb, hml, hown, hts⟩ (c_X9_total l D cA sh ad M108' _ as0 v0 hX hXX) (cwV 0 hts gL_law_X9_total rfl rfl rfl (by decide +kernel) ⟨Nat.le_of_ble_eq_true rfl, Nat.le_of_ble_eq_true rfl⟩) (wpreV hK hW (C := RX9) (ci := 9) (hX.1 0 (by decide)) rfl) rfl rfl hl.1 rfl (lv_room (Nat.le_of_ble_eq_true rfl)) dL_law_115 ⟨Nat.le_of_ble_eq_true rfl, Nat.le_of_ble_eq_true rfl⟩) hA hW (fun x115' M115' H locs p115' hW => ?_)
                try dsimp only at p115'
                obtain ⟨kp115, hXX, r115⟩ := p115'
                have hL := hL.kp (KPm.oA kp115)
                obtain ⟨q5, c5', s5, f115⟩ := r115
                refine lv_if_ne (tgt := 132) hx hb dL_law_118 (by decide) (fun c118' => ?_) (fun c118' => ?_)
                · exact ((c118' (by rw [f115, z_c s5]; rfl))).elim
                · refine lv_aload_n hx hb dL_law_121 rfl (lv_at hl 8 rfl) ?_
                  refine wc_ri (va_runV (As := []) (rest := []) ⟨hx, hb, hml, hown, hts⟩ (c_X9_peopled l D cA sh ad M115' _ as0 v0 hX hXX) (cwV 0 hts gL_law_X9_peopled rfl rfl rfl (by decide +kernel) ⟨Nat.le_of_ble_eq_true rfl, Nat.le_of_ble_eq_true rfl⟩) (wpreV hK hW (C := RX9) (ci := 9) (hX.1 0 (by decide)) rfl) rfl rfl hl.1 rfl (lv_room (Nat.le_of_ble_eq_true rfl)) dL_law_122 ⟨Nat.le_of_ble_eq_true rfl, Nat.le_of_ble_eq_true rfl⟩) hW (fun x122' H locs p122' hW => ?_)
                  try dsimp only at p122'
                  refine lv_if_ne (tgt := 132) hx hb dL_law_125 (by decide) (fun c125' => ?_) (fun c125' => ?_)
                  · exact ((c125' (by rw [p122', z_peo]; rfl))).elim
                  · refine lv_iconst (v := 1) hx hb dL_law_128 (by decide) ?_
                    refine lv_goto (tgt := 133) hx hb dL_law_129 (by decide) ?_
                    refine lv_istore (lv' := [(9, .int 1), (8, .ref (ad 66)), (7, .ref (ad 65)), (6, .ref (ad 64)), (5, .ref (ad 63)), (4, .ref (ad 62)), (3, .ref (ad 61)), (2, .ref (ad 60)), (1, .ref (ad 0)), (0, .ref b)]) hx hb dL_law_133 hl (by decide) rfl (fun ls hl => ?_)
                    refine lv_iconst (v := 0) hx hb dL_law_135 (by decide) ?_
                    refine lv_istore (lv' := [(10, .int 0), (9, .int 1), (8, .ref (ad 66)), (7, .ref (ad 65)), (6, .ref (ad 64)), (5, .ref (ad 63)), (4, .ref (ad 62)), (3, .ref (ad 61)), (2, .ref (ad 60)), (1, .ref (ad 0)), (0, .ref b)]) hx hb dL_law_136 hl (by decide) rfl (fun ls hl => ?_)
                    refine W.widen (k := 47) (n := 936) (by omega) (by omega) ?_
                    exact kk _ _ _ ls hXX hL hW (lv_sub hl [0, 1, 2, 3, 4, 5, 6, 7, 8, 9, 10] rfl)
      · have k64' : ¬ 10 ≤ k := kc_gen ek (nlit 10) (by omega) (by omega) c64'
        refine lv_aload hx hb dL_law_67 (lv_at hl 3 rfl) ?_
        refine lv_iload hx hb dL_law_69 (lv_at hl 0 rfl) ?_
        refine lv_iconst (v := 1) hx hb dL_law_71 (by decide) ?_
        refine wasI (j := k) hx hb hK hA hW (hMs 64 (by decide) (by decide)) ek (by omega) (by decide) dL_law_72 (fun M72' H locs eM72 hW => ?_)
        have hXX : XX as0 v0 M72' := by rw [eM72]; exact XX_sL hXX (by omega) (by omega)
        refine lv_aload_n hx hb dL_law_73 rfl (lv_at hl 6 rfl) ?_
        refine lv_iload hx hb dL_law_74 (lv_at hl 0 rfl) ?_
        refine lv_iconst (v := 4) hx hb dL_law_76 (by decide) ?_
        refine lv_irem hx hb dL_law_77 (by decide) ?_
        refine lv_topi (fun x77' e77' => ?_)
        have n77' : x77' = nI (k % 4) := (by rw [e77', ek, (nlit 4)]; exact pk_rem (by omega) (by omega) (by omega))
        refine lv_iconst (v := 5) hx hb dL_law_78 (by decide) ?_
        refine wasI (j := (k % 4)) hx hb hK hA hW (hMs 61 (by decide) (by decide)) n77' (by omega) (by decide) dL_law_79 (fun M79' H locs eM79 hW => ?_)
        have hXX : XX as0 v0 M79' := by rw [eM79]; exact XX_sL hXX (by omega) (by omega)
        obtain ⟨x80', e80'⟩ : ∃ y : Int32, y = xk + 1 := ⟨_, rfl⟩
        refine lv_iinc (v := x80') (lv' := [(9, .int x80'), (8, .ref (ad 66)), (7, .ref (ad 65)), (6, .ref (ad 64)), (5, .ref (ad 63)), (4, .ref (ad 62)), (3, .ref (ad 61)), (2, .ref (ad 60)), (1, .ref (ad 0)), (0, .ref b)]) hx hb dL_law_80 hl (k := 0) rfl (by rw [e80']; rfl) (by decide) rfl (fun ls hl => ?_)
        refine lv_goto (tgt := 60) hx hb dL_law_83 (by decide) ?_
        exact ih60 (k + 1) x80' M79' _ _ (by omega) (by omega) (by rw [e80', ek, nlit 1, nI_add]) (by
            intro j hj
            rw [eM79, kp_sI (by omega), eM72]
            by_cases z9 : j = k
            · rw [z9, kp_eq]
            · rw [kp_sI (by omega)]; exact h64 j (by omega)) (by
            intro j hj h4
            rw [eM79]
            by_cases z9 : j = k % 4
            · rw [z9, kp_eq]
            · rw [kp_sI (by omega), eM72, kp_sI (by omega)]; exact h61 j (by omega) h4) (fun p9' j9 a9 b9 z1 z2 => by rw [eM79, kp_sI (by omega), eM72, kp_sI (by omega)]; exact hof p9' j9 a9 b9 z1 z2) hXX hW ls (lv_sub hl [0, 1, 2, 3, 4, 5, 6, 7, 8, 9] rfl)
  exact L60 (_ + 1) 0 0 M56' _ _ (Nat.lt_succ_self _) (Nat.zero_le _) rfl (fun j hj => absurd hj (Nat.not_lt_zero j)) (fun j hj _ => absurd hj (Nat.not_lt_zero j)) (fun _ _ _ _ _ _ => rfl) hXX hW ls (lv_sub hl [0, 1, 2, 3, 4, 5, 6, 7, 8, 9] rfl)
set_option maxHeartbeats 4000000 in
set_option maxRecDepth 100000 in
theorem law_step {p : Program} {l : Launch} {e : Env} {s : State} {m : MethodId} {below : List Frame} {meth : Method} {cd0 : Code} {b L : Nat} {xs : Nat → Int32} {D : va_G} {cA : Nat → ClassId} (C0 : LC p l s m cd0 b L xs D cA) (σ : AS) (v : VT) (sh : Nat → Option Sh) (ad : Nat → Nat) (M : MS) (H : Heap) (locs : List Loc) (hI : LI D cA s σ v sh ad M H locs) (k : Nat) (hk : k < 130) (xk : Int32) (ek : xk = nI k) (ls : Array Slot) (hl : lv_has ls 12 [(10, .int xk), (9, .int 1), (8, .ref (ad 66)), (7, .ref (ad 65)), (6, .ref (ad 64)), (5, .ref (ad 63)), (4, .ref (ad 62)), (3, .ref (ad 61)), (2, .ref (ad 60)), (1, .ref (ad 0)), (0, .ref b)])
    (kk : ∀ (σ' : AS) (v' : VT) (sh' : Nat → Option Sh) (ad' : Nat → Nat) (M' : MS) (H' : Heap) (locs' : List Loc) (xk' : Int32) (ls' : Array Slot), LI D cA s σ' v' sh' ad' M' H' locs' → xk' = nI (k + 1) → lv_has ls' 12 [(10, .int xk'), (9, .int 1), (8, .ref (ad' 66)), (7, .ref (ad' 65)), (6, .ref (ad' 64)), (5, .ref (ad' 63)), (4, .ref (ad' 62)), (3, .ref (ad' 61)), (2, .ref (ad' 60)), (1, .ref (ad' 0)), (0, .ref b)] → W p l e room_1 s m #[Value.ref b] below meth cd0 H' locs' (100 + 140 * (k + 1) + 21370 * ((k + 1) / 26)) (2000 + 900 * (k + 1) + 128220 * ((k + 1) / 26)) (lw_Z below #[Value.ref b] s) (F0 m 138 ls' [])) : W p l e room_1 s m #[Value.ref b] below meth cd0 H locs (100 + 140 * k + 21370 * (k / 26)) (2000 + 900 * k + 128220 * (k / 26)) (lw_Z below #[Value.ref b] s) (F0 m 138 ls []) := by
  obtain ⟨hx, hb, hml, hown, hts, hK, hl9, hS9, hbl, hL9, hE, hZ, hE2⟩ := C0
  have hbA : ¬ lA s b := Nat.not_le.mpr hbl
  obtain ⟨hsh, hXX, hL, hA, hW⟩ := hI
  have hX : XSh (aN σ) sh := by rw [hsh]; exact shL_X _
  have hMs : LSh sh := by rw [hsh]; exact shL_LSh _
  have hG : GR sh ad s.heap.size sh ad := GR.rf
  refine lv_iload hx hb dL_law_138 (lv_at hl 0 rfl) ?_
  refine lv_sipush (v := 130) hx hb dL_law_140 (by decide) ?_
  refine lv_icmp_ge (tgt := 302) hx hb dL_law_143 (by decide) (fun c143' => ?_) (fun c143' => ?_)
  · have k143' : 130 ≤ k := kc_ge ek (nlit 130) (by omega) (by omega) c143'
    exact ((show False from by omega)).elim
  · have k143' : ¬ 130 ≤ k := kc_gen ek (nlit 130) (by omega) (by omega) c143'
    refine lv_iload hx hb dL_law_146 (lv_at hl 1 rfl) ?_
    refine lv_if_eq (tgt := 302) hx hb dL_law_148 (by decide) (fun c148' => ?_) (fun c148' => ?_)
    · have k148' : 1 = 0 := kc_eq (nlit 1) (nlit 0) (by omega) (by omega) c148'
      exact ((show False from by omega)).elim
    · have k148' : ¬ 1 = 0 := kc_eqn (nlit 1) (nlit 0) (by omega) (by omega) c148'
      refine lv_aload_n hx hb dL_law_151 rfl (lv_at hl 10 rfl) ?_
      refine lv_iconst (v := 2) hx hb dL_law_152 (by decide) ?_
      refine lv_iload hx hb dL_law_153 (lv_at hl 0 rfl) ?_
      refine lv_imul hx hb dL_law_155 ?_
      refine lv_topi (fun x155' e155' => ?_)
      have n155' : x155' = nI (2 * k) := (by rw [e155', (nlit 2), ek, pk_mul])
      refine wc_ri (va_runS (As := [.ref b, .int x155']) (rest := []) ⟨hx, hb, hml, hown, hts⟩ (c_L_at l  b L xs (by omega) (2 * k) (by omega) x155' n155') (va_cwS 2 hts gL_law_L_at rfl rfl rfl (by decide +kernel) ⟨Nat.le_of_ble_eq_true rfl, Nat.le_of_ble_eq_true rfl⟩) (at_pre hS9 hbl hbA hW.2) rfl rfl hl.1 rfl (lv_room (Nat.le_of_ble_eq_true rfl)) dL_law_156 ⟨(by show 100 + 140 * k + 21370 * (k / 26) + 0 ≤ 771020; omega), (by show 2000 + 900 * k + 128220 * (k / 26) + 0 ≤ 6788565; omega)⟩) hW (fun x156' H locs p156' hW => ?_)
      try dsimp only at p156'
      refine lv_istore (lv' := [(11, .int x156'), (10, .int xk), (9, .int 1), (8, .ref (ad 66)), (7, .ref (ad 65)), (6, .ref (ad 64)), (5, .ref (ad 63)), (4, .ref (ad 62)), (3, .ref (ad 61)), (2, .ref (ad 60)), (1, .ref (ad 0)), (0, .ref b)]) hx hb dL_law_159 hl (by decide) rfl (fun ls hl => ?_)
      refine lv_aload_n hx hb dL_law_161 rfl (lv_at hl 10 rfl) ?_
      refine lv_aload_n hx hb dL_law_162 rfl (lv_at hl 9 rfl) ?_
      refine lv_aload_n hx hb dL_law_163 rfl (lv_at hl 8 rfl) ?_
      refine lv_aload hx hb dL_law_164 (lv_at hl 7 rfl) ?_
      refine lv_aload hx hb dL_law_166 (lv_at hl 6 rfl) ?_
      refine lv_aload hx hb dL_law_168 (lv_at hl 5 rfl) ?_
      refine lv_aload hx hb dL_law_170 (lv_at hl 4 rfl) ?_
      refine lv_aload hx hb dL_law_172 (lv_at hl 3 rfl) ?_
      refine lv_iload hx hb dL_law_174 (lv_at hl 0 rfl) ?_
      refine lv_aload_n hx hb dL_law_176 rfl (lv_at hl 11 rfl) ?_
      refine lv_iconst (v := 2) hx hb dL_law_177 (by decide) ?_
      refine lv_iload hx hb dL_law_178 (lv_at hl 1 rfl) ?_
      refine lv_imul hx hb dL_law_180 ?_
      refine lv_topi (fun x180' e180' => ?_)
      have n180' : x180' = nI (2 * k) := (by rw [e180', (nlit 2), ek, pk_mul])
      refine lv_iconst (v := 1) hx hb dL_law_181 (by decide) ?_
      refine lv_iadd hx hb dL_law_182 ?_
      refine lv_topi (fun x182' e182' => ?_)
      have n182' : x182' = nI ((2 * k) + 1) := (by rw [e182', n180', (nlit 1), nI_add])
      refine wc_ri (runS12 (As := [.ref b, .int x182']) (rest := [.int x156', .ref (ad 66), .ref (ad 65), .ref (ad 64), .ref (ad 63), .ref (ad 62), .ref (ad 61), .ref (ad 60), .ref (ad 0)]) ⟨hx, hb, hml, hown, hts⟩ (c_L_at l  b L xs (by omega) (2 * k + 1) (by omega) x182' n182') (va_cwS 2 hts gL_law_L_at rfl rfl rfl (by decide +kernel) ⟨Nat.le_of_ble_eq_true rfl, Nat.le_of_ble_eq_true rfl⟩) (Nat.le_of_ble_eq_true rfl) (at_pre hS9 hbl hbA hW.2) rfl rfl hl.1 rfl (lv_room12 (Nat.le_of_ble_eq_true rfl)) dL_law_183 ⟨(by show 100 + 140 * k + 21370 * (k / 26) + 0 ≤ 771020; omega), (by show 2000 + 900 * k + 128220 * (k / 26) + 0 ≤ 6788565; omega)⟩) hW (fun x183' H locs p183' hW => ?_)
      try dsimp only at p183'
      refine wc_lc (va_runS (As := [.ref (ad 0), .ref (ad 60), .ref (ad 61), .ref (ad 62), .ref (ad 63), .ref (ad 64), .ref (ad 65), .ref (ad 66), .int x156', .int x183']) (rest := []) ⟨hx, hb, hml, hown, hts⟩ (c_L_acts l hl9 D cA sh ad M _ σ v hsh hXX hL x156' x183' ) (va_cwS 10 hts gL_law_L_acts rfl rfl rfl (by decide +kernel) ⟨Nat.le_of_ble_eq_true rfl, Nat.le_of_ble_eq_true rfl⟩) (lpreS hK hA hW hE hZ hE2) rfl rfl hl.1 rfl (lv_room (Nat.le_of_ble_eq_true rfl)) dL_law_186 ⟨(by show 100 + 140 * k + 21370 * (k / 26) + 90 ≤ 771020; omega), (by show 2000 + 900 * k + 128220 * (k / 26) + 600 ≤ 6788565; omega)⟩) hA hW (fun x186' sh ad M186' H locs hG1 p186' hA hW => ?_)
      rw [← (hG1.1 66 (ne_none (hMs 66 (by decide) (by decide)))).2] at hl
      rw [← (hG1.1 65 (ne_none (hMs 65 (by decide) (by decide)))).2] at hl
      rw [← (hG1.1 64 (ne_none (hMs 64 (by decide) (by decide)))).2] at hl
      rw [← (hG1.1 63 (ne_none (hMs 63 (by decide) (by decide)))).2] at hl
      rw [← (hG1.1 62 (ne_none (hMs 62 (by decide) (by decide)))).2] at hl
      rw [← (hG1.1 61 (ne_none (hMs 61 (by decide) (by decide)))).2] at hl
      rw [← (hG1.1 60 (ne_none (hMs 60 (by decide) (by decide)))).2] at hl
      rw [← (hG1.1 0 (ne_none (hX.1 0 (by decide)))).2] at hl
      have hG := hG.trans hG1
      try dsimp only at p186'
      obtain ⟨r186, σ1, v1, hsh, hXX, hL⟩ := p186'
      have hX : XSh (aN σ1) sh := by rw [hsh]; exact shL_X _
      have hMs : LSh sh := by rw [hsh]; exact shL_LSh _
      have o1 : aN σ1 ≤ 40 := hXX.1.1
      refine lv_if_eq (tgt := 235) hx hb dL_law_189 (by decide) (fun c189' => ?_) (fun c189' => ?_)
      · exact ((show False from by exact absurd (r186.symm.trans c189') (by decide))).elim
      · refine lv_aload_n hx hb dL_law_192 rfl (lv_at hl 10 rfl) ?_
        refine lv_aload_n hx hb dL_law_193 rfl (lv_at hl 9 rfl) ?_
        refine lv_aload_n hx hb dL_law_194 rfl (lv_at hl 8 rfl) ?_
        refine lv_aload hx hb dL_law_195 (lv_at hl 7 rfl) ?_
        refine lv_aload hx hb dL_law_197 (lv_at hl 3 rfl) ?_
        refine lv_iload hx hb dL_law_199 (lv_at hl 0 rfl) ?_
        refine lv_bipush (v := 6) hx hb dL_law_201 (by decide) ?_
        refine lv_ishr hx hb dL_law_203 ?_
        refine lv_topi (fun x203' e203' => ?_)
        refine lv_aload hx hb dL_law_204 (lv_at hl 3 rfl) ?_
        refine lv_iconst (v := 0) hx hb dL_law_206 (by decide) ?_
        refine walI (j := 0) hx hb hK hW (hMs 66 (by decide) (by decide)) (nlit 0) (by omega) (by decide) dL_law_207 (fun x207' e207' => ?_)
        have n207' : x207' = nI (aN σ1) := (e207'.trans hL.2.2.2.2.2.2.1)
        refine lv_iconst (v := 1) hx hb dL_law_208 (by decide) ?_
        refine lv_iadd hx hb dL_law_209 ?_
        refine lv_topi (fun x209' e209' => ?_)
        have n209' : x209' = nI ((aN σ1) + 1) := (by rw [e209', n207', (nlit 1), nI_add])
        refine wc_ri (va_runS (As := [.int x203', .int x209']) (rest := [.ref (ad 66), .ref (ad 62), .ref (ad 61), .ref (ad 60), .ref (ad 0)]) ⟨hx, hb, hml, hown, hts⟩ (c_L_low l x203' x209' (fun z9 => low_ne (n := aN σ1 + 1) (by omega) (by omega) (n209'.symm.trans z9))) (va_cwS 2 hts gL_law_L_low rfl rfl rfl (by decide +kernel) ⟨Nat.le_of_ble_eq_true rfl, Nat.le_of_ble_eq_true rfl⟩) npreS rfl rfl hl.1 rfl (lv_room (Nat.le_of_ble_eq_true rfl)) dL_law_210 ⟨(by show 100 + 140 * k + 21370 * (k / 26) + 90 + 0 ≤ 771020; omega), (by show 2000 + 900 * k + 128220 * (k / 26) + 600 + 0 ≤ 6788565; omega)⟩) hW (fun x210' H locs p210' hW => ?_)
        try dsimp only at p210'
        rw [n209'] at p210'
        obtain ⟨ix, hix, eix⟩ := low_n x203' (n := aN σ1 + 1) (by omega) (by omega)
        have r210 : x210' = nI ix := p210'.trans eix
        obtain ⟨q, c, hs⟩ := srt_ex σ1 40
        have n210' : x210' = nI ix := r210
        refine wc_wiN (va_runS (As := [.ref (ad 0), .ref (ad 60), .ref (ad 61), .ref (ad 62), .ref (ad 66), .int x210']) (rest := []) ⟨hx, hb, hml, hown, hts⟩ (c_L_isCue l hl9 D cA sh ad M186' _ σ1 v1 hX hXX hMs hL q c hs ix (by omega) x210'  r210) (va_cwS 6 hts gL_law_L_isCue rfl rfl rfl (by decide +kernel) ⟨Nat.le_of_ble_eq_true rfl, Nat.le_of_ble_eq_true rfl⟩) (lpreS hK hA hW hE hZ hE2) rfl rfl hl.1 rfl (lv_room (Nat.le_of_ble_eq_true rfl)) dL_law_213 ⟨(by show 100 + 140 * k + 21370 * (k / 26) + 90 + 40 ≤ 771020; omega), (by show 2000 + 900 * k + 128220 * (k / 26) + 600 + 240 ≤ 6788565; omega)⟩) hA hW (fun x213' M213' H locs p213' hW => ?_)
        try dsimp only at p213'
        obtain ⟨r213, hXX, hL⟩ := p213'
        refine lv_if_eq (tgt := 235) hx hb dL_law_216 (by decide) (fun c216' => ?_) (fun c216' => ?_)
        · exact ((show False from by exact absurd (r213.symm.trans c216') (by decide))).elim
        · refine lv_aload_n hx hb dL_law_219 rfl (lv_at hl 10 rfl) ?_
          refine lv_aload_n hx hb dL_law_220 rfl (lv_at hl 8 rfl) ?_
          refine lv_iload hx hb dL_law_221 (lv_at hl 0 rfl) ?_
          refine lv_iconst (v := 3) hx hb dL_law_223 (by decide) ?_
          refine lv_ishr hx hb dL_law_224 ?_
          refine lv_topi (fun x224' e224' => ?_)
          refine wc_wiN (va_runS (As := [.ref (ad 0), .ref (ad 61), .int x224']) (rest := []) ⟨hx, hb, hml, hown, hts⟩ (c_L_areShells l hl9 D cA sh ad M213' _ σ1 v1 hX hXX hMs hL x224' ) (va_cwS 3 hts gL_law_L_areShells rfl rfl rfl (by decide +kernel) ⟨Nat.le_of_ble_eq_true rfl, Nat.le_of_ble_eq_true rfl⟩) (lpreS hK hA hW hE hZ hE2) rfl rfl hl.1 rfl (lv_room (Nat.le_of_ble_eq_true rfl)) dL_law_225 ⟨(by show 100 + 140 * k + 21370 * (k / 26) + 90 + 40 + 10 ≤ 771020; omega), (by show 2000 + 900 * k + 128220 * (k / 26) + 600 + 240 + 60 ≤ 6788565; omega)⟩) hA hW (fun x225' M225' H locs p225' hW => ?_)
          try dsimp only at p225'
          obtain ⟨r225, hXX, hL⟩ := p225'
          refine lv_if_eq (tgt := 235) hx hb dL_law_228 (by decide) (fun c228' => ?_) (fun c228' => ?_)
          · exact ((show False from by exact absurd (r225.symm.trans c228') (by decide))).elim
          · refine lv_iconst (v := 1) hx hb dL_law_231 (by decide) ?_
            refine lv_goto (tgt := 236) hx hb dL_law_232 (by decide) ?_
            refine lv_istore (lv' := [(9, .int 1), (11, .int x156'), (10, .int xk), (8, .ref (ad 66)), (7, .ref (ad 65)), (6, .ref (ad 64)), (5, .ref (ad 63)), (4, .ref (ad 62)), (3, .ref (ad 61)), (2, .ref (ad 60)), (1, .ref (ad 0)), (0, .ref b)]) hx hb dL_law_236 hl (by decide) rfl (fun ls hl => ?_)
            refine lv_iload hx hb dL_law_238 (lv_at hl 0 rfl) ?_
            refine lv_if_eq (tgt := 296) hx hb dL_law_240 (by decide) (fun c240' => ?_) (fun c240' => ?_)
            · have k240' : 1 = 0 := kc_eq (nlit 1) (nlit 0) (by omega) (by omega) c240'
              exact ((show False from by omega)).elim
            · have k240' : ¬ 1 = 0 := kc_eqn (nlit 1) (nlit 0) (by omega) (by omega) c240'
              refine lv_iload hx hb dL_law_243 (lv_at hl 2 rfl) ?_
              refine lv_bipush (v := 26) hx hb dL_law_245 (by decide) ?_
              refine lv_irem hx hb dL_law_247 (by decide) ?_
              refine lv_topi (fun x247' e247' => ?_)
              have n247' : x247' = nI (k % 26) := (by rw [e247', ek, (nlit 26)]; exact pk_rem (by omega) (by omega) (by omega))
              refine lv_bipush (v := 25) hx hb dL_law_248 (by decide) ?_
              refine lv_icmp_ne (tgt := 296) hx hb dL_law_250 (by decide) (fun c250' => ?_) (fun c250' => ?_)
              · have k250' : ¬ (k % 26) = 25 := kc_ne n247' (nlit 25) (by omega) (by omega) c250'
                obtain ⟨x296', e296'⟩ : ∃ y : Int32, y = xk + 1 := ⟨_, rfl⟩
                refine lv_iinc (v := x296') (lv' := [(10, .int x296'), (9, .int 1), (11, .int x156'), (8, .ref (ad 66)), (7, .ref (ad 65)), (6, .ref (ad 64)), (5, .ref (ad 63)), (4, .ref (ad 62)), (3, .ref (ad 61)), (2, .ref (ad 60)), (1, .ref (ad 0)), (0, .ref b)]) hx hb dL_law_296 hl (k := 2) rfl (by rw [e296']; rfl) (by decide) rfl (fun ls hl => ?_)
                refine lv_goto (tgt := 138) hx hb dL_law_299 (by decide) ?_
                refine W.widen (k := 100 + 140 * (k + 1) + 21370 * ((k + 1) / 26)) (n := 2000 + 900 * (k + 1) + 128220 * ((k + 1) / 26)) (by omega) (by omega) ?_
                exact kk σ1 v1 sh ad M225' _ _ x296' ls ⟨hsh, hXX, hL, hA, hW⟩ (by rw [e296', ek, nlit 1, nI_add]) (lv_sub hl [0, 1, 3, 4, 5, 6, 7, 8, 9, 10, 11] rfl)
              · have k250' : (k % 26) = 25 := kc_nen n247' (nlit 25) (by omega) (by omega) c250'
                refine lv_aload_n hx hb dL_law_253 rfl (lv_at hl 10 rfl) ?_
                refine lv_aload_n hx hb dL_law_254 rfl (lv_at hl 9 rfl) ?_
                refine lv_aload hx hb dL_law_255 (lv_at hl 3 rfl) ?_
                refine wc_wiN (va_runS (As := [.ref (ad 0), .ref (ad 60), .ref (ad 66)]) (rest := []) ⟨hx, hb, hml, hown, hts⟩ (c_L_isClosed l hl9 D cA sh ad M225' _ σ1 v1 hX hXX hMs hL q c hs ) (va_cwS 3 hts gL_law_L_isClosed rfl rfl rfl (by decide +kernel) ⟨Nat.le_of_ble_eq_true rfl, Nat.le_of_ble_eq_true rfl⟩) (lpreS hK hA hW hE hZ hE2) rfl rfl hl.1 rfl (lv_room (Nat.le_of_ble_eq_true rfl)) dL_law_257 ⟨(by show 100 + 140 * k + 21370 * (k / 26) + 90 + 40 + 10 + 20200 ≤ 771020; omega), (by show 2000 + 900 * k + 128220 * (k / 26) + 600 + 240 + 60 + 121200 ≤ 6788565; omega)⟩) hA hW (fun x257' M257' H locs p257' hW => ?_)
                try dsimp only at p257'
                obtain ⟨r257, hXX, hL⟩ := p257'
                refine lv_if_eq (tgt := 293) hx hb dL_law_260 (by decide) (fun c260' => ?_) (fun c260' => ?_)
                · exact ((show False from by exact absurd (r257.symm.trans c260') (by decide))).elim
                · refine lv_aload_n hx hb dL_law_263 rfl (lv_at hl 10 rfl) ?_
                  refine lv_aload_n hx hb dL_law_264 rfl (lv_at hl 9 rfl) ?_
                  refine lv_aload hx hb dL_law_265 (lv_at hl 4 rfl) ?_
                  refine lv_aload hx hb dL_law_267 (lv_at hl 3 rfl) ?_
                  refine wc_wiN (va_runS (As := [.ref (ad 0), .ref (ad 60), .ref (ad 65), .ref (ad 66)]) (rest := []) ⟨hx, hb, hml, hown, hts⟩ (c_L_areGiven l hl9 D cA sh ad M257' _ σ1 v1 hX hXX hMs hL q c hs ) (va_cwS 4 hts gL_law_L_areGiven rfl rfl rfl (by decide +kernel) ⟨Nat.le_of_ble_eq_true rfl, Nat.le_of_ble_eq_true rfl⟩) (lpreS hK hA hW hE hZ hE2) rfl rfl hl.1 rfl (lv_room (Nat.le_of_ble_eq_true rfl)) dL_law_269 ⟨(by show 100 + 140 * k + 21370 * (k / 26) + 90 + 40 + 10 + 20200 + 1010 ≤ 771020; omega), (by show 2000 + 900 * k + 128220 * (k / 26) + 600 + 240 + 60 + 121200 + 6060 ≤ 6788565; omega)⟩) hA hW (fun x269' M269' H locs p269' hW => ?_)
                  try dsimp only at p269'
                  obtain ⟨r269, hXX, hL⟩ := p269'
                  refine lv_if_eq (tgt := 293) hx hb dL_law_272 (by decide) (fun c272' => ?_) (fun c272' => ?_)
                  · exact ((show False from by exact absurd (r269.symm.trans c272') (by decide))).elim
                  · refine lv_aload_n hx hb dL_law_275 rfl (lv_at hl 10 rfl) ?_
                    refine lv_aload_n hx hb dL_law_276 rfl (lv_at hl 9 rfl) ?_
                    refine lv_aload hx hb dL_law_277 (lv_at hl 6 rfl) ?_
                    refine lv_aload hx hb dL_law_279 (lv_at hl 5 rfl) ?_
                    refine lv_aload hx hb dL_law_281 (lv_at hl 3 rfl) ?_
                    refine wc_wiN (va_runS (As := [.ref (ad 0), .ref (ad 60), .ref (ad 63), .ref (ad 64), .ref (ad 66)]) (rest := []) ⟨hx, hb, hml, hown, hts⟩ (c_L_arePriced l hl9 D cA sh ad M269' _ σ1 v1 hX hXX hMs hL q c hs ) (va_cwS 5 hts gL_law_L_arePriced rfl rfl rfl (by decide +kernel) ⟨Nat.le_of_ble_eq_true rfl, Nat.le_of_ble_eq_true rfl⟩) (lpreS hK hA hW hE hZ hE2) rfl rfl hl.1 rfl (lv_room (Nat.le_of_ble_eq_true rfl)) dL_law_283 ⟨(by show 100 + 140 * k + 21370 * (k / 26) + 90 + 40 + 10 + 20200 + 1010 + 160 ≤ 771020; omega), (by show 2000 + 900 * k + 128220 * (k / 26) + 600 + 240 + 60 + 121200 + 6060 + 960 ≤ 6788565; omega)⟩) hA hW (fun x283' M283' H locs p283' hW => ?_)
                    try dsimp only at p283'
                    obtain ⟨r283, hXX, hL⟩ := p283'
                    refine lv_if_eq (tgt := 293) hx hb dL_law_286 (by decide) (fun c286' => ?_) (fun c286' => ?_)
                    · exact ((show False from by exact absurd (r283.symm.trans c286') (by decide))).elim
                    · refine lv_iconst (v := 1) hx hb dL_law_289 (by decide) ?_
                      refine lv_goto (tgt := 294) hx hb dL_law_290 (by decide) ?_
                      refine lv_istore (lv' := [(9, .int 1), (11, .int x156'), (10, .int xk), (8, .ref (ad 66)), (7, .ref (ad 65)), (6, .ref (ad 64)), (5, .ref (ad 63)), (4, .ref (ad 62)), (3, .ref (ad 61)), (2, .ref (ad 60)), (1, .ref (ad 0)), (0, .ref b)]) hx hb dL_law_294 hl (by decide) rfl (fun ls hl => ?_)
                      obtain ⟨x296', e296'⟩ : ∃ y : Int32, y = xk + 1 := ⟨_, rfl⟩
                      refine lv_iinc (v := x296') (lv' := [(10, .int x296'), (9, .int 1), (11, .int x156'), (8, .ref (ad 66)), (7, .ref (ad 65)), (6, .ref (ad 64)), (5, .ref (ad 63)), (4, .ref (ad 62)), (3, .ref (ad 61)), (2, .ref (ad 60)), (1, .ref (ad 0)), (0, .ref b)]) hx hb dL_law_296 hl (k := 2) rfl (by rw [e296']; rfl) (by decide) rfl (fun ls hl => ?_)
                      refine lv_goto (tgt := 138) hx hb dL_law_299 (by decide) ?_
                      refine W.widen (k := 100 + 140 * (k + 1) + 21370 * ((k + 1) / 26)) (n := 2000 + 900 * (k + 1) + 128220 * ((k + 1) / 26)) (by omega) (by omega) ?_
                      exact kk σ1 v1 sh ad M283' _ _ x296' ls ⟨hsh, hXX, hL, hA, hW⟩ (by rw [e296', ek, nlit 1, nI_add]) (lv_sub hl [0, 1, 3, 4, 5, 6, 7, 8, 9, 10, 11] rfl)
set_option maxHeartbeats 4000000 in
set_option maxRecDepth 100000 in
theorem law_loop {p : Program} {l : Launch} {e : Env} {s : State} {m : MethodId} {below : List Frame} {meth : Method} {cd0 : Code} {b L : Nat} {xs : Nat → Int32} {D : va_G} {cA : Nat → ClassId} (C0 : LC p l s m cd0 b L xs D cA) (hr : meth.sig.returnType = ret) (hlocks : meth.locks = false) :
    ∀ (n k : Nat), k ≤ 130 → 131 ≤ k + n → ∀ (σ : AS) (v : VT) (sh : Nat → Option Sh) (ad : Nat → Nat) (M : MS) (H : Heap) (locs : List Loc), LI D cA s σ v sh ad M H locs → ∀ (xk : Int32), xk = nI k → ∀ (ls : Array Slot), lv_has ls 12 [(10, .int xk), (9, .int 1), (8, .ref (ad 66)), (7, .ref (ad 65)), (6, .ref (ad 64)), (5, .ref (ad 63)), (4, .ref (ad 62)), (3, .ref (ad 61)), (2, .ref (ad 60)), (1, .ref (ad 0)), (0, .ref b)] → W p l e room_1 s m #[Value.ref b] below meth cd0 H locs (100 + 140 * k + 21370 * (k / 26)) (2000 + 900 * k + 128220 * (k / 26)) (lw_Z below #[Value.ref b] s) (F0 m 138 ls []) := by
  intro n
  induction n with
  | zero =>
    intro k h1 h2
    exact absurd h2 (by omega)
  | succ n ih =>
    intro k hk hn σ v sh ad M H locs hI xk ek ls hl
    by_cases hlt : k < 130
    · exact law_step C0 σ v sh ad M H locs hI k hlt xk ek ls hl (fun σ' v' sh' ad' M' H' locs' xk' ls' hI' ek' hl' => ih (k + 1) (by omega) (by omega) σ' v' sh' ad' M' H' locs' hI' xk' ek' ls' hl')
    · obtain ⟨hx, hb, hml, hown, hts, hK, hl9, hS9, hbl, hL9, hE, hZ, hE2⟩ := C0
      obtain ⟨hsh, hXX, hL, hA, hW⟩ := hI
      refine lv_iload hx hb dL_law_138 (lv_at hl 0 rfl) ?_
      refine lv_sipush (v := 130) hx hb dL_law_140 (by decide) ?_
      refine lv_icmp_ge (tgt := 302) hx hb dL_law_143 (by decide) (fun c143' => ?_) (fun c143' => ?_)
      · refine lv_iload hx hb dL_law_302 (lv_at hl 1 rfl) ?_
        refine va_forget (fun q hq => hW.2.2.2 q hq) ?_
        refine W.widen (k := 771020) (n := 6788565) (by omega) (by omega) ?_
        exact lw_ret hx hb hr hlocks dL_law_304
      · have h9 : nI 130 ≤ xk := by rw [ek]; exact (nI_leI (by omega) (by omega)).mpr (by omega)
        exact absurd h9 c143'
set_option maxHeartbeats 4000000 in
set_option maxRecDepth 100000 in
/-- the law, from its entry -/
theorem whole_start {p : Program} {e : Env} {s : State} {m : MethodId} {below : List Frame} {meth : Method} {c : Code} (l : Launch) (hflags : l.flags = flags0) {b L : Nat} {xs : Nat → Int32} (hL : L ≤ 260) (C0 : lw_At p s m meth c b L xs) : W p l e room_1 s m #[Value.ref b] below meth c s.heap [] 0 0 (lw_Z below #[Value.ref b] s) (entryFrame m ([Value.ref b] : List Value).toArray 12) := by
  obtain ⟨hx, hb, hr, hml, hown0, hts0, hX, hbl, hlocks, hgv⟩ := C0
  have hown : s.vm.findClass RL = some m.cls := hown0
  have hts : ∀ w ∈ wsL_law, w.before #[Value.ref b] s = true := fun w h => hts0 w (wsL_law_in w h)
  have hl9 : l.stackTraces = false := by unfold Launch.stackTraces; rw [hflags]; decide +kernel
  obtain ⟨D, cA, hK⟩ := lw_K hts0
  have hE := lw_E hts0 hgv
  have hN := lw_N hts0
  have hZ := lw_EZ hts0 hgv
  have hNc := lw_Nc hgv
  have C1 : LC p l s m c b L xs D cA := ⟨hx, hb, hml, hown, hts, hK, hl9, hX, hbl, hL, hE, hZ, hNc⟩
  have hA : PA (fun _ => none) (fun _ => 0) (lA s) s.heap := ⟨fun p x h => (nomatch h), fun q h => h⟩
  have hW : WS D cA (fun _ => none) (fun _ => 0) (lA s) s.heap zM s.heap [] := ⟨⟨fun p x h => (nomatch h), fun p q x y h => (nomatch h)⟩, va_S.rf⟩
  have hC : CZ (fun _ => none) zM := ⟨fun p x t h => (nomatch h), fun p k t h => (nomatch h), fun p _ k => ⟨rfl, rfl, rfl⟩⟩
  have hl := lv_entry ([.ref b]) (n := 12) (Nat.le_of_ble_eq_true rfl)
  rw [lg_entry_eq]
  generalize (lg_sl ([.ref b]) ++ List.replicate (12 - (lg_sl ([.ref b])).length) Slot.unset).toArray = ls at hl ⊢
  have hl : lv_has ls 12 [(0, .ref b)] := hl
  refine wnewZ (q := 0) (ci := 9) (C := RX9) (T := TX9) (N := 15) (ks := [2, 2, 2, 2, 2, 2, 2, 2, 2, 2, 0, 0, 0, 0, 0]) hx hb hts0 inX9 tyX9 tyX9_ok hown (hts0 (.classLink RL 11 RX9) (by decide +kernel)) (hts0 (.instantiable RX9 15) (by decide +kernel)) (hts0 (.initialized RX9) (by decide +kernel)) hK rfl hC rfl hA hW (by decide) (by decide) ⟨Nat.le_of_ble_eq_true rfl, Nat.le_of_ble_eq_true rfl⟩ dL_law_0 (fun sh ad H esh hk hge hC hA hW => ?_)
  have h0 : sh 0 ≠ none := by rw [esh, shU_eq]; exact fun z => nomatch z
  refine lv_dup hx hb dL_law_3 rfl ?_
  refine wc_cv (va_runI (As := []) (rest := [.ref (ad 0)]) ⟨hx, hb, hml, hown, hts⟩ (c_X9_init l D cA sh ad _ _ (esh.trans shX_0) rfl hC) (cwI 0 hts gL_law_X9_init rfl rfl rfl (hts0 (.initialized RX9) (by decide +kernel)) (hts0 (.methodLink RL 191 yX9_init) (by decide +kernel)) (hts0 (.instanceMethod yX9_init) (by decide +kernel)) rfl (by decide +kernel) ⟨Nat.le_of_ble_eq_true rfl, Nat.le_of_ble_eq_true rfl⟩) (cpreS hK hW hN) rfl rfl hl.1 rfl (lv_room (Nat.le_of_ble_eq_true rfl)) dL_law_4 ⟨Nat.le_of_ble_eq_true rfl, Nat.le_of_ble_eq_true rfl⟩) hA hW (fun sh ad M H locs esh hG1 hC p4' hA hW => ?_)
  rw [← (hG1.1 0 h0).2]
  try dsimp only at p4'
  have hz : ∀ p9' k9', 60 ≤ p9' → p9' ≤ 66 → gI M p9' k9' = 0 := fun p9' k9' h1 h2 => (hC.2.2 p9' (by rw [esh]; unfold shF; rw [if_neg (by omega)]) k9').1
  refine lv_astore_n (lv' := [(1, .ref (ad 0)), (0, .ref b)]) hx hb dL_law_7 rfl hl (by decide) rfl (fun ls hl => ?_)
  refine lv_bipush (v := 40) hx hb dL_law_8 (by decide) ?_
  refine wnewAI (q := 60) (N := 40) (n := 40) hx hb (hts0 (.arrayClass .int) (by decide +kernel)) hK hC (by rw [esh]; first | rfl | decide) hA hW rfl (by decide) ⟨Nat.le_of_ble_eq_true rfl, Nat.le_of_ble_eq_true rfl⟩ dL_law_10 (fun sh ad H esh1 hk hge hC hA hW => ?_)
  rw [← hk 0 (by decide)] at hl
  rw [esh] at esh1
  have esh := esh1
  clear esh1
  refine lv_astore_n (lv' := [(2, .ref (ad 60)), (1, .ref (ad 0)), (0, .ref b)]) hx hb dL_law_12 rfl hl (by decide) rfl (fun ls hl => ?_)
  refine lv_iconst (v := 4) hx hb dL_law_13 (by decide) ?_
  refine wnewAI (q := 61) (N := 4) (n := 4) hx hb (hts0 (.arrayClass .int) (by decide +kernel)) hK hC (by rw [esh]; first | rfl | decide) hA hW rfl (by decide) ⟨Nat.le_of_ble_eq_true rfl, Nat.le_of_ble_eq_true rfl⟩ dL_law_14 (fun sh ad H esh1 hk hge hC hA hW => ?_)
  rw [← hk 0 (by decide), ← hk 60 (by decide)] at hl
  rw [esh] at esh1
  have esh := esh1
  clear esh1
  refine lv_astore_n (lv' := [(3, .ref (ad 61)), (2, .ref (ad 60)), (1, .ref (ad 0)), (0, .ref b)]) hx hb dL_law_16 rfl hl (by decide) rfl (fun ls hl => ?_)
  refine lv_bipush (v := 64) hx hb dL_law_17 (by decide) ?_
  refine wnewAI (q := 62) (N := 64) (n := 64) hx hb (hts0 (.arrayClass .int) (by decide +kernel)) hK hC (by rw [esh]; first | rfl | decide) hA hW rfl (by decide) ⟨Nat.le_of_ble_eq_true rfl, Nat.le_of_ble_eq_true rfl⟩ dL_law_19 (fun sh ad H esh1 hk hge hC hA hW => ?_)
  rw [← hk 0 (by decide), ← hk 60 (by decide), ← hk 61 (by decide)] at hl
  rw [esh] at esh1
  have esh := esh1
  clear esh1
  refine lv_astore (lv' := [(4, .ref (ad 62)), (3, .ref (ad 61)), (2, .ref (ad 60)), (1, .ref (ad 0)), (0, .ref b)]) hx hb dL_law_21 hl (by decide) rfl (fun ls hl => ?_)
  refine lv_bipush (v := 64) hx hb dL_law_23 (by decide) ?_
  refine wnewAI (q := 63) (N := 64) (n := 64) hx hb (hts0 (.arrayClass .int) (by decide +kernel)) hK hC (by rw [esh]; first | rfl | decide) hA hW rfl (by decide) ⟨Nat.le_of_ble_eq_true rfl, Nat.le_of_ble_eq_true rfl⟩ dL_law_25 (fun sh ad H esh1 hk hge hC hA hW => ?_)
  rw [← hk 0 (by decide), ← hk 60 (by decide), ← hk 61 (by decide), ← hk 62 (by decide)] at hl
  rw [esh] at esh1
  have esh := esh1
  clear esh1
  refine lv_astore (lv' := [(5, .ref (ad 63)), (4, .ref (ad 62)), (3, .ref (ad 61)), (2, .ref (ad 60)), (1, .ref (ad 0)), (0, .ref b)]) hx hb dL_law_27 hl (by decide) rfl (fun ls hl => ?_)
  refine lv_bipush (v := 10) hx hb dL_law_29 (by decide) ?_
  refine wnewAI (q := 64) (N := 10) (n := 10) hx hb (hts0 (.arrayClass .int) (by decide +kernel)) hK hC (by rw [esh]; first | rfl | decide) hA hW rfl (by decide) ⟨Nat.le_of_ble_eq_true rfl, Nat.le_of_ble_eq_true rfl⟩ dL_law_31 (fun sh ad H esh1 hk hge hC hA hW => ?_)
  rw [← hk 0 (by decide), ← hk 60 (by decide), ← hk 61 (by decide), ← hk 62 (by decide), ← hk 63 (by decide)] at hl
  rw [esh] at esh1
  have esh := esh1
  clear esh1
  refine lv_astore (lv' := [(6, .ref (ad 64)), (5, .ref (ad 63)), (4, .ref (ad 62)), (3, .ref (ad 61)), (2, .ref (ad 60)), (1, .ref (ad 0)), (0, .ref b)]) hx hb dL_law_33 hl (by decide) rfl (fun ls hl => ?_)
  refine lv_bipush (v := 32) hx hb dL_law_35 (by decide) ?_
  refine wnewAI (q := 65) (N := 32) (n := 32) hx hb (hts0 (.arrayClass .int) (by decide +kernel)) hK hC (by rw [esh]; first | rfl | decide) hA hW rfl (by decide) ⟨Nat.le_of_ble_eq_true rfl, Nat.le_of_ble_eq_true rfl⟩ dL_law_37 (fun sh ad H esh1 hk hge hC hA hW => ?_)
  rw [← hk 0 (by decide), ← hk 60 (by decide), ← hk 61 (by decide), ← hk 62 (by decide), ← hk 63 (by decide), ← hk 64 (by decide)] at hl
  rw [esh] at esh1
  have esh := esh1
  clear esh1
  refine lv_astore (lv' := [(7, .ref (ad 65)), (6, .ref (ad 64)), (5, .ref (ad 63)), (4, .ref (ad 62)), (3, .ref (ad 61)), (2, .ref (ad 60)), (1, .ref (ad 0)), (0, .ref b)]) hx hb dL_law_39 hl (by decide) rfl (fun ls hl => ?_)
  refine lv_iconst (v := 4) hx hb dL_law_41 (by decide) ?_
  refine wnewAI (q := 66) (N := 4) (n := 4) hx hb (hts0 (.arrayClass .int) (by decide +kernel)) hK hC (by rw [esh]; first | rfl | decide) hA hW rfl (by decide) ⟨Nat.le_of_ble_eq_true rfl, Nat.le_of_ble_eq_true rfl⟩ dL_law_42 (fun sh ad H esh1 hk hge hC hA hW => ?_)
  rw [← hk 0 (by decide), ← hk 60 (by decide), ← hk 61 (by decide), ← hk 62 (by decide), ← hk 63 (by decide), ← hk 64 (by decide), ← hk 65 (by decide)] at hl
  rw [esh] at esh1
  have esh := esh1
  clear esh1
  refine lv_astore (lv' := [(8, .ref (ad 66)), (7, .ref (ad 65)), (6, .ref (ad 64)), (5, .ref (ad 63)), (4, .ref (ad 62)), (3, .ref (ad 61)), (2, .ref (ad 60)), (1, .ref (ad 0)), (0, .ref b)]) hx hb dL_law_44 hl (by decide) rfl (fun ls hl => ?_)
  have hl : lv_has ls 12 [(8, .ref (ad 66)), (7, .ref (ad 65)), (6, .ref (ad 64)), (5, .ref (ad 63)), (4, .ref (ad 62)), (3, .ref (ad 61)), (2, .ref (ad 60)), (1, .ref (ad 0)), (0, .ref b)] := lv_sub hl [0, 1, 2, 3, 4, 5, 6, 7, 8] rfl
  refine law_mid C1 sh ad M H locs (esh.trans shL_00) p4' hz hA hW ls hl (fun M' H' locs' ls' hX' hL' hW' hl' => ?_)
  refine W.widen (k := 100 + 140 * 0 + 21370 * (0 / 26)) (n := 2000 + 900 * 0 + 128220 * (0 / 26)) (by decide) (by decide) ?_
  exact law_loop C1 hr hlocks 131 0 (by omega) (by omega) as0 v0 sh ad M' H' locs' ⟨esh.trans shL_00, hX', hL', hA, hW'⟩ 0 rfl ls' hl'

/-- the shapes of the places that stand from the start -/
def shT : List (Option Sh) := [some (.inl (9, [4, 7, 8, 9, 12, 14, 15, 19, 23, 24, 0, 0, 0, 0, 0])), some (.inl (4, [5, 6])), some (.inr (0, 64)), some (.inr (0, 64)), some (.inr (7, 6)), some (.inr (6, 4)), some (.inl (8, [10, 11])), some (.inr (0, 4)), some (.inr (0, 4)), some (.inl (3, [13, 0, 0])), some (.inl (5, [0, 0, 0, 0, 0])), some (.inr (3, 40)), some (.inl (0, [16, 17, 18, 0])), some (.inr (0, 101)), some (.inr (0, 101)), some (.inr (0, 101)), some (.inl (1, [20, 21, 22, 0])), some (.inr (1, 32)), some (.inr (0, 32)), some (.inr (0, 4)), some (.inr (3, 40)), some (.inr (0, 10)), none, none, none, none, none, none, none, none, some (.inl (7, [0, 0])), some (.inl (7, [0, 0])), some (.inl (7, [0, 0])), some (.inl (7, [0, 0])), some (.inl (7, [0, 0])), some (.inl (7, [0, 0])), none, none, none, none, some (.inl (6, [47, 51, 0, 0, 0, 0, 0])), some (.inl (6, [48, 52, 0, 0, 0, 0, 0])), some (.inl (6, [49, 53, 0, 0, 0, 0, 0])), some (.inl (6, [50, 54, 0, 0, 0, 0, 0])), some (.inr (0, 4)), some (.inr (0, 4)), some (.inr (0, 4)), some (.inr (0, 4)), some (.inl (5, [0, 0, 0, 0, 0])), some (.inl (5, [0, 0, 0, 0, 0])), some (.inl (5, [0, 0, 0, 0, 0])), some (.inl (5, [0, 0, 0, 0, 0])), none, none, none, none, none, none, none, none, some (.inr (0, 40)), some (.inr (0, 4)), some (.inr (0, 64)), some (.inr (0, 64)), some (.inr (0, 10)), some (.inr (0, 32)), some (.inr (0, 4)), none, none, none, none, none, none, none, none, none, none, none, none, none, none, none, none, none, none, none, none, none]
def cueSh : Sh := .inl (2, [0, 0, 2, 2, 1, 0, 0, 0, 0])

/-! The flight of a shell, tick by tick; counts in layers; the ground's sums. -/
def hsq (a b : Int32) : Nat → Int32 × Int32 × Int32 × Int32
  | 0 => (a, 0, 0, 0)
  | n + 1 => hstep b (hsq a b n)
def cntN (a b : Int32) : Nat → Nat → Nat
  | 0, _ => 0
  | n + 1, y => cntN a b n y + if layI (hsq a b n).2.1 = nI y then 1 else 0
def liftN (a b : Int32) : Nat → Nat
  | 0 => 0
  | n + 1 => liftN a b n + if (hsq a b n).2.2.1 = 0 then 1 else 0
/-- N is the tick at which it has landed -/
def FlT (a b : Int32) (N : Nat) : Prop := ¬ (hsq a b N).2.2.2 = 0 ∧ (∀ m, m < N → (hsq a b m).2.2.2 = 0) ∧ N ≤ 3000
def driftTo (M : MS) (t w : Nat) : Nat → Int32
  | 0 => 0
  | k + 1 => driftTo M t w k + gI M t k * gI M w k
theorem layI_nat (x : Int32) : ∃ j : Nat, j < 4 ∧ layI x = nI j := by
  unfold layI imax imin
  generalize x / 250 = y
  by_cases h1 : y < 3
  · rw [if_pos h1]
    by_cases h2 : (0 : Int32) < y
    · rw [if_pos h2]
      have z0 : (0 : Int32).toInt = 0 := rfl
      have z3 : (3 : Int32).toInt = 3 := rfl
      rw [Int32.lt_iff_toInt_lt] at h1 h2
      obtain ⟨j, hj, e⟩ := nI_of2 (x := y) (M := 3) (n := 3) rfl (fun q => by rw [Int32.lt_iff_toInt_lt] at q; omega) (by rw [Int32.le_iff_toInt_le]; omega)
      exact ⟨j, by omega, e⟩
    · rw [if_neg h2]; exact ⟨0, by omega, rfl⟩
  · rw [if_neg h1]; exact ⟨3, by omega, rfl⟩
theorem liftN_le (a b : Int32) : ∀ n, liftN a b n ≤ n
  | 0 => Nat.le_refl _
  | n + 1 => by have := liftN_le a b n; unfold liftN; split <;> omega
theorem cntN_le (a b : Int32) (y : Nat) : ∀ n, cntN a b n y ≤ n
  | 0 => Nat.le_refl _
  | n + 1 => by have := cntN_le a b y n; unfold cntN; split <;> omega
/-- bits of a long -/
def bitL (z : Int64) (k : Nat) : Bool := z.toBitVec.getLsbD k
theorem bitL_0 (k : Nat) : bitL 0 k = false := by simp [bitL]
theorem bitL_or (x y : Int64) (k : Nat) : bitL (x ||| y) k = (bitL x k || bitL y k) := by simp [bitL]
theorem bitL_and (x y : Int64) (k : Nat) : bitL (x &&& y) k = (bitL x k && bitL y k) := by simp [bitL]
theorem bitL_ext {x y : Int64} (h : ∀ k, k < 64 → bitL x k = bitL y k) : x = y := by
  apply Int64.toBitVec_inj.mp
  exact BitVec.eq_of_getLsbD_eq fun i hi => h i hi
theorem bit_tp : ∀ j, j < 64 → ((1 : Int64) <<< ((nI j).toInt64 &&& 63)).toBitVec = BitVec.twoPow 64 j := by decide +kernel
theorem bitL_shl {j : Nat} (hj : j < 64) (k : Nat) (hk : k < 64) : bitL ((1 : Int64) <<< ((nI j).toInt64 &&& 63)) k = decide (k = j) := by
  unfold bitL
  rw [bit_tp j hj, BitVec.getLsbD_twoPow]
  simp [hj, eq_comm]
theorem bit_us : ∀ j, j < 64 → ((nI j).toInt64.toUInt64 &&& Int64.toUInt64 63).toNat = j := by decide +kernel
theorem bitL_ushr {z : Int64} {j : Nat} (hj : j < 64) : ((z.toUInt64 >>> ((nI j).toInt64.toUInt64 &&& Int64.toUInt64 63)).toInt64 &&& 1) = 0 ↔ bitL z j = false := by
  have hs := bit_us j hj
  generalize (nI j).toInt64.toUInt64 &&& Int64.toUInt64 63 = s at hs
  have e : (z.toUInt64 >>> s).toInt64.toBitVec = z.toBitVec >>> j := by
    apply BitVec.eq_of_toNat_eq
    show (z.toUInt64 >>> s).toNat = _
    rw [UInt64.toNat_shiftRight, hs, Nat.mod_eq_of_lt hj, BitVec.toNat_ushiftRight]
    rfl
  unfold bitL
  rw [← Int64.toBitVec_inj, Int64.toBitVec_and, e]
  show z.toBitVec >>> j &&& 1#64 = 0#64 ↔ _
  constructor
  · intro h
    have t := congrArg (fun x => x.getLsbD 0) h
    simpa using t
  · intro h
    apply BitVec.eq_of_getLsbD_eq
    intro i hi
    by_cases hi0 : i = 0
    · subst hi0; simpa using h
    · simp [hi0]
def valTo (M : MS) (z : Int64) : Nat → Int64
  | 0 => 0
  | k + 1 => if bitL z k then valTo M z k + (gI M 3 k).toInt64 else valTo M z k
/-- the zones around -/
def inZ (col line rad : Int) (k : Nat) : Bool := decide (-rad ≤ (k % 8 : Nat) - col ∧ (k % 8 : Nat) - col ≤ rad ∧ -rad ≤ (k / 8 : Nat) - line ∧ (k / 8 : Nat) - line ≤ rad)
set_option maxHeartbeats 4000000 in
set_option maxRecDepth 100000 in
theorem c_X6_drift (l : Launch) (D : va_G) (cA : Nat → ClassId) (sh : Nat → Option Sh) (ad : Nat → Nat) (M : MS) (sz : Nat) (q t h0 : Nat) (hq : sh q = some (.inl (6, [t + 3, h0 + 3, 0, 0, 0, 0, 0]))) (ht : sh t = some (.inr (0, 4))) (w : Nat) (hw : sh w = some (.inr (0, 4))) : Met l yX6_drift wsX6_drift ({ frames := 0, cells := 0, slots := 0, locals := 0 }) (wPc D cA sh ad M sz [.ref (ad q), .ref (ad w)]) (rQi (fun r => r = driftTo M t w 4)) 0 0 nA := by
  refine Met.ofW (cc := cX6_drift) (maxL := 4) (ret := (some .int)) (by decide) rfl ?_
  intro p e s m args below meth cd0 s₁ B hml hv
  obtain ⟨rfl, hsz, hM, hK⟩ := hv
  have hx := B.exec
  have hb := B.bytes
  have hr := B.returns
  have hts := atoms_spec (ws := wsX6_drift) B.pre
  have hown : s.vm.findClass RX6 = some m.cls := findClass_of_methodNamed B.named
  have hlocks := B.notSynchronized
  subst hsz
  obtain ⟨A, eA⟩ : ∃ A : Nat → Prop, A = nA := ⟨_, rfl⟩
  have hW : WS D cA sh ad A s.heap M s.heap [] := ⟨hM, va_S.rf⟩
  subst eA
  have fa9 : FA D s m ([.ref (ad q), .ref (ad w)] : List Value).toArray 9 6 0 := FA.mk (C := RX6) (T := TX6) (N := 7) hts (fun _ h => List.mem_cons_of_mem _ (List.mem_append_right _ (h))) hown hK rfl (by decide) (hts (.fieldLink RX6 9 "MortarShow$Kind" "ticksIn" "[I") (List.mem_of_getElem? (i := 1) rfl))
  have hl := lv_entry ([.ref (ad q), .ref (ad w)]) (n := 4) (Nat.le_of_ble_eq_true rfl)
  rw [lg_entry_eq]
  generalize (lg_sl ([.ref (ad q), .ref (ad w)]) ++ List.replicate (4 - (lg_sl ([.ref (ad q), .ref (ad w)])).length) Slot.unset).toArray = ls at hl ⊢
  have hl : lv_has ls 4 [(0, .ref (ad q)), (1, .ref (ad w))] := hl
  refine lv_iconst (v := 0) hx hb dX6_drift_0 (by decide) ?_
  refine lv_istore_n (lv' := [(2, .int 0), (0, .ref (ad q)), (1, .ref (ad w))]) hx hb dX6_drift_1 rfl hl (by decide) rfl (fun ls hl => ?_)
  refine lv_iconst (v := 0) hx hb dX6_drift_2 (by decide) ?_
  refine lv_istore_n (lv' := [(3, .int 0), (2, .int 0), (0, .ref (ad q)), (1, .ref (ad w))]) hx hb dX6_drift_3 rfl hl (by decide) rfl (fun ls hl => ?_)
  have L4 : ∀ (fu : Nat) (k : Nat) (xk : Int32) (xd : Int32) (H : Heap) (locs : List Loc), 4 - k < fu → (k ≤ 4) → (xk = nI k) → (xd = driftTo M t w k) → WS D cA sh ad nA s.heap M H locs → ∀ ls, lv_has ls 4 [(3, .int xk), (2, .int xd), (0, .ref (ad q)), (1, .ref (ad w))] → W p l e (headSpec wsX6_drift { frames := 0, cells := 0, slots := 0, locals := 0 }).room s m ([.ref (ad q), .ref (ad w)] : List Value).toArray below meth cd0 H locs 0 0 (MQ below (rQi (fun r => r = driftTo M t w 4)) ([.ref (ad q), .ref (ad w)] : List Value).toArray s 0 0 nA) (F0 m 4 ls []) := by
    intro fu
    induction fu with
    | zero =>
      intro k xk xd H locs hn hk ek ed hW ls hl
      exact absurd hn (Nat.not_lt_zero _)
    | succ fu ih4 =>
      intro k xk xd H locs hn hk ek ed hW ls hl
      refine lv_iload_n hx hb dX6_drift_4 rfl (lv_at hl 0 rfl) ?_
      refine lv_iconst (v := 4) hx hb dX6_drift_5 (by decide) ?_
      refine lv_icmp_ge (tgt := 28) hx hb dX6_drift_6 (by decide) (fun c6 => ?_) (fun c6 => ?_)
      · have k6 : 4 ≤ k := kc_ge ek (nlit 4) (by omega) (by omega) c6
        refine lv_iload_n hx hb dX6_drift_28 rfl (lv_at hl 1 rfl) ?_
        exact wr_ri hx hb hr hlocks hW.2 dX6_drift_29 (by rw [ed, show k = 4 by omega])
      · have k6 : ¬ 4 ≤ k := kc_gen ek (nlit 4) (by omega) (by omega) c6
        refine lv_iload_n hx hb dX6_drift_9 rfl (lv_at hl 1 rfl) ?_
        refine lv_aload_n hx hb dX6_drift_10 rfl (lv_at hl 2 rfl) ?_
        refine wgF (t := t) hx hb fa9 hW hq rfl dX6_drift_11 ?_
        refine lv_iload_n hx hb dX6_drift_14 rfl (lv_at hl 0 rfl) ?_
        refine walI (j := k) hx hb hK hW ht ek (by omega) (by decide) dX6_drift_15 (fun x15 e15 => ?_)
        refine lv_aload_n hx hb dX6_drift_16 rfl (lv_at hl 3 rfl) ?_
        refine lv_iload_n hx hb dX6_drift_17 rfl (lv_at hl 0 rfl) ?_
        refine walI (j := k) hx hb hK hW hw ek (by omega) (by decide) dX6_drift_18 (fun x18 e18 => ?_)
        refine lv_imul hx hb dX6_drift_19 ?_
        refine lv_topi (fun x19 e19 => ?_)
        refine lv_iadd hx hb dX6_drift_20 ?_
        refine lv_topi (fun x20 e20 => ?_)
        refine lv_istore_n (lv' := [(2, .int x20), (3, .int xk), (0, .ref (ad q)), (1, .ref (ad w))]) hx hb dX6_drift_21 rfl hl (by decide) rfl (fun ls hl => ?_)
        obtain ⟨x22, e22⟩ : ∃ y : Int32, y = xk + 1 := ⟨_, rfl⟩
        refine lv_iinc (v := x22) (lv' := [(3, .int x22), (2, .int x20), (0, .ref (ad q)), (1, .ref (ad w))]) hx hb dX6_drift_22 hl (k := 1) rfl (by rw [e22]; rfl) (by decide) rfl (fun ls hl => ?_)
        refine lv_goto (tgt := 4) hx hb dX6_drift_25 (by decide) ?_
        exact ih4 (k + 1) x22 x20 _ _ (by omega) (by omega) (by rw [e22, ek, nlit 1, nI_add]) (by rw [e20, e19, e15, e18, ed]; rfl) hW ls (lv_sub hl [0, 1, 2, 3] rfl)
  exact L4 (_ + 1) 0 0 0 _ _ (Nat.lt_succ_self _) (Nat.zero_le _) rfl rfl hW ls (lv_sub hl [0, 1, 2, 3] rfl)
set_option maxHeartbeats 4000000 in
set_option maxRecDepth 100000 in
theorem c_X6_shape (l : Launch) (D : va_G) (cA : Nat → ClassId) (sh : Nat → Option Sh) (ad : Nat → Nat) (M : MS) (sz : Nat) (q t h0 : Nat) (hq : sh q = some (.inl (6, [t + 3, h0 + 3, 0, 0, 0, 0, 0]))) (ht : sh t = some (.inr (0, 4))) (hh : sh h0 = some (.inl (5, [0, 0, 0, 0, 0]))) (a b rd : Int32) (N : Nat) (hN : FlT a b N) : Met l yX6_shape wsX6_shape ({ frames := 2, cells := 0, slots := 0, locals := 41 }) (wPc D cA sh ad M sz [.ref (ad q), .int a, .int b, .int rd]) (wQv D cA sh ad (fun M' => gI M' q 2 = a ∧ gI M' q 3 = b ∧ gI M' q 4 = rd ∧ gI M' q 5 = nI (liftN a b N) ∧ gI M' q 6 = nI N ∧ (∀ y, y < 4 → gI M' t y = nI (cntN a b N y)) ∧ oI (fun p _ => p = q ∨ p = t ∨ p = h0) M M') (wA sh ad sz)) 0 0 (wA sh ad sz) := by
  refine Met.ofW (cc := cX6_shape) (maxL := 5) (ret := none) (by decide) rfl ?_
  intro p e s m args below meth cd0 s₁ B hml hv
  obtain ⟨rfl, hsz, hM, hK⟩ := hv
  have hx := B.exec
  have hb := B.bytes
  have hr := B.returns
  have hts := atoms_spec (ws := wsX6_shape) B.pre
  have hown : s.vm.findClass RX6 = some m.cls := findClass_of_methodNamed B.named
  have hlocks := B.notSynchronized
  subst hsz
  have hA := wA_PA sh ad s.heap
  generalize wA sh ad s.heap.size = A at hA ⊢
  have hW : WS D cA sh ad A s.heap M s.heap [] := ⟨hM, va_S.rf⟩
  have fa9 : FA D s m ([.ref (ad q), .int a, .int b, .int rd] : List Value).toArray 9 6 0 := FA.mk (C := RX6) (T := TX6) (N := 7) hts (fun _ h => List.mem_cons_of_mem _ (List.mem_append_left _ (List.mem_append_right _ (h)))) hown hK rfl (by decide) (hts (.fieldLink RX6 9 "MortarShow$Kind" "ticksIn" "[I") (List.mem_of_getElem? (i := 6) rfl))
  have fa18 : FA D s m ([.ref (ad q), .int a, .int b, .int rd] : List Value).toArray 18 6 1 := FA.mk (C := RX6) (T := TX6) (N := 7) hts (fun _ h => List.mem_cons_of_mem _ (List.mem_append_left _ (List.mem_append_right _ (h)))) hown hK rfl (by decide) (hts (.fieldLink RX6 18 "MortarShow$Kind" "height" "LMortarShow$Height;") (List.mem_of_getElem? (i := 7) rfl))
  have fa26 : FA D s m ([.ref (ad q), .int a, .int b, .int rd] : List Value).toArray 26 6 2 := FA.mk (C := RX6) (T := TX6) (N := 7) hts (fun _ h => List.mem_cons_of_mem _ (List.mem_append_left _ (List.mem_append_right _ (h)))) hown hK rfl (by decide) (hts (.fieldLink RX6 26 "MortarShow$Kind" "speed" "I") (List.mem_of_getElem? (i := 1) rfl))
  have fa30 : FA D s m ([.ref (ad q), .int a, .int b, .int rd] : List Value).toArray 30 6 3 := FA.mk (C := RX6) (T := TX6) (N := 7) hts (fun _ h => List.mem_cons_of_mem _ (List.mem_append_left _ (List.mem_append_right _ (h)))) hown hK rfl (by decide) (hts (.fieldLink RX6 30 "MortarShow$Kind" "fall" "I") (List.mem_of_getElem? (i := 2) rfl))
  have fa36 : FA D s m ([.ref (ad q), .int a, .int b, .int rd] : List Value).toArray 36 6 5 := FA.mk (C := RX6) (T := TX6) (N := 7) hts (fun _ h => List.mem_cons_of_mem _ (List.mem_append_left _ (List.mem_append_right _ (h)))) hown hK rfl (by decide) (hts (.fieldLink RX6 36 "MortarShow$Kind" "lift" "I") (List.mem_of_getElem? (i := 4) rfl))
  have fa39 : FA D s m ([.ref (ad q), .int a, .int b, .int rd] : List Value).toArray 39 6 6 := FA.mk (C := RX6) (T := TX6) (N := 7) hts (fun _ h => List.mem_cons_of_mem _ (List.mem_append_left _ (List.mem_append_right _ (h)))) hown hK rfl (by decide) (hts (.fieldLink RX6 39 "MortarShow$Kind" "ticks" "I") (List.mem_of_getElem? (i := 5) rfl))
  have fa53 : FA D s m ([.ref (ad q), .int a, .int b, .int rd] : List Value).toArray 53 5 4 := FA.mk (C := RX5) (T := TX5) (N := 5) hts (fun _ h => List.mem_cons_of_mem _ (List.mem_append_right _ (h))) hown hK rfl (by decide) (hts (.fieldLink RX6 53 "MortarShow$Height" "landed" "Z") (List.mem_of_getElem? (i := 9) rfl))
  have fa61 : FA D s m ([.ref (ad q), .int a, .int b, .int rd] : List Value).toArray 61 5 3 := FA.mk (C := RX5) (T := TX5) (N := 5) hts (fun _ h => List.mem_cons_of_mem _ (List.mem_append_right _ (h))) hown hK rfl (by decide) (hts (.fieldLink RX6 61 "MortarShow$Height" "burst" "Z") (List.mem_of_getElem? (i := 10) rfl))
  have fw26 : FW D s m ([.ref (ad q), .int a, .int b, .int rd] : List Value).toArray 26 6 2 (.int) := FW.mk (C := RX6) (T := TX6) (N := 7) hts (fun _ h => List.mem_cons_of_mem _ (List.mem_append_left _ (List.mem_append_right _ (h)))) hown hK rfl (by decide) (hts (.fieldLink RX6 26 "MortarShow$Kind" "speed" "I") (List.mem_of_getElem? (i := 1) rfl)) tyX6 tyX6_ok nmX6 rfl rfl
  have fw30 : FW D s m ([.ref (ad q), .int a, .int b, .int rd] : List Value).toArray 30 6 3 (.int) := FW.mk (C := RX6) (T := TX6) (N := 7) hts (fun _ h => List.mem_cons_of_mem _ (List.mem_append_left _ (List.mem_append_right _ (h)))) hown hK rfl (by decide) (hts (.fieldLink RX6 30 "MortarShow$Kind" "fall" "I") (List.mem_of_getElem? (i := 2) rfl)) tyX6 tyX6_ok nmX6 rfl rfl
  have fw33 : FW D s m ([.ref (ad q), .int a, .int b, .int rd] : List Value).toArray 33 6 4 (.int) := FW.mk (C := RX6) (T := TX6) (N := 7) hts (fun _ h => List.mem_cons_of_mem _ (List.mem_append_left _ (List.mem_append_right _ (h)))) hown hK rfl (by decide) (hts (.fieldLink RX6 33 "MortarShow$Kind" "radius" "I") (List.mem_of_getElem? (i := 3) rfl)) tyX6 tyX6_ok nmX6 rfl rfl
  have fw36 : FW D s m ([.ref (ad q), .int a, .int b, .int rd] : List Value).toArray 36 6 5 (.int) := FW.mk (C := RX6) (T := TX6) (N := 7) hts (fun _ h => List.mem_cons_of_mem _ (List.mem_append_left _ (List.mem_append_right _ (h)))) hown hK rfl (by decide) (hts (.fieldLink RX6 36 "MortarShow$Kind" "lift" "I") (List.mem_of_getElem? (i := 4) rfl)) tyX6 tyX6_ok nmX6 rfl rfl
  have fw39 : FW D s m ([.ref (ad q), .int a, .int b, .int rd] : List Value).toArray 39 6 6 (.int) := FW.mk (C := RX6) (T := TX6) (N := 7) hts (fun _ h => List.mem_cons_of_mem _ (List.mem_append_left _ (List.mem_append_right _ (h)))) hown hK rfl (by decide) (hts (.fieldLink RX6 39 "MortarShow$Kind" "ticks" "I") (List.mem_of_getElem? (i := 5) rfl)) tyX6 tyX6_ok nmX6 rfl rfl
  have hl := lv_entry ([.ref (ad q), .int a, .int b, .int rd]) (n := 5) (Nat.le_of_ble_eq_true rfl)
  rw [lg_entry_eq]
  generalize (lg_sl ([.ref (ad q), .int a, .int b, .int rd]) ++ List.replicate (5 - (lg_sl ([.ref (ad q), .int a, .int b, .int rd])).length) Slot.unset).toArray = ls at hl ⊢
  have hl : lv_has ls 5 [(0, .ref (ad q)), (1, .int a), (2, .int b), (3, .int rd)] := hl
  have hqt : q ≠ t := fun e => by rw [e, ht] at hq; cases hq
  have hqh : q ≠ h0 := fun e => by rw [e, hh] at hq; cases hq
  have hth : t ≠ h0 := fun e => by rw [e, hh] at ht; cases ht
  have hN3 : N ≤ 3000 := hN.2.2
  refine lv_aload_n hx hb dX6_shape_0 rfl (lv_at hl 0 rfl) ?_
  refine lv_iload_n hx hb dX6_shape_1 rfl (lv_at hl 1 rfl) ?_
  refine wpI hx hb fw26 hA hW hq rfl dX6_shape_2 (fun M2 H locs eM2 hW => ?_)
  refine lv_aload_n hx hb dX6_shape_5 rfl (lv_at hl 0 rfl) ?_
  refine lv_iload_n hx hb dX6_shape_6 rfl (lv_at hl 2 rfl) ?_
  refine wpI hx hb fw30 hA hW hq rfl dX6_shape_7 (fun M7 H locs eM7 hW => ?_)
  refine lv_aload_n hx hb dX6_shape_10 rfl (lv_at hl 0 rfl) ?_
  refine lv_iload_n hx hb dX6_shape_11 rfl (lv_at hl 3 rfl) ?_
  refine wpI hx hb fw33 hA hW hq rfl dX6_shape_12 (fun M12 H locs eM12 hW => ?_)
  refine lv_aload_n hx hb dX6_shape_15 rfl (lv_at hl 0 rfl) ?_
  refine lv_iconst (v := 0) hx hb dX6_shape_16 (by decide) ?_
  refine wpI hx hb fw36 hA hW hq rfl dX6_shape_17 (fun M17 H locs eM17 hW => ?_)
  refine lv_aload_n hx hb dX6_shape_20 rfl (lv_at hl 0 rfl) ?_
  refine lv_iconst (v := 0) hx hb dX6_shape_21 (by decide) ?_
  refine wpI hx hb fw39 hA hW hq rfl dX6_shape_22 (fun M22 H locs eM22 hW => ?_)
  have o22 : oI (fun p _ => p = q ∨ p = t ∨ p = h0) M M22 := by rw [eM22, eM17, eM12, eM7, eM2]; exact oI.put (oI.put (oI.put (oI.put (oI.put oI.rf (Or.inl rfl)) (Or.inl rfl)) (Or.inl rfl)) (Or.inl rfl)) (Or.inl rfl)
  have v22 : gI M22 q 2 = a ∧ gI M22 q 3 = b ∧ gI M22 q 4 = rd ∧ gI M22 q 5 = nI (liftN a b 0) ∧ gI M22 q 6 = nI 0 := by
    rw [eM22, eM17, eM12, eM7, eM2]
    refine ⟨?_, ?_, ?_, ?_, ?_⟩ <;> simp [gI_sI, liftN] <;> rfl
  refine lv_aload_n hx hb dX6_shape_25 rfl (lv_at hl 0 rfl) ?_
  refine wgF (t := t) hx hb fa9 hW hq rfl dX6_shape_26 ?_
  refine lv_iconst (v := 0) hx hb dX6_shape_29 (by decide) ?_
  refine wc_wv (va_runS (As := [.ref (ad t), .int 0]) (rest := []) ⟨hx, hb, hml, hown, hts⟩ (c_J7_fill_53178 l D cA sh ad M22 _ t 4 (by decide) ht 0) (va_cwS 2 hts gX6_shape_J7_fill_53178 rfl rfl rfl (by decide +kernel) ⟨Nat.le_of_ble_eq_true rfl, Nat.le_of_ble_eq_true rfl⟩) (wpreS hK hW) rfl rfl hl.1 rfl (lv_room (Nat.le_of_ble_eq_true rfl)) dX6_shape_30 ⟨Nat.le_of_ble_eq_true rfl, Nat.le_of_ble_eq_true rfl⟩) hA hW (fun M30 H locs p30 hW => ?_)
  try dsimp only at p30
  have o30 : oI (fun p _ => p = q ∨ p = t ∨ p = h0) M M30 := o22.trans (p30.2.mono (fun p k z => Or.inr (Or.inl z.1)))
  have q30 : ∀ k, gI M30 q k = gI M22 q k := fun k => p30.2.1 q k (fun z => hqt z.1)
  refine lv_aload_n hx hb dX6_shape_33 rfl (lv_at hl 0 rfl) ?_
  refine wgF (t := h0) hx hb fa18 hW hq rfl dX6_shape_34 ?_
  refine lv_aload_n hx hb dX6_shape_37 rfl (lv_at hl 0 rfl) ?_
  refine wgI hx hb fa26 hW hq rfl dX6_shape_38 (fun x38 e38 => ?_)
  refine lv_aload_n hx hb dX6_shape_41 rfl (lv_at hl 0 rfl) ?_
  refine wgI hx hb fa30 hW hq rfl dX6_shape_42 (fun x42 e42 => ?_)
  refine wc_wv (va_runV (As := [.int x38, .int x42]) (rest := []) ⟨hx, hb, hml, hown, hts⟩ (c_X5_start l D cA sh ad M30 _ h0 hh x38 x42) (cwV 2 hts gX6_shape_X5_start rfl rfl rfl (by decide +kernel) ⟨Nat.le_of_ble_eq_true rfl, Nat.le_of_ble_eq_true rfl⟩) (wpreV hK hW (C := RX5) (ci := 5) hh rfl) rfl rfl hl.1 rfl (lv_room (Nat.le_of_ble_eq_true rfl)) dX6_shape_45 ⟨Nat.le_of_ble_eq_true rfl, Nat.le_of_ble_eq_true rfl⟩) hA hW (fun M45 H locs p45 hW => ?_)
  try dsimp only at p45
  have o45 : oI (fun p _ => p = q ∨ p = t ∨ p = h0) M M45 := o30.trans (p45.2.2.mono (fun p k z => Or.inr (Or.inr z)))
  have q45 : ∀ k, gI M45 q k = gI M22 q k := fun k => (p45.2.2.1 q k (fun z => hqh z)).trans (q30 k)
  have t45 : ∀ k, k < 4 → gI M45 t k = nI 0 := fun k hk => (p45.2.2.1 t k (fun z => hth z)).trans (p30.1 k hk)
  refine lv_iconst (v := 0) hx hb dX6_shape_48 (by decide) ?_
  refine lv_istore (lv' := [(4, .int 0), (0, .ref (ad q)), (1, .int a), (2, .int b), (3, .int rd)]) hx hb dX6_shape_49 hl (by decide) rfl (fun ls hl => ?_)
  have L51 : ∀ (fu : Nat) (k : Nat) (xk : Int32) (M1 : MS) (H : Heap) (locs : List Loc), N - k < fu → (k ≤ N) → (xk = nI k) → (hst M1 h0 = hsq a b k) → (gI M1 h0 1 = b) → (∀ y, y < 4 → gI M1 t y = nI (cntN a b k y)) → (gI M1 q 6 = nI k) → (gI M1 q 5 = nI (liftN a b k)) → (gI M1 q 2 = a ∧ gI M1 q 3 = b ∧ gI M1 q 4 = rd) → (oI (fun p _ => p = q ∨ p = t ∨ p = h0) M M1) → WS D cA sh ad A s.heap M1 H locs → ∀ ls, lv_has ls 5 [(4, .int xk), (0, .ref (ad q)), (1, .int a), (2, .int b), (3, .int rd)] → W p l e (headSpec wsX6_shape { frames := 2, cells := 0, slots := 0, locals := 41 }).room s m ([.ref (ad q), .int a, .int b, .int rd] : List Value).toArray below meth cd0 H locs 0 0 (MQ below (wQv D cA sh ad (fun M' => gI M' q 2 = a ∧ gI M' q 3 = b ∧ gI M' q 4 = rd ∧ gI M' q 5 = nI (liftN a b N) ∧ gI M' q 6 = nI N ∧ (∀ y, y < 4 → gI M' t y = nI (cntN a b N y)) ∧ oI (fun p _ => p = q ∨ p = t ∨ p = h0) M M') A) ([.ref (ad q), .int a, .int b, .int rd] : List Value).toArray s 0 0 A) (F0 m 51 ls []) := by
    intro fu
    induction fu with
    | zero =>
      intro k xk M1 H locs hn hk ek g1 g2 g3 g4 g5 g6 g7 hW ls hl
      exact absurd hn (Nat.not_lt_zero _)
    | succ fu ih51 =>
      intro k xk M1 H locs hn hk ek g1 g2 g3 g4 g5 g6 g7 hW ls hl
      refine lv_iload hx hb dX6_shape_51 (lv_at hl 0 rfl) ?_
      refine lv_ldc (v := 1000000) hx hb hown (hts (.constant RX6 52 (1000000)) (List.mem_of_getElem? (i := 8) rfl)) dX6_shape_53 ?_
      refine lv_icmp_ge (tgt := 131) hx hb dX6_shape_55 (by decide) (fun c55 => ?_) (fun c55 => ?_)
      · have k55 : 1000000 ≤ k := kc_ge ek (nlit 1000000) (by omega) (by omega) c55
        exact ((by omega : False)).elim
      · have k55 : ¬ 1000000 ≤ k := kc_gen ek (nlit 1000000) (by omega) (by omega) c55
        refine lv_aload_n hx hb dX6_shape_58 rfl (lv_at hl 1 rfl) ?_
        refine wgF (t := h0) hx hb fa18 hW hq rfl dX6_shape_59 ?_
        refine wgI hx hb fa53 hW hh rfl dX6_shape_62 (fun x62 e62 => ?_)
        refine lv_if_ne (tgt := 131) hx hb dX6_shape_65 (by decide) (fun c65 => ?_) (fun c65 => ?_)
        · have hkN : k = N := by
            rcases Nat.lt_or_ge k N with z | z
            · exfalso; exact c65 (by rw [e62]; have := hN.2.1 k z; rw [← g1] at this; exact this)
            · omega
          exact wr_wv hx hb hr hlocks hW dX6_shape_131 (by subst hkN; exact ⟨g6.1, g6.2.1, g6.2.2, g5, g4, g3, g7⟩)
        · have hkN : k < N := by
            rcases Nat.lt_or_ge k N with z | z
            · exact z
            · exfalso; have hkN2 : k = N := by omega
              subst hkN2; exact hN.1 (by rw [← g1]; exact e62.symm.trans c65)
          refine lv_aload_n hx hb dX6_shape_68 rfl (lv_at hl 1 rfl) ?_
          refine wgF (t := t) hx hb fa9 hW hq rfl dX6_shape_69 ?_
          refine lv_aload_n hx hb dX6_shape_72 rfl (lv_at hl 1 rfl) ?_
          refine wgF (t := h0) hx hb fa18 hW hq rfl dX6_shape_73 ?_
          refine wc_ri (va_runV (As := []) (rest := [.ref (ad t)]) ⟨hx, hb, hml, hown, hts⟩ (c_X5_layer l D cA sh ad M1 _ h0 hh) (cwV 0 hts gX6_shape_X5_layer rfl rfl rfl (by decide +kernel) ⟨Nat.le_of_ble_eq_true rfl, Nat.le_of_ble_eq_true rfl⟩) (wpreV hK hW (C := RX5) (ci := 5) hh rfl) rfl rfl hl.1 rfl (lv_room (Nat.le_of_ble_eq_true rfl)) dX6_shape_76 ⟨Nat.le_of_ble_eq_true rfl, Nat.le_of_ble_eq_true rfl⟩) hW (fun x76 H locs p76 hW => ?_)
          try dsimp only at p76
          obtain ⟨y0, hy0, ey0⟩ := layI_nat (gI M1 h0 2)
          have n76 : x76 = nI y0 := (p76.trans ey0)
          refine lv_dup2_11 hx hb dX6_shape_79 rfl rfl ?_
          refine walI (j := y0) hx hb hK hW ht n76 (by omega) (by decide) dX6_shape_80 (fun x80 e80 => ?_)
          refine lv_iconst (v := 1) hx hb dX6_shape_81 (by decide) ?_
          refine lv_iadd hx hb dX6_shape_82 ?_
          refine lv_topi (fun x82 e82 => ?_)
          refine wasI (j := y0) hx hb hK hA hW ht n76 (by omega) (by decide) dX6_shape_83 (fun M83 H locs eM83 hW => ?_)
          refine lv_aload_n hx hb dX6_shape_84 rfl (lv_at hl 1 rfl) ?_
          refine lv_dup hx hb dX6_shape_85 rfl ?_
          refine wgI hx hb fa39 hW hq rfl dX6_shape_86 (fun x86 e86 => ?_)
          refine lv_iconst (v := 1) hx hb dX6_shape_89 (by decide) ?_
          refine lv_iadd hx hb dX6_shape_90 ?_
          refine lv_topi (fun x90 e90 => ?_)
          refine wpI hx hb fw39 hA hW hq rfl dX6_shape_91 (fun M91 H locs eM91 hW => ?_)
          refine lv_aload_n hx hb dX6_shape_94 rfl (lv_at hl 1 rfl) ?_
          refine lv_dup hx hb dX6_shape_95 rfl ?_
          refine wgI hx hb fa36 hW hq rfl dX6_shape_96 (fun x96 e96 => ?_)
          have J114 : ∀ (y : Int32) (H : Heap) (locs : List Loc), (y = if gI M91 h0 3 = 0 then 1 else 0) → WS D cA sh ad A s.heap M91 H locs → ∀ ls, lv_has ls 5 [(4, .int xk), (0, .ref (ad q)), (1, .int a), (2, .int b), (3, .int rd)] → W p l e (headSpec wsX6_shape { frames := 2, cells := 0, slots := 0, locals := 41 }).room s m ([.ref (ad q), .int a, .int b, .int rd] : List Value).toArray below meth cd0 H locs 0 0 (MQ below (wQv D cA sh ad (fun M' => gI M' q 2 = a ∧ gI M' q 3 = b ∧ gI M' q 4 = rd ∧ gI M' q 5 = nI (liftN a b N) ∧ gI M' q 6 = nI N ∧ (∀ y, y < 4 → gI M' t y = nI (cntN a b N y)) ∧ oI (fun p _ => p = q ∨ p = t ∨ p = h0) M M') A) ([.ref (ad q), .int a, .int b, .int rd] : List Value).toArray s 0 0 A) (F0 m 114 ls [.int y, .int x96, .ref (ad q)]) := by
            intro y H locs hy hW ls hl
            refine lv_iadd hx hb dX6_shape_114 ?_
            refine lv_topi (fun x114 e114 => ?_)
            refine wpI hx hb fw36 hA hW hq rfl dX6_shape_115 (fun M115 H locs eM115 hW => ?_)
            have u115 : ∀ k, gI M115 h0 k = gI M1 h0 k := fun k => by rw [eM115, eM91, eM83]; simp [gI_sI, hqh.symm, hth.symm]
            refine lv_aload_n hx hb dX6_shape_118 rfl (lv_at hl 1 rfl) ?_
            refine wgF (t := h0) hx hb fa18 hW hq rfl dX6_shape_119 ?_
            refine wc_wv (va_runV (As := []) (rest := []) ⟨hx, hb, hml, hown, hts⟩ (c_X5_pass l D cA sh ad M115 _ h0 hh) (cwV 0 hts gX6_shape_X5_pass rfl rfl rfl (by decide +kernel) ⟨Nat.le_of_ble_eq_true rfl, Nat.le_of_ble_eq_true rfl⟩) (wpreV hK hW (C := RX5) (ci := 5) hh rfl) rfl rfl hl.1 rfl (lv_room (Nat.le_of_ble_eq_true rfl)) dX6_shape_122 ⟨Nat.le_of_ble_eq_true rfl, Nat.le_of_ble_eq_true rfl⟩) hA hW (fun M122 H locs p122 hW => ?_)
            try dsimp only at p122
            have o122 : oI (fun p _ => p = q ∨ p = t ∨ p = h0) M M122 := by
              refine oI.trans ?_ (p122.2.2.mono (fun p k z => Or.inr (Or.inr z)))
              rw [eM115, eM91, eM83]; exact ((g7.put (Or.inr (Or.inl rfl))).put (Or.inl rfl)).put (Or.inl rfl)
            have w122 : ∀ k, gI M122 q k = gI M115 q k := fun k => p122.2.2.1 q k (fun z => hqh z)
            have z122 : ∀ k, gI M122 t k = gI M115 t k := fun k => p122.2.2.1 t k (fun z => hth z)
            obtain ⟨x125, e125⟩ : ∃ y : Int32, y = xk + 1 := ⟨_, rfl⟩
            refine lv_iinc (v := x125) (lv' := [(4, .int x125), (0, .ref (ad q)), (1, .int a), (2, .int b), (3, .int rd)]) hx hb dX6_shape_125 hl (k := 0) rfl (by rw [e125]; rfl) (by decide) rfl (fun ls hl => ?_)
            refine lv_goto (tgt := 51) hx hb dX6_shape_128 (by decide) ?_
            exact ih51 (k + 1) x125 M122 _ _ (by omega) (by omega) (by rw [e125, ek, nlit 1, nI_add]) (by rw [p122.1]; show hstep (gI M115 h0 1) (hst M115 h0) = hstep b (hsq a b k); rw [← g1]; unfold hst; rw [u115, u115, u115, u115, u115, g2]) (by rw [p122.2.1, u115]; exact g2) (fun y hy => by
                have hl9 : layI (hsq a b k).2.1 = nI y0 := by rw [← g1]; exact ey0
                rw [z122, eM115, eM91, eM83]
                simp only [gI_sI, hqt.symm, false_and, if_false, true_and, cntN, hl9]
                by_cases hyy : y = y0
                · subst hyy
                  simp only [if_true]
                  rw [e82, e80, g3 _ hy, nlit 1, nI_add]
                · rw [if_neg hyy, if_neg (fun z => hyy ((nI_eq (by omega) (by omega)).mp z).symm), g3 y hy]
                  rfl) (by rw [w122, eM115, eM91, eM83]; simp [gI_sI, hqt, hqt.symm, e90, e86]; rw [eM83]; simp [gI_sI, hqt]; rw [g4, nlit 1, nI_add]) (by
                have h5 : gI M91 q 5 = gI M1 q 5 := by rw [eM91, eM83]; simp [gI_sI, hqt]
                have h3 : gI M91 h0 3 = gI M1 h0 3 := by rw [eM91, eM83]; simp [gI_sI, hqh.symm, hth.symm]
                have hb8 : (hsq a b k).2.2.1 = gI M1 h0 3 := by rw [← g1]; rfl
                rw [w122, eM115, gI_sI, if_pos ⟨rfl, rfl⟩, e114, e96, hy, h5, h3, g5]
                show nI (liftN a b k) + _ = nI (liftN a b k + if (hsq a b k).2.2.1 = 0 then 1 else 0)
                rw [hb8]
                by_cases hb9 : gI M1 h0 3 = 0
                · rw [if_pos hb9, if_pos hb9, nlit 1, nI_add]
                · rw [if_neg hb9, if_neg hb9]
                  exact nI_add _ 0) (by rw [w122, w122, w122, eM115, eM91, eM83]; simp [gI_sI, hqt]; exact g6) o122 hW ls (lv_sub hl [0, 1, 2, 3, 4] rfl)
          refine lv_aload_n hx hb dX6_shape_99 rfl (lv_at hl 1 rfl) ?_
          refine wgF (t := h0) hx hb fa18 hW hq rfl dX6_shape_100 ?_
          refine wgI hx hb fa61 hW hh rfl dX6_shape_103 (fun x103 e103 => ?_)
          refine lv_if_eq (tgt := 113) hx hb dX6_shape_106 (by decide) (fun c106 => ?_) (fun c106 => ?_)
          · refine lv_iconst (v := 1) hx hb dX6_shape_113 (by decide) ?_
            exact J114 1 _ _ (by rw [e103] at c106; first | (rw [if_pos c106]) | (rw [if_neg c106])) hW ls (lv_sub hl [0, 1, 2, 3, 4] rfl)
          · refine lv_iconst (v := 0) hx hb dX6_shape_109 (by decide) ?_
            refine lv_goto (tgt := 114) hx hb dX6_shape_110 (by decide) ?_
            exact J114 0 _ _ (by rw [e103] at c106; first | (rw [if_pos c106]) | (rw [if_neg c106])) hW ls (lv_sub hl [0, 1, 2, 3, 4] rfl)
  exact L51 (_ + 1) 0 0 M45 _ _ (Nat.lt_succ_self _) (Nat.zero_le _) rfl (by rw [p45.1, e38, q30, v22.1]; rfl) (by rw [p45.2.1, e42, q30]; exact v22.2.1) (fun y hy => t45 y hy) (by rw [q45]; exact v22.2.2.2.2) (by rw [q45]; exact v22.2.2.2.1) (by rw [q45, q45, q45]; exact ⟨v22.1, v22.2.1, v22.2.2.1⟩) o45 hW ls (lv_sub hl [0, 1, 2, 3, 4] rfl)

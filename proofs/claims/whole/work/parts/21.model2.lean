/-! The reference: distances, dangers, closing up. -/
def stN (σ : AS) (i : Nat) : Nat → Bool
  | 0 => false
  | k + 1 => stN σ i k || (decide (0 < σ.1 0 k) && zonB σ i k)
theorem stN_iff {σ : AS} {i : Nat} : ∀ n, stN σ i n = true ↔ ∃ k, k < n ∧ 0 < σ.1 0 k ∧ zonB σ i k = true
  | 0 => ⟨fun h => (by cases h), fun ⟨k, hk, _⟩ => absurd hk (Nat.not_lt_zero k)⟩
  | n + 1 => by
    unfold stN
    rw [Bool.or_eq_true, stN_iff n, Bool.and_eq_true, decide_eq_true_eq]
    constructor
    · rintro (⟨k, h1, h2⟩ | h)
      · exact ⟨k, by omega, h2⟩
      · exact ⟨n, by omega, h⟩
    · rintro ⟨k, h1, h2⟩
      rcases Nat.lt_or_ge k n with z | z
      · exact Or.inl ⟨k, z, h2⟩
      · right
        have : k = n := by omega
        subst this; exact h2
theorem stN_64 (σ : AS) (i : Nat) : stN σ i 64 = stkB σ i := by
  rw [Bool.eq_iff_iff, stN_iff, stkB_iff]
def anyN (p : Nat → Bool) : Nat → Bool
  | 0 => false
  | k + 1 => anyN p k || p k
def allN (p : Nat → Bool) : Nat → Bool
  | 0 => true
  | k + 1 => allN p k && p k
theorem anyN_iff {p : Nat → Bool} : ∀ n, anyN p n = true ↔ ∃ k, k < n ∧ p k = true
  | 0 => ⟨fun h => (by cases h), fun ⟨k, hk, _⟩ => absurd hk (Nat.not_lt_zero k)⟩
  | n + 1 => by
    unfold anyN
    rw [Bool.or_eq_true, anyN_iff n]
    constructor
    · rintro (⟨k, h1, h2⟩ | h)
      · exact ⟨k, by omega, h2⟩
      · exact ⟨n, by omega, h⟩
    · rintro ⟨k, h1, h2⟩
      rcases Nat.lt_or_ge k n with z | z
      · exact Or.inl ⟨k, z, h2⟩
      · right
        have : k = n := by omega
        subst this; exact h2
theorem allN_iff {p : Nat → Bool} : ∀ n, allN p n = true ↔ ∀ k, k < n → p k = true
  | 0 => ⟨fun _ k hk => absurd hk (Nat.not_lt_zero k), fun _ => rfl⟩
  | n + 1 => by
    unfold allN
    rw [Bool.and_eq_true, allN_iff n]
    constructor
    · rintro ⟨h1, h2⟩ k hk
      rcases Nat.lt_or_ge k n with z | z
      · exact h1 k z
      · have : k = n := by omega
        subst this; exact h2
    · intro h
      exact ⟨fun k hk => h k (by omega), h n (by omega)⟩
theorem ctN_pos {p : Nat → Bool} : ∀ n, 0 < ctN p n ↔ ∃ k, k < n ∧ p k = true
  | 0 => ⟨fun h => absurd h (Nat.lt_irrefl 0), fun ⟨k, hk, _⟩ => absurd hk (Nat.not_lt_zero k)⟩
  | n + 1 => by
    rw [ctN_s]
    have ih := ctN_pos (p := p) n
    constructor
    · intro h
      by_cases hp : p n = true
      · exact ⟨n, by omega, hp⟩
      · rw [if_neg hp] at h
        obtain ⟨k, h1, h2⟩ := ih.mp (by omega)
        exact ⟨k, by omega, h2⟩
    · rintro ⟨k, h1, h2⟩
      rcases Nat.lt_or_ge k n with z | z
      · have := ih.mpr ⟨k, z, h2⟩; omega
      · have : k = n := by omega
        subst this
        rw [if_pos h2]; omega
theorem ctN_sub {p q : Nat → Bool} (h : ∀ k, q k = true → p k = true) : ∀ n, ctN q n ≤ ctN p n ∧ (ctN q n = ctN p n ↔ ∀ k, k < n → p k = true → q k = true)
  | 0 => ⟨Nat.le_refl _, fun _ k hk => absurd hk (Nat.not_lt_zero k), fun _ => rfl⟩
  | n + 1 => by
    obtain ⟨i1, i2⟩ := ctN_sub h n
    rw [ctN_s, ctN_s]
    by_cases hq : q n = true
    · rw [if_pos hq, if_pos (h n hq)]
      refine ⟨by omega, ?_, fun z => ?_⟩
      · intro z k hk hp
        rcases Nat.lt_or_ge k n with y | y
        · exact i2.mp (by omega) k y hp
        · have : k = n := by omega
          subst this; exact hq
      · rw [i2.mpr (fun k hk => z k (by omega))]
    · rw [if_neg hq]
      by_cases hp : p n = true
      · rw [if_pos hp]
        exact ⟨by omega, fun z => by omega, fun z => absurd (z n (by omega) hp) hq⟩
      · rw [if_neg hp]
        refine ⟨by omega, ?_, fun z => ?_⟩
        · intro z k hk hpk
          rcases Nat.lt_or_ge k n with y | y
          · exact i2.mp (by omega) k y hpk
          · have : k = n := by omega
            subst this; exact absurd hpk hp
        · rw [i2.mpr (fun k hk => z k (by omega))]
def hereB (σ : AS) (b i : Nat) : Bool := decide (σ.2 10 i = 0) && decide (σ.2 7 i = b)
theorem here_pb {σ : AS} {b i : Nat} (h : i < aN σ) : hereB σ b i = pb σ b i := by
  unfold hereB pb
  simp [h]
theorem clB_eq {σ : AS} (hn : aN σ ≤ 40) (b : Nat) : clB σ b = (anyN (hereB σ b) (aN σ) && allN (fun i => !hereB σ b i || stkB σ i) (aN σ)) := by
  rw [Bool.eq_iff_iff, Bool.and_eq_true, anyN_iff, allN_iff]
  unfold clB
  rw [decide_eq_true_eq, ctN_pos, (ctN_sub (p := pb σ b) (q := pbs σ b) (fun k hk => by unfold pbs at hk; rw [Bool.and_eq_true] at hk; exact hk.1) 40).2]
  have hlt : ∀ k, pb σ b k = true → k < aN σ := fun k hk => (of_decide_eq_true hk).1
  constructor
  · rintro ⟨⟨k, h1, h2⟩, h3⟩
    refine ⟨⟨k, hlt k h2, by rw [here_pb (hlt k h2)]; exact h2⟩, fun j hj => ?_⟩
    rw [here_pb hj]
    cases hp : pb σ b j with
    | false => rfl
    | true =>
      have := h3 j (by omega) hp
      unfold pbs at this
      rw [Bool.and_eq_true] at this
      rw [this.2]; rfl
  · rintro ⟨⟨k, h1, h2⟩, h3⟩
    refine ⟨⟨k, by omega, by rw [← here_pb h1]; exact h2⟩, fun j hj hp => ?_⟩
    have := h3 j (hlt j hp)
    rw [here_pb (hlt j hp), hp] at this
    unfold pbs
    rw [hp]
    simpa using this
theorem i32neg {x : Int32} (h : -2147483648 < x.toInt) : (-x).toInt = -x.toInt := by
  have := i32r x
  rw [Int32.toInt_neg, i32bm] <;> omega
theorem in_sym {x r : Int32} {d : Nat} (hd : d ≤ 100) (er : r = nI d) : inB x (-r) r = decide (-(d : Int) ≤ x.toInt ∧ x.toInt ≤ d) := by
  have h1 : r.toInt = (d : Int) := by rw [er]; exact nI_toInt (by omega)
  have h2 : (-r).toInt = -(d : Int) := by rw [i32neg (by omega), h1]
  unfold inB outB
  rw [← decide_not]
  apply decide_eq_decide.mpr
  rw [i32lt, i32lt, h1, h2]
  omega
theorem zon_in {σ : AS} {i k : Nat} : zonB σ i k = (decide (-((σ.2 2 (σ.2 8 i) : Nat) : Int) ≤ colZ σ i - (k % 8 : Nat) ∧ colZ σ i - (k % 8 : Nat) ≤ (σ.2 2 (σ.2 8 i) : Nat)) && decide (-((σ.2 2 (σ.2 8 i) : Nat) : Int) ≤ linZ σ i - (k / 8 : Nat) ∧ linZ σ i - (k / 8 : Nat) ≤ (σ.2 2 (σ.2 8 i) : Nat))) := by
  unfold zonB inZ
  rw [← Bool.decide_and]
  apply decide_eq_decide.mpr
  omega
theorem ctN_top {σ : AS} (h : aN σ ≤ 40) : ctN (pres σ) (aN σ) = ctN (pres σ) 40 := by
  have key : ∀ d, ctN (pres σ) (aN σ + d) = ctN (pres σ) (aN σ) := fun d => by
    induction d with
    | zero => rfl
    | succ d ih =>
      show ctN (pres σ) (aN σ + d + 1) = _
      rw [ctN_s, ih, pres_f (fun z => by omega)]; rfl
  have := key (40 - aN σ)
  rw [show aN σ + (40 - aN σ) = 40 by omega] at this
  exact this.symm
set_option maxHeartbeats 4000000 in
set_option maxRecDepth 100000 in
theorem c_X10_distance (l : Launch) (D : va_G) (cA : Nat → ClassId) (sh : Nat → Option Sh) (ad : Nat → Nat) (M : MS) (sz : Nat) (σ : AS) (ok : AOK σ) (hMs : MSh sh) (hR : MR σ M) (i : Nat) (hi : i < aN σ) (xi : Int32) (ei : xi = nI i) (xd xa : Int32) (dn al : Bool) (ed : xd = bI dn) (ea : xa = bI al) : Met l yX10_distance wsX10_distance ({ frames := 0, cells := 0, slots := 0, locals := 0 }) (wPc D cA sh ad M sz [.ref (ad 60), .int xi, .int xd, .int xa]) (rQi (fun r => r = dsA σ i dn al 4)) 0 0 nA := by
  refine Met.ofW (cc := cX10_distance) (maxL := 8) (ret := (some .int)) (by decide) rfl ?_
  intro p e s m args below meth cd0 s₁ B hml hv
  obtain ⟨rfl, hsz, hM, hK⟩ := hv
  have hx := B.exec
  have hb := B.bytes
  have hr := B.returns
  have hts := atoms_spec (ws := wsX10_distance) B.pre
  have hown : s.vm.findClass RX10 = some m.cls := findClass_of_methodNamed B.named
  have hlocks := B.notSynchronized
  subst hsz
  obtain ⟨A, eA⟩ : ∃ A : Nat → Prop, A = nA := ⟨_, rfl⟩
  have hW : WS D cA sh ad A s.heap M s.heap [] := ⟨hM, va_S.rf⟩
  subst eA
  have fa7 : FA D s m ([.ref (ad 60), .int xi, .int xd, .int xa] : List Value).toArray 7 10 0 := FA.mk (C := RX10) (T := TX10) (N := 29) hts (fun _ h => List.mem_cons_of_mem _ (List.mem_append_right _ (h))) hown hK rfl (by decide) (hts (.fieldLink RX10 7 "MortarShowModel" "rack" "[I") (List.mem_of_getElem? (i := 1) rfl))
  have fa31 : FA D s m ([.ref (ad 60), .int xi, .int xd, .int xa] : List Value).toArray 31 10 7 := FA.mk (C := RX10) (T := TX10) (N := 29) hts (fun _ h => List.mem_cons_of_mem _ (List.mem_append_right _ (h))) hown hK rfl (by decide) (hts (.fieldLink RX10 31 "MortarShowModel" "ticks" "[I") (List.mem_of_getElem? (i := 4) rfl))
  have fa34 : FA D s m ([.ref (ad 60), .int xi, .int xd, .int xa] : List Value).toArray 34 10 8 := FA.mk (C := RX10) (T := TX10) (N := 29) hts (fun _ h => List.mem_cons_of_mem _ (List.mem_append_right _ (h))) hown hK rfl (by decide) (hts (.fieldLink RX10 34 "MortarShowModel" "rise" "[I") (List.mem_of_getElem? (i := 5) rfl))
  have fa37 : FA D s m ([.ref (ad 60), .int xi, .int xd, .int xa] : List Value).toArray 37 10 9 := FA.mk (C := RX10) (T := TX10) (N := 29) hts (fun _ h => List.mem_cons_of_mem _ (List.mem_append_right _ (h))) hown hK rfl (by decide) (hts (.fieldLink RX10 37 "MortarShowModel" "windX" "[I") (List.mem_of_getElem? (i := 7) rfl))
  have fa40 : FA D s m ([.ref (ad 60), .int xi, .int xd, .int xa] : List Value).toArray 40 10 10 := FA.mk (C := RX10) (T := TX10) (N := 29) hts (fun _ h => List.mem_cons_of_mem _ (List.mem_append_right _ (h))) hown hK rfl (by decide) (hts (.fieldLink RX10 40 "MortarShowModel" "windY" "[I") (List.mem_of_getElem? (i := 6) rfl))
  have fa66 : FA D s m ([.ref (ad 60), .int xi, .int xd, .int xa] : List Value).toArray 66 10 19 := FA.mk (C := RX10) (T := TX10) (N := 29) hts (fun _ h => List.mem_cons_of_mem _ (List.mem_append_right _ (h))) hown hK rfl (by decide) (hts (.fieldLink RX10 66 "MortarShowModel" "kind" "[I") (List.mem_of_getElem? (i := 3) rfl))
  have fa69 : FA D s m ([.ref (ad 60), .int xi, .int xd, .int xa] : List Value).toArray 69 10 20 := FA.mk (C := RX10) (T := TX10) (N := 29) hts (fun _ h => List.mem_cons_of_mem _ (List.mem_append_right _ (h))) hown hK rfl (by decide) (hts (.fieldLink RX10 69 "MortarShowModel" "from" "[I") (List.mem_of_getElem? (i := 2) rfl))
  have hl := lv_entry ([.ref (ad 60), .int xi, .int xd, .int xa]) (n := 8) (Nat.le_of_ble_eq_true rfl)
  rw [lg_entry_eq]
  generalize (lg_sl ([.ref (ad 60), .int xi, .int xd, .int xa]) ++ List.replicate (8 - (lg_sl ([.ref (ad 60), .int xi, .int xd, .int xa])).length) Slot.unset).toArray = ls at hl ⊢
  have hl : lv_has ls 8 [(0, .ref (ad 60)), (1, .int xi), (2, .int xd), (3, .int xa)] := hl
  have o1 := ok.1
  obtain ⟨cb, ck, cf⟩ := hR.2.2.2.2.2.2.2.2.2.2.2 i hi
  obtain ⟨ob, hkd, hrk, og⟩ := ok.2.2.2.2.2.2.1 i hi
  obtain ⟨co, eco⟩ : ∃ z, z = σ.2 0 (σ.2 9 i) := ⟨_, rfl⟩
  obtain ⟨li, eli⟩ : ∃ z, z = σ.2 1 (σ.2 9 i) := ⟨_, rfl⟩
  have hr2 := ok.2.1 _ hrk
  rw [← eco, ← eli] at hr2
  refine lv_aload_n hx hb dX10_distance_0 rfl (lv_at hl 0 rfl) ?_
  refine wgF (t := 61) hx hb fa7 hW (hMs 60 (by decide) (by decide)) rfl dX10_distance_1 ?_
  refine lv_aload_n hx hb dX10_distance_4 rfl (lv_at hl 0 rfl) ?_
  refine wgF (t := 78) hx hb fa69 hW (hMs 60 (by decide) (by decide)) rfl dX10_distance_5 ?_
  refine lv_iload_n hx hb dX10_distance_8 rfl (lv_at hl 1 rfl) ?_
  refine walI (j := i) hx hb hK hW (hMs 78 (by decide) (by decide)) ei (by omega) (by decide) dX10_distance_9 (fun x9 e9 => ?_)
  have n9 : x9 = nI (σ.2 9 i) := (e9.trans cf)
  refine walI (j := (σ.2 9 i)) hx hb hK hW (hMs 61 (by decide) (by decide)) n9 (by omega) (by decide) dX10_distance_10 (fun x10 e10 => ?_)
  have n10 : x10 = nI (8 * li + co) := (by rw [e10, eco, eli]; exact hR.2.2.1 _ hrk)
  refine lv_istore (lv' := [(4, .int x10), (0, .ref (ad 60)), (1, .int xi), (2, .int xd), (3, .int xa)]) hx hb dX10_distance_11 hl (by decide) rfl (fun ls hl => ?_)
  refine lv_bipush (v := 100) hx hb dX10_distance_13 (by decide) ?_
  have J32 : ∀ (y : Int32) (H : Heap) (locs : List Loc), (y = nI (σ.2 (if dn = true then 1 else 0) (σ.2 9 i))) → WS D cA sh ad nA s.heap M H locs → ∀ ls, lv_has ls 8 [(4, .int x10), (0, .ref (ad 60)), (1, .int xi), (2, .int xd), (3, .int xa)] → W p l e (headSpec wsX10_distance { frames := 0, cells := 0, slots := 0, locals := 0 }).room s m ([.ref (ad 60), .int xi, .int xd, .int xa] : List Value).toArray below meth cd0 H locs 0 0 (MQ below (rQi (fun r => r = dsA σ i dn al 4)) ([.ref (ad 60), .int xi, .int xd, .int xa] : List Value).toArray s 0 0 nA) (F0 m 32 ls [.int y, .int 100]) := by
    intro y H locs hy hW ls hl
    refine lv_imul hx hb dX10_distance_32 ?_
    refine lv_topi (fun x32 e32 => ?_)
    refine lv_bipush (v := 50) hx hb dX10_distance_33 (by decide) ?_
    refine lv_iadd hx hb dX10_distance_35 ?_
    refine lv_topi (fun x35 e35 => ?_)
    refine lv_istore (lv' := [(5, .int x35), (4, .int x10), (0, .ref (ad 60)), (1, .int xi), (2, .int xd), (3, .int xa)]) hx hb dX10_distance_36 hl (by decide) rfl (fun ls hl => ?_)
    refine lv_iconst (v := 0) hx hb dX10_distance_38 (by decide) ?_
    refine lv_istore (lv' := [(6, .int 0), (5, .int x35), (4, .int x10), (0, .ref (ad 60)), (1, .int xi), (2, .int xd), (3, .int xa)]) hx hb dX10_distance_39 hl (by decide) rfl (fun ls hl => ?_)
    have L41 : ∀ (fu : Nat) (k : Nat) (xk : Int32) (xs : Int32) (H : Heap) (locs : List Loc), 4 - k < fu → (k ≤ 4) → (xk = nI k) → (xs = dsA σ i dn al k) → WS D cA sh ad nA s.heap M H locs → ∀ ls, lv_has ls 8 [(6, .int xk), (5, .int xs), (4, .int x10), (0, .ref (ad 60)), (1, .int xi), (2, .int xd), (3, .int xa)] → W p l e (headSpec wsX10_distance { frames := 0, cells := 0, slots := 0, locals := 0 }).room s m ([.ref (ad 60), .int xi, .int xd, .int xa] : List Value).toArray below meth cd0 H locs 0 0 (MQ below (rQi (fun r => r = dsA σ i dn al 4)) ([.ref (ad 60), .int xi, .int xd, .int xa] : List Value).toArray s 0 0 nA) (F0 m 41 ls []) := by
      intro fu
      induction fu with
      | zero =>
        intro k xk xs H locs hn hk ek es hW ls hl
        exact absurd hn (Nat.not_lt_zero _)
      | succ fu ih41 =>
        intro k xk xs H locs hn hk ek es hW ls hl
        refine lv_iload hx hb dX10_distance_41 (lv_at hl 0 rfl) ?_
        refine lv_iconst (v := 4) hx hb dX10_distance_43 (by decide) ?_
        refine lv_icmp_ge (tgt := 114) hx hb dX10_distance_44 (by decide) (fun c44 => ?_) (fun c44 => ?_)
        · have k44 : 4 ≤ k := kc_ge ek (nlit 4) (by omega) (by omega) c44
          refine lv_iload hx hb dX10_distance_114 (lv_at hl 1 rfl) ?_
          exact wr_ri hx hb hr hlocks hW.2 dX10_distance_116 (by rw [es, show k = 4 by omega])
        · have k44 : ¬ 4 ≤ k := kc_gen ek (nlit 4) (by omega) (by omega) c44
          refine lv_iconst (v := 4) hx hb dX10_distance_47 (by decide) ?_
          refine lv_aload_n hx hb dX10_distance_48 rfl (lv_at hl 3 rfl) ?_
          refine wgF (t := 77) hx hb fa66 hW (hMs 60 (by decide) (by decide)) rfl dX10_distance_49 ?_
          refine lv_iload_n hx hb dX10_distance_52 rfl (lv_at hl 4 rfl) ?_
          refine walI (j := i) hx hb hK hW (hMs 77 (by decide) (by decide)) ei (by omega) (by decide) dX10_distance_53 (fun x53 e53 => ?_)
          have n53 : x53 = nI (σ.2 8 i) := (e53.trans ck)
          refine lv_imul hx hb dX10_distance_54 ?_
          refine lv_topi (fun x54 e54 => ?_)
          have n54 : x54 = nI (4 * (σ.2 8 i)) := (by rw [e54, (nlit 4), n53, pk_mul])
          refine lv_iload hx hb dX10_distance_55 (lv_at hl 0 rfl) ?_
          refine lv_iadd hx hb dX10_distance_57 ?_
          refine lv_topi (fun x57 e57 => ?_)
          have n57 : x57 = nI ((4 * (σ.2 8 i)) + k) := (by rw [e57, n54, ek, nI_add])
          refine lv_istore (lv' := [(7, .int x57), (6, .int xk), (5, .int xs), (4, .int x10), (0, .ref (ad 60)), (1, .int xi), (2, .int xd), (3, .int xa)]) hx hb dX10_distance_58 hl (by decide) rfl (fun ls hl => ?_)
          refine lv_iload hx hb dX10_distance_60 (lv_at hl 2 rfl) ?_
          have J83 : ∀ (y1 : Int32) (H : Heap) (locs : List Loc), (y1 = nI (cntN (σ.1 2 (σ.2 8 i)) (σ.1 3 (σ.2 8 i)) (fltN σ i al) k)) → WS D cA sh ad nA s.heap M H locs → ∀ ls, lv_has ls 8 [(7, .int x57), (6, .int xk), (5, .int xs), (4, .int x10), (0, .ref (ad 60)), (1, .int xi), (2, .int xd), (3, .int xa)] → W p l e (headSpec wsX10_distance { frames := 0, cells := 0, slots := 0, locals := 0 }).room s m ([.ref (ad 60), .int xi, .int xd, .int xa] : List Value).toArray below meth cd0 H locs 0 0 (MQ below (rQi (fun r => r = dsA σ i dn al 4)) ([.ref (ad 60), .int xi, .int xd, .int xa] : List Value).toArray s 0 0 nA) (F0 m 83 ls [.int y1, .int xs]) := by
            intro y1 H locs hy1 hW ls hl
            have J104 : ∀ (y2 : Int32) (H : Heap) (locs : List Loc), (y2 = σ.1 (if dn = true then 5 else 4) k) → WS D cA sh ad nA s.heap M H locs → ∀ ls, lv_has ls 8 [(7, .int x57), (6, .int xk), (5, .int xs), (4, .int x10), (0, .ref (ad 60)), (1, .int xi), (2, .int xd), (3, .int xa)] → W p l e (headSpec wsX10_distance { frames := 0, cells := 0, slots := 0, locals := 0 }).room s m ([.ref (ad 60), .int xi, .int xd, .int xa] : List Value).toArray below meth cd0 H locs 0 0 (MQ below (rQi (fun r => r = dsA σ i dn al 4)) ([.ref (ad 60), .int xi, .int xd, .int xa] : List Value).toArray s 0 0 nA) (F0 m 104 ls [.int y2, .int y1, .int xs]) := by
              intro y2 H locs hy2 hW ls hl
              refine lv_imul hx hb dX10_distance_104 ?_
              refine lv_topi (fun x104 e104 => ?_)
              refine lv_iadd hx hb dX10_distance_105 ?_
              refine lv_topi (fun x105 e105 => ?_)
              refine lv_istore (lv' := [(5, .int x105), (7, .int x57), (6, .int xk), (4, .int x10), (0, .ref (ad 60)), (1, .int xi), (2, .int xd), (3, .int xa)]) hx hb dX10_distance_106 hl (by decide) rfl (fun ls hl => ?_)
              obtain ⟨x108, e108⟩ : ∃ y : Int32, y = xk + 1 := ⟨_, rfl⟩
              refine lv_iinc (v := x108) (lv' := [(6, .int x108), (5, .int x105), (7, .int x57), (4, .int x10), (0, .ref (ad 60)), (1, .int xi), (2, .int xd), (3, .int xa)]) hx hb dX10_distance_108 hl (k := 2) rfl (by rw [e108]; rfl) (by decide) rfl (fun ls hl => ?_)
              refine lv_goto (tgt := 41) hx hb dX10_distance_111 (by decide) ?_
              exact ih41 (k + 1) x108 x105 _ _ (by omega) (by omega) (by rw [e108, ek, nlit 1, nI_add]) (by rw [e105, e104, es, hy1, hy2]; unfold dsA; rw [Int32.add_assoc]; rfl) hW ls (lv_sub hl [0, 1, 3, 4, 5, 6, 7] rfl)
            refine lv_iload_n hx hb dX10_distance_83 rfl (lv_at hl 6 rfl) ?_
            refine lv_if_eq (tgt := 97) hx hb dX10_distance_84 (by decide) (fun c84 => ?_) (fun c84 => ?_)
            · have hd9 : dn = false := bI_z.mp (ed.symm.trans c84)
              refine lv_aload_n hx hb dX10_distance_97 rfl (lv_at hl 4 rfl) ?_
              refine wgF (t := 70) hx hb fa37 hW (hMs 60 (by decide) (by decide)) rfl dX10_distance_98 ?_
              refine lv_iload hx hb dX10_distance_101 (lv_at hl 1 rfl) ?_
              refine walI (j := k) hx hb hK hW (hMs 70 (by decide) (by decide)) ek (by omega) (by decide) dX10_distance_103 (fun x103 e103 => ?_)
              exact J104 x103 _ _ (by rw [hd9]; first | exact e93.trans (hR.2.2.2.2.1 k (by omega)).2 | exact e103.trans (hR.2.2.2.2.1 k (by omega)).1) hW ls (lv_sub hl [0, 1, 2, 3, 4, 5, 6, 7] rfl)
            · have hd9 : dn = true := bI_t.mp (fun z => c84 (ed.trans z))
              refine lv_aload_n hx hb dX10_distance_87 rfl (lv_at hl 4 rfl) ?_
              refine wgF (t := 71) hx hb fa40 hW (hMs 60 (by decide) (by decide)) rfl dX10_distance_88 ?_
              refine lv_iload hx hb dX10_distance_91 (lv_at hl 1 rfl) ?_
              refine walI (j := k) hx hb hK hW (hMs 71 (by decide) (by decide)) ek (by omega) (by decide) dX10_distance_93 (fun x93 e93 => ?_)
              refine lv_goto (tgt := 104) hx hb dX10_distance_94 (by decide) ?_
              exact J104 x93 _ _ (by rw [hd9]; first | exact e93.trans (hR.2.2.2.2.1 k (by omega)).2 | exact e103.trans (hR.2.2.2.2.1 k (by omega)).1) hW ls (lv_sub hl [0, 1, 2, 3, 4, 5, 6, 7] rfl)
          refine lv_iload_n hx hb dX10_distance_62 rfl (lv_at hl 7 rfl) ?_
          refine lv_if_eq (tgt := 76) hx hb dX10_distance_63 (by decide) (fun c63 => ?_) (fun c63 => ?_)
          · have ha9 : al = false := bI_z.mp (ea.symm.trans c63)
            refine lv_aload_n hx hb dX10_distance_76 rfl (lv_at hl 4 rfl) ?_
            refine wgF (t := 69) hx hb fa34 hW (hMs 60 (by decide) (by decide)) rfl dX10_distance_77 ?_
            refine lv_iload hx hb dX10_distance_80 (lv_at hl 0 rfl) ?_
            refine walI (j := ((4 * (σ.2 8 i)) + k)) hx hb hK hW (hMs 69 (by decide) (by decide)) n57 (by omega) (by decide) dX10_distance_82 (fun x82 e82 => ?_)
            exact J83 x82 _ _ (by unfold fltN; rw [ha9]; first | exact e72.trans ((hR.2.2.2.1 _ hkd).2.2.2.2.2.2 k (by omega)).1 | exact e82.trans ((hR.2.2.2.1 _ hkd).2.2.2.2.2.2 k (by omega)).2) hW ls (lv_sub hl [0, 1, 2, 3, 4, 5, 6, 7] rfl)
          · have ha9 : al = true := bI_t.mp (fun z => c63 (ea.trans z))
            refine lv_aload_n hx hb dX10_distance_66 rfl (lv_at hl 4 rfl) ?_
            refine wgF (t := 68) hx hb fa31 hW (hMs 60 (by decide) (by decide)) rfl dX10_distance_67 ?_
            refine lv_iload hx hb dX10_distance_70 (lv_at hl 0 rfl) ?_
            refine walI (j := ((4 * (σ.2 8 i)) + k)) hx hb hK hW (hMs 68 (by decide) (by decide)) n57 (by omega) (by decide) dX10_distance_72 (fun x72 e72 => ?_)
            refine lv_goto (tgt := 83) hx hb dX10_distance_73 (by decide) ?_
            exact J83 x72 _ _ (by unfold fltN; rw [ha9]; first | exact e72.trans ((hR.2.2.2.1 _ hkd).2.2.2.2.2.2 k (by omega)).1 | exact e82.trans ((hR.2.2.2.1 _ hkd).2.2.2.2.2.2 k (by omega)).2) hW ls (lv_sub hl [0, 1, 2, 3, 4, 5, 6, 7] rfl)
    exact L41 (_ + 1) 0 0 x35 _ _ (Nat.lt_succ_self _) (Nat.zero_le _) rfl (by unfold dsA; show _ = _ + 0; rw [Int32.add_zero, e35, e32, hy]) hW ls (lv_sub hl [0, 1, 2, 3, 4, 5, 6] rfl)
  refine lv_iload_n hx hb dX10_distance_15 rfl (lv_at hl 3 rfl) ?_
  refine lv_if_eq (tgt := 27) hx hb dX10_distance_16 (by decide) (fun c16 => ?_) (fun c16 => ?_)
  · have hd9 : dn = false := bI_z.mp (ed.symm.trans c16)
    refine lv_iload hx hb dX10_distance_27 (lv_at hl 0 rfl) ?_
    refine lv_bipush (v := 8) hx hb dX10_distance_29 (by decide) ?_
    refine lv_irem hx hb dX10_distance_31 (by decide) ?_
    refine lv_topi (fun x31 e31 => ?_)
    have n31 : x31 = nI ((8 * li + co) % 8) := (by rw [e31, n10, (nlit 8)]; exact pk_rem (by omega) (by omega) (by omega))
    exact J32 x31 _ _ (by rw [hd9]; first | (rw [n23, show (8 * li + co) / 8 = li by omega, eli]; rfl) | (rw [n31, show (8 * li + co) % 8 = co by omega, eco]; rfl)) hW ls (lv_sub hl [0, 1, 2, 3, 4] rfl)
  · have hd9 : dn = true := bI_t.mp (fun z => c16 (ed.trans z))
    refine lv_iload hx hb dX10_distance_19 (lv_at hl 0 rfl) ?_
    refine lv_bipush (v := 8) hx hb dX10_distance_21 (by decide) ?_
    refine lv_idiv hx hb dX10_distance_23 (by decide) ?_
    refine lv_topi (fun x23 e23 => ?_)
    have n23 : x23 = nI ((8 * li + co) / 8) := (by rw [e23, n10, (nlit 8)]; exact pk_div (by omega) (by omega) (by omega))
    refine lv_goto (tgt := 32) hx hb dX10_distance_24 (by decide) ?_
    exact J32 x23 _ _ (by rw [hd9]; first | (rw [n23, show (8 * li + co) / 8 = li by omega, eli]; rfl) | (rw [n31, show (8 * li + co) % 8 = co by omega, eco]; rfl)) hW ls (lv_sub hl [0, 1, 2, 3, 4] rfl)
set_option maxHeartbeats 4000000 in
set_option maxRecDepth 100000 in
theorem c_X10_isInDanger (l : Launch) (D : va_G) (cA : Nat → ClassId) (sh : Nat → Option Sh) (ad : Nat → Nat) (M : MS) (sz : Nat) (σ : AS) (ok : AOK σ) (hMs : MSh sh) (hR : MR σ M) (i : Nat) (hi : i < aN σ) (xi : Int32) (ei : xi = nI i) (k : Nat) (hk : k < 64) (xk : Int32) (ek : xk = nI k) : Met l yX10_isInDanger wsX10_isInDanger ({ frames := 1, cells := 0, slots := 0, locals := 27 }) (wPc D cA sh ad M sz [.ref (ad 60), .int xi, .int xk]) (rQi (fun r => r = bI (zonB σ i k))) 0 0 nA := by
  refine Met.ofW (cc := cX10_isInDanger) (maxL := 6) (ret := (some .boolean)) (by decide) rfl ?_
  intro p e s m args below meth cd0 s₁ B hml hv
  obtain ⟨rfl, hsz, hM, hK⟩ := hv
  have hx := B.exec
  have hb := B.bytes
  have hr := B.returns
  have hts := atoms_spec (ws := wsX10_isInDanger) B.pre
  have hown : s.vm.findClass RX10 = some m.cls := findClass_of_methodNamed B.named
  have hlocks := B.notSynchronized
  subst hsz
  obtain ⟨A, eA⟩ : ∃ A : Nat → Prop, A = nA := ⟨_, rfl⟩
  have hW : WS D cA sh ad A s.heap M s.heap [] := ⟨hM, va_S.rf⟩
  subst eA
  have fa19 : FA D s m ([.ref (ad 60), .int xi, .int xk] : List Value).toArray 19 10 3 := FA.mk (C := RX10) (T := TX10) (N := 29) hts (fun _ h => List.mem_cons_of_mem _ (List.mem_append_right _ (h))) hown hK rfl (by decide) (hts (.fieldLink RX10 19 "MortarShowModel" "radius" "[I") (List.mem_of_getElem? (i := 1) rfl))
  have fa66 : FA D s m ([.ref (ad 60), .int xi, .int xk] : List Value).toArray 66 10 19 := FA.mk (C := RX10) (T := TX10) (N := 29) hts (fun _ h => List.mem_cons_of_mem _ (List.mem_append_right _ (h))) hown hK rfl (by decide) (hts (.fieldLink RX10 66 "MortarShowModel" "kind" "[I") (List.mem_of_getElem? (i := 2) rfl))
  have hl := lv_entry ([.ref (ad 60), .int xi, .int xk]) (n := 6) (Nat.le_of_ble_eq_true rfl)
  rw [lg_entry_eq]
  generalize (lg_sl ([.ref (ad 60), .int xi, .int xk]) ++ List.replicate (6 - (lg_sl ([.ref (ad 60), .int xi, .int xk])).length) Slot.unset).toArray = ls at hl ⊢
  have hl : lv_has ls 6 [(0, .ref (ad 60)), (1, .int xi), (2, .int xk)] := hl
  have o1 := ok.1
  obtain ⟨cb, ck, cf⟩ := hR.2.2.2.2.2.2.2.2.2.2.2 i hi
  obtain ⟨ob, hkd, hrk, og⟩ := ok.2.2.2.2.2.2.1 i hi
  have fb := fal_bd ok hi
  have hrd := ok.2.2.1 _ hkd
  have zi := zon_in (σ := σ) (i := i) (k := k)
  refine lv_aload_n hx hb dX10_isInDanger_0 rfl (lv_at hl 0 rfl) ?_
  refine lv_iload_n hx hb dX10_isInDanger_1 rfl (lv_at hl 1 rfl) ?_
  refine lv_iconst (v := 0) hx hb dX10_isInDanger_2 (by decide) ?_
  refine lv_iconst (v := 1) hx hb dX10_isInDanger_3 (by decide) ?_
  refine wc_ri (va_runV (As := [.int xi, .int 0, .int 1]) (rest := []) ⟨hx, hb, hml, hown, hts⟩ (c_X10_distance l D cA sh ad M _ σ ok hMs hR i hi xi ei 0 1 false true rfl rfl) (cwV 3 hts gX10_isInDanger_X10_distance rfl rfl rfl (by decide +kernel) ⟨Nat.le_of_ble_eq_true rfl, Nat.le_of_ble_eq_true rfl⟩) (wpreV hK hW (C := RX10) (ci := 10) (hMs 60 (by decide) (by decide)) rfl) rfl rfl hl.1 rfl (lv_room (Nat.le_of_ble_eq_true rfl)) dX10_isInDanger_4 ⟨Nat.le_of_ble_eq_true rfl, Nat.le_of_ble_eq_true rfl⟩) hW (fun x4 H locs p4 hW => ?_)
  try dsimp only at p4
  refine wc_ri (va_runS (As := [.int x4]) (rest := []) ⟨hx, hb, hml, hown, hts⟩ (c_X10_down l x4) (va_cwS 1 hts gX10_isInDanger_X10_down rfl rfl rfl (by decide +kernel) ⟨Nat.le_of_ble_eq_true rfl, Nat.le_of_ble_eq_true rfl⟩) npreS rfl rfl hl.1 rfl (lv_room (Nat.le_of_ble_eq_true rfl)) dX10_isInDanger_7 ⟨Nat.le_of_ble_eq_true rfl, Nat.le_of_ble_eq_true rfl⟩) hW (fun x7 H locs p7 hW => ?_)
  try dsimp only at p7
  have d7 : x7.toInt = colZ σ i := by rw [p7, p4, dsA_X, dwn100 (by omega) (by omega)]; rfl
  refine lv_iload_n hx hb dX10_isInDanger_10 rfl (lv_at hl 2 rfl) ?_
  refine lv_bipush (v := 8) hx hb dX10_isInDanger_11 (by decide) ?_
  refine lv_irem hx hb dX10_isInDanger_13 (by decide) ?_
  refine lv_topi (fun x13 e13 => ?_)
  have n13 : x13 = nI (k % 8) := (by rw [e13, ek, (nlit 8)]; exact pk_rem (by omega) (by omega) (by omega))
  refine lv_isub hx hb dX10_isInDanger_14 ?_
  refine lv_topi (fun x14 e14 => ?_)
  refine lv_istore_n (lv' := [(3, .int x14), (0, .ref (ad 60)), (1, .int xi), (2, .int xk)]) hx hb dX10_isInDanger_15 rfl hl (by decide) rfl (fun ls hl => ?_)
  refine lv_aload_n hx hb dX10_isInDanger_16 rfl (lv_at hl 1 rfl) ?_
  refine lv_iload_n hx hb dX10_isInDanger_17 rfl (lv_at hl 2 rfl) ?_
  refine lv_iconst (v := 1) hx hb dX10_isInDanger_18 (by decide) ?_
  refine lv_iconst (v := 1) hx hb dX10_isInDanger_19 (by decide) ?_
  refine wc_ri (va_runV (As := [.int xi, .int 1, .int 1]) (rest := []) ⟨hx, hb, hml, hown, hts⟩ (c_X10_distance l D cA sh ad M _ σ ok hMs hR i hi xi ei 1 1 true true rfl rfl) (cwV 3 hts gX10_isInDanger_X10_distance rfl rfl rfl (by decide +kernel) ⟨Nat.le_of_ble_eq_true rfl, Nat.le_of_ble_eq_true rfl⟩) (wpreV hK hW (C := RX10) (ci := 10) (hMs 60 (by decide) (by decide)) rfl) rfl rfl hl.1 rfl (lv_room (Nat.le_of_ble_eq_true rfl)) dX10_isInDanger_20 ⟨Nat.le_of_ble_eq_true rfl, Nat.le_of_ble_eq_true rfl⟩) hW (fun x20 H locs p20 hW => ?_)
  try dsimp only at p20
  refine wc_ri (va_runS (As := [.int x20]) (rest := []) ⟨hx, hb, hml, hown, hts⟩ (c_X10_down l x20) (va_cwS 1 hts gX10_isInDanger_X10_down rfl rfl rfl (by decide +kernel) ⟨Nat.le_of_ble_eq_true rfl, Nat.le_of_ble_eq_true rfl⟩) npreS rfl rfl hl.1 rfl (lv_room (Nat.le_of_ble_eq_true rfl)) dX10_isInDanger_23 ⟨Nat.le_of_ble_eq_true rfl, Nat.le_of_ble_eq_true rfl⟩) hW (fun x23 H locs p23 hW => ?_)
  try dsimp only at p23
  have d23 : x23.toInt = linZ σ i := by rw [p23, p20, dsA_Y, dwn100 (by omega) (by omega)]; rfl
  have f14 : x14.toInt = colZ σ i - (k % 8 : Nat) := by rw [e14, n13, i32sub] <;> rw [d7, nI_toInt (by omega)] <;> unfold colZ <;> omega
  refine lv_iload_n hx hb dX10_isInDanger_26 rfl (lv_at hl 3 rfl) ?_
  refine lv_bipush (v := 8) hx hb dX10_isInDanger_27 (by decide) ?_
  refine lv_idiv hx hb dX10_isInDanger_29 (by decide) ?_
  refine lv_topi (fun x29 e29 => ?_)
  have n29 : x29 = nI (k / 8) := (by rw [e29, ek, (nlit 8)]; exact pk_div (by omega) (by omega) (by omega))
  refine lv_isub hx hb dX10_isInDanger_30 ?_
  refine lv_topi (fun x30 e30 => ?_)
  refine lv_istore (lv' := [(4, .int x30), (3, .int x14), (0, .ref (ad 60)), (1, .int xi), (2, .int xk)]) hx hb dX10_isInDanger_31 hl (by decide) rfl (fun ls hl => ?_)
  refine lv_aload_n hx hb dX10_isInDanger_33 rfl (lv_at hl 2 rfl) ?_
  refine wgF (t := 64) hx hb fa19 hW (hMs 60 (by decide) (by decide)) rfl dX10_isInDanger_34 ?_
  refine lv_aload_n hx hb dX10_isInDanger_37 rfl (lv_at hl 2 rfl) ?_
  refine wgF (t := 77) hx hb fa66 hW (hMs 60 (by decide) (by decide)) rfl dX10_isInDanger_38 ?_
  refine lv_iload_n hx hb dX10_isInDanger_41 rfl (lv_at hl 3 rfl) ?_
  refine walI (j := i) hx hb hK hW (hMs 77 (by decide) (by decide)) ei (by omega) (by decide) dX10_isInDanger_42 (fun x42 e42 => ?_)
  have n42 : x42 = nI (σ.2 8 i) := (e42.trans ck)
  refine walI (j := (σ.2 8 i)) hx hb hK hW (hMs 64 (by decide) (by decide)) n42 (by omega) (by decide) dX10_isInDanger_43 (fun x43 e43 => ?_)
  have n43 : x43 = nI (σ.2 2 (σ.2 8 i)) := (e43.trans (hR.2.2.2.1 _ hkd).2.2.1)
  refine lv_istore (lv' := [(5, .int x43), (4, .int x30), (3, .int x14), (0, .ref (ad 60)), (1, .int xi), (2, .int xk)]) hx hb dX10_isInDanger_44 hl (by decide) rfl (fun ls hl => ?_)
  refine lv_iload_n hx hb dX10_isInDanger_46 rfl (lv_at hl 2 rfl) ?_
  refine lv_iload hx hb dX10_isInDanger_47 (lv_at hl 0 rfl) ?_
  refine lv_ineg hx hb dX10_isInDanger_49 ?_
  refine lv_topi (fun x49 e49 => ?_)
  refine lv_iload hx hb dX10_isInDanger_50 (lv_at hl 0 rfl) ?_
  refine wc_ri (va_runS (As := [.int x14, .int x49, .int x43]) (rest := []) ⟨hx, hb, hml, hown, hts⟩ (c_X10_in l x14 x49 x43) (va_cwS 3 hts gX10_isInDanger_X10_in rfl rfl rfl (by decide +kernel) ⟨Nat.le_of_ble_eq_true rfl, Nat.le_of_ble_eq_true rfl⟩) npreS rfl rfl hl.1 rfl (lv_room (Nat.le_of_ble_eq_true rfl)) dX10_isInDanger_52 ⟨Nat.le_of_ble_eq_true rfl, Nat.le_of_ble_eq_true rfl⟩) hW (fun x52 H locs p52 hW => ?_)
  try dsimp only at p52
  have f30 : x30.toInt = linZ σ i - (k / 8 : Nat) := by rw [e30, n29, i32sub] <;> rw [d23, nI_toInt (by omega)] <;> unfold linZ <;> omega
  rw [e49, in_sym (d := σ.2 2 (σ.2 8 i)) (by omega) n43, f14] at p52
  refine lv_if_eq (tgt := 75) hx hb dX10_isInDanger_55 (by decide) (fun c55 => ?_) (fun c55 => ?_)
  · refine lv_iconst (v := 0) hx hb dX10_isInDanger_75 (by decide) ?_
    exact wr_rz hx hb hr hlocks hW.2 dX10_isInDanger_76 rfl (by
        rw [zi]
        first
        | (rw [p52] at c55; rw [bI_z.mp c55]; rfl)
        | (rw [p65] at c68; rw [bI_z.mp c68, Bool.and_false]; rfl))
  · refine lv_iload hx hb dX10_isInDanger_58 (lv_at hl 1 rfl) ?_
    refine lv_iload hx hb dX10_isInDanger_60 (lv_at hl 0 rfl) ?_
    refine lv_ineg hx hb dX10_isInDanger_62 ?_
    refine lv_topi (fun x62 e62 => ?_)
    refine lv_iload hx hb dX10_isInDanger_63 (lv_at hl 0 rfl) ?_
    refine wc_ri (va_runS (As := [.int x30, .int x62, .int x43]) (rest := []) ⟨hx, hb, hml, hown, hts⟩ (c_X10_in l x30 x62 x43) (va_cwS 3 hts gX10_isInDanger_X10_in rfl rfl rfl (by decide +kernel) ⟨Nat.le_of_ble_eq_true rfl, Nat.le_of_ble_eq_true rfl⟩) npreS rfl rfl hl.1 rfl (lv_room (Nat.le_of_ble_eq_true rfl)) dX10_isInDanger_65 ⟨Nat.le_of_ble_eq_true rfl, Nat.le_of_ble_eq_true rfl⟩) hW (fun x65 H locs p65 hW => ?_)
    try dsimp only at p65
    rw [e62, in_sym (d := σ.2 2 (σ.2 8 i)) (by omega) n43, f30] at p65
    refine lv_if_eq (tgt := 75) hx hb dX10_isInDanger_68 (by decide) (fun c68 => ?_) (fun c68 => ?_)
    · refine lv_iconst (v := 0) hx hb dX10_isInDanger_75 (by decide) ?_
      exact wr_rz hx hb hr hlocks hW.2 dX10_isInDanger_76 rfl (by
          rw [zi]
          first
          | (rw [p52] at c55; rw [bI_z.mp c55]; rfl)
          | (rw [p65] at c68; rw [bI_z.mp c68, Bool.and_false]; rfl))
    · refine lv_iconst (v := 1) hx hb dX10_isInDanger_71 (by decide) ?_
      refine lv_goto (tgt := 76) hx hb dX10_isInDanger_72 (by decide) ?_
      exact wr_rz hx hb hr hlocks hW.2 dX10_isInDanger_76 rfl (by
          rw [zi]
          rw [p52] at c55; rw [p65] at c68
          rw [bI_t.mp c55, bI_t.mp c68]; rfl)
set_option maxHeartbeats 4000000 in
set_option maxRecDepth 100000 in
theorem c_X10_isStruck (l : Launch) (D : va_G) (cA : Nat → ClassId) (sh : Nat → Option Sh) (ad : Nat → Nat) (M : MS) (sz : Nat) (σ : AS) (ok : AOK σ) (hMs : MSh sh) (hR : MR σ M) (i : Nat) (hi : i < aN σ) (xi : Int32) (ei : xi = nI i) : Met l yX10_isStruck wsX10_isStruck ({ frames := 2, cells := 0, slots := 0, locals := 52 }) (wPc D cA sh ad M sz [.ref (ad 60), .int xi]) (rQi (fun r => r = bI (stkB σ i))) 0 0 nA := by
  refine Met.ofW (cc := cX10_isStruck) (maxL := 4) (ret := (some .boolean)) (by decide) rfl ?_
  intro p e s m args below meth cd0 s₁ B hml hv
  obtain ⟨rfl, hsz, hM, hK⟩ := hv
  have hx := B.exec
  have hb := B.bytes
  have hr := B.returns
  have hts := atoms_spec (ws := wsX10_isStruck) B.pre
  have hown : s.vm.findClass RX10 = some m.cls := findClass_of_methodNamed B.named
  have hlocks := B.notSynchronized
  subst hsz
  obtain ⟨A, eA⟩ : ∃ A : Nat → Prop, A = nA := ⟨_, rfl⟩
  have hW : WS D cA sh ad A s.heap M s.heap [] := ⟨hM, va_S.rf⟩
  subst eA
  have fa43 : FA D s m ([.ref (ad 60), .int xi] : List Value).toArray 43 10 11 := FA.mk (C := RX10) (T := TX10) (N := 29) hts (fun _ h => List.mem_cons_of_mem _ (List.mem_append_right _ (h))) hown hK rfl (by decide) (hts (.fieldLink RX10 43 "MortarShowModel" "people" "[I") (List.mem_of_getElem? (i := 1) rfl))
  have hl := lv_entry ([.ref (ad 60), .int xi]) (n := 4) (Nat.le_of_ble_eq_true rfl)
  rw [lg_entry_eq]
  generalize (lg_sl ([.ref (ad 60), .int xi]) ++ List.replicate (4 - (lg_sl ([.ref (ad 60), .int xi])).length) Slot.unset).toArray = ls at hl ⊢
  have hl : lv_has ls 4 [(0, .ref (ad 60)), (1, .int xi)] := hl
  refine lv_iconst (v := 0) hx hb dX10_isStruck_0 (by decide) ?_
  refine lv_istore_n (lv' := [(2, .int 0), (0, .ref (ad 60)), (1, .int xi)]) hx hb dX10_isStruck_1 rfl hl (by decide) rfl (fun ls hl => ?_)
  refine lv_iconst (v := 0) hx hb dX10_isStruck_2 (by decide) ?_
  refine lv_istore_n (lv' := [(3, .int 0), (2, .int 0), (0, .ref (ad 60)), (1, .int xi)]) hx hb dX10_isStruck_3 rfl hl (by decide) rfl (fun ls hl => ?_)
  have L4 : ∀ (fu : Nat) (k : Nat) (xk : Int32) (xs : Int32) (H : Heap) (locs : List Loc), 64 - k < fu → (k ≤ 64) → (xk = nI k) → (xs = bI (stN σ i k)) → WS D cA sh ad nA s.heap M H locs → ∀ ls, lv_has ls 4 [(3, .int xk), (2, .int xs), (0, .ref (ad 60)), (1, .int xi)] → W p l e (headSpec wsX10_isStruck { frames := 2, cells := 0, slots := 0, locals := 52 }).room s m ([.ref (ad 60), .int xi] : List Value).toArray below meth cd0 H locs 0 0 (MQ below (rQi (fun r => r = bI (stkB σ i))) ([.ref (ad 60), .int xi] : List Value).toArray s 0 0 nA) (F0 m 4 ls []) := by
    intro fu
    induction fu with
    | zero =>
      intro k xk xs H locs hn hk ek es hW ls hl
      exact absurd hn (Nat.not_lt_zero _)
    | succ fu ih4 =>
      intro k xk xs H locs hn hk ek es hW ls hl
      refine lv_iload_n hx hb dX10_isStruck_4 rfl (lv_at hl 0 rfl) ?_
      refine lv_bipush (v := 64) hx hb dX10_isStruck_5 (by decide) ?_
      refine lv_icmp_ge (tgt := 44) hx hb dX10_isStruck_7 (by decide) (fun c7 => ?_) (fun c7 => ?_)
      · have k7 : 64 ≤ k := kc_ge ek (nlit 64) (by omega) (by omega) c7
        refine lv_iload_n hx hb dX10_isStruck_44 rfl (lv_at hl 1 rfl) ?_
        exact wr_rz hx hb hr hlocks hW.2 dX10_isStruck_45 (by rw [es]; exact bI_n _) (by rw [es, show k = 64 by omega, stN_64])
      · have k7 : ¬ 64 ≤ k := kc_gen ek (nlit 64) (by omega) (by omega) c7
        have J37 : ∀ (y : Int32) (H : Heap) (locs : List Loc), (y = bI (stN σ i (k + 1))) → WS D cA sh ad nA s.heap M H locs → ∀ ls, lv_has ls 4 [(3, .int xk), (2, .int xs), (0, .ref (ad 60)), (1, .int xi)] → W p l e (headSpec wsX10_isStruck { frames := 2, cells := 0, slots := 0, locals := 52 }).room s m ([.ref (ad 60), .int xi] : List Value).toArray below meth cd0 H locs 0 0 (MQ below (rQi (fun r => r = bI (stkB σ i))) ([.ref (ad 60), .int xi] : List Value).toArray s 0 0 nA) (F0 m 37 ls [.int y]) := by
          intro y H locs hy hW ls hl
          refine lv_istore_n (lv' := [(2, .int y), (3, .int xk), (0, .ref (ad 60)), (1, .int xi)]) hx hb dX10_isStruck_37 rfl hl (by decide) rfl (fun ls hl => ?_)
          obtain ⟨x38, e38⟩ : ∃ y : Int32, y = xk + 1 := ⟨_, rfl⟩
          refine lv_iinc (v := x38) (lv' := [(3, .int x38), (2, .int y), (0, .ref (ad 60)), (1, .int xi)]) hx hb dX10_isStruck_38 hl (k := 1) rfl (by rw [e38]; rfl) (by decide) rfl (fun ls hl => ?_)
          refine lv_goto (tgt := 4) hx hb dX10_isStruck_41 (by decide) ?_
          exact ih4 (k + 1) x38 y _ _ (by omega) (by omega) (by rw [e38, ek, nlit 1, nI_add]) hy hW ls (lv_sub hl [0, 1, 2, 3] rfl)
        refine lv_iload_n hx hb dX10_isStruck_10 rfl (lv_at hl 1 rfl) ?_
        refine lv_if_ne (tgt := 32) hx hb dX10_isStruck_11 (by decide) (fun c11 => ?_) (fun c11 => ?_)
        · refine lv_iconst (v := 1) hx hb dX10_isStruck_32 (by decide) ?_
          refine lv_goto (tgt := 37) hx hb dX10_isStruck_33 (by decide) ?_
          exact J37 1 _ _ (by
              show _ = bI (stN σ i k || (decide (0 < σ.1 0 k) && zonB σ i k))
              first
              | (have z1 : stN σ i k = true := bI_t.mp (fun z => c11 (es.trans z))
                 rw [z1]; rfl)
              | (have z1 : stN σ i k = false := bI_z.mp (es.symm.trans c11)
                 have e9 : x19 = σ.1 0 k := e19.trans (hR.1 k (by omega))
                 rw [z1, Bool.false_or]
                 first
                 | (rw [decide_eq_false (by rw [i32lt]; rw [e9, i32le] at c20; omega)]; rfl)
                 | (rw [decide_eq_true (by rw [i32lt]; rw [e9, i32le] at c20; omega), Bool.true_and]
                    first
                    | (rw [p26] at c29; rw [bI_z.mp c29]; rfl)
                    | (rw [p26] at c29; rw [bI_t.mp c29]; rfl)))) hW ls (lv_sub hl [0, 1, 2, 3] rfl)
        · refine lv_aload_n hx hb dX10_isStruck_14 rfl (lv_at hl 2 rfl) ?_
          refine wgF (t := 72) hx hb fa43 hW (hMs 60 (by decide) (by decide)) rfl dX10_isStruck_15 ?_
          refine lv_iload_n hx hb dX10_isStruck_18 rfl (lv_at hl 0 rfl) ?_
          refine walI (j := k) hx hb hK hW (hMs 72 (by decide) (by decide)) ek (by omega) (by decide) dX10_isStruck_19 (fun x19 e19 => ?_)
          refine lv_if_le (tgt := 36) hx hb dX10_isStruck_20 (by decide) (fun c20 => ?_) (fun c20 => ?_)
          · refine lv_iconst (v := 0) hx hb dX10_isStruck_36 (by decide) ?_
            exact J37 0 _ _ (by
                show _ = bI (stN σ i k || (decide (0 < σ.1 0 k) && zonB σ i k))
                first
                | (have z1 : stN σ i k = true := bI_t.mp (fun z => c11 (es.trans z))
                   rw [z1]; rfl)
                | (have z1 : stN σ i k = false := bI_z.mp (es.symm.trans c11)
                   have e9 : x19 = σ.1 0 k := e19.trans (hR.1 k (by omega))
                   rw [z1, Bool.false_or]
                   first
                   | (rw [decide_eq_false (by rw [i32lt]; rw [e9, i32le] at c20; omega)]; rfl)
                   | (rw [decide_eq_true (by rw [i32lt]; rw [e9, i32le] at c20; omega), Bool.true_and]
                      first
                      | (rw [p26] at c29; rw [bI_z.mp c29]; rfl)
                      | (rw [p26] at c29; rw [bI_t.mp c29]; rfl)))) hW ls (lv_sub hl [0, 1, 2, 3] rfl)
          · refine lv_aload_n hx hb dX10_isStruck_23 rfl (lv_at hl 2 rfl) ?_
            refine lv_iload_n hx hb dX10_isStruck_24 rfl (lv_at hl 3 rfl) ?_
            refine lv_iload_n hx hb dX10_isStruck_25 rfl (lv_at hl 0 rfl) ?_
            refine wc_ri (va_runV (As := [.int xi, .int xk]) (rest := []) ⟨hx, hb, hml, hown, hts⟩ (c_X10_isInDanger l D cA sh ad M _ σ ok hMs hR i hi xi ei k (by omega) xk ek) (cwV 2 hts gX10_isStruck_X10_isInDanger rfl rfl rfl (by decide +kernel) ⟨Nat.le_of_ble_eq_true rfl, Nat.le_of_ble_eq_true rfl⟩) (wpreV hK hW (C := RX10) (ci := 10) (hMs 60 (by decide) (by decide)) rfl) rfl rfl hl.1 rfl (lv_room (Nat.le_of_ble_eq_true rfl)) dX10_isStruck_26 ⟨Nat.le_of_ble_eq_true rfl, Nat.le_of_ble_eq_true rfl⟩) hW (fun x26 H locs p26 hW => ?_)
            try dsimp only at p26
            refine lv_if_eq (tgt := 36) hx hb dX10_isStruck_29 (by decide) (fun c29 => ?_) (fun c29 => ?_)
            · refine lv_iconst (v := 0) hx hb dX10_isStruck_36 (by decide) ?_
              exact J37 0 _ _ (by
                  show _ = bI (stN σ i k || (decide (0 < σ.1 0 k) && zonB σ i k))
                  first
                  | (have z1 : stN σ i k = true := bI_t.mp (fun z => c11 (es.trans z))
                     rw [z1]; rfl)
                  | (have z1 : stN σ i k = false := bI_z.mp (es.symm.trans c11)
                     have e9 : x19 = σ.1 0 k := e19.trans (hR.1 k (by omega))
                     rw [z1, Bool.false_or]
                     first
                     | (rw [decide_eq_false (by rw [i32lt]; rw [e9, i32le] at c20; omega)]; rfl)
                     | (rw [decide_eq_true (by rw [i32lt]; rw [e9, i32le] at c20; omega), Bool.true_and]
                        first
                        | (rw [p26] at c29; rw [bI_z.mp c29]; rfl)
                        | (rw [p26] at c29; rw [bI_t.mp c29]; rfl)))) hW ls (lv_sub hl [0, 1, 2, 3] rfl)
            · refine lv_iconst (v := 1) hx hb dX10_isStruck_32 (by decide) ?_
              refine lv_goto (tgt := 37) hx hb dX10_isStruck_33 (by decide) ?_
              exact J37 1 _ _ (by
                  show _ = bI (stN σ i k || (decide (0 < σ.1 0 k) && zonB σ i k))
                  first
                  | (have z1 : stN σ i k = true := bI_t.mp (fun z => c11 (es.trans z))
                     rw [z1]; rfl)
                  | (have z1 : stN σ i k = false := bI_z.mp (es.symm.trans c11)
                     have e9 : x19 = σ.1 0 k := e19.trans (hR.1 k (by omega))
                     rw [z1, Bool.false_or]
                     first
                     | (rw [decide_eq_false (by rw [i32lt]; rw [e9, i32le] at c20; omega)]; rfl)
                     | (rw [decide_eq_true (by rw [i32lt]; rw [e9, i32le] at c20; omega), Bool.true_and]
                        first
                        | (rw [p26] at c29; rw [bI_z.mp c29]; rfl)
                        | (rw [p26] at c29; rw [bI_t.mp c29]; rfl)))) hW ls (lv_sub hl [0, 1, 2, 3] rfl)
  exact L4 (_ + 1) 0 0 0 _ _ (Nat.lt_succ_self _) (Nat.zero_le _) rfl rfl hW ls (lv_sub hl [0, 1, 2, 3] rfl)
set_option maxHeartbeats 4000000 in
set_option maxRecDepth 100000 in
theorem c_X10_there (l : Launch) (D : va_G) (cA : Nat → ClassId) (sh : Nat → Option Sh) (ad : Nat → Nat) (M : MS) (sz : Nat) (σ : AS) (ok : AOK σ) (hMs : MSh sh) (hR : MR σ M) : Met l yX10_there wsX10_there ({ frames := 0, cells := 0, slots := 0, locals := 0 }) (wPc D cA sh ad M sz [.ref (ad 60)]) (rQi (fun r => r = nI (ctN (pres σ) 40))) 0 0 nA := by
  refine Met.ofW (cc := cX10_there) (maxL := 3) (ret := (some .int)) (by decide) rfl ?_
  intro p e s m args below meth cd0 s₁ B hml hv
  obtain ⟨rfl, hsz, hM, hK⟩ := hv
  have hx := B.exec
  have hb := B.bytes
  have hr := B.returns
  have hts := atoms_spec (ws := wsX10_there) B.pre
  have hown : s.vm.findClass RX10 = some m.cls := findClass_of_methodNamed B.named
  have hlocks := B.notSynchronized
  subst hsz
  obtain ⟨A, eA⟩ : ∃ A : Nat → Prop, A = nA := ⟨_, rfl⟩
  have hW : WS D cA sh ad A s.heap M s.heap [] := ⟨hM, va_S.rf⟩
  subst eA
  have fa72 : FA D s m ([.ref (ad 60)] : List Value).toArray 72 10 21 := FA.mk (C := RX10) (T := TX10) (N := 29) hts (fun _ h => List.mem_cons_of_mem _ (List.mem_append_right _ (h))) hown hK rfl (by decide) (hts (.fieldLink RX10 72 "MortarShowModel" "gone" "[Z") (List.mem_of_getElem? (i := 2) rfl))
  have fa101 : FA D s m ([.ref (ad 60)] : List Value).toArray 101 10 17 := FA.mk (C := RX10) (T := TX10) (N := 29) hts (fun _ h => List.mem_cons_of_mem _ (List.mem_append_right _ (h))) hown hK rfl (by decide) (hts (.fieldLink RX10 101 "MortarShowModel" "cues" "I") (List.mem_of_getElem? (i := 1) rfl))
  have hl := lv_entry ([.ref (ad 60)]) (n := 3) (Nat.le_of_ble_eq_true rfl)
  rw [lg_entry_eq]
  generalize (lg_sl ([.ref (ad 60)]) ++ List.replicate (3 - (lg_sl ([.ref (ad 60)])).length) Slot.unset).toArray = ls at hl ⊢
  have hl : lv_has ls 3 [(0, .ref (ad 60))] := hl
  have o1 := ok.1
  refine lv_iconst (v := 0) hx hb dX10_there_0 (by decide) ?_
  refine lv_istore_n (lv' := [(1, .int 0), (0, .ref (ad 60))]) hx hb dX10_there_1 rfl hl (by decide) rfl (fun ls hl => ?_)
  refine lv_iconst (v := 0) hx hb dX10_there_2 (by decide) ?_
  refine lv_istore_n (lv' := [(2, .int 0), (1, .int 0), (0, .ref (ad 60))]) hx hb dX10_there_3 rfl hl (by decide) rfl (fun ls hl => ?_)
  have L4 : ∀ (fu : Nat) (k : Nat) (xk : Int32) (xs : Int32) (H : Heap) (locs : List Loc), aN σ - k < fu → (k ≤ aN σ) → (xk = nI k) → (xs = nI (ctN (pres σ) k)) → WS D cA sh ad nA s.heap M H locs → ∀ ls, lv_has ls 3 [(2, .int xk), (1, .int xs), (0, .ref (ad 60))] → W p l e (headSpec wsX10_there { frames := 0, cells := 0, slots := 0, locals := 0 }).room s m ([.ref (ad 60)] : List Value).toArray below meth cd0 H locs 0 0 (MQ below (rQi (fun r => r = nI (ctN (pres σ) 40))) ([.ref (ad 60)] : List Value).toArray s 0 0 nA) (F0 m 4 ls []) := by
    intro fu
    induction fu with
    | zero =>
      intro k xk xs H locs hn hk ek es hW ls hl
      exact absurd hn (Nat.not_lt_zero _)
    | succ fu ih4 =>
      intro k xk xs H locs hn hk ek es hW ls hl
      refine lv_iload_n hx hb dX10_there_4 rfl (lv_at hl 0 rfl) ?_
      refine lv_aload_n hx hb dX10_there_5 rfl (lv_at hl 2 rfl) ?_
      refine wgI hx hb fa101 hW (hMs 60 (by decide) (by decide)) rfl dX10_there_6 (fun x6 e6 => ?_)
      have n6 : x6 = nI (aN σ) := (e6.trans hR.2.2.2.2.2.2.2.2.2.1)
      refine lv_icmp_ge (tgt := 35) hx hb dX10_there_9 (by decide) (fun c9 => ?_) (fun c9 => ?_)
      · have k9 : (aN σ) ≤ k := kc_ge ek n6 (by omega) (by omega) c9
        refine lv_iload_n hx hb dX10_there_35 rfl (lv_at hl 1 rfl) ?_
        exact wr_ri hx hb hr hlocks hW.2 dX10_there_36 (by rw [es, show k = aN σ by omega, ctN_top o1])
      · have k9 : ¬ (aN σ) ≤ k := kc_gen ek n6 (by omega) (by omega) c9
        refine lv_iload_n hx hb dX10_there_12 rfl (lv_at hl 1 rfl) ?_
        have J27 : ∀ (y : Int32) (H : Heap) (locs : List Loc), (y = nI (if pres σ k = true then 1 else 0)) → WS D cA sh ad nA s.heap M H locs → ∀ ls, lv_has ls 3 [(2, .int xk), (1, .int xs), (0, .ref (ad 60))] → W p l e (headSpec wsX10_there { frames := 0, cells := 0, slots := 0, locals := 0 }).room s m ([.ref (ad 60)] : List Value).toArray below meth cd0 H locs 0 0 (MQ below (rQi (fun r => r = nI (ctN (pres σ) 40))) ([.ref (ad 60)] : List Value).toArray s 0 0 nA) (F0 m 27 ls [.int y, .int xs]) := by
          intro y H locs hy hW ls hl
          refine lv_iadd hx hb dX10_there_27 ?_
          refine lv_topi (fun x27 e27 => ?_)
          refine lv_istore_n (lv' := [(1, .int x27), (2, .int xk), (0, .ref (ad 60))]) hx hb dX10_there_28 rfl hl (by decide) rfl (fun ls hl => ?_)
          obtain ⟨x29, e29⟩ : ∃ y : Int32, y = xk + 1 := ⟨_, rfl⟩
          refine lv_iinc (v := x29) (lv' := [(2, .int x29), (1, .int x27), (0, .ref (ad 60))]) hx hb dX10_there_29 hl (k := 1) rfl (by rw [e29]; rfl) (by decide) rfl (fun ls hl => ?_)
          refine lv_goto (tgt := 4) hx hb dX10_there_32 (by decide) ?_
          exact ih4 (k + 1) x29 x27 _ _ (by omega) (by omega) (by rw [e29, ek, nlit 1, nI_add]) (by rw [e27, es, hy, nI_add]; rfl) hW ls (lv_sub hl [0, 1, 2] rfl)
        refine lv_aload_n hx hb dX10_there_13 rfl (lv_at hl 2 rfl) ?_
        refine wgF (t := 79) hx hb fa72 hW (hMs 60 (by decide) (by decide)) rfl dX10_there_14 ?_
        refine lv_iload_n hx hb dX10_there_17 rfl (lv_at hl 0 rfl) ?_
        refine walZ (j := k) hx hb hK hW (hMs 79 (by decide) (by decide)) ek (by omega) (by decide) dX10_there_18 (fun x18 e18 => ?_)
        refine lv_if_eq (tgt := 26) hx hb dX10_there_19 (by decide) (fun c19 => ?_) (fun c19 => ?_)
        · refine lv_iconst (v := 1) hx hb dX10_there_26 (by decide) ?_
          exact J27 1 _ _ (by
              have h9 : x18 = nI (σ.2 10 k) := e18.trans (hR.2.2.2.2.2.2.2.2.2.2.1 k (by omega))
              have og := (ok.2.2.2.2.2.2.1 k (by omega)).2.2.2
              first
              | (rw [pres_t (by omega) (gone0 og (h9.symm.trans c19))]; rfl)
              | (rw [pres_f (fun z => c19 (by rw [h9, z.2]; rfl))]; rfl)) hW ls (lv_sub hl [0, 1, 2] rfl)
        · refine lv_iconst (v := 0) hx hb dX10_there_22 (by decide) ?_
          refine lv_goto (tgt := 27) hx hb dX10_there_23 (by decide) ?_
          exact J27 0 _ _ (by
              have h9 : x18 = nI (σ.2 10 k) := e18.trans (hR.2.2.2.2.2.2.2.2.2.2.1 k (by omega))
              have og := (ok.2.2.2.2.2.2.1 k (by omega)).2.2.2
              first
              | (rw [pres_t (by omega) (gone0 og (h9.symm.trans c19))]; rfl)
              | (rw [pres_f (fun z => c19 (by rw [h9, z.2]; rfl))]; rfl)) hW ls (lv_sub hl [0, 1, 2] rfl)
  exact L4 (_ + 1) 0 0 0 _ _ (Nat.lt_succ_self _) (Nat.zero_le _) rfl rfl hW ls (lv_sub hl [0, 1, 2] rfl)
set_option maxHeartbeats 4000000 in
set_option maxRecDepth 100000 in
theorem c_X10_isClosed (l : Launch) (D : va_G) (cA : Nat → ClassId) (sh : Nat → Option Sh) (ad : Nat → Nat) (M : MS) (sz : Nat) (σ : AS) (ok : AOK σ) (hMs : MSh sh) (hR : MR σ M) (hf : ∀ i, i < aN σ → σ.2 10 i = 0 → (gI M 80 i = 1 ↔ stkB σ i = true)) (b : Nat) (hb9 : b ≤ 101) (xb : Int32) (eb : xb = nI b) : Met l yX10_isClosed wsX10_isClosed ({ frames := 0, cells := 0, slots := 0, locals := 0 }) (wPc D cA sh ad M sz [.ref (ad 60), .int xb]) (rQi (fun r => r = bI (clB σ b))) 0 0 nA := by
  refine Met.ofW (cc := cX10_isClosed) (maxL := 6) (ret := (some .boolean)) (by decide) rfl ?_
  intro p e s m args below meth cd0 s₁ B hml hv
  obtain ⟨rfl, hsz, hM, hK⟩ := hv
  have hx := B.exec
  have hb := B.bytes
  have hr := B.returns
  have hts := atoms_spec (ws := wsX10_isClosed) B.pre
  have hown : s.vm.findClass RX10 = some m.cls := findClass_of_methodNamed B.named
  have hlocks := B.notSynchronized
  subst hsz
  obtain ⟨A, eA⟩ : ∃ A : Nat → Prop, A = nA := ⟨_, rfl⟩
  have hW : WS D cA sh ad A s.heap M s.heap [] := ⟨hM, va_S.rf⟩
  subst eA
  have fa63 : FA D s m ([.ref (ad 60), .int xb] : List Value).toArray 63 10 18 := FA.mk (C := RX10) (T := TX10) (N := 29) hts (fun _ h => List.mem_cons_of_mem _ (List.mem_append_right _ (h))) hown hK rfl (by decide) (hts (.fieldLink RX10 63 "MortarShowModel" "beat" "[I") (List.mem_of_getElem? (i := 3) rfl))
  have fa72 : FA D s m ([.ref (ad 60), .int xb] : List Value).toArray 72 10 21 := FA.mk (C := RX10) (T := TX10) (N := 29) hts (fun _ h => List.mem_cons_of_mem _ (List.mem_append_right _ (h))) hown hK rfl (by decide) (hts (.fieldLink RX10 72 "MortarShowModel" "gone" "[Z") (List.mem_of_getElem? (i := 2) rfl))
  have fa75 : FA D s m ([.ref (ad 60), .int xb] : List Value).toArray 75 10 22 := FA.mk (C := RX10) (T := TX10) (N := 29) hts (fun _ h => List.mem_cons_of_mem _ (List.mem_append_right _ (h))) hown hK rfl (by decide) (hts (.fieldLink RX10 75 "MortarShowModel" "fate" "[I") (List.mem_of_getElem? (i := 4) rfl))
  have fa101 : FA D s m ([.ref (ad 60), .int xb] : List Value).toArray 101 10 17 := FA.mk (C := RX10) (T := TX10) (N := 29) hts (fun _ h => List.mem_cons_of_mem _ (List.mem_append_right _ (h))) hown hK rfl (by decide) (hts (.fieldLink RX10 101 "MortarShowModel" "cues" "I") (List.mem_of_getElem? (i := 1) rfl))
  have hl := lv_entry ([.ref (ad 60), .int xb]) (n := 6) (Nat.le_of_ble_eq_true rfl)
  rw [lg_entry_eq]
  generalize (lg_sl ([.ref (ad 60), .int xb]) ++ List.replicate (6 - (lg_sl ([.ref (ad 60), .int xb])).length) Slot.unset).toArray = ls at hl ⊢
  have hl : lv_has ls 6 [(0, .ref (ad 60)), (1, .int xb)] := hl
  have o1 := ok.1
  refine lv_iconst (v := 0) hx hb dX10_isClosed_0 (by decide) ?_
  refine lv_istore_n (lv' := [(2, .int 0), (0, .ref (ad 60)), (1, .int xb)]) hx hb dX10_isClosed_1 rfl hl (by decide) rfl (fun ls hl => ?_)
  refine lv_iconst (v := 1) hx hb dX10_isClosed_2 (by decide) ?_
  refine lv_istore_n (lv' := [(3, .int 1), (2, .int 0), (0, .ref (ad 60)), (1, .int xb)]) hx hb dX10_isClosed_3 rfl hl (by decide) rfl (fun ls hl => ?_)
  refine lv_iconst (v := 0) hx hb dX10_isClosed_4 (by decide) ?_
  refine lv_istore (lv' := [(4, .int 0), (3, .int 1), (2, .int 0), (0, .ref (ad 60)), (1, .int xb)]) hx hb dX10_isClosed_5 hl (by decide) rfl (fun ls hl => ?_)
  have L7 : ∀ (fu : Nat) (k : Nat) (xk : Int32) (xa : Int32) (xs : Int32) (H : Heap) (locs : List Loc), aN σ - k < fu → (k ≤ aN σ) → (xk = nI k) → (xs = bI (anyN (hereB σ b) k)) → (xa = bI (allN (fun i => !hereB σ b i || stkB σ i) k)) → WS D cA sh ad nA s.heap M H locs → ∀ ls, lv_has ls 6 [(4, .int xk), (3, .int xa), (2, .int xs), (0, .ref (ad 60)), (1, .int xb)] → W p l e (headSpec wsX10_isClosed { frames := 0, cells := 0, slots := 0, locals := 0 }).room s m ([.ref (ad 60), .int xb] : List Value).toArray below meth cd0 H locs 0 0 (MQ below (rQi (fun r => r = bI (clB σ b))) ([.ref (ad 60), .int xb] : List Value).toArray s 0 0 nA) (F0 m 7 ls []) := by
    intro fu
    induction fu with
    | zero =>
      intro k xk xa xs H locs hn hk ek es ea hW ls hl
      exact absurd hn (Nat.not_lt_zero _)
    | succ fu ih7 =>
      intro k xk xa xs H locs hn hk ek es ea hW ls hl
      refine lv_iload hx hb dX10_isClosed_7 (lv_at hl 0 rfl) ?_
      refine lv_aload_n hx hb dX10_isClosed_9 rfl (lv_at hl 3 rfl) ?_
      refine wgI hx hb fa101 hW (hMs 60 (by decide) (by decide)) rfl dX10_isClosed_10 (fun x10 e10 => ?_)
      have n10 : x10 = nI (aN σ) := (e10.trans hR.2.2.2.2.2.2.2.2.2.1)
      refine lv_icmp_ge (tgt := 91) hx hb dX10_isClosed_13 (by decide) (fun c13 => ?_) (fun c13 => ?_)
      · have k13 : (aN σ) ≤ k := kc_ge ek n10 (by omega) (by omega) c13
        refine lv_iload_n hx hb dX10_isClosed_91 rfl (lv_at hl 2 rfl) ?_
        refine lv_if_eq (tgt := 103) hx hb dX10_isClosed_92 (by decide) (fun c92 => ?_) (fun c92 => ?_)
        · refine lv_iconst (v := 0) hx hb dX10_isClosed_103 (by decide) ?_
          exact wr_rz hx hb hr hlocks hW.2 dX10_isClosed_104 rfl (by rw [clB_eq o1, ← show k = aN σ by omega]; first | (rw [bI_z.mp (es.symm.trans c92)]; rfl) | (rw [bI_z.mp (ea.symm.trans c96), Bool.and_false]; rfl))
        · refine lv_iload_n hx hb dX10_isClosed_95 rfl (lv_at hl 1 rfl) ?_
          refine lv_if_eq (tgt := 103) hx hb dX10_isClosed_96 (by decide) (fun c96 => ?_) (fun c96 => ?_)
          · refine lv_iconst (v := 0) hx hb dX10_isClosed_103 (by decide) ?_
            exact wr_rz hx hb hr hlocks hW.2 dX10_isClosed_104 rfl (by rw [clB_eq o1, ← show k = aN σ by omega]; first | (rw [bI_z.mp (es.symm.trans c92)]; rfl) | (rw [bI_z.mp (ea.symm.trans c96), Bool.and_false]; rfl))
          · refine lv_iconst (v := 1) hx hb dX10_isClosed_99 (by decide) ?_
            refine lv_goto (tgt := 104) hx hb dX10_isClosed_100 (by decide) ?_
            exact wr_rz hx hb hr hlocks hW.2 dX10_isClosed_104 rfl (by rw [clB_eq o1, ← show k = aN σ by omega]; rw [bI_t.mp (fun z => c92 (es.trans z)), bI_t.mp (fun z => c96 (ea.trans z))]; rfl)
      · have k13 : ¬ (aN σ) ≤ k := kc_gen ek n10 (by omega) (by omega) c13
        have J42 : ∀ (h : Int32) (H : Heap) (locs : List Loc), (h = bI (hereB σ b k)) → WS D cA sh ad nA s.heap M H locs → ∀ ls, lv_has ls 6 [(4, .int xk), (3, .int xa), (2, .int xs), (0, .ref (ad 60)), (1, .int xb)] → W p l e (headSpec wsX10_isClosed { frames := 0, cells := 0, slots := 0, locals := 0 }).room s m ([.ref (ad 60), .int xb] : List Value).toArray below meth cd0 H locs 0 0 (MQ below (rQi (fun r => r = bI (clB σ b))) ([.ref (ad 60), .int xb] : List Value).toArray s 0 0 nA) (F0 m 42 ls [.int h]) := by
          intro h H locs hh hW ls hl
          refine lv_istore (lv' := [(5, .int h), (4, .int xk), (3, .int xa), (2, .int xs), (0, .ref (ad 60)), (1, .int xb)]) hx hb dX10_isClosed_42 hl (by decide) rfl (fun ls hl => ?_)
          have J58 : ∀ (w : Int32) (H : Heap) (locs : List Loc), (w = bI (anyN (hereB σ b) (k + 1))) → WS D cA sh ad nA s.heap M H locs → ∀ ls, lv_has ls 6 [(5, .int h), (4, .int xk), (3, .int xa), (2, .int xs), (0, .ref (ad 60)), (1, .int xb)] → W p l e (headSpec wsX10_isClosed { frames := 0, cells := 0, slots := 0, locals := 0 }).room s m ([.ref (ad 60), .int xb] : List Value).toArray below meth cd0 H locs 0 0 (MQ below (rQi (fun r => r = bI (clB σ b))) ([.ref (ad 60), .int xb] : List Value).toArray s 0 0 nA) (F0 m 58 ls [.int w]) := by
            intro w H locs hw hW ls hl
            refine lv_istore_n (lv' := [(2, .int w), (5, .int h), (4, .int xk), (3, .int xa), (0, .ref (ad 60)), (1, .int xb)]) hx hb dX10_isClosed_58 rfl hl (by decide) rfl (fun ls hl => ?_)
            have J84 : ∀ (z : Int32) (H : Heap) (locs : List Loc), (z = bI (allN (fun i => !hereB σ b i || stkB σ i) (k + 1))) → WS D cA sh ad nA s.heap M H locs → ∀ ls, lv_has ls 6 [(2, .int w), (5, .int h), (4, .int xk), (3, .int xa), (0, .ref (ad 60)), (1, .int xb)] → W p l e (headSpec wsX10_isClosed { frames := 0, cells := 0, slots := 0, locals := 0 }).room s m ([.ref (ad 60), .int xb] : List Value).toArray below meth cd0 H locs 0 0 (MQ below (rQi (fun r => r = bI (clB σ b))) ([.ref (ad 60), .int xb] : List Value).toArray s 0 0 nA) (F0 m 84 ls [.int z]) := by
              intro z H locs hz hW ls hl
              refine lv_istore_n (lv' := [(3, .int z), (2, .int w), (5, .int h), (4, .int xk), (0, .ref (ad 60)), (1, .int xb)]) hx hb dX10_isClosed_84 rfl hl (by decide) rfl (fun ls hl => ?_)
              obtain ⟨x85, e85⟩ : ∃ y : Int32, y = xk + 1 := ⟨_, rfl⟩
              refine lv_iinc (v := x85) (lv' := [(4, .int x85), (3, .int z), (2, .int w), (5, .int h), (0, .ref (ad 60)), (1, .int xb)]) hx hb dX10_isClosed_85 hl (k := 3) rfl (by rw [e85]; rfl) (by decide) rfl (fun ls hl => ?_)
              refine lv_goto (tgt := 7) hx hb dX10_isClosed_88 (by decide) ?_
              exact ih7 (k + 1) x85 z w _ _ (by omega) (by omega) (by rw [e85, ek, nlit 1, nI_add]) hw hz hW ls (lv_sub hl [0, 1, 2, 4, 5] rfl)
            refine lv_iload_n hx hb dX10_isClosed_59 rfl (lv_at hl 3 rfl) ?_
            refine lv_if_eq (tgt := 83) hx hb dX10_isClosed_60 (by decide) (fun c60 => ?_) (fun c60 => ?_)
            · refine lv_iconst (v := 0) hx hb dX10_isClosed_83 (by decide) ?_
              exact J84 0 _ _ (by
                  show _ = bI (allN (fun i => !hereB σ b i || stkB σ i) k && (!hereB σ b k || stkB σ k))
                  first
                  | (rw [bI_z.mp (ea.symm.trans c60)]; rfl)
                  | (rw [bI_t.mp (fun z => c60 (ea.trans z)), bI_z.mp (hh.symm.trans c65)]; rfl)
                  | (have g8 := bI_t.mp (fun z => c65 (hh.trans z))
                     have g7 : σ.2 10 k = 0 := by unfold hereB at g8; rw [Bool.and_eq_true] at g8; exact of_decide_eq_true g8.1
                     have f8 := hf k (by omega) g7
                     rw [bI_t.mp (fun z => c60 (ea.trans z)), g8]
                     first
                     | (rw [f8.mp (e74.symm.trans c76)]; rfl)
                     | (have g6 : stkB σ k = false := by
                          cases hq : stkB σ k with
                          | false => rfl
                          | true => exact absurd (e74.trans (f8.mpr hq)) c76
                        rw [g6]; rfl))) hW ls (lv_sub hl [0, 1, 2, 3, 4, 5] rfl)
            · refine lv_iload hx hb dX10_isClosed_63 (lv_at hl 1 rfl) ?_
              refine lv_if_eq (tgt := 79) hx hb dX10_isClosed_65 (by decide) (fun c65 => ?_) (fun c65 => ?_)
              · refine lv_iconst (v := 1) hx hb dX10_isClosed_79 (by decide) ?_
                refine lv_goto (tgt := 84) hx hb dX10_isClosed_80 (by decide) ?_
                exact J84 1 _ _ (by
                    show _ = bI (allN (fun i => !hereB σ b i || stkB σ i) k && (!hereB σ b k || stkB σ k))
                    first
                    | (rw [bI_z.mp (ea.symm.trans c60)]; rfl)
                    | (rw [bI_t.mp (fun z => c60 (ea.trans z)), bI_z.mp (hh.symm.trans c65)]; rfl)
                    | (have g8 := bI_t.mp (fun z => c65 (hh.trans z))
                       have g7 : σ.2 10 k = 0 := by unfold hereB at g8; rw [Bool.and_eq_true] at g8; exact of_decide_eq_true g8.1
                       have f8 := hf k (by omega) g7
                       rw [bI_t.mp (fun z => c60 (ea.trans z)), g8]
                       first
                       | (rw [f8.mp (e74.symm.trans c76)]; rfl)
                       | (have g6 : stkB σ k = false := by
                            cases hq : stkB σ k with
                            | false => rfl
                            | true => exact absurd (e74.trans (f8.mpr hq)) c76
                          rw [g6]; rfl))) hW ls (lv_sub hl [0, 1, 2, 3, 4, 5] rfl)
              · refine lv_aload_n hx hb dX10_isClosed_68 rfl (lv_at hl 4 rfl) ?_
                refine wgF (t := 80) hx hb fa75 hW (hMs 60 (by decide) (by decide)) rfl dX10_isClosed_69 ?_
                refine lv_iload hx hb dX10_isClosed_72 (lv_at hl 2 rfl) ?_
                refine walI (j := k) hx hb hK hW (hMs 80 (by decide) (by decide)) ek (by omega) (by decide) dX10_isClosed_74 (fun x74 e74 => ?_)
                refine lv_iconst (v := 1) hx hb dX10_isClosed_75 (by decide) ?_
                refine lv_icmp_ne (tgt := 83) hx hb dX10_isClosed_76 (by decide) (fun c76 => ?_) (fun c76 => ?_)
                · refine lv_iconst (v := 0) hx hb dX10_isClosed_83 (by decide) ?_
                  exact J84 0 _ _ (by
                      show _ = bI (allN (fun i => !hereB σ b i || stkB σ i) k && (!hereB σ b k || stkB σ k))
                      first
                      | (rw [bI_z.mp (ea.symm.trans c60)]; rfl)
                      | (rw [bI_t.mp (fun z => c60 (ea.trans z)), bI_z.mp (hh.symm.trans c65)]; rfl)
                      | (have g8 := bI_t.mp (fun z => c65 (hh.trans z))
                         have g7 : σ.2 10 k = 0 := by unfold hereB at g8; rw [Bool.and_eq_true] at g8; exact of_decide_eq_true g8.1
                         have f8 := hf k (by omega) g7
                         rw [bI_t.mp (fun z => c60 (ea.trans z)), g8]
                         first
                         | (rw [f8.mp (e74.symm.trans c76)]; rfl)
                         | (have g6 : stkB σ k = false := by
                              cases hq : stkB σ k with
                              | false => rfl
                              | true => exact absurd (e74.trans (f8.mpr hq)) c76
                            rw [g6]; rfl))) hW ls (lv_sub hl [0, 1, 2, 3, 4, 5] rfl)
                · refine lv_iconst (v := 1) hx hb dX10_isClosed_79 (by decide) ?_
                  refine lv_goto (tgt := 84) hx hb dX10_isClosed_80 (by decide) ?_
                  exact J84 1 _ _ (by
                      show _ = bI (allN (fun i => !hereB σ b i || stkB σ i) k && (!hereB σ b k || stkB σ k))
                      first
                      | (rw [bI_z.mp (ea.symm.trans c60)]; rfl)
                      | (rw [bI_t.mp (fun z => c60 (ea.trans z)), bI_z.mp (hh.symm.trans c65)]; rfl)
                      | (have g8 := bI_t.mp (fun z => c65 (hh.trans z))
                         have g7 : σ.2 10 k = 0 := by unfold hereB at g8; rw [Bool.and_eq_true] at g8; exact of_decide_eq_true g8.1
                         have f8 := hf k (by omega) g7
                         rw [bI_t.mp (fun z => c60 (ea.trans z)), g8]
                         first
                         | (rw [f8.mp (e74.symm.trans c76)]; rfl)
                         | (have g6 : stkB σ k = false := by
                              cases hq : stkB σ k with
                              | false => rfl
                              | true => exact absurd (e74.trans (f8.mpr hq)) c76
                            rw [g6]; rfl))) hW ls (lv_sub hl [0, 1, 2, 3, 4, 5] rfl)
          refine lv_iload_n hx hb dX10_isClosed_44 rfl (lv_at hl 3 rfl) ?_
          refine lv_if_ne (tgt := 53) hx hb dX10_isClosed_45 (by decide) (fun c45 => ?_) (fun c45 => ?_)
          · refine lv_iconst (v := 1) hx hb dX10_isClosed_53 (by decide) ?_
            refine lv_goto (tgt := 58) hx hb dX10_isClosed_54 (by decide) ?_
            exact J58 1 _ _ (by
                show _ = bI (anyN (hereB σ b) k || hereB σ b k)
                first
                | (rw [bI_t.mp (fun z => c45 (es.trans z))]; rfl)
                | (rw [bI_z.mp (es.symm.trans c45), bI_z.mp (hh.symm.trans c50)]; rfl)
                | (rw [bI_z.mp (es.symm.trans c45), bI_t.mp (fun z => c50 (hh.trans z))]; rfl)) hW ls (lv_sub hl [0, 1, 2, 3, 4, 5] rfl)
          · refine lv_iload hx hb dX10_isClosed_48 (lv_at hl 0 rfl) ?_
            refine lv_if_eq (tgt := 57) hx hb dX10_isClosed_50 (by decide) (fun c50 => ?_) (fun c50 => ?_)
            · refine lv_iconst (v := 0) hx hb dX10_isClosed_57 (by decide) ?_
              exact J58 0 _ _ (by
                  show _ = bI (anyN (hereB σ b) k || hereB σ b k)
                  first
                  | (rw [bI_t.mp (fun z => c45 (es.trans z))]; rfl)
                  | (rw [bI_z.mp (es.symm.trans c45), bI_z.mp (hh.symm.trans c50)]; rfl)
                  | (rw [bI_z.mp (es.symm.trans c45), bI_t.mp (fun z => c50 (hh.trans z))]; rfl)) hW ls (lv_sub hl [0, 1, 2, 3, 4, 5] rfl)
            · refine lv_iconst (v := 1) hx hb dX10_isClosed_53 (by decide) ?_
              refine lv_goto (tgt := 58) hx hb dX10_isClosed_54 (by decide) ?_
              exact J58 1 _ _ (by
                  show _ = bI (anyN (hereB σ b) k || hereB σ b k)
                  first
                  | (rw [bI_t.mp (fun z => c45 (es.trans z))]; rfl)
                  | (rw [bI_z.mp (es.symm.trans c45), bI_z.mp (hh.symm.trans c50)]; rfl)
                  | (rw [bI_z.mp (es.symm.trans c45), bI_t.mp (fun z => c50 (hh.trans z))]; rfl)) hW ls (lv_sub hl [0, 1, 2, 3, 4, 5] rfl)
        have oc := ok.2.2.2.2.2.2.1 k (by omega)
        refine lv_aload_n hx hb dX10_isClosed_16 rfl (lv_at hl 3 rfl) ?_
        refine wgF (t := 79) hx hb fa72 hW (hMs 60 (by decide) (by decide)) rfl dX10_isClosed_17 ?_
        refine lv_iload hx hb dX10_isClosed_20 (lv_at hl 0 rfl) ?_
        refine walZ (j := k) hx hb hK hW (hMs 79 (by decide) (by decide)) ek (by omega) (by decide) dX10_isClosed_22 (fun x22 e22 => ?_)
        refine lv_if_ne (tgt := 41) hx hb dX10_isClosed_23 (by decide) (fun c23 => ?_) (fun c23 => ?_)
        · refine lv_iconst (v := 0) hx hb dX10_isClosed_41 (by decide) ?_
          exact J42 0 _ _ (by
              have h9 : x22 = nI (σ.2 10 k) := e22.trans (hR.2.2.2.2.2.2.2.2.2.2.1 k (by omega))
              unfold hereB
              first
              | (rw [decide_eq_false (show ¬ σ.2 10 k = 0 from fun z => c23 (by rw [h9, z]; rfl))]; rfl)
              | (rw [decide_eq_true (gone0 oc.2.2.2 (h9.symm.trans c23)), decide_eq_true k34]; rfl)
              | (rw [decide_eq_true (gone0 oc.2.2.2 (h9.symm.trans c23)), decide_eq_false k34]; rfl)) hW ls (lv_sub hl [0, 1, 2, 3, 4] rfl)
        · refine lv_aload_n hx hb dX10_isClosed_26 rfl (lv_at hl 3 rfl) ?_
          refine wgF (t := 76) hx hb fa63 hW (hMs 60 (by decide) (by decide)) rfl dX10_isClosed_27 ?_
          refine lv_iload hx hb dX10_isClosed_30 (lv_at hl 0 rfl) ?_
          refine walI (j := k) hx hb hK hW (hMs 76 (by decide) (by decide)) ek (by omega) (by decide) dX10_isClosed_32 (fun x32 e32 => ?_)
          have n32 : x32 = nI (σ.2 7 k) := (e32.trans (hR.2.2.2.2.2.2.2.2.2.2.2 k (by omega)).1)
          refine lv_iload_n hx hb dX10_isClosed_33 rfl (lv_at hl 4 rfl) ?_
          refine lv_icmp_ne (tgt := 41) hx hb dX10_isClosed_34 (by decide) (fun c34 => ?_) (fun c34 => ?_)
          · have k34 : ¬ (σ.2 7 k) = b := kc_ne n32 eb (by omega) (by omega) c34
            refine lv_iconst (v := 0) hx hb dX10_isClosed_41 (by decide) ?_
            exact J42 0 _ _ (by
                have h9 : x22 = nI (σ.2 10 k) := e22.trans (hR.2.2.2.2.2.2.2.2.2.2.1 k (by omega))
                unfold hereB
                first
                | (rw [decide_eq_false (show ¬ σ.2 10 k = 0 from fun z => c23 (by rw [h9, z]; rfl))]; rfl)
                | (rw [decide_eq_true (gone0 oc.2.2.2 (h9.symm.trans c23)), decide_eq_true k34]; rfl)
                | (rw [decide_eq_true (gone0 oc.2.2.2 (h9.symm.trans c23)), decide_eq_false k34]; rfl)) hW ls (lv_sub hl [0, 1, 2, 3, 4] rfl)
          · have k34 : (σ.2 7 k) = b := kc_nen n32 eb (by omega) (by omega) c34
            refine lv_iconst (v := 1) hx hb dX10_isClosed_37 (by decide) ?_
            refine lv_goto (tgt := 42) hx hb dX10_isClosed_38 (by decide) ?_
            exact J42 1 _ _ (by
                have h9 : x22 = nI (σ.2 10 k) := e22.trans (hR.2.2.2.2.2.2.2.2.2.2.1 k (by omega))
                unfold hereB
                first
                | (rw [decide_eq_false (show ¬ σ.2 10 k = 0 from fun z => c23 (by rw [h9, z]; rfl))]; rfl)
                | (rw [decide_eq_true (gone0 oc.2.2.2 (h9.symm.trans c23)), decide_eq_true k34]; rfl)
                | (rw [decide_eq_true (gone0 oc.2.2.2 (h9.symm.trans c23)), decide_eq_false k34]; rfl)) hW ls (lv_sub hl [0, 1, 2, 3, 4] rfl)
  exact L7 (_ + 1) 0 0 1 0 _ _ (Nat.lt_succ_self _) (Nat.zero_le _) rfl rfl rfl hW ls (lv_sub hl [0, 1, 2, 3, 4] rfl)
set_option maxHeartbeats 4000000 in
set_option maxRecDepth 100000 in
theorem c_X10_closedAhead (l : Launch) (D : va_G) (cA : Nat → ClassId) (sh : Nat → Option Sh) (ad : Nat → Nat) (M : MS) (sz : Nat) (σ : AS) (ok : AOK σ) (hMs : MSh sh) (hR : MR σ M) (hf : ∀ i, i < aN σ → σ.2 10 i = 0 → (gI M 80 i = 1 ↔ stkB σ i = true)) (b : Nat) (hb9 : b ≤ 101) (xb : Int32) (eb : xb = nI b) : Met l yX10_closedAhead wsX10_closedAhead ({ frames := 1, cells := 0, slots := 0, locals := 25 }) (wPc D cA sh ad M sz [.ref (ad 60), .int xb]) (rQi (fun r => r = nI (cbN σ b))) 0 0 nA := by
  refine Met.ofW (cc := cX10_closedAhead) (maxL := 4) (ret := (some .int)) (by decide) rfl ?_
  intro p e s m args below meth cd0 s₁ B hml hv
  obtain ⟨rfl, hsz, hM, hK⟩ := hv
  have hx := B.exec
  have hb := B.bytes
  have hr := B.returns
  have hts := atoms_spec (ws := wsX10_closedAhead) B.pre
  have hown : s.vm.findClass RX10 = some m.cls := findClass_of_methodNamed B.named
  have hlocks := B.notSynchronized
  subst hsz
  obtain ⟨A, eA⟩ : ∃ A : Nat → Prop, A = nA := ⟨_, rfl⟩
  have hW : WS D cA sh ad A s.heap M s.heap [] := ⟨hM, va_S.rf⟩
  subst eA
  have hl := lv_entry ([.ref (ad 60), .int xb]) (n := 4) (Nat.le_of_ble_eq_true rfl)
  rw [lg_entry_eq]
  generalize (lg_sl ([.ref (ad 60), .int xb]) ++ List.replicate (4 - (lg_sl ([.ref (ad 60), .int xb])).length) Slot.unset).toArray = ls at hl ⊢
  have hl : lv_has ls 4 [(0, .ref (ad 60)), (1, .int xb)] := hl
  refine lv_iconst (v := 0) hx hb dX10_closedAhead_0 (by decide) ?_
  refine lv_istore_n (lv' := [(2, .int 0), (0, .ref (ad 60)), (1, .int xb)]) hx hb dX10_closedAhead_1 rfl hl (by decide) rfl (fun ls hl => ?_)
  refine lv_iconst (v := 0) hx hb dX10_closedAhead_2 (by decide) ?_
  refine lv_istore_n (lv' := [(3, .int 0), (2, .int 0), (0, .ref (ad 60)), (1, .int xb)]) hx hb dX10_closedAhead_3 rfl hl (by decide) rfl (fun ls hl => ?_)
  have L4 : ∀ (fu : Nat) (k : Nat) (xk : Int32) (xs : Int32) (H : Heap) (locs : List Loc), b - k < fu → (k ≤ b) → (xk = nI k) → (xs = nI (cbN σ k)) → WS D cA sh ad nA s.heap M H locs → ∀ ls, lv_has ls 4 [(3, .int xk), (2, .int xs), (0, .ref (ad 60)), (1, .int xb)] → W p l e (headSpec wsX10_closedAhead { frames := 1, cells := 0, slots := 0, locals := 25 }).room s m ([.ref (ad 60), .int xb] : List Value).toArray below meth cd0 H locs 0 0 (MQ below (rQi (fun r => r = nI (cbN σ b))) ([.ref (ad 60), .int xb] : List Value).toArray s 0 0 nA) (F0 m 4 ls []) := by
    intro fu
    induction fu with
    | zero =>
      intro k xk xs H locs hn hk ek es hW ls hl
      exact absurd hn (Nat.not_lt_zero _)
    | succ fu ih4 =>
      intro k xk xs H locs hn hk ek es hW ls hl
      refine lv_iload_n hx hb dX10_closedAhead_4 rfl (lv_at hl 0 rfl) ?_
      refine lv_iload_n hx hb dX10_closedAhead_5 rfl (lv_at hl 3 rfl) ?_
      refine lv_icmp_ge (tgt := 31) hx hb dX10_closedAhead_6 (by decide) (fun c6 => ?_) (fun c6 => ?_)
      · have k6 : b ≤ k := kc_ge ek eb (by omega) (by omega) c6
        refine lv_iload_n hx hb dX10_closedAhead_31 rfl (lv_at hl 1 rfl) ?_
        exact wr_ri hx hb hr hlocks hW.2 dX10_closedAhead_32 (by rw [es, show k = b by omega])
      · have k6 : ¬ b ≤ k := kc_gen ek eb (by omega) (by omega) c6
        refine lv_iload_n hx hb dX10_closedAhead_9 rfl (lv_at hl 1 rfl) ?_
        have J23 : ∀ (y : Int32) (H : Heap) (locs : List Loc), (y = nI (if clB σ k = true then 1 else 0)) → WS D cA sh ad nA s.heap M H locs → ∀ ls, lv_has ls 4 [(3, .int xk), (2, .int xs), (0, .ref (ad 60)), (1, .int xb)] → W p l e (headSpec wsX10_closedAhead { frames := 1, cells := 0, slots := 0, locals := 25 }).room s m ([.ref (ad 60), .int xb] : List Value).toArray below meth cd0 H locs 0 0 (MQ below (rQi (fun r => r = nI (cbN σ b))) ([.ref (ad 60), .int xb] : List Value).toArray s 0 0 nA) (F0 m 23 ls [.int y, .int xs]) := by
          intro y H locs hy hW ls hl
          refine lv_iadd hx hb dX10_closedAhead_23 ?_
          refine lv_topi (fun x23 e23 => ?_)
          refine lv_istore_n (lv' := [(2, .int x23), (3, .int xk), (0, .ref (ad 60)), (1, .int xb)]) hx hb dX10_closedAhead_24 rfl hl (by decide) rfl (fun ls hl => ?_)
          obtain ⟨x25, e25⟩ : ∃ y : Int32, y = xk + 1 := ⟨_, rfl⟩
          refine lv_iinc (v := x25) (lv' := [(3, .int x25), (2, .int x23), (0, .ref (ad 60)), (1, .int xb)]) hx hb dX10_closedAhead_25 hl (k := 1) rfl (by rw [e25]; rfl) (by decide) rfl (fun ls hl => ?_)
          refine lv_goto (tgt := 4) hx hb dX10_closedAhead_28 (by decide) ?_
          exact ih4 (k + 1) x25 x23 _ _ (by omega) (by omega) (by rw [e25, ek, nlit 1, nI_add]) (by rw [e23, es, hy, nI_add]; rfl) hW ls (lv_sub hl [0, 1, 2, 3] rfl)
        refine lv_aload_n hx hb dX10_closedAhead_10 rfl (lv_at hl 2 rfl) ?_
        refine lv_iload_n hx hb dX10_closedAhead_11 rfl (lv_at hl 0 rfl) ?_
        refine wc_ri (va_runV (As := [.int xk]) (rest := [.int xs]) ⟨hx, hb, hml, hown, hts⟩ (c_X10_isClosed l D cA sh ad M _ σ ok hMs hR hf k (by omega) xk ek) (cwV 1 hts gX10_closedAhead_X10_isClosed rfl rfl rfl (by decide +kernel) ⟨Nat.le_of_ble_eq_true rfl, Nat.le_of_ble_eq_true rfl⟩) (wpreV hK hW (C := RX10) (ci := 10) (hMs 60 (by decide) (by decide)) rfl) rfl rfl hl.1 rfl (lv_room (Nat.le_of_ble_eq_true rfl)) dX10_closedAhead_12 ⟨Nat.le_of_ble_eq_true rfl, Nat.le_of_ble_eq_true rfl⟩) hW (fun x12 H locs p12 hW => ?_)
        try dsimp only at p12
        refine lv_if_eq (tgt := 22) hx hb dX10_closedAhead_15 (by decide) (fun c15 => ?_) (fun c15 => ?_)
        · refine lv_iconst (v := 0) hx hb dX10_closedAhead_22 (by decide) ?_
          exact J23 0 _ _ (by rw [p12] at c15; first | (rw [bI_z.mp c15]; rfl) | (rw [bI_t.mp c15]; rfl)) hW ls (lv_sub hl [0, 1, 2, 3] rfl)
        · refine lv_iconst (v := 1) hx hb dX10_closedAhead_18 (by decide) ?_
          refine lv_goto (tgt := 23) hx hb dX10_closedAhead_19 (by decide) ?_
          exact J23 1 _ _ (by rw [p12] at c15; first | (rw [bI_z.mp c15]; rfl) | (rw [bI_t.mp c15]; rfl)) hW ls (lv_sub hl [0, 1, 2, 3] rfl)
  exact L4 (_ + 1) 0 0 0 _ _ (Nat.lt_succ_self _) (Nat.zero_le _) rfl rfl hW ls (lv_sub hl [0, 1, 2, 3] rfl)
set_option maxHeartbeats 4000000 in
set_option maxRecDepth 100000 in
theorem c_X10_isAhead (l : Launch) (D : va_G) (cA : Nat → ClassId) (sh : Nat → Option Sh) (ad : Nat → Nat) (M : MS) (sz : Nat) (hMs : MSh sh) (i j : Nat) (hi : i < 40) (hj : j < 40) (xi xj : Int32) (ei : xi = nI i) (ej : xj = nI j) : Met l yX10_isAhead wsX10_isAhead ({ frames := 0, cells := 0, slots := 0, locals := 0 }) (wPc D cA sh ad M sz [.ref (ad 60), .int xi, .int xj]) (rQi (fun r => r = bI (decide (gI M 81 i < gI M 81 j ∨ (gI M 81 i = gI M 81 j ∧ i < j))))) 0 0 nA := by
  refine Met.ofW (cc := cX10_isAhead) (maxL := 3) (ret := (some .boolean)) (by decide) rfl ?_
  intro p e s m args below meth cd0 s₁ B hml hv
  obtain ⟨rfl, hsz, hM, hK⟩ := hv
  have hx := B.exec
  have hb := B.bytes
  have hr := B.returns
  have hts := atoms_spec (ws := wsX10_isAhead) B.pre
  have hown : s.vm.findClass RX10 = some m.cls := findClass_of_methodNamed B.named
  have hlocks := B.notSynchronized
  subst hsz
  obtain ⟨A, eA⟩ : ∃ A : Nat → Prop, A = nA := ⟨_, rfl⟩
  have hW : WS D cA sh ad A s.heap M s.heap [] := ⟨hM, va_S.rf⟩
  subst eA
  have fa78 : FA D s m ([.ref (ad 60), .int xi, .int xj] : List Value).toArray 78 10 23 := FA.mk (C := RX10) (T := TX10) (N := 29) hts (fun _ h => List.mem_cons_of_mem _ (List.mem_append_right _ (h))) hown hK rfl (by decide) (hts (.fieldLink RX10 78 "MortarShowModel" "tick" "[I") (List.mem_of_getElem? (i := 1) rfl))
  have hl := lv_entry ([.ref (ad 60), .int xi, .int xj]) (n := 3) (Nat.le_of_ble_eq_true rfl)
  rw [lg_entry_eq]
  generalize (lg_sl ([.ref (ad 60), .int xi, .int xj]) ++ List.replicate (3 - (lg_sl ([.ref (ad 60), .int xi, .int xj])).length) Slot.unset).toArray = ls at hl ⊢
  have hl : lv_has ls 3 [(0, .ref (ad 60)), (1, .int xi), (2, .int xj)] := hl
  refine lv_aload_n hx hb dX10_isAhead_0 rfl (lv_at hl 0 rfl) ?_
  refine wgF (t := 81) hx hb fa78 hW (hMs 60 (by decide) (by decide)) rfl dX10_isAhead_1 ?_
  refine lv_iload_n hx hb dX10_isAhead_4 rfl (lv_at hl 1 rfl) ?_
  refine walI (j := i) hx hb hK hW (hMs 81 (by decide) (by decide)) ei (by omega) (by decide) dX10_isAhead_5 (fun x5 e5 => ?_)
  refine lv_aload_n hx hb dX10_isAhead_6 rfl (lv_at hl 0 rfl) ?_
  refine wgF (t := 81) hx hb fa78 hW (hMs 60 (by decide) (by decide)) rfl dX10_isAhead_7 ?_
  refine lv_iload_n hx hb dX10_isAhead_10 rfl (lv_at hl 2 rfl) ?_
  refine walI (j := j) hx hb hK hW (hMs 81 (by decide) (by decide)) ej (by omega) (by decide) dX10_isAhead_11 (fun x11 e11 => ?_)
  refine lv_icmp_lt (tgt := 35) hx hb dX10_isAhead_12 (by decide) (fun c12 => ?_) (fun c12 => ?_)
  · refine lv_iconst (v := 1) hx hb dX10_isAhead_35 (by decide) ?_
    refine lv_goto (tgt := 40) hx hb dX10_isAhead_36 (by decide) ?_
    exact wr_rz hx hb hr hlocks hW.2 dX10_isAhead_40 rfl (by rw [decide_eq_true (by first | exact Or.inl (by rw [← e5, ← e11]; exact c12) | exact Or.inr ⟨by rw [← e20, ← e26]; exact c27, by omega⟩)]; rfl)
  · refine lv_aload_n hx hb dX10_isAhead_15 rfl (lv_at hl 0 rfl) ?_
    refine wgF (t := 81) hx hb fa78 hW (hMs 60 (by decide) (by decide)) rfl dX10_isAhead_16 ?_
    refine lv_iload_n hx hb dX10_isAhead_19 rfl (lv_at hl 1 rfl) ?_
    refine walI (j := i) hx hb hK hW (hMs 81 (by decide) (by decide)) ei (by omega) (by decide) dX10_isAhead_20 (fun x20 e20 => ?_)
    refine lv_aload_n hx hb dX10_isAhead_21 rfl (lv_at hl 0 rfl) ?_
    refine wgF (t := 81) hx hb fa78 hW (hMs 60 (by decide) (by decide)) rfl dX10_isAhead_22 ?_
    refine lv_iload_n hx hb dX10_isAhead_25 rfl (lv_at hl 2 rfl) ?_
    refine walI (j := j) hx hb hK hW (hMs 81 (by decide) (by decide)) ej (by omega) (by decide) dX10_isAhead_26 (fun x26 e26 => ?_)
    refine lv_icmp_ne (tgt := 39) hx hb dX10_isAhead_27 (by decide) (fun c27 => ?_) (fun c27 => ?_)
    · refine lv_iconst (v := 0) hx hb dX10_isAhead_39 (by decide) ?_
      exact wr_rz hx hb hr hlocks hW.2 dX10_isAhead_40 rfl (by rw [decide_eq_false (fun z => by rw [← e5, ← e11] at z; first | exact z.elim c12 (fun y => c27 (by rw [e20, e26, ← e5, ← e11]; exact y.1)) | exact z.elim c12 (fun y => by omega))]; rfl)
    · refine lv_iload_n hx hb dX10_isAhead_30 rfl (lv_at hl 1 rfl) ?_
      refine lv_iload_n hx hb dX10_isAhead_31 rfl (lv_at hl 2 rfl) ?_
      refine lv_icmp_ge (tgt := 39) hx hb dX10_isAhead_32 (by decide) (fun c32 => ?_) (fun c32 => ?_)
      · have k32 : j ≤ i := kc_ge ei ej (by omega) (by omega) c32
        refine lv_iconst (v := 0) hx hb dX10_isAhead_39 (by decide) ?_
        exact wr_rz hx hb hr hlocks hW.2 dX10_isAhead_40 rfl (by rw [decide_eq_false (fun z => by rw [← e5, ← e11] at z; first | exact z.elim c12 (fun y => c27 (by rw [e20, e26, ← e5, ← e11]; exact y.1)) | exact z.elim c12 (fun y => by omega))]; rfl)
      · have k32 : ¬ j ≤ i := kc_gen ei ej (by omega) (by omega) c32
        refine lv_iconst (v := 1) hx hb dX10_isAhead_35 (by decide) ?_
        refine lv_goto (tgt := 40) hx hb dX10_isAhead_36 (by decide) ?_
        exact wr_rz hx hb hr hlocks hW.2 dX10_isAhead_40 rfl (by rw [decide_eq_true (by first | exact Or.inl (by rw [← e5, ← e11]; exact c12) | exact Or.inr ⟨by rw [← e20, ← e26]; exact c27, by omega⟩)]; rfl)

/-! Channels. -/
def firstB (p : Nat → Bool) : Nat → Option Nat
  | 0 => none
  | n + 1 => match firstB p n with
    | some c => some c
    | none => if p n = true then some n else none
theorem firstB_some {p : Nat → Bool} : ∀ {n c : Nat}, firstB p n = some c → c < n ∧ p c = true ∧ ∀ d, d < c → p d = false
  | 0, c, h => by cases h
  | n + 1, c, h => by
    unfold firstB at h
    cases hq : firstB p n with
    | some d =>
      rw [hq] at h
      cases h
      obtain ⟨a, b, e⟩ := firstB_some hq
      exact ⟨by omega, b, e⟩
    | none =>
      rw [hq] at h
      by_cases hp : p n = true
      · simp [hp] at h
        subst h
        refine ⟨by omega, hp, fun d hd => ?_⟩
        have key : ∀ m, firstB p m = none → ∀ d, d < m → p d = false := by
          intro m
          induction m with
          | zero => intro _ d hd; exact absurd hd (Nat.not_lt_zero d)
          | succ m ih =>
            intro hm d hd
            unfold firstB at hm
            cases hq2 : firstB p m with
            | some x => rw [hq2] at hm; cases hm
            | none =>
              rw [hq2] at hm
              by_cases e : d = m
              · subst e
                cases hpd : p d with
                | false => rfl
                | true => simp [hpd] at hm
              · exact ih hq2 d (by omega)
        exact key n hq d hd
      · simp [hp] at h
theorem firstB_none {p : Nat → Bool} : ∀ {n : Nat}, firstB p n = none → ∀ d, d < n → p d = false
  | 0, _, d, hd => absurd hd (Nat.not_lt_zero d)
  | n + 1, h, d, hd => by
    unfold firstB at h
    cases hq : firstB p n with
    | some x => rw [hq] at h; cases h
    | none =>
      rw [hq] at h
      by_cases e : d = n
      · subst e
        cases hpd : p d with
        | false => rfl
        | true => simp [hpd] at h
      · exact firstB_none hq d (by omega)
theorem firstB_is {p : Nat → Bool} {n c : Nat} (hc : c < n) (hp : p c = true) (hl : ∀ d, d < c → p d = false) : firstB p n = some c := by
  cases hq : firstB p n with
  | none => rw [firstB_none hq c hc] at hp; cases hp
  | some d =>
    obtain ⟨a, b, e⟩ := firstB_some hq
    rcases Nat.lt_or_ge d c with z | z
    · rw [hl d z] at b; cases b
    · rcases Nat.lt_or_ge c d with y | y
      · rw [e c y] at hp; cases hp
      · rw [show d = c by omega]
theorem firstB_no {p : Nat → Bool} {n : Nat} (hl : ∀ d, d < n → p d = false) : firstB p n = none := by
  cases hq : firstB p n with
  | none => rfl
  | some d => obtain ⟨a, b, e⟩ := firstB_some hq; rw [hl d a] at b; cases b
theorem firstB_cong {p q : Nat → Bool} {n : Nat} (h : ∀ d, d < n → p d = q d) : firstB p n = firstB q n := by
  cases hq : firstB q n with
  | none => exact firstB_no (fun d hd => by rw [h d hd]; exact firstB_none hq d hd)
  | some c => obtain ⟨a, b, e⟩ := firstB_some hq; exact firstB_is a (by rw [h c a]; exact b) (fun d hd => by rw [h d (by omega)]; exact e d hd)
def gapOk (σ : AS) (d : Int32) : Bool := decide (nI (σ.2 5 0) ≤ d ∨ nI (σ.2 5 0) ≤ -d)
def hasG (σ : AS) (g : Nat → Option Nat) (b : Nat) (t : Int32) : Bool := (List.range 8).all fun c => match g (8 * b + c) with
  | none => true
  | some i => gapOk σ (t - tkI σ i)
theorem hasG_iff {σ : AS} {g : Nat → Option Nat} {b : Nat} {t : Int32} : hasG σ g b t = true ↔ ∀ c, c < 8 → ∀ i, g (8 * b + c) = some i → gapOk σ (t - tkI σ i) = true := by
  unfold hasG
  rw [List.all_eq_true]
  constructor
  · intro h c hc i hi
    have := h c (List.mem_range.mpr hc)
    rw [hi] at this; exact this
  · intro h c hc
    cases hg : g (8 * b + c) with
    | none => rfl
    | some i => exact h c (List.mem_range.mp hc) i hg
/-- the lowest channel from 'lo' on, below 'hi' in its box, that a cue of the tick t may get -/
def frB (σ : AS) (g : Nat → Option Nat) (t : Int32) (lo hi c : Nat) : Bool := decide (σ.2 3 c = 0) && (decide (g c = none) && (hasG σ g (c / 8) t && decide (lo ≤ c % 8 ∧ c % 8 < hi)))
def chF (σ : AS) (g : Nat → Option Nat) (t : Int32) : Option Nat := match firstB (frB σ g t 0 6) 32 with
  | some c => some c
  | none => firstB (frB σ g t 6 8) 32
/-- i at the channel o, if there is one -/
def put1 (o : Option Nat) (i : Nat) (g : Nat → Option Nat) : Nat → Option Nat := match o with
  | none => g
  | some c => fun d => if d = c then some i else g d
theorem put1_n (i : Nat) (g : Nat → Option Nat) : put1 none i g = g := rfl
theorem put1_s (c i : Nat) (g : Nat → Option Nat) : put1 (some c) i g = fun d => if d = c then some i else g d := rfl
def gvn (σ : AS) (q : Nat → Nat) : Nat → Nat → Option Nat
  | 0 => fun _ => none
  | k + 1 => put1 (chF σ (gvn σ q k) (tkI σ (q k))) (q k) (gvn σ q k)
def chq (σ : AS) (q : Nat → Nat) (k : Nat) : Option Nat := chF σ (gvn σ q k) (tkI σ (q k))
def opI (o : Option Nat) : Int32 := match o with
  | none => -1
  | some i => nI i
theorem opI_n1 {o : Option Nat} (h : ∀ i, o = some i → i < 1000) : opI o = -1 ↔ o = none := by
  cases o with
  | none => simp [opI]
  | some i =>
    have hi := h i rfl
    constructor
    · intro q
      have q2 : (nI i).toInt = (-1 : Int32).toInt := congrArg Int32.toInt q
      rw [nI_toInt (by omega)] at q2
      have : (-1 : Int32).toInt = -1 := rfl
      omega
    · intro q; cases q
/-- how many of the first k get a channel -/
def lit (σ : AS) (q : Nat → Nat) : Nat → Nat
  | 0 => 0
  | k + 1 => lit σ q k + if chq σ q k = none then 0 else 1
theorem lit_le (σ : AS) (q : Nat → Nat) : ∀ k, lit σ q k ≤ k
  | 0 => Nat.le_refl _
  | k + 1 => by have := lit_le σ q k; unfold lit; split <;> omega
theorem lit_mono (σ : AS) (q : Nat → Nat) {j : Nat} : ∀ {k : Nat}, j ≤ k → lit σ q j ≤ lit σ q k
  | 0, h => by rw [show j = 0 by omega]; exact Nat.le_refl _
  | k + 1, h => by
    by_cases e : j = k + 1
    · rw [e]; exact Nat.le_refl _
    · have := lit_mono σ q (j := j) (k := k) (by omega)
      show _ ≤ lit σ q k + _
      omega
/-- the free channel, as the class's cells tell it -/
def frX (M : MS) (t : Int32) (lo hi c : Nat) : Prop := gI M 17 c = 0 ∧ gI M 18 c = -1 ∧ gI M 16 3 ≤ t - gI M 19 (c / 8) ∧ lo ≤ c % 8 ∧ c % 8 < hi
theorem chF_lt {σ : AS} {g : Nat → Option Nat} {t : Int32} {c : Nat} (h : chF σ g t = some c) : c < 32 ∧ g c = none := by
  unfold chF at h
  have key : ∀ lo hi, firstB (frB σ g t lo hi) 32 = some c → c < 32 ∧ g c = none := fun lo hi hq => by
    obtain ⟨a, b, -⟩ := firstB_some hq
    unfold frB at b
    simp only [Bool.and_eq_true, decide_eq_true_eq] at b
    exact ⟨a, b.2.1⟩
  cases hq : firstB (frB σ g t 0 6) 32 with
  | some d => rw [hq] at h; cases h; exact key 0 6 hq
  | none => rw [hq] at h; exact key 6 8 h
theorem gvn_s (σ : AS) (q : Nat → Nat) (k : Nat) : gvn σ q (k + 1) = put1 (chq σ q k) (q k) (gvn σ q k) := rfl
theorem gvn_src {σ : AS} {q : Nat → Nat} {k : Nat} : ∀ {c i : Nat}, gvn σ q k c = some i → ∃ j, j < k ∧ q j = i := by
  induction k with
  | zero => intro c i h; cases h
  | succ k ih =>
    intro c i h
    rw [gvn_s] at h
    generalize chq σ q k = o at h
    cases o with
    | none =>
      rw [put1_n] at h
      obtain ⟨j, hj, e⟩ := ih h
      exact ⟨j, Nat.lt_succ_of_lt hj, e⟩
    | some d =>
      rw [put1_s] at h
      dsimp only at h
      by_cases e : c = d
      · rw [if_pos e] at h
        exact ⟨k, Nat.lt_succ_self k, Option.some.inj h⟩
      · rw [if_neg e] at h
        obtain ⟨j, hj, e2⟩ := ih h
        exact ⟨j, Nat.lt_succ_of_lt hj, e2⟩
/-- ticks that can be fired lie between 0 and 10000 -/
theorem tk_rng {σ : AS} (ok : AOK σ) {i : Nat} (h : elg σ i) : 0 ≤ (tkI σ i).toInt ∧ (tkI σ i).toInt ≤ 10000 := by
  obtain ⟨h1, h2, h3, h4⟩ := h
  obtain ⟨b1, b2, b3, b4⟩ := ok.2.2.2.2.2.2.1 i h1
  have c1 := cbN_le σ (σ.2 7 i)
  have t1 := ok.2.2.2.2.1
  have hN := (ok.2.2.2.2.2.2.2.1 _ b2).2.2
  have l1 := liftN_le (σ.1 2 (σ.2 8 i)) (σ.1 3 (σ.2 8 i)) (σ.2 11 (σ.2 8 i))
  have e1 : burI σ i = nI ((σ.2 7 i - cbN σ (σ.2 7 i)) * σ.2 4 0) := by unfold burI; rw [pk_sub c1, pk_mul]
  have m1 : (σ.2 7 i - cbN σ (σ.2 7 i)) * σ.2 4 0 ≤ 100 * 100 := Nat.mul_le_mul (by omega) t1.2
  have e2 : (tkI σ i).toInt = (((σ.2 7 i - cbN σ (σ.2 7 i)) * σ.2 4 0 : Nat) : Int) - (liA σ i : Int) := by
    unfold tkI
    have hl : liA σ i ≤ 3000 := by unfold liA; omega
    rw [e1, i32sub] <;> rw [nI_toInt (by omega), nI_toInt (by omega)] <;> omega
  have z : (0 : Int32).toInt = 0 := rfl
  rw [i32lt, z] at h4
  omega
set_option maxHeartbeats 4000000 in
set_option maxRecDepth 100000 in
theorem c_X1_clear (l : Launch) (D : va_G) (cA : Nat → ClassId) (sh : Nat → Option Sh) (ad : Nat → Nat) (M : MS) (sz : Nat) (n : Nat) (hX : XSh n sh) : Met l yX1_clear wsX1_clear ({ frames := 1, cells := 0, slots := 0, locals := 23 }) (wPc D cA sh ad M sz [.ref (ad 16)]) (wQv D cA sh ad (fun M' => oI (fun p _ => p = 18 ∨ p = 19) M M' ∧ (∀ c, c < 32 → gI M' 18 c = -1) ∧ ∀ b, b < 4 → gI M' 19 b = -1000) (wA sh ad sz)) 0 0 (wA sh ad sz) := by
  refine Met.ofW (cc := cX1_clear) (maxL := 1) (ret := none) (by decide) rfl ?_
  intro p e s m args below meth cd0 s₁ B hml hv
  obtain ⟨rfl, hsz, hM, hK⟩ := hv
  have hx := B.exec
  have hb := B.bytes
  have hr := B.returns
  have hts := atoms_spec (ws := wsX1_clear) B.pre
  have hown : s.vm.findClass RX1 = some m.cls := findClass_of_methodNamed B.named
  have hlocks := B.notSynchronized
  subst hsz
  have hA := wA_PA sh ad s.heap
  generalize wA sh ad s.heap.size = A at hA ⊢
  have hW : WS D cA sh ad A s.heap M s.heap [] := ⟨hM, va_S.rf⟩
  have fa15 : FA D s m ([.ref (ad 16)] : List Value).toArray 15 1 1 := FA.mk (C := RX1) (T := TX1) (N := 4) hts (fun _ h => List.mem_cons_of_mem _ (List.mem_append_right _ (h))) hown hK rfl (by decide) (hts (.fieldLink RX1 15 "MortarShow$Boxes" "given" "[I") (List.mem_of_getElem? (i := 1) rfl))
  have fa19 : FA D s m ([.ref (ad 16)] : List Value).toArray 19 1 2 := FA.mk (C := RX1) (T := TX1) (N := 4) hts (fun _ h => List.mem_cons_of_mem _ (List.mem_append_right _ (h))) hown hK rfl (by decide) (hts (.fieldLink RX1 19 "MortarShow$Boxes" "lastTick" "[I") (List.mem_of_getElem? (i := 2) rfl))
  have hl := lv_entry ([.ref (ad 16)]) (n := 1) (Nat.le_of_ble_eq_true rfl)
  rw [lg_entry_eq]
  generalize (lg_sl ([.ref (ad 16)]) ++ List.replicate (1 - (lg_sl ([.ref (ad 16)])).length) Slot.unset).toArray = ls at hl ⊢
  have hl : lv_has ls 1 [(0, .ref (ad 16))] := hl
  refine lv_aload_n hx hb dX1_clear_0 rfl (lv_at hl 0 rfl) ?_
  refine wgF (t := 18) hx hb fa15 hW (hX.1 16 (by decide)) rfl dX1_clear_1 ?_
  refine lv_iconst (v := (-1)) hx hb dX1_clear_4 (by decide) ?_
  refine wc_wv (va_runS (As := [.ref (ad 18), .int (-1)]) (rest := []) ⟨hx, hb, hml, hown, hts⟩ (c_J7_fill_53178 l D cA sh ad M _ 18 32 (by decide) (hX.1 18 (by decide)) (-1)) (va_cwS 2 hts gX1_clear_J7_fill_53178 rfl rfl rfl (by decide +kernel) ⟨Nat.le_of_ble_eq_true rfl, Nat.le_of_ble_eq_true rfl⟩) (wpreS hK hW) rfl rfl hl.1 rfl (lv_room (Nat.le_of_ble_eq_true rfl)) dX1_clear_5 ⟨Nat.le_of_ble_eq_true rfl, Nat.le_of_ble_eq_true rfl⟩) hA hW (fun M5 H locs p5 hW => ?_)
  try dsimp only at p5
  refine lv_aload_n hx hb dX1_clear_8 rfl (lv_at hl 0 rfl) ?_
  refine wgF (t := 19) hx hb fa19 hW (hX.1 16 (by decide)) rfl dX1_clear_9 ?_
  refine lv_sipush (v := (-1000)) hx hb dX1_clear_12 (by decide) ?_
  refine wc_wv (va_runS (As := [.ref (ad 19), .int (-1000)]) (rest := []) ⟨hx, hb, hml, hown, hts⟩ (c_J7_fill_53178 l D cA sh ad M5 _ 19 4 (by decide) (hX.1 19 (by decide)) (-1000)) (va_cwS 2 hts gX1_clear_J7_fill_53178 rfl rfl rfl (by decide +kernel) ⟨Nat.le_of_ble_eq_true rfl, Nat.le_of_ble_eq_true rfl⟩) (wpreS hK hW) rfl rfl hl.1 rfl (lv_room (Nat.le_of_ble_eq_true rfl)) dX1_clear_15 ⟨Nat.le_of_ble_eq_true rfl, Nat.le_of_ble_eq_true rfl⟩) hA hW (fun M15 H locs p15 hW => ?_)
  try dsimp only at p15
  exact wr_wv hx hb hr hlocks hW dX1_clear_18 ⟨(p5.2.mono (fun p k z => Or.inl z.1)).trans (p15.2.mono (fun p k z => Or.inr z.1)), fun c hc => by rw [p15.2.1 _ _ (by omega)]; exact p5.1 c hc, fun b hb => p15.1 b hb⟩
set_option maxHeartbeats 4000000 in
set_option maxRecDepth 100000 in
theorem c_X1_lowestFree (l : Launch) (D : va_G) (cA : Nat → ClassId) (sh : Nat → Option Sh) (ad : Nat → Nat) (M : MS) (sz : Nat) (n : Nat) (hX : XSh n sh) (lo hi : Nat) (hlo : lo ≤ hi ∧ hi ≤ 8) (xlo xhi t : Int32) (elo : xlo = nI lo) (ehi : xhi = nI hi) : Met l yX1_lowestFree wsX1_lowestFree ({ frames := 0, cells := 0, slots := 0, locals := 0 }) (wPc D cA sh ad M sz [.ref (ad 16), .int xlo, .int xhi, .int t]) (rQi (fun r => (r = -1 ∧ ∀ d, d < 32 → ¬ frX M t lo hi d) ∨ ∃ c, c < 32 ∧ r = nI c ∧ frX M t lo hi c ∧ ∀ d, d < c → ¬ frX M t lo hi d)) 0 0 nA := by
  refine Met.ofW (cc := cX1_lowestFree) (maxL := 7) (ret := (some .int)) (by decide) rfl ?_
  intro p e s m args below meth cd0 s₁ B hml hv
  obtain ⟨rfl, hsz, hM, hK⟩ := hv
  have hx := B.exec
  have hb := B.bytes
  have hr := B.returns
  have hts := atoms_spec (ws := wsX1_lowestFree) B.pre
  have hown : s.vm.findClass RX1 = some m.cls := findClass_of_methodNamed B.named
  have hlocks := B.notSynchronized
  subst hsz
  obtain ⟨A, eA⟩ : ∃ A : Nat → Prop, A = nA := ⟨_, rfl⟩
  have hW : WS D cA sh ad A s.heap M s.heap [] := ⟨hM, va_S.rf⟩
  subst eA
  have fa9 : FA D s m ([.ref (ad 16), .int xlo, .int xhi, .int t] : List Value).toArray 9 1 0 := FA.mk (C := RX1) (T := TX1) (N := 4) hts (fun _ h => List.mem_cons_of_mem _ (List.mem_append_right _ (h))) hown hK rfl (by decide) (hts (.fieldLink RX1 9 "MortarShow$Boxes" "dead" "[Z") (List.mem_of_getElem? (i := 3) rfl))
  have fa15 : FA D s m ([.ref (ad 16), .int xlo, .int xhi, .int t] : List Value).toArray 15 1 1 := FA.mk (C := RX1) (T := TX1) (N := 4) hts (fun _ h => List.mem_cons_of_mem _ (List.mem_append_right _ (h))) hown hK rfl (by decide) (hts (.fieldLink RX1 15 "MortarShow$Boxes" "given" "[I") (List.mem_of_getElem? (i := 4) rfl))
  have fa19 : FA D s m ([.ref (ad 16), .int xlo, .int xhi, .int t] : List Value).toArray 19 1 2 := FA.mk (C := RX1) (T := TX1) (N := 4) hts (fun _ h => List.mem_cons_of_mem _ (List.mem_append_right _ (h))) hown hK rfl (by decide) (hts (.fieldLink RX1 19 "MortarShow$Boxes" "lastTick" "[I") (List.mem_of_getElem? (i := 1) rfl))
  have fa22 : FA D s m ([.ref (ad 16), .int xlo, .int xhi, .int t] : List Value).toArray 22 1 3 := FA.mk (C := RX1) (T := TX1) (N := 4) hts (fun _ h => List.mem_cons_of_mem _ (List.mem_append_right _ (h))) hown hK rfl (by decide) (hts (.fieldLink RX1 22 "MortarShow$Boxes" "gap" "I") (List.mem_of_getElem? (i := 2) rfl))
  have hl := lv_entry ([.ref (ad 16), .int xlo, .int xhi, .int t]) (n := 7) (Nat.le_of_ble_eq_true rfl)
  rw [lg_entry_eq]
  generalize (lg_sl ([.ref (ad 16), .int xlo, .int xhi, .int t]) ++ List.replicate (7 - (lg_sl ([.ref (ad 16), .int xlo, .int xhi, .int t])).length) Slot.unset).toArray = ls at hl ⊢
  have hl : lv_has ls 7 [(0, .ref (ad 16)), (1, .int xlo), (2, .int xhi), (3, .int t)] := hl
  refine lv_iconst (v := 0) hx hb dX1_lowestFree_0 (by decide) ?_
  refine lv_istore (lv' := [(4, .int 0), (0, .ref (ad 16)), (1, .int xlo), (2, .int xhi), (3, .int t)]) hx hb dX1_lowestFree_1 hl (by decide) rfl (fun ls hl => ?_)
  have L3 : ∀ (fu : Nat) (b : Nat) (xb : Int32) (H : Heap) (locs : List Loc), 4 - b < fu → (b ≤ 4) → (xb = nI b) → (∀ d, d < 8 * b → ¬ frX M t lo hi d) → WS D cA sh ad nA s.heap M H locs → ∀ ls, lv_has ls 7 [(4, .int xb), (0, .ref (ad 16)), (1, .int xlo), (2, .int xhi), (3, .int t)] → W p l e (headSpec wsX1_lowestFree { frames := 0, cells := 0, slots := 0, locals := 0 }).room s m ([.ref (ad 16), .int xlo, .int xhi, .int t] : List Value).toArray below meth cd0 H locs 0 0 (MQ below (rQi (fun r => (r = -1 ∧ ∀ d, d < 32 → ¬ frX M t lo hi d) ∨ ∃ c, c < 32 ∧ r = nI c ∧ frX M t lo hi c ∧ ∀ d, d < c → ¬ frX M t lo hi d)) ([.ref (ad 16), .int xlo, .int xhi, .int t] : List Value).toArray s 0 0 nA) (F0 m 3 ls []) := by
    intro fu
    induction fu with
    | zero =>
      intro b xb H locs hn hb4 eb f1 hW ls hl
      exact absurd hn (Nat.not_lt_zero _)
    | succ fu ih3 =>
      intro b xb H locs hn hb4 eb f1 hW ls hl
      refine lv_iload hx hb dX1_lowestFree_3 (lv_at hl 0 rfl) ?_
      refine lv_iconst (v := 4) hx hb dX1_lowestFree_5 (by decide) ?_
      refine lv_icmp_ge (tgt := 80) hx hb dX1_lowestFree_6 (by decide) (fun c6 => ?_) (fun c6 => ?_)
      · have k6 : 4 ≤ b := kc_ge eb (nlit 4) (by omega) (by omega) c6
        refine lv_iconst (v := (-1)) hx hb dX1_lowestFree_80 (by decide) ?_
        exact wr_ri hx hb hr hlocks hW.2 dX1_lowestFree_81 (Or.inl ⟨rfl, fun d hd => f1 d (by omega)⟩)
      · have k6 : ¬ 4 ≤ b := kc_gen eb (nlit 4) (by omega) (by omega) c6
        refine lv_iload_n hx hb dX1_lowestFree_9 rfl (lv_at hl 4 rfl) ?_
        refine lv_aload_n hx hb dX1_lowestFree_10 rfl (lv_at hl 1 rfl) ?_
        refine wgF (t := 19) hx hb fa19 hW (hX.1 16 (by decide)) rfl dX1_lowestFree_11 ?_
        refine lv_iload hx hb dX1_lowestFree_14 (lv_at hl 0 rfl) ?_
        refine walI (j := b) hx hb hK hW (hX.1 19 (by decide)) eb (by omega) (by decide) dX1_lowestFree_16 (fun x16 e16 => ?_)
        refine lv_isub hx hb dX1_lowestFree_17 ?_
        refine lv_topi (fun x17 e17 => ?_)
        refine lv_aload_n hx hb dX1_lowestFree_18 rfl (lv_at hl 1 rfl) ?_
        refine wgI hx hb fa22 hW (hX.1 16 (by decide)) rfl dX1_lowestFree_19 (fun x19 e19 => ?_)
        refine lv_icmp_lt (tgt := 74) hx hb dX1_lowestFree_22 (by decide) (fun c22 => ?_) (fun c22 => ?_)
        · obtain ⟨x74, e74⟩ : ∃ y : Int32, y = xb + 1 := ⟨_, rfl⟩
          refine lv_iinc (v := x74) (lv' := [(4, .int x74), (0, .ref (ad 16)), (1, .int xlo), (2, .int xhi), (3, .int t)]) hx hb dX1_lowestFree_74 hl (k := 0) rfl (by rw [e74]; rfl) (by decide) rfl (fun ls hl => ?_)
          refine lv_goto (tgt := 3) hx hb dX1_lowestFree_77 (by decide) ?_
          exact ih3 (b + 1) x74 _ _ (by omega) (by omega) (by rw [e74, eb, nlit 1, nI_add]) (fun d hd z => by
              rcases Nat.lt_or_ge d (8 * b) with y | y
              · exact f1 d y z
              · first
                | (have hdb : d / 8 = b := by omega
                   rw [e17, e16, e19] at c22; have z3 := z.2.2.1; rw [hdb] at z3; rw [i32le] at z3; rw [i32lt] at c22; omega)
                | (rcases Nat.lt_or_ge d (8 * b + hi) with w | w
                   · exact f2 d (by omega) z
                   · have := z.2.2.2.2; omega)) hW ls (lv_sub hl [0, 1, 2, 3, 4] rfl)
        · refine lv_iload_n hx hb dX1_lowestFree_25 rfl (lv_at hl 2 rfl) ?_
          refine lv_istore (lv' := [(5, .int xlo), (4, .int xb), (0, .ref (ad 16)), (1, .int xlo), (2, .int xhi), (3, .int t)]) hx hb dX1_lowestFree_26 hl (by decide) rfl (fun ls hl => ?_)
          have L28 : ∀ (fu : Nat) (c : Nat) (xc : Int32) (H : Heap) (locs : List Loc), 8 - c < fu → (lo ≤ c ∧ c ≤ hi) → (xc = nI c) → (∀ d, d < 8 * b + c → ¬ frX M t lo hi d) → WS D cA sh ad nA s.heap M H locs → ∀ ls, lv_has ls 7 [(5, .int xc), (4, .int xb), (0, .ref (ad 16)), (1, .int xlo), (2, .int xhi), (3, .int t)] → W p l e (headSpec wsX1_lowestFree { frames := 0, cells := 0, slots := 0, locals := 0 }).room s m ([.ref (ad 16), .int xlo, .int xhi, .int t] : List Value).toArray below meth cd0 H locs 0 0 (MQ below (rQi (fun r => (r = -1 ∧ ∀ d, d < 32 → ¬ frX M t lo hi d) ∨ ∃ c, c < 32 ∧ r = nI c ∧ frX M t lo hi c ∧ ∀ d, d < c → ¬ frX M t lo hi d)) ([.ref (ad 16), .int xlo, .int xhi, .int t] : List Value).toArray s 0 0 nA) (F0 m 28 ls []) := by
            intro fu
            induction fu with
            | zero =>
              intro c xc H locs hn hc8 ec f2 hW ls hl
              exact absurd hn (Nat.not_lt_zero _)
            | succ fu ih28 =>
              intro c xc H locs hn hc8 ec f2 hW ls hl
              refine lv_iload hx hb dX1_lowestFree_28 (lv_at hl 0 rfl) ?_
              refine lv_iload_n hx hb dX1_lowestFree_30 rfl (lv_at hl 4 rfl) ?_
              refine lv_icmp_ge (tgt := 74) hx hb dX1_lowestFree_31 (by decide) (fun c31 => ?_) (fun c31 => ?_)
              · have k31 : hi ≤ c := kc_ge ec ehi (by omega) (by omega) c31
                obtain ⟨x74, e74⟩ : ∃ y : Int32, y = xb + 1 := ⟨_, rfl⟩
                refine lv_iinc (v := x74) (lv' := [(4, .int x74), (5, .int xc), (0, .ref (ad 16)), (1, .int xlo), (2, .int xhi), (3, .int t)]) hx hb dX1_lowestFree_74 hl (k := 1) rfl (by rw [e74]; rfl) (by decide) rfl (fun ls hl => ?_)
                refine lv_goto (tgt := 3) hx hb dX1_lowestFree_77 (by decide) ?_
                exact ih3 (b + 1) x74 _ _ (by omega) (by omega) (by rw [e74, eb, nlit 1, nI_add]) (fun d hd z => by
                    rcases Nat.lt_or_ge d (8 * b) with y | y
                    · exact f1 d y z
                    · first
                      | (have hdb : d / 8 = b := by omega
                         rw [e17, e16, e19] at c22; have z3 := z.2.2.1; rw [hdb] at z3; rw [i32le] at z3; rw [i32lt] at c22; omega)
                      | (rcases Nat.lt_or_ge d (8 * b + hi) with w | w
                         · exact f2 d (by omega) z
                         · have := z.2.2.2.2; omega)) hW ls (lv_sub hl [0, 2, 3, 4, 5] rfl)
              · have k31 : ¬ hi ≤ c := kc_gen ec ehi (by omega) (by omega) c31
                refine lv_bipush (v := 8) hx hb dX1_lowestFree_34 (by decide) ?_
                refine lv_iload hx hb dX1_lowestFree_36 (lv_at hl 1 rfl) ?_
                refine lv_imul hx hb dX1_lowestFree_38 ?_
                refine lv_topi (fun x38 e38 => ?_)
                have n38 : x38 = nI (8 * b) := (by rw [e38, (nlit 8), eb, pk_mul])
                refine lv_iload hx hb dX1_lowestFree_39 (lv_at hl 0 rfl) ?_
                refine lv_iadd hx hb dX1_lowestFree_41 ?_
                refine lv_topi (fun x41 e41 => ?_)
                have n41 : x41 = nI ((8 * b) + c) := (by rw [e41, n38, ec, nI_add])
                refine lv_istore (lv' := [(6, .int x41), (5, .int xc), (4, .int xb), (0, .ref (ad 16)), (1, .int xlo), (2, .int xhi), (3, .int t)]) hx hb dX1_lowestFree_42 hl (by decide) rfl (fun ls hl => ?_)
                refine lv_aload_n hx hb dX1_lowestFree_44 rfl (lv_at hl 3 rfl) ?_
                refine wgF (t := 17) hx hb fa9 hW (hX.1 16 (by decide)) rfl dX1_lowestFree_45 ?_
                refine lv_iload hx hb dX1_lowestFree_48 (lv_at hl 0 rfl) ?_
                refine walZ (j := ((8 * b) + c)) hx hb hK hW (hX.1 17 (by decide)) n41 (by omega) (by decide) dX1_lowestFree_50 (fun x50 e50 => ?_)
                refine lv_if_ne (tgt := 68) hx hb dX1_lowestFree_51 (by decide) (fun c51 => ?_) (fun c51 => ?_)
                · obtain ⟨x68, e68⟩ : ∃ y : Int32, y = xc + 1 := ⟨_, rfl⟩
                  refine lv_iinc (v := x68) (lv' := [(5, .int x68), (6, .int x41), (4, .int xb), (0, .ref (ad 16)), (1, .int xlo), (2, .int xhi), (3, .int t)]) hx hb dX1_lowestFree_68 hl (k := 1) rfl (by rw [e68]; rfl) (by decide) rfl (fun ls hl => ?_)
                  refine lv_goto (tgt := 28) hx hb dX1_lowestFree_71 (by decide) ?_
                  exact ih28 (c + 1) x68 _ _ (by omega) (by omega) (by rw [e68, ec, nlit 1, nI_add]) (fun d hd z => by
                      rcases Nat.lt_or_ge d (8 * b + c) with y | y
                      · exact f2 d y z
                      · have hdc : d = 8 * b + c := by omega
                        subst hdc
                        first
                        | exact c51 (e50.trans z.1)
                        | exact c62 (e60.trans z.2.1)) hW ls (lv_sub hl [0, 2, 3, 4, 5, 6] rfl)
                · refine lv_aload_n hx hb dX1_lowestFree_54 rfl (lv_at hl 3 rfl) ?_
                  refine wgF (t := 18) hx hb fa15 hW (hX.1 16 (by decide)) rfl dX1_lowestFree_55 ?_
                  refine lv_iload hx hb dX1_lowestFree_58 (lv_at hl 0 rfl) ?_
                  refine walI (j := ((8 * b) + c)) hx hb hK hW (hX.1 18 (by decide)) n41 (by omega) (by decide) dX1_lowestFree_60 (fun x60 e60 => ?_)
                  refine lv_iconst (v := (-1)) hx hb dX1_lowestFree_61 (by decide) ?_
                  refine lv_icmp_ne (tgt := 68) hx hb dX1_lowestFree_62 (by decide) (fun c62 => ?_) (fun c62 => ?_)
                  · obtain ⟨x68, e68⟩ : ∃ y : Int32, y = xc + 1 := ⟨_, rfl⟩
                    refine lv_iinc (v := x68) (lv' := [(5, .int x68), (6, .int x41), (4, .int xb), (0, .ref (ad 16)), (1, .int xlo), (2, .int xhi), (3, .int t)]) hx hb dX1_lowestFree_68 hl (k := 1) rfl (by rw [e68]; rfl) (by decide) rfl (fun ls hl => ?_)
                    refine lv_goto (tgt := 28) hx hb dX1_lowestFree_71 (by decide) ?_
                    exact ih28 (c + 1) x68 _ _ (by omega) (by omega) (by rw [e68, ec, nlit 1, nI_add]) (fun d hd z => by
                        rcases Nat.lt_or_ge d (8 * b + c) with y | y
                        · exact f2 d y z
                        · have hdc : d = 8 * b + c := by omega
                          subst hdc
                          first
                          | exact c51 (e50.trans z.1)
                          | exact c62 (e60.trans z.2.1)) hW ls (lv_sub hl [0, 2, 3, 4, 5, 6] rfl)
                  · refine lv_iload hx hb dX1_lowestFree_65 (lv_at hl 0 rfl) ?_
                    exact wr_ri hx hb hr hlocks hW.2 dX1_lowestFree_67 (Or.inr ⟨8 * b + c, by omega, n41, ⟨by rw [← e50]; exact c51, by rw [← e60]; exact c62, by rw [show (8 * b + c) / 8 = b by omega]; rw [e17, e16, e19, i32lt] at c22; rw [i32le]; omega, by omega, by omega⟩, f2⟩)
          exact L28 (_ + 1) lo xlo _ _ (Nat.lt_succ_self _) ⟨Nat.le_refl _, hlo.1⟩ elo (fun d hd z => by
              rcases Nat.lt_or_ge d (8 * b) with y | y
              · exact f1 d y z
              · have := z.2.2.2.1; omega) hW ls (lv_sub hl [0, 1, 2, 3, 4, 5] rfl)
  exact L3 (_ + 1) 0 0 _ _ (Nat.lt_succ_self _) (Nat.zero_le _) rfl (fun d hd => absurd hd (by omega)) hW ls (lv_sub hl [0, 1, 2, 3, 4] rfl)
theorem nI_m1 {c : Nat} (h : c < 32) : ¬ nI c = -1 := fun q => by
  have q2 : (nI c).toInt = (-1 : Int32).toInt := congrArg Int32.toInt q
  rw [nI_toInt (by omega)] at q2
  have : (-1 : Int32).toInt = -1 := rfl
  omega
set_option maxHeartbeats 4000000 in
set_option maxRecDepth 100000 in
theorem c_X1_give (l : Launch) (D : va_G) (cA : Nat → ClassId) (sh : Nat → Option Sh) (ad : Nat → Nat) (M : MS) (sz : Nat) (n : Nat) (hX : XSh n sh) (num t : Int32) : Met l yX1_give wsX1_give ({ frames := 1, cells := 0, slots := 0, locals := 26 }) (wPc D cA sh ad M sz [.ref (ad 16), .int num, .int t]) (wQi D cA sh ad (fun r M' => (r = -1 ∧ M' = M ∧ (∀ d, d < 32 → ¬ frX M t 0 6 d) ∧ ∀ d, d < 32 → ¬ frX M t 6 8 d) ∨ ∃ c, c < 32 ∧ r = nI c ∧ M' = sI (sI M 18 c num) 19 (c / 8) t ∧ ((frX M t 0 6 c ∧ ∀ d, d < c → ¬ frX M t 0 6 d) ∨ ((∀ d, d < 32 → ¬ frX M t 0 6 d) ∧ frX M t 6 8 c ∧ ∀ d, d < c → ¬ frX M t 6 8 d))) (wA sh ad sz)) 0 0 (wA sh ad sz) := by
  refine Met.ofW (cc := cX1_give) (maxL := 4) (ret := (some .int)) (by decide) rfl ?_
  intro p e s m args below meth cd0 s₁ B hml hv
  obtain ⟨rfl, hsz, hM, hK⟩ := hv
  have hx := B.exec
  have hb := B.bytes
  have hr := B.returns
  have hts := atoms_spec (ws := wsX1_give) B.pre
  have hown : s.vm.findClass RX1 = some m.cls := findClass_of_methodNamed B.named
  have hlocks := B.notSynchronized
  subst hsz
  have hA := wA_PA sh ad s.heap
  generalize wA sh ad s.heap.size = A at hA ⊢
  have hW : WS D cA sh ad A s.heap M s.heap [] := ⟨hM, va_S.rf⟩
  have fa15 : FA D s m ([.ref (ad 16), .int num, .int t] : List Value).toArray 15 1 1 := FA.mk (C := RX1) (T := TX1) (N := 4) hts (fun _ h => List.mem_cons_of_mem _ (List.mem_append_right _ (h))) hown hK rfl (by decide) (hts (.fieldLink RX1 15 "MortarShow$Boxes" "given" "[I") (List.mem_of_getElem? (i := 1) rfl))
  have fa19 : FA D s m ([.ref (ad 16), .int num, .int t] : List Value).toArray 19 1 2 := FA.mk (C := RX1) (T := TX1) (N := 4) hts (fun _ h => List.mem_cons_of_mem _ (List.mem_append_right _ (h))) hown hK rfl (by decide) (hts (.fieldLink RX1 19 "MortarShow$Boxes" "lastTick" "[I") (List.mem_of_getElem? (i := 2) rfl))
  have hl := lv_entry ([.ref (ad 16), .int num, .int t]) (n := 4) (Nat.le_of_ble_eq_true rfl)
  rw [lg_entry_eq]
  generalize (lg_sl ([.ref (ad 16), .int num, .int t]) ++ List.replicate (4 - (lg_sl ([.ref (ad 16), .int num, .int t])).length) Slot.unset).toArray = ls at hl ⊢
  have hl : lv_has ls 4 [(0, .ref (ad 16)), (1, .int num), (2, .int t)] := hl
  refine lv_aload_n hx hb dX1_give_0 rfl (lv_at hl 0 rfl) ?_
  refine lv_iconst (v := 0) hx hb dX1_give_1 (by decide) ?_
  refine lv_bipush (v := 6) hx hb dX1_give_2 (by decide) ?_
  refine lv_iload_n hx hb dX1_give_4 rfl (lv_at hl 2 rfl) ?_
  refine wc_ri (va_runV (As := [.int 0, .int 6, .int t]) (rest := []) ⟨hx, hb, hml, hown, hts⟩ (c_X1_lowestFree l D cA sh ad M _ _ hX 0 6 (by omega) 0 6 t rfl rfl) (cwV 3 hts gX1_give_X1_lowestFree rfl rfl rfl (by decide +kernel) ⟨Nat.le_of_ble_eq_true rfl, Nat.le_of_ble_eq_true rfl⟩) (wpreV hK hW (C := RX1) (ci := 1) (hX.1 16 (by decide)) rfl) rfl rfl hl.1 rfl (lv_room (Nat.le_of_ble_eq_true rfl)) dX1_give_5 ⟨Nat.le_of_ble_eq_true rfl, Nat.le_of_ble_eq_true rfl⟩) hW (fun x5 H locs p5 hW => ?_)
  try dsimp only at p5
  refine lv_istore_n (lv' := [(3, .int x5), (0, .ref (ad 16)), (1, .int num), (2, .int t)]) hx hb dX1_give_8 rfl hl (by decide) rfl (fun ls hl => ?_)
  have J24 : ∀ (xc : Int32) (H : Heap) (locs : List Loc), ((xc = -1 ∧ (∀ d, d < 32 → ¬ frX M t 0 6 d) ∧ ∀ d, d < 32 → ¬ frX M t 6 8 d) ∨ ∃ c, c < 32 ∧ xc = nI c ∧ ((frX M t 0 6 c ∧ ∀ d, d < c → ¬ frX M t 0 6 d) ∨ ((∀ d, d < 32 → ¬ frX M t 0 6 d) ∧ frX M t 6 8 c ∧ ∀ d, d < c → ¬ frX M t 6 8 d))) → WS D cA sh ad A s.heap M H locs → ∀ ls, lv_has ls 4 [(0, .ref (ad 16)), (1, .int num), (2, .int t), (3, .int xc)] → W p l e (headSpec wsX1_give { frames := 1, cells := 0, slots := 0, locals := 26 }).room s m ([.ref (ad 16), .int num, .int t] : List Value).toArray below meth cd0 H locs 0 0 (MQ below (wQi D cA sh ad (fun r M' => (r = -1 ∧ M' = M ∧ (∀ d, d < 32 → ¬ frX M t 0 6 d) ∧ ∀ d, d < 32 → ¬ frX M t 6 8 d) ∨ ∃ c, c < 32 ∧ r = nI c ∧ M' = sI (sI M 18 c num) 19 (c / 8) t ∧ ((frX M t 0 6 c ∧ ∀ d, d < c → ¬ frX M t 0 6 d) ∨ ((∀ d, d < 32 → ¬ frX M t 0 6 d) ∧ frX M t 6 8 c ∧ ∀ d, d < c → ¬ frX M t 6 8 d))) A) ([.ref (ad 16), .int num, .int t] : List Value).toArray s 0 0 A) (F0 m 24 ls []) := by
    intro xc H locs hpx hW ls hl
    refine lv_iload_n hx hb dX1_give_24 rfl (lv_at hl 3 rfl) ?_
    refine lv_iconst (v := (-1)) hx hb dX1_give_25 (by decide) ?_
    refine lv_icmp_eq (tgt := 46) hx hb dX1_give_26 (by decide) (fun c26 => ?_) (fun c26 => ?_)
    · refine lv_iload_n hx hb dX1_give_46 rfl (lv_at hl 3 rfl) ?_
      exact wr_wi hx hb hr hlocks hW dX1_give_47 (by
          first
          | exact Or.inr ⟨c, hc32, ec, by rw [eM45, eM35], hfr⟩
          | (rcases hpx with ⟨z1, z2, z3⟩ | ⟨c, hc32, ec, hfr⟩
             · exact Or.inl ⟨z1, rfl, z2, z3⟩
             · exact absurd (ec.symm.trans c26) (nI_m1 hc32)))
    · rcases hpx with ⟨z1, z2⟩ | ⟨c, hc32, ec, hfr⟩
      · exact absurd z1 c26
      refine lv_aload_n hx hb dX1_give_29 rfl (lv_at hl 0 rfl) ?_
      refine wgF (t := 18) hx hb fa15 hW (hX.1 16 (by decide)) rfl dX1_give_30 ?_
      refine lv_iload_n hx hb dX1_give_33 rfl (lv_at hl 3 rfl) ?_
      refine lv_iload_n hx hb dX1_give_34 rfl (lv_at hl 1 rfl) ?_
      refine wasI (j := c) hx hb hK hA hW (hX.1 18 (by decide)) ec hc32 (by decide) dX1_give_35 (fun M35 H locs eM35 hW => ?_)
      refine lv_aload_n hx hb dX1_give_36 rfl (lv_at hl 0 rfl) ?_
      refine wgF (t := 19) hx hb fa19 hW (hX.1 16 (by decide)) rfl dX1_give_37 ?_
      refine lv_iload_n hx hb dX1_give_40 rfl (lv_at hl 3 rfl) ?_
      refine lv_bipush (v := 8) hx hb dX1_give_41 (by decide) ?_
      refine lv_idiv hx hb dX1_give_43 (by decide) ?_
      refine lv_topi (fun x43 e43 => ?_)
      refine lv_iload_n hx hb dX1_give_44 rfl (lv_at hl 2 rfl) ?_
      refine wasI (j := (c / 8)) hx hb hK hA hW (hX.1 19 (by decide)) (by rw [e43, ec, nlit 8]; exact pk_div (by omega) (by omega) (by omega)) (by omega) (by decide) dX1_give_45 (fun M45 H locs eM45 hW => ?_)
      refine lv_iload_n hx hb dX1_give_46 rfl (lv_at hl 3 rfl) ?_
      exact wr_wi hx hb hr hlocks hW dX1_give_47 (by
          first
          | exact Or.inr ⟨c, hc32, ec, by rw [eM45, eM35], hfr⟩
          | (rcases hpx with ⟨z1, z2, z3⟩ | ⟨c, hc32, ec, hfr⟩
             · exact Or.inl ⟨z1, rfl, z2, z3⟩
             · exact absurd (ec.symm.trans c26) (nI_m1 hc32)))
  refine lv_iload_n hx hb dX1_give_9 rfl (lv_at hl 0 rfl) ?_
  refine lv_iconst (v := (-1)) hx hb dX1_give_10 (by decide) ?_
  refine lv_icmp_ne (tgt := 24) hx hb dX1_give_11 (by decide) (fun c11 => ?_) (fun c11 => ?_)
  · exact J24 x5 _ _ (by
        rcases p5 with ⟨z1, z2⟩ | ⟨c, z1, z2, z3, z4⟩
        · first
          | (rcases p20 with ⟨y1, y2⟩ | ⟨c, y1, y2, y3, y4⟩
             · exact Or.inl ⟨y1, z2, y2⟩
             · exact Or.inr ⟨c, y1, y2, Or.inr ⟨z2, y3, y4⟩⟩)
          | exact absurd z1 c11
        · first
          | exact Or.inr ⟨c, z1, z2, Or.inl ⟨z3, z4⟩⟩
          | exact absurd (z2.symm.trans c11) (nI_m1 z1)) hW ls (lv_sub hl [1, 2, 3, 0] rfl)
  · refine lv_aload_n hx hb dX1_give_14 rfl (lv_at hl 1 rfl) ?_
    refine lv_bipush (v := 6) hx hb dX1_give_15 (by decide) ?_
    refine lv_bipush (v := 8) hx hb dX1_give_17 (by decide) ?_
    refine lv_iload_n hx hb dX1_give_19 rfl (lv_at hl 3 rfl) ?_
    refine wc_ri (va_runV (As := [.int 6, .int 8, .int t]) (rest := []) ⟨hx, hb, hml, hown, hts⟩ (c_X1_lowestFree l D cA sh ad M _ _ hX 6 8 (by omega) 6 8 t rfl rfl) (cwV 3 hts gX1_give_X1_lowestFree rfl rfl rfl (by decide +kernel) ⟨Nat.le_of_ble_eq_true rfl, Nat.le_of_ble_eq_true rfl⟩) (wpreV hK hW (C := RX1) (ci := 1) (hX.1 16 (by decide)) rfl) rfl rfl hl.1 rfl (lv_room (Nat.le_of_ble_eq_true rfl)) dX1_give_20 ⟨Nat.le_of_ble_eq_true rfl, Nat.le_of_ble_eq_true rfl⟩) hW (fun x20 H locs p20 hW => ?_)
    try dsimp only at p20
    refine lv_istore_n (lv' := [(3, .int x20), (0, .ref (ad 16)), (1, .int num), (2, .int t)]) hx hb dX1_give_23 rfl hl (by decide) rfl (fun ls hl => ?_)
    exact J24 x20 _ _ (by
        rcases p5 with ⟨z1, z2⟩ | ⟨c, z1, z2, z3, z4⟩
        · first
          | (rcases p20 with ⟨y1, y2⟩ | ⟨c, y1, y2, y3, y4⟩
             · exact Or.inl ⟨y1, z2, y2⟩
             · exact Or.inr ⟨c, y1, y2, Or.inr ⟨z2, y3, y4⟩⟩)
          | exact absurd z1 c11
        · first
          | exact Or.inr ⟨c, z1, z2, Or.inl ⟨z3, z4⟩⟩
          | exact absurd (z2.symm.trans c11) (nI_m1 z1)) hW ls (lv_sub hl [1, 2, 3, 0] rfl)

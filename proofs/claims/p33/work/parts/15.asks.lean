/-! What the show is asked. -/
def inB (v lo hi : Int32) : Bool := !outB v lo hi
def zoB (c l : Int32) : Bool := inB c 0 7 && inB l 0 7
theorem zoB_eq (c l : Int32) : zoB c l = !offB c l := by unfold zoB inB offB; rw [Bool.not_or]
theorem inB_f {v lo hi : Int32} (h : v < lo ∨ hi < v) : inB v lo hi = false := by unfold inB; rw [outB_t h]; rfl
theorem inB_t {v lo hi : Int32} (h : ¬ (v < lo ∨ hi < v)) : inB v lo hi = true := by unfold inB; rw [outB_f h]; rfl
theorem off_n {c l : Int32} (h : offB c l = false) : ∃ x y, x < 8 ∧ y < 8 ∧ c = nI x ∧ l = nI y := by
  unfold offB at h
  rw [Bool.or_eq_false_iff] at h
  obtain ⟨x, hx, ex⟩ := out_n (n := 7) (by decide) h.1
  obtain ⟨y, hy, ey⟩ := out_n (n := 7) (by decide) h.2
  exact ⟨x, y, hx, hy, ex, ey⟩
theorem bef_irr {σ : AS} {i : Nat} (h : bef σ i i) : False := by
  rcases h with h | ⟨-, h⟩
  · rw [i32lt] at h; omega
  · omega
def posQ (q : Nat → Nat) (c i : Nat) : Option Nat := firstB (fun j => decide (q j = i)) c
theorem posQ_at {σ : AS} {K c : Nat} {q : Nat → Nat} (hs : Srt σ K q c) {j : Nat} (hj : j < c) : posQ q c (q j) = some j :=
  firstB_is hj (decide_eq_true rfl) (fun d hd => decide_eq_false (fun e => bef_irr (by have := hs.2.2.1 d j hd hj; rw [e] at this; exact this)))
theorem posQ_no {σ : AS} {K c i : Nat} {q : Nat → Nat} (hs : Srt σ K q c) (hn : ¬ elg σ i) : posQ q c i = none :=
  firstB_no (fun d hd => decide_eq_false (fun e => hn (by rw [← e]; exact (hs.1 d hd).2)))
def fatP (σ : AS) (q : Nat → Nat) (i : Nat) (o : Option Nat) : Nat := match o with
  | none => if stkB σ i = true then 1 else 2
  | some j => if chq σ q j = none then 3 else 0
def chaP (σ : AS) (q : Nat → Nat) (o : Option Nat) : Int32 := match o with
  | none => -1
  | some j => opI (chq σ q j)
def fateA (σ : AS) (q : Nat → Nat) (c i : Nat) : Nat := fatP σ q i (posQ q c i)
def chanA (σ : AS) (q : Nat → Nat) (c i : Nat) : Int32 := chaP σ q (posQ q c i)
theorem plan_fate {σ : AS} {q : Nat → Nat} {c : Nat} {M : MS} (h : PlanR σ q c M) {i : Nat} (hi : i < aN σ) (hg : σ.2 10 i = 0) (hn : aN σ ≤ 40) : gI M (100 + i) 7 = nI (fateA σ q c i) ∧ gI M (100 + i) 8 = chanA σ q c i := by
  unfold fateA chanA
  by_cases he : elg σ i
  · obtain ⟨j, hj, ej⟩ := h.1.2.1 i (by omega) he
    have h3 := h.2.2.1 j hj
    have h4 := posQ_at h.1 hj
    rw [ej] at h3 h4
    rw [h4]; exact ⟨h3.2, h3.1⟩
  · rw [posQ_no h.1 he]
    have h3 := (h.2.1 i hi hg).2.2.2 he
    exact ⟨h3.2, h3.1⟩
theorem fate_0 {σ : AS} {q : Nat → Nat} {c i : Nat} (hs : Srt σ 40 q c) (h : nI (fateA σ q c i) = 0) : elg σ i := by
  apply Classical.byContradiction
  intro he
  unfold fateA at h
  rw [posQ_no hs he] at h
  unfold fatP at h
  dsimp only at h
  cases hs9 : stkB σ i
  · rw [hs9, if_neg (by decide)] at h; exact absurd h (by decide)
  · rw [hs9, if_pos rfl] at h; exact absurd h (by decide)
/-- the cue that is fired at a place -/
def frP (σ : AS) (q : Nat → Nat) (c n : Nat) : Option Nat := firstB (fun j => decide (lit σ q j = n) && decide (chq σ q j ≠ none)) c
def firP (q : Nat → Nat) (o : Option Nat) : Nat := match o with
  | none => 0
  | some j => q j
def firA (σ : AS) (q : Nat → Nat) (c n : Nat) : Nat := firP q (frP σ q c n)
theorem lit_s (σ : AS) (q : Nat → Nat) (k : Nat) : lit σ q (k + 1) = lit σ q k + if chq σ q k = none then 0 else 1 := rfl
theorem lit_ex {σ : AS} {q : Nat → Nat} {n : Nat} : ∀ {c : Nat}, n < lit σ q c → ∃ j, j < c ∧ lit σ q j = n ∧ chq σ q j ≠ none
  | 0, h => absurd h (Nat.not_lt_zero _)
  | c + 1, h => by
    rw [lit_s] at h
    rcases Nat.lt_or_ge n (lit σ q c) with z | z
    · obtain ⟨j, hj, e⟩ := lit_ex z
      exact ⟨j, by omega, e⟩
    · by_cases hc : chq σ q c = none
      · rw [if_pos hc] at h; omega
      · rw [if_neg hc] at h; exact ⟨c, by omega, by omega, hc⟩
theorem frP_at {σ : AS} {q : Nat → Nat} {c j : Nat} (hj : j < c) (hc : chq σ q j ≠ none) : frP σ q c (lit σ q j) = some j := by
  refine firstB_is hj (by rw [decide_eq_true rfl, decide_eq_true hc]; rfl) (fun d hd => ?_)
  by_cases hc2 : chq σ q d = none
  · rw [decide_eq_false (show ¬ (chq σ q d ≠ none) from fun z => z hc2), Bool.and_false]
  · have h1 := lit_mono σ q (j := d + 1) (k := j) hd
    rw [lit_s, if_neg hc2] at h1
    rw [decide_eq_false (by omega)]; rfl
theorem firA_at {σ : AS} {q : Nat → Nat} {c n : Nat} (hs : Srt σ 40 q c) (hn : n < lit σ q c) : ∃ j, j < c ∧ lit σ q j = n ∧ chq σ q j ≠ none ∧ firA σ q c n = q j := by
  obtain ⟨j, hj, e, hc⟩ := lit_ex hn
  refine ⟨j, hj, e, hc, ?_⟩
  unfold firA
  rw [← e, frP_at hj hc]; rfl
theorem firing_at {σ : AS} {q : Nat → Nat} {c n : Nat} {M : MS} (h : PlanR σ q c M) (hn : n < lit σ q c) : gR M 20 n = some (100 + firA σ q c n) ∧ elg σ (firA σ q c n) := by
  obtain ⟨j, hj, e, hc, ef⟩ := firA_at h.1 hn
  rw [ef]
  refine ⟨?_, (h.1.1 j hj).2⟩
  rw [← e]; exact h.2.2.2.2.2.1 j hj hc
def totA (σ : AS) (v : VT) (q : Nat → Nat) (c : Nat) : Nat → Int64
  | 0 => 0
  | k + 1 => totA σ v q c k + priA σ v (firA σ q c k)
def prA (σ : AS) (v : VT) (q : Nat → Nat) (c i : Nat) : Int32 := if nI (fateA σ q c i) = 0 then refI (priA σ v i) else -1
/-- an int below a number -/
def fiB (n : Nat) (a : Int32) : Bool := decide (0 ≤ a.toInt ∧ a.toInt < n)
/-- the drift, tick by tick -/
def drC (σ : AS) (k w t : Nat) : Nat → Int32
  | 0 => 0
  | y + 1 => drC σ k w t y + nI (cntN (σ.1 2 k) (σ.1 3 k) t y) * σ.1 w y
theorem drA_C (σ : AS) (k w : Nat) : ∀ y, drA σ k w y = drC σ k w (σ.2 11 k) y
  | 0 => rfl
  | y + 1 => by unfold drA drC; rw [drA_C σ k w y]
theorem drC_0 (σ : AS) (k w : Nat) : ∀ y, drC σ k w 0 y = 0
  | 0 => rfl
  | y + 1 => by
    unfold drC
    rw [drC_0 σ k w y]
    show (0 : Int32) + 0 * σ.1 w y = 0
    rw [Int32.zero_mul]; rfl
theorem drC_lo {σ : AS} {k w t y0 : Nat} (hy0 : y0 < 4) (e : layI (hsq (σ.1 2 k) (σ.1 3 k) t).2.1 = nI y0) : ∀ y, y ≤ 4 → drC σ k w (t + 1) y = drC σ k w t y + if y0 < y then σ.1 w y0 else 0
  | 0, _ => by show (0 : Int32) = 0 + if y0 < 0 then _ else 0; rw [if_neg (by omega)]; rfl
  | y + 1, hy => by
    have ih := drC_lo hy0 e (w := w) y (by omega)
    have hc : cntN (σ.1 2 k) (σ.1 3 k) (t + 1) y = cntN (σ.1 2 k) (σ.1 3 k) t y + if y0 = y then 1 else 0 := by
      show cntN _ _ t y + (if layI (hsq (σ.1 2 k) (σ.1 3 k) t).2.1 = nI y then 1 else 0) = _
      rw [e]
      by_cases h : y0 = y
      · rw [if_pos h, if_pos (by rw [h])]
      · rw [if_neg h, if_neg (fun z => h ((nI_eq (by omega) (by omega)).mp z))]
    show drC σ k w (t + 1) y + nI (cntN (σ.1 2 k) (σ.1 3 k) (t + 1) y) * σ.1 w y = drC σ k w t y + nI (cntN (σ.1 2 k) (σ.1 3 k) t y) * σ.1 w y + _
    rw [ih, hc]
    by_cases h : y0 = y
    · subst h
      rw [if_neg (by omega), if_pos rfl, if_pos (by omega), ← nI_add, Int32.add_mul, show (nI 1 : Int32) = 1 from rfl, Int32.one_mul, show drC σ k w t y0 + 0 = drC σ k w t y0 from Int32.add_zero _, Int32.add_assoc]
    · rw [if_neg h, Nat.add_zero]
      by_cases h2 : y0 < y
      · rw [if_pos h2, if_pos (by omega), Int32.add_assoc, Int32.add_assoc, Int32.add_comm (σ.1 w y0)]
      · rw [if_neg h2, if_neg (by omega), Int32.add_zero, Int32.add_zero]
theorem drC_s {σ : AS} {k w t y0 : Nat} (hy0 : y0 < 4) (e : layI (hsq (σ.1 2 k) (σ.1 3 k) t).2.1 = nI y0) : drC σ k w (t + 1) 4 = drC σ k w t 4 + σ.1 w y0 := by
  rw [drC_lo hy0 e 4 (Nat.le_refl _), if_pos hy0]
def mX (σ : AS) (i : Nat) : Int32 := nI (σ.2 0 (σ.2 9 i)) * 100 + 50
def mY (σ : AS) (i : Nat) : Int32 := nI (σ.2 1 (σ.2 9 i)) * 100 + 50
def tolA (σ : AS) (i : Nat) (w : Int32) : Int32 := plT w (falX σ i) (falY σ i)
def bstA (σ : AS) (i : Nat) (w : Int32) : Int32 :=
  if w = 2 then (hsq (σ.1 2 (σ.2 8 i)) (σ.1 3 (σ.2 8 i)) (liA σ i)).2.1 else if w = 0 then mX σ i + drC σ (σ.2 8 i) 4 (liA σ i) 4 else mY σ i + drC σ (σ.2 8 i) 5 (liA σ i) 4
theorem opI_some {i : Nat} (h : i < 1000) : ¬ opI (some i) = -1 := fun q => by
  have q2 : (nI i).toInt = (-1 : Int32).toInt := congrArg Int32.toInt q
  rw [nI_toInt (by omega)] at q2
  have : (-1 : Int32).toInt = -1 := rfl
  omega
theorem gv_iff {σ : AS} {q : Nat → Nat} {c : Nat} {M : MS} (h : PlanR σ q c M) (o1 : aN σ ≤ 40) : ∀ d, d < 32 → (gI M 18 d = -1 ↔ (gvn σ q c d).isSome = false) := fun d hd => by
  rw [h.2.2.2.1 d hd]
  cases hq : gvn σ q c d with
  | none => exact ⟨fun _ => rfl, fun _ => rfl⟩
  | some i =>
    obtain ⟨j, hj, e⟩ := gvn_src hq
    have := (h.1.1 j hj).1
    exact ⟨fun z => absurd z (opI_some (by omega)), fun z => by cases z⟩
set_option maxHeartbeats 4000000 in
set_option maxRecDepth 100000 in
theorem c_X9_cues (l : Launch) (D : va_G) (cA : Nat → ClassId) (sh : Nat → Option Sh) (ad : Nat → Nat) (M : MS) (sz : Nat) (σ : AS) (v : VT) (hX : XSh (aN σ) sh) (hXX : XX σ v M) : Met l yX9_cues wsX9_cues ({ frames := 0, cells := 0, slots := 0, locals := 0 }) (wPc D cA sh ad M sz [.ref (ad 0)]) (rQi (fun r => r = nI (ctN (pres σ) 40))) 0 0 nA := by
  refine Met.ofW (cc := cX9_cues) (maxL := 1) (ret := (some .int)) (by decide) rfl ?_
  intro p e s m args below meth cd0 s₁ B hml hv
  obtain ⟨rfl, hsz, hM, hK⟩ := hv
  have hx := B.exec
  have hb := B.bytes
  have hr := B.returns
  have hts := atoms_spec (ws := wsX9_cues) B.pre
  have hown : s.vm.findClass RX9 = some m.cls := findClass_of_methodNamed B.named
  have hlocks := B.notSynchronized
  subst hsz
  obtain ⟨A, eA⟩ : ∃ A : Nat → Prop, A = nA := ⟨_, rfl⟩
  have hW : WS D cA sh ad A s.heap M s.heap [] := ⟨hM, va_S.rf⟩
  subst eA
  have fa73 : FA D s m ([.ref (ad 0)] : List Value).toArray 73 9 11 := FA.mk (C := RX9) (T := TX9) (N := 15) hts (fun _ h => List.mem_cons_of_mem _ (List.mem_append_right _ (h))) hown hK rfl (by decide) (hts (.fieldLink RX9 73 "MortarShow" "left" "I") (List.mem_of_getElem? (i := 1) rfl))
  have hl := lv_entry ([.ref (ad 0)]) (n := 1) (Nat.le_of_ble_eq_true rfl)
  rw [lg_entry_eq]
  generalize (lg_sl ([.ref (ad 0)]) ++ List.replicate (1 - (lg_sl ([.ref (ad 0)])).length) Slot.unset).toArray = ls at hl ⊢
  have hl : lv_has ls 1 [(0, .ref (ad 0))] := hl
  refine lv_aload_n hx hb dX9_cues_0 rfl (lv_at hl 0 rfl) ?_
  refine wgI hx hb fa73 hW (hX.1 0 (by decide)) rfl dX9_cues_1 (fun x1 e1 => ?_)
  exact wr_ri hx hb hr hlocks hW.2 dX9_cues_4 (e1.trans hXX.2.2.2.1)
set_option maxHeartbeats 4000000 in
set_option maxRecDepth 100000 in
theorem c_X9_peopled (l : Launch) (D : va_G) (cA : Nat → ClassId) (sh : Nat → Option Sh) (ad : Nat → Nat) (M : MS) (sz : Nat) (σ : AS) (v : VT) (hX : XSh (aN σ) sh) (hXX : XX σ v M) : Met l yX9_peopled wsX9_peopled ({ frames := 1, cells := 0, slots := 0, locals := 23 }) (wPc D cA sh ad M sz [.ref (ad 0)]) (rQi (fun r => r = nI (ctN (fun k => decide (0 < σ.1 0 k)) 64))) 0 0 nA := by
  refine Met.ofW (cc := cX9_peopled) (maxL := 1) (ret := (some .int)) (by decide) rfl ?_
  intro p e s m args below meth cd0 s₁ B hml hv
  obtain ⟨rfl, hsz, hM, hK⟩ := hv
  have hx := B.exec
  have hb := B.bytes
  have hr := B.returns
  have hts := atoms_spec (ws := wsX9_peopled) B.pre
  have hown : s.vm.findClass RX9 = some m.cls := findClass_of_methodNamed B.named
  have hlocks := B.notSynchronized
  subst hsz
  obtain ⟨A, eA⟩ : ∃ A : Nat → Prop, A = nA := ⟨_, rfl⟩
  have hW : WS D cA sh ad A s.heap M s.heap [] := ⟨hM, va_S.rf⟩
  subst eA
  have fa10 : FA D s m ([.ref (ad 0)] : List Value).toArray 10 9 0 := FA.mk (C := RX9) (T := TX9) (N := 15) hts (fun _ h => List.mem_cons_of_mem _ (List.mem_append_left _ (List.mem_append_right _ (h)))) hown hK rfl (by decide) (hts (.fieldLink RX9 10 "MortarShow" "ground" "LMortarShow$Ground;") (List.mem_of_getElem? (i := 1) rfl))
  have hl := lv_entry ([.ref (ad 0)]) (n := 1) (Nat.le_of_ble_eq_true rfl)
  rw [lg_entry_eq]
  generalize (lg_sl ([.ref (ad 0)]) ++ List.replicate (1 - (lg_sl ([.ref (ad 0)])).length) Slot.unset).toArray = ls at hl ⊢
  have hl : lv_has ls 1 [(0, .ref (ad 0))] := hl
  obtain ⟨ok, hR, hP, hL, hV, hT⟩ := hXX
  have hXX : XX σ v M := ⟨ok, hR, hP, hL, hV, hT⟩
  have o1 := ok.1
  refine lv_aload_n hx hb dX9_peopled_0 rfl (lv_at hl 0 rfl) ?_
  refine wgF (t := 1) hx hb fa10 hW (hX.1 0 (by decide)) rfl dX9_peopled_1 ?_
  refine wc_rl (va_runV (As := []) (rest := []) ⟨hx, hb, hml, hown, hts⟩ (c_X4_zonesWithPeople l D cA sh ad M _ _ hX) (cwV 0 hts gX9_peopled_X4_zonesWithPeople rfl rfl rfl (by decide +kernel) ⟨Nat.le_of_ble_eq_true rfl, Nat.le_of_ble_eq_true rfl⟩) (wpreV hK hW (C := RX4) (ci := 4) (hX.1 1 (by decide)) rfl) rfl rfl hl.1 rfl (lv_room (Nat.le_of_ble_eq_true rfl)) dX9_peopled_4 ⟨Nat.le_of_ble_eq_true rfl, Nat.le_of_ble_eq_true rfl⟩) hW (fun x4 H locs p4 hW => ?_)
  try dsimp only at p4
  refine wc_ri (va_runS (As := [.long x4]) (rest := []) ⟨hx, hb, hml, hown, hts⟩ (c_J13_bitCount_95d88 l x4) (va_cwS 1 hts gX9_peopled_J13_bitCount_95d88 rfl rfl rfl (by decide +kernel) ⟨Nat.le_of_ble_eq_true rfl, Nat.le_of_ble_eq_true rfl⟩) npreS rfl rfl hl.1 rfl (lv_room (Nat.le_of_ble_eq_true rfl)) dX9_peopled_7 ⟨Nat.le_of_ble_eq_true rfl, Nat.le_of_ble_eq_true rfl⟩) hW (fun x7 H locs p7 hW => ?_)
  try dsimp only at p7
  exact wr_ri hx hb hr hlocks hW.2 dX9_peopled_10 (by rw [p7]; congr 1; exact ctN_same (fun k hk => by rw [p4 k hk, hR.1 k hk]))
set_option maxHeartbeats 4000000 in
set_option maxRecDepth 100000 in
theorem c_X9_flight (l : Launch) (hl9 : l.stackTraces = false) (D : va_G) (cA : Nat → ClassId) (sh : Nat → Option Sh) (ad : Nat → Nat) (M : MS) (sz : Nat) (σ : AS) (v : VT) (hX : XSh (aN σ) sh) (hXX : XX σ v M) (a : Int32) : vx_Met l yX9_flight wsX9_flight ({ frames := 6, cells := 1, slots := 6, locals := 90 }) (xPc D cA sh ad M sz [.ref (ad 0), .int a]) (wQi D cA sh ad (fun r M' => oA XSx M M' ∧ XX σ v M' ∧ inB a 0 3 = true ∧ r = nI (σ.2 11 (n1 a))) (wA sh ad sz)) (xXC D cA sh ad (pxG σ v M nIA (inB a 0 3)) (wA sh ad sz)) 1 6 (wA sh ad sz) := by
  refine vx_ofW (cc := cX9_flight) (maxL := 2) (ret := (some .int)) (by decide) rfl ?_
  intro p e s m args below meth cd0 s₁ B hml ht hv
  obtain ⟨rfl, hsz, hM, hK, hE, hZ⟩ := hv
  have hx := B.exec
  have hb := B.bytes
  have hr := B.returns
  have hts := atoms_spec (ws := wsX9_flight) B.pre
  have hown : s.vm.findClass RX9 = some m.cls := findClass_of_methodNamed B.named
  have hlocks := B.notSynchronized
  subst hsz
  have hA := wA_PA sh ad s.heap
  generalize wA sh ad s.heap.size = A at hA hZ ⊢
  have hW : WS D cA sh ad A s.heap M s.heap [] := ⟨hM, va_S.rf⟩
  have fa24 : FA D s m ([.ref (ad 0), .int a] : List Value).toArray 24 9 2 := FA.mk (C := RX9) (T := TX9) (N := 15) hts (fun _ h => List.mem_cons_of_mem _ (List.mem_append_left _ (List.mem_append_left _ (List.mem_append_right _ (h))))) hown hK rfl (by decide) (hts (.fieldLink RX9 24 "MortarShow" "kinds" "[LMortarShow$Kind;") (List.mem_of_getElem? (i := 3) rfl))
  have fa158 : FA D s m ([.ref (ad 0), .int a] : List Value).toArray 158 6 6 := FA.mk (C := RX6) (T := TX6) (N := 7) hts (fun _ h => List.mem_cons_of_mem _ (List.mem_append_left _ (List.mem_append_right _ (h)))) hown hK rfl (by decide) (hts (.fieldLink RX9 158 "MortarShow$Kind" "ticks" "I") (List.mem_of_getElem? (i := 4) rfl))
  have hl := lv_entry ([.ref (ad 0), .int a]) (n := 2) (Nat.le_of_ble_eq_true rfl)
  rw [lg_entry_eq]
  generalize (lg_sl ([.ref (ad 0), .int a]) ++ List.replicate (2 - (lg_sl ([.ref (ad 0), .int a])).length) Slot.unset).toArray = ls at hl ⊢
  have hl : lv_has ls 2 [(0, .ref (ad 0)), (1, .int a)] := hl
  obtain ⟨ok, hR, hP, hL, hV, hT⟩ := hXX
  have hXX : XX σ v M := ⟨ok, hR, hP, hL, hV, hT⟩
  have o1 := ok.1
  refine lv_iload_n hx hb dX9_flight_0 rfl (lv_at hl 1 rfl) ?_
  refine lv_iconst (v := 0) hx hb dX9_flight_1 (by decide) ?_
  refine lv_iconst (v := 3) hx hb dX9_flight_2 (by decide) ?_
  refine wc_ri (va_runS (As := [.int a, .int 0, .int 3]) (rest := []) ⟨hx, hb, hml, hown, hts⟩ (c_X9_outside l a 0 3) (va_cwS 3 hts gX9_flight_X9_outside rfl rfl rfl (by decide +kernel) ⟨Nat.le_of_ble_eq_true rfl, Nat.le_of_ble_eq_true rfl⟩) npreS rfl rfl hl.1 rfl (lv_room (Nat.le_of_ble_eq_true rfl)) dX9_flight_3 ⟨Nat.le_of_ble_eq_true rfl, Nat.le_of_ble_eq_true rfl⟩) hW (fun x3 H locs p3 hW => ?_)
  try dsimp only at p3
  refine lv_if_eq (tgt := 19) hx hb dX9_flight_6 (by decide) (fun c6 => ?_) (fun c6 => ?_)
  · have g3 := bI_z.mp (p3.symm.trans c6)
    obtain ⟨k, hk, ek⟩ := out_n (n := 3) (by decide) g3
    refine lv_aload_n hx hb dX9_flight_19 rfl (lv_at hl 0 rfl) ?_
    refine wgF (t := 5) hx hb fa24 hW (hX.1 0 (by decide)) rfl dX9_flight_20 ?_
    refine lv_iload_n hx hb dX9_flight_23 rfl (lv_at hl 1 rfl) ?_
    refine walK (j := k) hx hb hK hW (hX.1 5 (by decide)) ek (by omega) (by decide) dX9_flight_24 ?_
    refine wgI hx hb fa158 hW (sh_kind hX k (by omega)) rfl dX9_flight_25 (fun x25 e25 => ?_)
    refine vx_ret ?_
    refine W.widen (k := 1) (n := 6) (by decide) (by decide) ?_
    exact wr_wi hx hb hr hlocks hW dX9_flight_28 ⟨oA.rf, hXX, (by simp [inB, zoB_eq, g3]), by rw [e25, (hR.2.2.2.1 k hk).2.2.2.2.1, ek, n1_nI (by omega)]⟩
  · have t3 := bI_t.mp (fun z => c6 (p3.trans z))
    exact wx_throw (text := "kind is out of range") hx hb hl9 xok_IA (by decide) (List.mem_of_getElem? (i := 5) rfl) ht hown (hts (.classLink RX9 96 "java/lang/IllegalArgumentException") (List.mem_of_getElem? (i := 1) rfl)) (hts (.initialized "java/lang/IllegalArgumentException") (List.mem_of_getElem? (i := 2) rfl)) (fun w h => hts w (List.mem_cons_of_mem _ (List.mem_append_right _ (h)))) hE hZ hW (hl.1.trans hml.symm) dX9_flight_9 dX9_flight_12 dX9_flight_13 dX9_flight_15 dX9_flight_18 ⟨Nat.le_of_ble_eq_true rfl, Nat.le_of_ble_eq_true rfl⟩ ⟨Nat.le_of_ble_eq_true rfl, Nat.le_of_ble_eq_true rfl⟩ hlocks ⟨Nat.le_of_ble_eq_true rfl, Nat.le_of_ble_eq_true rfl⟩ ⟨rfl, (by first | (simp [inB, zoB_eq, t3]; done)), oA.rf, hXX⟩
set_option maxHeartbeats 4000000 in
set_option maxRecDepth 100000 in
theorem c_X9_inLayer (l : Launch) (hl9 : l.stackTraces = false) (D : va_G) (cA : Nat → ClassId) (sh : Nat → Option Sh) (ad : Nat → Nat) (M : MS) (sz : Nat) (σ : AS) (v : VT) (hX : XSh (aN σ) sh) (hXX : XX σ v M) (a b : Int32) : vx_Met l yX9_inLayer wsX9_inLayer ({ frames := 6, cells := 1, slots := 6, locals := 90 }) (xPc D cA sh ad M sz [.ref (ad 0), .int a, .int b]) (wQi D cA sh ad (fun r M' => oA XSx M M' ∧ XX σ v M' ∧ (inB a 0 3 && inB b 0 3) = true ∧ r = nI (cntN (σ.1 2 (n1 a)) (σ.1 3 (n1 a)) (σ.2 11 (n1 a)) (n1 b))) (wA sh ad sz)) (xXC D cA sh ad (pxG σ v M nIA (inB a 0 3 && inB b 0 3)) (wA sh ad sz)) 1 6 (wA sh ad sz) := by
  refine vx_ofW (cc := cX9_inLayer) (maxL := 3) (ret := (some .int)) (by decide) rfl ?_
  intro p e s m args below meth cd0 s₁ B hml ht hv
  obtain ⟨rfl, hsz, hM, hK, hE, hZ⟩ := hv
  have hx := B.exec
  have hb := B.bytes
  have hr := B.returns
  have hts := atoms_spec (ws := wsX9_inLayer) B.pre
  have hown : s.vm.findClass RX9 = some m.cls := findClass_of_methodNamed B.named
  have hlocks := B.notSynchronized
  subst hsz
  have hA := wA_PA sh ad s.heap
  generalize wA sh ad s.heap.size = A at hA hZ ⊢
  have hW : WS D cA sh ad A s.heap M s.heap [] := ⟨hM, va_S.rf⟩
  have fa24 : FA D s m ([.ref (ad 0), .int a, .int b] : List Value).toArray 24 9 2 := FA.mk (C := RX9) (T := TX9) (N := 15) hts (fun _ h => List.mem_cons_of_mem _ (List.mem_append_left _ (List.mem_append_left _ (List.mem_append_right _ (h))))) hown hK rfl (by decide) (hts (.fieldLink RX9 24 "MortarShow" "kinds" "[LMortarShow$Kind;") (List.mem_of_getElem? (i := 3) rfl))
  have fa163 : FA D s m ([.ref (ad 0), .int a, .int b] : List Value).toArray 163 6 0 := FA.mk (C := RX6) (T := TX6) (N := 7) hts (fun _ h => List.mem_cons_of_mem _ (List.mem_append_left _ (List.mem_append_right _ (h)))) hown hK rfl (by decide) (hts (.fieldLink RX9 163 "MortarShow$Kind" "ticksIn" "[I") (List.mem_of_getElem? (i := 4) rfl))
  have hl := lv_entry ([.ref (ad 0), .int a, .int b]) (n := 3) (Nat.le_of_ble_eq_true rfl)
  rw [lg_entry_eq]
  generalize (lg_sl ([.ref (ad 0), .int a, .int b]) ++ List.replicate (3 - (lg_sl ([.ref (ad 0), .int a, .int b])).length) Slot.unset).toArray = ls at hl ⊢
  have hl : lv_has ls 3 [(0, .ref (ad 0)), (1, .int a), (2, .int b)] := hl
  obtain ⟨ok, hR, hP, hL, hV, hT⟩ := hXX
  have hXX : XX σ v M := ⟨ok, hR, hP, hL, hV, hT⟩
  have o1 := ok.1
  refine lv_iload_n hx hb dX9_inLayer_0 rfl (lv_at hl 1 rfl) ?_
  refine lv_iconst (v := 0) hx hb dX9_inLayer_1 (by decide) ?_
  refine lv_iconst (v := 3) hx hb dX9_inLayer_2 (by decide) ?_
  refine wc_ri (va_runS (As := [.int a, .int 0, .int 3]) (rest := []) ⟨hx, hb, hml, hown, hts⟩ (c_X9_outside l a 0 3) (va_cwS 3 hts gX9_inLayer_X9_outside rfl rfl rfl (by decide +kernel) ⟨Nat.le_of_ble_eq_true rfl, Nat.le_of_ble_eq_true rfl⟩) npreS rfl rfl hl.1 rfl (lv_room (Nat.le_of_ble_eq_true rfl)) dX9_inLayer_3 ⟨Nat.le_of_ble_eq_true rfl, Nat.le_of_ble_eq_true rfl⟩) hW (fun x3 H locs p3 hW => ?_)
  try dsimp only at p3
  refine lv_if_ne (tgt := 18) hx hb dX9_inLayer_6 (by decide) (fun c6 => ?_) (fun c6 => ?_)
  · have t3 := bI_t.mp (fun z => c6 (p3.trans z))
    exact wx_throw (text := "kind or layer is out of range") hx hb hl9 xok_IA (by decide) (List.mem_of_getElem? (i := 6) rfl) ht hown (hts (.classLink RX9 96 "java/lang/IllegalArgumentException") (List.mem_of_getElem? (i := 1) rfl)) (hts (.initialized "java/lang/IllegalArgumentException") (List.mem_of_getElem? (i := 2) rfl)) (fun w h => hts w (List.mem_cons_of_mem _ (List.mem_append_right _ (h)))) hE hZ hW (hl.1.trans hml.symm) dX9_inLayer_18 dX9_inLayer_21 dX9_inLayer_22 dX9_inLayer_24 dX9_inLayer_27 ⟨Nat.le_of_ble_eq_true rfl, Nat.le_of_ble_eq_true rfl⟩ ⟨Nat.le_of_ble_eq_true rfl, Nat.le_of_ble_eq_true rfl⟩ hlocks ⟨Nat.le_of_ble_eq_true rfl, Nat.le_of_ble_eq_true rfl⟩ ⟨rfl, (by first | (simp [inB, zoB_eq, t3]; done) | (simp [inB, zoB_eq, t12]; done)), oA.rf, hXX⟩
  · have g3 := bI_z.mp (p3.symm.trans c6)
    refine lv_iload_n hx hb dX9_inLayer_9 rfl (lv_at hl 2 rfl) ?_
    refine lv_iconst (v := 0) hx hb dX9_inLayer_10 (by decide) ?_
    refine lv_iconst (v := 3) hx hb dX9_inLayer_11 (by decide) ?_
    refine wc_ri (va_runS (As := [.int b, .int 0, .int 3]) (rest := []) ⟨hx, hb, hml, hown, hts⟩ (c_X9_outside l b 0 3) (va_cwS 3 hts gX9_inLayer_X9_outside rfl rfl rfl (by decide +kernel) ⟨Nat.le_of_ble_eq_true rfl, Nat.le_of_ble_eq_true rfl⟩) npreS rfl rfl hl.1 rfl (lv_room (Nat.le_of_ble_eq_true rfl)) dX9_inLayer_12 ⟨Nat.le_of_ble_eq_true rfl, Nat.le_of_ble_eq_true rfl⟩) hW (fun x12 H locs p12 hW => ?_)
    try dsimp only at p12
    refine lv_if_eq (tgt := 28) hx hb dX9_inLayer_15 (by decide) (fun c15 => ?_) (fun c15 => ?_)
    · have g12 := bI_z.mp (p12.symm.trans c15)
      obtain ⟨k, hk, ek⟩ := out_n (n := 3) (by decide) g3
      obtain ⟨y, hy, ey⟩ := out_n (n := 3) (by decide) g12
      refine lv_aload_n hx hb dX9_inLayer_28 rfl (lv_at hl 0 rfl) ?_
      refine wgF (t := 5) hx hb fa24 hW (hX.1 0 (by decide)) rfl dX9_inLayer_29 ?_
      refine lv_iload_n hx hb dX9_inLayer_32 rfl (lv_at hl 1 rfl) ?_
      refine walK (j := k) hx hb hK hW (hX.1 5 (by decide)) ek (by omega) (by decide) dX9_inLayer_33 ?_
      refine wgF (t := (44 + k)) hx hb fa163 hW (sh_kind hX k (by omega)) rfl dX9_inLayer_34 ?_
      refine lv_iload_n hx hb dX9_inLayer_37 rfl (lv_at hl 2 rfl) ?_
      refine walI (j := y) hx hb hK hW (sh_ticks hX k (by omega)) ey (by omega) (by decide) dX9_inLayer_38 (fun x38 e38 => ?_)
      refine vx_ret ?_
      refine W.widen (k := 1) (n := 6) (by decide) (by decide) ?_
      exact wr_wi hx hb hr hlocks hW dX9_inLayer_39 ⟨oA.rf, hXX, (by simp [inB, zoB_eq, g3, g12]), by rw [e38, (hR.2.2.2.1 k hk).2.2.2.2.2 y hy, ek, ey, n1_nI (by omega), n1_nI (by omega)]⟩
    · have t12 := bI_t.mp (fun z => c15 (p12.trans z))
      exact wx_throw (text := "kind or layer is out of range") hx hb hl9 xok_IA (by decide) (List.mem_of_getElem? (i := 6) rfl) ht hown (hts (.classLink RX9 96 "java/lang/IllegalArgumentException") (List.mem_of_getElem? (i := 1) rfl)) (hts (.initialized "java/lang/IllegalArgumentException") (List.mem_of_getElem? (i := 2) rfl)) (fun w h => hts w (List.mem_cons_of_mem _ (List.mem_append_right _ (h)))) hE hZ hW (hl.1.trans hml.symm) dX9_inLayer_18 dX9_inLayer_21 dX9_inLayer_22 dX9_inLayer_24 dX9_inLayer_27 ⟨Nat.le_of_ble_eq_true rfl, Nat.le_of_ble_eq_true rfl⟩ ⟨Nat.le_of_ble_eq_true rfl, Nat.le_of_ble_eq_true rfl⟩ hlocks ⟨Nat.le_of_ble_eq_true rfl, Nat.le_of_ble_eq_true rfl⟩ ⟨rfl, (by first | (simp [inB, zoB_eq, t3]; done) | (simp [inB, zoB_eq, t12]; done)), oA.rf, hXX⟩
set_option maxHeartbeats 4000000 in
set_option maxRecDepth 100000 in
theorem c_X9_becomes (l : Launch) (hl9 : l.stackTraces = false) (D : va_G) (cA : Nat → ClassId) (sh : Nat → Option Sh) (ad : Nat → Nat) (M : MS) (sz : Nat) (σ : AS) (v : VT) (hX : XSh (aN σ) sh) (hXX : XX σ v M) (a : Int32) : vx_Met l yX9_becomes wsX9_becomes ({ frames := 8, cells := 1, slots := 6, locals := 133 }) (xPc D cA sh ad M sz [.ref (ad 0), .int a]) (wQi D cA sh ad (fun r M' => oA XSx M M' ∧ XX σ v M' ∧ cuB σ a = true ∧ ∃ q c, Srt σ 40 q c ∧ r = nI (fateA σ q c (n1 a))) (wA sh ad sz)) (xXC D cA sh ad (pxG σ v M nIO (cuB σ a)) (wA sh ad sz)) 1 6 (wA sh ad sz) := by
  refine vx_ofW (cc := cX9_becomes) (maxL := 2) (ret := (some .int)) (by decide) rfl ?_
  intro p e s m args below meth cd0 s₁ B hml ht hv
  obtain ⟨rfl, hsz, hM, hK, hE, hZ⟩ := hv
  have hx := B.exec
  have hb := B.bytes
  have hr := B.returns
  have hts := atoms_spec (ws := wsX9_becomes) B.pre
  have hown : s.vm.findClass RX9 = some m.cls := findClass_of_methodNamed B.named
  have hlocks := B.notSynchronized
  subst hsz
  have hA := wA_PA sh ad s.heap
  generalize wA sh ad s.heap.size = A at hA hZ ⊢
  have hW : WS D cA sh ad A s.heap M s.heap [] := ⟨hM, va_S.rf⟩
  have fa188 : FA D s m ([.ref (ad 0), .int a] : List Value).toArray 188 2 7 := FA.mk (C := RX2) (T := TX2) (N := 9) hts (fun _ h => List.mem_cons_of_mem _ (List.mem_append_left _ (List.mem_append_left _ (List.mem_append_left _ (List.mem_append_left _ (List.mem_append_left _ (List.mem_append_left _ (List.mem_append_left _ (List.mem_append_left _ (List.mem_append_right _ (h))))))))))) hown hK rfl (by decide) (hts (.fieldLink RX9 188 "MortarShow$Cue" "fate" "I") (List.mem_of_getElem? (i := 1) rfl))
  have hl := lv_entry ([.ref (ad 0), .int a]) (n := 2) (Nat.le_of_ble_eq_true rfl)
  rw [lg_entry_eq]
  generalize (lg_sl ([.ref (ad 0), .int a]) ++ List.replicate (2 - (lg_sl ([.ref (ad 0), .int a])).length) Slot.unset).toArray = ls at hl ⊢
  have hl : lv_has ls 2 [(0, .ref (ad 0)), (1, .int a)] := hl
  obtain ⟨ok, hR, hP, hL, hV, hT⟩ := hXX
  have hXX : XX σ v M := ⟨ok, hR, hP, hL, hV, hT⟩
  have o1 := ok.1
  refine lv_aload_n hx hb dX9_becomes_0 rfl (lv_at hl 0 rfl) ?_
  refine lv_iload_n hx hb dX9_becomes_1 rfl (lv_at hl 1 rfl) ?_
  refine wx_wr (vx_runV (As := [.int a]) (rest := []) ⟨hx, hb, hml, hown, hts⟩ (c_X9_foundAndPlanned l hl9 D cA sh ad M _ σ v hX hXX a) (cwV 1 hts gX9_becomes_X9_foundAndPlanned rfl rfl rfl (by decide +kernel) ⟨Nat.le_of_ble_eq_true rfl, Nat.le_of_ble_eq_true rfl⟩) (xpreV hK hA hW hE hZ (C := RX9) (ci := 9) (hX.1 0 (by decide)) rfl) rfl rfl hl.1 rfl (lv_room (Nat.le_of_ble_eq_true rfl)) dX9_becomes_2 ⟨Nat.le_of_ble_eq_true rfl, Nat.le_of_ble_eq_true rfl⟩) hA hW ht hlocks ⟨by decide, by decide⟩ (fun E M9 h9 => h9) (fun q2 M2 H locs p2 hW => ?_)
  try dsimp only at p2
  obtain ⟨o2, hX2, hc2, i, hi, ev, hg, eq2, q, c, P2⟩ := p2
  subst eq2
  have hn9 : n1 a = i := by rw [ev]; exact n1_nI (by omega)
  refine wgI hx hb fa188 hW (hX.2 i (by omega)) rfl dX9_becomes_5 (fun x5 e5 => ?_)
  refine vx_ret ?_
  refine W.widen (k := 1) (n := 6) (by decide) (by decide) ?_
  exact wr_wi hx hb hr hlocks hW dX9_becomes_8 ⟨o2, hX2, hc2, q, c, P2.1, by rw [hn9]; exact e5.trans (plan_fate P2 hi hg o1).1⟩
set_option maxHeartbeats 4000000 in
set_option maxRecDepth 100000 in
theorem c_X9_bursts (l : Launch) (hl9 : l.stackTraces = false) (D : va_G) (cA : Nat → ClassId) (sh : Nat → Option Sh) (ad : Nat → Nat) (M : MS) (sz : Nat) (σ : AS) (v : VT) (hX : XSh (aN σ) sh) (hXX : XX σ v M) (a : Int32) : vx_Met l yX9_bursts wsX9_bursts ({ frames := 8, cells := 1, slots := 6, locals := 133 }) (xPc D cA sh ad M sz [.ref (ad 0), .int a]) (wQi D cA sh ad (fun r M' => oA XSx M M' ∧ XX σ v M' ∧ cuB σ a = true ∧ ∃ q c, Srt σ 40 q c ∧ r = burI σ (n1 a)) (wA sh ad sz)) (xXC D cA sh ad (pxG σ v M nIO (cuB σ a)) (wA sh ad sz)) 1 6 (wA sh ad sz) := by
  refine vx_ofW (cc := cX9_bursts) (maxL := 2) (ret := (some .int)) (by decide) rfl ?_
  intro p e s m args below meth cd0 s₁ B hml ht hv
  obtain ⟨rfl, hsz, hM, hK, hE, hZ⟩ := hv
  have hx := B.exec
  have hb := B.bytes
  have hr := B.returns
  have hts := atoms_spec (ws := wsX9_bursts) B.pre
  have hown : s.vm.findClass RX9 = some m.cls := findClass_of_methodNamed B.named
  have hlocks := B.notSynchronized
  subst hsz
  have hA := wA_PA sh ad s.heap
  generalize wA sh ad s.heap.size = A at hA hZ ⊢
  have hW : WS D cA sh ad A s.heap M s.heap [] := ⟨hM, va_S.rf⟩
  have fa191 : FA D s m ([.ref (ad 0), .int a] : List Value).toArray 191 2 5 := FA.mk (C := RX2) (T := TX2) (N := 9) hts (fun _ h => List.mem_cons_of_mem _ (List.mem_append_left _ (List.mem_append_left _ (List.mem_append_left _ (List.mem_append_left _ (List.mem_append_left _ (List.mem_append_left _ (List.mem_append_left _ (List.mem_append_left _ (List.mem_append_right _ (h))))))))))) hown hK rfl (by decide) (hts (.fieldLink RX9 191 "MortarShow$Cue" "burstTick" "I") (List.mem_of_getElem? (i := 1) rfl))
  have hl := lv_entry ([.ref (ad 0), .int a]) (n := 2) (Nat.le_of_ble_eq_true rfl)
  rw [lg_entry_eq]
  generalize (lg_sl ([.ref (ad 0), .int a]) ++ List.replicate (2 - (lg_sl ([.ref (ad 0), .int a])).length) Slot.unset).toArray = ls at hl ⊢
  have hl : lv_has ls 2 [(0, .ref (ad 0)), (1, .int a)] := hl
  obtain ⟨ok, hR, hP, hL, hV, hT⟩ := hXX
  have hXX : XX σ v M := ⟨ok, hR, hP, hL, hV, hT⟩
  have o1 := ok.1
  refine lv_aload_n hx hb dX9_bursts_0 rfl (lv_at hl 0 rfl) ?_
  refine lv_iload_n hx hb dX9_bursts_1 rfl (lv_at hl 1 rfl) ?_
  refine wx_wr (vx_runV (As := [.int a]) (rest := []) ⟨hx, hb, hml, hown, hts⟩ (c_X9_foundAndPlanned l hl9 D cA sh ad M _ σ v hX hXX a) (cwV 1 hts gX9_bursts_X9_foundAndPlanned rfl rfl rfl (by decide +kernel) ⟨Nat.le_of_ble_eq_true rfl, Nat.le_of_ble_eq_true rfl⟩) (xpreV hK hA hW hE hZ (C := RX9) (ci := 9) (hX.1 0 (by decide)) rfl) rfl rfl hl.1 rfl (lv_room (Nat.le_of_ble_eq_true rfl)) dX9_bursts_2 ⟨Nat.le_of_ble_eq_true rfl, Nat.le_of_ble_eq_true rfl⟩) hA hW ht hlocks ⟨by decide, by decide⟩ (fun E M9 h9 => h9) (fun q2 M2 H locs p2 hW => ?_)
  try dsimp only at p2
  obtain ⟨o2, hX2, hc2, i, hi, ev, hg, eq2, q, c, P2⟩ := p2
  subst eq2
  have hn9 : n1 a = i := by rw [ev]; exact n1_nI (by omega)
  refine wgI hx hb fa191 hW (hX.2 i (by omega)) rfl dX9_bursts_5 (fun x5 e5 => ?_)
  refine vx_ret ?_
  refine W.widen (k := 1) (n := 6) (by decide) (by decide) ?_
  exact wr_wi hx hb hr hlocks hW dX9_bursts_8 ⟨o2, hX2, hc2, q, c, P2.1, by rw [hn9]; exact e5.trans (P2.2.1 i hi hg).2.1⟩
set_option maxHeartbeats 4000000 in
set_option maxRecDepth 100000 in
theorem c_X9_fires (l : Launch) (hl9 : l.stackTraces = false) (D : va_G) (cA : Nat → ClassId) (sh : Nat → Option Sh) (ad : Nat → Nat) (M : MS) (sz : Nat) (σ : AS) (v : VT) (hX : XSh (aN σ) sh) (hXX : XX σ v M) (a : Int32) : vx_Met l yX9_fires wsX9_fires ({ frames := 8, cells := 1, slots := 6, locals := 133 }) (xPc D cA sh ad M sz [.ref (ad 0), .int a]) (wQi D cA sh ad (fun r M' => oA XSx M M' ∧ XX σ v M' ∧ cuB σ a = true ∧ ∃ q c, Srt σ 40 q c ∧ r = tkI σ (n1 a)) (wA sh ad sz)) (xXC D cA sh ad (pxG σ v M nIO (cuB σ a)) (wA sh ad sz)) 1 6 (wA sh ad sz) := by
  refine vx_ofW (cc := cX9_fires) (maxL := 2) (ret := (some .int)) (by decide) rfl ?_
  intro p e s m args below meth cd0 s₁ B hml ht hv
  obtain ⟨rfl, hsz, hM, hK, hE, hZ⟩ := hv
  have hx := B.exec
  have hb := B.bytes
  have hr := B.returns
  have hts := atoms_spec (ws := wsX9_fires) B.pre
  have hown : s.vm.findClass RX9 = some m.cls := findClass_of_methodNamed B.named
  have hlocks := B.notSynchronized
  subst hsz
  have hA := wA_PA sh ad s.heap
  generalize wA sh ad s.heap.size = A at hA hZ ⊢
  have hW : WS D cA sh ad A s.heap M s.heap [] := ⟨hM, va_S.rf⟩
  have fa194 : FA D s m ([.ref (ad 0), .int a] : List Value).toArray 194 2 6 := FA.mk (C := RX2) (T := TX2) (N := 9) hts (fun _ h => List.mem_cons_of_mem _ (List.mem_append_left _ (List.mem_append_left _ (List.mem_append_left _ (List.mem_append_left _ (List.mem_append_left _ (List.mem_append_left _ (List.mem_append_left _ (List.mem_append_left _ (List.mem_append_right _ (h))))))))))) hown hK rfl (by decide) (hts (.fieldLink RX9 194 "MortarShow$Cue" "fireTick" "I") (List.mem_of_getElem? (i := 1) rfl))
  have hl := lv_entry ([.ref (ad 0), .int a]) (n := 2) (Nat.le_of_ble_eq_true rfl)
  rw [lg_entry_eq]
  generalize (lg_sl ([.ref (ad 0), .int a]) ++ List.replicate (2 - (lg_sl ([.ref (ad 0), .int a])).length) Slot.unset).toArray = ls at hl ⊢
  have hl : lv_has ls 2 [(0, .ref (ad 0)), (1, .int a)] := hl
  obtain ⟨ok, hR, hP, hL, hV, hT⟩ := hXX
  have hXX : XX σ v M := ⟨ok, hR, hP, hL, hV, hT⟩
  have o1 := ok.1
  refine lv_aload_n hx hb dX9_fires_0 rfl (lv_at hl 0 rfl) ?_
  refine lv_iload_n hx hb dX9_fires_1 rfl (lv_at hl 1 rfl) ?_
  refine wx_wr (vx_runV (As := [.int a]) (rest := []) ⟨hx, hb, hml, hown, hts⟩ (c_X9_foundAndPlanned l hl9 D cA sh ad M _ σ v hX hXX a) (cwV 1 hts gX9_fires_X9_foundAndPlanned rfl rfl rfl (by decide +kernel) ⟨Nat.le_of_ble_eq_true rfl, Nat.le_of_ble_eq_true rfl⟩) (xpreV hK hA hW hE hZ (C := RX9) (ci := 9) (hX.1 0 (by decide)) rfl) rfl rfl hl.1 rfl (lv_room (Nat.le_of_ble_eq_true rfl)) dX9_fires_2 ⟨Nat.le_of_ble_eq_true rfl, Nat.le_of_ble_eq_true rfl⟩) hA hW ht hlocks ⟨by decide, by decide⟩ (fun E M9 h9 => h9) (fun q2 M2 H locs p2 hW => ?_)
  try dsimp only at p2
  obtain ⟨o2, hX2, hc2, i, hi, ev, hg, eq2, q, c, P2⟩ := p2
  subst eq2
  have hn9 : n1 a = i := by rw [ev]; exact n1_nI (by omega)
  refine wgI hx hb fa194 hW (hX.2 i (by omega)) rfl dX9_fires_5 (fun x5 e5 => ?_)
  refine vx_ret ?_
  refine W.widen (k := 1) (n := 6) (by decide) (by decide) ?_
  exact wr_wi hx hb hr hlocks hW dX9_fires_8 ⟨o2, hX2, hc2, q, c, P2.1, by rw [hn9]; exact e5.trans (P2.2.1 i hi hg).2.2.1⟩
set_option maxHeartbeats 4000000 in
set_option maxRecDepth 100000 in
theorem c_X9_danger (l : Launch) (hl9 : l.stackTraces = false) (D : va_G) (cA : Nat → ClassId) (sh : Nat → Option Sh) (ad : Nat → Nat) (M : MS) (sz : Nat) (σ : AS) (v : VT) (hX : XSh (aN σ) sh) (hXX : XX σ v M) (a : Int32) : vx_Met l yX9_danger wsX9_danger ({ frames := 8, cells := 1, slots := 6, locals := 133 }) (xPc D cA sh ad M sz [.ref (ad 0), .int a]) (wQl D cA sh ad (fun r M' => oA XSx M M' ∧ XX σ v M' ∧ cuB σ a = true ∧ ∃ q c, Srt σ 40 q c ∧ ∀ k, k < 64 → bitL r k = zonB σ (n1 a) k) (wA sh ad sz)) (xXC D cA sh ad (pxG σ v M nIO (cuB σ a)) (wA sh ad sz)) 1 6 (wA sh ad sz) := by
  refine vx_ofW (cc := cX9_danger) (maxL := 2) (ret := (some .long)) (by decide) rfl ?_
  intro p e s m args below meth cd0 s₁ B hml ht hv
  obtain ⟨rfl, hsz, hM, hK, hE, hZ⟩ := hv
  have hx := B.exec
  have hb := B.bytes
  have hr := B.returns
  have hts := atoms_spec (ws := wsX9_danger) B.pre
  have hown : s.vm.findClass RX9 = some m.cls := findClass_of_methodNamed B.named
  have hlocks := B.notSynchronized
  subst hsz
  have hA := wA_PA sh ad s.heap
  generalize wA sh ad s.heap.size = A at hA hZ ⊢
  have hW : WS D cA sh ad A s.heap M s.heap [] := ⟨hM, va_S.rf⟩
  have fa246 : FA D s m ([.ref (ad 0), .int a] : List Value).toArray 246 2 4 := FA.mk (C := RX2) (T := TX2) (N := 9) hts (fun _ h => List.mem_cons_of_mem _ (List.mem_append_left _ (List.mem_append_left _ (List.mem_append_left _ (List.mem_append_left _ (List.mem_append_left _ (List.mem_append_left _ (List.mem_append_left _ (List.mem_append_left _ (List.mem_append_right _ (h))))))))))) hown hK rfl (by decide) (hts (.fieldLink RX9 246 "MortarShow$Cue" "zones" "J") (List.mem_of_getElem? (i := 1) rfl))
  have hl := lv_entry ([.ref (ad 0), .int a]) (n := 2) (Nat.le_of_ble_eq_true rfl)
  rw [lg_entry_eq]
  generalize (lg_sl ([.ref (ad 0), .int a]) ++ List.replicate (2 - (lg_sl ([.ref (ad 0), .int a])).length) Slot.unset).toArray = ls at hl ⊢
  have hl : lv_has ls 2 [(0, .ref (ad 0)), (1, .int a)] := hl
  obtain ⟨ok, hR, hP, hL, hV, hT⟩ := hXX
  have hXX : XX σ v M := ⟨ok, hR, hP, hL, hV, hT⟩
  have o1 := ok.1
  refine lv_aload_n hx hb dX9_danger_0 rfl (lv_at hl 0 rfl) ?_
  refine lv_iload_n hx hb dX9_danger_1 rfl (lv_at hl 1 rfl) ?_
  refine wx_wr (vx_runV (As := [.int a]) (rest := []) ⟨hx, hb, hml, hown, hts⟩ (c_X9_foundAndPlanned l hl9 D cA sh ad M _ σ v hX hXX a) (cwV 1 hts gX9_danger_X9_foundAndPlanned rfl rfl rfl (by decide +kernel) ⟨Nat.le_of_ble_eq_true rfl, Nat.le_of_ble_eq_true rfl⟩) (xpreV hK hA hW hE hZ (C := RX9) (ci := 9) (hX.1 0 (by decide)) rfl) rfl rfl hl.1 rfl (lv_room (Nat.le_of_ble_eq_true rfl)) dX9_danger_2 ⟨Nat.le_of_ble_eq_true rfl, Nat.le_of_ble_eq_true rfl⟩) hA hW ht hlocks ⟨by decide, by decide⟩ (fun E M9 h9 => h9) (fun q2 M2 H locs p2 hW => ?_)
  try dsimp only at p2
  obtain ⟨o2, hX2, hc2, i, hi, ev, hg, eq2, q, c, P2⟩ := p2
  subst eq2
  have hn9 : n1 a = i := by rw [ev]; exact n1_nI (by omega)
  refine wgL hx hb fa246 hW (hX.2 i (by omega)) rfl dX9_danger_5 (fun x5 e5 => ?_)
  refine vx_ret ?_
  refine W.widen (k := 1) (n := 6) (by decide) (by decide) ?_
  exact wr_wl hx hb hr hlocks hW dX9_danger_8 ⟨o2, hX2, hc2, q, c, P2.1, by rw [hn9]; intro k hk; rw [e5]; exact (P2.2.1 i hi hg).1 k hk⟩
set_option maxHeartbeats 4000000 in
set_option maxRecDepth 100000 in
theorem c_X9_channelOf (l : Launch) (hl9 : l.stackTraces = false) (D : va_G) (cA : Nat → ClassId) (sh : Nat → Option Sh) (ad : Nat → Nat) (M : MS) (sz : Nat) (σ : AS) (v : VT) (hX : XSh (aN σ) sh) (hXX : XX σ v M) (a : Int32) : vx_Met l yX9_channelOf wsX9_channelOf ({ frames := 8, cells := 1, slots := 6, locals := 133 }) (xPc D cA sh ad M sz [.ref (ad 0), .int a]) (wQi D cA sh ad (fun r M' => oA XSx M M' ∧ XX σ v M' ∧ cuB σ a = true ∧ ∃ q c, Srt σ 40 q c ∧ r = chanA σ q c (n1 a)) (wA sh ad sz)) (xXC D cA sh ad (pxG σ v M nIO (cuB σ a)) (wA sh ad sz)) 1 6 (wA sh ad sz) := by
  refine vx_ofW (cc := cX9_channelOf) (maxL := 2) (ret := (some .int)) (by decide) rfl ?_
  intro p e s m args below meth cd0 s₁ B hml ht hv
  obtain ⟨rfl, hsz, hM, hK, hE, hZ⟩ := hv
  have hx := B.exec
  have hb := B.bytes
  have hr := B.returns
  have hts := atoms_spec (ws := wsX9_channelOf) B.pre
  have hown : s.vm.findClass RX9 = some m.cls := findClass_of_methodNamed B.named
  have hlocks := B.notSynchronized
  subst hsz
  have hA := wA_PA sh ad s.heap
  generalize wA sh ad s.heap.size = A at hA hZ ⊢
  have hW : WS D cA sh ad A s.heap M s.heap [] := ⟨hM, va_S.rf⟩
  have fa270 : FA D s m ([.ref (ad 0), .int a] : List Value).toArray 270 2 8 := FA.mk (C := RX2) (T := TX2) (N := 9) hts (fun _ h => List.mem_cons_of_mem _ (List.mem_append_left _ (List.mem_append_left _ (List.mem_append_left _ (List.mem_append_left _ (List.mem_append_left _ (List.mem_append_left _ (List.mem_append_left _ (List.mem_append_left _ (List.mem_append_right _ (h))))))))))) hown hK rfl (by decide) (hts (.fieldLink RX9 270 "MortarShow$Cue" "channel" "I") (List.mem_of_getElem? (i := 1) rfl))
  have hl := lv_entry ([.ref (ad 0), .int a]) (n := 2) (Nat.le_of_ble_eq_true rfl)
  rw [lg_entry_eq]
  generalize (lg_sl ([.ref (ad 0), .int a]) ++ List.replicate (2 - (lg_sl ([.ref (ad 0), .int a])).length) Slot.unset).toArray = ls at hl ⊢
  have hl : lv_has ls 2 [(0, .ref (ad 0)), (1, .int a)] := hl
  obtain ⟨ok, hR, hP, hL, hV, hT⟩ := hXX
  have hXX : XX σ v M := ⟨ok, hR, hP, hL, hV, hT⟩
  have o1 := ok.1
  refine lv_aload_n hx hb dX9_channelOf_0 rfl (lv_at hl 0 rfl) ?_
  refine lv_iload_n hx hb dX9_channelOf_1 rfl (lv_at hl 1 rfl) ?_
  refine wx_wr (vx_runV (As := [.int a]) (rest := []) ⟨hx, hb, hml, hown, hts⟩ (c_X9_foundAndPlanned l hl9 D cA sh ad M _ σ v hX hXX a) (cwV 1 hts gX9_channelOf_X9_foundAndPlanned rfl rfl rfl (by decide +kernel) ⟨Nat.le_of_ble_eq_true rfl, Nat.le_of_ble_eq_true rfl⟩) (xpreV hK hA hW hE hZ (C := RX9) (ci := 9) (hX.1 0 (by decide)) rfl) rfl rfl hl.1 rfl (lv_room (Nat.le_of_ble_eq_true rfl)) dX9_channelOf_2 ⟨Nat.le_of_ble_eq_true rfl, Nat.le_of_ble_eq_true rfl⟩) hA hW ht hlocks ⟨by decide, by decide⟩ (fun E M9 h9 => h9) (fun q2 M2 H locs p2 hW => ?_)
  try dsimp only at p2
  obtain ⟨o2, hX2, hc2, i, hi, ev, hg, eq2, q, c, P2⟩ := p2
  subst eq2
  have hn9 : n1 a = i := by rw [ev]; exact n1_nI (by omega)
  refine wgI hx hb fa270 hW (hX.2 i (by omega)) rfl dX9_channelOf_5 (fun x5 e5 => ?_)
  refine vx_ret ?_
  refine W.widen (k := 1) (n := 6) (by decide) (by decide) ?_
  exact wr_wi hx hb hr hlocks hW dX9_channelOf_8 ⟨o2, hX2, hc2, q, c, P2.1, by rw [hn9]; exact e5.trans (plan_fate P2 hi hg o1).2⟩
set_option maxHeartbeats 4000000 in
set_option maxRecDepth 100000 in
theorem c_X9_fired (l : Launch) (D : va_G) (cA : Nat → ClassId) (sh : Nat → Option Sh) (ad : Nat → Nat) (M : MS) (sz : Nat) (σ : AS) (v : VT) (hX : XSh (aN σ) sh) (hXX : XX σ v M) : Met l yX9_fired wsX9_fired ({ frames := 4, cells := 0, slots := 0, locals := 95 }) (wPc D cA sh ad M sz [.ref (ad 0)]) (wQi D cA sh ad (fun r M' => oA XSx M M' ∧ XX σ v M' ∧ ∃ q c, Srt σ 40 q c ∧ r = nI (lit σ q c)) (wA sh ad sz)) 0 0 (wA sh ad sz) := by
  refine Met.ofW (cc := cX9_fired) (maxL := 1) (ret := (some .int)) (by decide) rfl ?_
  intro p e s m args below meth cd0 s₁ B hml hv
  obtain ⟨rfl, hsz, hM, hK⟩ := hv
  have hx := B.exec
  have hb := B.bytes
  have hr := B.returns
  have hts := atoms_spec (ws := wsX9_fired) B.pre
  have hown : s.vm.findClass RX9 = some m.cls := findClass_of_methodNamed B.named
  have hlocks := B.notSynchronized
  subst hsz
  have hA := wA_PA sh ad s.heap
  generalize wA sh ad s.heap.size = A at hA ⊢
  have hW : WS D cA sh ad A s.heap M s.heap [] := ⟨hM, va_S.rf⟩
  have fa76 : FA D s m ([.ref (ad 0)] : List Value).toArray 76 9 12 := FA.mk (C := RX9) (T := TX9) (N := 15) hts (fun _ h => List.mem_cons_of_mem _ (List.mem_append_left _ (List.mem_append_left _ (List.mem_append_left _ (List.mem_append_left _ (List.mem_append_left _ (List.mem_append_left _ (List.mem_append_left _ (List.mem_append_right _ (h)))))))))) hown hK rfl (by decide) (hts (.fieldLink RX9 76 "MortarShow" "queued" "I") (List.mem_of_getElem? (i := 1) rfl))
  have hl := lv_entry ([.ref (ad 0)]) (n := 1) (Nat.le_of_ble_eq_true rfl)
  rw [lg_entry_eq]
  generalize (lg_sl ([.ref (ad 0)]) ++ List.replicate (1 - (lg_sl ([.ref (ad 0)])).length) Slot.unset).toArray = ls at hl ⊢
  have hl : lv_has ls 1 [(0, .ref (ad 0))] := hl
  obtain ⟨ok, hR, hP, hL, hV, hT⟩ := hXX
  have hXX : XX σ v M := ⟨ok, hR, hP, hL, hV, hT⟩
  have o1 := ok.1
  refine lv_aload_n hx hb dX9_fired_0 rfl (lv_at hl 0 rfl) ?_
  refine wc_wv (va_runV (As := []) (rest := []) ⟨hx, hb, hml, hown, hts⟩ (c_X9_plan l D cA sh ad M _ σ ok hX hR hP) (cwV 0 hts gX9_fired_X9_plan rfl rfl rfl (by decide +kernel) ⟨Nat.le_of_ble_eq_true rfl, Nat.le_of_ble_eq_true rfl⟩) (wpreV hK hW (C := RX9) (ci := 9) (hX.1 0 (by decide)) rfl) rfl rfl hl.1 rfl (lv_room (Nat.le_of_ble_eq_true rfl)) dX9_fired_1 ⟨Nat.le_of_ble_eq_true rfl, Nat.le_of_ble_eq_true rfl⟩) hA hW (fun M1 H locs p1 hW => ?_)
  try dsimp only at p1
  obtain ⟨oP, vP, q, c, PP⟩ := p1
  have hXP : XX σ v M1 := hXX.pl oP vP ⟨q, c, PP⟩
  refine lv_aload_n hx hb dX9_fired_4 rfl (lv_at hl 0 rfl) ?_
  refine wgI hx hb fa76 hW (hX.1 0 (by decide)) rfl dX9_fired_5 (fun x5 e5 => ?_)
  exact wr_wi hx hb hr hlocks hW dX9_fired_8 ⟨XSc_x oP, hXP, q, c, PP.1, e5.trans PP.2.2.2.2.1⟩
set_option maxHeartbeats 4000000 in
set_option maxRecDepth 100000 in
theorem c_X9_closed (l : Launch) (D : va_G) (cA : Nat → ClassId) (sh : Nat → Option Sh) (ad : Nat → Nat) (M : MS) (sz : Nat) (σ : AS) (v : VT) (hX : XSh (aN σ) sh) (hXX : XX σ v M) : Met l yX9_closed wsX9_closed ({ frames := 4, cells := 0, slots := 0, locals := 95 }) (wPc D cA sh ad M sz [.ref (ad 0)]) (wQi D cA sh ad (fun r M' => oA XSx M M' ∧ XX σ v M' ∧ r = nI (cbN σ 101)) (wA sh ad sz)) 0 0 (wA sh ad sz) := by
  refine Met.ofW (cc := cX9_closed) (maxL := 1) (ret := (some .int)) (by decide) rfl ?_
  intro p e s m args below meth cd0 s₁ B hml hv
  obtain ⟨rfl, hsz, hM, hK⟩ := hv
  have hx := B.exec
  have hb := B.bytes
  have hr := B.returns
  have hts := atoms_spec (ws := wsX9_closed) B.pre
  have hown : s.vm.findClass RX9 = some m.cls := findClass_of_methodNamed B.named
  have hlocks := B.notSynchronized
  subst hsz
  have hA := wA_PA sh ad s.heap
  generalize wA sh ad s.heap.size = A at hA ⊢
  have hW : WS D cA sh ad A s.heap M s.heap [] := ⟨hM, va_S.rf⟩
  have fa51 : FA D s m ([.ref (ad 0)] : List Value).toArray 51 9 6 := FA.mk (C := RX9) (T := TX9) (N := 15) hts (fun _ h => List.mem_cons_of_mem _ (List.mem_append_left _ (List.mem_append_left _ (List.mem_append_left _ (List.mem_append_left _ (List.mem_append_left _ (List.mem_append_left _ (List.mem_append_left _ (List.mem_append_right _ (h)))))))))) hown hK rfl (by decide) (hts (.fieldLink RX9 51 "MortarShow" "beats" "LMortarShow$Beats;") (List.mem_of_getElem? (i := 1) rfl))
  have fa258 : FA D s m ([.ref (ad 0)] : List Value).toArray 258 0 3 := FA.mk (C := RX0) (T := TX0) (N := 4) hts (fun _ h => List.mem_cons_of_mem _ (List.mem_append_left _ (List.mem_append_left _ (List.mem_append_left _ (List.mem_append_left _ (List.mem_append_left _ (List.mem_append_left _ (List.mem_append_right _ (h))))))))) hown hK rfl (by decide) (hts (.fieldLink RX9 258 "MortarShow$Beats" "closedInAll" "I") (List.mem_of_getElem? (i := 2) rfl))
  have hl := lv_entry ([.ref (ad 0)]) (n := 1) (Nat.le_of_ble_eq_true rfl)
  rw [lg_entry_eq]
  generalize (lg_sl ([.ref (ad 0)]) ++ List.replicate (1 - (lg_sl ([.ref (ad 0)])).length) Slot.unset).toArray = ls at hl ⊢
  have hl : lv_has ls 1 [(0, .ref (ad 0))] := hl
  obtain ⟨ok, hR, hP, hL, hV, hT⟩ := hXX
  have hXX : XX σ v M := ⟨ok, hR, hP, hL, hV, hT⟩
  have o1 := ok.1
  refine lv_aload_n hx hb dX9_closed_0 rfl (lv_at hl 0 rfl) ?_
  refine wc_wv (va_runV (As := []) (rest := []) ⟨hx, hb, hml, hown, hts⟩ (c_X9_plan l D cA sh ad M _ σ ok hX hR hP) (cwV 0 hts gX9_closed_X9_plan rfl rfl rfl (by decide +kernel) ⟨Nat.le_of_ble_eq_true rfl, Nat.le_of_ble_eq_true rfl⟩) (wpreV hK hW (C := RX9) (ci := 9) (hX.1 0 (by decide)) rfl) rfl rfl hl.1 rfl (lv_room (Nat.le_of_ble_eq_true rfl)) dX9_closed_1 ⟨Nat.le_of_ble_eq_true rfl, Nat.le_of_ble_eq_true rfl⟩) hA hW (fun M1 H locs p1 hW => ?_)
  try dsimp only at p1
  obtain ⟨oP, vP, q, c, PP⟩ := p1
  have hXP : XX σ v M1 := hXX.pl oP vP ⟨q, c, PP⟩
  refine lv_aload_n hx hb dX9_closed_4 rfl (lv_at hl 0 rfl) ?_
  refine wgF (t := 12) hx hb fa51 hW (hX.1 0 (by decide)) rfl dX9_closed_5 ?_
  refine wgI hx hb fa258 hW (hX.1 12 (by decide)) rfl dX9_closed_8 (fun x8 e8 => ?_)
  exact wr_wi hx hb hr hlocks hW dX9_closed_11 ⟨XSc_x oP, hXP, e8.trans PP.2.2.2.2.2.2⟩
set_option maxHeartbeats 4000000 in
set_option maxRecDepth 100000 in
theorem c_X9_spares (l : Launch) (D : va_G) (cA : Nat → ClassId) (sh : Nat → Option Sh) (ad : Nat → Nat) (M : MS) (sz : Nat) (σ : AS) (v : VT) (hX : XSh (aN σ) sh) (hXX : XX σ v M) : Met l yX9_spares wsX9_spares ({ frames := 4, cells := 0, slots := 0, locals := 95 }) (wPc D cA sh ad M sz [.ref (ad 0)]) (wQi D cA sh ad (fun r M' => oA XSx M M' ∧ XX σ v M' ∧ ∃ q c, Srt σ 40 q c ∧ r = nI (ctN (spB (fun d => (gvn σ q c d).isSome)) 32)) (wA sh ad sz)) 0 0 (wA sh ad sz) := by
  refine Met.ofW (cc := cX9_spares) (maxL := 1) (ret := (some .int)) (by decide) rfl ?_
  intro p e s m args below meth cd0 s₁ B hml hv
  obtain ⟨rfl, hsz, hM, hK⟩ := hv
  have hx := B.exec
  have hb := B.bytes
  have hr := B.returns
  have hts := atoms_spec (ws := wsX9_spares) B.pre
  have hown : s.vm.findClass RX9 = some m.cls := findClass_of_methodNamed B.named
  have hlocks := B.notSynchronized
  subst hsz
  have hA := wA_PA sh ad s.heap
  generalize wA sh ad s.heap.size = A at hA ⊢
  have hW : WS D cA sh ad A s.heap M s.heap [] := ⟨hM, va_S.rf⟩
  have fa58 : FA D s m ([.ref (ad 0)] : List Value).toArray 58 9 7 := FA.mk (C := RX9) (T := TX9) (N := 15) hts (fun _ h => List.mem_cons_of_mem _ (List.mem_append_left _ (List.mem_append_left _ (List.mem_append_left _ (List.mem_append_left _ (List.mem_append_left _ (List.mem_append_left _ (List.mem_append_left _ (List.mem_append_right _ (h)))))))))) hown hK rfl (by decide) (hts (.fieldLink RX9 58 "MortarShow" "boxes" "LMortarShow$Boxes;") (List.mem_of_getElem? (i := 1) rfl))
  have hl := lv_entry ([.ref (ad 0)]) (n := 1) (Nat.le_of_ble_eq_true rfl)
  rw [lg_entry_eq]
  generalize (lg_sl ([.ref (ad 0)]) ++ List.replicate (1 - (lg_sl ([.ref (ad 0)])).length) Slot.unset).toArray = ls at hl ⊢
  have hl : lv_has ls 1 [(0, .ref (ad 0))] := hl
  obtain ⟨ok, hR, hP, hL, hV, hT⟩ := hXX
  have hXX : XX σ v M := ⟨ok, hR, hP, hL, hV, hT⟩
  have o1 := ok.1
  refine lv_aload_n hx hb dX9_spares_0 rfl (lv_at hl 0 rfl) ?_
  refine wc_wv (va_runV (As := []) (rest := []) ⟨hx, hb, hml, hown, hts⟩ (c_X9_plan l D cA sh ad M _ σ ok hX hR hP) (cwV 0 hts gX9_spares_X9_plan rfl rfl rfl (by decide +kernel) ⟨Nat.le_of_ble_eq_true rfl, Nat.le_of_ble_eq_true rfl⟩) (wpreV hK hW (C := RX9) (ci := 9) (hX.1 0 (by decide)) rfl) rfl rfl hl.1 rfl (lv_room (Nat.le_of_ble_eq_true rfl)) dX9_spares_1 ⟨Nat.le_of_ble_eq_true rfl, Nat.le_of_ble_eq_true rfl⟩) hA hW (fun M1 H locs p1 hW => ?_)
  try dsimp only at p1
  obtain ⟨oP, vP, q, c, PP⟩ := p1
  have hXP : XX σ v M1 := hXX.pl oP vP ⟨q, c, PP⟩
  have hgv : ∀ d, d < 32 → (gI M1 18 d = -1 ↔ (gvn σ q c d).isSome = false) := gv_iff PP o1
  refine lv_aload_n hx hb dX9_spares_4 rfl (lv_at hl 0 rfl) ?_
  refine wgF (t := 16) hx hb fa58 hW (hX.1 0 (by decide)) rfl dX9_spares_5 ?_
  refine wc_ri (va_runV (As := []) (rest := []) ⟨hx, hb, hml, hown, hts⟩ (c_X1_sparesGiven l D cA sh ad M1 _ _ hX (fun d => (gvn σ q c d).isSome) hgv) (cwV 0 hts gX9_spares_X1_sparesGiven rfl rfl rfl (by decide +kernel) ⟨Nat.le_of_ble_eq_true rfl, Nat.le_of_ble_eq_true rfl⟩) (wpreV hK hW (C := RX1) (ci := 1) (hX.1 16 (by decide)) rfl) rfl rfl hl.1 rfl (lv_room (Nat.le_of_ble_eq_true rfl)) dX9_spares_8 ⟨Nat.le_of_ble_eq_true rfl, Nat.le_of_ble_eq_true rfl⟩) hW (fun x8 H locs p8 hW => ?_)
  try dsimp only at p8
  exact wr_wi hx hb hr hlocks hW dX9_spares_11 ⟨XSc_x oP, hXP, q, c, PP.1, p8⟩
set_option maxHeartbeats 4000000 in
set_option maxRecDepth 100000 in
theorem c_X9_firing (l : Launch) (hl9 : l.stackTraces = false) (D : va_G) (cA : Nat → ClassId) (sh : Nat → Option Sh) (ad : Nat → Nat) (M : MS) (sz : Nat) (σ : AS) (v : VT) (hX : XSh (aN σ) sh) (hXX : XX σ v M) (a : Int32) : vx_Met l yX9_firing wsX9_firing ({ frames := 6, cells := 1, slots := 6, locals := 95 }) (xPc D cA sh ad M sz [.ref (ad 0), .int a]) (wQi D cA sh ad (fun r M' => oA XSx M M' ∧ XX σ v M' ∧ ∃ q c, Srt σ 40 q c ∧ fiB (lit σ q c) a = true ∧ r = nI (firA σ q c (n1 a))) (wA sh ad sz)) (xXC D cA sh ad (fun E M' => E = nIO ∧ oA XSx M M' ∧ XX σ v M' ∧ ∃ q c, Srt σ 40 q c ∧ fiB (lit σ q c) a = false) (wA sh ad sz)) 1 6 (wA sh ad sz) := by
  refine vx_ofW (cc := cX9_firing) (maxL := 2) (ret := (some .int)) (by decide) rfl ?_
  intro p e s m args below meth cd0 s₁ B hml ht hv
  obtain ⟨rfl, hsz, hM, hK, hE, hZ⟩ := hv
  have hx := B.exec
  have hb := B.bytes
  have hr := B.returns
  have hts := atoms_spec (ws := wsX9_firing) B.pre
  have hown : s.vm.findClass RX9 = some m.cls := findClass_of_methodNamed B.named
  have hlocks := B.notSynchronized
  subst hsz
  have hA := wA_PA sh ad s.heap
  generalize wA sh ad s.heap.size = A at hA hZ ⊢
  have hW : WS D cA sh ad A s.heap M s.heap [] := ⟨hM, va_S.rf⟩
  have fa62 : FA D s m ([.ref (ad 0), .int a] : List Value).toArray 62 9 8 := FA.mk (C := RX9) (T := TX9) (N := 15) hts (fun _ h => List.mem_cons_of_mem _ (List.mem_append_left _ (List.mem_append_left _ (List.mem_append_left _ (List.mem_append_left _ (List.mem_append_left _ (List.mem_append_left _ (List.mem_append_left _ (List.mem_append_left _ (List.mem_append_right _ (h))))))))))) hown hK rfl (by decide) (hts (.fieldLink RX9 62 "MortarShow" "queue" "[LMortarShow$Cue;") (List.mem_of_getElem? (i := 4) rfl))
  have fa76 : FA D s m ([.ref (ad 0), .int a] : List Value).toArray 76 9 12 := FA.mk (C := RX9) (T := TX9) (N := 15) hts (fun _ h => List.mem_cons_of_mem _ (List.mem_append_left _ (List.mem_append_left _ (List.mem_append_left _ (List.mem_append_left _ (List.mem_append_left _ (List.mem_append_left _ (List.mem_append_left _ (List.mem_append_left _ (List.mem_append_right _ (h))))))))))) hown hK rfl (by decide) (hts (.fieldLink RX9 76 "MortarShow" "queued" "I") (List.mem_of_getElem? (i := 3) rfl))
  have fa180 : FA D s m ([.ref (ad 0), .int a] : List Value).toArray 180 2 0 := FA.mk (C := RX2) (T := TX2) (N := 9) hts (fun _ h => List.mem_cons_of_mem _ (List.mem_append_left _ (List.mem_append_left _ (List.mem_append_left _ (List.mem_append_left _ (List.mem_append_left _ (List.mem_append_left _ (List.mem_append_left _ (List.mem_append_right _ (h)))))))))) hown hK rfl (by decide) (hts (.fieldLink RX9 180 "MortarShow$Cue" "number" "I") (List.mem_of_getElem? (i := 5) rfl))
  have hl := lv_entry ([.ref (ad 0), .int a]) (n := 2) (Nat.le_of_ble_eq_true rfl)
  rw [lg_entry_eq]
  generalize (lg_sl ([.ref (ad 0), .int a]) ++ List.replicate (2 - (lg_sl ([.ref (ad 0), .int a])).length) Slot.unset).toArray = ls at hl ⊢
  have hl : lv_has ls 2 [(0, .ref (ad 0)), (1, .int a)] := hl
  obtain ⟨ok, hR, hP, hL, hV, hT⟩ := hXX
  have hXX : XX σ v M := ⟨ok, hR, hP, hL, hV, hT⟩
  have o1 := ok.1
  refine lv_aload_n hx hb dX9_firing_0 rfl (lv_at hl 0 rfl) ?_
  refine wc_wv (va_runV (As := []) (rest := []) ⟨hx, hb, hml, hown, hts⟩ (c_X9_plan l D cA sh ad M _ σ ok hX hR hP) (cwV 0 hts gX9_firing_X9_plan rfl rfl rfl (by decide +kernel) ⟨Nat.le_of_ble_eq_true rfl, Nat.le_of_ble_eq_true rfl⟩) (wpreV hK hW (C := RX9) (ci := 9) (hX.1 0 (by decide)) rfl) rfl rfl hl.1 rfl (lv_room (Nat.le_of_ble_eq_true rfl)) dX9_firing_1 ⟨Nat.le_of_ble_eq_true rfl, Nat.le_of_ble_eq_true rfl⟩) hA hW (fun M1 H locs p1 hW => ?_)
  try dsimp only at p1
  obtain ⟨oP, vP, q, c, PP⟩ := p1
  have hXP : XX σ v M1 := hXX.pl oP vP ⟨q, c, PP⟩
  have hlc := lit_le σ q c
  have hc40 := PP.1.2.2.2
  refine lv_iload_n hx hb dX9_firing_4 rfl (lv_at hl 1 rfl) ?_
  refine lv_if_lt (tgt := 16) hx hb dX9_firing_5 (by decide) (fun c5 => ?_) (fun c5 => ?_)
  · exact wx_throw (text := "there is no such place") hx hb hl9 xok_IO (by decide) (List.mem_of_getElem? (i := 11) rfl) ht hown (hts (.classLink RX9 253 "java/lang/IndexOutOfBoundsException") (List.mem_of_getElem? (i := 1) rfl)) (hts (.initialized "java/lang/IndexOutOfBoundsException") (List.mem_of_getElem? (i := 2) rfl)) (fun w h => hts w (List.mem_cons_of_mem _ (List.mem_append_right _ (h)))) hE hZ hW (hl.1.trans hml.symm) dX9_firing_16 dX9_firing_19 dX9_firing_20 dX9_firing_22 dX9_firing_25 ⟨Nat.le_of_ble_eq_true rfl, Nat.le_of_ble_eq_true rfl⟩ ⟨Nat.le_of_ble_eq_true rfl, Nat.le_of_ble_eq_true rfl⟩ hlocks ⟨Nat.le_of_ble_eq_true rfl, Nat.le_of_ble_eq_true rfl⟩ ⟨rfl, XSc_x oP, hXP, q, c, PP.1, by
        apply decide_eq_false
        intro z
        first
        | (rw [i32lt] at c5; have z0 : (0 : Int32).toInt = 0 := rfl; omega)
        | (rw [en, nI_toInt hn] at z; omega)⟩
  · obtain ⟨n, hn, en⟩ := nI_of c5
    refine lv_iload_n hx hb dX9_firing_8 rfl (lv_at hl 1 rfl) ?_
    refine lv_aload_n hx hb dX9_firing_9 rfl (lv_at hl 0 rfl) ?_
    refine wgI hx hb fa76 hW (hX.1 0 (by decide)) rfl dX9_firing_10 (fun x10 e10 => ?_)
    have n10 : x10 = nI (lit σ q c) := (e10.trans PP.2.2.2.2.1)
    refine lv_icmp_lt (tgt := 26) hx hb dX9_firing_13 (by decide) (fun c13 => ?_) (fun c13 => ?_)
    · have k13 : n < (lit σ q c) := kc_lt en n10 (by omega) (by omega) c13
      obtain ⟨gq, ge⟩ := firing_at PP k13
      obtain ⟨fi, efi⟩ : ∃ z, z = firA σ q c n := ⟨_, rfl⟩
      rw [← efi] at gq ge
      have hfi := ge.1
      refine lv_aload_n hx hb dX9_firing_26 rfl (lv_at hl 0 rfl) ?_
      refine wgF (t := 20) hx hb fa62 hW (hX.1 0 (by decide)) rfl dX9_firing_27 ?_
      refine lv_iload_n hx hb dX9_firing_30 rfl (lv_at hl 1 rfl) ?_
      refine walRs (j := n) (t := (100 + fi)) hx hb hK hW (hX.1 20 (by decide)) gq en (by omega) (by decide) dX9_firing_31 ?_
      refine wgI hx hb fa180 hW (hX.2 fi (by omega)) rfl dX9_firing_32 (fun x32 e32 => ?_)
      refine vx_ret ?_
      refine W.widen (k := 1) (n := 6) (by decide) (by decide) ?_
      exact wr_wi hx hb hr hlocks hW dX9_firing_35 ⟨XSc_x oP, hXP, q, c, PP.1, decide_eq_true (by rw [en, nI_toInt hn]; omega), by rw [e32, (hXP.2.1.2.2.2.2.2.2.2.2.2.2.2 fi hfi).1, en, n1_nI hn, efi]⟩
    · have k13 : ¬ n < (lit σ q c) := kc_ltn en n10 (by omega) (by omega) c13
      exact wx_throw (text := "there is no such place") hx hb hl9 xok_IO (by decide) (List.mem_of_getElem? (i := 11) rfl) ht hown (hts (.classLink RX9 253 "java/lang/IndexOutOfBoundsException") (List.mem_of_getElem? (i := 1) rfl)) (hts (.initialized "java/lang/IndexOutOfBoundsException") (List.mem_of_getElem? (i := 2) rfl)) (fun w h => hts w (List.mem_cons_of_mem _ (List.mem_append_right _ (h)))) hE hZ hW (hl.1.trans hml.symm) dX9_firing_16 dX9_firing_19 dX9_firing_20 dX9_firing_22 dX9_firing_25 ⟨Nat.le_of_ble_eq_true rfl, Nat.le_of_ble_eq_true rfl⟩ ⟨Nat.le_of_ble_eq_true rfl, Nat.le_of_ble_eq_true rfl⟩ hlocks ⟨Nat.le_of_ble_eq_true rfl, Nat.le_of_ble_eq_true rfl⟩ ⟨rfl, XSc_x oP, hXP, q, c, PP.1, by
          apply decide_eq_false
          intro z
          first
          | (rw [i32lt] at c5; have z0 : (0 : Int32).toInt = 0 := rfl; omega)
          | (rw [en, nI_toInt hn] at z; omega)⟩
set_option maxHeartbeats 4000000 in
set_option maxRecDepth 100000 in
theorem c_X9_cueOn (l : Launch) (hl9 : l.stackTraces = false) (D : va_G) (cA : Nat → ClassId) (sh : Nat → Option Sh) (ad : Nat → Nat) (M : MS) (sz : Nat) (σ : AS) (v : VT) (hX : XSh (aN σ) sh) (hXX : XX σ v M) (a b : Int32) : vx_Met l yX9_cueOn wsX9_cueOn ({ frames := 6, cells := 1, slots := 6, locals := 95 }) (xPc D cA sh ad M sz [.ref (ad 0), .int a, .int b]) (wQi D cA sh ad (fun r M' => oA XSx M M' ∧ XX σ v M' ∧ (inB a 0 3 && inB b 0 7) = true ∧ ∃ q c, Srt σ 40 q c ∧ r = opI (gvn σ q c (8 * n1 a + n1 b))) (wA sh ad sz)) (xXC D cA sh ad (pxG σ v M nIA (inB a 0 3 && inB b 0 7)) (wA sh ad sz)) 1 6 (wA sh ad sz) := by
  refine vx_ofW (cc := cX9_cueOn) (maxL := 3) (ret := (some .int)) (by decide) rfl ?_
  intro p e s m args below meth cd0 s₁ B hml ht hv
  obtain ⟨rfl, hsz, hM, hK, hE, hZ⟩ := hv
  have hx := B.exec
  have hb := B.bytes
  have hr := B.returns
  have hts := atoms_spec (ws := wsX9_cueOn) B.pre
  have hown : s.vm.findClass RX9 = some m.cls := findClass_of_methodNamed B.named
  have hlocks := B.notSynchronized
  subst hsz
  have hA := wA_PA sh ad s.heap
  generalize wA sh ad s.heap.size = A at hA hZ ⊢
  have hW : WS D cA sh ad A s.heap M s.heap [] := ⟨hM, va_S.rf⟩
  have fa58 : FA D s m ([.ref (ad 0), .int a, .int b] : List Value).toArray 58 9 7 := FA.mk (C := RX9) (T := TX9) (N := 15) hts (fun _ h => List.mem_cons_of_mem _ (List.mem_append_left _ (List.mem_append_left _ (List.mem_append_left _ (List.mem_append_left _ (List.mem_append_left _ (List.mem_append_left _ (List.mem_append_left _ (List.mem_append_left _ (List.mem_append_right _ (h))))))))))) hown hK rfl (by decide) (hts (.fieldLink RX9 58 "MortarShow" "boxes" "LMortarShow$Boxes;") (List.mem_of_getElem? (i := 3) rfl))
  have fa273 : FA D s m ([.ref (ad 0), .int a, .int b] : List Value).toArray 273 1 1 := FA.mk (C := RX1) (T := TX1) (N := 4) hts (fun _ h => List.mem_cons_of_mem _ (List.mem_append_left _ (List.mem_append_left _ (List.mem_append_left _ (List.mem_append_left _ (List.mem_append_left _ (List.mem_append_left _ (List.mem_append_left _ (List.mem_append_right _ (h)))))))))) hown hK rfl (by decide) (hts (.fieldLink RX9 273 "MortarShow$Boxes" "given" "[I") (List.mem_of_getElem? (i := 4) rfl))
  have hl := lv_entry ([.ref (ad 0), .int a, .int b]) (n := 3) (Nat.le_of_ble_eq_true rfl)
  rw [lg_entry_eq]
  generalize (lg_sl ([.ref (ad 0), .int a, .int b]) ++ List.replicate (3 - (lg_sl ([.ref (ad 0), .int a, .int b])).length) Slot.unset).toArray = ls at hl ⊢
  have hl : lv_has ls 3 [(0, .ref (ad 0)), (1, .int a), (2, .int b)] := hl
  obtain ⟨ok, hR, hP, hL, hV, hT⟩ := hXX
  have hXX : XX σ v M := ⟨ok, hR, hP, hL, hV, hT⟩
  have o1 := ok.1
  refine lv_iload_n hx hb dX9_cueOn_0 rfl (lv_at hl 1 rfl) ?_
  refine lv_iconst (v := 0) hx hb dX9_cueOn_1 (by decide) ?_
  refine lv_iconst (v := 3) hx hb dX9_cueOn_2 (by decide) ?_
  refine wc_ri (va_runS (As := [.int a, .int 0, .int 3]) (rest := []) ⟨hx, hb, hml, hown, hts⟩ (c_X9_outside l a 0 3) (va_cwS 3 hts gX9_cueOn_X9_outside rfl rfl rfl (by decide +kernel) ⟨Nat.le_of_ble_eq_true rfl, Nat.le_of_ble_eq_true rfl⟩) npreS rfl rfl hl.1 rfl (lv_room (Nat.le_of_ble_eq_true rfl)) dX9_cueOn_3 ⟨Nat.le_of_ble_eq_true rfl, Nat.le_of_ble_eq_true rfl⟩) hW (fun x3 H locs p3 hW => ?_)
  try dsimp only at p3
  refine lv_if_ne (tgt := 19) hx hb dX9_cueOn_6 (by decide) (fun c6 => ?_) (fun c6 => ?_)
  · have t3 := bI_t.mp (fun z => c6 (p3.trans z))
    exact wx_throwW (text := "box or channel is out of range") hx hb hl9 xok_IA (by decide) (List.mem_of_getElem? (i := 12) rfl) ht hown (hts (.classLink RX9 96 "java/lang/IllegalArgumentException") (List.mem_of_getElem? (i := 1) rfl)) (hts (.initialized "java/lang/IllegalArgumentException") (List.mem_of_getElem? (i := 2) rfl)) (fun w h => hts w (List.mem_cons_of_mem _ (List.mem_append_right _ (h)))) hE hZ hW (hl.1.trans hml.symm) dX9_cueOn_19 dX9_cueOn_22 dX9_cueOn_23 dX9_cueOn_26 dX9_cueOn_29 ⟨Nat.le_of_ble_eq_true rfl, Nat.le_of_ble_eq_true rfl⟩ ⟨Nat.le_of_ble_eq_true rfl, Nat.le_of_ble_eq_true rfl⟩ hlocks ⟨Nat.le_of_ble_eq_true rfl, Nat.le_of_ble_eq_true rfl⟩ ⟨rfl, (by first | (simp [inB, zoB_eq, t3]; done) | (simp [inB, zoB_eq, t13]; done)), oA.rf, hXX⟩
  · have g3 := bI_z.mp (p3.symm.trans c6)
    refine lv_iload_n hx hb dX9_cueOn_9 rfl (lv_at hl 2 rfl) ?_
    refine lv_iconst (v := 0) hx hb dX9_cueOn_10 (by decide) ?_
    refine lv_bipush (v := 7) hx hb dX9_cueOn_11 (by decide) ?_
    refine wc_ri (va_runS (As := [.int b, .int 0, .int 7]) (rest := []) ⟨hx, hb, hml, hown, hts⟩ (c_X9_outside l b 0 7) (va_cwS 3 hts gX9_cueOn_X9_outside rfl rfl rfl (by decide +kernel) ⟨Nat.le_of_ble_eq_true rfl, Nat.le_of_ble_eq_true rfl⟩) npreS rfl rfl hl.1 rfl (lv_room (Nat.le_of_ble_eq_true rfl)) dX9_cueOn_13 ⟨Nat.le_of_ble_eq_true rfl, Nat.le_of_ble_eq_true rfl⟩) hW (fun x13 H locs p13 hW => ?_)
    try dsimp only at p13
    refine lv_if_eq (tgt := 30) hx hb dX9_cueOn_16 (by decide) (fun c16 => ?_) (fun c16 => ?_)
    · have g13 := bI_z.mp (p13.symm.trans c16)
      obtain ⟨k, hk, ek⟩ := out_n (n := 3) (by decide) g3
      obtain ⟨y, hy, ey⟩ := out_n (n := 7) (by decide) g13
      refine lv_aload_n hx hb dX9_cueOn_30 rfl (lv_at hl 0 rfl) ?_
      refine wc_wv (va_runV (As := []) (rest := []) ⟨hx, hb, hml, hown, hts⟩ (c_X9_plan l D cA sh ad M _ σ ok hX hR hP) (cwV 0 hts gX9_cueOn_X9_plan rfl rfl rfl (by decide +kernel) ⟨Nat.le_of_ble_eq_true rfl, Nat.le_of_ble_eq_true rfl⟩) (wpreV hK hW (C := RX9) (ci := 9) (hX.1 0 (by decide)) rfl) rfl rfl hl.1 rfl (lv_room (Nat.le_of_ble_eq_true rfl)) dX9_cueOn_31 ⟨Nat.le_of_ble_eq_true rfl, Nat.le_of_ble_eq_true rfl⟩) hA hW (fun M31 H locs p31 hW => ?_)
      try dsimp only at p31
      obtain ⟨oP, vP, q, c, PP⟩ := p31
      have hXP : XX σ v M31 := hXX.pl oP vP ⟨q, c, PP⟩
      refine lv_aload_n hx hb dX9_cueOn_34 rfl (lv_at hl 0 rfl) ?_
      refine wgF (t := 16) hx hb fa58 hW (hX.1 0 (by decide)) rfl dX9_cueOn_35 ?_
      refine wgF (t := 18) hx hb fa273 hW (hX.1 16 (by decide)) rfl dX9_cueOn_38 ?_
      refine lv_bipush (v := 8) hx hb dX9_cueOn_41 (by decide) ?_
      refine lv_iload_n hx hb dX9_cueOn_43 rfl (lv_at hl 1 rfl) ?_
      refine lv_imul hx hb dX9_cueOn_44 ?_
      refine lv_topi (fun x44 e44 => ?_)
      have n44 : x44 = nI (8 * k) := (by rw [e44, (nlit 8), ek, pk_mul])
      refine lv_iload_n hx hb dX9_cueOn_45 rfl (lv_at hl 2 rfl) ?_
      refine lv_iadd hx hb dX9_cueOn_46 ?_
      refine lv_topi (fun x46 e46 => ?_)
      have n46 : x46 = nI ((8 * k) + y) := (by rw [e46, n44, ey, nI_add])
      refine walI (j := ((8 * k) + y)) hx hb hK hW (hX.1 18 (by decide)) n46 (by omega) (by decide) dX9_cueOn_47 (fun x47 e47 => ?_)
      refine vx_ret ?_
      refine W.widen (k := 1) (n := 6) (by decide) (by decide) ?_
      exact wr_wi hx hb hr hlocks hW dX9_cueOn_48 ⟨XSc_x oP, hXP, (by simp [inB, zoB_eq, g3, g13]), q, c, PP.1, by rw [e47, PP.2.2.2.1 _ (by omega), ek, ey, n1_nI (by omega), n1_nI (by omega)]⟩
    · have t13 := bI_t.mp (fun z => c16 (p13.trans z))
      exact wx_throwW (text := "box or channel is out of range") hx hb hl9 xok_IA (by decide) (List.mem_of_getElem? (i := 12) rfl) ht hown (hts (.classLink RX9 96 "java/lang/IllegalArgumentException") (List.mem_of_getElem? (i := 1) rfl)) (hts (.initialized "java/lang/IllegalArgumentException") (List.mem_of_getElem? (i := 2) rfl)) (fun w h => hts w (List.mem_cons_of_mem _ (List.mem_append_right _ (h)))) hE hZ hW (hl.1.trans hml.symm) dX9_cueOn_19 dX9_cueOn_22 dX9_cueOn_23 dX9_cueOn_26 dX9_cueOn_29 ⟨Nat.le_of_ble_eq_true rfl, Nat.le_of_ble_eq_true rfl⟩ ⟨Nat.le_of_ble_eq_true rfl, Nat.le_of_ble_eq_true rfl⟩ hlocks ⟨Nat.le_of_ble_eq_true rfl, Nat.le_of_ble_eq_true rfl⟩ ⟨rfl, (by first | (simp [inB, zoB_eq, t3]; done) | (simp [inB, zoB_eq, t13]; done)), oA.rf, hXX⟩
set_option maxHeartbeats 4000000 in
set_option maxRecDepth 100000 in
theorem c_X9_price (l : Launch) (hl9 : l.stackTraces = false) (D : va_G) (cA : Nat → ClassId) (sh : Nat → Option Sh) (ad : Nat → Nat) (M : MS) (sz : Nat) (σ : AS) (v : VT) (hX : XSh (aN σ) sh) (hXX : XX σ v M) (a : Int32) : vx_Met l yX9_price wsX9_price ({ frames := 8, cells := 1, slots := 6, locals := 133 }) (xPc D cA sh ad M sz [.ref (ad 0), .int a]) (wQi D cA sh ad (fun r M' => oA XSx M M' ∧ XX σ v M' ∧ cuB σ a = true ∧ ∃ q c, Srt σ 40 q c ∧ r = prA σ v q c (n1 a)) (wA sh ad sz)) (xXC D cA sh ad (pxG σ v M nIO (cuB σ a)) (wA sh ad sz)) 1 6 (wA sh ad sz) := by
  refine vx_ofW (cc := cX9_price) (maxL := 3) (ret := (some .int)) (by decide) rfl ?_
  intro p e s m args below meth cd0 s₁ B hml ht hv
  obtain ⟨rfl, hsz, hM, hK, hE, hZ⟩ := hv
  have hx := B.exec
  have hb := B.bytes
  have hr := B.returns
  have hts := atoms_spec (ws := wsX9_price) B.pre
  have hown : s.vm.findClass RX9 = some m.cls := findClass_of_methodNamed B.named
  have hlocks := B.notSynchronized
  subst hsz
  have hA := wA_PA sh ad s.heap
  generalize wA sh ad s.heap.size = A at hA hZ ⊢
  have hW : WS D cA sh ad A s.heap M s.heap [] := ⟨hM, va_S.rf⟩
  have fa188 : FA D s m ([.ref (ad 0), .int a] : List Value).toArray 188 2 7 := FA.mk (C := RX2) (T := TX2) (N := 9) hts (fun _ h => List.mem_cons_of_mem _ (List.mem_append_left _ (List.mem_append_left _ (List.mem_append_left _ (List.mem_append_left _ (List.mem_append_left _ (List.mem_append_left _ (List.mem_append_left _ (List.mem_append_left _ (List.mem_append_right _ (h))))))))))) hown hK rfl (by decide) (hts (.fieldLink RX9 188 "MortarShow$Cue" "fate" "I") (List.mem_of_getElem? (i := 1) rfl))
  have hl := lv_entry ([.ref (ad 0), .int a]) (n := 3) (Nat.le_of_ble_eq_true rfl)
  rw [lg_entry_eq]
  generalize (lg_sl ([.ref (ad 0), .int a]) ++ List.replicate (3 - (lg_sl ([.ref (ad 0), .int a])).length) Slot.unset).toArray = ls at hl ⊢
  have hl : lv_has ls 3 [(0, .ref (ad 0)), (1, .int a)] := hl
  obtain ⟨ok, hR, hP, hL, hV, hT⟩ := hXX
  have hXX : XX σ v M := ⟨ok, hR, hP, hL, hV, hT⟩
  have o1 := ok.1
  refine lv_aload_n hx hb dX9_price_0 rfl (lv_at hl 0 rfl) ?_
  refine lv_iload_n hx hb dX9_price_1 rfl (lv_at hl 1 rfl) ?_
  refine wx_wr (vx_runV (As := [.int a]) (rest := []) ⟨hx, hb, hml, hown, hts⟩ (c_X9_foundAndPlanned l hl9 D cA sh ad M _ σ v hX hXX a) (cwV 1 hts gX9_price_X9_foundAndPlanned rfl rfl rfl (by decide +kernel) ⟨Nat.le_of_ble_eq_true rfl, Nat.le_of_ble_eq_true rfl⟩) (xpreV hK hA hW hE hZ (C := RX9) (ci := 9) (hX.1 0 (by decide)) rfl) rfl rfl hl.1 rfl (lv_room (Nat.le_of_ble_eq_true rfl)) dX9_price_2 ⟨Nat.le_of_ble_eq_true rfl, Nat.le_of_ble_eq_true rfl⟩) hA hW ht hlocks ⟨by decide, by decide⟩ (fun E M9 h9 => h9) (fun q2 M2 H locs p2 hW => ?_)
  try dsimp only at p2
  obtain ⟨o2, hX2, hc2, i, hi, ev, hg, eq2, q, c, P2⟩ := p2
  subst eq2
  have hn9 : n1 a = i := by rw [ev]; exact n1_nI (by omega)
  have pf9 := (plan_fate P2 hi hg o1).1
  refine lv_astore_n (lv' := [(2, .ref (ad (100 + i))), (0, .ref (ad 0)), (1, .int a)]) hx hb dX9_price_5 rfl hl (by decide) rfl (fun ls hl => ?_)
  have J25 : ∀ (y : Int32) (H : Heap) (locs : List Loc), (y = prA σ v q c i) → WS D cA sh ad A s.heap M2 H locs → ∀ ls, lv_has ls 3 [(2, .ref (ad (100 + i))), (0, .ref (ad 0)), (1, .int a)] → W p l e (headSpec wsX9_price { frames := 8, cells := 1, slots := 6, locals := 133 }).room s m ([.ref (ad 0), .int a] : List Value).toArray below meth cd0 H locs 1 6 (vx_MQ below (wQi D cA sh ad (fun r M' => oA XSx M M' ∧ XX σ v M' ∧ cuB σ a = true ∧ ∃ q c, Srt σ 40 q c ∧ r = prA σ v q c (n1 a)) A) (xXC D cA sh ad (pxG σ v M nIO (cuB σ a)) A) ([.ref (ad 0), .int a] : List Value).toArray s 1 6 A) (F0 m 25 ls [.int y]) := by
    intro y H locs hy hW ls hl
    refine vx_ret ?_
    refine W.widen (k := 1) (n := 6) (by decide) (by decide) ?_
    exact wr_wi hx hb hr hlocks hW dX9_price_25 ⟨o2, hX2, hc2, q, c, P2.1, by rw [hn9]; exact hy⟩
  refine lv_aload_n hx hb dX9_price_6 rfl (lv_at hl 0 rfl) ?_
  refine wgI hx hb fa188 hW (hX.2 i (by omega)) rfl dX9_price_7 (fun x7 e7 => ?_)
  refine lv_if_ne (tgt := 24) hx hb dX9_price_10 (by decide) (fun c10 => ?_) (fun c10 => ?_)
  · refine lv_iconst (v := (-1)) hx hb dX9_price_24 (by decide) ?_
    exact J25 (-1) _ _ (by unfold prA; first | (rw [if_pos (pf9.symm.trans (e7.symm.trans c10)), ← p15]; exact p18) | (rw [if_neg (fun z => c10 (e7.trans (pf9.trans z)))])) hW ls (lv_sub hl [0, 1, 2] rfl)
  · have he9 : elg σ i := fate_0 P2.1 (pf9.symm.trans (e7.symm.trans c10))
    refine lv_aload_n hx hb dX9_price_13 rfl (lv_at hl 1 rfl) ?_
    refine lv_aload_n hx hb dX9_price_14 rfl (lv_at hl 0 rfl) ?_
    refine wc_rl (va_runV (As := [.ref (ad (100 + i))]) (rest := []) ⟨hx, hb, hml, hown, hts⟩ (c_X9_priceOf l D cA sh ad M2 _ σ ok hX hX2.2.1 v hX2.2.2.2.2.1 hX2.2.2.2.2.2 i he9 (P2.2.1 i hi hg).1 (P2.2.1 i hi hg).2.2.1) (cwV 1 hts gX9_price_X9_priceOf rfl rfl rfl (by decide +kernel) ⟨Nat.le_of_ble_eq_true rfl, Nat.le_of_ble_eq_true rfl⟩) (wpreV hK hW (C := RX9) (ci := 9) (hX.1 0 (by decide)) rfl) rfl rfl hl.1 rfl (lv_room (Nat.le_of_ble_eq_true rfl)) dX9_price_15 ⟨Nat.le_of_ble_eq_true rfl, Nat.le_of_ble_eq_true rfl⟩) hW (fun x15 H locs p15 hW => ?_)
    try dsimp only at p15
    refine wc_ri (va_runS (As := [.long x15]) (rest := []) ⟨hx, hb, hml, hown, hts⟩ (c_X9_refusedOver l x15) (va_cwS 1 hts gX9_price_X9_refusedOver rfl rfl rfl (by decide +kernel) ⟨Nat.le_of_ble_eq_true rfl, Nat.le_of_ble_eq_true rfl⟩) npreS rfl rfl hl.1 rfl (lv_room (Nat.le_of_ble_eq_true rfl)) dX9_price_18 ⟨Nat.le_of_ble_eq_true rfl, Nat.le_of_ble_eq_true rfl⟩) hW (fun x18 H locs p18 hW => ?_)
    try dsimp only at p18
    refine lv_goto (tgt := 25) hx hb dX9_price_21 (by decide) ?_
    exact J25 x18 _ _ (by unfold prA; first | (rw [if_pos (pf9.symm.trans (e7.symm.trans c10)), ← p15]; exact p18) | (rw [if_neg (fun z => c10 (e7.trans (pf9.trans z)))])) hW ls (lv_sub hl [0, 1, 2] rfl)
set_option maxHeartbeats 4000000 in
set_option maxRecDepth 100000 in
theorem c_X9_total (l : Launch) (D : va_G) (cA : Nat → ClassId) (sh : Nat → Option Sh) (ad : Nat → Nat) (M : MS) (sz : Nat) (σ : AS) (v : VT) (hX : XSh (aN σ) sh) (hXX : XX σ v M) : Met l yX9_total wsX9_total ({ frames := 4, cells := 0, slots := 0, locals := 95 }) (wPc D cA sh ad M sz [.ref (ad 0)]) (wQi D cA sh ad (fun r M' => oA XSx M M' ∧ XX σ v M' ∧ ∃ q c, Srt σ 40 q c ∧ r = refI (totA σ v q c (lit σ q c))) (wA sh ad sz)) 0 0 (wA sh ad sz) := by
  refine Met.ofW (cc := cX9_total) (maxL := 4) (ret := (some .int)) (by decide) rfl ?_
  intro p e s m args below meth cd0 s₁ B hml hv
  obtain ⟨rfl, hsz, hM, hK⟩ := hv
  have hx := B.exec
  have hb := B.bytes
  have hr := B.returns
  have hts := atoms_spec (ws := wsX9_total) B.pre
  have hown : s.vm.findClass RX9 = some m.cls := findClass_of_methodNamed B.named
  have hlocks := B.notSynchronized
  subst hsz
  have hA := wA_PA sh ad s.heap
  generalize wA sh ad s.heap.size = A at hA ⊢
  have hW : WS D cA sh ad A s.heap M s.heap [] := ⟨hM, va_S.rf⟩
  have fa62 : FA D s m ([.ref (ad 0)] : List Value).toArray 62 9 8 := FA.mk (C := RX9) (T := TX9) (N := 15) hts (fun _ h => List.mem_cons_of_mem _ (List.mem_append_left _ (List.mem_append_left _ (List.mem_append_left _ (List.mem_append_left _ (List.mem_append_left _ (List.mem_append_left _ (List.mem_append_left _ (List.mem_append_right _ (h)))))))))) hown hK rfl (by decide) (hts (.fieldLink RX9 62 "MortarShow" "queue" "[LMortarShow$Cue;") (List.mem_of_getElem? (i := 2) rfl))
  have fa76 : FA D s m ([.ref (ad 0)] : List Value).toArray 76 9 12 := FA.mk (C := RX9) (T := TX9) (N := 15) hts (fun _ h => List.mem_cons_of_mem _ (List.mem_append_left _ (List.mem_append_left _ (List.mem_append_left _ (List.mem_append_left _ (List.mem_append_left _ (List.mem_append_left _ (List.mem_append_left _ (List.mem_append_right _ (h)))))))))) hown hK rfl (by decide) (hts (.fieldLink RX9 76 "MortarShow" "queued" "I") (List.mem_of_getElem? (i := 1) rfl))
  have hl := lv_entry ([.ref (ad 0)]) (n := 4) (Nat.le_of_ble_eq_true rfl)
  rw [lg_entry_eq]
  generalize (lg_sl ([.ref (ad 0)]) ++ List.replicate (4 - (lg_sl ([.ref (ad 0)])).length) Slot.unset).toArray = ls at hl ⊢
  have hl : lv_has ls 4 [(0, .ref (ad 0))] := hl
  obtain ⟨ok, hR, hP, hL, hV, hT⟩ := hXX
  have hXX : XX σ v M := ⟨ok, hR, hP, hL, hV, hT⟩
  have o1 := ok.1
  refine lv_aload_n hx hb dX9_total_0 rfl (lv_at hl 0 rfl) ?_
  refine wc_wv (va_runV (As := []) (rest := []) ⟨hx, hb, hml, hown, hts⟩ (c_X9_plan l D cA sh ad M _ σ ok hX hR hP) (cwV 0 hts gX9_total_X9_plan rfl rfl rfl (by decide +kernel) ⟨Nat.le_of_ble_eq_true rfl, Nat.le_of_ble_eq_true rfl⟩) (wpreV hK hW (C := RX9) (ci := 9) (hX.1 0 (by decide)) rfl) rfl rfl hl.1 rfl (lv_room (Nat.le_of_ble_eq_true rfl)) dX9_total_1 ⟨Nat.le_of_ble_eq_true rfl, Nat.le_of_ble_eq_true rfl⟩) hA hW (fun M1 H locs p1 hW => ?_)
  try dsimp only at p1
  obtain ⟨oP, vP, q, c, PP⟩ := p1
  have hXP : XX σ v M1 := hXX.pl oP vP ⟨q, c, PP⟩
  have hlc := lit_le σ q c
  have hc40 := PP.1.2.2.2
  refine lv_lconst (v := 0) hx hb dX9_total_4 (by decide) ?_
  refine lv_lstore_n (lv' := [(1, .long 0), (0, .ref (ad 0))]) hx hb dX9_total_5 rfl hl (by decide) rfl (fun ls hl => ?_)
  refine lv_iconst (v := 0) hx hb dX9_total_6 (by decide) ?_
  refine lv_istore_n (lv' := [(3, .int 0), (1, .long 0), (0, .ref (ad 0))]) hx hb dX9_total_7 rfl hl (by decide) rfl (fun ls hl => ?_)
  have L8 : ∀ (fu : Nat) (k : Nat) (xk : Int32) (sm : Int64) (H : Heap) (locs : List Loc), lit σ q c - k < fu → (k ≤ lit σ q c) → (xk = nI k) → (sm = totA σ v q c k) → WS D cA sh ad A s.heap M1 H locs → ∀ ls, lv_has ls 4 [(3, .int xk), (1, .long sm), (0, .ref (ad 0))] → W p l e (headSpec wsX9_total { frames := 4, cells := 0, slots := 0, locals := 95 }).room s m ([.ref (ad 0)] : List Value).toArray below meth cd0 H locs 0 0 (MQ below (wQi D cA sh ad (fun r M' => oA XSx M M' ∧ XX σ v M' ∧ ∃ q c, Srt σ 40 q c ∧ r = refI (totA σ v q c (lit σ q c))) A) ([.ref (ad 0)] : List Value).toArray s 0 0 A) (F0 m 8 ls []) := by
    intro fu
    induction fu with
    | zero =>
      intro k xk sm H locs hn hk ek es hW ls hl
      exact absurd hn (Nat.not_lt_zero _)
    | succ fu ih8 =>
      intro k xk sm H locs hn hk ek es hW ls hl
      refine lv_iload_n hx hb dX9_total_8 rfl (lv_at hl 0 rfl) ?_
      refine lv_aload_n hx hb dX9_total_9 rfl (lv_at hl 2 rfl) ?_
      refine wgI hx hb fa76 hW (hX.1 0 (by decide)) rfl dX9_total_10 (fun x10 e10 => ?_)
      have n10 : x10 = nI (lit σ q c) := (e10.trans PP.2.2.2.2.1)
      refine lv_icmp_ge (tgt := 35) hx hb dX9_total_13 (by decide) (fun c13 => ?_) (fun c13 => ?_)
      · have k13 : (lit σ q c) ≤ k := kc_ge ek n10 (by omega) (by omega) c13
        refine lv_lload_n hx hb dX9_total_35 rfl (lv_at hl 1 rfl) ?_
        refine wc_ri (va_runS (As := [.long sm]) (rest := []) ⟨hx, hb, hml, hown, hts⟩ (c_X9_refusedOver l sm) (va_cwS 1 hts gX9_total_X9_refusedOver rfl rfl rfl (by decide +kernel) ⟨Nat.le_of_ble_eq_true rfl, Nat.le_of_ble_eq_true rfl⟩) npreS rfl rfl hl.1 rfl (lv_room (Nat.le_of_ble_eq_true rfl)) dX9_total_36 ⟨Nat.le_of_ble_eq_true rfl, Nat.le_of_ble_eq_true rfl⟩) hW (fun x36 H locs p36 hW => ?_)
        try dsimp only at p36
        exact wr_wi hx hb hr hlocks hW dX9_total_39 ⟨XSc_x oP, hXP, q, c, PP.1, by rw [p36, es, show k = lit σ q c by omega]⟩
      · have k13 : ¬ (lit σ q c) ≤ k := kc_gen ek n10 (by omega) (by omega) c13
        have hk9 : k < lit σ q c := by omega
        obtain ⟨gq, ge⟩ := firing_at PP hk9
        obtain ⟨fi, efi⟩ : ∃ z, z = firA σ q c k := ⟨_, rfl⟩
        rw [← efi] at gq ge
        have hfi := ge.1
        refine lv_lload_n hx hb dX9_total_16 rfl (lv_at hl 1 rfl) ?_
        refine lv_aload_n hx hb dX9_total_17 rfl (lv_at hl 2 rfl) ?_
        refine lv_aload_n hx hb dX9_total_18 rfl (lv_at hl 2 rfl) ?_
        refine wgF (t := 20) hx hb fa62 hW (hX.1 0 (by decide)) rfl dX9_total_19 ?_
        refine lv_iload_n hx hb dX9_total_22 rfl (lv_at hl 0 rfl) ?_
        refine walRs (j := k) (t := (100 + fi)) hx hb hK hW (hX.1 20 (by decide)) gq ek (by omega) (by decide) dX9_total_23 ?_
        refine wc_rl (va_runV (As := [.ref (ad (100 + fi))]) (rest := [.long sm]) ⟨hx, hb, hml, hown, hts⟩ (c_X9_priceOf l D cA sh ad M1 _ σ ok hX hXP.2.1 v hXP.2.2.2.2.1 hXP.2.2.2.2.2 fi ge (PP.2.1 fi ge.1 ge.2.1).1 (PP.2.1 fi ge.1 ge.2.1).2.2.1) (cwV 1 hts gX9_total_X9_priceOf rfl rfl rfl (by decide +kernel) ⟨Nat.le_of_ble_eq_true rfl, Nat.le_of_ble_eq_true rfl⟩) (wpreV hK hW (C := RX9) (ci := 9) (hX.1 0 (by decide)) rfl) rfl rfl hl.1 rfl (lv_room (Nat.le_of_ble_eq_true rfl)) dX9_total_24 ⟨Nat.le_of_ble_eq_true rfl, Nat.le_of_ble_eq_true rfl⟩) hW (fun x24 H locs p24 hW => ?_)
        try dsimp only at p24
        refine lv_ladd hx hb dX9_total_27 ?_
        refine lv_topl (fun x27 e27 => ?_)
        refine lv_lstore_n (lv' := [(1, .long x27), (3, .int xk), (0, .ref (ad 0))]) hx hb dX9_total_28 rfl hl (by decide) rfl (fun ls hl => ?_)
        obtain ⟨x29, e29⟩ : ∃ y : Int32, y = xk + 1 := ⟨_, rfl⟩
        refine lv_iinc (v := x29) (lv' := [(3, .int x29), (1, .long x27), (0, .ref (ad 0))]) hx hb dX9_total_29 hl (k := 1) rfl (by rw [e29]; rfl) (by decide) rfl (fun ls hl => ?_)
        refine lv_goto (tgt := 8) hx hb dX9_total_32 (by decide) ?_
        exact ih8 (k + 1) x29 x27 _ _ (by omega) (by omega) (by rw [e29, ek, nlit 1, nI_add]) (by rw [e27, p24, es, efi]; rfl) hW ls (lv_sub hl [0, 1, 2] rfl)
  exact L8 (_ + 1) 0 0 0 _ _ (Nat.lt_succ_self _) (Nat.zero_le _) rfl rfl hW ls (lv_sub hl [0, 1, 2] rfl)
set_option maxHeartbeats 4000000 in
set_option maxRecDepth 100000 in
theorem c_X9_falls (l : Launch) (hl9 : l.stackTraces = false) (D : va_G) (cA : Nat → ClassId) (sh : Nat → Option Sh) (ad : Nat → Nat) (M : MS) (sz : Nat) (σ : AS) (v : VT) (hX : XSh (aN σ) sh) (hXX : XX σ v M) (a b : Int32) : vx_Met l yX9_falls wsX9_falls ({ frames := 7, cells := 2, slots := 12, locals := 111 }) (xPc D cA sh ad M sz [.ref (ad 0), .int a, .int b]) (wQi D cA sh ad (fun r M' => oA XSx M M' ∧ XX σ v M' ∧ cuB σ a = true ∧ inB b 0 3 = true ∧ r = tolA σ (n1 a) b) (wA sh ad sz)) (xXC D cA sh ad (fun E M' => ((E = nIO ∧ cuB σ a = false) ∨ (E = nIA ∧ cuB σ a = true ∧ inB b 0 3 = false)) ∧ oA XSx M M' ∧ XX σ v M') (wA sh ad sz)) 2 12 (wA sh ad sz) := by
  refine vx_ofW (cc := cX9_falls) (maxL := 4) (ret := (some .int)) (by decide) rfl ?_
  intro p e s m args below meth cd0 s₁ B hml ht hv
  obtain ⟨rfl, hsz, hM, hK, hE, hZ⟩ := hv
  have hx := B.exec
  have hb := B.bytes
  have hr := B.returns
  have hts := atoms_spec (ws := wsX9_falls) B.pre
  have hown : s.vm.findClass RX9 = some m.cls := findClass_of_methodNamed B.named
  have hlocks := B.notSynchronized
  subst hsz
  have hA := wA_PA sh ad s.heap
  generalize wA sh ad s.heap.size = A at hA hZ ⊢
  have hW : WS D cA sh ad A s.heap M s.heap [] := ⟨hM, va_S.rf⟩
  have hl := lv_entry ([.ref (ad 0), .int a, .int b]) (n := 4) (Nat.le_of_ble_eq_true rfl)
  rw [lg_entry_eq]
  generalize (lg_sl ([.ref (ad 0), .int a, .int b]) ++ List.replicate (4 - (lg_sl ([.ref (ad 0), .int a, .int b])).length) Slot.unset).toArray = ls at hl ⊢
  have hl : lv_has ls 4 [(0, .ref (ad 0)), (1, .int a), (2, .int b)] := hl
  obtain ⟨ok, hR, hP, hL, hV, hT⟩ := hXX
  have hXX : XX σ v M := ⟨ok, hR, hP, hL, hV, hT⟩
  have o1 := ok.1
  refine lv_aload_n hx hb dX9_falls_0 rfl (lv_at hl 0 rfl) ?_
  refine lv_iload_n hx hb dX9_falls_1 rfl (lv_at hl 1 rfl) ?_
  refine wx_wr (vx_runV (As := [.int a]) (rest := []) ⟨hx, hb, hml, hown, hts⟩ (c_X9_found l hl9 D cA sh ad M _ σ ok hX hR a) (cwV 1 hts gX9_falls_X9_found rfl rfl rfl (by decide +kernel) ⟨Nat.le_of_ble_eq_true rfl, Nat.le_of_ble_eq_true rfl⟩) (xpreV hK hA hW hE hZ (C := RX9) (ci := 9) (hX.1 0 (by decide)) rfl) rfl rfl hl.1 rfl (lv_room (Nat.le_of_ble_eq_true rfl)) dX9_falls_2 ⟨Nat.le_of_ble_eq_true rfl, Nat.le_of_ble_eq_true rfl⟩) hA hW ht hlocks ⟨by decide, by decide⟩ (fun E M9 h9 => ⟨Or.inl ⟨h9.1, h9.2.2⟩, by rw [h9.2.1]; exact oA.rf, by rw [h9.2.1]; exact hXX⟩) (fun q2 M2 H locs p2 hW => ?_)
  try dsimp only at p2
  obtain ⟨eM2, i, hi, ev, hg, eq2⟩ := p2
  subst eq2
  rw [eM2] at hW
  have hn9 : n1 a = i := by rw [ev]; exact n1_nI (by omega)
  have hc9 : cuB σ a = true := by rw [ev]; exact cuB_yes hi hg
  refine lv_astore_n (lv' := [(3, .ref (ad (100 + i))), (0, .ref (ad 0)), (1, .int a), (2, .int b)]) hx hb dX9_falls_5 rfl hl (by decide) rfl (fun ls hl => ?_)
  refine lv_iload_n hx hb dX9_falls_6 rfl (lv_at hl 3 rfl) ?_
  refine lv_iconst (v := 0) hx hb dX9_falls_7 (by decide) ?_
  refine lv_iconst (v := 3) hx hb dX9_falls_8 (by decide) ?_
  refine wc_ri (va_runS (As := [.int b, .int 0, .int 3]) (rest := []) ⟨hx, hb, hml, hown, hts⟩ (c_X9_outside l b 0 3) (va_cwS 3 hts gX9_falls_X9_outside rfl rfl rfl (by decide +kernel) ⟨Nat.le_of_ble_eq_true rfl, Nat.le_of_ble_eq_true rfl⟩) npreS rfl rfl hl.1 rfl (lv_room (Nat.le_of_ble_eq_true rfl)) dX9_falls_9 ⟨Nat.le_of_ble_eq_true rfl, Nat.le_of_ble_eq_true rfl⟩) hW (fun x9 H locs p9 hW => ?_)
  try dsimp only at p9
  refine lv_if_eq (tgt := 25) hx hb dX9_falls_12 (by decide) (fun c12 => ?_) (fun c12 => ?_)
  · have g9 := bI_z.mp (p9.symm.trans c12)
    refine lv_iload_n hx hb dX9_falls_25 rfl (lv_at hl 3 rfl) ?_
    refine lv_aload_n hx hb dX9_falls_26 rfl (lv_at hl 1 rfl) ?_
    refine lv_aload_n hx hb dX9_falls_27 rfl (lv_at hl 0 rfl) ?_
    refine wc_ri (va_runV (As := [.ref (ad (100 + i))]) (rest := [.int b]) ⟨hx, hb, hml, hown, hts⟩ (c_X9_fallX l D cA sh ad M _ σ ok hX hR i (by omega)) (cwV 1 hts gX9_falls_X9_fallX rfl rfl rfl (by decide +kernel) ⟨Nat.le_of_ble_eq_true rfl, Nat.le_of_ble_eq_true rfl⟩) (wpreV hK hW (C := RX9) (ci := 9) (hX.1 0 (by decide)) rfl) rfl rfl hl.1 rfl (lv_room (Nat.le_of_ble_eq_true rfl)) dX9_falls_28 ⟨Nat.le_of_ble_eq_true rfl, Nat.le_of_ble_eq_true rfl⟩) hW (fun x28 H locs p28 hW => ?_)
    try dsimp only at p28
    refine lv_aload_n hx hb dX9_falls_31 rfl (lv_at hl 1 rfl) ?_
    refine lv_aload_n hx hb dX9_falls_32 rfl (lv_at hl 0 rfl) ?_
    refine wc_ri (va_runV (As := [.ref (ad (100 + i))]) (rest := [.int x28, .int b]) ⟨hx, hb, hml, hown, hts⟩ (c_X9_fallY l D cA sh ad M _ σ ok hX hR i (by omega)) (cwV 1 hts gX9_falls_X9_fallY rfl rfl rfl (by decide +kernel) ⟨Nat.le_of_ble_eq_true rfl, Nat.le_of_ble_eq_true rfl⟩) (wpreV hK hW (C := RX9) (ci := 9) (hX.1 0 (by decide)) rfl) rfl rfl hl.1 rfl (lv_room (Nat.le_of_ble_eq_true rfl)) dX9_falls_33 ⟨Nat.le_of_ble_eq_true rfl, Nat.le_of_ble_eq_true rfl⟩) hW (fun x33 H locs p33 hW => ?_)
    try dsimp only at p33
    refine wc_ri (va_runS (As := [.int b, .int x28, .int x33]) (rest := []) ⟨hx, hb, hml, hown, hts⟩ (c_X9_placeTold l b x28 x33 (out_i g9)) (va_cwS 3 hts gX9_falls_X9_placeTold rfl rfl rfl (by decide +kernel) ⟨Nat.le_of_ble_eq_true rfl, Nat.le_of_ble_eq_true rfl⟩) npreS rfl rfl hl.1 rfl (lv_room (Nat.le_of_ble_eq_true rfl)) dX9_falls_36 ⟨Nat.le_of_ble_eq_true rfl, Nat.le_of_ble_eq_true rfl⟩) hW (fun x36 H locs p36 hW => ?_)
    try dsimp only at p36
    refine vx_ret ?_
    refine W.widen (k := 2) (n := 12) (by decide) (by decide) ?_
    exact wr_wi hx hb hr hlocks hW dX9_falls_39 ⟨oA.rf, hXX, hc9, (by simp [inB, zoB_eq, g9]), by rw [hn9, p36, p28, p33]; rfl⟩
  · have t9 := bI_t.mp (fun z => c12 (p9.trans z))
    exact wx_throw (text := "what is out of range") hx hb hl9 xok_IA (by decide) (List.mem_of_getElem? (i := 10) rfl) ht hown (hts (.classLink RX9 96 "java/lang/IllegalArgumentException") (List.mem_of_getElem? (i := 1) rfl)) (hts (.initialized "java/lang/IllegalArgumentException") (List.mem_of_getElem? (i := 2) rfl)) (fun w h => hts w (List.mem_cons_of_mem _ (List.mem_append_left _ (List.mem_append_right _ (h))))) hE hZ hW (hl.1.trans hml.symm) dX9_falls_15 dX9_falls_18 dX9_falls_19 dX9_falls_21 dX9_falls_24 ⟨Nat.le_of_ble_eq_true rfl, Nat.le_of_ble_eq_true rfl⟩ ⟨Nat.le_of_ble_eq_true rfl, Nat.le_of_ble_eq_true rfl⟩ hlocks ⟨Nat.le_of_ble_eq_true rfl, Nat.le_of_ble_eq_true rfl⟩ ⟨Or.inr ⟨rfl, hc9, (by first | (simp [inB, zoB_eq, t9]; done))⟩, oA.rf, hXX⟩
set_option maxHeartbeats 4000000 in
set_option maxRecDepth 100000 in
theorem c_X9_fallsBySteps (l : Launch) (hl9 : l.stackTraces = false) (D : va_G) (cA : Nat → ClassId) (sh : Nat → Option Sh) (ad : Nat → Nat) (M : MS) (sz : Nat) (σ : AS) (v : VT) (hX : XSh (aN σ) sh) (hXX : XX σ v M) (a b : Int32) : vx_Met l yX9_fallsBySteps wsX9_fallsBySteps ({ frames := 7, cells := 2, slots := 12, locals := 111 }) (xPc D cA sh ad M sz [.ref (ad 0), .int a, .int b]) (wQi D cA sh ad (fun r M' => oA XSx M M' ∧ XX σ v M' ∧ cuB σ a = true ∧ inB b 0 3 = true ∧ r = tolA σ (n1 a) b) (wA sh ad sz)) (xXC D cA sh ad (fun E M' => ((E = nIO ∧ cuB σ a = false) ∨ (E = nIA ∧ cuB σ a = true ∧ inB b 0 3 = false)) ∧ oA XSx M M' ∧ XX σ v M') (wA sh ad sz)) 2 12 (wA sh ad sz) := by
  refine vx_ofW (cc := cX9_fallsBySteps) (maxL := 5) (ret := (some .int)) (by decide) rfl ?_
  intro p e s m args below meth cd0 s₁ B hml ht hv
  obtain ⟨rfl, hsz, hM, hK, hE, hZ⟩ := hv
  have hx := B.exec
  have hb := B.bytes
  have hr := B.returns
  have hts := atoms_spec (ws := wsX9_fallsBySteps) B.pre
  have hown : s.vm.findClass RX9 = some m.cls := findClass_of_methodNamed B.named
  have hlocks := B.notSynchronized
  subst hsz
  have hA := wA_PA sh ad s.heap
  generalize wA sh ad s.heap.size = A at hA hZ ⊢
  have hW : WS D cA sh ad A s.heap M s.heap [] := ⟨hM, va_S.rf⟩
  have fa31 : FA D s m ([.ref (ad 0), .int a, .int b] : List Value).toArray 31 9 3 := FA.mk (C := RX9) (T := TX9) (N := 15) hts (fun _ h => List.mem_cons_of_mem _ (List.mem_append_left _ (List.mem_append_left _ (List.mem_append_left _ (List.mem_append_left _ (List.mem_append_left _ (List.mem_append_left _ (List.mem_append_left _ (List.mem_append_left _ (List.mem_append_right _ (h))))))))))) hown hK rfl (by decide) (hts (.fieldLink RX9 31 "MortarShow" "wind" "LMortarShow$Wind;") (List.mem_of_getElem? (i := 9) rfl))
  have fa38 : FA D s m ([.ref (ad 0), .int a, .int b] : List Value).toArray 38 9 4 := FA.mk (C := RX9) (T := TX9) (N := 15) hts (fun _ h => List.mem_cons_of_mem _ (List.mem_append_left _ (List.mem_append_left _ (List.mem_append_left _ (List.mem_append_left _ (List.mem_append_left _ (List.mem_append_left _ (List.mem_append_left _ (List.mem_append_left _ (List.mem_append_right _ (h))))))))))) hown hK rfl (by decide) (hts (.fieldLink RX9 38 "MortarShow" "flown" "LMortarShow$Flight;") (List.mem_of_getElem? (i := 3) rfl))
  have fa210 : FA D s m ([.ref (ad 0), .int a, .int b] : List Value).toArray 210 2 2 := FA.mk (C := RX2) (T := TX2) (N := 9) hts (fun _ h => List.mem_cons_of_mem _ (List.mem_append_left _ (List.mem_append_left _ (List.mem_append_left _ (List.mem_append_left _ (List.mem_append_left _ (List.mem_append_left _ (List.mem_append_left _ (List.mem_append_right _ (h)))))))))) hown hK rfl (by decide) (hts (.fieldLink RX9 210 "MortarShow$Cue" "kind" "LMortarShow$Kind;") (List.mem_of_getElem? (i := 4) rfl))
  have fa214 : FA D s m ([.ref (ad 0), .int a, .int b] : List Value).toArray 214 2 3 := FA.mk (C := RX2) (T := TX2) (N := 9) hts (fun _ h => List.mem_cons_of_mem _ (List.mem_append_left _ (List.mem_append_left _ (List.mem_append_left _ (List.mem_append_left _ (List.mem_append_left _ (List.mem_append_left _ (List.mem_append_left _ (List.mem_append_right _ (h)))))))))) hown hK rfl (by decide) (hts (.fieldLink RX9 214 "MortarShow$Cue" "rack" "LMortarShow$Rack;") (List.mem_of_getElem? (i := 5) rfl))
  have fa223 : FA D s m ([.ref (ad 0), .int a, .int b] : List Value).toArray 223 3 0 := FA.mk (C := RX3) (T := TX3) (N := 3) hts (fun _ h => List.mem_cons_of_mem _ (List.mem_append_left _ (List.mem_append_left _ (List.mem_append_left _ (List.mem_append_left _ (List.mem_append_left _ (List.mem_append_left _ (List.mem_append_right _ (h))))))))) hown hK rfl (by decide) (hts (.fieldLink RX9 223 "MortarShow$Flight" "height" "LMortarShow$Height;") (List.mem_of_getElem? (i := 7) rfl))
  have fa227 : FA D s m ([.ref (ad 0), .int a, .int b] : List Value).toArray 227 5 4 := FA.mk (C := RX5) (T := TX5) (N := 5) hts (fun _ h => List.mem_cons_of_mem _ (List.mem_append_left _ (List.mem_append_left _ (List.mem_append_left _ (List.mem_append_left _ (List.mem_append_left _ (List.mem_append_right _ (h)))))))) hown hK rfl (by decide) (hts (.fieldLink RX9 227 "MortarShow$Height" "landed" "Z") (List.mem_of_getElem? (i := 8) rfl))
  have fa236 : FA D s m ([.ref (ad 0), .int a, .int b] : List Value).toArray 236 3 1 := FA.mk (C := RX3) (T := TX3) (N := 3) hts (fun _ h => List.mem_cons_of_mem _ (List.mem_append_left _ (List.mem_append_left _ (List.mem_append_left _ (List.mem_append_left _ (List.mem_append_left _ (List.mem_append_left _ (List.mem_append_right _ (h))))))))) hown hK rfl (by decide) (hts (.fieldLink RX9 236 "MortarShow$Flight" "x" "I") (List.mem_of_getElem? (i := 10) rfl))
  have fa238 : FA D s m ([.ref (ad 0), .int a, .int b] : List Value).toArray 238 3 2 := FA.mk (C := RX3) (T := TX3) (N := 3) hts (fun _ h => List.mem_cons_of_mem _ (List.mem_append_left _ (List.mem_append_left _ (List.mem_append_left _ (List.mem_append_left _ (List.mem_append_left _ (List.mem_append_left _ (List.mem_append_right _ (h))))))))) hown hK rfl (by decide) (hts (.fieldLink RX9 238 "MortarShow$Flight" "y" "I") (List.mem_of_getElem? (i := 11) rfl))
  have hl := lv_entry ([.ref (ad 0), .int a, .int b]) (n := 5) (Nat.le_of_ble_eq_true rfl)
  rw [lg_entry_eq]
  generalize (lg_sl ([.ref (ad 0), .int a, .int b]) ++ List.replicate (5 - (lg_sl ([.ref (ad 0), .int a, .int b])).length) Slot.unset).toArray = ls at hl ⊢
  have hl : lv_has ls 5 [(0, .ref (ad 0)), (1, .int a), (2, .int b)] := hl
  obtain ⟨ok, hR, hP, hL, hV, hT⟩ := hXX
  have hXX : XX σ v M := ⟨ok, hR, hP, hL, hV, hT⟩
  have o1 := ok.1
  refine lv_aload_n hx hb dX9_fallsBySteps_0 rfl (lv_at hl 0 rfl) ?_
  refine lv_iload_n hx hb dX9_fallsBySteps_1 rfl (lv_at hl 1 rfl) ?_
  refine wx_wr (vx_runV (As := [.int a]) (rest := []) ⟨hx, hb, hml, hown, hts⟩ (c_X9_found l hl9 D cA sh ad M _ σ ok hX hR a) (cwV 1 hts gX9_fallsBySteps_X9_found rfl rfl rfl (by decide +kernel) ⟨Nat.le_of_ble_eq_true rfl, Nat.le_of_ble_eq_true rfl⟩) (xpreV hK hA hW hE hZ (C := RX9) (ci := 9) (hX.1 0 (by decide)) rfl) rfl rfl hl.1 rfl (lv_room (Nat.le_of_ble_eq_true rfl)) dX9_fallsBySteps_2 ⟨Nat.le_of_ble_eq_true rfl, Nat.le_of_ble_eq_true rfl⟩) hA hW ht hlocks ⟨by decide, by decide⟩ (fun E M9 h9 => ⟨Or.inl ⟨h9.1, h9.2.2⟩, by rw [h9.2.1]; exact oA.rf, by rw [h9.2.1]; exact hXX⟩) (fun q2 M2 H locs p2 hW => ?_)
  try dsimp only at p2
  obtain ⟨eM2, i, hi, ev, hg, eq2⟩ := p2
  subst eq2
  rw [eM2] at hW
  have hn9 : n1 a = i := by rw [ev]; exact n1_nI (by omega)
  have hc9 : cuB σ a = true := by rw [ev]; exact cuB_yes hi hg
  refine lv_astore_n (lv' := [(3, .ref (ad (100 + i))), (0, .ref (ad 0)), (1, .int a), (2, .int b)]) hx hb dX9_fallsBySteps_5 rfl hl (by decide) rfl (fun ls hl => ?_)
  refine lv_iload_n hx hb dX9_fallsBySteps_6 rfl (lv_at hl 3 rfl) ?_
  refine lv_iconst (v := 0) hx hb dX9_fallsBySteps_7 (by decide) ?_
  refine lv_iconst (v := 3) hx hb dX9_fallsBySteps_8 (by decide) ?_
  refine wc_ri (va_runS (As := [.int b, .int 0, .int 3]) (rest := []) ⟨hx, hb, hml, hown, hts⟩ (c_X9_outside l b 0 3) (va_cwS 3 hts gX9_fallsBySteps_X9_outside rfl rfl rfl (by decide +kernel) ⟨Nat.le_of_ble_eq_true rfl, Nat.le_of_ble_eq_true rfl⟩) npreS rfl rfl hl.1 rfl (lv_room (Nat.le_of_ble_eq_true rfl)) dX9_fallsBySteps_9 ⟨Nat.le_of_ble_eq_true rfl, Nat.le_of_ble_eq_true rfl⟩) hW (fun x9 H locs p9 hW => ?_)
  try dsimp only at p9
  refine lv_if_eq (tgt := 25) hx hb dX9_fallsBySteps_12 (by decide) (fun c12 => ?_) (fun c12 => ?_)
  · have g9 := bI_z.mp (p9.symm.trans c12)
    obtain ⟨cn, cb, ck, cr⟩ := hR.2.2.2.2.2.2.2.2.2.2.2 i hi
    obtain ⟨ob, hkd, hrk, og⟩ := ok.2.2.2.2.2.2.1 i hi
    obtain ⟨kd, ekd⟩ : ∃ z, z = σ.2 8 i := ⟨_, rfl⟩
    obtain ⟨rk, erk⟩ : ∃ z, z = σ.2 9 i := ⟨_, rfl⟩
    rw [← ekd] at ck hkd
    rw [← erk] at cr hrk
    have hk4 := hR.2.2.2.1 kd hkd
    have hr3 := hR.2.2.1 rk hrk
    have hN := ok.2.2.2.2.2.2.2.1 kd hkd
    have hN3 := hN.2.2
    have hlow := hN.2.1
    have hend := hN.1
    refine lv_aload_n hx hb dX9_fallsBySteps_25 rfl (lv_at hl 1 rfl) ?_
    refine wgF (t := 9) hx hb fa38 hW (hX.1 0 (by decide)) rfl dX9_fallsBySteps_26 ?_
    refine lv_aload_n hx hb dX9_fallsBySteps_29 rfl (lv_at hl 0 rfl) ?_
    refine wgR (t := (40 + kd)) hx hb fa210 hW (hX.2 i (by omega)) rfl ck dX9_fallsBySteps_30 ?_
    refine lv_aload_n hx hb dX9_fallsBySteps_33 rfl (lv_at hl 0 rfl) ?_
    refine wgR (t := (30 + rk)) hx hb fa214 hW (hX.2 i (by omega)) rfl cr dX9_fallsBySteps_34 ?_
    refine wc_wv (va_runV (As := [.ref (ad (40 + kd)), .ref (ad (30 + rk))]) (rest := []) ⟨hx, hb, hml, hown, hts⟩ (c_X3_start l D cA sh ad M _ _ hX kd rk hkd hrk) (cwV 2 hts gX9_fallsBySteps_X3_start rfl rfl rfl (by decide +kernel) ⟨Nat.le_of_ble_eq_true rfl, Nat.le_of_ble_eq_true rfl⟩) (wpreV hK hW (C := RX3) (ci := 3) (hX.1 9 (by decide)) rfl) rfl rfl hl.1 rfl (lv_room (Nat.le_of_ble_eq_true rfl)) dX9_fallsBySteps_37 ⟨Nat.le_of_ble_eq_true rfl, Nat.le_of_ble_eq_true rfl⟩) hA hW (fun M37 H locs p37 hW => ?_)
    try dsimp only at p37
    refine lv_iconst (v := 0) hx hb dX9_fallsBySteps_40 (by decide) ?_
    refine lv_istore (lv' := [(4, .int 0), (3, .ref (ad (100 + i))), (0, .ref (ad 0)), (1, .int a), (2, .int b)]) hx hb dX9_fallsBySteps_41 hl (by decide) rfl (fun ls hl => ?_)
    have L43 : ∀ (fu : Nat) (t : Nat) (xt : Int32) (M1 : MS) (H : Heap) (locs : List Loc), σ.2 11 kd - t < fu → (t ≤ σ.2 11 kd) → (xt = nI t) → (hst M1 10 = hsq (σ.1 2 kd) (σ.1 3 kd) t) → (gI M1 10 1 = σ.1 3 kd) → (gI M1 9 1 = mX σ i + drC σ kd 4 t 4) → (gI M1 9 2 = mY σ i + drC σ kd 5 t 4) → (oI (fun p _ => p = 9 ∨ p = 10) M M1) → WS D cA sh ad A s.heap M1 H locs → ∀ ls, lv_has ls 5 [(4, .int xt), (3, .ref (ad (100 + i))), (0, .ref (ad 0)), (1, .int a), (2, .int b)] → W p l e (headSpec wsX9_fallsBySteps { frames := 7, cells := 2, slots := 12, locals := 111 }).room s m ([.ref (ad 0), .int a, .int b] : List Value).toArray below meth cd0 H locs 1 6 (vx_MQ below (wQi D cA sh ad (fun r M' => oA XSx M M' ∧ XX σ v M' ∧ cuB σ a = true ∧ inB b 0 3 = true ∧ r = tolA σ (n1 a) b) A) (xXC D cA sh ad (fun E M' => ((E = nIO ∧ cuB σ a = false) ∨ (E = nIA ∧ cuB σ a = true ∧ inB b 0 3 = false)) ∧ oA XSx M M' ∧ XX σ v M') A) ([.ref (ad 0), .int a, .int b] : List Value).toArray s 2 12 A) (F0 m 43 ls []) := by
      intro fu
      induction fu with
      | zero =>
        intro t xt M1 H locs hn ht et s1 s2 s3 s4 s5 hW ls hl
        exact absurd hn (Nat.not_lt_zero _)
      | succ fu ih43 =>
        intro t xt M1 H locs hn ht et s1 s2 s3 s4 s5 hW ls hl
        refine lv_iload hx hb dX9_fallsBySteps_43 (lv_at hl 0 rfl) ?_
        refine lv_ldc (v := 1000000) hx hb hown (hts (.constant RX9 222 (1000000)) (List.mem_of_getElem? (i := 6) rfl)) dX9_fallsBySteps_45 ?_
        refine lv_icmp_ge (tgt := 80) hx hb dX9_fallsBySteps_47 (by decide) (fun c47 => ?_) (fun c47 => ?_)
        · have k47 : 1000000 ≤ t := kc_ge et (nlit 1000000) (by omega) (by omega) c47
          exact ((by omega : False)).elim
        · have k47 : ¬ 1000000 ≤ t := kc_gen et (nlit 1000000) (by omega) (by omega) c47
          refine lv_aload_n hx hb dX9_fallsBySteps_50 rfl (lv_at hl 2 rfl) ?_
          refine wgF (t := 9) hx hb fa38 hW (hX.1 0 (by decide)) rfl dX9_fallsBySteps_51 ?_
          refine wgF (t := 10) hx hb fa223 hW (hX.1 9 (by decide)) rfl dX9_fallsBySteps_54 ?_
          refine wgI hx hb fa227 hW (hX.1 10 (by decide)) rfl dX9_fallsBySteps_57 (fun x57 e57 => ?_)
          refine lv_if_ne (tgt := 80) hx hb dX9_fallsBySteps_60 (by decide) (fun c60 => ?_) (fun c60 => ?_)
          · have htN : t = σ.2 11 kd := by
              rcases Nat.lt_or_ge t (σ.2 11 kd) with z | z
              · exact absurd (by rw [e57]; have := hlow t z; rw [← s1] at this; exact this) c60
              · omega
            refine lv_iload_n hx hb dX9_fallsBySteps_80 rfl (lv_at hl 4 rfl) ?_
            refine lv_aload_n hx hb dX9_fallsBySteps_81 rfl (lv_at hl 2 rfl) ?_
            refine wgF (t := 9) hx hb fa38 hW (hX.1 0 (by decide)) rfl dX9_fallsBySteps_82 ?_
            refine wgI hx hb fa236 hW (hX.1 9 (by decide)) rfl dX9_fallsBySteps_85 (fun x85 e85 => ?_)
            refine lv_aload_n hx hb dX9_fallsBySteps_88 rfl (lv_at hl 2 rfl) ?_
            refine wgF (t := 9) hx hb fa38 hW (hX.1 0 (by decide)) rfl dX9_fallsBySteps_89 ?_
            refine wgI hx hb fa238 hW (hX.1 9 (by decide)) rfl dX9_fallsBySteps_92 (fun x92 e92 => ?_)
            refine wc_ri (va_runS (As := [.int b, .int x85, .int x92]) (rest := []) ⟨hx, hb, hml, hown, hts⟩ (c_X9_placeTold l b x85 x92 (out_i g9)) (va_cwS 3 hts gX9_fallsBySteps_X9_placeTold rfl rfl rfl (by decide +kernel) ⟨Nat.le_of_ble_eq_true rfl, Nat.le_of_ble_eq_true rfl⟩) npreS rfl rfl hl.1 rfl (lv_room (Nat.le_of_ble_eq_true rfl)) dX9_fallsBySteps_95 ⟨Nat.le_of_ble_eq_true rfl, Nat.le_of_ble_eq_true rfl⟩) hW (fun x95 H locs p95 hW => ?_)
            try dsimp only at p95
            refine vx_ret ?_
            refine W.widen (k := 2) (n := 12) (by decide) (by decide) ?_
            exact wr_wi hx hb hr hlocks hW dX9_fallsBySteps_98 ⟨s5.oA.mono (fun p k z => by unfold XSx; omega), hXX.fr s5.oA (fun p k z => by omega), hc9, (by simp [inB, zoB_eq, g9]), by rw [hn9]; rw [p95, e85, e92, s3, s4, htN, ← drA_C, ← drA_C, ekd]; rfl⟩
          · have htN : t < σ.2 11 kd := by
              rcases Nat.lt_or_ge t (σ.2 11 kd) with z | z
              · exact z
              · exfalso
                have : t = σ.2 11 kd := by omega
                subst this
                exact hend (by rw [← s1]; exact e57.symm.trans c60)
            obtain ⟨y0, hy0, ey0⟩ := layI_nat (gI M1 10 2)
            have ey1 : layI (hsq (σ.1 2 kd) (σ.1 3 kd) t).2.1 = nI y0 := by rw [← s1]; exact ey0
            refine lv_aload_n hx hb dX9_fallsBySteps_63 rfl (lv_at hl 2 rfl) ?_
            refine wgF (t := 9) hx hb fa38 hW (hX.1 0 (by decide)) rfl dX9_fallsBySteps_64 ?_
            refine lv_aload_n hx hb dX9_fallsBySteps_67 rfl (lv_at hl 2 rfl) ?_
            refine wgF (t := 6) hx hb fa31 hW (hX.1 0 (by decide)) rfl dX9_fallsBySteps_68 ?_
            refine wc_wv (va_runV (As := [.ref (ad 6)]) (rest := []) ⟨hx, hb, hml, hown, hts⟩ (c_X3_driveAndPass l D cA sh ad M1 _ _ hX y0 hy0 ey0) (cwV 1 hts gX9_fallsBySteps_X3_driveAndPass rfl rfl rfl (by decide +kernel) ⟨Nat.le_of_ble_eq_true rfl, Nat.le_of_ble_eq_true rfl⟩) (wpreV hK hW (C := RX3) (ci := 3) (hX.1 9 (by decide)) rfl) rfl rfl hl.1 rfl (lv_room (Nat.le_of_ble_eq_true rfl)) dX9_fallsBySteps_71 ⟨Nat.le_of_ble_eq_true rfl, Nat.le_of_ble_eq_true rfl⟩) hA hW (fun M71 H locs p71 hW => ?_)
            try dsimp only at p71
            obtain ⟨x74, e74⟩ : ∃ y : Int32, y = xt + 1 := ⟨_, rfl⟩
            refine lv_iinc (v := x74) (lv' := [(4, .int x74), (3, .ref (ad (100 + i))), (0, .ref (ad 0)), (1, .int a), (2, .int b)]) hx hb dX9_fallsBySteps_74 hl (k := 0) rfl (by rw [e74]; rfl) (by decide) rfl (fun ls hl => ?_)
            refine lv_goto (tgt := 43) hx hb dX9_fallsBySteps_77 (by decide) ?_
            exact ih43 (t + 1) x74 M71 _ _ (by omega) (by omega) (by rw [e74, et, nlit 1, nI_add]) (by rw [p71.1, s1, s2]; rfl) (p71.2.1.trans s2) (by rw [p71.2.2.1, s3, drC_s hy0 ey1, ← Int32.add_assoc, s5.1 7 y0 (by omega), (hR.2.2.2.2.1 y0 hy0).1]) (by rw [p71.2.2.2.1, s4, drC_s hy0 ey1, ← Int32.add_assoc, s5.1 8 y0 (by omega), (hR.2.2.2.2.1 y0 hy0).2]) (s5.trans p71.2.2.2.2) hW ls (lv_sub hl [0, 1, 2, 3, 4] rfl)
    exact L43 (_ + 1) 0 0 M37 _ _ (Nat.lt_succ_self _) (Nat.zero_le _) rfl (by rw [p37.1, hk4.1]; rfl) (p37.2.1.trans hk4.2.1) (by rw [p37.2.2.1, hr3.1, drC_0, Int32.add_zero, erk]; rfl) (by rw [p37.2.2.2.1, hr3.2, drC_0, Int32.add_zero, erk]; rfl) p37.2.2.2.2 hW ls (lv_sub hl [0, 1, 2, 3, 4] rfl)
  · have t9 := bI_t.mp (fun z => c12 (p9.trans z))
    exact wx_throw (text := "what is out of range") hx hb hl9 xok_IA (by decide) (List.mem_of_getElem? (i := 10) rfl) ht hown (hts (.classLink RX9 96 "java/lang/IllegalArgumentException") (List.mem_of_getElem? (i := 1) rfl)) (hts (.initialized "java/lang/IllegalArgumentException") (List.mem_of_getElem? (i := 2) rfl)) (fun w h => hts w (List.mem_cons_of_mem _ (List.mem_append_left _ (List.mem_append_right _ (h))))) hE hZ hW (hl.1.trans hml.symm) dX9_fallsBySteps_15 dX9_fallsBySteps_18 dX9_fallsBySteps_19 dX9_fallsBySteps_21 dX9_fallsBySteps_24 ⟨Nat.le_of_ble_eq_true rfl, Nat.le_of_ble_eq_true rfl⟩ ⟨Nat.le_of_ble_eq_true rfl, Nat.le_of_ble_eq_true rfl⟩ hlocks ⟨Nat.le_of_ble_eq_true rfl, Nat.le_of_ble_eq_true rfl⟩ ⟨Or.inr ⟨rfl, hc9, (by first | (simp [inB, zoB_eq, t9]; done))⟩, oA.rf, hXX⟩
set_option maxHeartbeats 4000000 in
set_option maxRecDepth 100000 in
theorem c_X9_burstAt (l : Launch) (hl9 : l.stackTraces = false) (D : va_G) (cA : Nat → ClassId) (sh : Nat → Option Sh) (ad : Nat → Nat) (M : MS) (sz : Nat) (σ : AS) (v : VT) (hX : XSh (aN σ) sh) (hXX : XX σ v M) (a b : Int32) : vx_Met l yX9_burstAt wsX9_burstAt ({ frames := 7, cells := 2, slots := 12, locals := 111 }) (xPc D cA sh ad M sz [.ref (ad 0), .int a, .int b]) (wQi D cA sh ad (fun r M' => oA XSx M M' ∧ XX σ v M' ∧ cuB σ a = true ∧ inB b 0 2 = true ∧ r = bstA σ (n1 a) b) (wA sh ad sz)) (xXC D cA sh ad (fun E M' => ((E = nIO ∧ cuB σ a = false) ∨ (E = nIA ∧ cuB σ a = true ∧ inB b 0 2 = false)) ∧ oA XSx M M' ∧ XX σ v M') (wA sh ad sz)) 2 12 (wA sh ad sz) := by
  refine vx_ofW (cc := cX9_burstAt) (maxL := 5) (ret := (some .int)) (by decide) rfl ?_
  intro p e s m args below meth cd0 s₁ B hml ht hv
  obtain ⟨rfl, hsz, hM, hK, hE, hZ⟩ := hv
  have hx := B.exec
  have hb := B.bytes
  have hr := B.returns
  have hts := atoms_spec (ws := wsX9_burstAt) B.pre
  have hown : s.vm.findClass RX9 = some m.cls := findClass_of_methodNamed B.named
  have hlocks := B.notSynchronized
  subst hsz
  have hA := wA_PA sh ad s.heap
  generalize wA sh ad s.heap.size = A at hA hZ ⊢
  have hW : WS D cA sh ad A s.heap M s.heap [] := ⟨hM, va_S.rf⟩
  have fa31 : FA D s m ([.ref (ad 0), .int a, .int b] : List Value).toArray 31 9 3 := FA.mk (C := RX9) (T := TX9) (N := 15) hts (fun _ h => List.mem_cons_of_mem _ (List.mem_append_left _ (List.mem_append_left _ (List.mem_append_left _ (List.mem_append_left _ (List.mem_append_left _ (List.mem_append_left _ (List.mem_append_left _ (List.mem_append_left _ (List.mem_append_right _ (h))))))))))) hown hK rfl (by decide) (hts (.fieldLink RX9 31 "MortarShow" "wind" "LMortarShow$Wind;") (List.mem_of_getElem? (i := 9) rfl))
  have fa38 : FA D s m ([.ref (ad 0), .int a, .int b] : List Value).toArray 38 9 4 := FA.mk (C := RX9) (T := TX9) (N := 15) hts (fun _ h => List.mem_cons_of_mem _ (List.mem_append_left _ (List.mem_append_left _ (List.mem_append_left _ (List.mem_append_left _ (List.mem_append_left _ (List.mem_append_left _ (List.mem_append_left _ (List.mem_append_left _ (List.mem_append_right _ (h))))))))))) hown hK rfl (by decide) (hts (.fieldLink RX9 38 "MortarShow" "flown" "LMortarShow$Flight;") (List.mem_of_getElem? (i := 3) rfl))
  have fa210 : FA D s m ([.ref (ad 0), .int a, .int b] : List Value).toArray 210 2 2 := FA.mk (C := RX2) (T := TX2) (N := 9) hts (fun _ h => List.mem_cons_of_mem _ (List.mem_append_left _ (List.mem_append_left _ (List.mem_append_left _ (List.mem_append_left _ (List.mem_append_left _ (List.mem_append_left _ (List.mem_append_left _ (List.mem_append_right _ (h)))))))))) hown hK rfl (by decide) (hts (.fieldLink RX9 210 "MortarShow$Cue" "kind" "LMortarShow$Kind;") (List.mem_of_getElem? (i := 4) rfl))
  have fa214 : FA D s m ([.ref (ad 0), .int a, .int b] : List Value).toArray 214 2 3 := FA.mk (C := RX2) (T := TX2) (N := 9) hts (fun _ h => List.mem_cons_of_mem _ (List.mem_append_left _ (List.mem_append_left _ (List.mem_append_left _ (List.mem_append_left _ (List.mem_append_left _ (List.mem_append_left _ (List.mem_append_left _ (List.mem_append_right _ (h)))))))))) hown hK rfl (by decide) (hts (.fieldLink RX9 214 "MortarShow$Cue" "rack" "LMortarShow$Rack;") (List.mem_of_getElem? (i := 5) rfl))
  have fa223 : FA D s m ([.ref (ad 0), .int a, .int b] : List Value).toArray 223 3 0 := FA.mk (C := RX3) (T := TX3) (N := 3) hts (fun _ h => List.mem_cons_of_mem _ (List.mem_append_left _ (List.mem_append_left _ (List.mem_append_left _ (List.mem_append_left _ (List.mem_append_left _ (List.mem_append_left _ (List.mem_append_right _ (h))))))))) hown hK rfl (by decide) (hts (.fieldLink RX9 223 "MortarShow$Flight" "height" "LMortarShow$Height;") (List.mem_of_getElem? (i := 7) rfl))
  have fa236 : FA D s m ([.ref (ad 0), .int a, .int b] : List Value).toArray 236 3 1 := FA.mk (C := RX3) (T := TX3) (N := 3) hts (fun _ h => List.mem_cons_of_mem _ (List.mem_append_left _ (List.mem_append_left _ (List.mem_append_left _ (List.mem_append_left _ (List.mem_append_left _ (List.mem_append_left _ (List.mem_append_right _ (h))))))))) hown hK rfl (by decide) (hts (.fieldLink RX9 236 "MortarShow$Flight" "x" "I") (List.mem_of_getElem? (i := 11) rfl))
  have fa238 : FA D s m ([.ref (ad 0), .int a, .int b] : List Value).toArray 238 3 2 := FA.mk (C := RX3) (T := TX3) (N := 3) hts (fun _ h => List.mem_cons_of_mem _ (List.mem_append_left _ (List.mem_append_left _ (List.mem_append_left _ (List.mem_append_left _ (List.mem_append_left _ (List.mem_append_left _ (List.mem_append_right _ (h))))))))) hown hK rfl (by decide) (hts (.fieldLink RX9 238 "MortarShow$Flight" "y" "I") (List.mem_of_getElem? (i := 12) rfl))
  have fa240 : FA D s m ([.ref (ad 0), .int a, .int b] : List Value).toArray 240 5 3 := FA.mk (C := RX5) (T := TX5) (N := 5) hts (fun _ h => List.mem_cons_of_mem _ (List.mem_append_left _ (List.mem_append_left _ (List.mem_append_left _ (List.mem_append_left _ (List.mem_append_left _ (List.mem_append_right _ (h)))))))) hown hK rfl (by decide) (hts (.fieldLink RX9 240 "MortarShow$Height" "burst" "Z") (List.mem_of_getElem? (i := 8) rfl))
  have fa243 : FA D s m ([.ref (ad 0), .int a, .int b] : List Value).toArray 243 5 2 := FA.mk (C := RX5) (T := TX5) (N := 5) hts (fun _ h => List.mem_cons_of_mem _ (List.mem_append_left _ (List.mem_append_left _ (List.mem_append_left _ (List.mem_append_left _ (List.mem_append_left _ (List.mem_append_right _ (h)))))))) hown hK rfl (by decide) (hts (.fieldLink RX9 243 "MortarShow$Height" "now" "I") (List.mem_of_getElem? (i := 10) rfl))
  have hl := lv_entry ([.ref (ad 0), .int a, .int b]) (n := 5) (Nat.le_of_ble_eq_true rfl)
  rw [lg_entry_eq]
  generalize (lg_sl ([.ref (ad 0), .int a, .int b]) ++ List.replicate (5 - (lg_sl ([.ref (ad 0), .int a, .int b])).length) Slot.unset).toArray = ls at hl ⊢
  have hl : lv_has ls 5 [(0, .ref (ad 0)), (1, .int a), (2, .int b)] := hl
  obtain ⟨ok, hR, hP, hL, hV, hT⟩ := hXX
  have hXX : XX σ v M := ⟨ok, hR, hP, hL, hV, hT⟩
  have o1 := ok.1
  refine lv_aload_n hx hb dX9_burstAt_0 rfl (lv_at hl 0 rfl) ?_
  refine lv_iload_n hx hb dX9_burstAt_1 rfl (lv_at hl 1 rfl) ?_
  refine wx_wr (vx_runV (As := [.int a]) (rest := []) ⟨hx, hb, hml, hown, hts⟩ (c_X9_found l hl9 D cA sh ad M _ σ ok hX hR a) (cwV 1 hts gX9_burstAt_X9_found rfl rfl rfl (by decide +kernel) ⟨Nat.le_of_ble_eq_true rfl, Nat.le_of_ble_eq_true rfl⟩) (xpreV hK hA hW hE hZ (C := RX9) (ci := 9) (hX.1 0 (by decide)) rfl) rfl rfl hl.1 rfl (lv_room (Nat.le_of_ble_eq_true rfl)) dX9_burstAt_2 ⟨Nat.le_of_ble_eq_true rfl, Nat.le_of_ble_eq_true rfl⟩) hA hW ht hlocks ⟨by decide, by decide⟩ (fun E M9 h9 => ⟨Or.inl ⟨h9.1, h9.2.2⟩, by rw [h9.2.1]; exact oA.rf, by rw [h9.2.1]; exact hXX⟩) (fun q2 M2 H locs p2 hW => ?_)
  try dsimp only at p2
  obtain ⟨eM2, i, hi, ev, hg, eq2⟩ := p2
  subst eq2
  rw [eM2] at hW
  have hn9 : n1 a = i := by rw [ev]; exact n1_nI (by omega)
  have hc9 : cuB σ a = true := by rw [ev]; exact cuB_yes hi hg
  refine lv_astore_n (lv' := [(3, .ref (ad (100 + i))), (0, .ref (ad 0)), (1, .int a), (2, .int b)]) hx hb dX9_burstAt_5 rfl hl (by decide) rfl (fun ls hl => ?_)
  refine lv_iload_n hx hb dX9_burstAt_6 rfl (lv_at hl 3 rfl) ?_
  refine lv_iconst (v := 0) hx hb dX9_burstAt_7 (by decide) ?_
  refine lv_iconst (v := 2) hx hb dX9_burstAt_8 (by decide) ?_
  refine wc_ri (va_runS (As := [.int b, .int 0, .int 2]) (rest := []) ⟨hx, hb, hml, hown, hts⟩ (c_X9_outside l b 0 2) (va_cwS 3 hts gX9_burstAt_X9_outside rfl rfl rfl (by decide +kernel) ⟨Nat.le_of_ble_eq_true rfl, Nat.le_of_ble_eq_true rfl⟩) npreS rfl rfl hl.1 rfl (lv_room (Nat.le_of_ble_eq_true rfl)) dX9_burstAt_9 ⟨Nat.le_of_ble_eq_true rfl, Nat.le_of_ble_eq_true rfl⟩) hW (fun x9 H locs p9 hW => ?_)
  try dsimp only at p9
  refine lv_if_eq (tgt := 25) hx hb dX9_burstAt_12 (by decide) (fun c12 => ?_) (fun c12 => ?_)
  · have g9 := bI_z.mp (p9.symm.trans c12)
    obtain ⟨cn, cb, ck, cr⟩ := hR.2.2.2.2.2.2.2.2.2.2.2 i hi
    obtain ⟨ob, hkd, hrk, og⟩ := ok.2.2.2.2.2.2.1 i hi
    obtain ⟨kd, ekd⟩ : ∃ z, z = σ.2 8 i := ⟨_, rfl⟩
    obtain ⟨rk, erk⟩ : ∃ z, z = σ.2 9 i := ⟨_, rfl⟩
    rw [← ekd] at ck hkd
    rw [← erk] at cr hrk
    have hk4 := hR.2.2.2.1 kd hkd
    have hr3 := hR.2.2.1 rk hrk
    have hN := ok.2.2.2.2.2.2.2.1 kd hkd
    have hN3 := hN.2.2
    have hrg := ok.2.2.2.2.2.2.2.2.2.2 kd hkd
    have hla := lift_at hrg.1 hrg.2 hN
    have eli : liftN (σ.1 2 kd) (σ.1 3 kd) (σ.2 11 kd) = liA σ i := by unfold liA; rw [← ekd]
    rw [eli] at hla
    have hlow := hla.2.1
    have hend := hla.1
    have hlN := hla.2.2
    refine lv_aload_n hx hb dX9_burstAt_25 rfl (lv_at hl 1 rfl) ?_
    refine wgF (t := 9) hx hb fa38 hW (hX.1 0 (by decide)) rfl dX9_burstAt_26 ?_
    refine lv_aload_n hx hb dX9_burstAt_29 rfl (lv_at hl 0 rfl) ?_
    refine wgR (t := (40 + kd)) hx hb fa210 hW (hX.2 i (by omega)) rfl ck dX9_burstAt_30 ?_
    refine lv_aload_n hx hb dX9_burstAt_33 rfl (lv_at hl 0 rfl) ?_
    refine wgR (t := (30 + rk)) hx hb fa214 hW (hX.2 i (by omega)) rfl cr dX9_burstAt_34 ?_
    refine wc_wv (va_runV (As := [.ref (ad (40 + kd)), .ref (ad (30 + rk))]) (rest := []) ⟨hx, hb, hml, hown, hts⟩ (c_X3_start l D cA sh ad M _ _ hX kd rk hkd hrk) (cwV 2 hts gX9_burstAt_X3_start rfl rfl rfl (by decide +kernel) ⟨Nat.le_of_ble_eq_true rfl, Nat.le_of_ble_eq_true rfl⟩) (wpreV hK hW (C := RX3) (ci := 3) (hX.1 9 (by decide)) rfl) rfl rfl hl.1 rfl (lv_room (Nat.le_of_ble_eq_true rfl)) dX9_burstAt_37 ⟨Nat.le_of_ble_eq_true rfl, Nat.le_of_ble_eq_true rfl⟩) hA hW (fun M37 H locs p37 hW => ?_)
    try dsimp only at p37
    refine lv_iconst (v := 0) hx hb dX9_burstAt_40 (by decide) ?_
    refine lv_istore (lv' := [(4, .int 0), (3, .ref (ad (100 + i))), (0, .ref (ad 0)), (1, .int a), (2, .int b)]) hx hb dX9_burstAt_41 hl (by decide) rfl (fun ls hl => ?_)
    have L43 : ∀ (fu : Nat) (t : Nat) (xt : Int32) (M1 : MS) (H : Heap) (locs : List Loc), liA σ i - t < fu → (t ≤ liA σ i) → (xt = nI t) → (hst M1 10 = hsq (σ.1 2 kd) (σ.1 3 kd) t) → (gI M1 10 1 = σ.1 3 kd) → (gI M1 9 1 = mX σ i + drC σ kd 4 t 4) → (gI M1 9 2 = mY σ i + drC σ kd 5 t 4) → (oI (fun p _ => p = 9 ∨ p = 10) M M1) → WS D cA sh ad A s.heap M1 H locs → ∀ ls, lv_has ls 5 [(4, .int xt), (3, .ref (ad (100 + i))), (0, .ref (ad 0)), (1, .int a), (2, .int b)] → W p l e (headSpec wsX9_burstAt { frames := 7, cells := 2, slots := 12, locals := 111 }).room s m ([.ref (ad 0), .int a, .int b] : List Value).toArray below meth cd0 H locs 1 6 (vx_MQ below (wQi D cA sh ad (fun r M' => oA XSx M M' ∧ XX σ v M' ∧ cuB σ a = true ∧ inB b 0 2 = true ∧ r = bstA σ (n1 a) b) A) (xXC D cA sh ad (fun E M' => ((E = nIO ∧ cuB σ a = false) ∨ (E = nIA ∧ cuB σ a = true ∧ inB b 0 2 = false)) ∧ oA XSx M M' ∧ XX σ v M') A) ([.ref (ad 0), .int a, .int b] : List Value).toArray s 2 12 A) (F0 m 43 ls []) := by
      intro fu
      induction fu with
      | zero =>
        intro t xt M1 H locs hn ht et s1 s2 s3 s4 s5 hW ls hl
        exact absurd hn (Nat.not_lt_zero _)
      | succ fu ih43 =>
        intro t xt M1 H locs hn ht et s1 s2 s3 s4 s5 hW ls hl
        refine lv_iload hx hb dX9_burstAt_43 (lv_at hl 0 rfl) ?_
        refine lv_ldc (v := 1000000) hx hb hown (hts (.constant RX9 222 (1000000)) (List.mem_of_getElem? (i := 6) rfl)) dX9_burstAt_45 ?_
        refine lv_icmp_ge (tgt := 80) hx hb dX9_burstAt_47 (by decide) (fun c47 => ?_) (fun c47 => ?_)
        · have k47 : 1000000 ≤ t := kc_ge et (nlit 1000000) (by omega) (by omega) c47
          exact ((by omega : False)).elim
        · have k47 : ¬ 1000000 ≤ t := kc_gen et (nlit 1000000) (by omega) (by omega) c47
          refine lv_aload_n hx hb dX9_burstAt_50 rfl (lv_at hl 2 rfl) ?_
          refine wgF (t := 9) hx hb fa38 hW (hX.1 0 (by decide)) rfl dX9_burstAt_51 ?_
          refine wgF (t := 10) hx hb fa223 hW (hX.1 9 (by decide)) rfl dX9_burstAt_54 ?_
          refine wgI hx hb fa240 hW (hX.1 10 (by decide)) rfl dX9_burstAt_57 (fun x57 e57 => ?_)
          refine lv_if_ne (tgt := 80) hx hb dX9_burstAt_60 (by decide) (fun c60 => ?_) (fun c60 => ?_)
          · have htN : t = liA σ i := by
              rcases Nat.lt_or_ge t (liA σ i) with z | z
              · exact absurd (by rw [e57]; have := hlow t z; rw [← s1] at this; exact this) c60
              · omega
            refine lv_iload_n hx hb dX9_burstAt_80 rfl (lv_at hl 4 rfl) ?_
            refine lv_iconst (v := 2) hx hb dX9_burstAt_81 (by decide) ?_
            refine lv_icmp_ne (tgt := 96) hx hb dX9_burstAt_82 (by decide) (fun c82 => ?_) (fun c82 => ?_)
            · refine lv_iload_n hx hb dX9_burstAt_96 rfl (lv_at hl 4 rfl) ?_
              refine lv_if_ne (tgt := 110) hx hb dX9_burstAt_97 (by decide) (fun c97 => ?_) (fun c97 => ?_)
              · refine lv_aload_n hx hb dX9_burstAt_110 rfl (lv_at hl 2 rfl) ?_
                refine wgF (t := 9) hx hb fa38 hW (hX.1 0 (by decide)) rfl dX9_burstAt_111 ?_
                refine wgI hx hb fa238 hW (hX.1 9 (by decide)) rfl dX9_burstAt_114 (fun x114 e114 => ?_)
                refine vx_ret ?_
                refine W.widen (k := 2) (n := 12) (by decide) (by decide) ?_
                exact wr_wi hx hb hr hlocks hW dX9_burstAt_117 ⟨s5.oA.mono (fun p k z => by unfold XSx; omega), hXX.fr s5.oA (fun p k z => by omega), hc9, (by simp [inB, zoB_eq, g9]), by rw [hn9]; unfold bstA; first | (rw [if_neg c82, if_pos c97, e104, s3, htN, ekd]) | (rw [if_neg c82, if_neg c97, e114, s4, htN, ekd])⟩
              · refine lv_aload_n hx hb dX9_burstAt_100 rfl (lv_at hl 2 rfl) ?_
                refine wgF (t := 9) hx hb fa38 hW (hX.1 0 (by decide)) rfl dX9_burstAt_101 ?_
                refine wgI hx hb fa236 hW (hX.1 9 (by decide)) rfl dX9_burstAt_104 (fun x104 e104 => ?_)
                refine lv_goto (tgt := 117) hx hb dX9_burstAt_107 (by decide) ?_
                refine vx_ret ?_
                refine W.widen (k := 2) (n := 12) (by decide) (by decide) ?_
                exact wr_wi hx hb hr hlocks hW dX9_burstAt_117 ⟨s5.oA.mono (fun p k z => by unfold XSx; omega), hXX.fr s5.oA (fun p k z => by omega), hc9, (by simp [inB, zoB_eq, g9]), by rw [hn9]; unfold bstA; first | (rw [if_neg c82, if_pos c97, e104, s3, htN, ekd]) | (rw [if_neg c82, if_neg c97, e114, s4, htN, ekd])⟩
            · have c82b : b = 2 := c82
              refine lv_aload_n hx hb dX9_burstAt_85 rfl (lv_at hl 2 rfl) ?_
              refine wgF (t := 9) hx hb fa38 hW (hX.1 0 (by decide)) rfl dX9_burstAt_86 ?_
              refine wgF (t := 10) hx hb fa223 hW (hX.1 9 (by decide)) rfl dX9_burstAt_89 ?_
              refine wgI hx hb fa243 hW (hX.1 10 (by decide)) rfl dX9_burstAt_92 (fun x92 e92 => ?_)
              refine vx_ret ?_
              refine W.widen (k := 2) (n := 12) (by decide) (by decide) ?_
              exact wr_wi hx hb hr hlocks hW dX9_burstAt_95 ⟨s5.oA.mono (fun p k z => by unfold XSx; omega), hXX.fr s5.oA (fun p k z => by omega), hc9, (by simp [inB, zoB_eq, g9]), by rw [hn9]; unfold bstA; rw [if_pos c82b, e92, ← ekd, ← htN, ← s1]; rfl⟩
          · have htN : t < liA σ i := by
              rcases Nat.lt_or_ge t (liA σ i) with z | z
              · exact z
              · exfalso
                have : t = liA σ i := by omega
                subst this
                exact hend (by rw [← s1]; exact e57.symm.trans c60)
            obtain ⟨y0, hy0, ey0⟩ := layI_nat (gI M1 10 2)
            have ey1 : layI (hsq (σ.1 2 kd) (σ.1 3 kd) t).2.1 = nI y0 := by rw [← s1]; exact ey0
            refine lv_aload_n hx hb dX9_burstAt_63 rfl (lv_at hl 2 rfl) ?_
            refine wgF (t := 9) hx hb fa38 hW (hX.1 0 (by decide)) rfl dX9_burstAt_64 ?_
            refine lv_aload_n hx hb dX9_burstAt_67 rfl (lv_at hl 2 rfl) ?_
            refine wgF (t := 6) hx hb fa31 hW (hX.1 0 (by decide)) rfl dX9_burstAt_68 ?_
            refine wc_wv (va_runV (As := [.ref (ad 6)]) (rest := []) ⟨hx, hb, hml, hown, hts⟩ (c_X3_driveAndPass l D cA sh ad M1 _ _ hX y0 hy0 ey0) (cwV 1 hts gX9_burstAt_X3_driveAndPass rfl rfl rfl (by decide +kernel) ⟨Nat.le_of_ble_eq_true rfl, Nat.le_of_ble_eq_true rfl⟩) (wpreV hK hW (C := RX3) (ci := 3) (hX.1 9 (by decide)) rfl) rfl rfl hl.1 rfl (lv_room (Nat.le_of_ble_eq_true rfl)) dX9_burstAt_71 ⟨Nat.le_of_ble_eq_true rfl, Nat.le_of_ble_eq_true rfl⟩) hA hW (fun M71 H locs p71 hW => ?_)
            try dsimp only at p71
            obtain ⟨x74, e74⟩ : ∃ y : Int32, y = xt + 1 := ⟨_, rfl⟩
            refine lv_iinc (v := x74) (lv' := [(4, .int x74), (3, .ref (ad (100 + i))), (0, .ref (ad 0)), (1, .int a), (2, .int b)]) hx hb dX9_burstAt_74 hl (k := 0) rfl (by rw [e74]; rfl) (by decide) rfl (fun ls hl => ?_)
            refine lv_goto (tgt := 43) hx hb dX9_burstAt_77 (by decide) ?_
            exact ih43 (t + 1) x74 M71 _ _ (by omega) (by omega) (by rw [e74, et, nlit 1, nI_add]) (by rw [p71.1, s1, s2]; rfl) (p71.2.1.trans s2) (by rw [p71.2.2.1, s3, drC_s hy0 ey1, ← Int32.add_assoc, s5.1 7 y0 (by omega), (hR.2.2.2.2.1 y0 hy0).1]) (by rw [p71.2.2.2.1, s4, drC_s hy0 ey1, ← Int32.add_assoc, s5.1 8 y0 (by omega), (hR.2.2.2.2.1 y0 hy0).2]) (s5.trans p71.2.2.2.2) hW ls (lv_sub hl [0, 1, 2, 3, 4] rfl)
    exact L43 (_ + 1) 0 0 M37 _ _ (Nat.lt_succ_self _) (Nat.zero_le _) rfl (by rw [p37.1, hk4.1]; rfl) (p37.2.1.trans hk4.2.1) (by rw [p37.2.2.1, hr3.1, drC_0, Int32.add_zero, erk]; rfl) (by rw [p37.2.2.2.1, hr3.2, drC_0, Int32.add_zero, erk]; rfl) p37.2.2.2.2 hW ls (lv_sub hl [0, 1, 2, 3, 4] rfl)
  · have t9 := bI_t.mp (fun z => c12 (p9.trans z))
    exact wx_throw (text := "what is out of range") hx hb hl9 xok_IA (by decide) (List.mem_of_getElem? (i := 10) rfl) ht hown (hts (.classLink RX9 96 "java/lang/IllegalArgumentException") (List.mem_of_getElem? (i := 1) rfl)) (hts (.initialized "java/lang/IllegalArgumentException") (List.mem_of_getElem? (i := 2) rfl)) (fun w h => hts w (List.mem_cons_of_mem _ (List.mem_append_left _ (List.mem_append_right _ (h))))) hE hZ hW (hl.1.trans hml.symm) dX9_burstAt_15 dX9_burstAt_18 dX9_burstAt_19 dX9_burstAt_21 dX9_burstAt_24 ⟨Nat.le_of_ble_eq_true rfl, Nat.le_of_ble_eq_true rfl⟩ ⟨Nat.le_of_ble_eq_true rfl, Nat.le_of_ble_eq_true rfl⟩ hlocks ⟨Nat.le_of_ble_eq_true rfl, Nat.le_of_ble_eq_true rfl⟩ ⟨Or.inr ⟨rfl, hc9, (by first | (simp [inB, zoB_eq, t9]; done))⟩, oA.rf, hXX⟩

/-! The reference: what it is asked. -/
def moS (p _k : Nat) : Prop := 60 ≤ p ∧ p ≤ 84
def goS (p k : Nat) : Prop := p = 60 ∧ k = 28
theorem MX.oI {σ : AS} {v : VT} {M M' : MS} {S : Nat → Nat → Prop} (h : MX σ v M) (o : oI S M M') (hs : ∀ p k, S p k → (80 ≤ p ∧ p ≤ 84) ∨ (p = 60 ∧ 27 ≤ k)) : MX σ v M' := by
  obtain ⟨ok, hR, hV, hT⟩ := h
  refine ⟨ok, hR.oI o (fun p k hx hz => by have := hs p k hz; unfold MRs at hx; omega), fun k hk => ?_, fun k hk => ?_⟩
  · rw [o.1 _ _ (fun z => by have := hs _ _ z; omega)]; exact hV k hk
  · rw [o.1 _ _ (fun z => by have := hs _ _ z; omega)]; exact hT k hk
theorem MX.oA {σ : AS} {v : VT} {M M' : MS} (h : MX σ v M) (o : ∀ p k, 60 ≤ p → p ≤ 84 → gI M' p k = gI M p k) : MX σ v M' := by
  obtain ⟨ok, hR, hV, hT⟩ := h
  obtain ⟨a1, a2, a3, a4, a5, a6, a7, a8, a9, a10, a11, a12⟩ := hR
  refine ⟨ok, ⟨fun k hk => (o _ _ (by omega) (by omega)).trans (a1 k hk), trivial, fun r hr => (o _ _ (by omega) (by omega)).trans (a3 r hr), fun k hk => ?_, fun y hy => ⟨(o _ _ (by omega) (by omega)).trans (a5 y hy).1, (o _ _ (by omega) (by omega)).trans (a5 y hy).2⟩, trivial, fun c hc => (o _ _ (by omega) (by omega)).trans (a7 c hc), (o _ _ (by omega) (by omega)).trans a8, (o _ _ (by omega) (by omega)).trans a9, (o _ _ (by omega) (by omega)).trans a10, fun i hi => (o _ _ (by omega) (by omega)).trans (a11 i hi), fun i hi => ⟨(o _ _ (by omega) (by omega)).trans (a12 i hi).1, (o _ _ (by omega) (by omega)).trans (a12 i hi).2.1, (o _ _ (by omega) (by omega)).trans (a12 i hi).2.2⟩⟩, fun k hk => (o _ _ (by omega) (by omega)).trans (hV k hk), fun k hk => (o _ _ (by omega) (by omega)).trans (hT k hk)⟩
  obtain ⟨b1, b2, b3, b4, b5, b6, b7⟩ := a4 k hk
  exact ⟨(o _ _ (by omega) (by omega)).trans b1, (o _ _ (by omega) (by omega)).trans b2, (o _ _ (by omega) (by omega)).trans b3, (o _ _ (by omega) (by omega)).trans b4, (o _ _ (by omega) (by omega)).trans b5, (o _ _ (by omega) (by omega)).trans b6, fun y hy => ⟨(o _ _ (by omega) (by omega)).trans (b7 y hy).1, (o _ _ (by omega) (by omega)).trans (b7 y hy).2⟩⟩
theorem LayR.oI {σ : AS} {q : Nat → Nat} {c : Nat} {M M' : MS} {S : Nat → Nat → Prop} (h : LayR σ q c M) (o : oI S M M') (hs : ∀ p k, S p k → p = 60 ∧ k = 28) : LayR σ q c M' := by
  obtain ⟨h1, h2, h3, h4, h5⟩ := h
  have F : ∀ p k, ¬ (p = 60 ∧ k = 28) → gI M' p k = gI M p k := fun p k hp => o.1 p k (fun z => hp (hs p k z))
  refine ⟨h1, fun i hi hg => ?_, fun d hd => (F _ _ (by omega)).trans (h3 d hd), (F _ _ (by omega)).trans h4, fun n hn => (F _ _ (by omega)).trans (h5 n hn)⟩
  rw [F _ _ (by omega), F _ _ (by omega), F _ _ (by omega)]; exact h2 i hi hg
theorem laS_mo {M M' : MS} (o : oI laS M M') : oI moS M M' := o.mono (fun p k h => by unfold laS at h; unfold moS; omega)
theorem go_mo {M M' : MS} (o : oI (fun p k => p = 60 ∧ k = 28) M M') : oI moS M M' := o.mono (fun p k h => by unfold moS; omega)
theorem bT {b : Bool} {x : Int32} (h : x = bI (b && true)) (c : ¬ x = 0) : b = true := by
  have := bI_t.mp (fun z => c (h.trans z))
  rw [Bool.and_true] at this; exact this
theorem bF {b : Bool} {x : Int32} (h : x = bI (b && true)) (c : x = 0) : b = false := by
  have := bI_z.mp (h.symm.trans c)
  rw [Bool.and_true] at this; exact this
theorem in_n {v : Int32} {n : Nat} (hn : n < 2 ^ 31) (h : inB v 0 (nI n) = true) : ∃ r, r < n + 1 ∧ v = nI r := out_n hn (by unfold inB at h; simpa using h)
theorem in_i {v lo hi : Int32} (h : inB v lo hi = true) : lo.toInt ≤ v.toInt ∧ v.toInt ≤ hi.toInt := out_i (by unfold inB at h; simpa using h)
theorem in_n1 {v : Int32} {n : Nat} (hn : n < 2 ^ 31) (h : inB v 1 (nI n) = true) : ∃ r, 1 ≤ r ∧ r ≤ n ∧ v = nI r := out_n1 hn (by unfold inB at h; simpa using h)
theorem zo_n {c l : Int32} (h : zoB c l = true) : ∃ x y, x < 8 ∧ y < 8 ∧ c = nI x ∧ l = nI y := off_n (by rw [zoB_eq] at h; simpa using h)
/-- a number in a range that ends one below n -/
theorem inB_fi {a : Int32} {n : Nat} (hn : n ≤ 40) : inB a 0 (nI n - 1) = fiB n a := by
  have z0 : (0 : Int32).toInt = 0 := rfl
  have e : (nI n - 1).toInt = (n : Int) - 1 := by rw [i32sub] <;> rw [nI_toInt (by omega), show (1 : Int32).toInt = 1 from rfl] <;> omega
  unfold inB outB fiB
  rw [← decide_not]
  apply decide_eq_decide.mpr
  rw [i32lt, i32lt, e, z0]
  omega
theorem fi_n {a : Int32} {n : Nat} (h : fiB n a = true) : ∃ i, i < n ∧ a = nI i ∧ n1 a = i := by
  have h2 := of_decide_eq_true h
  have z0 : (0 : Int32).toInt = 0 := rfl
  obtain ⟨j, hj, e⟩ := nI_of (x := a) (fun q => by rw [i32lt, z0] at q; omega)
  rw [e, nI_toInt hj] at h2
  exact ⟨j, by omega, e, by rw [e]; exact n1_nI hj⟩
theorem cu_n {σ : AS} {a : Int32} (ok : AOK σ) (h : cuB σ a = true) : ∃ i, i < aN σ ∧ a = nI i ∧ σ.2 10 i = 0 ∧ n1 a = i := by
  obtain ⟨i, h1, h2, h3⟩ := cuB_iff.mp h
  have := ok.1
  exact ⟨i, h1, h2, h3, by rw [h2]; exact n1_nI (by omega)⟩
theorem ctN_ite {p : Nat → Bool} {x y : Int32} {k : Nat} (h : x = nI (ctN p k)) (hy : y = nI (if p k = true then 1 else 0)) : x + y = nI (ctN p (k + 1)) := by rw [h, hy, nI_add]; rfl
set_option maxHeartbeats 4000000 in
set_option maxRecDepth 100000 in
theorem c_X10_asks (l : Launch) (D : va_G) (cA : Nat → ClassId) (sh : Nat → Option Sh) (ad : Nat → Nat) (M : MS) (sz : Nat) (σ : AS) (v : VT) (hMs : MSh sh) (hMX : MX σ v M) (a : Int32) : Met l yX10_asks wsX10_asks ({ frames := 4, cells := 0, slots := 0, locals := 97 }) (wPc D cA sh ad M sz [.ref (ad 60), .int a]) (wQi D cA sh ad (fun r M' => r = bI (cuB σ a) ∧ oI moS M M' ∧ gI M' 60 28 = nI (thr (cuB σ a) true) ∧ MX σ v M' ∧ ∃ q c, LayR σ q c M') (wA sh ad sz)) 0 0 (wA sh ad sz) := by
  refine Met.ofW (cc := cX10_asks) (maxL := 2) (ret := (some .boolean)) (by decide) rfl ?_
  intro p e s m args below meth cd0 s₁ B hml hv
  obtain ⟨rfl, hsz, hM, hK⟩ := hv
  have hx := B.exec
  have hb := B.bytes
  have hr := B.returns
  have hts := atoms_spec (ws := wsX10_asks) B.pre
  have hown : s.vm.findClass RX10 = some m.cls := findClass_of_methodNamed B.named
  have hlocks := B.notSynchronized
  subst hsz
  have hA := wA_PA sh ad s.heap
  generalize wA sh ad s.heap.size = A at hA ⊢
  have hW : WS D cA sh ad A s.heap M s.heap [] := ⟨hM, va_S.rf⟩
  have hl := lv_entry ([.ref (ad 60), .int a]) (n := 2) (Nat.le_of_ble_eq_true rfl)
  rw [lg_entry_eq]
  generalize (lg_sl ([.ref (ad 60), .int a]) ++ List.replicate (2 - (lg_sl ([.ref (ad 60), .int a])).length) Slot.unset).toArray = ls at hl ⊢
  have hl : lv_has ls 2 [(0, .ref (ad 60)), (1, .int a)] := hl
  obtain ⟨ok, hR, hV, hT⟩ := hMX
  have hMX : MX σ v M := ⟨ok, hR, hV, hT⟩
  have o1 := ok.1
  refine lv_aload_n hx hb dX10_asks_0 rfl (lv_at hl 0 rfl) ?_
  refine wc_wv (va_runV (As := []) (rest := []) ⟨hx, hb, hml, hown, hts⟩ (c_X10_lays l D cA sh ad M _ σ ok hMs hR) (cwV 0 hts gX10_asks_X10_lays rfl rfl rfl (by decide +kernel) ⟨Nat.le_of_ble_eq_true rfl, Nat.le_of_ble_eq_true rfl⟩) (wpreV hK hW (C := RX10) (ci := 10) (hMs 60 (by decide) (by decide)) rfl) rfl rfl hl.1 rfl (lv_room (Nat.le_of_ble_eq_true rfl)) dX10_asks_1 ⟨Nat.le_of_ble_eq_true rfl, Nat.le_of_ble_eq_true rfl⟩) hA hW (fun M1' H locs p1' hW => ?_)
  try dsimp only at p1'
  obtain ⟨o1x, q, c, L1⟩ := p1'
  have hX1 : MX σ v M1' := hMX.oI o1x (fun p k z => by unfold laS at z; omega)
  have hR1 := hX1.2.1
  refine lv_aload_n hx hb dX10_asks_4 rfl (lv_at hl 0 rfl) ?_
  refine lv_aload_n hx hb dX10_asks_5 rfl (lv_at hl 0 rfl) ?_
  refine lv_iload_n hx hb dX10_asks_6 rfl (lv_at hl 1 rfl) ?_
  refine wc_ri (va_runV (As := [.int a]) (rest := [.ref (ad 60)]) ⟨hx, hb, hml, hown, hts⟩ (c_X10_isCue l D cA sh ad M1' _ σ ok hMs hR1 a) (cwV 1 hts gX10_asks_X10_isCue rfl rfl rfl (by decide +kernel) ⟨Nat.le_of_ble_eq_true rfl, Nat.le_of_ble_eq_true rfl⟩) (wpreV hK hW (C := RX10) (ci := 10) (hMs 60 (by decide) (by decide)) rfl) rfl rfl hl.1 rfl (lv_room (Nat.le_of_ble_eq_true rfl)) dX10_asks_7 ⟨Nat.le_of_ble_eq_true rfl, Nat.le_of_ble_eq_true rfl⟩) hW (fun x7' H locs p7' hW => ?_)
  try dsimp only at p7'
  refine lv_iconst (v := 1) hx hb dX10_asks_10 (by decide) ?_
  refine wc_wi (va_runV (As := [.int x7', .int 1]) (rest := []) ⟨hx, hb, hml, hown, hts⟩ (c_X10_goes l D cA sh ad M1' _ hMs x7' 1 (cuB σ a) true p7' rfl) (cwV 2 hts gX10_asks_X10_goes rfl rfl rfl (by decide +kernel) ⟨Nat.le_of_ble_eq_true rfl, Nat.le_of_ble_eq_true rfl⟩) (wpreV hK hW (C := RX10) (ci := 10) (hMs 60 (by decide) (by decide)) rfl) rfl rfl hl.1 rfl (lv_room (Nat.le_of_ble_eq_true rfl)) dX10_asks_11 ⟨Nat.le_of_ble_eq_true rfl, Nat.le_of_ble_eq_true rfl⟩) hA hW (fun x11' M11' H locs p11' hW => ?_)
  try dsimp only at p11'
  exact wr_wz hx hb hr hlocks hW dX10_asks_14 (by rw [p11'.1]; exact bI_n _) ⟨by rw [p11'.1, Bool.and_true], (laS_mo o1x).trans (go_mo p11'.2.2), p11'.2.1, hX1.oI p11'.2.2 (fun p k z => by omega), q, c, L1.oI p11'.2.2 (fun p k z => z)⟩
theorem val_s (w : Nat → Int32) (p : Nat → Bool) (k : Nat) : valV w p k + 1 + (if p k = true then (w k).toInt64 else 0) = valV w p (k + 1) + 1 := by
  show _ = (if p k = true then valV w p k + (w k).toInt64 else valV w p k) + 1
  by_cases h : p k = true
  · rw [if_pos h, if_pos h, Int64.add_assoc, Int64.add_assoc, Int64.add_comm 1]
  · rw [if_neg h, if_neg h, Int64.add_zero]
theorem hr_j {t : Int32} (h : 0 ≤ t.toInt ∧ t.toInt ≤ 10000) : t / 100 = nI (n1 t / 100) ∧ n1 t ≤ 10000 := by
  have h0 : ¬ t < 0 := fun q => by rw [i32lt] at q; have : (0 : Int32).toInt = 0 := rfl; omega
  obtain ⟨j, hj, e⟩ := nI_of h0
  have hj2 : j ≤ 10000 := by rw [e, nI_toInt hj] at h; omega
  have e3' : n1 t = j := by rw [e]; exact n1_nI hj
  rw [e3']
  refine ⟨?_, hj2⟩
  rw [e, nlit 100]; exact pk_div (by omega) (by omega) (by omega)
theorem hr_m1 {σ : AS} {i : Nat} (h : 0 ≤ (tkI σ i).toInt ∧ (tkI σ i).toInt ≤ 10000) (c : ¬ 10 ≤ tkI σ i / 100) : tkI σ i / 100 = nI (hrN σ i) := by
  obtain ⟨e, hj⟩ := hr_j h
  rw [e, i32le, nI_toInt (by omega)] at c
  have : (10 : Int32).toInt = 10 := rfl
  rw [e]
  unfold hrN
  rw [Nat.min_eq_right (by omega)]
theorem hr_m2 {σ : AS} {i : Nat} (h : 0 ≤ (tkI σ i).toInt ∧ (tkI σ i).toInt ≤ 10000) (c : 10 ≤ tkI σ i / 100) : (9 : Int32) = nI (hrN σ i) := by
  obtain ⟨e, hj⟩ := hr_j h
  rw [e, i32le, nI_toInt (by omega)] at c
  have : (10 : Int32).toInt = 10 := rfl
  unfold hrN
  rw [Nat.min_eq_left (by omega)]; rfl
theorem bur_eq {σ : AS} {i : Nat} {x y z : Int32} (h : x = y + z) (hy : y = tkI σ i) (hz : z = nI (liA σ i)) : x = burI σ i := by
  rw [h, hy, hz]
  unfold tkI
  rw [Int32.sub_add_cancel]
theorem lay_stk {σ : AS} {q : Nat → Nat} {c : Nat} {M : MS} (h : LayR σ q c M) (o1 : aN σ ≤ 40) : ∀ i, i < aN σ → σ.2 10 i = 0 → (gI M 80 i = 1 ↔ stkB σ i = true) := fun i hi hg => by
  rw [(h.2.1 i hi hg).1]
  unfold fateA
  by_cases he : elg σ i
  · obtain ⟨j, hj, ej⟩ := h.1.2.1 i (by omega) he
    have h4 := posQ_at h.1 hj
    rw [ej] at h4
    rw [h4, he.2.2.1]
    show nI (if chq σ q j = none then 3 else 0) = 1 ↔ _
    split <;> simp <;> decide
  · rw [posQ_no h.1 he]
    show nI (if stkB σ i = true then 1 else 2) = 1 ↔ _
    cases stkB σ i <;> simp <;> decide
theorem lay_gv {σ : AS} {q : Nat → Nat} {c : Nat} {M : MS} (h : LayR σ q c M) (o1 : aN σ ≤ 40) : ∀ d, d < 32 → (gI M 84 d = -1 ↔ (gvn σ q c d).isSome = false) := fun d hd => by
  rw [h.2.2.1 d hd]
  cases hq : gvn σ q c d with
  | none => exact ⟨fun _ => rfl, fun _ => rfl⟩
  | some i =>
    obtain ⟨j, hj, e⟩ := gvn_src hq
    have := (h.1.1 j hj).1
    exact ⟨fun z => absurd z (opI_some (by omega)), fun z => by cases z⟩
theorem dwn_jfd {x : Int32} (h1 : -300000 ≤ x.toInt) (h2 : x.toInt ≤ 301000) : dwn x = jfd x 100 := Int32.toInt_inj.mp (by rw [dwn100 (by omega) (by omega), jfd100 (by omega) (by omega)])
theorem tol_m1 {σ : AS} {i w : Nat} {b : Int32} (e : b = nI w) (hw : w < 3 + 1) (h : ¬ 2 ≤ w) : dsA σ i (decide (w % 2 = 1)) true 4 = tolA σ i b := by
  unfold tolA plT
  rcases (show w = 0 ∨ w = 1 by omega) with z | z <;> subst z <;> rw [e]
  · exact dsA_X σ i
  · exact dsA_Y σ i
theorem tol_m2 {σ : AS} {i w : Nat} {b : Int32} (fb : (-300000 ≤ (falX σ i).toInt ∧ (falX σ i).toInt ≤ 301000) ∧ (-300000 ≤ (falY σ i).toInt ∧ (falY σ i).toInt ≤ 301000)) (e : b = nI w) (hw : w < 3 + 1) (h : 2 ≤ w) : dwn (dsA σ i (decide (w % 2 = 1)) true 4) = tolA σ i b := by
  unfold tolA plT
  rcases (show w = 2 ∨ w = 3 by omega) with z | z <;> subst z <;> rw [e]
  · have h9 : dsA σ i (decide (2 % 2 = 1)) true 4 = falX σ i := dsA_X σ i
    rw [h9, dwn_jfd fb.1.1 fb.1.2]; rfl
  · have h9 : dsA σ i (decide (3 % 2 = 1)) true 4 = falY σ i := dsA_Y σ i
    rw [h9, dwn_jfd fb.2.1 fb.2.2]; rfl
theorem bst_m1 {σ : AS} {i w : Nat} {b x : Int32} (e : b = nI w) (h : w = 2) (hx : x = (hsq (σ.1 2 (σ.2 8 i)) (σ.1 3 (σ.2 8 i)) (liA σ i)).2.1) : x = bstA σ i b := by
  subst h
  unfold bstA
  rw [e, if_pos (show nI 2 = (2 : Int32) from rfl)]; exact hx
theorem bst_m2 {σ : AS} {i w : Nat} {b : Int32} (e : b = nI w) (hw : w < 2 + 1) (h : ¬ w = 2) : dsA σ i (decide (w = 1)) false 4 = bstA σ i b := by
  unfold bstA
  rcases (show w = 0 ∨ w = 1 by omega) with z | z <;> subst z <;> rw [e]
  · exact dsA_bX σ i
  · exact dsA_bY σ i
set_option maxHeartbeats 4000000 in
set_option maxRecDepth 100000 in
theorem c_X10_becomes (l : Launch) (D : va_G) (cA : Nat → ClassId) (sh : Nat → Option Sh) (ad : Nat → Nat) (M : MS) (sz : Nat) (σ : AS) (v : VT) (hMs : MSh sh) (hMX : MX σ v M) (a : Int32) : Met l yX10_becomes wsX10_becomes ({ frames := 5, cells := 0, slots := 0, locals := 118 }) (wPc D cA sh ad M sz [.ref (ad 60), .int a]) (wQi D cA sh ad (fun r M' => oI moS M M' ∧ gI M' 60 28 = nI (thr (cuB σ a) true) ∧ ((cuB σ a) = false → MX σ v M') ∧ ((cuB σ a) = true → MX σ v M' ∧ ∃ q c, Srt σ 40 q c ∧ r = nI (fateA σ q c (n1 a)))) (wA sh ad sz)) 0 0 (wA sh ad sz) := by
  refine Met.ofW (cc := cX10_becomes) (maxL := 2) (ret := (some .int)) (by decide) rfl ?_
  intro p e s m args below meth cd0 s₁ B hml hv
  obtain ⟨rfl, hsz, hM, hK⟩ := hv
  have hx := B.exec
  have hb := B.bytes
  have hr := B.returns
  have hts := atoms_spec (ws := wsX10_becomes) B.pre
  have hown : s.vm.findClass RX10 = some m.cls := findClass_of_methodNamed B.named
  have hlocks := B.notSynchronized
  subst hsz
  have hA := wA_PA sh ad s.heap
  generalize wA sh ad s.heap.size = A at hA ⊢
  have hW : WS D cA sh ad A s.heap M s.heap [] := ⟨hM, va_S.rf⟩
  have fa75 : FA D s m ([.ref (ad 60), .int a] : List Value).toArray 75 10 22 := FA.mk (C := RX10) (T := TX10) (N := 29) hts (fun _ h => List.mem_cons_of_mem _ (List.mem_append_right _ (h))) hown hK rfl (by decide) (hts (.fieldLink RX10 75 "MortarShowModel" "fate" "[I") (List.mem_of_getElem? (i := 1) rfl))
  have hl := lv_entry ([.ref (ad 60), .int a]) (n := 2) (Nat.le_of_ble_eq_true rfl)
  rw [lg_entry_eq]
  generalize (lg_sl ([.ref (ad 60), .int a]) ++ List.replicate (2 - (lg_sl ([.ref (ad 60), .int a])).length) Slot.unset).toArray = ls at hl ⊢
  have hl : lv_has ls 2 [(0, .ref (ad 60)), (1, .int a)] := hl
  obtain ⟨ok, hR, hV, hT⟩ := hMX
  have hMX : MX σ v M := ⟨ok, hR, hV, hT⟩
  have o1 := ok.1
  refine lv_aload_n hx hb dX10_becomes_0 rfl (lv_at hl 0 rfl) ?_
  refine lv_iload_n hx hb dX10_becomes_1 rfl (lv_at hl 1 rfl) ?_
  refine wc_wi (va_runV (As := [.int a]) (rest := []) ⟨hx, hb, hml, hown, hts⟩ (c_X10_asks l D cA sh ad M _ σ v hMs hMX a) (cwV 1 hts gX10_becomes_X10_asks rfl rfl rfl (by decide +kernel) ⟨Nat.le_of_ble_eq_true rfl, Nat.le_of_ble_eq_true rfl⟩) (wpreV hK hW (C := RX10) (ci := 10) (hMs 60 (by decide) (by decide)) rfl) rfl rfl hl.1 rfl (lv_room (Nat.le_of_ble_eq_true rfl)) dX10_becomes_2 ⟨Nat.le_of_ble_eq_true rfl, Nat.le_of_ble_eq_true rfl⟩) hA hW (fun x2' M2' H locs p2' hW => ?_)
  try dsimp only at p2'
  obtain ⟨pa, oa, ta, hXa, q, c, La⟩ := p2'
  have hRa := hXa.2.1
  refine lv_if_eq (tgt := 17) hx hb dX10_becomes_5 (by decide) (fun c5' => ?_) (fun c5' => ?_)
  · have hG : cuB σ a = false := bI_z.mp (pa.symm.trans c5')
    refine lv_iconst (v := 0) hx hb dX10_becomes_17 (by decide) ?_
    exact wr_wi hx hb hr hlocks hW dX10_becomes_18 (by first | exact ⟨oa, ta, fun z => absurd (hG.symm.trans z) (by decide), fun _ => ⟨hXa, q, c, La.1, by rw [en]; exact e13'.trans hLi.1⟩⟩ | exact ⟨oa, ta, fun _ => hXa, fun z => absurd (hG.symm.trans z) (by decide)⟩)
  · have hG : cuB σ a = true := bI_t.mp (fun z => c5' (pa.trans z))
    obtain ⟨i, hi, ea, hg, en⟩ := cu_n ok hG
    have hLi := La.2.1 i hi hg
    obtain ⟨ob, hkd, hrk, og⟩ := ok.2.2.2.2.2.2.1 i hi
    refine lv_aload_n hx hb dX10_becomes_8 rfl (lv_at hl 0 rfl) ?_
    refine wgF (t := 80) hx hb fa75 hW (hMs 60 (by decide) (by decide)) rfl dX10_becomes_9 ?_
    refine lv_iload_n hx hb dX10_becomes_12 rfl (lv_at hl 1 rfl) ?_
    refine walI (j := i) hx hb hK hW (hMs 80 (by decide) (by decide)) ea (by omega) (by decide) dX10_becomes_13 (fun x13' e13' => ?_)
    refine lv_goto (tgt := 18) hx hb dX10_becomes_14 (by decide) ?_
    exact wr_wi hx hb hr hlocks hW dX10_becomes_18 (by first | exact ⟨oa, ta, fun z => absurd (hG.symm.trans z) (by decide), fun _ => ⟨hXa, q, c, La.1, by rw [en]; exact e13'.trans hLi.1⟩⟩ | exact ⟨oa, ta, fun _ => hXa, fun z => absurd (hG.symm.trans z) (by decide)⟩)
set_option maxHeartbeats 4000000 in
set_option maxRecDepth 100000 in
theorem c_X10_bursts (l : Launch) (D : va_G) (cA : Nat → ClassId) (sh : Nat → Option Sh) (ad : Nat → Nat) (M : MS) (sz : Nat) (σ : AS) (v : VT) (hMs : MSh sh) (hMX : MX σ v M) (a : Int32) : Met l yX10_bursts wsX10_bursts ({ frames := 5, cells := 0, slots := 0, locals := 118 }) (wPc D cA sh ad M sz [.ref (ad 60), .int a]) (wQi D cA sh ad (fun r M' => oI moS M M' ∧ gI M' 60 28 = nI (thr (cuB σ a) true) ∧ ((cuB σ a) = false → MX σ v M') ∧ ((cuB σ a) = true → MX σ v M' ∧ ∃ q c, Srt σ 40 q c ∧ r = burI σ (n1 a))) (wA sh ad sz)) 0 0 (wA sh ad sz) := by
  refine Met.ofW (cc := cX10_bursts) (maxL := 2) (ret := (some .int)) (by decide) rfl ?_
  intro p e s m args below meth cd0 s₁ B hml hv
  obtain ⟨rfl, hsz, hM, hK⟩ := hv
  have hx := B.exec
  have hb := B.bytes
  have hr := B.returns
  have hts := atoms_spec (ws := wsX10_bursts) B.pre
  have hown : s.vm.findClass RX10 = some m.cls := findClass_of_methodNamed B.named
  have hlocks := B.notSynchronized
  subst hsz
  have hA := wA_PA sh ad s.heap
  generalize wA sh ad s.heap.size = A at hA ⊢
  have hW : WS D cA sh ad A s.heap M s.heap [] := ⟨hM, va_S.rf⟩
  have fa22 : FA D s m ([.ref (ad 60), .int a] : List Value).toArray 22 10 4 := FA.mk (C := RX10) (T := TX10) (N := 29) hts (fun _ h => List.mem_cons_of_mem _ (List.mem_append_right _ (h))) hown hK rfl (by decide) (hts (.fieldLink RX10 22 "MortarShowModel" "lift" "[I") (List.mem_of_getElem? (i := 2) rfl))
  have fa66 : FA D s m ([.ref (ad 60), .int a] : List Value).toArray 66 10 19 := FA.mk (C := RX10) (T := TX10) (N := 29) hts (fun _ h => List.mem_cons_of_mem _ (List.mem_append_right _ (h))) hown hK rfl (by decide) (hts (.fieldLink RX10 66 "MortarShowModel" "kind" "[I") (List.mem_of_getElem? (i := 3) rfl))
  have fa78 : FA D s m ([.ref (ad 60), .int a] : List Value).toArray 78 10 23 := FA.mk (C := RX10) (T := TX10) (N := 29) hts (fun _ h => List.mem_cons_of_mem _ (List.mem_append_right _ (h))) hown hK rfl (by decide) (hts (.fieldLink RX10 78 "MortarShowModel" "tick" "[I") (List.mem_of_getElem? (i := 1) rfl))
  have hl := lv_entry ([.ref (ad 60), .int a]) (n := 2) (Nat.le_of_ble_eq_true rfl)
  rw [lg_entry_eq]
  generalize (lg_sl ([.ref (ad 60), .int a]) ++ List.replicate (2 - (lg_sl ([.ref (ad 60), .int a])).length) Slot.unset).toArray = ls at hl ⊢
  have hl : lv_has ls 2 [(0, .ref (ad 60)), (1, .int a)] := hl
  obtain ⟨ok, hR, hV, hT⟩ := hMX
  have hMX : MX σ v M := ⟨ok, hR, hV, hT⟩
  have o1 := ok.1
  refine lv_aload_n hx hb dX10_bursts_0 rfl (lv_at hl 0 rfl) ?_
  refine lv_iload_n hx hb dX10_bursts_1 rfl (lv_at hl 1 rfl) ?_
  refine wc_wi (va_runV (As := [.int a]) (rest := []) ⟨hx, hb, hml, hown, hts⟩ (c_X10_asks l D cA sh ad M _ σ v hMs hMX a) (cwV 1 hts gX10_bursts_X10_asks rfl rfl rfl (by decide +kernel) ⟨Nat.le_of_ble_eq_true rfl, Nat.le_of_ble_eq_true rfl⟩) (wpreV hK hW (C := RX10) (ci := 10) (hMs 60 (by decide) (by decide)) rfl) rfl rfl hl.1 rfl (lv_room (Nat.le_of_ble_eq_true rfl)) dX10_bursts_2 ⟨Nat.le_of_ble_eq_true rfl, Nat.le_of_ble_eq_true rfl⟩) hA hW (fun x2' M2' H locs p2' hW => ?_)
  try dsimp only at p2'
  obtain ⟨pa, oa, ta, hXa, q, c, La⟩ := p2'
  have hRa := hXa.2.1
  refine lv_if_eq (tgt := 29) hx hb dX10_bursts_5 (by decide) (fun c5' => ?_) (fun c5' => ?_)
  · have hG : cuB σ a = false := bI_z.mp (pa.symm.trans c5')
    refine lv_iconst (v := 0) hx hb dX10_bursts_29 (by decide) ?_
    exact wr_wi hx hb hr hlocks hW dX10_bursts_30 (by first | exact ⟨oa, ta, fun z => absurd (hG.symm.trans z) (by decide), fun _ => ⟨hXa, q, c, La.1, by rw [en]; exact bur_eq e25' (e13'.trans hLi.2.1) (e24'.trans (hRa.2.2.2.1 _ hkd).2.2.2.1)⟩⟩ | exact ⟨oa, ta, fun _ => hXa, fun z => absurd (hG.symm.trans z) (by decide)⟩)
  · have hG : cuB σ a = true := bI_t.mp (fun z => c5' (pa.trans z))
    obtain ⟨i, hi, ea, hg, en⟩ := cu_n ok hG
    have hLi := La.2.1 i hi hg
    obtain ⟨ob, hkd, hrk, og⟩ := ok.2.2.2.2.2.2.1 i hi
    refine lv_aload_n hx hb dX10_bursts_8 rfl (lv_at hl 0 rfl) ?_
    refine wgF (t := 81) hx hb fa78 hW (hMs 60 (by decide) (by decide)) rfl dX10_bursts_9 ?_
    refine lv_iload_n hx hb dX10_bursts_12 rfl (lv_at hl 1 rfl) ?_
    refine walI (j := i) hx hb hK hW (hMs 81 (by decide) (by decide)) ea (by omega) (by decide) dX10_bursts_13 (fun x13' e13' => ?_)
    refine lv_aload_n hx hb dX10_bursts_14 rfl (lv_at hl 0 rfl) ?_
    refine wgF (t := 65) hx hb fa22 hW (hMs 60 (by decide) (by decide)) rfl dX10_bursts_15 ?_
    refine lv_aload_n hx hb dX10_bursts_18 rfl (lv_at hl 0 rfl) ?_
    refine wgF (t := 77) hx hb fa66 hW (hMs 60 (by decide) (by decide)) rfl dX10_bursts_19 ?_
    refine lv_iload_n hx hb dX10_bursts_22 rfl (lv_at hl 1 rfl) ?_
    refine walI (j := i) hx hb hK hW (hMs 77 (by decide) (by decide)) ea (by omega) (by decide) dX10_bursts_23 (fun x23' e23' => ?_)
    have n23' : x23' = nI (σ.2 8 i) := (e23'.trans (hRa.2.2.2.2.2.2.2.2.2.2.2 i hi).2.1)
    refine walI (j := (σ.2 8 i)) hx hb hK hW (hMs 65 (by decide) (by decide)) n23' (by omega) (by decide) dX10_bursts_24 (fun x24' e24' => ?_)
    refine lv_iadd hx hb dX10_bursts_25 ?_
    refine lv_topi (fun x25' e25' => ?_)
    refine lv_goto (tgt := 30) hx hb dX10_bursts_26 (by decide) ?_
    exact wr_wi hx hb hr hlocks hW dX10_bursts_30 (by first | exact ⟨oa, ta, fun z => absurd (hG.symm.trans z) (by decide), fun _ => ⟨hXa, q, c, La.1, by rw [en]; exact bur_eq e25' (e13'.trans hLi.2.1) (e24'.trans (hRa.2.2.2.1 _ hkd).2.2.2.1)⟩⟩ | exact ⟨oa, ta, fun _ => hXa, fun z => absurd (hG.symm.trans z) (by decide)⟩)
set_option maxHeartbeats 4000000 in
set_option maxRecDepth 100000 in
theorem c_X10_fires (l : Launch) (D : va_G) (cA : Nat → ClassId) (sh : Nat → Option Sh) (ad : Nat → Nat) (M : MS) (sz : Nat) (σ : AS) (v : VT) (hMs : MSh sh) (hMX : MX σ v M) (a : Int32) : Met l yX10_fires wsX10_fires ({ frames := 5, cells := 0, slots := 0, locals := 118 }) (wPc D cA sh ad M sz [.ref (ad 60), .int a]) (wQi D cA sh ad (fun r M' => oI moS M M' ∧ gI M' 60 28 = nI (thr (cuB σ a) true) ∧ ((cuB σ a) = false → MX σ v M') ∧ ((cuB σ a) = true → MX σ v M' ∧ ∃ q c, Srt σ 40 q c ∧ r = tkI σ (n1 a))) (wA sh ad sz)) 0 0 (wA sh ad sz) := by
  refine Met.ofW (cc := cX10_fires) (maxL := 2) (ret := (some .int)) (by decide) rfl ?_
  intro p e s m args below meth cd0 s₁ B hml hv
  obtain ⟨rfl, hsz, hM, hK⟩ := hv
  have hx := B.exec
  have hb := B.bytes
  have hr := B.returns
  have hts := atoms_spec (ws := wsX10_fires) B.pre
  have hown : s.vm.findClass RX10 = some m.cls := findClass_of_methodNamed B.named
  have hlocks := B.notSynchronized
  subst hsz
  have hA := wA_PA sh ad s.heap
  generalize wA sh ad s.heap.size = A at hA ⊢
  have hW : WS D cA sh ad A s.heap M s.heap [] := ⟨hM, va_S.rf⟩
  have fa78 : FA D s m ([.ref (ad 60), .int a] : List Value).toArray 78 10 23 := FA.mk (C := RX10) (T := TX10) (N := 29) hts (fun _ h => List.mem_cons_of_mem _ (List.mem_append_right _ (h))) hown hK rfl (by decide) (hts (.fieldLink RX10 78 "MortarShowModel" "tick" "[I") (List.mem_of_getElem? (i := 1) rfl))
  have hl := lv_entry ([.ref (ad 60), .int a]) (n := 2) (Nat.le_of_ble_eq_true rfl)
  rw [lg_entry_eq]
  generalize (lg_sl ([.ref (ad 60), .int a]) ++ List.replicate (2 - (lg_sl ([.ref (ad 60), .int a])).length) Slot.unset).toArray = ls at hl ⊢
  have hl : lv_has ls 2 [(0, .ref (ad 60)), (1, .int a)] := hl
  obtain ⟨ok, hR, hV, hT⟩ := hMX
  have hMX : MX σ v M := ⟨ok, hR, hV, hT⟩
  have o1 := ok.1
  refine lv_aload_n hx hb dX10_fires_0 rfl (lv_at hl 0 rfl) ?_
  refine lv_iload_n hx hb dX10_fires_1 rfl (lv_at hl 1 rfl) ?_
  refine wc_wi (va_runV (As := [.int a]) (rest := []) ⟨hx, hb, hml, hown, hts⟩ (c_X10_asks l D cA sh ad M _ σ v hMs hMX a) (cwV 1 hts gX10_fires_X10_asks rfl rfl rfl (by decide +kernel) ⟨Nat.le_of_ble_eq_true rfl, Nat.le_of_ble_eq_true rfl⟩) (wpreV hK hW (C := RX10) (ci := 10) (hMs 60 (by decide) (by decide)) rfl) rfl rfl hl.1 rfl (lv_room (Nat.le_of_ble_eq_true rfl)) dX10_fires_2 ⟨Nat.le_of_ble_eq_true rfl, Nat.le_of_ble_eq_true rfl⟩) hA hW (fun x2' M2' H locs p2' hW => ?_)
  try dsimp only at p2'
  obtain ⟨pa, oa, ta, hXa, q, c, La⟩ := p2'
  have hRa := hXa.2.1
  refine lv_if_eq (tgt := 17) hx hb dX10_fires_5 (by decide) (fun c5' => ?_) (fun c5' => ?_)
  · have hG : cuB σ a = false := bI_z.mp (pa.symm.trans c5')
    refine lv_iconst (v := 0) hx hb dX10_fires_17 (by decide) ?_
    exact wr_wi hx hb hr hlocks hW dX10_fires_18 (by first | exact ⟨oa, ta, fun z => absurd (hG.symm.trans z) (by decide), fun _ => ⟨hXa, q, c, La.1, by rw [en]; exact e13'.trans hLi.2.1⟩⟩ | exact ⟨oa, ta, fun _ => hXa, fun z => absurd (hG.symm.trans z) (by decide)⟩)
  · have hG : cuB σ a = true := bI_t.mp (fun z => c5' (pa.trans z))
    obtain ⟨i, hi, ea, hg, en⟩ := cu_n ok hG
    have hLi := La.2.1 i hi hg
    obtain ⟨ob, hkd, hrk, og⟩ := ok.2.2.2.2.2.2.1 i hi
    refine lv_aload_n hx hb dX10_fires_8 rfl (lv_at hl 0 rfl) ?_
    refine wgF (t := 81) hx hb fa78 hW (hMs 60 (by decide) (by decide)) rfl dX10_fires_9 ?_
    refine lv_iload_n hx hb dX10_fires_12 rfl (lv_at hl 1 rfl) ?_
    refine walI (j := i) hx hb hK hW (hMs 81 (by decide) (by decide)) ea (by omega) (by decide) dX10_fires_13 (fun x13' e13' => ?_)
    refine lv_goto (tgt := 18) hx hb dX10_fires_14 (by decide) ?_
    exact wr_wi hx hb hr hlocks hW dX10_fires_18 (by first | exact ⟨oa, ta, fun z => absurd (hG.symm.trans z) (by decide), fun _ => ⟨hXa, q, c, La.1, by rw [en]; exact e13'.trans hLi.2.1⟩⟩ | exact ⟨oa, ta, fun _ => hXa, fun z => absurd (hG.symm.trans z) (by decide)⟩)
set_option maxHeartbeats 4000000 in
set_option maxRecDepth 100000 in
theorem c_X10_channelOf (l : Launch) (D : va_G) (cA : Nat → ClassId) (sh : Nat → Option Sh) (ad : Nat → Nat) (M : MS) (sz : Nat) (σ : AS) (v : VT) (hMs : MSh sh) (hMX : MX σ v M) (a : Int32) : Met l yX10_channelOf wsX10_channelOf ({ frames := 5, cells := 0, slots := 0, locals := 118 }) (wPc D cA sh ad M sz [.ref (ad 60), .int a]) (wQi D cA sh ad (fun r M' => oI moS M M' ∧ gI M' 60 28 = nI (thr (cuB σ a) true) ∧ ((cuB σ a) = false → MX σ v M') ∧ ((cuB σ a) = true → MX σ v M' ∧ ∃ q c, Srt σ 40 q c ∧ r = chanA σ q c (n1 a))) (wA sh ad sz)) 0 0 (wA sh ad sz) := by
  refine Met.ofW (cc := cX10_channelOf) (maxL := 2) (ret := (some .int)) (by decide) rfl ?_
  intro p e s m args below meth cd0 s₁ B hml hv
  obtain ⟨rfl, hsz, hM, hK⟩ := hv
  have hx := B.exec
  have hb := B.bytes
  have hr := B.returns
  have hts := atoms_spec (ws := wsX10_channelOf) B.pre
  have hown : s.vm.findClass RX10 = some m.cls := findClass_of_methodNamed B.named
  have hlocks := B.notSynchronized
  subst hsz
  have hA := wA_PA sh ad s.heap
  generalize wA sh ad s.heap.size = A at hA ⊢
  have hW : WS D cA sh ad A s.heap M s.heap [] := ⟨hM, va_S.rf⟩
  have fa81 : FA D s m ([.ref (ad 60), .int a] : List Value).toArray 81 10 24 := FA.mk (C := RX10) (T := TX10) (N := 29) hts (fun _ h => List.mem_cons_of_mem _ (List.mem_append_right _ (h))) hown hK rfl (by decide) (hts (.fieldLink RX10 81 "MortarShowModel" "channel" "[I") (List.mem_of_getElem? (i := 1) rfl))
  have hl := lv_entry ([.ref (ad 60), .int a]) (n := 2) (Nat.le_of_ble_eq_true rfl)
  rw [lg_entry_eq]
  generalize (lg_sl ([.ref (ad 60), .int a]) ++ List.replicate (2 - (lg_sl ([.ref (ad 60), .int a])).length) Slot.unset).toArray = ls at hl ⊢
  have hl : lv_has ls 2 [(0, .ref (ad 60)), (1, .int a)] := hl
  obtain ⟨ok, hR, hV, hT⟩ := hMX
  have hMX : MX σ v M := ⟨ok, hR, hV, hT⟩
  have o1 := ok.1
  refine lv_aload_n hx hb dX10_channelOf_0 rfl (lv_at hl 0 rfl) ?_
  refine lv_iload_n hx hb dX10_channelOf_1 rfl (lv_at hl 1 rfl) ?_
  refine wc_wi (va_runV (As := [.int a]) (rest := []) ⟨hx, hb, hml, hown, hts⟩ (c_X10_asks l D cA sh ad M _ σ v hMs hMX a) (cwV 1 hts gX10_channelOf_X10_asks rfl rfl rfl (by decide +kernel) ⟨Nat.le_of_ble_eq_true rfl, Nat.le_of_ble_eq_true rfl⟩) (wpreV hK hW (C := RX10) (ci := 10) (hMs 60 (by decide) (by decide)) rfl) rfl rfl hl.1 rfl (lv_room (Nat.le_of_ble_eq_true rfl)) dX10_channelOf_2 ⟨Nat.le_of_ble_eq_true rfl, Nat.le_of_ble_eq_true rfl⟩) hA hW (fun x2' M2' H locs p2' hW => ?_)
  try dsimp only at p2'
  obtain ⟨pa, oa, ta, hXa, q, c, La⟩ := p2'
  have hRa := hXa.2.1
  refine lv_if_eq (tgt := 17) hx hb dX10_channelOf_5 (by decide) (fun c5' => ?_) (fun c5' => ?_)
  · have hG : cuB σ a = false := bI_z.mp (pa.symm.trans c5')
    refine lv_iconst (v := 0) hx hb dX10_channelOf_17 (by decide) ?_
    exact wr_wi hx hb hr hlocks hW dX10_channelOf_18 (by first | exact ⟨oa, ta, fun z => absurd (hG.symm.trans z) (by decide), fun _ => ⟨hXa, q, c, La.1, by rw [en]; exact e13'.trans hLi.2.2⟩⟩ | exact ⟨oa, ta, fun _ => hXa, fun z => absurd (hG.symm.trans z) (by decide)⟩)
  · have hG : cuB σ a = true := bI_t.mp (fun z => c5' (pa.trans z))
    obtain ⟨i, hi, ea, hg, en⟩ := cu_n ok hG
    have hLi := La.2.1 i hi hg
    obtain ⟨ob, hkd, hrk, og⟩ := ok.2.2.2.2.2.2.1 i hi
    refine lv_aload_n hx hb dX10_channelOf_8 rfl (lv_at hl 0 rfl) ?_
    refine wgF (t := 82) hx hb fa81 hW (hMs 60 (by decide) (by decide)) rfl dX10_channelOf_9 ?_
    refine lv_iload_n hx hb dX10_channelOf_12 rfl (lv_at hl 1 rfl) ?_
    refine walI (j := i) hx hb hK hW (hMs 82 (by decide) (by decide)) ea (by omega) (by decide) dX10_channelOf_13 (fun x13' e13' => ?_)
    refine lv_goto (tgt := 18) hx hb dX10_channelOf_14 (by decide) ?_
    exact wr_wi hx hb hr hlocks hW dX10_channelOf_18 (by first | exact ⟨oa, ta, fun z => absurd (hG.symm.trans z) (by decide), fun _ => ⟨hXa, q, c, La.1, by rw [en]; exact e13'.trans hLi.2.2⟩⟩ | exact ⟨oa, ta, fun _ => hXa, fun z => absurd (hG.symm.trans z) (by decide)⟩)
set_option maxHeartbeats 4000000 in
set_option maxRecDepth 100000 in
theorem c_X10_priceOf (l : Launch) (D : va_G) (cA : Nat → ClassId) (sh : Nat → Option Sh) (ad : Nat → Nat) (M : MS) (sz : Nat) (σ : AS) (v : VT) (hMs : MSh sh) (hMX : MX σ v M) (i : Nat) (he : elg σ i) (ht : gI M 81 i = tkI σ i) (xi : Int32) (ei : xi = nI i) : Met l yX10_priceOf wsX10_priceOf ({ frames := 2, cells := 0, slots := 0, locals := 52 }) (wPc D cA sh ad M sz [.ref (ad 60), .int xi]) (rQl (fun r => r = priA σ v i)) 0 0 nA := by
  refine Met.ofW (cc := cX10_priceOf) (maxL := 5) (ret := (some .long)) (by decide) rfl ?_
  intro p e s m args below meth cd0 s₁ B hml hv
  obtain ⟨rfl, hsz, hM, hK⟩ := hv
  have hx := B.exec
  have hb := B.bytes
  have hr := B.returns
  have hts := atoms_spec (ws := wsX10_priceOf) B.pre
  have hown : s.vm.findClass RX10 = some m.cls := findClass_of_methodNamed B.named
  have hlocks := B.notSynchronized
  subst hsz
  obtain ⟨A, eA⟩ : ∃ A : Nat → Prop, A = nA := ⟨_, rfl⟩
  have hW : WS D cA sh ad A s.heap M s.heap [] := ⟨hM, va_S.rf⟩
  subst eA
  have fa46 : FA D s m ([.ref (ad 60), .int xi] : List Value).toArray 46 10 12 := FA.mk (C := RX10) (T := TX10) (N := 29) hts (fun _ h => List.mem_cons_of_mem _ (List.mem_append_right _ (h))) hown hK rfl (by decide) (hts (.fieldLink RX10 46 "MortarShowModel" "value" "[I") (List.mem_of_getElem? (i := 1) rfl))
  have fa49 : FA D s m ([.ref (ad 60), .int xi] : List Value).toArray 49 10 13 := FA.mk (C := RX10) (T := TX10) (N := 29) hts (fun _ h => List.mem_cons_of_mem _ (List.mem_append_right _ (h))) hown hK rfl (by decide) (hts (.fieldLink RX10 49 "MortarShowModel" "rate" "[I") (List.mem_of_getElem? (i := 3) rfl))
  have fa78 : FA D s m ([.ref (ad 60), .int xi] : List Value).toArray 78 10 23 := FA.mk (C := RX10) (T := TX10) (N := 29) hts (fun _ h => List.mem_cons_of_mem _ (List.mem_append_right _ (h))) hown hK rfl (by decide) (hts (.fieldLink RX10 78 "MortarShowModel" "tick" "[I") (List.mem_of_getElem? (i := 2) rfl))
  have hl := lv_entry ([.ref (ad 60), .int xi]) (n := 5) (Nat.le_of_ble_eq_true rfl)
  rw [lg_entry_eq]
  generalize (lg_sl ([.ref (ad 60), .int xi]) ++ List.replicate (5 - (lg_sl ([.ref (ad 60), .int xi])).length) Slot.unset).toArray = ls at hl ⊢
  have hl : lv_has ls 5 [(0, .ref (ad 60)), (1, .int xi)] := hl
  obtain ⟨ok, hR, hV, hT⟩ := hMX
  have hMX : MX σ v M := ⟨ok, hR, hV, hT⟩
  have o1 := ok.1
  have hi := he.1
  have rt9 := tk_rng ok he
  refine lv_lconst (v := 1) hx hb dX10_priceOf_0 (by decide) ?_
  refine lv_lstore_n (lv' := [(2, .long 1), (0, .ref (ad 60)), (1, .int xi)]) hx hb dX10_priceOf_1 rfl hl (by decide) rfl (fun ls hl => ?_)
  refine lv_iconst (v := 0) hx hb dX10_priceOf_2 (by decide) ?_
  refine lv_istore (lv' := [(4, .int 0), (2, .long 1), (0, .ref (ad 60)), (1, .int xi)]) hx hb dX10_priceOf_3 hl (by decide) rfl (fun ls hl => ?_)
  have L5 : ∀ (fu : Nat) (k : Nat) (xk : Int32) (sm : Int64) (H : Heap) (locs : List Loc), 64 - k < fu → (k ≤ 64) → (xk = nI k) → (sm = valV v.1 (zonB σ i) k + 1) → WS D cA sh ad nA s.heap M H locs → ∀ ls, lv_has ls 5 [(4, .int xk), (2, .long sm), (0, .ref (ad 60)), (1, .int xi)] → W p l e (headSpec wsX10_priceOf { frames := 2, cells := 0, slots := 0, locals := 52 }).room s m ([.ref (ad 60), .int xi] : List Value).toArray below meth cd0 H locs 0 0 (MQ below (rQl (fun r => r = priA σ v i)) ([.ref (ad 60), .int xi] : List Value).toArray s 0 0 nA) (F0 m 5 ls []) := by
    intro fu
    induction fu with
    | zero =>
      intro k xk sm H locs hn hk ek es hW ls hl
      exact absurd hn (Nat.not_lt_zero _)
    | succ fu ih5 =>
      intro k xk sm H locs hn hk ek es hW ls hl
      refine lv_iload hx hb dX10_priceOf_5 (lv_at hl 0 rfl) ?_
      refine lv_bipush (v := 64) hx hb dX10_priceOf_7 (by decide) ?_
      refine lv_icmp_ge (tgt := 43) hx hb dX10_priceOf_9 (by decide) (fun c9' => ?_) (fun c9' => ?_)
      · have k9' : 64 ≤ k := kc_ge ek (nlit 64) (by omega) (by omega) c9'
        refine lv_aload_n hx hb dX10_priceOf_43 rfl (lv_at hl 2 rfl) ?_
        refine wgF (t := 81) hx hb fa78 hW (hMs 60 (by decide) (by decide)) rfl dX10_priceOf_44 ?_
        refine lv_iload_n hx hb dX10_priceOf_47 rfl (lv_at hl 3 rfl) ?_
        refine walI (j := i) hx hb hK hW (hMs 81 (by decide) (by decide)) ei (by omega) (by decide) dX10_priceOf_48 (fun x48' e48' => ?_)
        refine lv_bipush (v := 100) hx hb dX10_priceOf_49 (by decide) ?_
        refine lv_idiv hx hb dX10_priceOf_51 (by decide) ?_
        refine lv_topi (fun x51' e51' => ?_)
        refine lv_istore (lv' := [(4, .int x51'), (2, .long sm), (0, .ref (ad 60)), (1, .int xi)]) hx hb dX10_priceOf_52 hl (by decide) rfl (fun ls hl => ?_)
        refine lv_lload_n hx hb dX10_priceOf_54 rfl (lv_at hl 1 rfl) ?_
        refine lv_aload_n hx hb dX10_priceOf_55 rfl (lv_at hl 2 rfl) ?_
        refine wgF (t := 74) hx hb fa49 hW (hMs 60 (by decide) (by decide)) rfl dX10_priceOf_56 ?_
        have J73 : ∀ (h : Int32) (H : Heap) (locs : List Loc), (h = nI (hrN σ i)) → WS D cA sh ad nA s.heap M H locs → ∀ ls, lv_has ls 5 [(4, .int x51'), (2, .long sm), (0, .ref (ad 60)), (1, .int xi)] → W p l e (headSpec wsX10_priceOf { frames := 2, cells := 0, slots := 0, locals := 52 }).room s m ([.ref (ad 60), .int xi] : List Value).toArray below meth cd0 H locs 0 0 (MQ below (rQl (fun r => r = priA σ v i)) ([.ref (ad 60), .int xi] : List Value).toArray s 0 0 nA) (F0 m 73 ls [.int h, .ref (ad 74), .long sm]) := by
          intro h H locs hh hW ls hl
          have h99 : hrN σ i ≤ 9 := Nat.min_le_left _ _
          refine walI (j := (hrN σ i)) hx hb hK hW (hMs 74 (by decide) (by decide)) hh (by omega) (by decide) dX10_priceOf_73 (fun x73' e73' => ?_)
          refine lv_i2l hx hb dX10_priceOf_74 rfl ?_
          refine lv_topl (fun x74' e74' => ?_)
          refine lv_lmul hx hb dX10_priceOf_75 ?_
          refine lv_topl (fun x75' e75' => ?_)
          exact wr_rl hx hb hr hlocks hW.2 dX10_priceOf_76 (by rw [e75', e74', e73', hT _ (by omega), es, show k = 64 by omega]; rfl)
        refine lv_iload hx hb dX10_priceOf_59 (lv_at hl 0 rfl) ?_
        refine lv_bipush (v := 10) hx hb dX10_priceOf_61 (by decide) ?_
        refine lv_icmp_ge (tgt := 71) hx hb dX10_priceOf_63 (by decide) (fun c63' => ?_) (fun c63' => ?_)
        · refine lv_bipush (v := 9) hx hb dX10_priceOf_71 (by decide) ?_
          exact J73 9 _ _ (by rw [e51', e48', ht] at c63'; first | (rw [e51', e48', ht]; exact hr_m1 rt9 c63') | exact hr_m2 rt9 c63') hW ls (lv_sub hl [0, 1, 2, 3] rfl)
        · refine lv_iload hx hb dX10_priceOf_66 (lv_at hl 0 rfl) ?_
          refine lv_goto (tgt := 73) hx hb dX10_priceOf_68 (by decide) ?_
          exact J73 x51' _ _ (by rw [e51', e48', ht] at c63'; first | (rw [e51', e48', ht]; exact hr_m1 rt9 c63') | exact hr_m2 rt9 c63') hW ls (lv_sub hl [0, 1, 2, 3] rfl)
      · have k9' : ¬ 64 ≤ k := kc_gen ek (nlit 64) (by omega) (by omega) c9'
        refine lv_lload_n hx hb dX10_priceOf_12 rfl (lv_at hl 1 rfl) ?_
        have J35 : ∀ (y : Int64) (H : Heap) (locs : List Loc), (y = if zonB σ i k = true then (v.1 k).toInt64 else 0) → WS D cA sh ad nA s.heap M H locs → ∀ ls, lv_has ls 5 [(4, .int xk), (2, .long sm), (0, .ref (ad 60)), (1, .int xi)] → W p l e (headSpec wsX10_priceOf { frames := 2, cells := 0, slots := 0, locals := 52 }).room s m ([.ref (ad 60), .int xi] : List Value).toArray below meth cd0 H locs 0 0 (MQ below (rQl (fun r => r = priA σ v i)) ([.ref (ad 60), .int xi] : List Value).toArray s 0 0 nA) (F0 m 35 ls [.long y, .long sm]) := by
          intro y H locs hy hW ls hl
          refine lv_ladd hx hb dX10_priceOf_35 ?_
          refine lv_topl (fun x35' e35' => ?_)
          refine lv_lstore_n (lv' := [(2, .long x35'), (4, .int xk), (0, .ref (ad 60)), (1, .int xi)]) hx hb dX10_priceOf_36 rfl hl (by decide) rfl (fun ls hl => ?_)
          obtain ⟨x37', e37'⟩ : ∃ y : Int32, y = xk + 1 := ⟨_, rfl⟩
          refine lv_iinc (v := x37') (lv' := [(4, .int x37'), (2, .long x35'), (0, .ref (ad 60)), (1, .int xi)]) hx hb dX10_priceOf_37 hl (k := 1) rfl (by rw [e37']; rfl) (by decide) rfl (fun ls hl => ?_)
          refine lv_goto (tgt := 5) hx hb dX10_priceOf_40 (by decide) ?_
          exact ih5 (k + 1) x37' x35' _ _ (by omega) (by omega) (by rw [e37', ek, nlit 1, nI_add]) (by rw [e35', hy, es]; exact val_s _ _ _) hW ls (lv_sub hl [0, 1, 2, 3] rfl)
        refine lv_aload_n hx hb dX10_priceOf_13 rfl (lv_at hl 2 rfl) ?_
        refine lv_iload_n hx hb dX10_priceOf_14 rfl (lv_at hl 3 rfl) ?_
        refine lv_iload hx hb dX10_priceOf_15 (lv_at hl 0 rfl) ?_
        refine wc_ri (va_runV (As := [.int xi, .int xk]) (rest := [.long sm]) ⟨hx, hb, hml, hown, hts⟩ (c_X10_isInDanger l D cA sh ad M _ σ ok hMs hR i hi xi ei k (by omega) xk ek) (cwV 2 hts gX10_priceOf_X10_isInDanger rfl rfl rfl (by decide +kernel) ⟨Nat.le_of_ble_eq_true rfl, Nat.le_of_ble_eq_true rfl⟩) (wpreV hK hW (C := RX10) (ci := 10) (hMs 60 (by decide) (by decide)) rfl) rfl rfl hl.1 rfl (lv_room (Nat.le_of_ble_eq_true rfl)) dX10_priceOf_17 ⟨Nat.le_of_ble_eq_true rfl, Nat.le_of_ble_eq_true rfl⟩) hW (fun x17' H locs p17' hW => ?_)
        try dsimp only at p17'
        refine lv_if_eq (tgt := 34) hx hb dX10_priceOf_20 (by decide) (fun c20' => ?_) (fun c20' => ?_)
        · refine lv_lconst (v := 0) hx hb dX10_priceOf_34 (by decide) ?_
          exact J35 0 _ _ (by rw [p17'] at c20'; first | (rw [bI_z.mp c20']; rfl) | (rw [bI_t.mp c20', if_pos rfl, e30', e29', hV k (by omega)])) hW ls (lv_sub hl [0, 1, 2, 3] rfl)
        · refine lv_aload_n hx hb dX10_priceOf_23 rfl (lv_at hl 2 rfl) ?_
          refine wgF (t := 73) hx hb fa46 hW (hMs 60 (by decide) (by decide)) rfl dX10_priceOf_24 ?_
          refine lv_iload hx hb dX10_priceOf_27 (lv_at hl 0 rfl) ?_
          refine walI (j := k) hx hb hK hW (hMs 73 (by decide) (by decide)) ek (by omega) (by decide) dX10_priceOf_29 (fun x29' e29' => ?_)
          refine lv_i2l hx hb dX10_priceOf_30 rfl ?_
          refine lv_topl (fun x30' e30' => ?_)
          refine lv_goto (tgt := 35) hx hb dX10_priceOf_31 (by decide) ?_
          exact J35 x30' _ _ (by rw [p17'] at c20'; first | (rw [bI_z.mp c20']; rfl) | (rw [bI_t.mp c20', if_pos rfl, e30', e29', hV k (by omega)])) hW ls (lv_sub hl [0, 1, 2, 3] rfl)
  exact L5 (_ + 1) 0 0 1 _ _ (Nat.lt_succ_self _) (Nat.zero_le _) rfl rfl hW ls (lv_sub hl [0, 1, 2, 3] rfl)
set_option maxHeartbeats 4000000 in
set_option maxRecDepth 100000 in
theorem c_X10_price (l : Launch) (D : va_G) (cA : Nat → ClassId) (sh : Nat → Option Sh) (ad : Nat → Nat) (M : MS) (sz : Nat) (σ : AS) (v : VT) (hMs : MSh sh) (hMX : MX σ v M) (a : Int32) : Met l yX10_price wsX10_price ({ frames := 5, cells := 0, slots := 0, locals := 118 }) (wPc D cA sh ad M sz [.ref (ad 60), .int a]) (wQi D cA sh ad (fun r M' => oI moS M M' ∧ gI M' 60 28 = nI (thr (cuB σ a) true) ∧ ((cuB σ a) = false → MX σ v M') ∧ ((cuB σ a) = true → MX σ v M' ∧ ∃ q c, Srt σ 40 q c ∧ r = prA σ v q c (n1 a))) (wA sh ad sz)) 0 0 (wA sh ad sz) := by
  refine Met.ofW (cc := cX10_price) (maxL := 4) (ret := (some .int)) (by decide) rfl ?_
  intro p e s m args below meth cd0 s₁ B hml hv
  obtain ⟨rfl, hsz, hM, hK⟩ := hv
  have hx := B.exec
  have hb := B.bytes
  have hr := B.returns
  have hts := atoms_spec (ws := wsX10_price) B.pre
  have hown : s.vm.findClass RX10 = some m.cls := findClass_of_methodNamed B.named
  have hlocks := B.notSynchronized
  subst hsz
  have hA := wA_PA sh ad s.heap
  generalize wA sh ad s.heap.size = A at hA ⊢
  have hW : WS D cA sh ad A s.heap M s.heap [] := ⟨hM, va_S.rf⟩
  have fa75 : FA D s m ([.ref (ad 60), .int a] : List Value).toArray 75 10 22 := FA.mk (C := RX10) (T := TX10) (N := 29) hts (fun _ h => List.mem_cons_of_mem _ (List.mem_append_right _ (h))) hown hK rfl (by decide) (hts (.fieldLink RX10 75 "MortarShowModel" "fate" "[I") (List.mem_of_getElem? (i := 1) rfl))
  have hl := lv_entry ([.ref (ad 60), .int a]) (n := 4) (Nat.le_of_ble_eq_true rfl)
  rw [lg_entry_eq]
  generalize (lg_sl ([.ref (ad 60), .int a]) ++ List.replicate (4 - (lg_sl ([.ref (ad 60), .int a])).length) Slot.unset).toArray = ls at hl ⊢
  have hl : lv_has ls 4 [(0, .ref (ad 60)), (1, .int a)] := hl
  obtain ⟨ok, hR, hV, hT⟩ := hMX
  have hMX : MX σ v M := ⟨ok, hR, hV, hT⟩
  have o1 := ok.1
  refine lv_aload_n hx hb dX10_price_0 rfl (lv_at hl 0 rfl) ?_
  refine lv_iload_n hx hb dX10_price_1 rfl (lv_at hl 1 rfl) ?_
  refine wc_wi (va_runV (As := [.int a]) (rest := []) ⟨hx, hb, hml, hown, hts⟩ (c_X10_asks l D cA sh ad M _ σ v hMs hMX a) (cwV 1 hts gX10_price_X10_asks rfl rfl rfl (by decide +kernel) ⟨Nat.le_of_ble_eq_true rfl, Nat.le_of_ble_eq_true rfl⟩) (wpreV hK hW (C := RX10) (ci := 10) (hMs 60 (by decide) (by decide)) rfl) rfl rfl hl.1 rfl (lv_room (Nat.le_of_ble_eq_true rfl)) dX10_price_2 ⟨Nat.le_of_ble_eq_true rfl, Nat.le_of_ble_eq_true rfl⟩) hA hW (fun x2' M2' H locs p2' hW => ?_)
  try dsimp only at p2'
  obtain ⟨pa, oa, ta, hXa, q, c, La⟩ := p2'
  have hRa := hXa.2.1
  refine lv_if_ne (tgt := 10) hx hb dX10_price_5 (by decide) (fun c5' => ?_) (fun c5' => ?_)
  · have hG : cuB σ a = true := bI_t.mp (fun z => c5' (pa.trans z))
    obtain ⟨i, hi, ea, hg, en⟩ := cu_n ok hG
    have hLi := La.2.1 i hi hg
    obtain ⟨ob, hkd, hrk, og⟩ := ok.2.2.2.2.2.2.1 i hi
    refine lv_aload_n hx hb dX10_price_10 rfl (lv_at hl 0 rfl) ?_
    refine wgF (t := 80) hx hb fa75 hW (hMs 60 (by decide) (by decide)) rfl dX10_price_11 ?_
    refine lv_iload_n hx hb dX10_price_14 rfl (lv_at hl 1 rfl) ?_
    refine walI (j := i) hx hb hK hW (hMs 80 (by decide) (by decide)) ea (by omega) (by decide) dX10_price_15 (fun x15' e15' => ?_)
    refine lv_if_eq (tgt := 21) hx hb dX10_price_16 (by decide) (fun c16' => ?_) (fun c16' => ?_)
    · have hf0 : nI (fateA σ q c i) = 0 := hLi.1.symm.trans (e15'.symm.trans c16')
      have he := fate_0 La.1 hf0
      refine lv_aload_n hx hb dX10_price_21 rfl (lv_at hl 0 rfl) ?_
      refine lv_iload_n hx hb dX10_price_22 rfl (lv_at hl 1 rfl) ?_
      refine wc_rl (va_runV (As := [.int a]) (rest := []) ⟨hx, hb, hml, hown, hts⟩ (c_X10_priceOf l D cA sh ad M2' _ σ v hMs hXa i he hLi.2.1 a ea) (cwV 1 hts gX10_price_X10_priceOf rfl rfl rfl (by decide +kernel) ⟨Nat.le_of_ble_eq_true rfl, Nat.le_of_ble_eq_true rfl⟩) (wpreV hK hW (C := RX10) (ci := 10) (hMs 60 (by decide) (by decide)) rfl) rfl rfl hl.1 rfl (lv_room (Nat.le_of_ble_eq_true rfl)) dX10_price_23 ⟨Nat.le_of_ble_eq_true rfl, Nat.le_of_ble_eq_true rfl⟩) hW (fun x23' H locs p23' hW => ?_)
      try dsimp only at p23'
      refine lv_lstore_n (lv' := [(2, .long x23'), (0, .ref (ad 60)), (1, .int a)]) hx hb dX10_price_26 rfl hl (by decide) rfl (fun ls hl => ?_)
      refine lv_lload_n hx hb dX10_price_27 rfl (lv_at hl 0 rfl) ?_
      refine lv_ldc2 (v := 2147483647) hx hb hown (hts (.constantLong RX10 183 (2147483647)) (List.mem_of_getElem? (i := 2) rfl)) dX10_price_28 ?_
      refine W.lcmp hx hb dX10_price_31 ?_
      refine lv_topi (fun x31' e31' => ?_)
      refine lv_if_le (tgt := 40) hx hb dX10_price_32 (by decide) (fun c32' => ?_) (fun c32' => ?_)
      · refine lv_lload_n hx hb dX10_price_40 rfl (lv_at hl 0 rfl) ?_
        refine lv_l2i hx hb dX10_price_41 rfl ?_
        refine lv_topi (fun x41' e41' => ?_)
        exact wr_wi hx hb hr hlocks hW dX10_price_42 ⟨oa, ta, fun z => absurd (hG.symm.trans z) (by decide), fun _ => ⟨hXa, q, c, La.1, by rw [en]; unfold prA refI; rw [if_pos hf0, ← p23']; rw [e31', lgcmp_le] at c32'; first | (rw [if_neg c32']; exact e41') | (rw [if_pos (Decidable.not_not.mp c32')])⟩⟩
      · refine lv_bipush (v := (-2)) hx hb dX10_price_35 (by decide) ?_
        refine lv_goto (tgt := 42) hx hb dX10_price_37 (by decide) ?_
        exact wr_wi hx hb hr hlocks hW dX10_price_42 ⟨oa, ta, fun z => absurd (hG.symm.trans z) (by decide), fun _ => ⟨hXa, q, c, La.1, by rw [en]; unfold prA refI; rw [if_pos hf0, ← p23']; rw [e31', lgcmp_le] at c32'; first | (rw [if_neg c32']; exact e41') | (rw [if_pos (Decidable.not_not.mp c32')])⟩⟩
    · refine lv_iconst (v := (-1)) hx hb dX10_price_19 (by decide) ?_
      exact wr_wi hx hb hr hlocks hW dX10_price_20 ⟨oa, ta, fun z => absurd (hG.symm.trans z) (by decide), fun _ => ⟨hXa, q, c, La.1, by rw [en]; unfold prA; rw [if_neg (fun z => c16' ((e15'.trans hLi.1).trans z))]⟩⟩
  · have hG : cuB σ a = false := bI_z.mp (pa.symm.trans c5')
    refine lv_iconst (v := 0) hx hb dX10_price_8 (by decide) ?_
    exact wr_wi hx hb hr hlocks hW dX10_price_9 ⟨oa, ta, fun _ => hXa, fun z => absurd (hG.symm.trans z) (by decide)⟩
set_option maxHeartbeats 4000000 in
set_option maxRecDepth 100000 in
theorem c_X10_total (l : Launch) (D : va_G) (cA : Nat → ClassId) (sh : Nat → Option Sh) (ad : Nat → Nat) (M : MS) (sz : Nat) (σ : AS) (v : VT) (hMs : MSh sh) (hMX : MX σ v M) : Met l yX10_total wsX10_total ({ frames := 4, cells := 0, slots := 0, locals := 97 }) (wPc D cA sh ad M sz [.ref (ad 60)]) (wQi D cA sh ad (fun r M' => oI moS M M' ∧ gI M' 60 28 = nI (thr (true) true) ∧ ((true) = false → MX σ v M') ∧ ((true) = true → MX σ v M' ∧ ∃ q c, Srt σ 40 q c ∧ r = refI (totA σ v q c (lit σ q c)))) (wA sh ad sz)) 0 0 (wA sh ad sz) := by
  refine Met.ofW (cc := cX10_total) (maxL := 4) (ret := (some .int)) (by decide) rfl ?_
  intro p e s m args below meth cd0 s₁ B hml hv
  obtain ⟨rfl, hsz, hM, hK⟩ := hv
  have hx := B.exec
  have hb := B.bytes
  have hr := B.returns
  have hts := atoms_spec (ws := wsX10_total) B.pre
  have hown : s.vm.findClass RX10 = some m.cls := findClass_of_methodNamed B.named
  have hlocks := B.notSynchronized
  subst hsz
  have hA := wA_PA sh ad s.heap
  generalize wA sh ad s.heap.size = A at hA ⊢
  have hW : WS D cA sh ad A s.heap M s.heap [] := ⟨hM, va_S.rf⟩
  have fa84 : FA D s m ([.ref (ad 60)] : List Value).toArray 84 10 25 := FA.mk (C := RX10) (T := TX10) (N := 29) hts (fun _ h => List.mem_cons_of_mem _ (List.mem_append_right _ (h))) hown hK rfl (by decide) (hts (.fieldLink RX10 84 "MortarShowModel" "order" "[I") (List.mem_of_getElem? (i := 2) rfl))
  have fa147 : FA D s m ([.ref (ad 60)] : List Value).toArray 147 10 27 := FA.mk (C := RX10) (T := TX10) (N := 29) hts (fun _ h => List.mem_cons_of_mem _ (List.mem_append_right _ (h))) hown hK rfl (by decide) (hts (.fieldLink RX10 147 "MortarShowModel" "fired" "I") (List.mem_of_getElem? (i := 1) rfl))
  have hl := lv_entry ([.ref (ad 60)]) (n := 4) (Nat.le_of_ble_eq_true rfl)
  rw [lg_entry_eq]
  generalize (lg_sl ([.ref (ad 60)]) ++ List.replicate (4 - (lg_sl ([.ref (ad 60)])).length) Slot.unset).toArray = ls at hl ⊢
  have hl : lv_has ls 4 [(0, .ref (ad 60))] := hl
  obtain ⟨ok, hR, hV, hT⟩ := hMX
  have hMX : MX σ v M := ⟨ok, hR, hV, hT⟩
  have o1 := ok.1
  refine lv_aload_n hx hb dX10_total_0 rfl (lv_at hl 0 rfl) ?_
  refine wc_wv (va_runV (As := []) (rest := []) ⟨hx, hb, hml, hown, hts⟩ (c_X10_lays l D cA sh ad M _ σ ok hMs hR) (cwV 0 hts gX10_total_X10_lays rfl rfl rfl (by decide +kernel) ⟨Nat.le_of_ble_eq_true rfl, Nat.le_of_ble_eq_true rfl⟩) (wpreV hK hW (C := RX10) (ci := 10) (hMs 60 (by decide) (by decide)) rfl) rfl rfl hl.1 rfl (lv_room (Nat.le_of_ble_eq_true rfl)) dX10_total_1 ⟨Nat.le_of_ble_eq_true rfl, Nat.le_of_ble_eq_true rfl⟩) hA hW (fun M1' H locs p1' hW => ?_)
  try dsimp only at p1'
  obtain ⟨o1x, q, c, La⟩ := p1'
  have hXa : MX σ v M1' := hMX.oI o1x (fun p k z => by unfold laS at z; omega)
  have hRa := hXa.2.1
  have hlc := lit_le σ q c
  have hc40 := La.1.2.2.2
  refine lv_lconst (v := 0) hx hb dX10_total_4 (by decide) ?_
  refine lv_lstore_n (lv' := [(1, .long 0), (0, .ref (ad 60))]) hx hb dX10_total_5 rfl hl (by decide) rfl (fun ls hl => ?_)
  refine lv_iconst (v := 0) hx hb dX10_total_6 (by decide) ?_
  refine lv_istore_n (lv' := [(3, .int 0), (1, .long 0), (0, .ref (ad 60))]) hx hb dX10_total_7 rfl hl (by decide) rfl (fun ls hl => ?_)
  have L8 : ∀ (fu : Nat) (k : Nat) (xk : Int32) (sm : Int64) (H : Heap) (locs : List Loc), lit σ q c - k < fu → (k ≤ lit σ q c) → (xk = nI k) → (sm = totA σ v q c k) → WS D cA sh ad A s.heap M1' H locs → ∀ ls, lv_has ls 4 [(3, .int xk), (1, .long sm), (0, .ref (ad 60))] → W p l e (headSpec wsX10_total { frames := 4, cells := 0, slots := 0, locals := 97 }).room s m ([.ref (ad 60)] : List Value).toArray below meth cd0 H locs 0 0 (MQ below (wQi D cA sh ad (fun r M' => oI moS M M' ∧ gI M' 60 28 = nI (thr (true) true) ∧ ((true) = false → MX σ v M') ∧ ((true) = true → MX σ v M' ∧ ∃ q c, Srt σ 40 q c ∧ r = refI (totA σ v q c (lit σ q c)))) A) ([.ref (ad 60)] : List Value).toArray s 0 0 A) (F0 m 8 ls []) := by
    intro fu
    induction fu with
    | zero =>
      intro k xk sm H locs hn hk ek es hW ls hl
      exact absurd hn (Nat.not_lt_zero _)
    | succ fu ih8 =>
      intro k xk sm H locs hn hk ek es hW ls hl
      refine lv_iload_n hx hb dX10_total_8 rfl (lv_at hl 0 rfl) ?_
      refine lv_aload_n hx hb dX10_total_9 rfl (lv_at hl 2 rfl) ?_
      refine wgI hx hb fa147 hW (hMs 60 (by decide) (by decide)) rfl dX10_total_10 (fun x10' e10' => ?_)
      have n10' : x10' = nI (lit σ q c) := (e10'.trans La.2.2.2.1)
      refine lv_icmp_ge (tgt := 35) hx hb dX10_total_13 (by decide) (fun c13' => ?_) (fun c13' => ?_)
      · have k13' : (lit σ q c) ≤ k := kc_ge ek n10' (by omega) (by omega) c13'
        refine lv_aload_n hx hb dX10_total_35 rfl (lv_at hl 2 rfl) ?_
        have J51 : ∀ (y : Int32) (H : Heap) (locs : List Loc), (y = refI sm) → WS D cA sh ad A s.heap M1' H locs → ∀ ls, lv_has ls 4 [(3, .int xk), (1, .long sm), (0, .ref (ad 60))] → W p l e (headSpec wsX10_total { frames := 4, cells := 0, slots := 0, locals := 97 }).room s m ([.ref (ad 60)] : List Value).toArray below meth cd0 H locs 0 0 (MQ below (wQi D cA sh ad (fun r M' => oI moS M M' ∧ gI M' 60 28 = nI (thr (true) true) ∧ ((true) = false → MX σ v M') ∧ ((true) = true → MX σ v M' ∧ ∃ q c, Srt σ 40 q c ∧ r = refI (totA σ v q c (lit σ q c)))) A) ([.ref (ad 60)] : List Value).toArray s 0 0 A) (F0 m 51 ls [.int y, .ref (ad 60)]) := by
          intro y H locs hy hW ls hl
          refine wc_wi (va_runV (As := [.int y]) (rest := []) ⟨hx, hb, hml, hown, hts⟩ (c_X10_told l D cA sh ad M1' _ hMs y) (cwV 1 hts gX10_total_X10_told rfl rfl rfl (by decide +kernel) ⟨Nat.le_of_ble_eq_true rfl, Nat.le_of_ble_eq_true rfl⟩) (wpreV hK hW (C := RX10) (ci := 10) (hMs 60 (by decide) (by decide)) rfl) rfl rfl hl.1 rfl (lv_room (Nat.le_of_ble_eq_true rfl)) dX10_total_51 ⟨Nat.le_of_ble_eq_true rfl, Nat.le_of_ble_eq_true rfl⟩) hA hW (fun x51' M51' H locs p51' hW => ?_)
          try dsimp only at p51'
          exact wr_wi hx hb hr hlocks hW dX10_total_54 ⟨(laS_mo o1x).trans (go_mo p51'.2.2), p51'.2.1, fun z => (by cases z), fun _ => ⟨hXa.oI p51'.2.2 (fun p k z => by omega), q, c, La.1, by rw [p51'.1, hy, es, show k = lit σ q c by omega]⟩⟩
        refine lv_lload_n hx hb dX10_total_36 rfl (lv_at hl 1 rfl) ?_
        refine lv_ldc2 (v := 2147483647) hx hb hown (hts (.constantLong RX10 183 (2147483647)) (List.mem_of_getElem? (i := 3) rfl)) dX10_total_37 ?_
        refine W.lcmp hx hb dX10_total_40 ?_
        refine lv_topi (fun x40' e40' => ?_)
        refine lv_if_le (tgt := 49) hx hb dX10_total_41 (by decide) (fun c41' => ?_) (fun c41' => ?_)
        · refine lv_lload_n hx hb dX10_total_49 rfl (lv_at hl 1 rfl) ?_
          refine lv_l2i hx hb dX10_total_50 rfl ?_
          refine lv_topi (fun x50' e50' => ?_)
          exact J51 x50' _ _ (by unfold refI; rw [e40', lgcmp_le] at c41'; first | (rw [if_neg c41']; exact e50') | (rw [if_pos (Decidable.not_not.mp c41')])) hW ls (lv_sub hl [0, 1, 2] rfl)
        · refine lv_bipush (v := (-2)) hx hb dX10_total_44 (by decide) ?_
          refine lv_goto (tgt := 51) hx hb dX10_total_46 (by decide) ?_
          exact J51 (-2) _ _ (by unfold refI; rw [e40', lgcmp_le] at c41'; first | (rw [if_neg c41']; exact e50') | (rw [if_pos (Decidable.not_not.mp c41')])) hW ls (lv_sub hl [0, 1, 2] rfl)
      · have k13' : ¬ (lit σ q c) ≤ k := kc_gen ek n10' (by omega) (by omega) c13'
        have hk9 : k < lit σ q c := by omega
        obtain ⟨j, hj, e1', e2', e3'⟩ := firA_at La.1 hk9
        have he : elg σ (firA σ q c k) := by rw [e3']; exact (La.1.1 j hj).2
        refine lv_lload_n hx hb dX10_total_16 rfl (lv_at hl 1 rfl) ?_
        refine lv_aload_n hx hb dX10_total_17 rfl (lv_at hl 2 rfl) ?_
        refine lv_aload_n hx hb dX10_total_18 rfl (lv_at hl 2 rfl) ?_
        refine wgF (t := 83) hx hb fa84 hW (hMs 60 (by decide) (by decide)) rfl dX10_total_19 ?_
        refine lv_iload_n hx hb dX10_total_22 rfl (lv_at hl 0 rfl) ?_
        refine walI (j := k) hx hb hK hW (hMs 83 (by decide) (by decide)) ek (by omega) (by decide) dX10_total_23 (fun x23' e23' => ?_)
        have n23' : x23' = nI (firA σ q c k) := (e23'.trans (La.2.2.2.2 k (by omega)))
        refine wc_rl (va_runV (As := [.int x23']) (rest := [.long sm]) ⟨hx, hb, hml, hown, hts⟩ (c_X10_priceOf l D cA sh ad M1' _ σ v hMs hXa (firA σ q c k) he (La.2.1 _ he.1 he.2.1).2.1 x23' n23') (cwV 1 hts gX10_total_X10_priceOf rfl rfl rfl (by decide +kernel) ⟨Nat.le_of_ble_eq_true rfl, Nat.le_of_ble_eq_true rfl⟩) (wpreV hK hW (C := RX10) (ci := 10) (hMs 60 (by decide) (by decide)) rfl) rfl rfl hl.1 rfl (lv_room (Nat.le_of_ble_eq_true rfl)) dX10_total_24 ⟨Nat.le_of_ble_eq_true rfl, Nat.le_of_ble_eq_true rfl⟩) hW (fun x24' H locs p24' hW => ?_)
        try dsimp only at p24'
        refine lv_ladd hx hb dX10_total_27 ?_
        refine lv_topl (fun x27' e27' => ?_)
        refine lv_lstore_n (lv' := [(1, .long x27'), (3, .int xk), (0, .ref (ad 60))]) hx hb dX10_total_28 rfl hl (by decide) rfl (fun ls hl => ?_)
        obtain ⟨x29', e29'⟩ : ∃ y : Int32, y = xk + 1 := ⟨_, rfl⟩
        refine lv_iinc (v := x29') (lv' := [(3, .int x29'), (1, .long x27'), (0, .ref (ad 60))]) hx hb dX10_total_29 hl (k := 1) rfl (by rw [e29']; rfl) (by decide) rfl (fun ls hl => ?_)
        refine lv_goto (tgt := 8) hx hb dX10_total_32 (by decide) ?_
        exact ih8 (k + 1) x29' x27' _ _ (by omega) (by omega) (by rw [e29', ek, nlit 1, nI_add]) (by rw [e27', p24', es]; rfl) hW ls (lv_sub hl [0, 1, 2] rfl)
  exact L8 (_ + 1) 0 0 0 _ _ (Nat.lt_succ_self _) (Nat.zero_le _) rfl rfl hW ls (lv_sub hl [0, 1, 2] rfl)
set_option maxHeartbeats 4000000 in
set_option maxRecDepth 100000 in
theorem c_X10_cues (l : Launch) (D : va_G) (cA : Nat → ClassId) (sh : Nat → Option Sh) (ad : Nat → Nat) (M : MS) (sz : Nat) (σ : AS) (v : VT) (hMs : MSh sh) (hMX : MX σ v M) : Met l yX10_cues wsX10_cues ({ frames := 1, cells := 0, slots := 0, locals := 22 }) (wPc D cA sh ad M sz [.ref (ad 60)]) (wQi D cA sh ad (fun r M' => oI moS M M' ∧ gI M' 60 28 = nI (thr (true) true) ∧ ((true) = false → MX σ v M') ∧ ((true) = true → MX σ v M' ∧ r = nI (ctN (pres σ) 40))) (wA sh ad sz)) 0 0 (wA sh ad sz) := by
  refine Met.ofW (cc := cX10_cues) (maxL := 1) (ret := (some .int)) (by decide) rfl ?_
  intro p e s m args below meth cd0 s₁ B hml hv
  obtain ⟨rfl, hsz, hM, hK⟩ := hv
  have hx := B.exec
  have hb := B.bytes
  have hr := B.returns
  have hts := atoms_spec (ws := wsX10_cues) B.pre
  have hown : s.vm.findClass RX10 = some m.cls := findClass_of_methodNamed B.named
  have hlocks := B.notSynchronized
  subst hsz
  have hA := wA_PA sh ad s.heap
  generalize wA sh ad s.heap.size = A at hA ⊢
  have hW : WS D cA sh ad A s.heap M s.heap [] := ⟨hM, va_S.rf⟩
  have hl := lv_entry ([.ref (ad 60)]) (n := 1) (Nat.le_of_ble_eq_true rfl)
  rw [lg_entry_eq]
  generalize (lg_sl ([.ref (ad 60)]) ++ List.replicate (1 - (lg_sl ([.ref (ad 60)])).length) Slot.unset).toArray = ls at hl ⊢
  have hl : lv_has ls 1 [(0, .ref (ad 60))] := hl
  obtain ⟨ok, hR, hV, hT⟩ := hMX
  have hMX : MX σ v M := ⟨ok, hR, hV, hT⟩
  have o1 := ok.1
  refine lv_aload_n hx hb dX10_cues_0 rfl (lv_at hl 0 rfl) ?_
  refine lv_aload_n hx hb dX10_cues_1 rfl (lv_at hl 0 rfl) ?_
  refine wc_ri (va_runV (As := []) (rest := [.ref (ad 60)]) ⟨hx, hb, hml, hown, hts⟩ (c_X10_there l D cA sh ad M _ σ ok hMs hR) (cwV 0 hts gX10_cues_X10_there rfl rfl rfl (by decide +kernel) ⟨Nat.le_of_ble_eq_true rfl, Nat.le_of_ble_eq_true rfl⟩) (wpreV hK hW (C := RX10) (ci := 10) (hMs 60 (by decide) (by decide)) rfl) rfl rfl hl.1 rfl (lv_room (Nat.le_of_ble_eq_true rfl)) dX10_cues_2 ⟨Nat.le_of_ble_eq_true rfl, Nat.le_of_ble_eq_true rfl⟩) hW (fun x2' H locs p2' hW => ?_)
  try dsimp only at p2'
  refine wc_wi (va_runV (As := [.int x2']) (rest := []) ⟨hx, hb, hml, hown, hts⟩ (c_X10_told l D cA sh ad M _ hMs x2') (cwV 1 hts gX10_cues_X10_told rfl rfl rfl (by decide +kernel) ⟨Nat.le_of_ble_eq_true rfl, Nat.le_of_ble_eq_true rfl⟩) (wpreV hK hW (C := RX10) (ci := 10) (hMs 60 (by decide) (by decide)) rfl) rfl rfl hl.1 rfl (lv_room (Nat.le_of_ble_eq_true rfl)) dX10_cues_5 ⟨Nat.le_of_ble_eq_true rfl, Nat.le_of_ble_eq_true rfl⟩) hA hW (fun x5' M5' H locs p5' hW => ?_)
  try dsimp only at p5'
  exact wr_wi hx hb hr hlocks hW dX10_cues_8 ⟨go_mo p5'.2.2, p5'.2.1, fun z => (by cases z), fun _ => ⟨hMX.oI p5'.2.2 (fun p k z => by omega), by rw [p5'.1]; exact p2'⟩⟩
set_option maxHeartbeats 4000000 in
set_option maxRecDepth 100000 in
theorem c_X10_fired (l : Launch) (D : va_G) (cA : Nat → ClassId) (sh : Nat → Option Sh) (ad : Nat → Nat) (M : MS) (sz : Nat) (σ : AS) (v : VT) (hMs : MSh sh) (hMX : MX σ v M) : Met l yX10_fired wsX10_fired ({ frames := 4, cells := 0, slots := 0, locals := 97 }) (wPc D cA sh ad M sz [.ref (ad 60)]) (wQi D cA sh ad (fun r M' => oI moS M M' ∧ gI M' 60 28 = nI (thr (true) true) ∧ ((true) = false → MX σ v M') ∧ ((true) = true → MX σ v M' ∧ ∃ q c, Srt σ 40 q c ∧ r = nI (lit σ q c))) (wA sh ad sz)) 0 0 (wA sh ad sz) := by
  refine Met.ofW (cc := cX10_fired) (maxL := 1) (ret := (some .int)) (by decide) rfl ?_
  intro p e s m args below meth cd0 s₁ B hml hv
  obtain ⟨rfl, hsz, hM, hK⟩ := hv
  have hx := B.exec
  have hb := B.bytes
  have hr := B.returns
  have hts := atoms_spec (ws := wsX10_fired) B.pre
  have hown : s.vm.findClass RX10 = some m.cls := findClass_of_methodNamed B.named
  have hlocks := B.notSynchronized
  subst hsz
  have hA := wA_PA sh ad s.heap
  generalize wA sh ad s.heap.size = A at hA ⊢
  have hW : WS D cA sh ad A s.heap M s.heap [] := ⟨hM, va_S.rf⟩
  have fa147 : FA D s m ([.ref (ad 60)] : List Value).toArray 147 10 27 := FA.mk (C := RX10) (T := TX10) (N := 29) hts (fun _ h => List.mem_cons_of_mem _ (List.mem_append_right _ (h))) hown hK rfl (by decide) (hts (.fieldLink RX10 147 "MortarShowModel" "fired" "I") (List.mem_of_getElem? (i := 1) rfl))
  have hl := lv_entry ([.ref (ad 60)]) (n := 1) (Nat.le_of_ble_eq_true rfl)
  rw [lg_entry_eq]
  generalize (lg_sl ([.ref (ad 60)]) ++ List.replicate (1 - (lg_sl ([.ref (ad 60)])).length) Slot.unset).toArray = ls at hl ⊢
  have hl : lv_has ls 1 [(0, .ref (ad 60))] := hl
  obtain ⟨ok, hR, hV, hT⟩ := hMX
  have hMX : MX σ v M := ⟨ok, hR, hV, hT⟩
  have o1 := ok.1
  refine lv_aload_n hx hb dX10_fired_0 rfl (lv_at hl 0 rfl) ?_
  refine wc_wv (va_runV (As := []) (rest := []) ⟨hx, hb, hml, hown, hts⟩ (c_X10_lays l D cA sh ad M _ σ ok hMs hR) (cwV 0 hts gX10_fired_X10_lays rfl rfl rfl (by decide +kernel) ⟨Nat.le_of_ble_eq_true rfl, Nat.le_of_ble_eq_true rfl⟩) (wpreV hK hW (C := RX10) (ci := 10) (hMs 60 (by decide) (by decide)) rfl) rfl rfl hl.1 rfl (lv_room (Nat.le_of_ble_eq_true rfl)) dX10_fired_1 ⟨Nat.le_of_ble_eq_true rfl, Nat.le_of_ble_eq_true rfl⟩) hA hW (fun M1' H locs p1' hW => ?_)
  try dsimp only at p1'
  obtain ⟨o1x, q, c, La⟩ := p1'
  have hXa : MX σ v M1' := hMX.oI o1x (fun p k z => by unfold laS at z; omega)
  have hRa := hXa.2.1
  have hlc := lit_le σ q c
  have hc40 := La.1.2.2.2
  refine lv_aload_n hx hb dX10_fired_4 rfl (lv_at hl 0 rfl) ?_
  refine lv_aload_n hx hb dX10_fired_5 rfl (lv_at hl 0 rfl) ?_
  refine wgI hx hb fa147 hW (hMs 60 (by decide) (by decide)) rfl dX10_fired_6 (fun x6' e6' => ?_)
  refine wc_wi (va_runV (As := [.int x6']) (rest := []) ⟨hx, hb, hml, hown, hts⟩ (c_X10_told l D cA sh ad M1' _ hMs x6') (cwV 1 hts gX10_fired_X10_told rfl rfl rfl (by decide +kernel) ⟨Nat.le_of_ble_eq_true rfl, Nat.le_of_ble_eq_true rfl⟩) (wpreV hK hW (C := RX10) (ci := 10) (hMs 60 (by decide) (by decide)) rfl) rfl rfl hl.1 rfl (lv_room (Nat.le_of_ble_eq_true rfl)) dX10_fired_9 ⟨Nat.le_of_ble_eq_true rfl, Nat.le_of_ble_eq_true rfl⟩) hA hW (fun x9' M9' H locs p9' hW => ?_)
  try dsimp only at p9'
  exact wr_wi hx hb hr hlocks hW dX10_fired_12 ⟨(laS_mo o1x).trans (go_mo p9'.2.2), p9'.2.1, fun z => (by cases z), fun _ => ⟨hXa.oI p9'.2.2 (fun p k z => by omega), q, c, La.1, by rw [p9'.1]; exact e6'.trans La.2.2.2.1⟩⟩
set_option maxHeartbeats 4000000 in
set_option maxRecDepth 100000 in
theorem c_X10_closed (l : Launch) (D : va_G) (cA : Nat → ClassId) (sh : Nat → Option Sh) (ad : Nat → Nat) (M : MS) (sz : Nat) (σ : AS) (v : VT) (hMs : MSh sh) (hMX : MX σ v M) : Met l yX10_closed wsX10_closed ({ frames := 4, cells := 0, slots := 0, locals := 97 }) (wPc D cA sh ad M sz [.ref (ad 60)]) (wQi D cA sh ad (fun r M' => oI moS M M' ∧ gI M' 60 28 = nI (thr (true) true) ∧ ((true) = false → MX σ v M') ∧ ((true) = true → MX σ v M' ∧ r = nI (cbN σ 101))) (wA sh ad sz)) 0 0 (wA sh ad sz) := by
  refine Met.ofW (cc := cX10_closed) (maxL := 1) (ret := (some .int)) (by decide) rfl ?_
  intro p e s m args below meth cd0 s₁ B hml hv
  obtain ⟨rfl, hsz, hM, hK⟩ := hv
  have hx := B.exec
  have hb := B.bytes
  have hr := B.returns
  have hts := atoms_spec (ws := wsX10_closed) B.pre
  have hown : s.vm.findClass RX10 = some m.cls := findClass_of_methodNamed B.named
  have hlocks := B.notSynchronized
  subst hsz
  have hA := wA_PA sh ad s.heap
  generalize wA sh ad s.heap.size = A at hA ⊢
  have hW : WS D cA sh ad A s.heap M s.heap [] := ⟨hM, va_S.rf⟩
  have hl := lv_entry ([.ref (ad 60)]) (n := 1) (Nat.le_of_ble_eq_true rfl)
  rw [lg_entry_eq]
  generalize (lg_sl ([.ref (ad 60)]) ++ List.replicate (1 - (lg_sl ([.ref (ad 60)])).length) Slot.unset).toArray = ls at hl ⊢
  have hl : lv_has ls 1 [(0, .ref (ad 60))] := hl
  obtain ⟨ok, hR, hV, hT⟩ := hMX
  have hMX : MX σ v M := ⟨ok, hR, hV, hT⟩
  have o1 := ok.1
  refine lv_aload_n hx hb dX10_closed_0 rfl (lv_at hl 0 rfl) ?_
  refine wc_wv (va_runV (As := []) (rest := []) ⟨hx, hb, hml, hown, hts⟩ (c_X10_lays l D cA sh ad M _ σ ok hMs hR) (cwV 0 hts gX10_closed_X10_lays rfl rfl rfl (by decide +kernel) ⟨Nat.le_of_ble_eq_true rfl, Nat.le_of_ble_eq_true rfl⟩) (wpreV hK hW (C := RX10) (ci := 10) (hMs 60 (by decide) (by decide)) rfl) rfl rfl hl.1 rfl (lv_room (Nat.le_of_ble_eq_true rfl)) dX10_closed_1 ⟨Nat.le_of_ble_eq_true rfl, Nat.le_of_ble_eq_true rfl⟩) hA hW (fun M1' H locs p1' hW => ?_)
  try dsimp only at p1'
  obtain ⟨o1x, q, c, La⟩ := p1'
  have hXa : MX σ v M1' := hMX.oI o1x (fun p k z => by unfold laS at z; omega)
  have hRa := hXa.2.1
  have hlc := lit_le σ q c
  have hc40 := La.1.2.2.2
  have hf9 : ∀ i, i < aN σ → σ.2 10 i = 0 → (gI M1' 80 i = 1 ↔ stkB σ i = true) := lay_stk La o1
  refine lv_aload_n hx hb dX10_closed_4 rfl (lv_at hl 0 rfl) ?_
  refine lv_aload_n hx hb dX10_closed_5 rfl (lv_at hl 0 rfl) ?_
  refine lv_bipush (v := 101) hx hb dX10_closed_6 (by decide) ?_
  refine wc_ri (va_runV (As := [.int 101]) (rest := [.ref (ad 60)]) ⟨hx, hb, hml, hown, hts⟩ (c_X10_closedAhead l D cA sh ad M1' _ σ ok hMs hRa hf9 101 (Nat.le_refl _) 101 rfl) (cwV 1 hts gX10_closed_X10_closedAhead rfl rfl rfl (by decide +kernel) ⟨Nat.le_of_ble_eq_true rfl, Nat.le_of_ble_eq_true rfl⟩) (wpreV hK hW (C := RX10) (ci := 10) (hMs 60 (by decide) (by decide)) rfl) rfl rfl hl.1 rfl (lv_room (Nat.le_of_ble_eq_true rfl)) dX10_closed_8 ⟨Nat.le_of_ble_eq_true rfl, Nat.le_of_ble_eq_true rfl⟩) hW (fun x8' H locs p8' hW => ?_)
  try dsimp only at p8'
  refine wc_wi (va_runV (As := [.int x8']) (rest := []) ⟨hx, hb, hml, hown, hts⟩ (c_X10_told l D cA sh ad M1' _ hMs x8') (cwV 1 hts gX10_closed_X10_told rfl rfl rfl (by decide +kernel) ⟨Nat.le_of_ble_eq_true rfl, Nat.le_of_ble_eq_true rfl⟩) (wpreV hK hW (C := RX10) (ci := 10) (hMs 60 (by decide) (by decide)) rfl) rfl rfl hl.1 rfl (lv_room (Nat.le_of_ble_eq_true rfl)) dX10_closed_11 ⟨Nat.le_of_ble_eq_true rfl, Nat.le_of_ble_eq_true rfl⟩) hA hW (fun x11' M11' H locs p11' hW => ?_)
  try dsimp only at p11'
  exact wr_wi hx hb hr hlocks hW dX10_closed_14 ⟨(laS_mo o1x).trans (go_mo p11'.2.2), p11'.2.1, fun z => (by cases z), fun _ => ⟨hXa.oI p11'.2.2 (fun p k z => by omega), by rw [p11'.1]; exact p8'⟩⟩
set_option maxHeartbeats 4000000 in
set_option maxRecDepth 100000 in
theorem c_X10_peopled (l : Launch) (D : va_G) (cA : Nat → ClassId) (sh : Nat → Option Sh) (ad : Nat → Nat) (M : MS) (sz : Nat) (σ : AS) (v : VT) (hMs : MSh sh) (hMX : MX σ v M) : Met l yX10_peopled wsX10_peopled ({ frames := 1, cells := 0, slots := 0, locals := 21 }) (wPc D cA sh ad M sz [.ref (ad 60)]) (wQi D cA sh ad (fun r M' => oI moS M M' ∧ gI M' 60 28 = nI (thr (true) true) ∧ ((true) = false → MX σ v M') ∧ ((true) = true → MX σ v M' ∧ r = nI (ctN (fun k => decide (0 < σ.1 0 k)) 64))) (wA sh ad sz)) 0 0 (wA sh ad sz) := by
  refine Met.ofW (cc := cX10_peopled) (maxL := 3) (ret := (some .int)) (by decide) rfl ?_
  intro p e s m args below meth cd0 s₁ B hml hv
  obtain ⟨rfl, hsz, hM, hK⟩ := hv
  have hx := B.exec
  have hb := B.bytes
  have hr := B.returns
  have hts := atoms_spec (ws := wsX10_peopled) B.pre
  have hown : s.vm.findClass RX10 = some m.cls := findClass_of_methodNamed B.named
  have hlocks := B.notSynchronized
  subst hsz
  have hA := wA_PA sh ad s.heap
  generalize wA sh ad s.heap.size = A at hA ⊢
  have hW : WS D cA sh ad A s.heap M s.heap [] := ⟨hM, va_S.rf⟩
  have fa43 : FA D s m ([.ref (ad 60)] : List Value).toArray 43 10 11 := FA.mk (C := RX10) (T := TX10) (N := 29) hts (fun _ h => List.mem_cons_of_mem _ (List.mem_append_right _ (h))) hown hK rfl (by decide) (hts (.fieldLink RX10 43 "MortarShowModel" "people" "[I") (List.mem_of_getElem? (i := 1) rfl))
  have hl := lv_entry ([.ref (ad 60)]) (n := 3) (Nat.le_of_ble_eq_true rfl)
  rw [lg_entry_eq]
  generalize (lg_sl ([.ref (ad 60)]) ++ List.replicate (3 - (lg_sl ([.ref (ad 60)])).length) Slot.unset).toArray = ls at hl ⊢
  have hl : lv_has ls 3 [(0, .ref (ad 60))] := hl
  obtain ⟨ok, hR, hV, hT⟩ := hMX
  have hMX : MX σ v M := ⟨ok, hR, hV, hT⟩
  have o1 := ok.1
  refine lv_iconst (v := 0) hx hb dX10_peopled_0 (by decide) ?_
  refine lv_istore_n (lv' := [(1, .int 0), (0, .ref (ad 60))]) hx hb dX10_peopled_1 rfl hl (by decide) rfl (fun ls hl => ?_)
  refine lv_iconst (v := 0) hx hb dX10_peopled_2 (by decide) ?_
  refine lv_istore_n (lv' := [(2, .int 0), (1, .int 0), (0, .ref (ad 60))]) hx hb dX10_peopled_3 rfl hl (by decide) rfl (fun ls hl => ?_)
  have L4 : ∀ (fu : Nat) (k : Nat) (xk : Int32) (xs : Int32) (H : Heap) (locs : List Loc), 64 - k < fu → (k ≤ 64) → (xk = nI k) → (xs = nI (ctN (fun k => decide (0 < σ.1 0 k)) k)) → WS D cA sh ad A s.heap M H locs → ∀ ls, lv_has ls 3 [(2, .int xk), (1, .int xs), (0, .ref (ad 60))] → W p l e (headSpec wsX10_peopled { frames := 1, cells := 0, slots := 0, locals := 21 }).room s m ([.ref (ad 60)] : List Value).toArray below meth cd0 H locs 0 0 (MQ below (wQi D cA sh ad (fun r M' => oI moS M M' ∧ gI M' 60 28 = nI (thr (true) true) ∧ ((true) = false → MX σ v M') ∧ ((true) = true → MX σ v M' ∧ r = nI (ctN (fun k => decide (0 < σ.1 0 k)) 64))) A) ([.ref (ad 60)] : List Value).toArray s 0 0 A) (F0 m 4 ls []) := by
    intro fu
    induction fu with
    | zero =>
      intro k xk xs H locs hn hk ek es hW ls hl
      exact absurd hn (Nat.not_lt_zero _)
    | succ fu ih4 =>
      intro k xk xs H locs hn hk ek es hW ls hl
      refine lv_iload_n hx hb dX10_peopled_4 rfl (lv_at hl 0 rfl) ?_
      refine lv_bipush (v := 64) hx hb dX10_peopled_5 (by decide) ?_
      refine lv_icmp_ge (tgt := 33) hx hb dX10_peopled_7 (by decide) (fun c7' => ?_) (fun c7' => ?_)
      · have k7' : 64 ≤ k := kc_ge ek (nlit 64) (by omega) (by omega) c7'
        refine lv_aload_n hx hb dX10_peopled_33 rfl (lv_at hl 2 rfl) ?_
        refine lv_iload_n hx hb dX10_peopled_34 rfl (lv_at hl 1 rfl) ?_
        refine wc_wi (va_runV (As := [.int xs]) (rest := []) ⟨hx, hb, hml, hown, hts⟩ (c_X10_told l D cA sh ad M _ hMs xs) (cwV 1 hts gX10_peopled_X10_told rfl rfl rfl (by decide +kernel) ⟨Nat.le_of_ble_eq_true rfl, Nat.le_of_ble_eq_true rfl⟩) (wpreV hK hW (C := RX10) (ci := 10) (hMs 60 (by decide) (by decide)) rfl) rfl rfl hl.1 rfl (lv_room (Nat.le_of_ble_eq_true rfl)) dX10_peopled_35 ⟨Nat.le_of_ble_eq_true rfl, Nat.le_of_ble_eq_true rfl⟩) hA hW (fun x35' M35' H locs p35' hW => ?_)
        try dsimp only at p35'
        exact wr_wi hx hb hr hlocks hW dX10_peopled_38 ⟨go_mo p35'.2.2, p35'.2.1, fun z => (by cases z), fun _ => ⟨hMX.oI p35'.2.2 (fun p k z => by omega), by rw [p35'.1, es, show k = 64 by omega]⟩⟩
      · have k7' : ¬ 64 ≤ k := kc_gen ek (nlit 64) (by omega) (by omega) c7'
        refine lv_iload_n hx hb dX10_peopled_10 rfl (lv_at hl 1 rfl) ?_
        have J25 : ∀ (y : Int32) (H : Heap) (locs : List Loc), (y = nI (if decide (0 < σ.1 0 k) = true then 1 else 0)) → WS D cA sh ad A s.heap M H locs → ∀ ls, lv_has ls 3 [(2, .int xk), (1, .int xs), (0, .ref (ad 60))] → W p l e (headSpec wsX10_peopled { frames := 1, cells := 0, slots := 0, locals := 21 }).room s m ([.ref (ad 60)] : List Value).toArray below meth cd0 H locs 0 0 (MQ below (wQi D cA sh ad (fun r M' => oI moS M M' ∧ gI M' 60 28 = nI (thr (true) true) ∧ ((true) = false → MX σ v M') ∧ ((true) = true → MX σ v M' ∧ r = nI (ctN (fun k => decide (0 < σ.1 0 k)) 64))) A) ([.ref (ad 60)] : List Value).toArray s 0 0 A) (F0 m 25 ls [.int y, .int xs]) := by
          intro y H locs hy hW ls hl
          refine lv_iadd hx hb dX10_peopled_25 ?_
          refine lv_topi (fun x25' e25' => ?_)
          refine lv_istore_n (lv' := [(1, .int x25'), (2, .int xk), (0, .ref (ad 60))]) hx hb dX10_peopled_26 rfl hl (by decide) rfl (fun ls hl => ?_)
          obtain ⟨x27', e27'⟩ : ∃ y : Int32, y = xk + 1 := ⟨_, rfl⟩
          refine lv_iinc (v := x27') (lv' := [(2, .int x27'), (1, .int x25'), (0, .ref (ad 60))]) hx hb dX10_peopled_27 hl (k := 1) rfl (by rw [e27']; rfl) (by decide) rfl (fun ls hl => ?_)
          refine lv_goto (tgt := 4) hx hb dX10_peopled_30 (by decide) ?_
          exact ih4 (k + 1) x27' x25' _ _ (by omega) (by omega) (by rw [e27', ek, nlit 1, nI_add]) (by rw [e25']; exact ctN_ite es hy) hW ls (lv_sub hl [0, 1, 2] rfl)
        refine lv_aload_n hx hb dX10_peopled_11 rfl (lv_at hl 2 rfl) ?_
        refine wgF (t := 72) hx hb fa43 hW (hMs 60 (by decide) (by decide)) rfl dX10_peopled_12 ?_
        refine lv_iload_n hx hb dX10_peopled_15 rfl (lv_at hl 0 rfl) ?_
        refine walI (j := k) hx hb hK hW (hMs 72 (by decide) (by decide)) ek (by omega) (by decide) dX10_peopled_16 (fun x16' e16' => ?_)
        refine lv_if_le (tgt := 24) hx hb dX10_peopled_17 (by decide) (fun c17' => ?_) (fun c17' => ?_)
        · refine lv_iconst (v := 0) hx hb dX10_peopled_24 (by decide) ?_
          exact J25 0 _ _ (by rw [e16', hR.1 k (by omega)] at c17'; first | (rw [decide_eq_false (by rw [i32lt]; rw [i32le] at c17'; omega)]; rfl) | (rw [decide_eq_true (by rw [i32lt]; rw [i32le] at c17'; omega)]; rfl)) hW ls (lv_sub hl [0, 1, 2] rfl)
        · refine lv_iconst (v := 1) hx hb dX10_peopled_20 (by decide) ?_
          refine lv_goto (tgt := 25) hx hb dX10_peopled_21 (by decide) ?_
          exact J25 1 _ _ (by rw [e16', hR.1 k (by omega)] at c17'; first | (rw [decide_eq_false (by rw [i32lt]; rw [i32le] at c17'; omega)]; rfl) | (rw [decide_eq_true (by rw [i32lt]; rw [i32le] at c17'; omega)]; rfl)) hW ls (lv_sub hl [0, 1, 2] rfl)
  exact L4 (_ + 1) 0 0 0 _ _ (Nat.lt_succ_self _) (Nat.zero_le _) rfl rfl hW ls (lv_sub hl [0, 1, 2] rfl)
set_option maxHeartbeats 4000000 in
set_option maxRecDepth 100000 in
theorem c_X10_spares (l : Launch) (D : va_G) (cA : Nat → ClassId) (sh : Nat → Option Sh) (ad : Nat → Nat) (M : MS) (sz : Nat) (σ : AS) (v : VT) (hMs : MSh sh) (hMX : MX σ v M) : Met l yX10_spares wsX10_spares ({ frames := 4, cells := 0, slots := 0, locals := 97 }) (wPc D cA sh ad M sz [.ref (ad 60)]) (wQi D cA sh ad (fun r M' => oI moS M M' ∧ gI M' 60 28 = nI (thr (true) true) ∧ ((true) = false → MX σ v M') ∧ ((true) = true → MX σ v M' ∧ ∃ q c, Srt σ 40 q c ∧ r = nI (ctN (spB (fun d => (gvn σ q c d).isSome)) 32))) (wA sh ad sz)) 0 0 (wA sh ad sz) := by
  refine Met.ofW (cc := cX10_spares) (maxL := 3) (ret := (some .int)) (by decide) rfl ?_
  intro p e s m args below meth cd0 s₁ B hml hv
  obtain ⟨rfl, hsz, hM, hK⟩ := hv
  have hx := B.exec
  have hb := B.bytes
  have hr := B.returns
  have hts := atoms_spec (ws := wsX10_spares) B.pre
  have hown : s.vm.findClass RX10 = some m.cls := findClass_of_methodNamed B.named
  have hlocks := B.notSynchronized
  subst hsz
  have hA := wA_PA sh ad s.heap
  generalize wA sh ad s.heap.size = A at hA ⊢
  have hW : WS D cA sh ad A s.heap M s.heap [] := ⟨hM, va_S.rf⟩
  have fa87 : FA D s m ([.ref (ad 60)] : List Value).toArray 87 10 26 := FA.mk (C := RX10) (T := TX10) (N := 29) hts (fun _ h => List.mem_cons_of_mem _ (List.mem_append_right _ (h))) hown hK rfl (by decide) (hts (.fieldLink RX10 87 "MortarShowModel" "given" "[I") (List.mem_of_getElem? (i := 1) rfl))
  have hl := lv_entry ([.ref (ad 60)]) (n := 3) (Nat.le_of_ble_eq_true rfl)
  rw [lg_entry_eq]
  generalize (lg_sl ([.ref (ad 60)]) ++ List.replicate (3 - (lg_sl ([.ref (ad 60)])).length) Slot.unset).toArray = ls at hl ⊢
  have hl : lv_has ls 3 [(0, .ref (ad 60))] := hl
  obtain ⟨ok, hR, hV, hT⟩ := hMX
  have hMX : MX σ v M := ⟨ok, hR, hV, hT⟩
  have o1 := ok.1
  refine lv_aload_n hx hb dX10_spares_0 rfl (lv_at hl 0 rfl) ?_
  refine wc_wv (va_runV (As := []) (rest := []) ⟨hx, hb, hml, hown, hts⟩ (c_X10_lays l D cA sh ad M _ σ ok hMs hR) (cwV 0 hts gX10_spares_X10_lays rfl rfl rfl (by decide +kernel) ⟨Nat.le_of_ble_eq_true rfl, Nat.le_of_ble_eq_true rfl⟩) (wpreV hK hW (C := RX10) (ci := 10) (hMs 60 (by decide) (by decide)) rfl) rfl rfl hl.1 rfl (lv_room (Nat.le_of_ble_eq_true rfl)) dX10_spares_1 ⟨Nat.le_of_ble_eq_true rfl, Nat.le_of_ble_eq_true rfl⟩) hA hW (fun M1' H locs p1' hW => ?_)
  try dsimp only at p1'
  obtain ⟨o1x, q, c, La⟩ := p1'
  have hXa : MX σ v M1' := hMX.oI o1x (fun p k z => by unfold laS at z; omega)
  have hRa := hXa.2.1
  have hlc := lit_le σ q c
  have hc40 := La.1.2.2.2
  have hgv : ∀ d, d < 32 → (gI M1' 84 d = -1 ↔ (gvn σ q c d).isSome = false) := lay_gv La o1
  refine lv_iconst (v := 0) hx hb dX10_spares_4 (by decide) ?_
  refine lv_istore_n (lv' := [(1, .int 0), (0, .ref (ad 60))]) hx hb dX10_spares_5 rfl hl (by decide) rfl (fun ls hl => ?_)
  refine lv_iconst (v := 0) hx hb dX10_spares_6 (by decide) ?_
  refine lv_istore_n (lv' := [(2, .int 0), (1, .int 0), (0, .ref (ad 60))]) hx hb dX10_spares_7 rfl hl (by decide) rfl (fun ls hl => ?_)
  have L8 : ∀ (fu : Nat) (k : Nat) (xk : Int32) (xs : Int32) (H : Heap) (locs : List Loc), 32 - k < fu → (k ≤ 32) → (xk = nI k) → (xs = nI (ctN (spB (fun d => (gvn σ q c d).isSome)) k)) → WS D cA sh ad A s.heap M1' H locs → ∀ ls, lv_has ls 3 [(2, .int xk), (1, .int xs), (0, .ref (ad 60))] → W p l e (headSpec wsX10_spares { frames := 4, cells := 0, slots := 0, locals := 97 }).room s m ([.ref (ad 60)] : List Value).toArray below meth cd0 H locs 0 0 (MQ below (wQi D cA sh ad (fun r M' => oI moS M M' ∧ gI M' 60 28 = nI (thr (true) true) ∧ ((true) = false → MX σ v M') ∧ ((true) = true → MX σ v M' ∧ ∃ q c, Srt σ 40 q c ∧ r = nI (ctN (spB (fun d => (gvn σ q c d).isSome)) 32))) A) ([.ref (ad 60)] : List Value).toArray s 0 0 A) (F0 m 8 ls []) := by
    intro fu
    induction fu with
    | zero =>
      intro k xk xs H locs hn hk ek es hW ls hl
      exact absurd hn (Nat.not_lt_zero _)
    | succ fu ih8 =>
      intro k xk xs H locs hn hk ek es hW ls hl
      refine lv_iload_n hx hb dX10_spares_8 rfl (lv_at hl 0 rfl) ?_
      refine lv_bipush (v := 32) hx hb dX10_spares_9 (by decide) ?_
      refine lv_icmp_ge (tgt := 47) hx hb dX10_spares_11 (by decide) (fun c11' => ?_) (fun c11' => ?_)
      · have k11' : 32 ≤ k := kc_ge ek (nlit 32) (by omega) (by omega) c11'
        refine lv_aload_n hx hb dX10_spares_47 rfl (lv_at hl 2 rfl) ?_
        refine lv_iload_n hx hb dX10_spares_48 rfl (lv_at hl 1 rfl) ?_
        refine wc_wi (va_runV (As := [.int xs]) (rest := []) ⟨hx, hb, hml, hown, hts⟩ (c_X10_told l D cA sh ad M1' _ hMs xs) (cwV 1 hts gX10_spares_X10_told rfl rfl rfl (by decide +kernel) ⟨Nat.le_of_ble_eq_true rfl, Nat.le_of_ble_eq_true rfl⟩) (wpreV hK hW (C := RX10) (ci := 10) (hMs 60 (by decide) (by decide)) rfl) rfl rfl hl.1 rfl (lv_room (Nat.le_of_ble_eq_true rfl)) dX10_spares_49 ⟨Nat.le_of_ble_eq_true rfl, Nat.le_of_ble_eq_true rfl⟩) hA hW (fun x49' M49' H locs p49' hW => ?_)
        try dsimp only at p49'
        exact wr_wi hx hb hr hlocks hW dX10_spares_52 ⟨(laS_mo o1x).trans (go_mo p49'.2.2), p49'.2.1, fun z => (by cases z), fun _ => ⟨hXa.oI p49'.2.2 (fun p k z => by omega), q, c, La.1, by rw [p49'.1, es, show k = 32 by omega]⟩⟩
      · have k11' : ¬ 32 ≤ k := kc_gen ek (nlit 32) (by omega) (by omega) c11'
        refine lv_iload_n hx hb dX10_spares_14 rfl (lv_at hl 1 rfl) ?_
        have J39 : ∀ (y : Int32) (H : Heap) (locs : List Loc), (y = nI (if spB (fun d => (gvn σ q c d).isSome) k = true then 1 else 0)) → WS D cA sh ad A s.heap M1' H locs → ∀ ls, lv_has ls 3 [(2, .int xk), (1, .int xs), (0, .ref (ad 60))] → W p l e (headSpec wsX10_spares { frames := 4, cells := 0, slots := 0, locals := 97 }).room s m ([.ref (ad 60)] : List Value).toArray below meth cd0 H locs 0 0 (MQ below (wQi D cA sh ad (fun r M' => oI moS M M' ∧ gI M' 60 28 = nI (thr (true) true) ∧ ((true) = false → MX σ v M') ∧ ((true) = true → MX σ v M' ∧ ∃ q c, Srt σ 40 q c ∧ r = nI (ctN (spB (fun d => (gvn σ q c d).isSome)) 32))) A) ([.ref (ad 60)] : List Value).toArray s 0 0 A) (F0 m 39 ls [.int y, .int xs]) := by
          intro y H locs hy hW ls hl
          refine lv_iadd hx hb dX10_spares_39 ?_
          refine lv_topi (fun x39' e39' => ?_)
          refine lv_istore_n (lv' := [(1, .int x39'), (2, .int xk), (0, .ref (ad 60))]) hx hb dX10_spares_40 rfl hl (by decide) rfl (fun ls hl => ?_)
          obtain ⟨x41', e41'⟩ : ∃ y : Int32, y = xk + 1 := ⟨_, rfl⟩
          refine lv_iinc (v := x41') (lv' := [(2, .int x41'), (1, .int x39'), (0, .ref (ad 60))]) hx hb dX10_spares_41 hl (k := 1) rfl (by rw [e41']; rfl) (by decide) rfl (fun ls hl => ?_)
          refine lv_goto (tgt := 8) hx hb dX10_spares_44 (by decide) ?_
          exact ih8 (k + 1) x41' x39' _ _ (by omega) (by omega) (by rw [e41', ek, nlit 1, nI_add]) (by rw [e39']; exact ctN_ite es hy) hW ls (lv_sub hl [0, 1, 2] rfl)
        refine lv_iload_n hx hb dX10_spares_15 rfl (lv_at hl 0 rfl) ?_
        refine lv_bipush (v := 8) hx hb dX10_spares_16 (by decide) ?_
        refine lv_irem hx hb dX10_spares_18 (by decide) ?_
        refine lv_topi (fun x18' e18' => ?_)
        have n18' : x18' = nI (k % 8) := (by rw [e18', ek, (nlit 8)]; exact pk_rem (by omega) (by omega) (by omega))
        refine lv_bipush (v := 6) hx hb dX10_spares_19 (by decide) ?_
        refine lv_icmp_lt (tgt := 38) hx hb dX10_spares_21 (by decide) (fun c21' => ?_) (fun c21' => ?_)
        · have k21' : (k % 8) < 6 := kc_lt n18' (nlit 6) (by omega) (by omega) c21'
          refine lv_iconst (v := 0) hx hb dX10_spares_38 (by decide) ?_
          exact J39 0 _ _ (by
              first
              | (rw [spB_f1 (by omega)]; rfl)
              | (have s9 : spB (fun d => (gvn σ q c d).isSome) k = (gvn σ q c k).isSome := by
                   unfold spB
                   rw [decide_eq_true (by omega), Bool.true_and]
                 rw [s9]
                 first
                 | (rw [(hgv k (by omega)).mp (e29'.symm.trans c31')]; rfl)
                 | (cases hq9 : (gvn σ q c k).isSome with
                    | false => exact absurd (e29'.trans ((hgv k (by omega)).mpr hq9)) c31'
                    | true => rfl))) hW ls (lv_sub hl [0, 1, 2] rfl)
        · have k21' : ¬ (k % 8) < 6 := kc_ltn n18' (nlit 6) (by omega) (by omega) c21'
          refine lv_aload_n hx hb dX10_spares_24 rfl (lv_at hl 2 rfl) ?_
          refine wgF (t := 84) hx hb fa87 hW (hMs 60 (by decide) (by decide)) rfl dX10_spares_25 ?_
          refine lv_iload_n hx hb dX10_spares_28 rfl (lv_at hl 0 rfl) ?_
          refine walI (j := k) hx hb hK hW (hMs 84 (by decide) (by decide)) ek (by omega) (by decide) dX10_spares_29 (fun x29' e29' => ?_)
          refine lv_iconst (v := (-1)) hx hb dX10_spares_30 (by decide) ?_
          refine lv_icmp_eq (tgt := 38) hx hb dX10_spares_31 (by decide) (fun c31' => ?_) (fun c31' => ?_)
          · refine lv_iconst (v := 0) hx hb dX10_spares_38 (by decide) ?_
            exact J39 0 _ _ (by
                first
                | (rw [spB_f1 (by omega)]; rfl)
                | (have s9 : spB (fun d => (gvn σ q c d).isSome) k = (gvn σ q c k).isSome := by
                     unfold spB
                     rw [decide_eq_true (by omega), Bool.true_and]
                   rw [s9]
                   first
                   | (rw [(hgv k (by omega)).mp (e29'.symm.trans c31')]; rfl)
                   | (cases hq9 : (gvn σ q c k).isSome with
                      | false => exact absurd (e29'.trans ((hgv k (by omega)).mpr hq9)) c31'
                      | true => rfl))) hW ls (lv_sub hl [0, 1, 2] rfl)
          · refine lv_iconst (v := 1) hx hb dX10_spares_34 (by decide) ?_
            refine lv_goto (tgt := 39) hx hb dX10_spares_35 (by decide) ?_
            exact J39 1 _ _ (by
                first
                | (rw [spB_f1 (by omega)]; rfl)
                | (have s9 : spB (fun d => (gvn σ q c d).isSome) k = (gvn σ q c k).isSome := by
                     unfold spB
                     rw [decide_eq_true (by omega), Bool.true_and]
                   rw [s9]
                   first
                   | (rw [(hgv k (by omega)).mp (e29'.symm.trans c31')]; rfl)
                   | (cases hq9 : (gvn σ q c k).isSome with
                      | false => exact absurd (e29'.trans ((hgv k (by omega)).mpr hq9)) c31'
                      | true => rfl))) hW ls (lv_sub hl [0, 1, 2] rfl)
  exact L8 (_ + 1) 0 0 0 _ _ (Nat.lt_succ_self _) (Nat.zero_le _) rfl rfl hW ls (lv_sub hl [0, 1, 2] rfl)
set_option maxHeartbeats 4000000 in
set_option maxRecDepth 100000 in
theorem c_X10_flight (l : Launch) (D : va_G) (cA : Nat → ClassId) (sh : Nat → Option Sh) (ad : Nat → Nat) (M : MS) (sz : Nat) (σ : AS) (v : VT) (hMs : MSh sh) (hMX : MX σ v M) (a : Int32) : Met l yX10_flight wsX10_flight ({ frames := 2, cells := 0, slots := 0, locals := 42 }) (wPc D cA sh ad M sz [.ref (ad 60), .int a]) (wQi D cA sh ad (fun r M' => oI moS M M' ∧ gI M' 60 28 = nI (thr (inB a 0 3) true) ∧ ((inB a 0 3) = false → MX σ v M') ∧ ((inB a 0 3) = true → MX σ v M' ∧ r = nI (σ.2 11 (n1 a)))) (wA sh ad sz)) 0 0 (wA sh ad sz) := by
  refine Met.ofW (cc := cX10_flight) (maxL := 2) (ret := (some .int)) (by decide) rfl ?_
  intro p e s m args below meth cd0 s₁ B hml hv
  obtain ⟨rfl, hsz, hM, hK⟩ := hv
  have hx := B.exec
  have hb := B.bytes
  have hr := B.returns
  have hts := atoms_spec (ws := wsX10_flight) B.pre
  have hown : s.vm.findClass RX10 = some m.cls := findClass_of_methodNamed B.named
  have hlocks := B.notSynchronized
  subst hsz
  have hA := wA_PA sh ad s.heap
  generalize wA sh ad s.heap.size = A at hA ⊢
  have hW : WS D cA sh ad A s.heap M s.heap [] := ⟨hM, va_S.rf⟩
  have fa25 : FA D s m ([.ref (ad 60), .int a] : List Value).toArray 25 10 5 := FA.mk (C := RX10) (T := TX10) (N := 29) hts (fun _ h => List.mem_cons_of_mem _ (List.mem_append_right _ (h))) hown hK rfl (by decide) (hts (.fieldLink RX10 25 "MortarShowModel" "flight" "[I") (List.mem_of_getElem? (i := 1) rfl))
  have hl := lv_entry ([.ref (ad 60), .int a]) (n := 2) (Nat.le_of_ble_eq_true rfl)
  rw [lg_entry_eq]
  generalize (lg_sl ([.ref (ad 60), .int a]) ++ List.replicate (2 - (lg_sl ([.ref (ad 60), .int a])).length) Slot.unset).toArray = ls at hl ⊢
  have hl : lv_has ls 2 [(0, .ref (ad 60)), (1, .int a)] := hl
  obtain ⟨ok, hR, hV, hT⟩ := hMX
  have hMX : MX σ v M := ⟨ok, hR, hV, hT⟩
  have o1 := ok.1
  refine lv_aload_n hx hb dX10_flight_0 rfl (lv_at hl 0 rfl) ?_
  refine lv_iload_n hx hb dX10_flight_1 rfl (lv_at hl 1 rfl) ?_
  refine wc_ri (va_runS (As := [.int a]) (rest := [.ref (ad 60)]) ⟨hx, hb, hml, hown, hts⟩ (c_X10_isKind l a) (va_cwS 1 hts gX10_flight_X10_isKind rfl rfl rfl (by decide +kernel) ⟨Nat.le_of_ble_eq_true rfl, Nat.le_of_ble_eq_true rfl⟩) npreS rfl rfl hl.1 rfl (lv_room (Nat.le_of_ble_eq_true rfl)) dX10_flight_2 ⟨Nat.le_of_ble_eq_true rfl, Nat.le_of_ble_eq_true rfl⟩) hW (fun x2' H locs p2' hW => ?_)
  try dsimp only at p2'
  refine lv_iconst (v := 1) hx hb dX10_flight_5 (by decide) ?_
  refine wc_wi (va_runV (As := [.int x2', .int 1]) (rest := []) ⟨hx, hb, hml, hown, hts⟩ (c_X10_goes l D cA sh ad M _ hMs x2' 1 (inB a 0 3) true p2' rfl) (cwV 2 hts gX10_flight_X10_goes rfl rfl rfl (by decide +kernel) ⟨Nat.le_of_ble_eq_true rfl, Nat.le_of_ble_eq_true rfl⟩) (wpreV hK hW (C := RX10) (ci := 10) (hMs 60 (by decide) (by decide)) rfl) rfl rfl hl.1 rfl (lv_room (Nat.le_of_ble_eq_true rfl)) dX10_flight_6 ⟨Nat.le_of_ble_eq_true rfl, Nat.le_of_ble_eq_true rfl⟩) hA hW (fun x6' M6' H locs p6' hW => ?_)
  try dsimp only at p6'
  refine lv_if_eq (tgt := 21) hx hb dX10_flight_9 (by decide) (fun c9' => ?_) (fun c9' => ?_)
  · have hG : (inB a 0 3) = false := bF p6'.1 c9'
    refine lv_iconst (v := 0) hx hb dX10_flight_21 (by decide) ?_
    exact wr_wi hx hb hr hlocks hW dX10_flight_22 (by first | exact ⟨go_mo p6'.2.2, p6'.2.1, fun z => absurd (hG.symm.trans z) (by decide), fun _ => ⟨hMX.oI p6'.2.2 (fun p k z => by omega), by rw [en, e17', p6'.2.2.1 _ _ (by omega)]; exact (hR.2.2.2.1 k hk).2.2.2.2.1⟩⟩ | exact ⟨go_mo p6'.2.2, p6'.2.1, fun _ => hMX.oI p6'.2.2 (fun p k z => by omega), fun z => absurd (hG.symm.trans z) (by decide)⟩)
  · have hG : (inB a 0 3) = true := bT p6'.1 c9'
    obtain ⟨k, hk, ek⟩ := in_n (n := 3) (by decide) hG
    have en : n1 a = k := by rw [ek]; exact n1_nI (by omega)
    refine lv_aload_n hx hb dX10_flight_12 rfl (lv_at hl 0 rfl) ?_
    refine wgF (t := 66) hx hb fa25 hW (hMs 60 (by decide) (by decide)) rfl dX10_flight_13 ?_
    refine lv_iload_n hx hb dX10_flight_16 rfl (lv_at hl 1 rfl) ?_
    refine walI (j := k) hx hb hK hW (hMs 66 (by decide) (by decide)) ek (by omega) (by decide) dX10_flight_17 (fun x17' e17' => ?_)
    refine lv_goto (tgt := 22) hx hb dX10_flight_18 (by decide) ?_
    exact wr_wi hx hb hr hlocks hW dX10_flight_22 (by first | exact ⟨go_mo p6'.2.2, p6'.2.1, fun z => absurd (hG.symm.trans z) (by decide), fun _ => ⟨hMX.oI p6'.2.2 (fun p k z => by omega), by rw [en, e17', p6'.2.2.1 _ _ (by omega)]; exact (hR.2.2.2.1 k hk).2.2.2.2.1⟩⟩ | exact ⟨go_mo p6'.2.2, p6'.2.1, fun _ => hMX.oI p6'.2.2 (fun p k z => by omega), fun z => absurd (hG.symm.trans z) (by decide)⟩)
set_option maxHeartbeats 4000000 in
set_option maxRecDepth 100000 in
theorem c_X10_inLayer (l : Launch) (D : va_G) (cA : Nat → ClassId) (sh : Nat → Option Sh) (ad : Nat → Nat) (M : MS) (sz : Nat) (σ : AS) (v : VT) (hMs : MSh sh) (hMX : MX σ v M) (a b : Int32) : Met l yX10_inLayer wsX10_inLayer ({ frames := 2, cells := 0, slots := 0, locals := 42 }) (wPc D cA sh ad M sz [.ref (ad 60), .int a, .int b]) (wQi D cA sh ad (fun r M' => oI moS M M' ∧ gI M' 60 28 = nI (thr (inB a 0 3 && inB b 0 3) true) ∧ ((inB a 0 3 && inB b 0 3) = false → MX σ v M') ∧ ((inB a 0 3 && inB b 0 3) = true → MX σ v M' ∧ r = nI (cntN (σ.1 2 (n1 a)) (σ.1 3 (n1 a)) (σ.2 11 (n1 a)) (n1 b)))) (wA sh ad sz)) 0 0 (wA sh ad sz) := by
  refine Met.ofW (cc := cX10_inLayer) (maxL := 3) (ret := (some .int)) (by decide) rfl ?_
  intro p e s m args below meth cd0 s₁ B hml hv
  obtain ⟨rfl, hsz, hM, hK⟩ := hv
  have hx := B.exec
  have hb := B.bytes
  have hr := B.returns
  have hts := atoms_spec (ws := wsX10_inLayer) B.pre
  have hown : s.vm.findClass RX10 = some m.cls := findClass_of_methodNamed B.named
  have hlocks := B.notSynchronized
  subst hsz
  have hA := wA_PA sh ad s.heap
  generalize wA sh ad s.heap.size = A at hA ⊢
  have hW : WS D cA sh ad A s.heap M s.heap [] := ⟨hM, va_S.rf⟩
  have fa31 : FA D s m ([.ref (ad 60), .int a, .int b] : List Value).toArray 31 10 7 := FA.mk (C := RX10) (T := TX10) (N := 29) hts (fun _ h => List.mem_cons_of_mem _ (List.mem_append_right _ (h))) hown hK rfl (by decide) (hts (.fieldLink RX10 31 "MortarShowModel" "ticks" "[I") (List.mem_of_getElem? (i := 1) rfl))
  have hl := lv_entry ([.ref (ad 60), .int a, .int b]) (n := 3) (Nat.le_of_ble_eq_true rfl)
  rw [lg_entry_eq]
  generalize (lg_sl ([.ref (ad 60), .int a, .int b]) ++ List.replicate (3 - (lg_sl ([.ref (ad 60), .int a, .int b])).length) Slot.unset).toArray = ls at hl ⊢
  have hl : lv_has ls 3 [(0, .ref (ad 60)), (1, .int a), (2, .int b)] := hl
  obtain ⟨ok, hR, hV, hT⟩ := hMX
  have hMX : MX σ v M := ⟨ok, hR, hV, hT⟩
  have o1 := ok.1
  refine lv_aload_n hx hb dX10_inLayer_0 rfl (lv_at hl 0 rfl) ?_
  have J20 : ∀ (y : Int32) (H : Heap) (locs : List Loc), (y = bI (inB a 0 3 && inB b 0 3)) → WS D cA sh ad A s.heap M H locs → ∀ ls, lv_has ls 3 [(0, .ref (ad 60)), (1, .int a), (2, .int b)] → W p l e (headSpec wsX10_inLayer { frames := 2, cells := 0, slots := 0, locals := 42 }).room s m ([.ref (ad 60), .int a, .int b] : List Value).toArray below meth cd0 H locs 0 0 (MQ below (wQi D cA sh ad (fun r M' => oI moS M M' ∧ gI M' 60 28 = nI (thr (inB a 0 3 && inB b 0 3) true) ∧ ((inB a 0 3 && inB b 0 3) = false → MX σ v M') ∧ ((inB a 0 3 && inB b 0 3) = true → MX σ v M' ∧ r = nI (cntN (σ.1 2 (n1 a)) (σ.1 3 (n1 a)) (σ.2 11 (n1 a)) (n1 b)))) A) ([.ref (ad 60), .int a, .int b] : List Value).toArray s 0 0 A) (F0 m 20 ls [.int y, .ref (ad 60)]) := by
    intro y H locs hy hW ls hl
    refine lv_iconst (v := 1) hx hb dX10_inLayer_20 (by decide) ?_
    refine wc_wi (va_runV (As := [.int y, .int 1]) (rest := []) ⟨hx, hb, hml, hown, hts⟩ (c_X10_goes l D cA sh ad M _ hMs y 1 (inB a 0 3 && inB b 0 3) true hy rfl) (cwV 2 hts gX10_inLayer_X10_goes rfl rfl rfl (by decide +kernel) ⟨Nat.le_of_ble_eq_true rfl, Nat.le_of_ble_eq_true rfl⟩) (wpreV hK hW (C := RX10) (ci := 10) (hMs 60 (by decide) (by decide)) rfl) rfl rfl hl.1 rfl (lv_room (Nat.le_of_ble_eq_true rfl)) dX10_inLayer_21 ⟨Nat.le_of_ble_eq_true rfl, Nat.le_of_ble_eq_true rfl⟩) hA hW (fun x21' M21' H locs p21' hW => ?_)
    try dsimp only at p21'
    refine lv_if_eq (tgt := 40) hx hb dX10_inLayer_24 (by decide) (fun c24' => ?_) (fun c24' => ?_)
    · have hG : (inB a 0 3 && inB b 0 3) = false := bF p21'.1 c24'
      refine lv_iconst (v := 0) hx hb dX10_inLayer_40 (by decide) ?_
      exact wr_wi hx hb hr hlocks hW dX10_inLayer_41 (by first | exact ⟨go_mo p21'.2.2, p21'.2.1, fun z => absurd (hG.symm.trans z) (by decide), fun _ => ⟨hMX.oI p21'.2.2 (fun p k z => by omega), by rw [en, en2, e36', p21'.2.2.1 _ _ (by omega)]; exact ((hR.2.2.2.1 k hk).2.2.2.2.2.2 y3 hy3).1⟩⟩ | exact ⟨go_mo p21'.2.2, p21'.2.1, fun _ => hMX.oI p21'.2.2 (fun p k z => by omega), fun z => absurd (hG.symm.trans z) (by decide)⟩)
    · have hG : (inB a 0 3 && inB b 0 3) = true := bT p21'.1 c24'
      have hG2 := hG
      rw [Bool.and_eq_true] at hG2
      obtain ⟨k, hk, ek⟩ := in_n (n := 3) (by decide) hG2.1
      have en : n1 a = k := by rw [ek]; exact n1_nI (by omega)
      obtain ⟨y3, hy3, ey3⟩ := in_n (n := 3) (by decide) hG2.2
      have en2 : n1 b = y3 := by rw [ey3]; exact n1_nI (by omega)
      refine lv_aload_n hx hb dX10_inLayer_27 rfl (lv_at hl 0 rfl) ?_
      refine wgF (t := 68) hx hb fa31 hW (hMs 60 (by decide) (by decide)) rfl dX10_inLayer_28 ?_
      refine lv_iconst (v := 4) hx hb dX10_inLayer_31 (by decide) ?_
      refine lv_iload_n hx hb dX10_inLayer_32 rfl (lv_at hl 1 rfl) ?_
      refine lv_imul hx hb dX10_inLayer_33 ?_
      refine lv_topi (fun x33' e33' => ?_)
      have n33' : x33' = nI (4 * k) := (by rw [e33', (nlit 4), ek, pk_mul])
      refine lv_iload_n hx hb dX10_inLayer_34 rfl (lv_at hl 2 rfl) ?_
      refine lv_iadd hx hb dX10_inLayer_35 ?_
      refine lv_topi (fun x35' e35' => ?_)
      have n35' : x35' = nI ((4 * k) + y3) := (by rw [e35', n33', ey3, nI_add])
      refine walI (j := ((4 * k) + y3)) hx hb hK hW (hMs 68 (by decide) (by decide)) n35' (by omega) (by decide) dX10_inLayer_36 (fun x36' e36' => ?_)
      refine lv_goto (tgt := 41) hx hb dX10_inLayer_37 (by decide) ?_
      exact wr_wi hx hb hr hlocks hW dX10_inLayer_41 (by first | exact ⟨go_mo p21'.2.2, p21'.2.1, fun z => absurd (hG.symm.trans z) (by decide), fun _ => ⟨hMX.oI p21'.2.2 (fun p k z => by omega), by rw [en, en2, e36', p21'.2.2.1 _ _ (by omega)]; exact ((hR.2.2.2.1 k hk).2.2.2.2.2.2 y3 hy3).1⟩⟩ | exact ⟨go_mo p21'.2.2, p21'.2.1, fun _ => hMX.oI p21'.2.2 (fun p k z => by omega), fun z => absurd (hG.symm.trans z) (by decide)⟩)
  refine lv_iload_n hx hb dX10_inLayer_1 rfl (lv_at hl 1 rfl) ?_
  refine wc_ri (va_runS (As := [.int a]) (rest := [.ref (ad 60)]) ⟨hx, hb, hml, hown, hts⟩ (c_X10_isKind l a) (va_cwS 1 hts gX10_inLayer_X10_isKind rfl rfl rfl (by decide +kernel) ⟨Nat.le_of_ble_eq_true rfl, Nat.le_of_ble_eq_true rfl⟩) npreS rfl rfl hl.1 rfl (lv_room (Nat.le_of_ble_eq_true rfl)) dX10_inLayer_2 ⟨Nat.le_of_ble_eq_true rfl, Nat.le_of_ble_eq_true rfl⟩) hW (fun x2' H locs p2' hW => ?_)
  try dsimp only at p2'
  refine lv_if_eq (tgt := 19) hx hb dX10_inLayer_5 (by decide) (fun c5' => ?_) (fun c5' => ?_)
  · refine lv_iconst (v := 0) hx hb dX10_inLayer_19 (by decide) ?_
    exact J20 0 _ _ (by first | (rw [bI_z.mp (p2'.symm.trans c5')]; rfl) | (rw [bI_z.mp (p2'.symm.trans c5')]; simp; done) | (rw [bI_t.mp (fun z => c5' (p2'.trans z)), bI_z.mp (p9'.symm.trans c12')]; rfl) | (rw [bI_t.mp (fun z => c5' (p2'.trans z)), bI_z.mp (p9'.symm.trans c12')]; simp; done) | (rw [bI_t.mp (fun z => c5' (p2'.trans z)), bI_t.mp (fun z => c12' (p9'.trans z))]; rfl)) hW ls (lv_sub hl [0, 1, 2] rfl)
  · refine lv_iload_n hx hb dX10_inLayer_8 rfl (lv_at hl 2 rfl) ?_
    refine wc_ri (va_runS (As := [.int b]) (rest := [.ref (ad 60)]) ⟨hx, hb, hml, hown, hts⟩ (c_X10_isLayer l b) (va_cwS 1 hts gX10_inLayer_X10_isLayer rfl rfl rfl (by decide +kernel) ⟨Nat.le_of_ble_eq_true rfl, Nat.le_of_ble_eq_true rfl⟩) npreS rfl rfl hl.1 rfl (lv_room (Nat.le_of_ble_eq_true rfl)) dX10_inLayer_9 ⟨Nat.le_of_ble_eq_true rfl, Nat.le_of_ble_eq_true rfl⟩) hW (fun x9' H locs p9' hW => ?_)
    try dsimp only at p9'
    refine lv_if_eq (tgt := 19) hx hb dX10_inLayer_12 (by decide) (fun c12' => ?_) (fun c12' => ?_)
    · refine lv_iconst (v := 0) hx hb dX10_inLayer_19 (by decide) ?_
      exact J20 0 _ _ (by first | (rw [bI_z.mp (p2'.symm.trans c5')]; rfl) | (rw [bI_z.mp (p2'.symm.trans c5')]; simp; done) | (rw [bI_t.mp (fun z => c5' (p2'.trans z)), bI_z.mp (p9'.symm.trans c12')]; rfl) | (rw [bI_t.mp (fun z => c5' (p2'.trans z)), bI_z.mp (p9'.symm.trans c12')]; simp; done) | (rw [bI_t.mp (fun z => c5' (p2'.trans z)), bI_t.mp (fun z => c12' (p9'.trans z))]; rfl)) hW ls (lv_sub hl [0, 1, 2] rfl)
    · refine lv_iconst (v := 1) hx hb dX10_inLayer_15 (by decide) ?_
      refine lv_goto (tgt := 20) hx hb dX10_inLayer_16 (by decide) ?_
      exact J20 1 _ _ (by first | (rw [bI_z.mp (p2'.symm.trans c5')]; rfl) | (rw [bI_z.mp (p2'.symm.trans c5')]; simp; done) | (rw [bI_t.mp (fun z => c5' (p2'.trans z)), bI_z.mp (p9'.symm.trans c12')]; rfl) | (rw [bI_t.mp (fun z => c5' (p2'.trans z)), bI_z.mp (p9'.symm.trans c12')]; simp; done) | (rw [bI_t.mp (fun z => c5' (p2'.trans z)), bI_t.mp (fun z => c12' (p9'.trans z))]; rfl)) hW ls (lv_sub hl [0, 1, 2] rfl)
set_option maxHeartbeats 4000000 in
set_option maxRecDepth 100000 in
theorem c_X10_firing (l : Launch) (D : va_G) (cA : Nat → ClassId) (sh : Nat → Option Sh) (ad : Nat → Nat) (M : MS) (sz : Nat) (σ : AS) (v : VT) (hMs : MSh sh) (hMX : MX σ v M) (a : Int32) : Met l yX10_firing wsX10_firing ({ frames := 4, cells := 0, slots := 0, locals := 97 }) (wPc D cA sh ad M sz [.ref (ad 60), .int a]) (wQi D cA sh ad (fun r M' => oI moS M M' ∧ MX σ v M' ∧ ∃ q c, Srt σ 40 q c ∧ gI M' 60 28 = nI (thr (fiB (lit σ q c) a) true) ∧ (fiB (lit σ q c) a = true → r = nI (firA σ q c (n1 a)))) (wA sh ad sz)) 0 0 (wA sh ad sz) := by
  refine Met.ofW (cc := cX10_firing) (maxL := 2) (ret := (some .int)) (by decide) rfl ?_
  intro p e s m args below meth cd0 s₁ B hml hv
  obtain ⟨rfl, hsz, hM, hK⟩ := hv
  have hx := B.exec
  have hb := B.bytes
  have hr := B.returns
  have hts := atoms_spec (ws := wsX10_firing) B.pre
  have hown : s.vm.findClass RX10 = some m.cls := findClass_of_methodNamed B.named
  have hlocks := B.notSynchronized
  subst hsz
  have hA := wA_PA sh ad s.heap
  generalize wA sh ad s.heap.size = A at hA ⊢
  have hW : WS D cA sh ad A s.heap M s.heap [] := ⟨hM, va_S.rf⟩
  have fa84 : FA D s m ([.ref (ad 60), .int a] : List Value).toArray 84 10 25 := FA.mk (C := RX10) (T := TX10) (N := 29) hts (fun _ h => List.mem_cons_of_mem _ (List.mem_append_right _ (h))) hown hK rfl (by decide) (hts (.fieldLink RX10 84 "MortarShowModel" "order" "[I") (List.mem_of_getElem? (i := 2) rfl))
  have fa147 : FA D s m ([.ref (ad 60), .int a] : List Value).toArray 147 10 27 := FA.mk (C := RX10) (T := TX10) (N := 29) hts (fun _ h => List.mem_cons_of_mem _ (List.mem_append_right _ (h))) hown hK rfl (by decide) (hts (.fieldLink RX10 147 "MortarShowModel" "fired" "I") (List.mem_of_getElem? (i := 1) rfl))
  have hl := lv_entry ([.ref (ad 60), .int a]) (n := 2) (Nat.le_of_ble_eq_true rfl)
  rw [lg_entry_eq]
  generalize (lg_sl ([.ref (ad 60), .int a]) ++ List.replicate (2 - (lg_sl ([.ref (ad 60), .int a])).length) Slot.unset).toArray = ls at hl ⊢
  have hl : lv_has ls 2 [(0, .ref (ad 60)), (1, .int a)] := hl
  obtain ⟨ok, hR, hV, hT⟩ := hMX
  have hMX : MX σ v M := ⟨ok, hR, hV, hT⟩
  have o1 := ok.1
  refine lv_aload_n hx hb dX10_firing_0 rfl (lv_at hl 0 rfl) ?_
  refine wc_wv (va_runV (As := []) (rest := []) ⟨hx, hb, hml, hown, hts⟩ (c_X10_lays l D cA sh ad M _ σ ok hMs hR) (cwV 0 hts gX10_firing_X10_lays rfl rfl rfl (by decide +kernel) ⟨Nat.le_of_ble_eq_true rfl, Nat.le_of_ble_eq_true rfl⟩) (wpreV hK hW (C := RX10) (ci := 10) (hMs 60 (by decide) (by decide)) rfl) rfl rfl hl.1 rfl (lv_room (Nat.le_of_ble_eq_true rfl)) dX10_firing_1 ⟨Nat.le_of_ble_eq_true rfl, Nat.le_of_ble_eq_true rfl⟩) hA hW (fun M1' H locs p1' hW => ?_)
  try dsimp only at p1'
  obtain ⟨o1x, q, c, La⟩ := p1'
  have hXa : MX σ v M1' := hMX.oI o1x (fun p k z => by unfold laS at z; omega)
  have hRa := hXa.2.1
  have hlc := lit_le σ q c
  have hc40 := La.1.2.2.2
  refine lv_aload_n hx hb dX10_firing_4 rfl (lv_at hl 0 rfl) ?_
  refine lv_iload_n hx hb dX10_firing_5 rfl (lv_at hl 1 rfl) ?_
  refine lv_iconst (v := 0) hx hb dX10_firing_6 (by decide) ?_
  refine lv_aload_n hx hb dX10_firing_7 rfl (lv_at hl 0 rfl) ?_
  refine wgI hx hb fa147 hW (hMs 60 (by decide) (by decide)) rfl dX10_firing_8 (fun x8' e8' => ?_)
  refine lv_iconst (v := 1) hx hb dX10_firing_11 (by decide) ?_
  refine lv_isub hx hb dX10_firing_12 ?_
  refine lv_topi (fun x12' e12' => ?_)
  refine wc_ri (va_runS (As := [.int a, .int 0, .int x12']) (rest := [.ref (ad 60)]) ⟨hx, hb, hml, hown, hts⟩ (c_X10_in l a 0 x12') (va_cwS 3 hts gX10_firing_X10_in rfl rfl rfl (by decide +kernel) ⟨Nat.le_of_ble_eq_true rfl, Nat.le_of_ble_eq_true rfl⟩) npreS rfl rfl hl.1 rfl (lv_room (Nat.le_of_ble_eq_true rfl)) dX10_firing_13 ⟨Nat.le_of_ble_eq_true rfl, Nat.le_of_ble_eq_true rfl⟩) hW (fun x13' H locs p13' hW => ?_)
  try dsimp only at p13'
  rw [e12', e8', La.2.2.2.1, inB_fi (by omega)] at p13'
  refine lv_iconst (v := 1) hx hb dX10_firing_16 (by decide) ?_
  refine wc_wi (va_runV (As := [.int x13', .int 1]) (rest := []) ⟨hx, hb, hml, hown, hts⟩ (c_X10_goes l D cA sh ad M1' _ hMs x13' 1 (fiB (lit σ q c) a) true p13' rfl) (cwV 2 hts gX10_firing_X10_goes rfl rfl rfl (by decide +kernel) ⟨Nat.le_of_ble_eq_true rfl, Nat.le_of_ble_eq_true rfl⟩) (wpreV hK hW (C := RX10) (ci := 10) (hMs 60 (by decide) (by decide)) rfl) rfl rfl hl.1 rfl (lv_room (Nat.le_of_ble_eq_true rfl)) dX10_firing_17 ⟨Nat.le_of_ble_eq_true rfl, Nat.le_of_ble_eq_true rfl⟩) hA hW (fun x17' M17' H locs p17' hW => ?_)
  try dsimp only at p17'
  refine lv_if_eq (tgt := 32) hx hb dX10_firing_20 (by decide) (fun c20' => ?_) (fun c20' => ?_)
  · have hG : fiB (lit σ q c) a = false := bF p17'.1 c20'
    refine lv_iconst (v := 0) hx hb dX10_firing_32 (by decide) ?_
    exact wr_wi hx hb hr hlocks hW dX10_firing_33 ⟨(laS_mo o1x).trans (go_mo p17'.2.2), hXa.oI p17'.2.2 (fun p k z => by omega), q, c, La.1, p17'.2.1, fun z => (by first | (rw [en, e28', p17'.2.2.1 _ _ (by omega)]; exact La.2.2.2.2 k hk) | exact absurd (hG.symm.trans z) (by decide))⟩
  · have hG : fiB (lit σ q c) a = true := bT p17'.1 c20'
    obtain ⟨k, hk, ek, en⟩ := fi_n hG
    refine lv_aload_n hx hb dX10_firing_23 rfl (lv_at hl 0 rfl) ?_
    refine wgF (t := 83) hx hb fa84 hW (hMs 60 (by decide) (by decide)) rfl dX10_firing_24 ?_
    refine lv_iload_n hx hb dX10_firing_27 rfl (lv_at hl 1 rfl) ?_
    refine walI (j := k) hx hb hK hW (hMs 83 (by decide) (by decide)) ek (by omega) (by decide) dX10_firing_28 (fun x28' e28' => ?_)
    refine lv_goto (tgt := 33) hx hb dX10_firing_29 (by decide) ?_
    exact wr_wi hx hb hr hlocks hW dX10_firing_33 ⟨(laS_mo o1x).trans (go_mo p17'.2.2), hXa.oI p17'.2.2 (fun p k z => by omega), q, c, La.1, p17'.2.1, fun z => (by first | (rw [en, e28', p17'.2.2.1 _ _ (by omega)]; exact La.2.2.2.2 k hk) | exact absurd (hG.symm.trans z) (by decide))⟩
set_option maxHeartbeats 4000000 in
set_option maxRecDepth 100000 in
theorem c_X10_cueOn (l : Launch) (D : va_G) (cA : Nat → ClassId) (sh : Nat → Option Sh) (ad : Nat → Nat) (M : MS) (sz : Nat) (σ : AS) (v : VT) (hMs : MSh sh) (hMX : MX σ v M) (a b : Int32) : Met l yX10_cueOn wsX10_cueOn ({ frames := 4, cells := 0, slots := 0, locals := 97 }) (wPc D cA sh ad M sz [.ref (ad 60), .int a, .int b]) (wQi D cA sh ad (fun r M' => oI moS M M' ∧ gI M' 60 28 = nI (thr (inB a 0 3 && inB b 0 7) true) ∧ ((inB a 0 3 && inB b 0 7) = false → MX σ v M') ∧ ((inB a 0 3 && inB b 0 7) = true → MX σ v M' ∧ ∃ q c, Srt σ 40 q c ∧ r = opI (gvn σ q c (8 * n1 a + n1 b)))) (wA sh ad sz)) 0 0 (wA sh ad sz) := by
  refine Met.ofW (cc := cX10_cueOn) (maxL := 3) (ret := (some .int)) (by decide) rfl ?_
  intro p e s m args below meth cd0 s₁ B hml hv
  obtain ⟨rfl, hsz, hM, hK⟩ := hv
  have hx := B.exec
  have hb := B.bytes
  have hr := B.returns
  have hts := atoms_spec (ws := wsX10_cueOn) B.pre
  have hown : s.vm.findClass RX10 = some m.cls := findClass_of_methodNamed B.named
  have hlocks := B.notSynchronized
  subst hsz
  have hA := wA_PA sh ad s.heap
  generalize wA sh ad s.heap.size = A at hA ⊢
  have hW : WS D cA sh ad A s.heap M s.heap [] := ⟨hM, va_S.rf⟩
  have fa87 : FA D s m ([.ref (ad 60), .int a, .int b] : List Value).toArray 87 10 26 := FA.mk (C := RX10) (T := TX10) (N := 29) hts (fun _ h => List.mem_cons_of_mem _ (List.mem_append_right _ (h))) hown hK rfl (by decide) (hts (.fieldLink RX10 87 "MortarShowModel" "given" "[I") (List.mem_of_getElem? (i := 1) rfl))
  have hl := lv_entry ([.ref (ad 60), .int a, .int b]) (n := 3) (Nat.le_of_ble_eq_true rfl)
  rw [lg_entry_eq]
  generalize (lg_sl ([.ref (ad 60), .int a, .int b]) ++ List.replicate (3 - (lg_sl ([.ref (ad 60), .int a, .int b])).length) Slot.unset).toArray = ls at hl ⊢
  have hl : lv_has ls 3 [(0, .ref (ad 60)), (1, .int a), (2, .int b)] := hl
  obtain ⟨ok, hR, hV, hT⟩ := hMX
  have hMX : MX σ v M := ⟨ok, hR, hV, hT⟩
  have o1 := ok.1
  refine lv_aload_n hx hb dX10_cueOn_0 rfl (lv_at hl 0 rfl) ?_
  refine wc_wv (va_runV (As := []) (rest := []) ⟨hx, hb, hml, hown, hts⟩ (c_X10_lays l D cA sh ad M _ σ ok hMs hR) (cwV 0 hts gX10_cueOn_X10_lays rfl rfl rfl (by decide +kernel) ⟨Nat.le_of_ble_eq_true rfl, Nat.le_of_ble_eq_true rfl⟩) (wpreV hK hW (C := RX10) (ci := 10) (hMs 60 (by decide) (by decide)) rfl) rfl rfl hl.1 rfl (lv_room (Nat.le_of_ble_eq_true rfl)) dX10_cueOn_1 ⟨Nat.le_of_ble_eq_true rfl, Nat.le_of_ble_eq_true rfl⟩) hA hW (fun M1' H locs p1' hW => ?_)
  try dsimp only at p1'
  obtain ⟨o1x, q, c, La⟩ := p1'
  have hXa : MX σ v M1' := hMX.oI o1x (fun p k z => by unfold laS at z; omega)
  have hRa := hXa.2.1
  have hlc := lit_le σ q c
  have hc40 := La.1.2.2.2
  refine lv_aload_n hx hb dX10_cueOn_4 rfl (lv_at hl 0 rfl) ?_
  refine lv_iload_n hx hb dX10_cueOn_5 rfl (lv_at hl 1 rfl) ?_
  refine lv_iload_n hx hb dX10_cueOn_6 rfl (lv_at hl 2 rfl) ?_
  refine wc_ri (va_runS (As := [.int a, .int b]) (rest := [.ref (ad 60)]) ⟨hx, hb, hml, hown, hts⟩ (c_X10_isChannel l a b) (va_cwS 2 hts gX10_cueOn_X10_isChannel rfl rfl rfl (by decide +kernel) ⟨Nat.le_of_ble_eq_true rfl, Nat.le_of_ble_eq_true rfl⟩) npreS rfl rfl hl.1 rfl (lv_room (Nat.le_of_ble_eq_true rfl)) dX10_cueOn_7 ⟨Nat.le_of_ble_eq_true rfl, Nat.le_of_ble_eq_true rfl⟩) hW (fun x7' H locs p7' hW => ?_)
  try dsimp only at p7'
  refine lv_iconst (v := 1) hx hb dX10_cueOn_10 (by decide) ?_
  refine wc_wi (va_runV (As := [.int x7', .int 1]) (rest := []) ⟨hx, hb, hml, hown, hts⟩ (c_X10_goes l D cA sh ad M1' _ hMs x7' 1 (inB a 0 3 && inB b 0 7) true p7' rfl) (cwV 2 hts gX10_cueOn_X10_goes rfl rfl rfl (by decide +kernel) ⟨Nat.le_of_ble_eq_true rfl, Nat.le_of_ble_eq_true rfl⟩) (wpreV hK hW (C := RX10) (ci := 10) (hMs 60 (by decide) (by decide)) rfl) rfl rfl hl.1 rfl (lv_room (Nat.le_of_ble_eq_true rfl)) dX10_cueOn_11 ⟨Nat.le_of_ble_eq_true rfl, Nat.le_of_ble_eq_true rfl⟩) hA hW (fun x11' M11' H locs p11' hW => ?_)
  try dsimp only at p11'
  refine lv_if_eq (tgt := 31) hx hb dX10_cueOn_14 (by decide) (fun c14' => ?_) (fun c14' => ?_)
  · have hG : (inB a 0 3 && inB b 0 7) = false := bF p11'.1 c14'
    refine lv_iconst (v := 0) hx hb dX10_cueOn_31 (by decide) ?_
    exact wr_wi hx hb hr hlocks hW dX10_cueOn_32 (by first | exact ⟨(laS_mo o1x).trans (go_mo p11'.2.2), p11'.2.1, fun z => absurd (hG.symm.trans z) (by decide), fun _ => ⟨hXa.oI p11'.2.2 (fun p k z => by omega), q, c, La.1, by rw [en, en2, e27', p11'.2.2.1 _ _ (by omega)]; exact La.2.2.1 _ (by omega)⟩⟩ | exact ⟨(laS_mo o1x).trans (go_mo p11'.2.2), p11'.2.1, fun _ => hXa.oI p11'.2.2 (fun p k z => by omega), fun z => absurd (hG.symm.trans z) (by decide)⟩)
  · have hG : (inB a 0 3 && inB b 0 7) = true := bT p11'.1 c14'
    have hG2 := hG
    rw [Bool.and_eq_true] at hG2
    obtain ⟨k, hk, ek⟩ := in_n (n := 3) (by decide) hG2.1
    have en : n1 a = k := by rw [ek]; exact n1_nI (by omega)
    obtain ⟨y3, hy3, ey3⟩ := in_n (n := 7) (by decide) hG2.2
    have en2 : n1 b = y3 := by rw [ey3]; exact n1_nI (by omega)
    refine lv_aload_n hx hb dX10_cueOn_17 rfl (lv_at hl 0 rfl) ?_
    refine wgF (t := 84) hx hb fa87 hW (hMs 60 (by decide) (by decide)) rfl dX10_cueOn_18 ?_
    refine lv_bipush (v := 8) hx hb dX10_cueOn_21 (by decide) ?_
    refine lv_iload_n hx hb dX10_cueOn_23 rfl (lv_at hl 1 rfl) ?_
    refine lv_imul hx hb dX10_cueOn_24 ?_
    refine lv_topi (fun x24' e24' => ?_)
    have n24' : x24' = nI (8 * k) := (by rw [e24', (nlit 8), ek, pk_mul])
    refine lv_iload_n hx hb dX10_cueOn_25 rfl (lv_at hl 2 rfl) ?_
    refine lv_iadd hx hb dX10_cueOn_26 ?_
    refine lv_topi (fun x26' e26' => ?_)
    have n26' : x26' = nI ((8 * k) + y3) := (by rw [e26', n24', ey3, nI_add])
    refine walI (j := ((8 * k) + y3)) hx hb hK hW (hMs 84 (by decide) (by decide)) n26' (by omega) (by decide) dX10_cueOn_27 (fun x27' e27' => ?_)
    refine lv_goto (tgt := 32) hx hb dX10_cueOn_28 (by decide) ?_
    exact wr_wi hx hb hr hlocks hW dX10_cueOn_32 (by first | exact ⟨(laS_mo o1x).trans (go_mo p11'.2.2), p11'.2.1, fun z => absurd (hG.symm.trans z) (by decide), fun _ => ⟨hXa.oI p11'.2.2 (fun p k z => by omega), q, c, La.1, by rw [en, en2, e27', p11'.2.2.1 _ _ (by omega)]; exact La.2.2.1 _ (by omega)⟩⟩ | exact ⟨(laS_mo o1x).trans (go_mo p11'.2.2), p11'.2.1, fun _ => hXa.oI p11'.2.2 (fun p k z => by omega), fun z => absurd (hG.symm.trans z) (by decide)⟩)
set_option maxHeartbeats 4000000 in
set_option maxRecDepth 100000 in
theorem c_X10_falls (l : Launch) (D : va_G) (cA : Nat → ClassId) (sh : Nat → Option Sh) (ad : Nat → Nat) (M : MS) (sz : Nat) (σ : AS) (v : VT) (hMs : MSh sh) (hMX : MX σ v M) (a b : Int32) : Met l yX10_falls wsX10_falls ({ frames := 2, cells := 0, slots := 0, locals := 43 }) (wPc D cA sh ad M sz [.ref (ad 60), .int a, .int b]) (wQi D cA sh ad (fun r M' => oI moS M M' ∧ gI M' 60 28 = nI (thr (cuB σ a) (inB b 0 3)) ∧ MX σ v M' ∧ (cuB σ a = true → inB b 0 3 = true → r = tolA σ (n1 a) b)) (wA sh ad sz)) 0 0 (wA sh ad sz) := by
  refine Met.ofW (cc := cX10_falls) (maxL := 4) (ret := (some .int)) (by decide) rfl ?_
  intro p e s m args below meth cd0 s₁ B hml hv
  obtain ⟨rfl, hsz, hM, hK⟩ := hv
  have hx := B.exec
  have hb := B.bytes
  have hr := B.returns
  have hts := atoms_spec (ws := wsX10_falls) B.pre
  have hown : s.vm.findClass RX10 = some m.cls := findClass_of_methodNamed B.named
  have hlocks := B.notSynchronized
  subst hsz
  have hA := wA_PA sh ad s.heap
  generalize wA sh ad s.heap.size = A at hA ⊢
  have hW : WS D cA sh ad A s.heap M s.heap [] := ⟨hM, va_S.rf⟩
  have hl := lv_entry ([.ref (ad 60), .int a, .int b]) (n := 4) (Nat.le_of_ble_eq_true rfl)
  rw [lg_entry_eq]
  generalize (lg_sl ([.ref (ad 60), .int a, .int b]) ++ List.replicate (4 - (lg_sl ([.ref (ad 60), .int a, .int b])).length) Slot.unset).toArray = ls at hl ⊢
  have hl : lv_has ls 4 [(0, .ref (ad 60)), (1, .int a), (2, .int b)] := hl
  obtain ⟨ok, hR, hV, hT⟩ := hMX
  have hMX : MX σ v M := ⟨ok, hR, hV, hT⟩
  have o1 := ok.1
  refine lv_aload_n hx hb dX10_falls_0 rfl (lv_at hl 0 rfl) ?_
  refine lv_aload_n hx hb dX10_falls_1 rfl (lv_at hl 0 rfl) ?_
  refine lv_iload_n hx hb dX10_falls_2 rfl (lv_at hl 1 rfl) ?_
  refine wc_ri (va_runV (As := [.int a]) (rest := [.ref (ad 60)]) ⟨hx, hb, hml, hown, hts⟩ (c_X10_isCue l D cA sh ad M _ σ ok hMs hR a) (cwV 1 hts gX10_falls_X10_isCue rfl rfl rfl (by decide +kernel) ⟨Nat.le_of_ble_eq_true rfl, Nat.le_of_ble_eq_true rfl⟩) (wpreV hK hW (C := RX10) (ci := 10) (hMs 60 (by decide) (by decide)) rfl) rfl rfl hl.1 rfl (lv_room (Nat.le_of_ble_eq_true rfl)) dX10_falls_3 ⟨Nat.le_of_ble_eq_true rfl, Nat.le_of_ble_eq_true rfl⟩) hW (fun x3' H locs p3' hW => ?_)
  try dsimp only at p3'
  refine lv_iload_n hx hb dX10_falls_6 rfl (lv_at hl 2 rfl) ?_
  refine lv_iconst (v := 0) hx hb dX10_falls_7 (by decide) ?_
  refine lv_iconst (v := 3) hx hb dX10_falls_8 (by decide) ?_
  refine wc_ri (va_runS (As := [.int b, .int 0, .int 3]) (rest := [.int x3', .ref (ad 60)]) ⟨hx, hb, hml, hown, hts⟩ (c_X10_in l b 0 3) (va_cwS 3 hts gX10_falls_X10_in rfl rfl rfl (by decide +kernel) ⟨Nat.le_of_ble_eq_true rfl, Nat.le_of_ble_eq_true rfl⟩) npreS rfl rfl hl.1 rfl (lv_room (Nat.le_of_ble_eq_true rfl)) dX10_falls_9 ⟨Nat.le_of_ble_eq_true rfl, Nat.le_of_ble_eq_true rfl⟩) hW (fun x9' H locs p9' hW => ?_)
  try dsimp only at p9'
  refine wc_wi (va_runV (As := [.int x3', .int x9']) (rest := []) ⟨hx, hb, hml, hown, hts⟩ (c_X10_goes l D cA sh ad M _ hMs x3' x9' (cuB σ a) (inB b 0 3) p3' p9') (cwV 2 hts gX10_falls_X10_goes rfl rfl rfl (by decide +kernel) ⟨Nat.le_of_ble_eq_true rfl, Nat.le_of_ble_eq_true rfl⟩) (wpreV hK hW (C := RX10) (ci := 10) (hMs 60 (by decide) (by decide)) rfl) rfl rfl hl.1 rfl (lv_room (Nat.le_of_ble_eq_true rfl)) dX10_falls_12 ⟨Nat.le_of_ble_eq_true rfl, Nat.le_of_ble_eq_true rfl⟩) hA hW (fun x12' M12' H locs p12' hW => ?_)
  try dsimp only at p12'
  refine lv_if_ne (tgt := 20) hx hb dX10_falls_15 (by decide) (fun c15' => ?_) (fun c15' => ?_)
  · have hG2 : cuB σ a = true ∧ inB b 0 3 = true := by have := bI_t.mp (fun z => c15' (p12'.1.trans z)); rw [Bool.and_eq_true] at this; exact this
    have hG := hG2.1
    obtain ⟨i, hi, ea, hg, en⟩ := cu_n ok hG
    obtain ⟨ob, hkd, hrk, og⟩ := ok.2.2.2.2.2.2.1 i hi
    have hXa := hMX.oI p12'.2.2 (fun p k z => by omega)
    have hRa := hXa.2.1
    obtain ⟨w, hw4, ew⟩ := in_n (n := 3) (by decide) hG2.2
    have fb := fal_bd ok hi
    refine lv_aload_n hx hb dX10_falls_20 rfl (lv_at hl 0 rfl) ?_
    refine lv_iload_n hx hb dX10_falls_21 rfl (lv_at hl 1 rfl) ?_
    have J34 : ∀ (yd : Int32) (H : Heap) (locs : List Loc), (yd = bI (decide (w % 2 = 1))) → WS D cA sh ad A s.heap M12' H locs → ∀ ls, lv_has ls 4 [(0, .ref (ad 60)), (1, .int a), (2, .int b)] → W p l e (headSpec wsX10_falls { frames := 2, cells := 0, slots := 0, locals := 43 }).room s m ([.ref (ad 60), .int a, .int b] : List Value).toArray below meth cd0 H locs 0 0 (MQ below (wQi D cA sh ad (fun r M' => oI moS M M' ∧ gI M' 60 28 = nI (thr (cuB σ a) (inB b 0 3)) ∧ MX σ v M' ∧ (cuB σ a = true → inB b 0 3 = true → r = tolA σ (n1 a) b)) A) ([.ref (ad 60), .int a, .int b] : List Value).toArray s 0 0 A) (F0 m 34 ls [.int yd, .int a, .ref (ad 60)]) := by
      intro yd H locs hyd hW ls hl
      refine lv_iconst (v := 1) hx hb dX10_falls_34 (by decide) ?_
      refine wc_ri (va_runV (As := [.int a, .int yd, .int 1]) (rest := []) ⟨hx, hb, hml, hown, hts⟩ (c_X10_distance l D cA sh ad M12' _ σ ok hMs hRa i hi a ea yd 1 (decide (w % 2 = 1)) true hyd rfl) (cwV 3 hts gX10_falls_X10_distance rfl rfl rfl (by decide +kernel) ⟨Nat.le_of_ble_eq_true rfl, Nat.le_of_ble_eq_true rfl⟩) (wpreV hK hW (C := RX10) (ci := 10) (hMs 60 (by decide) (by decide)) rfl) rfl rfl hl.1 rfl (lv_room (Nat.le_of_ble_eq_true rfl)) dX10_falls_35 ⟨Nat.le_of_ble_eq_true rfl, Nat.le_of_ble_eq_true rfl⟩) hW (fun x35' H locs p35' hW => ?_)
      try dsimp only at p35'
      refine lv_istore_n (lv' := [(3, .int x35'), (0, .ref (ad 60)), (1, .int a), (2, .int b)]) hx hb dX10_falls_38 rfl hl (by decide) rfl (fun ls hl => ?_)
      refine lv_iload_n hx hb dX10_falls_39 rfl (lv_at hl 3 rfl) ?_
      refine lv_iconst (v := 2) hx hb dX10_falls_40 (by decide) ?_
      refine lv_icmp_ge (tgt := 48) hx hb dX10_falls_41 (by decide) (fun c41' => ?_) (fun c41' => ?_)
      · have k41' : 2 ≤ w := kc_ge ew (nlit 2) (by omega) (by omega) c41'
        refine lv_iload_n hx hb dX10_falls_48 rfl (lv_at hl 0 rfl) ?_
        refine wc_ri (va_runS (As := [.int x35']) (rest := []) ⟨hx, hb, hml, hown, hts⟩ (c_X10_down l x35') (va_cwS 1 hts gX10_falls_X10_down rfl rfl rfl (by decide +kernel) ⟨Nat.le_of_ble_eq_true rfl, Nat.le_of_ble_eq_true rfl⟩) npreS rfl rfl hl.1 rfl (lv_room (Nat.le_of_ble_eq_true rfl)) dX10_falls_49 ⟨Nat.le_of_ble_eq_true rfl, Nat.le_of_ble_eq_true rfl⟩) hW (fun x49' H locs p49' hW => ?_)
        try dsimp only at p49'
        exact wr_wi hx hb hr hlocks hW dX10_falls_52 ⟨go_mo p12'.2.2, p12'.2.1, hXa, fun _ _ => by rw [en]; first | (rw [p35']; exact tol_m1 ew hw4 k41') | (rw [p49', p35']; exact tol_m2 fb ew hw4 k41')⟩
      · have k41' : ¬ 2 ≤ w := kc_gen ew (nlit 2) (by omega) (by omega) c41'
        refine lv_iload_n hx hb dX10_falls_44 rfl (lv_at hl 0 rfl) ?_
        refine lv_goto (tgt := 52) hx hb dX10_falls_45 (by decide) ?_
        exact wr_wi hx hb hr hlocks hW dX10_falls_52 ⟨go_mo p12'.2.2, p12'.2.1, hXa, fun _ _ => by rw [en]; first | (rw [p35']; exact tol_m1 ew hw4 k41') | (rw [p49', p35']; exact tol_m2 fb ew hw4 k41')⟩
    refine lv_iload_n hx hb dX10_falls_22 rfl (lv_at hl 2 rfl) ?_
    refine lv_iconst (v := 2) hx hb dX10_falls_23 (by decide) ?_
    refine lv_irem hx hb dX10_falls_24 (by decide) ?_
    refine lv_topi (fun x24' e24' => ?_)
    have n24' : x24' = nI (w % 2) := (by rw [e24', ew, (nlit 2)]; exact pk_rem (by omega) (by omega) (by omega))
    refine lv_iconst (v := 1) hx hb dX10_falls_25 (by decide) ?_
    refine lv_icmp_ne (tgt := 33) hx hb dX10_falls_26 (by decide) (fun c26' => ?_) (fun c26' => ?_)
    · have k26' : ¬ (w % 2) = 1 := kc_ne n24' (nlit 1) (by omega) (by omega) c26'
      refine lv_iconst (v := 0) hx hb dX10_falls_33 (by decide) ?_
      exact J34 0 _ _ (by first | (rw [decide_eq_true k26']; rfl) | (rw [decide_eq_false k26']; rfl)) hW ls (lv_sub hl [0, 1, 2] rfl)
    · have k26' : (w % 2) = 1 := kc_nen n24' (nlit 1) (by omega) (by omega) c26'
      refine lv_iconst (v := 1) hx hb dX10_falls_29 (by decide) ?_
      refine lv_goto (tgt := 34) hx hb dX10_falls_30 (by decide) ?_
      exact J34 1 _ _ (by first | (rw [decide_eq_true k26']; rfl) | (rw [decide_eq_false k26']; rfl)) hW ls (lv_sub hl [0, 1, 2] rfl)
  · have hG : (cuB σ a && inB b 0 3) = false := bI_z.mp (p12'.1.symm.trans c15')
    refine lv_iconst (v := 0) hx hb dX10_falls_18 (by decide) ?_
    exact wr_wi hx hb hr hlocks hW dX10_falls_19 ⟨go_mo p12'.2.2, p12'.2.1, hMX.oI p12'.2.2 (fun p k z => by omega), fun z1 z2 => absurd (hG.symm.trans (by rw [z1, z2])) (by decide)⟩
set_option maxHeartbeats 4000000 in
set_option maxRecDepth 100000 in
theorem c_X10_fallsBySteps (l : Launch) (D : va_G) (cA : Nat → ClassId) (sh : Nat → Option Sh) (ad : Nat → Nat) (M : MS) (sz : Nat) (σ : AS) (v : VT) (hMs : MSh sh) (hMX : MX σ v M) (a b : Int32) : Met l yX10_fallsBySteps wsX10_fallsBySteps ({ frames := 3, cells := 0, slots := 0, locals := 66 }) (wPc D cA sh ad M sz [.ref (ad 60), .int a, .int b]) (wQi D cA sh ad (fun r M' => oI moS M M' ∧ gI M' 60 28 = nI (thr (cuB σ a) (inB b 0 3)) ∧ MX σ v M' ∧ (cuB σ a = true → inB b 0 3 = true → r = tolA σ (n1 a) b)) (wA sh ad sz)) 0 0 (wA sh ad sz) := by
  refine Met.ofW (cc := cX10_fallsBySteps) (maxL := 3) (ret := (some .int)) (by decide) rfl ?_
  intro p e s m args below meth cd0 s₁ B hml hv
  obtain ⟨rfl, hsz, hM, hK⟩ := hv
  have hx := B.exec
  have hb := B.bytes
  have hr := B.returns
  have hts := atoms_spec (ws := wsX10_fallsBySteps) B.pre
  have hown : s.vm.findClass RX10 = some m.cls := findClass_of_methodNamed B.named
  have hlocks := B.notSynchronized
  subst hsz
  have hA := wA_PA sh ad s.heap
  generalize wA sh ad s.heap.size = A at hA ⊢
  have hW : WS D cA sh ad A s.heap M s.heap [] := ⟨hM, va_S.rf⟩
  have hl := lv_entry ([.ref (ad 60), .int a, .int b]) (n := 3) (Nat.le_of_ble_eq_true rfl)
  rw [lg_entry_eq]
  generalize (lg_sl ([.ref (ad 60), .int a, .int b]) ++ List.replicate (3 - (lg_sl ([.ref (ad 60), .int a, .int b])).length) Slot.unset).toArray = ls at hl ⊢
  have hl : lv_has ls 3 [(0, .ref (ad 60)), (1, .int a), (2, .int b)] := hl
  obtain ⟨ok, hR, hV, hT⟩ := hMX
  have hMX : MX σ v M := ⟨ok, hR, hV, hT⟩
  have o1 := ok.1
  refine lv_aload_n hx hb dX10_fallsBySteps_0 rfl (lv_at hl 0 rfl) ?_
  refine lv_iload_n hx hb dX10_fallsBySteps_1 rfl (lv_at hl 1 rfl) ?_
  refine lv_iload_n hx hb dX10_fallsBySteps_2 rfl (lv_at hl 2 rfl) ?_
  refine wc_wi (va_runV (As := [.int a, .int b]) (rest := []) ⟨hx, hb, hml, hown, hts⟩ (c_X10_falls l D cA sh ad M _ σ v hMs hMX a b) (cwV 2 hts gX10_fallsBySteps_X10_falls rfl rfl rfl (by decide +kernel) ⟨Nat.le_of_ble_eq_true rfl, Nat.le_of_ble_eq_true rfl⟩) (wpreV hK hW (C := RX10) (ci := 10) (hMs 60 (by decide) (by decide)) rfl) rfl rfl hl.1 rfl (lv_room (Nat.le_of_ble_eq_true rfl)) dX10_fallsBySteps_3 ⟨Nat.le_of_ble_eq_true rfl, Nat.le_of_ble_eq_true rfl⟩) hA hW (fun x3' M3' H locs p3' hW => ?_)
  try dsimp only at p3'
  exact wr_wi hx hb hr hlocks hW dX10_fallsBySteps_6 p3'
set_option maxHeartbeats 4000000 in
set_option maxRecDepth 100000 in
theorem c_X10_burstAt (l : Launch) (D : va_G) (cA : Nat → ClassId) (sh : Nat → Option Sh) (ad : Nat → Nat) (M : MS) (sz : Nat) (σ : AS) (v : VT) (hMs : MSh sh) (hMX : MX σ v M) (a b : Int32) : Met l yX10_burstAt wsX10_burstAt ({ frames := 2, cells := 0, slots := 0, locals := 43 }) (wPc D cA sh ad M sz [.ref (ad 60), .int a, .int b]) (wQi D cA sh ad (fun r M' => oI moS M M' ∧ gI M' 60 28 = nI (thr (cuB σ a) (inB b 0 2)) ∧ MX σ v M' ∧ (cuB σ a = true → inB b 0 2 = true → r = bstA σ (n1 a) b)) (wA sh ad sz)) 0 0 (wA sh ad sz) := by
  refine Met.ofW (cc := cX10_burstAt) (maxL := 3) (ret := (some .int)) (by decide) rfl ?_
  intro p e s m args below meth cd0 s₁ B hml hv
  obtain ⟨rfl, hsz, hM, hK⟩ := hv
  have hx := B.exec
  have hb := B.bytes
  have hr := B.returns
  have hts := atoms_spec (ws := wsX10_burstAt) B.pre
  have hown : s.vm.findClass RX10 = some m.cls := findClass_of_methodNamed B.named
  have hlocks := B.notSynchronized
  subst hsz
  have hA := wA_PA sh ad s.heap
  generalize wA sh ad s.heap.size = A at hA ⊢
  have hW : WS D cA sh ad A s.heap M s.heap [] := ⟨hM, va_S.rf⟩
  have fa28 : FA D s m ([.ref (ad 60), .int a, .int b] : List Value).toArray 28 10 6 := FA.mk (C := RX10) (T := TX10) (N := 29) hts (fun _ h => List.mem_cons_of_mem _ (List.mem_append_right _ (h))) hown hK rfl (by decide) (hts (.fieldLink RX10 28 "MortarShowModel" "height" "[I") (List.mem_of_getElem? (i := 1) rfl))
  have fa66 : FA D s m ([.ref (ad 60), .int a, .int b] : List Value).toArray 66 10 19 := FA.mk (C := RX10) (T := TX10) (N := 29) hts (fun _ h => List.mem_cons_of_mem _ (List.mem_append_right _ (h))) hown hK rfl (by decide) (hts (.fieldLink RX10 66 "MortarShowModel" "kind" "[I") (List.mem_of_getElem? (i := 2) rfl))
  have hl := lv_entry ([.ref (ad 60), .int a, .int b]) (n := 3) (Nat.le_of_ble_eq_true rfl)
  rw [lg_entry_eq]
  generalize (lg_sl ([.ref (ad 60), .int a, .int b]) ++ List.replicate (3 - (lg_sl ([.ref (ad 60), .int a, .int b])).length) Slot.unset).toArray = ls at hl ⊢
  have hl : lv_has ls 3 [(0, .ref (ad 60)), (1, .int a), (2, .int b)] := hl
  obtain ⟨ok, hR, hV, hT⟩ := hMX
  have hMX : MX σ v M := ⟨ok, hR, hV, hT⟩
  have o1 := ok.1
  refine lv_aload_n hx hb dX10_burstAt_0 rfl (lv_at hl 0 rfl) ?_
  refine lv_aload_n hx hb dX10_burstAt_1 rfl (lv_at hl 0 rfl) ?_
  refine lv_iload_n hx hb dX10_burstAt_2 rfl (lv_at hl 1 rfl) ?_
  refine wc_ri (va_runV (As := [.int a]) (rest := [.ref (ad 60)]) ⟨hx, hb, hml, hown, hts⟩ (c_X10_isCue l D cA sh ad M _ σ ok hMs hR a) (cwV 1 hts gX10_burstAt_X10_isCue rfl rfl rfl (by decide +kernel) ⟨Nat.le_of_ble_eq_true rfl, Nat.le_of_ble_eq_true rfl⟩) (wpreV hK hW (C := RX10) (ci := 10) (hMs 60 (by decide) (by decide)) rfl) rfl rfl hl.1 rfl (lv_room (Nat.le_of_ble_eq_true rfl)) dX10_burstAt_3 ⟨Nat.le_of_ble_eq_true rfl, Nat.le_of_ble_eq_true rfl⟩) hW (fun x3' H locs p3' hW => ?_)
  try dsimp only at p3'
  refine lv_iload_n hx hb dX10_burstAt_6 rfl (lv_at hl 2 rfl) ?_
  refine lv_iconst (v := 0) hx hb dX10_burstAt_7 (by decide) ?_
  refine lv_iconst (v := 2) hx hb dX10_burstAt_8 (by decide) ?_
  refine wc_ri (va_runS (As := [.int b, .int 0, .int 2]) (rest := [.int x3', .ref (ad 60)]) ⟨hx, hb, hml, hown, hts⟩ (c_X10_in l b 0 2) (va_cwS 3 hts gX10_burstAt_X10_in rfl rfl rfl (by decide +kernel) ⟨Nat.le_of_ble_eq_true rfl, Nat.le_of_ble_eq_true rfl⟩) npreS rfl rfl hl.1 rfl (lv_room (Nat.le_of_ble_eq_true rfl)) dX10_burstAt_9 ⟨Nat.le_of_ble_eq_true rfl, Nat.le_of_ble_eq_true rfl⟩) hW (fun x9' H locs p9' hW => ?_)
  try dsimp only at p9'
  refine wc_wi (va_runV (As := [.int x3', .int x9']) (rest := []) ⟨hx, hb, hml, hown, hts⟩ (c_X10_goes l D cA sh ad M _ hMs x3' x9' (cuB σ a) (inB b 0 2) p3' p9') (cwV 2 hts gX10_burstAt_X10_goes rfl rfl rfl (by decide +kernel) ⟨Nat.le_of_ble_eq_true rfl, Nat.le_of_ble_eq_true rfl⟩) (wpreV hK hW (C := RX10) (ci := 10) (hMs 60 (by decide) (by decide)) rfl) rfl rfl hl.1 rfl (lv_room (Nat.le_of_ble_eq_true rfl)) dX10_burstAt_12 ⟨Nat.le_of_ble_eq_true rfl, Nat.le_of_ble_eq_true rfl⟩) hA hW (fun x12' M12' H locs p12' hW => ?_)
  try dsimp only at p12'
  refine lv_if_ne (tgt := 20) hx hb dX10_burstAt_15 (by decide) (fun c15' => ?_) (fun c15' => ?_)
  · have hG2 : cuB σ a = true ∧ inB b 0 2 = true := by have := bI_t.mp (fun z => c15' (p12'.1.trans z)); rw [Bool.and_eq_true] at this; exact this
    have hG := hG2.1
    obtain ⟨i, hi, ea, hg, en⟩ := cu_n ok hG
    obtain ⟨ob, hkd, hrk, og⟩ := ok.2.2.2.2.2.2.1 i hi
    have hXa := hMX.oI p12'.2.2 (fun p k z => by omega)
    have hRa := hXa.2.1
    obtain ⟨w, hw3, ew⟩ := in_n (n := 2) (by decide) hG2.2
    refine lv_iload_n hx hb dX10_burstAt_20 rfl (lv_at hl 2 rfl) ?_
    refine lv_iconst (v := 2) hx hb dX10_burstAt_21 (by decide) ?_
    refine lv_icmp_ne (tgt := 39) hx hb dX10_burstAt_22 (by decide) (fun c22' => ?_) (fun c22' => ?_)
    · have k22' : ¬ w = 2 := kc_ne ew (nlit 2) (by omega) (by omega) c22'
      refine lv_aload_n hx hb dX10_burstAt_39 rfl (lv_at hl 0 rfl) ?_
      refine lv_iload_n hx hb dX10_burstAt_40 rfl (lv_at hl 1 rfl) ?_
      have J51 : ∀ (yd : Int32) (H : Heap) (locs : List Loc), (yd = bI (decide (w = 1))) → WS D cA sh ad A s.heap M12' H locs → ∀ ls, lv_has ls 3 [(0, .ref (ad 60)), (1, .int a), (2, .int b)] → W p l e (headSpec wsX10_burstAt { frames := 2, cells := 0, slots := 0, locals := 43 }).room s m ([.ref (ad 60), .int a, .int b] : List Value).toArray below meth cd0 H locs 0 0 (MQ below (wQi D cA sh ad (fun r M' => oI moS M M' ∧ gI M' 60 28 = nI (thr (cuB σ a) (inB b 0 2)) ∧ MX σ v M' ∧ (cuB σ a = true → inB b 0 2 = true → r = bstA σ (n1 a) b)) A) ([.ref (ad 60), .int a, .int b] : List Value).toArray s 0 0 A) (F0 m 51 ls [.int yd, .int a, .ref (ad 60)]) := by
        intro yd H locs hyd hW ls hl
        refine lv_iconst (v := 0) hx hb dX10_burstAt_51 (by decide) ?_
        refine wc_ri (va_runV (As := [.int a, .int yd, .int 0]) (rest := []) ⟨hx, hb, hml, hown, hts⟩ (c_X10_distance l D cA sh ad M12' _ σ ok hMs hRa i hi a ea yd 0 (decide (w = 1)) false hyd rfl) (cwV 3 hts gX10_burstAt_X10_distance rfl rfl rfl (by decide +kernel) ⟨Nat.le_of_ble_eq_true rfl, Nat.le_of_ble_eq_true rfl⟩) (wpreV hK hW (C := RX10) (ci := 10) (hMs 60 (by decide) (by decide)) rfl) rfl rfl hl.1 rfl (lv_room (Nat.le_of_ble_eq_true rfl)) dX10_burstAt_52 ⟨Nat.le_of_ble_eq_true rfl, Nat.le_of_ble_eq_true rfl⟩) hW (fun x52' H locs p52' hW => ?_)
        try dsimp only at p52'
        exact wr_wi hx hb hr hlocks hW dX10_burstAt_55 ⟨go_mo p12'.2.2, p12'.2.1, hXa, fun _ _ => by rw [en]; first | exact bst_m1 ew k22' (e35'.trans (hRa.2.2.2.1 _ hkd).2.2.2.2.2.1) | (rw [p52']; exact bst_m2 ew hw3 k22')⟩
      refine lv_iload_n hx hb dX10_burstAt_41 rfl (lv_at hl 2 rfl) ?_
      refine lv_iconst (v := 1) hx hb dX10_burstAt_42 (by decide) ?_
      refine lv_icmp_ne (tgt := 50) hx hb dX10_burstAt_43 (by decide) (fun c43' => ?_) (fun c43' => ?_)
      · have k43' : ¬ w = 1 := kc_ne ew (nlit 1) (by omega) (by omega) c43'
        refine lv_iconst (v := 0) hx hb dX10_burstAt_50 (by decide) ?_
        exact J51 0 _ _ (by first | (rw [decide_eq_true k43']; rfl) | (rw [decide_eq_false k43']; rfl)) hW ls (lv_sub hl [0, 1, 2] rfl)
      · have k43' : w = 1 := kc_nen ew (nlit 1) (by omega) (by omega) c43'
        refine lv_iconst (v := 1) hx hb dX10_burstAt_46 (by decide) ?_
        refine lv_goto (tgt := 51) hx hb dX10_burstAt_47 (by decide) ?_
        exact J51 1 _ _ (by first | (rw [decide_eq_true k43']; rfl) | (rw [decide_eq_false k43']; rfl)) hW ls (lv_sub hl [0, 1, 2] rfl)
    · have k22' : w = 2 := kc_nen ew (nlit 2) (by omega) (by omega) c22'
      refine lv_aload_n hx hb dX10_burstAt_25 rfl (lv_at hl 0 rfl) ?_
      refine wgF (t := 67) hx hb fa28 hW (hMs 60 (by decide) (by decide)) rfl dX10_burstAt_26 ?_
      refine lv_aload_n hx hb dX10_burstAt_29 rfl (lv_at hl 0 rfl) ?_
      refine wgF (t := 77) hx hb fa66 hW (hMs 60 (by decide) (by decide)) rfl dX10_burstAt_30 ?_
      refine lv_iload_n hx hb dX10_burstAt_33 rfl (lv_at hl 1 rfl) ?_
      refine walI (j := i) hx hb hK hW (hMs 77 (by decide) (by decide)) ea (by omega) (by decide) dX10_burstAt_34 (fun x34' e34' => ?_)
      have n34' : x34' = nI (σ.2 8 i) := (e34'.trans (hRa.2.2.2.2.2.2.2.2.2.2.2 i hi).2.1)
      refine walI (j := (σ.2 8 i)) hx hb hK hW (hMs 67 (by decide) (by decide)) n34' (by omega) (by decide) dX10_burstAt_35 (fun x35' e35' => ?_)
      refine lv_goto (tgt := 55) hx hb dX10_burstAt_36 (by decide) ?_
      exact wr_wi hx hb hr hlocks hW dX10_burstAt_55 ⟨go_mo p12'.2.2, p12'.2.1, hXa, fun _ _ => by rw [en]; first | exact bst_m1 ew k22' (e35'.trans (hRa.2.2.2.1 _ hkd).2.2.2.2.2.1) | (rw [p52']; exact bst_m2 ew hw3 k22')⟩
  · have hG : (cuB σ a && inB b 0 2) = false := bI_z.mp (p12'.1.symm.trans c15')
    refine lv_iconst (v := 0) hx hb dX10_burstAt_18 (by decide) ?_
    exact wr_wi hx hb hr hlocks hW dX10_burstAt_19 ⟨go_mo p12'.2.2, p12'.2.1, hMX.oI p12'.2.2 (fun p k z => by omega), fun z1 z2 => absurd (hG.symm.trans (by rw [z1, z2])) (by decide)⟩
set_option maxHeartbeats 4000000 in
set_option maxRecDepth 100000 in
theorem c_X10_danger (l : Launch) (D : va_G) (cA : Nat → ClassId) (sh : Nat → Option Sh) (ad : Nat → Nat) (M : MS) (sz : Nat) (σ : AS) (v : VT) (hMs : MSh sh) (hMX : MX σ v M) (a : Int32) : Met l yX10_danger wsX10_danger ({ frames := 2, cells := 0, slots := 0, locals := 52 }) (wPc D cA sh ad M sz [.ref (ad 60), .int a]) (wQl D cA sh ad (fun r M' => oI moS M M' ∧ gI M' 60 28 = nI (thr (cuB σ a) true) ∧ ((cuB σ a) = false → MX σ v M') ∧ ((cuB σ a) = true → MX σ v M' ∧ ∀ k, k < 64 → bitL r k = zonB σ (n1 a) k)) (wA sh ad sz)) 0 0 (wA sh ad sz) := by
  refine Met.ofW (cc := cX10_danger) (maxL := 6) (ret := (some .long)) (by decide) rfl ?_
  intro p e s m args below meth cd0 s₁ B hml hv
  obtain ⟨rfl, hsz, hM, hK⟩ := hv
  have hx := B.exec
  have hb := B.bytes
  have hr := B.returns
  have hts := atoms_spec (ws := wsX10_danger) B.pre
  have hown : s.vm.findClass RX10 = some m.cls := findClass_of_methodNamed B.named
  have hlocks := B.notSynchronized
  subst hsz
  have hA := wA_PA sh ad s.heap
  generalize wA sh ad s.heap.size = A at hA ⊢
  have hW : WS D cA sh ad A s.heap M s.heap [] := ⟨hM, va_S.rf⟩
  have hl := lv_entry ([.ref (ad 60), .int a]) (n := 6) (Nat.le_of_ble_eq_true rfl)
  rw [lg_entry_eq]
  generalize (lg_sl ([.ref (ad 60), .int a]) ++ List.replicate (6 - (lg_sl ([.ref (ad 60), .int a])).length) Slot.unset).toArray = ls at hl ⊢
  have hl : lv_has ls 6 [(0, .ref (ad 60)), (1, .int a)] := hl
  obtain ⟨ok, hR, hV, hT⟩ := hMX
  have hMX : MX σ v M := ⟨ok, hR, hV, hT⟩
  have o1 := ok.1
  refine lv_lconst (v := 0) hx hb dX10_danger_0 (by decide) ?_
  refine lv_lstore_n (lv' := [(2, .long 0), (0, .ref (ad 60)), (1, .int a)]) hx hb dX10_danger_1 rfl hl (by decide) rfl (fun ls hl => ?_)
  refine lv_aload_n hx hb dX10_danger_2 rfl (lv_at hl 1 rfl) ?_
  refine lv_aload_n hx hb dX10_danger_3 rfl (lv_at hl 1 rfl) ?_
  refine lv_iload_n hx hb dX10_danger_4 rfl (lv_at hl 2 rfl) ?_
  refine wc_ri (va_runV (As := [.int a]) (rest := [.ref (ad 60)]) ⟨hx, hb, hml, hown, hts⟩ (c_X10_isCue l D cA sh ad M _ σ ok hMs hR a) (cwV 1 hts gX10_danger_X10_isCue rfl rfl rfl (by decide +kernel) ⟨Nat.le_of_ble_eq_true rfl, Nat.le_of_ble_eq_true rfl⟩) (wpreV hK hW (C := RX10) (ci := 10) (hMs 60 (by decide) (by decide)) rfl) rfl rfl hl.1 rfl (lv_room (Nat.le_of_ble_eq_true rfl)) dX10_danger_5 ⟨Nat.le_of_ble_eq_true rfl, Nat.le_of_ble_eq_true rfl⟩) hW (fun x5' H locs p5' hW => ?_)
  try dsimp only at p5'
  refine lv_iconst (v := 1) hx hb dX10_danger_8 (by decide) ?_
  refine wc_wi (va_runV (As := [.int x5', .int 1]) (rest := []) ⟨hx, hb, hml, hown, hts⟩ (c_X10_goes l D cA sh ad M _ hMs x5' 1 (cuB σ a) true p5' rfl) (cwV 2 hts gX10_danger_X10_goes rfl rfl rfl (by decide +kernel) ⟨Nat.le_of_ble_eq_true rfl, Nat.le_of_ble_eq_true rfl⟩) (wpreV hK hW (C := RX10) (ci := 10) (hMs 60 (by decide) (by decide)) rfl) rfl rfl hl.1 rfl (lv_room (Nat.le_of_ble_eq_true rfl)) dX10_danger_9 ⟨Nat.le_of_ble_eq_true rfl, Nat.le_of_ble_eq_true rfl⟩) hA hW (fun x9' M9' H locs p9' hW => ?_)
  try dsimp only at p9'
  have hXa := hMX.oI p9'.2.2 (fun p k z => by omega)
  have hRa := hXa.2.1
  rw [Bool.and_true] at p9'
  refine lv_istore (lv' := [(4, .int x9'), (2, .long 0), (0, .ref (ad 60)), (1, .int a)]) hx hb dX10_danger_12 hl (by decide) rfl (fun ls hl => ?_)
  refine lv_iconst (v := 0) hx hb dX10_danger_14 (by decide) ?_
  refine lv_istore (lv' := [(5, .int 0), (4, .int x9'), (2, .long 0), (0, .ref (ad 60)), (1, .int a)]) hx hb dX10_danger_15 hl (by decide) rfl (fun ls hl => ?_)
  have L17 : ∀ (fu : Nat) (k : Nat) (xk : Int32) (z : Int64) (H : Heap) (locs : List Loc), 64 - k < fu → (k ≤ 64) → (xk = nI k) → (cuB σ a = true → ∀ j, j < 64 → bitL z j = decide (j < k ∧ zonB σ (n1 a) j = true)) → WS D cA sh ad A s.heap M9' H locs → ∀ ls, lv_has ls 6 [(5, .int xk), (4, .int x9'), (2, .long z), (0, .ref (ad 60)), (1, .int a)] → W p l e (headSpec wsX10_danger { frames := 2, cells := 0, slots := 0, locals := 52 }).room s m ([.ref (ad 60), .int a] : List Value).toArray below meth cd0 H locs 0 0 (MQ below (wQl D cA sh ad (fun r M' => oI moS M M' ∧ gI M' 60 28 = nI (thr (cuB σ a) true) ∧ ((cuB σ a) = false → MX σ v M') ∧ ((cuB σ a) = true → MX σ v M' ∧ ∀ k, k < 64 → bitL r k = zonB σ (n1 a) k)) A) ([.ref (ad 60), .int a] : List Value).toArray s 0 0 A) (F0 m 17 ls []) := by
    intro fu
    induction fu with
    | zero =>
      intro k xk z H locs hn hk ek ez hW ls hl
      exact absurd hn (Nat.not_lt_zero _)
    | succ fu ih17 =>
      intro k xk z H locs hn hk ek ez hW ls hl
      refine lv_iload hx hb dX10_danger_17 (lv_at hl 0 rfl) ?_
      refine lv_bipush (v := 64) hx hb dX10_danger_19 (by decide) ?_
      refine lv_icmp_ge (tgt := 56) hx hb dX10_danger_21 (by decide) (fun c21' => ?_) (fun c21' => ?_)
      · have k21' : 64 ≤ k := kc_ge ek (nlit 64) (by omega) (by omega) c21'
        refine lv_lload_n hx hb dX10_danger_56 rfl (lv_at hl 2 rfl) ?_
        exact wr_wl hx hb hr hlocks hW dX10_danger_57 (by
            refine ⟨go_mo p9'.2.2, p9'.2.1, fun _ => hXa, fun hG9 => ⟨hXa, fun j hj => ?_⟩⟩
            first
            | exact absurd (hG.symm.trans hG9) (by decide)
            | (rw [ez hG9 j hj]
               have hjk : j < k := by omega
               simp [hjk]))
      · have k21' : ¬ 64 ≤ k := kc_gen ek (nlit 64) (by omega) (by omega) c21'
        refine lv_iload hx hb dX10_danger_24 (lv_at hl 1 rfl) ?_
        refine lv_if_eq (tgt := 56) hx hb dX10_danger_26 (by decide) (fun c26' => ?_) (fun c26' => ?_)
        · have hG : cuB σ a = false := bI_z.mp (p9'.1.symm.trans c26')
          refine lv_lload_n hx hb dX10_danger_56 rfl (lv_at hl 2 rfl) ?_
          exact wr_wl hx hb hr hlocks hW dX10_danger_57 (by
              refine ⟨go_mo p9'.2.2, p9'.2.1, fun _ => hXa, fun hG9 => ⟨hXa, fun j hj => ?_⟩⟩
              first
              | exact absurd (hG.symm.trans hG9) (by decide)
              | (rw [ez hG9 j hj]
                 have hjk : j < k := by omega
                 simp [hjk]))
        · have hG : cuB σ a = true := bI_t.mp (fun w => c26' (p9'.1.trans w))
          obtain ⟨i, hi, ea, hg, en⟩ := cu_n ok hG
          refine lv_lload_n hx hb dX10_danger_29 rfl (lv_at hl 2 rfl) ?_
          have J48 : ∀ (y : Int64) (H : Heap) (locs : List Loc), (∀ j, j < 64 → bitL y j = (decide (j = k) && zonB σ i k)) → WS D cA sh ad A s.heap M9' H locs → ∀ ls, lv_has ls 6 [(5, .int xk), (4, .int x9'), (2, .long z), (0, .ref (ad 60)), (1, .int a)] → W p l e (headSpec wsX10_danger { frames := 2, cells := 0, slots := 0, locals := 52 }).room s m ([.ref (ad 60), .int a] : List Value).toArray below meth cd0 H locs 0 0 (MQ below (wQl D cA sh ad (fun r M' => oI moS M M' ∧ gI M' 60 28 = nI (thr (cuB σ a) true) ∧ ((cuB σ a) = false → MX σ v M') ∧ ((cuB σ a) = true → MX σ v M' ∧ ∀ k, k < 64 → bitL r k = zonB σ (n1 a) k)) A) ([.ref (ad 60), .int a] : List Value).toArray s 0 0 A) (F0 m 48 ls [.long y, .long z]) := by
            intro y H locs hy hW ls hl
            refine lv_lor hx hb dX10_danger_48 ?_
            refine lv_topl (fun x48' e48' => ?_)
            have hz2 : cuB σ a = true → ∀ j, j < 64 → bitL x48' j = decide (j < k + 1 ∧ zonB σ (n1 a) j = true) := fun _ j hj => by
              rw [e48', bitL_or, ez hG j hj, hy j hj, en]
              by_cases w : j = k
              · subst w; simp
              · have : j < k + 1 ↔ j < k := by omega
                simp [w, this]
            refine lv_lstore_n (lv' := [(2, .long x48'), (5, .int xk), (4, .int x9'), (0, .ref (ad 60)), (1, .int a)]) hx hb dX10_danger_49 rfl hl (by decide) rfl (fun ls hl => ?_)
            obtain ⟨x50', e50'⟩ : ∃ y : Int32, y = xk + 1 := ⟨_, rfl⟩
            refine lv_iinc (v := x50') (lv' := [(5, .int x50'), (2, .long x48'), (4, .int x9'), (0, .ref (ad 60)), (1, .int a)]) hx hb dX10_danger_50 hl (k := 1) rfl (by rw [e50']; rfl) (by decide) rfl (fun ls hl => ?_)
            refine lv_goto (tgt := 17) hx hb dX10_danger_53 (by decide) ?_
            exact ih17 (k + 1) x50' x48' _ _ (by omega) (by omega) (by rw [e50', ek, nlit 1, nI_add]) hz2 hW ls (lv_sub hl [0, 2, 1, 3, 4] rfl)
          refine lv_aload_n hx hb dX10_danger_30 rfl (lv_at hl 3 rfl) ?_
          refine lv_iload_n hx hb dX10_danger_31 rfl (lv_at hl 4 rfl) ?_
          refine lv_iload hx hb dX10_danger_32 (lv_at hl 0 rfl) ?_
          refine wc_ri (va_runV (As := [.int a, .int xk]) (rest := [.long z]) ⟨hx, hb, hml, hown, hts⟩ (c_X10_isInDanger l D cA sh ad M9' _ σ ok hMs hRa i hi a ea k (by omega) xk ek) (cwV 2 hts gX10_danger_X10_isInDanger rfl rfl rfl (by decide +kernel) ⟨Nat.le_of_ble_eq_true rfl, Nat.le_of_ble_eq_true rfl⟩) (wpreV hK hW (C := RX10) (ci := 10) (hMs 60 (by decide) (by decide)) rfl) rfl rfl hl.1 rfl (lv_room (Nat.le_of_ble_eq_true rfl)) dX10_danger_34 ⟨Nat.le_of_ble_eq_true rfl, Nat.le_of_ble_eq_true rfl⟩) hW (fun x34' H locs p34' hW => ?_)
          try dsimp only at p34'
          refine lv_if_eq (tgt := 47) hx hb dX10_danger_37 (by decide) (fun c37' => ?_) (fun c37' => ?_)
          · refine lv_lconst (v := 0) hx hb dX10_danger_47 (by decide) ?_
            exact J48 0 _ _ (by
                intro j hj
                first
                | (rw [bI_z.mp (p34'.symm.trans c37'), Bool.and_false]; exact bitL_0 j)
                | (rw [bI_t.mp (fun w => c37' (p34'.trans w)), Bool.and_true, e43', ek]; exact bitL_shl (by omega) j hj)) hW ls (lv_sub hl [0, 1, 2, 3, 4] rfl)
          · refine lv_lconst (v := 1) hx hb dX10_danger_40 (by decide) ?_
            refine lv_iload hx hb dX10_danger_41 (lv_at hl 0 rfl) ?_
            refine lv_lshl hx hb dX10_danger_43 rfl ?_
            refine lv_topl (fun x43' e43' => ?_)
            refine lv_goto (tgt := 48) hx hb dX10_danger_44 (by decide) ?_
            exact J48 x43' _ _ (by
                intro j hj
                first
                | (rw [bI_z.mp (p34'.symm.trans c37'), Bool.and_false]; exact bitL_0 j)
                | (rw [bI_t.mp (fun w => c37' (p34'.trans w)), Bool.and_true, e43', ek]; exact bitL_shl (by omega) j hj)) hW ls (lv_sub hl [0, 1, 2, 3, 4] rfl)
  exact L17 (_ + 1) 0 0 0 _ _ (Nat.lt_succ_self _) (Nat.zero_le _) rfl (fun _ j _ => by simp [bitL_0]) hW ls (lv_sub hl [0, 1, 2, 3, 4] rfl)

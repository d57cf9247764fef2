/-- as Met.ofW, where the class's name is none of a plain one: the method has no row of its own among the natives -/
theorem Met.ofWF {l : Launch} {y : MethodName} {ws ws' : List Cond} {rm : Room} {Pc : Array Value → State → Prop} {Qc : Array Value → State → Outcome → State → Prop} {mc ms : Nat} {free : Addr → Prop} {cc : ByteArray} {maxL : Nat} {ret : Option FieldType}
    (hy : plainFor y = true) (hw : ws = Cond.code y cc maxL ret :: ws')
    (body : ∀ p e s m args below meth c s₁, BodyLoose p l y (headSpec ws rm) cc maxL ret e s m args below meth c s₁ → c.maxLocals = maxL → Pc args s →
      W p l e (headSpec ws rm).room s m args below meth c s.heap [] 0 0 (MQ below Qc args s mc ms free) (entryFrame m args maxL)) : Met l y ws rm Pc Qc mc ms free := by
  refine MetFree.of_bodySF (code := cc) (maxLocals := maxL) (ret := ret) hy (fun args s m h hn => ?_) (fun p e s m args below meth c s₁ B hml hP _ => ?_)
  · obtain ⟨meth, c, q⟩ := Cond.code_spec hn (atoms_spec (ws := ws) h _ (by rw [hw]; exact List.mem_cons_self))
    exact ⟨meth, c, q.1, q.2.1, q.2.2.1, q.2.2.2.1, q.2.2.2.2.1, q.2.2.2.2.2.1⟩
  · obtain ⟨t, a1, o, b1, b2, b3⟩ := body p e s m args below meth c s₁ B hml hP s₁ (by rw [B.state]; rfl) (Stand.of_body B)
    exact ⟨t, o, a1, b1, b2, ⟨b3.1, b3.2⟩⟩
/-! Pure words, and the leaves of the class. -/
/-- ints alone change, and only at S -/
def oI (S : Nat → Nat → Prop) (M M' : MS) : Prop := (∀ p k, ¬ S p k → gI M' p k = gI M p k) ∧ M'.2 = M.2
theorem oI.rf {S : Nat → Nat → Prop} {M : MS} : oI S M M := ⟨fun _ _ _ => rfl, rfl⟩
theorem oI.put {S : Nat → Nat → Prop} {M M1 : MS} {p k : Nat} {v : Int32} (h : oI S M M1) (hs : S p k) : oI S M (sI M1 p k v) :=
  ⟨fun a b hn => by rw [gI_sI, if_neg (fun e : a = p ∧ b = k => hn (by rw [e.1, e.2]; exact hs))]; exact h.1 a b hn, h.2⟩
theorem oI.trans {S : Nat → Nat → Prop} {M M1 M2 : MS} (h : oI S M M1) (h2 : oI S M1 M2) : oI S M M2 := ⟨fun p k hn => (h2.1 p k hn).trans (h.1 p k hn), h2.2.trans h.2⟩
theorem oI.mono {S T : Nat → Nat → Prop} {M M1 : MS} (h : oI S M M1) (hs : ∀ p k, S p k → T p k) : oI T M M1 := ⟨fun p k hn => h.1 p k (fun q => hn (hs p k q)), h.2⟩
theorem oI.lg {S : Nat → Nat → Prop} {M M1 : MS} (h : oI S M M1) (p k : Nat) : gL M1 p k = gL M p k := by unfold gL; rw [h.2]
theorem oI.rg {S : Nat → Nat → Prop} {M M1 : MS} (h : oI S M M1) (p k : Nat) : gR M1 p k = gR M p k := by unfold gR; rw [h.2]
def le0 (x : Int32) : Int32 := bI (decide (x ≤ 0))
/-- the tick of a height: speed, height, burst, landed -/
def hstep (fall : Int32) (u : Int32 × Int32 × Int32 × Int32) : Int32 × Int32 × Int32 × Int32 :=
  if u.2.2.1 = 0 then (u.1 - 10, u.2.1 + u.1, le0 (u.1 - 10), u.2.2.2) else (u.1, u.2.1 - fall, u.2.2.1, le0 (u.2.1 - fall))
def hst (M : MS) (h : Nat) : Int32 × Int32 × Int32 × Int32 := (gI M h 0, gI M h 2, gI M h 3, gI M h 4)
def imin (x y : Int32) : Int32 := if y < x then y else x
def imax (x y : Int32) : Int32 := if x < y then y else x
def layI (x : Int32) : Int32 := imax 0 (imin 3 (x / 250))
/-- Math.floorDiv -/
def jfd (x y : Int32) : Int32 := if 0 ≤ x ^^^ y then x / y else if x / y * y = x then x / y else x / y - 1
def outB (v lo hi : Int32) : Bool := decide (v < lo ∨ hi < v)
def offB (c l : Int32) : Bool := outB c 0 7 || outB l 0 7
theorem outB_t {v lo hi : Int32} (h : v < lo ∨ hi < v) : outB v lo hi = true := decide_eq_true h
theorem outB_f {v lo hi : Int32} (h : ¬ (v < lo ∨ hi < v)) : outB v lo hi = false := decide_eq_false h
theorem i32_le {a b : Int32} : ¬ b < a ↔ a ≤ b := by rw [Int32.lt_iff_toInt_lt, Int32.le_iff_toInt_le]; omega
set_option maxHeartbeats 4000000 in
set_option maxRecDepth 100000 in
theorem c_J7_fill_53178 (l : Launch) (D : va_G) (cA : Nat → ClassId) (sh : Nat → Option Sh) (ad : Nat → Nat) (M : MS) (sz : Nat) (q n : Nat) (hn : n < 2 ^ 30) (hq : sh q = some (.inr (0, n))) (v : Int32) : Met l yJ7_fill_53178 wsJ7_fill_53178 ({ frames := 0, cells := 0, slots := 0, locals := 0 }) (wPc D cA sh ad M sz [.ref (ad q), .int v]) (wQv D cA sh ad (fun M' => (∀ k, k < n → gI M' q k = v) ∧ oI (fun p k => p = q ∧ k < n) M M') (wA sh ad sz)) 0 0 (wA sh ad sz) := by
  refine Met.ofW (cc := cJ7_fill_53178) (maxL := 4) (ret := none) (by decide) rfl ?_
  intro p e s m args below meth cd0 s₁ B hml hv
  obtain ⟨rfl, hsz, hM, hK⟩ := hv
  have hx := B.exec
  have hb := B.bytes
  have hr := B.returns
  have hts := atoms_spec (ws := wsJ7_fill_53178) B.pre
  have hown : s.vm.findClass RJ7 = some m.cls := findClass_of_methodNamed B.named
  have hlocks := B.notSynchronized
  subst hsz
  have hA := wA_PA sh ad s.heap
  generalize wA sh ad s.heap.size = A at hA ⊢
  have hW : WS D cA sh ad A s.heap M s.heap [] := ⟨hM, va_S.rf⟩
  have hl := lv_entry ([.ref (ad q), .int v]) (n := 4) (Nat.le_of_ble_eq_true rfl)
  rw [lg_entry_eq]
  generalize (lg_sl ([.ref (ad q), .int v]) ++ List.replicate (4 - (lg_sl ([.ref (ad q), .int v])).length) Slot.unset).toArray = ls at hl ⊢
  have hl : lv_has ls 4 [(0, .ref (ad q)), (1, .int v)] := hl
  refine lv_iconst (v := 0) hx hb dJ7_fill_53178_0 (by decide) ?_
  refine lv_istore_n (lv' := [(2, .int 0), (0, .ref (ad q)), (1, .int v)]) hx hb dJ7_fill_53178_1 rfl hl (by decide) rfl (fun ls hl => ?_)
  refine lv_aload_n hx hb dJ7_fill_53178_2 rfl (lv_at hl 1 rfl) ?_
  refine wlen (v := (nI n)) hx hb hK hW hq rfl rfl dJ7_fill_53178_3 ?_
  refine lv_istore_n (lv' := [(3, .int (nI n)), (2, .int 0), (0, .ref (ad q)), (1, .int v)]) hx hb dJ7_fill_53178_4 rfl hl (by decide) rfl (fun ls hl => ?_)
  have L5 : ∀ (fu : Nat) (i : Nat) (xi : Int32) (M1 : MS) (H : Heap) (locs : List Loc), n - i < fu → (i ≤ n) → (xi = nI i) → (∀ k, k < i → gI M1 q k = v) → (oI (fun p k => p = q ∧ k < n) M M1) → WS D cA sh ad A s.heap M1 H locs → ∀ ls, lv_has ls 4 [(3, .int (nI n)), (2, .int xi), (0, .ref (ad q)), (1, .int v)] → W p l e (headSpec wsJ7_fill_53178 { frames := 0, cells := 0, slots := 0, locals := 0 }).room s m ([.ref (ad q), .int v] : List Value).toArray below meth cd0 H locs 0 0 (MQ below (wQv D cA sh ad (fun M' => (∀ k, k < n → gI M' q k = v) ∧ oI (fun p k => p = q ∧ k < n) M M') A) ([.ref (ad q), .int v] : List Value).toArray s 0 0 A) (F0 m 5 ls []) := by
    intro fu
    induction fu with
    | zero =>
      intro i xi M1 H locs hn hi ei h1 h2 hW ls hl
      exact absurd hn (Nat.not_lt_zero _)
    | succ fu ih5 =>
      intro i xi M1 H locs hn hi ei h1 h2 hW ls hl
      refine lv_iload_n hx hb dJ7_fill_53178_5 rfl (lv_at hl 1 rfl) ?_
      refine lv_iload_n hx hb dJ7_fill_53178_6 rfl (lv_at hl 0 rfl) ?_
      refine lv_icmp_ge (tgt := 20) hx hb dJ7_fill_53178_7 (by decide) (fun c7 => ?_) (fun c7 => ?_)
      · have k7 : n ≤ i := kc_ge ei rfl (by omega) (by omega) c7
        exact wr_wv hx hb hr hlocks hW dJ7_fill_53178_20 ⟨fun k hk => h1 k (by omega), h2⟩
      · have k7 : ¬ n ≤ i := kc_gen ei rfl (by omega) (by omega) c7
        refine lv_aload_n hx hb dJ7_fill_53178_10 rfl (lv_at hl 2 rfl) ?_
        refine lv_iload_n hx hb dJ7_fill_53178_11 rfl (lv_at hl 1 rfl) ?_
        refine lv_iload_n hx hb dJ7_fill_53178_12 rfl (lv_at hl 3 rfl) ?_
        refine wasI (j := i) hx hb hK hA hW hq ei (by omega) (by omega) dJ7_fill_53178_13 (fun M13 H locs eM13 hW => ?_)
        obtain ⟨x14, e14⟩ : ∃ y : Int32, y = xi + 1 := ⟨_, rfl⟩
        refine lv_iinc (v := x14) (lv' := [(2, .int x14), (3, .int (nI n)), (0, .ref (ad q)), (1, .int v)]) hx hb dJ7_fill_53178_14 hl (k := 1) rfl (by rw [e14]; rfl) (by decide) rfl (fun ls hl => ?_)
        refine lv_goto (tgt := 5) hx hb dJ7_fill_53178_17 (by decide) ?_
        exact ih5 (i + 1) x14 M13 _ _ (by omega) (by omega) (by rw [e14, ei, nlit 1, nI_add]) (by
            intro k hk
            rw [eM13, gI_sI]
            by_cases h : k = i
            · simp [h]
            · rw [if_neg (fun z => h z.2)]; exact h1 k (by omega)) (by rw [eM13]; exact h2.put ⟨rfl, by omega⟩) hW ls (lv_sub hl [1, 0, 2, 3] rfl)
  exact L5 (_ + 1) 0 0 M _ _ (Nat.lt_succ_self _) (Nat.zero_le _) rfl (fun k hk => absurd hk (Nat.not_lt_zero k)) oI.rf hW ls (lv_sub hl [0, 1, 2, 3] rfl)
set_option maxHeartbeats 4000000 in
set_option maxRecDepth 100000 in
theorem c_X5_start (l : Launch) (D : va_G) (cA : Nat → ClassId) (sh : Nat → Option Sh) (ad : Nat → Nat) (M : MS) (sz : Nat) (h : Nat) (hh : sh h = some (.inl (5, [0, 0, 0, 0, 0]))) (a b : Int32) : Met l yX5_start wsX5_start ({ frames := 0, cells := 0, slots := 0, locals := 0 }) (wPc D cA sh ad M sz [.ref (ad h), .int a, .int b]) (wQv D cA sh ad (fun M' => hst M' h = (a, 0, 0, 0) ∧ gI M' h 1 = b ∧ oI (fun p _ => p = h) M M') (wA sh ad sz)) 0 0 (wA sh ad sz) := by
  refine Met.ofW (cc := cX5_start) (maxL := 3) (ret := none) (by decide) rfl ?_
  intro p e s m args below meth cd0 s₁ B hml hv
  obtain ⟨rfl, hsz, hM, hK⟩ := hv
  have hx := B.exec
  have hb := B.bytes
  have hr := B.returns
  have hts := atoms_spec (ws := wsX5_start) B.pre
  have hown : s.vm.findClass RX5 = some m.cls := findClass_of_methodNamed B.named
  have hlocks := B.notSynchronized
  subst hsz
  have hA := wA_PA sh ad s.heap
  generalize wA sh ad s.heap.size = A at hA ⊢
  have hW : WS D cA sh ad A s.heap M s.heap [] := ⟨hM, va_S.rf⟩
  have fw9 : FW D s m ([.ref (ad h), .int a, .int b] : List Value).toArray 9 5 0 (.int) := FW.mk (C := RX5) (T := TX5) (N := 5) hts (fun _ h => List.mem_cons_of_mem _ (List.mem_append_right _ (h))) hown hK rfl (by decide) (hts (.fieldLink RX5 9 "MortarShow$Height" "speed" "I") (List.mem_of_getElem? (i := 1) rfl)) tyX5 tyX5_ok nmX5 rfl rfl
  have fw15 : FW D s m ([.ref (ad h), .int a, .int b] : List Value).toArray 15 5 1 (.int) := FW.mk (C := RX5) (T := TX5) (N := 5) hts (fun _ h => List.mem_cons_of_mem _ (List.mem_append_right _ (h))) hown hK rfl (by decide) (hts (.fieldLink RX5 15 "MortarShow$Height" "fall" "I") (List.mem_of_getElem? (i := 2) rfl)) tyX5 tyX5_ok nmX5 rfl rfl
  have fw18 : FW D s m ([.ref (ad h), .int a, .int b] : List Value).toArray 18 5 2 (.int) := FW.mk (C := RX5) (T := TX5) (N := 5) hts (fun _ h => List.mem_cons_of_mem _ (List.mem_append_right _ (h))) hown hK rfl (by decide) (hts (.fieldLink RX5 18 "MortarShow$Height" "now" "I") (List.mem_of_getElem? (i := 3) rfl)) tyX5 tyX5_ok nmX5 rfl rfl
  have fw21 : FW D s m ([.ref (ad h), .int a, .int b] : List Value).toArray 21 5 3 (.boolean) := FW.mk (C := RX5) (T := TX5) (N := 5) hts (fun _ h => List.mem_cons_of_mem _ (List.mem_append_right _ (h))) hown hK rfl (by decide) (hts (.fieldLink RX5 21 "MortarShow$Height" "burst" "Z") (List.mem_of_getElem? (i := 4) rfl)) tyX5 tyX5_ok nmX5 rfl rfl
  have fw25 : FW D s m ([.ref (ad h), .int a, .int b] : List Value).toArray 25 5 4 (.boolean) := FW.mk (C := RX5) (T := TX5) (N := 5) hts (fun _ h => List.mem_cons_of_mem _ (List.mem_append_right _ (h))) hown hK rfl (by decide) (hts (.fieldLink RX5 25 "MortarShow$Height" "landed" "Z") (List.mem_of_getElem? (i := 5) rfl)) tyX5 tyX5_ok nmX5 rfl rfl
  have hl := lv_entry ([.ref (ad h), .int a, .int b]) (n := 3) (Nat.le_of_ble_eq_true rfl)
  rw [lg_entry_eq]
  generalize (lg_sl ([.ref (ad h), .int a, .int b]) ++ List.replicate (3 - (lg_sl ([.ref (ad h), .int a, .int b])).length) Slot.unset).toArray = ls at hl ⊢
  have hl : lv_has ls 3 [(0, .ref (ad h)), (1, .int a), (2, .int b)] := hl
  refine lv_aload_n hx hb dX5_start_0 rfl (lv_at hl 0 rfl) ?_
  refine lv_iload_n hx hb dX5_start_1 rfl (lv_at hl 1 rfl) ?_
  refine wpI hx hb fw9 hA hW hh rfl dX5_start_2 (fun M2 H locs eM2 hW => ?_)
  refine lv_aload_n hx hb dX5_start_5 rfl (lv_at hl 0 rfl) ?_
  refine lv_iload_n hx hb dX5_start_6 rfl (lv_at hl 2 rfl) ?_
  refine wpI hx hb fw15 hA hW hh rfl dX5_start_7 (fun M7 H locs eM7 hW => ?_)
  refine lv_aload_n hx hb dX5_start_10 rfl (lv_at hl 0 rfl) ?_
  refine lv_iconst (v := 0) hx hb dX5_start_11 (by decide) ?_
  refine wpI hx hb fw18 hA hW hh rfl dX5_start_12 (fun M12 H locs eM12 hW => ?_)
  refine lv_aload_n hx hb dX5_start_15 rfl (lv_at hl 0 rfl) ?_
  refine lv_iconst (v := 0) hx hb dX5_start_16 (by decide) ?_
  refine wpZ hx hb fw21 hA hW hh rfl ⟨rfl, rfl⟩ dX5_start_17 (fun M17 H locs eM17 hW => ?_)
  refine lv_aload_n hx hb dX5_start_20 rfl (lv_at hl 0 rfl) ?_
  refine lv_iconst (v := 0) hx hb dX5_start_21 (by decide) ?_
  refine wpZ hx hb fw25 hA hW hh rfl ⟨rfl, rfl⟩ dX5_start_22 (fun M22 H locs eM22 hW => ?_)
  exact wr_wv hx hb hr hlocks hW dX5_start_25 (by subst_vars; refine ⟨by simp [hst, gI_sI], by simp [gI_sI], ?_⟩; exact oI.put (oI.put (oI.put (oI.put (oI.put oI.rf rfl) rfl) rfl) rfl) rfl)
set_option maxHeartbeats 4000000 in
set_option maxRecDepth 100000 in
theorem c_X5_layer (l : Launch) (D : va_G) (cA : Nat → ClassId) (sh : Nat → Option Sh) (ad : Nat → Nat) (M : MS) (sz : Nat) (h : Nat) (hh : sh h = some (.inl (5, [0, 0, 0, 0, 0]))) : Met l yX5_layer wsX5_layer ({ frames := 1, cells := 0, slots := 0, locals := 21 }) (wPc D cA sh ad M sz [.ref (ad h)]) (rQi (fun r => r = layI (gI M h 2))) 0 0 nA := by
  refine Met.ofW (cc := cX5_layer) (maxL := 1) (ret := (some .int)) (by decide) rfl ?_
  intro p e s m args below meth cd0 s₁ B hml hv
  obtain ⟨rfl, hsz, hM, hK⟩ := hv
  have hx := B.exec
  have hb := B.bytes
  have hr := B.returns
  have hts := atoms_spec (ws := wsX5_layer) B.pre
  have hown : s.vm.findClass RX5 = some m.cls := findClass_of_methodNamed B.named
  have hlocks := B.notSynchronized
  subst hsz
  obtain ⟨A, eA⟩ : ∃ A : Nat → Prop, A = nA := ⟨_, rfl⟩
  have hW : WS D cA sh ad A s.heap M s.heap [] := ⟨hM, va_S.rf⟩
  subst eA
  have fa18 : FA D s m ([.ref (ad h)] : List Value).toArray 18 5 2 := FA.mk (C := RX5) (T := TX5) (N := 5) hts (fun _ h => List.mem_cons_of_mem _ (List.mem_append_right _ (h))) hown hK rfl (by decide) (hts (.fieldLink RX5 18 "MortarShow$Height" "now" "I") (List.mem_of_getElem? (i := 1) rfl))
  have hl := lv_entry ([.ref (ad h)]) (n := 1) (Nat.le_of_ble_eq_true rfl)
  rw [lg_entry_eq]
  generalize (lg_sl ([.ref (ad h)]) ++ List.replicate (1 - (lg_sl ([.ref (ad h)])).length) Slot.unset).toArray = ls at hl ⊢
  have hl : lv_has ls 1 [(0, .ref (ad h))] := hl
  refine lv_iconst (v := 0) hx hb dX5_layer_0 (by decide) ?_
  refine lv_iconst (v := 3) hx hb dX5_layer_1 (by decide) ?_
  refine lv_aload_n hx hb dX5_layer_2 rfl (lv_at hl 0 rfl) ?_
  refine wgI hx hb fa18 hW hh rfl dX5_layer_3 (fun x3 e3 => ?_)
  refine lv_sipush (v := 250) hx hb dX5_layer_6 (by decide) ?_
  refine lv_idiv hx hb dX5_layer_9 (by decide) ?_
  refine lv_topi (fun x9 e9 => ?_)
  refine va_mmin hx hb (hml.trans hl.1.symm) hown (hts (.methodLink RX5 28 Lib.Math.min.name) (List.mem_of_getElem? (i := 2) rfl)) (hts (.static Lib.Math.min.name) (List.mem_of_getElem? (i := 3) rfl)) (hts (.initialized "java/lang/Math") (List.mem_of_getElem? (i := 4) rfl)) (hts (.code Lib.Math.min.name Lib.Math.min.code 2 (some .int)) (List.mem_of_getElem? (i := 5) rfl)) (Nat.le_of_ble_eq_true rfl) (Nat.le_of_ble_eq_true rfl) (Nat.zero_le _) (Nat.zero_le _) dX5_layer_10 ?_
  refine lv_topi (fun x10 e10 => ?_)
  refine va_mmax hx hb (hml.trans hl.1.symm) hown (hts (.methodLink RX5 34 Lib.Math.max.name) (List.mem_of_getElem? (i := 6) rfl)) (hts (.static Lib.Math.max.name) (List.mem_of_getElem? (i := 7) rfl)) (hts (.initialized "java/lang/Math") (List.mem_of_getElem? (i := 4) rfl)) (hts (.code Lib.Math.max.name Lib.Math.max.code 2 (some .int)) (List.mem_of_getElem? (i := 8) rfl)) (Nat.le_of_ble_eq_true rfl) (Nat.le_of_ble_eq_true rfl) (Nat.zero_le _) (Nat.zero_le _) dX5_layer_13 ?_
  refine lv_topi (fun x13 e13 => ?_)
  exact wr_ri hx hb hr hlocks hW.2 dX5_layer_16 (by rw [e13, e10, e9, e3]; rfl)
set_option maxHeartbeats 4000000 in
set_option maxRecDepth 100000 in
theorem c_X5_pass (l : Launch) (D : va_G) (cA : Nat → ClassId) (sh : Nat → Option Sh) (ad : Nat → Nat) (M : MS) (sz : Nat) (h : Nat) (hh : sh h = some (.inl (5, [0, 0, 0, 0, 0]))) : Met l yX5_pass wsX5_pass ({ frames := 0, cells := 0, slots := 0, locals := 0 }) (wPc D cA sh ad M sz [.ref (ad h)]) (wQv D cA sh ad (fun M' => hst M' h = hstep (gI M h 1) (hst M h) ∧ gI M' h 1 = gI M h 1 ∧ oI (fun p _ => p = h) M M') (wA sh ad sz)) 0 0 (wA sh ad sz) := by
  refine Met.ofW (cc := cX5_pass) (maxL := 1) (ret := none) (by decide) rfl ?_
  intro p e s m args below meth cd0 s₁ B hml hv
  obtain ⟨rfl, hsz, hM, hK⟩ := hv
  have hx := B.exec
  have hb := B.bytes
  have hr := B.returns
  have hts := atoms_spec (ws := wsX5_pass) B.pre
  have hown : s.vm.findClass RX5 = some m.cls := findClass_of_methodNamed B.named
  have hlocks := B.notSynchronized
  subst hsz
  have hA := wA_PA sh ad s.heap
  generalize wA sh ad s.heap.size = A at hA ⊢
  have hW : WS D cA sh ad A s.heap M s.heap [] := ⟨hM, va_S.rf⟩
  have fa9 : FA D s m ([.ref (ad h)] : List Value).toArray 9 5 0 := FA.mk (C := RX5) (T := TX5) (N := 5) hts (fun _ h => List.mem_cons_of_mem _ (List.mem_append_right _ (h))) hown hK rfl (by decide) (hts (.fieldLink RX5 9 "MortarShow$Height" "speed" "I") (List.mem_of_getElem? (i := 5) rfl))
  have fa15 : FA D s m ([.ref (ad h)] : List Value).toArray 15 5 1 := FA.mk (C := RX5) (T := TX5) (N := 5) hts (fun _ h => List.mem_cons_of_mem _ (List.mem_append_right _ (h))) hown hK rfl (by decide) (hts (.fieldLink RX5 15 "MortarShow$Height" "fall" "I") (List.mem_of_getElem? (i := 3) rfl))
  have fa18 : FA D s m ([.ref (ad h)] : List Value).toArray 18 5 2 := FA.mk (C := RX5) (T := TX5) (N := 5) hts (fun _ h => List.mem_cons_of_mem _ (List.mem_append_right _ (h))) hown hK rfl (by decide) (hts (.fieldLink RX5 18 "MortarShow$Height" "now" "I") (List.mem_of_getElem? (i := 2) rfl))
  have fa21 : FA D s m ([.ref (ad h)] : List Value).toArray 21 5 3 := FA.mk (C := RX5) (T := TX5) (N := 5) hts (fun _ h => List.mem_cons_of_mem _ (List.mem_append_right _ (h))) hown hK rfl (by decide) (hts (.fieldLink RX5 21 "MortarShow$Height" "burst" "Z") (List.mem_of_getElem? (i := 1) rfl))
  have fw9 : FW D s m ([.ref (ad h)] : List Value).toArray 9 5 0 (.int) := FW.mk (C := RX5) (T := TX5) (N := 5) hts (fun _ h => List.mem_cons_of_mem _ (List.mem_append_right _ (h))) hown hK rfl (by decide) (hts (.fieldLink RX5 9 "MortarShow$Height" "speed" "I") (List.mem_of_getElem? (i := 5) rfl)) tyX5 tyX5_ok nmX5 rfl rfl
  have fw18 : FW D s m ([.ref (ad h)] : List Value).toArray 18 5 2 (.int) := FW.mk (C := RX5) (T := TX5) (N := 5) hts (fun _ h => List.mem_cons_of_mem _ (List.mem_append_right _ (h))) hown hK rfl (by decide) (hts (.fieldLink RX5 18 "MortarShow$Height" "now" "I") (List.mem_of_getElem? (i := 2) rfl)) tyX5 tyX5_ok nmX5 rfl rfl
  have fw21 : FW D s m ([.ref (ad h)] : List Value).toArray 21 5 3 (.boolean) := FW.mk (C := RX5) (T := TX5) (N := 5) hts (fun _ h => List.mem_cons_of_mem _ (List.mem_append_right _ (h))) hown hK rfl (by decide) (hts (.fieldLink RX5 21 "MortarShow$Height" "burst" "Z") (List.mem_of_getElem? (i := 1) rfl)) tyX5 tyX5_ok nmX5 rfl rfl
  have fw25 : FW D s m ([.ref (ad h)] : List Value).toArray 25 5 4 (.boolean) := FW.mk (C := RX5) (T := TX5) (N := 5) hts (fun _ h => List.mem_cons_of_mem _ (List.mem_append_right _ (h))) hown hK rfl (by decide) (hts (.fieldLink RX5 25 "MortarShow$Height" "landed" "Z") (List.mem_of_getElem? (i := 4) rfl)) tyX5 tyX5_ok nmX5 rfl rfl
  have hl := lv_entry ([.ref (ad h)]) (n := 1) (Nat.le_of_ble_eq_true rfl)
  rw [lg_entry_eq]
  generalize (lg_sl ([.ref (ad h)]) ++ List.replicate (1 - (lg_sl ([.ref (ad h)])).length) Slot.unset).toArray = ls at hl ⊢
  have hl : lv_has ls 1 [(0, .ref (ad h))] := hl
  refine lv_aload_n hx hb dX5_pass_0 rfl (lv_at hl 0 rfl) ?_
  refine wgI hx hb fa21 hW hh rfl dX5_pass_1 (fun x1 e1 => ?_)
  refine lv_if_eq (tgt := 39) hx hb dX5_pass_4 (by decide) (fun c4 => ?_) (fun c4 => ?_)
  · refine lv_aload_n hx hb dX5_pass_39 rfl (lv_at hl 0 rfl) ?_
    refine lv_dup hx hb dX5_pass_40 rfl ?_
    refine wgI hx hb fa18 hW hh rfl dX5_pass_41 (fun x41 e41 => ?_)
    refine lv_aload_n hx hb dX5_pass_44 rfl (lv_at hl 0 rfl) ?_
    refine wgI hx hb fa9 hW hh rfl dX5_pass_45 (fun x45 e45 => ?_)
    refine lv_iadd hx hb dX5_pass_48 ?_
    refine lv_topi (fun x48 e48 => ?_)
    refine wpI hx hb fw18 hA hW hh rfl dX5_pass_49 (fun M49 H locs eM49 hW => ?_)
    refine lv_aload_n hx hb dX5_pass_52 rfl (lv_at hl 0 rfl) ?_
    refine lv_dup hx hb dX5_pass_53 rfl ?_
    refine wgI hx hb fa9 hW hh rfl dX5_pass_54 (fun x54 e54 => ?_)
    refine lv_bipush (v := 10) hx hb dX5_pass_57 (by decide) ?_
    refine lv_isub hx hb dX5_pass_59 ?_
    refine lv_topi (fun x59 e59 => ?_)
    refine wpI hx hb fw9 hA hW hh rfl dX5_pass_60 (fun M60 H locs eM60 hW => ?_)
    refine lv_aload_n hx hb dX5_pass_63 rfl (lv_at hl 0 rfl) ?_
    have J76 : ∀ (y : Int32) (H : Heap) (locs : List Loc), (y = le0 (gI M60 h 0)) → WS D cA sh ad A s.heap M60 H locs → ∀ ls, lv_has ls 1 [(0, .ref (ad h))] → W p l e (headSpec wsX5_pass { frames := 0, cells := 0, slots := 0, locals := 0 }).room s m ([.ref (ad h)] : List Value).toArray below meth cd0 H locs 0 0 (MQ below (wQv D cA sh ad (fun M' => hst M' h = hstep (gI M h 1) (hst M h) ∧ gI M' h 1 = gI M h 1 ∧ oI (fun p _ => p = h) M M') A) ([.ref (ad h)] : List Value).toArray s 0 0 A) (F0 m 76 ls [.int y, .ref (ad h)]) := by
      intro y H locs hy hW ls hl
      refine wpZ hx hb fw21 hA hW hh rfl ⟨by rw [hy]; exact bI_n _, by rw [hy]; exact bI_f _⟩ dX5_pass_76 (fun M76 H locs eM76 hW => ?_)
      exact wr_wv hx hb hr hlocks hW dX5_pass_79 (by
          subst_vars
          refine ⟨?_, ?_, ?_⟩
          · first | (rw [hstep, if_neg (by exact c4)]; simp [hst, gI_sI]; done) | (rw [hstep, if_pos (by exact c4)]; simp [hst, gI_sI]; done)
          · simp [gI_sI]
          · first | exact oI.put (oI.put oI.rf rfl) rfl | exact oI.put (oI.put (oI.put oI.rf rfl) rfl) rfl)
    refine lv_aload_n hx hb dX5_pass_64 rfl (lv_at hl 0 rfl) ?_
    refine wgI hx hb fa9 hW hh rfl dX5_pass_65 (fun x65 e65 => ?_)
    refine lv_if_gt (tgt := 75) hx hb dX5_pass_68 (by decide) (fun c68 => ?_) (fun c68 => ?_)
    · refine lv_iconst (v := 0) hx hb dX5_pass_75 (by decide) ?_
      exact J76 0 _ _ (by rw [e65] at c68; first | exact bI_1 (i32_le.mp c68) | exact bI_1n (fun z => i32_le.mpr z c68)) hW ls (lv_sub hl [0] rfl)
    · refine lv_iconst (v := 1) hx hb dX5_pass_71 (by decide) ?_
      refine lv_goto (tgt := 76) hx hb dX5_pass_72 (by decide) ?_
      exact J76 1 _ _ (by rw [e65] at c68; first | exact bI_1 (i32_le.mp c68) | exact bI_1n (fun z => i32_le.mpr z c68)) hW ls (lv_sub hl [0] rfl)
  · refine lv_aload_n hx hb dX5_pass_7 rfl (lv_at hl 0 rfl) ?_
    refine lv_dup hx hb dX5_pass_8 rfl ?_
    refine wgI hx hb fa18 hW hh rfl dX5_pass_9 (fun x9 e9 => ?_)
    refine lv_aload_n hx hb dX5_pass_12 rfl (lv_at hl 0 rfl) ?_
    refine wgI hx hb fa15 hW hh rfl dX5_pass_13 (fun x13 e13 => ?_)
    refine lv_isub hx hb dX5_pass_16 ?_
    refine lv_topi (fun x16 e16 => ?_)
    refine wpI hx hb fw18 hA hW hh rfl dX5_pass_17 (fun M17 H locs eM17 hW => ?_)
    refine lv_aload_n hx hb dX5_pass_20 rfl (lv_at hl 0 rfl) ?_
    have J33 : ∀ (y : Int32) (H : Heap) (locs : List Loc), (y = le0 (gI M17 h 2)) → WS D cA sh ad A s.heap M17 H locs → ∀ ls, lv_has ls 1 [(0, .ref (ad h))] → W p l e (headSpec wsX5_pass { frames := 0, cells := 0, slots := 0, locals := 0 }).room s m ([.ref (ad h)] : List Value).toArray below meth cd0 H locs 0 0 (MQ below (wQv D cA sh ad (fun M' => hst M' h = hstep (gI M h 1) (hst M h) ∧ gI M' h 1 = gI M h 1 ∧ oI (fun p _ => p = h) M M') A) ([.ref (ad h)] : List Value).toArray s 0 0 A) (F0 m 33 ls [.int y, .ref (ad h)]) := by
      intro y H locs hy hW ls hl
      refine wpZ hx hb fw25 hA hW hh rfl ⟨by rw [hy]; exact bI_n _, by rw [hy]; exact bI_f _⟩ dX5_pass_33 (fun M33 H locs eM33 hW => ?_)
      refine lv_goto (tgt := 79) hx hb dX5_pass_36 (by decide) ?_
      exact wr_wv hx hb hr hlocks hW dX5_pass_79 (by
          subst_vars
          refine ⟨?_, ?_, ?_⟩
          · first | (rw [hstep, if_neg (by exact c4)]; simp [hst, gI_sI]; done) | (rw [hstep, if_pos (by exact c4)]; simp [hst, gI_sI]; done)
          · simp [gI_sI]
          · first | exact oI.put (oI.put oI.rf rfl) rfl | exact oI.put (oI.put (oI.put oI.rf rfl) rfl) rfl)
    refine lv_aload_n hx hb dX5_pass_21 rfl (lv_at hl 0 rfl) ?_
    refine wgI hx hb fa18 hW hh rfl dX5_pass_22 (fun x22 e22 => ?_)
    refine lv_if_gt (tgt := 32) hx hb dX5_pass_25 (by decide) (fun c25 => ?_) (fun c25 => ?_)
    · refine lv_iconst (v := 0) hx hb dX5_pass_32 (by decide) ?_
      exact J33 0 _ _ (by rw [e22] at c25; first | exact bI_1 (i32_le.mp c25) | exact bI_1n (fun z => i32_le.mpr z c25)) hW ls (lv_sub hl [0] rfl)
    · refine lv_iconst (v := 1) hx hb dX5_pass_28 (by decide) ?_
      refine lv_goto (tgt := 33) hx hb dX5_pass_29 (by decide) ?_
      exact J33 1 _ _ (by rw [e22] at c25; first | exact bI_1 (i32_le.mp c25) | exact bI_1n (fun z => i32_le.mpr z c25)) hW ls (lv_sub hl [0] rfl)
set_option maxHeartbeats 4000000 in
set_option maxRecDepth 100000 in
theorem c_X7_middleX (l : Launch) (D : va_G) (cA : Nat → ClassId) (sh : Nat → Option Sh) (ad : Nat → Nat) (M : MS) (sz : Nat) (q : Nat) (hq : sh q = some (.inl (7, [0, 0]))) : Met l yX7_middleX wsX7_middleX ({ frames := 0, cells := 0, slots := 0, locals := 0 }) (wPc D cA sh ad M sz [.ref (ad q)]) (rQi (fun r => r = gI M q 0 * 100 + 50)) 0 0 nA := by
  refine Met.ofW (cc := cX7_middleX) (maxL := 1) (ret := (some .int)) (by decide) rfl ?_
  intro p e s m args below meth cd0 s₁ B hml hv
  obtain ⟨rfl, hsz, hM, hK⟩ := hv
  have hx := B.exec
  have hb := B.bytes
  have hr := B.returns
  have hts := atoms_spec (ws := wsX7_middleX) B.pre
  have hown : s.vm.findClass RX7 = some m.cls := findClass_of_methodNamed B.named
  have hlocks := B.notSynchronized
  subst hsz
  obtain ⟨A, eA⟩ : ∃ A : Nat → Prop, A = nA := ⟨_, rfl⟩
  have hW : WS D cA sh ad A s.heap M s.heap [] := ⟨hM, va_S.rf⟩
  subst eA
  have fa9 : FA D s m ([.ref (ad q)] : List Value).toArray 9 7 0 := FA.mk (C := RX7) (T := TX7) (N := 2) hts (fun _ h => List.mem_cons_of_mem _ (List.mem_append_right _ (h))) hown hK rfl (by decide) (hts (.fieldLink RX7 9 "MortarShow$Rack" "column" "I") (List.mem_of_getElem? (i := 1) rfl))
  have hl := lv_entry ([.ref (ad q)]) (n := 1) (Nat.le_of_ble_eq_true rfl)
  rw [lg_entry_eq]
  generalize (lg_sl ([.ref (ad q)]) ++ List.replicate (1 - (lg_sl ([.ref (ad q)])).length) Slot.unset).toArray = ls at hl ⊢
  have hl : lv_has ls 1 [(0, .ref (ad q))] := hl
  refine lv_aload_n hx hb dX7_middleX_0 rfl (lv_at hl 0 rfl) ?_
  refine wgI hx hb fa9 hW hq rfl dX7_middleX_1 (fun x1 e1 => ?_)
  refine lv_bipush (v := 100) hx hb dX7_middleX_4 (by decide) ?_
  refine lv_imul hx hb dX7_middleX_6 ?_
  refine lv_topi (fun x6 e6 => ?_)
  refine lv_bipush (v := 50) hx hb dX7_middleX_7 (by decide) ?_
  refine lv_iadd hx hb dX7_middleX_9 ?_
  refine lv_topi (fun x9 e9 => ?_)
  exact wr_ri hx hb hr hlocks hW.2 dX7_middleX_10 (by rw [e9, e6, e1])
set_option maxHeartbeats 4000000 in
set_option maxRecDepth 100000 in
theorem c_X7_middleY (l : Launch) (D : va_G) (cA : Nat → ClassId) (sh : Nat → Option Sh) (ad : Nat → Nat) (M : MS) (sz : Nat) (q : Nat) (hq : sh q = some (.inl (7, [0, 0]))) : Met l yX7_middleY wsX7_middleY ({ frames := 0, cells := 0, slots := 0, locals := 0 }) (wPc D cA sh ad M sz [.ref (ad q)]) (rQi (fun r => r = gI M q 1 * 100 + 50)) 0 0 nA := by
  refine Met.ofW (cc := cX7_middleY) (maxL := 1) (ret := (some .int)) (by decide) rfl ?_
  intro p e s m args below meth cd0 s₁ B hml hv
  obtain ⟨rfl, hsz, hM, hK⟩ := hv
  have hx := B.exec
  have hb := B.bytes
  have hr := B.returns
  have hts := atoms_spec (ws := wsX7_middleY) B.pre
  have hown : s.vm.findClass RX7 = some m.cls := findClass_of_methodNamed B.named
  have hlocks := B.notSynchronized
  subst hsz
  obtain ⟨A, eA⟩ : ∃ A : Nat → Prop, A = nA := ⟨_, rfl⟩
  have hW : WS D cA sh ad A s.heap M s.heap [] := ⟨hM, va_S.rf⟩
  subst eA
  have fa15 : FA D s m ([.ref (ad q)] : List Value).toArray 15 7 1 := FA.mk (C := RX7) (T := TX7) (N := 2) hts (fun _ h => List.mem_cons_of_mem _ (List.mem_append_right _ (h))) hown hK rfl (by decide) (hts (.fieldLink RX7 15 "MortarShow$Rack" "line" "I") (List.mem_of_getElem? (i := 1) rfl))
  have hl := lv_entry ([.ref (ad q)]) (n := 1) (Nat.le_of_ble_eq_true rfl)
  rw [lg_entry_eq]
  generalize (lg_sl ([.ref (ad q)]) ++ List.replicate (1 - (lg_sl ([.ref (ad q)])).length) Slot.unset).toArray = ls at hl ⊢
  have hl : lv_has ls 1 [(0, .ref (ad q))] := hl
  refine lv_aload_n hx hb dX7_middleY_0 rfl (lv_at hl 0 rfl) ?_
  refine wgI hx hb fa15 hW hq rfl dX7_middleY_1 (fun x1 e1 => ?_)
  refine lv_bipush (v := 100) hx hb dX7_middleY_4 (by decide) ?_
  refine lv_imul hx hb dX7_middleY_6 ?_
  refine lv_topi (fun x6 e6 => ?_)
  refine lv_bipush (v := 50) hx hb dX7_middleY_7 (by decide) ?_
  refine lv_iadd hx hb dX7_middleY_9 ?_
  refine lv_topi (fun x9 e9 => ?_)
  exact wr_ri hx hb hr hlocks hW.2 dX7_middleY_10 (by rw [e9, e6, e1])
set_option maxHeartbeats 4000000 in
set_option maxRecDepth 100000 in
theorem c_J9_floorDiv_7cf53 (l : Launch) (x y : Int32) (hy : ¬ y = 0) : Met l yJ9_floorDiv_7cf53 wsJ9_floorDiv_7cf53 ({ frames := 0, cells := 0, slots := 0, locals := 0 }) (nPc [.int x, .int y]) (rQi (fun r => r = jfd x y)) 0 0 nA := by
  refine Met.ofWF (cc := cJ9_floorDiv_7cf53) (maxL := 3) (ret := (some .int)) (by decide +kernel) rfl ?_
  intro p e s m args below meth cd0 s₁ B hml hv
  obtain ⟨rfl, -⟩ := hv
  have hx := B.exec
  have hb := B.bytes
  have hr := B.returns
  have hts := atoms_spec (ws := wsJ9_floorDiv_7cf53) B.pre
  have hown : s.vm.findClass RJ9 = some m.cls := findClass_of_methodNamed B.named
  have hlocks := B.notSynchronized
  obtain ⟨A, eA⟩ : ∃ A : Nat → Prop, A = nA := ⟨_, rfl⟩
  have hW := nWS s
  obtain ⟨D, cA, sh, ad, m0, hW⟩ := hW
  rw [← eA] at hW
  subst eA
  have hl := lv_entry ([.int x, .int y]) (n := 3) (Nat.le_of_ble_eq_true rfl)
  rw [lg_entry_eq]
  generalize (lg_sl ([.int x, .int y]) ++ List.replicate (3 - (lg_sl ([.int x, .int y])).length) Slot.unset).toArray = ls at hl ⊢
  have hl : lv_has ls 3 [(0, .int x), (1, .int y)] := hl
  refine lv_iload_n hx hb dJ9_floorDiv_7cf53_0 rfl (lv_at hl 0 rfl) ?_
  refine lv_iload_n hx hb dJ9_floorDiv_7cf53_1 rfl (lv_at hl 1 rfl) ?_
  refine lv_idiv hx hb dJ9_floorDiv_7cf53_2 hy ?_
  refine lv_topi (fun x2 e2 => ?_)
  refine lv_istore_n (lv' := [(2, .int x2), (0, .int x), (1, .int y)]) hx hb dJ9_floorDiv_7cf53_3 rfl hl (by decide) rfl (fun ls hl => ?_)
  refine lv_iload_n hx hb dJ9_floorDiv_7cf53_4 rfl (lv_at hl 1 rfl) ?_
  refine lv_iload_n hx hb dJ9_floorDiv_7cf53_5 rfl (lv_at hl 2 rfl) ?_
  refine lv_ixor hx hb dJ9_floorDiv_7cf53_6 ?_
  refine lv_topi (fun x6 e6 => ?_)
  refine lv_if_ge (tgt := 21) hx hb dJ9_floorDiv_7cf53_7 (by decide) (fun c7 => ?_) (fun c7 => ?_)
  · refine lv_iload_n hx hb dJ9_floorDiv_7cf53_21 rfl (lv_at hl 0 rfl) ?_
    exact wr_ri hx hb hr hlocks hW.2 dJ9_floorDiv_7cf53_22 (by rw [e2, jfd]; first | (rw [if_pos (by rw [← e6]; exact c7)]) | (rw [if_neg (by rw [← e6]; exact c7), if_pos (by rw [← e2, ← e12]; exact c14)]))
  · refine lv_iload_n hx hb dJ9_floorDiv_7cf53_10 rfl (lv_at hl 0 rfl) ?_
    refine lv_iload_n hx hb dJ9_floorDiv_7cf53_11 rfl (lv_at hl 2 rfl) ?_
    refine lv_imul hx hb dJ9_floorDiv_7cf53_12 ?_
    refine lv_topi (fun x12 e12 => ?_)
    refine lv_iload_n hx hb dJ9_floorDiv_7cf53_13 rfl (lv_at hl 1 rfl) ?_
    refine lv_icmp_eq (tgt := 21) hx hb dJ9_floorDiv_7cf53_14 (by decide) (fun c14 => ?_) (fun c14 => ?_)
    · refine lv_iload_n hx hb dJ9_floorDiv_7cf53_21 rfl (lv_at hl 0 rfl) ?_
      exact wr_ri hx hb hr hlocks hW.2 dJ9_floorDiv_7cf53_22 (by rw [e2, jfd]; first | (rw [if_pos (by rw [← e6]; exact c7)]) | (rw [if_neg (by rw [← e6]; exact c7), if_pos (by rw [← e2, ← e12]; exact c14)]))
    · refine lv_iload_n hx hb dJ9_floorDiv_7cf53_17 rfl (lv_at hl 0 rfl) ?_
      refine lv_iconst (v := 1) hx hb dJ9_floorDiv_7cf53_18 (by decide) ?_
      refine lv_isub hx hb dJ9_floorDiv_7cf53_19 ?_
      refine lv_topi (fun x19 e19 => ?_)
      exact wr_ri hx hb hr hlocks hW.2 dJ9_floorDiv_7cf53_20 (by rw [e19, e2, jfd, if_neg (by rw [← e6]; exact c7), if_neg (by rw [← e2, ← e12]; exact c14)])
set_option maxHeartbeats 4000000 in
set_option maxRecDepth 100000 in
theorem c_X9_outside (l : Launch) (v lo hi : Int32) : Met l yX9_outside wsX9_outside ({ frames := 0, cells := 0, slots := 0, locals := 0 }) (nPc [.int v, .int lo, .int hi]) (rQi (fun r => r = bI (outB v lo hi))) 0 0 nA := by
  refine Met.ofW (cc := cX9_outside) (maxL := 3) (ret := (some .boolean)) (by decide) rfl ?_
  intro p e s m args below meth cd0 s₁ B hml hv
  obtain ⟨rfl, -⟩ := hv
  have hx := B.exec
  have hb := B.bytes
  have hr := B.returns
  have hts := atoms_spec (ws := wsX9_outside) B.pre
  have hown : s.vm.findClass RX9 = some m.cls := findClass_of_methodNamed B.named
  have hlocks := B.notSynchronized
  obtain ⟨A, eA⟩ : ∃ A : Nat → Prop, A = nA := ⟨_, rfl⟩
  have hW := nWS s
  obtain ⟨D, cA, sh, ad, m0, hW⟩ := hW
  rw [← eA] at hW
  subst eA
  have hl := lv_entry ([.int v, .int lo, .int hi]) (n := 3) (Nat.le_of_ble_eq_true rfl)
  rw [lg_entry_eq]
  generalize (lg_sl ([.int v, .int lo, .int hi]) ++ List.replicate (3 - (lg_sl ([.int v, .int lo, .int hi])).length) Slot.unset).toArray = ls at hl ⊢
  have hl : lv_has ls 3 [(0, .int v), (1, .int lo), (2, .int hi)] := hl
  refine lv_iload_n hx hb dX9_outside_0 rfl (lv_at hl 0 rfl) ?_
  refine lv_iload_n hx hb dX9_outside_1 rfl (lv_at hl 1 rfl) ?_
  refine lv_icmp_lt (tgt := 10) hx hb dX9_outside_2 (by decide) (fun c2 => ?_) (fun c2 => ?_)
  · refine lv_iconst (v := 1) hx hb dX9_outside_10 (by decide) ?_
    refine lv_goto (tgt := 15) hx hb dX9_outside_11 (by decide) ?_
    exact wr_rz hx hb hr hlocks hW.2 dX9_outside_15 rfl (by rw [outB_t (by first | exact Or.inl c2 | exact Or.inr (Decidable.not_not.mp (fun z => c7 (i32_le.mp z))))]; rfl)
  · refine lv_iload_n hx hb dX9_outside_5 rfl (lv_at hl 0 rfl) ?_
    refine lv_iload_n hx hb dX9_outside_6 rfl (lv_at hl 2 rfl) ?_
    refine lv_icmp_le (tgt := 14) hx hb dX9_outside_7 (by decide) (fun c7 => ?_) (fun c7 => ?_)
    · refine lv_iconst (v := 0) hx hb dX9_outside_14 (by decide) ?_
      exact wr_rz hx hb hr hlocks hW.2 dX9_outside_15 rfl (by rw [outB_f (fun q => q.elim c2 (i32_le.mpr c7))]; rfl)
    · refine lv_iconst (v := 1) hx hb dX9_outside_10 (by decide) ?_
      refine lv_goto (tgt := 15) hx hb dX9_outside_11 (by decide) ?_
      exact wr_rz hx hb hr hlocks hW.2 dX9_outside_15 rfl (by rw [outB_t (by first | exact Or.inl c2 | exact Or.inr (Decidable.not_not.mp (fun z => c7 (i32_le.mp z))))]; rfl)
set_option maxHeartbeats 4000000 in
set_option maxRecDepth 100000 in
theorem c_X9_zoneOf (l : Launch) (co l0 : Int32) : Met l yX9_zoneOf wsX9_zoneOf ({ frames := 0, cells := 0, slots := 0, locals := 0 }) (nPc [.int co, .int l0]) (rQi (fun r => r = 8 * l0 + co)) 0 0 nA := by
  refine Met.ofW (cc := cX9_zoneOf) (maxL := 2) (ret := (some .int)) (by decide) rfl ?_
  intro p e s m args below meth cd0 s₁ B hml hv
  obtain ⟨rfl, -⟩ := hv
  have hx := B.exec
  have hb := B.bytes
  have hr := B.returns
  have hts := atoms_spec (ws := wsX9_zoneOf) B.pre
  have hown : s.vm.findClass RX9 = some m.cls := findClass_of_methodNamed B.named
  have hlocks := B.notSynchronized
  obtain ⟨A, eA⟩ : ∃ A : Nat → Prop, A = nA := ⟨_, rfl⟩
  have hW := nWS s
  obtain ⟨D, cA, sh, ad, m0, hW⟩ := hW
  rw [← eA] at hW
  subst eA
  have hl := lv_entry ([.int co, .int l0]) (n := 2) (Nat.le_of_ble_eq_true rfl)
  rw [lg_entry_eq]
  generalize (lg_sl ([.int co, .int l0]) ++ List.replicate (2 - (lg_sl ([.int co, .int l0])).length) Slot.unset).toArray = ls at hl ⊢
  have hl : lv_has ls 2 [(0, .int co), (1, .int l0)] := hl
  refine lv_bipush (v := 8) hx hb dX9_zoneOf_0 (by decide) ?_
  refine lv_iload_n hx hb dX9_zoneOf_2 rfl (lv_at hl 1 rfl) ?_
  refine lv_imul hx hb dX9_zoneOf_3 ?_
  refine lv_topi (fun x3 e3 => ?_)
  refine lv_iload_n hx hb dX9_zoneOf_4 rfl (lv_at hl 0 rfl) ?_
  refine lv_iadd hx hb dX9_zoneOf_5 ?_
  refine lv_topi (fun x5 e5 => ?_)
  exact wr_ri hx hb hr hlocks hW.2 dX9_zoneOf_6 (by rw [e5, e3])
set_option maxHeartbeats 4000000 in
set_option maxRecDepth 100000 in
theorem c_X9_offGround (l : Launch) (co l0 : Int32) : Met l yX9_offGround wsX9_offGround ({ frames := 1, cells := 0, slots := 0, locals := 22 }) (nPc [.int co, .int l0]) (rQi (fun r => r = bI (offB co l0))) 0 0 nA := by
  refine Met.ofW (cc := cX9_offGround) (maxL := 2) (ret := (some .boolean)) (by decide) rfl ?_
  intro p e s m args below meth cd0 s₁ B hml hv
  obtain ⟨rfl, -⟩ := hv
  have hx := B.exec
  have hb := B.bytes
  have hr := B.returns
  have hts := atoms_spec (ws := wsX9_offGround) B.pre
  have hown : s.vm.findClass RX9 = some m.cls := findClass_of_methodNamed B.named
  have hlocks := B.notSynchronized
  obtain ⟨A, eA⟩ : ∃ A : Nat → Prop, A = nA := ⟨_, rfl⟩
  have hW := nWS s
  obtain ⟨D, cA, sh, ad, m0, hW⟩ := hW
  rw [← eA] at hW
  subst eA
  have hl := lv_entry ([.int co, .int l0]) (n := 2) (Nat.le_of_ble_eq_true rfl)
  rw [lg_entry_eq]
  generalize (lg_sl ([.int co, .int l0]) ++ List.replicate (2 - (lg_sl ([.int co, .int l0])).length) Slot.unset).toArray = ls at hl ⊢
  have hl : lv_has ls 2 [(0, .int co), (1, .int l0)] := hl
  refine lv_iload_n hx hb dX9_offGround_0 rfl (lv_at hl 0 rfl) ?_
  refine lv_iconst (v := 0) hx hb dX9_offGround_1 (by decide) ?_
  refine lv_bipush (v := 7) hx hb dX9_offGround_2 (by decide) ?_
  refine wc_ri (va_runS (As := [.int co, .int 0, .int 7]) (rest := []) ⟨hx, hb, hml, hown, hts⟩ (c_X9_outside l co 0 7) (va_cwS 3 hts gX9_offGround_X9_outside rfl rfl rfl (by decide +kernel) ⟨Nat.le_of_ble_eq_true rfl, Nat.le_of_ble_eq_true rfl⟩) npreS rfl rfl hl.1 rfl (lv_room (Nat.le_of_ble_eq_true rfl)) dX9_offGround_4 ⟨Nat.le_of_ble_eq_true rfl, Nat.le_of_ble_eq_true rfl⟩) hW (fun x4 H locs p4 hW => ?_)
  try dsimp only at p4
  refine lv_if_ne (tgt := 20) hx hb dX9_offGround_7 (by decide) (fun c7 => ?_) (fun c7 => ?_)
  · refine lv_iconst (v := 1) hx hb dX9_offGround_20 (by decide) ?_
    refine lv_goto (tgt := 25) hx hb dX9_offGround_21 (by decide) ?_
    exact wr_rz hx hb hr hlocks hW.2 dX9_offGround_25 rfl (by unfold offB; first | (rw [p4] at c7; rw [bI_t.mp c7]; rfl) | (rw [p14] at c17; rw [bI_t.mp c17, Bool.or_true]; rfl))
  · refine lv_iload_n hx hb dX9_offGround_10 rfl (lv_at hl 1 rfl) ?_
    refine lv_iconst (v := 0) hx hb dX9_offGround_11 (by decide) ?_
    refine lv_bipush (v := 7) hx hb dX9_offGround_12 (by decide) ?_
    refine wc_ri (va_runS (As := [.int l0, .int 0, .int 7]) (rest := []) ⟨hx, hb, hml, hown, hts⟩ (c_X9_outside l l0 0 7) (va_cwS 3 hts gX9_offGround_X9_outside rfl rfl rfl (by decide +kernel) ⟨Nat.le_of_ble_eq_true rfl, Nat.le_of_ble_eq_true rfl⟩) npreS rfl rfl hl.1 rfl (lv_room (Nat.le_of_ble_eq_true rfl)) dX9_offGround_14 ⟨Nat.le_of_ble_eq_true rfl, Nat.le_of_ble_eq_true rfl⟩) hW (fun x14 H locs p14 hW => ?_)
    try dsimp only at p14
    refine lv_if_eq (tgt := 24) hx hb dX9_offGround_17 (by decide) (fun c17 => ?_) (fun c17 => ?_)
    · refine lv_iconst (v := 0) hx hb dX9_offGround_24 (by decide) ?_
      exact wr_rz hx hb hr hlocks hW.2 dX9_offGround_25 rfl (by rw [p4] at c7; rw [p14] at c17; unfold offB; rw [bI_z.mp c7, bI_z.mp c17]; rfl)
    · refine lv_iconst (v := 1) hx hb dX9_offGround_20 (by decide) ?_
      refine lv_goto (tgt := 25) hx hb dX9_offGround_21 (by decide) ?_
      exact wr_rz hx hb hr hlocks hW.2 dX9_offGround_25 rfl (by unfold offB; first | (rw [p4] at c7; rw [bI_t.mp c7]; rfl) | (rw [p14] at c17; rw [bI_t.mp c17, Bool.or_true]; rfl))

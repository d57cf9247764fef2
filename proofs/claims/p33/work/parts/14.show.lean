/-! The whole relation of the show; its private methods. -/
def pres (σ : AS) (i : Nat) : Bool := decide (i < aN σ ∧ σ.2 10 i = 0)
def stP (σ : AS) (i : Nat) : Bool := pres σ i && stkB σ i
theorem pres_t {σ : AS} {i : Nat} (h : i < aN σ) (g : σ.2 10 i = 0) : pres σ i = true := decide_eq_true ⟨h, g⟩
theorem pres_f {σ : AS} {i : Nat} (h : ¬ (i < aN σ ∧ σ.2 10 i = 0)) : pres σ i = false := decide_eq_false h
/-- values, rates -/
abbrev VT : Type := (Nat → Int32) × (Nat → Int32)
def XX (σ : AS) (v : VT) (M : MS) : Prop := AOK σ ∧ XR σ M ∧ XPl σ M ∧ gI M 0 11 = nI (ctN (pres σ) 40) ∧ (∀ k, k < 64 → gI M 3 k = v.1 k) ∧ ∀ k, k < 10 → gI M 21 k = v.2 k
/-- what the show may change -/
def XSx (p _k : Nat) : Prop := p < 60 ∨ 100 ≤ p
theorem PlanR.oA {σ : AS} {q : Nat → Nat} {c : Nat} {M M' : MS} {S : Nat → Nat → Prop} (h : PlanR σ q c M) (o : oA S M M') (hs : ∀ p k, S p k → p ≠ 0 ∧ p ≠ 12 ∧ p ≠ 18 ∧ p ≠ 20 ∧ p < 100) : PlanR σ q c M' := by
  have F : ∀ p k, (p = 0 ∨ p = 12 ∨ p = 18 ∨ p = 20 ∨ 100 ≤ p) → gI M' p k = gI M p k ∧ gL M' p k = gL M p k ∧ gR M' p k = gR M p k := fun p k hp => o p k (fun z => by have := hs p k z; omega)
  obtain ⟨h1, h2, h3, h4, h5, h6, h7⟩ := h
  refine ⟨h1, fun i hi hg => ?_, fun j hj => ?_, fun d hd => ?_, ?_, fun j hj hn => ?_, ?_⟩
  · rw [(F (100 + i) 4 (by omega)).2.1, (F (100 + i) 5 (by omega)).1, (F (100 + i) 6 (by omega)).1, (F (100 + i) 7 (by omega)).1, (F (100 + i) 8 (by omega)).1]; exact h2 i hi hg
  · rw [(F (100 + q j) 7 (by omega)).1, (F (100 + q j) 8 (by omega)).1]; exact h3 j hj
  · rw [(F 18 d (by omega)).1]; exact h4 d hd
  · rw [(F 0 12 (by omega)).1]; exact h5
  · rw [(F 20 _ (by omega)).2.2]; exact h6 j hj hn
  · rw [(F 12 3 (by omega)).1]; exact h7
theorem XX.fr {σ : AS} {v : VT} {M M' : MS} {S : Nat → Nat → Prop} (h : XX σ v M) (o : oA S M M') (hs : ∀ p k, S p k → (60 ≤ p ∧ p < 100) ∨ p = 9 ∨ p = 10) : XX σ v M' := by
  obtain ⟨ok, hR, hP, hL, hV, hT⟩ := h
  have F : ∀ p k, p < 60 ∧ p ≠ 9 ∧ p ≠ 10 → gI M' p k = gI M p k := fun p k hp => (o p k (fun z => by have := hs p k z; omega)).1
  refine ⟨ok, hR.oA o (fun p k hx hz => by have := hs p k hz; unfold XRs at hx; omega), ?_, (F _ _ (by omega)).trans hL, fun k hk => (F _ _ (by omega)).trans (hV k hk), fun k hk => (F _ _ (by omega)).trans (hT k hk)⟩
  rcases hP with z | ⟨z, q, c, hq⟩
  · exact Or.inl ((F _ _ (by omega)).trans z)
  · exact Or.inr ⟨(F _ _ (by omega)).trans z, q, c, hq.oA o (fun p k hz => by have := hs p k hz; omega)⟩
theorem XX.pl {σ : AS} {v : VT} {M M' : MS} (h : XX σ v M) (o : oA XSc M M') (h1 : gI M' 0 14 = 1) (h2 : ∃ q c, PlanR σ q c M') : XX σ v M' := by
  obtain ⟨ok, hR, hP, hL, hV, hT⟩ := h
  have F : ∀ p k, ¬ XSc p k → gI M' p k = gI M p k := fun p k hp => (o p k hp).1
  exact ⟨ok, hR.oA o (fun p k hx hz => by unfold XSc at hz; unfold XRs at hx; omega), Or.inr ⟨h1, h2⟩, (F _ _ (by unfold XSc; omega)).trans hL, fun k hk => (F _ _ (by unfold XSc; omega)).trans (hV k hk), fun k hk => (F _ _ (by unfold XSc; omega)).trans (hT k hk)⟩
theorem XSc_x {M M' : MS} (o : oA XSc M M') : oA XSx M M' := o.mono (fun p k h => by unfold XSc at h; unfold XSx; omega)
/-- the cue of a number -/
def cuB (σ : AS) (v : Int32) : Bool := (List.range (aN σ)).any fun i => decide (v = nI i) && decide (σ.2 10 i = 0)
theorem cuB_iff {σ : AS} {v : Int32} : cuB σ v = true ↔ ∃ i, i < aN σ ∧ v = nI i ∧ σ.2 10 i = 0 := by
  simp [cuB, List.any_eq_true]
theorem cuB_no {σ : AS} {v : Int32} (h : ∀ i, i < aN σ → v = nI i → ¬ σ.2 10 i = 0) : cuB σ v = false := by
  cases hq : cuB σ v with
  | false => rfl
  | true => obtain ⟨i, h1, h2, h3⟩ := cuB_iff.mp hq; exact absurd h3 (h i h1 h2)
theorem cuB_yes {σ : AS} {i : Nat} (h : i < aN σ) (g : σ.2 10 i = 0) : cuB σ (nI i) = true := cuB_iff.mpr ⟨i, h, rfl, g⟩
/-- a value between 0 and n -/
theorem out_n {v : Int32} {n : Nat} (hn : n < 2 ^ 31) (h : outB v 0 (nI n) = false) : ∃ r, r < n + 1 ∧ v = nI r := by
  have h2 := of_decide_eq_false h
  have h0 : ¬ v < 0 := fun q => h2 (Or.inl q)
  have h1 : ¬ nI n < v := fun q => h2 (Or.inr q)
  obtain ⟨j, hj, e⟩ := nI_of h0
  refine ⟨j, ?_, e⟩
  rw [e, nI_ltI hn hj] at h1
  omega
theorem out_i {v lo hi : Int32} (h : outB v lo hi = false) : lo.toInt ≤ v.toInt ∧ v.toInt ≤ hi.toInt := by
  have h2 := of_decide_eq_false h
  rw [i32lt, i32lt] at h2
  omega
theorem nI_out {i n : Nat} (h : i ≤ n) (hn : n < 2 ^ 31) : outB (nI i) 0 (nI n) = false := by
  apply outB_f
  intro q
  rcases q with q | q
  · rw [i32lt, nI_toInt (by omega)] at q
    have : (0 : Int32).toInt = 0 := rfl
    omega
  · rw [nI_ltI (by omega) (by omega)] at q; omega
theorem i32_nl {x k : Int32} {n : Int} (h : ¬ x = k) (hk : k.toInt = n) : x.toInt ≠ n := fun q => h (Int32.toInt_inj.mp (q.trans hk.symm))
/-- a number as the reader of an int -/
def n1 (v : Int32) : Nat := v.toInt.toNat
theorem n1_nI {i : Nat} (h : i < 2 ^ 31) : n1 (nI i) = i := by unfold n1; rw [nI_toInt h]; rfl
/-- places as they are told -/
def plT (w x y : Int32) : Int32 := if w = 0 then x else if w = 1 then y else if w = 2 then jfd x 100 else jfd y 100
/-- prices -/
def refI (p : Int64) : Int32 := if 2147483647 < p then -2 else p.toInt32
theorem lgcmp_le (x y : Int64) : lg_cmp x y ≤ 0 ↔ ¬ y < x := by
  unfold lg_cmp
  by_cases h : x > y
  · rw [if_pos h]; exact ⟨fun q => absurd q (by decide), fun q => absurd h q⟩
  · rw [if_neg h]
    by_cases h2 : x = y
    · rw [if_pos h2]; exact ⟨fun _ => h, fun _ => by decide⟩
    · rw [if_neg h2]; exact ⟨fun _ => h, fun _ => by decide⟩
def valV (w : Nat → Int32) (p : Nat → Bool) : Nat → Int64
  | 0 => 0
  | k + 1 => if p k = true then valV w p k + (w k).toInt64 else valV w p k
theorem valTo_eq {M : MS} {z : Int64} {w : Nat → Int32} {p : Nat → Bool} (h1 : ∀ k, k < 64 → gI M 3 k = w k) (h2 : ∀ k, k < 64 → bitL z k = p k) : ∀ n, n ≤ 64 → valTo M z n = valV w p n
  | 0, _ => rfl
  | n + 1, h => by
    unfold valTo valV
    rw [valTo_eq h1 h2 n (by omega), h1 n (by omega), h2 n (by omega)]
def hrN (σ : AS) (i : Nat) : Nat := min 9 (n1 (tkI σ i) / 100)
theorem hr_eq {t : Int32} (h : 0 ≤ t.toInt ∧ t.toInt ≤ 10000) : (if (0 : Int32) < (if t / 100 < 9 then t / 100 else 9) then (if t / 100 < 9 then t / 100 else 9) else 0) = nI (min 9 (n1 t / 100)) := by
  have h0 : ¬ t < 0 := fun q => by rw [i32lt] at q; have : (0 : Int32).toInt = 0 := rfl; omega
  obtain ⟨j, hj, e⟩ := nI_of h0
  have hj2 : j ≤ 10000 := by rw [e, nI_toInt hj] at h; omega
  have e2 : t / 100 = nI (j / 100) := by rw [e, nlit 100]; exact pk_div (by omega) (by omega) (by omega)
  have a : (if t / 100 < 9 then t / 100 else 9) = nI (min 9 (j / 100)) := by
    rw [e2]
    by_cases c1 : j / 100 < 9
    · rw [if_pos (show nI (j / 100) < 9 from (nI_ltI (b := 9) (by omega) (by decide)).mpr c1), Nat.min_eq_right (by omega)]
    · rw [if_neg (show ¬ nI (j / 100) < 9 from fun q => c1 ((nI_ltI (b := 9) (by omega) (by decide)).mp q)), Nat.min_eq_left (by omega)]; rfl
  have hb : min 9 (j / 100) ≤ 9 := Nat.min_le_left _ _
  have e3 : n1 t = j := by rw [e]; exact n1_nI hj
  rw [a, e3]
  generalize min 9 (j / 100) = y at hb
  by_cases c2 : y = 0
  · rw [c2]; rfl
  · rw [if_pos (show 0 < nI y from (nI_ltI (a := 0) (by decide) (by omega)).mpr (by omega))]
def priA (σ : AS) (v : VT) (i : Nat) : Int64 := (valV v.1 (zonB σ i) 64 + 1) * (v.2 (hrN σ i)).toInt64
def spB (g : Nat → Bool) (d : Nat) : Bool := decide (6 ≤ d % 8) && g d
theorem spB_f1 {g : Nat → Bool} {d : Nat} (h : d % 8 < 6) : spB g d = false := by unfold spB; rw [decide_eq_false (by omega)]; rfl
theorem ct_f {p : Nat → Bool} {x : Int32} {k : Nat} (h : x = nI (ctN p k)) (hp : p k = false) : x = nI (ctN p (k + 1)) := by rw [ctN_s, hp, h]; rfl
theorem ct_t {p : Nat → Bool} {x : Int32} {k : Nat} (h : x = nI (ctN p k)) (hp : p k = true) : x + 1 = nI (ctN p (k + 1)) := by rw [ctN_s, hp, h, nlit 1, nI_add]; rfl
theorem ctN_same {p q : Nat → Bool} : ∀ {k : Nat}, (∀ i, i < k → p i = q i) → ctN p k = ctN q k
  | 0, _ => rfl
  | k + 1, h => by rw [ctN_s, ctN_s, ctN_same (fun i hi => h i (by omega)), h k (by omega)]
/-- with the plan: struck or not -/
theorem PlanR_stk {σ : AS} {q : Nat → Nat} {c : Nat} {M : MS} (h : PlanR σ q c M) {i : Nat} (hi : i < aN σ) (hg : σ.2 10 i = 0) (hn : aN σ ≤ 40) : gI M (100 + i) 7 = 1 ↔ stkB σ i = true := by
  by_cases he : elg σ i
  · obtain ⟨j, hj, ej⟩ := h.1.2.1 i (by omega) he
    have h3 := (h.2.2.1 j hj).2
    rw [ej] at h3
    rw [h3, he.2.2.1]
    split <;> simp <;> decide
  · rw [((h.2.1 i hi hg).2.2.2 he).2]
    cases stkB σ i <;> simp <;> decide
set_option maxHeartbeats 4000000 in
set_option maxRecDepth 100000 in
theorem c_X1_sparesGiven (l : Launch) (D : va_G) (cA : Nat → ClassId) (sh : Nat → Option Sh) (ad : Nat → Nat) (M : MS) (sz : Nat) (n : Nat) (hX : XSh n sh) (g : Nat → Bool) (hg : ∀ d, d < 32 → (gI M 18 d = -1 ↔ g d = false)) : Met l yX1_sparesGiven wsX1_sparesGiven ({ frames := 0, cells := 0, slots := 0, locals := 0 }) (wPc D cA sh ad M sz [.ref (ad 16)]) (rQi (fun r => r = nI (ctN (spB g) 32))) 0 0 nA := by
  refine Met.ofW (cc := cX1_sparesGiven) (maxL := 3) (ret := (some .int)) (by decide) rfl ?_
  intro p e s m args below meth cd0 s₁ B hml hv
  obtain ⟨rfl, hsz, hM, hK⟩ := hv
  have hx := B.exec
  have hb := B.bytes
  have hr := B.returns
  have hts := atoms_spec (ws := wsX1_sparesGiven) B.pre
  have hown : s.vm.findClass RX1 = some m.cls := findClass_of_methodNamed B.named
  have hlocks := B.notSynchronized
  subst hsz
  obtain ⟨A, eA⟩ : ∃ A : Nat → Prop, A = nA := ⟨_, rfl⟩
  have hW : WS D cA sh ad A s.heap M s.heap [] := ⟨hM, va_S.rf⟩
  subst eA
  have fa15 : FA D s m ([.ref (ad 16)] : List Value).toArray 15 1 1 := FA.mk (C := RX1) (T := TX1) (N := 4) hts (fun _ h => List.mem_cons_of_mem _ (List.mem_append_right _ (h))) hown hK rfl (by decide) (hts (.fieldLink RX1 15 "MortarShow$Boxes" "given" "[I") (List.mem_of_getElem? (i := 1) rfl))
  have hl := lv_entry ([.ref (ad 16)]) (n := 3) (Nat.le_of_ble_eq_true rfl)
  rw [lg_entry_eq]
  generalize (lg_sl ([.ref (ad 16)]) ++ List.replicate (3 - (lg_sl ([.ref (ad 16)])).length) Slot.unset).toArray = ls at hl ⊢
  have hl : lv_has ls 3 [(0, .ref (ad 16))] := hl
  refine lv_iconst (v := 0) hx hb dX1_sparesGiven_0 (by decide) ?_
  refine lv_istore_n (lv' := [(1, .int 0), (0, .ref (ad 16))]) hx hb dX1_sparesGiven_1 rfl hl (by decide) rfl (fun ls hl => ?_)
  refine lv_iconst (v := 0) hx hb dX1_sparesGiven_2 (by decide) ?_
  refine lv_istore_n (lv' := [(2, .int 0), (1, .int 0), (0, .ref (ad 16))]) hx hb dX1_sparesGiven_3 rfl hl (by decide) rfl (fun ls hl => ?_)
  have L4 : ∀ (fu : Nat) (k : Nat) (xk : Int32) (xs : Int32) (H : Heap) (locs : List Loc), 32 - k < fu → (k ≤ 32) → (xk = nI k) → (xs = nI (ctN (spB g) k)) → WS D cA sh ad nA s.heap M H locs → ∀ ls, lv_has ls 3 [(2, .int xk), (1, .int xs), (0, .ref (ad 16))] → W p l e (headSpec wsX1_sparesGiven { frames := 0, cells := 0, slots := 0, locals := 0 }).room s m ([.ref (ad 16)] : List Value).toArray below meth cd0 H locs 0 0 (MQ below (rQi (fun r => r = nI (ctN (spB g) 32))) ([.ref (ad 16)] : List Value).toArray s 0 0 nA) (F0 m 4 ls []) := by
    intro fu
    induction fu with
    | zero =>
      intro k xk xs H locs hn hk ek es hW ls hl
      exact absurd hn (Nat.not_lt_zero _)
    | succ fu ih4 =>
      intro k xk xs H locs hn hk ek es hW ls hl
      refine lv_iload_n hx hb dX1_sparesGiven_4 rfl (lv_at hl 0 rfl) ?_
      refine lv_bipush (v := 32) hx hb dX1_sparesGiven_5 (by decide) ?_
      refine lv_icmp_ge (tgt := 38) hx hb dX1_sparesGiven_7 (by decide) (fun c7 => ?_) (fun c7 => ?_)
      · have k7 : 32 ≤ k := kc_ge ek (nlit 32) (by omega) (by omega) c7
        refine lv_iload_n hx hb dX1_sparesGiven_38 rfl (lv_at hl 1 rfl) ?_
        exact wr_ri hx hb hr hlocks hW.2 dX1_sparesGiven_39 (by rw [es, show k = 32 by omega])
      · have k7 : ¬ 32 ≤ k := kc_gen ek (nlit 32) (by omega) (by omega) c7
        refine lv_iload_n hx hb dX1_sparesGiven_10 rfl (lv_at hl 0 rfl) ?_
        refine lv_bipush (v := 8) hx hb dX1_sparesGiven_11 (by decide) ?_
        refine lv_irem hx hb dX1_sparesGiven_13 (by decide) ?_
        refine lv_topi (fun x13 e13 => ?_)
        have n13 : x13 = nI (k % 8) := (by rw [e13, ek, (nlit 8)]; exact pk_rem (by omega) (by omega) (by omega))
        refine lv_bipush (v := 6) hx hb dX1_sparesGiven_14 (by decide) ?_
        refine lv_icmp_lt (tgt := 32) hx hb dX1_sparesGiven_16 (by decide) (fun c16 => ?_) (fun c16 => ?_)
        · have k16 : (k % 8) < 6 := kc_lt n13 (nlit 6) (by omega) (by omega) c16
          obtain ⟨x32, e32⟩ : ∃ y : Int32, y = xk + 1 := ⟨_, rfl⟩
          refine lv_iinc (v := x32) (lv' := [(2, .int x32), (1, .int xs), (0, .ref (ad 16))]) hx hb dX1_sparesGiven_32 hl (k := 0) rfl (by rw [e32]; rfl) (by decide) rfl (fun ls hl => ?_)
          refine lv_goto (tgt := 4) hx hb dX1_sparesGiven_35 (by decide) ?_
          exact ih4 (k + 1) x32 xs _ _ (by omega) (by omega) (by rw [e32, ek, nlit 1, nI_add]) (by
              first
              | exact ct_f es (spB_f1 k16)
              | exact ct_f es (by unfold spB; rw [(hg k (by omega)).mp (e24.symm.trans c26)]; exact Bool.and_false _)
              | (rw [e29]; exact ct_t es (by
                  unfold spB
                  rw [decide_eq_true (by omega), Bool.true_and]
                  cases hq : g k with
                  | true => rfl
                  | false => exact absurd (e24.trans ((hg k (by omega)).mpr hq)) c26))) hW ls (lv_sub hl [0, 1, 2] rfl)
        · have k16 : ¬ (k % 8) < 6 := kc_ltn n13 (nlit 6) (by omega) (by omega) c16
          refine lv_aload_n hx hb dX1_sparesGiven_19 rfl (lv_at hl 2 rfl) ?_
          refine wgF (t := 18) hx hb fa15 hW (hX.1 16 (by decide)) rfl dX1_sparesGiven_20 ?_
          refine lv_iload_n hx hb dX1_sparesGiven_23 rfl (lv_at hl 0 rfl) ?_
          refine walI (j := k) hx hb hK hW (hX.1 18 (by decide)) ek (by omega) (by decide) dX1_sparesGiven_24 (fun x24 e24 => ?_)
          refine lv_iconst (v := (-1)) hx hb dX1_sparesGiven_25 (by decide) ?_
          refine lv_icmp_eq (tgt := 32) hx hb dX1_sparesGiven_26 (by decide) (fun c26 => ?_) (fun c26 => ?_)
          · obtain ⟨x32, e32⟩ : ∃ y : Int32, y = xk + 1 := ⟨_, rfl⟩
            refine lv_iinc (v := x32) (lv' := [(2, .int x32), (1, .int xs), (0, .ref (ad 16))]) hx hb dX1_sparesGiven_32 hl (k := 0) rfl (by rw [e32]; rfl) (by decide) rfl (fun ls hl => ?_)
            refine lv_goto (tgt := 4) hx hb dX1_sparesGiven_35 (by decide) ?_
            exact ih4 (k + 1) x32 xs _ _ (by omega) (by omega) (by rw [e32, ek, nlit 1, nI_add]) (by
                first
                | exact ct_f es (spB_f1 k16)
                | exact ct_f es (by unfold spB; rw [(hg k (by omega)).mp (e24.symm.trans c26)]; exact Bool.and_false _)
                | (rw [e29]; exact ct_t es (by
                    unfold spB
                    rw [decide_eq_true (by omega), Bool.true_and]
                    cases hq : g k with
                    | true => rfl
                    | false => exact absurd (e24.trans ((hg k (by omega)).mpr hq)) c26))) hW ls (lv_sub hl [0, 1, 2] rfl)
          · obtain ⟨x29, e29⟩ : ∃ y : Int32, y = xs + 1 := ⟨_, rfl⟩
            refine lv_iinc (v := x29) (lv' := [(1, .int x29), (2, .int xk), (0, .ref (ad 16))]) hx hb dX1_sparesGiven_29 hl (k := 1) rfl (by rw [e29]; rfl) (by decide) rfl (fun ls hl => ?_)
            obtain ⟨x32, e32⟩ : ∃ y : Int32, y = xk + 1 := ⟨_, rfl⟩
            refine lv_iinc (v := x32) (lv' := [(2, .int x32), (1, .int x29), (0, .ref (ad 16))]) hx hb dX1_sparesGiven_32 hl (k := 1) rfl (by rw [e32]; rfl) (by decide) rfl (fun ls hl => ?_)
            refine lv_goto (tgt := 4) hx hb dX1_sparesGiven_35 (by decide) ?_
            exact ih4 (k + 1) x32 x29 _ _ (by omega) (by omega) (by rw [e32, ek, nlit 1, nI_add]) (by
                first
                | exact ct_f es (spB_f1 k16)
                | exact ct_f es (by unfold spB; rw [(hg k (by omega)).mp (e24.symm.trans c26)]; exact Bool.and_false _)
                | (rw [e29]; exact ct_t es (by
                    unfold spB
                    rw [decide_eq_true (by omega), Bool.true_and]
                    cases hq : g k with
                    | true => rfl
                    | false => exact absurd (e24.trans ((hg k (by omega)).mpr hq)) c26))) hW ls (lv_sub hl [0, 1, 2] rfl)
  exact L4 (_ + 1) 0 0 0 _ _ (Nat.lt_succ_self _) (Nat.zero_le _) rfl rfl hW ls (lv_sub hl [0, 1, 2] rfl)
set_option maxHeartbeats 4000000 in
set_option maxRecDepth 100000 in
theorem c_X3_start (l : Launch) (D : va_G) (cA : Nat → ClassId) (sh : Nat → Option Sh) (ad : Nat → Nat) (M : MS) (sz : Nat) (n : Nat) (hX : XSh n sh) (kd rk : Nat) (hkd : kd < 4) (hrk : rk < 6) : Met l yX3_start wsX3_start ({ frames := 1, cells := 0, slots := 0, locals := 22 }) (wPc D cA sh ad M sz [.ref (ad 9), .ref (ad (40 + kd)), .ref (ad (30 + rk))]) (wQv D cA sh ad (fun M' => hst M' 10 = (gI M (40 + kd) 2, 0, 0, 0) ∧ gI M' 10 1 = gI M (40 + kd) 3 ∧ gI M' 9 1 = gI M (30 + rk) 0 * 100 + 50 ∧ gI M' 9 2 = gI M (30 + rk) 1 * 100 + 50 ∧ oI (fun p _ => p = 9 ∨ p = 10) M M') (wA sh ad sz)) 0 0 (wA sh ad sz) := by
  refine Met.ofW (cc := cX3_start) (maxL := 3) (ret := none) (by decide) rfl ?_
  intro p e s m args below meth cd0 s₁ B hml hv
  obtain ⟨rfl, hsz, hM, hK⟩ := hv
  have hx := B.exec
  have hb := B.bytes
  have hr := B.returns
  have hts := atoms_spec (ws := wsX3_start) B.pre
  have hown : s.vm.findClass RX3 = some m.cls := findClass_of_methodNamed B.named
  have hlocks := B.notSynchronized
  subst hsz
  have hA := wA_PA sh ad s.heap
  generalize wA sh ad s.heap.size = A at hA ⊢
  have hW : WS D cA sh ad A s.heap M s.heap [] := ⟨hM, va_S.rf⟩
  have fa10 : FA D s m ([.ref (ad 9), .ref (ad (40 + kd)), .ref (ad (30 + rk))] : List Value).toArray 10 3 0 := FA.mk (C := RX3) (T := TX3) (N := 3) hts (fun _ h => List.mem_cons_of_mem _ (List.mem_append_left _ (List.mem_append_left _ (List.mem_append_left _ (List.mem_append_right _ (h)))))) hown hK rfl (by decide) (hts (.fieldLink RX3 10 "MortarShow$Flight" "height" "LMortarShow$Height;") (List.mem_of_getElem? (i := 1) rfl))
  have fa16 : FA D s m ([.ref (ad 9), .ref (ad (40 + kd)), .ref (ad (30 + rk))] : List Value).toArray 16 6 2 := FA.mk (C := RX6) (T := TX6) (N := 7) hts (fun _ h => List.mem_cons_of_mem _ (List.mem_append_left _ (List.mem_append_left _ (List.mem_append_right _ (h))))) hown hK rfl (by decide) (hts (.fieldLink RX3 16 "MortarShow$Kind" "speed" "I") (List.mem_of_getElem? (i := 2) rfl))
  have fa22 : FA D s m ([.ref (ad 9), .ref (ad (40 + kd)), .ref (ad (30 + rk))] : List Value).toArray 22 6 3 := FA.mk (C := RX6) (T := TX6) (N := 7) hts (fun _ h => List.mem_cons_of_mem _ (List.mem_append_left _ (List.mem_append_left _ (List.mem_append_right _ (h))))) hown hK rfl (by decide) (hts (.fieldLink RX3 22 "MortarShow$Kind" "fall" "I") (List.mem_of_getElem? (i := 3) rfl))
  have fw35 : FW D s m ([.ref (ad 9), .ref (ad (40 + kd)), .ref (ad (30 + rk))] : List Value).toArray 35 3 1 (.int) := FW.mk (C := RX3) (T := TX3) (N := 3) hts (fun _ h => List.mem_cons_of_mem _ (List.mem_append_left _ (List.mem_append_left _ (List.mem_append_left _ (List.mem_append_right _ (h)))))) hown hK rfl (by decide) (hts (.fieldLink RX3 35 "MortarShow$Flight" "x" "I") (List.mem_of_getElem? (i := 4) rfl)) tyX3 tyX3_ok nmX3 rfl rfl
  have fw41 : FW D s m ([.ref (ad 9), .ref (ad (40 + kd)), .ref (ad (30 + rk))] : List Value).toArray 41 3 2 (.int) := FW.mk (C := RX3) (T := TX3) (N := 3) hts (fun _ h => List.mem_cons_of_mem _ (List.mem_append_left _ (List.mem_append_left _ (List.mem_append_left _ (List.mem_append_right _ (h)))))) hown hK rfl (by decide) (hts (.fieldLink RX3 41 "MortarShow$Flight" "y" "I") (List.mem_of_getElem? (i := 5) rfl)) tyX3 tyX3_ok nmX3 rfl rfl
  have hl := lv_entry ([.ref (ad 9), .ref (ad (40 + kd)), .ref (ad (30 + rk))]) (n := 3) (Nat.le_of_ble_eq_true rfl)
  rw [lg_entry_eq]
  generalize (lg_sl ([.ref (ad 9), .ref (ad (40 + kd)), .ref (ad (30 + rk))]) ++ List.replicate (3 - (lg_sl ([.ref (ad 9), .ref (ad (40 + kd)), .ref (ad (30 + rk))])).length) Slot.unset).toArray = ls at hl ⊢
  have hl : lv_has ls 3 [(0, .ref (ad 9)), (1, .ref (ad (40 + kd))), (2, .ref (ad (30 + rk)))] := hl
  refine lv_aload_n hx hb dX3_start_0 rfl (lv_at hl 0 rfl) ?_
  refine wgF (t := 10) hx hb fa10 hW (hX.1 9 (by decide)) rfl dX3_start_1 ?_
  refine lv_aload_n hx hb dX3_start_4 rfl (lv_at hl 1 rfl) ?_
  refine wgI hx hb fa16 hW (sh_kind hX kd (by omega)) rfl dX3_start_5 (fun x5 e5 => ?_)
  refine lv_aload_n hx hb dX3_start_8 rfl (lv_at hl 1 rfl) ?_
  refine wgI hx hb fa22 hW (sh_kind hX kd (by omega)) rfl dX3_start_9 (fun x9 e9 => ?_)
  refine wc_wv (va_runV (As := [.int x5, .int x9]) (rest := []) ⟨hx, hb, hml, hown, hts⟩ (c_X5_start l D cA sh ad M _ 10 (hX.1 10 (by decide)) x5 x9) (cwV 2 hts gX3_start_X5_start rfl rfl rfl (by decide +kernel) ⟨Nat.le_of_ble_eq_true rfl, Nat.le_of_ble_eq_true rfl⟩) (wpreV hK hW (C := RX5) (ci := 5) (hX.1 10 (by decide)) rfl) rfl rfl hl.1 rfl (lv_room (Nat.le_of_ble_eq_true rfl)) dX3_start_12 ⟨Nat.le_of_ble_eq_true rfl, Nat.le_of_ble_eq_true rfl⟩) hA hW (fun M12 H locs p12 hW => ?_)
  try dsimp only at p12
  refine lv_aload_n hx hb dX3_start_15 rfl (lv_at hl 0 rfl) ?_
  refine lv_aload_n hx hb dX3_start_16 rfl (lv_at hl 2 rfl) ?_
  refine wc_ri (va_runV (As := []) (rest := [.ref (ad 9)]) ⟨hx, hb, hml, hown, hts⟩ (c_X7_middleX l D cA sh ad M12 _ (30 + rk) (sh_rack hX rk (by omega))) (cwV 0 hts gX3_start_X7_middleX rfl rfl rfl (by decide +kernel) ⟨Nat.le_of_ble_eq_true rfl, Nat.le_of_ble_eq_true rfl⟩) (wpreV hK hW (C := RX7) (ci := 7) (sh_rack hX rk (by omega)) rfl) rfl rfl hl.1 rfl (lv_room (Nat.le_of_ble_eq_true rfl)) dX3_start_17 ⟨Nat.le_of_ble_eq_true rfl, Nat.le_of_ble_eq_true rfl⟩) hW (fun x17 H locs p17 hW => ?_)
  try dsimp only at p17
  refine wpI hx hb fw35 hA hW (hX.1 9 (by decide)) rfl dX3_start_20 (fun M20 H locs eM20 hW => ?_)
  refine lv_aload_n hx hb dX3_start_23 rfl (lv_at hl 0 rfl) ?_
  refine lv_aload_n hx hb dX3_start_24 rfl (lv_at hl 2 rfl) ?_
  refine wc_ri (va_runV (As := []) (rest := [.ref (ad 9)]) ⟨hx, hb, hml, hown, hts⟩ (c_X7_middleY l D cA sh ad M20 _ (30 + rk) (sh_rack hX rk (by omega))) (cwV 0 hts gX3_start_X7_middleY rfl rfl rfl (by decide +kernel) ⟨Nat.le_of_ble_eq_true rfl, Nat.le_of_ble_eq_true rfl⟩) (wpreV hK hW (C := RX7) (ci := 7) (sh_rack hX rk (by omega)) rfl) rfl rfl hl.1 rfl (lv_room (Nat.le_of_ble_eq_true rfl)) dX3_start_25 ⟨Nat.le_of_ble_eq_true rfl, Nat.le_of_ble_eq_true rfl⟩) hW (fun x25 H locs p25 hW => ?_)
  try dsimp only at p25
  refine wpI hx hb fw41 hA hW (hX.1 9 (by decide)) rfl dX3_start_28 (fun M28 H locs eM28 hW => ?_)
  exact wr_wv hx hb hr hlocks hW dX3_start_31 (by
      have f : ∀ p k, p ≠ 10 → gI M12 p k = gI M p k := fun p k hp => p12.2.2.1 p k (fun z => hp z)
      rw [e5, e9] at p12
      refine ⟨?_, ?_, ?_, ?_, ?_⟩
      · rw [← p12.1, eM28, eM20]; simp [hst, gI_sI]
      · rw [← p12.2.1, eM28, eM20]; simp [gI_sI]
      · rw [eM28, gI_sI, if_neg (by omega), eM20, gI_sI, if_pos ⟨rfl, rfl⟩, p17, f _ _ (by omega)]
      · rw [eM28, gI_sI, if_pos ⟨rfl, rfl⟩, p25, eM20, gI_sI, if_neg (by omega), f _ _ (by omega)]
      · rw [eM28, eM20]; exact oI.put (oI.put (p12.2.2.mono (fun p k z => Or.inr z)) (Or.inl rfl)) (Or.inl rfl))
set_option maxHeartbeats 4000000 in
set_option maxRecDepth 100000 in
theorem c_X3_driveAndPass (l : Launch) (D : va_G) (cA : Nat → ClassId) (sh : Nat → Option Sh) (ad : Nat → Nat) (M : MS) (sz : Nat) (n : Nat) (hX : XSh n sh) (y : Nat) (hy : y < 4) (ey : layI (gI M 10 2) = nI y) : Met l yX3_driveAndPass wsX3_driveAndPass ({ frames := 2, cells := 0, slots := 0, locals := 41 }) (wPc D cA sh ad M sz [.ref (ad 9), .ref (ad 6)]) (wQv D cA sh ad (fun M' => hst M' 10 = hstep (gI M 10 1) (hst M 10) ∧ gI M' 10 1 = gI M 10 1 ∧ gI M' 9 1 = gI M 9 1 + gI M 7 y ∧ gI M' 9 2 = gI M 9 2 + gI M 8 y ∧ oI (fun p _ => p = 9 ∨ p = 10) M M') (wA sh ad sz)) 0 0 (wA sh ad sz) := by
  refine Met.ofW (cc := cX3_driveAndPass) (maxL := 3) (ret := none) (by decide) rfl ?_
  intro p e s m args below meth cd0 s₁ B hml hv
  obtain ⟨rfl, hsz, hM, hK⟩ := hv
  have hx := B.exec
  have hb := B.bytes
  have hr := B.returns
  have hts := atoms_spec (ws := wsX3_driveAndPass) B.pre
  have hown : s.vm.findClass RX3 = some m.cls := findClass_of_methodNamed B.named
  have hlocks := B.notSynchronized
  subst hsz
  have hA := wA_PA sh ad s.heap
  generalize wA sh ad s.heap.size = A at hA ⊢
  have hW : WS D cA sh ad A s.heap M s.heap [] := ⟨hM, va_S.rf⟩
  have fa10 : FA D s m ([.ref (ad 9), .ref (ad 6)] : List Value).toArray 10 3 0 := FA.mk (C := RX3) (T := TX3) (N := 3) hts (fun _ h => List.mem_cons_of_mem _ (List.mem_append_left _ (List.mem_append_left _ (List.mem_append_right _ (h))))) hown hK rfl (by decide) (hts (.fieldLink RX3 10 "MortarShow$Flight" "height" "LMortarShow$Height;") (List.mem_of_getElem? (i := 1) rfl))
  have fa35 : FA D s m ([.ref (ad 9), .ref (ad 6)] : List Value).toArray 35 3 1 := FA.mk (C := RX3) (T := TX3) (N := 3) hts (fun _ h => List.mem_cons_of_mem _ (List.mem_append_left _ (List.mem_append_left _ (List.mem_append_right _ (h))))) hown hK rfl (by decide) (hts (.fieldLink RX3 35 "MortarShow$Flight" "x" "I") (List.mem_of_getElem? (i := 2) rfl))
  have fa41 : FA D s m ([.ref (ad 9), .ref (ad 6)] : List Value).toArray 41 3 2 := FA.mk (C := RX3) (T := TX3) (N := 3) hts (fun _ h => List.mem_cons_of_mem _ (List.mem_append_left _ (List.mem_append_left _ (List.mem_append_right _ (h))))) hown hK rfl (by decide) (hts (.fieldLink RX3 41 "MortarShow$Flight" "y" "I") (List.mem_of_getElem? (i := 4) rfl))
  have fa47 : FA D s m ([.ref (ad 9), .ref (ad 6)] : List Value).toArray 47 8 0 := FA.mk (C := RX8) (T := TX8) (N := 2) hts (fun _ h => List.mem_cons_of_mem _ (List.mem_append_left _ (List.mem_append_right _ (h)))) hown hK rfl (by decide) (hts (.fieldLink RX3 47 "MortarShow$Wind" "x" "[I") (List.mem_of_getElem? (i := 3) rfl))
  have fa52 : FA D s m ([.ref (ad 9), .ref (ad 6)] : List Value).toArray 52 8 1 := FA.mk (C := RX8) (T := TX8) (N := 2) hts (fun _ h => List.mem_cons_of_mem _ (List.mem_append_left _ (List.mem_append_right _ (h)))) hown hK rfl (by decide) (hts (.fieldLink RX3 52 "MortarShow$Wind" "y" "[I") (List.mem_of_getElem? (i := 5) rfl))
  have fw35 : FW D s m ([.ref (ad 9), .ref (ad 6)] : List Value).toArray 35 3 1 (.int) := FW.mk (C := RX3) (T := TX3) (N := 3) hts (fun _ h => List.mem_cons_of_mem _ (List.mem_append_left _ (List.mem_append_left _ (List.mem_append_right _ (h))))) hown hK rfl (by decide) (hts (.fieldLink RX3 35 "MortarShow$Flight" "x" "I") (List.mem_of_getElem? (i := 2) rfl)) tyX3 tyX3_ok nmX3 rfl rfl
  have fw41 : FW D s m ([.ref (ad 9), .ref (ad 6)] : List Value).toArray 41 3 2 (.int) := FW.mk (C := RX3) (T := TX3) (N := 3) hts (fun _ h => List.mem_cons_of_mem _ (List.mem_append_left _ (List.mem_append_left _ (List.mem_append_right _ (h))))) hown hK rfl (by decide) (hts (.fieldLink RX3 41 "MortarShow$Flight" "y" "I") (List.mem_of_getElem? (i := 4) rfl)) tyX3 tyX3_ok nmX3 rfl rfl
  have hl := lv_entry ([.ref (ad 9), .ref (ad 6)]) (n := 3) (Nat.le_of_ble_eq_true rfl)
  rw [lg_entry_eq]
  generalize (lg_sl ([.ref (ad 9), .ref (ad 6)]) ++ List.replicate (3 - (lg_sl ([.ref (ad 9), .ref (ad 6)])).length) Slot.unset).toArray = ls at hl ⊢
  have hl : lv_has ls 3 [(0, .ref (ad 9)), (1, .ref (ad 6))] := hl
  refine lv_aload_n hx hb dX3_driveAndPass_0 rfl (lv_at hl 0 rfl) ?_
  refine wgF (t := 10) hx hb fa10 hW (hX.1 9 (by decide)) rfl dX3_driveAndPass_1 ?_
  refine wc_ri (va_runV (As := []) (rest := []) ⟨hx, hb, hml, hown, hts⟩ (c_X5_layer l D cA sh ad M _ 10 (hX.1 10 (by decide))) (cwV 0 hts gX3_driveAndPass_X5_layer rfl rfl rfl (by decide +kernel) ⟨Nat.le_of_ble_eq_true rfl, Nat.le_of_ble_eq_true rfl⟩) (wpreV hK hW (C := RX5) (ci := 5) (hX.1 10 (by decide)) rfl) rfl rfl hl.1 rfl (lv_room (Nat.le_of_ble_eq_true rfl)) dX3_driveAndPass_4 ⟨Nat.le_of_ble_eq_true rfl, Nat.le_of_ble_eq_true rfl⟩) hW (fun x4 H locs p4 hW => ?_)
  try dsimp only at p4
  have n4 : x4 = nI y := (p4.trans ey)
  refine lv_istore_n (lv' := [(2, .int x4), (0, .ref (ad 9)), (1, .ref (ad 6))]) hx hb dX3_driveAndPass_7 rfl hl (by decide) rfl (fun ls hl => ?_)
  refine lv_aload_n hx hb dX3_driveAndPass_8 rfl (lv_at hl 1 rfl) ?_
  refine lv_dup hx hb dX3_driveAndPass_9 rfl ?_
  refine wgI hx hb fa35 hW (hX.1 9 (by decide)) rfl dX3_driveAndPass_10 (fun x10 e10 => ?_)
  refine lv_aload_n hx hb dX3_driveAndPass_13 rfl (lv_at hl 2 rfl) ?_
  refine wgF (t := 7) hx hb fa47 hW (hX.1 6 (by decide)) rfl dX3_driveAndPass_14 ?_
  refine lv_iload_n hx hb dX3_driveAndPass_17 rfl (lv_at hl 0 rfl) ?_
  refine walI (j := y) hx hb hK hW (hX.1 7 (by decide)) n4 (by omega) (by decide) dX3_driveAndPass_18 (fun x18 e18 => ?_)
  refine lv_iadd hx hb dX3_driveAndPass_19 ?_
  refine lv_topi (fun x19 e19 => ?_)
  refine wpI hx hb fw35 hA hW (hX.1 9 (by decide)) rfl dX3_driveAndPass_20 (fun M20 H locs eM20 hW => ?_)
  refine lv_aload_n hx hb dX3_driveAndPass_23 rfl (lv_at hl 1 rfl) ?_
  refine lv_dup hx hb dX3_driveAndPass_24 rfl ?_
  refine wgI hx hb fa41 hW (hX.1 9 (by decide)) rfl dX3_driveAndPass_25 (fun x25 e25 => ?_)
  refine lv_aload_n hx hb dX3_driveAndPass_28 rfl (lv_at hl 2 rfl) ?_
  refine wgF (t := 8) hx hb fa52 hW (hX.1 6 (by decide)) rfl dX3_driveAndPass_29 ?_
  refine lv_iload_n hx hb dX3_driveAndPass_32 rfl (lv_at hl 0 rfl) ?_
  refine walI (j := y) hx hb hK hW (hX.1 8 (by decide)) n4 (by omega) (by decide) dX3_driveAndPass_33 (fun x33 e33 => ?_)
  refine lv_iadd hx hb dX3_driveAndPass_34 ?_
  refine lv_topi (fun x34 e34 => ?_)
  refine wpI hx hb fw41 hA hW (hX.1 9 (by decide)) rfl dX3_driveAndPass_35 (fun M35 H locs eM35 hW => ?_)
  refine lv_aload_n hx hb dX3_driveAndPass_38 rfl (lv_at hl 1 rfl) ?_
  refine wgF (t := 10) hx hb fa10 hW (hX.1 9 (by decide)) rfl dX3_driveAndPass_39 ?_
  refine wc_wv (va_runV (As := []) (rest := []) ⟨hx, hb, hml, hown, hts⟩ (c_X5_pass l D cA sh ad M35 _ 10 (hX.1 10 (by decide))) (cwV 0 hts gX3_driveAndPass_X5_pass rfl rfl rfl (by decide +kernel) ⟨Nat.le_of_ble_eq_true rfl, Nat.le_of_ble_eq_true rfl⟩) (wpreV hK hW (C := RX5) (ci := 5) (hX.1 10 (by decide)) rfl) rfl rfl hl.1 rfl (lv_room (Nat.le_of_ble_eq_true rfl)) dX3_driveAndPass_42 ⟨Nat.le_of_ble_eq_true rfl, Nat.le_of_ble_eq_true rfl⟩) hA hW (fun M42 H locs p42 hW => ?_)
  try dsimp only at p42
  exact wr_wv hx hb hr hlocks hW dX3_driveAndPass_45 (by
      have u : ∀ k, gI M35 10 k = gI M 10 k := fun k => by rw [eM35, eM20]; simp [gI_sI]
      have f : ∀ k, gI M42 9 k = gI M35 9 k := fun k => p42.2.2.1 9 k (by omega)
      refine ⟨?_, ?_, ?_, ?_, ?_⟩
      · rw [p42.1, u]; unfold hst; rw [u, u, u, u]
      · rw [p42.2.1, u]
      · rw [f, eM35, gI_sI, if_neg (by omega), eM20, gI_sI, if_pos ⟨rfl, rfl⟩, e19, e10, e18]
      · rw [f, eM35, gI_sI, if_pos ⟨rfl, rfl⟩, e34, e25, e33, eM20, gI_sI, if_neg (by omega), gI_sI, if_neg (by omega)]
      · refine oI.trans ?_ (p42.2.2.mono (fun p k z => Or.inr z))
        rw [eM35, eM20]; exact oI.put (oI.put oI.rf (Or.inl rfl)) (Or.inl rfl))
set_option maxHeartbeats 4000000 in
set_option maxRecDepth 100000 in
theorem c_X9_placeTold (l : Launch) (w x y : Int32) (hw : 0 ≤ w.toInt ∧ w.toInt ≤ 3) : Met l yX9_placeTold wsX9_placeTold ({ frames := 1, cells := 0, slots := 0, locals := 22 }) (nPc [.int w, .int x, .int y]) (rQi (fun r => r = plT w x y)) 0 0 nA := by
  refine Met.ofW (cc := cX9_placeTold) (maxL := 3) (ret := (some .int)) (by decide) rfl ?_
  intro p e s m args below meth cd0 s₁ B hml hv
  obtain ⟨rfl, -⟩ := hv
  have hx := B.exec
  have hb := B.bytes
  have hr := B.returns
  have hts := atoms_spec (ws := wsX9_placeTold) B.pre
  have hown : s.vm.findClass RX9 = some m.cls := findClass_of_methodNamed B.named
  have hlocks := B.notSynchronized
  obtain ⟨A, eA⟩ : ∃ A : Nat → Prop, A = nA := ⟨_, rfl⟩
  have hW := nWS s
  obtain ⟨D, cA, sh, ad, m0, hW⟩ := hW
  rw [← eA] at hW
  subst eA
  have hl := lv_entry ([.int w, .int x, .int y]) (n := 3) (Nat.le_of_ble_eq_true rfl)
  rw [lg_entry_eq]
  generalize (lg_sl ([.int w, .int x, .int y]) ++ List.replicate (3 - (lg_sl ([.int w, .int x, .int y])).length) Slot.unset).toArray = ls at hl ⊢
  have hl : lv_has ls 3 [(0, .int w), (1, .int x), (2, .int y)] := hl
  refine lv_iload_n hx hb dX9_placeTold_0 rfl (lv_at hl 0 rfl) ?_
  by_cases w1_0 : w = 0
  · refine lv_tableIn (off := 27) (tgt := 28) hx hb dX9_placeTold_1 (by rw [w1_0]; decide) (by rw [w1_0]; decide) (by rw [w1_0]; rfl) (by decide) ?_
    refine lv_iload_n hx hb dX9_placeTold_28 rfl (lv_at hl 1 rfl) ?_
    exact wr_ri hx hb hr hlocks hW.2 dX9_placeTold_29 (by rw [plT, if_pos w1_0])
  by_cases w1_1 : w = 1
  · refine lv_tableIn (off := 29) (tgt := 30) hx hb dX9_placeTold_1 (by rw [w1_1]; decide) (by rw [w1_1]; decide) (by rw [w1_1]; rfl) (by decide) ?_
    refine lv_iload_n hx hb dX9_placeTold_30 rfl (lv_at hl 2 rfl) ?_
    exact wr_ri hx hb hr hlocks hW.2 dX9_placeTold_31 (by rw [plT, if_neg w1_0, if_pos w1_1])
  by_cases w1_2 : w = 2
  · refine lv_tableIn (off := 31) (tgt := 32) hx hb dX9_placeTold_1 (by rw [w1_2]; decide) (by rw [w1_2]; decide) (by rw [w1_2]; rfl) (by decide) ?_
    refine lv_iload_n hx hb dX9_placeTold_32 rfl (lv_at hl 1 rfl) ?_
    refine lv_bipush (v := 100) hx hb dX9_placeTold_33 (by decide) ?_
    refine wc_ri (va_runS (As := [.int x, .int 100]) (rest := []) ⟨hx, hb, hml, hown, hts⟩ (c_J9_floorDiv_7cf53 l x 100 (by decide)) (va_cwS 2 hts gX9_placeTold_J9_floorDiv_7cf53 rfl rfl rfl (by decide +kernel) ⟨Nat.le_of_ble_eq_true rfl, Nat.le_of_ble_eq_true rfl⟩) npreS rfl rfl hl.1 rfl (lv_room (Nat.le_of_ble_eq_true rfl)) dX9_placeTold_35 ⟨Nat.le_of_ble_eq_true rfl, Nat.le_of_ble_eq_true rfl⟩) hW (fun x35 H locs p35 hW => ?_)
    try dsimp only at p35
    exact wr_ri hx hb hr hlocks hW.2 dX9_placeTold_38 (by rw [plT, if_neg w1_0, if_neg w1_1, if_pos w1_2]; exact p35)
  have q1_0 := i32_nl w1_0 (n := 0) rfl
  have q1_1 := i32_nl w1_1 (n := 1) rfl
  have q1_2 := i32_nl w1_2 (n := 2) rfl
  refine lv_tableOut (tgt := 39) hx hb dX9_placeTold_1 (by omega) (by decide) ?_
  clear q1_0
  clear q1_1
  clear q1_2
  refine lv_iload_n hx hb dX9_placeTold_39 rfl (lv_at hl 2 rfl) ?_
  refine lv_bipush (v := 100) hx hb dX9_placeTold_40 (by decide) ?_
  refine wc_ri (va_runS (As := [.int y, .int 100]) (rest := []) ⟨hx, hb, hml, hown, hts⟩ (c_J9_floorDiv_7cf53 l y 100 (by decide)) (va_cwS 2 hts gX9_placeTold_J9_floorDiv_7cf53 rfl rfl rfl (by decide +kernel) ⟨Nat.le_of_ble_eq_true rfl, Nat.le_of_ble_eq_true rfl⟩) npreS rfl rfl hl.1 rfl (lv_room (Nat.le_of_ble_eq_true rfl)) dX9_placeTold_42 ⟨Nat.le_of_ble_eq_true rfl, Nat.le_of_ble_eq_true rfl⟩) hW (fun x42 H locs p42 hW => ?_)
  try dsimp only at p42
  exact wr_ri hx hb hr hlocks hW.2 dX9_placeTold_45 (by rw [plT, if_neg w1_0, if_neg w1_1, if_neg w1_2]; exact p42)
set_option maxHeartbeats 4000000 in
set_option maxRecDepth 100000 in
theorem c_X9_refusedOver (l : Launch) (v : Int64) : Met l yX9_refusedOver wsX9_refusedOver ({ frames := 0, cells := 0, slots := 0, locals := 0 }) (nPc [.long v]) (rQi (fun r => r = refI v)) 0 0 nA := by
  refine Met.ofW (cc := cX9_refusedOver) (maxL := 2) (ret := (some .int)) (by decide) rfl ?_
  intro p e s m args below meth cd0 s₁ B hml hv
  obtain ⟨rfl, -⟩ := hv
  have hx := B.exec
  have hb := B.bytes
  have hr := B.returns
  have hts := atoms_spec (ws := wsX9_refusedOver) B.pre
  have hown : s.vm.findClass RX9 = some m.cls := findClass_of_methodNamed B.named
  have hlocks := B.notSynchronized
  obtain ⟨A, eA⟩ : ∃ A : Nat → Prop, A = nA := ⟨_, rfl⟩
  have hW := nWS s
  obtain ⟨D, cA, sh, ad, m0, hW⟩ := hW
  rw [← eA] at hW
  subst eA
  have hl := lv_entry ([.long v]) (n := 2) (Nat.le_of_ble_eq_true rfl)
  rw [lg_entry_eq]
  generalize (lg_sl ([.long v]) ++ List.replicate (2 - (lg_sl ([.long v])).length) Slot.unset).toArray = ls at hl ⊢
  have hl : lv_has ls 2 [(0, .long v)] := hl
  have J15 : ∀ (y : Int32) (H : Heap) (locs : List Loc), (y = refI v) → WS D cA sh ad nA s.heap m0 H locs → ∀ ls, lv_has ls 2 [(0, .long v)] → W p l e (headSpec wsX9_refusedOver { frames := 0, cells := 0, slots := 0, locals := 0 }).room s m ([.long v] : List Value).toArray below meth cd0 H locs 0 0 (MQ below (rQi (fun r => r = refI v)) ([.long v] : List Value).toArray s 0 0 nA) (F0 m 15 ls [.int y]) := by
    intro y H locs hy hW ls hl
    exact wr_ri hx hb hr hlocks hW.2 dX9_refusedOver_15 hy
  refine lv_lload_n hx hb dX9_refusedOver_0 rfl (lv_at hl 0 rfl) ?_
  refine lv_ldc2 (v := 2147483647) hx hb hown (hts (.constantLong RX9 353 (2147483647)) (List.mem_of_getElem? (i := 1) rfl)) dX9_refusedOver_1 ?_
  refine W.lcmp hx hb dX9_refusedOver_4 ?_
  refine lv_topi (fun x4 e4 => ?_)
  refine lv_if_le (tgt := 13) hx hb dX9_refusedOver_5 (by decide) (fun c5 => ?_) (fun c5 => ?_)
  · refine lv_lload_n hx hb dX9_refusedOver_13 rfl (lv_at hl 0 rfl) ?_
    refine lv_l2i hx hb dX9_refusedOver_14 rfl ?_
    refine lv_topi (fun x14 e14 => ?_)
    exact J15 x14 _ _ (by unfold refI; rw [e4, lgcmp_le] at c5; first | (rw [if_neg c5]; exact e14) | (rw [if_pos (Decidable.not_not.mp c5)])) hW ls (lv_sub hl [0] rfl)
  · refine lv_bipush (v := (-2)) hx hb dX9_refusedOver_8 (by decide) ?_
    refine lv_goto (tgt := 15) hx hb dX9_refusedOver_10 (by decide) ?_
    exact J15 (-2) _ _ (by unfold refI; rw [e4, lgcmp_le] at c5; first | (rw [if_neg c5]; exact e14) | (rw [if_pos (Decidable.not_not.mp c5)])) hW ls (lv_sub hl [0] rfl)
set_option maxHeartbeats 4000000 in
set_option maxRecDepth 100000 in
theorem c_X9_priceOf (l : Launch) (D : va_G) (cA : Nat → ClassId) (sh : Nat → Option Sh) (ad : Nat → Nat) (M : MS) (sz : Nat) (σ : AS) (ok : AOK σ) (hX : XSh (aN σ) sh) (hR : XR σ M) (v : VT) (hV : ∀ k, k < 64 → gI M 3 k = v.1 k) (hT : ∀ k, k < 10 → gI M 21 k = v.2 k) (i : Nat) (he : elg σ i) (hz : ∀ k, k < 64 → bitL (gL M (100 + i) 4) k = zonB σ i k) (ht : gI M (100 + i) 6 = tkI σ i) : Met l yX9_priceOf wsX9_priceOf ({ frames := 1, cells := 0, slots := 0, locals := 25 }) (wPc D cA sh ad M sz [.ref (ad 0), .ref (ad (100 + i))]) (rQl (fun r => r = priA σ v i)) 0 0 nA := by
  refine Met.ofW (cc := cX9_priceOf) (maxL := 3) (ret := (some .long)) (by decide) rfl ?_
  intro p e s m args below meth cd0 s₁ B hml hv
  obtain ⟨rfl, hsz, hM, hK⟩ := hv
  have hx := B.exec
  have hb := B.bytes
  have hr := B.returns
  have hts := atoms_spec (ws := wsX9_priceOf) B.pre
  have hown : s.vm.findClass RX9 = some m.cls := findClass_of_methodNamed B.named
  have hlocks := B.notSynchronized
  subst hsz
  obtain ⟨A, eA⟩ : ∃ A : Nat → Prop, A = nA := ⟨_, rfl⟩
  have hW : WS D cA sh ad A s.heap M s.heap [] := ⟨hM, va_S.rf⟩
  subst eA
  have fa10 : FA D s m ([.ref (ad 0), .ref (ad (100 + i))] : List Value).toArray 10 9 0 := FA.mk (C := RX9) (T := TX9) (N := 15) hts (fun _ h => List.mem_cons_of_mem _ (List.mem_append_left _ (List.mem_append_right _ (h)))) hown hK rfl (by decide) (hts (.fieldLink RX9 10 "MortarShow" "ground" "LMortarShow$Ground;") (List.mem_of_getElem? (i := 9) rfl))
  have fa65 : FA D s m ([.ref (ad 0), .ref (ad (100 + i))] : List Value).toArray 65 9 9 := FA.mk (C := RX9) (T := TX9) (N := 15) hts (fun _ h => List.mem_cons_of_mem _ (List.mem_append_left _ (List.mem_append_right _ (h)))) hown hK rfl (by decide) (hts (.fieldLink RX9 65 "MortarShow" "rates" "[I") (List.mem_of_getElem? (i := 11) rfl))
  have fa194 : FA D s m ([.ref (ad 0), .ref (ad (100 + i))] : List Value).toArray 194 2 6 := FA.mk (C := RX2) (T := TX2) (N := 9) hts (fun _ h => List.mem_cons_of_mem _ (List.mem_append_left _ (List.mem_append_left _ (List.mem_append_right _ (h))))) hown hK rfl (by decide) (hts (.fieldLink RX9 194 "MortarShow$Cue" "fireTick" "I") (List.mem_of_getElem? (i := 1) rfl))
  have fa246 : FA D s m ([.ref (ad 0), .ref (ad (100 + i))] : List Value).toArray 246 2 4 := FA.mk (C := RX2) (T := TX2) (N := 9) hts (fun _ h => List.mem_cons_of_mem _ (List.mem_append_left _ (List.mem_append_left _ (List.mem_append_right _ (h))))) hown hK rfl (by decide) (hts (.fieldLink RX9 246 "MortarShow$Cue" "zones" "J") (List.mem_of_getElem? (i := 10) rfl))
  have hl := lv_entry ([.ref (ad 0), .ref (ad (100 + i))]) (n := 3) (Nat.le_of_ble_eq_true rfl)
  rw [lg_entry_eq]
  generalize (lg_sl ([.ref (ad 0), .ref (ad (100 + i))]) ++ List.replicate (3 - (lg_sl ([.ref (ad 0), .ref (ad (100 + i))])).length) Slot.unset).toArray = ls at hl ⊢
  have hl : lv_has ls 3 [(0, .ref (ad 0)), (1, .ref (ad (100 + i)))] := hl
  have hi := he.1
  have rt9 := tk_rng ok he
  have h9 : hrN σ i ≤ 9 := Nat.min_le_left _ _
  refine lv_iconst (v := 0) hx hb dX9_priceOf_0 (by decide) ?_
  refine lv_bipush (v := 9) hx hb dX9_priceOf_1 (by decide) ?_
  refine lv_aload_n hx hb dX9_priceOf_3 rfl (lv_at hl 1 rfl) ?_
  refine wgI hx hb fa194 hW (hX.2 i (by omega)) rfl dX9_priceOf_4 (fun x4 e4 => ?_)
  refine lv_bipush (v := 100) hx hb dX9_priceOf_7 (by decide) ?_
  refine lv_idiv hx hb dX9_priceOf_9 (by decide) ?_
  refine lv_topi (fun x9 e9 => ?_)
  refine va_mmin hx hb (hml.trans hl.1.symm) hown (hts (.methodLink RX9 330 Lib.Math.min.name) (List.mem_of_getElem? (i := 2) rfl)) (hts (.static Lib.Math.min.name) (List.mem_of_getElem? (i := 3) rfl)) (hts (.initialized "java/lang/Math") (List.mem_of_getElem? (i := 4) rfl)) (hts (.code Lib.Math.min.name Lib.Math.min.code 2 (some .int)) (List.mem_of_getElem? (i := 5) rfl)) (Nat.le_of_ble_eq_true rfl) (Nat.le_of_ble_eq_true rfl) (Nat.zero_le _) (Nat.zero_le _) dX9_priceOf_10 ?_
  refine lv_topi (fun x10 e10 => ?_)
  refine va_mmax hx hb (hml.trans hl.1.symm) hown (hts (.methodLink RX9 327 Lib.Math.max.name) (List.mem_of_getElem? (i := 6) rfl)) (hts (.static Lib.Math.max.name) (List.mem_of_getElem? (i := 7) rfl)) (hts (.initialized "java/lang/Math") (List.mem_of_getElem? (i := 4) rfl)) (hts (.code Lib.Math.max.name Lib.Math.max.code 2 (some .int)) (List.mem_of_getElem? (i := 8) rfl)) (Nat.le_of_ble_eq_true rfl) (Nat.le_of_ble_eq_true rfl) (Nat.zero_le _) (Nat.zero_le _) dX9_priceOf_13 ?_
  refine lv_topi (fun x13 e13 => ?_)
  refine lv_istore_n (lv' := [(2, .int x13), (0, .ref (ad 0)), (1, .ref (ad (100 + i)))]) hx hb dX9_priceOf_16 rfl hl (by decide) rfl (fun ls hl => ?_)
  refine lv_aload_n hx hb dX9_priceOf_17 rfl (lv_at hl 1 rfl) ?_
  refine wgF (t := 1) hx hb fa10 hW (hX.1 0 (by decide)) rfl dX9_priceOf_18 ?_
  refine lv_aload_n hx hb dX9_priceOf_21 rfl (lv_at hl 2 rfl) ?_
  refine wgL hx hb fa246 hW (hX.2 i (by omega)) rfl dX9_priceOf_22 (fun x22 e22 => ?_)
  refine wc_rl (va_runV (As := [.long x22]) (rest := []) ⟨hx, hb, hml, hown, hts⟩ (c_X4_valueOf l D cA sh ad M _ _ hX x22) (cwV 1 hts gX9_priceOf_X4_valueOf rfl rfl rfl (by decide +kernel) ⟨Nat.le_of_ble_eq_true rfl, Nat.le_of_ble_eq_true rfl⟩) (wpreV hK hW (C := RX4) (ci := 4) (hX.1 1 (by decide)) rfl) rfl rfl hl.1 rfl (lv_room (Nat.le_of_ble_eq_true rfl)) dX9_priceOf_25 ⟨Nat.le_of_ble_eq_true rfl, Nat.le_of_ble_eq_true rfl⟩) hW (fun x25 H locs p25 hW => ?_)
  try dsimp only at p25
  refine lv_lconst (v := 1) hx hb dX9_priceOf_28 (by decide) ?_
  refine lv_ladd hx hb dX9_priceOf_29 ?_
  refine lv_topl (fun x29 e29 => ?_)
  refine lv_aload_n hx hb dX9_priceOf_30 rfl (lv_at hl 1 rfl) ?_
  refine wgF (t := 21) hx hb fa65 hW (hX.1 0 (by decide)) rfl dX9_priceOf_31 ?_
  refine lv_iload_n hx hb dX9_priceOf_34 rfl (lv_at hl 0 rfl) ?_
  refine walI (j := (hrN σ i)) hx hb hK hW (hX.1 21 (by decide)) (by rw [e13, e10, e9, e4, ht]; exact hr_eq rt9) (by omega) (by decide) dX9_priceOf_35 (fun x35 e35 => ?_)
  refine lv_i2l hx hb dX9_priceOf_36 rfl ?_
  refine lv_topl (fun x36 e36 => ?_)
  refine lv_lmul hx hb dX9_priceOf_37 ?_
  refine lv_topl (fun x37 e37 => ?_)
  exact wr_rl hx hb hr hlocks hW.2 dX9_priceOf_38 (by rw [e37, e36, e35, e29, p25, e22, valTo_eq hV hz 64 (Nat.le_refl _), hT _ (by omega)]; rfl)
set_option maxHeartbeats 4000000 in
set_option maxRecDepth 100000 in
theorem c_X9_struckCues (l : Launch) (D : va_G) (cA : Nat → ClassId) (sh : Nat → Option Sh) (ad : Nat → Nat) (M : MS) (sz : Nat) (σ : AS) (ok : AOK σ) (hX : XSh (aN σ) sh) (hR : XR σ M) (hP : XPl σ M) : Met l yX9_struckCues wsX9_struckCues ({ frames := 4, cells := 0, slots := 0, locals := 95 }) (wPc D cA sh ad M sz [.ref (ad 0)]) (wQl D cA sh ad (fun r M' => oA XSc M M' ∧ gI M' 0 14 = 1 ∧ (∃ q c, PlanR σ q c M') ∧ ∀ k, k < 64 → bitL r k = stP σ k) (wA sh ad sz)) 0 0 (wA sh ad sz) := by
  refine Met.ofW (cc := cX9_struckCues) (maxL := 7) (ret := (some .long)) (by decide) rfl ?_
  intro p e s m args below meth cd0 s₁ B hml hv
  obtain ⟨rfl, hsz, hM, hK⟩ := hv
  have hx := B.exec
  have hb := B.bytes
  have hr := B.returns
  have hts := atoms_spec (ws := wsX9_struckCues) B.pre
  have hown : s.vm.findClass RX9 = some m.cls := findClass_of_methodNamed B.named
  have hlocks := B.notSynchronized
  subst hsz
  have hA := wA_PA sh ad s.heap
  generalize wA sh ad s.heap.size = A at hA ⊢
  have hW : WS D cA sh ad A s.heap M s.heap [] := ⟨hM, va_S.rf⟩
  have fa44 : FA D s m ([.ref (ad 0)] : List Value).toArray 44 9 5 := FA.mk (C := RX9) (T := TX9) (N := 15) hts (fun _ h => List.mem_cons_of_mem _ (List.mem_append_left _ (List.mem_append_left _ (List.mem_append_left _ (List.mem_append_left _ (List.mem_append_left _ (List.mem_append_left _ (List.mem_append_left _ (List.mem_append_right _ (h)))))))))) hown hK rfl (by decide) (hts (.fieldLink RX9 44 "MortarShow" "cueList" "[LMortarShow$Cue;") (List.mem_of_getElem? (i := 1) rfl))
  have fa180 : FA D s m ([.ref (ad 0)] : List Value).toArray 180 2 0 := FA.mk (C := RX2) (T := TX2) (N := 9) hts (fun _ h => List.mem_cons_of_mem _ (List.mem_append_left _ (List.mem_append_left _ (List.mem_append_left _ (List.mem_append_left _ (List.mem_append_left _ (List.mem_append_left _ (List.mem_append_right _ (h))))))))) hown hK rfl (by decide) (hts (.fieldLink RX9 180 "MortarShow$Cue" "number" "I") (List.mem_of_getElem? (i := 3) rfl))
  have fa188 : FA D s m ([.ref (ad 0)] : List Value).toArray 188 2 7 := FA.mk (C := RX2) (T := TX2) (N := 9) hts (fun _ h => List.mem_cons_of_mem _ (List.mem_append_left _ (List.mem_append_left _ (List.mem_append_left _ (List.mem_append_left _ (List.mem_append_left _ (List.mem_append_left _ (List.mem_append_right _ (h))))))))) hown hK rfl (by decide) (hts (.fieldLink RX9 188 "MortarShow$Cue" "fate" "I") (List.mem_of_getElem? (i := 2) rfl))
  have hl := lv_entry ([.ref (ad 0)]) (n := 7) (Nat.le_of_ble_eq_true rfl)
  rw [lg_entry_eq]
  generalize (lg_sl ([.ref (ad 0)]) ++ List.replicate (7 - (lg_sl ([.ref (ad 0)])).length) Slot.unset).toArray = ls at hl ⊢
  have hl : lv_has ls 7 [(0, .ref (ad 0))] := hl
  refine lv_aload_n hx hb dX9_struckCues_0 rfl (lv_at hl 0 rfl) ?_
  refine wc_wv (va_runV (As := []) (rest := []) ⟨hx, hb, hml, hown, hts⟩ (c_X9_plan l D cA sh ad M _ σ ok hX hR hP) (cwV 0 hts gX9_struckCues_X9_plan rfl rfl rfl (by decide +kernel) ⟨Nat.le_of_ble_eq_true rfl, Nat.le_of_ble_eq_true rfl⟩) (wpreV hK hW (C := RX9) (ci := 9) (hX.1 0 (by decide)) rfl) rfl rfl hl.1 rfl (lv_room (Nat.le_of_ble_eq_true rfl)) dX9_struckCues_1 ⟨Nat.le_of_ble_eq_true rfl, Nat.le_of_ble_eq_true rfl⟩) hA hW (fun M1 H locs p1 hW => ?_)
  try dsimp only at p1
  obtain ⟨o4, v4, q, c, P4⟩ := p1
  have hR4 : XR σ M1 := hR.oA o4 (fun p k hx hz => by unfold XRs at hx; unfold XSc at hz; omega)
  have o1 := ok.1
  refine lv_lconst (v := 0) hx hb dX9_struckCues_4 (by decide) ?_
  refine lv_lstore_n (lv' := [(1, .long 0), (0, .ref (ad 0))]) hx hb dX9_struckCues_5 rfl hl (by decide) rfl (fun ls hl => ?_)
  refine lv_aload_n hx hb dX9_struckCues_6 rfl (lv_at hl 1 rfl) ?_
  refine wgF (t := 11) hx hb fa44 hW (hX.1 0 (by decide)) rfl dX9_struckCues_7 ?_
  refine lv_astore_n (lv' := [(3, .ref (ad 11)), (1, .long 0), (0, .ref (ad 0))]) hx hb dX9_struckCues_10 rfl hl (by decide) rfl (fun ls hl => ?_)
  refine lv_aload_n hx hb dX9_struckCues_11 rfl (lv_at hl 0 rfl) ?_
  refine wlen (v := 40) hx hb hK hW (hX.1 11 (by decide)) rfl rfl dX9_struckCues_12 ?_
  refine lv_istore (lv' := [(4, .int 40), (3, .ref (ad 11)), (1, .long 0), (0, .ref (ad 0))]) hx hb dX9_struckCues_13 hl (by decide) rfl (fun ls hl => ?_)
  refine lv_iconst (v := 0) hx hb dX9_struckCues_15 (by decide) ?_
  refine lv_istore (lv' := [(5, .int 0), (4, .int 40), (3, .ref (ad 11)), (1, .long 0), (0, .ref (ad 0))]) hx hb dX9_struckCues_16 hl (by decide) rfl (fun ls hl => ?_)
  have L18 : ∀ (fu : Nat) (k : Nat) (xk : Int32) (z : Int64) (H : Heap) (locs : List Loc), 40 - k < fu → (k ≤ 40) → (xk = nI k) → (∀ j, j < 64 → bitL z j = decide (j < k ∧ stP σ j = true)) → WS D cA sh ad A s.heap M1 H locs → ∀ ls, lv_has ls 7 [(5, .int xk), (4, .int 40), (3, .ref (ad 11)), (1, .long z), (0, .ref (ad 0))] → W p l e (headSpec wsX9_struckCues { frames := 4, cells := 0, slots := 0, locals := 95 }).room s m ([.ref (ad 0)] : List Value).toArray below meth cd0 H locs 0 0 (MQ below (wQl D cA sh ad (fun r M' => oA XSc M M' ∧ gI M' 0 14 = 1 ∧ (∃ q c, PlanR σ q c M') ∧ ∀ k, k < 64 → bitL r k = stP σ k) A) ([.ref (ad 0)] : List Value).toArray s 0 0 A) (F0 m 18 ls []) := by
    intro fu
    induction fu with
    | zero =>
      intro k xk z H locs hn hk ek ez hW ls hl
      exact absurd hn (Nat.not_lt_zero _)
    | succ fu ih18 =>
      intro k xk z H locs hn hk ek ez hW ls hl
      refine lv_iload hx hb dX9_struckCues_18 (lv_at hl 0 rfl) ?_
      refine lv_iload hx hb dX9_struckCues_20 (lv_at hl 1 rfl) ?_
      refine lv_icmp_ge (tgt := 61) hx hb dX9_struckCues_22 (by decide) (fun c22 => ?_) (fun c22 => ?_)
      · have k22 : 40 ≤ k := kc_ge ek (nlit 40) (by omega) (by omega) c22
        refine lv_lload_n hx hb dX9_struckCues_61 rfl (lv_at hl 3 rfl) ?_
        exact wr_wl hx hb hr hlocks hW dX9_struckCues_62 ⟨o4, v4, ⟨q, c, P4⟩, fun j hj => by
            rw [ez j hj]
            cases hq : stP σ j with
            | false => simp
            | true =>
              have h2 : j < aN σ := by
                unfold stP pres at hq
                rw [Bool.and_eq_true] at hq
                exact (of_decide_eq_true hq.1).1
              have h3 : j < k := by omega
              simp [h3]⟩
      · have k22 : ¬ 40 ≤ k := kc_gen ek (nlit 40) (by omega) (by omega) c22
        refine lv_aload_n hx hb dX9_struckCues_25 rfl (lv_at hl 2 rfl) ?_
        refine lv_iload hx hb dX9_struckCues_26 (lv_at hl 0 rfl) ?_
        rcases hR4.2.2.2.2.2.2.2.2.2.2.1 k (by omega) with ⟨hn28, hg28⟩ | ⟨hs28, hi28, hg28⟩
        · refine walRn (j := k) hx hb hK hW (hX.1 11 (by decide)) hn28 ek (by omega) (by decide) dX9_struckCues_28 ?_
          refine lv_astoreN (lv' := [(6, .null), (5, .int xk), (4, .int 40), (3, .ref (ad 11)), (1, .long z), (0, .ref (ad 0))]) hx hb dX9_struckCues_29 hl (by decide) rfl (fun ls hl => ?_)
          refine lv_aloadN hx hb dX9_struckCues_31 (lv_at hl 0 rfl) ?_
          refine lv_ifnullN (tgt := 55) hx hb dX9_struckCues_33 (by decide) ?_
          obtain ⟨x55, e55⟩ : ∃ y : Int32, y = xk + 1 := ⟨_, rfl⟩
          refine lv_iinc (v := x55) (lv' := [(5, .int x55), (6, .null), (4, .int 40), (3, .ref (ad 11)), (1, .long z), (0, .ref (ad 0))]) hx hb dX9_struckCues_55 hl (k := 1) rfl (by rw [e55]; rfl) (by decide) rfl (fun ls hl => ?_)
          refine lv_goto (tgt := 18) hx hb dX9_struckCues_58 (by decide) ?_
          exact ih18 (k + 1) x55 z _ _ (by omega) (by omega) (by rw [e55, ek, nlit 1, nI_add]) (by
              first
              | exact zw_f ez (by unfold stP; rw [pres_f hg28]; simp)
              | exact zw_f ez (fun w => by
                  unfold stP at w
                  rw [Bool.and_eq_true] at w
                  exact c42 (e38.trans ((PlanR_stk P4 hi28 hg28 o1).mpr w.2)))
              | (rw [e53, e52, e49, (hR4.2.2.2.2.2.2.2.2.2.2.2 k hi28).1]
                 exact zw_t ez (by unfold stP; rw [pres_t hi28 hg28, (PlanR_stk P4 hi28 hg28 o1).mp (e38.symm.trans c42)]; rfl) (by omega))) hW ls (lv_sub hl [0, 2, 3, 4, 5] rfl)
        · refine walRs (j := k) (t := (100 + k)) hx hb hK hW (hX.1 11 (by decide)) hs28 ek (by omega) (by decide) dX9_struckCues_28 ?_
          refine lv_astore (lv' := [(6, .ref (ad (100 + k))), (5, .int xk), (4, .int 40), (3, .ref (ad 11)), (1, .long z), (0, .ref (ad 0))]) hx hb dX9_struckCues_29 hl (by decide) rfl (fun ls hl => ?_)
          refine lv_aload hx hb dX9_struckCues_31 (lv_at hl 0 rfl) ?_
          refine lv_ifnull hx hb dX9_struckCues_33 ?_
          refine lv_aload hx hb dX9_struckCues_36 (lv_at hl 0 rfl) ?_
          refine wgI hx hb fa188 hW (hX.2 k (by omega)) rfl dX9_struckCues_38 (fun x38 e38 => ?_)
          refine lv_iconst (v := 1) hx hb dX9_struckCues_41 (by decide) ?_
          refine lv_icmp_ne (tgt := 55) hx hb dX9_struckCues_42 (by decide) (fun c42 => ?_) (fun c42 => ?_)
          · obtain ⟨x55, e55⟩ : ∃ y : Int32, y = xk + 1 := ⟨_, rfl⟩
            refine lv_iinc (v := x55) (lv' := [(5, .int x55), (6, .ref (ad (100 + k))), (4, .int 40), (3, .ref (ad 11)), (1, .long z), (0, .ref (ad 0))]) hx hb dX9_struckCues_55 hl (k := 1) rfl (by rw [e55]; rfl) (by decide) rfl (fun ls hl => ?_)
            refine lv_goto (tgt := 18) hx hb dX9_struckCues_58 (by decide) ?_
            exact ih18 (k + 1) x55 z _ _ (by omega) (by omega) (by rw [e55, ek, nlit 1, nI_add]) (by
                first
                | exact zw_f ez (by unfold stP; rw [pres_f hg28]; simp)
                | exact zw_f ez (fun w => by
                    unfold stP at w
                    rw [Bool.and_eq_true] at w
                    exact c42 (e38.trans ((PlanR_stk P4 hi28 hg28 o1).mpr w.2)))
                | (rw [e53, e52, e49, (hR4.2.2.2.2.2.2.2.2.2.2.2 k hi28).1]
                   exact zw_t ez (by unfold stP; rw [pres_t hi28 hg28, (PlanR_stk P4 hi28 hg28 o1).mp (e38.symm.trans c42)]; rfl) (by omega))) hW ls (lv_sub hl [0, 2, 3, 4, 5] rfl)
          · refine lv_lload_n hx hb dX9_struckCues_45 rfl (lv_at hl 4 rfl) ?_
            refine lv_lconst (v := 1) hx hb dX9_struckCues_46 (by decide) ?_
            refine lv_aload hx hb dX9_struckCues_47 (lv_at hl 0 rfl) ?_
            refine wgI hx hb fa180 hW (hX.2 k (by omega)) rfl dX9_struckCues_49 (fun x49 e49 => ?_)
            refine lv_lshl hx hb dX9_struckCues_52 rfl ?_
            refine lv_topl (fun x52 e52 => ?_)
            refine lv_lor hx hb dX9_struckCues_53 ?_
            refine lv_topl (fun x53 e53 => ?_)
            refine lv_lstore_n (lv' := [(1, .long x53), (6, .ref (ad (100 + k))), (5, .int xk), (4, .int 40), (3, .ref (ad 11)), (0, .ref (ad 0))]) hx hb dX9_struckCues_54 rfl hl (by decide) rfl (fun ls hl => ?_)
            obtain ⟨x55, e55⟩ : ∃ y : Int32, y = xk + 1 := ⟨_, rfl⟩
            refine lv_iinc (v := x55) (lv' := [(5, .int x55), (1, .long x53), (6, .ref (ad (100 + k))), (4, .int 40), (3, .ref (ad 11)), (0, .ref (ad 0))]) hx hb dX9_struckCues_55 hl (k := 2) rfl (by rw [e55]; rfl) (by decide) rfl (fun ls hl => ?_)
            refine lv_goto (tgt := 18) hx hb dX9_struckCues_58 (by decide) ?_
            exact ih18 (k + 1) x55 x53 _ _ (by omega) (by omega) (by rw [e55, ek, nlit 1, nI_add]) (by
                first
                | exact zw_f ez (by unfold stP; rw [pres_f hg28]; simp)
                | exact zw_f ez (fun w => by
                    unfold stP at w
                    rw [Bool.and_eq_true] at w
                    exact c42 (e38.trans ((PlanR_stk P4 hi28 hg28 o1).mpr w.2)))
                | (rw [e53, e52, e49, (hR4.2.2.2.2.2.2.2.2.2.2.2 k hi28).1]
                   exact zw_t ez (by unfold stP; rw [pres_t hi28 hg28, (PlanR_stk P4 hi28 hg28 o1).mp (e38.symm.trans c42)]; rfl) (by omega))) hW ls (lv_sub hl [0, 3, 4, 1, 5] rfl)
  exact L18 (_ + 1) 0 0 0 _ _ (Nat.lt_succ_self _) (Nat.zero_le _) rfl (fun j _ => by simp [bitL_0]) hW ls (lv_sub hl [0, 1, 2, 3, 4] rfl)
set_option maxHeartbeats 4000000 in
set_option maxRecDepth 100000 in
theorem c_X9_found (l : Launch) (hl9 : l.stackTraces = false) (D : va_G) (cA : Nat → ClassId) (sh : Nat → Option Sh) (ad : Nat → Nat) (M : MS) (sz : Nat) (σ : AS) (ok : AOK σ) (hX : XSh (aN σ) sh) (hR : XR σ M) (v : Int32) : vx_Met l yX9_found wsX9_found ({ frames := 6, cells := 1, slots := 6, locals := 90 }) (xPc D cA sh ad M sz [.ref (ad 0), .int v]) (wQr D cA sh ad (fun q M' => M' = M ∧ ∃ i, i < aN σ ∧ v = nI i ∧ σ.2 10 i = 0 ∧ q = 100 + i) (wA sh ad sz)) (xXC D cA sh ad (fun E M' => E = nIO ∧ M' = M ∧ cuB σ v = false) (wA sh ad sz)) 1 6 (wA sh ad sz) := by
  refine vx_ofW (cc := cX9_found) (maxL := 2) (ret := (some (.object "MortarShow$Cue"))) (by decide) rfl ?_
  intro p e s m args below meth cd0 s₁ B hml ht hv
  obtain ⟨rfl, hsz, hM, hK, hE, hZ⟩ := hv
  have hx := B.exec
  have hb := B.bytes
  have hr := B.returns
  have hts := atoms_spec (ws := wsX9_found) B.pre
  have hown : s.vm.findClass RX9 = some m.cls := findClass_of_methodNamed B.named
  have hlocks := B.notSynchronized
  subst hsz
  have hA := wA_PA sh ad s.heap
  generalize wA sh ad s.heap.size = A at hA hZ ⊢
  have hW : WS D cA sh ad A s.heap M s.heap [] := ⟨hM, va_S.rf⟩
  have fa44 : FA D s m ([.ref (ad 0), .int v] : List Value).toArray 44 9 5 := FA.mk (C := RX9) (T := TX9) (N := 15) hts (fun _ h => List.mem_cons_of_mem _ (List.mem_append_left _ (List.mem_append_right _ (h)))) hown hK rfl (by decide) (hts (.fieldLink RX9 44 "MortarShow" "cueList" "[LMortarShow$Cue;") (List.mem_of_getElem? (i := 3) rfl))
  have hl := lv_entry ([.ref (ad 0), .int v]) (n := 2) (Nat.le_of_ble_eq_true rfl)
  rw [lg_entry_eq]
  generalize (lg_sl ([.ref (ad 0), .int v]) ++ List.replicate (2 - (lg_sl ([.ref (ad 0), .int v])).length) Slot.unset).toArray = ls at hl ⊢
  have hl : lv_has ls 2 [(0, .ref (ad 0)), (1, .int v)] := hl
  have o1 := ok.1
  refine lv_iload_n hx hb dX9_found_0 rfl (lv_at hl 1 rfl) ?_
  refine lv_iconst (v := 0) hx hb dX9_found_1 (by decide) ?_
  refine lv_bipush (v := 39) hx hb dX9_found_2 (by decide) ?_
  refine wc_ri (va_runS (As := [.int v, .int 0, .int 39]) (rest := []) ⟨hx, hb, hml, hown, hts⟩ (c_X9_outside l v 0 39) (va_cwS 3 hts gX9_found_X9_outside rfl rfl rfl (by decide +kernel) ⟨Nat.le_of_ble_eq_true rfl, Nat.le_of_ble_eq_true rfl⟩) npreS rfl rfl hl.1 rfl (lv_room (Nat.le_of_ble_eq_true rfl)) dX9_found_4 ⟨Nat.le_of_ble_eq_true rfl, Nat.le_of_ble_eq_true rfl⟩) hW (fun x4 H locs p4 hW => ?_)
  try dsimp only at p4
  refine lv_if_ne (tgt := 19) hx hb dX9_found_7 (by decide) (fun c7 => ?_) (fun c7 => ?_)
  · have g7 : outB v 0 39 = true := by rw [p4] at c7; exact bI_t.mp c7
    exact wx_throwW (text := "there is no such cue") hx hb hl9 xok_IO (by decide) (List.mem_of_getElem? (i := 14) rfl) ht hown (hts (.classLink RX9 253 "java/lang/IndexOutOfBoundsException") (List.mem_of_getElem? (i := 1) rfl)) (hts (.initialized "java/lang/IndexOutOfBoundsException") (List.mem_of_getElem? (i := 2) rfl)) (fun w h => hts w (List.mem_cons_of_mem _ (List.mem_append_right _ (h)))) hE hZ hW (hl.1.trans hml.symm) dX9_found_19 dX9_found_22 dX9_found_23 dX9_found_26 dX9_found_29 ⟨Nat.le_of_ble_eq_true rfl, Nat.le_of_ble_eq_true rfl⟩ ⟨Nat.le_of_ble_eq_true rfl, Nat.le_of_ble_eq_true rfl⟩ hlocks ⟨Nat.le_of_ble_eq_true rfl, Nat.le_of_ble_eq_true rfl⟩ ⟨rfl, rfl, cuB_no (fun j hj ej gj => by
        first
        | (rw [ej, show (39 : Int32) = nI 39 from rfl, nI_out (by omega) (by decide)] at g7; exact absurd g7 (by decide))
        | exact hg15 (by rw [show i = j from (nI_eq (by omega) (by omega)).mp (ei.symm.trans ej)]; exact ⟨hj, gj⟩))⟩
  · rw [p4] at c7
    obtain ⟨i, hi, ei⟩ := out_n (n := 39) (by decide) (bI_z.mp c7)
    refine lv_aload_n hx hb dX9_found_10 rfl (lv_at hl 0 rfl) ?_
    refine wgF (t := 11) hx hb fa44 hW (hX.1 0 (by decide)) rfl dX9_found_11 ?_
    refine lv_iload_n hx hb dX9_found_14 rfl (lv_at hl 1 rfl) ?_
    rcases hR.2.2.2.2.2.2.2.2.2.2.1 i (by omega) with ⟨hn15, hg15⟩ | ⟨hs15, hi15, hg15⟩
    · refine walRn (j := i) hx hb hK hW (hX.1 11 (by decide)) hn15 ei (by omega) (by decide) dX9_found_15 ?_
      refine lv_ifnonnullN hx hb dX9_found_16 ?_
      exact wx_throwW (text := "there is no such cue") hx hb hl9 xok_IO (by decide) (List.mem_of_getElem? (i := 14) rfl) ht hown (hts (.classLink RX9 253 "java/lang/IndexOutOfBoundsException") (List.mem_of_getElem? (i := 1) rfl)) (hts (.initialized "java/lang/IndexOutOfBoundsException") (List.mem_of_getElem? (i := 2) rfl)) (fun w h => hts w (List.mem_cons_of_mem _ (List.mem_append_right _ (h)))) hE hZ hW (hl.1.trans hml.symm) dX9_found_19 dX9_found_22 dX9_found_23 dX9_found_26 dX9_found_29 ⟨Nat.le_of_ble_eq_true rfl, Nat.le_of_ble_eq_true rfl⟩ ⟨Nat.le_of_ble_eq_true rfl, Nat.le_of_ble_eq_true rfl⟩ hlocks ⟨Nat.le_of_ble_eq_true rfl, Nat.le_of_ble_eq_true rfl⟩ ⟨rfl, rfl, cuB_no (fun j hj ej gj => by
          first
          | (rw [ej, show (39 : Int32) = nI 39 from rfl, nI_out (by omega) (by decide)] at g7; exact absurd g7 (by decide))
          | exact hg15 (by rw [show i = j from (nI_eq (by omega) (by omega)).mp (ei.symm.trans ej)]; exact ⟨hj, gj⟩))⟩
    · refine walRs (j := i) (t := (100 + i)) hx hb hK hW (hX.1 11 (by decide)) hs15 ei (by omega) (by decide) dX9_found_15 ?_
      refine lv_ifnonnull (tgt := 30) hx hb dX9_found_16 (by decide) ?_
      refine lv_aload_n hx hb dX9_found_30 rfl (lv_at hl 0 rfl) ?_
      refine wgF (t := 11) hx hb fa44 hW (hX.1 0 (by decide)) rfl dX9_found_31 ?_
      refine lv_iload_n hx hb dX9_found_34 rfl (lv_at hl 1 rfl) ?_
      refine walRs (j := i) (t := (100 + i)) hx hb hK hW (hX.1 11 (by decide)) hs15 ei (by omega) (by decide) dX9_found_35 ?_
      refine vx_ret ?_
      refine W.widen (k := 1) (n := 6) (by decide) (by decide) ?_
      exact wr_wr (q := (100 + i)) hx hb hr (Or.inl ⟨_, rfl⟩) hlocks hW dX9_found_36 ⟨rfl, i, hi15, ei, hg15, rfl⟩
/-- what an exception leaves -/
def pxG (σ : AS) (v : VT) (M : MS) (E0 : String) (good : Bool) : String → MS → Prop := fun E M' => E = E0 ∧ good = false ∧ oA XSx M M' ∧ XX σ v M'
set_option maxHeartbeats 4000000 in
set_option maxRecDepth 100000 in
theorem c_X9_foundAndPlanned (l : Launch) (hl9 : l.stackTraces = false) (D : va_G) (cA : Nat → ClassId) (sh : Nat → Option Sh) (ad : Nat → Nat) (M : MS) (sz : Nat) (σ : AS) (v : VT) (hX : XSh (aN σ) sh) (hXX : XX σ v M) (a : Int32) : vx_Met l yX9_foundAndPlanned wsX9_foundAndPlanned ({ frames := 7, cells := 1, slots := 6, locals := 111 }) (xPc D cA sh ad M sz [.ref (ad 0), .int a]) (wQr D cA sh ad (fun q M' => oA XSx M M' ∧ XX σ v M' ∧ cuB σ a = true ∧ ∃ i, i < aN σ ∧ a = nI i ∧ σ.2 10 i = 0 ∧ q = 100 + i ∧ ∃ q' c, PlanR σ q' c M') (wA sh ad sz)) (xXC D cA sh ad (pxG σ v M nIO (cuB σ a)) (wA sh ad sz)) 1 6 (wA sh ad sz) := by
  refine vx_ofW (cc := cX9_foundAndPlanned) (maxL := 3) (ret := (some (.object "MortarShow$Cue"))) (by decide) rfl ?_
  intro p e s m args below meth cd0 s₁ B hml ht hv
  obtain ⟨rfl, hsz, hM, hK, hE, hZ⟩ := hv
  have hx := B.exec
  have hb := B.bytes
  have hr := B.returns
  have hts := atoms_spec (ws := wsX9_foundAndPlanned) B.pre
  have hown : s.vm.findClass RX9 = some m.cls := findClass_of_methodNamed B.named
  have hlocks := B.notSynchronized
  subst hsz
  have hA := wA_PA sh ad s.heap
  generalize wA sh ad s.heap.size = A at hA hZ ⊢
  have hW : WS D cA sh ad A s.heap M s.heap [] := ⟨hM, va_S.rf⟩
  have hl := lv_entry ([.ref (ad 0), .int a]) (n := 3) (Nat.le_of_ble_eq_true rfl)
  rw [lg_entry_eq]
  generalize (lg_sl ([.ref (ad 0), .int a]) ++ List.replicate (3 - (lg_sl ([.ref (ad 0), .int a])).length) Slot.unset).toArray = ls at hl ⊢
  have hl : lv_has ls 3 [(0, .ref (ad 0)), (1, .int a)] := hl
  obtain ⟨ok, hR, hP, hL, hV, hT⟩ := hXX
  have hXX : XX σ v M := ⟨ok, hR, hP, hL, hV, hT⟩
  have o1 := ok.1
  refine lv_aload_n hx hb dX9_foundAndPlanned_0 rfl (lv_at hl 0 rfl) ?_
  refine lv_iload_n hx hb dX9_foundAndPlanned_1 rfl (lv_at hl 1 rfl) ?_
  refine wx_wr (vx_runV (As := [.int a]) (rest := []) ⟨hx, hb, hml, hown, hts⟩ (c_X9_found l hl9 D cA sh ad M _ σ ok hX hR a) (cwV 1 hts gX9_foundAndPlanned_X9_found rfl rfl rfl (by decide +kernel) ⟨Nat.le_of_ble_eq_true rfl, Nat.le_of_ble_eq_true rfl⟩) (xpreV hK hA hW hE hZ (C := RX9) (ci := 9) (hX.1 0 (by decide)) rfl) rfl rfl hl.1 rfl (lv_room (Nat.le_of_ble_eq_true rfl)) dX9_foundAndPlanned_2 ⟨Nat.le_of_ble_eq_true rfl, Nat.le_of_ble_eq_true rfl⟩) hA hW ht hlocks ⟨by decide, by decide⟩ (fun E M9 h9 => ⟨h9.1, h9.2.2, by rw [h9.2.1]; exact oA.rf, by rw [h9.2.1]; exact hXX⟩) (fun q2 M2 H locs p2 hW => ?_)
  try dsimp only at p2
  obtain ⟨eM2, i, hi, ev, hg, eq2⟩ := p2
  subst eq2
  rw [eM2] at hW
  refine lv_astore_n (lv' := [(2, .ref (ad (100 + i))), (0, .ref (ad 0)), (1, .int a)]) hx hb dX9_foundAndPlanned_5 rfl hl (by decide) rfl (fun ls hl => ?_)
  refine lv_aload_n hx hb dX9_foundAndPlanned_6 rfl (lv_at hl 1 rfl) ?_
  refine wc_wv (va_runV (As := []) (rest := []) ⟨hx, hb, hml, hown, hts⟩ (c_X9_plan l D cA sh ad M _ σ ok hX hR hP) (cwV 0 hts gX9_foundAndPlanned_X9_plan rfl rfl rfl (by decide +kernel) ⟨Nat.le_of_ble_eq_true rfl, Nat.le_of_ble_eq_true rfl⟩) (wpreV hK hW (C := RX9) (ci := 9) (hX.1 0 (by decide)) rfl) rfl rfl hl.1 rfl (lv_room (Nat.le_of_ble_eq_true rfl)) dX9_foundAndPlanned_7 ⟨Nat.le_of_ble_eq_true rfl, Nat.le_of_ble_eq_true rfl⟩) hA hW (fun M7 H locs p7 hW => ?_)
  try dsimp only at p7
  obtain ⟨o7, v7, P7⟩ := p7
  refine lv_aload_n hx hb dX9_foundAndPlanned_10 rfl (lv_at hl 0 rfl) ?_
  refine vx_ret ?_
  refine W.widen (k := 1) (n := 6) (by decide) (by decide) ?_
  exact wr_wr (q := (100 + i)) hx hb hr (Or.inl ⟨_, rfl⟩) hlocks hW dX9_foundAndPlanned_11 ⟨XSc_x o7, hXX.pl o7 v7 P7, by rw [ev]; exact cuB_yes hi hg, i, hi, ev, hg, rfl, P7⟩

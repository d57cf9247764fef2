/-! The show is made. -/
def shY (p : Nat) : Option Sh := if p = 4 then some (.inr (5, 6)) else if p = 5 then some (.inr (4, 4)) else shT.getD p none
def shXn (n : Nat) : Nat → Option Sh := fun p => if p = 0 then some (.inl (9, [2, 2, 2, 2, 2, 2, 2, 2, 2, 2, 0, 0, 0, 0, 0])) else if p < n then shY p else none
def shS (a b : Nat) : Nat → Option Sh := fun p => if p < 22 then shY p else if 30 ≤ p ∧ p < 30 + a then some (.inl (7, [0, 0])) else if (40 ≤ p ∧ p < 40 + b) ∨ (44 ≤ p ∧ p < 44 + b) ∨ (48 ≤ p ∧ p < 48 + b) then shT.getD p none else none
def shF : Nat → Option Sh := fun p => if p < 60 then shT.getD p none else none
theorem shX_blk {n m : Nat} {f : Nat → Option Sh} (hn : 1 ≤ n) (hm : n ≤ m) (h1 : ∀ p, n ≤ p → p < m → f p = shY p) (h2 : ∀ p, ¬ (n ≤ p ∧ p < m) → f p = shXn n p) : f = shXn m := by
  funext p
  by_cases h : n ≤ p ∧ p < m
  · rw [h1 p h.1 h.2]
    unfold shXn
    rw [if_neg (by omega), if_pos h.2]
  · rw [h2 p h]
    unfold shXn
    by_cases h0 : p = 0
    · rw [if_pos h0, if_pos h0]
    · rw [if_neg h0, if_neg h0]
      by_cases h3 : p < n
      · rw [if_pos h3, if_pos (by omega)]
      · rw [if_neg h3, if_neg (by omega)]
theorem shX_1 {n : Nat} {x : Sh} (hn : 1 ≤ n) (h : shY n = some x) : shU (shXn n) n x = shXn (n + 1) :=
  shX_blk hn (Nat.le_succ n) (fun p h1 h2 => by rw [show p = n by omega, shU_eq, h]) (fun p hp => shU_ne (by omega))
theorem shX_a : shU (shU (shU (shU (shXn 1) 1 (.inl (4, [2, 2]))) 2 (.inr (0, 64))) 3 (.inr (0, 64))) 1 (.inl (4, [2 + 3, 3 + 3])) = shXn 4 :=
  shX_blk (n := 1) (by omega) (by omega) (fun p h1 h2 => by rcases (show p = 1 ∨ p = 2 ∨ p = 3 by omega) with e | e | e <;> subst e <;> rfl) (fun p hp => by rw [shU_ne (by omega), shU_ne (by omega), shU_ne (by omega), shU_ne (by omega)])
theorem shX_b : shU (shU (shU (shU (shXn 6) 6 (.inl (8, [2, 2]))) 7 (.inr (0, 4))) 8 (.inr (0, 4))) 6 (.inl (8, [7 + 3, 8 + 3])) = shXn 9 :=
  shX_blk (n := 6) (by omega) (by omega) (fun p h1 h2 => by rcases (show p = 6 ∨ p = 7 ∨ p = 8 by omega) with e | e | e <;> subst e <;> rfl) (fun p hp => by rw [shU_ne (by omega), shU_ne (by omega), shU_ne (by omega), shU_ne (by omega)])
theorem shX_c : shU (shU (shU (shXn 9) 9 (.inl (3, [2, 0, 0]))) 10 (.inl (5, [0, 0, 0, 0, 0]))) 9 (.inl (3, [10 + 3, 0, 0])) = shXn 11 :=
  shX_blk (n := 9) (by omega) (by omega) (fun p h1 h2 => by rcases (show p = 9 ∨ p = 10 by omega) with e | e <;> subst e <;> rfl) (fun p hp => by rw [shU_ne (by omega), shU_ne (by omega), shU_ne (by omega)])
theorem shX_d : shU (shU (shU (shU (shU (shXn 12) 12 (.inl (0, [2, 2, 2, 0]))) 13 (.inr (0, 101))) 14 (.inr (0, 101))) 15 (.inr (0, 101))) 12 (.inl (0, [13 + 3, 14 + 3, 15 + 3, 0])) = shXn 16 :=
  shX_blk (n := 12) (by omega) (by omega) (fun p h1 h2 => by rcases (show p = 12 ∨ p = 13 ∨ p = 14 ∨ p = 15 by omega) with e | e | e | e <;> subst e <;> rfl) (fun p hp => by rw [shU_ne (by omega), shU_ne (by omega), shU_ne (by omega), shU_ne (by omega), shU_ne (by omega)])
theorem shX_e : shU (shU (shU (shU (shU (shXn 16) 16 (.inl (1, [2, 2, 2, 0]))) 17 (.inr (1, 32))) 18 (.inr (0, 32))) 19 (.inr (0, 4))) 16 (.inl (1, [17 + 3, 18 + 3, 19 + 3, 0])) = shXn 20 :=
  shX_blk (n := 16) (by omega) (by omega) (fun p h1 h2 => by rcases (show p = 16 ∨ p = 17 ∨ p = 18 ∨ p = 19 by omega) with e | e | e | e <;> subst e <;> rfl) (fun p hp => by rw [shU_ne (by omega), shU_ne (by omega), shU_ne (by omega), shU_ne (by omega), shU_ne (by omega)])
theorem shX_f : shU (shXn 22) 0 (.inl (9, [1 + 3, 4 + 3, 5 + 3, 6 + 3, 9 + 3, 11 + 3, 12 + 3, 16 + 3, 20 + 3, 21 + 3, 0, 0, 0, 0, 0])) = shS 0 0 := by
  funext p
  by_cases h0 : p = 0
  · subst h0; rfl
  · rw [shU_ne h0]
    unfold shXn shS
    rw [if_neg h0]
    by_cases h : p < 22
    · rw [if_pos h, if_pos h]
    · rw [if_neg h, if_neg h, if_neg (by omega), if_neg (by omega)]
theorem shS_r {i : Nat} : shU (shS i 0) (30 + i) (.inl (7, [0, 0])) = shS (i + 1) 0 := by
  funext p
  by_cases h0 : p = 30 + i
  · subst h0
    rw [shU_eq]
    unfold shS
    rw [if_neg (by omega), if_pos (by omega)]
  · rw [shU_ne h0]
    unfold shS
    by_cases h : p < 22
    · rw [if_pos h, if_pos h]
    · rw [if_neg h, if_neg h]
      by_cases h2 : 30 ≤ p ∧ p < 30 + i
      · rw [if_pos h2, if_pos (by omega)]
      · rw [if_neg h2, if_neg (by omega), if_neg (by omega)]
theorem shS_rk {i a b : Nat} (h : i < a) : shS a b (30 + i) = some (.inl (7, [0, 0])) := by
  unfold shS
  rw [if_neg (by omega), if_pos (by omega)]
theorem shS_no {a b p : Nat} (ha : a ≤ 6) (h : 22 ≤ p) (h1 : ¬ (30 ≤ p ∧ p < 36)) (h2 : ¬ ((40 ≤ p ∧ p < 40 + b) ∨ (44 ≤ p ∧ p < 44 + b) ∨ (48 ≤ p ∧ p < 48 + b))) : shS a b p = none := by
  unfold shS
  rw [if_neg (by omega), if_neg (by omega), if_neg h2]
theorem shS_k {i : Nat} (hi : i < 4) : shU (shU (shU (shU (shS 6 i) (40 + i) (.inl (6, [2, 2, 0, 0, 0, 0, 0]))) (44 + i) (.inr (0, 4))) (48 + i) (.inl (5, [0, 0, 0, 0, 0]))) (40 + i) (.inl (6, [(44 + i) + 3, (48 + i) + 3, 0, 0, 0, 0, 0])) = shS 6 (i + 1) := by
  have up : ∀ p, ((40 ≤ p ∧ p < 40 + (i + 1)) ∨ (44 ≤ p ∧ p < 44 + (i + 1)) ∨ (48 ≤ p ∧ p < 48 + (i + 1))) → shS 6 (i + 1) p = shT.getD p none := fun p h => by
    unfold shS
    rw [if_neg (by omega), if_neg (by omega), if_pos h]
  funext p
  by_cases h1 : p = 40 + i
  · subst h1; rw [shU_eq, up _ (by omega), shT_kind i hi]
  · rw [shU_ne h1]
    by_cases h2 : p = 48 + i
    · subst h2; rw [shU_eq, up _ (by omega), shT_height i hi]
    · rw [shU_ne h2]
      by_cases h3 : p = 44 + i
      · subst h3; rw [shU_eq, up _ (by omega), shT_ticks i hi]
      · rw [shU_ne h3, shU_ne h1]
        unfold shS
        by_cases h : p < 22
        · rw [if_pos h, if_pos h]
        · rw [if_neg h, if_neg h]
          by_cases h4 : 30 ≤ p ∧ p < 30 + 6
          · rw [if_pos h4, if_pos h4]
          · rw [if_neg h4, if_neg h4]
            by_cases h5 : (40 ≤ p ∧ p < 40 + i) ∨ (44 ≤ p ∧ p < 44 + i) ∨ (48 ≤ p ∧ p < 48 + i)
            · rw [if_pos h5, if_pos (by omega)]
            · rw [if_neg h5, if_neg (by omega)]
theorem shS_F : shU (shU (shS 6 4) 4 (.inr (7, 6))) 5 (.inr (6, 4)) = shF := by
  have key : ∀ p, p < 60 → shU (shU (shS 6 4) 4 (.inr (7, 6))) 5 (.inr (6, 4)) p = shF p := by decide +kernel
  funext p
  by_cases h : p < 60
  · exact key p h
  · rw [shU_ne (by omega), shU_ne (by omega), shS_no (by omega) (by omega) (by omega) (by omega)]
    unfold shF
    rw [if_neg h]
def s0I (p _k : Nat) : Int32 := if p = 2 then 50 else if p = 3 then 20 else 0
def s0N (p _k : Nat) : Nat := if p = 4 then 20 else if p = 5 then 2 else if p = 11 then flN 50 20 else 0
def as0 : AS := (s0I, s0N)
def v0 : VT := (fun _ => 0, fun _ => 1)
def zM : MS := (fun _ _ => 0, fun _ _ => 0, fun _ _ => none)
theorem s0_11 (k : Nat) : as0.2 11 k = flN 50 20 := by unfold as0 s0N; simp
theorem s0_2 (k : Nat) : as0.1 2 k = 50 := rfl
theorem s0_3 (k : Nat) : as0.1 3 k = 20 := rfl
theorem s0_z (p k : Nat) (h : p ≠ 4 ∧ p ≠ 5 ∧ p ≠ 11) : as0.2 p k = 0 := by unfold as0 s0N; simp [h]
theorem s0_iz (p k : Nat) (h : p ≠ 2 ∧ p ≠ 3) : as0.1 p k = 0 := by unfold as0 s0I; simp [h]
theorem AOK_0 : AOK as0 := by
  refine ⟨?_, fun r _ => ?_, fun k _ => ?_, fun c _ => ?_, ⟨by decide, by decide⟩, by decide, fun i hi => ?_, fun k _ => ?_, fun y _ => ?_, fun i _ => ?_, fun k _ => ?_⟩
  · unfold aN; rw [s0_z 6 0 (by decide)]; decide
  · rw [s0_z 0 r (by decide), s0_z 1 r (by decide)]; decide
  · rw [s0_z 2 k (by decide)]; decide
  · rw [s0_z 3 c (by decide)]; decide
  · unfold aN at hi; rw [s0_z 6 0 (by decide)] at hi; exact absurd hi (Nat.not_lt_zero i)
  · rw [s0_2, s0_3, s0_11]; exact flN_ok (by decide) (by decide)
  · rw [s0_iz 4 y (by decide), s0_iz 5 y (by decide)]; decide
  · exact s0_z 10 i (by decide)
  · rw [s0_2, s0_3]; decide
theorem xx0 {M : MS} (hI : ∀ p k, ¬ (p = 0 ∧ k = 13) → ¬ (p = 16 ∧ k = 3) → ¬ (40 ≤ p ∧ p < 52) → p ≠ 21 → gI M p k = 0) (h13 : gI M 0 13 = 20) (h16 : gI M 16 3 = 2) (hR11 : ∀ k, gR M 11 k = none)
    (hk : ∀ k, k < 4 → gI M (40 + k) 2 = 50 ∧ gI M (40 + k) 3 = 20 ∧ gI M (40 + k) 4 = 0 ∧ gI M (40 + k) 5 = nI (liftN 50 20 (flN 50 20)) ∧ gI M (40 + k) 6 = nI (flN 50 20) ∧ ∀ y, y < 4 → gI M (44 + k) y = nI (cntN 50 20 (flN 50 20) y)) (h21 : ∀ k, k < 10 → gI M 21 k = 1) : XX as0 v0 M := by
  refine ⟨AOK_0, ⟨fun k _ => hI _ _ (by omega) (by omega) (by omega) (by omega), trivial, fun r hr => ⟨hI _ _ (by omega) (by omega) (by omega) (by omega), hI _ _ (by omega) (by omega) (by omega) (by omega)⟩, fun k hk4 => by rw [s0_2, s0_3, s0_11]; exact hk k hk4, fun y _ => ⟨hI _ _ (by omega) (by omega) (by omega) (by omega), hI _ _ (by omega) (by omega) (by omega) (by omega)⟩, trivial, fun c _ => hI _ _ (by omega) (by omega) (by omega) (by omega), h13, h16, hI _ _ (by omega) (by omega) (by omega) (by omega), fun i _ => Or.inl ⟨hR11 i, fun z => absurd z.1 (Nat.not_lt_zero i)⟩, fun i hi => absurd hi (Nat.not_lt_zero i)⟩, Or.inl (hI _ _ (by omega) (by omega) (by omega) (by omega)), ?_, fun k _ => hI _ _ (by omega) (by omega) (by omega) (by omega), fun k hk9 => h21 k hk9⟩
  rw [hI _ _ (by omega) (by omega) (by omega) (by omega)]
  rfl
set_option maxHeartbeats 4000000 in
set_option maxRecDepth 100000 in
theorem c_X9_init (l : Launch) (D : va_G) (cA : Nat → ClassId) (sh : Nat → Option Sh) (ad : Nat → Nat) (M : MS) (sz : Nat) (eS : sh = shXn 1) (hM0 : M = zM) (hC : CZ sh M) : Met l yX9_init wsX9_init ({ frames := 4, cells := 39, slots := 703, locals := 85 }) (cPc D cA sh ad M sz [.ref (ad 0)]) (cQv D cA sh ad sz (shF) (fun M' => XX as0 v0 M') (wA sh ad sz)) 39 703 (wA sh ad sz) := by
  refine Met.ofW (cc := cX9_init) (maxL := 2) (ret := none) (by decide) rfl ?_
  intro p e s m args below meth cd0 s₁ B hml hv
  obtain ⟨rfl, hsz, hM, hK, hN⟩ := hv
  have hx := B.exec
  have hb := B.bytes
  have hr := B.returns
  have hts := atoms_spec (ws := wsX9_init) B.pre
  have hown : s.vm.findClass RX9 = some m.cls := findClass_of_methodNamed B.named
  have hlocks := B.notSynchronized
  have hin : meth.name = "<init>" := (name_of_methodNamed B.named B.method).1
  subst hsz
  have hA := wA_PA sh ad s.heap
  generalize wA sh ad s.heap.size = A at hA ⊢
  have hW : WS D cA sh ad A s.heap M s.heap [] := ⟨hM, va_S.rf⟩
  obtain ⟨sh0, es0⟩ : ∃ z, z = sh := ⟨_, rfl⟩
  obtain ⟨ad0, ea0⟩ : ∃ z, z = ad := ⟨_, rfl⟩
  have hG : GR sh0 ad0 s.heap.size sh ad := by rw [es0, ea0]; exact GR.rf
  have hl := lv_entry ([.ref (ad 0)]) (n := 2) (Nat.le_of_ble_eq_true rfl)
  rw [lg_entry_eq]
  generalize (lg_sl ([.ref (ad 0)]) ++ List.replicate (2 - (lg_sl ([.ref (ad 0)])).length) Slot.unset).toArray = ls at hl ⊢
  have hl : lv_has ls 2 [(0, .ref (ad 0))] := hl
  generalize hQ9 : (cQv D cA sh ad s.heap.size (shF) (fun M' => XX as0 v0 M') A) = Q9
  rw [← es0, ← ea0] at hQ9
  generalize hae : ([.ref (ad 0)] : List Value).toArray = ar at hts ⊢
  have fa18 : FA D s m ar 18 9 1 := FA.mk (C := RX9) (T := TX9) (N := 15) hts (fun _ h => List.mem_cons_of_mem _ (List.mem_append_left _ (List.mem_append_left _ (List.mem_append_left _ (List.mem_append_left _ (List.mem_append_left _ (List.mem_append_left _ (List.mem_append_left _ (List.mem_append_right _ (h)))))))))) hown hK rfl (by decide) (hts (.fieldLink RX9 18 "MortarShow" "racks" "[LMortarShow$Rack;") (List.mem_of_getElem? (i := 9) rfl))
  have fa24 : FA D s m ar 24 9 2 := FA.mk (C := RX9) (T := TX9) (N := 15) hts (fun _ h => List.mem_cons_of_mem _ (List.mem_append_left _ (List.mem_append_left _ (List.mem_append_left _ (List.mem_append_left _ (List.mem_append_left _ (List.mem_append_left _ (List.mem_append_left _ (List.mem_append_right _ (h)))))))))) hown hK rfl (by decide) (hts (.fieldLink RX9 24 "MortarShow" "kinds" "[LMortarShow$Kind;") (List.mem_of_getElem? (i := 11) rfl))
  have fa65 : FA D s m ar 65 9 9 := FA.mk (C := RX9) (T := TX9) (N := 15) hts (fun _ h => List.mem_cons_of_mem _ (List.mem_append_left _ (List.mem_append_left _ (List.mem_append_left _ (List.mem_append_left _ (List.mem_append_left _ (List.mem_append_left _ (List.mem_append_left _ (List.mem_append_right _ (h)))))))))) hown hK rfl (by decide) (hts (.fieldLink RX9 65 "MortarShow" "rates" "[I") (List.mem_of_getElem? (i := 32) rfl))
  have ff10 : FF D s m ar 10 9 0 (.object "MortarShow$Ground") := FF.mk (C := RX9) (T := TX9) (N := 15) hts (fun _ h => List.mem_cons_of_mem _ (List.mem_append_left _ (List.mem_append_left _ (List.mem_append_left _ (List.mem_append_left _ (List.mem_append_left _ (List.mem_append_left _ (List.mem_append_left _ (List.mem_append_right _ (h)))))))))) hown hK rfl (by decide) (hts (.fieldLink RX9 10 "MortarShow" "ground" "LMortarShow$Ground;") (List.mem_of_getElem? (i := 7) rfl)) tyX9 tyX9_ok nmX9 rfl rfl rfl
  have ff18 : FF D s m ar 18 9 1 (.array (.object "MortarShow$Rack")) := FF.mk (C := RX9) (T := TX9) (N := 15) hts (fun _ h => List.mem_cons_of_mem _ (List.mem_append_left _ (List.mem_append_left _ (List.mem_append_left _ (List.mem_append_left _ (List.mem_append_left _ (List.mem_append_left _ (List.mem_append_left _ (List.mem_append_right _ (h)))))))))) hown hK rfl (by decide) (hts (.fieldLink RX9 18 "MortarShow" "racks" "[LMortarShow$Rack;") (List.mem_of_getElem? (i := 9) rfl)) tyX9 tyX9_ok nmX9 rfl rfl rfl
  have ff24 : FF D s m ar 24 9 2 (.array (.object "MortarShow$Kind")) := FF.mk (C := RX9) (T := TX9) (N := 15) hts (fun _ h => List.mem_cons_of_mem _ (List.mem_append_left _ (List.mem_append_left _ (List.mem_append_left _ (List.mem_append_left _ (List.mem_append_left _ (List.mem_append_left _ (List.mem_append_left _ (List.mem_append_right _ (h)))))))))) hown hK rfl (by decide) (hts (.fieldLink RX9 24 "MortarShow" "kinds" "[LMortarShow$Kind;") (List.mem_of_getElem? (i := 11) rfl)) tyX9 tyX9_ok nmX9 rfl rfl rfl
  have ff31 : FF D s m ar 31 9 3 (.object "MortarShow$Wind") := FF.mk (C := RX9) (T := TX9) (N := 15) hts (fun _ h => List.mem_cons_of_mem _ (List.mem_append_left _ (List.mem_append_left _ (List.mem_append_left _ (List.mem_append_left _ (List.mem_append_left _ (List.mem_append_left _ (List.mem_append_left _ (List.mem_append_right _ (h)))))))))) hown hK rfl (by decide) (hts (.fieldLink RX9 31 "MortarShow" "wind" "LMortarShow$Wind;") (List.mem_of_getElem? (i := 15) rfl)) tyX9 tyX9_ok nmX9 rfl rfl rfl
  have ff38 : FF D s m ar 38 9 4 (.object "MortarShow$Flight") := FF.mk (C := RX9) (T := TX9) (N := 15) hts (fun _ h => List.mem_cons_of_mem _ (List.mem_append_left _ (List.mem_append_left _ (List.mem_append_left _ (List.mem_append_left _ (List.mem_append_left _ (List.mem_append_left _ (List.mem_append_left _ (List.mem_append_right _ (h)))))))))) hown hK rfl (by decide) (hts (.fieldLink RX9 38 "MortarShow" "flown" "LMortarShow$Flight;") (List.mem_of_getElem? (i := 19) rfl)) tyX9 tyX9_ok nmX9 rfl rfl rfl
  have ff44 : FF D s m ar 44 9 5 (.array (.object "MortarShow$Cue")) := FF.mk (C := RX9) (T := TX9) (N := 15) hts (fun _ h => List.mem_cons_of_mem _ (List.mem_append_left _ (List.mem_append_left _ (List.mem_append_left _ (List.mem_append_left _ (List.mem_append_left _ (List.mem_append_left _ (List.mem_append_left _ (List.mem_append_right _ (h)))))))))) hown hK rfl (by decide) (hts (.fieldLink RX9 44 "MortarShow" "cueList" "[LMortarShow$Cue;") (List.mem_of_getElem? (i := 21) rfl)) tyX9 tyX9_ok nmX9 rfl rfl rfl
  have ff51 : FF D s m ar 51 9 6 (.object "MortarShow$Beats") := FF.mk (C := RX9) (T := TX9) (N := 15) hts (fun _ h => List.mem_cons_of_mem _ (List.mem_append_left _ (List.mem_append_left _ (List.mem_append_left _ (List.mem_append_left _ (List.mem_append_left _ (List.mem_append_left _ (List.mem_append_left _ (List.mem_append_right _ (h)))))))))) hown hK rfl (by decide) (hts (.fieldLink RX9 51 "MortarShow" "beats" "LMortarShow$Beats;") (List.mem_of_getElem? (i := 25) rfl)) tyX9 tyX9_ok nmX9 rfl rfl rfl
  have ff58 : FF D s m ar 58 9 7 (.object "MortarShow$Boxes") := FF.mk (C := RX9) (T := TX9) (N := 15) hts (fun _ h => List.mem_cons_of_mem _ (List.mem_append_left _ (List.mem_append_left _ (List.mem_append_left _ (List.mem_append_left _ (List.mem_append_left _ (List.mem_append_left _ (List.mem_append_left _ (List.mem_append_right _ (h)))))))))) hown hK rfl (by decide) (hts (.fieldLink RX9 58 "MortarShow" "boxes" "LMortarShow$Boxes;") (List.mem_of_getElem? (i := 29) rfl)) tyX9 tyX9_ok nmX9 rfl rfl rfl
  have ff62 : FF D s m ar 62 9 8 (.array (.object "MortarShow$Cue")) := FF.mk (C := RX9) (T := TX9) (N := 15) hts (fun _ h => List.mem_cons_of_mem _ (List.mem_append_left _ (List.mem_append_left _ (List.mem_append_left _ (List.mem_append_left _ (List.mem_append_left _ (List.mem_append_left _ (List.mem_append_left _ (List.mem_append_right _ (h)))))))))) hown hK rfl (by decide) (hts (.fieldLink RX9 62 "MortarShow" "queue" "[LMortarShow$Cue;") (List.mem_of_getElem? (i := 30) rfl)) tyX9 tyX9_ok nmX9 rfl rfl rfl
  have ff65 : FF D s m ar 65 9 9 (.array (.int)) := FF.mk (C := RX9) (T := TX9) (N := 15) hts (fun _ h => List.mem_cons_of_mem _ (List.mem_append_left _ (List.mem_append_left _ (List.mem_append_left _ (List.mem_append_left _ (List.mem_append_left _ (List.mem_append_left _ (List.mem_append_left _ (List.mem_append_right _ (h)))))))))) hown hK rfl (by decide) (hts (.fieldLink RX9 65 "MortarShow" "rates" "[I") (List.mem_of_getElem? (i := 32) rfl)) tyX9 tyX9_ok nmX9 rfl rfl rfl
  have fw69 : FW D s m ar 69 9 10 (.int) := FW.mk (C := RX9) (T := TX9) (N := 15) hts (fun _ h => List.mem_cons_of_mem _ (List.mem_append_left _ (List.mem_append_left _ (List.mem_append_left _ (List.mem_append_left _ (List.mem_append_left _ (List.mem_append_left _ (List.mem_append_left _ (List.mem_append_right _ (h)))))))))) hown hK rfl (by decide) (hts (.fieldLink RX9 69 "MortarShow" "made" "I") (List.mem_of_getElem? (i := 33) rfl)) tyX9 tyX9_ok nmX9 rfl rfl
  have fw73 : FW D s m ar 73 9 11 (.int) := FW.mk (C := RX9) (T := TX9) (N := 15) hts (fun _ h => List.mem_cons_of_mem _ (List.mem_append_left _ (List.mem_append_left _ (List.mem_append_left _ (List.mem_append_left _ (List.mem_append_left _ (List.mem_append_left _ (List.mem_append_left _ (List.mem_append_right _ (h)))))))))) hown hK rfl (by decide) (hts (.fieldLink RX9 73 "MortarShow" "left" "I") (List.mem_of_getElem? (i := 34) rfl)) tyX9 tyX9_ok nmX9 rfl rfl
  have fw76 : FW D s m ar 76 9 12 (.int) := FW.mk (C := RX9) (T := TX9) (N := 15) hts (fun _ h => List.mem_cons_of_mem _ (List.mem_append_left _ (List.mem_append_left _ (List.mem_append_left _ (List.mem_append_left _ (List.mem_append_left _ (List.mem_append_left _ (List.mem_append_left _ (List.mem_append_right _ (h)))))))))) hown hK rfl (by decide) (hts (.fieldLink RX9 76 "MortarShow" "queued" "I") (List.mem_of_getElem? (i := 35) rfl)) tyX9 tyX9_ok nmX9 rfl rfl
  have fw79 : FW D s m ar 79 9 13 (.int) := FW.mk (C := RX9) (T := TX9) (N := 15) hts (fun _ h => List.mem_cons_of_mem _ (List.mem_append_left _ (List.mem_append_left _ (List.mem_append_left _ (List.mem_append_left _ (List.mem_append_left _ (List.mem_append_left _ (List.mem_append_left _ (List.mem_append_right _ (h)))))))))) hown hK rfl (by decide) (hts (.fieldLink RX9 79 "MortarShow" "tempo" "I") (List.mem_of_getElem? (i := 36) rfl)) tyX9 tyX9_ok nmX9 rfl rfl
  have fw82 : FW D s m ar 82 9 14 (.boolean) := FW.mk (C := RX9) (T := TX9) (N := 15) hts (fun _ h => List.mem_cons_of_mem _ (List.mem_append_left _ (List.mem_append_left _ (List.mem_append_left _ (List.mem_append_left _ (List.mem_append_left _ (List.mem_append_left _ (List.mem_append_left _ (List.mem_append_right _ (h)))))))))) hown hK rfl (by decide) (hts (.fieldLink RX9 82 "MortarShow" "planned" "Z") (List.mem_of_getElem? (i := 37) rfl)) tyX9 tyX9_ok nmX9 rfl rfl
  refine lv_aload_n hx hb dX9_init_0 rfl (lv_at hl 0 rfl) ?_
  refine W.objInit hx hb hown (hts (.methodLink RX9 1 objectInit) (List.mem_of_getElem? (i := 1) rfl)) (hts (.instanceMethod objectInit) (List.mem_of_getElem? (i := 2) rfl)) (hts (.code objectInit ⟨#[0xb1]⟩ 1 none) (List.mem_of_getElem? (i := 3) rfl)) rfl (by rw [hml]; exact hl.1) rfl dX9_init_1 (Nat.le_of_ble_eq_true rfl) (Nat.le_of_ble_eq_true rfl) ?_
  refine W.eq (g2 := F0 m 4 ls []) rfl ?_
  refine lv_aload_n hx hb dX9_init_4 rfl (lv_at hl 0 rfl) ?_
  refine wnewZ (q := 1) (ci := 4) (C := RX4) (T := TX4) (N := 2) (ks := [2, 2]) hx hb hts (fun _ h => List.mem_cons_of_mem _ (List.mem_append_left _ (List.mem_append_left _ (List.mem_append_left _ (List.mem_append_left _ (List.mem_append_left _ (List.mem_append_left _ (List.mem_append_left _ (List.mem_append_left _ (List.mem_append_right _ (h))))))))))) tyX4 tyX4_ok hown (hts (.classLink RX9 7 RX4) (List.mem_of_getElem? (i := 4) rfl)) (hts (.instantiable RX4 2) (List.mem_of_getElem? (i := 5) rfl)) (hts (.initialized RX4) (List.mem_of_getElem? (i := 6) rfl)) hK rfl hC (by rw [eS]; rfl) hA hW (by decide) (by decide) ⟨Nat.le_of_ble_eq_true rfl, Nat.le_of_ble_eq_true rfl⟩ dX9_init_5 (fun sh ad H esh hk hge hC hA hW => ?_)
  rw [← (hk 0 (by omega))] at hl
  rw [← (hk 0 (by omega))]
  have hG := hG.new (by rw [eS]; rfl) esh hk hge
  have eS : sh = shU (shXn 1) 1 (.inl (4, [2, 2])) := by rw [esh, eS]
  refine lv_dup hx hb dX9_init_8 rfl ?_
  refine wc_cv (va_runIN (As := []) (rest := [.ref (ad 1), .ref (ad 0)]) ⟨hx, hb, hml, hown, hts⟩ (c_X4_init l D cA sh ad M _ 1 2 3 (by rw [eS]; rfl) (by rw [eS]; rfl) (by rw [eS]; rfl) (by decide) hC) ⟨va_cnB 0 hts gX9_init_X4_init_n9 rfl rfl rfl (hN.1 (RX9, 9, yX4_init, RX9) (List.mem_of_getElem? (i := 0) rfl)) (hts (.initialized RX4) (List.mem_of_getElem? (i := 6) rfl)) ⟨by decide, by decide, by decide +kernel⟩ ⟨Nat.le_of_ble_eq_true rfl, Nat.le_of_ble_eq_true rfl⟩, rfl, (hts (.instanceMethod yX4_init) (List.mem_of_getElem? (i := 42) rfl))⟩ (cpreS hK hW hN) rfl rfl hl.1 rfl (lv_room (Nat.le_of_ble_eq_true rfl)) dX9_init_9 ⟨Nat.le_of_ble_eq_true rfl, Nat.le_of_ble_eq_true rfl⟩) hA hW (fun sh ad M9' H locs esh hG1 hC p9' hA hW => ?_)
  rw [← (hG1.1 0 (by rw [eS]; exact ne_none rfl)).2] at hl
  rw [← (hG1.1 1 (by rw [eS]; exact ne_none rfl)).2]
  rw [← (hG1.1 0 (by rw [eS]; exact ne_none rfl)).2]
  have hG := hG.trans hG1
  have eS : sh = shXn 4 := by rw [esh, eS]; exact shX_a
  refine wpfR hx hb ff10 hin hA hW (show sh 0 = some (.inl (9, [2, 2, 2, 2, 2, 2, 2, 2, 2, 2, 0, 0, 0, 0, 0])) by rw [eS]; rfl) rfl rfl rfl dX9_init_12 (fun M12' H locs eM12 hW => ?_)
  have hC : CZ sh M12' := by rw [eM12]; exact hC.R (ne_none (show sh 0 = some (.inl (9, [2, 2, 2, 2, 2, 2, 2, 2, 2, 2, 0, 0, 0, 0, 0])) by rw [eS]; rfl)) (ne_none (show sh 1 = some (.inl (4, [5, 6])) by rw [eS]; rfl))
  refine lv_aload_n hx hb dX9_init_15 rfl (lv_at hl 0 rfl) ?_
  refine lv_bipush (v := 6) hx hb dX9_init_16 (by decide) ?_
  refine wnewAQ (q := 4) (N := 6) (n := 6) (t := 5) (C := RX7) hx hb hown (hts (.classLink RX9 16 RX7) (List.mem_of_getElem? (i := 8) rfl)) (hN.2 RX7 (by decide)) (by decide) hK rfl hC (by rw [eS]; rfl) hA hW rfl (by decide) ⟨Nat.le_of_ble_eq_true rfl, Nat.le_of_ble_eq_true rfl⟩ dX9_init_18 (fun sh ad H esh hk hge hC hA hW => ?_)
  rw [← (hk 0 (by omega))] at hl
  rw [← (hk 0 (by omega))]
  have hG := hG.new (by rw [eS]; rfl) esh hk hge
  have eS : sh = shXn 5 := by rw [esh, eS]; exact shX_1 (by decide) rfl
  refine wpfR hx hb ff18 hin hA hW (show sh 0 = some (.inl (9, [2, 2, 2, 2, 2, 2, 2, 2, 2, 2, 0, 0, 0, 0, 0])) by rw [eS]; rfl) rfl rfl rfl dX9_init_21 (fun M21' H locs eM21 hW => ?_)
  have hC : CZ sh M21' := by rw [eM21]; exact hC.R (ne_none (show sh 0 = some (.inl (9, [2, 2, 2, 2, 2, 2, 2, 2, 2, 2, 0, 0, 0, 0, 0])) by rw [eS]; rfl)) (ne_none (show sh 4 = some (.inr (5, 6)) by rw [eS]; rfl))
  refine lv_aload_n hx hb dX9_init_24 rfl (lv_at hl 0 rfl) ?_
  refine lv_iconst (v := 4) hx hb dX9_init_25 (by decide) ?_
  refine wnewAQ (q := 5) (N := 4) (n := 4) (t := 4) (C := RX6) hx hb hown (hts (.classLink RX9 22 RX6) (List.mem_of_getElem? (i := 10) rfl)) (hN.2 RX6 (by decide)) (by decide) hK rfl hC (by rw [eS]; rfl) hA hW rfl (by decide) ⟨Nat.le_of_ble_eq_true rfl, Nat.le_of_ble_eq_true rfl⟩ dX9_init_26 (fun sh ad H esh hk hge hC hA hW => ?_)
  rw [← (hk 0 (by omega))] at hl
  rw [← (hk 0 (by omega))]
  have hG := hG.new (by rw [eS]; rfl) esh hk hge
  have eS : sh = shXn 6 := by rw [esh, eS]; exact shX_1 (by decide) rfl
  refine wpfR hx hb ff24 hin hA hW (show sh 0 = some (.inl (9, [2, 2, 2, 2, 2, 2, 2, 2, 2, 2, 0, 0, 0, 0, 0])) by rw [eS]; rfl) rfl rfl rfl dX9_init_29 (fun M29' H locs eM29 hW => ?_)
  have hC : CZ sh M29' := by rw [eM29]; exact hC.R (ne_none (show sh 0 = some (.inl (9, [2, 2, 2, 2, 2, 2, 2, 2, 2, 2, 0, 0, 0, 0, 0])) by rw [eS]; rfl)) (ne_none (show sh 5 = some (.inr (4, 4)) by rw [eS]; rfl))
  refine lv_aload_n hx hb dX9_init_32 rfl (lv_at hl 0 rfl) ?_
  refine wnewZ (q := 6) (ci := 8) (C := RX8) (T := TX8) (N := 2) (ks := [2, 2]) hx hb hts (fun _ h => List.mem_cons_of_mem _ (List.mem_append_left _ (List.mem_append_left _ (List.mem_append_left _ (List.mem_append_left _ (List.mem_append_left _ (List.mem_append_left _ (List.mem_append_right _ (h))))))))) tyX8 tyX8_ok hown (hts (.classLink RX9 28 RX8) (List.mem_of_getElem? (i := 12) rfl)) (hts (.instantiable RX8 2) (List.mem_of_getElem? (i := 13) rfl)) (hts (.initialized RX8) (List.mem_of_getElem? (i := 14) rfl)) hK rfl hC (by rw [eS]; rfl) hA hW (by decide) (by decide) ⟨Nat.le_of_ble_eq_true rfl, Nat.le_of_ble_eq_true rfl⟩ dX9_init_33 (fun sh ad H esh hk hge hC hA hW => ?_)
  rw [← (hk 0 (by omega))] at hl
  rw [← (hk 0 (by omega))]
  have hG := hG.new (by rw [eS]; rfl) esh hk hge
  have eS : sh = shU (shXn 6) 6 (.inl (8, [2, 2])) := by rw [esh, eS]
  refine lv_dup hx hb dX9_init_36 rfl ?_
  refine wc_cv (va_runIN (As := []) (rest := [.ref (ad 6), .ref (ad 0)]) ⟨hx, hb, hml, hown, hts⟩ (c_X8_init l D cA sh ad M29' _ 6 7 8 (by rw [eS]; rfl) (by rw [eS]; rfl) (by rw [eS]; rfl) (by decide) hC) ⟨va_cnB 0 hts gX9_init_X8_init_n30 rfl rfl rfl (hN.1 (RX9, 30, yX8_init, RX9) (List.mem_of_getElem? (i := 1) rfl)) (hts (.initialized RX8) (List.mem_of_getElem? (i := 14) rfl)) ⟨by decide, by decide, by decide +kernel⟩ ⟨Nat.le_of_ble_eq_true rfl, Nat.le_of_ble_eq_true rfl⟩, rfl, (hts (.instanceMethod yX8_init) (List.mem_of_getElem? (i := 47) rfl))⟩ (cpreS hK hW hN) rfl rfl hl.1 rfl (lv_room (Nat.le_of_ble_eq_true rfl)) dX9_init_37 ⟨Nat.le_of_ble_eq_true rfl, Nat.le_of_ble_eq_true rfl⟩) hA hW (fun sh ad M37' H locs esh hG1 hC p37' hA hW => ?_)
  rw [← (hG1.1 0 (by rw [eS]; exact ne_none rfl)).2] at hl
  rw [← (hG1.1 6 (by rw [eS]; exact ne_none rfl)).2]
  rw [← (hG1.1 0 (by rw [eS]; exact ne_none rfl)).2]
  have hG := hG.trans hG1
  have eS : sh = shXn 9 := by rw [esh, eS]; exact shX_b
  refine wpfR hx hb ff31 hin hA hW (show sh 0 = some (.inl (9, [2, 2, 2, 2, 2, 2, 2, 2, 2, 2, 0, 0, 0, 0, 0])) by rw [eS]; rfl) rfl rfl rfl dX9_init_40 (fun M40' H locs eM40 hW => ?_)
  have hC : CZ sh M40' := by rw [eM40]; exact hC.R (ne_none (show sh 0 = some (.inl (9, [2, 2, 2, 2, 2, 2, 2, 2, 2, 2, 0, 0, 0, 0, 0])) by rw [eS]; rfl)) (ne_none (show sh 6 = some (.inl (8, [10, 11])) by rw [eS]; rfl))
  refine lv_aload_n hx hb dX9_init_43 rfl (lv_at hl 0 rfl) ?_
  refine wnewZ (q := 9) (ci := 3) (C := RX3) (T := TX3) (N := 3) (ks := [2, 0, 0]) hx hb hts (fun _ h => List.mem_cons_of_mem _ (List.mem_append_left _ (List.mem_append_left _ (List.mem_append_left _ (List.mem_append_left _ (List.mem_append_left _ (List.mem_append_right _ (h)))))))) tyX3 tyX3_ok hown (hts (.classLink RX9 35 RX3) (List.mem_of_getElem? (i := 16) rfl)) (hts (.instantiable RX3 3) (List.mem_of_getElem? (i := 17) rfl)) (hts (.initialized RX3) (List.mem_of_getElem? (i := 18) rfl)) hK rfl hC (by rw [eS]; rfl) hA hW (by decide) (by decide) ⟨Nat.le_of_ble_eq_true rfl, Nat.le_of_ble_eq_true rfl⟩ dX9_init_44 (fun sh ad H esh hk hge hC hA hW => ?_)
  rw [← (hk 0 (by omega))] at hl
  rw [← (hk 0 (by omega))]
  have hG := hG.new (by rw [eS]; rfl) esh hk hge
  have eS : sh = shU (shXn 9) 9 (.inl (3, [2, 0, 0])) := by rw [esh, eS]
  refine lv_dup hx hb dX9_init_47 rfl ?_
  refine wc_cv (va_runIN (As := []) (rest := [.ref (ad 9), .ref (ad 0)]) ⟨hx, hb, hml, hown, hts⟩ (c_X3_init l D cA sh ad M40' _ 9 10 (by rw [eS]; rfl) (by rw [eS]; rfl) hC) ⟨va_cnB 0 hts gX9_init_X3_init_n37 rfl rfl rfl (hN.1 (RX9, 37, yX3_init, RX9) (List.mem_of_getElem? (i := 2) rfl)) (hts (.initialized RX3) (List.mem_of_getElem? (i := 18) rfl)) ⟨by decide, by decide, by decide +kernel⟩ ⟨Nat.le_of_ble_eq_true rfl, Nat.le_of_ble_eq_true rfl⟩, rfl, (hts (.instanceMethod yX3_init) (List.mem_of_getElem? (i := 52) rfl))⟩ (cpreS hK hW hN) rfl rfl hl.1 rfl (lv_room (Nat.le_of_ble_eq_true rfl)) dX9_init_48 ⟨Nat.le_of_ble_eq_true rfl, Nat.le_of_ble_eq_true rfl⟩) hA hW (fun sh ad M48' H locs esh hG1 hC p48' hA hW => ?_)
  rw [← (hG1.1 0 (by rw [eS]; exact ne_none rfl)).2] at hl
  rw [← (hG1.1 9 (by rw [eS]; exact ne_none rfl)).2]
  rw [← (hG1.1 0 (by rw [eS]; exact ne_none rfl)).2]
  have hG := hG.trans hG1
  have eS : sh = shXn 11 := by rw [esh, eS]; exact shX_c
  refine wpfR hx hb ff38 hin hA hW (show sh 0 = some (.inl (9, [2, 2, 2, 2, 2, 2, 2, 2, 2, 2, 0, 0, 0, 0, 0])) by rw [eS]; rfl) rfl rfl rfl dX9_init_51 (fun M51' H locs eM51 hW => ?_)
  have hC : CZ sh M51' := by rw [eM51]; exact hC.R (ne_none (show sh 0 = some (.inl (9, [2, 2, 2, 2, 2, 2, 2, 2, 2, 2, 0, 0, 0, 0, 0])) by rw [eS]; rfl)) (ne_none (show sh 9 = some (.inl (3, [13, 0, 0])) by rw [eS]; rfl))
  refine lv_aload_n hx hb dX9_init_54 rfl (lv_at hl 0 rfl) ?_
  refine lv_bipush (v := 40) hx hb dX9_init_55 (by decide) ?_
  refine wnewAQ (q := 11) (N := 40) (n := 40) (t := 3) (C := RX2) hx hb hown (hts (.classLink RX9 42 RX2) (List.mem_of_getElem? (i := 20) rfl)) (hN.2 RX2 (by decide)) (by decide) hK rfl hC (by rw [eS]; rfl) hA hW rfl (by decide) ⟨Nat.le_of_ble_eq_true rfl, Nat.le_of_ble_eq_true rfl⟩ dX9_init_57 (fun sh ad H esh hk hge hC hA hW => ?_)
  rw [← (hk 0 (by omega))] at hl
  rw [← (hk 0 (by omega))]
  have hG := hG.new (by rw [eS]; rfl) esh hk hge
  have eS : sh = shXn 12 := by rw [esh, eS]; exact shX_1 (by decide) rfl
  refine wpfR hx hb ff44 hin hA hW (show sh 0 = some (.inl (9, [2, 2, 2, 2, 2, 2, 2, 2, 2, 2, 0, 0, 0, 0, 0])) by rw [eS]; rfl) rfl rfl rfl dX9_init_60 (fun M60' H locs eM60 hW => ?_)
  have hC : CZ sh M60' := by rw [eM60]; exact hC.R (ne_none (show sh 0 = some (.inl (9, [2, 2, 2, 2, 2, 2, 2, 2, 2, 2, 0, 0, 0, 0, 0])) by rw [eS]; rfl)) (ne_none (show sh 11 = some (.inr (3, 40)) by rw [eS]; rfl))
  refine lv_aload_n hx hb dX9_init_63 rfl (lv_at hl 0 rfl) ?_
  refine wnewZ (q := 12) (ci := 0) (C := RX0) (T := TX0) (N := 4) (ks := [2, 2, 2, 0]) hx hb hts (fun _ h => List.mem_cons_of_mem _ (List.mem_append_left _ (List.mem_append_left _ (List.mem_append_left _ (List.mem_append_left _ (List.mem_append_right _ (h))))))) tyX0 tyX0_ok hown (hts (.classLink RX9 48 RX0) (List.mem_of_getElem? (i := 22) rfl)) (hts (.instantiable RX0 4) (List.mem_of_getElem? (i := 23) rfl)) (hts (.initialized RX0) (List.mem_of_getElem? (i := 24) rfl)) hK rfl hC (by rw [eS]; rfl) hA hW (by decide) (by decide) ⟨Nat.le_of_ble_eq_true rfl, Nat.le_of_ble_eq_true rfl⟩ dX9_init_64 (fun sh ad H esh hk hge hC hA hW => ?_)
  rw [← (hk 0 (by omega))] at hl
  rw [← (hk 0 (by omega))]
  have hG := hG.new (by rw [eS]; rfl) esh hk hge
  have eS : sh = shU (shXn 12) 12 (.inl (0, [2, 2, 2, 0])) := by rw [esh, eS]
  refine lv_dup hx hb dX9_init_67 rfl ?_
  refine wc_cv (va_runIN (As := []) (rest := [.ref (ad 12), .ref (ad 0)]) ⟨hx, hb, hml, hown, hts⟩ (c_X0_init l D cA sh ad M60' _ 12 13 14 15 (by rw [eS]; rfl) (by rw [eS]; rfl) (by rw [eS]; rfl) (by rw [eS]; rfl) (by decide) (by decide) (by decide) hC) ⟨va_cnB 0 hts gX9_init_X0_init_n50 rfl rfl rfl (hN.1 (RX9, 50, yX0_init, RX9) (List.mem_of_getElem? (i := 3) rfl)) (hts (.initialized RX0) (List.mem_of_getElem? (i := 24) rfl)) ⟨by decide, by decide, by decide +kernel⟩ ⟨Nat.le_of_ble_eq_true rfl, Nat.le_of_ble_eq_true rfl⟩, rfl, (hts (.instanceMethod yX0_init) (List.mem_of_getElem? (i := 62) rfl))⟩ (cpreS hK hW hN) rfl rfl hl.1 rfl (lv_room (Nat.le_of_ble_eq_true rfl)) dX9_init_68 ⟨Nat.le_of_ble_eq_true rfl, Nat.le_of_ble_eq_true rfl⟩) hA hW (fun sh ad M68' H locs esh hG1 hC p68' hA hW => ?_)
  rw [← (hG1.1 0 (by rw [eS]; exact ne_none rfl)).2] at hl
  rw [← (hG1.1 12 (by rw [eS]; exact ne_none rfl)).2]
  rw [← (hG1.1 0 (by rw [eS]; exact ne_none rfl)).2]
  have hG := hG.trans hG1
  have eS : sh = shXn 16 := by rw [esh, eS]; exact shX_d
  refine wpfR hx hb ff51 hin hA hW (show sh 0 = some (.inl (9, [2, 2, 2, 2, 2, 2, 2, 2, 2, 2, 0, 0, 0, 0, 0])) by rw [eS]; rfl) rfl rfl rfl dX9_init_71 (fun M71' H locs eM71 hW => ?_)
  have hC : CZ sh M71' := by rw [eM71]; exact hC.R (ne_none (show sh 0 = some (.inl (9, [2, 2, 2, 2, 2, 2, 2, 2, 2, 2, 0, 0, 0, 0, 0])) by rw [eS]; rfl)) (ne_none (show sh 12 = some (.inl (0, [16, 17, 18, 0])) by rw [eS]; rfl))
  refine lv_aload_n hx hb dX9_init_74 rfl (lv_at hl 0 rfl) ?_
  refine wnewZ (q := 16) (ci := 1) (C := RX1) (T := TX1) (N := 4) (ks := [2, 2, 2, 0]) hx hb hts (fun _ h => List.mem_cons_of_mem _ (List.mem_append_left _ (List.mem_append_left _ (List.mem_append_left _ (List.mem_append_right _ (h)))))) tyX1 tyX1_ok hown (hts (.classLink RX9 55 RX1) (List.mem_of_getElem? (i := 26) rfl)) (hts (.instantiable RX1 4) (List.mem_of_getElem? (i := 27) rfl)) (hts (.initialized RX1) (List.mem_of_getElem? (i := 28) rfl)) hK rfl hC (by rw [eS]; rfl) hA hW (by decide) (by decide) ⟨Nat.le_of_ble_eq_true rfl, Nat.le_of_ble_eq_true rfl⟩ dX9_init_75 (fun sh ad H esh hk hge hC hA hW => ?_)
  rw [← (hk 0 (by omega))] at hl
  rw [← (hk 0 (by omega))]
  have hG := hG.new (by rw [eS]; rfl) esh hk hge
  have eS : sh = shU (shXn 16) 16 (.inl (1, [2, 2, 2, 0])) := by rw [esh, eS]
  refine lv_dup hx hb dX9_init_78 rfl ?_
  refine wc_cv (va_runIN (As := []) (rest := [.ref (ad 16), .ref (ad 0)]) ⟨hx, hb, hml, hown, hts⟩ (c_X1_init l D cA sh ad M71' _ 16 17 18 19 (by rw [eS]; rfl) (by rw [eS]; rfl) (by rw [eS]; rfl) (by rw [eS]; rfl) (by decide) (by decide) (by decide) hC) ⟨va_cnB 0 hts gX9_init_X1_init_n57 rfl rfl rfl (hN.1 (RX9, 57, yX1_init, RX9) (List.mem_of_getElem? (i := 4) rfl)) (hts (.initialized RX1) (List.mem_of_getElem? (i := 28) rfl)) ⟨by decide, by decide, by decide +kernel⟩ ⟨Nat.le_of_ble_eq_true rfl, Nat.le_of_ble_eq_true rfl⟩, rfl, (hts (.instanceMethod yX1_init) (List.mem_of_getElem? (i := 69) rfl))⟩ (cpreS hK hW hN) rfl rfl hl.1 rfl (lv_room (Nat.le_of_ble_eq_true rfl)) dX9_init_79 ⟨Nat.le_of_ble_eq_true rfl, Nat.le_of_ble_eq_true rfl⟩) hA hW (fun sh ad M79' H locs esh hG1 hC p79' hA hW => ?_)
  rw [← (hG1.1 0 (by rw [eS]; exact ne_none rfl)).2] at hl
  rw [← (hG1.1 16 (by rw [eS]; exact ne_none rfl)).2]
  rw [← (hG1.1 0 (by rw [eS]; exact ne_none rfl)).2]
  have hG := hG.trans hG1
  have eS : sh = shXn 20 := by rw [esh, eS]; exact shX_e
  refine wpfR hx hb ff58 hin hA hW (show sh 0 = some (.inl (9, [2, 2, 2, 2, 2, 2, 2, 2, 2, 2, 0, 0, 0, 0, 0])) by rw [eS]; rfl) rfl rfl rfl dX9_init_82 (fun M82' H locs eM82 hW => ?_)
  have hC : CZ sh M82' := by rw [eM82]; exact hC.R (ne_none (show sh 0 = some (.inl (9, [2, 2, 2, 2, 2, 2, 2, 2, 2, 2, 0, 0, 0, 0, 0])) by rw [eS]; rfl)) (ne_none (show sh 16 = some (.inl (1, [20, 21, 22, 0])) by rw [eS]; rfl))
  refine lv_aload_n hx hb dX9_init_85 rfl (lv_at hl 0 rfl) ?_
  refine lv_bipush (v := 40) hx hb dX9_init_86 (by decide) ?_
  refine wnewAQ (q := 20) (N := 40) (n := 40) (t := 3) (C := RX2) hx hb hown (hts (.classLink RX9 42 RX2) (List.mem_of_getElem? (i := 20) rfl)) (hN.2 RX2 (by decide)) (by decide) hK rfl hC (by rw [eS]; rfl) hA hW rfl (by decide) ⟨Nat.le_of_ble_eq_true rfl, Nat.le_of_ble_eq_true rfl⟩ dX9_init_88 (fun sh ad H esh hk hge hC hA hW => ?_)
  rw [← (hk 0 (by omega))] at hl
  rw [← (hk 0 (by omega))]
  have hG := hG.new (by rw [eS]; rfl) esh hk hge
  have eS : sh = shXn 21 := by rw [esh, eS]; exact shX_1 (by decide) rfl
  refine wpfR hx hb ff62 hin hA hW (show sh 0 = some (.inl (9, [2, 2, 2, 2, 2, 2, 2, 2, 2, 2, 0, 0, 0, 0, 0])) by rw [eS]; rfl) rfl rfl rfl dX9_init_91 (fun M91' H locs eM91 hW => ?_)
  have hC : CZ sh M91' := by rw [eM91]; exact hC.R (ne_none (show sh 0 = some (.inl (9, [2, 2, 2, 2, 2, 2, 2, 2, 2, 2, 0, 0, 0, 0, 0])) by rw [eS]; rfl)) (ne_none (show sh 20 = some (.inr (3, 40)) by rw [eS]; rfl))
  refine lv_aload_n hx hb dX9_init_94 rfl (lv_at hl 0 rfl) ?_
  refine lv_bipush (v := 10) hx hb dX9_init_95 (by decide) ?_
  refine wnewAI (q := 21) (N := 10) (n := 10) hx hb (hts (.arrayClass .int) (List.mem_of_getElem? (i := 31) rfl)) hK hC (by rw [eS]; rfl) hA hW rfl (by decide) ⟨Nat.le_of_ble_eq_true rfl, Nat.le_of_ble_eq_true rfl⟩ dX9_init_97 (fun sh ad H esh hk hge hC hA hW => ?_)
  rw [← (hk 0 (by omega))] at hl
  rw [← (hk 0 (by omega))]
  have hG := hG.new (by rw [eS]; rfl) esh hk hge
  have eS : sh = shXn 22 := by rw [esh, eS]; exact shX_1 (by decide) rfl
  refine wpfR hx hb ff65 hin hA hW (show sh 0 = some (.inl (9, [2, 2, 2, 2, 2, 2, 2, 2, 2, 2, 0, 0, 0, 0, 0])) by rw [eS]; rfl) rfl rfl rfl dX9_init_99 (fun M99' H locs eM99 hW => ?_)
  have hC : CZ sh M99' := by rw [eM99]; exact hC.R (ne_none (show sh 0 = some (.inl (9, [2, 2, 2, 2, 2, 2, 2, 2, 2, 2, 0, 0, 0, 0, 0])) by rw [eS]; rfl)) (ne_none (show sh 21 = some (.inr (0, 10)) by rw [eS]; rfl))
  refine lv_aload_n hx hb dX9_init_102 rfl (lv_at hl 0 rfl) ?_
  refine lv_iconst (v := 0) hx hb dX9_init_103 (by decide) ?_
  refine wpI hx hb fw69 hA hW (show sh 0 = some (.inl (9, [2, 2, 2, 2, 2, 2, 2, 2, 2, 2, 0, 0, 0, 0, 0])) by rw [eS]; rfl) rfl dX9_init_104 (fun M104' H locs eM104 hW => ?_)
  have hC : CZ sh M104' := by rw [eM104]; exact hC.I (ne_none (show sh 0 = some (.inl (9, [2, 2, 2, 2, 2, 2, 2, 2, 2, 2, 0, 0, 0, 0, 0])) by rw [eS]; rfl))
  refine lv_aload_n hx hb dX9_init_107 rfl (lv_at hl 0 rfl) ?_
  refine lv_iconst (v := 0) hx hb dX9_init_108 (by decide) ?_
  refine wpI hx hb fw73 hA hW (show sh 0 = some (.inl (9, [2, 2, 2, 2, 2, 2, 2, 2, 2, 2, 0, 0, 0, 0, 0])) by rw [eS]; rfl) rfl dX9_init_109 (fun M109' H locs eM109 hW => ?_)
  have hC : CZ sh M109' := by rw [eM109]; exact hC.I (ne_none (show sh 0 = some (.inl (9, [2, 2, 2, 2, 2, 2, 2, 2, 2, 2, 0, 0, 0, 0, 0])) by rw [eS]; rfl))
  refine lv_aload_n hx hb dX9_init_112 rfl (lv_at hl 0 rfl) ?_
  refine lv_iconst (v := 0) hx hb dX9_init_113 (by decide) ?_
  refine wpI hx hb fw76 hA hW (show sh 0 = some (.inl (9, [2, 2, 2, 2, 2, 2, 2, 2, 2, 2, 0, 0, 0, 0, 0])) by rw [eS]; rfl) rfl dX9_init_114 (fun M114' H locs eM114 hW => ?_)
  have hC : CZ sh M114' := by rw [eM114]; exact hC.I (ne_none (show sh 0 = some (.inl (9, [2, 2, 2, 2, 2, 2, 2, 2, 2, 2, 0, 0, 0, 0, 0])) by rw [eS]; rfl))
  refine lv_aload_n hx hb dX9_init_117 rfl (lv_at hl 0 rfl) ?_
  refine lv_bipush (v := 20) hx hb dX9_init_118 (by decide) ?_
  refine wpI hx hb fw79 hA hW (show sh 0 = some (.inl (9, [2, 2, 2, 2, 2, 2, 2, 2, 2, 2, 0, 0, 0, 0, 0])) by rw [eS]; rfl) rfl dX9_init_120 (fun M120' H locs eM120 hW => ?_)
  have hC : CZ sh M120' := by rw [eM120]; exact hC.I (ne_none (show sh 0 = some (.inl (9, [2, 2, 2, 2, 2, 2, 2, 2, 2, 2, 0, 0, 0, 0, 0])) by rw [eS]; rfl))
  refine lv_aload_n hx hb dX9_init_123 rfl (lv_at hl 0 rfl) ?_
  refine lv_iconst (v := 0) hx hb dX9_init_124 (by decide) ?_
  refine wpZ hx hb fw82 hA hW (show sh 0 = some (.inl (9, [2, 2, 2, 2, 2, 2, 2, 2, 2, 2, 0, 0, 0, 0, 0])) by rw [eS]; rfl) rfl ⟨rfl, rfl⟩ dX9_init_125 (fun M125' H locs eM125 hW => ?_)
  have hC : CZ sh M125' := by rw [eM125]; exact hC.I (ne_none (show sh 0 = some (.inl (9, [2, 2, 2, 2, 2, 2, 2, 2, 2, 2, 0, 0, 0, 0, 0])) by rw [eS]; rfl))
  have hI : ∀ p k, ¬ (p = 0 ∧ k = 13) → ¬ (p = 16 ∧ k = 3) → gI M125' p k = 0 := fun p k h1 h2 => by
    rw [eM125, eM120, eM114, eM109, eM104, eM99, eM91, eM82, p79', eM71, p68', eM60, eM51, p48', eM40, p37', eM29, eM21, eM12, p9', hM0]
    simp only [gI_sI, gI_sR]
    repeat' split
    all_goals first | rfl | (exfalso; omega)
  have h13 : gI M125' 0 13 = 20 := by rw [eM125, eM120, eM114, eM109, eM104, eM99, eM91, eM82, p79', eM71, p68', eM60, eM51, p48', eM40, p37', eM29, eM21, eM12, p9', hM0]; rfl
  have h16 : gI M125' 16 3 = 2 := by rw [eM125, eM120, eM114, eM109, eM104, eM99, eM91, eM82, p79', eM71, p68', eM60, eM51, p48', eM40, p37', eM29, eM21, eM12, p9', hM0]; rfl
  have hR11 : ∀ k, gR M125' 11 k = none := fun k => by
    rw [eM125, eM120, eM114, eM109, eM104, eM99, eM91, eM82, p79', eM71, p68', eM60, eM51, p48', eM40, p37', eM29, eM21, eM12, p9', hM0]
    simp only [gR_sI, gR_sR]
    repeat' split
    all_goals first | rfl | (exfalso; omega)
  have r0 : gR M125' 0 0 = some 1 := by rw [eM125, eM120, eM114, eM109, eM104, eM99, eM91, eM82, p79', eM71, p68', eM60, eM51, p48', eM40, p37', eM29, eM21, eM12, p9', hM0]; rfl
  have r1 : gR M125' 0 1 = some 4 := by rw [eM125, eM120, eM114, eM109, eM104, eM99, eM91, eM82, p79', eM71, p68', eM60, eM51, p48', eM40, p37', eM29, eM21, eM12, p9', hM0]; rfl
  have r2 : gR M125' 0 2 = some 5 := by rw [eM125, eM120, eM114, eM109, eM104, eM99, eM91, eM82, p79', eM71, p68', eM60, eM51, p48', eM40, p37', eM29, eM21, eM12, p9', hM0]; rfl
  have r3 : gR M125' 0 3 = some 6 := by rw [eM125, eM120, eM114, eM109, eM104, eM99, eM91, eM82, p79', eM71, p68', eM60, eM51, p48', eM40, p37', eM29, eM21, eM12, p9', hM0]; rfl
  have r4 : gR M125' 0 4 = some 9 := by rw [eM125, eM120, eM114, eM109, eM104, eM99, eM91, eM82, p79', eM71, p68', eM60, eM51, p48', eM40, p37', eM29, eM21, eM12, p9', hM0]; rfl
  have r5 : gR M125' 0 5 = some 11 := by rw [eM125, eM120, eM114, eM109, eM104, eM99, eM91, eM82, p79', eM71, p68', eM60, eM51, p48', eM40, p37', eM29, eM21, eM12, p9', hM0]; rfl
  have r6 : gR M125' 0 6 = some 12 := by rw [eM125, eM120, eM114, eM109, eM104, eM99, eM91, eM82, p79', eM71, p68', eM60, eM51, p48', eM40, p37', eM29, eM21, eM12, p9', hM0]; rfl
  have r7 : gR M125' 0 7 = some 16 := by rw [eM125, eM120, eM114, eM109, eM104, eM99, eM91, eM82, p79', eM71, p68', eM60, eM51, p48', eM40, p37', eM29, eM21, eM12, p9', hM0]; rfl
  have r8 : gR M125' 0 8 = some 20 := by rw [eM125, eM120, eM114, eM109, eM104, eM99, eM91, eM82, p79', eM71, p68', eM60, eM51, p48', eM40, p37', eM29, eM21, eM12, p9', hM0]; rfl
  have r9 : gR M125' 0 9 = some 21 := by rw [eM125, eM120, eM114, eM109, eM104, eM99, eM91, eM82, p79', eM71, p68', eM60, eM51, p48', eM40, p37', eM29, eM21, eM12, p9', hM0]; rfl
  have P0 : sh 0 = some (.inl (9, [2, 2, 2, 2, 2, 2, 2, 2, 2, 2, 0, 0, 0, 0, 0])) := by rw [eS]; rfl
  have hW := hW.upd (y := .inl (9, [1 + 3, 4 + 3, 5 + 3, 6 + 3, 9 + 3, 11 + 3, 12 + 3, 16 + 3, 20 + 3, 21 + 3, 0, 0, 0, 0, 0])) (ne_none P0) (fun H hM => (hM.1 0 _ P0).slots (fun k => match k with | 0 => Or.inr ⟨rfl, _, r0, rfl⟩ | 1 => Or.inr ⟨rfl, _, r1, rfl⟩ | 2 => Or.inr ⟨rfl, _, r2, rfl⟩ | 3 => Or.inr ⟨rfl, _, r3, rfl⟩ | 4 => Or.inr ⟨rfl, _, r4, rfl⟩ | 5 => Or.inr ⟨rfl, _, r5, rfl⟩ | 6 => Or.inr ⟨rfl, _, r6, rfl⟩ | 7 => Or.inr ⟨rfl, _, r7, rfl⟩ | 8 => Or.inr ⟨rfl, _, r8, rfl⟩ | 9 => Or.inr ⟨rfl, _, r9, rfl⟩ | k + 10 => Or.inl rfl))
  have hC := hC.sh (q := 0) (x := .inl (9, [1 + 3, 4 + 3, 5 + 3, 6 + 3, 9 + 3, 11 + 3, 12 + 3, 16 + 3, 20 + 3, 21 + 3, 0, 0, 0, 0, 0])) (fun t ht => by
      obtain ⟨k, hk⟩ := ht
      match k with
      | 0 => exact (show 1 = t from Nat.add_right_cancel hk) ▸ (by rw [eS]; exact fun z => by cases z)
      | 1 => exact (show 4 = t from Nat.add_right_cancel hk) ▸ (by rw [eS]; exact fun z => by cases z)
      | 2 => exact (show 5 = t from Nat.add_right_cancel hk) ▸ (by rw [eS]; exact fun z => by cases z)
      | 3 => exact (show 6 = t from Nat.add_right_cancel hk) ▸ (by rw [eS]; exact fun z => by cases z)
      | 4 => exact (show 9 = t from Nat.add_right_cancel hk) ▸ (by rw [eS]; exact fun z => by cases z)
      | 5 => exact (show 11 = t from Nat.add_right_cancel hk) ▸ (by rw [eS]; exact fun z => by cases z)
      | 6 => exact (show 12 = t from Nat.add_right_cancel hk) ▸ (by rw [eS]; exact fun z => by cases z)
      | 7 => exact (show 16 = t from Nat.add_right_cancel hk) ▸ (by rw [eS]; exact fun z => by cases z)
      | 8 => exact (show 20 = t from Nat.add_right_cancel hk) ▸ (by rw [eS]; exact fun z => by cases z)
      | 9 => exact (show 21 = t from Nat.add_right_cancel hk) ▸ (by rw [eS]; exact fun z => by cases z)
      | 10 => exact absurd hk (by simp)
      | 11 => exact absurd hk (by simp)
      | 12 => exact absurd hk (by simp)
      | 13 => exact absurd hk (by simp)
      | 14 => exact absurd hk (by simp)
      | k + 15 => exact absurd hk (by simp))
  have hG := hG.upd (shU_none (x := .inl (9, [1 + 3, 4 + 3, 5 + 3, 6 + 3, 9 + 3, 11 + 3, 12 + 3, 16 + 3, 20 + 3, 21 + 3, 0, 0, 0, 0, 0])) (ne_none P0))
  have hA := hA.upd (y := .inl (9, [1 + 3, 4 + 3, 5 + 3, 6 + 3, 9 + 3, 11 + 3, 12 + 3, 16 + 3, 20 + 3, 21 + 3, 0, 0, 0, 0, 0])) (ne_none P0)
  obtain ⟨sh, eS2⟩ : ∃ z, z = shU sh 0 (.inl (9, [1 + 3, 4 + 3, 5 + 3, 6 + 3, 9 + 3, 11 + 3, 12 + 3, 16 + 3, 20 + 3, 21 + 3, 0, 0, 0, 0, 0])) := ⟨_, rfl⟩
  rw [← eS2] at hW hC hG hA
  have eS : sh = shS 0 0 := by rw [eS2, eS]; exact shX_f
  refine lv_iconst (v := 0) hx hb dX9_init_128 (by decide) ?_
  refine lv_istore_n (lv' := [(1, .int 0), (0, .ref (ad 0))]) hx hb dX9_init_129 rfl hl (by decide) rfl (fun ls hl => ?_)
  have L130 : ∀ (fu : Nat) (i : Nat) (sh : Nat → Option Sh) (ad : Nat → Nat) (xr : Int32) (M1' : MS) (H : Heap) (locs : List Loc), 6 - i < fu → (i ≤ 6) → (xr = nI i) → (sh = shS i 0) → (∀ p k, ¬ (p = 0 ∧ k = 13) → ¬ (p = 16 ∧ k = 3) → gI M1' p k = 0) → (gI M1' 0 13 = 20) → (gI M1' 16 3 = 2) → (∀ k, gR M1' 11 k = none) → (∀ r, r < i → gR M1' 4 r = some (30 + r)) → PA sh ad A s.heap → GR sh0 ad0 s.heap.size sh ad → CZ sh M1' → WS D cA sh ad A s.heap M1' H locs → ∀ ls, lv_has ls 2 [(1, .int xr), (0, .ref (ad 0))] → W p l e (headSpec wsX9_init { frames := 4, cells := 39, slots := 703, locals := 85 }).room s m ar below meth cd0 H locs (21 + i) (627 + 2 * i) (MQ below Q9 ar s 39 703 A) (F0 m 130 ls []) := by
    intro fu
    induction fu with
    | zero =>
      intro i sh ad xr M1' H locs hn hi ei eS hI h13 h16 hR11 hg4 hA hG hC hW ls hl
      exact absurd hn (Nat.not_lt_zero _)
    | succ fu ih130 =>
      intro i sh ad xr M1' H locs hn hi ei eS hI h13 h16 hR11 hg4 hA hG hC hW ls hl
      refine lv_iload_n hx hb dX9_init_130 rfl (lv_at hl 0 rfl) ?_
      refine lv_bipush (v := 6) hx hb dX9_init_131 (by decide) ?_
      refine lv_icmp_ge (tgt := 155) hx hb dX9_init_133 (by decide) (fun c133' => ?_) (fun c133' => ?_)
      · have k133' : 6 ≤ i := kc_ge ei (nlit 6) (by omega) (by omega) c133'
        have hi6 : i = 6 := by omega
        subst hi6
        refine lv_iconst (v := 0) hx hb dX9_init_155 (by decide) ?_
        refine lv_istore_n (lv' := [(1, .int 0), (0, .ref (ad 0))]) hx hb dX9_init_156 rfl hl (by decide) rfl (fun ls hl => ?_)
        have L157 : ∀ (fu : Nat) (i : Nat) (sh : Nat → Option Sh) (ad : Nat → Nat) (xr : Int32) (M2' : MS) (H : Heap) (locs : List Loc), 4 - i < fu → (i ≤ 4) → (xr = nI i) → (sh = shS 6 i) → (∀ p k, ¬ (p = 0 ∧ k = 13) → ¬ (p = 16 ∧ k = 3) → ¬ (40 ≤ p ∧ p < 52) → gI M2' p k = 0) → (gI M2' 0 13 = 20) → (gI M2' 16 3 = 2) → (∀ k, gR M2' 11 k = none) → (∀ r, r < 6 → gR M2' 4 r = some (30 + r)) → (∀ k, k < i → gR M2' 5 k = some (40 + k)) → (∀ k, k < i → gI M2' (40 + k) 2 = 50 ∧ gI M2' (40 + k) 3 = 20 ∧ gI M2' (40 + k) 4 = 0 ∧ gI M2' (40 + k) 5 = nI (liftN 50 20 (flN 50 20)) ∧ gI M2' (40 + k) 6 = nI (flN 50 20) ∧ ∀ y, y < 4 → gI M2' (44 + k) y = nI (cntN 50 20 (flN 50 20) y)) → PA sh ad A s.heap → GR sh0 ad0 s.heap.size sh ad → CZ sh M2' → WS D cA sh ad A s.heap M2' H locs → ∀ ls, lv_has ls 2 [(1, .int xr), (0, .ref (ad 0))] → W p l e (headSpec wsX9_init { frames := 4, cells := 39, slots := 703, locals := 85 }).room s m ar below meth cd0 H locs (27 + 3 * i) (639 + 16 * i) (MQ below Q9 ar s 39 703 A) (F0 m 157 ls []) := by
          intro fu
          induction fu with
          | zero =>
            intro i sh ad xr M2' H locs hn hi ei eS hI h13 h16 hR11 hg4 hg5 hkf hA hG hC hW ls hl
            exact absurd hn (Nat.not_lt_zero _)
          | succ fu ih157 =>
            intro i sh ad xr M2' H locs hn hi ei eS hI h13 h16 hR11 hg4 hg5 hkf hA hG hC hW ls hl
            refine lv_iload_n hx hb dX9_init_157 rfl (lv_at hl 0 rfl) ?_
            refine lv_iconst (v := 4) hx hb dX9_init_158 (by decide) ?_
            refine lv_icmp_ge (tgt := 181) hx hb dX9_init_159 (by decide) (fun c159' => ?_) (fun c159' => ?_)
            · have k159' : 4 ≤ i := kc_ge ei (nlit 4) (by omega) (by omega) c159'
              have hi4 : i = 4 := by omega
              subst hi4
              have P4 : sh 4 = some (.inr (5, 6)) := by rw [eS]; rfl
              have P5 : sh 5 = some (.inr (4, 4)) := by rw [eS]; rfl
              have hW := hW.upd (q := 4) (y := .inr (5 + 2, 6)) (ne_none P4) (fun H hM => (hM.1 4 _ P4).refs (Or.inr ⟨rfl, rfl⟩) hg4)
              have Q5 : shU sh 4 (.inr (5 + 2, 6)) 5 = some (.inr (4, 4)) := by rw [shU_ne (by decide)]; exact P5
              have hW := hW.upd (q := 5) (y := .inr (4 + 2, 4)) (ne_none Q5) (fun H hM => (hM.1 5 _ Q5).refs (Or.inl ⟨rfl, rfl⟩) hg5)
              have hk9 : ∀ t, 30 ≤ t → t < 36 → sh t ≠ none := fun t h1 h2 => by rw [eS, show t = 30 + (t - 30) by omega, shS_rk (by omega)]; exact fun z => by cases z
              have hk8 : ∀ t, 40 ≤ t → t < 44 → sh t ≠ none := fun t h1 h2 => by rw [eS]; rcases (show t = 40 ∨ t = 41 ∨ t = 42 ∨ t = 43 by omega) with z | z | z | z <;> subst z <;> exact fun z => by cases z
              have hC := hC.sh (q := 4) (x := .inr (5 + 2, 6)) (fun t ht => by
                  rcases ht with ⟨z, -⟩ | ⟨z, j, hj, e9'⟩
                  · exact absurd z (by decide)
                  · have h6 : j < 6 := hj
                    exact hk9 t (by omega) (by omega))
              have hC := hC.sh (q := 5) (x := .inr (4 + 2, 4)) (fun t ht => by
                  rcases ht with ⟨z, j, hj, e9'⟩ | ⟨z, -⟩
                  · have h4 : j < 4 := hj
                    rw [shU_ne (by omega)]
                    exact hk8 t (by omega) (by omega)
                  · exact absurd z (by decide))
              have hG := (hG.upd (shU_none (x := .inr (5 + 2, 6)) (ne_none P4))).upd (shU_none (x := .inr (4 + 2, 4)) (ne_none Q5))
              have hA := (hA.upd (y := .inr (5 + 2, 6)) (ne_none P4)).upd (y := .inr (4 + 2, 4)) (ne_none Q5)
              obtain ⟨sh, eS2⟩ : ∃ z, z = shU (shU sh 4 (.inr (5 + 2, 6))) 5 (.inr (4 + 2, 4)) := ⟨_, rfl⟩
              rw [← eS2] at hW hC hG hA
              have eS : sh = shF := by rw [eS2, eS]; exact shS_F
              refine lv_iconst (v := 0) hx hb dX9_init_181 (by decide) ?_
              refine lv_istore_n (lv' := [(1, .int 0), (0, .ref (ad 0))]) hx hb dX9_init_182 rfl hl (by decide) rfl (fun ls hl => ?_)
              have L183 : ∀ (fu : Nat) (j : Nat) (xr : Int32) (M3' : MS) (H : Heap) (locs : List Loc), 10 - j < fu → (j ≤ 10) → (xr = nI j) → (oI (fun p _ => p = 21) M2' M3') → (∀ k, k < j → gI M3' 21 k = 1) → CZ sh M3' → WS D cA sh ad A s.heap M3' H locs → ∀ ls, lv_has ls 2 [(1, .int xr), (0, .ref (ad 0))] → W p l e (headSpec wsX9_init { frames := 4, cells := 39, slots := 703, locals := 85 }).room s m ar below meth cd0 H locs (27 + 3 * 4) (639 + 16 * 4) (MQ below Q9 ar s 39 703 A) (F0 m 183 ls []) := by
                intro fu
                induction fu with
                | zero =>
                  intro j xr M3' H locs hn hj ej o3 h21 hC hW ls hl
                  exact absurd hn (Nat.not_lt_zero _)
                | succ fu ih183 =>
                  intro j xr M3' H locs hn hj ej o3 h21 hC hW ls hl
                  refine lv_iload_n hx hb dX9_init_183 rfl (lv_at hl 0 rfl) ?_
                  refine lv_bipush (v := 10) hx hb dX9_init_184 (by decide) ?_
                  refine lv_icmp_ge (tgt := 202) hx hb dX9_init_186 (by decide) (fun c186' => ?_) (fun c186' => ?_)
                  · have k186' : 10 ≤ j := kc_ge ej (nlit 10) (by omega) (by omega) c186'
                    refine W.widen (k := 39) (n := 703) (by omega) (by omega) ?_
                    rw [← hQ9]
                    exact wr_cv hx hb hr hlocks hW dX9_init_202 hG hC eS (xx0 (fun p k h1 h2 h3 h4 => by rw [o3.1 p k h4]; exact hI p k h1 h2 h3) (by rw [o3.1 _ _ (by omega)]; exact h13) (by rw [o3.1 _ _ (by omega)]; exact h16) (fun k => by rw [o3.rg]; exact hR11 k) (fun k hk9 => by
                        obtain ⟨b1, b2, b3, b4, b5, b6⟩ := hkf k hk9
                        refine ⟨?_, ?_, ?_, ?_, ?_, fun y hy => ?_⟩
                        · rw [o3.1 _ _ (by omega)]; exact b1
                        · rw [o3.1 _ _ (by omega)]; exact b2
                        · rw [o3.1 _ _ (by omega)]; exact b3
                        · rw [o3.1 _ _ (by omega)]; exact b4
                        · rw [o3.1 _ _ (by omega)]; exact b5
                        · rw [o3.1 _ _ (by omega)]; exact b6 y hy) (fun k hk9 => h21 k (by omega)))
                  · have k186' : ¬ 10 ≤ j := kc_gen ej (nlit 10) (by omega) (by omega) c186'
                    refine lv_aload_n hx hb dX9_init_189 rfl (lv_at hl 1 rfl) ?_
                    refine wgF (t := 21) hx hb fa65 hW (show sh 0 = some (.inl (9, [1 + 3, 4 + 3, 5 + 3, 6 + 3, 9 + 3, 11 + 3, 12 + 3, 16 + 3, 20 + 3, 21 + 3, 0, 0, 0, 0, 0])) by rw [eS]; rfl) rfl dX9_init_190 ?_
                    refine lv_iload_n hx hb dX9_init_193 rfl (lv_at hl 0 rfl) ?_
                    refine lv_iconst (v := 1) hx hb dX9_init_194 (by decide) ?_
                    refine wasI (j := j) hx hb hK hA hW (show sh 21 = some (.inr (0, 10)) by rw [eS]; rfl) ej (by omega) (by decide) dX9_init_195 (fun M195' H locs eM195 hW => ?_)
                    have hC : CZ sh M195' := by rw [eM195]; exact hC.I (ne_none (show sh 21 = some (.inr (0, 10)) by rw [eS]; rfl))
                    obtain ⟨x196', e196'⟩ : ∃ y : Int32, y = xr + 1 := ⟨_, rfl⟩
                    refine lv_iinc (v := x196') (lv' := [(1, .int x196'), (0, .ref (ad 0))]) hx hb dX9_init_196 hl (k := 0) rfl (by rw [e196']; rfl) (by decide) rfl (fun ls hl => ?_)
                    refine lv_goto (tgt := 183) hx hb dX9_init_199 (by decide) ?_
                    exact ih183 (j + 1) x196' M195' _ _ (by omega) (by omega) (by rw [e196', ej, nlit 1, nI_add]) (by rw [eM195]; exact o3.put rfl) (fun k hk9 => by
                        rw [eM195, gI_sI]
                        by_cases z : k = j
                        · subst z; rw [if_pos ⟨rfl, rfl⟩]
                        · rw [if_neg (fun w => z w.2)]; exact h21 k (by omega)) hC hW ls (lv_sub hl [0, 1] rfl)
              exact L183 (_ + 1) 0 0 M2' _ _ (Nat.lt_succ_self _) (Nat.zero_le _) rfl oI.rf (fun k hk => absurd hk (Nat.not_lt_zero k)) hC hW ls (lv_sub hl [0, 1] rfl)
            · have k159' : ¬ 4 ≤ i := kc_gen ei (nlit 4) (by omega) (by omega) c159'
              refine lv_aload_n hx hb dX9_init_162 rfl (lv_at hl 1 rfl) ?_
              refine wgF (t := 5) hx hb fa24 hW (show sh 0 = some (.inl (9, [1 + 3, 4 + 3, 5 + 3, 6 + 3, 9 + 3, 11 + 3, 12 + 3, 16 + 3, 20 + 3, 21 + 3, 0, 0, 0, 0, 0])) by rw [eS]; rfl) rfl dX9_init_163 ?_
              refine lv_iload_n hx hb dX9_init_166 rfl (lv_at hl 0 rfl) ?_
              refine wnewZ (q := (40 + i)) (ci := 6) (C := RX6) (T := TX6) (N := 7) (ks := [2, 2, 0, 0, 0, 0, 0]) hx hb hts (fun _ h => List.mem_cons_of_mem _ (List.mem_append_left _ (List.mem_append_right _ (h)))) tyX6 tyX6_ok hown (hts (.classLink RX9 22 RX6) (List.mem_of_getElem? (i := 10) rfl)) (hts (.instantiable RX6 7) (List.mem_of_getElem? (i := 40) rfl)) (hts (.initialized RX6) (List.mem_of_getElem? (i := 41) rfl)) hK rfl hC (by rw [eS]; exact shS_no (by omega) (by omega) (by omega) (by omega)) hA hW (by decide) (by decide) ⟨(by show 27 + 3 * i + 1 ≤ 39; omega), (by show 639 + 16 * i + 7 ≤ 703; omega)⟩ dX9_init_167 (fun sh ad H esh hk hge hC hA hW => ?_)
              rw [← (hk 0 (by omega))] at hl
              rw [← (hk 5 (by omega))]
              have hG := hG.new (by rw [eS]; exact shS_no (by omega) (by omega) (by omega) (by omega)) esh hk hge
              have eS : sh = shU (shS 6 i) (40 + i) (.inl (6, [2, 2, 0, 0, 0, 0, 0])) := by rw [esh, eS]
              refine lv_dup hx hb dX9_init_170 rfl ?_
              refine wc_cv (va_runI (As := []) (rest := [.ref (ad (40 + i)), .int xr, .ref (ad 5)]) ⟨hx, hb, hml, hown, hts⟩ (c_X6_init l D cA sh ad M2' _ (40 + i) (44 + i) (48 + i) (by rw [eS]; exact shU_eq) (by rw [eS, shU_ne (by omega)]; exact shS_no (by omega) (by omega) (by omega) (by omega)) (by rw [eS, shU_ne (by omega)]; exact shS_no (by omega) (by omega) (by omega) (by omega)) (by omega) hC) (cwI 0 hts gX9_init_X6_init rfl rfl rfl (hts (.initialized RX6) (List.mem_of_getElem? (i := 41) rfl)) (hts (.methodLink RX9 87 yX6_init) (List.mem_of_getElem? (i := 82) rfl)) (hts (.instanceMethod yX6_init) (List.mem_of_getElem? (i := 83) rfl)) rfl (by decide +kernel) ⟨Nat.le_of_ble_eq_true rfl, Nat.le_of_ble_eq_true rfl⟩) (cpreS hK hW hN) rfl rfl hl.1 rfl (lv_room (Nat.le_of_ble_eq_true rfl)) dX9_init_171 ⟨(by show 27 + 3 * i + 1 + 2 ≤ 39; omega), (by show 639 + 16 * i + 7 + 9 ≤ 703; omega)⟩) hA hW (fun sh ad M171' H locs esh hG1 hC p171' hA hW => ?_)
              rw [← (hG1.1 0 (by rw [eS, shU_ne (by omega)]; exact ne_none rfl)).2] at hl
              rw [← (hG1.1 (40 + i) (by rw [eS]; exact ne_none shU_eq)).2]
              rw [← (hG1.1 5 (by rw [eS, shU_ne (by omega)]; exact ne_none rfl)).2]
              have hG := hG.trans hG1
              have eS : sh = shS 6 (i + 1) := by rw [esh, eS]; exact shS_k (by omega)
              obtain ⟨Mz, ez, z1, z2, z3, z4, z5, z6, z7⟩ := p171'
              have F171 : ∀ p k, p ≠ 40 + i → p ≠ 44 + i → p ≠ 48 + i → gI M171' p k = gI M2' p k := fun p k h1 h2 h3 => by rw [z7.1 p k (fun z => by omega), ez, gI_sR, gI_sR]
              have R171 : ∀ p k, p ≠ 40 + i → gR M171' p k = gR M2' p k := fun p k h1 => by rw [z7.rg, ez, gR_sR, if_neg (by omega), gR_sR, if_neg (by omega)]
              refine wasR (ta0 := 4) (ci := 6) (r := (RX6, TX6, 7)) (j := i) hx hb hK hA hW (show sh 5 = some (.inr (4, 4)) by rw [eS]; rfl) ⟨by decide, by decide⟩ rfl rfl (show sh (40 + i) = some (.inl (6, [(44 + i) + 3, (48 + i) + 3, 0, 0, 0, 0, 0])) by rw [eS, ← shS_k (by omega)]; exact shU_eq) ei (by omega) (by decide) dX9_init_174 (fun M174' H locs eM174 hW => ?_)
              have hC : CZ sh M174' := by rw [eM174]; exact hC.R (ne_none (show sh 5 = some (.inr (4, 4)) by rw [eS]; rfl)) (ne_none (show sh (40 + i) = some (.inl (6, [(44 + i) + 3, (48 + i) + 3, 0, 0, 0, 0, 0])) by rw [eS, ← shS_k (by omega)]; exact shU_eq))
              obtain ⟨x175', e175'⟩ : ∃ y : Int32, y = xr + 1 := ⟨_, rfl⟩
              refine lv_iinc (v := x175') (lv' := [(1, .int x175'), (0, .ref (ad 0))]) hx hb dX9_init_175 hl (k := 0) rfl (by rw [e175']; rfl) (by decide) rfl (fun ls hl => ?_)
              refine lv_goto (tgt := 157) hx hb dX9_init_178 (by decide) ?_
              refine W.eqn (c9' := (27 + 3 * (i + 1))) (n9' := (639 + 16 * (i + 1))) (by omega) (by omega) ?_
              exact ih157 (i + 1) _ _ x175' M174' _ _ (by omega) (by omega) (by rw [e175', ei, nlit 1, nI_add]) eS (fun p k h1 h2 h3 => by rw [eM174, gI_sR, F171 _ _ (by omega) (by omega) (by omega)]; exact hI p k h1 h2 h3) (by rw [eM174, gI_sR, F171 _ _ (by omega) (by omega) (by omega)]; exact h13) (by rw [eM174, gI_sR, F171 _ _ (by omega) (by omega) (by omega)]; exact h16) (fun k => by rw [eM174, gR_sR, if_neg (by omega), R171 _ _ (by omega)]; exact hR11 k) (fun r hr => by rw [eM174, gR_sR, if_neg (by omega), R171 _ _ (by omega)]; exact hg4 r hr) (fun k hk9 => by
                  rw [eM174, gR_sR]
                  by_cases z : k = i
                  · subst z; rw [if_pos ⟨rfl, rfl⟩]
                  · rw [if_neg (fun w => z w.2), R171 _ _ (by omega)]; exact hg5 k (by omega)) (fun k hk9 => by
                  rw [eM174, gI_sR, gI_sR, gI_sR, gI_sR, gI_sR]
                  by_cases z : k = i
                  · subst z; exact ⟨z1, z2, z3, z4, z5, fun y hy => by rw [gI_sR]; exact z6 y hy⟩
                  · obtain ⟨b1, b2, b3, b4, b5, b6⟩ := hkf k (by omega)
                    refine ⟨?_, ?_, ?_, ?_, ?_, fun y hy => ?_⟩
                    · rw [F171 _ _ (by omega) (by omega) (by omega)]; exact b1
                    · rw [F171 _ _ (by omega) (by omega) (by omega)]; exact b2
                    · rw [F171 _ _ (by omega) (by omega) (by omega)]; exact b3
                    · rw [F171 _ _ (by omega) (by omega) (by omega)]; exact b4
                    · rw [F171 _ _ (by omega) (by omega) (by omega)]; exact b5
                    · rw [gI_sR, F171 _ _ (by omega) (by omega) (by omega)]; exact b6 y hy) hA hG hC hW ls (lv_sub hl [0, 1] rfl)
        exact L157 (_ + 1) 0 _ _ 0 M1' _ _ (Nat.lt_succ_self _) (Nat.zero_le _) rfl eS (fun p k h1 h2 _ => hI p k h1 h2) h13 h16 hR11 hg4 (fun k hk => absurd hk (Nat.not_lt_zero k)) (fun k hk => absurd hk (Nat.not_lt_zero k)) hA hG hC hW ls (lv_sub hl [0, 1] rfl)
      · have k133' : ¬ 6 ≤ i := kc_gen ei (nlit 6) (by omega) (by omega) c133'
        refine lv_aload_n hx hb dX9_init_136 rfl (lv_at hl 1 rfl) ?_
        refine wgF (t := 4) hx hb fa18 hW (show sh 0 = some (.inl (9, [1 + 3, 4 + 3, 5 + 3, 6 + 3, 9 + 3, 11 + 3, 12 + 3, 16 + 3, 20 + 3, 21 + 3, 0, 0, 0, 0, 0])) by rw [eS]; rfl) rfl dX9_init_137 ?_
        refine lv_iload_n hx hb dX9_init_140 rfl (lv_at hl 0 rfl) ?_
        refine wnewZ (q := (30 + i)) (ci := 7) (C := RX7) (T := TX7) (N := 2) (ks := [0, 0]) hx hb hts (fun _ h => List.mem_cons_of_mem _ (List.mem_append_left _ (List.mem_append_left _ (List.mem_append_right _ (h))))) tyX7 tyX7_ok hown (hts (.classLink RX9 16 RX7) (List.mem_of_getElem? (i := 8) rfl)) (hts (.instantiable RX7 2) (List.mem_of_getElem? (i := 38) rfl)) (hts (.initialized RX7) (List.mem_of_getElem? (i := 39) rfl)) hK rfl hC (by rw [eS]; unfold shS; rw [if_neg (by omega), if_neg (by omega), if_neg (by omega)]) hA hW (by decide) (by decide) ⟨(by show 21 + i + 1 ≤ 39; omega), (by show 627 + 2 * i + 2 ≤ 703; omega)⟩ dX9_init_141 (fun sh ad H esh hk hge hC hA hW => ?_)
        rw [← (hk 0 (by omega))] at hl
        rw [← (hk 4 (by omega))]
        have hG := hG.new (by rw [eS]; unfold shS; rw [if_neg (by omega), if_neg (by omega), if_neg (by omega)]) esh hk hge
        have eS : sh = shS (i + 1) 0 := by rw [esh, eS]; exact shS_r
        refine lv_dup hx hb dX9_init_144 rfl ?_
        refine wc_wv (va_runIN (As := []) (rest := [.ref (ad (30 + i)), .int xr, .ref (ad 4)]) ⟨hx, hb, hml, hown, hts⟩ (c_X7_init l D cA sh ad M1' _ (30 + i) (by rw [eS]; exact shS_rk (by omega))) ⟨va_cnB 0 hts gX9_init_X7_init_n86 rfl rfl rfl (hN.1 (RX9, 86, yX7_init, RX9) (List.mem_of_getElem? (i := 5) rfl)) (hts (.initialized RX7) (List.mem_of_getElem? (i := 39) rfl)) ⟨by decide, by decide, by decide +kernel⟩ ⟨Nat.le_of_ble_eq_true rfl, Nat.le_of_ble_eq_true rfl⟩, rfl, (hts (.instanceMethod yX7_init) (List.mem_of_getElem? (i := 77) rfl))⟩ (wpreS hK hW) rfl rfl hl.1 rfl (lv_room (Nat.le_of_ble_eq_true rfl)) dX9_init_145 ⟨(by show 21 + i + 1 + 0 ≤ 39; omega), (by show 627 + 2 * i + 2 + 0 ≤ 703; omega)⟩) hA hW (fun M145' H locs p145' hW => ?_)
        try dsimp only at p145'
        have hC : CZ sh M145' := by rw [p145']; exact (hC.I (ne_none (show sh (30 + i) = some (.inl (7, [0, 0])) by rw [eS]; exact shS_rk (by omega)))).I (ne_none (show sh (30 + i) = some (.inl (7, [0, 0])) by rw [eS]; exact shS_rk (by omega)))
        refine wasR (ta0 := 5) (ci := 7) (r := (RX7, TX7, 2)) (j := i) hx hb hK hA hW (show sh 4 = some (.inr (5, 6)) by rw [eS]; rfl) ⟨by decide, by decide⟩ rfl rfl (show sh (30 + i) = some (.inl (7, [0, 0])) by rw [eS]; exact shS_rk (by omega)) ei (by omega) (by decide) dX9_init_148 (fun M148' H locs eM148 hW => ?_)
        have hC : CZ sh M148' := by rw [eM148]; exact hC.R (ne_none (show sh 4 = some (.inr (5, 6)) by rw [eS]; rfl)) (ne_none (show sh (30 + i) = some (.inl (7, [0, 0])) by rw [eS]; exact shS_rk (by omega)))
        obtain ⟨x149', e149'⟩ : ∃ y : Int32, y = xr + 1 := ⟨_, rfl⟩
        refine lv_iinc (v := x149') (lv' := [(1, .int x149'), (0, .ref (ad 0))]) hx hb dX9_init_149 hl (k := 0) rfl (by rw [e149']; rfl) (by decide) rfl (fun ls hl => ?_)
        refine lv_goto (tgt := 130) hx hb dX9_init_152 (by decide) ?_
        refine W.eqn (c9' := (21 + (i + 1))) (n9' := (627 + 2 * (i + 1))) (by omega) (by omega) ?_
        exact ih130 (i + 1) _ _ x149' M148' _ _ (by omega) (by omega) (by rw [e149', ei, nlit 1, nI_add]) eS (fun p k h1 h2 => by
            rw [eM148, gI_sR, p145']
            simp only [gI_sI]
            repeat' split
            all_goals first | rfl | exact hI p k h1 h2) (by rw [eM148, gI_sR, p145', gI_sI, if_neg (by omega), gI_sI, if_neg (by omega)]; exact h13) (by rw [eM148, gI_sR, p145', gI_sI, if_neg (by omega), gI_sI, if_neg (by omega)]; exact h16) (fun k => by rw [eM148, gR_sR, if_neg (by omega), p145', gR_sI, gR_sI]; exact hR11 k) (fun r hr => by
            rw [eM148, gR_sR]
            by_cases z : r = i
            · subst z; rw [if_pos ⟨rfl, rfl⟩]
            · rw [if_neg (fun w => z w.2), p145', gR_sI, gR_sI]; exact hg4 r (by omega)) hA hG hC hW ls (lv_sub hl [0, 1] rfl)
  exact L130 (_ + 1) 0 _ _ 0 M125' _ _ (Nat.lt_succ_self _) (Nat.zero_le _) rfl eS hI h13 h16 hR11 (fun r hr => absurd hr (Nat.not_lt_zero r)) hA hG hC hW ls (lv_sub hl [0, 1] rfl)

/-! Long.bitCount counts bits. -/
theorem wb_tb (n : Nat) : (lN n).toBitVec = BitVec.ofNat 64 n := rfl
theorem wb_inj {a b : Int64} (h : a.toBitVec = b.toBitVec) : a = b := Int64.toBitVec_inj.mp h
theorem wb_tn {n : Nat} (h : n < 2 ^ 64) : (lN n).toBitVec.toNat = n := by rw [wb_tb, BitVec.toNat_ofNat, Nat.mod_eq_of_lt h]
theorem wb_of (x : Int64) : ∃ n, n < 2 ^ 64 ∧ x = lN n := ⟨x.toBitVec.toNat, x.toBitVec.isLt, wb_inj (by rw [wb_tb]; simp)⟩
theorem wb_cu : ∀ k, k < 64 → ((nI k).toInt64.toUInt64 &&& Int64.toUInt64 63) = UInt64.ofNat k := by decide +kernel
theorem wb_shr {n k : Nat} (hn : n < 2 ^ 64) (hk : k < 64) : ((lN n).toUInt64 >>> ((nI k).toInt64.toUInt64 &&& Int64.toUInt64 63)).toInt64 = lN (n / 2 ^ k) := by
  rw [wb_cu k hk]
  apply wb_inj
  apply BitVec.eq_of_toNat_eq
  show ((lN n).toUInt64 >>> UInt64.ofNat k).toNat = (BitVec.ofNat 64 _).toNat
  have h1 : (UInt64.ofNat k).toNat = k := by
    show (BitVec.ofNat 64 k).toNat = k
    rw [BitVec.toNat_ofNat, Nat.mod_eq_of_lt (by omega)]
  have h2 : (lN n).toUInt64.toNat = n := wb_tn hn
  rw [UInt64.toNat_shiftRight, h1, h2, Nat.mod_eq_of_lt hk, Nat.shiftRight_eq_div_pow, BitVec.toNat_ofNat, Nat.mod_eq_of_lt (Nat.lt_of_le_of_lt (Nat.div_le_self _ _) hn)]
theorem nx_and (a b : Nat) : nI a &&& nI b = nI (a &&& b) := by
  apply Int32.toBitVec_inj.1
  show BitVec.ofNat 32 a &&& BitVec.ofNat 32 b = BitVec.ofNat 32 (a &&& b)
  apply BitVec.eq_of_getLsbD_eq
  intro i hi
  simp [hi]
theorem fb_andL (a b : Nat) : lN a &&& lN b = lN (a &&& b) := by
  apply Int64.toBitVec_inj.1
  show BitVec.ofNat 64 a &&& BitVec.ofNat 64 b = BitVec.ofNat 64 (a &&& b)
  apply BitVec.eq_of_getLsbD_eq
  intro i hi
  simp [hi]
def mkB (c : Nat) : Nat → Nat
  | 0 => 0
  | k + 1 => 256 * mkB c k + c
def pA (k n : Nat) : Nat := n - ((n / 2) &&& mkB 85 k)
def pB (k a : Nat) : Nat := (a &&& mkB 51 k) + ((a / 4) &&& mkB 51 k)
def pC (k a : Nat) : Nat := (a + a / 16) &&& mkB 15 k
def pop8 (b : Nat) : Nat := ctN (fun i => b.testBit i) 8
theorem and256 {A B C D : Nat} (hB : B < 256) (hD : D < 256) : (256 * A + B) &&& (256 * C + D) = 256 * (A &&& C) + (B &&& D) := by
  have hBD : B &&& D < 2 ^ 8 := Nat.and_lt_two_pow _ hD
  apply Nat.eq_of_testBit_eq
  intro i
  rw [Nat.testBit_and, show (256 : Nat) = 2 ^ 8 from rfl, Nat.testBit_two_pow_mul_add A (i := 8) hB, Nat.testBit_two_pow_mul_add C (i := 8) hD, Nat.testBit_two_pow_mul_add (A &&& C) (i := 8) hBD]
  by_cases h : i < 8
  · rw [if_pos h, if_pos h, if_pos h, Nat.testBit_and]
  · rw [if_neg h, if_neg h, if_neg h, Nat.testBit_and]
theorem m85 : ∀ c, c < 2 → ∀ b, b < 256 → (128 * c + b / 2) &&& 85 = (b / 2) &&& 85 := by decide +kernel
theorem m51 : ∀ c, c < 4 → ∀ b, b < 256 → (64 * c + b / 4) &&& 51 = (b / 4) &&& 51 := by decide +kernel
theorem m85le : ∀ b, b < 256 → (b / 2) &&& 85 ≤ b := by decide +kernel
def pB8 (b : Nat) : Nat := ((b - ((b / 2) &&& 85)) &&& 51) + (((b - ((b / 2) &&& 85)) / 4) &&& 51)
theorem pB8_lo : ∀ b, b < 256 → pB8 b % 16 ≤ 4 ∧ pB8 b / 16 ≤ 4 ∧ b - ((b / 2) &&& 85) < 256 := by decide +kernel
theorem pC8 : ∀ e, e < 5 → ∀ b, b < 256 → (pB8 b + 16 * e + pB8 b / 16) &&& 15 = pop8 b := by decide +kernel
theorem pA_s (k n b : Nat) (hb : b < 256) : pA (k + 1) (256 * n + b) = 256 * pA k n + (b - ((b / 2) &&& 85)) := by
  unfold pA
  have e : (256 * n + b) / 2 = 256 * (n / 2) + (128 * (n % 2) + b / 2) := by omega
  show 256 * n + b - ((256 * n + b) / 2 &&& (256 * mkB 85 k + 85)) = _
  rw [e, and256 (by omega) (by decide), m85 (n % 2) (by omega) b hb]
  have h1 : (n / 2) &&& mkB 85 k ≤ n / 2 := Nat.and_le_left
  have h2 := m85le b hb
  omega
theorem pB_s (k n b : Nat) (hb : b < 256) : pB (k + 1) (pA (k + 1) (256 * n + b)) = 256 * pB k (pA k n) + pB8 b := by
  rw [pA_s k n b hb]
  obtain ⟨-, -, h3⟩ := pB8_lo b hb
  unfold pB pB8
  generalize b - ((b / 2) &&& 85) = c at h3 ⊢
  generalize pA k n = a
  have e : (256 * a + c) / 4 = 256 * (a / 4) + (64 * (a % 4) + c / 4) := by omega
  show ((256 * a + c) &&& (256 * mkB 51 k + 51)) + ((256 * a + c) / 4 &&& (256 * mkB 51 k + 51)) = _
  rw [e, and256 h3 (by decide), and256 (by omega) (by decide), m51 (a % 4) (by omega) c h3]
  omega
theorem pB_lo : ∀ k n, pB k (pA k n) % 16 ≤ 4
  | 0, n => by show ((_ &&& 0) + (_ &&& 0)) % 16 ≤ 4; simp
  | k + 1, n => by
    have e : n = 256 * (n / 256) + n % 256 := by omega
    rw [e, pB_s k (n / 256) (n % 256) (by omega)]
    have := (pB8_lo (n % 256) (by omega)).1
    omega
theorem pC_s (k n b : Nat) (hb : b < 256) : pC (k + 1) (pB (k + 1) (pA (k + 1) (256 * n + b))) = 256 * pC k (pB k (pA k n)) + pop8 b := by
  rw [pB_s k n b hb]
  have h0 := pB_lo k n
  obtain ⟨h1, h2, -⟩ := pB8_lo b hb
  generalize pB k (pA k n) = a at h0 ⊢
  unfold pC
  have e : 256 * a + pB8 b + (256 * a + pB8 b) / 16 = 256 * (a + a / 16) + (pB8 b + 16 * (a % 16) + pB8 b / 16) := by omega
  show (256 * a + pB8 b + (256 * a + pB8 b) / 16 &&& (256 * mkB 15 k + 15)) = _
  rw [e, and256 (by omega) (by decide), pC8 (a % 16) (by omega) b hb]
/-- the bits of the bytes -/
theorem ctN_split (p : Nat → Bool) (m : Nat) : ∀ k, ctN p (m + k) = ctN p m + ctN (fun i => p (m + i)) k
  | 0 => rfl
  | k + 1 => by
    show ctN p (m + k) + (if p (m + k) = true then 1 else 0) = ctN p m + (ctN (fun i => p (m + i)) k + (if p (m + k) = true then 1 else 0))
    rw [ctN_split p m k, Nat.add_assoc]
theorem ctN_cong {p q : Nat → Bool} : ∀ {k : Nat}, (∀ i, i < k → p i = q i) → ctN p k = ctN q k
  | 0, _ => rfl
  | k + 1, h => by
    unfold ctN
    rw [ctN_cong (fun i hi => h i (by omega)), h k (by omega)]
theorem ct_byte (n b : Nat) (hb : b < 256) (m : Nat) : ctN (fun i => (256 * n + b).testBit i) (8 + m) = pop8 b + ctN (fun i => n.testBit i) m := by
  rw [ctN_split]
  have h : ∀ i, (256 * n + b).testBit i = if i < 8 then b.testBit i else n.testBit (i - 8) := fun i => Nat.testBit_two_pow_mul_add n (i := 8) hb i
  congr 1
  · exact ctN_cong (fun i hi => by rw [h i, if_pos hi])
  · exact ctN_cong (fun i _ => by rw [h (8 + i), if_neg (by omega)]; congr 1; omega)
theorem pop8_le (b : Nat) : pop8 b ≤ 8 := ctN_le _ _
theorem dv1 (A B : Nat) (h : B < 256) : (256 * A + B) / 256 = A := by omega
theorem dv2 (A B C : Nat) (h : B < 256) (h2 : C < 256) : (256 * (256 * A + B) + C) / 65536 = A := by omega
theorem dv4 (A B C D E : Nat) (h : B < 256) (h2 : C < 256) (h3 : D < 256) (h4 : E < 256) : (256 * (256 * (256 * (256 * A + B) + C) + D) + E) / 4294967296 = A := by
  rw [show (4294967296 : Nat) = 65536 * 65536 from rfl, ← Nat.div_div_eq_div_mul, dv2 _ _ _ h3 h4, dv2 _ _ _ h h2]
theorem md1 (A B : Nat) (h : B < 128) : (256 * A + B) % 128 = B := by omega
theorem pop_sum (b0 b1 b2 b3 b4 b5 b6 b7 : Nat) (h0 : b0 ≤ 8) (h1 : b1 ≤ 8) (h2 : b2 ≤ 8) (h3 : b3 ≤ 8) (h4 : b4 ≤ 8) (h5 : b5 ≤ 8) (h6 : b6 ≤ 8) (h7 : b7 ≤ 8) (x y z w : Nat)
    (hx : x = 256 * (256 * (256 * (256 * (256 * (256 * (256 * (256 * 0 + b7) + b6) + b5) + b4) + b3) + b2) + b1) + b0) (hy : y = x + x / 256) (hz : z = y + y / 65536) (hw : w = z + z / 4294967296) : w % 128 = b0 + (b1 + (b2 + (b3 + (b4 + (b5 + (b6 + (b7 + 0))))))) ∧ w < 2 ^ 64 := by
  obtain ⟨x7, e7⟩ : ∃ v, v = 256 * 0 + b7 := ⟨_, rfl⟩
  obtain ⟨x6, e6⟩ : ∃ v, v = 256 * x7 + b6 := ⟨_, rfl⟩
  obtain ⟨x5, e5⟩ : ∃ v, v = 256 * x6 + b5 := ⟨_, rfl⟩
  obtain ⟨x4, e4⟩ : ∃ v, v = 256 * x5 + b4 := ⟨_, rfl⟩
  obtain ⟨x3, e3⟩ : ∃ v, v = 256 * x4 + b3 := ⟨_, rfl⟩
  obtain ⟨x2, e2⟩ : ∃ v, v = 256 * x3 + b2 := ⟨_, rfl⟩
  obtain ⟨x1, e1⟩ : ∃ v, v = 256 * x2 + b1 := ⟨_, rfl⟩
  have e0 : x = 256 * x1 + b0 := by rw [hx, e1, e2, e3, e4, e5, e6, e7]
  clear hx
  have l7 : x7 ≤ 8 := by rw [e7]; omega
  have l6 : x6 ≤ 2056 := by clear hy hz hw; omega
  have l5 : x5 ≤ 526344 := by clear hy hz hw; omega
  have l4 : x4 ≤ 134744072 := by clear hy hz hw; omega
  have l3 : x3 ≤ 34494482440 := by clear hy hz hw; omega
  have l2 : x2 ≤ 8830587504648 := by clear hy hz hw; omega
  have l1 : x1 ≤ 2260630401189896 := by clear hy hz hw; omega
  have l0 : x ≤ 578721382704613384 := by clear hy hz hw; omega
  have y1 : y = x + x1 := by rw [hy, e0, dv1 _ _ (by omega)]
  have y2 : y = 256 * (256 * (x2 + x3) + (b1 + b2)) + (b0 + b1) := by rw [y1, e0, e1, e2]; clear hy hz hw l0 l1 l2 l3 l4 l5 l6 l7; omega
  have z1 : z = x + x1 + (x2 + x3) := by rw [hz, y2, dv2 _ _ _ (by omega) (by omega), ← y2, y1]
  have z2 : z = 256 * (256 * (256 * (256 * (x4 + x5 + x6 + x7) + (b3 + b4 + b5 + b6)) + (b2 + b3 + b4 + b5)) + (b1 + b2 + b3 + b4)) + (b0 + b1 + b2 + b3) := by rw [z1, e0, e1, e2, e3, e4, e5, e6]; clear hy hz hw l0 l1 l2 l3 l4 l5 l6 l7 y1 y2 z1; omega
  have w1 : w = x + x1 + (x2 + x3) + (x4 + x5 + x6 + x7) := by rw [hw, z2, dv4 _ _ _ _ _ (by omega) (by omega) (by omega) (by omega), ← z2, z1]
  have w2 : w = 256 * (x1 + x2 + x3 + x4 + x5 + x6 + x7) + (b0 + (b1 + (b2 + (b3 + (b4 + (b5 + (b6 + (b7 + 0)))))))) := by rw [w1]; clear hy hz hw l0 l1 l2 l3 l4 l5 l6 l7 y1 y2 z1 z2 w1; omega
  refine ⟨by rw [w2]; exact md1 _ _ (by clear hy hz hw y1 y2 z1 z2 w1 w2 l0 l1 l2 l3 l4 l5 l6 l7; omega), by rw [w1]; clear hy hz hw y1 y2 z1 z2 w1 w2 e0 e1 e2 e3 e4 e5 e6 e7; omega⟩
theorem mk_vals : mkB 85 8 = 6148914691236517205 ∧ mkB 51 8 = 3689348814741910323 ∧ mkB 15 8 = 1085102592571150095 := by decide +kernel
theorem pop_all (n : Nat) (hn : n < 2 ^ 64) (w : Nat) (hw : w = (let x := pC 8 (pB 8 (pA 8 n)); let y := x + x / 256; let z := y + y / 65536; z + z / 4294967296)) : w % 128 = ctN (fun i => n.testBit i) 64 ∧ w < 2 ^ 64 := by
  have key : ∀ m : Nat, m = 256 * (m / 256) + m % 256 := fun m => by omega
  have st : ∀ k m, pC (k + 1) (pB (k + 1) (pA (k + 1) m)) = 256 * pC k (pB k (pA k (m / 256))) + pop8 (m % 256) := fun k m => by
    have := pC_s k (m / 256) (m % 256) (by omega)
    rw [← key m] at this; exact this
  have ct : ∀ k m, ctN (fun i => m.testBit i) (8 + k) = pop8 (m % 256) + ctN (fun i => (m / 256).testBit i) k := fun k m => by
    have := ct_byte (m / 256) (m % 256) (by omega) k
    rw [← key m] at this; exact this
  have z0 : ∀ m, pC 0 (pB 0 (pA 0 m)) = 0 := fun m => by show (_ &&& 0) = 0; simp
  have hx : pC 8 (pB 8 (pA 8 n)) = 256 * (256 * (256 * (256 * (256 * (256 * (256 * (256 * 0 + pop8 ((((((((n / 256) / 256) / 256) / 256) / 256) / 256) / 256) % 256)) + pop8 (((((((n / 256) / 256) / 256) / 256) / 256) / 256) % 256)) + pop8 ((((((n / 256) / 256) / 256) / 256) / 256) % 256)) + pop8 (((((n / 256) / 256) / 256) / 256) % 256)) + pop8 ((((n / 256) / 256) / 256) % 256)) + pop8 (((n / 256) / 256) % 256)) + pop8 ((n / 256) % 256)) + pop8 (n % 256) := by
    rw [st 7, st 6, st 5, st 4, st 3, st 2, st 1, st 0, z0]
  have hc : ctN (fun i => n.testBit i) 64 = pop8 (n % 256) + (pop8 ((n / 256) % 256) + (pop8 (((n / 256) / 256) % 256) + (pop8 ((((n / 256) / 256) / 256) % 256) + (pop8 (((((n / 256) / 256) / 256) / 256) % 256) + (pop8 ((((((n / 256) / 256) / 256) / 256) / 256) % 256) + (pop8 (((((((n / 256) / 256) / 256) / 256) / 256) / 256) % 256) + (pop8 ((((((((n / 256) / 256) / 256) / 256) / 256) / 256) / 256) % 256) + 0))))))) := by
    rw [ct 56, ct 48, ct 40, ct 32, ct 24, ct 16, ct 8, ct 0]
    rfl
  rw [hc]
  exact pop_sum _ _ _ _ _ _ _ _ (pop8_le _) (pop8_le _) (pop8_le _) (pop8_le _) (pop8_le _) (pop8_le _) (pop8_le _) (pop8_le _) _ _ _ w hx rfl rfl hw
theorem bitL_lN {n k : Nat} (hn : n < 2 ^ 64) : bitL (lN n) k = n.testBit k := by
  unfold bitL
  rw [← BitVec.testBit_toNat, wb_tn hn]
theorem and127 (w : Nat) : w &&& 127 = w % 128 := Nat.and_two_pow_sub_one_eq_mod w 7
set_option maxHeartbeats 4000000 in
set_option maxRecDepth 100000 in
theorem c_J13_bitCount_95d88 (l : Launch) (z : Int64) : Met l yJ13_bitCount_95d88 wsJ13_bitCount_95d88 ({ frames := 0, cells := 0, slots := 0, locals := 0 }) (nPc [.long z]) (rQi (fun r => r = nI (ctN (bitL z) 64))) 0 0 nA := by
  refine Met.ofWF (cc := cJ13_bitCount_95d88) (maxL := 2) (ret := (some .int)) (by decide +kernel) rfl ?_
  intro p e s m args below meth cd0 s₁ B hml hv
  obtain ⟨rfl, -⟩ := hv
  have hx := B.exec
  have hb := B.bytes
  have hr := B.returns
  have hts := atoms_spec (ws := wsJ13_bitCount_95d88) B.pre
  have hown : s.vm.findClass RJ13 = some m.cls := findClass_of_methodNamed B.named
  have hlocks := B.notSynchronized
  obtain ⟨A, eA⟩ : ∃ A : Nat → Prop, A = nA := ⟨_, rfl⟩
  have hW := nWS s
  obtain ⟨D, cA, sh, ad, m0, hW⟩ := hW
  rw [← eA] at hW
  subst eA
  have hl := lv_entry ([.long z]) (n := 2) (Nat.le_of_ble_eq_true rfl)
  rw [lg_entry_eq]
  generalize (lg_sl ([.long z]) ++ List.replicate (2 - (lg_sl ([.long z])).length) Slot.unset).toArray = ls at hl ⊢
  have hl : lv_has ls 2 [(0, .long z)] := hl
  obtain ⟨n, hn, ez⟩ := wb_of z
  obtain ⟨v85, v51, v15⟩ := mk_vals
  refine lv_lload_n hx hb dJ13_bitCount_95d88_0 rfl (lv_at hl 0 rfl) ?_
  refine lv_lload_n hx hb dJ13_bitCount_95d88_1 rfl (lv_at hl 0 rfl) ?_
  refine lv_iconst (v := 1) hx hb dJ13_bitCount_95d88_2 (by decide) ?_
  refine lv_lushr hx hb dJ13_bitCount_95d88_3 rfl ?_
  refine lv_topl (fun x3 e3 => ?_)
  refine lv_ldc2 (v := 6148914691236517205) hx hb hown (hts (.constantLong RJ13 314 (6148914691236517205)) (List.mem_of_getElem? (i := 1) rfl)) dJ13_bitCount_95d88_4 ?_
  refine lv_land hx hb dJ13_bitCount_95d88_7 ?_
  refine lv_topl (fun x7 e7 => ?_)
  refine lv_lsub hx hb dJ13_bitCount_95d88_8 ?_
  refine lv_topl (fun x8 e8 => ?_)
  have y3 : x3 = lN (n / 2 ^ 1) := by rw [e3, ez]; exact wb_shr hn (by decide)
  have l7 : (n / 2) &&& mkB 85 8 ≤ n / 2 := Nat.and_le_left
  have y7 : x7 = lN ((n / 2) &&& mkB 85 8) := by rw [e7, y3, v85]; exact fb_andL _ _
  have y8 : x8 = lN (pA 8 n) := by rw [e8, y7, ez]; exact lN_sub (by omega)
  have l8 : pA 8 n ≤ n := by unfold pA; omega
  refine lv_lstore_n (lv' := [(0, .long x8)]) hx hb dJ13_bitCount_95d88_9 rfl hl (by decide) rfl (fun ls hl => ?_)
  refine lv_lload_n hx hb dJ13_bitCount_95d88_10 rfl (lv_at hl 0 rfl) ?_
  refine lv_ldc2 (v := 3689348814741910323) hx hb hown (hts (.constantLong RJ13 316 (3689348814741910323)) (List.mem_of_getElem? (i := 2) rfl)) dJ13_bitCount_95d88_11 ?_
  refine lv_land hx hb dJ13_bitCount_95d88_14 ?_
  refine lv_topl (fun x14 e14 => ?_)
  refine lv_lload_n hx hb dJ13_bitCount_95d88_15 rfl (lv_at hl 0 rfl) ?_
  refine lv_iconst (v := 2) hx hb dJ13_bitCount_95d88_16 (by decide) ?_
  refine lv_lushr hx hb dJ13_bitCount_95d88_17 rfl ?_
  refine lv_topl (fun x17 e17 => ?_)
  refine lv_ldc2 (v := 3689348814741910323) hx hb hown (hts (.constantLong RJ13 316 (3689348814741910323)) (List.mem_of_getElem? (i := 2) rfl)) dJ13_bitCount_95d88_18 ?_
  refine lv_land hx hb dJ13_bitCount_95d88_21 ?_
  refine lv_topl (fun x21 e21 => ?_)
  refine lv_ladd hx hb dJ13_bitCount_95d88_22 ?_
  refine lv_topl (fun x22 e22 => ?_)
  have y14 : x14 = lN (pA 8 n &&& mkB 51 8) := by rw [e14, y8, v51]; exact fb_andL _ _
  have y17 : x17 = lN (pA 8 n / 2 ^ 2) := by rw [e17, y8]; exact wb_shr (by omega) (by decide)
  have y21 : x21 = lN (pA 8 n / 4 &&& mkB 51 8) := by rw [e21, y17, v51]; exact fb_andL _ _
  have y22 : x22 = lN (pB 8 (pA 8 n)) := by rw [e22, y14, y21, lN_add]; rfl
  have l22 : pB 8 (pA 8 n) ≤ 2 * 3689348814741910323 := by
    have q1 : pA 8 n &&& mkB 51 8 ≤ mkB 51 8 := Nat.and_le_right
    have q2 : pA 8 n / 4 &&& mkB 51 8 ≤ mkB 51 8 := Nat.and_le_right
    unfold pB; omega
  refine lv_lstore_n (lv' := [(0, .long x22)]) hx hb dJ13_bitCount_95d88_23 rfl hl (by decide) rfl (fun ls hl => ?_)
  refine lv_lload_n hx hb dJ13_bitCount_95d88_24 rfl (lv_at hl 0 rfl) ?_
  refine lv_lload_n hx hb dJ13_bitCount_95d88_25 rfl (lv_at hl 0 rfl) ?_
  refine lv_iconst (v := 4) hx hb dJ13_bitCount_95d88_26 (by decide) ?_
  refine lv_lushr hx hb dJ13_bitCount_95d88_27 rfl ?_
  refine lv_topl (fun x27 e27 => ?_)
  refine lv_ladd hx hb dJ13_bitCount_95d88_28 ?_
  refine lv_topl (fun x28 e28 => ?_)
  refine lv_ldc2 (v := 1085102592571150095) hx hb hown (hts (.constantLong RJ13 318 (1085102592571150095)) (List.mem_of_getElem? (i := 3) rfl)) dJ13_bitCount_95d88_29 ?_
  refine lv_land hx hb dJ13_bitCount_95d88_32 ?_
  refine lv_topl (fun x32 e32 => ?_)
  have y27 : x27 = lN (pB 8 (pA 8 n) / 2 ^ 4) := by rw [e27, y22]; exact wb_shr (by omega) (by decide)
  have y32 : x32 = lN (pC 8 (pB 8 (pA 8 n))) := by rw [e32, e28, y27, y22, lN_add]; unfold pC; rw [v15]; exact fb_andL _ _
  obtain ⟨x, ex⟩ : ∃ x, x = pC 8 (pB 8 (pA 8 n)) := ⟨_, rfl⟩
  have l32 : x ≤ mkB 15 8 := by rw [ex]; exact Nat.and_le_right
  rw [← ex] at y32
  refine lv_lstore_n (lv' := [(0, .long x32)]) hx hb dJ13_bitCount_95d88_33 rfl hl (by decide) rfl (fun ls hl => ?_)
  refine lv_lload_n hx hb dJ13_bitCount_95d88_34 rfl (lv_at hl 0 rfl) ?_
  refine lv_lload_n hx hb dJ13_bitCount_95d88_35 rfl (lv_at hl 0 rfl) ?_
  refine lv_bipush (v := 8) hx hb dJ13_bitCount_95d88_36 (by decide) ?_
  refine lv_lushr hx hb dJ13_bitCount_95d88_38 rfl ?_
  refine lv_topl (fun x38 e38 => ?_)
  refine lv_ladd hx hb dJ13_bitCount_95d88_39 ?_
  refine lv_topl (fun x39 e39 => ?_)
  have y39 : x39 = lN (x + x / 256) := by rw [e39, e38, y32, ← lN_add]; congr 1; exact wb_shr (k := 8) (by omega) (by decide)
  obtain ⟨y, ey⟩ : ∃ y, y = x + x / 256 := ⟨_, rfl⟩
  rw [← ey] at y39
  refine lv_lstore_n (lv' := [(0, .long x39)]) hx hb dJ13_bitCount_95d88_40 rfl hl (by decide) rfl (fun ls hl => ?_)
  refine lv_lload_n hx hb dJ13_bitCount_95d88_41 rfl (lv_at hl 0 rfl) ?_
  refine lv_lload_n hx hb dJ13_bitCount_95d88_42 rfl (lv_at hl 0 rfl) ?_
  refine lv_bipush (v := 16) hx hb dJ13_bitCount_95d88_43 (by decide) ?_
  refine lv_lushr hx hb dJ13_bitCount_95d88_45 rfl ?_
  refine lv_topl (fun x45 e45 => ?_)
  refine lv_ladd hx hb dJ13_bitCount_95d88_46 ?_
  refine lv_topl (fun x46 e46 => ?_)
  have y46 : x46 = lN (y + y / 65536) := by rw [e46, e45, y39, ← lN_add]; congr 1; exact wb_shr (k := 16) (by omega) (by decide)
  obtain ⟨u, eu⟩ : ∃ u, u = y + y / 65536 := ⟨_, rfl⟩
  rw [← eu] at y46
  refine lv_lstore_n (lv' := [(0, .long x46)]) hx hb dJ13_bitCount_95d88_47 rfl hl (by decide) rfl (fun ls hl => ?_)
  refine lv_lload_n hx hb dJ13_bitCount_95d88_48 rfl (lv_at hl 0 rfl) ?_
  refine lv_lload_n hx hb dJ13_bitCount_95d88_49 rfl (lv_at hl 0 rfl) ?_
  refine lv_bipush (v := 32) hx hb dJ13_bitCount_95d88_50 (by decide) ?_
  refine lv_lushr hx hb dJ13_bitCount_95d88_52 rfl ?_
  refine lv_topl (fun x52 e52 => ?_)
  refine lv_ladd hx hb dJ13_bitCount_95d88_53 ?_
  refine lv_topl (fun x53 e53 => ?_)
  have y53 : x53 = lN (u + u / 4294967296) := by rw [e53, e52, y46, ← lN_add]; congr 1; exact wb_shr (k := 32) (by omega) (by decide)
  have pz := pop_all n hn (u + u / 4294967296) (by rw [eu, ey, ex])
  refine lv_lstore_n (lv' := [(0, .long x53)]) hx hb dJ13_bitCount_95d88_54 rfl hl (by decide) rfl (fun ls hl => ?_)
  refine lv_lload_n hx hb dJ13_bitCount_95d88_55 rfl (lv_at hl 0 rfl) ?_
  refine lv_l2i hx hb dJ13_bitCount_95d88_56 rfl ?_
  refine lv_topi (fun x56 e56 => ?_)
  refine lv_bipush (v := 127) hx hb dJ13_bitCount_95d88_57 (by decide) ?_
  refine lv_iand hx hb dJ13_bitCount_95d88_59 ?_
  refine lv_topi (fun x59 e59 => ?_)
  exact wr_ri hx hb hr hlocks hW.2 dJ13_bitCount_95d88_60 (by rw [e59, e56, y53, lN_i, nlit 127, nx_and, and127, pz.1]; congr 1; exact ctN_cong (fun i _ => by rw [ez, bitL_lN hn]))

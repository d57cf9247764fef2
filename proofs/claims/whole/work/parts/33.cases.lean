
set_option maxHeartbeats 4000000 in
set_option maxRecDepth 100000 in
theorem law_setRack {p : Program} {l : Launch} {e : Env} {s : State} {m : MethodId} {below : List Frame} {meth : Method} {cd0 : Code} {b L : Nat} {xs : Nat → Int32} {D : va_G} {cA : Nat → ClassId} (C0 : LC p l s m cd0 b L xs D cA) (σ : AS) (v : VT) (sh : Nat → Option Sh) (ad : Nat → Nat) (M : MS) (H : Heap) (locs : List Loc) (hI : LI D cA s σ v sh ad M H locs) (i : Nat) (hi5 : i + 5 ≤ L) (xi : Int32) (ei : xi = nI i) (ls : Array Slot) (hl : lv_has ls 8 [(4, .int xi), (3, .ref (ad 90)), (2, .ref (ad 60)), (1, .ref (ad 0)), (0, .ref b)]) (cells slots : Nat) (hc9 : cells + 2 ≤ 601024 ∧ slots + 12 ≤ 7293034)
  (kk : ∀ (σ' : AS) (v' : VT) (sh' : Nat → Option Sh) (ad' : Nat → Nat) (M' : MS) (H' : Heap) (locs' : List Loc) (ls' : Array Slot), LI D cA s σ' v' sh' ad' M' H' locs' → lv_has ls' 8 [(4, .int xi), (3, .ref (ad' 90)), (2, .ref (ad' 60)), (1, .ref (ad' 0)), (0, .ref b)] → W p l e room_1 s m #[Value.ref b] below meth cd0 H' locs' (cells + 2) (slots + 12) (lw_Z below #[Value.ref b] s) (F0 m 1840 ls' [])) : W p l e room_1 s m #[Value.ref b] below meth cd0 H locs cells slots (lw_Z below #[Value.ref b] s) (F0 m 172 ls []) := by
  obtain ⟨hx, hb, hml, hown, hts, hK, hl9, hS9, hbl, hL9, hE, hZ, hE2⟩ := C0
  obtain ⟨hsh, hXX, hMX, hA, hW⟩ := hI
  have hX : XSh (aN σ) sh := by rw [hsh]; exact shL_X _
  have hMs : MSh sh := by rw [hsh]; exact shL_M _
  have hO : sh 90 = some (.inr (2, 1)) := by rw [hsh]; exact shL_O _
  refine lv_aload_n hx hb dL_law_172 rfl (lv_at hl 3 rfl) ?_
  refine lv_aload_n hx hb dL_law_173 rfl (lv_at hl 4 rfl) ?_
  refine lv_iload hx hb dL_law_174 (lv_at hl 0 rfl) ?_
  refine lv_iconst (v := 1) hx hb dL_law_176 (by decide) ?_
  refine lv_iadd hx hb dL_law_177 ?_
  refine lv_topi (fun x177' e177' => ?_)
  have n177' : x177' = nI (i + 1) := (by rw [e177', ei, (nlit 1), nI_add])
  refine lsld (j := (i + 1)) hx hb hS9 hbl hW.2 n177' (by omega) hL9 dL_law_178 ?_
  refine lv_aload_n hx hb dL_law_179 rfl (lv_at hl 4 rfl) ?_
  refine lv_iload hx hb dL_law_180 (lv_at hl 0 rfl) ?_
  refine lv_iconst (v := 2) hx hb dL_law_182 (by decide) ?_
  refine lv_iadd hx hb dL_law_183 ?_
  refine lv_topi (fun x183' e183' => ?_)
  have n183' : x183' = nI (i + 2) := (by rw [e183', ei, (nlit 2), nI_add])
  refine lsld (j := (i + 2)) hx hb hS9 hbl hW.2 n183' (by omega) hL9 dL_law_184 ?_
  refine lv_aload_n hx hb dL_law_185 rfl (lv_at hl 4 rfl) ?_
  refine lv_iload hx hb dL_law_186 (lv_at hl 0 rfl) ?_
  refine lv_iconst (v := 3) hx hb dL_law_188 (by decide) ?_
  refine lv_iadd hx hb dL_law_189 ?_
  refine lv_topi (fun x189' e189' => ?_)
  have n189' : x189' = nI (i + 3) := (by rw [e189', ei, (nlit 3), nI_add])
  refine lsld (j := (i + 3)) hx hb hS9 hbl hW.2 n189' (by omega) hL9 dL_law_190 ?_
  refine lv_aload_n hx hb dL_law_191 rfl (lv_at hl 1 rfl) ?_
  refine wc_wiN (vx_runSW (As := [.ref (ad 0), .int (xs (i + 1)), .int (xs (i + 2)), .int (xs (i + 3)), .ref (ad 90)]) (rest := []) ⟨hx, hb, hml, hown, hts⟩ (c_L_setRack l hl9 D cA sh ad M _ σ v hX hXX hO (xs (i + 1)) (xs (i + 2)) (xs (i + 3))) (vx_cwSW 5 hts gL_law_L_setRack rfl rfl rfl (by decide +kernel) ⟨Nat.le_of_ble_eq_true rfl, Nat.le_of_ble_eq_true rfl⟩) (lpreS hK hA hW hE hZ hE2) rfl rfl hl.1 rfl (lv_room (Nat.le_of_ble_eq_true rfl)) dL_law_192 ⟨(by show cells + 1 ≤ 601024; omega), (by show slots + 6 ≤ 7293034; omega)⟩) hA hW (fun x192' M192' H locs p192' hW => ?_)
  try dsimp only at p192'
  have hMX1 := hMX.oA p192'.1
  refine lv_istore (lv' := [(5, .int x192'), (4, .int xi), (3, .ref (ad 90)), (2, .ref (ad 60)), (1, .ref (ad 0)), (0, .ref b)]) hx hb dL_law_195 hl (by decide) rfl (fun ls hl => ?_)
  refine lv_aload_n hx hb dL_law_197 rfl (lv_at hl 3 rfl) ?_
  refine lv_aload_n hx hb dL_law_198 rfl (lv_at hl 5 rfl) ?_
  refine lv_iload hx hb dL_law_199 (lv_at hl 1 rfl) ?_
  refine lv_iconst (v := 1) hx hb dL_law_201 (by decide) ?_
  refine lv_iadd hx hb dL_law_202 ?_
  refine lv_topi (fun x202' e202' => ?_)
  have n202' : x202' = nI (i + 1) := (by rw [e202', ei, (nlit 1), nI_add])
  refine lsld (j := (i + 1)) hx hb hS9 hbl hW.2 n202' (by omega) hL9 dL_law_203 ?_
  refine lv_aload_n hx hb dL_law_204 rfl (lv_at hl 5 rfl) ?_
  refine lv_iload hx hb dL_law_205 (lv_at hl 1 rfl) ?_
  refine lv_iconst (v := 2) hx hb dL_law_207 (by decide) ?_
  refine lv_iadd hx hb dL_law_208 ?_
  refine lv_topi (fun x208' e208' => ?_)
  have n208' : x208' = nI (i + 2) := (by rw [e208', ei, (nlit 2), nI_add])
  refine lsld (j := (i + 2)) hx hb hS9 hbl hW.2 n208' (by omega) hL9 dL_law_209 ?_
  refine lv_aload_n hx hb dL_law_210 rfl (lv_at hl 5 rfl) ?_
  refine lv_iload hx hb dL_law_211 (lv_at hl 1 rfl) ?_
  refine lv_iconst (v := 3) hx hb dL_law_213 (by decide) ?_
  refine lv_iadd hx hb dL_law_214 ?_
  refine lv_topi (fun x214' e214' => ?_)
  have n214' : x214' = nI (i + 3) := (by rw [e214', ei, (nlit 3), nI_add])
  refine lsld (j := (i + 3)) hx hb hS9 hbl hW.2 n214' (by omega) hL9 dL_law_215 ?_
  refine wc_wi (va_runV (As := [.int (xs (i + 1)), .int (xs (i + 2)), .int (xs (i + 3))]) (rest := []) ⟨hx, hb, hml, hown, hts⟩ (c_X10_setRack l D cA sh ad M192' _ σ v hMs hMX1 (xs (i + 1)) (xs (i + 2)) (xs (i + 3))) (cwV 3 hts gL_law_X10_setRack rfl rfl rfl (by decide +kernel) ⟨Nat.le_of_ble_eq_true rfl, Nat.le_of_ble_eq_true rfl⟩) (wpreV hK hW (C := RX10) (ci := 10) (hMs 60 (by decide) (by decide)) rfl) rfl rfl hl.1 rfl (lv_room (Nat.le_of_ble_eq_true rfl)) dL_law_216 ⟨(by show cells + 1 + 0 ≤ 601024; omega), (by show slots + 6 + 0 ≤ 7293034; omega)⟩) hA hW (fun x216' M216' H locs p216' hW => ?_)
  try dsimp only at p216'
  have L9 := law_one (bl := x216'.toInt64) p192' p216' (fun ⟨x, h1, h2⟩ h3 => by rw [h2, h1, h3]) rfl
  refine lv_istore (lv' := [(6, .int x216'), (5, .int x192'), (4, .int xi), (3, .ref (ad 90)), (2, .ref (ad 60)), (1, .ref (ad 0)), (0, .ref b)]) hx hb dL_law_219 hl (by decide) rfl (fun ls hl => ?_)
  refine lv_aload_n hx hb dL_law_221 rfl (lv_at hl 4 rfl) ?_
  refine wc_ri (va_runV (As := []) (rest := []) ⟨hx, hb, hml, hown, hts⟩ (c_X10_thrown l D cA sh ad M216' _ hMs) (cwV 0 hts gL_law_X10_thrown rfl rfl rfl (by decide +kernel) ⟨Nat.le_of_ble_eq_true rfl, Nat.le_of_ble_eq_true rfl⟩) (wpreV hK hW (C := RX10) (ci := 10) (hMs 60 (by decide) (by decide)) rfl) rfl rfl hl.1 rfl (lv_room (Nat.le_of_ble_eq_true rfl)) dL_law_222 ⟨(by show cells + 1 + 0 ≤ 601024; omega), (by show slots + 6 + 0 ≤ 7293034; omega)⟩) hW (fun x222' H locs p222' hW => ?_)
  try dsimp only at p222'
  obtain ⟨σ9, v9, hn9, hX9, hM9⟩ := L9.2.2
  have hsh9 : sh = shL (aN σ9) := by rw [hn9]; exact hsh
  refine lv_iload hx hb dL_law_225 (lv_at hl 1 rfl) ?_
  refine lv_icmp_eq (tgt := 232) hx hb dL_law_227 (by decide) (fun c227' => ?_) (fun c227' => ?_)
  · refine lv_iload hx hb dL_law_232 (lv_at hl 1 rfl) ?_
    refine lv_if_ne (tgt := 249) hx hb dL_law_234 (by decide) (fun c234' => ?_) (fun c234' => ?_)
    · refine lv_goto (tgt := 1840) hx hb dL_law_249 (by decide) ?_
      refine W.widen (k := cells + 2) (n := slots + 12) (by omega) (by omega) ?_
      exact kk σ9 v9 sh ad M216' _ _ _ ⟨hsh9, hX9, hM9, hA, hW⟩ (lv_sub hl [2, 3, 4, 5, 6] rfl)
    · refine lv_aload_n hx hb dL_law_237 rfl (lv_at hl 3 rfl) ?_
      refine lv_iconst (v := 0) hx hb dL_law_238 (by decide) ?_
      refine walL (j := 0) hx hb hK hW hO (nlit 0) (by omega) (by decide) dL_law_239 (fun x239' e239' => ?_)
      refine lv_iload hx hb dL_law_240 (lv_at hl 0 rfl) ?_
      refine lv_i2l hx hb dL_law_242 rfl ?_
      refine lv_topl (fun x242' e242' => ?_)
      refine W.lcmp hx hb dL_law_243 ?_
      refine lv_topi (fun x243' e243' => ?_)
      refine lv_if_eq (tgt := 249) hx hb dL_law_244 (by decide) (fun c244' => ?_) (fun c244' => ?_)
      · refine lv_goto (tgt := 1840) hx hb dL_law_249 (by decide) ?_
        refine W.widen (k := cells + 2) (n := slots + 12) (by omega) (by omega) ?_
        exact kk σ9 v9 sh ad M216' _ _ _ ⟨hsh9, hX9, hM9, hA, hW⟩ (lv_sub hl [2, 3, 4, 5, 6] rfl)
      · exact ((c244' (by rw [e243', e239', e242', L9.2.1 c234']; exact lg_self _))).elim
  · exact ((c227' (p222'.trans L9.1))).elim
set_option maxHeartbeats 4000000 in
set_option maxRecDepth 100000 in
theorem law_setShell {p : Program} {l : Launch} {e : Env} {s : State} {m : MethodId} {below : List Frame} {meth : Method} {cd0 : Code} {b L : Nat} {xs : Nat → Int32} {D : va_G} {cA : Nat → ClassId} (C0 : LC p l s m cd0 b L xs D cA) (σ : AS) (v : VT) (sh : Nat → Option Sh) (ad : Nat → Nat) (M : MS) (H : Heap) (locs : List Loc) (hI : LI D cA s σ v sh ad M H locs) (i : Nat) (hi5 : i + 5 ≤ L) (xi : Int32) (ei : xi = nI i) (ls : Array Slot) (hl : lv_has ls 8 [(4, .int xi), (3, .ref (ad 90)), (2, .ref (ad 60)), (1, .ref (ad 0)), (0, .ref b)]) (cells slots : Nat) (hc9 : cells + 2 ≤ 601024 ∧ slots + 12 ≤ 7293034)
  (kk : ∀ (σ' : AS) (v' : VT) (sh' : Nat → Option Sh) (ad' : Nat → Nat) (M' : MS) (H' : Heap) (locs' : List Loc) (ls' : Array Slot), LI D cA s σ' v' sh' ad' M' H' locs' → lv_has ls' 8 [(4, .int xi), (3, .ref (ad' 90)), (2, .ref (ad' 60)), (1, .ref (ad' 0)), (0, .ref b)] → W p l e room_1 s m #[Value.ref b] below meth cd0 H' locs' (cells + 2) (slots + 12) (lw_Z below #[Value.ref b] s) (F0 m 1840 ls' [])) : W p l e room_1 s m #[Value.ref b] below meth cd0 H locs cells slots (lw_Z below #[Value.ref b] s) (F0 m 252 ls []) := by
  obtain ⟨hx, hb, hml, hown, hts, hK, hl9, hS9, hbl, hL9, hE, hZ, hE2⟩ := C0
  obtain ⟨hsh, hXX, hMX, hA, hW⟩ := hI
  have hX : XSh (aN σ) sh := by rw [hsh]; exact shL_X _
  have hMs : MSh sh := by rw [hsh]; exact shL_M _
  have hO : sh 90 = some (.inr (2, 1)) := by rw [hsh]; exact shL_O _
  refine lv_aload_n hx hb dL_law_252 rfl (lv_at hl 3 rfl) ?_
  refine lv_aload_n hx hb dL_law_253 rfl (lv_at hl 4 rfl) ?_
  refine lv_iload hx hb dL_law_254 (lv_at hl 0 rfl) ?_
  refine lv_iconst (v := 1) hx hb dL_law_256 (by decide) ?_
  refine lv_iadd hx hb dL_law_257 ?_
  refine lv_topi (fun x257' e257' => ?_)
  have n257' : x257' = nI (i + 1) := (by rw [e257', ei, (nlit 1), nI_add])
  refine lsld (j := (i + 1)) hx hb hS9 hbl hW.2 n257' (by omega) hL9 dL_law_258 ?_
  refine lv_aload_n hx hb dL_law_259 rfl (lv_at hl 4 rfl) ?_
  refine lv_iload hx hb dL_law_260 (lv_at hl 0 rfl) ?_
  refine lv_iconst (v := 2) hx hb dL_law_262 (by decide) ?_
  refine lv_iadd hx hb dL_law_263 ?_
  refine lv_topi (fun x263' e263' => ?_)
  have n263' : x263' = nI (i + 2) := (by rw [e263', ei, (nlit 2), nI_add])
  refine lsld (j := (i + 2)) hx hb hS9 hbl hW.2 n263' (by omega) hL9 dL_law_264 ?_
  refine lv_aload_n hx hb dL_law_265 rfl (lv_at hl 4 rfl) ?_
  refine lv_iload hx hb dL_law_266 (lv_at hl 0 rfl) ?_
  refine lv_iconst (v := 3) hx hb dL_law_268 (by decide) ?_
  refine lv_iadd hx hb dL_law_269 ?_
  refine lv_topi (fun x269' e269' => ?_)
  have n269' : x269' = nI (i + 3) := (by rw [e269', ei, (nlit 3), nI_add])
  refine lsld (j := (i + 3)) hx hb hS9 hbl hW.2 n269' (by omega) hL9 dL_law_270 ?_
  refine lv_aload_n hx hb dL_law_271 rfl (lv_at hl 4 rfl) ?_
  refine lv_iload hx hb dL_law_272 (lv_at hl 0 rfl) ?_
  refine lv_iconst (v := 4) hx hb dL_law_274 (by decide) ?_
  refine lv_iadd hx hb dL_law_275 ?_
  refine lv_topi (fun x275' e275' => ?_)
  have n275' : x275' = nI (i + 4) := (by rw [e275', ei, (nlit 4), nI_add])
  refine lsld (j := (i + 4)) hx hb hS9 hbl hW.2 n275' (by omega) hL9 dL_law_276 ?_
  refine lv_aload_n hx hb dL_law_277 rfl (lv_at hl 1 rfl) ?_
  refine wc_wiN (vx_runSW (As := [.ref (ad 0), .int (xs (i + 1)), .int (xs (i + 2)), .int (xs (i + 3)), .int (xs (i + 4)), .ref (ad 90)]) (rest := []) ⟨hx, hb, hml, hown, hts⟩ (c_L_setShell l hl9 D cA sh ad M _ σ v hX hXX hO (xs (i + 1)) (xs (i + 2)) (xs (i + 3)) (xs (i + 4))) (vx_cwSW 6 hts gL_law_L_setShell rfl rfl rfl (by decide +kernel) ⟨Nat.le_of_ble_eq_true rfl, Nat.le_of_ble_eq_true rfl⟩) (lpreS hK hA hW hE hZ hE2) rfl rfl hl.1 rfl (lv_room (Nat.le_of_ble_eq_true rfl)) dL_law_278 ⟨(by show cells + 1 ≤ 601024; omega), (by show slots + 6 ≤ 7293034; omega)⟩) hA hW (fun x278' M278' H locs p278' hW => ?_)
  try dsimp only at p278'
  have hMX1 := hMX.oA p278'.1
  refine lv_istore (lv' := [(5, .int x278'), (4, .int xi), (3, .ref (ad 90)), (2, .ref (ad 60)), (1, .ref (ad 0)), (0, .ref b)]) hx hb dL_law_281 hl (by decide) rfl (fun ls hl => ?_)
  refine lv_aload_n hx hb dL_law_283 rfl (lv_at hl 3 rfl) ?_
  refine lv_aload_n hx hb dL_law_284 rfl (lv_at hl 5 rfl) ?_
  refine lv_iload hx hb dL_law_285 (lv_at hl 1 rfl) ?_
  refine lv_iconst (v := 1) hx hb dL_law_287 (by decide) ?_
  refine lv_iadd hx hb dL_law_288 ?_
  refine lv_topi (fun x288' e288' => ?_)
  have n288' : x288' = nI (i + 1) := (by rw [e288', ei, (nlit 1), nI_add])
  refine lsld (j := (i + 1)) hx hb hS9 hbl hW.2 n288' (by omega) hL9 dL_law_289 ?_
  refine lv_aload_n hx hb dL_law_290 rfl (lv_at hl 5 rfl) ?_
  refine lv_iload hx hb dL_law_291 (lv_at hl 1 rfl) ?_
  refine lv_iconst (v := 2) hx hb dL_law_293 (by decide) ?_
  refine lv_iadd hx hb dL_law_294 ?_
  refine lv_topi (fun x294' e294' => ?_)
  have n294' : x294' = nI (i + 2) := (by rw [e294', ei, (nlit 2), nI_add])
  refine lsld (j := (i + 2)) hx hb hS9 hbl hW.2 n294' (by omega) hL9 dL_law_295 ?_
  refine lv_aload_n hx hb dL_law_296 rfl (lv_at hl 5 rfl) ?_
  refine lv_iload hx hb dL_law_297 (lv_at hl 1 rfl) ?_
  refine lv_iconst (v := 3) hx hb dL_law_299 (by decide) ?_
  refine lv_iadd hx hb dL_law_300 ?_
  refine lv_topi (fun x300' e300' => ?_)
  have n300' : x300' = nI (i + 3) := (by rw [e300', ei, (nlit 3), nI_add])
  refine lsld (j := (i + 3)) hx hb hS9 hbl hW.2 n300' (by omega) hL9 dL_law_301 ?_
  refine lv_aload_n hx hb dL_law_302 rfl (lv_at hl 5 rfl) ?_
  refine lv_iload hx hb dL_law_303 (lv_at hl 1 rfl) ?_
  refine lv_iconst (v := 4) hx hb dL_law_305 (by decide) ?_
  refine lv_iadd hx hb dL_law_306 ?_
  refine lv_topi (fun x306' e306' => ?_)
  have n306' : x306' = nI (i + 4) := (by rw [e306', ei, (nlit 4), nI_add])
  refine lsld (j := (i + 4)) hx hb hS9 hbl hW.2 n306' (by omega) hL9 dL_law_307 ?_
  refine wc_wi (va_runV (As := [.int (xs (i + 1)), .int (xs (i + 2)), .int (xs (i + 3)), .int (xs (i + 4))]) (rest := []) ⟨hx, hb, hml, hown, hts⟩ (c_X10_setShell l D cA sh ad M278' _ σ v hMs hMX1 (xs (i + 1)) (xs (i + 2)) (xs (i + 3)) (xs (i + 4))) (cwV 4 hts gL_law_X10_setShell rfl rfl rfl (by decide +kernel) ⟨Nat.le_of_ble_eq_true rfl, Nat.le_of_ble_eq_true rfl⟩) (wpreV hK hW (C := RX10) (ci := 10) (hMs 60 (by decide) (by decide)) rfl) rfl rfl hl.1 rfl (lv_room (Nat.le_of_ble_eq_true rfl)) dL_law_308 ⟨(by show cells + 1 + 0 ≤ 601024; omega), (by show slots + 6 + 0 ≤ 7293034; omega)⟩) hA hW (fun x308' M308' H locs p308' hW => ?_)
  try dsimp only at p308'
  have L9 := law_one (bl := x308'.toInt64) p278' p308' (fun ⟨x, h1, h2⟩ h3 => by rw [h2, h1, h3]) rfl
  refine lv_istore (lv' := [(6, .int x308'), (5, .int x278'), (4, .int xi), (3, .ref (ad 90)), (2, .ref (ad 60)), (1, .ref (ad 0)), (0, .ref b)]) hx hb dL_law_311 hl (by decide) rfl (fun ls hl => ?_)
  refine lv_aload_n hx hb dL_law_313 rfl (lv_at hl 4 rfl) ?_
  refine wc_ri (va_runV (As := []) (rest := []) ⟨hx, hb, hml, hown, hts⟩ (c_X10_thrown l D cA sh ad M308' _ hMs) (cwV 0 hts gL_law_X10_thrown rfl rfl rfl (by decide +kernel) ⟨Nat.le_of_ble_eq_true rfl, Nat.le_of_ble_eq_true rfl⟩) (wpreV hK hW (C := RX10) (ci := 10) (hMs 60 (by decide) (by decide)) rfl) rfl rfl hl.1 rfl (lv_room (Nat.le_of_ble_eq_true rfl)) dL_law_314 ⟨(by show cells + 1 + 0 ≤ 601024; omega), (by show slots + 6 + 0 ≤ 7293034; omega)⟩) hW (fun x314' H locs p314' hW => ?_)
  try dsimp only at p314'
  obtain ⟨σ9, v9, hn9, hX9, hM9⟩ := L9.2.2
  have hsh9 : sh = shL (aN σ9) := by rw [hn9]; exact hsh
  refine lv_iload hx hb dL_law_317 (lv_at hl 1 rfl) ?_
  refine lv_icmp_eq (tgt := 324) hx hb dL_law_319 (by decide) (fun c319' => ?_) (fun c319' => ?_)
  · refine lv_iload hx hb dL_law_324 (lv_at hl 1 rfl) ?_
    refine lv_if_ne (tgt := 341) hx hb dL_law_326 (by decide) (fun c326' => ?_) (fun c326' => ?_)
    · refine lv_goto (tgt := 1840) hx hb dL_law_341 (by decide) ?_
      refine W.widen (k := cells + 2) (n := slots + 12) (by omega) (by omega) ?_
      exact kk σ9 v9 sh ad M308' _ _ _ ⟨hsh9, hX9, hM9, hA, hW⟩ (lv_sub hl [2, 3, 4, 5, 6] rfl)
    · refine lv_aload_n hx hb dL_law_329 rfl (lv_at hl 3 rfl) ?_
      refine lv_iconst (v := 0) hx hb dL_law_330 (by decide) ?_
      refine walL (j := 0) hx hb hK hW hO (nlit 0) (by omega) (by decide) dL_law_331 (fun x331' e331' => ?_)
      refine lv_iload hx hb dL_law_332 (lv_at hl 0 rfl) ?_
      refine lv_i2l hx hb dL_law_334 rfl ?_
      refine lv_topl (fun x334' e334' => ?_)
      refine W.lcmp hx hb dL_law_335 ?_
      refine lv_topi (fun x335' e335' => ?_)
      refine lv_if_eq (tgt := 341) hx hb dL_law_336 (by decide) (fun c336' => ?_) (fun c336' => ?_)
      · refine lv_goto (tgt := 1840) hx hb dL_law_341 (by decide) ?_
        refine W.widen (k := cells + 2) (n := slots + 12) (by omega) (by omega) ?_
        exact kk σ9 v9 sh ad M308' _ _ _ ⟨hsh9, hX9, hM9, hA, hW⟩ (lv_sub hl [2, 3, 4, 5, 6] rfl)
      · exact ((c336' (by rw [e335', e331', e334', L9.2.1 c326']; exact lg_self _))).elim
  · exact ((c319' (p314'.trans L9.1))).elim
set_option maxHeartbeats 4000000 in
set_option maxRecDepth 100000 in
theorem law_setWind {p : Program} {l : Launch} {e : Env} {s : State} {m : MethodId} {below : List Frame} {meth : Method} {cd0 : Code} {b L : Nat} {xs : Nat → Int32} {D : va_G} {cA : Nat → ClassId} (C0 : LC p l s m cd0 b L xs D cA) (σ : AS) (v : VT) (sh : Nat → Option Sh) (ad : Nat → Nat) (M : MS) (H : Heap) (locs : List Loc) (hI : LI D cA s σ v sh ad M H locs) (i : Nat) (hi5 : i + 5 ≤ L) (xi : Int32) (ei : xi = nI i) (ls : Array Slot) (hl : lv_has ls 8 [(4, .int xi), (3, .ref (ad 90)), (2, .ref (ad 60)), (1, .ref (ad 0)), (0, .ref b)]) (cells slots : Nat) (hc9 : cells + 2 ≤ 601024 ∧ slots + 12 ≤ 7293034)
  (kk : ∀ (σ' : AS) (v' : VT) (sh' : Nat → Option Sh) (ad' : Nat → Nat) (M' : MS) (H' : Heap) (locs' : List Loc) (ls' : Array Slot), LI D cA s σ' v' sh' ad' M' H' locs' → lv_has ls' 8 [(4, .int xi), (3, .ref (ad' 90)), (2, .ref (ad' 60)), (1, .ref (ad' 0)), (0, .ref b)] → W p l e room_1 s m #[Value.ref b] below meth cd0 H' locs' (cells + 2) (slots + 12) (lw_Z below #[Value.ref b] s) (F0 m 1840 ls' [])) : W p l e room_1 s m #[Value.ref b] below meth cd0 H locs cells slots (lw_Z below #[Value.ref b] s) (F0 m 344 ls []) := by
  obtain ⟨hx, hb, hml, hown, hts, hK, hl9, hS9, hbl, hL9, hE, hZ, hE2⟩ := C0
  obtain ⟨hsh, hXX, hMX, hA, hW⟩ := hI
  have hX : XSh (aN σ) sh := by rw [hsh]; exact shL_X _
  have hMs : MSh sh := by rw [hsh]; exact shL_M _
  have hO : sh 90 = some (.inr (2, 1)) := by rw [hsh]; exact shL_O _
  refine lv_aload_n hx hb dL_law_344 rfl (lv_at hl 3 rfl) ?_
  refine lv_aload_n hx hb dL_law_345 rfl (lv_at hl 4 rfl) ?_
  refine lv_iload hx hb dL_law_346 (lv_at hl 0 rfl) ?_
  refine lv_iconst (v := 1) hx hb dL_law_348 (by decide) ?_
  refine lv_iadd hx hb dL_law_349 ?_
  refine lv_topi (fun x349' e349' => ?_)
  have n349' : x349' = nI (i + 1) := (by rw [e349', ei, (nlit 1), nI_add])
  refine lsld (j := (i + 1)) hx hb hS9 hbl hW.2 n349' (by omega) hL9 dL_law_350 ?_
  refine lv_aload_n hx hb dL_law_351 rfl (lv_at hl 4 rfl) ?_
  refine lv_iload hx hb dL_law_352 (lv_at hl 0 rfl) ?_
  refine lv_iconst (v := 2) hx hb dL_law_354 (by decide) ?_
  refine lv_iadd hx hb dL_law_355 ?_
  refine lv_topi (fun x355' e355' => ?_)
  have n355' : x355' = nI (i + 2) := (by rw [e355', ei, (nlit 2), nI_add])
  refine lsld (j := (i + 2)) hx hb hS9 hbl hW.2 n355' (by omega) hL9 dL_law_356 ?_
  refine lv_aload_n hx hb dL_law_357 rfl (lv_at hl 4 rfl) ?_
  refine lv_iload hx hb dL_law_358 (lv_at hl 0 rfl) ?_
  refine lv_iconst (v := 3) hx hb dL_law_360 (by decide) ?_
  refine lv_iadd hx hb dL_law_361 ?_
  refine lv_topi (fun x361' e361' => ?_)
  have n361' : x361' = nI (i + 3) := (by rw [e361', ei, (nlit 3), nI_add])
  refine lsld (j := (i + 3)) hx hb hS9 hbl hW.2 n361' (by omega) hL9 dL_law_362 ?_
  refine lv_aload_n hx hb dL_law_363 rfl (lv_at hl 1 rfl) ?_
  refine wc_wiN (vx_runSW (As := [.ref (ad 0), .int (xs (i + 1)), .int (xs (i + 2)), .int (xs (i + 3)), .ref (ad 90)]) (rest := []) ⟨hx, hb, hml, hown, hts⟩ (c_L_setWind l hl9 D cA sh ad M _ σ v hX hXX hO (xs (i + 1)) (xs (i + 2)) (xs (i + 3))) (vx_cwSW 5 hts gL_law_L_setWind rfl rfl rfl (by decide +kernel) ⟨Nat.le_of_ble_eq_true rfl, Nat.le_of_ble_eq_true rfl⟩) (lpreS hK hA hW hE hZ hE2) rfl rfl hl.1 rfl (lv_room (Nat.le_of_ble_eq_true rfl)) dL_law_364 ⟨(by show cells + 1 ≤ 601024; omega), (by show slots + 6 ≤ 7293034; omega)⟩) hA hW (fun x364' M364' H locs p364' hW => ?_)
  try dsimp only at p364'
  have hMX1 := hMX.oA p364'.1
  refine lv_istore (lv' := [(5, .int x364'), (4, .int xi), (3, .ref (ad 90)), (2, .ref (ad 60)), (1, .ref (ad 0)), (0, .ref b)]) hx hb dL_law_367 hl (by decide) rfl (fun ls hl => ?_)
  refine lv_aload_n hx hb dL_law_369 rfl (lv_at hl 3 rfl) ?_
  refine lv_aload_n hx hb dL_law_370 rfl (lv_at hl 5 rfl) ?_
  refine lv_iload hx hb dL_law_371 (lv_at hl 1 rfl) ?_
  refine lv_iconst (v := 1) hx hb dL_law_373 (by decide) ?_
  refine lv_iadd hx hb dL_law_374 ?_
  refine lv_topi (fun x374' e374' => ?_)
  have n374' : x374' = nI (i + 1) := (by rw [e374', ei, (nlit 1), nI_add])
  refine lsld (j := (i + 1)) hx hb hS9 hbl hW.2 n374' (by omega) hL9 dL_law_375 ?_
  refine lv_aload_n hx hb dL_law_376 rfl (lv_at hl 5 rfl) ?_
  refine lv_iload hx hb dL_law_377 (lv_at hl 1 rfl) ?_
  refine lv_iconst (v := 2) hx hb dL_law_379 (by decide) ?_
  refine lv_iadd hx hb dL_law_380 ?_
  refine lv_topi (fun x380' e380' => ?_)
  have n380' : x380' = nI (i + 2) := (by rw [e380', ei, (nlit 2), nI_add])
  refine lsld (j := (i + 2)) hx hb hS9 hbl hW.2 n380' (by omega) hL9 dL_law_381 ?_
  refine lv_aload_n hx hb dL_law_382 rfl (lv_at hl 5 rfl) ?_
  refine lv_iload hx hb dL_law_383 (lv_at hl 1 rfl) ?_
  refine lv_iconst (v := 3) hx hb dL_law_385 (by decide) ?_
  refine lv_iadd hx hb dL_law_386 ?_
  refine lv_topi (fun x386' e386' => ?_)
  have n386' : x386' = nI (i + 3) := (by rw [e386', ei, (nlit 3), nI_add])
  refine lsld (j := (i + 3)) hx hb hS9 hbl hW.2 n386' (by omega) hL9 dL_law_387 ?_
  refine wc_wi (va_runV (As := [.int (xs (i + 1)), .int (xs (i + 2)), .int (xs (i + 3))]) (rest := []) ⟨hx, hb, hml, hown, hts⟩ (c_X10_setWind l D cA sh ad M364' _ σ v hMs hMX1 (xs (i + 1)) (xs (i + 2)) (xs (i + 3))) (cwV 3 hts gL_law_X10_setWind rfl rfl rfl (by decide +kernel) ⟨Nat.le_of_ble_eq_true rfl, Nat.le_of_ble_eq_true rfl⟩) (wpreV hK hW (C := RX10) (ci := 10) (hMs 60 (by decide) (by decide)) rfl) rfl rfl hl.1 rfl (lv_room (Nat.le_of_ble_eq_true rfl)) dL_law_388 ⟨(by show cells + 1 + 0 ≤ 601024; omega), (by show slots + 6 + 0 ≤ 7293034; omega)⟩) hA hW (fun x388' M388' H locs p388' hW => ?_)
  try dsimp only at p388'
  have L9 := law_one (bl := x388'.toInt64) p364' p388' (fun ⟨x, h1, h2⟩ h3 => by rw [h2, h1, h3]) rfl
  refine lv_istore (lv' := [(6, .int x388'), (5, .int x364'), (4, .int xi), (3, .ref (ad 90)), (2, .ref (ad 60)), (1, .ref (ad 0)), (0, .ref b)]) hx hb dL_law_391 hl (by decide) rfl (fun ls hl => ?_)
  refine lv_aload_n hx hb dL_law_393 rfl (lv_at hl 4 rfl) ?_
  refine wc_ri (va_runV (As := []) (rest := []) ⟨hx, hb, hml, hown, hts⟩ (c_X10_thrown l D cA sh ad M388' _ hMs) (cwV 0 hts gL_law_X10_thrown rfl rfl rfl (by decide +kernel) ⟨Nat.le_of_ble_eq_true rfl, Nat.le_of_ble_eq_true rfl⟩) (wpreV hK hW (C := RX10) (ci := 10) (hMs 60 (by decide) (by decide)) rfl) rfl rfl hl.1 rfl (lv_room (Nat.le_of_ble_eq_true rfl)) dL_law_394 ⟨(by show cells + 1 + 0 ≤ 601024; omega), (by show slots + 6 + 0 ≤ 7293034; omega)⟩) hW (fun x394' H locs p394' hW => ?_)
  try dsimp only at p394'
  obtain ⟨σ9, v9, hn9, hX9, hM9⟩ := L9.2.2
  have hsh9 : sh = shL (aN σ9) := by rw [hn9]; exact hsh
  refine lv_iload hx hb dL_law_397 (lv_at hl 1 rfl) ?_
  refine lv_icmp_eq (tgt := 404) hx hb dL_law_399 (by decide) (fun c399' => ?_) (fun c399' => ?_)
  · refine lv_iload hx hb dL_law_404 (lv_at hl 1 rfl) ?_
    refine lv_if_ne (tgt := 421) hx hb dL_law_406 (by decide) (fun c406' => ?_) (fun c406' => ?_)
    · refine lv_goto (tgt := 1840) hx hb dL_law_421 (by decide) ?_
      refine W.widen (k := cells + 2) (n := slots + 12) (by omega) (by omega) ?_
      exact kk σ9 v9 sh ad M388' _ _ _ ⟨hsh9, hX9, hM9, hA, hW⟩ (lv_sub hl [2, 3, 4, 5, 6] rfl)
    · refine lv_aload_n hx hb dL_law_409 rfl (lv_at hl 3 rfl) ?_
      refine lv_iconst (v := 0) hx hb dL_law_410 (by decide) ?_
      refine walL (j := 0) hx hb hK hW hO (nlit 0) (by omega) (by decide) dL_law_411 (fun x411' e411' => ?_)
      refine lv_iload hx hb dL_law_412 (lv_at hl 0 rfl) ?_
      refine lv_i2l hx hb dL_law_414 rfl ?_
      refine lv_topl (fun x414' e414' => ?_)
      refine W.lcmp hx hb dL_law_415 ?_
      refine lv_topi (fun x415' e415' => ?_)
      refine lv_if_eq (tgt := 421) hx hb dL_law_416 (by decide) (fun c416' => ?_) (fun c416' => ?_)
      · refine lv_goto (tgt := 1840) hx hb dL_law_421 (by decide) ?_
        refine W.widen (k := cells + 2) (n := slots + 12) (by omega) (by omega) ?_
        exact kk σ9 v9 sh ad M388' _ _ _ ⟨hsh9, hX9, hM9, hA, hW⟩ (lv_sub hl [2, 3, 4, 5, 6] rfl)
      · exact ((c416' (by rw [e415', e411', e414', L9.2.1 c406']; exact lg_self _))).elim
  · exact ((c399' (p394'.trans L9.1))).elim
set_option maxHeartbeats 4000000 in
set_option maxRecDepth 100000 in
theorem law_setPeople {p : Program} {l : Launch} {e : Env} {s : State} {m : MethodId} {below : List Frame} {meth : Method} {cd0 : Code} {b L : Nat} {xs : Nat → Int32} {D : va_G} {cA : Nat → ClassId} (C0 : LC p l s m cd0 b L xs D cA) (σ : AS) (v : VT) (sh : Nat → Option Sh) (ad : Nat → Nat) (M : MS) (H : Heap) (locs : List Loc) (hI : LI D cA s σ v sh ad M H locs) (i : Nat) (hi5 : i + 5 ≤ L) (xi : Int32) (ei : xi = nI i) (ls : Array Slot) (hl : lv_has ls 8 [(4, .int xi), (3, .ref (ad 90)), (2, .ref (ad 60)), (1, .ref (ad 0)), (0, .ref b)]) (cells slots : Nat) (hc9 : cells + 2 ≤ 601024 ∧ slots + 12 ≤ 7293034)
  (kk : ∀ (σ' : AS) (v' : VT) (sh' : Nat → Option Sh) (ad' : Nat → Nat) (M' : MS) (H' : Heap) (locs' : List Loc) (ls' : Array Slot), LI D cA s σ' v' sh' ad' M' H' locs' → lv_has ls' 8 [(4, .int xi), (3, .ref (ad' 90)), (2, .ref (ad' 60)), (1, .ref (ad' 0)), (0, .ref b)] → W p l e room_1 s m #[Value.ref b] below meth cd0 H' locs' (cells + 2) (slots + 12) (lw_Z below #[Value.ref b] s) (F0 m 1840 ls' [])) : W p l e room_1 s m #[Value.ref b] below meth cd0 H locs cells slots (lw_Z below #[Value.ref b] s) (F0 m 424 ls []) := by
  obtain ⟨hx, hb, hml, hown, hts, hK, hl9, hS9, hbl, hL9, hE, hZ, hE2⟩ := C0
  obtain ⟨hsh, hXX, hMX, hA, hW⟩ := hI
  have hX : XSh (aN σ) sh := by rw [hsh]; exact shL_X _
  have hMs : MSh sh := by rw [hsh]; exact shL_M _
  have hO : sh 90 = some (.inr (2, 1)) := by rw [hsh]; exact shL_O _
  refine lv_aload_n hx hb dL_law_424 rfl (lv_at hl 3 rfl) ?_
  refine lv_aload_n hx hb dL_law_425 rfl (lv_at hl 4 rfl) ?_
  refine lv_iload hx hb dL_law_426 (lv_at hl 0 rfl) ?_
  refine lv_iconst (v := 1) hx hb dL_law_428 (by decide) ?_
  refine lv_iadd hx hb dL_law_429 ?_
  refine lv_topi (fun x429' e429' => ?_)
  have n429' : x429' = nI (i + 1) := (by rw [e429', ei, (nlit 1), nI_add])
  refine lsld (j := (i + 1)) hx hb hS9 hbl hW.2 n429' (by omega) hL9 dL_law_430 ?_
  refine lv_aload_n hx hb dL_law_431 rfl (lv_at hl 4 rfl) ?_
  refine lv_iload hx hb dL_law_432 (lv_at hl 0 rfl) ?_
  refine lv_iconst (v := 2) hx hb dL_law_434 (by decide) ?_
  refine lv_iadd hx hb dL_law_435 ?_
  refine lv_topi (fun x435' e435' => ?_)
  have n435' : x435' = nI (i + 2) := (by rw [e435', ei, (nlit 2), nI_add])
  refine lsld (j := (i + 2)) hx hb hS9 hbl hW.2 n435' (by omega) hL9 dL_law_436 ?_
  refine lv_aload_n hx hb dL_law_437 rfl (lv_at hl 4 rfl) ?_
  refine lv_iload hx hb dL_law_438 (lv_at hl 0 rfl) ?_
  refine lv_iconst (v := 3) hx hb dL_law_440 (by decide) ?_
  refine lv_iadd hx hb dL_law_441 ?_
  refine lv_topi (fun x441' e441' => ?_)
  have n441' : x441' = nI (i + 3) := (by rw [e441', ei, (nlit 3), nI_add])
  refine lsld (j := (i + 3)) hx hb hS9 hbl hW.2 n441' (by omega) hL9 dL_law_442 ?_
  refine lv_aload_n hx hb dL_law_443 rfl (lv_at hl 1 rfl) ?_
  refine wc_wiN (vx_runSW (As := [.ref (ad 0), .int (xs (i + 1)), .int (xs (i + 2)), .int (xs (i + 3)), .ref (ad 90)]) (rest := []) ⟨hx, hb, hml, hown, hts⟩ (c_L_setPeople l hl9 D cA sh ad M _ σ v hX hXX hO (xs (i + 1)) (xs (i + 2)) (xs (i + 3))) (vx_cwSW 5 hts gL_law_L_setPeople rfl rfl rfl (by decide +kernel) ⟨Nat.le_of_ble_eq_true rfl, Nat.le_of_ble_eq_true rfl⟩) (lpreS hK hA hW hE hZ hE2) rfl rfl hl.1 rfl (lv_room (Nat.le_of_ble_eq_true rfl)) dL_law_444 ⟨(by show cells + 1 ≤ 601024; omega), (by show slots + 6 ≤ 7293034; omega)⟩) hA hW (fun x444' M444' H locs p444' hW => ?_)
  try dsimp only at p444'
  have hMX1 := hMX.oA p444'.1
  refine lv_istore (lv' := [(5, .int x444'), (4, .int xi), (3, .ref (ad 90)), (2, .ref (ad 60)), (1, .ref (ad 0)), (0, .ref b)]) hx hb dL_law_447 hl (by decide) rfl (fun ls hl => ?_)
  refine lv_aload_n hx hb dL_law_449 rfl (lv_at hl 3 rfl) ?_
  refine lv_aload_n hx hb dL_law_450 rfl (lv_at hl 5 rfl) ?_
  refine lv_iload hx hb dL_law_451 (lv_at hl 1 rfl) ?_
  refine lv_iconst (v := 1) hx hb dL_law_453 (by decide) ?_
  refine lv_iadd hx hb dL_law_454 ?_
  refine lv_topi (fun x454' e454' => ?_)
  have n454' : x454' = nI (i + 1) := (by rw [e454', ei, (nlit 1), nI_add])
  refine lsld (j := (i + 1)) hx hb hS9 hbl hW.2 n454' (by omega) hL9 dL_law_455 ?_
  refine lv_aload_n hx hb dL_law_456 rfl (lv_at hl 5 rfl) ?_
  refine lv_iload hx hb dL_law_457 (lv_at hl 1 rfl) ?_
  refine lv_iconst (v := 2) hx hb dL_law_459 (by decide) ?_
  refine lv_iadd hx hb dL_law_460 ?_
  refine lv_topi (fun x460' e460' => ?_)
  have n460' : x460' = nI (i + 2) := (by rw [e460', ei, (nlit 2), nI_add])
  refine lsld (j := (i + 2)) hx hb hS9 hbl hW.2 n460' (by omega) hL9 dL_law_461 ?_
  refine lv_aload_n hx hb dL_law_462 rfl (lv_at hl 5 rfl) ?_
  refine lv_iload hx hb dL_law_463 (lv_at hl 1 rfl) ?_
  refine lv_iconst (v := 3) hx hb dL_law_465 (by decide) ?_
  refine lv_iadd hx hb dL_law_466 ?_
  refine lv_topi (fun x466' e466' => ?_)
  have n466' : x466' = nI (i + 3) := (by rw [e466', ei, (nlit 3), nI_add])
  refine lsld (j := (i + 3)) hx hb hS9 hbl hW.2 n466' (by omega) hL9 dL_law_467 ?_
  refine wc_wi (va_runV (As := [.int (xs (i + 1)), .int (xs (i + 2)), .int (xs (i + 3))]) (rest := []) ⟨hx, hb, hml, hown, hts⟩ (c_X10_setPeople l D cA sh ad M444' _ σ v hMs hMX1 (xs (i + 1)) (xs (i + 2)) (xs (i + 3))) (cwV 3 hts gL_law_X10_setPeople rfl rfl rfl (by decide +kernel) ⟨Nat.le_of_ble_eq_true rfl, Nat.le_of_ble_eq_true rfl⟩) (wpreV hK hW (C := RX10) (ci := 10) (hMs 60 (by decide) (by decide)) rfl) rfl rfl hl.1 rfl (lv_room (Nat.le_of_ble_eq_true rfl)) dL_law_468 ⟨(by show cells + 1 + 0 ≤ 601024; omega), (by show slots + 6 + 0 ≤ 7293034; omega)⟩) hA hW (fun x468' M468' H locs p468' hW => ?_)
  try dsimp only at p468'
  have L9 := law_one (bl := x468'.toInt64) p444' p468' (fun ⟨x, h1, h2⟩ h3 => by rw [h2, h1, h3]) rfl
  refine lv_istore (lv' := [(6, .int x468'), (5, .int x444'), (4, .int xi), (3, .ref (ad 90)), (2, .ref (ad 60)), (1, .ref (ad 0)), (0, .ref b)]) hx hb dL_law_471 hl (by decide) rfl (fun ls hl => ?_)
  refine lv_aload_n hx hb dL_law_473 rfl (lv_at hl 4 rfl) ?_
  refine wc_ri (va_runV (As := []) (rest := []) ⟨hx, hb, hml, hown, hts⟩ (c_X10_thrown l D cA sh ad M468' _ hMs) (cwV 0 hts gL_law_X10_thrown rfl rfl rfl (by decide +kernel) ⟨Nat.le_of_ble_eq_true rfl, Nat.le_of_ble_eq_true rfl⟩) (wpreV hK hW (C := RX10) (ci := 10) (hMs 60 (by decide) (by decide)) rfl) rfl rfl hl.1 rfl (lv_room (Nat.le_of_ble_eq_true rfl)) dL_law_474 ⟨(by show cells + 1 + 0 ≤ 601024; omega), (by show slots + 6 + 0 ≤ 7293034; omega)⟩) hW (fun x474' H locs p474' hW => ?_)
  try dsimp only at p474'
  obtain ⟨σ9, v9, hn9, hX9, hM9⟩ := L9.2.2
  have hsh9 : sh = shL (aN σ9) := by rw [hn9]; exact hsh
  refine lv_iload hx hb dL_law_477 (lv_at hl 1 rfl) ?_
  refine lv_icmp_eq (tgt := 484) hx hb dL_law_479 (by decide) (fun c479' => ?_) (fun c479' => ?_)
  · refine lv_iload hx hb dL_law_484 (lv_at hl 1 rfl) ?_
    refine lv_if_ne (tgt := 501) hx hb dL_law_486 (by decide) (fun c486' => ?_) (fun c486' => ?_)
    · refine lv_goto (tgt := 1840) hx hb dL_law_501 (by decide) ?_
      refine W.widen (k := cells + 2) (n := slots + 12) (by omega) (by omega) ?_
      exact kk σ9 v9 sh ad M468' _ _ _ ⟨hsh9, hX9, hM9, hA, hW⟩ (lv_sub hl [2, 3, 4, 5, 6] rfl)
    · refine lv_aload_n hx hb dL_law_489 rfl (lv_at hl 3 rfl) ?_
      refine lv_iconst (v := 0) hx hb dL_law_490 (by decide) ?_
      refine walL (j := 0) hx hb hK hW hO (nlit 0) (by omega) (by decide) dL_law_491 (fun x491' e491' => ?_)
      refine lv_iload hx hb dL_law_492 (lv_at hl 0 rfl) ?_
      refine lv_i2l hx hb dL_law_494 rfl ?_
      refine lv_topl (fun x494' e494' => ?_)
      refine W.lcmp hx hb dL_law_495 ?_
      refine lv_topi (fun x495' e495' => ?_)
      refine lv_if_eq (tgt := 501) hx hb dL_law_496 (by decide) (fun c496' => ?_) (fun c496' => ?_)
      · refine lv_goto (tgt := 1840) hx hb dL_law_501 (by decide) ?_
        refine W.widen (k := cells + 2) (n := slots + 12) (by omega) (by omega) ?_
        exact kk σ9 v9 sh ad M468' _ _ _ ⟨hsh9, hX9, hM9, hA, hW⟩ (lv_sub hl [2, 3, 4, 5, 6] rfl)
      · exact ((c496' (by rw [e495', e491', e494', L9.2.1 c486']; exact lg_self _))).elim
  · exact ((c479' (p474'.trans L9.1))).elim
set_option maxHeartbeats 4000000 in
set_option maxRecDepth 100000 in
theorem law_setValue {p : Program} {l : Launch} {e : Env} {s : State} {m : MethodId} {below : List Frame} {meth : Method} {cd0 : Code} {b L : Nat} {xs : Nat → Int32} {D : va_G} {cA : Nat → ClassId} (C0 : LC p l s m cd0 b L xs D cA) (σ : AS) (v : VT) (sh : Nat → Option Sh) (ad : Nat → Nat) (M : MS) (H : Heap) (locs : List Loc) (hI : LI D cA s σ v sh ad M H locs) (i : Nat) (hi5 : i + 5 ≤ L) (xi : Int32) (ei : xi = nI i) (ls : Array Slot) (hl : lv_has ls 8 [(4, .int xi), (3, .ref (ad 90)), (2, .ref (ad 60)), (1, .ref (ad 0)), (0, .ref b)]) (cells slots : Nat) (hc9 : cells + 2 ≤ 601024 ∧ slots + 12 ≤ 7293034)
  (kk : ∀ (σ' : AS) (v' : VT) (sh' : Nat → Option Sh) (ad' : Nat → Nat) (M' : MS) (H' : Heap) (locs' : List Loc) (ls' : Array Slot), LI D cA s σ' v' sh' ad' M' H' locs' → lv_has ls' 8 [(4, .int xi), (3, .ref (ad' 90)), (2, .ref (ad' 60)), (1, .ref (ad' 0)), (0, .ref b)] → W p l e room_1 s m #[Value.ref b] below meth cd0 H' locs' (cells + 2) (slots + 12) (lw_Z below #[Value.ref b] s) (F0 m 1840 ls' [])) : W p l e room_1 s m #[Value.ref b] below meth cd0 H locs cells slots (lw_Z below #[Value.ref b] s) (F0 m 504 ls []) := by
  obtain ⟨hx, hb, hml, hown, hts, hK, hl9, hS9, hbl, hL9, hE, hZ, hE2⟩ := C0
  obtain ⟨hsh, hXX, hMX, hA, hW⟩ := hI
  have hX : XSh (aN σ) sh := by rw [hsh]; exact shL_X _
  have hMs : MSh sh := by rw [hsh]; exact shL_M _
  have hO : sh 90 = some (.inr (2, 1)) := by rw [hsh]; exact shL_O _
  refine lv_aload_n hx hb dL_law_504 rfl (lv_at hl 3 rfl) ?_
  refine lv_aload_n hx hb dL_law_505 rfl (lv_at hl 4 rfl) ?_
  refine lv_iload hx hb dL_law_506 (lv_at hl 0 rfl) ?_
  refine lv_iconst (v := 1) hx hb dL_law_508 (by decide) ?_
  refine lv_iadd hx hb dL_law_509 ?_
  refine lv_topi (fun x509' e509' => ?_)
  have n509' : x509' = nI (i + 1) := (by rw [e509', ei, (nlit 1), nI_add])
  refine lsld (j := (i + 1)) hx hb hS9 hbl hW.2 n509' (by omega) hL9 dL_law_510 ?_
  refine lv_aload_n hx hb dL_law_511 rfl (lv_at hl 4 rfl) ?_
  refine lv_iload hx hb dL_law_512 (lv_at hl 0 rfl) ?_
  refine lv_iconst (v := 2) hx hb dL_law_514 (by decide) ?_
  refine lv_iadd hx hb dL_law_515 ?_
  refine lv_topi (fun x515' e515' => ?_)
  have n515' : x515' = nI (i + 2) := (by rw [e515', ei, (nlit 2), nI_add])
  refine lsld (j := (i + 2)) hx hb hS9 hbl hW.2 n515' (by omega) hL9 dL_law_516 ?_
  refine lv_aload_n hx hb dL_law_517 rfl (lv_at hl 4 rfl) ?_
  refine lv_iload hx hb dL_law_518 (lv_at hl 0 rfl) ?_
  refine lv_iconst (v := 3) hx hb dL_law_520 (by decide) ?_
  refine lv_iadd hx hb dL_law_521 ?_
  refine lv_topi (fun x521' e521' => ?_)
  have n521' : x521' = nI (i + 3) := (by rw [e521', ei, (nlit 3), nI_add])
  refine lsld (j := (i + 3)) hx hb hS9 hbl hW.2 n521' (by omega) hL9 dL_law_522 ?_
  refine lv_aload_n hx hb dL_law_523 rfl (lv_at hl 1 rfl) ?_
  refine wc_wiN (vx_runSW (As := [.ref (ad 0), .int (xs (i + 1)), .int (xs (i + 2)), .int (xs (i + 3)), .ref (ad 90)]) (rest := []) ⟨hx, hb, hml, hown, hts⟩ (c_L_setValue l hl9 D cA sh ad M _ σ v hX hXX hO (xs (i + 1)) (xs (i + 2)) (xs (i + 3))) (vx_cwSW 5 hts gL_law_L_setValue rfl rfl rfl (by decide +kernel) ⟨Nat.le_of_ble_eq_true rfl, Nat.le_of_ble_eq_true rfl⟩) (lpreS hK hA hW hE hZ hE2) rfl rfl hl.1 rfl (lv_room (Nat.le_of_ble_eq_true rfl)) dL_law_524 ⟨(by show cells + 1 ≤ 601024; omega), (by show slots + 6 ≤ 7293034; omega)⟩) hA hW (fun x524' M524' H locs p524' hW => ?_)
  try dsimp only at p524'
  have hMX1 := hMX.oA p524'.1
  refine lv_istore (lv' := [(5, .int x524'), (4, .int xi), (3, .ref (ad 90)), (2, .ref (ad 60)), (1, .ref (ad 0)), (0, .ref b)]) hx hb dL_law_527 hl (by decide) rfl (fun ls hl => ?_)
  refine lv_aload_n hx hb dL_law_529 rfl (lv_at hl 3 rfl) ?_
  refine lv_aload_n hx hb dL_law_530 rfl (lv_at hl 5 rfl) ?_
  refine lv_iload hx hb dL_law_531 (lv_at hl 1 rfl) ?_
  refine lv_iconst (v := 1) hx hb dL_law_533 (by decide) ?_
  refine lv_iadd hx hb dL_law_534 ?_
  refine lv_topi (fun x534' e534' => ?_)
  have n534' : x534' = nI (i + 1) := (by rw [e534', ei, (nlit 1), nI_add])
  refine lsld (j := (i + 1)) hx hb hS9 hbl hW.2 n534' (by omega) hL9 dL_law_535 ?_
  refine lv_aload_n hx hb dL_law_536 rfl (lv_at hl 5 rfl) ?_
  refine lv_iload hx hb dL_law_537 (lv_at hl 1 rfl) ?_
  refine lv_iconst (v := 2) hx hb dL_law_539 (by decide) ?_
  refine lv_iadd hx hb dL_law_540 ?_
  refine lv_topi (fun x540' e540' => ?_)
  have n540' : x540' = nI (i + 2) := (by rw [e540', ei, (nlit 2), nI_add])
  refine lsld (j := (i + 2)) hx hb hS9 hbl hW.2 n540' (by omega) hL9 dL_law_541 ?_
  refine lv_aload_n hx hb dL_law_542 rfl (lv_at hl 5 rfl) ?_
  refine lv_iload hx hb dL_law_543 (lv_at hl 1 rfl) ?_
  refine lv_iconst (v := 3) hx hb dL_law_545 (by decide) ?_
  refine lv_iadd hx hb dL_law_546 ?_
  refine lv_topi (fun x546' e546' => ?_)
  have n546' : x546' = nI (i + 3) := (by rw [e546', ei, (nlit 3), nI_add])
  refine lsld (j := (i + 3)) hx hb hS9 hbl hW.2 n546' (by omega) hL9 dL_law_547 ?_
  refine wc_wi (va_runV (As := [.int (xs (i + 1)), .int (xs (i + 2)), .int (xs (i + 3))]) (rest := []) ⟨hx, hb, hml, hown, hts⟩ (c_X10_setValue l D cA sh ad M524' _ σ v hMs hMX1 (xs (i + 1)) (xs (i + 2)) (xs (i + 3))) (cwV 3 hts gL_law_X10_setValue rfl rfl rfl (by decide +kernel) ⟨Nat.le_of_ble_eq_true rfl, Nat.le_of_ble_eq_true rfl⟩) (wpreV hK hW (C := RX10) (ci := 10) (hMs 60 (by decide) (by decide)) rfl) rfl rfl hl.1 rfl (lv_room (Nat.le_of_ble_eq_true rfl)) dL_law_548 ⟨(by show cells + 1 + 0 ≤ 601024; omega), (by show slots + 6 + 0 ≤ 7293034; omega)⟩) hA hW (fun x548' M548' H locs p548' hW => ?_)
  try dsimp only at p548'
  have L9 := law_one (bl := x548'.toInt64) p524' p548' (fun ⟨x, h1, h2⟩ h3 => by rw [h2, h1, h3]) rfl
  refine lv_istore (lv' := [(6, .int x548'), (5, .int x524'), (4, .int xi), (3, .ref (ad 90)), (2, .ref (ad 60)), (1, .ref (ad 0)), (0, .ref b)]) hx hb dL_law_551 hl (by decide) rfl (fun ls hl => ?_)
  refine lv_aload_n hx hb dL_law_553 rfl (lv_at hl 4 rfl) ?_
  refine wc_ri (va_runV (As := []) (rest := []) ⟨hx, hb, hml, hown, hts⟩ (c_X10_thrown l D cA sh ad M548' _ hMs) (cwV 0 hts gL_law_X10_thrown rfl rfl rfl (by decide +kernel) ⟨Nat.le_of_ble_eq_true rfl, Nat.le_of_ble_eq_true rfl⟩) (wpreV hK hW (C := RX10) (ci := 10) (hMs 60 (by decide) (by decide)) rfl) rfl rfl hl.1 rfl (lv_room (Nat.le_of_ble_eq_true rfl)) dL_law_554 ⟨(by show cells + 1 + 0 ≤ 601024; omega), (by show slots + 6 + 0 ≤ 7293034; omega)⟩) hW (fun x554' H locs p554' hW => ?_)
  try dsimp only at p554'
  obtain ⟨σ9, v9, hn9, hX9, hM9⟩ := L9.2.2
  have hsh9 : sh = shL (aN σ9) := by rw [hn9]; exact hsh
  refine lv_iload hx hb dL_law_557 (lv_at hl 1 rfl) ?_
  refine lv_icmp_eq (tgt := 564) hx hb dL_law_559 (by decide) (fun c559' => ?_) (fun c559' => ?_)
  · refine lv_iload hx hb dL_law_564 (lv_at hl 1 rfl) ?_
    refine lv_if_ne (tgt := 581) hx hb dL_law_566 (by decide) (fun c566' => ?_) (fun c566' => ?_)
    · refine lv_goto (tgt := 1840) hx hb dL_law_581 (by decide) ?_
      refine W.widen (k := cells + 2) (n := slots + 12) (by omega) (by omega) ?_
      exact kk σ9 v9 sh ad M548' _ _ _ ⟨hsh9, hX9, hM9, hA, hW⟩ (lv_sub hl [2, 3, 4, 5, 6] rfl)
    · refine lv_aload_n hx hb dL_law_569 rfl (lv_at hl 3 rfl) ?_
      refine lv_iconst (v := 0) hx hb dL_law_570 (by decide) ?_
      refine walL (j := 0) hx hb hK hW hO (nlit 0) (by omega) (by decide) dL_law_571 (fun x571' e571' => ?_)
      refine lv_iload hx hb dL_law_572 (lv_at hl 0 rfl) ?_
      refine lv_i2l hx hb dL_law_574 rfl ?_
      refine lv_topl (fun x574' e574' => ?_)
      refine W.lcmp hx hb dL_law_575 ?_
      refine lv_topi (fun x575' e575' => ?_)
      refine lv_if_eq (tgt := 581) hx hb dL_law_576 (by decide) (fun c576' => ?_) (fun c576' => ?_)
      · refine lv_goto (tgt := 1840) hx hb dL_law_581 (by decide) ?_
        refine W.widen (k := cells + 2) (n := slots + 12) (by omega) (by omega) ?_
        exact kk σ9 v9 sh ad M548' _ _ _ ⟨hsh9, hX9, hM9, hA, hW⟩ (lv_sub hl [2, 3, 4, 5, 6] rfl)
      · exact ((c576' (by rw [e575', e571', e574', L9.2.1 c566']; exact lg_self _))).elim
  · exact ((c559' (p554'.trans L9.1))).elim
set_option maxHeartbeats 4000000 in
set_option maxRecDepth 100000 in
theorem law_peopled {p : Program} {l : Launch} {e : Env} {s : State} {m : MethodId} {below : List Frame} {meth : Method} {cd0 : Code} {b L : Nat} {xs : Nat → Int32} {D : va_G} {cA : Nat → ClassId} (C0 : LC p l s m cd0 b L xs D cA) (σ : AS) (v : VT) (sh : Nat → Option Sh) (ad : Nat → Nat) (M : MS) (H : Heap) (locs : List Loc) (hI : LI D cA s σ v sh ad M H locs) (i : Nat) (hi5 : i + 5 ≤ L) (xi : Int32) (ei : xi = nI i) (ls : Array Slot) (hl : lv_has ls 8 [(4, .int xi), (3, .ref (ad 90)), (2, .ref (ad 60)), (1, .ref (ad 0)), (0, .ref b)]) (cells slots : Nat) (hc9 : cells + 2 ≤ 601024 ∧ slots + 12 ≤ 7293034)
  (kk : ∀ (σ' : AS) (v' : VT) (sh' : Nat → Option Sh) (ad' : Nat → Nat) (M' : MS) (H' : Heap) (locs' : List Loc) (ls' : Array Slot), LI D cA s σ' v' sh' ad' M' H' locs' → lv_has ls' 8 [(4, .int xi), (3, .ref (ad' 90)), (2, .ref (ad' 60)), (1, .ref (ad' 0)), (0, .ref b)] → W p l e room_1 s m #[Value.ref b] below meth cd0 H' locs' (cells + 2) (slots + 12) (lw_Z below #[Value.ref b] s) (F0 m 1840 ls' [])) : W p l e room_1 s m #[Value.ref b] below meth cd0 H locs cells slots (lw_Z below #[Value.ref b] s) (F0 m 584 ls []) := by
  obtain ⟨hx, hb, hml, hown, hts, hK, hl9, hS9, hbl, hL9, hE, hZ, hE2⟩ := C0
  obtain ⟨hsh, hXX, hMX, hA, hW⟩ := hI
  have hX : XSh (aN σ) sh := by rw [hsh]; exact shL_X _
  have hMs : MSh sh := by rw [hsh]; exact shL_M _
  have hO : sh 90 = some (.inr (2, 1)) := by rw [hsh]; exact shL_O _
  refine lv_aload_n hx hb dL_law_584 rfl (lv_at hl 3 rfl) ?_
  refine wc_ri (va_runV (As := []) (rest := []) ⟨hx, hb, hml, hown, hts⟩ (c_X9_peopled l D cA sh ad M _ σ v hX hXX ) (cwV 0 hts gL_law_X9_peopled rfl rfl rfl (by decide +kernel) ⟨Nat.le_of_ble_eq_true rfl, Nat.le_of_ble_eq_true rfl⟩) (wpreV hK hW (C := RX9) (ci := 9) (hX.1 0 (by decide)) rfl) rfl rfl hl.1 rfl (lv_room (Nat.le_of_ble_eq_true rfl)) dL_law_585 ⟨(by show cells + 0 ≤ 601024; omega), (by show slots + 0 ≤ 7293034; omega)⟩) hW (fun x585' H locs p585' hW => ?_)
  try dsimp only at p585'
  have hMX1 := hMX
  refine lv_aload_n hx hb dL_law_588 rfl (lv_at hl 2 rfl) ?_
  refine wc_wi (va_runV (As := []) (rest := [.int x585']) ⟨hx, hb, hml, hown, hts⟩ (c_X10_peopled l D cA sh ad M _ σ v hMs hMX1 ) (cwV 0 hts gL_law_X10_peopled rfl rfl rfl (by decide +kernel) ⟨Nat.le_of_ble_eq_true rfl, Nat.le_of_ble_eq_true rfl⟩) (wpreV hK hW (C := RX10) (ci := 10) (hMs 60 (by decide) (by decide)) rfl) rfl rfl hl.1 rfl (lv_room (Nat.le_of_ble_eq_true rfl)) dL_law_589 ⟨(by show cells + 0 ≤ 601024; omega), (by show slots + 0 ≤ 7293034; omega)⟩) hA hW (fun x589' M589' H locs p589' hW => ?_)
  try dsimp only at p589'
  obtain ⟨b1, -, -, b4⟩ := p589'
  obtain ⟨hM9, b5⟩ := b4 rfl
  obtain ⟨σ9, e9'⟩ : ∃ z, z = σ := ⟨_, rfl⟩
  obtain ⟨v9, f9⟩ : ∃ z, z = v := ⟨_, rfl⟩
  have hsh9 : sh = shL (aN σ9) := by rw [e9']; exact hsh
  rw [← e9', ← f9] at hM9
  have hX9 : XX σ9 v9 M589' := by rw [e9', f9]; exact XX.mo hXX b1
  refine lv_icmp_eq (tgt := 1840) hx hb dL_law_592 (by decide) (fun c592' => ?_) (fun c592' => ?_)
  · refine W.widen (k := cells + 2) (n := slots + 12) (by omega) (by omega) ?_
    exact kk σ9 v9 sh ad M589' _ _ _ ⟨hsh9, hX9, hM9, hA, hW⟩ (lv_sub hl [0, 1, 2, 3, 4] rfl)
  · exact ((c592' (p585'.trans b5.symm))).elim
set_option maxHeartbeats 4000000 in
set_option maxRecDepth 100000 in
theorem law_flight {p : Program} {l : Launch} {e : Env} {s : State} {m : MethodId} {below : List Frame} {meth : Method} {cd0 : Code} {b L : Nat} {xs : Nat → Int32} {D : va_G} {cA : Nat → ClassId} (C0 : LC p l s m cd0 b L xs D cA) (σ : AS) (v : VT) (sh : Nat → Option Sh) (ad : Nat → Nat) (M : MS) (H : Heap) (locs : List Loc) (hI : LI D cA s σ v sh ad M H locs) (i : Nat) (hi5 : i + 5 ≤ L) (xi : Int32) (ei : xi = nI i) (ls : Array Slot) (hl : lv_has ls 8 [(4, .int xi), (3, .ref (ad 90)), (2, .ref (ad 60)), (1, .ref (ad 0)), (0, .ref b)]) (cells slots : Nat) (hc9 : cells + 2 ≤ 601024 ∧ slots + 12 ≤ 7293034)
  (kk : ∀ (σ' : AS) (v' : VT) (sh' : Nat → Option Sh) (ad' : Nat → Nat) (M' : MS) (H' : Heap) (locs' : List Loc) (ls' : Array Slot), LI D cA s σ' v' sh' ad' M' H' locs' → lv_has ls' 8 [(4, .int xi), (3, .ref (ad' 90)), (2, .ref (ad' 60)), (1, .ref (ad' 0)), (0, .ref b)] → W p l e room_1 s m #[Value.ref b] below meth cd0 H' locs' (cells + 2) (slots + 12) (lw_Z below #[Value.ref b] s) (F0 m 1840 ls' [])) : W p l e room_1 s m #[Value.ref b] below meth cd0 H locs cells slots (lw_Z below #[Value.ref b] s) (F0 m 597 ls []) := by
  obtain ⟨hx, hb, hml, hown, hts, hK, hl9, hS9, hbl, hL9, hE, hZ, hE2⟩ := C0
  obtain ⟨hsh, hXX, hMX, hA, hW⟩ := hI
  have hX : XSh (aN σ) sh := by rw [hsh]; exact shL_X _
  have hMs : MSh sh := by rw [hsh]; exact shL_M _
  have hO : sh 90 = some (.inr (2, 1)) := by rw [hsh]; exact shL_O _
  refine lv_aload_n hx hb dL_law_597 rfl (lv_at hl 3 rfl) ?_
  refine lv_aload_n hx hb dL_law_598 rfl (lv_at hl 4 rfl) ?_
  refine lv_iload hx hb dL_law_599 (lv_at hl 0 rfl) ?_
  refine lv_iconst (v := 1) hx hb dL_law_601 (by decide) ?_
  refine lv_iadd hx hb dL_law_602 ?_
  refine lv_topi (fun x602' e602' => ?_)
  have n602' : x602' = nI (i + 1) := (by rw [e602', ei, (nlit 1), nI_add])
  refine lsld (j := (i + 1)) hx hb hS9 hbl hW.2 n602' (by omega) hL9 dL_law_603 ?_
  refine lv_aload_n hx hb dL_law_604 rfl (lv_at hl 1 rfl) ?_
  refine wc_wiN (vx_runSW (As := [.ref (ad 0), .int (xs (i + 1)), .ref (ad 90)]) (rest := []) ⟨hx, hb, hml, hown, hts⟩ (c_L_flight l hl9 D cA sh ad M _ σ v hX hXX hO (xs (i + 1))) (vx_cwSW 3 hts gL_law_L_flight rfl rfl rfl (by decide +kernel) ⟨Nat.le_of_ble_eq_true rfl, Nat.le_of_ble_eq_true rfl⟩) (lpreS hK hA hW hE hZ hE2) rfl rfl hl.1 rfl (lv_room (Nat.le_of_ble_eq_true rfl)) dL_law_605 ⟨(by show cells + 1 ≤ 601024; omega), (by show slots + 6 ≤ 7293034; omega)⟩) hA hW (fun x605' M605' H locs p605' hW => ?_)
  try dsimp only at p605'
  have hMX1 := hMX.oA p605'.1
  refine lv_istore (lv' := [(5, .int x605'), (4, .int xi), (3, .ref (ad 90)), (2, .ref (ad 60)), (1, .ref (ad 0)), (0, .ref b)]) hx hb dL_law_608 hl (by decide) rfl (fun ls hl => ?_)
  refine lv_aload_n hx hb dL_law_610 rfl (lv_at hl 3 rfl) ?_
  refine lv_aload_n hx hb dL_law_611 rfl (lv_at hl 5 rfl) ?_
  refine lv_iload hx hb dL_law_612 (lv_at hl 1 rfl) ?_
  refine lv_iconst (v := 1) hx hb dL_law_614 (by decide) ?_
  refine lv_iadd hx hb dL_law_615 ?_
  refine lv_topi (fun x615' e615' => ?_)
  have n615' : x615' = nI (i + 1) := (by rw [e615', ei, (nlit 1), nI_add])
  refine lsld (j := (i + 1)) hx hb hS9 hbl hW.2 n615' (by omega) hL9 dL_law_616 ?_
  refine wc_wi (va_runV (As := [.int (xs (i + 1))]) (rest := []) ⟨hx, hb, hml, hown, hts⟩ (c_X10_flight l D cA sh ad M605' _ σ v hMs hMX1 (xs (i + 1))) (cwV 1 hts gL_law_X10_flight rfl rfl rfl (by decide +kernel) ⟨Nat.le_of_ble_eq_true rfl, Nat.le_of_ble_eq_true rfl⟩) (wpreV hK hW (C := RX10) (ci := 10) (hMs 60 (by decide) (by decide)) rfl) rfl rfl hl.1 rfl (lv_room (Nat.le_of_ble_eq_true rfl)) dL_law_617 ⟨(by show cells + 1 + 0 ≤ 601024; omega), (by show slots + 6 + 0 ≤ 7293034; omega)⟩) hA hW (fun x617' M617' H locs p617' hW => ?_)
  try dsimp only at p617'
  have L9 := law_one (bl := x617'.toInt64) p605' p617' (fun ⟨x, h1, h2⟩ h3 => by rw [h2, h1, h3]) rfl
  refine lv_istore (lv' := [(6, .int x617'), (5, .int x605'), (4, .int xi), (3, .ref (ad 90)), (2, .ref (ad 60)), (1, .ref (ad 0)), (0, .ref b)]) hx hb dL_law_620 hl (by decide) rfl (fun ls hl => ?_)
  refine lv_aload_n hx hb dL_law_622 rfl (lv_at hl 4 rfl) ?_
  refine wc_ri (va_runV (As := []) (rest := []) ⟨hx, hb, hml, hown, hts⟩ (c_X10_thrown l D cA sh ad M617' _ hMs) (cwV 0 hts gL_law_X10_thrown rfl rfl rfl (by decide +kernel) ⟨Nat.le_of_ble_eq_true rfl, Nat.le_of_ble_eq_true rfl⟩) (wpreV hK hW (C := RX10) (ci := 10) (hMs 60 (by decide) (by decide)) rfl) rfl rfl hl.1 rfl (lv_room (Nat.le_of_ble_eq_true rfl)) dL_law_623 ⟨(by show cells + 1 + 0 ≤ 601024; omega), (by show slots + 6 + 0 ≤ 7293034; omega)⟩) hW (fun x623' H locs p623' hW => ?_)
  try dsimp only at p623'
  obtain ⟨σ9, v9, hn9, hX9, hM9⟩ := L9.2.2
  have hsh9 : sh = shL (aN σ9) := by rw [hn9]; exact hsh
  refine lv_iload hx hb dL_law_626 (lv_at hl 1 rfl) ?_
  refine lv_icmp_eq (tgt := 633) hx hb dL_law_628 (by decide) (fun c628' => ?_) (fun c628' => ?_)
  · refine lv_iload hx hb dL_law_633 (lv_at hl 1 rfl) ?_
    refine lv_if_ne (tgt := 650) hx hb dL_law_635 (by decide) (fun c635' => ?_) (fun c635' => ?_)
    · refine lv_goto (tgt := 1840) hx hb dL_law_650 (by decide) ?_
      refine W.widen (k := cells + 2) (n := slots + 12) (by omega) (by omega) ?_
      exact kk σ9 v9 sh ad M617' _ _ _ ⟨hsh9, hX9, hM9, hA, hW⟩ (lv_sub hl [2, 3, 4, 5, 6] rfl)
    · refine lv_aload_n hx hb dL_law_638 rfl (lv_at hl 3 rfl) ?_
      refine lv_iconst (v := 0) hx hb dL_law_639 (by decide) ?_
      refine walL (j := 0) hx hb hK hW hO (nlit 0) (by omega) (by decide) dL_law_640 (fun x640' e640' => ?_)
      refine lv_iload hx hb dL_law_641 (lv_at hl 0 rfl) ?_
      refine lv_i2l hx hb dL_law_643 rfl ?_
      refine lv_topl (fun x643' e643' => ?_)
      refine W.lcmp hx hb dL_law_644 ?_
      refine lv_topi (fun x644' e644' => ?_)
      refine lv_if_eq (tgt := 650) hx hb dL_law_645 (by decide) (fun c645' => ?_) (fun c645' => ?_)
      · refine lv_goto (tgt := 1840) hx hb dL_law_650 (by decide) ?_
        refine W.widen (k := cells + 2) (n := slots + 12) (by omega) (by omega) ?_
        exact kk σ9 v9 sh ad M617' _ _ _ ⟨hsh9, hX9, hM9, hA, hW⟩ (lv_sub hl [2, 3, 4, 5, 6] rfl)
      · exact ((c645' (by rw [e644', e640', e643', L9.2.1 c635']; exact lg_self _))).elim
  · exact ((c628' (p623'.trans L9.1))).elim
set_option maxHeartbeats 4000000 in
set_option maxRecDepth 100000 in
theorem law_inLayer {p : Program} {l : Launch} {e : Env} {s : State} {m : MethodId} {below : List Frame} {meth : Method} {cd0 : Code} {b L : Nat} {xs : Nat → Int32} {D : va_G} {cA : Nat → ClassId} (C0 : LC p l s m cd0 b L xs D cA) (σ : AS) (v : VT) (sh : Nat → Option Sh) (ad : Nat → Nat) (M : MS) (H : Heap) (locs : List Loc) (hI : LI D cA s σ v sh ad M H locs) (i : Nat) (hi5 : i + 5 ≤ L) (xi : Int32) (ei : xi = nI i) (ls : Array Slot) (hl : lv_has ls 8 [(4, .int xi), (3, .ref (ad 90)), (2, .ref (ad 60)), (1, .ref (ad 0)), (0, .ref b)]) (cells slots : Nat) (hc9 : cells + 2 ≤ 601024 ∧ slots + 12 ≤ 7293034)
  (kk : ∀ (σ' : AS) (v' : VT) (sh' : Nat → Option Sh) (ad' : Nat → Nat) (M' : MS) (H' : Heap) (locs' : List Loc) (ls' : Array Slot), LI D cA s σ' v' sh' ad' M' H' locs' → lv_has ls' 8 [(4, .int xi), (3, .ref (ad' 90)), (2, .ref (ad' 60)), (1, .ref (ad' 0)), (0, .ref b)] → W p l e room_1 s m #[Value.ref b] below meth cd0 H' locs' (cells + 2) (slots + 12) (lw_Z below #[Value.ref b] s) (F0 m 1840 ls' [])) : W p l e room_1 s m #[Value.ref b] below meth cd0 H locs cells slots (lw_Z below #[Value.ref b] s) (F0 m 653 ls []) := by
  obtain ⟨hx, hb, hml, hown, hts, hK, hl9, hS9, hbl, hL9, hE, hZ, hE2⟩ := C0
  obtain ⟨hsh, hXX, hMX, hA, hW⟩ := hI
  have hX : XSh (aN σ) sh := by rw [hsh]; exact shL_X _
  have hMs : MSh sh := by rw [hsh]; exact shL_M _
  have hO : sh 90 = some (.inr (2, 1)) := by rw [hsh]; exact shL_O _
  refine lv_aload_n hx hb dL_law_653 rfl (lv_at hl 3 rfl) ?_
  refine lv_aload_n hx hb dL_law_654 rfl (lv_at hl 4 rfl) ?_
  refine lv_iload hx hb dL_law_655 (lv_at hl 0 rfl) ?_
  refine lv_iconst (v := 1) hx hb dL_law_657 (by decide) ?_
  refine lv_iadd hx hb dL_law_658 ?_
  refine lv_topi (fun x658' e658' => ?_)
  have n658' : x658' = nI (i + 1) := (by rw [e658', ei, (nlit 1), nI_add])
  refine lsld (j := (i + 1)) hx hb hS9 hbl hW.2 n658' (by omega) hL9 dL_law_659 ?_
  refine lv_aload_n hx hb dL_law_660 rfl (lv_at hl 4 rfl) ?_
  refine lv_iload hx hb dL_law_661 (lv_at hl 0 rfl) ?_
  refine lv_iconst (v := 2) hx hb dL_law_663 (by decide) ?_
  refine lv_iadd hx hb dL_law_664 ?_
  refine lv_topi (fun x664' e664' => ?_)
  have n664' : x664' = nI (i + 2) := (by rw [e664', ei, (nlit 2), nI_add])
  refine lsld (j := (i + 2)) hx hb hS9 hbl hW.2 n664' (by omega) hL9 dL_law_665 ?_
  refine lv_aload_n hx hb dL_law_666 rfl (lv_at hl 1 rfl) ?_
  refine wc_wiN (vx_runSW (As := [.ref (ad 0), .int (xs (i + 1)), .int (xs (i + 2)), .ref (ad 90)]) (rest := []) ⟨hx, hb, hml, hown, hts⟩ (c_L_inLayer l hl9 D cA sh ad M _ σ v hX hXX hO (xs (i + 1)) (xs (i + 2))) (vx_cwSW 4 hts gL_law_L_inLayer rfl rfl rfl (by decide +kernel) ⟨Nat.le_of_ble_eq_true rfl, Nat.le_of_ble_eq_true rfl⟩) (lpreS hK hA hW hE hZ hE2) rfl rfl hl.1 rfl (lv_room (Nat.le_of_ble_eq_true rfl)) dL_law_667 ⟨(by show cells + 1 ≤ 601024; omega), (by show slots + 6 ≤ 7293034; omega)⟩) hA hW (fun x667' M667' H locs p667' hW => ?_)
  try dsimp only at p667'
  have hMX1 := hMX.oA p667'.1
  refine lv_istore (lv' := [(5, .int x667'), (4, .int xi), (3, .ref (ad 90)), (2, .ref (ad 60)), (1, .ref (ad 0)), (0, .ref b)]) hx hb dL_law_670 hl (by decide) rfl (fun ls hl => ?_)
  refine lv_aload_n hx hb dL_law_672 rfl (lv_at hl 3 rfl) ?_
  refine lv_aload_n hx hb dL_law_673 rfl (lv_at hl 5 rfl) ?_
  refine lv_iload hx hb dL_law_674 (lv_at hl 1 rfl) ?_
  refine lv_iconst (v := 1) hx hb dL_law_676 (by decide) ?_
  refine lv_iadd hx hb dL_law_677 ?_
  refine lv_topi (fun x677' e677' => ?_)
  have n677' : x677' = nI (i + 1) := (by rw [e677', ei, (nlit 1), nI_add])
  refine lsld (j := (i + 1)) hx hb hS9 hbl hW.2 n677' (by omega) hL9 dL_law_678 ?_
  refine lv_aload_n hx hb dL_law_679 rfl (lv_at hl 5 rfl) ?_
  refine lv_iload hx hb dL_law_680 (lv_at hl 1 rfl) ?_
  refine lv_iconst (v := 2) hx hb dL_law_682 (by decide) ?_
  refine lv_iadd hx hb dL_law_683 ?_
  refine lv_topi (fun x683' e683' => ?_)
  have n683' : x683' = nI (i + 2) := (by rw [e683', ei, (nlit 2), nI_add])
  refine lsld (j := (i + 2)) hx hb hS9 hbl hW.2 n683' (by omega) hL9 dL_law_684 ?_
  refine wc_wi (va_runV (As := [.int (xs (i + 1)), .int (xs (i + 2))]) (rest := []) ⟨hx, hb, hml, hown, hts⟩ (c_X10_inLayer l D cA sh ad M667' _ σ v hMs hMX1 (xs (i + 1)) (xs (i + 2))) (cwV 2 hts gL_law_X10_inLayer rfl rfl rfl (by decide +kernel) ⟨Nat.le_of_ble_eq_true rfl, Nat.le_of_ble_eq_true rfl⟩) (wpreV hK hW (C := RX10) (ci := 10) (hMs 60 (by decide) (by decide)) rfl) rfl rfl hl.1 rfl (lv_room (Nat.le_of_ble_eq_true rfl)) dL_law_685 ⟨(by show cells + 1 + 0 ≤ 601024; omega), (by show slots + 6 + 0 ≤ 7293034; omega)⟩) hA hW (fun x685' M685' H locs p685' hW => ?_)
  try dsimp only at p685'
  have L9 := law_one (bl := x685'.toInt64) p667' p685' (fun ⟨x, h1, h2⟩ h3 => by rw [h2, h1, h3]) rfl
  refine lv_istore (lv' := [(6, .int x685'), (5, .int x667'), (4, .int xi), (3, .ref (ad 90)), (2, .ref (ad 60)), (1, .ref (ad 0)), (0, .ref b)]) hx hb dL_law_688 hl (by decide) rfl (fun ls hl => ?_)
  refine lv_aload_n hx hb dL_law_690 rfl (lv_at hl 4 rfl) ?_
  refine wc_ri (va_runV (As := []) (rest := []) ⟨hx, hb, hml, hown, hts⟩ (c_X10_thrown l D cA sh ad M685' _ hMs) (cwV 0 hts gL_law_X10_thrown rfl rfl rfl (by decide +kernel) ⟨Nat.le_of_ble_eq_true rfl, Nat.le_of_ble_eq_true rfl⟩) (wpreV hK hW (C := RX10) (ci := 10) (hMs 60 (by decide) (by decide)) rfl) rfl rfl hl.1 rfl (lv_room (Nat.le_of_ble_eq_true rfl)) dL_law_691 ⟨(by show cells + 1 + 0 ≤ 601024; omega), (by show slots + 6 + 0 ≤ 7293034; omega)⟩) hW (fun x691' H locs p691' hW => ?_)
  try dsimp only at p691'
  obtain ⟨σ9, v9, hn9, hX9, hM9⟩ := L9.2.2
  have hsh9 : sh = shL (aN σ9) := by rw [hn9]; exact hsh
  refine lv_iload hx hb dL_law_694 (lv_at hl 1 rfl) ?_
  refine lv_icmp_eq (tgt := 701) hx hb dL_law_696 (by decide) (fun c696' => ?_) (fun c696' => ?_)
  · refine lv_iload hx hb dL_law_701 (lv_at hl 1 rfl) ?_
    refine lv_if_ne (tgt := 718) hx hb dL_law_703 (by decide) (fun c703' => ?_) (fun c703' => ?_)
    · refine lv_goto (tgt := 1840) hx hb dL_law_718 (by decide) ?_
      refine W.widen (k := cells + 2) (n := slots + 12) (by omega) (by omega) ?_
      exact kk σ9 v9 sh ad M685' _ _ _ ⟨hsh9, hX9, hM9, hA, hW⟩ (lv_sub hl [2, 3, 4, 5, 6] rfl)
    · refine lv_aload_n hx hb dL_law_706 rfl (lv_at hl 3 rfl) ?_
      refine lv_iconst (v := 0) hx hb dL_law_707 (by decide) ?_
      refine walL (j := 0) hx hb hK hW hO (nlit 0) (by omega) (by decide) dL_law_708 (fun x708' e708' => ?_)
      refine lv_iload hx hb dL_law_709 (lv_at hl 0 rfl) ?_
      refine lv_i2l hx hb dL_law_711 rfl ?_
      refine lv_topl (fun x711' e711' => ?_)
      refine W.lcmp hx hb dL_law_712 ?_
      refine lv_topi (fun x712' e712' => ?_)
      refine lv_if_eq (tgt := 718) hx hb dL_law_713 (by decide) (fun c713' => ?_) (fun c713' => ?_)
      · refine lv_goto (tgt := 1840) hx hb dL_law_718 (by decide) ?_
        refine W.widen (k := cells + 2) (n := slots + 12) (by omega) (by omega) ?_
        exact kk σ9 v9 sh ad M685' _ _ _ ⟨hsh9, hX9, hM9, hA, hW⟩ (lv_sub hl [2, 3, 4, 5, 6] rfl)
      · exact ((c713' (by rw [e712', e708', e711', L9.2.1 c703']; exact lg_self _))).elim
  · exact ((c696' (p691'.trans L9.1))).elim

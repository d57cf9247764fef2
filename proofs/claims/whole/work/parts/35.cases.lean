
set_option maxHeartbeats 4000000 in
set_option maxRecDepth 100000 in
theorem law_burstAt {p : Program} {l : Launch} {e : Env} {s : State} {m : MethodId} {below : List Frame} {meth : Method} {cd0 : Code} {b L : Nat} {xs : Nat → Int32} {D : va_G} {cA : Nat → ClassId} (C0 : LC p l s m cd0 b L xs D cA) (σ : AS) (v : VT) (sh : Nat → Option Sh) (ad : Nat → Nat) (M : MS) (H : Heap) (locs : List Loc) (hI : LI D cA s σ v sh ad M H locs) (i : Nat) (hi5 : i + 5 ≤ L) (xi : Int32) (ei : xi = nI i) (ls : Array Slot) (hl : lv_has ls 8 [(4, .int xi), (3, .ref (ad 90)), (2, .ref (ad 60)), (1, .ref (ad 0)), (0, .ref b)]) (cells slots : Nat) (hc9 : cells + 2 ≤ 601024 ∧ slots + 12 ≤ 7293034)
  (kk : ∀ (σ' : AS) (v' : VT) (sh' : Nat → Option Sh) (ad' : Nat → Nat) (M' : MS) (H' : Heap) (locs' : List Loc) (ls' : Array Slot), LI D cA s σ' v' sh' ad' M' H' locs' → lv_has ls' 8 [(4, .int xi), (3, .ref (ad' 90)), (2, .ref (ad' 60)), (1, .ref (ad' 0)), (0, .ref b)] → W p l e room_1 s m #[Value.ref b] below meth cd0 H' locs' (cells + 2) (slots + 12) (lw_Z below #[Value.ref b] s) (F0 m 1840 ls' [])) : W p l e room_1 s m #[Value.ref b] below meth cd0 H locs cells slots (lw_Z below #[Value.ref b] s) (F0 m 1217 ls []) := by
  obtain ⟨hx, hb, hml, hown, hts, hK, hl9, hS9, hbl, hL9, hE, hZ, hE2⟩ := C0
  obtain ⟨hsh, hXX, hMX, hA, hW⟩ := hI
  have hX : XSh (aN σ) sh := by rw [hsh]; exact shL_X _
  have hMs : MSh sh := by rw [hsh]; exact shL_M _
  have hO : sh 90 = some (.inr (2, 1)) := by rw [hsh]; exact shL_O _
  refine lv_aload_n hx hb dL_law_1217 rfl (lv_at hl 3 rfl) ?_
  refine lv_aload_n hx hb dL_law_1218 rfl (lv_at hl 4 rfl) ?_
  refine lv_iload hx hb dL_law_1219 (lv_at hl 0 rfl) ?_
  refine lv_iconst (v := 1) hx hb dL_law_1221 (by decide) ?_
  refine lv_iadd hx hb dL_law_1222 ?_
  refine lv_topi (fun x1222' e1222' => ?_)
  have n1222' : x1222' = nI (i + 1) := (by rw [e1222', ei, (nlit 1), nI_add])
  refine lsld (j := (i + 1)) hx hb hS9 hbl hW.2 n1222' (by omega) hL9 dL_law_1223 ?_
  refine lv_aload_n hx hb dL_law_1224 rfl (lv_at hl 4 rfl) ?_
  refine lv_iload hx hb dL_law_1225 (lv_at hl 0 rfl) ?_
  refine lv_iconst (v := 2) hx hb dL_law_1227 (by decide) ?_
  refine lv_iadd hx hb dL_law_1228 ?_
  refine lv_topi (fun x1228' e1228' => ?_)
  have n1228' : x1228' = nI (i + 2) := (by rw [e1228', ei, (nlit 2), nI_add])
  refine lsld (j := (i + 2)) hx hb hS9 hbl hW.2 n1228' (by omega) hL9 dL_law_1229 ?_
  refine lv_aload_n hx hb dL_law_1230 rfl (lv_at hl 1 rfl) ?_
  refine wc_wiN (vx_runSW (As := [.ref (ad 0), .int (xs (i + 1)), .int (xs (i + 2)), .ref (ad 90)]) (rest := []) ⟨hx, hb, hml, hown, hts⟩ (c_L_burstAt l hl9 D cA sh ad M _ σ v hX hXX hO (xs (i + 1)) (xs (i + 2))) (vx_cwSW 4 hts gL_law_L_burstAt rfl rfl rfl (by decide +kernel) ⟨Nat.le_of_ble_eq_true rfl, Nat.le_of_ble_eq_true rfl⟩) (lpreS hK hA hW hE hZ hE2) rfl rfl hl.1 rfl (lv_room (Nat.le_of_ble_eq_true rfl)) dL_law_1231 ⟨(by show cells + 2 ≤ 601024; omega), (by show slots + 12 ≤ 7293034; omega)⟩) hA hW (fun x1231' M1231' H locs p1231' hW => ?_)
  try dsimp only at p1231'
  have hMX1 := hMX.oA p1231'.1
  refine lv_istore (lv' := [(5, .int x1231'), (4, .int xi), (3, .ref (ad 90)), (2, .ref (ad 60)), (1, .ref (ad 0)), (0, .ref b)]) hx hb dL_law_1234 hl (by decide) rfl (fun ls hl => ?_)
  refine lv_aload_n hx hb dL_law_1236 rfl (lv_at hl 3 rfl) ?_
  refine lv_aload_n hx hb dL_law_1237 rfl (lv_at hl 5 rfl) ?_
  refine lv_iload hx hb dL_law_1238 (lv_at hl 1 rfl) ?_
  refine lv_iconst (v := 1) hx hb dL_law_1240 (by decide) ?_
  refine lv_iadd hx hb dL_law_1241 ?_
  refine lv_topi (fun x1241' e1241' => ?_)
  have n1241' : x1241' = nI (i + 1) := (by rw [e1241', ei, (nlit 1), nI_add])
  refine lsld (j := (i + 1)) hx hb hS9 hbl hW.2 n1241' (by omega) hL9 dL_law_1242 ?_
  refine lv_aload_n hx hb dL_law_1243 rfl (lv_at hl 5 rfl) ?_
  refine lv_iload hx hb dL_law_1244 (lv_at hl 1 rfl) ?_
  refine lv_iconst (v := 2) hx hb dL_law_1246 (by decide) ?_
  refine lv_iadd hx hb dL_law_1247 ?_
  refine lv_topi (fun x1247' e1247' => ?_)
  have n1247' : x1247' = nI (i + 2) := (by rw [e1247', ei, (nlit 2), nI_add])
  refine lsld (j := (i + 2)) hx hb hS9 hbl hW.2 n1247' (by omega) hL9 dL_law_1248 ?_
  refine wc_wi (va_runV (As := [.int (xs (i + 1)), .int (xs (i + 2))]) (rest := []) ⟨hx, hb, hml, hown, hts⟩ (c_X10_burstAt l D cA sh ad M1231' _ σ v hMs hMX1 (xs (i + 1)) (xs (i + 2))) (cwV 2 hts gL_law_X10_burstAt rfl rfl rfl (by decide +kernel) ⟨Nat.le_of_ble_eq_true rfl, Nat.le_of_ble_eq_true rfl⟩) (wpreV hK hW (C := RX10) (ci := 10) (hMs 60 (by decide) (by decide)) rfl) rfl rfl hl.1 rfl (lv_room (Nat.le_of_ble_eq_true rfl)) dL_law_1249 ⟨(by show cells + 2 + 0 ≤ 601024; omega), (by show slots + 12 + 0 ≤ 7293034; omega)⟩) hA hW (fun x1249' M1249' H locs p1249' hW => ?_)
  try dsimp only at p1249'
  have L9 := law_two (bl := x1249'.toInt64) p1231' p1249' (fun ⟨x, h1, h2⟩ h3 => by rw [h2, h1, h3])
  refine lv_istore (lv' := [(6, .int x1249'), (5, .int x1231'), (4, .int xi), (3, .ref (ad 90)), (2, .ref (ad 60)), (1, .ref (ad 0)), (0, .ref b)]) hx hb dL_law_1252 hl (by decide) rfl (fun ls hl => ?_)
  refine lv_aload_n hx hb dL_law_1254 rfl (lv_at hl 4 rfl) ?_
  refine wc_ri (va_runV (As := []) (rest := []) ⟨hx, hb, hml, hown, hts⟩ (c_X10_thrown l D cA sh ad M1249' _ hMs) (cwV 0 hts gL_law_X10_thrown rfl rfl rfl (by decide +kernel) ⟨Nat.le_of_ble_eq_true rfl, Nat.le_of_ble_eq_true rfl⟩) (wpreV hK hW (C := RX10) (ci := 10) (hMs 60 (by decide) (by decide)) rfl) rfl rfl hl.1 rfl (lv_room (Nat.le_of_ble_eq_true rfl)) dL_law_1255 ⟨(by show cells + 2 + 0 ≤ 601024; omega), (by show slots + 12 + 0 ≤ 7293034; omega)⟩) hW (fun x1255' H locs p1255' hW => ?_)
  try dsimp only at p1255'
  obtain ⟨σ9, v9, hn9, hX9, hM9⟩ := L9.2.2
  have hsh9 : sh = shL (aN σ9) := by rw [hn9]; exact hsh
  refine lv_iload hx hb dL_law_1258 (lv_at hl 1 rfl) ?_
  refine lv_icmp_eq (tgt := 1265) hx hb dL_law_1260 (by decide) (fun c1260' => ?_) (fun c1260' => ?_)
  · refine lv_iload hx hb dL_law_1265 (lv_at hl 1 rfl) ?_
    refine lv_if_ne (tgt := 1282) hx hb dL_law_1267 (by decide) (fun c1267' => ?_) (fun c1267' => ?_)
    · refine lv_goto (tgt := 1840) hx hb dL_law_1282 (by decide) ?_
      refine W.widen (k := cells + 2) (n := slots + 12) (by omega) (by omega) ?_
      exact kk σ9 v9 sh ad M1249' _ _ _ ⟨hsh9, hX9, hM9, hA, hW⟩ (lv_sub hl [2, 3, 4, 5, 6] rfl)
    · refine lv_aload_n hx hb dL_law_1270 rfl (lv_at hl 3 rfl) ?_
      refine lv_iconst (v := 0) hx hb dL_law_1271 (by decide) ?_
      refine walL (j := 0) hx hb hK hW hO (nlit 0) (by omega) (by decide) dL_law_1272 (fun x1272' e1272' => ?_)
      refine lv_iload hx hb dL_law_1273 (lv_at hl 0 rfl) ?_
      refine lv_i2l hx hb dL_law_1275 rfl ?_
      refine lv_topl (fun x1275' e1275' => ?_)
      refine W.lcmp hx hb dL_law_1276 ?_
      refine lv_topi (fun x1276' e1276' => ?_)
      refine lv_if_eq (tgt := 1282) hx hb dL_law_1277 (by decide) (fun c1277' => ?_) (fun c1277' => ?_)
      · refine lv_goto (tgt := 1840) hx hb dL_law_1282 (by decide) ?_
        refine W.widen (k := cells + 2) (n := slots + 12) (by omega) (by omega) ?_
        exact kk σ9 v9 sh ad M1249' _ _ _ ⟨hsh9, hX9, hM9, hA, hW⟩ (lv_sub hl [2, 3, 4, 5, 6] rfl)
      · exact ((c1277' (by rw [e1276', e1272', e1275', L9.2.1 c1267']; exact lg_self _))).elim
  · exact ((c1260' (p1255'.trans L9.1))).elim
set_option maxHeartbeats 4000000 in
set_option maxRecDepth 100000 in
theorem law_danger {p : Program} {l : Launch} {e : Env} {s : State} {m : MethodId} {below : List Frame} {meth : Method} {cd0 : Code} {b L : Nat} {xs : Nat → Int32} {D : va_G} {cA : Nat → ClassId} (C0 : LC p l s m cd0 b L xs D cA) (σ : AS) (v : VT) (sh : Nat → Option Sh) (ad : Nat → Nat) (M : MS) (H : Heap) (locs : List Loc) (hI : LI D cA s σ v sh ad M H locs) (i : Nat) (hi5 : i + 5 ≤ L) (xi : Int32) (ei : xi = nI i) (ls : Array Slot) (hl : lv_has ls 8 [(4, .int xi), (3, .ref (ad 90)), (2, .ref (ad 60)), (1, .ref (ad 0)), (0, .ref b)]) (cells slots : Nat) (hc9 : cells + 2 ≤ 601024 ∧ slots + 12 ≤ 7293034)
  (kk : ∀ (σ' : AS) (v' : VT) (sh' : Nat → Option Sh) (ad' : Nat → Nat) (M' : MS) (H' : Heap) (locs' : List Loc) (ls' : Array Slot), LI D cA s σ' v' sh' ad' M' H' locs' → lv_has ls' 8 [(4, .int xi), (3, .ref (ad' 90)), (2, .ref (ad' 60)), (1, .ref (ad' 0)), (0, .ref b)] → W p l e room_1 s m #[Value.ref b] below meth cd0 H' locs' (cells + 2) (slots + 12) (lw_Z below #[Value.ref b] s) (F0 m 1840 ls' [])) : W p l e room_1 s m #[Value.ref b] below meth cd0 H locs cells slots (lw_Z below #[Value.ref b] s) (F0 m 1285 ls []) := by
  obtain ⟨hx, hb, hml, hown, hts, hK, hl9, hS9, hbl, hL9, hE, hZ, hE2⟩ := C0
  obtain ⟨hsh, hXX, hMX, hA, hW⟩ := hI
  have hX : XSh (aN σ) sh := by rw [hsh]; exact shL_X _
  have hMs : MSh sh := by rw [hsh]; exact shL_M _
  have hO : sh 90 = some (.inr (2, 1)) := by rw [hsh]; exact shL_O _
  refine lv_aload_n hx hb dL_law_1285 rfl (lv_at hl 3 rfl) ?_
  refine lv_aload_n hx hb dL_law_1286 rfl (lv_at hl 4 rfl) ?_
  refine lv_iload hx hb dL_law_1287 (lv_at hl 0 rfl) ?_
  refine lv_iconst (v := 1) hx hb dL_law_1289 (by decide) ?_
  refine lv_iadd hx hb dL_law_1290 ?_
  refine lv_topi (fun x1290' e1290' => ?_)
  have n1290' : x1290' = nI (i + 1) := (by rw [e1290', ei, (nlit 1), nI_add])
  refine lsld (j := (i + 1)) hx hb hS9 hbl hW.2 n1290' (by omega) hL9 dL_law_1291 ?_
  refine lv_aload_n hx hb dL_law_1292 rfl (lv_at hl 1 rfl) ?_
  refine wc_wiN (vx_runSW (As := [.ref (ad 0), .int (xs (i + 1)), .ref (ad 90)]) (rest := []) ⟨hx, hb, hml, hown, hts⟩ (c_L_danger l hl9 D cA sh ad M _ σ v hX hXX hO (xs (i + 1))) (vx_cwSW 3 hts gL_law_L_danger rfl rfl rfl (by decide +kernel) ⟨Nat.le_of_ble_eq_true rfl, Nat.le_of_ble_eq_true rfl⟩) (lpreS hK hA hW hE hZ hE2) rfl rfl hl.1 rfl (lv_room (Nat.le_of_ble_eq_true rfl)) dL_law_1293 ⟨(by show cells + 1 ≤ 601024; omega), (by show slots + 6 ≤ 7293034; omega)⟩) hA hW (fun x1293' M1293' H locs p1293' hW => ?_)
  try dsimp only at p1293'
  have hMX1 := hMX.oA p1293'.1
  refine lv_istore (lv' := [(5, .int x1293'), (4, .int xi), (3, .ref (ad 90)), (2, .ref (ad 60)), (1, .ref (ad 0)), (0, .ref b)]) hx hb dL_law_1296 hl (by decide) rfl (fun ls hl => ?_)
  refine lv_aload_n hx hb dL_law_1298 rfl (lv_at hl 3 rfl) ?_
  refine lv_aload_n hx hb dL_law_1299 rfl (lv_at hl 5 rfl) ?_
  refine lv_iload hx hb dL_law_1300 (lv_at hl 1 rfl) ?_
  refine lv_iconst (v := 1) hx hb dL_law_1302 (by decide) ?_
  refine lv_iadd hx hb dL_law_1303 ?_
  refine lv_topi (fun x1303' e1303' => ?_)
  have n1303' : x1303' = nI (i + 1) := (by rw [e1303', ei, (nlit 1), nI_add])
  refine lsld (j := (i + 1)) hx hb hS9 hbl hW.2 n1303' (by omega) hL9 dL_law_1304 ?_
  refine wc_wl (va_runV (As := [.int (xs (i + 1))]) (rest := []) ⟨hx, hb, hml, hown, hts⟩ (c_X10_danger l D cA sh ad M1293' _ σ v hMs hMX1 (xs (i + 1))) (cwV 1 hts gL_law_X10_danger rfl rfl rfl (by decide +kernel) ⟨Nat.le_of_ble_eq_true rfl, Nat.le_of_ble_eq_true rfl⟩) (wpreV hK hW (C := RX10) (ci := 10) (hMs 60 (by decide) (by decide)) rfl) rfl rfl hl.1 rfl (lv_room (Nat.le_of_ble_eq_true rfl)) dL_law_1305 ⟨(by show cells + 1 + 0 ≤ 601024; omega), (by show slots + 6 + 0 ≤ 7293034; omega)⟩) hA hW (fun x1305' M1305' H locs p1305' hW => ?_)
  try dsimp only at p1305'
  have L9 := law_one (bl := x1305') p1293' p1305' (fun ⟨x, ⟨_, _, _, h1⟩, h2⟩ h3 => by rw [h2]; exact bitL_ext (fun k hk => (h1 k hk).trans (h3 k hk).symm)) rfl
  refine lv_lstore (lv' := [(6, .long x1305'), (5, .int x1293'), (4, .int xi), (3, .ref (ad 90)), (2, .ref (ad 60)), (1, .ref (ad 0)), (0, .ref b)]) hx hb dL_law_1308 hl (by decide) rfl (fun ls hl => ?_)
  refine lv_aload_n hx hb dL_law_1310 rfl (lv_at hl 4 rfl) ?_
  refine wc_ri (va_runV (As := []) (rest := []) ⟨hx, hb, hml, hown, hts⟩ (c_X10_thrown l D cA sh ad M1305' _ hMs) (cwV 0 hts gL_law_X10_thrown rfl rfl rfl (by decide +kernel) ⟨Nat.le_of_ble_eq_true rfl, Nat.le_of_ble_eq_true rfl⟩) (wpreV hK hW (C := RX10) (ci := 10) (hMs 60 (by decide) (by decide)) rfl) rfl rfl hl.1 rfl (lv_room (Nat.le_of_ble_eq_true rfl)) dL_law_1311 ⟨(by show cells + 1 + 0 ≤ 601024; omega), (by show slots + 6 + 0 ≤ 7293034; omega)⟩) hW (fun x1311' H locs p1311' hW => ?_)
  try dsimp only at p1311'
  obtain ⟨σ9, v9, hn9, hX9, hM9⟩ := L9.2.2
  have hsh9 : sh = shL (aN σ9) := by rw [hn9]; exact hsh
  refine lv_iload hx hb dL_law_1314 (lv_at hl 1 rfl) ?_
  refine lv_icmp_eq (tgt := 1321) hx hb dL_law_1316 (by decide) (fun c1316' => ?_) (fun c1316' => ?_)
  · refine lv_iload hx hb dL_law_1321 (lv_at hl 1 rfl) ?_
    refine lv_if_ne (tgt := 1337) hx hb dL_law_1323 (by decide) (fun c1323' => ?_) (fun c1323' => ?_)
    · refine lv_goto (tgt := 1840) hx hb dL_law_1337 (by decide) ?_
      refine W.widen (k := cells + 2) (n := slots + 12) (by omega) (by omega) ?_
      exact kk σ9 v9 sh ad M1305' _ _ _ ⟨hsh9, hX9, hM9, hA, hW⟩ (lv_sub hl [2, 3, 4, 5, 6] rfl)
    · refine lv_aload_n hx hb dL_law_1326 rfl (lv_at hl 3 rfl) ?_
      refine lv_iconst (v := 0) hx hb dL_law_1327 (by decide) ?_
      refine walL (j := 0) hx hb hK hW hO (nlit 0) (by omega) (by decide) dL_law_1328 (fun x1328' e1328' => ?_)
      refine lv_lload hx hb dL_law_1329 (lv_at hl 0 rfl) ?_
      refine W.lcmp hx hb dL_law_1331 ?_
      refine lv_topi (fun x1331' e1331' => ?_)
      refine lv_if_eq (tgt := 1337) hx hb dL_law_1332 (by decide) (fun c1332' => ?_) (fun c1332' => ?_)
      · refine lv_goto (tgt := 1840) hx hb dL_law_1337 (by decide) ?_
        refine W.widen (k := cells + 2) (n := slots + 12) (by omega) (by omega) ?_
        exact kk σ9 v9 sh ad M1305' _ _ _ ⟨hsh9, hX9, hM9, hA, hW⟩ (lv_sub hl [2, 3, 4, 5, 6] rfl)
      · exact ((c1332' (by rw [e1331', e1328', L9.2.1 c1323']; exact lg_self _))).elim
  · exact ((c1316' (p1311'.trans L9.1))).elim
set_option maxHeartbeats 4000000 in
set_option maxRecDepth 100000 in
theorem law_cues {p : Program} {l : Launch} {e : Env} {s : State} {m : MethodId} {below : List Frame} {meth : Method} {cd0 : Code} {b L : Nat} {xs : Nat → Int32} {D : va_G} {cA : Nat → ClassId} (C0 : LC p l s m cd0 b L xs D cA) (σ : AS) (v : VT) (sh : Nat → Option Sh) (ad : Nat → Nat) (M : MS) (H : Heap) (locs : List Loc) (hI : LI D cA s σ v sh ad M H locs) (i : Nat) (hi5 : i + 5 ≤ L) (xi : Int32) (ei : xi = nI i) (ls : Array Slot) (hl : lv_has ls 8 [(4, .int xi), (3, .ref (ad 90)), (2, .ref (ad 60)), (1, .ref (ad 0)), (0, .ref b)]) (cells slots : Nat) (hc9 : cells + 2 ≤ 601024 ∧ slots + 12 ≤ 7293034)
  (kk : ∀ (σ' : AS) (v' : VT) (sh' : Nat → Option Sh) (ad' : Nat → Nat) (M' : MS) (H' : Heap) (locs' : List Loc) (ls' : Array Slot), LI D cA s σ' v' sh' ad' M' H' locs' → lv_has ls' 8 [(4, .int xi), (3, .ref (ad' 90)), (2, .ref (ad' 60)), (1, .ref (ad' 0)), (0, .ref b)] → W p l e room_1 s m #[Value.ref b] below meth cd0 H' locs' (cells + 2) (slots + 12) (lw_Z below #[Value.ref b] s) (F0 m 1840 ls' [])) : W p l e room_1 s m #[Value.ref b] below meth cd0 H locs cells slots (lw_Z below #[Value.ref b] s) (F0 m 1340 ls []) := by
  obtain ⟨hx, hb, hml, hown, hts, hK, hl9, hS9, hbl, hL9, hE, hZ, hE2⟩ := C0
  obtain ⟨hsh, hXX, hMX, hA, hW⟩ := hI
  have hX : XSh (aN σ) sh := by rw [hsh]; exact shL_X _
  have hMs : MSh sh := by rw [hsh]; exact shL_M _
  have hO : sh 90 = some (.inr (2, 1)) := by rw [hsh]; exact shL_O _
  refine lv_aload_n hx hb dL_law_1340 rfl (lv_at hl 3 rfl) ?_
  refine wc_ri (va_runV (As := []) (rest := []) ⟨hx, hb, hml, hown, hts⟩ (c_X9_cues l D cA sh ad M _ σ v hX hXX ) (cwV 0 hts gL_law_X9_cues rfl rfl rfl (by decide +kernel) ⟨Nat.le_of_ble_eq_true rfl, Nat.le_of_ble_eq_true rfl⟩) (wpreV hK hW (C := RX9) (ci := 9) (hX.1 0 (by decide)) rfl) rfl rfl hl.1 rfl (lv_room (Nat.le_of_ble_eq_true rfl)) dL_law_1341 ⟨(by show cells + 0 ≤ 601024; omega), (by show slots + 0 ≤ 7293034; omega)⟩) hW (fun x1341' H locs p1341' hW => ?_)
  try dsimp only at p1341'
  have hMX1 := hMX
  refine lv_aload_n hx hb dL_law_1344 rfl (lv_at hl 2 rfl) ?_
  refine wc_wi (va_runV (As := []) (rest := [.int x1341']) ⟨hx, hb, hml, hown, hts⟩ (c_X10_cues l D cA sh ad M _ σ v hMs hMX1 ) (cwV 0 hts gL_law_X10_cues rfl rfl rfl (by decide +kernel) ⟨Nat.le_of_ble_eq_true rfl, Nat.le_of_ble_eq_true rfl⟩) (wpreV hK hW (C := RX10) (ci := 10) (hMs 60 (by decide) (by decide)) rfl) rfl rfl hl.1 rfl (lv_room (Nat.le_of_ble_eq_true rfl)) dL_law_1345 ⟨(by show cells + 0 ≤ 601024; omega), (by show slots + 0 ≤ 7293034; omega)⟩) hA hW (fun x1345' M1345' H locs p1345' hW => ?_)
  try dsimp only at p1345'
  obtain ⟨b1, -, -, b4⟩ := p1345'
  obtain ⟨hM9, b5⟩ := b4 rfl
  obtain ⟨σ9, e9'⟩ : ∃ z, z = σ := ⟨_, rfl⟩
  obtain ⟨v9, f9⟩ : ∃ z, z = v := ⟨_, rfl⟩
  have hsh9 : sh = shL (aN σ9) := by rw [e9']; exact hsh
  rw [← e9', ← f9] at hM9
  have hX9 : XX σ9 v9 M1345' := by rw [e9', f9]; exact XX.mo hXX b1
  refine lv_icmp_eq (tgt := 1840) hx hb dL_law_1348 (by decide) (fun c1348' => ?_) (fun c1348' => ?_)
  · refine W.widen (k := cells + 2) (n := slots + 12) (by omega) (by omega) ?_
    exact kk σ9 v9 sh ad M1345' _ _ _ ⟨hsh9, hX9, hM9, hA, hW⟩ (lv_sub hl [0, 1, 2, 3, 4] rfl)
  · exact ((c1348' (p1341'.trans b5.symm))).elim
set_option maxHeartbeats 4000000 in
set_option maxRecDepth 100000 in
theorem law_fired {p : Program} {l : Launch} {e : Env} {s : State} {m : MethodId} {below : List Frame} {meth : Method} {cd0 : Code} {b L : Nat} {xs : Nat → Int32} {D : va_G} {cA : Nat → ClassId} (C0 : LC p l s m cd0 b L xs D cA) (σ : AS) (v : VT) (sh : Nat → Option Sh) (ad : Nat → Nat) (M : MS) (H : Heap) (locs : List Loc) (hI : LI D cA s σ v sh ad M H locs) (i : Nat) (hi5 : i + 5 ≤ L) (xi : Int32) (ei : xi = nI i) (ls : Array Slot) (hl : lv_has ls 8 [(4, .int xi), (3, .ref (ad 90)), (2, .ref (ad 60)), (1, .ref (ad 0)), (0, .ref b)]) (cells slots : Nat) (hc9 : cells + 2 ≤ 601024 ∧ slots + 12 ≤ 7293034)
  (kk : ∀ (σ' : AS) (v' : VT) (sh' : Nat → Option Sh) (ad' : Nat → Nat) (M' : MS) (H' : Heap) (locs' : List Loc) (ls' : Array Slot), LI D cA s σ' v' sh' ad' M' H' locs' → lv_has ls' 8 [(4, .int xi), (3, .ref (ad' 90)), (2, .ref (ad' 60)), (1, .ref (ad' 0)), (0, .ref b)] → W p l e room_1 s m #[Value.ref b] below meth cd0 H' locs' (cells + 2) (slots + 12) (lw_Z below #[Value.ref b] s) (F0 m 1840 ls' [])) : W p l e room_1 s m #[Value.ref b] below meth cd0 H locs cells slots (lw_Z below #[Value.ref b] s) (F0 m 1353 ls []) := by
  obtain ⟨hx, hb, hml, hown, hts, hK, hl9, hS9, hbl, hL9, hE, hZ, hE2⟩ := C0
  obtain ⟨hsh, hXX, hMX, hA, hW⟩ := hI
  have hX : XSh (aN σ) sh := by rw [hsh]; exact shL_X _
  have hMs : MSh sh := by rw [hsh]; exact shL_M _
  have hO : sh 90 = some (.inr (2, 1)) := by rw [hsh]; exact shL_O _
  refine lv_aload_n hx hb dL_law_1353 rfl (lv_at hl 3 rfl) ?_
  refine wc_wi (va_runV (As := []) (rest := []) ⟨hx, hb, hml, hown, hts⟩ (c_X9_fired l D cA sh ad M _ σ v hX hXX ) (cwV 0 hts gL_law_X9_fired rfl rfl rfl (by decide +kernel) ⟨Nat.le_of_ble_eq_true rfl, Nat.le_of_ble_eq_true rfl⟩) (wpreV hK hW (C := RX9) (ci := 9) (hX.1 0 (by decide)) rfl) rfl rfl hl.1 rfl (lv_room (Nat.le_of_ble_eq_true rfl)) dL_law_1354 ⟨(by show cells + 0 ≤ 601024; omega), (by show slots + 0 ≤ 7293034; omega)⟩) hA hW (fun x1354' M1354' H locs p1354' hW => ?_)
  try dsimp only at p1354'
  have hMX1 : MX σ v M1354' := hMX.oA (fun p k h1 h2 => (p1354'.1 p k (fun z => by unfold XSx at z; omega)).1)
  refine lv_aload_n hx hb dL_law_1357 rfl (lv_at hl 2 rfl) ?_
  refine wc_wi (va_runV (As := []) (rest := [.int x1354']) ⟨hx, hb, hml, hown, hts⟩ (c_X10_fired l D cA sh ad M1354' _ σ v hMs hMX1 ) (cwV 0 hts gL_law_X10_fired rfl rfl rfl (by decide +kernel) ⟨Nat.le_of_ble_eq_true rfl, Nat.le_of_ble_eq_true rfl⟩) (wpreV hK hW (C := RX10) (ci := 10) (hMs 60 (by decide) (by decide)) rfl) rfl rfl hl.1 rfl (lv_room (Nat.le_of_ble_eq_true rfl)) dL_law_1358 ⟨(by show cells + 0 ≤ 601024; omega), (by show slots + 0 ≤ 7293034; omega)⟩) hA hW (fun x1358' M1358' H locs p1358' hW => ?_)
  try dsimp only at p1358'
  obtain ⟨b1, -, -, b4⟩ := p1358'
  obtain ⟨hM9, b5⟩ := b4 rfl
  obtain ⟨σ9, e9'⟩ : ∃ z, z = σ := ⟨_, rfl⟩
  obtain ⟨v9, f9⟩ : ∃ z, z = v := ⟨_, rfl⟩
  have hsh9 : sh = shL (aN σ9) := by rw [e9']; exact hsh
  rw [← e9', ← f9] at hM9
  have hX9 : XX σ9 v9 M1358' := by rw [e9', f9]; exact XX.mo p1354'.2.1 b1
  refine lv_icmp_eq (tgt := 1840) hx hb dL_law_1361 (by decide) (fun c1361' => ?_) (fun c1361' => ?_)
  · refine W.widen (k := cells + 2) (n := slots + 12) (by omega) (by omega) ?_
    exact kk σ9 v9 sh ad M1358' _ _ _ ⟨hsh9, hX9, hM9, hA, hW⟩ (lv_sub hl [0, 1, 2, 3, 4] rfl)
  · exact ((c1361' (ord_eq (F := fun q c => nI (lit σ q c)) (fun q q' c e => by (try dsimp only); rw [lit_cg e c (Nat.le_refl _)]) p1354'.2.2 b5))).elim
set_option maxHeartbeats 4000000 in
set_option maxRecDepth 100000 in
theorem law_firing {p : Program} {l : Launch} {e : Env} {s : State} {m : MethodId} {below : List Frame} {meth : Method} {cd0 : Code} {b L : Nat} {xs : Nat → Int32} {D : va_G} {cA : Nat → ClassId} (C0 : LC p l s m cd0 b L xs D cA) (σ : AS) (v : VT) (sh : Nat → Option Sh) (ad : Nat → Nat) (M : MS) (H : Heap) (locs : List Loc) (hI : LI D cA s σ v sh ad M H locs) (i : Nat) (hi5 : i + 5 ≤ L) (xi : Int32) (ei : xi = nI i) (ls : Array Slot) (hl : lv_has ls 8 [(4, .int xi), (3, .ref (ad 90)), (2, .ref (ad 60)), (1, .ref (ad 0)), (0, .ref b)]) (cells slots : Nat) (hc9 : cells + 2 ≤ 601024 ∧ slots + 12 ≤ 7293034)
  (kk : ∀ (σ' : AS) (v' : VT) (sh' : Nat → Option Sh) (ad' : Nat → Nat) (M' : MS) (H' : Heap) (locs' : List Loc) (ls' : Array Slot), LI D cA s σ' v' sh' ad' M' H' locs' → lv_has ls' 8 [(4, .int xi), (3, .ref (ad' 90)), (2, .ref (ad' 60)), (1, .ref (ad' 0)), (0, .ref b)] → W p l e room_1 s m #[Value.ref b] below meth cd0 H' locs' (cells + 2) (slots + 12) (lw_Z below #[Value.ref b] s) (F0 m 1840 ls' [])) : W p l e room_1 s m #[Value.ref b] below meth cd0 H locs cells slots (lw_Z below #[Value.ref b] s) (F0 m 1366 ls []) := by
  obtain ⟨hx, hb, hml, hown, hts, hK, hl9, hS9, hbl, hL9, hE, hZ, hE2⟩ := C0
  obtain ⟨hsh, hXX, hMX, hA, hW⟩ := hI
  have hX : XSh (aN σ) sh := by rw [hsh]; exact shL_X _
  have hMs : MSh sh := by rw [hsh]; exact shL_M _
  have hO : sh 90 = some (.inr (2, 1)) := by rw [hsh]; exact shL_O _
  refine lv_aload_n hx hb dL_law_1366 rfl (lv_at hl 3 rfl) ?_
  refine lv_aload_n hx hb dL_law_1367 rfl (lv_at hl 4 rfl) ?_
  refine lv_iload hx hb dL_law_1368 (lv_at hl 0 rfl) ?_
  refine lv_iconst (v := 1) hx hb dL_law_1370 (by decide) ?_
  refine lv_iadd hx hb dL_law_1371 ?_
  refine lv_topi (fun x1371' e1371' => ?_)
  have n1371' : x1371' = nI (i + 1) := (by rw [e1371', ei, (nlit 1), nI_add])
  refine lsld (j := (i + 1)) hx hb hS9 hbl hW.2 n1371' (by omega) hL9 dL_law_1372 ?_
  refine lv_aload_n hx hb dL_law_1373 rfl (lv_at hl 1 rfl) ?_
  refine wc_wiN (vx_runSW (As := [.ref (ad 0), .int (xs (i + 1)), .ref (ad 90)]) (rest := []) ⟨hx, hb, hml, hown, hts⟩ (c_L_firing l hl9 D cA sh ad M _ σ v hX hXX hO (xs (i + 1))) (vx_cwSW 3 hts gL_law_L_firing rfl rfl rfl (by decide +kernel) ⟨Nat.le_of_ble_eq_true rfl, Nat.le_of_ble_eq_true rfl⟩) (lpreS hK hA hW hE hZ hE2) rfl rfl hl.1 rfl (lv_room (Nat.le_of_ble_eq_true rfl)) dL_law_1374 ⟨(by show cells + 1 ≤ 601024; omega), (by show slots + 6 ≤ 7293034; omega)⟩) hA hW (fun x1374' M1374' H locs p1374' hW => ?_)
  try dsimp only at p1374'
  have hMX1 := hMX.oA p1374'.1
  refine lv_istore (lv' := [(5, .int x1374'), (4, .int xi), (3, .ref (ad 90)), (2, .ref (ad 60)), (1, .ref (ad 0)), (0, .ref b)]) hx hb dL_law_1377 hl (by decide) rfl (fun ls hl => ?_)
  refine lv_aload_n hx hb dL_law_1379 rfl (lv_at hl 3 rfl) ?_
  refine lv_aload_n hx hb dL_law_1380 rfl (lv_at hl 5 rfl) ?_
  refine lv_iload hx hb dL_law_1381 (lv_at hl 1 rfl) ?_
  refine lv_iconst (v := 1) hx hb dL_law_1383 (by decide) ?_
  refine lv_iadd hx hb dL_law_1384 ?_
  refine lv_topi (fun x1384' e1384' => ?_)
  have n1384' : x1384' = nI (i + 1) := (by rw [e1384', ei, (nlit 1), nI_add])
  refine lsld (j := (i + 1)) hx hb hS9 hbl hW.2 n1384' (by omega) hL9 dL_law_1385 ?_
  refine wc_wi (va_runV (As := [.int (xs (i + 1))]) (rest := []) ⟨hx, hb, hml, hown, hts⟩ (c_X10_firing l D cA sh ad M1374' _ σ v hMs hMX1 (xs (i + 1))) (cwV 1 hts gL_law_X10_firing rfl rfl rfl (by decide +kernel) ⟨Nat.le_of_ble_eq_true rfl, Nat.le_of_ble_eq_true rfl⟩) (wpreV hK hW (C := RX10) (ci := 10) (hMs 60 (by decide) (by decide)) rfl) rfl rfl hl.1 rfl (lv_room (Nat.le_of_ble_eq_true rfl)) dL_law_1386 ⟨(by show cells + 1 + 0 ≤ 601024; omega), (by show slots + 6 + 0 ≤ 7293034; omega)⟩) hA hW (fun x1386' M1386' H locs p1386' hW => ?_)
  try dsimp only at p1386'
  have L9 := law_fir p1374' p1386' 
  refine lv_istore (lv' := [(6, .int x1386'), (5, .int x1374'), (4, .int xi), (3, .ref (ad 90)), (2, .ref (ad 60)), (1, .ref (ad 0)), (0, .ref b)]) hx hb dL_law_1389 hl (by decide) rfl (fun ls hl => ?_)
  refine lv_aload_n hx hb dL_law_1391 rfl (lv_at hl 4 rfl) ?_
  refine wc_ri (va_runV (As := []) (rest := []) ⟨hx, hb, hml, hown, hts⟩ (c_X10_thrown l D cA sh ad M1386' _ hMs) (cwV 0 hts gL_law_X10_thrown rfl rfl rfl (by decide +kernel) ⟨Nat.le_of_ble_eq_true rfl, Nat.le_of_ble_eq_true rfl⟩) (wpreV hK hW (C := RX10) (ci := 10) (hMs 60 (by decide) (by decide)) rfl) rfl rfl hl.1 rfl (lv_room (Nat.le_of_ble_eq_true rfl)) dL_law_1392 ⟨(by show cells + 1 + 0 ≤ 601024; omega), (by show slots + 6 + 0 ≤ 7293034; omega)⟩) hW (fun x1392' H locs p1392' hW => ?_)
  try dsimp only at p1392'
  obtain ⟨σ9, v9, hn9, hX9, hM9⟩ := L9.2.2
  have hsh9 : sh = shL (aN σ9) := by rw [hn9]; exact hsh
  refine lv_iload hx hb dL_law_1395 (lv_at hl 1 rfl) ?_
  refine lv_icmp_eq (tgt := 1402) hx hb dL_law_1397 (by decide) (fun c1397' => ?_) (fun c1397' => ?_)
  · refine lv_iload hx hb dL_law_1402 (lv_at hl 1 rfl) ?_
    refine lv_if_ne (tgt := 1419) hx hb dL_law_1404 (by decide) (fun c1404' => ?_) (fun c1404' => ?_)
    · refine lv_goto (tgt := 1840) hx hb dL_law_1419 (by decide) ?_
      refine W.widen (k := cells + 2) (n := slots + 12) (by omega) (by omega) ?_
      exact kk σ9 v9 sh ad M1386' _ _ _ ⟨hsh9, hX9, hM9, hA, hW⟩ (lv_sub hl [2, 3, 4, 5, 6] rfl)
    · refine lv_aload_n hx hb dL_law_1407 rfl (lv_at hl 3 rfl) ?_
      refine lv_iconst (v := 0) hx hb dL_law_1408 (by decide) ?_
      refine walL (j := 0) hx hb hK hW hO (nlit 0) (by omega) (by decide) dL_law_1409 (fun x1409' e1409' => ?_)
      refine lv_iload hx hb dL_law_1410 (lv_at hl 0 rfl) ?_
      refine lv_i2l hx hb dL_law_1412 rfl ?_
      refine lv_topl (fun x1412' e1412' => ?_)
      refine W.lcmp hx hb dL_law_1413 ?_
      refine lv_topi (fun x1413' e1413' => ?_)
      refine lv_if_eq (tgt := 1419) hx hb dL_law_1414 (by decide) (fun c1414' => ?_) (fun c1414' => ?_)
      · refine lv_goto (tgt := 1840) hx hb dL_law_1419 (by decide) ?_
        refine W.widen (k := cells + 2) (n := slots + 12) (by omega) (by omega) ?_
        exact kk σ9 v9 sh ad M1386' _ _ _ ⟨hsh9, hX9, hM9, hA, hW⟩ (lv_sub hl [2, 3, 4, 5, 6] rfl)
      · exact ((c1414' (by rw [e1413', e1409', e1412', L9.2.1 c1404']; exact lg_self _))).elim
  · exact ((c1397' (p1392'.trans L9.1))).elim
set_option maxHeartbeats 4000000 in
set_option maxRecDepth 100000 in
theorem law_closed {p : Program} {l : Launch} {e : Env} {s : State} {m : MethodId} {below : List Frame} {meth : Method} {cd0 : Code} {b L : Nat} {xs : Nat → Int32} {D : va_G} {cA : Nat → ClassId} (C0 : LC p l s m cd0 b L xs D cA) (σ : AS) (v : VT) (sh : Nat → Option Sh) (ad : Nat → Nat) (M : MS) (H : Heap) (locs : List Loc) (hI : LI D cA s σ v sh ad M H locs) (i : Nat) (hi5 : i + 5 ≤ L) (xi : Int32) (ei : xi = nI i) (ls : Array Slot) (hl : lv_has ls 8 [(4, .int xi), (3, .ref (ad 90)), (2, .ref (ad 60)), (1, .ref (ad 0)), (0, .ref b)]) (cells slots : Nat) (hc9 : cells + 2 ≤ 601024 ∧ slots + 12 ≤ 7293034)
  (kk : ∀ (σ' : AS) (v' : VT) (sh' : Nat → Option Sh) (ad' : Nat → Nat) (M' : MS) (H' : Heap) (locs' : List Loc) (ls' : Array Slot), LI D cA s σ' v' sh' ad' M' H' locs' → lv_has ls' 8 [(4, .int xi), (3, .ref (ad' 90)), (2, .ref (ad' 60)), (1, .ref (ad' 0)), (0, .ref b)] → W p l e room_1 s m #[Value.ref b] below meth cd0 H' locs' (cells + 2) (slots + 12) (lw_Z below #[Value.ref b] s) (F0 m 1840 ls' [])) : W p l e room_1 s m #[Value.ref b] below meth cd0 H locs cells slots (lw_Z below #[Value.ref b] s) (F0 m 1422 ls []) := by
  obtain ⟨hx, hb, hml, hown, hts, hK, hl9, hS9, hbl, hL9, hE, hZ, hE2⟩ := C0
  obtain ⟨hsh, hXX, hMX, hA, hW⟩ := hI
  have hX : XSh (aN σ) sh := by rw [hsh]; exact shL_X _
  have hMs : MSh sh := by rw [hsh]; exact shL_M _
  have hO : sh 90 = some (.inr (2, 1)) := by rw [hsh]; exact shL_O _
  refine lv_aload_n hx hb dL_law_1422 rfl (lv_at hl 3 rfl) ?_
  refine wc_wi (va_runV (As := []) (rest := []) ⟨hx, hb, hml, hown, hts⟩ (c_X9_closed l D cA sh ad M _ σ v hX hXX ) (cwV 0 hts gL_law_X9_closed rfl rfl rfl (by decide +kernel) ⟨Nat.le_of_ble_eq_true rfl, Nat.le_of_ble_eq_true rfl⟩) (wpreV hK hW (C := RX9) (ci := 9) (hX.1 0 (by decide)) rfl) rfl rfl hl.1 rfl (lv_room (Nat.le_of_ble_eq_true rfl)) dL_law_1423 ⟨(by show cells + 0 ≤ 601024; omega), (by show slots + 0 ≤ 7293034; omega)⟩) hA hW (fun x1423' M1423' H locs p1423' hW => ?_)
  try dsimp only at p1423'
  have hMX1 : MX σ v M1423' := hMX.oA (fun p k h1 h2 => (p1423'.1 p k (fun z => by unfold XSx at z; omega)).1)
  refine lv_aload_n hx hb dL_law_1426 rfl (lv_at hl 2 rfl) ?_
  refine wc_wi (va_runV (As := []) (rest := [.int x1423']) ⟨hx, hb, hml, hown, hts⟩ (c_X10_closed l D cA sh ad M1423' _ σ v hMs hMX1 ) (cwV 0 hts gL_law_X10_closed rfl rfl rfl (by decide +kernel) ⟨Nat.le_of_ble_eq_true rfl, Nat.le_of_ble_eq_true rfl⟩) (wpreV hK hW (C := RX10) (ci := 10) (hMs 60 (by decide) (by decide)) rfl) rfl rfl hl.1 rfl (lv_room (Nat.le_of_ble_eq_true rfl)) dL_law_1427 ⟨(by show cells + 0 ≤ 601024; omega), (by show slots + 0 ≤ 7293034; omega)⟩) hA hW (fun x1427' M1427' H locs p1427' hW => ?_)
  try dsimp only at p1427'
  obtain ⟨b1, -, -, b4⟩ := p1427'
  obtain ⟨hM9, b5⟩ := b4 rfl
  obtain ⟨σ9, e9'⟩ : ∃ z, z = σ := ⟨_, rfl⟩
  obtain ⟨v9, f9⟩ : ∃ z, z = v := ⟨_, rfl⟩
  have hsh9 : sh = shL (aN σ9) := by rw [e9']; exact hsh
  rw [← e9', ← f9] at hM9
  have hX9 : XX σ9 v9 M1427' := by rw [e9', f9]; exact XX.mo p1423'.2.1 b1
  refine lv_icmp_eq (tgt := 1840) hx hb dL_law_1430 (by decide) (fun c1430' => ?_) (fun c1430' => ?_)
  · refine W.widen (k := cells + 2) (n := slots + 12) (by omega) (by omega) ?_
    exact kk σ9 v9 sh ad M1427' _ _ _ ⟨hsh9, hX9, hM9, hA, hW⟩ (lv_sub hl [0, 1, 2, 3, 4] rfl)
  · exact ((c1430' (p1423'.2.2.trans b5.symm))).elim
set_option maxHeartbeats 4000000 in
set_option maxRecDepth 100000 in
theorem law_kill {p : Program} {l : Launch} {e : Env} {s : State} {m : MethodId} {below : List Frame} {meth : Method} {cd0 : Code} {b L : Nat} {xs : Nat → Int32} {D : va_G} {cA : Nat → ClassId} (C0 : LC p l s m cd0 b L xs D cA) (σ : AS) (v : VT) (sh : Nat → Option Sh) (ad : Nat → Nat) (M : MS) (H : Heap) (locs : List Loc) (hI : LI D cA s σ v sh ad M H locs) (i : Nat) (hi5 : i + 5 ≤ L) (xi : Int32) (ei : xi = nI i) (ls : Array Slot) (hl : lv_has ls 8 [(4, .int xi), (3, .ref (ad 90)), (2, .ref (ad 60)), (1, .ref (ad 0)), (0, .ref b)]) (cells slots : Nat) (hc9 : cells + 2 ≤ 601024 ∧ slots + 12 ≤ 7293034)
  (kk : ∀ (σ' : AS) (v' : VT) (sh' : Nat → Option Sh) (ad' : Nat → Nat) (M' : MS) (H' : Heap) (locs' : List Loc) (ls' : Array Slot), LI D cA s σ' v' sh' ad' M' H' locs' → lv_has ls' 8 [(4, .int xi), (3, .ref (ad' 90)), (2, .ref (ad' 60)), (1, .ref (ad' 0)), (0, .ref b)] → W p l e room_1 s m #[Value.ref b] below meth cd0 H' locs' (cells + 2) (slots + 12) (lw_Z below #[Value.ref b] s) (F0 m 1840 ls' [])) : W p l e room_1 s m #[Value.ref b] below meth cd0 H locs cells slots (lw_Z below #[Value.ref b] s) (F0 m 1435 ls []) := by
  obtain ⟨hx, hb, hml, hown, hts, hK, hl9, hS9, hbl, hL9, hE, hZ, hE2⟩ := C0
  obtain ⟨hsh, hXX, hMX, hA, hW⟩ := hI
  have hX : XSh (aN σ) sh := by rw [hsh]; exact shL_X _
  have hMs : MSh sh := by rw [hsh]; exact shL_M _
  have hO : sh 90 = some (.inr (2, 1)) := by rw [hsh]; exact shL_O _
  refine lv_aload_n hx hb dL_law_1435 rfl (lv_at hl 3 rfl) ?_
  refine lv_aload_n hx hb dL_law_1436 rfl (lv_at hl 4 rfl) ?_
  refine lv_iload hx hb dL_law_1437 (lv_at hl 0 rfl) ?_
  refine lv_iconst (v := 1) hx hb dL_law_1439 (by decide) ?_
  refine lv_iadd hx hb dL_law_1440 ?_
  refine lv_topi (fun x1440' e1440' => ?_)
  have n1440' : x1440' = nI (i + 1) := (by rw [e1440', ei, (nlit 1), nI_add])
  refine lsld (j := (i + 1)) hx hb hS9 hbl hW.2 n1440' (by omega) hL9 dL_law_1441 ?_
  refine lv_aload_n hx hb dL_law_1442 rfl (lv_at hl 4 rfl) ?_
  refine lv_iload hx hb dL_law_1443 (lv_at hl 0 rfl) ?_
  refine lv_iconst (v := 2) hx hb dL_law_1445 (by decide) ?_
  refine lv_iadd hx hb dL_law_1446 ?_
  refine lv_topi (fun x1446' e1446' => ?_)
  have n1446' : x1446' = nI (i + 2) := (by rw [e1446', ei, (nlit 2), nI_add])
  refine lsld (j := (i + 2)) hx hb hS9 hbl hW.2 n1446' (by omega) hL9 dL_law_1447 ?_
  refine lv_aload_n hx hb dL_law_1448 rfl (lv_at hl 1 rfl) ?_
  refine wc_wiN (vx_runSW (As := [.ref (ad 0), .int (xs (i + 1)), .int (xs (i + 2)), .ref (ad 90)]) (rest := []) ⟨hx, hb, hml, hown, hts⟩ (c_L_kill l hl9 D cA sh ad M _ σ v hX hXX hO (xs (i + 1)) (xs (i + 2))) (vx_cwSW 4 hts gL_law_L_kill rfl rfl rfl (by decide +kernel) ⟨Nat.le_of_ble_eq_true rfl, Nat.le_of_ble_eq_true rfl⟩) (lpreS hK hA hW hE hZ hE2) rfl rfl hl.1 rfl (lv_room (Nat.le_of_ble_eq_true rfl)) dL_law_1449 ⟨(by show cells + 1 ≤ 601024; omega), (by show slots + 6 ≤ 7293034; omega)⟩) hA hW (fun x1449' M1449' H locs p1449' hW => ?_)
  try dsimp only at p1449'
  have hMX1 := hMX.oA p1449'.1
  refine lv_istore (lv' := [(5, .int x1449'), (4, .int xi), (3, .ref (ad 90)), (2, .ref (ad 60)), (1, .ref (ad 0)), (0, .ref b)]) hx hb dL_law_1452 hl (by decide) rfl (fun ls hl => ?_)
  refine lv_aload_n hx hb dL_law_1454 rfl (lv_at hl 3 rfl) ?_
  refine lv_aload_n hx hb dL_law_1455 rfl (lv_at hl 5 rfl) ?_
  refine lv_iload hx hb dL_law_1456 (lv_at hl 1 rfl) ?_
  refine lv_iconst (v := 1) hx hb dL_law_1458 (by decide) ?_
  refine lv_iadd hx hb dL_law_1459 ?_
  refine lv_topi (fun x1459' e1459' => ?_)
  have n1459' : x1459' = nI (i + 1) := (by rw [e1459', ei, (nlit 1), nI_add])
  refine lsld (j := (i + 1)) hx hb hS9 hbl hW.2 n1459' (by omega) hL9 dL_law_1460 ?_
  refine lv_aload_n hx hb dL_law_1461 rfl (lv_at hl 5 rfl) ?_
  refine lv_iload hx hb dL_law_1462 (lv_at hl 1 rfl) ?_
  refine lv_iconst (v := 2) hx hb dL_law_1464 (by decide) ?_
  refine lv_iadd hx hb dL_law_1465 ?_
  refine lv_topi (fun x1465' e1465' => ?_)
  have n1465' : x1465' = nI (i + 2) := (by rw [e1465', ei, (nlit 2), nI_add])
  refine lsld (j := (i + 2)) hx hb hS9 hbl hW.2 n1465' (by omega) hL9 dL_law_1466 ?_
  refine wc_wi (va_runV (As := [.int (xs (i + 1)), .int (xs (i + 2))]) (rest := []) ⟨hx, hb, hml, hown, hts⟩ (c_X10_kill l D cA sh ad M1449' _ σ v hMs hMX1 (xs (i + 1)) (xs (i + 2))) (cwV 2 hts gL_law_X10_kill rfl rfl rfl (by decide +kernel) ⟨Nat.le_of_ble_eq_true rfl, Nat.le_of_ble_eq_true rfl⟩) (wpreV hK hW (C := RX10) (ci := 10) (hMs 60 (by decide) (by decide)) rfl) rfl rfl hl.1 rfl (lv_room (Nat.le_of_ble_eq_true rfl)) dL_law_1467 ⟨(by show cells + 1 + 0 ≤ 601024; omega), (by show slots + 6 + 0 ≤ 7293034; omega)⟩) hA hW (fun x1467' M1467' H locs p1467' hW => ?_)
  try dsimp only at p1467'
  have L9 := law_one (bl := if x1467' = 0 then 0 else 1) p1449' ⟨p1467'.1, p1467'.2.1, p1467'.2.2.1, p1467'.2.2.2.2⟩ (fun ⟨x, h1, h2⟩ h3 => by rw [h2, h1, h3]) rfl
  refine lv_istore (lv' := [(6, .int x1467'), (5, .int x1449'), (4, .int xi), (3, .ref (ad 90)), (2, .ref (ad 60)), (1, .ref (ad 0)), (0, .ref b)]) hx hb dL_law_1470 hl (by decide) rfl (fun ls hl => ?_)
  refine lv_aload_n hx hb dL_law_1472 rfl (lv_at hl 4 rfl) ?_
  refine wc_ri (va_runV (As := []) (rest := []) ⟨hx, hb, hml, hown, hts⟩ (c_X10_thrown l D cA sh ad M1467' _ hMs) (cwV 0 hts gL_law_X10_thrown rfl rfl rfl (by decide +kernel) ⟨Nat.le_of_ble_eq_true rfl, Nat.le_of_ble_eq_true rfl⟩) (wpreV hK hW (C := RX10) (ci := 10) (hMs 60 (by decide) (by decide)) rfl) rfl rfl hl.1 rfl (lv_room (Nat.le_of_ble_eq_true rfl)) dL_law_1473 ⟨(by show cells + 1 + 0 ≤ 601024; omega), (by show slots + 6 + 0 ≤ 7293034; omega)⟩) hW (fun x1473' H locs p1473' hW => ?_)
  try dsimp only at p1473'
  obtain ⟨σ9, v9, hn9, hX9, hM9⟩ := L9.2.2
  have hsh9 : sh = shL (aN σ9) := by rw [hn9]; exact hsh
  refine lv_iload hx hb dL_law_1476 (lv_at hl 1 rfl) ?_
  refine lv_icmp_eq (tgt := 1483) hx hb dL_law_1478 (by decide) (fun c1478' => ?_) (fun c1478' => ?_)
  · refine lv_iload hx hb dL_law_1483 (lv_at hl 1 rfl) ?_
    refine lv_if_ne (tgt := 1507) hx hb dL_law_1485 (by decide) (fun c1485' => ?_) (fun c1485' => ?_)
    · refine lv_goto (tgt := 1840) hx hb dL_law_1507 (by decide) ?_
      refine W.widen (k := cells + 2) (n := slots + 12) (by omega) (by omega) ?_
      exact kk σ9 v9 sh ad M1467' _ _ _ ⟨hsh9, hX9, hM9, hA, hW⟩ (lv_sub hl [2, 3, 4, 5, 6] rfl)
    · refine lv_aload_n hx hb dL_law_1488 rfl (lv_at hl 3 rfl) ?_
      refine lv_iconst (v := 0) hx hb dL_law_1489 (by decide) ?_
      refine walL (j := 0) hx hb hK hW hO (nlit 0) (by omega) (by decide) dL_law_1490 (fun x1490' e1490' => ?_)
      refine lv_iload hx hb dL_law_1491 (lv_at hl 0 rfl) ?_
      refine lv_if_eq (tgt := 1500) hx hb dL_law_1493 (by decide) (fun c1493' => ?_) (fun c1493' => ?_)
      · refine lv_lconst (v := 0) hx hb dL_law_1500 (by decide) ?_
        refine W.lcmp hx hb dL_law_1501 ?_
        refine lv_topi (fun x1501' e1501' => ?_)
        refine lv_if_eq (tgt := 1507) hx hb dL_law_1502 (by decide) (fun c1502' => ?_) (fun c1502' => ?_)
        · refine lv_goto (tgt := 1840) hx hb dL_law_1507 (by decide) ?_
          refine W.widen (k := cells + 2) (n := slots + 12) (by omega) (by omega) ?_
          exact kk σ9 v9 sh ad M1467' _ _ _ ⟨hsh9, hX9, hM9, hA, hW⟩ (lv_sub hl [2, 3, 4, 5, 6] rfl)
        · exact ((c1502' (by rw [e1501', e1490', L9.2.1 c1485']; first | (rw [if_pos c1493']; exact lg_self _) | (rw [if_neg c1493']; exact lg_self _)))).elim
      · refine lv_lconst (v := 1) hx hb dL_law_1496 (by decide) ?_
        refine lv_goto (tgt := 1501) hx hb dL_law_1497 (by decide) ?_
        refine W.lcmp hx hb dL_law_1501 ?_
        refine lv_topi (fun x1501' e1501' => ?_)
        refine lv_if_eq (tgt := 1507) hx hb dL_law_1502 (by decide) (fun c1502' => ?_) (fun c1502' => ?_)
        · refine lv_goto (tgt := 1840) hx hb dL_law_1507 (by decide) ?_
          refine W.widen (k := cells + 2) (n := slots + 12) (by omega) (by omega) ?_
          exact kk σ9 v9 sh ad M1467' _ _ _ ⟨hsh9, hX9, hM9, hA, hW⟩ (lv_sub hl [2, 3, 4, 5, 6] rfl)
        · exact ((c1502' (by rw [e1501', e1490', L9.2.1 c1485']; first | (rw [if_pos c1493']; exact lg_self _) | (rw [if_neg c1493']; exact lg_self _)))).elim
  · exact ((c1478' (p1473'.trans L9.1))).elim

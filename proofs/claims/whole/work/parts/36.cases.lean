
set_option maxHeartbeats 4000000 in
set_option maxRecDepth 100000 in
theorem law_setGap {p : Program} {l : Launch} {e : Env} {s : State} {m : MethodId} {below : List Frame} {meth : Method} {cd0 : Code} {b L : Nat} {xs : Nat → Int32} {D : va_G} {cA : Nat → ClassId} (C0 : LC p l s m cd0 b L xs D cA) (σ : AS) (v : VT) (sh : Nat → Option Sh) (ad : Nat → Nat) (M : MS) (H : Heap) (locs : List Loc) (hI : LI D cA s σ v sh ad M H locs) (i : Nat) (hi5 : i + 5 ≤ L) (xi : Int32) (ei : xi = nI i) (ls : Array Slot) (hl : lv_has ls 8 [(4, .int xi), (3, .ref (ad 90)), (2, .ref (ad 60)), (1, .ref (ad 0)), (0, .ref b)]) (cells slots : Nat) (hc9 : cells + 2 ≤ 601024 ∧ slots + 12 ≤ 7293034)
  (kk : ∀ (σ' : AS) (v' : VT) (sh' : Nat → Option Sh) (ad' : Nat → Nat) (M' : MS) (H' : Heap) (locs' : List Loc) (ls' : Array Slot), LI D cA s σ' v' sh' ad' M' H' locs' → lv_has ls' 8 [(4, .int xi), (3, .ref (ad' 90)), (2, .ref (ad' 60)), (1, .ref (ad' 0)), (0, .ref b)] → W p l e room_1 s m #[Value.ref b] below meth cd0 H' locs' (cells + 2) (slots + 12) (lw_Z below #[Value.ref b] s) (F0 m 1840 ls' [])) : W p l e room_1 s m #[Value.ref b] below meth cd0 H locs cells slots (lw_Z below #[Value.ref b] s) (F0 m 1510 ls []) := by
  obtain ⟨hx, hb, hml, hown, hts, hK, hl9, hS9, hbl, hL9, hE, hZ, hE2⟩ := C0
  obtain ⟨hsh, hXX, hMX, hA, hW⟩ := hI
  have hX : XSh (aN σ) sh := by rw [hsh]; exact shL_X _
  have hMs : MSh sh := by rw [hsh]; exact shL_M _
  have hO : sh 90 = some (.inr (2, 1)) := by rw [hsh]; exact shL_O _
  refine lv_aload_n hx hb dL_law_1510 rfl (lv_at hl 3 rfl) ?_
  refine lv_aload_n hx hb dL_law_1511 rfl (lv_at hl 4 rfl) ?_
  refine lv_iload hx hb dL_law_1512 (lv_at hl 0 rfl) ?_
  refine lv_iconst (v := 1) hx hb dL_law_1514 (by decide) ?_
  refine lv_iadd hx hb dL_law_1515 ?_
  refine lv_topi (fun x1515' e1515' => ?_)
  have n1515' : x1515' = nI (i + 1) := (by rw [e1515', ei, (nlit 1), nI_add])
  refine lsld (j := (i + 1)) hx hb hS9 hbl hW.2 n1515' (by omega) hL9 dL_law_1516 ?_
  refine lv_aload_n hx hb dL_law_1517 rfl (lv_at hl 1 rfl) ?_
  refine wc_wiN (vx_runSW (As := [.ref (ad 0), .int (xs (i + 1)), .ref (ad 90)]) (rest := []) ⟨hx, hb, hml, hown, hts⟩ (c_L_setGap l hl9 D cA sh ad M _ σ v hX hXX hO (xs (i + 1))) (vx_cwSW 3 hts gL_law_L_setGap rfl rfl rfl (by decide +kernel) ⟨Nat.le_of_ble_eq_true rfl, Nat.le_of_ble_eq_true rfl⟩) (lpreS hK hA hW hE hZ hE2) rfl rfl hl.1 rfl (lv_room (Nat.le_of_ble_eq_true rfl)) dL_law_1518 ⟨(by show cells + 1 ≤ 601024; omega), (by show slots + 6 ≤ 7293034; omega)⟩) hA hW (fun x1518' M1518' H locs p1518' hW => ?_)
  try dsimp only at p1518'
  have hMX1 := hMX.oA p1518'.1
  refine lv_istore (lv' := [(5, .int x1518'), (4, .int xi), (3, .ref (ad 90)), (2, .ref (ad 60)), (1, .ref (ad 0)), (0, .ref b)]) hx hb dL_law_1521 hl (by decide) rfl (fun ls hl => ?_)
  refine lv_aload_n hx hb dL_law_1523 rfl (lv_at hl 3 rfl) ?_
  refine lv_aload_n hx hb dL_law_1524 rfl (lv_at hl 5 rfl) ?_
  refine lv_iload hx hb dL_law_1525 (lv_at hl 1 rfl) ?_
  refine lv_iconst (v := 1) hx hb dL_law_1527 (by decide) ?_
  refine lv_iadd hx hb dL_law_1528 ?_
  refine lv_topi (fun x1528' e1528' => ?_)
  have n1528' : x1528' = nI (i + 1) := (by rw [e1528', ei, (nlit 1), nI_add])
  refine lsld (j := (i + 1)) hx hb hS9 hbl hW.2 n1528' (by omega) hL9 dL_law_1529 ?_
  refine wc_wi (va_runV (As := [.int (xs (i + 1))]) (rest := []) ⟨hx, hb, hml, hown, hts⟩ (c_X10_setGap l D cA sh ad M1518' _ σ v hMs hMX1 (xs (i + 1))) (cwV 1 hts gL_law_X10_setGap rfl rfl rfl (by decide +kernel) ⟨Nat.le_of_ble_eq_true rfl, Nat.le_of_ble_eq_true rfl⟩) (wpreV hK hW (C := RX10) (ci := 10) (hMs 60 (by decide) (by decide)) rfl) rfl rfl hl.1 rfl (lv_room (Nat.le_of_ble_eq_true rfl)) dL_law_1530 ⟨(by show cells + 1 + 0 ≤ 601024; omega), (by show slots + 6 + 0 ≤ 7293034; omega)⟩) hA hW (fun x1530' M1530' H locs p1530' hW => ?_)
  try dsimp only at p1530'
  have L9 := law_one (bl := x1530'.toInt64) p1518' p1530' (fun ⟨x, h1, h2⟩ h3 => by rw [h2, h1, h3]) rfl
  refine lv_istore (lv' := [(6, .int x1530'), (5, .int x1518'), (4, .int xi), (3, .ref (ad 90)), (2, .ref (ad 60)), (1, .ref (ad 0)), (0, .ref b)]) hx hb dL_law_1533 hl (by decide) rfl (fun ls hl => ?_)
  refine lv_aload_n hx hb dL_law_1535 rfl (lv_at hl 4 rfl) ?_
  refine wc_ri (va_runV (As := []) (rest := []) ⟨hx, hb, hml, hown, hts⟩ (c_X10_thrown l D cA sh ad M1530' _ hMs) (cwV 0 hts gL_law_X10_thrown rfl rfl rfl (by decide +kernel) ⟨Nat.le_of_ble_eq_true rfl, Nat.le_of_ble_eq_true rfl⟩) (wpreV hK hW (C := RX10) (ci := 10) (hMs 60 (by decide) (by decide)) rfl) rfl rfl hl.1 rfl (lv_room (Nat.le_of_ble_eq_true rfl)) dL_law_1536 ⟨(by show cells + 1 + 0 ≤ 601024; omega), (by show slots + 6 + 0 ≤ 7293034; omega)⟩) hW (fun x1536' H locs p1536' hW => ?_)
  try dsimp only at p1536'
  obtain ⟨σ9, v9, hn9, hX9, hM9⟩ := L9.2.2
  have hsh9 : sh = shL (aN σ9) := by rw [hn9]; exact hsh
  refine lv_iload hx hb dL_law_1539 (lv_at hl 1 rfl) ?_
  refine lv_icmp_eq (tgt := 1546) hx hb dL_law_1541 (by decide) (fun c1541' => ?_) (fun c1541' => ?_)
  · refine lv_iload hx hb dL_law_1546 (lv_at hl 1 rfl) ?_
    refine lv_if_ne (tgt := 1563) hx hb dL_law_1548 (by decide) (fun c1548' => ?_) (fun c1548' => ?_)
    · refine lv_goto (tgt := 1840) hx hb dL_law_1563 (by decide) ?_
      refine W.widen (k := cells + 2) (n := slots + 12) (by omega) (by omega) ?_
      exact kk σ9 v9 sh ad M1530' _ _ _ ⟨hsh9, hX9, hM9, hA, hW⟩ (lv_sub hl [2, 3, 4, 5, 6] rfl)
    · refine lv_aload_n hx hb dL_law_1551 rfl (lv_at hl 3 rfl) ?_
      refine lv_iconst (v := 0) hx hb dL_law_1552 (by decide) ?_
      refine walL (j := 0) hx hb hK hW hO (nlit 0) (by omega) (by decide) dL_law_1553 (fun x1553' e1553' => ?_)
      refine lv_iload hx hb dL_law_1554 (lv_at hl 0 rfl) ?_
      refine lv_i2l hx hb dL_law_1556 rfl ?_
      refine lv_topl (fun x1556' e1556' => ?_)
      refine W.lcmp hx hb dL_law_1557 ?_
      refine lv_topi (fun x1557' e1557' => ?_)
      refine lv_if_eq (tgt := 1563) hx hb dL_law_1558 (by decide) (fun c1558' => ?_) (fun c1558' => ?_)
      · refine lv_goto (tgt := 1840) hx hb dL_law_1563 (by decide) ?_
        refine W.widen (k := cells + 2) (n := slots + 12) (by omega) (by omega) ?_
        exact kk σ9 v9 sh ad M1530' _ _ _ ⟨hsh9, hX9, hM9, hA, hW⟩ (lv_sub hl [2, 3, 4, 5, 6] rfl)
      · exact ((c1558' (by rw [e1557', e1553', e1556', L9.2.1 c1548']; exact lg_self _))).elim
  · exact ((c1541' (p1536'.trans L9.1))).elim
set_option maxHeartbeats 4000000 in
set_option maxRecDepth 100000 in
theorem law_channelOf {p : Program} {l : Launch} {e : Env} {s : State} {m : MethodId} {below : List Frame} {meth : Method} {cd0 : Code} {b L : Nat} {xs : Nat → Int32} {D : va_G} {cA : Nat → ClassId} (C0 : LC p l s m cd0 b L xs D cA) (σ : AS) (v : VT) (sh : Nat → Option Sh) (ad : Nat → Nat) (M : MS) (H : Heap) (locs : List Loc) (hI : LI D cA s σ v sh ad M H locs) (i : Nat) (hi5 : i + 5 ≤ L) (xi : Int32) (ei : xi = nI i) (ls : Array Slot) (hl : lv_has ls 8 [(4, .int xi), (3, .ref (ad 90)), (2, .ref (ad 60)), (1, .ref (ad 0)), (0, .ref b)]) (cells slots : Nat) (hc9 : cells + 2 ≤ 601024 ∧ slots + 12 ≤ 7293034)
  (kk : ∀ (σ' : AS) (v' : VT) (sh' : Nat → Option Sh) (ad' : Nat → Nat) (M' : MS) (H' : Heap) (locs' : List Loc) (ls' : Array Slot), LI D cA s σ' v' sh' ad' M' H' locs' → lv_has ls' 8 [(4, .int xi), (3, .ref (ad' 90)), (2, .ref (ad' 60)), (1, .ref (ad' 0)), (0, .ref b)] → W p l e room_1 s m #[Value.ref b] below meth cd0 H' locs' (cells + 2) (slots + 12) (lw_Z below #[Value.ref b] s) (F0 m 1840 ls' [])) : W p l e room_1 s m #[Value.ref b] below meth cd0 H locs cells slots (lw_Z below #[Value.ref b] s) (F0 m 1566 ls []) := by
  obtain ⟨hx, hb, hml, hown, hts, hK, hl9, hS9, hbl, hL9, hE, hZ, hE2⟩ := C0
  obtain ⟨hsh, hXX, hMX, hA, hW⟩ := hI
  have hX : XSh (aN σ) sh := by rw [hsh]; exact shL_X _
  have hMs : MSh sh := by rw [hsh]; exact shL_M _
  have hO : sh 90 = some (.inr (2, 1)) := by rw [hsh]; exact shL_O _
  refine lv_aload_n hx hb dL_law_1566 rfl (lv_at hl 3 rfl) ?_
  refine lv_aload_n hx hb dL_law_1567 rfl (lv_at hl 4 rfl) ?_
  refine lv_iload hx hb dL_law_1568 (lv_at hl 0 rfl) ?_
  refine lv_iconst (v := 1) hx hb dL_law_1570 (by decide) ?_
  refine lv_iadd hx hb dL_law_1571 ?_
  refine lv_topi (fun x1571' e1571' => ?_)
  have n1571' : x1571' = nI (i + 1) := (by rw [e1571', ei, (nlit 1), nI_add])
  refine lsld (j := (i + 1)) hx hb hS9 hbl hW.2 n1571' (by omega) hL9 dL_law_1572 ?_
  refine lv_aload_n hx hb dL_law_1573 rfl (lv_at hl 1 rfl) ?_
  refine wc_wiN (vx_runSW (As := [.ref (ad 0), .int (xs (i + 1)), .ref (ad 90)]) (rest := []) ⟨hx, hb, hml, hown, hts⟩ (c_L_channelOf l hl9 D cA sh ad M _ σ v hX hXX hO (xs (i + 1))) (vx_cwSW 3 hts gL_law_L_channelOf rfl rfl rfl (by decide +kernel) ⟨Nat.le_of_ble_eq_true rfl, Nat.le_of_ble_eq_true rfl⟩) (lpreS hK hA hW hE hZ hE2) rfl rfl hl.1 rfl (lv_room (Nat.le_of_ble_eq_true rfl)) dL_law_1574 ⟨(by show cells + 1 ≤ 601024; omega), (by show slots + 6 ≤ 7293034; omega)⟩) hA hW (fun x1574' M1574' H locs p1574' hW => ?_)
  try dsimp only at p1574'
  have hMX1 := hMX.oA p1574'.1
  refine lv_istore (lv' := [(5, .int x1574'), (4, .int xi), (3, .ref (ad 90)), (2, .ref (ad 60)), (1, .ref (ad 0)), (0, .ref b)]) hx hb dL_law_1577 hl (by decide) rfl (fun ls hl => ?_)
  refine lv_aload_n hx hb dL_law_1579 rfl (lv_at hl 3 rfl) ?_
  refine lv_aload_n hx hb dL_law_1580 rfl (lv_at hl 5 rfl) ?_
  refine lv_iload hx hb dL_law_1581 (lv_at hl 1 rfl) ?_
  refine lv_iconst (v := 1) hx hb dL_law_1583 (by decide) ?_
  refine lv_iadd hx hb dL_law_1584 ?_
  refine lv_topi (fun x1584' e1584' => ?_)
  have n1584' : x1584' = nI (i + 1) := (by rw [e1584', ei, (nlit 1), nI_add])
  refine lsld (j := (i + 1)) hx hb hS9 hbl hW.2 n1584' (by omega) hL9 dL_law_1585 ?_
  refine wc_wi (va_runV (As := [.int (xs (i + 1))]) (rest := []) ⟨hx, hb, hml, hown, hts⟩ (c_X10_channelOf l D cA sh ad M1574' _ σ v hMs hMX1 (xs (i + 1))) (cwV 1 hts gL_law_X10_channelOf rfl rfl rfl (by decide +kernel) ⟨Nat.le_of_ble_eq_true rfl, Nat.le_of_ble_eq_true rfl⟩) (wpreV hK hW (C := RX10) (ci := 10) (hMs 60 (by decide) (by decide)) rfl) rfl rfl hl.1 rfl (lv_room (Nat.le_of_ble_eq_true rfl)) dL_law_1586 ⟨(by show cells + 1 + 0 ≤ 601024; omega), (by show slots + 6 + 0 ≤ 7293034; omega)⟩) hA hW (fun x1586' M1586' H locs p1586' hW => ?_)
  try dsimp only at p1586'
  have L9 := law_one (bl := x1586'.toInt64) p1574' p1586' (fun ⟨x, h1, h2⟩ h3 => by rw [h2, ord_eq (F := fun q c => chanA σ q c (n1 (xs (i + 1)))) (fun q q' c e => chanA_cg e) h1 h3]) rfl
  refine lv_istore (lv' := [(6, .int x1586'), (5, .int x1574'), (4, .int xi), (3, .ref (ad 90)), (2, .ref (ad 60)), (1, .ref (ad 0)), (0, .ref b)]) hx hb dL_law_1589 hl (by decide) rfl (fun ls hl => ?_)
  refine lv_aload_n hx hb dL_law_1591 rfl (lv_at hl 4 rfl) ?_
  refine wc_ri (va_runV (As := []) (rest := []) ⟨hx, hb, hml, hown, hts⟩ (c_X10_thrown l D cA sh ad M1586' _ hMs) (cwV 0 hts gL_law_X10_thrown rfl rfl rfl (by decide +kernel) ⟨Nat.le_of_ble_eq_true rfl, Nat.le_of_ble_eq_true rfl⟩) (wpreV hK hW (C := RX10) (ci := 10) (hMs 60 (by decide) (by decide)) rfl) rfl rfl hl.1 rfl (lv_room (Nat.le_of_ble_eq_true rfl)) dL_law_1592 ⟨(by show cells + 1 + 0 ≤ 601024; omega), (by show slots + 6 + 0 ≤ 7293034; omega)⟩) hW (fun x1592' H locs p1592' hW => ?_)
  try dsimp only at p1592'
  obtain ⟨σ9, v9, hn9, hX9, hM9⟩ := L9.2.2
  have hsh9 : sh = shL (aN σ9) := by rw [hn9]; exact hsh
  refine lv_iload hx hb dL_law_1595 (lv_at hl 1 rfl) ?_
  refine lv_icmp_eq (tgt := 1602) hx hb dL_law_1597 (by decide) (fun c1597' => ?_) (fun c1597' => ?_)
  · refine lv_iload hx hb dL_law_1602 (lv_at hl 1 rfl) ?_
    refine lv_if_ne (tgt := 1619) hx hb dL_law_1604 (by decide) (fun c1604' => ?_) (fun c1604' => ?_)
    · refine lv_goto (tgt := 1840) hx hb dL_law_1619 (by decide) ?_
      refine W.widen (k := cells + 2) (n := slots + 12) (by omega) (by omega) ?_
      exact kk σ9 v9 sh ad M1586' _ _ _ ⟨hsh9, hX9, hM9, hA, hW⟩ (lv_sub hl [2, 3, 4, 5, 6] rfl)
    · refine lv_aload_n hx hb dL_law_1607 rfl (lv_at hl 3 rfl) ?_
      refine lv_iconst (v := 0) hx hb dL_law_1608 (by decide) ?_
      refine walL (j := 0) hx hb hK hW hO (nlit 0) (by omega) (by decide) dL_law_1609 (fun x1609' e1609' => ?_)
      refine lv_iload hx hb dL_law_1610 (lv_at hl 0 rfl) ?_
      refine lv_i2l hx hb dL_law_1612 rfl ?_
      refine lv_topl (fun x1612' e1612' => ?_)
      refine W.lcmp hx hb dL_law_1613 ?_
      refine lv_topi (fun x1613' e1613' => ?_)
      refine lv_if_eq (tgt := 1619) hx hb dL_law_1614 (by decide) (fun c1614' => ?_) (fun c1614' => ?_)
      · refine lv_goto (tgt := 1840) hx hb dL_law_1619 (by decide) ?_
        refine W.widen (k := cells + 2) (n := slots + 12) (by omega) (by omega) ?_
        exact kk σ9 v9 sh ad M1586' _ _ _ ⟨hsh9, hX9, hM9, hA, hW⟩ (lv_sub hl [2, 3, 4, 5, 6] rfl)
      · exact ((c1614' (by rw [e1613', e1609', e1612', L9.2.1 c1604']; exact lg_self _))).elim
  · exact ((c1597' (p1592'.trans L9.1))).elim
set_option maxHeartbeats 4000000 in
set_option maxRecDepth 100000 in
theorem law_cueOn {p : Program} {l : Launch} {e : Env} {s : State} {m : MethodId} {below : List Frame} {meth : Method} {cd0 : Code} {b L : Nat} {xs : Nat → Int32} {D : va_G} {cA : Nat → ClassId} (C0 : LC p l s m cd0 b L xs D cA) (σ : AS) (v : VT) (sh : Nat → Option Sh) (ad : Nat → Nat) (M : MS) (H : Heap) (locs : List Loc) (hI : LI D cA s σ v sh ad M H locs) (i : Nat) (hi5 : i + 5 ≤ L) (xi : Int32) (ei : xi = nI i) (ls : Array Slot) (hl : lv_has ls 8 [(4, .int xi), (3, .ref (ad 90)), (2, .ref (ad 60)), (1, .ref (ad 0)), (0, .ref b)]) (cells slots : Nat) (hc9 : cells + 2 ≤ 601024 ∧ slots + 12 ≤ 7293034)
  (kk : ∀ (σ' : AS) (v' : VT) (sh' : Nat → Option Sh) (ad' : Nat → Nat) (M' : MS) (H' : Heap) (locs' : List Loc) (ls' : Array Slot), LI D cA s σ' v' sh' ad' M' H' locs' → lv_has ls' 8 [(4, .int xi), (3, .ref (ad' 90)), (2, .ref (ad' 60)), (1, .ref (ad' 0)), (0, .ref b)] → W p l e room_1 s m #[Value.ref b] below meth cd0 H' locs' (cells + 2) (slots + 12) (lw_Z below #[Value.ref b] s) (F0 m 1840 ls' [])) : W p l e room_1 s m #[Value.ref b] below meth cd0 H locs cells slots (lw_Z below #[Value.ref b] s) (F0 m 1622 ls []) := by
  obtain ⟨hx, hb, hml, hown, hts, hK, hl9, hS9, hbl, hL9, hE, hZ, hE2⟩ := C0
  obtain ⟨hsh, hXX, hMX, hA, hW⟩ := hI
  have hX : XSh (aN σ) sh := by rw [hsh]; exact shL_X _
  have hMs : MSh sh := by rw [hsh]; exact shL_M _
  have hO : sh 90 = some (.inr (2, 1)) := by rw [hsh]; exact shL_O _
  refine lv_aload_n hx hb dL_law_1622 rfl (lv_at hl 3 rfl) ?_
  refine lv_aload_n hx hb dL_law_1623 rfl (lv_at hl 4 rfl) ?_
  refine lv_iload hx hb dL_law_1624 (lv_at hl 0 rfl) ?_
  refine lv_iconst (v := 1) hx hb dL_law_1626 (by decide) ?_
  refine lv_iadd hx hb dL_law_1627 ?_
  refine lv_topi (fun x1627' e1627' => ?_)
  have n1627' : x1627' = nI (i + 1) := (by rw [e1627', ei, (nlit 1), nI_add])
  refine lsld (j := (i + 1)) hx hb hS9 hbl hW.2 n1627' (by omega) hL9 dL_law_1628 ?_
  refine lv_aload_n hx hb dL_law_1629 rfl (lv_at hl 4 rfl) ?_
  refine lv_iload hx hb dL_law_1630 (lv_at hl 0 rfl) ?_
  refine lv_iconst (v := 2) hx hb dL_law_1632 (by decide) ?_
  refine lv_iadd hx hb dL_law_1633 ?_
  refine lv_topi (fun x1633' e1633' => ?_)
  have n1633' : x1633' = nI (i + 2) := (by rw [e1633', ei, (nlit 2), nI_add])
  refine lsld (j := (i + 2)) hx hb hS9 hbl hW.2 n1633' (by omega) hL9 dL_law_1634 ?_
  refine lv_aload_n hx hb dL_law_1635 rfl (lv_at hl 1 rfl) ?_
  refine wc_wiN (vx_runSW (As := [.ref (ad 0), .int (xs (i + 1)), .int (xs (i + 2)), .ref (ad 90)]) (rest := []) ⟨hx, hb, hml, hown, hts⟩ (c_L_cueOn l hl9 D cA sh ad M _ σ v hX hXX hO (xs (i + 1)) (xs (i + 2))) (vx_cwSW 4 hts gL_law_L_cueOn rfl rfl rfl (by decide +kernel) ⟨Nat.le_of_ble_eq_true rfl, Nat.le_of_ble_eq_true rfl⟩) (lpreS hK hA hW hE hZ hE2) rfl rfl hl.1 rfl (lv_room (Nat.le_of_ble_eq_true rfl)) dL_law_1636 ⟨(by show cells + 1 ≤ 601024; omega), (by show slots + 6 ≤ 7293034; omega)⟩) hA hW (fun x1636' M1636' H locs p1636' hW => ?_)
  try dsimp only at p1636'
  have hMX1 := hMX.oA p1636'.1
  refine lv_istore (lv' := [(5, .int x1636'), (4, .int xi), (3, .ref (ad 90)), (2, .ref (ad 60)), (1, .ref (ad 0)), (0, .ref b)]) hx hb dL_law_1639 hl (by decide) rfl (fun ls hl => ?_)
  refine lv_aload_n hx hb dL_law_1641 rfl (lv_at hl 3 rfl) ?_
  refine lv_aload_n hx hb dL_law_1642 rfl (lv_at hl 5 rfl) ?_
  refine lv_iload hx hb dL_law_1643 (lv_at hl 1 rfl) ?_
  refine lv_iconst (v := 1) hx hb dL_law_1645 (by decide) ?_
  refine lv_iadd hx hb dL_law_1646 ?_
  refine lv_topi (fun x1646' e1646' => ?_)
  have n1646' : x1646' = nI (i + 1) := (by rw [e1646', ei, (nlit 1), nI_add])
  refine lsld (j := (i + 1)) hx hb hS9 hbl hW.2 n1646' (by omega) hL9 dL_law_1647 ?_
  refine lv_aload_n hx hb dL_law_1648 rfl (lv_at hl 5 rfl) ?_
  refine lv_iload hx hb dL_law_1649 (lv_at hl 1 rfl) ?_
  refine lv_iconst (v := 2) hx hb dL_law_1651 (by decide) ?_
  refine lv_iadd hx hb dL_law_1652 ?_
  refine lv_topi (fun x1652' e1652' => ?_)
  have n1652' : x1652' = nI (i + 2) := (by rw [e1652', ei, (nlit 2), nI_add])
  refine lsld (j := (i + 2)) hx hb hS9 hbl hW.2 n1652' (by omega) hL9 dL_law_1653 ?_
  refine wc_wi (va_runV (As := [.int (xs (i + 1)), .int (xs (i + 2))]) (rest := []) ⟨hx, hb, hml, hown, hts⟩ (c_X10_cueOn l D cA sh ad M1636' _ σ v hMs hMX1 (xs (i + 1)) (xs (i + 2))) (cwV 2 hts gL_law_X10_cueOn rfl rfl rfl (by decide +kernel) ⟨Nat.le_of_ble_eq_true rfl, Nat.le_of_ble_eq_true rfl⟩) (wpreV hK hW (C := RX10) (ci := 10) (hMs 60 (by decide) (by decide)) rfl) rfl rfl hl.1 rfl (lv_room (Nat.le_of_ble_eq_true rfl)) dL_law_1654 ⟨(by show cells + 1 + 0 ≤ 601024; omega), (by show slots + 6 + 0 ≤ 7293034; omega)⟩) hA hW (fun x1654' M1654' H locs p1654' hW => ?_)
  try dsimp only at p1654'
  have L9 := law_one (bl := x1654'.toInt64) p1636' p1654' (fun ⟨x, h1, h2⟩ h3 => by rw [h2, ord_eq (F := fun q c => opI (gvn σ q c (8 * n1 (xs (i + 1)) + n1 (xs (i + 2))))) (fun q q' c e => by (try dsimp only); rw [gvn_cg e c (Nat.le_refl _)]) h1 h3]) rfl
  refine lv_istore (lv' := [(6, .int x1654'), (5, .int x1636'), (4, .int xi), (3, .ref (ad 90)), (2, .ref (ad 60)), (1, .ref (ad 0)), (0, .ref b)]) hx hb dL_law_1657 hl (by decide) rfl (fun ls hl => ?_)
  refine lv_aload_n hx hb dL_law_1659 rfl (lv_at hl 4 rfl) ?_
  refine wc_ri (va_runV (As := []) (rest := []) ⟨hx, hb, hml, hown, hts⟩ (c_X10_thrown l D cA sh ad M1654' _ hMs) (cwV 0 hts gL_law_X10_thrown rfl rfl rfl (by decide +kernel) ⟨Nat.le_of_ble_eq_true rfl, Nat.le_of_ble_eq_true rfl⟩) (wpreV hK hW (C := RX10) (ci := 10) (hMs 60 (by decide) (by decide)) rfl) rfl rfl hl.1 rfl (lv_room (Nat.le_of_ble_eq_true rfl)) dL_law_1660 ⟨(by show cells + 1 + 0 ≤ 601024; omega), (by show slots + 6 + 0 ≤ 7293034; omega)⟩) hW (fun x1660' H locs p1660' hW => ?_)
  try dsimp only at p1660'
  obtain ⟨σ9, v9, hn9, hX9, hM9⟩ := L9.2.2
  have hsh9 : sh = shL (aN σ9) := by rw [hn9]; exact hsh
  refine lv_iload hx hb dL_law_1663 (lv_at hl 1 rfl) ?_
  refine lv_icmp_eq (tgt := 1670) hx hb dL_law_1665 (by decide) (fun c1665' => ?_) (fun c1665' => ?_)
  · refine lv_iload hx hb dL_law_1670 (lv_at hl 1 rfl) ?_
    refine lv_if_ne (tgt := 1687) hx hb dL_law_1672 (by decide) (fun c1672' => ?_) (fun c1672' => ?_)
    · refine lv_goto (tgt := 1840) hx hb dL_law_1687 (by decide) ?_
      refine W.widen (k := cells + 2) (n := slots + 12) (by omega) (by omega) ?_
      exact kk σ9 v9 sh ad M1654' _ _ _ ⟨hsh9, hX9, hM9, hA, hW⟩ (lv_sub hl [2, 3, 4, 5, 6] rfl)
    · refine lv_aload_n hx hb dL_law_1675 rfl (lv_at hl 3 rfl) ?_
      refine lv_iconst (v := 0) hx hb dL_law_1676 (by decide) ?_
      refine walL (j := 0) hx hb hK hW hO (nlit 0) (by omega) (by decide) dL_law_1677 (fun x1677' e1677' => ?_)
      refine lv_iload hx hb dL_law_1678 (lv_at hl 0 rfl) ?_
      refine lv_i2l hx hb dL_law_1680 rfl ?_
      refine lv_topl (fun x1680' e1680' => ?_)
      refine W.lcmp hx hb dL_law_1681 ?_
      refine lv_topi (fun x1681' e1681' => ?_)
      refine lv_if_eq (tgt := 1687) hx hb dL_law_1682 (by decide) (fun c1682' => ?_) (fun c1682' => ?_)
      · refine lv_goto (tgt := 1840) hx hb dL_law_1687 (by decide) ?_
        refine W.widen (k := cells + 2) (n := slots + 12) (by omega) (by omega) ?_
        exact kk σ9 v9 sh ad M1654' _ _ _ ⟨hsh9, hX9, hM9, hA, hW⟩ (lv_sub hl [2, 3, 4, 5, 6] rfl)
      · exact ((c1682' (by rw [e1681', e1677', e1680', L9.2.1 c1672']; exact lg_self _))).elim
  · exact ((c1665' (p1660'.trans L9.1))).elim
set_option maxHeartbeats 4000000 in
set_option maxRecDepth 100000 in
theorem law_spares {p : Program} {l : Launch} {e : Env} {s : State} {m : MethodId} {below : List Frame} {meth : Method} {cd0 : Code} {b L : Nat} {xs : Nat → Int32} {D : va_G} {cA : Nat → ClassId} (C0 : LC p l s m cd0 b L xs D cA) (σ : AS) (v : VT) (sh : Nat → Option Sh) (ad : Nat → Nat) (M : MS) (H : Heap) (locs : List Loc) (hI : LI D cA s σ v sh ad M H locs) (i : Nat) (hi5 : i + 5 ≤ L) (xi : Int32) (ei : xi = nI i) (ls : Array Slot) (hl : lv_has ls 8 [(4, .int xi), (3, .ref (ad 90)), (2, .ref (ad 60)), (1, .ref (ad 0)), (0, .ref b)]) (cells slots : Nat) (hc9 : cells + 2 ≤ 601024 ∧ slots + 12 ≤ 7293034)
  (kk : ∀ (σ' : AS) (v' : VT) (sh' : Nat → Option Sh) (ad' : Nat → Nat) (M' : MS) (H' : Heap) (locs' : List Loc) (ls' : Array Slot), LI D cA s σ' v' sh' ad' M' H' locs' → lv_has ls' 8 [(4, .int xi), (3, .ref (ad' 90)), (2, .ref (ad' 60)), (1, .ref (ad' 0)), (0, .ref b)] → W p l e room_1 s m #[Value.ref b] below meth cd0 H' locs' (cells + 2) (slots + 12) (lw_Z below #[Value.ref b] s) (F0 m 1840 ls' [])) : W p l e room_1 s m #[Value.ref b] below meth cd0 H locs cells slots (lw_Z below #[Value.ref b] s) (F0 m 1690 ls []) := by
  obtain ⟨hx, hb, hml, hown, hts, hK, hl9, hS9, hbl, hL9, hE, hZ, hE2⟩ := C0
  obtain ⟨hsh, hXX, hMX, hA, hW⟩ := hI
  have hX : XSh (aN σ) sh := by rw [hsh]; exact shL_X _
  have hMs : MSh sh := by rw [hsh]; exact shL_M _
  have hO : sh 90 = some (.inr (2, 1)) := by rw [hsh]; exact shL_O _
  refine lv_aload_n hx hb dL_law_1690 rfl (lv_at hl 3 rfl) ?_
  refine wc_wi (va_runV (As := []) (rest := []) ⟨hx, hb, hml, hown, hts⟩ (c_X9_spares l D cA sh ad M _ σ v hX hXX ) (cwV 0 hts gL_law_X9_spares rfl rfl rfl (by decide +kernel) ⟨Nat.le_of_ble_eq_true rfl, Nat.le_of_ble_eq_true rfl⟩) (wpreV hK hW (C := RX9) (ci := 9) (hX.1 0 (by decide)) rfl) rfl rfl hl.1 rfl (lv_room (Nat.le_of_ble_eq_true rfl)) dL_law_1691 ⟨(by show cells + 0 ≤ 601024; omega), (by show slots + 0 ≤ 7293034; omega)⟩) hA hW (fun x1691' M1691' H locs p1691' hW => ?_)
  try dsimp only at p1691'
  have hMX1 : MX σ v M1691' := hMX.oA (fun p k h1 h2 => (p1691'.1 p k (fun z => by unfold XSx at z; omega)).1)
  refine lv_aload_n hx hb dL_law_1694 rfl (lv_at hl 2 rfl) ?_
  refine wc_wi (va_runV (As := []) (rest := [.int x1691']) ⟨hx, hb, hml, hown, hts⟩ (c_X10_spares l D cA sh ad M1691' _ σ v hMs hMX1 ) (cwV 0 hts gL_law_X10_spares rfl rfl rfl (by decide +kernel) ⟨Nat.le_of_ble_eq_true rfl, Nat.le_of_ble_eq_true rfl⟩) (wpreV hK hW (C := RX10) (ci := 10) (hMs 60 (by decide) (by decide)) rfl) rfl rfl hl.1 rfl (lv_room (Nat.le_of_ble_eq_true rfl)) dL_law_1695 ⟨(by show cells + 0 ≤ 601024; omega), (by show slots + 0 ≤ 7293034; omega)⟩) hA hW (fun x1695' M1695' H locs p1695' hW => ?_)
  try dsimp only at p1695'
  obtain ⟨b1, -, -, b4⟩ := p1695'
  obtain ⟨hM9, b5⟩ := b4 rfl
  obtain ⟨σ9, e9'⟩ : ∃ z, z = σ := ⟨_, rfl⟩
  obtain ⟨v9, f9⟩ : ∃ z, z = v := ⟨_, rfl⟩
  have hsh9 : sh = shL (aN σ9) := by rw [e9']; exact hsh
  rw [← e9', ← f9] at hM9
  have hX9 : XX σ9 v9 M1695' := by rw [e9', f9]; exact XX.mo p1691'.2.1 b1
  refine lv_icmp_eq (tgt := 1840) hx hb dL_law_1698 (by decide) (fun c1698' => ?_) (fun c1698' => ?_)
  · refine W.widen (k := cells + 2) (n := slots + 12) (by omega) (by omega) ?_
    exact kk σ9 v9 sh ad M1695' _ _ _ ⟨hsh9, hX9, hM9, hA, hW⟩ (lv_sub hl [0, 1, 2, 3, 4] rfl)
  · exact ((c1698' (ord_eq (F := fun q c => nI (ctN (spB (fun d => (gvn σ q c d).isSome)) 32)) (fun q q' c e => by (try dsimp only); rw [gvn_cg e c (Nat.le_refl _)]) p1691'.2.2 b5))).elim
set_option maxHeartbeats 4000000 in
set_option maxRecDepth 100000 in
theorem law_setRate {p : Program} {l : Launch} {e : Env} {s : State} {m : MethodId} {below : List Frame} {meth : Method} {cd0 : Code} {b L : Nat} {xs : Nat → Int32} {D : va_G} {cA : Nat → ClassId} (C0 : LC p l s m cd0 b L xs D cA) (σ : AS) (v : VT) (sh : Nat → Option Sh) (ad : Nat → Nat) (M : MS) (H : Heap) (locs : List Loc) (hI : LI D cA s σ v sh ad M H locs) (i : Nat) (hi5 : i + 5 ≤ L) (xi : Int32) (ei : xi = nI i) (ls : Array Slot) (hl : lv_has ls 8 [(4, .int xi), (3, .ref (ad 90)), (2, .ref (ad 60)), (1, .ref (ad 0)), (0, .ref b)]) (cells slots : Nat) (hc9 : cells + 2 ≤ 601024 ∧ slots + 12 ≤ 7293034)
  (kk : ∀ (σ' : AS) (v' : VT) (sh' : Nat → Option Sh) (ad' : Nat → Nat) (M' : MS) (H' : Heap) (locs' : List Loc) (ls' : Array Slot), LI D cA s σ' v' sh' ad' M' H' locs' → lv_has ls' 8 [(4, .int xi), (3, .ref (ad' 90)), (2, .ref (ad' 60)), (1, .ref (ad' 0)), (0, .ref b)] → W p l e room_1 s m #[Value.ref b] below meth cd0 H' locs' (cells + 2) (slots + 12) (lw_Z below #[Value.ref b] s) (F0 m 1840 ls' [])) : W p l e room_1 s m #[Value.ref b] below meth cd0 H locs cells slots (lw_Z below #[Value.ref b] s) (F0 m 1703 ls []) := by
  obtain ⟨hx, hb, hml, hown, hts, hK, hl9, hS9, hbl, hL9, hE, hZ, hE2⟩ := C0
  obtain ⟨hsh, hXX, hMX, hA, hW⟩ := hI
  have hX : XSh (aN σ) sh := by rw [hsh]; exact shL_X _
  have hMs : MSh sh := by rw [hsh]; exact shL_M _
  have hO : sh 90 = some (.inr (2, 1)) := by rw [hsh]; exact shL_O _
  refine lv_aload_n hx hb dL_law_1703 rfl (lv_at hl 3 rfl) ?_
  refine lv_aload_n hx hb dL_law_1704 rfl (lv_at hl 4 rfl) ?_
  refine lv_iload hx hb dL_law_1705 (lv_at hl 0 rfl) ?_
  refine lv_iconst (v := 1) hx hb dL_law_1707 (by decide) ?_
  refine lv_iadd hx hb dL_law_1708 ?_
  refine lv_topi (fun x1708' e1708' => ?_)
  have n1708' : x1708' = nI (i + 1) := (by rw [e1708', ei, (nlit 1), nI_add])
  refine lsld (j := (i + 1)) hx hb hS9 hbl hW.2 n1708' (by omega) hL9 dL_law_1709 ?_
  refine lv_aload_n hx hb dL_law_1710 rfl (lv_at hl 4 rfl) ?_
  refine lv_iload hx hb dL_law_1711 (lv_at hl 0 rfl) ?_
  refine lv_iconst (v := 2) hx hb dL_law_1713 (by decide) ?_
  refine lv_iadd hx hb dL_law_1714 ?_
  refine lv_topi (fun x1714' e1714' => ?_)
  have n1714' : x1714' = nI (i + 2) := (by rw [e1714', ei, (nlit 2), nI_add])
  refine lsld (j := (i + 2)) hx hb hS9 hbl hW.2 n1714' (by omega) hL9 dL_law_1715 ?_
  refine lv_aload_n hx hb dL_law_1716 rfl (lv_at hl 1 rfl) ?_
  refine wc_wiN (vx_runSW (As := [.ref (ad 0), .int (xs (i + 1)), .int (xs (i + 2)), .ref (ad 90)]) (rest := []) ⟨hx, hb, hml, hown, hts⟩ (c_L_setRate l hl9 D cA sh ad M _ σ v hX hXX hO (xs (i + 1)) (xs (i + 2))) (vx_cwSW 4 hts gL_law_L_setRate rfl rfl rfl (by decide +kernel) ⟨Nat.le_of_ble_eq_true rfl, Nat.le_of_ble_eq_true rfl⟩) (lpreS hK hA hW hE hZ hE2) rfl rfl hl.1 rfl (lv_room (Nat.le_of_ble_eq_true rfl)) dL_law_1717 ⟨(by show cells + 1 ≤ 601024; omega), (by show slots + 6 ≤ 7293034; omega)⟩) hA hW (fun x1717' M1717' H locs p1717' hW => ?_)
  try dsimp only at p1717'
  have hMX1 := hMX.oA p1717'.1
  refine lv_istore (lv' := [(5, .int x1717'), (4, .int xi), (3, .ref (ad 90)), (2, .ref (ad 60)), (1, .ref (ad 0)), (0, .ref b)]) hx hb dL_law_1720 hl (by decide) rfl (fun ls hl => ?_)
  refine lv_aload_n hx hb dL_law_1722 rfl (lv_at hl 3 rfl) ?_
  refine lv_aload_n hx hb dL_law_1723 rfl (lv_at hl 5 rfl) ?_
  refine lv_iload hx hb dL_law_1724 (lv_at hl 1 rfl) ?_
  refine lv_iconst (v := 1) hx hb dL_law_1726 (by decide) ?_
  refine lv_iadd hx hb dL_law_1727 ?_
  refine lv_topi (fun x1727' e1727' => ?_)
  have n1727' : x1727' = nI (i + 1) := (by rw [e1727', ei, (nlit 1), nI_add])
  refine lsld (j := (i + 1)) hx hb hS9 hbl hW.2 n1727' (by omega) hL9 dL_law_1728 ?_
  refine lv_aload_n hx hb dL_law_1729 rfl (lv_at hl 5 rfl) ?_
  refine lv_iload hx hb dL_law_1730 (lv_at hl 1 rfl) ?_
  refine lv_iconst (v := 2) hx hb dL_law_1732 (by decide) ?_
  refine lv_iadd hx hb dL_law_1733 ?_
  refine lv_topi (fun x1733' e1733' => ?_)
  have n1733' : x1733' = nI (i + 2) := (by rw [e1733', ei, (nlit 2), nI_add])
  refine lsld (j := (i + 2)) hx hb hS9 hbl hW.2 n1733' (by omega) hL9 dL_law_1734 ?_
  refine wc_wi (va_runV (As := [.int (xs (i + 1)), .int (xs (i + 2))]) (rest := []) ⟨hx, hb, hml, hown, hts⟩ (c_X10_setRate l D cA sh ad M1717' _ σ v hMs hMX1 (xs (i + 1)) (xs (i + 2))) (cwV 2 hts gL_law_X10_setRate rfl rfl rfl (by decide +kernel) ⟨Nat.le_of_ble_eq_true rfl, Nat.le_of_ble_eq_true rfl⟩) (wpreV hK hW (C := RX10) (ci := 10) (hMs 60 (by decide) (by decide)) rfl) rfl rfl hl.1 rfl (lv_room (Nat.le_of_ble_eq_true rfl)) dL_law_1735 ⟨(by show cells + 1 + 0 ≤ 601024; omega), (by show slots + 6 + 0 ≤ 7293034; omega)⟩) hA hW (fun x1735' M1735' H locs p1735' hW => ?_)
  try dsimp only at p1735'
  have L9 := law_one (bl := x1735'.toInt64) p1717' p1735' (fun ⟨x, h1, h2⟩ h3 => by rw [h2, h1, h3]) rfl
  refine lv_istore (lv' := [(6, .int x1735'), (5, .int x1717'), (4, .int xi), (3, .ref (ad 90)), (2, .ref (ad 60)), (1, .ref (ad 0)), (0, .ref b)]) hx hb dL_law_1738 hl (by decide) rfl (fun ls hl => ?_)
  refine lv_aload_n hx hb dL_law_1740 rfl (lv_at hl 4 rfl) ?_
  refine wc_ri (va_runV (As := []) (rest := []) ⟨hx, hb, hml, hown, hts⟩ (c_X10_thrown l D cA sh ad M1735' _ hMs) (cwV 0 hts gL_law_X10_thrown rfl rfl rfl (by decide +kernel) ⟨Nat.le_of_ble_eq_true rfl, Nat.le_of_ble_eq_true rfl⟩) (wpreV hK hW (C := RX10) (ci := 10) (hMs 60 (by decide) (by decide)) rfl) rfl rfl hl.1 rfl (lv_room (Nat.le_of_ble_eq_true rfl)) dL_law_1741 ⟨(by show cells + 1 + 0 ≤ 601024; omega), (by show slots + 6 + 0 ≤ 7293034; omega)⟩) hW (fun x1741' H locs p1741' hW => ?_)
  try dsimp only at p1741'
  obtain ⟨σ9, v9, hn9, hX9, hM9⟩ := L9.2.2
  have hsh9 : sh = shL (aN σ9) := by rw [hn9]; exact hsh
  refine lv_iload hx hb dL_law_1744 (lv_at hl 1 rfl) ?_
  refine lv_icmp_eq (tgt := 1751) hx hb dL_law_1746 (by decide) (fun c1746' => ?_) (fun c1746' => ?_)
  · refine lv_iload hx hb dL_law_1751 (lv_at hl 1 rfl) ?_
    refine lv_if_ne (tgt := 1768) hx hb dL_law_1753 (by decide) (fun c1753' => ?_) (fun c1753' => ?_)
    · refine lv_goto (tgt := 1840) hx hb dL_law_1768 (by decide) ?_
      refine W.widen (k := cells + 2) (n := slots + 12) (by omega) (by omega) ?_
      exact kk σ9 v9 sh ad M1735' _ _ _ ⟨hsh9, hX9, hM9, hA, hW⟩ (lv_sub hl [2, 3, 4, 5, 6] rfl)
    · refine lv_aload_n hx hb dL_law_1756 rfl (lv_at hl 3 rfl) ?_
      refine lv_iconst (v := 0) hx hb dL_law_1757 (by decide) ?_
      refine walL (j := 0) hx hb hK hW hO (nlit 0) (by omega) (by decide) dL_law_1758 (fun x1758' e1758' => ?_)
      refine lv_iload hx hb dL_law_1759 (lv_at hl 0 rfl) ?_
      refine lv_i2l hx hb dL_law_1761 rfl ?_
      refine lv_topl (fun x1761' e1761' => ?_)
      refine W.lcmp hx hb dL_law_1762 ?_
      refine lv_topi (fun x1762' e1762' => ?_)
      refine lv_if_eq (tgt := 1768) hx hb dL_law_1763 (by decide) (fun c1763' => ?_) (fun c1763' => ?_)
      · refine lv_goto (tgt := 1840) hx hb dL_law_1768 (by decide) ?_
        refine W.widen (k := cells + 2) (n := slots + 12) (by omega) (by omega) ?_
        exact kk σ9 v9 sh ad M1735' _ _ _ ⟨hsh9, hX9, hM9, hA, hW⟩ (lv_sub hl [2, 3, 4, 5, 6] rfl)
      · exact ((c1763' (by rw [e1762', e1758', e1761', L9.2.1 c1753']; exact lg_self _))).elim
  · exact ((c1746' (p1741'.trans L9.1))).elim
set_option maxHeartbeats 4000000 in
set_option maxRecDepth 100000 in
theorem law_price {p : Program} {l : Launch} {e : Env} {s : State} {m : MethodId} {below : List Frame} {meth : Method} {cd0 : Code} {b L : Nat} {xs : Nat → Int32} {D : va_G} {cA : Nat → ClassId} (C0 : LC p l s m cd0 b L xs D cA) (σ : AS) (v : VT) (sh : Nat → Option Sh) (ad : Nat → Nat) (M : MS) (H : Heap) (locs : List Loc) (hI : LI D cA s σ v sh ad M H locs) (i : Nat) (hi5 : i + 5 ≤ L) (xi : Int32) (ei : xi = nI i) (ls : Array Slot) (hl : lv_has ls 8 [(4, .int xi), (3, .ref (ad 90)), (2, .ref (ad 60)), (1, .ref (ad 0)), (0, .ref b)]) (cells slots : Nat) (hc9 : cells + 2 ≤ 601024 ∧ slots + 12 ≤ 7293034)
  (kk : ∀ (σ' : AS) (v' : VT) (sh' : Nat → Option Sh) (ad' : Nat → Nat) (M' : MS) (H' : Heap) (locs' : List Loc) (ls' : Array Slot), LI D cA s σ' v' sh' ad' M' H' locs' → lv_has ls' 8 [(4, .int xi), (3, .ref (ad' 90)), (2, .ref (ad' 60)), (1, .ref (ad' 0)), (0, .ref b)] → W p l e room_1 s m #[Value.ref b] below meth cd0 H' locs' (cells + 2) (slots + 12) (lw_Z below #[Value.ref b] s) (F0 m 1840 ls' [])) : W p l e room_1 s m #[Value.ref b] below meth cd0 H locs cells slots (lw_Z below #[Value.ref b] s) (F0 m 1771 ls []) := by
  obtain ⟨hx, hb, hml, hown, hts, hK, hl9, hS9, hbl, hL9, hE, hZ, hE2⟩ := C0
  obtain ⟨hsh, hXX, hMX, hA, hW⟩ := hI
  have hX : XSh (aN σ) sh := by rw [hsh]; exact shL_X _
  have hMs : MSh sh := by rw [hsh]; exact shL_M _
  have hO : sh 90 = some (.inr (2, 1)) := by rw [hsh]; exact shL_O _
  refine lv_aload_n hx hb dL_law_1771 rfl (lv_at hl 3 rfl) ?_
  refine lv_aload_n hx hb dL_law_1772 rfl (lv_at hl 4 rfl) ?_
  refine lv_iload hx hb dL_law_1773 (lv_at hl 0 rfl) ?_
  refine lv_iconst (v := 1) hx hb dL_law_1775 (by decide) ?_
  refine lv_iadd hx hb dL_law_1776 ?_
  refine lv_topi (fun x1776' e1776' => ?_)
  have n1776' : x1776' = nI (i + 1) := (by rw [e1776', ei, (nlit 1), nI_add])
  refine lsld (j := (i + 1)) hx hb hS9 hbl hW.2 n1776' (by omega) hL9 dL_law_1777 ?_
  refine lv_aload_n hx hb dL_law_1778 rfl (lv_at hl 1 rfl) ?_
  refine wc_wiN (vx_runSW (As := [.ref (ad 0), .int (xs (i + 1)), .ref (ad 90)]) (rest := []) ⟨hx, hb, hml, hown, hts⟩ (c_L_price l hl9 D cA sh ad M _ σ v hX hXX hO (xs (i + 1))) (vx_cwSW 3 hts gL_law_L_price rfl rfl rfl (by decide +kernel) ⟨Nat.le_of_ble_eq_true rfl, Nat.le_of_ble_eq_true rfl⟩) (lpreS hK hA hW hE hZ hE2) rfl rfl hl.1 rfl (lv_room (Nat.le_of_ble_eq_true rfl)) dL_law_1779 ⟨(by show cells + 1 ≤ 601024; omega), (by show slots + 6 ≤ 7293034; omega)⟩) hA hW (fun x1779' M1779' H locs p1779' hW => ?_)
  try dsimp only at p1779'
  have hMX1 := hMX.oA p1779'.1
  refine lv_istore (lv' := [(5, .int x1779'), (4, .int xi), (3, .ref (ad 90)), (2, .ref (ad 60)), (1, .ref (ad 0)), (0, .ref b)]) hx hb dL_law_1782 hl (by decide) rfl (fun ls hl => ?_)
  refine lv_aload_n hx hb dL_law_1784 rfl (lv_at hl 3 rfl) ?_
  refine lv_aload_n hx hb dL_law_1785 rfl (lv_at hl 5 rfl) ?_
  refine lv_iload hx hb dL_law_1786 (lv_at hl 1 rfl) ?_
  refine lv_iconst (v := 1) hx hb dL_law_1788 (by decide) ?_
  refine lv_iadd hx hb dL_law_1789 ?_
  refine lv_topi (fun x1789' e1789' => ?_)
  have n1789' : x1789' = nI (i + 1) := (by rw [e1789', ei, (nlit 1), nI_add])
  refine lsld (j := (i + 1)) hx hb hS9 hbl hW.2 n1789' (by omega) hL9 dL_law_1790 ?_
  refine wc_wi (va_runV (As := [.int (xs (i + 1))]) (rest := []) ⟨hx, hb, hml, hown, hts⟩ (c_X10_price l D cA sh ad M1779' _ σ v hMs hMX1 (xs (i + 1))) (cwV 1 hts gL_law_X10_price rfl rfl rfl (by decide +kernel) ⟨Nat.le_of_ble_eq_true rfl, Nat.le_of_ble_eq_true rfl⟩) (wpreV hK hW (C := RX10) (ci := 10) (hMs 60 (by decide) (by decide)) rfl) rfl rfl hl.1 rfl (lv_room (Nat.le_of_ble_eq_true rfl)) dL_law_1791 ⟨(by show cells + 1 + 0 ≤ 601024; omega), (by show slots + 6 + 0 ≤ 7293034; omega)⟩) hA hW (fun x1791' M1791' H locs p1791' hW => ?_)
  try dsimp only at p1791'
  have L9 := law_one (bl := x1791'.toInt64) p1779' p1791' (fun ⟨x, h1, h2⟩ h3 => by rw [h2, ord_eq (F := fun q c => prA σ v q c (n1 (xs (i + 1)))) (fun q q' c e => prA_cg e) h1 h3]) rfl
  refine lv_istore (lv' := [(6, .int x1791'), (5, .int x1779'), (4, .int xi), (3, .ref (ad 90)), (2, .ref (ad 60)), (1, .ref (ad 0)), (0, .ref b)]) hx hb dL_law_1794 hl (by decide) rfl (fun ls hl => ?_)
  refine lv_aload_n hx hb dL_law_1796 rfl (lv_at hl 4 rfl) ?_
  refine wc_ri (va_runV (As := []) (rest := []) ⟨hx, hb, hml, hown, hts⟩ (c_X10_thrown l D cA sh ad M1791' _ hMs) (cwV 0 hts gL_law_X10_thrown rfl rfl rfl (by decide +kernel) ⟨Nat.le_of_ble_eq_true rfl, Nat.le_of_ble_eq_true rfl⟩) (wpreV hK hW (C := RX10) (ci := 10) (hMs 60 (by decide) (by decide)) rfl) rfl rfl hl.1 rfl (lv_room (Nat.le_of_ble_eq_true rfl)) dL_law_1797 ⟨(by show cells + 1 + 0 ≤ 601024; omega), (by show slots + 6 + 0 ≤ 7293034; omega)⟩) hW (fun x1797' H locs p1797' hW => ?_)
  try dsimp only at p1797'
  obtain ⟨σ9, v9, hn9, hX9, hM9⟩ := L9.2.2
  have hsh9 : sh = shL (aN σ9) := by rw [hn9]; exact hsh
  refine lv_iload hx hb dL_law_1800 (lv_at hl 1 rfl) ?_
  refine lv_icmp_eq (tgt := 1807) hx hb dL_law_1802 (by decide) (fun c1802' => ?_) (fun c1802' => ?_)
  · refine lv_iload hx hb dL_law_1807 (lv_at hl 1 rfl) ?_
    refine lv_if_ne (tgt := 1824) hx hb dL_law_1809 (by decide) (fun c1809' => ?_) (fun c1809' => ?_)
    · refine lv_goto (tgt := 1840) hx hb dL_law_1824 (by decide) ?_
      refine W.widen (k := cells + 2) (n := slots + 12) (by omega) (by omega) ?_
      exact kk σ9 v9 sh ad M1791' _ _ _ ⟨hsh9, hX9, hM9, hA, hW⟩ (lv_sub hl [2, 3, 4, 5, 6] rfl)
    · refine lv_aload_n hx hb dL_law_1812 rfl (lv_at hl 3 rfl) ?_
      refine lv_iconst (v := 0) hx hb dL_law_1813 (by decide) ?_
      refine walL (j := 0) hx hb hK hW hO (nlit 0) (by omega) (by decide) dL_law_1814 (fun x1814' e1814' => ?_)
      refine lv_iload hx hb dL_law_1815 (lv_at hl 0 rfl) ?_
      refine lv_i2l hx hb dL_law_1817 rfl ?_
      refine lv_topl (fun x1817' e1817' => ?_)
      refine W.lcmp hx hb dL_law_1818 ?_
      refine lv_topi (fun x1818' e1818' => ?_)
      refine lv_if_eq (tgt := 1824) hx hb dL_law_1819 (by decide) (fun c1819' => ?_) (fun c1819' => ?_)
      · refine lv_goto (tgt := 1840) hx hb dL_law_1824 (by decide) ?_
        refine W.widen (k := cells + 2) (n := slots + 12) (by omega) (by omega) ?_
        exact kk σ9 v9 sh ad M1791' _ _ _ ⟨hsh9, hX9, hM9, hA, hW⟩ (lv_sub hl [2, 3, 4, 5, 6] rfl)
      · exact ((c1819' (by rw [e1818', e1814', e1817', L9.2.1 c1809']; exact lg_self _))).elim
  · exact ((c1802' (p1797'.trans L9.1))).elim
set_option maxHeartbeats 4000000 in
set_option maxRecDepth 100000 in
theorem law_total {p : Program} {l : Launch} {e : Env} {s : State} {m : MethodId} {below : List Frame} {meth : Method} {cd0 : Code} {b L : Nat} {xs : Nat → Int32} {D : va_G} {cA : Nat → ClassId} (C0 : LC p l s m cd0 b L xs D cA) (σ : AS) (v : VT) (sh : Nat → Option Sh) (ad : Nat → Nat) (M : MS) (H : Heap) (locs : List Loc) (hI : LI D cA s σ v sh ad M H locs) (i : Nat) (hi5 : i + 5 ≤ L) (xi : Int32) (ei : xi = nI i) (ls : Array Slot) (hl : lv_has ls 8 [(4, .int xi), (3, .ref (ad 90)), (2, .ref (ad 60)), (1, .ref (ad 0)), (0, .ref b)]) (cells slots : Nat) (hc9 : cells + 2 ≤ 601024 ∧ slots + 12 ≤ 7293034)
  (kk : ∀ (σ' : AS) (v' : VT) (sh' : Nat → Option Sh) (ad' : Nat → Nat) (M' : MS) (H' : Heap) (locs' : List Loc) (ls' : Array Slot), LI D cA s σ' v' sh' ad' M' H' locs' → lv_has ls' 8 [(4, .int xi), (3, .ref (ad' 90)), (2, .ref (ad' 60)), (1, .ref (ad' 0)), (0, .ref b)] → W p l e room_1 s m #[Value.ref b] below meth cd0 H' locs' (cells + 2) (slots + 12) (lw_Z below #[Value.ref b] s) (F0 m 1840 ls' [])) : W p l e room_1 s m #[Value.ref b] below meth cd0 H locs cells slots (lw_Z below #[Value.ref b] s) (F0 m 1827 ls []) := by
  obtain ⟨hx, hb, hml, hown, hts, hK, hl9, hS9, hbl, hL9, hE, hZ, hE2⟩ := C0
  obtain ⟨hsh, hXX, hMX, hA, hW⟩ := hI
  have hX : XSh (aN σ) sh := by rw [hsh]; exact shL_X _
  have hMs : MSh sh := by rw [hsh]; exact shL_M _
  have hO : sh 90 = some (.inr (2, 1)) := by rw [hsh]; exact shL_O _
  refine lv_aload_n hx hb dL_law_1827 rfl (lv_at hl 3 rfl) ?_
  refine wc_wi (va_runV (As := []) (rest := []) ⟨hx, hb, hml, hown, hts⟩ (c_X9_total l D cA sh ad M _ σ v hX hXX ) (cwV 0 hts gL_law_X9_total rfl rfl rfl (by decide +kernel) ⟨Nat.le_of_ble_eq_true rfl, Nat.le_of_ble_eq_true rfl⟩) (wpreV hK hW (C := RX9) (ci := 9) (hX.1 0 (by decide)) rfl) rfl rfl hl.1 rfl (lv_room (Nat.le_of_ble_eq_true rfl)) dL_law_1828 ⟨(by show cells + 0 ≤ 601024; omega), (by show slots + 0 ≤ 7293034; omega)⟩) hA hW (fun x1828' M1828' H locs p1828' hW => ?_)
  try dsimp only at p1828'
  have hMX1 : MX σ v M1828' := hMX.oA (fun p k h1 h2 => (p1828'.1 p k (fun z => by unfold XSx at z; omega)).1)
  refine lv_aload_n hx hb dL_law_1831 rfl (lv_at hl 2 rfl) ?_
  refine wc_wi (va_runV (As := []) (rest := [.int x1828']) ⟨hx, hb, hml, hown, hts⟩ (c_X10_total l D cA sh ad M1828' _ σ v hMs hMX1 ) (cwV 0 hts gL_law_X10_total rfl rfl rfl (by decide +kernel) ⟨Nat.le_of_ble_eq_true rfl, Nat.le_of_ble_eq_true rfl⟩) (wpreV hK hW (C := RX10) (ci := 10) (hMs 60 (by decide) (by decide)) rfl) rfl rfl hl.1 rfl (lv_room (Nat.le_of_ble_eq_true rfl)) dL_law_1832 ⟨(by show cells + 0 ≤ 601024; omega), (by show slots + 0 ≤ 7293034; omega)⟩) hA hW (fun x1832' M1832' H locs p1832' hW => ?_)
  try dsimp only at p1832'
  obtain ⟨b1, -, -, b4⟩ := p1832'
  obtain ⟨hM9, b5⟩ := b4 rfl
  obtain ⟨σ9, e9'⟩ : ∃ z, z = σ := ⟨_, rfl⟩
  obtain ⟨v9, f9⟩ : ∃ z, z = v := ⟨_, rfl⟩
  have hsh9 : sh = shL (aN σ9) := by rw [e9']; exact hsh
  rw [← e9', ← f9] at hM9
  have hX9 : XX σ9 v9 M1832' := by rw [e9', f9]; exact XX.mo p1828'.2.1 b1
  refine lv_icmp_eq (tgt := 1840) hx hb dL_law_1835 (by decide) (fun c1835' => ?_) (fun c1835' => ?_)
  · refine W.widen (k := cells + 2) (n := slots + 12) (by omega) (by omega) ?_
    exact kk σ9 v9 sh ad M1832' _ _ _ ⟨hsh9, hX9, hM9, hA, hW⟩ (lv_sub hl [0, 1, 2, 3, 4] rfl)
  · exact ((c1835' (ord_eq (F := fun q c => refI (totA σ v q c (lit σ q c))) (fun q q' c e => by (try dsimp only); rw [lit_cg e c (Nat.le_refl _), totA_cg e]) p1828'.2.2 b5))).elim

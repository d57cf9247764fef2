
set_option maxHeartbeats 4000000 in
set_option maxRecDepth 100000 in
theorem law_cue_c {p : Program} {l : Launch} {e : Env} {s : State} {m : MethodId} {below : List Frame} {meth : Method} {cd0 : Code} {b L : Nat} {xs : Nat → Int32} {D : va_G} {cA : Nat → ClassId} (C0 : LC p l s m cd0 b L xs D cA) (σ : AS) (v : VT) (sh : Nat → Option Sh) (ad : Nat → Nat) (M : MS) (H : Heap) (locs : List Loc) (hI : LI D cA s σ v sh ad M H locs) (i : Nat) (hi5 : i + 5 ≤ L) (xi : Int32) (ei : xi = nI i) (ls : Array Slot) (hl : lv_has ls 8 [(4, .int xi), (3, .ref (ad 90)), (2, .ref (ad 60)), (1, .ref (ad 0)), (0, .ref b)]) (cells slots : Nat) (hc9 : cells + 2 ≤ 601024 ∧ slots + 12 ≤ 7293034)
  (kk : ∀ (σ' : AS) (v' : VT) (sh' : Nat → Option Sh) (ad' : Nat → Nat) (M' : MS) (H' : Heap) (locs' : List Loc) (ls' : Array Slot), LI D cA s σ' v' sh' ad' M' H' locs' → lv_has ls' 8 [(4, .int xi), (3, .ref (ad' 90)), (2, .ref (ad' 60)), (1, .ref (ad' 0)), (0, .ref b)] → W p l e room_1 s m #[Value.ref b] below meth cd0 H' locs' (cells + 2) (slots + 12) (lw_Z below #[Value.ref b] s) (F0 m 1840 ls' [])) : W p l e room_1 s m #[Value.ref b] below meth cd0 H locs cells slots (lw_Z below #[Value.ref b] s) (F0 m 721 ls []) := by
  obtain ⟨hx, hb, hml, hown, hts, hK, hl9, hS9, hbl, hL9, hE, hZ, hE2⟩ := C0
  obtain ⟨hsh, hXX, hMX, hA, hW⟩ := hI
  have hX : XSh (aN σ) sh := by rw [hsh]; exact shL_X _
  have hMs : MSh sh := by rw [hsh]; exact shL_M _
  have hO : sh 90 = some (.inr (2, 1)) := by rw [hsh]; exact shL_O _
  refine lv_aload_n hx hb dL_law_721 rfl (lv_at hl 3 rfl) ?_
  refine lv_aload_n hx hb dL_law_722 rfl (lv_at hl 4 rfl) ?_
  refine lv_iload hx hb dL_law_723 (lv_at hl 0 rfl) ?_
  refine lv_iconst (v := 1) hx hb dL_law_725 (by decide) ?_
  refine lv_iadd hx hb dL_law_726 ?_
  refine lv_topi (fun x726' e726' => ?_)
  have n726' : x726' = nI (i + 1) := (by rw [e726', ei, (nlit 1), nI_add])
  refine lsld (j := (i + 1)) hx hb hS9 hbl hW.2 n726' (by omega) hL9 dL_law_727 ?_
  refine lv_aload_n hx hb dL_law_728 rfl (lv_at hl 4 rfl) ?_
  refine lv_iload hx hb dL_law_729 (lv_at hl 0 rfl) ?_
  refine lv_iconst (v := 2) hx hb dL_law_731 (by decide) ?_
  refine lv_iadd hx hb dL_law_732 ?_
  refine lv_topi (fun x732' e732' => ?_)
  have n732' : x732' = nI (i + 2) := (by rw [e732', ei, (nlit 2), nI_add])
  refine lsld (j := (i + 2)) hx hb hS9 hbl hW.2 n732' (by omega) hL9 dL_law_733 ?_
  refine lv_aload_n hx hb dL_law_734 rfl (lv_at hl 4 rfl) ?_
  refine lv_iload hx hb dL_law_735 (lv_at hl 0 rfl) ?_
  refine lv_iconst (v := 3) hx hb dL_law_737 (by decide) ?_
  refine lv_iadd hx hb dL_law_738 ?_
  refine lv_topi (fun x738' e738' => ?_)
  have n738' : x738' = nI (i + 3) := (by rw [e738', ei, (nlit 3), nI_add])
  refine lsld (j := (i + 3)) hx hb hS9 hbl hW.2 n738' (by omega) hL9 dL_law_739 ?_
  refine lv_aload_n hx hb dL_law_740 rfl (lv_at hl 1 rfl) ?_
  refine wc_lc (vx_runSW (As := [.ref (ad 0), .int (xs (i + 1)), .int (xs (i + 2)), .int (xs (i + 3)), .ref (ad 90)]) (rest := []) ⟨hx, hb, hml, hown, hts⟩ (c_L_cue l hl9 D cA sh ad M _ σ v hsh hXX (xs (i + 1)) (xs (i + 2)) (xs (i + 3))) (vx_cwSW 5 hts gL_law_L_cue rfl rfl rfl (by decide +kernel) ⟨Nat.le_of_ble_eq_true rfl, Nat.le_of_ble_eq_true rfl⟩) (lpreS hK hA hW hE hZ hE2) rfl rfl hl.1 rfl (lv_room (Nat.le_of_ble_eq_true rfl)) dL_law_741 ⟨(by show cells + 1 ≤ 601024; omega), (by show slots + 9 ≤ 7293034; omega)⟩) hA hW (fun x741' sh ad M741' H locs hG1 p741' hA hW => ?_)
  rw [← (hG1.1 90 (ne_none hO)).2] at hl
  rw [← (hG1.1 60 (ne_none (hMs 60 (by decide) (by decide)))).2] at hl
  rw [← (hG1.1 0 (ne_none (hX.1 0 (by decide)))).2] at hl
  try dsimp only at p741'
  have hMX1 := hMX.oA p741'.1
  have hMs : MSh sh := by
    rcases p741'.2 with ⟨-, z, -⟩ | ⟨z, -⟩ <;> (rw [z]; exact shL_M _)
  have hO : sh 90 = some (.inr (2, 1)) := by
    rcases p741'.2 with ⟨-, z, -⟩ | ⟨z, -⟩ <;> (rw [z]; exact shL_O _)
  refine lv_istore (lv' := [(5, .int x741'), (4, .int xi), (3, .ref (ad 90)), (2, .ref (ad 60)), (1, .ref (ad 0)), (0, .ref b)]) hx hb dL_law_744 hl (by decide) rfl (fun ls hl => ?_)
  refine lv_aload_n hx hb dL_law_746 rfl (lv_at hl 3 rfl) ?_
  refine lv_aload_n hx hb dL_law_747 rfl (lv_at hl 5 rfl) ?_
  refine lv_iload hx hb dL_law_748 (lv_at hl 1 rfl) ?_
  refine lv_iconst (v := 1) hx hb dL_law_750 (by decide) ?_
  refine lv_iadd hx hb dL_law_751 ?_
  refine lv_topi (fun x751' e751' => ?_)
  have n751' : x751' = nI (i + 1) := (by rw [e751', ei, (nlit 1), nI_add])
  refine lsld (j := (i + 1)) hx hb hS9 hbl hW.2 n751' (by omega) hL9 dL_law_752 ?_
  refine lv_aload_n hx hb dL_law_753 rfl (lv_at hl 5 rfl) ?_
  refine lv_iload hx hb dL_law_754 (lv_at hl 1 rfl) ?_
  refine lv_iconst (v := 2) hx hb dL_law_756 (by decide) ?_
  refine lv_iadd hx hb dL_law_757 ?_
  refine lv_topi (fun x757' e757' => ?_)
  have n757' : x757' = nI (i + 2) := (by rw [e757', ei, (nlit 2), nI_add])
  refine lsld (j := (i + 2)) hx hb hS9 hbl hW.2 n757' (by omega) hL9 dL_law_758 ?_
  refine lv_aload_n hx hb dL_law_759 rfl (lv_at hl 5 rfl) ?_
  refine lv_iload hx hb dL_law_760 (lv_at hl 1 rfl) ?_
  refine lv_iconst (v := 3) hx hb dL_law_762 (by decide) ?_
  refine lv_iadd hx hb dL_law_763 ?_
  refine lv_topi (fun x763' e763' => ?_)
  have n763' : x763' = nI (i + 3) := (by rw [e763', ei, (nlit 3), nI_add])
  refine lsld (j := (i + 3)) hx hb hS9 hbl hW.2 n763' (by omega) hL9 dL_law_764 ?_
  refine wc_wi (va_runV (As := [.int (xs (i + 1)), .int (xs (i + 2)), .int (xs (i + 3))]) (rest := []) ⟨hx, hb, hml, hown, hts⟩ (c_X10_cue l D cA sh ad M741' _ σ v hMs hMX1 (xs (i + 1)) (xs (i + 2)) (xs (i + 3))) (cwV 3 hts gL_law_X10_cue rfl rfl rfl (by decide +kernel) ⟨Nat.le_of_ble_eq_true rfl, Nat.le_of_ble_eq_true rfl⟩) (wpreV hK hW (C := RX10) (ci := 10) (hMs 60 (by decide) (by decide)) rfl) rfl rfl hl.1 rfl (lv_room (Nat.le_of_ble_eq_true rfl)) dL_law_765 ⟨(by show cells + 1 + 0 ≤ 601024; omega), (by show slots + 9 + 0 ≤ 7293034; omega)⟩) hA hW (fun x765' M765' H locs p765' hW => ?_)
  try dsimp only at p765'
  have L9 := law_cue p741' p765' rfl
  refine lv_istore (lv' := [(6, .int x765'), (5, .int x741'), (4, .int xi), (3, .ref (ad 90)), (2, .ref (ad 60)), (1, .ref (ad 0)), (0, .ref b)]) hx hb dL_law_768 hl (by decide) rfl (fun ls hl => ?_)
  refine lv_aload_n hx hb dL_law_770 rfl (lv_at hl 4 rfl) ?_
  refine wc_ri (va_runV (As := []) (rest := []) ⟨hx, hb, hml, hown, hts⟩ (c_X10_thrown l D cA sh ad M765' _ hMs) (cwV 0 hts gL_law_X10_thrown rfl rfl rfl (by decide +kernel) ⟨Nat.le_of_ble_eq_true rfl, Nat.le_of_ble_eq_true rfl⟩) (wpreV hK hW (C := RX10) (ci := 10) (hMs 60 (by decide) (by decide)) rfl) rfl rfl hl.1 rfl (lv_room (Nat.le_of_ble_eq_true rfl)) dL_law_771 ⟨(by show cells + 1 + 0 ≤ 601024; omega), (by show slots + 9 + 0 ≤ 7293034; omega)⟩) hW (fun x771' H locs p771' hW => ?_)
  try dsimp only at p771'
  obtain ⟨σ9, v9, hsh9, hX9, hM9⟩ := L9.2.2
  refine lv_iload hx hb dL_law_774 (lv_at hl 1 rfl) ?_
  refine lv_icmp_eq (tgt := 781) hx hb dL_law_776 (by decide) (fun c776' => ?_) (fun c776' => ?_)
  · refine lv_iload hx hb dL_law_781 (lv_at hl 1 rfl) ?_
    refine lv_if_ne (tgt := 798) hx hb dL_law_783 (by decide) (fun c783' => ?_) (fun c783' => ?_)
    · refine lv_goto (tgt := 1840) hx hb dL_law_798 (by decide) ?_
      refine W.widen (k := cells + 2) (n := slots + 12) (by omega) (by omega) ?_
      exact kk σ9 v9 sh ad M765' _ _ _ ⟨hsh9, hX9, hM9, hA, hW⟩ (lv_sub hl [2, 3, 4, 5, 6] rfl)
    · refine lv_aload_n hx hb dL_law_786 rfl (lv_at hl 3 rfl) ?_
      refine lv_iconst (v := 0) hx hb dL_law_787 (by decide) ?_
      refine walL (j := 0) hx hb hK hW hO (nlit 0) (by omega) (by decide) dL_law_788 (fun x788' e788' => ?_)
      refine lv_iload hx hb dL_law_789 (lv_at hl 0 rfl) ?_
      refine lv_i2l hx hb dL_law_791 rfl ?_
      refine lv_topl (fun x791' e791' => ?_)
      refine W.lcmp hx hb dL_law_792 ?_
      refine lv_topi (fun x792' e792' => ?_)
      refine lv_if_eq (tgt := 798) hx hb dL_law_793 (by decide) (fun c793' => ?_) (fun c793' => ?_)
      · refine lv_goto (tgt := 1840) hx hb dL_law_798 (by decide) ?_
        refine W.widen (k := cells + 2) (n := slots + 12) (by omega) (by omega) ?_
        exact kk σ9 v9 sh ad M765' _ _ _ ⟨hsh9, hX9, hM9, hA, hW⟩ (lv_sub hl [2, 3, 4, 5, 6] rfl)
      · exact ((c793' (by rw [e792', e788', e791', L9.2.1 c783']; exact lg_self _))).elim
  · exact ((c776' (p771'.trans L9.1))).elim
set_option maxHeartbeats 4000000 in
set_option maxRecDepth 100000 in
theorem law_cut {p : Program} {l : Launch} {e : Env} {s : State} {m : MethodId} {below : List Frame} {meth : Method} {cd0 : Code} {b L : Nat} {xs : Nat → Int32} {D : va_G} {cA : Nat → ClassId} (C0 : LC p l s m cd0 b L xs D cA) (σ : AS) (v : VT) (sh : Nat → Option Sh) (ad : Nat → Nat) (M : MS) (H : Heap) (locs : List Loc) (hI : LI D cA s σ v sh ad M H locs) (i : Nat) (hi5 : i + 5 ≤ L) (xi : Int32) (ei : xi = nI i) (ls : Array Slot) (hl : lv_has ls 8 [(4, .int xi), (3, .ref (ad 90)), (2, .ref (ad 60)), (1, .ref (ad 0)), (0, .ref b)]) (cells slots : Nat) (hc9 : cells + 2 ≤ 601024 ∧ slots + 12 ≤ 7293034)
  (kk : ∀ (σ' : AS) (v' : VT) (sh' : Nat → Option Sh) (ad' : Nat → Nat) (M' : MS) (H' : Heap) (locs' : List Loc) (ls' : Array Slot), LI D cA s σ' v' sh' ad' M' H' locs' → lv_has ls' 8 [(4, .int xi), (3, .ref (ad' 90)), (2, .ref (ad' 60)), (1, .ref (ad' 0)), (0, .ref b)] → W p l e room_1 s m #[Value.ref b] below meth cd0 H' locs' (cells + 2) (slots + 12) (lw_Z below #[Value.ref b] s) (F0 m 1840 ls' [])) : W p l e room_1 s m #[Value.ref b] below meth cd0 H locs cells slots (lw_Z below #[Value.ref b] s) (F0 m 801 ls []) := by
  obtain ⟨hx, hb, hml, hown, hts, hK, hl9, hS9, hbl, hL9, hE, hZ, hE2⟩ := C0
  obtain ⟨hsh, hXX, hMX, hA, hW⟩ := hI
  have hX : XSh (aN σ) sh := by rw [hsh]; exact shL_X _
  have hMs : MSh sh := by rw [hsh]; exact shL_M _
  have hO : sh 90 = some (.inr (2, 1)) := by rw [hsh]; exact shL_O _
  refine lv_aload_n hx hb dL_law_801 rfl (lv_at hl 3 rfl) ?_
  refine lv_aload_n hx hb dL_law_802 rfl (lv_at hl 4 rfl) ?_
  refine lv_iload hx hb dL_law_803 (lv_at hl 0 rfl) ?_
  refine lv_iconst (v := 1) hx hb dL_law_805 (by decide) ?_
  refine lv_iadd hx hb dL_law_806 ?_
  refine lv_topi (fun x806' e806' => ?_)
  have n806' : x806' = nI (i + 1) := (by rw [e806', ei, (nlit 1), nI_add])
  refine lsld (j := (i + 1)) hx hb hS9 hbl hW.2 n806' (by omega) hL9 dL_law_807 ?_
  refine lv_aload_n hx hb dL_law_808 rfl (lv_at hl 1 rfl) ?_
  refine wc_wiN (vx_runSW (As := [.ref (ad 0), .int (xs (i + 1)), .ref (ad 90)]) (rest := []) ⟨hx, hb, hml, hown, hts⟩ (c_L_cut l hl9 D cA sh ad M _ σ v hX hXX hO (xs (i + 1))) (vx_cwSW 3 hts gL_law_L_cut rfl rfl rfl (by decide +kernel) ⟨Nat.le_of_ble_eq_true rfl, Nat.le_of_ble_eq_true rfl⟩) (lpreS hK hA hW hE hZ hE2) rfl rfl hl.1 rfl (lv_room (Nat.le_of_ble_eq_true rfl)) dL_law_809 ⟨(by show cells + 1 ≤ 601024; omega), (by show slots + 6 ≤ 7293034; omega)⟩) hA hW (fun x809' M809' H locs p809' hW => ?_)
  try dsimp only at p809'
  have hMX1 := hMX.oA p809'.1
  refine lv_istore (lv' := [(5, .int x809'), (4, .int xi), (3, .ref (ad 90)), (2, .ref (ad 60)), (1, .ref (ad 0)), (0, .ref b)]) hx hb dL_law_812 hl (by decide) rfl (fun ls hl => ?_)
  refine lv_aload_n hx hb dL_law_814 rfl (lv_at hl 3 rfl) ?_
  refine lv_aload_n hx hb dL_law_815 rfl (lv_at hl 5 rfl) ?_
  refine lv_iload hx hb dL_law_816 (lv_at hl 1 rfl) ?_
  refine lv_iconst (v := 1) hx hb dL_law_818 (by decide) ?_
  refine lv_iadd hx hb dL_law_819 ?_
  refine lv_topi (fun x819' e819' => ?_)
  have n819' : x819' = nI (i + 1) := (by rw [e819', ei, (nlit 1), nI_add])
  refine lsld (j := (i + 1)) hx hb hS9 hbl hW.2 n819' (by omega) hL9 dL_law_820 ?_
  refine wc_wi (va_runV (As := [.int (xs (i + 1))]) (rest := []) ⟨hx, hb, hml, hown, hts⟩ (c_X10_cut l D cA sh ad M809' _ σ v hMs hMX1 (xs (i + 1))) (cwV 1 hts gL_law_X10_cut rfl rfl rfl (by decide +kernel) ⟨Nat.le_of_ble_eq_true rfl, Nat.le_of_ble_eq_true rfl⟩) (wpreV hK hW (C := RX10) (ci := 10) (hMs 60 (by decide) (by decide)) rfl) rfl rfl hl.1 rfl (lv_room (Nat.le_of_ble_eq_true rfl)) dL_law_821 ⟨(by show cells + 1 + 0 ≤ 601024; omega), (by show slots + 6 + 0 ≤ 7293034; omega)⟩) hA hW (fun x821' M821' H locs p821' hW => ?_)
  try dsimp only at p821'
  have L9 := law_one (bl := x821'.toInt64) p809' p821' (fun ⟨x, h1, h2⟩ h3 => by rw [h2, h1, h3]) rfl
  refine lv_istore (lv' := [(6, .int x821'), (5, .int x809'), (4, .int xi), (3, .ref (ad 90)), (2, .ref (ad 60)), (1, .ref (ad 0)), (0, .ref b)]) hx hb dL_law_824 hl (by decide) rfl (fun ls hl => ?_)
  refine lv_aload_n hx hb dL_law_826 rfl (lv_at hl 4 rfl) ?_
  refine wc_ri (va_runV (As := []) (rest := []) ⟨hx, hb, hml, hown, hts⟩ (c_X10_thrown l D cA sh ad M821' _ hMs) (cwV 0 hts gL_law_X10_thrown rfl rfl rfl (by decide +kernel) ⟨Nat.le_of_ble_eq_true rfl, Nat.le_of_ble_eq_true rfl⟩) (wpreV hK hW (C := RX10) (ci := 10) (hMs 60 (by decide) (by decide)) rfl) rfl rfl hl.1 rfl (lv_room (Nat.le_of_ble_eq_true rfl)) dL_law_827 ⟨(by show cells + 1 + 0 ≤ 601024; omega), (by show slots + 6 + 0 ≤ 7293034; omega)⟩) hW (fun x827' H locs p827' hW => ?_)
  try dsimp only at p827'
  obtain ⟨σ9, v9, hn9, hX9, hM9⟩ := L9.2.2
  have hsh9 : sh = shL (aN σ9) := by rw [hn9]; exact hsh
  refine lv_iload hx hb dL_law_830 (lv_at hl 1 rfl) ?_
  refine lv_icmp_eq (tgt := 837) hx hb dL_law_832 (by decide) (fun c832' => ?_) (fun c832' => ?_)
  · refine lv_iload hx hb dL_law_837 (lv_at hl 1 rfl) ?_
    refine lv_if_ne (tgt := 854) hx hb dL_law_839 (by decide) (fun c839' => ?_) (fun c839' => ?_)
    · refine lv_goto (tgt := 1840) hx hb dL_law_854 (by decide) ?_
      refine W.widen (k := cells + 2) (n := slots + 12) (by omega) (by omega) ?_
      exact kk σ9 v9 sh ad M821' _ _ _ ⟨hsh9, hX9, hM9, hA, hW⟩ (lv_sub hl [2, 3, 4, 5, 6] rfl)
    · refine lv_aload_n hx hb dL_law_842 rfl (lv_at hl 3 rfl) ?_
      refine lv_iconst (v := 0) hx hb dL_law_843 (by decide) ?_
      refine walL (j := 0) hx hb hK hW hO (nlit 0) (by omega) (by decide) dL_law_844 (fun x844' e844' => ?_)
      refine lv_iload hx hb dL_law_845 (lv_at hl 0 rfl) ?_
      refine lv_i2l hx hb dL_law_847 rfl ?_
      refine lv_topl (fun x847' e847' => ?_)
      refine W.lcmp hx hb dL_law_848 ?_
      refine lv_topi (fun x848' e848' => ?_)
      refine lv_if_eq (tgt := 854) hx hb dL_law_849 (by decide) (fun c849' => ?_) (fun c849' => ?_)
      · refine lv_goto (tgt := 1840) hx hb dL_law_854 (by decide) ?_
        refine W.widen (k := cells + 2) (n := slots + 12) (by omega) (by omega) ?_
        exact kk σ9 v9 sh ad M821' _ _ _ ⟨hsh9, hX9, hM9, hA, hW⟩ (lv_sub hl [2, 3, 4, 5, 6] rfl)
      · exact ((c849' (by rw [e848', e844', e847', L9.2.1 c839']; exact lg_self _))).elim
  · exact ((c832' (p827'.trans L9.1))).elim
set_option maxHeartbeats 4000000 in
set_option maxRecDepth 100000 in
theorem law_setTempo {p : Program} {l : Launch} {e : Env} {s : State} {m : MethodId} {below : List Frame} {meth : Method} {cd0 : Code} {b L : Nat} {xs : Nat → Int32} {D : va_G} {cA : Nat → ClassId} (C0 : LC p l s m cd0 b L xs D cA) (σ : AS) (v : VT) (sh : Nat → Option Sh) (ad : Nat → Nat) (M : MS) (H : Heap) (locs : List Loc) (hI : LI D cA s σ v sh ad M H locs) (i : Nat) (hi5 : i + 5 ≤ L) (xi : Int32) (ei : xi = nI i) (ls : Array Slot) (hl : lv_has ls 8 [(4, .int xi), (3, .ref (ad 90)), (2, .ref (ad 60)), (1, .ref (ad 0)), (0, .ref b)]) (cells slots : Nat) (hc9 : cells + 2 ≤ 601024 ∧ slots + 12 ≤ 7293034)
  (kk : ∀ (σ' : AS) (v' : VT) (sh' : Nat → Option Sh) (ad' : Nat → Nat) (M' : MS) (H' : Heap) (locs' : List Loc) (ls' : Array Slot), LI D cA s σ' v' sh' ad' M' H' locs' → lv_has ls' 8 [(4, .int xi), (3, .ref (ad' 90)), (2, .ref (ad' 60)), (1, .ref (ad' 0)), (0, .ref b)] → W p l e room_1 s m #[Value.ref b] below meth cd0 H' locs' (cells + 2) (slots + 12) (lw_Z below #[Value.ref b] s) (F0 m 1840 ls' [])) : W p l e room_1 s m #[Value.ref b] below meth cd0 H locs cells slots (lw_Z below #[Value.ref b] s) (F0 m 857 ls []) := by
  obtain ⟨hx, hb, hml, hown, hts, hK, hl9, hS9, hbl, hL9, hE, hZ, hE2⟩ := C0
  obtain ⟨hsh, hXX, hMX, hA, hW⟩ := hI
  have hX : XSh (aN σ) sh := by rw [hsh]; exact shL_X _
  have hMs : MSh sh := by rw [hsh]; exact shL_M _
  have hO : sh 90 = some (.inr (2, 1)) := by rw [hsh]; exact shL_O _
  refine lv_aload_n hx hb dL_law_857 rfl (lv_at hl 3 rfl) ?_
  refine lv_aload_n hx hb dL_law_858 rfl (lv_at hl 4 rfl) ?_
  refine lv_iload hx hb dL_law_859 (lv_at hl 0 rfl) ?_
  refine lv_iconst (v := 1) hx hb dL_law_861 (by decide) ?_
  refine lv_iadd hx hb dL_law_862 ?_
  refine lv_topi (fun x862' e862' => ?_)
  have n862' : x862' = nI (i + 1) := (by rw [e862', ei, (nlit 1), nI_add])
  refine lsld (j := (i + 1)) hx hb hS9 hbl hW.2 n862' (by omega) hL9 dL_law_863 ?_
  refine lv_aload_n hx hb dL_law_864 rfl (lv_at hl 1 rfl) ?_
  refine wc_wiN (vx_runSW (As := [.ref (ad 0), .int (xs (i + 1)), .ref (ad 90)]) (rest := []) ⟨hx, hb, hml, hown, hts⟩ (c_L_setTempo l hl9 D cA sh ad M _ σ v hX hXX hO (xs (i + 1))) (vx_cwSW 3 hts gL_law_L_setTempo rfl rfl rfl (by decide +kernel) ⟨Nat.le_of_ble_eq_true rfl, Nat.le_of_ble_eq_true rfl⟩) (lpreS hK hA hW hE hZ hE2) rfl rfl hl.1 rfl (lv_room (Nat.le_of_ble_eq_true rfl)) dL_law_865 ⟨(by show cells + 1 ≤ 601024; omega), (by show slots + 6 ≤ 7293034; omega)⟩) hA hW (fun x865' M865' H locs p865' hW => ?_)
  try dsimp only at p865'
  have hMX1 := hMX.oA p865'.1
  refine lv_istore (lv' := [(5, .int x865'), (4, .int xi), (3, .ref (ad 90)), (2, .ref (ad 60)), (1, .ref (ad 0)), (0, .ref b)]) hx hb dL_law_868 hl (by decide) rfl (fun ls hl => ?_)
  refine lv_aload_n hx hb dL_law_870 rfl (lv_at hl 3 rfl) ?_
  refine lv_aload_n hx hb dL_law_871 rfl (lv_at hl 5 rfl) ?_
  refine lv_iload hx hb dL_law_872 (lv_at hl 1 rfl) ?_
  refine lv_iconst (v := 1) hx hb dL_law_874 (by decide) ?_
  refine lv_iadd hx hb dL_law_875 ?_
  refine lv_topi (fun x875' e875' => ?_)
  have n875' : x875' = nI (i + 1) := (by rw [e875', ei, (nlit 1), nI_add])
  refine lsld (j := (i + 1)) hx hb hS9 hbl hW.2 n875' (by omega) hL9 dL_law_876 ?_
  refine wc_wi (va_runV (As := [.int (xs (i + 1))]) (rest := []) ⟨hx, hb, hml, hown, hts⟩ (c_X10_setTempo l D cA sh ad M865' _ σ v hMs hMX1 (xs (i + 1))) (cwV 1 hts gL_law_X10_setTempo rfl rfl rfl (by decide +kernel) ⟨Nat.le_of_ble_eq_true rfl, Nat.le_of_ble_eq_true rfl⟩) (wpreV hK hW (C := RX10) (ci := 10) (hMs 60 (by decide) (by decide)) rfl) rfl rfl hl.1 rfl (lv_room (Nat.le_of_ble_eq_true rfl)) dL_law_877 ⟨(by show cells + 1 + 0 ≤ 601024; omega), (by show slots + 6 + 0 ≤ 7293034; omega)⟩) hA hW (fun x877' M877' H locs p877' hW => ?_)
  try dsimp only at p877'
  have L9 := law_one (bl := x877'.toInt64) p865' p877' (fun ⟨x, h1, h2⟩ h3 => by rw [h2, h1, h3]) rfl
  refine lv_istore (lv' := [(6, .int x877'), (5, .int x865'), (4, .int xi), (3, .ref (ad 90)), (2, .ref (ad 60)), (1, .ref (ad 0)), (0, .ref b)]) hx hb dL_law_880 hl (by decide) rfl (fun ls hl => ?_)
  refine lv_aload_n hx hb dL_law_882 rfl (lv_at hl 4 rfl) ?_
  refine wc_ri (va_runV (As := []) (rest := []) ⟨hx, hb, hml, hown, hts⟩ (c_X10_thrown l D cA sh ad M877' _ hMs) (cwV 0 hts gL_law_X10_thrown rfl rfl rfl (by decide +kernel) ⟨Nat.le_of_ble_eq_true rfl, Nat.le_of_ble_eq_true rfl⟩) (wpreV hK hW (C := RX10) (ci := 10) (hMs 60 (by decide) (by decide)) rfl) rfl rfl hl.1 rfl (lv_room (Nat.le_of_ble_eq_true rfl)) dL_law_883 ⟨(by show cells + 1 + 0 ≤ 601024; omega), (by show slots + 6 + 0 ≤ 7293034; omega)⟩) hW (fun x883' H locs p883' hW => ?_)
  try dsimp only at p883'
  obtain ⟨σ9, v9, hn9, hX9, hM9⟩ := L9.2.2
  have hsh9 : sh = shL (aN σ9) := by rw [hn9]; exact hsh
  refine lv_iload hx hb dL_law_886 (lv_at hl 1 rfl) ?_
  refine lv_icmp_eq (tgt := 893) hx hb dL_law_888 (by decide) (fun c888' => ?_) (fun c888' => ?_)
  · refine lv_iload hx hb dL_law_893 (lv_at hl 1 rfl) ?_
    refine lv_if_ne (tgt := 910) hx hb dL_law_895 (by decide) (fun c895' => ?_) (fun c895' => ?_)
    · refine lv_goto (tgt := 1840) hx hb dL_law_910 (by decide) ?_
      refine W.widen (k := cells + 2) (n := slots + 12) (by omega) (by omega) ?_
      exact kk σ9 v9 sh ad M877' _ _ _ ⟨hsh9, hX9, hM9, hA, hW⟩ (lv_sub hl [2, 3, 4, 5, 6] rfl)
    · refine lv_aload_n hx hb dL_law_898 rfl (lv_at hl 3 rfl) ?_
      refine lv_iconst (v := 0) hx hb dL_law_899 (by decide) ?_
      refine walL (j := 0) hx hb hK hW hO (nlit 0) (by omega) (by decide) dL_law_900 (fun x900' e900' => ?_)
      refine lv_iload hx hb dL_law_901 (lv_at hl 0 rfl) ?_
      refine lv_i2l hx hb dL_law_903 rfl ?_
      refine lv_topl (fun x903' e903' => ?_)
      refine W.lcmp hx hb dL_law_904 ?_
      refine lv_topi (fun x904' e904' => ?_)
      refine lv_if_eq (tgt := 910) hx hb dL_law_905 (by decide) (fun c905' => ?_) (fun c905' => ?_)
      · refine lv_goto (tgt := 1840) hx hb dL_law_910 (by decide) ?_
        refine W.widen (k := cells + 2) (n := slots + 12) (by omega) (by omega) ?_
        exact kk σ9 v9 sh ad M877' _ _ _ ⟨hsh9, hX9, hM9, hA, hW⟩ (lv_sub hl [2, 3, 4, 5, 6] rfl)
      · exact ((c905' (by rw [e904', e900', e903', L9.2.1 c895']; exact lg_self _))).elim
  · exact ((c888' (p883'.trans L9.1))).elim
set_option maxHeartbeats 4000000 in
set_option maxRecDepth 100000 in
theorem law_becomes {p : Program} {l : Launch} {e : Env} {s : State} {m : MethodId} {below : List Frame} {meth : Method} {cd0 : Code} {b L : Nat} {xs : Nat → Int32} {D : va_G} {cA : Nat → ClassId} (C0 : LC p l s m cd0 b L xs D cA) (σ : AS) (v : VT) (sh : Nat → Option Sh) (ad : Nat → Nat) (M : MS) (H : Heap) (locs : List Loc) (hI : LI D cA s σ v sh ad M H locs) (i : Nat) (hi5 : i + 5 ≤ L) (xi : Int32) (ei : xi = nI i) (ls : Array Slot) (hl : lv_has ls 8 [(4, .int xi), (3, .ref (ad 90)), (2, .ref (ad 60)), (1, .ref (ad 0)), (0, .ref b)]) (cells slots : Nat) (hc9 : cells + 2 ≤ 601024 ∧ slots + 12 ≤ 7293034)
  (kk : ∀ (σ' : AS) (v' : VT) (sh' : Nat → Option Sh) (ad' : Nat → Nat) (M' : MS) (H' : Heap) (locs' : List Loc) (ls' : Array Slot), LI D cA s σ' v' sh' ad' M' H' locs' → lv_has ls' 8 [(4, .int xi), (3, .ref (ad' 90)), (2, .ref (ad' 60)), (1, .ref (ad' 0)), (0, .ref b)] → W p l e room_1 s m #[Value.ref b] below meth cd0 H' locs' (cells + 2) (slots + 12) (lw_Z below #[Value.ref b] s) (F0 m 1840 ls' [])) : W p l e room_1 s m #[Value.ref b] below meth cd0 H locs cells slots (lw_Z below #[Value.ref b] s) (F0 m 913 ls []) := by
  obtain ⟨hx, hb, hml, hown, hts, hK, hl9, hS9, hbl, hL9, hE, hZ, hE2⟩ := C0
  obtain ⟨hsh, hXX, hMX, hA, hW⟩ := hI
  have hX : XSh (aN σ) sh := by rw [hsh]; exact shL_X _
  have hMs : MSh sh := by rw [hsh]; exact shL_M _
  have hO : sh 90 = some (.inr (2, 1)) := by rw [hsh]; exact shL_O _
  refine lv_aload_n hx hb dL_law_913 rfl (lv_at hl 3 rfl) ?_
  refine lv_aload_n hx hb dL_law_914 rfl (lv_at hl 4 rfl) ?_
  refine lv_iload hx hb dL_law_915 (lv_at hl 0 rfl) ?_
  refine lv_iconst (v := 1) hx hb dL_law_917 (by decide) ?_
  refine lv_iadd hx hb dL_law_918 ?_
  refine lv_topi (fun x918' e918' => ?_)
  have n918' : x918' = nI (i + 1) := (by rw [e918', ei, (nlit 1), nI_add])
  refine lsld (j := (i + 1)) hx hb hS9 hbl hW.2 n918' (by omega) hL9 dL_law_919 ?_
  refine lv_aload_n hx hb dL_law_920 rfl (lv_at hl 1 rfl) ?_
  refine wc_wiN (vx_runSW (As := [.ref (ad 0), .int (xs (i + 1)), .ref (ad 90)]) (rest := []) ⟨hx, hb, hml, hown, hts⟩ (c_L_becomes l hl9 D cA sh ad M _ σ v hX hXX hO (xs (i + 1))) (vx_cwSW 3 hts gL_law_L_becomes rfl rfl rfl (by decide +kernel) ⟨Nat.le_of_ble_eq_true rfl, Nat.le_of_ble_eq_true rfl⟩) (lpreS hK hA hW hE hZ hE2) rfl rfl hl.1 rfl (lv_room (Nat.le_of_ble_eq_true rfl)) dL_law_921 ⟨(by show cells + 1 ≤ 601024; omega), (by show slots + 6 ≤ 7293034; omega)⟩) hA hW (fun x921' M921' H locs p921' hW => ?_)
  try dsimp only at p921'
  have hMX1 := hMX.oA p921'.1
  refine lv_istore (lv' := [(5, .int x921'), (4, .int xi), (3, .ref (ad 90)), (2, .ref (ad 60)), (1, .ref (ad 0)), (0, .ref b)]) hx hb dL_law_924 hl (by decide) rfl (fun ls hl => ?_)
  refine lv_aload_n hx hb dL_law_926 rfl (lv_at hl 3 rfl) ?_
  refine lv_aload_n hx hb dL_law_927 rfl (lv_at hl 5 rfl) ?_
  refine lv_iload hx hb dL_law_928 (lv_at hl 1 rfl) ?_
  refine lv_iconst (v := 1) hx hb dL_law_930 (by decide) ?_
  refine lv_iadd hx hb dL_law_931 ?_
  refine lv_topi (fun x931' e931' => ?_)
  have n931' : x931' = nI (i + 1) := (by rw [e931', ei, (nlit 1), nI_add])
  refine lsld (j := (i + 1)) hx hb hS9 hbl hW.2 n931' (by omega) hL9 dL_law_932 ?_
  refine wc_wi (va_runV (As := [.int (xs (i + 1))]) (rest := []) ⟨hx, hb, hml, hown, hts⟩ (c_X10_becomes l D cA sh ad M921' _ σ v hMs hMX1 (xs (i + 1))) (cwV 1 hts gL_law_X10_becomes rfl rfl rfl (by decide +kernel) ⟨Nat.le_of_ble_eq_true rfl, Nat.le_of_ble_eq_true rfl⟩) (wpreV hK hW (C := RX10) (ci := 10) (hMs 60 (by decide) (by decide)) rfl) rfl rfl hl.1 rfl (lv_room (Nat.le_of_ble_eq_true rfl)) dL_law_933 ⟨(by show cells + 1 + 0 ≤ 601024; omega), (by show slots + 6 + 0 ≤ 7293034; omega)⟩) hA hW (fun x933' M933' H locs p933' hW => ?_)
  try dsimp only at p933'
  have L9 := law_one (bl := x933'.toInt64) p921' p933' (fun ⟨x, h1, h2⟩ h3 => by rw [h2, ord_eq (F := fun q c => nI (fateA σ q c (n1 (xs (i + 1))))) (fun q q' c e => by (try dsimp only); rw [fateA_cg e]) h1 h3]) rfl
  refine lv_istore (lv' := [(6, .int x933'), (5, .int x921'), (4, .int xi), (3, .ref (ad 90)), (2, .ref (ad 60)), (1, .ref (ad 0)), (0, .ref b)]) hx hb dL_law_936 hl (by decide) rfl (fun ls hl => ?_)
  refine lv_aload_n hx hb dL_law_938 rfl (lv_at hl 4 rfl) ?_
  refine wc_ri (va_runV (As := []) (rest := []) ⟨hx, hb, hml, hown, hts⟩ (c_X10_thrown l D cA sh ad M933' _ hMs) (cwV 0 hts gL_law_X10_thrown rfl rfl rfl (by decide +kernel) ⟨Nat.le_of_ble_eq_true rfl, Nat.le_of_ble_eq_true rfl⟩) (wpreV hK hW (C := RX10) (ci := 10) (hMs 60 (by decide) (by decide)) rfl) rfl rfl hl.1 rfl (lv_room (Nat.le_of_ble_eq_true rfl)) dL_law_939 ⟨(by show cells + 1 + 0 ≤ 601024; omega), (by show slots + 6 + 0 ≤ 7293034; omega)⟩) hW (fun x939' H locs p939' hW => ?_)
  try dsimp only at p939'
  obtain ⟨σ9, v9, hn9, hX9, hM9⟩ := L9.2.2
  have hsh9 : sh = shL (aN σ9) := by rw [hn9]; exact hsh
  refine lv_iload hx hb dL_law_942 (lv_at hl 1 rfl) ?_
  refine lv_icmp_eq (tgt := 949) hx hb dL_law_944 (by decide) (fun c944' => ?_) (fun c944' => ?_)
  · refine lv_iload hx hb dL_law_949 (lv_at hl 1 rfl) ?_
    refine lv_if_ne (tgt := 966) hx hb dL_law_951 (by decide) (fun c951' => ?_) (fun c951' => ?_)
    · refine lv_goto (tgt := 1840) hx hb dL_law_966 (by decide) ?_
      refine W.widen (k := cells + 2) (n := slots + 12) (by omega) (by omega) ?_
      exact kk σ9 v9 sh ad M933' _ _ _ ⟨hsh9, hX9, hM9, hA, hW⟩ (lv_sub hl [2, 3, 4, 5, 6] rfl)
    · refine lv_aload_n hx hb dL_law_954 rfl (lv_at hl 3 rfl) ?_
      refine lv_iconst (v := 0) hx hb dL_law_955 (by decide) ?_
      refine walL (j := 0) hx hb hK hW hO (nlit 0) (by omega) (by decide) dL_law_956 (fun x956' e956' => ?_)
      refine lv_iload hx hb dL_law_957 (lv_at hl 0 rfl) ?_
      refine lv_i2l hx hb dL_law_959 rfl ?_
      refine lv_topl (fun x959' e959' => ?_)
      refine W.lcmp hx hb dL_law_960 ?_
      refine lv_topi (fun x960' e960' => ?_)
      refine lv_if_eq (tgt := 966) hx hb dL_law_961 (by decide) (fun c961' => ?_) (fun c961' => ?_)
      · refine lv_goto (tgt := 1840) hx hb dL_law_966 (by decide) ?_
        refine W.widen (k := cells + 2) (n := slots + 12) (by omega) (by omega) ?_
        exact kk σ9 v9 sh ad M933' _ _ _ ⟨hsh9, hX9, hM9, hA, hW⟩ (lv_sub hl [2, 3, 4, 5, 6] rfl)
      · exact ((c961' (by rw [e960', e956', e959', L9.2.1 c951']; exact lg_self _))).elim
  · exact ((c944' (p939'.trans L9.1))).elim
set_option maxHeartbeats 4000000 in
set_option maxRecDepth 100000 in
theorem law_bursts {p : Program} {l : Launch} {e : Env} {s : State} {m : MethodId} {below : List Frame} {meth : Method} {cd0 : Code} {b L : Nat} {xs : Nat → Int32} {D : va_G} {cA : Nat → ClassId} (C0 : LC p l s m cd0 b L xs D cA) (σ : AS) (v : VT) (sh : Nat → Option Sh) (ad : Nat → Nat) (M : MS) (H : Heap) (locs : List Loc) (hI : LI D cA s σ v sh ad M H locs) (i : Nat) (hi5 : i + 5 ≤ L) (xi : Int32) (ei : xi = nI i) (ls : Array Slot) (hl : lv_has ls 8 [(4, .int xi), (3, .ref (ad 90)), (2, .ref (ad 60)), (1, .ref (ad 0)), (0, .ref b)]) (cells slots : Nat) (hc9 : cells + 2 ≤ 601024 ∧ slots + 12 ≤ 7293034)
  (kk : ∀ (σ' : AS) (v' : VT) (sh' : Nat → Option Sh) (ad' : Nat → Nat) (M' : MS) (H' : Heap) (locs' : List Loc) (ls' : Array Slot), LI D cA s σ' v' sh' ad' M' H' locs' → lv_has ls' 8 [(4, .int xi), (3, .ref (ad' 90)), (2, .ref (ad' 60)), (1, .ref (ad' 0)), (0, .ref b)] → W p l e room_1 s m #[Value.ref b] below meth cd0 H' locs' (cells + 2) (slots + 12) (lw_Z below #[Value.ref b] s) (F0 m 1840 ls' [])) : W p l e room_1 s m #[Value.ref b] below meth cd0 H locs cells slots (lw_Z below #[Value.ref b] s) (F0 m 969 ls []) := by
  obtain ⟨hx, hb, hml, hown, hts, hK, hl9, hS9, hbl, hL9, hE, hZ, hE2⟩ := C0
  obtain ⟨hsh, hXX, hMX, hA, hW⟩ := hI
  have hX : XSh (aN σ) sh := by rw [hsh]; exact shL_X _
  have hMs : MSh sh := by rw [hsh]; exact shL_M _
  have hO : sh 90 = some (.inr (2, 1)) := by rw [hsh]; exact shL_O _
  refine lv_aload_n hx hb dL_law_969 rfl (lv_at hl 3 rfl) ?_
  refine lv_aload_n hx hb dL_law_970 rfl (lv_at hl 4 rfl) ?_
  refine lv_iload hx hb dL_law_971 (lv_at hl 0 rfl) ?_
  refine lv_iconst (v := 1) hx hb dL_law_973 (by decide) ?_
  refine lv_iadd hx hb dL_law_974 ?_
  refine lv_topi (fun x974' e974' => ?_)
  have n974' : x974' = nI (i + 1) := (by rw [e974', ei, (nlit 1), nI_add])
  refine lsld (j := (i + 1)) hx hb hS9 hbl hW.2 n974' (by omega) hL9 dL_law_975 ?_
  refine lv_aload_n hx hb dL_law_976 rfl (lv_at hl 1 rfl) ?_
  refine wc_wiN (vx_runSW (As := [.ref (ad 0), .int (xs (i + 1)), .ref (ad 90)]) (rest := []) ⟨hx, hb, hml, hown, hts⟩ (c_L_bursts l hl9 D cA sh ad M _ σ v hX hXX hO (xs (i + 1))) (vx_cwSW 3 hts gL_law_L_bursts rfl rfl rfl (by decide +kernel) ⟨Nat.le_of_ble_eq_true rfl, Nat.le_of_ble_eq_true rfl⟩) (lpreS hK hA hW hE hZ hE2) rfl rfl hl.1 rfl (lv_room (Nat.le_of_ble_eq_true rfl)) dL_law_977 ⟨(by show cells + 1 ≤ 601024; omega), (by show slots + 6 ≤ 7293034; omega)⟩) hA hW (fun x977' M977' H locs p977' hW => ?_)
  try dsimp only at p977'
  have hMX1 := hMX.oA p977'.1
  refine lv_istore (lv' := [(5, .int x977'), (4, .int xi), (3, .ref (ad 90)), (2, .ref (ad 60)), (1, .ref (ad 0)), (0, .ref b)]) hx hb dL_law_980 hl (by decide) rfl (fun ls hl => ?_)
  refine lv_aload_n hx hb dL_law_982 rfl (lv_at hl 3 rfl) ?_
  refine lv_aload_n hx hb dL_law_983 rfl (lv_at hl 5 rfl) ?_
  refine lv_iload hx hb dL_law_984 (lv_at hl 1 rfl) ?_
  refine lv_iconst (v := 1) hx hb dL_law_986 (by decide) ?_
  refine lv_iadd hx hb dL_law_987 ?_
  refine lv_topi (fun x987' e987' => ?_)
  have n987' : x987' = nI (i + 1) := (by rw [e987', ei, (nlit 1), nI_add])
  refine lsld (j := (i + 1)) hx hb hS9 hbl hW.2 n987' (by omega) hL9 dL_law_988 ?_
  refine wc_wi (va_runV (As := [.int (xs (i + 1))]) (rest := []) ⟨hx, hb, hml, hown, hts⟩ (c_X10_bursts l D cA sh ad M977' _ σ v hMs hMX1 (xs (i + 1))) (cwV 1 hts gL_law_X10_bursts rfl rfl rfl (by decide +kernel) ⟨Nat.le_of_ble_eq_true rfl, Nat.le_of_ble_eq_true rfl⟩) (wpreV hK hW (C := RX10) (ci := 10) (hMs 60 (by decide) (by decide)) rfl) rfl rfl hl.1 rfl (lv_room (Nat.le_of_ble_eq_true rfl)) dL_law_989 ⟨(by show cells + 1 + 0 ≤ 601024; omega), (by show slots + 6 + 0 ≤ 7293034; omega)⟩) hA hW (fun x989' M989' H locs p989' hW => ?_)
  try dsimp only at p989'
  have L9 := law_one (bl := x989'.toInt64) p977' p989' (fun ⟨x, ⟨_, _, _, h1⟩, h2⟩ ⟨_, _, _, h3⟩ => by rw [h2, h1, h3]) rfl
  refine lv_istore (lv' := [(6, .int x989'), (5, .int x977'), (4, .int xi), (3, .ref (ad 90)), (2, .ref (ad 60)), (1, .ref (ad 0)), (0, .ref b)]) hx hb dL_law_992 hl (by decide) rfl (fun ls hl => ?_)
  refine lv_aload_n hx hb dL_law_994 rfl (lv_at hl 4 rfl) ?_
  refine wc_ri (va_runV (As := []) (rest := []) ⟨hx, hb, hml, hown, hts⟩ (c_X10_thrown l D cA sh ad M989' _ hMs) (cwV 0 hts gL_law_X10_thrown rfl rfl rfl (by decide +kernel) ⟨Nat.le_of_ble_eq_true rfl, Nat.le_of_ble_eq_true rfl⟩) (wpreV hK hW (C := RX10) (ci := 10) (hMs 60 (by decide) (by decide)) rfl) rfl rfl hl.1 rfl (lv_room (Nat.le_of_ble_eq_true rfl)) dL_law_995 ⟨(by show cells + 1 + 0 ≤ 601024; omega), (by show slots + 6 + 0 ≤ 7293034; omega)⟩) hW (fun x995' H locs p995' hW => ?_)
  try dsimp only at p995'
  obtain ⟨σ9, v9, hn9, hX9, hM9⟩ := L9.2.2
  have hsh9 : sh = shL (aN σ9) := by rw [hn9]; exact hsh
  refine lv_iload hx hb dL_law_998 (lv_at hl 1 rfl) ?_
  refine lv_icmp_eq (tgt := 1005) hx hb dL_law_1000 (by decide) (fun c1000' => ?_) (fun c1000' => ?_)
  · refine lv_iload hx hb dL_law_1005 (lv_at hl 1 rfl) ?_
    refine lv_if_ne (tgt := 1022) hx hb dL_law_1007 (by decide) (fun c1007' => ?_) (fun c1007' => ?_)
    · refine lv_goto (tgt := 1840) hx hb dL_law_1022 (by decide) ?_
      refine W.widen (k := cells + 2) (n := slots + 12) (by omega) (by omega) ?_
      exact kk σ9 v9 sh ad M989' _ _ _ ⟨hsh9, hX9, hM9, hA, hW⟩ (lv_sub hl [2, 3, 4, 5, 6] rfl)
    · refine lv_aload_n hx hb dL_law_1010 rfl (lv_at hl 3 rfl) ?_
      refine lv_iconst (v := 0) hx hb dL_law_1011 (by decide) ?_
      refine walL (j := 0) hx hb hK hW hO (nlit 0) (by omega) (by decide) dL_law_1012 (fun x1012' e1012' => ?_)
      refine lv_iload hx hb dL_law_1013 (lv_at hl 0 rfl) ?_
      refine lv_i2l hx hb dL_law_1015 rfl ?_
      refine lv_topl (fun x1015' e1015' => ?_)
      refine W.lcmp hx hb dL_law_1016 ?_
      refine lv_topi (fun x1016' e1016' => ?_)
      refine lv_if_eq (tgt := 1022) hx hb dL_law_1017 (by decide) (fun c1017' => ?_) (fun c1017' => ?_)
      · refine lv_goto (tgt := 1840) hx hb dL_law_1022 (by decide) ?_
        refine W.widen (k := cells + 2) (n := slots + 12) (by omega) (by omega) ?_
        exact kk σ9 v9 sh ad M989' _ _ _ ⟨hsh9, hX9, hM9, hA, hW⟩ (lv_sub hl [2, 3, 4, 5, 6] rfl)
      · exact ((c1017' (by rw [e1016', e1012', e1015', L9.2.1 c1007']; exact lg_self _))).elim
  · exact ((c1000' (p995'.trans L9.1))).elim
set_option maxHeartbeats 4000000 in
set_option maxRecDepth 100000 in
theorem law_fires {p : Program} {l : Launch} {e : Env} {s : State} {m : MethodId} {below : List Frame} {meth : Method} {cd0 : Code} {b L : Nat} {xs : Nat → Int32} {D : va_G} {cA : Nat → ClassId} (C0 : LC p l s m cd0 b L xs D cA) (σ : AS) (v : VT) (sh : Nat → Option Sh) (ad : Nat → Nat) (M : MS) (H : Heap) (locs : List Loc) (hI : LI D cA s σ v sh ad M H locs) (i : Nat) (hi5 : i + 5 ≤ L) (xi : Int32) (ei : xi = nI i) (ls : Array Slot) (hl : lv_has ls 8 [(4, .int xi), (3, .ref (ad 90)), (2, .ref (ad 60)), (1, .ref (ad 0)), (0, .ref b)]) (cells slots : Nat) (hc9 : cells + 2 ≤ 601024 ∧ slots + 12 ≤ 7293034)
  (kk : ∀ (σ' : AS) (v' : VT) (sh' : Nat → Option Sh) (ad' : Nat → Nat) (M' : MS) (H' : Heap) (locs' : List Loc) (ls' : Array Slot), LI D cA s σ' v' sh' ad' M' H' locs' → lv_has ls' 8 [(4, .int xi), (3, .ref (ad' 90)), (2, .ref (ad' 60)), (1, .ref (ad' 0)), (0, .ref b)] → W p l e room_1 s m #[Value.ref b] below meth cd0 H' locs' (cells + 2) (slots + 12) (lw_Z below #[Value.ref b] s) (F0 m 1840 ls' [])) : W p l e room_1 s m #[Value.ref b] below meth cd0 H locs cells slots (lw_Z below #[Value.ref b] s) (F0 m 1025 ls []) := by
  obtain ⟨hx, hb, hml, hown, hts, hK, hl9, hS9, hbl, hL9, hE, hZ, hE2⟩ := C0
  obtain ⟨hsh, hXX, hMX, hA, hW⟩ := hI
  have hX : XSh (aN σ) sh := by rw [hsh]; exact shL_X _
  have hMs : MSh sh := by rw [hsh]; exact shL_M _
  have hO : sh 90 = some (.inr (2, 1)) := by rw [hsh]; exact shL_O _
  refine lv_aload_n hx hb dL_law_1025 rfl (lv_at hl 3 rfl) ?_
  refine lv_aload_n hx hb dL_law_1026 rfl (lv_at hl 4 rfl) ?_
  refine lv_iload hx hb dL_law_1027 (lv_at hl 0 rfl) ?_
  refine lv_iconst (v := 1) hx hb dL_law_1029 (by decide) ?_
  refine lv_iadd hx hb dL_law_1030 ?_
  refine lv_topi (fun x1030' e1030' => ?_)
  have n1030' : x1030' = nI (i + 1) := (by rw [e1030', ei, (nlit 1), nI_add])
  refine lsld (j := (i + 1)) hx hb hS9 hbl hW.2 n1030' (by omega) hL9 dL_law_1031 ?_
  refine lv_aload_n hx hb dL_law_1032 rfl (lv_at hl 1 rfl) ?_
  refine wc_wiN (vx_runSW (As := [.ref (ad 0), .int (xs (i + 1)), .ref (ad 90)]) (rest := []) ⟨hx, hb, hml, hown, hts⟩ (c_L_fires l hl9 D cA sh ad M _ σ v hX hXX hO (xs (i + 1))) (vx_cwSW 3 hts gL_law_L_fires rfl rfl rfl (by decide +kernel) ⟨Nat.le_of_ble_eq_true rfl, Nat.le_of_ble_eq_true rfl⟩) (lpreS hK hA hW hE hZ hE2) rfl rfl hl.1 rfl (lv_room (Nat.le_of_ble_eq_true rfl)) dL_law_1033 ⟨(by show cells + 1 ≤ 601024; omega), (by show slots + 6 ≤ 7293034; omega)⟩) hA hW (fun x1033' M1033' H locs p1033' hW => ?_)
  try dsimp only at p1033'
  have hMX1 := hMX.oA p1033'.1
  refine lv_istore (lv' := [(5, .int x1033'), (4, .int xi), (3, .ref (ad 90)), (2, .ref (ad 60)), (1, .ref (ad 0)), (0, .ref b)]) hx hb dL_law_1036 hl (by decide) rfl (fun ls hl => ?_)
  refine lv_aload_n hx hb dL_law_1038 rfl (lv_at hl 3 rfl) ?_
  refine lv_aload_n hx hb dL_law_1039 rfl (lv_at hl 5 rfl) ?_
  refine lv_iload hx hb dL_law_1040 (lv_at hl 1 rfl) ?_
  refine lv_iconst (v := 1) hx hb dL_law_1042 (by decide) ?_
  refine lv_iadd hx hb dL_law_1043 ?_
  refine lv_topi (fun x1043' e1043' => ?_)
  have n1043' : x1043' = nI (i + 1) := (by rw [e1043', ei, (nlit 1), nI_add])
  refine lsld (j := (i + 1)) hx hb hS9 hbl hW.2 n1043' (by omega) hL9 dL_law_1044 ?_
  refine wc_wi (va_runV (As := [.int (xs (i + 1))]) (rest := []) ⟨hx, hb, hml, hown, hts⟩ (c_X10_fires l D cA sh ad M1033' _ σ v hMs hMX1 (xs (i + 1))) (cwV 1 hts gL_law_X10_fires rfl rfl rfl (by decide +kernel) ⟨Nat.le_of_ble_eq_true rfl, Nat.le_of_ble_eq_true rfl⟩) (wpreV hK hW (C := RX10) (ci := 10) (hMs 60 (by decide) (by decide)) rfl) rfl rfl hl.1 rfl (lv_room (Nat.le_of_ble_eq_true rfl)) dL_law_1045 ⟨(by show cells + 1 + 0 ≤ 601024; omega), (by show slots + 6 + 0 ≤ 7293034; omega)⟩) hA hW (fun x1045' M1045' H locs p1045' hW => ?_)
  try dsimp only at p1045'
  have L9 := law_one (bl := x1045'.toInt64) p1033' p1045' (fun ⟨x, ⟨_, _, _, h1⟩, h2⟩ ⟨_, _, _, h3⟩ => by rw [h2, h1, h3]) rfl
  refine lv_istore (lv' := [(6, .int x1045'), (5, .int x1033'), (4, .int xi), (3, .ref (ad 90)), (2, .ref (ad 60)), (1, .ref (ad 0)), (0, .ref b)]) hx hb dL_law_1048 hl (by decide) rfl (fun ls hl => ?_)
  refine lv_aload_n hx hb dL_law_1050 rfl (lv_at hl 4 rfl) ?_
  refine wc_ri (va_runV (As := []) (rest := []) ⟨hx, hb, hml, hown, hts⟩ (c_X10_thrown l D cA sh ad M1045' _ hMs) (cwV 0 hts gL_law_X10_thrown rfl rfl rfl (by decide +kernel) ⟨Nat.le_of_ble_eq_true rfl, Nat.le_of_ble_eq_true rfl⟩) (wpreV hK hW (C := RX10) (ci := 10) (hMs 60 (by decide) (by decide)) rfl) rfl rfl hl.1 rfl (lv_room (Nat.le_of_ble_eq_true rfl)) dL_law_1051 ⟨(by show cells + 1 + 0 ≤ 601024; omega), (by show slots + 6 + 0 ≤ 7293034; omega)⟩) hW (fun x1051' H locs p1051' hW => ?_)
  try dsimp only at p1051'
  obtain ⟨σ9, v9, hn9, hX9, hM9⟩ := L9.2.2
  have hsh9 : sh = shL (aN σ9) := by rw [hn9]; exact hsh
  refine lv_iload hx hb dL_law_1054 (lv_at hl 1 rfl) ?_
  refine lv_icmp_eq (tgt := 1061) hx hb dL_law_1056 (by decide) (fun c1056' => ?_) (fun c1056' => ?_)
  · refine lv_iload hx hb dL_law_1061 (lv_at hl 1 rfl) ?_
    refine lv_if_ne (tgt := 1078) hx hb dL_law_1063 (by decide) (fun c1063' => ?_) (fun c1063' => ?_)
    · refine lv_goto (tgt := 1840) hx hb dL_law_1078 (by decide) ?_
      refine W.widen (k := cells + 2) (n := slots + 12) (by omega) (by omega) ?_
      exact kk σ9 v9 sh ad M1045' _ _ _ ⟨hsh9, hX9, hM9, hA, hW⟩ (lv_sub hl [2, 3, 4, 5, 6] rfl)
    · refine lv_aload_n hx hb dL_law_1066 rfl (lv_at hl 3 rfl) ?_
      refine lv_iconst (v := 0) hx hb dL_law_1067 (by decide) ?_
      refine walL (j := 0) hx hb hK hW hO (nlit 0) (by omega) (by decide) dL_law_1068 (fun x1068' e1068' => ?_)
      refine lv_iload hx hb dL_law_1069 (lv_at hl 0 rfl) ?_
      refine lv_i2l hx hb dL_law_1071 rfl ?_
      refine lv_topl (fun x1071' e1071' => ?_)
      refine W.lcmp hx hb dL_law_1072 ?_
      refine lv_topi (fun x1072' e1072' => ?_)
      refine lv_if_eq (tgt := 1078) hx hb dL_law_1073 (by decide) (fun c1073' => ?_) (fun c1073' => ?_)
      · refine lv_goto (tgt := 1840) hx hb dL_law_1078 (by decide) ?_
        refine W.widen (k := cells + 2) (n := slots + 12) (by omega) (by omega) ?_
        exact kk σ9 v9 sh ad M1045' _ _ _ ⟨hsh9, hX9, hM9, hA, hW⟩ (lv_sub hl [2, 3, 4, 5, 6] rfl)
      · exact ((c1073' (by rw [e1072', e1068', e1071', L9.2.1 c1063']; exact lg_self _))).elim
  · exact ((c1056' (p1051'.trans L9.1))).elim
set_option maxHeartbeats 4000000 in
set_option maxRecDepth 100000 in
theorem law_falls {p : Program} {l : Launch} {e : Env} {s : State} {m : MethodId} {below : List Frame} {meth : Method} {cd0 : Code} {b L : Nat} {xs : Nat → Int32} {D : va_G} {cA : Nat → ClassId} (C0 : LC p l s m cd0 b L xs D cA) (σ : AS) (v : VT) (sh : Nat → Option Sh) (ad : Nat → Nat) (M : MS) (H : Heap) (locs : List Loc) (hI : LI D cA s σ v sh ad M H locs) (i : Nat) (hi5 : i + 5 ≤ L) (xi : Int32) (ei : xi = nI i) (ls : Array Slot) (hl : lv_has ls 8 [(4, .int xi), (3, .ref (ad 90)), (2, .ref (ad 60)), (1, .ref (ad 0)), (0, .ref b)]) (cells slots : Nat) (hc9 : cells + 2 ≤ 601024 ∧ slots + 12 ≤ 7293034)
  (kk : ∀ (σ' : AS) (v' : VT) (sh' : Nat → Option Sh) (ad' : Nat → Nat) (M' : MS) (H' : Heap) (locs' : List Loc) (ls' : Array Slot), LI D cA s σ' v' sh' ad' M' H' locs' → lv_has ls' 8 [(4, .int xi), (3, .ref (ad' 90)), (2, .ref (ad' 60)), (1, .ref (ad' 0)), (0, .ref b)] → W p l e room_1 s m #[Value.ref b] below meth cd0 H' locs' (cells + 2) (slots + 12) (lw_Z below #[Value.ref b] s) (F0 m 1840 ls' [])) : W p l e room_1 s m #[Value.ref b] below meth cd0 H locs cells slots (lw_Z below #[Value.ref b] s) (F0 m 1081 ls []) := by
  obtain ⟨hx, hb, hml, hown, hts, hK, hl9, hS9, hbl, hL9, hE, hZ, hE2⟩ := C0
  obtain ⟨hsh, hXX, hMX, hA, hW⟩ := hI
  have hX : XSh (aN σ) sh := by rw [hsh]; exact shL_X _
  have hMs : MSh sh := by rw [hsh]; exact shL_M _
  have hO : sh 90 = some (.inr (2, 1)) := by rw [hsh]; exact shL_O _
  refine lv_aload_n hx hb dL_law_1081 rfl (lv_at hl 3 rfl) ?_
  refine lv_aload_n hx hb dL_law_1082 rfl (lv_at hl 4 rfl) ?_
  refine lv_iload hx hb dL_law_1083 (lv_at hl 0 rfl) ?_
  refine lv_iconst (v := 1) hx hb dL_law_1085 (by decide) ?_
  refine lv_iadd hx hb dL_law_1086 ?_
  refine lv_topi (fun x1086' e1086' => ?_)
  have n1086' : x1086' = nI (i + 1) := (by rw [e1086', ei, (nlit 1), nI_add])
  refine lsld (j := (i + 1)) hx hb hS9 hbl hW.2 n1086' (by omega) hL9 dL_law_1087 ?_
  refine lv_aload_n hx hb dL_law_1088 rfl (lv_at hl 4 rfl) ?_
  refine lv_iload hx hb dL_law_1089 (lv_at hl 0 rfl) ?_
  refine lv_iconst (v := 2) hx hb dL_law_1091 (by decide) ?_
  refine lv_iadd hx hb dL_law_1092 ?_
  refine lv_topi (fun x1092' e1092' => ?_)
  have n1092' : x1092' = nI (i + 2) := (by rw [e1092', ei, (nlit 2), nI_add])
  refine lsld (j := (i + 2)) hx hb hS9 hbl hW.2 n1092' (by omega) hL9 dL_law_1093 ?_
  refine lv_aload_n hx hb dL_law_1094 rfl (lv_at hl 1 rfl) ?_
  refine wc_wiN (vx_runSW (As := [.ref (ad 0), .int (xs (i + 1)), .int (xs (i + 2)), .ref (ad 90)]) (rest := []) ⟨hx, hb, hml, hown, hts⟩ (c_L_falls l hl9 D cA sh ad M _ σ v hX hXX hO (xs (i + 1)) (xs (i + 2))) (vx_cwSW 4 hts gL_law_L_falls rfl rfl rfl (by decide +kernel) ⟨Nat.le_of_ble_eq_true rfl, Nat.le_of_ble_eq_true rfl⟩) (lpreS hK hA hW hE hZ hE2) rfl rfl hl.1 rfl (lv_room (Nat.le_of_ble_eq_true rfl)) dL_law_1095 ⟨(by show cells + 2 ≤ 601024; omega), (by show slots + 12 ≤ 7293034; omega)⟩) hA hW (fun x1095' M1095' H locs p1095' hW => ?_)
  try dsimp only at p1095'
  have hMX1 := hMX.oA p1095'.1
  refine lv_istore (lv' := [(5, .int x1095'), (4, .int xi), (3, .ref (ad 90)), (2, .ref (ad 60)), (1, .ref (ad 0)), (0, .ref b)]) hx hb dL_law_1098 hl (by decide) rfl (fun ls hl => ?_)
  refine lv_aload_n hx hb dL_law_1100 rfl (lv_at hl 3 rfl) ?_
  refine lv_aload_n hx hb dL_law_1101 rfl (lv_at hl 5 rfl) ?_
  refine lv_iload hx hb dL_law_1102 (lv_at hl 1 rfl) ?_
  refine lv_iconst (v := 1) hx hb dL_law_1104 (by decide) ?_
  refine lv_iadd hx hb dL_law_1105 ?_
  refine lv_topi (fun x1105' e1105' => ?_)
  have n1105' : x1105' = nI (i + 1) := (by rw [e1105', ei, (nlit 1), nI_add])
  refine lsld (j := (i + 1)) hx hb hS9 hbl hW.2 n1105' (by omega) hL9 dL_law_1106 ?_
  refine lv_aload_n hx hb dL_law_1107 rfl (lv_at hl 5 rfl) ?_
  refine lv_iload hx hb dL_law_1108 (lv_at hl 1 rfl) ?_
  refine lv_iconst (v := 2) hx hb dL_law_1110 (by decide) ?_
  refine lv_iadd hx hb dL_law_1111 ?_
  refine lv_topi (fun x1111' e1111' => ?_)
  have n1111' : x1111' = nI (i + 2) := (by rw [e1111', ei, (nlit 2), nI_add])
  refine lsld (j := (i + 2)) hx hb hS9 hbl hW.2 n1111' (by omega) hL9 dL_law_1112 ?_
  refine wc_wi (va_runV (As := [.int (xs (i + 1)), .int (xs (i + 2))]) (rest := []) ⟨hx, hb, hml, hown, hts⟩ (c_X10_falls l D cA sh ad M1095' _ σ v hMs hMX1 (xs (i + 1)) (xs (i + 2))) (cwV 2 hts gL_law_X10_falls rfl rfl rfl (by decide +kernel) ⟨Nat.le_of_ble_eq_true rfl, Nat.le_of_ble_eq_true rfl⟩) (wpreV hK hW (C := RX10) (ci := 10) (hMs 60 (by decide) (by decide)) rfl) rfl rfl hl.1 rfl (lv_room (Nat.le_of_ble_eq_true rfl)) dL_law_1113 ⟨(by show cells + 2 + 0 ≤ 601024; omega), (by show slots + 12 + 0 ≤ 7293034; omega)⟩) hA hW (fun x1113' M1113' H locs p1113' hW => ?_)
  try dsimp only at p1113'
  have L9 := law_two (bl := x1113'.toInt64) p1095' p1113' (fun ⟨x, h1, h2⟩ h3 => by rw [h2, h1, h3])
  refine lv_istore (lv' := [(6, .int x1113'), (5, .int x1095'), (4, .int xi), (3, .ref (ad 90)), (2, .ref (ad 60)), (1, .ref (ad 0)), (0, .ref b)]) hx hb dL_law_1116 hl (by decide) rfl (fun ls hl => ?_)
  refine lv_aload_n hx hb dL_law_1118 rfl (lv_at hl 4 rfl) ?_
  refine wc_ri (va_runV (As := []) (rest := []) ⟨hx, hb, hml, hown, hts⟩ (c_X10_thrown l D cA sh ad M1113' _ hMs) (cwV 0 hts gL_law_X10_thrown rfl rfl rfl (by decide +kernel) ⟨Nat.le_of_ble_eq_true rfl, Nat.le_of_ble_eq_true rfl⟩) (wpreV hK hW (C := RX10) (ci := 10) (hMs 60 (by decide) (by decide)) rfl) rfl rfl hl.1 rfl (lv_room (Nat.le_of_ble_eq_true rfl)) dL_law_1119 ⟨(by show cells + 2 + 0 ≤ 601024; omega), (by show slots + 12 + 0 ≤ 7293034; omega)⟩) hW (fun x1119' H locs p1119' hW => ?_)
  try dsimp only at p1119'
  obtain ⟨σ9, v9, hn9, hX9, hM9⟩ := L9.2.2
  have hsh9 : sh = shL (aN σ9) := by rw [hn9]; exact hsh
  refine lv_iload hx hb dL_law_1122 (lv_at hl 1 rfl) ?_
  refine lv_icmp_eq (tgt := 1129) hx hb dL_law_1124 (by decide) (fun c1124' => ?_) (fun c1124' => ?_)
  · refine lv_iload hx hb dL_law_1129 (lv_at hl 1 rfl) ?_
    refine lv_if_ne (tgt := 1146) hx hb dL_law_1131 (by decide) (fun c1131' => ?_) (fun c1131' => ?_)
    · refine lv_goto (tgt := 1840) hx hb dL_law_1146 (by decide) ?_
      refine W.widen (k := cells + 2) (n := slots + 12) (by omega) (by omega) ?_
      exact kk σ9 v9 sh ad M1113' _ _ _ ⟨hsh9, hX9, hM9, hA, hW⟩ (lv_sub hl [2, 3, 4, 5, 6] rfl)
    · refine lv_aload_n hx hb dL_law_1134 rfl (lv_at hl 3 rfl) ?_
      refine lv_iconst (v := 0) hx hb dL_law_1135 (by decide) ?_
      refine walL (j := 0) hx hb hK hW hO (nlit 0) (by omega) (by decide) dL_law_1136 (fun x1136' e1136' => ?_)
      refine lv_iload hx hb dL_law_1137 (lv_at hl 0 rfl) ?_
      refine lv_i2l hx hb dL_law_1139 rfl ?_
      refine lv_topl (fun x1139' e1139' => ?_)
      refine W.lcmp hx hb dL_law_1140 ?_
      refine lv_topi (fun x1140' e1140' => ?_)
      refine lv_if_eq (tgt := 1146) hx hb dL_law_1141 (by decide) (fun c1141' => ?_) (fun c1141' => ?_)
      · refine lv_goto (tgt := 1840) hx hb dL_law_1146 (by decide) ?_
        refine W.widen (k := cells + 2) (n := slots + 12) (by omega) (by omega) ?_
        exact kk σ9 v9 sh ad M1113' _ _ _ ⟨hsh9, hX9, hM9, hA, hW⟩ (lv_sub hl [2, 3, 4, 5, 6] rfl)
      · exact ((c1141' (by rw [e1140', e1136', e1139', L9.2.1 c1131']; exact lg_self _))).elim
  · exact ((c1124' (p1119'.trans L9.1))).elim
set_option maxHeartbeats 4000000 in
set_option maxRecDepth 100000 in
theorem law_fallsBySteps {p : Program} {l : Launch} {e : Env} {s : State} {m : MethodId} {below : List Frame} {meth : Method} {cd0 : Code} {b L : Nat} {xs : Nat → Int32} {D : va_G} {cA : Nat → ClassId} (C0 : LC p l s m cd0 b L xs D cA) (σ : AS) (v : VT) (sh : Nat → Option Sh) (ad : Nat → Nat) (M : MS) (H : Heap) (locs : List Loc) (hI : LI D cA s σ v sh ad M H locs) (i : Nat) (hi5 : i + 5 ≤ L) (xi : Int32) (ei : xi = nI i) (ls : Array Slot) (hl : lv_has ls 8 [(4, .int xi), (3, .ref (ad 90)), (2, .ref (ad 60)), (1, .ref (ad 0)), (0, .ref b)]) (cells slots : Nat) (hc9 : cells + 2 ≤ 601024 ∧ slots + 12 ≤ 7293034)
  (kk : ∀ (σ' : AS) (v' : VT) (sh' : Nat → Option Sh) (ad' : Nat → Nat) (M' : MS) (H' : Heap) (locs' : List Loc) (ls' : Array Slot), LI D cA s σ' v' sh' ad' M' H' locs' → lv_has ls' 8 [(4, .int xi), (3, .ref (ad' 90)), (2, .ref (ad' 60)), (1, .ref (ad' 0)), (0, .ref b)] → W p l e room_1 s m #[Value.ref b] below meth cd0 H' locs' (cells + 2) (slots + 12) (lw_Z below #[Value.ref b] s) (F0 m 1840 ls' [])) : W p l e room_1 s m #[Value.ref b] below meth cd0 H locs cells slots (lw_Z below #[Value.ref b] s) (F0 m 1149 ls []) := by
  obtain ⟨hx, hb, hml, hown, hts, hK, hl9, hS9, hbl, hL9, hE, hZ, hE2⟩ := C0
  obtain ⟨hsh, hXX, hMX, hA, hW⟩ := hI
  have hX : XSh (aN σ) sh := by rw [hsh]; exact shL_X _
  have hMs : MSh sh := by rw [hsh]; exact shL_M _
  have hO : sh 90 = some (.inr (2, 1)) := by rw [hsh]; exact shL_O _
  refine lv_aload_n hx hb dL_law_1149 rfl (lv_at hl 3 rfl) ?_
  refine lv_aload_n hx hb dL_law_1150 rfl (lv_at hl 4 rfl) ?_
  refine lv_iload hx hb dL_law_1151 (lv_at hl 0 rfl) ?_
  refine lv_iconst (v := 1) hx hb dL_law_1153 (by decide) ?_
  refine lv_iadd hx hb dL_law_1154 ?_
  refine lv_topi (fun x1154' e1154' => ?_)
  have n1154' : x1154' = nI (i + 1) := (by rw [e1154', ei, (nlit 1), nI_add])
  refine lsld (j := (i + 1)) hx hb hS9 hbl hW.2 n1154' (by omega) hL9 dL_law_1155 ?_
  refine lv_aload_n hx hb dL_law_1156 rfl (lv_at hl 4 rfl) ?_
  refine lv_iload hx hb dL_law_1157 (lv_at hl 0 rfl) ?_
  refine lv_iconst (v := 2) hx hb dL_law_1159 (by decide) ?_
  refine lv_iadd hx hb dL_law_1160 ?_
  refine lv_topi (fun x1160' e1160' => ?_)
  have n1160' : x1160' = nI (i + 2) := (by rw [e1160', ei, (nlit 2), nI_add])
  refine lsld (j := (i + 2)) hx hb hS9 hbl hW.2 n1160' (by omega) hL9 dL_law_1161 ?_
  refine lv_aload_n hx hb dL_law_1162 rfl (lv_at hl 1 rfl) ?_
  refine wc_wiN (vx_runSW (As := [.ref (ad 0), .int (xs (i + 1)), .int (xs (i + 2)), .ref (ad 90)]) (rest := []) ⟨hx, hb, hml, hown, hts⟩ (c_L_fallsBySteps l hl9 D cA sh ad M _ σ v hX hXX hO (xs (i + 1)) (xs (i + 2))) (vx_cwSW 4 hts gL_law_L_fallsBySteps rfl rfl rfl (by decide +kernel) ⟨Nat.le_of_ble_eq_true rfl, Nat.le_of_ble_eq_true rfl⟩) (lpreS hK hA hW hE hZ hE2) rfl rfl hl.1 rfl (lv_room (Nat.le_of_ble_eq_true rfl)) dL_law_1163 ⟨(by show cells + 2 ≤ 601024; omega), (by show slots + 12 ≤ 7293034; omega)⟩) hA hW (fun x1163' M1163' H locs p1163' hW => ?_)
  try dsimp only at p1163'
  have hMX1 := hMX.oA p1163'.1
  refine lv_istore (lv' := [(5, .int x1163'), (4, .int xi), (3, .ref (ad 90)), (2, .ref (ad 60)), (1, .ref (ad 0)), (0, .ref b)]) hx hb dL_law_1166 hl (by decide) rfl (fun ls hl => ?_)
  refine lv_aload_n hx hb dL_law_1168 rfl (lv_at hl 3 rfl) ?_
  refine lv_aload_n hx hb dL_law_1169 rfl (lv_at hl 5 rfl) ?_
  refine lv_iload hx hb dL_law_1170 (lv_at hl 1 rfl) ?_
  refine lv_iconst (v := 1) hx hb dL_law_1172 (by decide) ?_
  refine lv_iadd hx hb dL_law_1173 ?_
  refine lv_topi (fun x1173' e1173' => ?_)
  have n1173' : x1173' = nI (i + 1) := (by rw [e1173', ei, (nlit 1), nI_add])
  refine lsld (j := (i + 1)) hx hb hS9 hbl hW.2 n1173' (by omega) hL9 dL_law_1174 ?_
  refine lv_aload_n hx hb dL_law_1175 rfl (lv_at hl 5 rfl) ?_
  refine lv_iload hx hb dL_law_1176 (lv_at hl 1 rfl) ?_
  refine lv_iconst (v := 2) hx hb dL_law_1178 (by decide) ?_
  refine lv_iadd hx hb dL_law_1179 ?_
  refine lv_topi (fun x1179' e1179' => ?_)
  have n1179' : x1179' = nI (i + 2) := (by rw [e1179', ei, (nlit 2), nI_add])
  refine lsld (j := (i + 2)) hx hb hS9 hbl hW.2 n1179' (by omega) hL9 dL_law_1180 ?_
  refine wc_wi (va_runV (As := [.int (xs (i + 1)), .int (xs (i + 2))]) (rest := []) ⟨hx, hb, hml, hown, hts⟩ (c_X10_fallsBySteps l D cA sh ad M1163' _ σ v hMs hMX1 (xs (i + 1)) (xs (i + 2))) (cwV 2 hts gL_law_X10_fallsBySteps rfl rfl rfl (by decide +kernel) ⟨Nat.le_of_ble_eq_true rfl, Nat.le_of_ble_eq_true rfl⟩) (wpreV hK hW (C := RX10) (ci := 10) (hMs 60 (by decide) (by decide)) rfl) rfl rfl hl.1 rfl (lv_room (Nat.le_of_ble_eq_true rfl)) dL_law_1181 ⟨(by show cells + 2 + 0 ≤ 601024; omega), (by show slots + 12 + 0 ≤ 7293034; omega)⟩) hA hW (fun x1181' M1181' H locs p1181' hW => ?_)
  try dsimp only at p1181'
  have L9 := law_two (bl := x1181'.toInt64) p1163' p1181' (fun ⟨x, h1, h2⟩ h3 => by rw [h2, h1, h3])
  refine lv_istore (lv' := [(6, .int x1181'), (5, .int x1163'), (4, .int xi), (3, .ref (ad 90)), (2, .ref (ad 60)), (1, .ref (ad 0)), (0, .ref b)]) hx hb dL_law_1184 hl (by decide) rfl (fun ls hl => ?_)
  refine lv_aload_n hx hb dL_law_1186 rfl (lv_at hl 4 rfl) ?_
  refine wc_ri (va_runV (As := []) (rest := []) ⟨hx, hb, hml, hown, hts⟩ (c_X10_thrown l D cA sh ad M1181' _ hMs) (cwV 0 hts gL_law_X10_thrown rfl rfl rfl (by decide +kernel) ⟨Nat.le_of_ble_eq_true rfl, Nat.le_of_ble_eq_true rfl⟩) (wpreV hK hW (C := RX10) (ci := 10) (hMs 60 (by decide) (by decide)) rfl) rfl rfl hl.1 rfl (lv_room (Nat.le_of_ble_eq_true rfl)) dL_law_1187 ⟨(by show cells + 2 + 0 ≤ 601024; omega), (by show slots + 12 + 0 ≤ 7293034; omega)⟩) hW (fun x1187' H locs p1187' hW => ?_)
  try dsimp only at p1187'
  obtain ⟨σ9, v9, hn9, hX9, hM9⟩ := L9.2.2
  have hsh9 : sh = shL (aN σ9) := by rw [hn9]; exact hsh
  refine lv_iload hx hb dL_law_1190 (lv_at hl 1 rfl) ?_
  refine lv_icmp_eq (tgt := 1197) hx hb dL_law_1192 (by decide) (fun c1192' => ?_) (fun c1192' => ?_)
  · refine lv_iload hx hb dL_law_1197 (lv_at hl 1 rfl) ?_
    refine lv_if_ne (tgt := 1214) hx hb dL_law_1199 (by decide) (fun c1199' => ?_) (fun c1199' => ?_)
    · refine lv_goto (tgt := 1840) hx hb dL_law_1214 (by decide) ?_
      refine W.widen (k := cells + 2) (n := slots + 12) (by omega) (by omega) ?_
      exact kk σ9 v9 sh ad M1181' _ _ _ ⟨hsh9, hX9, hM9, hA, hW⟩ (lv_sub hl [2, 3, 4, 5, 6] rfl)
    · refine lv_aload_n hx hb dL_law_1202 rfl (lv_at hl 3 rfl) ?_
      refine lv_iconst (v := 0) hx hb dL_law_1203 (by decide) ?_
      refine walL (j := 0) hx hb hK hW hO (nlit 0) (by omega) (by decide) dL_law_1204 (fun x1204' e1204' => ?_)
      refine lv_iload hx hb dL_law_1205 (lv_at hl 0 rfl) ?_
      refine lv_i2l hx hb dL_law_1207 rfl ?_
      refine lv_topl (fun x1207' e1207' => ?_)
      refine W.lcmp hx hb dL_law_1208 ?_
      refine lv_topi (fun x1208' e1208' => ?_)
      refine lv_if_eq (tgt := 1214) hx hb dL_law_1209 (by decide) (fun c1209' => ?_) (fun c1209' => ?_)
      · refine lv_goto (tgt := 1840) hx hb dL_law_1214 (by decide) ?_
        refine W.widen (k := cells + 2) (n := slots + 12) (by omega) (by omega) ?_
        exact kk σ9 v9 sh ad M1181' _ _ _ ⟨hsh9, hX9, hM9, hA, hW⟩ (lv_sub hl [2, 3, 4, 5, 6] rfl)
      · exact ((c1209' (by rw [e1208', e1204', e1207', L9.2.1 c1199']; exact lg_self _))).elim
  · exact ((c1192' (p1187'.trans L9.1))).elim

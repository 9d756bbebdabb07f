set_option maxRecDepth 20000 in
set_option maxHeartbeats 4000000 in
theorem law_c15 {p : Program} {l : Launch} {e : Env} {s : State} {m : MethodId} {below : List Frame} {meth : Method} {c : Code} {b L : Nat} {xs : Nat → Int32} {E : EV} (K0 : LC p s m meth c b L xs E) {am : Nat → Nat} (i k : Nat) (hi : i + 6 ≤ L) (hk : k ≤ 512) (ih : ∀ (ad : Nat → Nat) (zt zs zg zh zu zl zc zw zx : OS) (H : Heap) (locs : List Loc) (ls : Array Slot), Rel zt zs zg zh zu zl zc zw zx → Wd E (LA s) s H locs (wX E ad zt zs zg zh zu zl zc zw ++ wM E am zx) → lv_has ls 4 [(0, .ref b), (1, .ref (ad 0)), (2, .ref (am 0)), (3, .int (nI (i + 6)))] → W p l e room_1 s m #[Value.ref b] below meth c H locs (90 + 2 * (k + 1)) (150000 + 13 * (k + 1)) (lw_Z below #[Value.ref b] s) (F0 m 18 ls [])) (ad : Nat → Nat) (zt zs zg zh zu zl zc zw zx : OS) (H : Heap) (locs : List Loc) (ls : Array Slot) (hR : Rel zt zs zg zh zu zl zc zw zx) (hw : Wd E (LA s) s H locs (wX E ad zt zs zg zh zu zl zc zw ++ wM E am zx)) (hl : lv_has ls 4 [(0, .ref b), (1, .ref (ad 0)), (2, .ref (am 0)), (3, .int (nI i))]) : W p l e room_1 s m #[Value.ref b] below meth c H locs (90 + 2 * k) (150000 + 13 * k) (lw_Z below #[Value.ref b] s) (F0 m 673 ls []) := by
  obtain ⟨C0, hA, hX, hbl, hL⟩ := K0
  have hx := C0.1
  have hb := C0.2.1
  have hbA : ¬ LA s b := fun z => Nat.not_le.mpr hbl z
  refine lv_aload_n hx hb dL_law_673 rfl (lv_at hl 1 rfl) ?_
  refine lv_aload_n hx hb dL_law_674 rfl (lv_at hl 0 rfl) ?_
  refine lv_iload_n hx hb dL_law_675 rfl (lv_at hl 3 rfl) ?_
  refine lv_iconst (v := 1) hx hb dL_law_676 (by decide) ?_
  refine lv_iadd hx hb dL_law_677 ?_
  refine va_sld hx hb hX hbl hbA hw.2.2 (sc_in (j := 1) (by decide) (by omega) hL) dL_law_678 ?_
  refine lv_i2l hx hb dL_law_679 rfl ?_
  refine lv_bipush (v := 32) hx hb dL_law_680 (by decide) ?_
  refine lv_lshl hx hb dL_law_682 rfl ?_
  refine lv_aload_n hx hb dL_law_683 rfl (lv_at hl 0 rfl) ?_
  refine lv_iload_n hx hb dL_law_684 rfl (lv_at hl 3 rfl) ?_
  refine lv_iconst (v := 2) hx hb dL_law_685 (by decide) ?_
  refine lv_iadd hx hb dL_law_686 ?_
  refine va_sld hx hb hX hbl hbA hw.2.2 (sc_in (j := 2) (by decide) (by omega) hL) dL_law_687 ?_
  refine lv_i2l hx hb dL_law_688 rfl ?_
  refine lv_ldc2 (v := 4294967295) hx hb C0.2.2.2.2.1 (C0.2.2.2.2.2.1 (.constantLong RL 13 4294967295) (by decide +kernel)) dL_law_689 ?_
  refine lv_land hx hb dL_law_692 ?_
  refine lv_lor hx hb dL_law_693 ?_
  refine lv_aload_n hx hb dL_law_694 rfl (lv_at hl 0 rfl) ?_
  refine lv_iload_n hx hb dL_law_695 rfl (lv_at hl 3 rfl) ?_
  refine lv_iconst (v := 3) hx hb dL_law_696 (by decide) ?_
  refine lv_iadd hx hb dL_law_697 ?_
  refine va_sld hx hb hX hbl hbA hw.2.2 (sc_in (j := 3) (by decide) (by omega) hL) dL_law_698 ?_
  refine lv_i2l hx hb dL_law_699 rfl ?_
  refine lv_bipush (v := 32) hx hb dL_law_700 (by decide) ?_
  refine lv_lshl hx hb dL_law_702 rfl ?_
  refine lv_aload_n hx hb dL_law_703 rfl (lv_at hl 0 rfl) ?_
  refine lv_iload_n hx hb dL_law_704 rfl (lv_at hl 3 rfl) ?_
  refine lv_iconst (v := 4) hx hb dL_law_705 (by decide) ?_
  refine lv_iadd hx hb dL_law_706 ?_
  refine va_sld hx hb hX hbl hbA hw.2.2 (sc_in (j := 4) (by decide) (by omega) hL) dL_law_707 ?_
  refine lv_i2l hx hb dL_law_708 rfl ?_
  refine lv_ldc2 (v := 4294967295) hx hb C0.2.2.2.2.1 (C0.2.2.2.2.2.1 (.constantLong RL 13 4294967295) (by decide +kernel)) dL_law_709 ?_
  refine lv_land hx hb dL_law_712 ?_
  refine lv_lor hx hb dL_law_713 ?_
  refine lv_aload_n hx hb dL_law_714 rfl (lv_at hl 0 rfl) ?_
  refine lv_iload_n hx hb dL_law_715 rfl (lv_at hl 3 rfl) ?_
  refine lv_iconst (v := 5) hx hb dL_law_716 (by decide) ?_
  refine lv_iadd hx hb dL_law_717 ?_
  refine va_sld hx hb hX hbl hbA hw.2.2 (sc_in (j := 5) (by decide) (by omega) hL) dL_law_718 ?_
  obtain ⟨F1, F2, r, h1, h2, hR⟩ := R_turned hR ((((xs (nI i + 1).toNatClampNeg).toInt64) <<< ((32 : Int32).toInt64 &&& 63)) ||| (((xs (nI i + 2).toNatClampNeg).toInt64) &&& 4294967295)) ((((xs (nI i + 3).toNatClampNeg).toInt64) <<< ((32 : Int32).toInt64 &&& 63)) ||| (((xs (nI i + 4).toNatClampNeg).toInt64) &&& 4294967295)) (xs (nI i + 5).toNatClampNeg)
  refine r_backP (va_runV (As := [.long ((((xs (nI i + 1).toNatClampNeg).toInt64) <<< ((32 : Int32).toInt64 &&& 63)) ||| (((xs (nI i + 2).toNatClampNeg).toInt64) &&& 4294967295)), .long ((((xs (nI i + 3).toNatClampNeg).toInt64) <<< ((32 : Int32).toInt64 &&& 63)) ||| (((xs (nI i + 4).toNatClampNeg).toInt64) &&& 4294967295)), .int (xs (nI i + 5).toNatClampNeg)]) (rest := []) ⟨hx, hb, C0.2.2.2.1, C0.2.2.2.2.1, C0.2.2.2.2.2.1⟩ (tX9_turned l E ad F1 zt zs zg zh zu zl zc zw ((((xs (nI i + 1).toNatClampNeg).toInt64) <<< ((32 : Int32).toInt64 &&& 63)) ||| (((xs (nI i + 2).toNatClampNeg).toInt64) &&& 4294967295)) ((((xs (nI i + 3).toNatClampNeg).toInt64) <<< ((32 : Int32).toInt64 &&& 63)) ||| (((xs (nI i + 4).toNatClampNeg).toInt64) &&& 4294967295)) (xs (nI i + 5).toNatClampNeg) h1 H.size) (cwV 3 C0.2.2.2.2.2.1 gL_X9_turned rfl rfl rfl (by decide +kernel) ⟨Nat.le_of_ble_eq_true rfl, Nat.le_of_ble_eq_true rfl⟩) ⟨PG_blind, va_recv hA.2.2.1.1 hw.1 (ci := 9) (q0 := 0) rfl rfl, pg_at hA hw [0, 1, 2, 3, 4, 5, 6, 7, 8, 9, 10, 11, 12, 13, 14, 15, 16, 17, 18, 19, 20, 21, 22, 23, 24, 25, 26, 27, 28, 29, 30, 31, 32, 33, 34, 35, 36, 37, 38, 39, 40, 41, 42, 43, 44, 45, 46, 47, 48, 49] rfl (lcX E ad am zt zs zg zh zu zl zc zw zx)⟩ rfl rfl hl.1 rfl (lv_room (Nat.le_of_ble_eq_true rfl)) dL_law_719 ⟨by show _ ≤ 600000; omega, by show _ ≤ 7302250; omega⟩) hA hw [0, 1, 2, 3, 4, 5, 6, 7, 8, 9, 10, 11, 12, 13, 14, 15, 16, 17, 18, 19, 20, 21, 22, 23, 24, 25, 26, 27, 28, 29, 30, 31, 32, 33, 34, 35, 36, 37, 38, 39, 40, 41, 42, 43, 44, 45, 46, 47, 48, 49] [50, 51, 52, 53, 54, 55, 56, 57, 58, 59, 60, 61, 62, 63, 64, 65, 66, 67, 68, 69, 70, 71, 72, 73, 74, 75, 76, 77, 78, 79, 80, 81, 82, 83, 84, 85, 86] (lcX E ad am zt zs zg zh zu zl zc zw zx) (lcM E ad am zt zs zg zh zu zl zc zw zx) rfl (by decide) (fun H locs hw => ?_)
  have hw := lj1 hw
  refine W.widen (k := 90 + 2 * (k + 1)) (n := 150000 + 13 * (k + 1)) (by omega) (by omega) ?_
  refine lv_aload_n hx hb dL_law_722 rfl (lv_at hl 2 rfl) ?_
  refine lv_aload_n hx hb dL_law_723 rfl (lv_at hl 0 rfl) ?_
  refine lv_iload_n hx hb dL_law_724 rfl (lv_at hl 3 rfl) ?_
  refine lv_iconst (v := 1) hx hb dL_law_725 (by decide) ?_
  refine lv_iadd hx hb dL_law_726 ?_
  refine va_sld hx hb hX hbl hbA hw.2.2 (sc_in (j := 1) (by decide) (by omega) hL) dL_law_727 ?_
  refine lv_i2l hx hb dL_law_728 rfl ?_
  refine lv_bipush (v := 32) hx hb dL_law_729 (by decide) ?_
  refine lv_lshl hx hb dL_law_731 rfl ?_
  refine lv_aload_n hx hb dL_law_732 rfl (lv_at hl 0 rfl) ?_
  refine lv_iload_n hx hb dL_law_733 rfl (lv_at hl 3 rfl) ?_
  refine lv_iconst (v := 2) hx hb dL_law_734 (by decide) ?_
  refine lv_iadd hx hb dL_law_735 ?_
  refine va_sld hx hb hX hbl hbA hw.2.2 (sc_in (j := 2) (by decide) (by omega) hL) dL_law_736 ?_
  refine lv_i2l hx hb dL_law_737 rfl ?_
  refine lv_ldc2 (v := 4294967295) hx hb C0.2.2.2.2.1 (C0.2.2.2.2.2.1 (.constantLong RL 13 4294967295) (by decide +kernel)) dL_law_738 ?_
  refine lv_land hx hb dL_law_741 ?_
  refine lv_lor hx hb dL_law_742 ?_
  refine lv_aload_n hx hb dL_law_743 rfl (lv_at hl 0 rfl) ?_
  refine lv_iload_n hx hb dL_law_744 rfl (lv_at hl 3 rfl) ?_
  refine lv_iconst (v := 3) hx hb dL_law_745 (by decide) ?_
  refine lv_iadd hx hb dL_law_746 ?_
  refine va_sld hx hb hX hbl hbA hw.2.2 (sc_in (j := 3) (by decide) (by omega) hL) dL_law_747 ?_
  refine lv_i2l hx hb dL_law_748 rfl ?_
  refine lv_bipush (v := 32) hx hb dL_law_749 (by decide) ?_
  refine lv_lshl hx hb dL_law_751 rfl ?_
  refine lv_aload_n hx hb dL_law_752 rfl (lv_at hl 0 rfl) ?_
  refine lv_iload_n hx hb dL_law_753 rfl (lv_at hl 3 rfl) ?_
  refine lv_iconst (v := 4) hx hb dL_law_754 (by decide) ?_
  refine lv_iadd hx hb dL_law_755 ?_
  refine va_sld hx hb hX hbl hbA hw.2.2 (sc_in (j := 4) (by decide) (by omega) hL) dL_law_756 ?_
  refine lv_i2l hx hb dL_law_757 rfl ?_
  refine lv_ldc2 (v := 4294967295) hx hb C0.2.2.2.2.1 (C0.2.2.2.2.2.1 (.constantLong RL 13 4294967295) (by decide +kernel)) dL_law_758 ?_
  refine lv_land hx hb dL_law_761 ?_
  refine lv_lor hx hb dL_law_762 ?_
  refine lv_aload_n hx hb dL_law_763 rfl (lv_at hl 0 rfl) ?_
  refine lv_iload_n hx hb dL_law_764 rfl (lv_at hl 3 rfl) ?_
  refine lv_iconst (v := 5) hx hb dL_law_765 (by decide) ?_
  refine lv_iadd hx hb dL_law_766 ?_
  refine va_sld hx hb hX hbl hbA hw.2.2 (sc_in (j := 5) (by decide) (by omega) hL) dL_law_767 ?_
  refine r_backP (va_runV (As := [.long ((((xs (nI i + 1).toNatClampNeg).toInt64) <<< ((32 : Int32).toInt64 &&& 63)) ||| (((xs (nI i + 2).toNatClampNeg).toInt64) &&& 4294967295)), .long ((((xs (nI i + 3).toNatClampNeg).toInt64) <<< ((32 : Int32).toInt64 &&& 63)) ||| (((xs (nI i + 4).toNatClampNeg).toInt64) &&& 4294967295)), .int (xs (nI i + 5).toNatClampNeg)]) (rest := [.int r]) ⟨hx, hb, C0.2.2.2.1, C0.2.2.2.2.1, C0.2.2.2.2.2.1⟩ (tX10_turned l E am F2 zx ((((xs (nI i + 1).toNatClampNeg).toInt64) <<< ((32 : Int32).toInt64 &&& 63)) ||| (((xs (nI i + 2).toNatClampNeg).toInt64) &&& 4294967295)) ((((xs (nI i + 3).toNatClampNeg).toInt64) <<< ((32 : Int32).toInt64 &&& 63)) ||| (((xs (nI i + 4).toNatClampNeg).toInt64) &&& 4294967295)) (xs (nI i + 5).toNatClampNeg) h2 H.size) (cwV 3 C0.2.2.2.2.2.1 gL_X10_turned rfl rfl rfl (by decide +kernel) ⟨Nat.le_of_ble_eq_true rfl, Nat.le_of_ble_eq_true rfl⟩) ⟨PG_blind, va_recv hA.2.2.1.1 hw.1 (ci := 10) (q0 := 50) rfl rfl, pg_at hA hw [50, 51, 52, 53, 54, 55, 56, 57, 58, 59, 60, 61, 62, 63, 64, 65, 66, 67, 68, 69, 70, 71, 72, 73, 74, 75, 76, 77, 78, 79, 80, 81, 82, 83, 84, 85, 86] rfl (lcM E ad am zt zs zg zh zu zl zc zw zx)⟩ rfl rfl hl.1 rfl (lv_room (Nat.le_of_ble_eq_true rfl)) dL_law_768 ⟨by show _ ≤ 600000; omega, by show _ ≤ 7302250; omega⟩) hA hw [50, 51, 52, 53, 54, 55, 56, 57, 58, 59, 60, 61, 62, 63, 64, 65, 66, 67, 68, 69, 70, 71, 72, 73, 74, 75, 76, 77, 78, 79, 80, 81, 82, 83, 84, 85, 86] [0, 1, 2, 3, 4, 5, 6, 7, 8, 9, 10, 11, 12, 13, 14, 15, 16, 17, 18, 19, 20, 21, 22, 23, 24, 25, 26, 27, 28, 29, 30, 31, 32, 33, 34, 35, 36, 37, 38, 39, 40, 41, 42, 43, 44, 45, 46, 47, 48, 49] (lcM E ad am zt zs zg zh zu zl zc zw zx) (lcX E ad am zt zs zg zh zu zl zc zw zx) rfl (by decide) (fun H locs hw => ?_)
  refine lv_icmp_eq (tgt := 888) hx hb dL_law_771 (by decide) (fun c1 => ?_) (fun c1 => absurd rfl c1)
  refine lv_iinc (v := nI (i + 6)) (lv' := [(3, .int (nI (i + 6))), (0, .ref b), (1, .ref (ad 0)), (2, .ref (am 0))]) hx hb dL_law_888 hl (k := 3) rfl (nI_add i 6) (by decide) rfl (fun ls hl => ?_)
  refine lv_goto (tgt := 18) hx hb dL_law_891 (by decide) ?_
  exact ih _ zt zs zg zh zu zl zc zw zx _ _ _ hR hw (lv_sub hl [1, 2, 3, 0] rfl)
set_option maxRecDepth 20000 in
set_option maxHeartbeats 4000000 in
theorem law_c16 {p : Program} {l : Launch} {e : Env} {s : State} {m : MethodId} {below : List Frame} {meth : Method} {c : Code} {b L : Nat} {xs : Nat → Int32} {E : EV} (K0 : LC p s m meth c b L xs E) {am : Nat → Nat} (i k : Nat) (hi : i + 6 ≤ L) (hk : k ≤ 512) (ih : ∀ (ad : Nat → Nat) (zt zs zg zh zu zl zc zw zx : OS) (H : Heap) (locs : List Loc) (ls : Array Slot), Rel zt zs zg zh zu zl zc zw zx → Wd E (LA s) s H locs (wX E ad zt zs zg zh zu zl zc zw ++ wM E am zx) → lv_has ls 4 [(0, .ref b), (1, .ref (ad 0)), (2, .ref (am 0)), (3, .int (nI (i + 6)))] → W p l e room_1 s m #[Value.ref b] below meth c H locs (90 + 2 * (k + 1)) (150000 + 13 * (k + 1)) (lw_Z below #[Value.ref b] s) (F0 m 18 ls [])) (ad : Nat → Nat) (zt zs zg zh zu zl zc zw zx : OS) (H : Heap) (locs : List Loc) (ls : Array Slot) (hR : Rel zt zs zg zh zu zl zc zw zx) (hw : Wd E (LA s) s H locs (wX E ad zt zs zg zh zu zl zc zw ++ wM E am zx)) (hl : lv_has ls 4 [(0, .ref b), (1, .ref (ad 0)), (2, .ref (am 0)), (3, .int (nI i))]) : W p l e room_1 s m #[Value.ref b] below meth c H locs (90 + 2 * k) (150000 + 13 * k) (lw_Z below #[Value.ref b] s) (F0 m 776 ls []) := by
  obtain ⟨C0, hA, hX, hbl, hL⟩ := K0
  have hx := C0.1
  have hb := C0.2.1
  have hbA : ¬ LA s b := fun z => Nat.not_le.mpr hbl z
  refine lv_aload_n hx hb dL_law_776 rfl (lv_at hl 1 rfl) ?_
  refine lv_aload_n hx hb dL_law_777 rfl (lv_at hl 0 rfl) ?_
  refine lv_iload_n hx hb dL_law_778 rfl (lv_at hl 3 rfl) ?_
  refine lv_iconst (v := 1) hx hb dL_law_779 (by decide) ?_
  refine lv_iadd hx hb dL_law_780 ?_
  refine va_sld hx hb hX hbl hbA hw.2.2 (sc_in (j := 1) (by decide) (by omega) hL) dL_law_781 ?_
  refine lv_aload_n hx hb dL_law_782 rfl (lv_at hl 0 rfl) ?_
  refine lv_iload_n hx hb dL_law_783 rfl (lv_at hl 3 rfl) ?_
  refine lv_iconst (v := 2) hx hb dL_law_784 (by decide) ?_
  refine lv_iadd hx hb dL_law_785 ?_
  refine va_sld hx hb hX hbl hbA hw.2.2 (sc_in (j := 2) (by decide) (by omega) hL) dL_law_786 ?_
  obtain ⟨F1, F2, r, zw1, zx1, h1, h2, hR⟩ := R_place hR (xs (nI i + 1).toNatClampNeg) (xs (nI i + 2).toNatClampNeg)
  refine r_backP (va_runV (As := [.int (xs (nI i + 1).toNatClampNeg), .int (xs (nI i + 2).toNatClampNeg)]) (rest := []) ⟨hx, hb, C0.2.2.2.1, C0.2.2.2.2.1, C0.2.2.2.2.2.1⟩ (tX9_place l E ad F1 zt zs zg zh zu zl zc zw (xs (nI i + 1).toNatClampNeg) (xs (nI i + 2).toNatClampNeg) h1 H.size) (cwV 2 C0.2.2.2.2.2.1 gL_X9_place rfl rfl rfl (by decide +kernel) ⟨Nat.le_of_ble_eq_true rfl, Nat.le_of_ble_eq_true rfl⟩) ⟨PG_blind, va_recv hA.2.2.1.1 hw.1 (ci := 9) (q0 := 0) rfl rfl, pg_at hA hw [0, 1, 2, 3, 4, 5, 6, 7, 8, 9, 10, 11, 12, 13, 14, 15, 16, 17, 18, 19, 20, 21, 22, 23, 24, 25, 26, 27, 28, 29, 30, 31, 32, 33, 34, 35, 36, 37, 38, 39, 40, 41, 42, 43, 44, 45, 46, 47, 48, 49] rfl (lcX E ad am zt zs zg zh zu zl zc zw zx)⟩ rfl rfl hl.1 rfl (lv_room (Nat.le_of_ble_eq_true rfl)) dL_law_787 ⟨by show _ ≤ 600000; omega, by show _ ≤ 7302250; omega⟩) hA hw [0, 1, 2, 3, 4, 5, 6, 7, 8, 9, 10, 11, 12, 13, 14, 15, 16, 17, 18, 19, 20, 21, 22, 23, 24, 25, 26, 27, 28, 29, 30, 31, 32, 33, 34, 35, 36, 37, 38, 39, 40, 41, 42, 43, 44, 45, 46, 47, 48, 49] [50, 51, 52, 53, 54, 55, 56, 57, 58, 59, 60, 61, 62, 63, 64, 65, 66, 67, 68, 69, 70, 71, 72, 73, 74, 75, 76, 77, 78, 79, 80, 81, 82, 83, 84, 85, 86] (lcX E ad am zt zs zg zh zu zl zc zw zx) (lcM E ad am zt zs zg zh zu zl zc zw zx) rfl (by decide) (fun H locs hw => ?_)
  have hw := lj1 hw
  refine W.widen (k := 90 + 2 * (k + 1)) (n := 150000 + 13 * (k + 1)) (by omega) (by omega) ?_
  refine lv_aload_n hx hb dL_law_790 rfl (lv_at hl 2 rfl) ?_
  refine lv_aload_n hx hb dL_law_791 rfl (lv_at hl 0 rfl) ?_
  refine lv_iload_n hx hb dL_law_792 rfl (lv_at hl 3 rfl) ?_
  refine lv_iconst (v := 1) hx hb dL_law_793 (by decide) ?_
  refine lv_iadd hx hb dL_law_794 ?_
  refine va_sld hx hb hX hbl hbA hw.2.2 (sc_in (j := 1) (by decide) (by omega) hL) dL_law_795 ?_
  refine lv_aload_n hx hb dL_law_796 rfl (lv_at hl 0 rfl) ?_
  refine lv_iload_n hx hb dL_law_797 rfl (lv_at hl 3 rfl) ?_
  refine lv_iconst (v := 2) hx hb dL_law_798 (by decide) ?_
  refine lv_iadd hx hb dL_law_799 ?_
  refine va_sld hx hb hX hbl hbA hw.2.2 (sc_in (j := 2) (by decide) (by omega) hL) dL_law_800 ?_
  refine r_backP (va_runV (As := [.int (xs (nI i + 1).toNatClampNeg), .int (xs (nI i + 2).toNatClampNeg)]) (rest := [.int r]) ⟨hx, hb, C0.2.2.2.1, C0.2.2.2.2.1, C0.2.2.2.2.2.1⟩ (tX10_place l E am F2 zx (xs (nI i + 1).toNatClampNeg) (xs (nI i + 2).toNatClampNeg) h2 H.size) (cwV 2 C0.2.2.2.2.2.1 gL_X10_place rfl rfl rfl (by decide +kernel) ⟨Nat.le_of_ble_eq_true rfl, Nat.le_of_ble_eq_true rfl⟩) ⟨PG_blind, va_recv hA.2.2.1.1 hw.1 (ci := 10) (q0 := 50) rfl rfl, pg_at hA hw [50, 51, 52, 53, 54, 55, 56, 57, 58, 59, 60, 61, 62, 63, 64, 65, 66, 67, 68, 69, 70, 71, 72, 73, 74, 75, 76, 77, 78, 79, 80, 81, 82, 83, 84, 85, 86] rfl (lcM E ad am zt zs zg zh zu zl zc zw1 zx)⟩ rfl rfl hl.1 rfl (lv_room (Nat.le_of_ble_eq_true rfl)) dL_law_801 ⟨by show _ ≤ 600000; omega, by show _ ≤ 7302250; omega⟩) hA hw [50, 51, 52, 53, 54, 55, 56, 57, 58, 59, 60, 61, 62, 63, 64, 65, 66, 67, 68, 69, 70, 71, 72, 73, 74, 75, 76, 77, 78, 79, 80, 81, 82, 83, 84, 85, 86] [0, 1, 2, 3, 4, 5, 6, 7, 8, 9, 10, 11, 12, 13, 14, 15, 16, 17, 18, 19, 20, 21, 22, 23, 24, 25, 26, 27, 28, 29, 30, 31, 32, 33, 34, 35, 36, 37, 38, 39, 40, 41, 42, 43, 44, 45, 46, 47, 48, 49] (lcM E ad am zt zs zg zh zu zl zc zw1 zx) (lcX E ad am zt zs zg zh zu zl zc zw1 zx) rfl (by decide) (fun H locs hw => ?_)
  refine lv_icmp_eq (tgt := 888) hx hb dL_law_804 (by decide) (fun c1 => ?_) (fun c1 => absurd rfl c1)
  refine lv_iinc (v := nI (i + 6)) (lv' := [(3, .int (nI (i + 6))), (0, .ref b), (1, .ref (ad 0)), (2, .ref (am 0))]) hx hb dL_law_888 hl (k := 3) rfl (nI_add i 6) (by decide) rfl (fun ls hl => ?_)
  refine lv_goto (tgt := 18) hx hb dL_law_891 (by decide) ?_
  exact ih _ zt zs zg zh zu zl zc zw1 zx1 _ _ _ hR hw (lv_sub hl [1, 2, 3, 0] rfl)
set_option maxRecDepth 20000 in
set_option maxHeartbeats 4000000 in
theorem law_c17 {p : Program} {l : Launch} {e : Env} {s : State} {m : MethodId} {below : List Frame} {meth : Method} {c : Code} {b L : Nat} {xs : Nat → Int32} {E : EV} (K0 : LC p s m meth c b L xs E) {am : Nat → Nat} (i k : Nat) (hi : i + 6 ≤ L) (hk : k ≤ 512) (ih : ∀ (ad : Nat → Nat) (zt zs zg zh zu zl zc zw zx : OS) (H : Heap) (locs : List Loc) (ls : Array Slot), Rel zt zs zg zh zu zl zc zw zx → Wd E (LA s) s H locs (wX E ad zt zs zg zh zu zl zc zw ++ wM E am zx) → lv_has ls 4 [(0, .ref b), (1, .ref (ad 0)), (2, .ref (am 0)), (3, .int (nI (i + 6)))] → W p l e room_1 s m #[Value.ref b] below meth c H locs (90 + 2 * (k + 1)) (150000 + 13 * (k + 1)) (lw_Z below #[Value.ref b] s) (F0 m 18 ls [])) (ad : Nat → Nat) (zt zs zg zh zu zl zc zw zx : OS) (H : Heap) (locs : List Loc) (ls : Array Slot) (hR : Rel zt zs zg zh zu zl zc zw zx) (hw : Wd E (LA s) s H locs (wX E ad zt zs zg zh zu zl zc zw ++ wM E am zx)) (hl : lv_has ls 4 [(0, .ref b), (1, .ref (ad 0)), (2, .ref (am 0)), (3, .int (nI i))]) : W p l e room_1 s m #[Value.ref b] below meth c H locs (90 + 2 * k) (150000 + 13 * k) (lw_Z below #[Value.ref b] s) (F0 m 809 ls []) := by
  obtain ⟨C0, hA, hX, hbl, hL⟩ := K0
  have hx := C0.1
  have hb := C0.2.1
  have hbA : ¬ LA s b := fun z => Nat.not_le.mpr hbl z
  refine lv_aload_n hx hb dL_law_809 rfl (lv_at hl 1 rfl) ?_
  refine lv_aload_n hx hb dL_law_810 rfl (lv_at hl 0 rfl) ?_
  refine lv_iload_n hx hb dL_law_811 rfl (lv_at hl 3 rfl) ?_
  refine lv_iconst (v := 1) hx hb dL_law_812 (by decide) ?_
  refine lv_iadd hx hb dL_law_813 ?_
  refine va_sld hx hb hX hbl hbA hw.2.2 (sc_in (j := 1) (by decide) (by omega) hL) dL_law_814 ?_
  refine lv_aload_n hx hb dL_law_815 rfl (lv_at hl 0 rfl) ?_
  refine lv_iload_n hx hb dL_law_816 rfl (lv_at hl 3 rfl) ?_
  refine lv_iconst (v := 2) hx hb dL_law_817 (by decide) ?_
  refine lv_iadd hx hb dL_law_818 ?_
  refine va_sld hx hb hX hbl hbA hw.2.2 (sc_in (j := 2) (by decide) (by omega) hL) dL_law_819 ?_
  refine lv_aload_n hx hb dL_law_820 rfl (lv_at hl 0 rfl) ?_
  refine lv_iload_n hx hb dL_law_821 rfl (lv_at hl 3 rfl) ?_
  refine lv_iconst (v := 3) hx hb dL_law_822 (by decide) ?_
  refine lv_iadd hx hb dL_law_823 ?_
  refine va_sld hx hb hX hbl hbA hw.2.2 (sc_in (j := 3) (by decide) (by omega) hL) dL_law_824 ?_
  obtain ⟨F1, F2, r, h1, h2, hR⟩ := R_form hR (xs (nI i + 1).toNatClampNeg) (xs (nI i + 2).toNatClampNeg) (xs (nI i + 3).toNatClampNeg)
  refine r_backP (va_runV (As := [.int (xs (nI i + 1).toNatClampNeg), .int (xs (nI i + 2).toNatClampNeg), .int (xs (nI i + 3).toNatClampNeg)]) (rest := []) ⟨hx, hb, C0.2.2.2.1, C0.2.2.2.2.1, C0.2.2.2.2.2.1⟩ (tX9_form l E ad zt zs zg zh zu zl zc zw (xs (nI i + 1).toNatClampNeg) (xs (nI i + 2).toNatClampNeg) (xs (nI i + 3).toNatClampNeg) h1 H.size) (cwV 3 C0.2.2.2.2.2.1 gL_X9_form rfl rfl rfl (by decide +kernel) ⟨Nat.le_of_ble_eq_true rfl, Nat.le_of_ble_eq_true rfl⟩) ⟨PG_blind, va_recv hA.2.2.1.1 hw.1 (ci := 9) (q0 := 0) rfl rfl, pg_at hA hw [0, 1, 2, 3, 4, 5, 6, 7, 8, 9, 10, 11, 12, 13, 14, 15, 16, 17, 18, 19, 20, 21, 22, 23, 24, 25, 26, 27, 28, 29, 30, 31, 32, 33, 34, 35, 36, 37, 38, 39, 40, 41, 42, 43, 44, 45, 46, 47, 48, 49] rfl (lcX E ad am zt zs zg zh zu zl zc zw zx)⟩ rfl rfl hl.1 rfl (lv_room (Nat.le_of_ble_eq_true rfl)) dL_law_825 ⟨by show _ ≤ 600000; omega, by show _ ≤ 7302250; omega⟩) hA hw [0, 1, 2, 3, 4, 5, 6, 7, 8, 9, 10, 11, 12, 13, 14, 15, 16, 17, 18, 19, 20, 21, 22, 23, 24, 25, 26, 27, 28, 29, 30, 31, 32, 33, 34, 35, 36, 37, 38, 39, 40, 41, 42, 43, 44, 45, 46, 47, 48, 49] [50, 51, 52, 53, 54, 55, 56, 57, 58, 59, 60, 61, 62, 63, 64, 65, 66, 67, 68, 69, 70, 71, 72, 73, 74, 75, 76, 77, 78, 79, 80, 81, 82, 83, 84, 85, 86] (lcX E ad am zt zs zg zh zu zl zc zw zx) (lcM E ad am zt zs zg zh zu zl zc zw zx) rfl (by decide) (fun H locs hw => ?_)
  have hw := lj1 hw
  refine W.widen (k := 90 + 2 * (k + 1)) (n := 150000 + 13 * (k + 1)) (by omega) (by omega) ?_
  refine lv_aload_n hx hb dL_law_828 rfl (lv_at hl 2 rfl) ?_
  refine lv_aload_n hx hb dL_law_829 rfl (lv_at hl 0 rfl) ?_
  refine lv_iload_n hx hb dL_law_830 rfl (lv_at hl 3 rfl) ?_
  refine lv_iconst (v := 1) hx hb dL_law_831 (by decide) ?_
  refine lv_iadd hx hb dL_law_832 ?_
  refine va_sld hx hb hX hbl hbA hw.2.2 (sc_in (j := 1) (by decide) (by omega) hL) dL_law_833 ?_
  refine lv_aload_n hx hb dL_law_834 rfl (lv_at hl 0 rfl) ?_
  refine lv_iload_n hx hb dL_law_835 rfl (lv_at hl 3 rfl) ?_
  refine lv_iconst (v := 2) hx hb dL_law_836 (by decide) ?_
  refine lv_iadd hx hb dL_law_837 ?_
  refine va_sld hx hb hX hbl hbA hw.2.2 (sc_in (j := 2) (by decide) (by omega) hL) dL_law_838 ?_
  refine lv_aload_n hx hb dL_law_839 rfl (lv_at hl 0 rfl) ?_
  refine lv_iload_n hx hb dL_law_840 rfl (lv_at hl 3 rfl) ?_
  refine lv_iconst (v := 3) hx hb dL_law_841 (by decide) ?_
  refine lv_iadd hx hb dL_law_842 ?_
  refine va_sld hx hb hX hbl hbA hw.2.2 (sc_in (j := 3) (by decide) (by omega) hL) dL_law_843 ?_
  refine r_backP (va_runV (As := [.int (xs (nI i + 1).toNatClampNeg), .int (xs (nI i + 2).toNatClampNeg), .int (xs (nI i + 3).toNatClampNeg)]) (rest := [.int r]) ⟨hx, hb, C0.2.2.2.1, C0.2.2.2.2.1, C0.2.2.2.2.2.1⟩ (tX10_form l E am zx (xs (nI i + 1).toNatClampNeg) (xs (nI i + 2).toNatClampNeg) (xs (nI i + 3).toNatClampNeg) h2 H.size) (cwV 3 C0.2.2.2.2.2.1 gL_X10_form rfl rfl rfl (by decide +kernel) ⟨Nat.le_of_ble_eq_true rfl, Nat.le_of_ble_eq_true rfl⟩) ⟨PG_blind, va_recv hA.2.2.1.1 hw.1 (ci := 10) (q0 := 50) rfl rfl, pg_at hA hw [50, 51, 52, 53, 54, 55, 56, 57, 58, 59, 60, 61, 62, 63, 64, 65, 66, 67, 68, 69, 70, 71, 72, 73, 74, 75, 76, 77, 78, 79, 80, 81, 82, 83, 84, 85, 86] rfl (lcM E ad am zt zs zg zh zu zl zc zw zx)⟩ rfl rfl hl.1 rfl (lv_room (Nat.le_of_ble_eq_true rfl)) dL_law_844 ⟨by show _ ≤ 600000; omega, by show _ ≤ 7302250; omega⟩) hA hw [50, 51, 52, 53, 54, 55, 56, 57, 58, 59, 60, 61, 62, 63, 64, 65, 66, 67, 68, 69, 70, 71, 72, 73, 74, 75, 76, 77, 78, 79, 80, 81, 82, 83, 84, 85, 86] [0, 1, 2, 3, 4, 5, 6, 7, 8, 9, 10, 11, 12, 13, 14, 15, 16, 17, 18, 19, 20, 21, 22, 23, 24, 25, 26, 27, 28, 29, 30, 31, 32, 33, 34, 35, 36, 37, 38, 39, 40, 41, 42, 43, 44, 45, 46, 47, 48, 49] (lcM E ad am zt zs zg zh zu zl zc zw zx) (lcX E ad am zt zs zg zh zu zl zc zw zx) rfl (by decide) (fun H locs hw => ?_)
  refine lv_icmp_eq (tgt := 888) hx hb dL_law_847 (by decide) (fun c1 => ?_) (fun c1 => absurd rfl c1)
  refine lv_iinc (v := nI (i + 6)) (lv' := [(3, .int (nI (i + 6))), (0, .ref b), (1, .ref (ad 0)), (2, .ref (am 0))]) hx hb dL_law_888 hl (k := 3) rfl (nI_add i 6) (by decide) rfl (fun ls hl => ?_)
  refine lv_goto (tgt := 18) hx hb dL_law_891 (by decide) ?_
  exact ih _ zt zs zg zh zu zl zc zw zx _ _ _ hR hw (lv_sub hl [1, 2, 3, 0] rfl)
set_option maxRecDepth 20000 in
set_option maxHeartbeats 4000000 in
theorem law_c18 {p : Program} {l : Launch} {e : Env} {s : State} {m : MethodId} {below : List Frame} {meth : Method} {c : Code} {b L : Nat} {xs : Nat → Int32} {E : EV} (K0 : LC p s m meth c b L xs E) {am : Nat → Nat} (i k : Nat) (hi : i + 6 ≤ L) (hk : k ≤ 512) (ih : ∀ (ad : Nat → Nat) (zt zs zg zh zu zl zc zw zx : OS) (H : Heap) (locs : List Loc) (ls : Array Slot), Rel zt zs zg zh zu zl zc zw zx → Wd E (LA s) s H locs (wX E ad zt zs zg zh zu zl zc zw ++ wM E am zx) → lv_has ls 4 [(0, .ref b), (1, .ref (ad 0)), (2, .ref (am 0)), (3, .int (nI (i + 6)))] → W p l e room_1 s m #[Value.ref b] below meth c H locs (90 + 2 * (k + 1)) (150000 + 13 * (k + 1)) (lw_Z below #[Value.ref b] s) (F0 m 18 ls [])) (ad : Nat → Nat) (zt zs zg zh zu zl zc zw zx : OS) (H : Heap) (locs : List Loc) (ls : Array Slot) (hR : Rel zt zs zg zh zu zl zc zw zx) (hw : Wd E (LA s) s H locs (wX E ad zt zs zg zh zu zl zc zw ++ wM E am zx)) (hl : lv_has ls 4 [(0, .ref b), (1, .ref (ad 0)), (2, .ref (am 0)), (3, .int (nI i))]) : W p l e room_1 s m #[Value.ref b] below meth c H locs (90 + 2 * k) (150000 + 13 * k) (lw_Z below #[Value.ref b] s) (F0 m 852 ls []) := by
  obtain ⟨C0, hA, hX, hbl, hL⟩ := K0
  have hx := C0.1
  have hb := C0.2.1
  have hbA : ¬ LA s b := fun z => Nat.not_le.mpr hbl z
  refine lv_aload_n hx hb dL_law_852 rfl (lv_at hl 1 rfl) ?_
  obtain ⟨F1, F2, r, h1, h2, hR⟩ := R_doubled hR 
  refine r_backP (va_runV (As := []) (rest := []) ⟨hx, hb, C0.2.2.2.1, C0.2.2.2.2.1, C0.2.2.2.2.2.1⟩ (tX9_doubled l E ad F1 zt zs zg zh zu zl zc zw  h1 H.size) (cwV 0 C0.2.2.2.2.2.1 gL_X9_doubled rfl rfl rfl (by decide +kernel) ⟨Nat.le_of_ble_eq_true rfl, Nat.le_of_ble_eq_true rfl⟩) ⟨PG_blind, va_recv hA.2.2.1.1 hw.1 (ci := 9) (q0 := 0) rfl rfl, pg_at hA hw [0, 1, 2, 3, 4, 5, 6, 7, 8, 9, 10, 11, 12, 13, 14, 15, 16, 17, 18, 19, 20, 21, 22, 23, 24, 25, 26, 27, 28, 29, 30, 31, 32, 33, 34, 35, 36, 37, 38, 39, 40, 41, 42, 43, 44, 45, 46, 47, 48, 49] rfl (lcX E ad am zt zs zg zh zu zl zc zw zx)⟩ rfl rfl hl.1 rfl (lv_room (Nat.le_of_ble_eq_true rfl)) dL_law_853 ⟨by show _ ≤ 600000; omega, by show _ ≤ 7302250; omega⟩) hA hw [0, 1, 2, 3, 4, 5, 6, 7, 8, 9, 10, 11, 12, 13, 14, 15, 16, 17, 18, 19, 20, 21, 22, 23, 24, 25, 26, 27, 28, 29, 30, 31, 32, 33, 34, 35, 36, 37, 38, 39, 40, 41, 42, 43, 44, 45, 46, 47, 48, 49] [50, 51, 52, 53, 54, 55, 56, 57, 58, 59, 60, 61, 62, 63, 64, 65, 66, 67, 68, 69, 70, 71, 72, 73, 74, 75, 76, 77, 78, 79, 80, 81, 82, 83, 84, 85, 86] (lcX E ad am zt zs zg zh zu zl zc zw zx) (lcM E ad am zt zs zg zh zu zl zc zw zx) rfl (by decide) (fun H locs hw => ?_)
  have hw := lj1 hw
  refine W.widen (k := 90 + 2 * (k + 1)) (n := 150000 + 13 * (k + 1)) (by omega) (by omega) ?_
  refine lv_aload_n hx hb dL_law_856 rfl (lv_at hl 2 rfl) ?_
  refine r_backP (va_runV (As := []) (rest := [.int r]) ⟨hx, hb, C0.2.2.2.1, C0.2.2.2.2.1, C0.2.2.2.2.2.1⟩ (tX10_doubled l E am F2 zx  h2 H.size) (cwV 0 C0.2.2.2.2.2.1 gL_X10_doubled rfl rfl rfl (by decide +kernel) ⟨Nat.le_of_ble_eq_true rfl, Nat.le_of_ble_eq_true rfl⟩) ⟨PG_blind, va_recv hA.2.2.1.1 hw.1 (ci := 10) (q0 := 50) rfl rfl, pg_at hA hw [50, 51, 52, 53, 54, 55, 56, 57, 58, 59, 60, 61, 62, 63, 64, 65, 66, 67, 68, 69, 70, 71, 72, 73, 74, 75, 76, 77, 78, 79, 80, 81, 82, 83, 84, 85, 86] rfl (lcM E ad am zt zs zg zh zu zl zc zw zx)⟩ rfl rfl hl.1 rfl (lv_room (Nat.le_of_ble_eq_true rfl)) dL_law_857 ⟨by show _ ≤ 600000; omega, by show _ ≤ 7302250; omega⟩) hA hw [50, 51, 52, 53, 54, 55, 56, 57, 58, 59, 60, 61, 62, 63, 64, 65, 66, 67, 68, 69, 70, 71, 72, 73, 74, 75, 76, 77, 78, 79, 80, 81, 82, 83, 84, 85, 86] [0, 1, 2, 3, 4, 5, 6, 7, 8, 9, 10, 11, 12, 13, 14, 15, 16, 17, 18, 19, 20, 21, 22, 23, 24, 25, 26, 27, 28, 29, 30, 31, 32, 33, 34, 35, 36, 37, 38, 39, 40, 41, 42, 43, 44, 45, 46, 47, 48, 49] (lcM E ad am zt zs zg zh zu zl zc zw zx) (lcX E ad am zt zs zg zh zu zl zc zw zx) rfl (by decide) (fun H locs hw => ?_)
  refine lv_icmp_eq (tgt := 888) hx hb dL_law_860 (by decide) (fun c1 => ?_) (fun c1 => absurd rfl c1)
  refine lv_iinc (v := nI (i + 6)) (lv' := [(3, .int (nI (i + 6))), (0, .ref b), (1, .ref (ad 0)), (2, .ref (am 0))]) hx hb dL_law_888 hl (k := 3) rfl (nI_add i 6) (by decide) rfl (fun ls hl => ?_)
  refine lv_goto (tgt := 18) hx hb dL_law_891 (by decide) ?_
  exact ih _ zt zs zg zh zu zl zc zw zx _ _ _ hR hw (lv_sub hl [1, 2, 3, 0] rfl)
set_option maxRecDepth 20000 in
set_option maxHeartbeats 4000000 in
theorem law_c19 {p : Program} {l : Launch} {e : Env} {s : State} {m : MethodId} {below : List Frame} {meth : Method} {c : Code} {b L : Nat} {xs : Nat → Int32} {E : EV} (K0 : LC p s m meth c b L xs E) {am : Nat → Nat} (i k : Nat) (hi : i + 6 ≤ L) (hk : k ≤ 512) (ih : ∀ (ad : Nat → Nat) (zt zs zg zh zu zl zc zw zx : OS) (H : Heap) (locs : List Loc) (ls : Array Slot), Rel zt zs zg zh zu zl zc zw zx → Wd E (LA s) s H locs (wX E ad zt zs zg zh zu zl zc zw ++ wM E am zx) → lv_has ls 4 [(0, .ref b), (1, .ref (ad 0)), (2, .ref (am 0)), (3, .int (nI (i + 6)))] → W p l e room_1 s m #[Value.ref b] below meth c H locs (90 + 2 * (k + 1)) (150000 + 13 * (k + 1)) (lw_Z below #[Value.ref b] s) (F0 m 18 ls [])) (ad : Nat → Nat) (zt zs zg zh zu zl zc zw zx : OS) (H : Heap) (locs : List Loc) (ls : Array Slot) (hR : Rel zt zs zg zh zu zl zc zw zx) (hw : Wd E (LA s) s H locs (wX E ad zt zs zg zh zu zl zc zw ++ wM E am zx)) (hl : lv_has ls 4 [(0, .ref b), (1, .ref (ad 0)), (2, .ref (am 0)), (3, .int (nI i))]) : W p l e room_1 s m #[Value.ref b] below meth c H locs (90 + 2 * k) (150000 + 13 * k) (lw_Z below #[Value.ref b] s) (F0 m 865 ls []) := by
  obtain ⟨C0, hA, hX, hbl, hL⟩ := K0
  have hx := C0.1
  have hb := C0.2.1
  have hbA : ¬ LA s b := fun z => Nat.not_le.mpr hbl z
  refine lv_aload_n hx hb dL_law_865 rfl (lv_at hl 1 rfl) ?_
  refine lv_aload_n hx hb dL_law_866 rfl (lv_at hl 0 rfl) ?_
  refine lv_iload_n hx hb dL_law_867 rfl (lv_at hl 3 rfl) ?_
  refine lv_iconst (v := 1) hx hb dL_law_868 (by decide) ?_
  refine lv_iadd hx hb dL_law_869 ?_
  refine va_sld hx hb hX hbl hbA hw.2.2 (sc_in (j := 1) (by decide) (by omega) hL) dL_law_870 ?_
  obtain ⟨F1, F2, r, h1, h2, hR⟩ := R_told hR (xs (nI i + 1).toNatClampNeg)
  refine r_backP (va_runV (As := [.int (xs (nI i + 1).toNatClampNeg)]) (rest := []) ⟨hx, hb, C0.2.2.2.1, C0.2.2.2.2.1, C0.2.2.2.2.2.1⟩ (tX9_told l E ad zt zs zg zh zu zl zc zw (xs (nI i + 1).toNatClampNeg) h1 H.size) (cwV 1 C0.2.2.2.2.2.1 gL_X9_told rfl rfl rfl (by decide +kernel) ⟨Nat.le_of_ble_eq_true rfl, Nat.le_of_ble_eq_true rfl⟩) ⟨PG_blind, va_recv hA.2.2.1.1 hw.1 (ci := 9) (q0 := 0) rfl rfl, pg_at hA hw [0, 1, 2, 3, 4, 5, 6, 7, 8, 9, 10, 11, 12, 13, 14, 15, 16, 17, 18, 19, 20, 21, 22, 23, 24, 25, 26, 27, 28, 29, 30, 31, 32, 33, 34, 35, 36, 37, 38, 39, 40, 41, 42, 43, 44, 45, 46, 47, 48, 49] rfl (lcX E ad am zt zs zg zh zu zl zc zw zx)⟩ rfl rfl hl.1 rfl (lv_room (Nat.le_of_ble_eq_true rfl)) dL_law_871 ⟨by show _ ≤ 600000; omega, by show _ ≤ 7302250; omega⟩) hA hw [0, 1, 2, 3, 4, 5, 6, 7, 8, 9, 10, 11, 12, 13, 14, 15, 16, 17, 18, 19, 20, 21, 22, 23, 24, 25, 26, 27, 28, 29, 30, 31, 32, 33, 34, 35, 36, 37, 38, 39, 40, 41, 42, 43, 44, 45, 46, 47, 48, 49] [50, 51, 52, 53, 54, 55, 56, 57, 58, 59, 60, 61, 62, 63, 64, 65, 66, 67, 68, 69, 70, 71, 72, 73, 74, 75, 76, 77, 78, 79, 80, 81, 82, 83, 84, 85, 86] (lcX E ad am zt zs zg zh zu zl zc zw zx) (lcM E ad am zt zs zg zh zu zl zc zw zx) rfl (by decide) (fun H locs hw => ?_)
  have hw := lj1 hw
  refine W.widen (k := 90 + 2 * (k + 1)) (n := 150000 + 13 * (k + 1)) (by omega) (by omega) ?_
  refine lv_aload_n hx hb dL_law_874 rfl (lv_at hl 2 rfl) ?_
  refine lv_aload_n hx hb dL_law_875 rfl (lv_at hl 0 rfl) ?_
  refine lv_iload_n hx hb dL_law_876 rfl (lv_at hl 3 rfl) ?_
  refine lv_iconst (v := 1) hx hb dL_law_877 (by decide) ?_
  refine lv_iadd hx hb dL_law_878 ?_
  refine va_sld hx hb hX hbl hbA hw.2.2 (sc_in (j := 1) (by decide) (by omega) hL) dL_law_879 ?_
  refine r_backP (va_runV (As := [.int (xs (nI i + 1).toNatClampNeg)]) (rest := [.int r]) ⟨hx, hb, C0.2.2.2.1, C0.2.2.2.2.1, C0.2.2.2.2.2.1⟩ (tX10_told l E am zx (xs (nI i + 1).toNatClampNeg) h2 H.size) (cwV 1 C0.2.2.2.2.2.1 gL_X10_told rfl rfl rfl (by decide +kernel) ⟨Nat.le_of_ble_eq_true rfl, Nat.le_of_ble_eq_true rfl⟩) ⟨PG_blind, va_recv hA.2.2.1.1 hw.1 (ci := 10) (q0 := 50) rfl rfl, pg_at hA hw [50, 51, 52, 53, 54, 55, 56, 57, 58, 59, 60, 61, 62, 63, 64, 65, 66, 67, 68, 69, 70, 71, 72, 73, 74, 75, 76, 77, 78, 79, 80, 81, 82, 83, 84, 85, 86] rfl (lcM E ad am zt zs zg zh zu zl zc zw zx)⟩ rfl rfl hl.1 rfl (lv_room (Nat.le_of_ble_eq_true rfl)) dL_law_880 ⟨by show _ ≤ 600000; omega, by show _ ≤ 7302250; omega⟩) hA hw [50, 51, 52, 53, 54, 55, 56, 57, 58, 59, 60, 61, 62, 63, 64, 65, 66, 67, 68, 69, 70, 71, 72, 73, 74, 75, 76, 77, 78, 79, 80, 81, 82, 83, 84, 85, 86] [0, 1, 2, 3, 4, 5, 6, 7, 8, 9, 10, 11, 12, 13, 14, 15, 16, 17, 18, 19, 20, 21, 22, 23, 24, 25, 26, 27, 28, 29, 30, 31, 32, 33, 34, 35, 36, 37, 38, 39, 40, 41, 42, 43, 44, 45, 46, 47, 48, 49] (lcM E ad am zt zs zg zh zu zl zc zw zx) (lcX E ad am zt zs zg zh zu zl zc zw zx) rfl (by decide) (fun H locs hw => ?_)
  refine lv_icmp_eq (tgt := 888) hx hb dL_law_883 (by decide) (fun c1 => ?_) (fun c1 => absurd rfl c1)
  refine lv_iinc (v := nI (i + 6)) (lv' := [(3, .int (nI (i + 6))), (0, .ref b), (1, .ref (ad 0)), (2, .ref (am 0))]) hx hb dL_law_888 hl (k := 3) rfl (nI_add i 6) (by decide) rfl (fun ls hl => ?_)
  refine lv_goto (tgt := 18) hx hb dL_law_891 (by decide) ?_
  exact ih _ zt zs zg zh zu zl zc zw zx _ _ _ hR hw (lv_sub hl [1, 2, 3, 0] rfl)

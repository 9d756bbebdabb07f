set_option maxRecDepth 20000 in
set_option maxHeartbeats 4000000 in
theorem law_c10 {p : Program} {l : Launch} {e : Env} {s : State} {m : MethodId} {below : List Frame} {meth : Method} {c : Code} {b L : Nat} {xs : Nat → Int32} {E : EV} (K0 : LC p s m meth c b L xs E) {am : Nat → Nat} (i k : Nat) (hi : i + 6 ≤ L) (hk : k ≤ 512) (ih : ∀ (ad : Nat → Nat) (zt zs zg zh zu zl zc zw zx : OS) (H : Heap) (locs : List Loc) (ls : Array Slot), Rel zt zs zg zh zu zl zc zw zx → Wd E (LA s) s H locs (wX E ad zt zs zg zh zu zl zc zw ++ wM E am zx) → lv_has ls 4 [(0, .ref b), (1, .ref (ad 0)), (2, .ref (am 0)), (3, .int (nI (i + 6)))] → W p l e room_1 s m #[Value.ref b] below meth c H locs (90 + 2 * (k + 1)) (150000 + 13 * (k + 1)) (lw_Z below #[Value.ref b] s) (F0 m 18 ls [])) (ad : Nat → Nat) (zt zs zg zh zu zl zc zw zx : OS) (H : Heap) (locs : List Loc) (ls : Array Slot) (hR : Rel zt zs zg zh zu zl zc zw zx) (hw : Wd E (LA s) s H locs (wX E ad zt zs zg zh zu zl zc zw ++ wM E am zx)) (hl : lv_has ls 4 [(0, .ref b), (1, .ref (ad 0)), (2, .ref (am 0)), (3, .int (nI i))]) : W p l e room_1 s m #[Value.ref b] below meth c H locs (90 + 2 * k) (150000 + 13 * k) (lw_Z below #[Value.ref b] s) (F0 m 488 ls []) := by
  obtain ⟨C0, hA, hX, hbl, hL⟩ := K0
  have hx := C0.1
  have hb := C0.2.1
  have hbA : ¬ LA s b := fun z => Nat.not_le.mpr hbl z
  refine lv_aload_n hx hb dL_law_488 rfl (lv_at hl 1 rfl) ?_
  obtain ⟨F1, F2, r, zc1, zx1, h1, h2, hR⟩ := R_forget hR 
  refine r_backP (va_runV (As := []) (rest := []) ⟨hx, hb, C0.2.2.2.1, C0.2.2.2.2.1, C0.2.2.2.2.2.1⟩ (tX9_forget l E ad zt zs zg zh zu zl zc zw  h1 H.size) (cwV 0 C0.2.2.2.2.2.1 gL_X9_forget rfl rfl rfl (by decide +kernel) ⟨Nat.le_of_ble_eq_true rfl, Nat.le_of_ble_eq_true rfl⟩) ⟨PG_blind, va_recv hA.2.2.1.1 hw.1 (ci := 9) (q0 := 0) rfl rfl, pg_at hA hw [0, 1, 2, 3, 4, 5, 6, 7, 8, 9, 10, 11, 12, 13, 14, 15, 16, 17, 18, 19, 20, 21, 22, 23, 24, 25, 26, 27, 28, 29, 30, 31, 32, 33, 34, 35, 36, 37, 38, 39, 40, 41, 42, 43, 44, 45, 46, 47, 48, 49] rfl (lcX E ad am zt zs zg zh zu zl zc zw zx)⟩ rfl rfl hl.1 rfl (lv_room (Nat.le_of_ble_eq_true rfl)) dL_law_489 ⟨by show _ ≤ 600000; omega, by show _ ≤ 7302250; omega⟩) hA hw [0, 1, 2, 3, 4, 5, 6, 7, 8, 9, 10, 11, 12, 13, 14, 15, 16, 17, 18, 19, 20, 21, 22, 23, 24, 25, 26, 27, 28, 29, 30, 31, 32, 33, 34, 35, 36, 37, 38, 39, 40, 41, 42, 43, 44, 45, 46, 47, 48, 49] [50, 51, 52, 53, 54, 55, 56, 57, 58, 59, 60, 61, 62, 63, 64, 65, 66, 67, 68, 69, 70, 71, 72, 73, 74, 75, 76, 77, 78, 79, 80, 81, 82, 83, 84, 85, 86] (lcX E ad am zt zs zg zh zu zl zc zw zx) (lcM E ad am zt zs zg zh zu zl zc zw zx) rfl (by decide) (fun H locs hw => ?_)
  have hw := lj1 hw
  refine W.widen (k := 90 + 2 * (k + 1)) (n := 150000 + 13 * (k + 1)) (by omega) (by omega) ?_
  refine lv_aload_n hx hb dL_law_492 rfl (lv_at hl 2 rfl) ?_
  refine r_backP (va_runV (As := []) (rest := [.int r]) ⟨hx, hb, C0.2.2.2.1, C0.2.2.2.2.1, C0.2.2.2.2.2.1⟩ (tX10_forget l E am zx  h2 H.size) (cwV 0 C0.2.2.2.2.2.1 gL_X10_forget rfl rfl rfl (by decide +kernel) ⟨Nat.le_of_ble_eq_true rfl, Nat.le_of_ble_eq_true rfl⟩) ⟨PG_blind, va_recv hA.2.2.1.1 hw.1 (ci := 10) (q0 := 50) rfl rfl, pg_at hA hw [50, 51, 52, 53, 54, 55, 56, 57, 58, 59, 60, 61, 62, 63, 64, 65, 66, 67, 68, 69, 70, 71, 72, 73, 74, 75, 76, 77, 78, 79, 80, 81, 82, 83, 84, 85, 86] rfl (lcM E ad am zt zs zg zh zu zl zc1 zw zx)⟩ rfl rfl hl.1 rfl (lv_room (Nat.le_of_ble_eq_true rfl)) dL_law_493 ⟨by show _ ≤ 600000; omega, by show _ ≤ 7302250; omega⟩) hA hw [50, 51, 52, 53, 54, 55, 56, 57, 58, 59, 60, 61, 62, 63, 64, 65, 66, 67, 68, 69, 70, 71, 72, 73, 74, 75, 76, 77, 78, 79, 80, 81, 82, 83, 84, 85, 86] [0, 1, 2, 3, 4, 5, 6, 7, 8, 9, 10, 11, 12, 13, 14, 15, 16, 17, 18, 19, 20, 21, 22, 23, 24, 25, 26, 27, 28, 29, 30, 31, 32, 33, 34, 35, 36, 37, 38, 39, 40, 41, 42, 43, 44, 45, 46, 47, 48, 49] (lcM E ad am zt zs zg zh zu zl zc1 zw zx) (lcX E ad am zt zs zg zh zu zl zc1 zw zx) rfl (by decide) (fun H locs hw => ?_)
  refine lv_icmp_eq (tgt := 888) hx hb dL_law_496 (by decide) (fun c1 => ?_) (fun c1 => absurd rfl c1)
  refine lv_iinc (v := nI (i + 6)) (lv' := [(3, .int (nI (i + 6))), (0, .ref b), (1, .ref (ad 0)), (2, .ref (am 0))]) hx hb dL_law_888 hl (k := 3) rfl (nI_add i 6) (by decide) rfl (fun ls hl => ?_)
  refine lv_goto (tgt := 18) hx hb dL_law_891 (by decide) ?_
  exact ih _ zt zs zg zh zu zl zc1 zw zx1 _ _ _ hR hw (lv_sub hl [1, 2, 3, 0] rfl)
set_option maxRecDepth 20000 in
set_option maxHeartbeats 4000000 in
theorem law_c11 {p : Program} {l : Launch} {e : Env} {s : State} {m : MethodId} {below : List Frame} {meth : Method} {c : Code} {b L : Nat} {xs : Nat → Int32} {E : EV} (K0 : LC p s m meth c b L xs E) {am : Nat → Nat} (i k : Nat) (hi : i + 6 ≤ L) (hk : k ≤ 512) (ih : ∀ (ad : Nat → Nat) (zt zs zg zh zu zl zc zw zx : OS) (H : Heap) (locs : List Loc) (ls : Array Slot), Rel zt zs zg zh zu zl zc zw zx → Wd E (LA s) s H locs (wX E ad zt zs zg zh zu zl zc zw ++ wM E am zx) → lv_has ls 4 [(0, .ref b), (1, .ref (ad 0)), (2, .ref (am 0)), (3, .int (nI (i + 6)))] → W p l e room_1 s m #[Value.ref b] below meth c H locs (90 + 2 * (k + 1)) (150000 + 13 * (k + 1)) (lw_Z below #[Value.ref b] s) (F0 m 18 ls [])) (ad : Nat → Nat) (zt zs zg zh zu zl zc zw zx : OS) (H : Heap) (locs : List Loc) (ls : Array Slot) (hR : Rel zt zs zg zh zu zl zc zw zx) (hw : Wd E (LA s) s H locs (wX E ad zt zs zg zh zu zl zc zw ++ wM E am zx)) (hl : lv_has ls 4 [(0, .ref b), (1, .ref (ad 0)), (2, .ref (am 0)), (3, .int (nI i))]) : W p l e room_1 s m #[Value.ref b] below meth c H locs (90 + 2 * k) (150000 + 13 * k) (lw_Z below #[Value.ref b] s) (F0 m 501 ls []) := by
  obtain ⟨C0, hA, hX, hbl, hL⟩ := K0
  have hx := C0.1
  have hb := C0.2.1
  have hbA : ¬ LA s b := fun z => Nat.not_le.mpr hbl z
  refine lv_aload_n hx hb dL_law_501 rfl (lv_at hl 1 rfl) ?_
  refine lv_aload_n hx hb dL_law_502 rfl (lv_at hl 0 rfl) ?_
  refine lv_iload_n hx hb dL_law_503 rfl (lv_at hl 3 rfl) ?_
  refine lv_iconst (v := 1) hx hb dL_law_504 (by decide) ?_
  refine lv_iadd hx hb dL_law_505 ?_
  refine va_sld hx hb hX hbl hbA hw.2.2 (sc_in (j := 1) (by decide) (by omega) hL) dL_law_506 ?_
  refine lv_aload_n hx hb dL_law_507 rfl (lv_at hl 0 rfl) ?_
  refine lv_iload_n hx hb dL_law_508 rfl (lv_at hl 3 rfl) ?_
  refine lv_iconst (v := 2) hx hb dL_law_509 (by decide) ?_
  refine lv_iadd hx hb dL_law_510 ?_
  refine va_sld hx hb hX hbl hbA hw.2.2 (sc_in (j := 2) (by decide) (by omega) hL) dL_law_511 ?_
  refine lv_aload_n hx hb dL_law_512 rfl (lv_at hl 0 rfl) ?_
  refine lv_iload_n hx hb dL_law_513 rfl (lv_at hl 3 rfl) ?_
  refine lv_iconst (v := 3) hx hb dL_law_514 (by decide) ?_
  refine lv_iadd hx hb dL_law_515 ?_
  refine va_sld hx hb hX hbl hbA hw.2.2 (sc_in (j := 3) (by decide) (by omega) hL) dL_law_516 ?_
  refine lv_aload_n hx hb dL_law_517 rfl (lv_at hl 0 rfl) ?_
  refine lv_iload_n hx hb dL_law_518 rfl (lv_at hl 3 rfl) ?_
  refine lv_iconst (v := 4) hx hb dL_law_519 (by decide) ?_
  refine lv_iadd hx hb dL_law_520 ?_
  refine va_sld hx hb hX hbl hbA hw.2.2 (sc_in (j := 4) (by decide) (by omega) hL) dL_law_521 ?_
  refine lv_i2l hx hb dL_law_522 rfl ?_
  refine lv_bipush (v := 32) hx hb dL_law_523 (by decide) ?_
  refine lv_lshl hx hb dL_law_525 rfl ?_
  refine lv_aload_n hx hb dL_law_526 rfl (lv_at hl 0 rfl) ?_
  refine lv_iload_n hx hb dL_law_527 rfl (lv_at hl 3 rfl) ?_
  refine lv_iconst (v := 5) hx hb dL_law_528 (by decide) ?_
  refine lv_iadd hx hb dL_law_529 ?_
  refine va_sld hx hb hX hbl hbA hw.2.2 (sc_in (j := 5) (by decide) (by omega) hL) dL_law_530 ?_
  refine lv_i2l hx hb dL_law_531 rfl ?_
  refine lv_ldc2 (v := 4294967295) hx hb C0.2.2.2.2.1 (C0.2.2.2.2.2.1 (.constantLong RL 13 4294967295) (by decide +kernel)) dL_law_532 ?_
  refine lv_land hx hb dL_law_535 ?_
  refine lv_lor hx hb dL_law_536 ?_
  obtain ⟨F1, F2, r, zc1, zx1, h1, h2, hR⟩ := R_walk hR (xs (nI i + 1).toNatClampNeg) (xs (nI i + 2).toNatClampNeg) (xs (nI i + 3).toNatClampNeg) ((((xs (nI i + 4).toNatClampNeg).toInt64) <<< ((32 : Int32).toInt64 &&& 63)) ||| (((xs (nI i + 5).toNatClampNeg).toInt64) &&& 4294967295))
  refine r_back (va_runV (As := [.int (xs (nI i + 1).toNatClampNeg), .int (xs (nI i + 2).toNatClampNeg), .int (xs (nI i + 3).toNatClampNeg), .long ((((xs (nI i + 4).toNatClampNeg).toInt64) <<< ((32 : Int32).toInt64 &&& 63)) ||| (((xs (nI i + 5).toNatClampNeg).toInt64) &&& 4294967295))]) (rest := []) ⟨hx, hb, C0.2.2.2.1, C0.2.2.2.2.1, C0.2.2.2.2.2.1⟩ (tX9_walk l E ad F1 zt zs zg zh zu zl zc zw (xs (nI i + 1).toNatClampNeg) (xs (nI i + 2).toNatClampNeg) (xs (nI i + 3).toNatClampNeg) ((((xs (nI i + 4).toNatClampNeg).toInt64) <<< ((32 : Int32).toInt64 &&& 63)) ||| (((xs (nI i + 5).toNatClampNeg).toInt64) &&& 4294967295)) h1 H.size) (cwV 4 C0.2.2.2.2.2.1 gL_X9_walk rfl rfl rfl (by decide +kernel) ⟨Nat.le_of_ble_eq_true rfl, Nat.le_of_ble_eq_true rfl⟩) ⟨PG_blind, va_recv hA.2.2.1.1 hw.1 (ci := 9) (q0 := 0) rfl rfl, pg_at hA hw [0, 1, 2, 3, 4, 5, 6, 7, 8, 9, 10, 11, 12, 13, 14, 15, 16, 17, 18, 19, 20, 21, 22, 23, 24, 25, 26, 27, 28, 29, 30, 31, 32, 33, 34, 35, 36, 37, 38, 39, 40, 41, 42, 43, 44, 45, 46, 47, 48, 49] rfl (lcX E ad am zt zs zg zh zu zl zc zw zx)⟩ rfl rfl hl.1 rfl (lv_room (Nat.le_of_ble_eq_true rfl)) dL_law_537 ⟨by show _ ≤ 600000; omega, by show _ ≤ 7302250; omega⟩) hA hw [0, 1, 2, 3, 4, 5, 6, 7, 8, 9, 10, 11, 12, 13, 14, 15, 16, 17, 18, 19, 20, 21, 22, 23, 24, 25, 26, 27, 28, 29, 30, 31, 32, 33, 34, 35, 36, 37, 38, 39, 40, 41, 42, 43, 44, 45, 46, 47, 48, 49] [50, 51, 52, 53, 54, 55, 56, 57, 58, 59, 60, 61, 62, 63, 64, 65, 66, 67, 68, 69, 70, 71, 72, 73, 74, 75, 76, 77, 78, 79, 80, 81, 82, 83, 84, 85, 86] (lcX E ad am zt zs zg zh zu zl zc zw zx) (lcM E ad am zt zs zg zh zu zl zc zw zx) rfl (by decide) (fun v w1 H locs hq hw => ?_)
  obtain ⟨rfl, ad2, ex, had, rfl⟩ := hq
  have hw := lj2 hw
  refine W.widen (k := 90 + 2 * (k + 1)) (n := 150000 + 13 * (k + 1)) (by omega) (by omega) ?_
  have hl : lv_has ls 4 [(0, .ref b), (1, .ref (ad2 0)), (2, .ref (am 0)), (3, .int (nI i))] := by rw [had]; exact hl
  generalize ad2 = ad at hw hl
  refine lv_aload_n hx hb dL_law_540 rfl (lv_at hl 2 rfl) ?_
  refine lv_aload_n hx hb dL_law_541 rfl (lv_at hl 0 rfl) ?_
  refine lv_iload_n hx hb dL_law_542 rfl (lv_at hl 3 rfl) ?_
  refine lv_iconst (v := 1) hx hb dL_law_543 (by decide) ?_
  refine lv_iadd hx hb dL_law_544 ?_
  refine va_sld hx hb hX hbl hbA hw.2.2 (sc_in (j := 1) (by decide) (by omega) hL) dL_law_545 ?_
  refine lv_aload_n hx hb dL_law_546 rfl (lv_at hl 0 rfl) ?_
  refine lv_iload_n hx hb dL_law_547 rfl (lv_at hl 3 rfl) ?_
  refine lv_iconst (v := 2) hx hb dL_law_548 (by decide) ?_
  refine lv_iadd hx hb dL_law_549 ?_
  refine va_sld hx hb hX hbl hbA hw.2.2 (sc_in (j := 2) (by decide) (by omega) hL) dL_law_550 ?_
  refine lv_aload_n hx hb dL_law_551 rfl (lv_at hl 0 rfl) ?_
  refine lv_iload_n hx hb dL_law_552 rfl (lv_at hl 3 rfl) ?_
  refine lv_iconst (v := 3) hx hb dL_law_553 (by decide) ?_
  refine lv_iadd hx hb dL_law_554 ?_
  refine va_sld hx hb hX hbl hbA hw.2.2 (sc_in (j := 3) (by decide) (by omega) hL) dL_law_555 ?_
  refine lv_aload_n hx hb dL_law_556 rfl (lv_at hl 0 rfl) ?_
  refine lv_iload_n hx hb dL_law_557 rfl (lv_at hl 3 rfl) ?_
  refine lv_iconst (v := 4) hx hb dL_law_558 (by decide) ?_
  refine lv_iadd hx hb dL_law_559 ?_
  refine va_sld hx hb hX hbl hbA hw.2.2 (sc_in (j := 4) (by decide) (by omega) hL) dL_law_560 ?_
  refine lv_i2l hx hb dL_law_561 rfl ?_
  refine lv_bipush (v := 32) hx hb dL_law_562 (by decide) ?_
  refine lv_lshl hx hb dL_law_564 rfl ?_
  refine lv_aload_n hx hb dL_law_565 rfl (lv_at hl 0 rfl) ?_
  refine lv_iload_n hx hb dL_law_566 rfl (lv_at hl 3 rfl) ?_
  refine lv_iconst (v := 5) hx hb dL_law_567 (by decide) ?_
  refine lv_iadd hx hb dL_law_568 ?_
  refine va_sld hx hb hX hbl hbA hw.2.2 (sc_in (j := 5) (by decide) (by omega) hL) dL_law_569 ?_
  refine lv_i2l hx hb dL_law_570 rfl ?_
  refine lv_ldc2 (v := 4294967295) hx hb C0.2.2.2.2.1 (C0.2.2.2.2.2.1 (.constantLong RL 13 4294967295) (by decide +kernel)) dL_law_571 ?_
  refine lv_land hx hb dL_law_574 ?_
  refine lv_lor hx hb dL_law_575 ?_
  refine r_backP (va_runV (As := [.int (xs (nI i + 1).toNatClampNeg), .int (xs (nI i + 2).toNatClampNeg), .int (xs (nI i + 3).toNatClampNeg), .long ((((xs (nI i + 4).toNatClampNeg).toInt64) <<< ((32 : Int32).toInt64 &&& 63)) ||| (((xs (nI i + 5).toNatClampNeg).toInt64) &&& 4294967295))]) (rest := [.int r]) ⟨hx, hb, C0.2.2.2.1, C0.2.2.2.2.1, C0.2.2.2.2.2.1⟩ (tX10_walk l E am F2 zx (xs (nI i + 1).toNatClampNeg) (xs (nI i + 2).toNatClampNeg) (xs (nI i + 3).toNatClampNeg) ((((xs (nI i + 4).toNatClampNeg).toInt64) <<< ((32 : Int32).toInt64 &&& 63)) ||| (((xs (nI i + 5).toNatClampNeg).toInt64) &&& 4294967295)) h2 H.size) (cwV 4 C0.2.2.2.2.2.1 gL_X10_walk rfl rfl rfl (by decide +kernel) ⟨Nat.le_of_ble_eq_true rfl, Nat.le_of_ble_eq_true rfl⟩) ⟨PG_blind, va_recv hA.2.2.1.1 hw.1 (ci := 10) (q0 := 50) rfl rfl, pg_at hA hw [50, 51, 52, 53, 54, 55, 56, 57, 58, 59, 60, 61, 62, 63, 64, 65, 66, 67, 68, 69, 70, 71, 72, 73, 74, 75, 76, 77, 78, 79, 80, 81, 82, 83, 84, 85, 86] rfl (lcM E ad am zt zs zg zh zu zl zc1 zw zx)⟩ rfl rfl hl.1 rfl (lv_room (Nat.le_of_ble_eq_true rfl)) dL_law_576 ⟨by show _ ≤ 600000; omega, by show _ ≤ 7302250; omega⟩) hA hw [50, 51, 52, 53, 54, 55, 56, 57, 58, 59, 60, 61, 62, 63, 64, 65, 66, 67, 68, 69, 70, 71, 72, 73, 74, 75, 76, 77, 78, 79, 80, 81, 82, 83, 84, 85, 86] [0, 1, 2, 3, 4, 5, 6, 7, 8, 9, 10, 11, 12, 13, 14, 15, 16, 17, 18, 19, 20, 21, 22, 23, 24, 25, 26, 27, 28, 29, 30, 31, 32, 33, 34, 35, 36, 37, 38, 39, 40, 41, 42, 43, 44, 45, 46, 47, 48, 49] (lcM E ad am zt zs zg zh zu zl zc1 zw zx) (lcX E ad am zt zs zg zh zu zl zc1 zw zx) rfl (by decide) (fun H locs hw => ?_)
  refine lv_icmp_eq (tgt := 888) hx hb dL_law_579 (by decide) (fun c1 => ?_) (fun c1 => absurd rfl c1)
  refine lv_iinc (v := nI (i + 6)) (lv' := [(3, .int (nI (i + 6))), (0, .ref b), (1, .ref (ad 0)), (2, .ref (am 0))]) hx hb dL_law_888 hl (k := 3) rfl (nI_add i 6) (by decide) rfl (fun ls hl => ?_)
  refine lv_goto (tgt := 18) hx hb dL_law_891 (by decide) ?_
  exact ih _ zt zs zg zh zu zl zc1 zw zx1 _ _ _ hR hw (lv_sub hl [1, 2, 3, 0] rfl)
set_option maxRecDepth 20000 in
set_option maxHeartbeats 4000000 in
theorem law_c12 {p : Program} {l : Launch} {e : Env} {s : State} {m : MethodId} {below : List Frame} {meth : Method} {c : Code} {b L : Nat} {xs : Nat → Int32} {E : EV} (K0 : LC p s m meth c b L xs E) {am : Nat → Nat} (i k : Nat) (hi : i + 6 ≤ L) (hk : k ≤ 512) (ih : ∀ (ad : Nat → Nat) (zt zs zg zh zu zl zc zw zx : OS) (H : Heap) (locs : List Loc) (ls : Array Slot), Rel zt zs zg zh zu zl zc zw zx → Wd E (LA s) s H locs (wX E ad zt zs zg zh zu zl zc zw ++ wM E am zx) → lv_has ls 4 [(0, .ref b), (1, .ref (ad 0)), (2, .ref (am 0)), (3, .int (nI (i + 6)))] → W p l e room_1 s m #[Value.ref b] below meth c H locs (90 + 2 * (k + 1)) (150000 + 13 * (k + 1)) (lw_Z below #[Value.ref b] s) (F0 m 18 ls [])) (ad : Nat → Nat) (zt zs zg zh zu zl zc zw zx : OS) (H : Heap) (locs : List Loc) (ls : Array Slot) (hR : Rel zt zs zg zh zu zl zc zw zx) (hw : Wd E (LA s) s H locs (wX E ad zt zs zg zh zu zl zc zw ++ wM E am zx)) (hl : lv_has ls 4 [(0, .ref b), (1, .ref (ad 0)), (2, .ref (am 0)), (3, .int (nI i))]) : W p l e room_1 s m #[Value.ref b] below meth c H locs (90 + 2 * k) (150000 + 13 * k) (lw_Z below #[Value.ref b] s) (F0 m 584 ls []) := by
  obtain ⟨C0, hA, hX, hbl, hL⟩ := K0
  have hx := C0.1
  have hb := C0.2.1
  have hbA : ¬ LA s b := fun z => Nat.not_le.mpr hbl z
  refine lv_aload_n hx hb dL_law_584 rfl (lv_at hl 1 rfl) ?_
  refine lv_aload_n hx hb dL_law_585 rfl (lv_at hl 0 rfl) ?_
  refine lv_iload_n hx hb dL_law_586 rfl (lv_at hl 3 rfl) ?_
  refine lv_iconst (v := 1) hx hb dL_law_587 (by decide) ?_
  refine lv_iadd hx hb dL_law_588 ?_
  refine va_sld hx hb hX hbl hbA hw.2.2 (sc_in (j := 1) (by decide) (by omega) hL) dL_law_589 ?_
  obtain ⟨F1, F2, r, h1, h2, hR⟩ := R_step hR (xs (nI i + 1).toNatClampNeg)
  refine r_backP (va_runV (As := [.int (xs (nI i + 1).toNatClampNeg)]) (rest := []) ⟨hx, hb, C0.2.2.2.1, C0.2.2.2.2.1, C0.2.2.2.2.2.1⟩ (tX9_step l E ad zt zs zg zh zu zl zc zw (xs (nI i + 1).toNatClampNeg) h1 H.size) (cwV 1 C0.2.2.2.2.2.1 gL_X9_step rfl rfl rfl (by decide +kernel) ⟨Nat.le_of_ble_eq_true rfl, Nat.le_of_ble_eq_true rfl⟩) ⟨PG_blind, va_recv hA.2.2.1.1 hw.1 (ci := 9) (q0 := 0) rfl rfl, pg_at hA hw [0, 1, 2, 3, 4, 5, 6, 7, 8, 9, 10, 11, 12, 13, 14, 15, 16, 17, 18, 19, 20, 21, 22, 23, 24, 25, 26, 27, 28, 29, 30, 31, 32, 33, 34, 35, 36, 37, 38, 39, 40, 41, 42, 43, 44, 45, 46, 47, 48, 49] rfl (lcX E ad am zt zs zg zh zu zl zc zw zx)⟩ rfl rfl hl.1 rfl (lv_room (Nat.le_of_ble_eq_true rfl)) dL_law_590 ⟨by show _ ≤ 600000; omega, by show _ ≤ 7302250; omega⟩) hA hw [0, 1, 2, 3, 4, 5, 6, 7, 8, 9, 10, 11, 12, 13, 14, 15, 16, 17, 18, 19, 20, 21, 22, 23, 24, 25, 26, 27, 28, 29, 30, 31, 32, 33, 34, 35, 36, 37, 38, 39, 40, 41, 42, 43, 44, 45, 46, 47, 48, 49] [50, 51, 52, 53, 54, 55, 56, 57, 58, 59, 60, 61, 62, 63, 64, 65, 66, 67, 68, 69, 70, 71, 72, 73, 74, 75, 76, 77, 78, 79, 80, 81, 82, 83, 84, 85, 86] (lcX E ad am zt zs zg zh zu zl zc zw zx) (lcM E ad am zt zs zg zh zu zl zc zw zx) rfl (by decide) (fun H locs hw => ?_)
  have hw := lj1 hw
  refine W.widen (k := 90 + 2 * (k + 1)) (n := 150000 + 13 * (k + 1)) (by omega) (by omega) ?_
  refine lv_aload_n hx hb dL_law_593 rfl (lv_at hl 2 rfl) ?_
  refine lv_aload_n hx hb dL_law_594 rfl (lv_at hl 0 rfl) ?_
  refine lv_iload_n hx hb dL_law_595 rfl (lv_at hl 3 rfl) ?_
  refine lv_iconst (v := 1) hx hb dL_law_596 (by decide) ?_
  refine lv_iadd hx hb dL_law_597 ?_
  refine va_sld hx hb hX hbl hbA hw.2.2 (sc_in (j := 1) (by decide) (by omega) hL) dL_law_598 ?_
  refine r_backP (va_runV (As := [.int (xs (nI i + 1).toNatClampNeg)]) (rest := [.int r]) ⟨hx, hb, C0.2.2.2.1, C0.2.2.2.2.1, C0.2.2.2.2.2.1⟩ (tX10_step l E am zx (xs (nI i + 1).toNatClampNeg) h2 H.size) (cwV 1 C0.2.2.2.2.2.1 gL_X10_step rfl rfl rfl (by decide +kernel) ⟨Nat.le_of_ble_eq_true rfl, Nat.le_of_ble_eq_true rfl⟩) ⟨PG_blind, va_recv hA.2.2.1.1 hw.1 (ci := 10) (q0 := 50) rfl rfl, pg_at hA hw [50, 51, 52, 53, 54, 55, 56, 57, 58, 59, 60, 61, 62, 63, 64, 65, 66, 67, 68, 69, 70, 71, 72, 73, 74, 75, 76, 77, 78, 79, 80, 81, 82, 83, 84, 85, 86] rfl (lcM E ad am zt zs zg zh zu zl zc zw zx)⟩ rfl rfl hl.1 rfl (lv_room (Nat.le_of_ble_eq_true rfl)) dL_law_599 ⟨by show _ ≤ 600000; omega, by show _ ≤ 7302250; omega⟩) hA hw [50, 51, 52, 53, 54, 55, 56, 57, 58, 59, 60, 61, 62, 63, 64, 65, 66, 67, 68, 69, 70, 71, 72, 73, 74, 75, 76, 77, 78, 79, 80, 81, 82, 83, 84, 85, 86] [0, 1, 2, 3, 4, 5, 6, 7, 8, 9, 10, 11, 12, 13, 14, 15, 16, 17, 18, 19, 20, 21, 22, 23, 24, 25, 26, 27, 28, 29, 30, 31, 32, 33, 34, 35, 36, 37, 38, 39, 40, 41, 42, 43, 44, 45, 46, 47, 48, 49] (lcM E ad am zt zs zg zh zu zl zc zw zx) (lcX E ad am zt zs zg zh zu zl zc zw zx) rfl (by decide) (fun H locs hw => ?_)
  refine lv_icmp_eq (tgt := 888) hx hb dL_law_602 (by decide) (fun c1 => ?_) (fun c1 => absurd rfl c1)
  refine lv_iinc (v := nI (i + 6)) (lv' := [(3, .int (nI (i + 6))), (0, .ref b), (1, .ref (ad 0)), (2, .ref (am 0))]) hx hb dL_law_888 hl (k := 3) rfl (nI_add i 6) (by decide) rfl (fun ls hl => ?_)
  refine lv_goto (tgt := 18) hx hb dL_law_891 (by decide) ?_
  exact ih _ zt zs zg zh zu zl zc zw zx _ _ _ hR hw (lv_sub hl [1, 2, 3, 0] rfl)
set_option maxRecDepth 20000 in
set_option maxHeartbeats 4000000 in
theorem law_c13 {p : Program} {l : Launch} {e : Env} {s : State} {m : MethodId} {below : List Frame} {meth : Method} {c : Code} {b L : Nat} {xs : Nat → Int32} {E : EV} (K0 : LC p s m meth c b L xs E) {am : Nat → Nat} (i k : Nat) (hi : i + 6 ≤ L) (hk : k ≤ 512) (ih : ∀ (ad : Nat → Nat) (zt zs zg zh zu zl zc zw zx : OS) (H : Heap) (locs : List Loc) (ls : Array Slot), Rel zt zs zg zh zu zl zc zw zx → Wd E (LA s) s H locs (wX E ad zt zs zg zh zu zl zc zw ++ wM E am zx) → lv_has ls 4 [(0, .ref b), (1, .ref (ad 0)), (2, .ref (am 0)), (3, .int (nI (i + 6)))] → W p l e room_1 s m #[Value.ref b] below meth c H locs (90 + 2 * (k + 1)) (150000 + 13 * (k + 1)) (lw_Z below #[Value.ref b] s) (F0 m 18 ls [])) (ad : Nat → Nat) (zt zs zg zh zu zl zc zw zx : OS) (H : Heap) (locs : List Loc) (ls : Array Slot) (hR : Rel zt zs zg zh zu zl zc zw zx) (hw : Wd E (LA s) s H locs (wX E ad zt zs zg zh zu zl zc zw ++ wM E am zx)) (hl : lv_has ls 4 [(0, .ref b), (1, .ref (ad 0)), (2, .ref (am 0)), (3, .int (nI i))]) : W p l e room_1 s m #[Value.ref b] below meth c H locs (90 + 2 * k) (150000 + 13 * k) (lw_Z below #[Value.ref b] s) (F0 m 607 ls []) := by
  obtain ⟨C0, hA, hX, hbl, hL⟩ := K0
  have hx := C0.1
  have hb := C0.2.1
  have hbA : ¬ LA s b := fun z => Nat.not_le.mpr hbl z
  refine lv_aload_n hx hb dL_law_607 rfl (lv_at hl 1 rfl) ?_
  obtain ⟨F1, F2, r, h1, h2, hR⟩ := R_steps hR 
  refine r_backP (va_runV (As := []) (rest := []) ⟨hx, hb, C0.2.2.2.1, C0.2.2.2.2.1, C0.2.2.2.2.2.1⟩ (tX9_steps l E ad zt zs zg zh zu zl zc zw  h1 H.size) (cwV 0 C0.2.2.2.2.2.1 gL_X9_steps rfl rfl rfl (by decide +kernel) ⟨Nat.le_of_ble_eq_true rfl, Nat.le_of_ble_eq_true rfl⟩) ⟨PG_blind, va_recv hA.2.2.1.1 hw.1 (ci := 9) (q0 := 0) rfl rfl, pg_at hA hw [0, 1, 2, 3, 4, 5, 6, 7, 8, 9, 10, 11, 12, 13, 14, 15, 16, 17, 18, 19, 20, 21, 22, 23, 24, 25, 26, 27, 28, 29, 30, 31, 32, 33, 34, 35, 36, 37, 38, 39, 40, 41, 42, 43, 44, 45, 46, 47, 48, 49] rfl (lcX E ad am zt zs zg zh zu zl zc zw zx)⟩ rfl rfl hl.1 rfl (lv_room (Nat.le_of_ble_eq_true rfl)) dL_law_608 ⟨by show _ ≤ 600000; omega, by show _ ≤ 7302250; omega⟩) hA hw [0, 1, 2, 3, 4, 5, 6, 7, 8, 9, 10, 11, 12, 13, 14, 15, 16, 17, 18, 19, 20, 21, 22, 23, 24, 25, 26, 27, 28, 29, 30, 31, 32, 33, 34, 35, 36, 37, 38, 39, 40, 41, 42, 43, 44, 45, 46, 47, 48, 49] [50, 51, 52, 53, 54, 55, 56, 57, 58, 59, 60, 61, 62, 63, 64, 65, 66, 67, 68, 69, 70, 71, 72, 73, 74, 75, 76, 77, 78, 79, 80, 81, 82, 83, 84, 85, 86] (lcX E ad am zt zs zg zh zu zl zc zw zx) (lcM E ad am zt zs zg zh zu zl zc zw zx) rfl (by decide) (fun H locs hw => ?_)
  have hw := lj1 hw
  refine W.widen (k := 90 + 2 * (k + 1)) (n := 150000 + 13 * (k + 1)) (by omega) (by omega) ?_
  refine lv_aload_n hx hb dL_law_611 rfl (lv_at hl 2 rfl) ?_
  refine r_backP (va_runV (As := []) (rest := [.int r]) ⟨hx, hb, C0.2.2.2.1, C0.2.2.2.2.1, C0.2.2.2.2.2.1⟩ (tX10_steps l E am zx  h2 H.size) (cwV 0 C0.2.2.2.2.2.1 gL_X10_steps rfl rfl rfl (by decide +kernel) ⟨Nat.le_of_ble_eq_true rfl, Nat.le_of_ble_eq_true rfl⟩) ⟨PG_blind, va_recv hA.2.2.1.1 hw.1 (ci := 10) (q0 := 50) rfl rfl, pg_at hA hw [50, 51, 52, 53, 54, 55, 56, 57, 58, 59, 60, 61, 62, 63, 64, 65, 66, 67, 68, 69, 70, 71, 72, 73, 74, 75, 76, 77, 78, 79, 80, 81, 82, 83, 84, 85, 86] rfl (lcM E ad am zt zs zg zh zu zl zc zw zx)⟩ rfl rfl hl.1 rfl (lv_room (Nat.le_of_ble_eq_true rfl)) dL_law_612 ⟨by show _ ≤ 600000; omega, by show _ ≤ 7302250; omega⟩) hA hw [50, 51, 52, 53, 54, 55, 56, 57, 58, 59, 60, 61, 62, 63, 64, 65, 66, 67, 68, 69, 70, 71, 72, 73, 74, 75, 76, 77, 78, 79, 80, 81, 82, 83, 84, 85, 86] [0, 1, 2, 3, 4, 5, 6, 7, 8, 9, 10, 11, 12, 13, 14, 15, 16, 17, 18, 19, 20, 21, 22, 23, 24, 25, 26, 27, 28, 29, 30, 31, 32, 33, 34, 35, 36, 37, 38, 39, 40, 41, 42, 43, 44, 45, 46, 47, 48, 49] (lcM E ad am zt zs zg zh zu zl zc zw zx) (lcX E ad am zt zs zg zh zu zl zc zw zx) rfl (by decide) (fun H locs hw => ?_)
  refine lv_icmp_eq (tgt := 888) hx hb dL_law_615 (by decide) (fun c1 => ?_) (fun c1 => absurd rfl c1)
  refine lv_iinc (v := nI (i + 6)) (lv' := [(3, .int (nI (i + 6))), (0, .ref b), (1, .ref (ad 0)), (2, .ref (am 0))]) hx hb dL_law_888 hl (k := 3) rfl (nI_add i 6) (by decide) rfl (fun ls hl => ?_)
  refine lv_goto (tgt := 18) hx hb dL_law_891 (by decide) ?_
  exact ih _ zt zs zg zh zu zl zc zw zx _ _ _ hR hw (lv_sub hl [1, 2, 3, 0] rfl)
set_option maxRecDepth 20000 in
set_option maxHeartbeats 4000000 in
theorem law_c14 {p : Program} {l : Launch} {e : Env} {s : State} {m : MethodId} {below : List Frame} {meth : Method} {c : Code} {b L : Nat} {xs : Nat → Int32} {E : EV} (K0 : LC p s m meth c b L xs E) {am : Nat → Nat} (i k : Nat) (hi : i + 6 ≤ L) (hk : k ≤ 512) (ih : ∀ (ad : Nat → Nat) (zt zs zg zh zu zl zc zw zx : OS) (H : Heap) (locs : List Loc) (ls : Array Slot), Rel zt zs zg zh zu zl zc zw zx → Wd E (LA s) s H locs (wX E ad zt zs zg zh zu zl zc zw ++ wM E am zx) → lv_has ls 4 [(0, .ref b), (1, .ref (ad 0)), (2, .ref (am 0)), (3, .int (nI (i + 6)))] → W p l e room_1 s m #[Value.ref b] below meth c H locs (90 + 2 * (k + 1)) (150000 + 13 * (k + 1)) (lw_Z below #[Value.ref b] s) (F0 m 18 ls [])) (ad : Nat → Nat) (zt zs zg zh zu zl zc zw zx : OS) (H : Heap) (locs : List Loc) (ls : Array Slot) (hR : Rel zt zs zg zh zu zl zc zw zx) (hw : Wd E (LA s) s H locs (wX E ad zt zs zg zh zu zl zc zw ++ wM E am zx)) (hl : lv_has ls 4 [(0, .ref b), (1, .ref (ad 0)), (2, .ref (am 0)), (3, .int (nI i))]) : W p l e room_1 s m #[Value.ref b] below meth c H locs (90 + 2 * k) (150000 + 13 * k) (lw_Z below #[Value.ref b] s) (F0 m 620 ls []) := by
  obtain ⟨C0, hA, hX, hbl, hL⟩ := K0
  have hx := C0.1
  have hb := C0.2.1
  have hbA : ¬ LA s b := fun z => Nat.not_le.mpr hbl z
  refine lv_aload_n hx hb dL_law_620 rfl (lv_at hl 1 rfl) ?_
  refine lv_aload_n hx hb dL_law_621 rfl (lv_at hl 0 rfl) ?_
  refine lv_iload_n hx hb dL_law_622 rfl (lv_at hl 3 rfl) ?_
  refine lv_iconst (v := 1) hx hb dL_law_623 (by decide) ?_
  refine lv_iadd hx hb dL_law_624 ?_
  refine va_sld hx hb hX hbl hbA hw.2.2 (sc_in (j := 1) (by decide) (by omega) hL) dL_law_625 ?_
  refine lv_aload_n hx hb dL_law_626 rfl (lv_at hl 0 rfl) ?_
  refine lv_iload_n hx hb dL_law_627 rfl (lv_at hl 3 rfl) ?_
  refine lv_iconst (v := 2) hx hb dL_law_628 (by decide) ?_
  refine lv_iadd hx hb dL_law_629 ?_
  refine va_sld hx hb hX hbl hbA hw.2.2 (sc_in (j := 2) (by decide) (by omega) hL) dL_law_630 ?_
  refine lv_aload_n hx hb dL_law_631 rfl (lv_at hl 0 rfl) ?_
  refine lv_iload_n hx hb dL_law_632 rfl (lv_at hl 3 rfl) ?_
  refine lv_iconst (v := 3) hx hb dL_law_633 (by decide) ?_
  refine lv_iadd hx hb dL_law_634 ?_
  refine va_sld hx hb hX hbl hbA hw.2.2 (sc_in (j := 3) (by decide) (by omega) hL) dL_law_635 ?_
  refine lv_aload_n hx hb dL_law_636 rfl (lv_at hl 0 rfl) ?_
  refine lv_iload_n hx hb dL_law_637 rfl (lv_at hl 3 rfl) ?_
  refine lv_iconst (v := 4) hx hb dL_law_638 (by decide) ?_
  refine lv_iadd hx hb dL_law_639 ?_
  refine va_sld hx hb hX hbl hbA hw.2.2 (sc_in (j := 4) (by decide) (by omega) hL) dL_law_640 ?_
  obtain ⟨F1, F2, r, h1, h2, hR⟩ := R_stroke hR (xs (nI i + 1).toNatClampNeg) (xs (nI i + 2).toNatClampNeg) (xs (nI i + 3).toNatClampNeg) (xs (nI i + 4).toNatClampNeg)
  refine r_backP (va_runV (As := [.int (xs (nI i + 1).toNatClampNeg), .int (xs (nI i + 2).toNatClampNeg), .int (xs (nI i + 3).toNatClampNeg), .int (xs (nI i + 4).toNatClampNeg)]) (rest := []) ⟨hx, hb, C0.2.2.2.1, C0.2.2.2.2.1, C0.2.2.2.2.2.1⟩ (tX9_stroke l E ad zt zs zg zh zu zl zc zw (xs (nI i + 1).toNatClampNeg) (xs (nI i + 2).toNatClampNeg) (xs (nI i + 3).toNatClampNeg) (xs (nI i + 4).toNatClampNeg) h1 H.size) (cwV 4 C0.2.2.2.2.2.1 gL_X9_stroke rfl rfl rfl (by decide +kernel) ⟨Nat.le_of_ble_eq_true rfl, Nat.le_of_ble_eq_true rfl⟩) ⟨PG_blind, va_recv hA.2.2.1.1 hw.1 (ci := 9) (q0 := 0) rfl rfl, pg_at hA hw [0, 1, 2, 3, 4, 5, 6, 7, 8, 9, 10, 11, 12, 13, 14, 15, 16, 17, 18, 19, 20, 21, 22, 23, 24, 25, 26, 27, 28, 29, 30, 31, 32, 33, 34, 35, 36, 37, 38, 39, 40, 41, 42, 43, 44, 45, 46, 47, 48, 49] rfl (lcX E ad am zt zs zg zh zu zl zc zw zx)⟩ rfl rfl hl.1 rfl (lv_room (Nat.le_of_ble_eq_true rfl)) dL_law_641 ⟨by show _ ≤ 600000; omega, by show _ ≤ 7302250; omega⟩) hA hw [0, 1, 2, 3, 4, 5, 6, 7, 8, 9, 10, 11, 12, 13, 14, 15, 16, 17, 18, 19, 20, 21, 22, 23, 24, 25, 26, 27, 28, 29, 30, 31, 32, 33, 34, 35, 36, 37, 38, 39, 40, 41, 42, 43, 44, 45, 46, 47, 48, 49] [50, 51, 52, 53, 54, 55, 56, 57, 58, 59, 60, 61, 62, 63, 64, 65, 66, 67, 68, 69, 70, 71, 72, 73, 74, 75, 76, 77, 78, 79, 80, 81, 82, 83, 84, 85, 86] (lcX E ad am zt zs zg zh zu zl zc zw zx) (lcM E ad am zt zs zg zh zu zl zc zw zx) rfl (by decide) (fun H locs hw => ?_)
  have hw := lj1 hw
  refine W.widen (k := 90 + 2 * (k + 1)) (n := 150000 + 13 * (k + 1)) (by omega) (by omega) ?_
  refine lv_aload_n hx hb dL_law_644 rfl (lv_at hl 2 rfl) ?_
  refine lv_aload_n hx hb dL_law_645 rfl (lv_at hl 0 rfl) ?_
  refine lv_iload_n hx hb dL_law_646 rfl (lv_at hl 3 rfl) ?_
  refine lv_iconst (v := 1) hx hb dL_law_647 (by decide) ?_
  refine lv_iadd hx hb dL_law_648 ?_
  refine va_sld hx hb hX hbl hbA hw.2.2 (sc_in (j := 1) (by decide) (by omega) hL) dL_law_649 ?_
  refine lv_aload_n hx hb dL_law_650 rfl (lv_at hl 0 rfl) ?_
  refine lv_iload_n hx hb dL_law_651 rfl (lv_at hl 3 rfl) ?_
  refine lv_iconst (v := 2) hx hb dL_law_652 (by decide) ?_
  refine lv_iadd hx hb dL_law_653 ?_
  refine va_sld hx hb hX hbl hbA hw.2.2 (sc_in (j := 2) (by decide) (by omega) hL) dL_law_654 ?_
  refine lv_aload_n hx hb dL_law_655 rfl (lv_at hl 0 rfl) ?_
  refine lv_iload_n hx hb dL_law_656 rfl (lv_at hl 3 rfl) ?_
  refine lv_iconst (v := 3) hx hb dL_law_657 (by decide) ?_
  refine lv_iadd hx hb dL_law_658 ?_
  refine va_sld hx hb hX hbl hbA hw.2.2 (sc_in (j := 3) (by decide) (by omega) hL) dL_law_659 ?_
  refine lv_aload_n hx hb dL_law_660 rfl (lv_at hl 0 rfl) ?_
  refine lv_iload_n hx hb dL_law_661 rfl (lv_at hl 3 rfl) ?_
  refine lv_iconst (v := 4) hx hb dL_law_662 (by decide) ?_
  refine lv_iadd hx hb dL_law_663 ?_
  refine va_sld hx hb hX hbl hbA hw.2.2 (sc_in (j := 4) (by decide) (by omega) hL) dL_law_664 ?_
  refine r_backP (va_runV (As := [.int (xs (nI i + 1).toNatClampNeg), .int (xs (nI i + 2).toNatClampNeg), .int (xs (nI i + 3).toNatClampNeg), .int (xs (nI i + 4).toNatClampNeg)]) (rest := [.int r]) ⟨hx, hb, C0.2.2.2.1, C0.2.2.2.2.1, C0.2.2.2.2.2.1⟩ (tX10_stroke l E am zx (xs (nI i + 1).toNatClampNeg) (xs (nI i + 2).toNatClampNeg) (xs (nI i + 3).toNatClampNeg) (xs (nI i + 4).toNatClampNeg) h2 H.size) (cwV 4 C0.2.2.2.2.2.1 gL_X10_stroke rfl rfl rfl (by decide +kernel) ⟨Nat.le_of_ble_eq_true rfl, Nat.le_of_ble_eq_true rfl⟩) ⟨PG_blind, va_recv hA.2.2.1.1 hw.1 (ci := 10) (q0 := 50) rfl rfl, pg_at hA hw [50, 51, 52, 53, 54, 55, 56, 57, 58, 59, 60, 61, 62, 63, 64, 65, 66, 67, 68, 69, 70, 71, 72, 73, 74, 75, 76, 77, 78, 79, 80, 81, 82, 83, 84, 85, 86] rfl (lcM E ad am zt zs zg zh zu zl zc zw zx)⟩ rfl rfl hl.1 rfl (lv_room (Nat.le_of_ble_eq_true rfl)) dL_law_665 ⟨by show _ ≤ 600000; omega, by show _ ≤ 7302250; omega⟩) hA hw [50, 51, 52, 53, 54, 55, 56, 57, 58, 59, 60, 61, 62, 63, 64, 65, 66, 67, 68, 69, 70, 71, 72, 73, 74, 75, 76, 77, 78, 79, 80, 81, 82, 83, 84, 85, 86] [0, 1, 2, 3, 4, 5, 6, 7, 8, 9, 10, 11, 12, 13, 14, 15, 16, 17, 18, 19, 20, 21, 22, 23, 24, 25, 26, 27, 28, 29, 30, 31, 32, 33, 34, 35, 36, 37, 38, 39, 40, 41, 42, 43, 44, 45, 46, 47, 48, 49] (lcM E ad am zt zs zg zh zu zl zc zw zx) (lcX E ad am zt zs zg zh zu zl zc zw zx) rfl (by decide) (fun H locs hw => ?_)
  refine lv_icmp_eq (tgt := 888) hx hb dL_law_668 (by decide) (fun c1 => ?_) (fun c1 => absurd rfl c1)
  refine lv_iinc (v := nI (i + 6)) (lv' := [(3, .int (nI (i + 6))), (0, .ref b), (1, .ref (ad 0)), (2, .ref (am 0))]) hx hb dL_law_888 hl (k := 3) rfl (nI_add i 6) (by decide) rfl (fun ls hl => ?_)
  refine lv_goto (tgt := 18) hx hb dL_law_891 (by decide) ?_
  exact ih _ zt zs zg zh zu zl zc zw zx _ _ _ hR hw (lv_sub hl [1, 2, 3, 0] rfl)

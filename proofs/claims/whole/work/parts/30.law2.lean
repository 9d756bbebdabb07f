set_option maxRecDepth 20000 in
set_option maxHeartbeats 4000000 in
theorem law_c5 {p : Program} {l : Launch} {e : Env} {s : State} {m : MethodId} {below : List Frame} {meth : Method} {c : Code} {b L : Nat} {xs : Nat → Int32} {E : EV} (K0 : LC p s m meth c b L xs E) {am : Nat → Nat} (i k : Nat) (hi : i + 6 ≤ L) (hk : k ≤ 512) (ih : ∀ (ad : Nat → Nat) (zt zs zg zh zu zl zc zw zx : OS) (H : Heap) (locs : List Loc) (ls : Array Slot), Rel zt zs zg zh zu zl zc zw zx → Wd E (LA s) s H locs (wX E ad zt zs zg zh zu zl zc zw ++ wM E am zx) → lv_has ls 4 [(0, .ref b), (1, .ref (ad 0)), (2, .ref (am 0)), (3, .int (nI (i + 6)))] → W p l e room_1 s m #[Value.ref b] below meth c H locs (90 + 2 * (k + 1)) (150000 + 13 * (k + 1)) (lw_Z below #[Value.ref b] s) (F0 m 18 ls [])) (ad : Nat → Nat) (zt zs zg zh zu zl zc zw zx : OS) (H : Heap) (locs : List Loc) (ls : Array Slot) (hR : Rel zt zs zg zh zu zl zc zw zx) (hw : Wd E (LA s) s H locs (wX E ad zt zs zg zh zu zl zc zw ++ wM E am zx)) (hl : lv_has ls 4 [(0, .ref b), (1, .ref (ad 0)), (2, .ref (am 0)), (3, .int (nI i))]) : W p l e room_1 s m #[Value.ref b] below meth c H locs (90 + 2 * k) (150000 + 13 * k) (lw_Z below #[Value.ref b] s) (F0 m 283 ls []) := by
  obtain ⟨C0, hA, hX, hbl, hL⟩ := K0
  have hx := C0.1
  have hb := C0.2.1
  have hbA : ¬ LA s b := fun z => Nat.not_le.mpr hbl z
  refine lv_aload_n hx hb dL_law_283 rfl (lv_at hl 1 rfl) ?_
  refine lv_aload_n hx hb dL_law_284 rfl (lv_at hl 0 rfl) ?_
  refine lv_iload_n hx hb dL_law_285 rfl (lv_at hl 3 rfl) ?_
  refine lv_iconst (v := 1) hx hb dL_law_286 (by decide) ?_
  refine lv_iadd hx hb dL_law_287 ?_
  refine va_sld hx hb hX hbl hbA hw.2.2 (sc_in (j := 1) (by decide) (by omega) hL) dL_law_288 ?_
  refine lv_aload_n hx hb dL_law_289 rfl (lv_at hl 0 rfl) ?_
  refine lv_iload_n hx hb dL_law_290 rfl (lv_at hl 3 rfl) ?_
  refine lv_iconst (v := 2) hx hb dL_law_291 (by decide) ?_
  refine lv_iadd hx hb dL_law_292 ?_
  refine va_sld hx hb hX hbl hbA hw.2.2 (sc_in (j := 2) (by decide) (by omega) hL) dL_law_293 ?_
  refine lv_i2l hx hb dL_law_294 rfl ?_
  refine lv_bipush (v := 32) hx hb dL_law_295 (by decide) ?_
  refine lv_lshl hx hb dL_law_297 rfl ?_
  refine lv_aload_n hx hb dL_law_298 rfl (lv_at hl 0 rfl) ?_
  refine lv_iload_n hx hb dL_law_299 rfl (lv_at hl 3 rfl) ?_
  refine lv_iconst (v := 3) hx hb dL_law_300 (by decide) ?_
  refine lv_iadd hx hb dL_law_301 ?_
  refine va_sld hx hb hX hbl hbA hw.2.2 (sc_in (j := 3) (by decide) (by omega) hL) dL_law_302 ?_
  refine lv_i2l hx hb dL_law_303 rfl ?_
  refine lv_ldc2 (v := 4294967295) hx hb C0.2.2.2.2.1 (C0.2.2.2.2.2.1 (.constantLong RL 13 4294967295) (by decide +kernel)) dL_law_304 ?_
  refine lv_land hx hb dL_law_307 ?_
  refine lv_lor hx hb dL_law_308 ?_
  obtain ⟨F1, F2, r, zt1, zu1, zl1, zx1, h1, h2, hR⟩ := R_make hR (xs (nI i + 1).toNatClampNeg) ((((xs (nI i + 2).toNatClampNeg).toInt64) <<< ((32 : Int32).toInt64 &&& 63)) ||| (((xs (nI i + 3).toNatClampNeg).toInt64) &&& 4294967295))
  refine r_back (va_runV (As := [.int (xs (nI i + 1).toNatClampNeg), .long ((((xs (nI i + 2).toNatClampNeg).toInt64) <<< ((32 : Int32).toInt64 &&& 63)) ||| (((xs (nI i + 3).toNatClampNeg).toInt64) &&& 4294967295))]) (rest := []) ⟨hx, hb, C0.2.2.2.1, C0.2.2.2.2.1, C0.2.2.2.2.2.1⟩ (tX9_make l E ad F1 zt zs zg zh zu zl zc zw (xs (nI i + 1).toNatClampNeg) ((((xs (nI i + 2).toNatClampNeg).toInt64) <<< ((32 : Int32).toInt64 &&& 63)) ||| (((xs (nI i + 3).toNatClampNeg).toInt64) &&& 4294967295)) h1 H.size) (cwV 2 C0.2.2.2.2.2.1 gL_X9_make rfl rfl rfl (by decide +kernel) ⟨Nat.le_of_ble_eq_true rfl, Nat.le_of_ble_eq_true rfl⟩) ⟨PG_blind, va_recv hA.2.2.1.1 hw.1 (ci := 9) (q0 := 0) rfl rfl, pg_at hA hw [0, 1, 2, 3, 4, 5, 6, 7, 8, 9, 10, 11, 12, 13, 14, 15, 16, 17, 18, 19, 20, 21, 22, 23, 24, 25, 26, 27, 28, 29, 30, 31, 32, 33, 34, 35, 36, 37, 38, 39, 40, 41, 42, 43, 44, 45, 46, 47, 48, 49] rfl (lcX E ad am zt zs zg zh zu zl zc zw zx)⟩ rfl rfl hl.1 rfl (lv_room (Nat.le_of_ble_eq_true rfl)) dL_law_309 ⟨by show _ ≤ 600000; omega, by show _ ≤ 7302250; omega⟩) hA hw [0, 1, 2, 3, 4, 5, 6, 7, 8, 9, 10, 11, 12, 13, 14, 15, 16, 17, 18, 19, 20, 21, 22, 23, 24, 25, 26, 27, 28, 29, 30, 31, 32, 33, 34, 35, 36, 37, 38, 39, 40, 41, 42, 43, 44, 45, 46, 47, 48, 49] [50, 51, 52, 53, 54, 55, 56, 57, 58, 59, 60, 61, 62, 63, 64, 65, 66, 67, 68, 69, 70, 71, 72, 73, 74, 75, 76, 77, 78, 79, 80, 81, 82, 83, 84, 85, 86] (lcX E ad am zt zs zg zh zu zl zc zw zx) (lcM E ad am zt zs zg zh zu zl zc zw zx) rfl (by decide) (fun v w1 H locs hq hw => ?_)
  obtain ⟨rfl, ad2, ex, had, rfl⟩ := hq
  have hw := lj2 hw
  refine W.widen (k := 90 + 2 * (k + 1)) (n := 150000 + 13 * (k + 1)) (by omega) (by omega) ?_
  have hl : lv_has ls 4 [(0, .ref b), (1, .ref (ad2 0)), (2, .ref (am 0)), (3, .int (nI i))] := by rw [had]; exact hl
  generalize ad2 = ad at hw hl
  refine lv_aload_n hx hb dL_law_312 rfl (lv_at hl 2 rfl) ?_
  refine lv_aload_n hx hb dL_law_313 rfl (lv_at hl 0 rfl) ?_
  refine lv_iload_n hx hb dL_law_314 rfl (lv_at hl 3 rfl) ?_
  refine lv_iconst (v := 1) hx hb dL_law_315 (by decide) ?_
  refine lv_iadd hx hb dL_law_316 ?_
  refine va_sld hx hb hX hbl hbA hw.2.2 (sc_in (j := 1) (by decide) (by omega) hL) dL_law_317 ?_
  refine lv_aload_n hx hb dL_law_318 rfl (lv_at hl 0 rfl) ?_
  refine lv_iload_n hx hb dL_law_319 rfl (lv_at hl 3 rfl) ?_
  refine lv_iconst (v := 2) hx hb dL_law_320 (by decide) ?_
  refine lv_iadd hx hb dL_law_321 ?_
  refine va_sld hx hb hX hbl hbA hw.2.2 (sc_in (j := 2) (by decide) (by omega) hL) dL_law_322 ?_
  refine lv_i2l hx hb dL_law_323 rfl ?_
  refine lv_bipush (v := 32) hx hb dL_law_324 (by decide) ?_
  refine lv_lshl hx hb dL_law_326 rfl ?_
  refine lv_aload_n hx hb dL_law_327 rfl (lv_at hl 0 rfl) ?_
  refine lv_iload_n hx hb dL_law_328 rfl (lv_at hl 3 rfl) ?_
  refine lv_iconst (v := 3) hx hb dL_law_329 (by decide) ?_
  refine lv_iadd hx hb dL_law_330 ?_
  refine va_sld hx hb hX hbl hbA hw.2.2 (sc_in (j := 3) (by decide) (by omega) hL) dL_law_331 ?_
  refine lv_i2l hx hb dL_law_332 rfl ?_
  refine lv_ldc2 (v := 4294967295) hx hb C0.2.2.2.2.1 (C0.2.2.2.2.2.1 (.constantLong RL 13 4294967295) (by decide +kernel)) dL_law_333 ?_
  refine lv_land hx hb dL_law_336 ?_
  refine lv_lor hx hb dL_law_337 ?_
  refine r_backP (va_runV (As := [.int (xs (nI i + 1).toNatClampNeg), .long ((((xs (nI i + 2).toNatClampNeg).toInt64) <<< ((32 : Int32).toInt64 &&& 63)) ||| (((xs (nI i + 3).toNatClampNeg).toInt64) &&& 4294967295))]) (rest := [.int r]) ⟨hx, hb, C0.2.2.2.1, C0.2.2.2.2.1, C0.2.2.2.2.2.1⟩ (tX10_make l E am F2 zx (xs (nI i + 1).toNatClampNeg) ((((xs (nI i + 2).toNatClampNeg).toInt64) <<< ((32 : Int32).toInt64 &&& 63)) ||| (((xs (nI i + 3).toNatClampNeg).toInt64) &&& 4294967295)) h2 H.size) (cwV 2 C0.2.2.2.2.2.1 gL_X10_make rfl rfl rfl (by decide +kernel) ⟨Nat.le_of_ble_eq_true rfl, Nat.le_of_ble_eq_true rfl⟩) ⟨PG_blind, va_recv hA.2.2.1.1 hw.1 (ci := 10) (q0 := 50) rfl rfl, pg_at hA hw [50, 51, 52, 53, 54, 55, 56, 57, 58, 59, 60, 61, 62, 63, 64, 65, 66, 67, 68, 69, 70, 71, 72, 73, 74, 75, 76, 77, 78, 79, 80, 81, 82, 83, 84, 85, 86] rfl (lcM E ad am zt1 zs zg zh zu1 zl1 zc zw zx)⟩ rfl rfl hl.1 rfl (lv_room (Nat.le_of_ble_eq_true rfl)) dL_law_338 ⟨by show _ ≤ 600000; omega, by show _ ≤ 7302250; omega⟩) hA hw [50, 51, 52, 53, 54, 55, 56, 57, 58, 59, 60, 61, 62, 63, 64, 65, 66, 67, 68, 69, 70, 71, 72, 73, 74, 75, 76, 77, 78, 79, 80, 81, 82, 83, 84, 85, 86] [0, 1, 2, 3, 4, 5, 6, 7, 8, 9, 10, 11, 12, 13, 14, 15, 16, 17, 18, 19, 20, 21, 22, 23, 24, 25, 26, 27, 28, 29, 30, 31, 32, 33, 34, 35, 36, 37, 38, 39, 40, 41, 42, 43, 44, 45, 46, 47, 48, 49] (lcM E ad am zt1 zs zg zh zu1 zl1 zc zw zx) (lcX E ad am zt1 zs zg zh zu1 zl1 zc zw zx) rfl (by decide) (fun H locs hw => ?_)
  refine lv_icmp_eq (tgt := 888) hx hb dL_law_341 (by decide) (fun c1 => ?_) (fun c1 => absurd rfl c1)
  refine lv_iinc (v := nI (i + 6)) (lv' := [(3, .int (nI (i + 6))), (0, .ref b), (1, .ref (ad 0)), (2, .ref (am 0))]) hx hb dL_law_888 hl (k := 3) rfl (nI_add i 6) (by decide) rfl (fun ls hl => ?_)
  refine lv_goto (tgt := 18) hx hb dL_law_891 (by decide) ?_
  exact ih _ zt1 zs zg zh zu1 zl1 zc zw zx1 _ _ _ hR hw (lv_sub hl [1, 2, 3, 0] rfl)
set_option maxRecDepth 20000 in
set_option maxHeartbeats 4000000 in
theorem law_c6 {p : Program} {l : Launch} {e : Env} {s : State} {m : MethodId} {below : List Frame} {meth : Method} {c : Code} {b L : Nat} {xs : Nat → Int32} {E : EV} (K0 : LC p s m meth c b L xs E) {am : Nat → Nat} (i k : Nat) (hi : i + 6 ≤ L) (hk : k ≤ 512) (ih : ∀ (ad : Nat → Nat) (zt zs zg zh zu zl zc zw zx : OS) (H : Heap) (locs : List Loc) (ls : Array Slot), Rel zt zs zg zh zu zl zc zw zx → Wd E (LA s) s H locs (wX E ad zt zs zg zh zu zl zc zw ++ wM E am zx) → lv_has ls 4 [(0, .ref b), (1, .ref (ad 0)), (2, .ref (am 0)), (3, .int (nI (i + 6)))] → W p l e room_1 s m #[Value.ref b] below meth c H locs (90 + 2 * (k + 1)) (150000 + 13 * (k + 1)) (lw_Z below #[Value.ref b] s) (F0 m 18 ls [])) (ad : Nat → Nat) (zt zs zg zh zu zl zc zw zx : OS) (H : Heap) (locs : List Loc) (ls : Array Slot) (hR : Rel zt zs zg zh zu zl zc zw zx) (hw : Wd E (LA s) s H locs (wX E ad zt zs zg zh zu zl zc zw ++ wM E am zx)) (hl : lv_has ls 4 [(0, .ref b), (1, .ref (ad 0)), (2, .ref (am 0)), (3, .int (nI i))]) : W p l e room_1 s m #[Value.ref b] below meth c H locs (90 + 2 * k) (150000 + 13 * k) (lw_Z below #[Value.ref b] s) (F0 m 346 ls []) := by
  obtain ⟨C0, hA, hX, hbl, hL⟩ := K0
  have hx := C0.1
  have hb := C0.2.1
  have hbA : ¬ LA s b := fun z => Nat.not_le.mpr hbl z
  refine lv_aload_n hx hb dL_law_346 rfl (lv_at hl 1 rfl) ?_
  obtain ⟨F1, F2, r, h1, h2, hR⟩ := R_tries hR 
  refine r_backP (va_runV (As := []) (rest := []) ⟨hx, hb, C0.2.2.2.1, C0.2.2.2.2.1, C0.2.2.2.2.2.1⟩ (tX9_tries l E ad zt zs zg zh zu zl zc zw  h1 H.size) (cwV 0 C0.2.2.2.2.2.1 gL_X9_tries rfl rfl rfl (by decide +kernel) ⟨Nat.le_of_ble_eq_true rfl, Nat.le_of_ble_eq_true rfl⟩) ⟨PG_blind, va_recv hA.2.2.1.1 hw.1 (ci := 9) (q0 := 0) rfl rfl, pg_at hA hw [0, 1, 2, 3, 4, 5, 6, 7, 8, 9, 10, 11, 12, 13, 14, 15, 16, 17, 18, 19, 20, 21, 22, 23, 24, 25, 26, 27, 28, 29, 30, 31, 32, 33, 34, 35, 36, 37, 38, 39, 40, 41, 42, 43, 44, 45, 46, 47, 48, 49] rfl (lcX E ad am zt zs zg zh zu zl zc zw zx)⟩ rfl rfl hl.1 rfl (lv_room (Nat.le_of_ble_eq_true rfl)) dL_law_347 ⟨by show _ ≤ 600000; omega, by show _ ≤ 7302250; omega⟩) hA hw [0, 1, 2, 3, 4, 5, 6, 7, 8, 9, 10, 11, 12, 13, 14, 15, 16, 17, 18, 19, 20, 21, 22, 23, 24, 25, 26, 27, 28, 29, 30, 31, 32, 33, 34, 35, 36, 37, 38, 39, 40, 41, 42, 43, 44, 45, 46, 47, 48, 49] [50, 51, 52, 53, 54, 55, 56, 57, 58, 59, 60, 61, 62, 63, 64, 65, 66, 67, 68, 69, 70, 71, 72, 73, 74, 75, 76, 77, 78, 79, 80, 81, 82, 83, 84, 85, 86] (lcX E ad am zt zs zg zh zu zl zc zw zx) (lcM E ad am zt zs zg zh zu zl zc zw zx) rfl (by decide) (fun H locs hw => ?_)
  have hw := lj1 hw
  refine W.widen (k := 90 + 2 * (k + 1)) (n := 150000 + 13 * (k + 1)) (by omega) (by omega) ?_
  refine lv_aload_n hx hb dL_law_350 rfl (lv_at hl 2 rfl) ?_
  refine r_backP (va_runV (As := []) (rest := [.int r]) ⟨hx, hb, C0.2.2.2.1, C0.2.2.2.2.1, C0.2.2.2.2.2.1⟩ (tX10_tries l E am zx  h2 H.size) (cwV 0 C0.2.2.2.2.2.1 gL_X10_tries rfl rfl rfl (by decide +kernel) ⟨Nat.le_of_ble_eq_true rfl, Nat.le_of_ble_eq_true rfl⟩) ⟨PG_blind, va_recv hA.2.2.1.1 hw.1 (ci := 10) (q0 := 50) rfl rfl, pg_at hA hw [50, 51, 52, 53, 54, 55, 56, 57, 58, 59, 60, 61, 62, 63, 64, 65, 66, 67, 68, 69, 70, 71, 72, 73, 74, 75, 76, 77, 78, 79, 80, 81, 82, 83, 84, 85, 86] rfl (lcM E ad am zt zs zg zh zu zl zc zw zx)⟩ rfl rfl hl.1 rfl (lv_room (Nat.le_of_ble_eq_true rfl)) dL_law_351 ⟨by show _ ≤ 600000; omega, by show _ ≤ 7302250; omega⟩) hA hw [50, 51, 52, 53, 54, 55, 56, 57, 58, 59, 60, 61, 62, 63, 64, 65, 66, 67, 68, 69, 70, 71, 72, 73, 74, 75, 76, 77, 78, 79, 80, 81, 82, 83, 84, 85, 86] [0, 1, 2, 3, 4, 5, 6, 7, 8, 9, 10, 11, 12, 13, 14, 15, 16, 17, 18, 19, 20, 21, 22, 23, 24, 25, 26, 27, 28, 29, 30, 31, 32, 33, 34, 35, 36, 37, 38, 39, 40, 41, 42, 43, 44, 45, 46, 47, 48, 49] (lcM E ad am zt zs zg zh zu zl zc zw zx) (lcX E ad am zt zs zg zh zu zl zc zw zx) rfl (by decide) (fun H locs hw => ?_)
  refine lv_icmp_eq (tgt := 888) hx hb dL_law_354 (by decide) (fun c1 => ?_) (fun c1 => absurd rfl c1)
  refine lv_iinc (v := nI (i + 6)) (lv' := [(3, .int (nI (i + 6))), (0, .ref b), (1, .ref (ad 0)), (2, .ref (am 0))]) hx hb dL_law_888 hl (k := 3) rfl (nI_add i 6) (by decide) rfl (fun ls hl => ?_)
  refine lv_goto (tgt := 18) hx hb dL_law_891 (by decide) ?_
  exact ih _ zt zs zg zh zu zl zc zw zx _ _ _ hR hw (lv_sub hl [1, 2, 3, 0] rfl)
set_option maxRecDepth 20000 in
set_option maxHeartbeats 4000000 in
theorem law_c7 {p : Program} {l : Launch} {e : Env} {s : State} {m : MethodId} {below : List Frame} {meth : Method} {c : Code} {b L : Nat} {xs : Nat → Int32} {E : EV} (K0 : LC p s m meth c b L xs E) {am : Nat → Nat} (i k : Nat) (hi : i + 6 ≤ L) (hk : k ≤ 512) (ih : ∀ (ad : Nat → Nat) (zt zs zg zh zu zl zc zw zx : OS) (H : Heap) (locs : List Loc) (ls : Array Slot), Rel zt zs zg zh zu zl zc zw zx → Wd E (LA s) s H locs (wX E ad zt zs zg zh zu zl zc zw ++ wM E am zx) → lv_has ls 4 [(0, .ref b), (1, .ref (ad 0)), (2, .ref (am 0)), (3, .int (nI (i + 6)))] → W p l e room_1 s m #[Value.ref b] below meth c H locs (90 + 2 * (k + 1)) (150000 + 13 * (k + 1)) (lw_Z below #[Value.ref b] s) (F0 m 18 ls [])) (ad : Nat → Nat) (zt zs zg zh zu zl zc zw zx : OS) (H : Heap) (locs : List Loc) (ls : Array Slot) (hR : Rel zt zs zg zh zu zl zc zw zx) (hw : Wd E (LA s) s H locs (wX E ad zt zs zg zh zu zl zc zw ++ wM E am zx)) (hl : lv_has ls 4 [(0, .ref b), (1, .ref (ad 0)), (2, .ref (am 0)), (3, .int (nI i))]) : W p l e room_1 s m #[Value.ref b] below meth c H locs (90 + 2 * k) (150000 + 13 * k) (lw_Z below #[Value.ref b] s) (F0 m 359 ls []) := by
  obtain ⟨C0, hA, hX, hbl, hL⟩ := K0
  have hx := C0.1
  have hb := C0.2.1
  have hbA : ¬ LA s b := fun z => Nat.not_le.mpr hbl z
  refine lv_aload_n hx hb dL_law_359 rfl (lv_at hl 1 rfl) ?_
  refine lv_aload_n hx hb dL_law_360 rfl (lv_at hl 0 rfl) ?_
  refine lv_iload_n hx hb dL_law_361 rfl (lv_at hl 3 rfl) ?_
  refine lv_iconst (v := 1) hx hb dL_law_362 (by decide) ?_
  refine lv_iadd hx hb dL_law_363 ?_
  refine va_sld hx hb hX hbl hbA hw.2.2 (sc_in (j := 1) (by decide) (by omega) hL) dL_law_364 ?_
  refine lv_aload_n hx hb dL_law_365 rfl (lv_at hl 0 rfl) ?_
  refine lv_iload_n hx hb dL_law_366 rfl (lv_at hl 3 rfl) ?_
  refine lv_iconst (v := 2) hx hb dL_law_367 (by decide) ?_
  refine lv_iadd hx hb dL_law_368 ?_
  refine va_sld hx hb hX hbl hbA hw.2.2 (sc_in (j := 2) (by decide) (by omega) hL) dL_law_369 ?_
  obtain ⟨F1, F2, r, h1, h2, hR⟩ := R_item hR (xs (nI i + 1).toNatClampNeg) (xs (nI i + 2).toNatClampNeg)
  refine r_backP (va_runV (As := [.int (xs (nI i + 1).toNatClampNeg), .int (xs (nI i + 2).toNatClampNeg)]) (rest := []) ⟨hx, hb, C0.2.2.2.1, C0.2.2.2.2.1, C0.2.2.2.2.2.1⟩ (tX9_item l E ad zt zs zg zh zu zl zc zw (xs (nI i + 1).toNatClampNeg) (xs (nI i + 2).toNatClampNeg) h1 H.size) (cwV 2 C0.2.2.2.2.2.1 gL_X9_item rfl rfl rfl (by decide +kernel) ⟨Nat.le_of_ble_eq_true rfl, Nat.le_of_ble_eq_true rfl⟩) ⟨PG_blind, va_recv hA.2.2.1.1 hw.1 (ci := 9) (q0 := 0) rfl rfl, pg_at hA hw [0, 1, 2, 3, 4, 5, 6, 7, 8, 9, 10, 11, 12, 13, 14, 15, 16, 17, 18, 19, 20, 21, 22, 23, 24, 25, 26, 27, 28, 29, 30, 31, 32, 33, 34, 35, 36, 37, 38, 39, 40, 41, 42, 43, 44, 45, 46, 47, 48, 49] rfl (lcX E ad am zt zs zg zh zu zl zc zw zx)⟩ rfl rfl hl.1 rfl (lv_room (Nat.le_of_ble_eq_true rfl)) dL_law_370 ⟨by show _ ≤ 600000; omega, by show _ ≤ 7302250; omega⟩) hA hw [0, 1, 2, 3, 4, 5, 6, 7, 8, 9, 10, 11, 12, 13, 14, 15, 16, 17, 18, 19, 20, 21, 22, 23, 24, 25, 26, 27, 28, 29, 30, 31, 32, 33, 34, 35, 36, 37, 38, 39, 40, 41, 42, 43, 44, 45, 46, 47, 48, 49] [50, 51, 52, 53, 54, 55, 56, 57, 58, 59, 60, 61, 62, 63, 64, 65, 66, 67, 68, 69, 70, 71, 72, 73, 74, 75, 76, 77, 78, 79, 80, 81, 82, 83, 84, 85, 86] (lcX E ad am zt zs zg zh zu zl zc zw zx) (lcM E ad am zt zs zg zh zu zl zc zw zx) rfl (by decide) (fun H locs hw => ?_)
  have hw := lj1 hw
  refine W.widen (k := 90 + 2 * (k + 1)) (n := 150000 + 13 * (k + 1)) (by omega) (by omega) ?_
  refine lv_aload_n hx hb dL_law_373 rfl (lv_at hl 2 rfl) ?_
  refine lv_aload_n hx hb dL_law_374 rfl (lv_at hl 0 rfl) ?_
  refine lv_iload_n hx hb dL_law_375 rfl (lv_at hl 3 rfl) ?_
  refine lv_iconst (v := 1) hx hb dL_law_376 (by decide) ?_
  refine lv_iadd hx hb dL_law_377 ?_
  refine va_sld hx hb hX hbl hbA hw.2.2 (sc_in (j := 1) (by decide) (by omega) hL) dL_law_378 ?_
  refine lv_aload_n hx hb dL_law_379 rfl (lv_at hl 0 rfl) ?_
  refine lv_iload_n hx hb dL_law_380 rfl (lv_at hl 3 rfl) ?_
  refine lv_iconst (v := 2) hx hb dL_law_381 (by decide) ?_
  refine lv_iadd hx hb dL_law_382 ?_
  refine va_sld hx hb hX hbl hbA hw.2.2 (sc_in (j := 2) (by decide) (by omega) hL) dL_law_383 ?_
  refine r_backP (va_runV (As := [.int (xs (nI i + 1).toNatClampNeg), .int (xs (nI i + 2).toNatClampNeg)]) (rest := [.int r]) ⟨hx, hb, C0.2.2.2.1, C0.2.2.2.2.1, C0.2.2.2.2.2.1⟩ (tX10_item l E am zx (xs (nI i + 1).toNatClampNeg) (xs (nI i + 2).toNatClampNeg) h2 H.size) (cwV 2 C0.2.2.2.2.2.1 gL_X10_item rfl rfl rfl (by decide +kernel) ⟨Nat.le_of_ble_eq_true rfl, Nat.le_of_ble_eq_true rfl⟩) ⟨PG_blind, va_recv hA.2.2.1.1 hw.1 (ci := 10) (q0 := 50) rfl rfl, pg_at hA hw [50, 51, 52, 53, 54, 55, 56, 57, 58, 59, 60, 61, 62, 63, 64, 65, 66, 67, 68, 69, 70, 71, 72, 73, 74, 75, 76, 77, 78, 79, 80, 81, 82, 83, 84, 85, 86] rfl (lcM E ad am zt zs zg zh zu zl zc zw zx)⟩ rfl rfl hl.1 rfl (lv_room (Nat.le_of_ble_eq_true rfl)) dL_law_384 ⟨by show _ ≤ 600000; omega, by show _ ≤ 7302250; omega⟩) hA hw [50, 51, 52, 53, 54, 55, 56, 57, 58, 59, 60, 61, 62, 63, 64, 65, 66, 67, 68, 69, 70, 71, 72, 73, 74, 75, 76, 77, 78, 79, 80, 81, 82, 83, 84, 85, 86] [0, 1, 2, 3, 4, 5, 6, 7, 8, 9, 10, 11, 12, 13, 14, 15, 16, 17, 18, 19, 20, 21, 22, 23, 24, 25, 26, 27, 28, 29, 30, 31, 32, 33, 34, 35, 36, 37, 38, 39, 40, 41, 42, 43, 44, 45, 46, 47, 48, 49] (lcM E ad am zt zs zg zh zu zl zc zw zx) (lcX E ad am zt zs zg zh zu zl zc zw zx) rfl (by decide) (fun H locs hw => ?_)
  refine lv_icmp_eq (tgt := 888) hx hb dL_law_387 (by decide) (fun c1 => ?_) (fun c1 => absurd rfl c1)
  refine lv_iinc (v := nI (i + 6)) (lv' := [(3, .int (nI (i + 6))), (0, .ref b), (1, .ref (ad 0)), (2, .ref (am 0))]) hx hb dL_law_888 hl (k := 3) rfl (nI_add i 6) (by decide) rfl (fun ls hl => ?_)
  refine lv_goto (tgt := 18) hx hb dL_law_891 (by decide) ?_
  exact ih _ zt zs zg zh zu zl zc zw zx _ _ _ hR hw (lv_sub hl [1, 2, 3, 0] rfl)
set_option maxRecDepth 20000 in
set_option maxHeartbeats 4000000 in
theorem law_c8 {p : Program} {l : Launch} {e : Env} {s : State} {m : MethodId} {below : List Frame} {meth : Method} {c : Code} {b L : Nat} {xs : Nat → Int32} {E : EV} (K0 : LC p s m meth c b L xs E) {am : Nat → Nat} (i k : Nat) (hi : i + 6 ≤ L) (hk : k ≤ 512) (ih : ∀ (ad : Nat → Nat) (zt zs zg zh zu zl zc zw zx : OS) (H : Heap) (locs : List Loc) (ls : Array Slot), Rel zt zs zg zh zu zl zc zw zx → Wd E (LA s) s H locs (wX E ad zt zs zg zh zu zl zc zw ++ wM E am zx) → lv_has ls 4 [(0, .ref b), (1, .ref (ad 0)), (2, .ref (am 0)), (3, .int (nI (i + 6)))] → W p l e room_1 s m #[Value.ref b] below meth c H locs (90 + 2 * (k + 1)) (150000 + 13 * (k + 1)) (lw_Z below #[Value.ref b] s) (F0 m 18 ls [])) (ad : Nat → Nat) (zt zs zg zh zu zl zc zw zx : OS) (H : Heap) (locs : List Loc) (ls : Array Slot) (hR : Rel zt zs zg zh zu zl zc zw zx) (hw : Wd E (LA s) s H locs (wX E ad zt zs zg zh zu zl zc zw ++ wM E am zx)) (hl : lv_has ls 4 [(0, .ref b), (1, .ref (ad 0)), (2, .ref (am 0)), (3, .int (nI i))]) : W p l e room_1 s m #[Value.ref b] below meth c H locs (90 + 2 * k) (150000 + 13 * k) (lw_Z below #[Value.ref b] s) (F0 m 392 ls []) := by
  obtain ⟨C0, hA, hX, hbl, hL⟩ := K0
  have hx := C0.1
  have hb := C0.2.1
  have hbA : ¬ LA s b := fun z => Nat.not_le.mpr hbl z
  refine lv_aload_n hx hb dL_law_392 rfl (lv_at hl 1 rfl) ?_
  refine lv_aload_n hx hb dL_law_393 rfl (lv_at hl 0 rfl) ?_
  refine lv_iload_n hx hb dL_law_394 rfl (lv_at hl 3 rfl) ?_
  refine lv_iconst (v := 1) hx hb dL_law_395 (by decide) ?_
  refine lv_iadd hx hb dL_law_396 ?_
  refine va_sld hx hb hX hbl hbA hw.2.2 (sc_in (j := 1) (by decide) (by omega) hL) dL_law_397 ?_
  refine lv_i2l hx hb dL_law_398 rfl ?_
  refine lv_bipush (v := 32) hx hb dL_law_399 (by decide) ?_
  refine lv_lshl hx hb dL_law_401 rfl ?_
  refine lv_aload_n hx hb dL_law_402 rfl (lv_at hl 0 rfl) ?_
  refine lv_iload_n hx hb dL_law_403 rfl (lv_at hl 3 rfl) ?_
  refine lv_iconst (v := 2) hx hb dL_law_404 (by decide) ?_
  refine lv_iadd hx hb dL_law_405 ?_
  refine va_sld hx hb hX hbl hbA hw.2.2 (sc_in (j := 2) (by decide) (by omega) hL) dL_law_406 ?_
  refine lv_i2l hx hb dL_law_407 rfl ?_
  refine lv_ldc2 (v := 4294967295) hx hb C0.2.2.2.2.1 (C0.2.2.2.2.2.1 (.constantLong RL 13 4294967295) (by decide +kernel)) dL_law_408 ?_
  refine lv_land hx hb dL_law_411 ?_
  refine lv_lor hx hb dL_law_412 ?_
  refine lv_aload_n hx hb dL_law_413 rfl (lv_at hl 0 rfl) ?_
  refine lv_iload_n hx hb dL_law_414 rfl (lv_at hl 3 rfl) ?_
  refine lv_iconst (v := 3) hx hb dL_law_415 (by decide) ?_
  refine lv_iadd hx hb dL_law_416 ?_
  refine va_sld hx hb hX hbl hbA hw.2.2 (sc_in (j := 3) (by decide) (by omega) hL) dL_law_417 ?_
  refine lv_aload_n hx hb dL_law_418 rfl (lv_at hl 0 rfl) ?_
  refine lv_iload_n hx hb dL_law_419 rfl (lv_at hl 3 rfl) ?_
  refine lv_iconst (v := 4) hx hb dL_law_420 (by decide) ?_
  refine lv_iadd hx hb dL_law_421 ?_
  refine va_sld hx hb hX hbl hbA hw.2.2 (sc_in (j := 4) (by decide) (by omega) hL) dL_law_422 ?_
  obtain ⟨F1, F2, r, zx1, h1, h2, hR⟩ := R_below hR ((((xs (nI i + 1).toNatClampNeg).toInt64) <<< ((32 : Int32).toInt64 &&& 63)) ||| (((xs (nI i + 2).toNatClampNeg).toInt64) &&& 4294967295)) (xs (nI i + 3).toNatClampNeg) (xs (nI i + 4).toNatClampNeg)
  refine r_back (va_runV (As := [.long ((((xs (nI i + 1).toNatClampNeg).toInt64) <<< ((32 : Int32).toInt64 &&& 63)) ||| (((xs (nI i + 2).toNatClampNeg).toInt64) &&& 4294967295)), .int (xs (nI i + 3).toNatClampNeg), .int (xs (nI i + 4).toNatClampNeg)]) (rest := []) ⟨hx, hb, C0.2.2.2.1, C0.2.2.2.2.1, C0.2.2.2.2.2.1⟩ (tX9_below l E ad F1 zt zs zg zh zu zl zc zw ((((xs (nI i + 1).toNatClampNeg).toInt64) <<< ((32 : Int32).toInt64 &&& 63)) ||| (((xs (nI i + 2).toNatClampNeg).toInt64) &&& 4294967295)) (xs (nI i + 3).toNatClampNeg) (xs (nI i + 4).toNatClampNeg) h1 H.size) (cwV 3 C0.2.2.2.2.2.1 gL_X9_below rfl rfl rfl (by decide +kernel) ⟨Nat.le_of_ble_eq_true rfl, Nat.le_of_ble_eq_true rfl⟩) ⟨PG_blind, va_recv hA.2.2.1.1 hw.1 (ci := 9) (q0 := 0) rfl rfl, pg_at hA hw [0, 1, 2, 3, 4, 5, 6, 7, 8, 9, 10, 11, 12, 13, 14, 15, 16, 17, 18, 19, 20, 21, 22, 23, 24, 25, 26, 27, 28, 29, 30, 31, 32, 33, 34, 35, 36, 37, 38, 39, 40, 41, 42, 43, 44, 45, 46, 47, 48, 49] rfl (lcX E ad am zt zs zg zh zu zl zc zw zx)⟩ rfl rfl hl.1 rfl (lv_room (Nat.le_of_ble_eq_true rfl)) dL_law_423 ⟨by show _ ≤ 600000; omega, by show _ ≤ 7302250; omega⟩) hA hw [0, 1, 2, 3, 4, 5, 6, 7, 8, 9, 10, 11, 12, 13, 14, 15, 16, 17, 18, 19, 20, 21, 22, 23, 24, 25, 26, 27, 28, 29, 30, 31, 32, 33, 34, 35, 36, 37, 38, 39, 40, 41, 42, 43, 44, 45, 46, 47, 48, 49] [50, 51, 52, 53, 54, 55, 56, 57, 58, 59, 60, 61, 62, 63, 64, 65, 66, 67, 68, 69, 70, 71, 72, 73, 74, 75, 76, 77, 78, 79, 80, 81, 82, 83, 84, 85, 86] (lcX E ad am zt zs zg zh zu zl zc zw zx) (lcM E ad am zt zs zg zh zu zl zc zw zx) rfl (by decide) (fun v w1 H locs hq hw => ?_)
  obtain ⟨rfl, ad2, ex, had, rfl⟩ := hq
  have hw := lj2 hw
  refine W.widen (k := 90 + 2 * (k + 1)) (n := 150000 + 13 * (k + 1)) (by omega) (by omega) ?_
  have hl : lv_has ls 4 [(0, .ref b), (1, .ref (ad2 0)), (2, .ref (am 0)), (3, .int (nI i))] := by rw [had]; exact hl
  generalize ad2 = ad at hw hl
  refine lv_aload_n hx hb dL_law_426 rfl (lv_at hl 2 rfl) ?_
  refine lv_aload_n hx hb dL_law_427 rfl (lv_at hl 0 rfl) ?_
  refine lv_iload_n hx hb dL_law_428 rfl (lv_at hl 3 rfl) ?_
  refine lv_iconst (v := 1) hx hb dL_law_429 (by decide) ?_
  refine lv_iadd hx hb dL_law_430 ?_
  refine va_sld hx hb hX hbl hbA hw.2.2 (sc_in (j := 1) (by decide) (by omega) hL) dL_law_431 ?_
  refine lv_i2l hx hb dL_law_432 rfl ?_
  refine lv_bipush (v := 32) hx hb dL_law_433 (by decide) ?_
  refine lv_lshl hx hb dL_law_435 rfl ?_
  refine lv_aload_n hx hb dL_law_436 rfl (lv_at hl 0 rfl) ?_
  refine lv_iload_n hx hb dL_law_437 rfl (lv_at hl 3 rfl) ?_
  refine lv_iconst (v := 2) hx hb dL_law_438 (by decide) ?_
  refine lv_iadd hx hb dL_law_439 ?_
  refine va_sld hx hb hX hbl hbA hw.2.2 (sc_in (j := 2) (by decide) (by omega) hL) dL_law_440 ?_
  refine lv_i2l hx hb dL_law_441 rfl ?_
  refine lv_ldc2 (v := 4294967295) hx hb C0.2.2.2.2.1 (C0.2.2.2.2.2.1 (.constantLong RL 13 4294967295) (by decide +kernel)) dL_law_442 ?_
  refine lv_land hx hb dL_law_445 ?_
  refine lv_lor hx hb dL_law_446 ?_
  refine lv_aload_n hx hb dL_law_447 rfl (lv_at hl 0 rfl) ?_
  refine lv_iload_n hx hb dL_law_448 rfl (lv_at hl 3 rfl) ?_
  refine lv_iconst (v := 3) hx hb dL_law_449 (by decide) ?_
  refine lv_iadd hx hb dL_law_450 ?_
  refine va_sld hx hb hX hbl hbA hw.2.2 (sc_in (j := 3) (by decide) (by omega) hL) dL_law_451 ?_
  refine lv_aload_n hx hb dL_law_452 rfl (lv_at hl 0 rfl) ?_
  refine lv_iload_n hx hb dL_law_453 rfl (lv_at hl 3 rfl) ?_
  refine lv_iconst (v := 4) hx hb dL_law_454 (by decide) ?_
  refine lv_iadd hx hb dL_law_455 ?_
  refine va_sld hx hb hX hbl hbA hw.2.2 (sc_in (j := 4) (by decide) (by omega) hL) dL_law_456 ?_
  refine r_backP (va_runV (As := [.long ((((xs (nI i + 1).toNatClampNeg).toInt64) <<< ((32 : Int32).toInt64 &&& 63)) ||| (((xs (nI i + 2).toNatClampNeg).toInt64) &&& 4294967295)), .int (xs (nI i + 3).toNatClampNeg), .int (xs (nI i + 4).toNatClampNeg)]) (rest := [.int r]) ⟨hx, hb, C0.2.2.2.1, C0.2.2.2.2.1, C0.2.2.2.2.2.1⟩ (tX10_below l E am F2 zx ((((xs (nI i + 1).toNatClampNeg).toInt64) <<< ((32 : Int32).toInt64 &&& 63)) ||| (((xs (nI i + 2).toNatClampNeg).toInt64) &&& 4294967295)) (xs (nI i + 3).toNatClampNeg) (xs (nI i + 4).toNatClampNeg) h2 H.size) (cwV 3 C0.2.2.2.2.2.1 gL_X10_below rfl rfl rfl (by decide +kernel) ⟨Nat.le_of_ble_eq_true rfl, Nat.le_of_ble_eq_true rfl⟩) ⟨PG_blind, va_recv hA.2.2.1.1 hw.1 (ci := 10) (q0 := 50) rfl rfl, pg_at hA hw [50, 51, 52, 53, 54, 55, 56, 57, 58, 59, 60, 61, 62, 63, 64, 65, 66, 67, 68, 69, 70, 71, 72, 73, 74, 75, 76, 77, 78, 79, 80, 81, 82, 83, 84, 85, 86] rfl (lcM E ad am zt zs zg zh zu zl zc zw zx)⟩ rfl rfl hl.1 rfl (lv_room (Nat.le_of_ble_eq_true rfl)) dL_law_457 ⟨by show _ ≤ 600000; omega, by show _ ≤ 7302250; omega⟩) hA hw [50, 51, 52, 53, 54, 55, 56, 57, 58, 59, 60, 61, 62, 63, 64, 65, 66, 67, 68, 69, 70, 71, 72, 73, 74, 75, 76, 77, 78, 79, 80, 81, 82, 83, 84, 85, 86] [0, 1, 2, 3, 4, 5, 6, 7, 8, 9, 10, 11, 12, 13, 14, 15, 16, 17, 18, 19, 20, 21, 22, 23, 24, 25, 26, 27, 28, 29, 30, 31, 32, 33, 34, 35, 36, 37, 38, 39, 40, 41, 42, 43, 44, 45, 46, 47, 48, 49] (lcM E ad am zt zs zg zh zu zl zc zw zx) (lcX E ad am zt zs zg zh zu zl zc zw zx) rfl (by decide) (fun H locs hw => ?_)
  refine lv_icmp_eq (tgt := 888) hx hb dL_law_460 (by decide) (fun c1 => ?_) (fun c1 => absurd rfl c1)
  refine lv_iinc (v := nI (i + 6)) (lv' := [(3, .int (nI (i + 6))), (0, .ref b), (1, .ref (ad 0)), (2, .ref (am 0))]) hx hb dL_law_888 hl (k := 3) rfl (nI_add i 6) (by decide) rfl (fun ls hl => ?_)
  refine lv_goto (tgt := 18) hx hb dL_law_891 (by decide) ?_
  exact ih _ zt zs zg zh zu zl zc zw zx1 _ _ _ hR hw (lv_sub hl [1, 2, 3, 0] rfl)
set_option maxRecDepth 20000 in
set_option maxHeartbeats 4000000 in
theorem law_c9 {p : Program} {l : Launch} {e : Env} {s : State} {m : MethodId} {below : List Frame} {meth : Method} {c : Code} {b L : Nat} {xs : Nat → Int32} {E : EV} (K0 : LC p s m meth c b L xs E) {am : Nat → Nat} (i k : Nat) (hi : i + 6 ≤ L) (hk : k ≤ 512) (ih : ∀ (ad : Nat → Nat) (zt zs zg zh zu zl zc zw zx : OS) (H : Heap) (locs : List Loc) (ls : Array Slot), Rel zt zs zg zh zu zl zc zw zx → Wd E (LA s) s H locs (wX E ad zt zs zg zh zu zl zc zw ++ wM E am zx) → lv_has ls 4 [(0, .ref b), (1, .ref (ad 0)), (2, .ref (am 0)), (3, .int (nI (i + 6)))] → W p l e room_1 s m #[Value.ref b] below meth c H locs (90 + 2 * (k + 1)) (150000 + 13 * (k + 1)) (lw_Z below #[Value.ref b] s) (F0 m 18 ls [])) (ad : Nat → Nat) (zt zs zg zh zu zl zc zw zx : OS) (H : Heap) (locs : List Loc) (ls : Array Slot) (hR : Rel zt zs zg zh zu zl zc zw zx) (hw : Wd E (LA s) s H locs (wX E ad zt zs zg zh zu zl zc zw ++ wM E am zx)) (hl : lv_has ls 4 [(0, .ref b), (1, .ref (ad 0)), (2, .ref (am 0)), (3, .int (nI i))]) : W p l e room_1 s m #[Value.ref b] below meth c H locs (90 + 2 * k) (150000 + 13 * k) (lw_Z below #[Value.ref b] s) (F0 m 465 ls []) := by
  obtain ⟨C0, hA, hX, hbl, hL⟩ := K0
  have hx := C0.1
  have hb := C0.2.1
  have hbA : ¬ LA s b := fun z => Nat.not_le.mpr hbl z
  refine lv_aload_n hx hb dL_law_465 rfl (lv_at hl 1 rfl) ?_
  refine lv_aload_n hx hb dL_law_466 rfl (lv_at hl 0 rfl) ?_
  refine lv_iload_n hx hb dL_law_467 rfl (lv_at hl 3 rfl) ?_
  refine lv_iconst (v := 1) hx hb dL_law_468 (by decide) ?_
  refine lv_iadd hx hb dL_law_469 ?_
  refine va_sld hx hb hX hbl hbA hw.2.2 (sc_in (j := 1) (by decide) (by omega) hL) dL_law_470 ?_
  obtain ⟨F1, F2, r, zc1, zx1, h1, h2, hR⟩ := R_corpus hR (xs (nI i + 1).toNatClampNeg)
  refine r_backP (va_runV (As := [.int (xs (nI i + 1).toNatClampNeg)]) (rest := []) ⟨hx, hb, C0.2.2.2.1, C0.2.2.2.2.1, C0.2.2.2.2.2.1⟩ (tX9_corpus l E ad zt zs zg zh zu zl zc zw (xs (nI i + 1).toNatClampNeg) h1 H.size) (cwV 1 C0.2.2.2.2.2.1 gL_X9_corpus rfl rfl rfl (by decide +kernel) ⟨Nat.le_of_ble_eq_true rfl, Nat.le_of_ble_eq_true rfl⟩) ⟨PG_blind, va_recv hA.2.2.1.1 hw.1 (ci := 9) (q0 := 0) rfl rfl, pg_at hA hw [0, 1, 2, 3, 4, 5, 6, 7, 8, 9, 10, 11, 12, 13, 14, 15, 16, 17, 18, 19, 20, 21, 22, 23, 24, 25, 26, 27, 28, 29, 30, 31, 32, 33, 34, 35, 36, 37, 38, 39, 40, 41, 42, 43, 44, 45, 46, 47, 48, 49] rfl (lcX E ad am zt zs zg zh zu zl zc zw zx)⟩ rfl rfl hl.1 rfl (lv_room (Nat.le_of_ble_eq_true rfl)) dL_law_471 ⟨by show _ ≤ 600000; omega, by show _ ≤ 7302250; omega⟩) hA hw [0, 1, 2, 3, 4, 5, 6, 7, 8, 9, 10, 11, 12, 13, 14, 15, 16, 17, 18, 19, 20, 21, 22, 23, 24, 25, 26, 27, 28, 29, 30, 31, 32, 33, 34, 35, 36, 37, 38, 39, 40, 41, 42, 43, 44, 45, 46, 47, 48, 49] [50, 51, 52, 53, 54, 55, 56, 57, 58, 59, 60, 61, 62, 63, 64, 65, 66, 67, 68, 69, 70, 71, 72, 73, 74, 75, 76, 77, 78, 79, 80, 81, 82, 83, 84, 85, 86] (lcX E ad am zt zs zg zh zu zl zc zw zx) (lcM E ad am zt zs zg zh zu zl zc zw zx) rfl (by decide) (fun H locs hw => ?_)
  have hw := lj1 hw
  refine W.widen (k := 90 + 2 * (k + 1)) (n := 150000 + 13 * (k + 1)) (by omega) (by omega) ?_
  refine lv_aload_n hx hb dL_law_474 rfl (lv_at hl 2 rfl) ?_
  refine lv_aload_n hx hb dL_law_475 rfl (lv_at hl 0 rfl) ?_
  refine lv_iload_n hx hb dL_law_476 rfl (lv_at hl 3 rfl) ?_
  refine lv_iconst (v := 1) hx hb dL_law_477 (by decide) ?_
  refine lv_iadd hx hb dL_law_478 ?_
  refine va_sld hx hb hX hbl hbA hw.2.2 (sc_in (j := 1) (by decide) (by omega) hL) dL_law_479 ?_
  refine r_backP (va_runV (As := [.int (xs (nI i + 1).toNatClampNeg)]) (rest := [.int r]) ⟨hx, hb, C0.2.2.2.1, C0.2.2.2.2.1, C0.2.2.2.2.2.1⟩ (tX10_corpus l E am zx (xs (nI i + 1).toNatClampNeg) h2 H.size) (cwV 1 C0.2.2.2.2.2.1 gL_X10_corpus rfl rfl rfl (by decide +kernel) ⟨Nat.le_of_ble_eq_true rfl, Nat.le_of_ble_eq_true rfl⟩) ⟨PG_blind, va_recv hA.2.2.1.1 hw.1 (ci := 10) (q0 := 50) rfl rfl, pg_at hA hw [50, 51, 52, 53, 54, 55, 56, 57, 58, 59, 60, 61, 62, 63, 64, 65, 66, 67, 68, 69, 70, 71, 72, 73, 74, 75, 76, 77, 78, 79, 80, 81, 82, 83, 84, 85, 86] rfl (lcM E ad am zt zs zg zh zu zl zc1 zw zx)⟩ rfl rfl hl.1 rfl (lv_room (Nat.le_of_ble_eq_true rfl)) dL_law_480 ⟨by show _ ≤ 600000; omega, by show _ ≤ 7302250; omega⟩) hA hw [50, 51, 52, 53, 54, 55, 56, 57, 58, 59, 60, 61, 62, 63, 64, 65, 66, 67, 68, 69, 70, 71, 72, 73, 74, 75, 76, 77, 78, 79, 80, 81, 82, 83, 84, 85, 86] [0, 1, 2, 3, 4, 5, 6, 7, 8, 9, 10, 11, 12, 13, 14, 15, 16, 17, 18, 19, 20, 21, 22, 23, 24, 25, 26, 27, 28, 29, 30, 31, 32, 33, 34, 35, 36, 37, 38, 39, 40, 41, 42, 43, 44, 45, 46, 47, 48, 49] (lcM E ad am zt zs zg zh zu zl zc1 zw zx) (lcX E ad am zt zs zg zh zu zl zc1 zw zx) rfl (by decide) (fun H locs hw => ?_)
  refine lv_icmp_eq (tgt := 888) hx hb dL_law_483 (by decide) (fun c1 => ?_) (fun c1 => absurd rfl c1)
  refine lv_iinc (v := nI (i + 6)) (lv' := [(3, .int (nI (i + 6))), (0, .ref b), (1, .ref (ad 0)), (2, .ref (am 0))]) hx hb dL_law_888 hl (k := 3) rfl (nI_add i 6) (by decide) rfl (fun ls hl => ?_)
  refine lv_goto (tgt := 18) hx hb dL_law_891 (by decide) ?_
  exact ih _ zt zs zg zh zu zl zc1 zw zx1 _ _ _ hR hw (lv_sub hl [1, 2, 3, 0] rfl)

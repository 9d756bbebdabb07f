set_option maxRecDepth 20000 in
set_option maxHeartbeats 4000000 in
theorem law_c0 {p : Program} {l : Launch} {e : Env} {s : State} {m : MethodId} {below : List Frame} {meth : Method} {c : Code} {b L : Nat} {xs : Nat → Int32} {E : EV} (K0 : LC p s m meth c b L xs E) {am : Nat → Nat} (i k : Nat) (hi : i + 6 ≤ L) (hk : k ≤ 512) (ih : ∀ (ad : Nat → Nat) (zt zs zg zh zu zl zc zw zx : OS) (H : Heap) (locs : List Loc) (ls : Array Slot), Rel zt zs zg zh zu zl zc zw zx → Wd E (LA s) s H locs (wX E ad zt zs zg zh zu zl zc zw ++ wM E am zx) → lv_has ls 4 [(0, .ref b), (1, .ref (ad 0)), (2, .ref (am 0)), (3, .int (nI (i + 6)))] → W p l e room_1 s m #[Value.ref b] below meth c H locs (90 + 2 * (k + 1)) (150000 + 13 * (k + 1)) (lw_Z below #[Value.ref b] s) (F0 m 18 ls [])) (ad : Nat → Nat) (zt zs zg zh zu zl zc zw zx : OS) (H : Heap) (locs : List Loc) (ls : Array Slot) (hR : Rel zt zs zg zh zu zl zc zw zx) (hw : Wd E (LA s) s H locs (wX E ad zt zs zg zh zu zl zc zw ++ wM E am zx)) (hl : lv_has ls 4 [(0, .ref b), (1, .ref (ad 0)), (2, .ref (am 0)), (3, .int (nI i))]) : W p l e room_1 s m #[Value.ref b] below meth c H locs (90 + 2 * k) (150000 + 13 * k) (lw_Z below #[Value.ref b] s) (F0 m 128 ls []) := by
  obtain ⟨C0, hA, hX, hbl, hL⟩ := K0
  have hx := C0.1
  have hb := C0.2.1
  have hbA : ¬ LA s b := fun z => Nat.not_le.mpr hbl z
  refine lv_aload_n hx hb dL_law_128 rfl (lv_at hl 1 rfl) ?_
  refine lv_aload_n hx hb dL_law_129 rfl (lv_at hl 0 rfl) ?_
  refine lv_iload_n hx hb dL_law_130 rfl (lv_at hl 3 rfl) ?_
  refine lv_iconst (v := 1) hx hb dL_law_131 (by decide) ?_
  refine lv_iadd hx hb dL_law_132 ?_
  refine va_sld hx hb hX hbl hbA hw.2.2 (sc_in (j := 1) (by decide) (by omega) hL) dL_law_133 ?_
  refine lv_i2l hx hb dL_law_134 rfl ?_
  refine lv_bipush (v := 32) hx hb dL_law_135 (by decide) ?_
  refine lv_lshl hx hb dL_law_137 rfl ?_
  refine lv_aload_n hx hb dL_law_138 rfl (lv_at hl 0 rfl) ?_
  refine lv_iload_n hx hb dL_law_139 rfl (lv_at hl 3 rfl) ?_
  refine lv_iconst (v := 2) hx hb dL_law_140 (by decide) ?_
  refine lv_iadd hx hb dL_law_141 ?_
  refine va_sld hx hb hX hbl hbA hw.2.2 (sc_in (j := 2) (by decide) (by omega) hL) dL_law_142 ?_
  refine lv_i2l hx hb dL_law_143 rfl ?_
  refine lv_ldc2 (v := 4294967295) hx hb C0.2.2.2.2.1 (C0.2.2.2.2.2.1 (.constantLong RL 13 4294967295) (by decide +kernel)) dL_law_144 ?_
  refine lv_land hx hb dL_law_147 ?_
  refine lv_lor hx hb dL_law_148 ?_
  obtain ⟨F1, F2, r, zs1, zx1, h1, h2, hR⟩ := R_text hR ((((xs (nI i + 1).toNatClampNeg).toInt64) <<< ((32 : Int32).toInt64 &&& 63)) ||| (((xs (nI i + 2).toNatClampNeg).toInt64) &&& 4294967295))
  refine r_backP (va_runV (As := [.long ((((xs (nI i + 1).toNatClampNeg).toInt64) <<< ((32 : Int32).toInt64 &&& 63)) ||| (((xs (nI i + 2).toNatClampNeg).toInt64) &&& 4294967295))]) (rest := []) ⟨hx, hb, C0.2.2.2.1, C0.2.2.2.2.1, C0.2.2.2.2.2.1⟩ (tX9_text l E ad F1 zt zs zg zh zu zl zc zw ((((xs (nI i + 1).toNatClampNeg).toInt64) <<< ((32 : Int32).toInt64 &&& 63)) ||| (((xs (nI i + 2).toNatClampNeg).toInt64) &&& 4294967295)) h1 H.size) (cwV 1 C0.2.2.2.2.2.1 gL_X9_text rfl rfl rfl (by decide +kernel) ⟨Nat.le_of_ble_eq_true rfl, Nat.le_of_ble_eq_true rfl⟩) ⟨PG_blind, va_recv hA.2.2.1.1 hw.1 (ci := 9) (q0 := 0) rfl rfl, pg_at hA hw [0, 1, 2, 3, 4, 5, 6, 7, 8, 9, 10, 11, 12, 13, 14, 15, 16, 17, 18, 19, 20, 21, 22, 23, 24, 25, 26, 27, 28, 29, 30, 31, 32, 33, 34, 35, 36, 37, 38, 39, 40, 41, 42, 43, 44, 45, 46, 47, 48, 49] rfl (lcX E ad am zt zs zg zh zu zl zc zw zx)⟩ rfl rfl hl.1 rfl (lv_room (Nat.le_of_ble_eq_true rfl)) dL_law_149 ⟨by show _ ≤ 600000; omega, by show _ ≤ 7302250; omega⟩) hA hw [0, 1, 2, 3, 4, 5, 6, 7, 8, 9, 10, 11, 12, 13, 14, 15, 16, 17, 18, 19, 20, 21, 22, 23, 24, 25, 26, 27, 28, 29, 30, 31, 32, 33, 34, 35, 36, 37, 38, 39, 40, 41, 42, 43, 44, 45, 46, 47, 48, 49] [50, 51, 52, 53, 54, 55, 56, 57, 58, 59, 60, 61, 62, 63, 64, 65, 66, 67, 68, 69, 70, 71, 72, 73, 74, 75, 76, 77, 78, 79, 80, 81, 82, 83, 84, 85, 86] (lcX E ad am zt zs zg zh zu zl zc zw zx) (lcM E ad am zt zs zg zh zu zl zc zw zx) rfl (by decide) (fun H locs hw => ?_)
  have hw := lj1 hw
  refine W.widen (k := 90 + 2 * (k + 1)) (n := 150000 + 13 * (k + 1)) (by omega) (by omega) ?_
  refine lv_aload_n hx hb dL_law_152 rfl (lv_at hl 2 rfl) ?_
  refine lv_aload_n hx hb dL_law_153 rfl (lv_at hl 0 rfl) ?_
  refine lv_iload_n hx hb dL_law_154 rfl (lv_at hl 3 rfl) ?_
  refine lv_iconst (v := 1) hx hb dL_law_155 (by decide) ?_
  refine lv_iadd hx hb dL_law_156 ?_
  refine va_sld hx hb hX hbl hbA hw.2.2 (sc_in (j := 1) (by decide) (by omega) hL) dL_law_157 ?_
  refine lv_i2l hx hb dL_law_158 rfl ?_
  refine lv_bipush (v := 32) hx hb dL_law_159 (by decide) ?_
  refine lv_lshl hx hb dL_law_161 rfl ?_
  refine lv_aload_n hx hb dL_law_162 rfl (lv_at hl 0 rfl) ?_
  refine lv_iload_n hx hb dL_law_163 rfl (lv_at hl 3 rfl) ?_
  refine lv_iconst (v := 2) hx hb dL_law_164 (by decide) ?_
  refine lv_iadd hx hb dL_law_165 ?_
  refine va_sld hx hb hX hbl hbA hw.2.2 (sc_in (j := 2) (by decide) (by omega) hL) dL_law_166 ?_
  refine lv_i2l hx hb dL_law_167 rfl ?_
  refine lv_ldc2 (v := 4294967295) hx hb C0.2.2.2.2.1 (C0.2.2.2.2.2.1 (.constantLong RL 13 4294967295) (by decide +kernel)) dL_law_168 ?_
  refine lv_land hx hb dL_law_171 ?_
  refine lv_lor hx hb dL_law_172 ?_
  refine r_backP (va_runV (As := [.long ((((xs (nI i + 1).toNatClampNeg).toInt64) <<< ((32 : Int32).toInt64 &&& 63)) ||| (((xs (nI i + 2).toNatClampNeg).toInt64) &&& 4294967295))]) (rest := [.int r]) ⟨hx, hb, C0.2.2.2.1, C0.2.2.2.2.1, C0.2.2.2.2.2.1⟩ (tX10_text l E am F2 zx ((((xs (nI i + 1).toNatClampNeg).toInt64) <<< ((32 : Int32).toInt64 &&& 63)) ||| (((xs (nI i + 2).toNatClampNeg).toInt64) &&& 4294967295)) h2 H.size) (cwV 1 C0.2.2.2.2.2.1 gL_X10_text rfl rfl rfl (by decide +kernel) ⟨Nat.le_of_ble_eq_true rfl, Nat.le_of_ble_eq_true rfl⟩) ⟨PG_blind, va_recv hA.2.2.1.1 hw.1 (ci := 10) (q0 := 50) rfl rfl, pg_at hA hw [50, 51, 52, 53, 54, 55, 56, 57, 58, 59, 60, 61, 62, 63, 64, 65, 66, 67, 68, 69, 70, 71, 72, 73, 74, 75, 76, 77, 78, 79, 80, 81, 82, 83, 84, 85, 86] rfl (lcM E ad am zt zs1 zg zh zu zl zc zw zx)⟩ rfl rfl hl.1 rfl (lv_room (Nat.le_of_ble_eq_true rfl)) dL_law_173 ⟨by show _ ≤ 600000; omega, by show _ ≤ 7302250; omega⟩) hA hw [50, 51, 52, 53, 54, 55, 56, 57, 58, 59, 60, 61, 62, 63, 64, 65, 66, 67, 68, 69, 70, 71, 72, 73, 74, 75, 76, 77, 78, 79, 80, 81, 82, 83, 84, 85, 86] [0, 1, 2, 3, 4, 5, 6, 7, 8, 9, 10, 11, 12, 13, 14, 15, 16, 17, 18, 19, 20, 21, 22, 23, 24, 25, 26, 27, 28, 29, 30, 31, 32, 33, 34, 35, 36, 37, 38, 39, 40, 41, 42, 43, 44, 45, 46, 47, 48, 49] (lcM E ad am zt zs1 zg zh zu zl zc zw zx) (lcX E ad am zt zs1 zg zh zu zl zc zw zx) rfl (by decide) (fun H locs hw => ?_)
  refine lv_icmp_eq (tgt := 888) hx hb dL_law_176 (by decide) (fun c1 => ?_) (fun c1 => absurd rfl c1)
  refine lv_iinc (v := nI (i + 6)) (lv' := [(3, .int (nI (i + 6))), (0, .ref b), (1, .ref (ad 0)), (2, .ref (am 0))]) hx hb dL_law_888 hl (k := 3) rfl (nI_add i 6) (by decide) rfl (fun ls hl => ?_)
  refine lv_goto (tgt := 18) hx hb dL_law_891 (by decide) ?_
  exact ih _ zt zs1 zg zh zu zl zc zw zx1 _ _ _ hR hw (lv_sub hl [1, 2, 3, 0] rfl)
set_option maxRecDepth 20000 in
set_option maxHeartbeats 4000000 in
theorem law_c1 {p : Program} {l : Launch} {e : Env} {s : State} {m : MethodId} {below : List Frame} {meth : Method} {c : Code} {b L : Nat} {xs : Nat → Int32} {E : EV} (K0 : LC p s m meth c b L xs E) {am : Nat → Nat} (i k : Nat) (hi : i + 6 ≤ L) (hk : k ≤ 512) (ih : ∀ (ad : Nat → Nat) (zt zs zg zh zu zl zc zw zx : OS) (H : Heap) (locs : List Loc) (ls : Array Slot), Rel zt zs zg zh zu zl zc zw zx → Wd E (LA s) s H locs (wX E ad zt zs zg zh zu zl zc zw ++ wM E am zx) → lv_has ls 4 [(0, .ref b), (1, .ref (ad 0)), (2, .ref (am 0)), (3, .int (nI (i + 6)))] → W p l e room_1 s m #[Value.ref b] below meth c H locs (90 + 2 * (k + 1)) (150000 + 13 * (k + 1)) (lw_Z below #[Value.ref b] s) (F0 m 18 ls [])) (ad : Nat → Nat) (zt zs zg zh zu zl zc zw zx : OS) (H : Heap) (locs : List Loc) (ls : Array Slot) (hR : Rel zt zs zg zh zu zl zc zw zx) (hw : Wd E (LA s) s H locs (wX E ad zt zs zg zh zu zl zc zw ++ wM E am zx)) (hl : lv_has ls 4 [(0, .ref b), (1, .ref (ad 0)), (2, .ref (am 0)), (3, .int (nI i))]) : W p l e room_1 s m #[Value.ref b] below meth c H locs (90 + 2 * k) (150000 + 13 * k) (lw_Z below #[Value.ref b] s) (F0 m 181 ls []) := by
  obtain ⟨C0, hA, hX, hbl, hL⟩ := K0
  have hx := C0.1
  have hb := C0.2.1
  have hbA : ¬ LA s b := fun z => Nat.not_le.mpr hbl z
  refine lv_aload_n hx hb dL_law_181 rfl (lv_at hl 1 rfl) ?_
  refine lv_aload_n hx hb dL_law_182 rfl (lv_at hl 0 rfl) ?_
  refine lv_iload_n hx hb dL_law_183 rfl (lv_at hl 3 rfl) ?_
  refine lv_iconst (v := 1) hx hb dL_law_184 (by decide) ?_
  refine lv_iadd hx hb dL_law_185 ?_
  refine va_sld hx hb hX hbl hbA hw.2.2 (sc_in (j := 1) (by decide) (by omega) hL) dL_law_186 ?_
  obtain ⟨F1, F2, r, zs1, zx1, h1, h2, hR⟩ := R_cut hR (xs (nI i + 1).toNatClampNeg)
  refine r_backP (va_runV (As := [.int (xs (nI i + 1).toNatClampNeg)]) (rest := []) ⟨hx, hb, C0.2.2.2.1, C0.2.2.2.2.1, C0.2.2.2.2.2.1⟩ (tX9_cut l E ad zt zs zg zh zu zl zc zw (xs (nI i + 1).toNatClampNeg) h1 H.size) (cwV 1 C0.2.2.2.2.2.1 gL_X9_cut rfl rfl rfl (by decide +kernel) ⟨Nat.le_of_ble_eq_true rfl, Nat.le_of_ble_eq_true rfl⟩) ⟨PG_blind, va_recv hA.2.2.1.1 hw.1 (ci := 9) (q0 := 0) rfl rfl, pg_at hA hw [0, 1, 2, 3, 4, 5, 6, 7, 8, 9, 10, 11, 12, 13, 14, 15, 16, 17, 18, 19, 20, 21, 22, 23, 24, 25, 26, 27, 28, 29, 30, 31, 32, 33, 34, 35, 36, 37, 38, 39, 40, 41, 42, 43, 44, 45, 46, 47, 48, 49] rfl (lcX E ad am zt zs zg zh zu zl zc zw zx)⟩ rfl rfl hl.1 rfl (lv_room (Nat.le_of_ble_eq_true rfl)) dL_law_187 ⟨by show _ ≤ 600000; omega, by show _ ≤ 7302250; omega⟩) hA hw [0, 1, 2, 3, 4, 5, 6, 7, 8, 9, 10, 11, 12, 13, 14, 15, 16, 17, 18, 19, 20, 21, 22, 23, 24, 25, 26, 27, 28, 29, 30, 31, 32, 33, 34, 35, 36, 37, 38, 39, 40, 41, 42, 43, 44, 45, 46, 47, 48, 49] [50, 51, 52, 53, 54, 55, 56, 57, 58, 59, 60, 61, 62, 63, 64, 65, 66, 67, 68, 69, 70, 71, 72, 73, 74, 75, 76, 77, 78, 79, 80, 81, 82, 83, 84, 85, 86] (lcX E ad am zt zs zg zh zu zl zc zw zx) (lcM E ad am zt zs zg zh zu zl zc zw zx) rfl (by decide) (fun H locs hw => ?_)
  have hw := lj1 hw
  refine W.widen (k := 90 + 2 * (k + 1)) (n := 150000 + 13 * (k + 1)) (by omega) (by omega) ?_
  refine lv_aload_n hx hb dL_law_190 rfl (lv_at hl 2 rfl) ?_
  refine lv_aload_n hx hb dL_law_191 rfl (lv_at hl 0 rfl) ?_
  refine lv_iload_n hx hb dL_law_192 rfl (lv_at hl 3 rfl) ?_
  refine lv_iconst (v := 1) hx hb dL_law_193 (by decide) ?_
  refine lv_iadd hx hb dL_law_194 ?_
  refine va_sld hx hb hX hbl hbA hw.2.2 (sc_in (j := 1) (by decide) (by omega) hL) dL_law_195 ?_
  refine r_backP (va_runV (As := [.int (xs (nI i + 1).toNatClampNeg)]) (rest := [.int r]) ⟨hx, hb, C0.2.2.2.1, C0.2.2.2.2.1, C0.2.2.2.2.2.1⟩ (tX10_cut l E am zx (xs (nI i + 1).toNatClampNeg) h2 H.size) (cwV 1 C0.2.2.2.2.2.1 gL_X10_cut rfl rfl rfl (by decide +kernel) ⟨Nat.le_of_ble_eq_true rfl, Nat.le_of_ble_eq_true rfl⟩) ⟨PG_blind, va_recv hA.2.2.1.1 hw.1 (ci := 10) (q0 := 50) rfl rfl, pg_at hA hw [50, 51, 52, 53, 54, 55, 56, 57, 58, 59, 60, 61, 62, 63, 64, 65, 66, 67, 68, 69, 70, 71, 72, 73, 74, 75, 76, 77, 78, 79, 80, 81, 82, 83, 84, 85, 86] rfl (lcM E ad am zt zs1 zg zh zu zl zc zw zx)⟩ rfl rfl hl.1 rfl (lv_room (Nat.le_of_ble_eq_true rfl)) dL_law_196 ⟨by show _ ≤ 600000; omega, by show _ ≤ 7302250; omega⟩) hA hw [50, 51, 52, 53, 54, 55, 56, 57, 58, 59, 60, 61, 62, 63, 64, 65, 66, 67, 68, 69, 70, 71, 72, 73, 74, 75, 76, 77, 78, 79, 80, 81, 82, 83, 84, 85, 86] [0, 1, 2, 3, 4, 5, 6, 7, 8, 9, 10, 11, 12, 13, 14, 15, 16, 17, 18, 19, 20, 21, 22, 23, 24, 25, 26, 27, 28, 29, 30, 31, 32, 33, 34, 35, 36, 37, 38, 39, 40, 41, 42, 43, 44, 45, 46, 47, 48, 49] (lcM E ad am zt zs1 zg zh zu zl zc zw zx) (lcX E ad am zt zs1 zg zh zu zl zc zw zx) rfl (by decide) (fun H locs hw => ?_)
  refine lv_icmp_eq (tgt := 888) hx hb dL_law_199 (by decide) (fun c1 => ?_) (fun c1 => absurd rfl c1)
  refine lv_iinc (v := nI (i + 6)) (lv' := [(3, .int (nI (i + 6))), (0, .ref b), (1, .ref (ad 0)), (2, .ref (am 0))]) hx hb dL_law_888 hl (k := 3) rfl (nI_add i 6) (by decide) rfl (fun ls hl => ?_)
  refine lv_goto (tgt := 18) hx hb dL_law_891 (by decide) ?_
  exact ih _ zt zs1 zg zh zu zl zc zw zx1 _ _ _ hR hw (lv_sub hl [1, 2, 3, 0] rfl)
set_option maxRecDepth 20000 in
set_option maxHeartbeats 4000000 in
theorem law_c2 {p : Program} {l : Launch} {e : Env} {s : State} {m : MethodId} {below : List Frame} {meth : Method} {c : Code} {b L : Nat} {xs : Nat → Int32} {E : EV} (K0 : LC p s m meth c b L xs E) {am : Nat → Nat} (i k : Nat) (hi : i + 6 ≤ L) (hk : k ≤ 512) (ih : ∀ (ad : Nat → Nat) (zt zs zg zh zu zl zc zw zx : OS) (H : Heap) (locs : List Loc) (ls : Array Slot), Rel zt zs zg zh zu zl zc zw zx → Wd E (LA s) s H locs (wX E ad zt zs zg zh zu zl zc zw ++ wM E am zx) → lv_has ls 4 [(0, .ref b), (1, .ref (ad 0)), (2, .ref (am 0)), (3, .int (nI (i + 6)))] → W p l e room_1 s m #[Value.ref b] below meth c H locs (90 + 2 * (k + 1)) (150000 + 13 * (k + 1)) (lw_Z below #[Value.ref b] s) (F0 m 18 ls [])) (ad : Nat → Nat) (zt zs zg zh zu zl zc zw zx : OS) (H : Heap) (locs : List Loc) (ls : Array Slot) (hR : Rel zt zs zg zh zu zl zc zw zx) (hw : Wd E (LA s) s H locs (wX E ad zt zs zg zh zu zl zc zw ++ wM E am zx)) (hl : lv_has ls 4 [(0, .ref b), (1, .ref (ad 0)), (2, .ref (am 0)), (3, .int (nI i))]) : W p l e room_1 s m #[Value.ref b] below meth c H locs (90 + 2 * k) (150000 + 13 * k) (lw_Z below #[Value.ref b] s) (F0 m 204 ls []) := by
  obtain ⟨C0, hA, hX, hbl, hL⟩ := K0
  have hx := C0.1
  have hb := C0.2.1
  have hbA : ¬ LA s b := fun z => Nat.not_le.mpr hbl z
  refine lv_aload_n hx hb dL_law_204 rfl (lv_at hl 1 rfl) ?_
  obtain ⟨F1, F2, r, zg1, zh1, zx1, h1, h2, hR⟩ := R_read hR 
  refine r_back (va_runV (As := []) (rest := []) ⟨hx, hb, C0.2.2.2.1, C0.2.2.2.2.1, C0.2.2.2.2.2.1⟩ (tX9_read l E ad F1 zt zs zg zh zu zl zc zw  h1 H.size) (cwV 0 C0.2.2.2.2.2.1 gL_X9_read rfl rfl rfl (by decide +kernel) ⟨Nat.le_of_ble_eq_true rfl, Nat.le_of_ble_eq_true rfl⟩) ⟨PG_blind, va_recv hA.2.2.1.1 hw.1 (ci := 9) (q0 := 0) rfl rfl, pg_at hA hw [0, 1, 2, 3, 4, 5, 6, 7, 8, 9, 10, 11, 12, 13, 14, 15, 16, 17, 18, 19, 20, 21, 22, 23, 24, 25, 26, 27, 28, 29, 30, 31, 32, 33, 34, 35, 36, 37, 38, 39, 40, 41, 42, 43, 44, 45, 46, 47, 48, 49] rfl (lcX E ad am zt zs zg zh zu zl zc zw zx)⟩ rfl rfl hl.1 rfl (lv_room (Nat.le_of_ble_eq_true rfl)) dL_law_205 ⟨by show _ ≤ 600000; omega, by show _ ≤ 7302250; omega⟩) hA hw [0, 1, 2, 3, 4, 5, 6, 7, 8, 9, 10, 11, 12, 13, 14, 15, 16, 17, 18, 19, 20, 21, 22, 23, 24, 25, 26, 27, 28, 29, 30, 31, 32, 33, 34, 35, 36, 37, 38, 39, 40, 41, 42, 43, 44, 45, 46, 47, 48, 49] [50, 51, 52, 53, 54, 55, 56, 57, 58, 59, 60, 61, 62, 63, 64, 65, 66, 67, 68, 69, 70, 71, 72, 73, 74, 75, 76, 77, 78, 79, 80, 81, 82, 83, 84, 85, 86] (lcX E ad am zt zs zg zh zu zl zc zw zx) (lcM E ad am zt zs zg zh zu zl zc zw zx) rfl (by decide) (fun v w1 H locs hq hw => ?_)
  obtain ⟨rfl, ad2, ex, had, rfl⟩ := hq
  have hw := lj2 hw
  refine W.widen (k := 90 + 2 * (k + 1)) (n := 150000 + 13 * (k + 1)) (by omega) (by omega) ?_
  have hl : lv_has ls 4 [(0, .ref b), (1, .ref (ad2 0)), (2, .ref (am 0)), (3, .int (nI i))] := by rw [had]; exact hl
  generalize ad2 = ad at hw hl
  refine lv_aload_n hx hb dL_law_208 rfl (lv_at hl 2 rfl) ?_
  refine r_backP (va_runV (As := []) (rest := [.int r]) ⟨hx, hb, C0.2.2.2.1, C0.2.2.2.2.1, C0.2.2.2.2.2.1⟩ (tX10_read l E am F2 zx  h2 H.size) (cwV 0 C0.2.2.2.2.2.1 gL_X10_read rfl rfl rfl (by decide +kernel) ⟨Nat.le_of_ble_eq_true rfl, Nat.le_of_ble_eq_true rfl⟩) ⟨PG_blind, va_recv hA.2.2.1.1 hw.1 (ci := 10) (q0 := 50) rfl rfl, pg_at hA hw [50, 51, 52, 53, 54, 55, 56, 57, 58, 59, 60, 61, 62, 63, 64, 65, 66, 67, 68, 69, 70, 71, 72, 73, 74, 75, 76, 77, 78, 79, 80, 81, 82, 83, 84, 85, 86] rfl (lcM E ad am zt zs zg1 zh1 zu zl zc zw zx)⟩ rfl rfl hl.1 rfl (lv_room (Nat.le_of_ble_eq_true rfl)) dL_law_209 ⟨by show _ ≤ 600000; omega, by show _ ≤ 7302250; omega⟩) hA hw [50, 51, 52, 53, 54, 55, 56, 57, 58, 59, 60, 61, 62, 63, 64, 65, 66, 67, 68, 69, 70, 71, 72, 73, 74, 75, 76, 77, 78, 79, 80, 81, 82, 83, 84, 85, 86] [0, 1, 2, 3, 4, 5, 6, 7, 8, 9, 10, 11, 12, 13, 14, 15, 16, 17, 18, 19, 20, 21, 22, 23, 24, 25, 26, 27, 28, 29, 30, 31, 32, 33, 34, 35, 36, 37, 38, 39, 40, 41, 42, 43, 44, 45, 46, 47, 48, 49] (lcM E ad am zt zs zg1 zh1 zu zl zc zw zx) (lcX E ad am zt zs zg1 zh1 zu zl zc zw zx) rfl (by decide) (fun H locs hw => ?_)
  refine lv_icmp_eq (tgt := 888) hx hb dL_law_212 (by decide) (fun c1 => ?_) (fun c1 => absurd rfl c1)
  refine lv_iinc (v := nI (i + 6)) (lv' := [(3, .int (nI (i + 6))), (0, .ref b), (1, .ref (ad 0)), (2, .ref (am 0))]) hx hb dL_law_888 hl (k := 3) rfl (nI_add i 6) (by decide) rfl (fun ls hl => ?_)
  refine lv_goto (tgt := 18) hx hb dL_law_891 (by decide) ?_
  exact ih _ zt zs zg1 zh1 zu zl zc zw zx1 _ _ _ hR hw (lv_sub hl [1, 2, 3, 0] rfl)
set_option maxRecDepth 20000 in
set_option maxHeartbeats 4000000 in
theorem law_c3 {p : Program} {l : Launch} {e : Env} {s : State} {m : MethodId} {below : List Frame} {meth : Method} {c : Code} {b L : Nat} {xs : Nat → Int32} {E : EV} (K0 : LC p s m meth c b L xs E) {am : Nat → Nat} (i k : Nat) (hi : i + 6 ≤ L) (hk : k ≤ 512) (ih : ∀ (ad : Nat → Nat) (zt zs zg zh zu zl zc zw zx : OS) (H : Heap) (locs : List Loc) (ls : Array Slot), Rel zt zs zg zh zu zl zc zw zx → Wd E (LA s) s H locs (wX E ad zt zs zg zh zu zl zc zw ++ wM E am zx) → lv_has ls 4 [(0, .ref b), (1, .ref (ad 0)), (2, .ref (am 0)), (3, .int (nI (i + 6)))] → W p l e room_1 s m #[Value.ref b] below meth c H locs (90 + 2 * (k + 1)) (150000 + 13 * (k + 1)) (lw_Z below #[Value.ref b] s) (F0 m 18 ls [])) (ad : Nat → Nat) (zt zs zg zh zu zl zc zw zx : OS) (H : Heap) (locs : List Loc) (ls : Array Slot) (hR : Rel zt zs zg zh zu zl zc zw zx) (hw : Wd E (LA s) s H locs (wX E ad zt zs zg zh zu zl zc zw ++ wM E am zx)) (hl : lv_has ls 4 [(0, .ref b), (1, .ref (ad 0)), (2, .ref (am 0)), (3, .int (nI i))]) : W p l e room_1 s m #[Value.ref b] below meth c H locs (90 + 2 * k) (150000 + 13 * k) (lw_Z below #[Value.ref b] s) (F0 m 217 ls []) := by
  obtain ⟨C0, hA, hX, hbl, hL⟩ := K0
  have hx := C0.1
  have hb := C0.2.1
  have hbA : ¬ LA s b := fun z => Nat.not_le.mpr hbl z
  refine lv_aload_n hx hb dL_law_217 rfl (lv_at hl 1 rfl) ?_
  refine lv_aload_n hx hb dL_law_218 rfl (lv_at hl 0 rfl) ?_
  refine lv_iload_n hx hb dL_law_219 rfl (lv_at hl 3 rfl) ?_
  refine lv_iconst (v := 1) hx hb dL_law_220 (by decide) ?_
  refine lv_iadd hx hb dL_law_221 ?_
  refine va_sld hx hb hX hbl hbA hw.2.2 (sc_in (j := 1) (by decide) (by omega) hL) dL_law_222 ?_
  refine lv_aload_n hx hb dL_law_223 rfl (lv_at hl 0 rfl) ?_
  refine lv_iload_n hx hb dL_law_224 rfl (lv_at hl 3 rfl) ?_
  refine lv_iconst (v := 2) hx hb dL_law_225 (by decide) ?_
  refine lv_iadd hx hb dL_law_226 ?_
  refine va_sld hx hb hX hbl hbA hw.2.2 (sc_in (j := 2) (by decide) (by omega) hL) dL_law_227 ?_
  obtain ⟨F1, F2, r, h1, h2, hR⟩ := R_rule hR (xs (nI i + 1).toNatClampNeg) (xs (nI i + 2).toNatClampNeg)
  refine r_backP (va_runV (As := [.int (xs (nI i + 1).toNatClampNeg), .int (xs (nI i + 2).toNatClampNeg)]) (rest := []) ⟨hx, hb, C0.2.2.2.1, C0.2.2.2.2.1, C0.2.2.2.2.2.1⟩ (tX9_rule l E ad zt zs zg zh zu zl zc zw (xs (nI i + 1).toNatClampNeg) (xs (nI i + 2).toNatClampNeg) h1 H.size) (cwV 2 C0.2.2.2.2.2.1 gL_X9_rule rfl rfl rfl (by decide +kernel) ⟨Nat.le_of_ble_eq_true rfl, Nat.le_of_ble_eq_true rfl⟩) ⟨PG_blind, va_recv hA.2.2.1.1 hw.1 (ci := 9) (q0 := 0) rfl rfl, pg_at hA hw [0, 1, 2, 3, 4, 5, 6, 7, 8, 9, 10, 11, 12, 13, 14, 15, 16, 17, 18, 19, 20, 21, 22, 23, 24, 25, 26, 27, 28, 29, 30, 31, 32, 33, 34, 35, 36, 37, 38, 39, 40, 41, 42, 43, 44, 45, 46, 47, 48, 49] rfl (lcX E ad am zt zs zg zh zu zl zc zw zx)⟩ rfl rfl hl.1 rfl (lv_room (Nat.le_of_ble_eq_true rfl)) dL_law_228 ⟨by show _ ≤ 600000; omega, by show _ ≤ 7302250; omega⟩) hA hw [0, 1, 2, 3, 4, 5, 6, 7, 8, 9, 10, 11, 12, 13, 14, 15, 16, 17, 18, 19, 20, 21, 22, 23, 24, 25, 26, 27, 28, 29, 30, 31, 32, 33, 34, 35, 36, 37, 38, 39, 40, 41, 42, 43, 44, 45, 46, 47, 48, 49] [50, 51, 52, 53, 54, 55, 56, 57, 58, 59, 60, 61, 62, 63, 64, 65, 66, 67, 68, 69, 70, 71, 72, 73, 74, 75, 76, 77, 78, 79, 80, 81, 82, 83, 84, 85, 86] (lcX E ad am zt zs zg zh zu zl zc zw zx) (lcM E ad am zt zs zg zh zu zl zc zw zx) rfl (by decide) (fun H locs hw => ?_)
  have hw := lj1 hw
  refine W.widen (k := 90 + 2 * (k + 1)) (n := 150000 + 13 * (k + 1)) (by omega) (by omega) ?_
  refine lv_aload_n hx hb dL_law_231 rfl (lv_at hl 2 rfl) ?_
  refine lv_aload_n hx hb dL_law_232 rfl (lv_at hl 0 rfl) ?_
  refine lv_iload_n hx hb dL_law_233 rfl (lv_at hl 3 rfl) ?_
  refine lv_iconst (v := 1) hx hb dL_law_234 (by decide) ?_
  refine lv_iadd hx hb dL_law_235 ?_
  refine va_sld hx hb hX hbl hbA hw.2.2 (sc_in (j := 1) (by decide) (by omega) hL) dL_law_236 ?_
  refine lv_aload_n hx hb dL_law_237 rfl (lv_at hl 0 rfl) ?_
  refine lv_iload_n hx hb dL_law_238 rfl (lv_at hl 3 rfl) ?_
  refine lv_iconst (v := 2) hx hb dL_law_239 (by decide) ?_
  refine lv_iadd hx hb dL_law_240 ?_
  refine va_sld hx hb hX hbl hbA hw.2.2 (sc_in (j := 2) (by decide) (by omega) hL) dL_law_241 ?_
  refine r_backP (va_runV (As := [.int (xs (nI i + 1).toNatClampNeg), .int (xs (nI i + 2).toNatClampNeg)]) (rest := [.int r]) ⟨hx, hb, C0.2.2.2.1, C0.2.2.2.2.1, C0.2.2.2.2.2.1⟩ (tX10_rule l E am F2 zx (xs (nI i + 1).toNatClampNeg) (xs (nI i + 2).toNatClampNeg) h2 H.size) (cwV 2 C0.2.2.2.2.2.1 gL_X10_rule rfl rfl rfl (by decide +kernel) ⟨Nat.le_of_ble_eq_true rfl, Nat.le_of_ble_eq_true rfl⟩) ⟨PG_blind, va_recv hA.2.2.1.1 hw.1 (ci := 10) (q0 := 50) rfl rfl, pg_at hA hw [50, 51, 52, 53, 54, 55, 56, 57, 58, 59, 60, 61, 62, 63, 64, 65, 66, 67, 68, 69, 70, 71, 72, 73, 74, 75, 76, 77, 78, 79, 80, 81, 82, 83, 84, 85, 86] rfl (lcM E ad am zt zs zg zh zu zl zc zw zx)⟩ rfl rfl hl.1 rfl (lv_room (Nat.le_of_ble_eq_true rfl)) dL_law_242 ⟨by show _ ≤ 600000; omega, by show _ ≤ 7302250; omega⟩) hA hw [50, 51, 52, 53, 54, 55, 56, 57, 58, 59, 60, 61, 62, 63, 64, 65, 66, 67, 68, 69, 70, 71, 72, 73, 74, 75, 76, 77, 78, 79, 80, 81, 82, 83, 84, 85, 86] [0, 1, 2, 3, 4, 5, 6, 7, 8, 9, 10, 11, 12, 13, 14, 15, 16, 17, 18, 19, 20, 21, 22, 23, 24, 25, 26, 27, 28, 29, 30, 31, 32, 33, 34, 35, 36, 37, 38, 39, 40, 41, 42, 43, 44, 45, 46, 47, 48, 49] (lcM E ad am zt zs zg zh zu zl zc zw zx) (lcX E ad am zt zs zg zh zu zl zc zw zx) rfl (by decide) (fun H locs hw => ?_)
  refine lv_icmp_eq (tgt := 888) hx hb dL_law_245 (by decide) (fun c1 => ?_) (fun c1 => absurd rfl c1)
  refine lv_iinc (v := nI (i + 6)) (lv' := [(3, .int (nI (i + 6))), (0, .ref b), (1, .ref (ad 0)), (2, .ref (am 0))]) hx hb dL_law_888 hl (k := 3) rfl (nI_add i 6) (by decide) rfl (fun ls hl => ?_)
  refine lv_goto (tgt := 18) hx hb dL_law_891 (by decide) ?_
  exact ih _ zt zs zg zh zu zl zc zw zx _ _ _ hR hw (lv_sub hl [1, 2, 3, 0] rfl)
set_option maxRecDepth 20000 in
set_option maxHeartbeats 4000000 in
theorem law_c4 {p : Program} {l : Launch} {e : Env} {s : State} {m : MethodId} {below : List Frame} {meth : Method} {c : Code} {b L : Nat} {xs : Nat → Int32} {E : EV} (K0 : LC p s m meth c b L xs E) {am : Nat → Nat} (i k : Nat) (hi : i + 6 ≤ L) (hk : k ≤ 512) (ih : ∀ (ad : Nat → Nat) (zt zs zg zh zu zl zc zw zx : OS) (H : Heap) (locs : List Loc) (ls : Array Slot), Rel zt zs zg zh zu zl zc zw zx → Wd E (LA s) s H locs (wX E ad zt zs zg zh zu zl zc zw ++ wM E am zx) → lv_has ls 4 [(0, .ref b), (1, .ref (ad 0)), (2, .ref (am 0)), (3, .int (nI (i + 6)))] → W p l e room_1 s m #[Value.ref b] below meth c H locs (90 + 2 * (k + 1)) (150000 + 13 * (k + 1)) (lw_Z below #[Value.ref b] s) (F0 m 18 ls [])) (ad : Nat → Nat) (zt zs zg zh zu zl zc zw zx : OS) (H : Heap) (locs : List Loc) (ls : Array Slot) (hR : Rel zt zs zg zh zu zl zc zw zx) (hw : Wd E (LA s) s H locs (wX E ad zt zs zg zh zu zl zc zw ++ wM E am zx)) (hl : lv_has ls 4 [(0, .ref b), (1, .ref (ad 0)), (2, .ref (am 0)), (3, .int (nI i))]) : W p l e room_1 s m #[Value.ref b] below meth c H locs (90 + 2 * k) (150000 + 13 * k) (lw_Z below #[Value.ref b] s) (F0 m 250 ls []) := by
  obtain ⟨C0, hA, hX, hbl, hL⟩ := K0
  have hx := C0.1
  have hb := C0.2.1
  have hbA : ¬ LA s b := fun z => Nat.not_le.mpr hbl z
  refine lv_aload_n hx hb dL_law_250 rfl (lv_at hl 1 rfl) ?_
  refine lv_aload_n hx hb dL_law_251 rfl (lv_at hl 0 rfl) ?_
  refine lv_iload_n hx hb dL_law_252 rfl (lv_at hl 3 rfl) ?_
  refine lv_iconst (v := 1) hx hb dL_law_253 (by decide) ?_
  refine lv_iadd hx hb dL_law_254 ?_
  refine va_sld hx hb hX hbl hbA hw.2.2 (sc_in (j := 1) (by decide) (by omega) hL) dL_law_255 ?_
  refine lv_aload_n hx hb dL_law_256 rfl (lv_at hl 0 rfl) ?_
  refine lv_iload_n hx hb dL_law_257 rfl (lv_at hl 3 rfl) ?_
  refine lv_iconst (v := 2) hx hb dL_law_258 (by decide) ?_
  refine lv_iadd hx hb dL_law_259 ?_
  refine va_sld hx hb hX hbl hbA hw.2.2 (sc_in (j := 2) (by decide) (by omega) hL) dL_law_260 ?_
  obtain ⟨F1, F2, r, zt1, zx1, h1, h2, hR⟩ := R_want hR (xs (nI i + 1).toNatClampNeg) (xs (nI i + 2).toNatClampNeg)
  refine r_backP (va_runV (As := [.int (xs (nI i + 1).toNatClampNeg), .int (xs (nI i + 2).toNatClampNeg)]) (rest := []) ⟨hx, hb, C0.2.2.2.1, C0.2.2.2.2.1, C0.2.2.2.2.2.1⟩ (tX9_want l E ad zt zs zg zh zu zl zc zw (xs (nI i + 1).toNatClampNeg) (xs (nI i + 2).toNatClampNeg) h1 H.size) (cwV 2 C0.2.2.2.2.2.1 gL_X9_want rfl rfl rfl (by decide +kernel) ⟨Nat.le_of_ble_eq_true rfl, Nat.le_of_ble_eq_true rfl⟩) ⟨PG_blind, va_recv hA.2.2.1.1 hw.1 (ci := 9) (q0 := 0) rfl rfl, pg_at hA hw [0, 1, 2, 3, 4, 5, 6, 7, 8, 9, 10, 11, 12, 13, 14, 15, 16, 17, 18, 19, 20, 21, 22, 23, 24, 25, 26, 27, 28, 29, 30, 31, 32, 33, 34, 35, 36, 37, 38, 39, 40, 41, 42, 43, 44, 45, 46, 47, 48, 49] rfl (lcX E ad am zt zs zg zh zu zl zc zw zx)⟩ rfl rfl hl.1 rfl (lv_room (Nat.le_of_ble_eq_true rfl)) dL_law_261 ⟨by show _ ≤ 600000; omega, by show _ ≤ 7302250; omega⟩) hA hw [0, 1, 2, 3, 4, 5, 6, 7, 8, 9, 10, 11, 12, 13, 14, 15, 16, 17, 18, 19, 20, 21, 22, 23, 24, 25, 26, 27, 28, 29, 30, 31, 32, 33, 34, 35, 36, 37, 38, 39, 40, 41, 42, 43, 44, 45, 46, 47, 48, 49] [50, 51, 52, 53, 54, 55, 56, 57, 58, 59, 60, 61, 62, 63, 64, 65, 66, 67, 68, 69, 70, 71, 72, 73, 74, 75, 76, 77, 78, 79, 80, 81, 82, 83, 84, 85, 86] (lcX E ad am zt zs zg zh zu zl zc zw zx) (lcM E ad am zt zs zg zh zu zl zc zw zx) rfl (by decide) (fun H locs hw => ?_)
  have hw := lj1 hw
  refine W.widen (k := 90 + 2 * (k + 1)) (n := 150000 + 13 * (k + 1)) (by omega) (by omega) ?_
  refine lv_aload_n hx hb dL_law_264 rfl (lv_at hl 2 rfl) ?_
  refine lv_aload_n hx hb dL_law_265 rfl (lv_at hl 0 rfl) ?_
  refine lv_iload_n hx hb dL_law_266 rfl (lv_at hl 3 rfl) ?_
  refine lv_iconst (v := 1) hx hb dL_law_267 (by decide) ?_
  refine lv_iadd hx hb dL_law_268 ?_
  refine va_sld hx hb hX hbl hbA hw.2.2 (sc_in (j := 1) (by decide) (by omega) hL) dL_law_269 ?_
  refine lv_aload_n hx hb dL_law_270 rfl (lv_at hl 0 rfl) ?_
  refine lv_iload_n hx hb dL_law_271 rfl (lv_at hl 3 rfl) ?_
  refine lv_iconst (v := 2) hx hb dL_law_272 (by decide) ?_
  refine lv_iadd hx hb dL_law_273 ?_
  refine va_sld hx hb hX hbl hbA hw.2.2 (sc_in (j := 2) (by decide) (by omega) hL) dL_law_274 ?_
  refine r_backP (va_runV (As := [.int (xs (nI i + 1).toNatClampNeg), .int (xs (nI i + 2).toNatClampNeg)]) (rest := [.int r]) ⟨hx, hb, C0.2.2.2.1, C0.2.2.2.2.1, C0.2.2.2.2.2.1⟩ (tX10_want l E am zx (xs (nI i + 1).toNatClampNeg) (xs (nI i + 2).toNatClampNeg) h2 H.size) (cwV 2 C0.2.2.2.2.2.1 gL_X10_want rfl rfl rfl (by decide +kernel) ⟨Nat.le_of_ble_eq_true rfl, Nat.le_of_ble_eq_true rfl⟩) ⟨PG_blind, va_recv hA.2.2.1.1 hw.1 (ci := 10) (q0 := 50) rfl rfl, pg_at hA hw [50, 51, 52, 53, 54, 55, 56, 57, 58, 59, 60, 61, 62, 63, 64, 65, 66, 67, 68, 69, 70, 71, 72, 73, 74, 75, 76, 77, 78, 79, 80, 81, 82, 83, 84, 85, 86] rfl (lcM E ad am zt1 zs zg zh zu zl zc zw zx)⟩ rfl rfl hl.1 rfl (lv_room (Nat.le_of_ble_eq_true rfl)) dL_law_275 ⟨by show _ ≤ 600000; omega, by show _ ≤ 7302250; omega⟩) hA hw [50, 51, 52, 53, 54, 55, 56, 57, 58, 59, 60, 61, 62, 63, 64, 65, 66, 67, 68, 69, 70, 71, 72, 73, 74, 75, 76, 77, 78, 79, 80, 81, 82, 83, 84, 85, 86] [0, 1, 2, 3, 4, 5, 6, 7, 8, 9, 10, 11, 12, 13, 14, 15, 16, 17, 18, 19, 20, 21, 22, 23, 24, 25, 26, 27, 28, 29, 30, 31, 32, 33, 34, 35, 36, 37, 38, 39, 40, 41, 42, 43, 44, 45, 46, 47, 48, 49] (lcM E ad am zt1 zs zg zh zu zl zc zw zx) (lcX E ad am zt1 zs zg zh zu zl zc zw zx) rfl (by decide) (fun H locs hw => ?_)
  refine lv_icmp_eq (tgt := 888) hx hb dL_law_278 (by decide) (fun c1 => ?_) (fun c1 => absurd rfl c1)
  refine lv_iinc (v := nI (i + 6)) (lv' := [(3, .int (nI (i + 6))), (0, .ref b), (1, .ref (ad 0)), (2, .ref (am 0))]) hx hb dL_law_888 hl (k := 3) rfl (nI_add i 6) (by decide) rfl (fun ls hl => ?_)
  refine lv_goto (tgt := 18) hx hb dL_law_891 (by decide) ?_
  exact ih _ zt1 zs zg zh zu zl zc zw zx1 _ _ _ hR hw (lv_sub hl [1, 2, 3, 0] rfl)

def LA (s : State) : Nat → Prop := fun q => s.heap.size ≤ q
theorem lcX (E : EV) (ad am : Nat → Nat) (zt zs zg zh zu zl zc zw zx : OS) : ([0, 1, 2, 3, 4, 5, 6, 7, 8, 9, 10, 11, 12, 13, 14, 15, 16, 17, 18, 19, 20, 21, 22, 23, 24, 25, 26, 27, 28, 29, 30, 31, 32, 33, 34, 35, 36, 37, 38, 39, 40, 41, 42, 43, 44, 45, 46, 47, 48, 49] : List Nat).map (fun i => (wX E ad zt zs zg zh zu zl zc zw ++ wM E am zx)[i]?) = (wX E ad zt zs zg zh zu zl zc zw).map some := rfl
theorem lcM (E : EV) (ad am : Nat → Nat) (zt zs zg zh zu zl zc zw zx : OS) : ([50, 51, 52, 53, 54, 55, 56, 57, 58, 59, 60, 61, 62, 63, 64, 65, 66, 67, 68, 69, 70, 71, 72, 73, 74, 75, 76, 77, 78, 79, 80, 81, 82, 83, 84, 85, 86] : List Nat).map (fun i => (wX E ad zt zs zg zh zu zl zc zw ++ wM E am zx)[i]?) = (wM E am zx).map some := rfl
theorem lj1 {E : EV} {A : Nat → Prop} {s : State} {H : Heap} {locs : List Loc} {ad am : Nat → Nat} {zt zs zg zh zu zl zc zw zx : OS} (hw : Wd E A s H locs (wM E am zx ++ wX E ad zt zs zg zh zu zl zc zw)) : Wd E A s H locs (wX E ad zt zs zg zh zu zl zc zw ++ wM E am zx) := hw.sub [37, 38, 39, 40, 41, 42, 43, 44, 45, 46, 47, 48, 49, 50, 51, 52, 53, 54, 55, 56, 57, 58, 59, 60, 61, 62, 63, 64, 65, 66, 67, 68, 69, 70, 71, 72, 73, 74, 75, 76, 77, 78, 79, 80, 81, 82, 83, 84, 85, 86, 0, 1, 2, 3, 4, 5, 6, 7, 8, 9, 10, 11, 12, 13, 14, 15, 16, 17, 18, 19, 20, 21, 22, 23, 24, 25, 26, 27, 28, 29, 30, 31, 32, 33, 34, 35, 36] rfl rfl
theorem lj2 {E : EV} {A : Nat → Prop} {s : State} {H : Heap} {locs : List Loc} {ad am : Nat → Nat} {zt zs zg zh zu zl zc zw zx : OS} {ex : va_W} (hw : Wd E A s H locs (wM E am zx ++ (wX E ad zt zs zg zh zu zl zc zw ++ ex))) : Wd E A s H locs (wX E ad zt zs zg zh zu zl zc zw ++ wM E am zx) := hw.sub [37, 38, 39, 40, 41, 42, 43, 44, 45, 46, 47, 48, 49, 50, 51, 52, 53, 54, 55, 56, 57, 58, 59, 60, 61, 62, 63, 64, 65, 66, 67, 68, 69, 70, 71, 72, 73, 74, 75, 76, 77, 78, 79, 80, 81, 82, 83, 84, 85, 86, 0, 1, 2, 3, 4, 5, 6, 7, 8, 9, 10, 11, 12, 13, 14, 15, 16, 17, 18, 19, 20, 21, 22, 23, 24, 25, 26, 27, 28, 29, 30, 31, 32, 33, 34, 35, 36] rfl rfl
theorem sc_in {i j L : Nat} {y : Int32} (hy : y = nI j) (h : i + j < L) (hL : L ≤ 3072) : vp_in (nI i + y) L := by
  rw [hy, nI_add]
  exact vp_in_nI h (by omega)
def LC (p : Program) (s : State) (m : MethodId) (meth : Method) (c : Code) (b L : Nat) (xs : Nat → Int32) (E : EV) : Prop := Cx RL meth.name code ret 4 lw_tbl p s m #[Value.ref b] meth c ∧ Ax E (LA s) s ∧ va_X b L xs s s.heap ∧ b < s.heap.size ∧ L ≤ 3072
set_option maxRecDepth 20000 in
theorem gL_X9_text : GoodIn lw_tbl (wsV RL 15 RX9 yX9_text wsX9_text) := goodIn_sub (by decide +kernel) (by decide +kernel)
set_option maxRecDepth 20000 in
theorem gL_X10_text : GoodIn lw_tbl (wsV RL 19 RX10 yX10_text wsX10_text) := goodIn_sub (by decide +kernel) (by decide +kernel)
set_option maxRecDepth 20000 in
set_option maxHeartbeats 4000000 in
theorem law_c0 {p : Program} {l : Launch} {e : Env} {s : State} {m : MethodId} {below : List Frame} {meth : Method} {c : Code} {b L : Nat} {xs : Nat → Int32} {E : EV} (K0 : LC p s m meth c b L xs E) {am : Nat → Nat} (i k : Nat) (hi : i + 6 ≤ L) (hk : k ≤ 512) (ih : ∀ (ad : Nat → Nat) (zt zs zg zh zu zl zc zw zx : OS) (H : Heap) (locs : List Loc) (ls : Array Slot), Rel zt zs zg zh zu zl zc zw zx → Wd E (LA s) s H locs (wX E ad zt zs zg zh zu zl zc zw ++ wM E am zx) → lv_has ls 4 [(0, .ref b), (1, .ref (ad 0)), (2, .ref (am 0)), (3, .int (nI (i + 6)))] → W p l e room_1 s m #[Value.ref b] below meth c H locs (90 + 2 * (k + 1)) (150000 + 13 * (k + 1)) (lw_Z below #[Value.ref b] s) (F0 m 18 ls [])) (ad : Nat → Nat) (zt zs zg zh zu zl zc zw zx : OS) (H : Heap) (locs : List Loc) (ls : Array Slot) (hR : Rel zt zs zg zh zu zl zc zw zx) (hw : Wd E (LA s) s H locs (wX E ad zt zs zg zh zu zl zc zw ++ wM E am zx)) (hl : lv_has ls 4 [(0, .ref b), (1, .ref (ad 0)), (2, .ref (am 0)), (3, .int (nI i))]) : W p l e room_1 s m #[Value.ref b] below meth c H locs (90 + 2 * k) (150000 + 13 * k) (lw_Z below #[Value.ref b] s) (F0 m 128 ls []) := by
  obtain ⟨C0, hA, hX, hbl, hL⟩ := K0
  have hx := C0.1
  have hb := C0.2.1
  have hbA : ¬ LA s b := fun z => Nat.not_le.mpr hbl z
  refine lv_aload_n hx hb dL_law_128 rfl (lv_at hl 1 rfl) ?_
  refine lv_aload_n hx hb dL_law_129 rfl (lv_at hl 0 rfl) ?_
  refine lv_iload_n hx hb dL_law_130 rfl (lv_at hl 3 rfl) ?_
  refine lv_iconst (v := 1) hx hb dL_law_131 (by decide) ?_
  refine lv_iadd hx hb dL_law_132 ?_
  refine va_sld hx hb hX hbl hbA hw.2.2 (sc_in (j := 1) (by decide) (by omega) hL) dL_law_133 ?_
  refine lv_i2l hx hb dL_law_134 rfl ?_
  refine lv_bipush (v := 32) hx hb dL_law_135 (by decide) ?_
  refine lv_lshl hx hb dL_law_137 rfl ?_
  refine lv_aload_n hx hb dL_law_138 rfl (lv_at hl 0 rfl) ?_
  refine lv_iload_n hx hb dL_law_139 rfl (lv_at hl 3 rfl) ?_
  refine lv_iconst (v := 2) hx hb dL_law_140 (by decide) ?_
  refine lv_iadd hx hb dL_law_141 ?_
  refine va_sld hx hb hX hbl hbA hw.2.2 (sc_in (j := 2) (by decide) (by omega) hL) dL_law_142 ?_
  refine lv_i2l hx hb dL_law_143 rfl ?_
  refine lv_ldc2 (v := 4294967295) hx hb C0.2.2.2.2.1 (C0.2.2.2.2.2.1 (.constantLong RL 13 4294967295) (by decide +kernel)) dL_law_144 ?_
  refine lv_land hx hb dL_law_147 ?_
  refine lv_lor hx hb dL_law_148 ?_
  obtain ⟨F1, F2, r, zs1, zx1, h1, h2, hR⟩ := R_text hR ((((xs (nI i + 1).toNatClampNeg).toInt64) <<< ((32 : Int32).toInt64 &&& 63)) ||| (((xs (nI i + 2).toNatClampNeg).toInt64) &&& 4294967295))
  refine r_backP (va_runV (As := [.long ((((xs (nI i + 1).toNatClampNeg).toInt64) <<< ((32 : Int32).toInt64 &&& 63)) ||| (((xs (nI i + 2).toNatClampNeg).toInt64) &&& 4294967295))]) (rest := []) ⟨hx, hb, C0.2.2.2.1, C0.2.2.2.2.1, C0.2.2.2.2.2.1⟩ (tX9_text l E ad F1 zt zs zg zh zu zl zc zw ((((xs (nI i + 1).toNatClampNeg).toInt64) <<< ((32 : Int32).toInt64 &&& 63)) ||| (((xs (nI i + 2).toNatClampNeg).toInt64) &&& 4294967295)) h1 H.size) (cwV 1 C0.2.2.2.2.2.1 gL_X9_text rfl rfl rfl (by decide +kernel) ⟨Nat.le_of_ble_eq_true rfl, Nat.le_of_ble_eq_true rfl⟩) ⟨PG_blind, va_recv hA.2.2.1.1 hw.1 (ci := 9) (q0 := 0) rfl rfl, pg_at hA hw [0, 1, 2, 3, 4, 5, 6, 7, 8, 9, 10, 11, 12, 13, 14, 15, 16, 17, 18, 19, 20, 21, 22, 23, 24, 25, 26, 27, 28, 29, 30, 31, 32, 33, 34, 35, 36, 37, 38, 39, 40, 41, 42, 43, 44, 45, 46, 47, 48, 49] rfl (lcX E ad am zt zs zg zh zu zl zc zw zx)⟩ rfl rfl hl.1 rfl (lv_room (Nat.le_of_ble_eq_true rfl)) dL_law_149 ⟨by show _ ≤ 600000; omega, by show _ ≤ 7302250; omega⟩) hA hw [0, 1, 2, 3, 4, 5, 6, 7, 8, 9, 10, 11, 12, 13, 14, 15, 16, 17, 18, 19, 20, 21, 22, 23, 24, 25, 26, 27, 28, 29, 30, 31, 32, 33, 34, 35, 36, 37, 38, 39, 40, 41, 42, 43, 44, 45, 46, 47, 48, 49] [50, 51, 52, 53, 54, 55, 56, 57, 58, 59, 60, 61, 62, 63, 64, 65, 66, 67, 68, 69, 70, 71, 72, 73, 74, 75, 76, 77, 78, 79, 80, 81, 82, 83, 84, 85, 86] (lcX E ad am zt zs zg zh zu zl zc zw zx) (lcM E ad am zt zs zg zh zu zl zc zw zx) rfl (by decide) (fun H locs hw => ?_)
  have hw := lj1 hw
  refine W.widen (k := 90 + 2 * (k + 1)) (n := 150000 + 13 * (k + 1)) (by omega) (by omega) ?_
  refine lv_aload_n hx hb dL_law_152 rfl (lv_at hl 2 rfl) ?_
  refine lv_aload_n hx hb dL_law_153 rfl (lv_at hl 0 rfl) ?_
  refine lv_iload_n hx hb dL_law_154 rfl (lv_at hl 3 rfl) ?_
  refine lv_iconst (v := 1) hx hb dL_law_155 (by decide) ?_
  refine lv_iadd hx hb dL_law_156 ?_
  refine va_sld hx hb hX hbl hbA hw.2.2 (sc_in (j := 1) (by decide) (by omega) hL) dL_law_157 ?_
  refine lv_i2l hx hb dL_law_158 rfl ?_
  refine lv_bipush (v := 32) hx hb dL_law_159 (by decide) ?_
  refine lv_lshl hx hb dL_law_161 rfl ?_
  refine lv_aload_n hx hb dL_law_162 rfl (lv_at hl 0 rfl) ?_
  refine lv_iload_n hx hb dL_law_163 rfl (lv_at hl 3 rfl) ?_
  refine lv_iconst (v := 2) hx hb dL_law_164 (by decide) ?_
  refine lv_iadd hx hb dL_law_165 ?_
  refine va_sld hx hb hX hbl hbA hw.2.2 (sc_in (j := 2) (by decide) (by omega) hL) dL_law_166 ?_
  refine lv_i2l hx hb dL_law_167 rfl ?_
  refine lv_ldc2 (v := 4294967295) hx hb C0.2.2.2.2.1 (C0.2.2.2.2.2.1 (.constantLong RL 13 4294967295) (by decide +kernel)) dL_law_168 ?_
  refine lv_land hx hb dL_law_171 ?_
  refine lv_lor hx hb dL_law_172 ?_
  refine r_backP (va_runV (As := [.long ((((xs (nI i + 1).toNatClampNeg).toInt64) <<< ((32 : Int32).toInt64 &&& 63)) ||| (((xs (nI i + 2).toNatClampNeg).toInt64) &&& 4294967295))]) (rest := [.int r]) ⟨hx, hb, C0.2.2.2.1, C0.2.2.2.2.1, C0.2.2.2.2.2.1⟩ (tX10_text l E am F2 zx ((((xs (nI i + 1).toNatClampNeg).toInt64) <<< ((32 : Int32).toInt64 &&& 63)) ||| (((xs (nI i + 2).toNatClampNeg).toInt64) &&& 4294967295)) h2 H.size) (cwV 1 C0.2.2.2.2.2.1 gL_X10_text rfl rfl rfl (by decide +kernel) ⟨Nat.le_of_ble_eq_true rfl, Nat.le_of_ble_eq_true rfl⟩) ⟨PG_blind, va_recv hA.2.2.1.1 hw.1 (ci := 10) (q0 := 50) rfl rfl, pg_at hA hw [50, 51, 52, 53, 54, 55, 56, 57, 58, 59, 60, 61, 62, 63, 64, 65, 66, 67, 68, 69, 70, 71, 72, 73, 74, 75, 76, 77, 78, 79, 80, 81, 82, 83, 84, 85, 86] rfl (lcM E ad am zt zs1 zg zh zu zl zc zw zx)⟩ rfl rfl hl.1 rfl (lv_room (Nat.le_of_ble_eq_true rfl)) dL_law_173 ⟨by show _ ≤ 600000; omega, by show _ ≤ 7302250; omega⟩) hA hw [50, 51, 52, 53, 54, 55, 56, 57, 58, 59, 60, 61, 62, 63, 64, 65, 66, 67, 68, 69, 70, 71, 72, 73, 74, 75, 76, 77, 78, 79, 80, 81, 82, 83, 84, 85, 86] [0, 1, 2, 3, 4, 5, 6, 7, 8, 9, 10, 11, 12, 13, 14, 15, 16, 17, 18, 19, 20, 21, 22, 23, 24, 25, 26, 27, 28, 29, 30, 31, 32, 33, 34, 35, 36, 37, 38, 39, 40, 41, 42, 43, 44, 45, 46, 47, 48, 49] (lcM E ad am zt zs1 zg zh zu zl zc zw zx) (lcX E ad am zt zs1 zg zh zu zl zc zw zx) rfl (by decide) (fun H locs hw => ?_)
  refine lv_icmp_eq (tgt := 888) hx hb dL_law_176 (by decide) (fun c1 => ?_) (fun c1 => absurd rfl c1)
  refine lv_iinc (v := nI (i + 6)) (lv' := [(3, .int (nI (i + 6))), (0, .ref b), (1, .ref (ad 0)), (2, .ref (am 0))]) hx hb dL_law_888 hl (k := 3) rfl (nI_add i 6) (by decide) rfl (fun ls hl => ?_)
  refine lv_goto (tgt := 18) hx hb dL_law_891 (by decide) ?_
  exact ih _ zt zs1 zg zh zu zl zc zw zx1 _ _ _ hR hw (lv_sub hl [1, 2, 3, 0] rfl)
set_option maxRecDepth 20000 in
theorem gL_X9_cut : GoodIn lw_tbl (wsV RL 20 RX9 yX9_cut wsX9_cut) := goodIn_sub (by decide +kernel) (by decide +kernel)
set_option maxRecDepth 20000 in
theorem gL_X10_cut : GoodIn lw_tbl (wsV RL 24 RX10 yX10_cut wsX10_cut) := goodIn_sub (by decide +kernel) (by decide +kernel)
set_option maxRecDepth 20000 in
set_option maxHeartbeats 4000000 in
theorem law_c1 {p : Program} {l : Launch} {e : Env} {s : State} {m : MethodId} {below : List Frame} {meth : Method} {c : Code} {b L : Nat} {xs : Nat → Int32} {E : EV} (K0 : LC p s m meth c b L xs E) {am : Nat → Nat} (i k : Nat) (hi : i + 6 ≤ L) (hk : k ≤ 512) (ih : ∀ (ad : Nat → Nat) (zt zs zg zh zu zl zc zw zx : OS) (H : Heap) (locs : List Loc) (ls : Array Slot), Rel zt zs zg zh zu zl zc zw zx → Wd E (LA s) s H locs (wX E ad zt zs zg zh zu zl zc zw ++ wM E am zx) → lv_has ls 4 [(0, .ref b), (1, .ref (ad 0)), (2, .ref (am 0)), (3, .int (nI (i + 6)))] → W p l e room_1 s m #[Value.ref b] below meth c H locs (90 + 2 * (k + 1)) (150000 + 13 * (k + 1)) (lw_Z below #[Value.ref b] s) (F0 m 18 ls [])) (ad : Nat → Nat) (zt zs zg zh zu zl zc zw zx : OS) (H : Heap) (locs : List Loc) (ls : Array Slot) (hR : Rel zt zs zg zh zu zl zc zw zx) (hw : Wd E (LA s) s H locs (wX E ad zt zs zg zh zu zl zc zw ++ wM E am zx)) (hl : lv_has ls 4 [(0, .ref b), (1, .ref (ad 0)), (2, .ref (am 0)), (3, .int (nI i))]) : W p l e room_1 s m #[Value.ref b] below meth c H locs (90 + 2 * k) (150000 + 13 * k) (lw_Z below #[Value.ref b] s) (F0 m 181 ls []) := by
  obtain ⟨C0, hA, hX, hbl, hL⟩ := K0
  have hx := C0.1
  have hb := C0.2.1
  have hbA : ¬ LA s b := fun z => Nat.not_le.mpr hbl z
  refine lv_aload_n hx hb dL_law_181 rfl (lv_at hl 1 rfl) ?_
  refine lv_aload_n hx hb dL_law_182 rfl (lv_at hl 0 rfl) ?_
  refine lv_iload_n hx hb dL_law_183 rfl (lv_at hl 3 rfl) ?_
  refine lv_iconst (v := 1) hx hb dL_law_184 (by decide) ?_
  refine lv_iadd hx hb dL_law_185 ?_
  refine va_sld hx hb hX hbl hbA hw.2.2 (sc_in (j := 1) (by decide) (by omega) hL) dL_law_186 ?_
  obtain ⟨F1, F2, r, zs1, zx1, h1, h2, hR⟩ := R_cut hR (xs (nI i + 1).toNatClampNeg)
  refine r_backP (va_runV (As := [.int (xs (nI i + 1).toNatClampNeg)]) (rest := []) ⟨hx, hb, C0.2.2.2.1, C0.2.2.2.2.1, C0.2.2.2.2.2.1⟩ (tX9_cut l E ad zt zs zg zh zu zl zc zw (xs (nI i + 1).toNatClampNeg) h1 H.size) (cwV 1 C0.2.2.2.2.2.1 gL_X9_cut rfl rfl rfl (by decide +kernel) ⟨Nat.le_of_ble_eq_true rfl, Nat.le_of_ble_eq_true rfl⟩) ⟨PG_blind, va_recv hA.2.2.1.1 hw.1 (ci := 9) (q0 := 0) rfl rfl, pg_at hA hw [0, 1, 2, 3, 4, 5, 6, 7, 8, 9, 10, 11, 12, 13, 14, 15, 16, 17, 18, 19, 20, 21, 22, 23, 24, 25, 26, 27, 28, 29, 30, 31, 32, 33, 34, 35, 36, 37, 38, 39, 40, 41, 42, 43, 44, 45, 46, 47, 48, 49] rfl (lcX E ad am zt zs zg zh zu zl zc zw zx)⟩ rfl rfl hl.1 rfl (lv_room (Nat.le_of_ble_eq_true rfl)) dL_law_187 ⟨by show _ ≤ 600000; omega, by show _ ≤ 7302250; omega⟩) hA hw [0, 1, 2, 3, 4, 5, 6, 7, 8, 9, 10, 11, 12, 13, 14, 15, 16, 17, 18, 19, 20, 21, 22, 23, 24, 25, 26, 27, 28, 29, 30, 31, 32, 33, 34, 35, 36, 37, 38, 39, 40, 41, 42, 43, 44, 45, 46, 47, 48, 49] [50, 51, 52, 53, 54, 55, 56, 57, 58, 59, 60, 61, 62, 63, 64, 65, 66, 67, 68, 69, 70, 71, 72, 73, 74, 75, 76, 77, 78, 79, 80, 81, 82, 83, 84, 85, 86] (lcX E ad am zt zs zg zh zu zl zc zw zx) (lcM E ad am zt zs zg zh zu zl zc zw zx) rfl (by decide) (fun H locs hw => ?_)
  have hw := lj1 hw
  refine W.widen (k := 90 + 2 * (k + 1)) (n := 150000 + 13 * (k + 1)) (by omega) (by omega) ?_
  refine lv_aload_n hx hb dL_law_190 rfl (lv_at hl 2 rfl) ?_
  refine lv_aload_n hx hb dL_law_191 rfl (lv_at hl 0 rfl) ?_
  refine lv_iload_n hx hb dL_law_192 rfl (lv_at hl 3 rfl) ?_
  refine lv_iconst (v := 1) hx hb dL_law_193 (by decide) ?_
  refine lv_iadd hx hb dL_law_194 ?_
  refine va_sld hx hb hX hbl hbA hw.2.2 (sc_in (j := 1) (by decide) (by omega) hL) dL_law_195 ?_
  refine r_backP (va_runV (As := [.int (xs (nI i + 1).toNatClampNeg)]) (rest := [.int r]) ⟨hx, hb, C0.2.2.2.1, C0.2.2.2.2.1, C0.2.2.2.2.2.1⟩ (tX10_cut l E am zx (xs (nI i + 1).toNatClampNeg) h2 H.size) (cwV 1 C0.2.2.2.2.2.1 gL_X10_cut rfl rfl rfl (by decide +kernel) ⟨Nat.le_of_ble_eq_true rfl, Nat.le_of_ble_eq_true rfl⟩) ⟨PG_blind, va_recv hA.2.2.1.1 hw.1 (ci := 10) (q0 := 50) rfl rfl, pg_at hA hw [50, 51, 52, 53, 54, 55, 56, 57, 58, 59, 60, 61, 62, 63, 64, 65, 66, 67, 68, 69, 70, 71, 72, 73, 74, 75, 76, 77, 78, 79, 80, 81, 82, 83, 84, 85, 86] rfl (lcM E ad am zt zs1 zg zh zu zl zc zw zx)⟩ rfl rfl hl.1 rfl (lv_room (Nat.le_of_ble_eq_true rfl)) dL_law_196 ⟨by show _ ≤ 600000; omega, by show _ ≤ 7302250; omega⟩) hA hw [50, 51, 52, 53, 54, 55, 56, 57, 58, 59, 60, 61, 62, 63, 64, 65, 66, 67, 68, 69, 70, 71, 72, 73, 74, 75, 76, 77, 78, 79, 80, 81, 82, 83, 84, 85, 86] [0, 1, 2, 3, 4, 5, 6, 7, 8, 9, 10, 11, 12, 13, 14, 15, 16, 17, 18, 19, 20, 21, 22, 23, 24, 25, 26, 27, 28, 29, 30, 31, 32, 33, 34, 35, 36, 37, 38, 39, 40, 41, 42, 43, 44, 45, 46, 47, 48, 49] (lcM E ad am zt zs1 zg zh zu zl zc zw zx) (lcX E ad am zt zs1 zg zh zu zl zc zw zx) rfl (by decide) (fun H locs hw => ?_)
  refine lv_icmp_eq (tgt := 888) hx hb dL_law_199 (by decide) (fun c1 => ?_) (fun c1 => absurd rfl c1)
  refine lv_iinc (v := nI (i + 6)) (lv' := [(3, .int (nI (i + 6))), (0, .ref b), (1, .ref (ad 0)), (2, .ref (am 0))]) hx hb dL_law_888 hl (k := 3) rfl (nI_add i 6) (by decide) rfl (fun ls hl => ?_)
  refine lv_goto (tgt := 18) hx hb dL_law_891 (by decide) ?_
  exact ih _ zt zs1 zg zh zu zl zc zw zx1 _ _ _ hR hw (lv_sub hl [1, 2, 3, 0] rfl)
set_option maxRecDepth 20000 in
theorem gL_X9_read : GoodIn lw_tbl (wsV RL 25 RX9 yX9_read wsX9_read) := goodIn_sub (by decide +kernel) (by decide +kernel)
set_option maxRecDepth 20000 in
theorem gL_X10_read : GoodIn lw_tbl (wsV RL 29 RX10 yX10_read wsX10_read) := goodIn_sub (by decide +kernel) (by decide +kernel)
set_option maxRecDepth 20000 in
set_option maxHeartbeats 4000000 in
theorem law_c2 {p : Program} {l : Launch} {e : Env} {s : State} {m : MethodId} {below : List Frame} {meth : Method} {c : Code} {b L : Nat} {xs : Nat → Int32} {E : EV} (K0 : LC p s m meth c b L xs E) {am : Nat → Nat} (i k : Nat) (hi : i + 6 ≤ L) (hk : k ≤ 512) (ih : ∀ (ad : Nat → Nat) (zt zs zg zh zu zl zc zw zx : OS) (H : Heap) (locs : List Loc) (ls : Array Slot), Rel zt zs zg zh zu zl zc zw zx → Wd E (LA s) s H locs (wX E ad zt zs zg zh zu zl zc zw ++ wM E am zx) → lv_has ls 4 [(0, .ref b), (1, .ref (ad 0)), (2, .ref (am 0)), (3, .int (nI (i + 6)))] → W p l e room_1 s m #[Value.ref b] below meth c H locs (90 + 2 * (k + 1)) (150000 + 13 * (k + 1)) (lw_Z below #[Value.ref b] s) (F0 m 18 ls [])) (ad : Nat → Nat) (zt zs zg zh zu zl zc zw zx : OS) (H : Heap) (locs : List Loc) (ls : Array Slot) (hR : Rel zt zs zg zh zu zl zc zw zx) (hw : Wd E (LA s) s H locs (wX E ad zt zs zg zh zu zl zc zw ++ wM E am zx)) (hl : lv_has ls 4 [(0, .ref b), (1, .ref (ad 0)), (2, .ref (am 0)), (3, .int (nI i))]) : W p l e room_1 s m #[Value.ref b] below meth c H locs (90 + 2 * k) (150000 + 13 * k) (lw_Z below #[Value.ref b] s) (F0 m 204 ls []) := by
  obtain ⟨C0, hA, hX, hbl, hL⟩ := K0
  have hx := C0.1
  have hb := C0.2.1
  have hbA : ¬ LA s b := fun z => Nat.not_le.mpr hbl z
  refine lv_aload_n hx hb dL_law_204 rfl (lv_at hl 1 rfl) ?_
  obtain ⟨F1, F2, r, zg1, zh1, zx1, h1, h2, hR⟩ := R_read hR 
  refine r_back (va_runV (As := []) (rest := []) ⟨hx, hb, C0.2.2.2.1, C0.2.2.2.2.1, C0.2.2.2.2.2.1⟩ (tX9_read l E ad F1 zt zs zg zh zu zl zc zw  h1 H.size) (cwV 0 C0.2.2.2.2.2.1 gL_X9_read rfl rfl rfl (by decide +kernel) ⟨Nat.le_of_ble_eq_true rfl, Nat.le_of_ble_eq_true rfl⟩) ⟨PG_blind, va_recv hA.2.2.1.1 hw.1 (ci := 9) (q0 := 0) rfl rfl, pg_at hA hw [0, 1, 2, 3, 4, 5, 6, 7, 8, 9, 10, 11, 12, 13, 14, 15, 16, 17, 18, 19, 20, 21, 22, 23, 24, 25, 26, 27, 28, 29, 30, 31, 32, 33, 34, 35, 36, 37, 38, 39, 40, 41, 42, 43, 44, 45, 46, 47, 48, 49] rfl (lcX E ad am zt zs zg zh zu zl zc zw zx)⟩ rfl rfl hl.1 rfl (lv_room (Nat.le_of_ble_eq_true rfl)) dL_law_205 ⟨by show _ ≤ 600000; omega, by show _ ≤ 7302250; omega⟩) hA hw [0, 1, 2, 3, 4, 5, 6, 7, 8, 9, 10, 11, 12, 13, 14, 15, 16, 17, 18, 19, 20, 21, 22, 23, 24, 25, 26, 27, 28, 29, 30, 31, 32, 33, 34, 35, 36, 37, 38, 39, 40, 41, 42, 43, 44, 45, 46, 47, 48, 49] [50, 51, 52, 53, 54, 55, 56, 57, 58, 59, 60, 61, 62, 63, 64, 65, 66, 67, 68, 69, 70, 71, 72, 73, 74, 75, 76, 77, 78, 79, 80, 81, 82, 83, 84, 85, 86] (lcX E ad am zt zs zg zh zu zl zc zw zx) (lcM E ad am zt zs zg zh zu zl zc zw zx) rfl (by decide) (fun v w1 H locs hq hw => ?_)
  obtain ⟨rfl, ad2, ex, had, rfl⟩ := hq
  have hw := lj2 hw
  refine W.widen (k := 90 + 2 * (k + 1)) (n := 150000 + 13 * (k + 1)) (by omega) (by omega) ?_
  have hl : lv_has ls 4 [(0, .ref b), (1, .ref (ad2 0)), (2, .ref (am 0)), (3, .int (nI i))] := by rw [had]; exact hl
  generalize ad2 = ad at hw hl
  refine lv_aload_n hx hb dL_law_208 rfl (lv_at hl 2 rfl) ?_
  refine r_backP (va_runV (As := []) (rest := [.int r]) ⟨hx, hb, C0.2.2.2.1, C0.2.2.2.2.1, C0.2.2.2.2.2.1⟩ (tX10_read l E am F2 zx  h2 H.size) (cwV 0 C0.2.2.2.2.2.1 gL_X10_read rfl rfl rfl (by decide +kernel) ⟨Nat.le_of_ble_eq_true rfl, Nat.le_of_ble_eq_true rfl⟩) ⟨PG_blind, va_recv hA.2.2.1.1 hw.1 (ci := 10) (q0 := 50) rfl rfl, pg_at hA hw [50, 51, 52, 53, 54, 55, 56, 57, 58, 59, 60, 61, 62, 63, 64, 65, 66, 67, 68, 69, 70, 71, 72, 73, 74, 75, 76, 77, 78, 79, 80, 81, 82, 83, 84, 85, 86] rfl (lcM E ad am zt zs zg1 zh1 zu zl zc zw zx)⟩ rfl rfl hl.1 rfl (lv_room (Nat.le_of_ble_eq_true rfl)) dL_law_209 ⟨by show _ ≤ 600000; omega, by show _ ≤ 7302250; omega⟩) hA hw [50, 51, 52, 53, 54, 55, 56, 57, 58, 59, 60, 61, 62, 63, 64, 65, 66, 67, 68, 69, 70, 71, 72, 73, 74, 75, 76, 77, 78, 79, 80, 81, 82, 83, 84, 85, 86] [0, 1, 2, 3, 4, 5, 6, 7, 8, 9, 10, 11, 12, 13, 14, 15, 16, 17, 18, 19, 20, 21, 22, 23, 24, 25, 26, 27, 28, 29, 30, 31, 32, 33, 34, 35, 36, 37, 38, 39, 40, 41, 42, 43, 44, 45, 46, 47, 48, 49] (lcM E ad am zt zs zg1 zh1 zu zl zc zw zx) (lcX E ad am zt zs zg1 zh1 zu zl zc zw zx) rfl (by decide) (fun H locs hw => ?_)
  refine lv_icmp_eq (tgt := 888) hx hb dL_law_212 (by decide) (fun c1 => ?_) (fun c1 => absurd rfl c1)
  refine lv_iinc (v := nI (i + 6)) (lv' := [(3, .int (nI (i + 6))), (0, .ref b), (1, .ref (ad 0)), (2, .ref (am 0))]) hx hb dL_law_888 hl (k := 3) rfl (nI_add i 6) (by decide) rfl (fun ls hl => ?_)
  refine lv_goto (tgt := 18) hx hb dL_law_891 (by decide) ?_
  exact ih _ zt zs zg1 zh1 zu zl zc zw zx1 _ _ _ hR hw (lv_sub hl [1, 2, 3, 0] rfl)
set_option maxRecDepth 20000 in
theorem gL_X9_rule : GoodIn lw_tbl (wsV RL 30 RX9 yX9_rule wsX9_rule) := goodIn_sub (by decide +kernel) (by decide +kernel)
set_option maxRecDepth 20000 in
theorem gL_X10_rule : GoodIn lw_tbl (wsV RL 34 RX10 yX10_rule wsX10_rule) := goodIn_sub (by decide +kernel) (by decide +kernel)
set_option maxRecDepth 20000 in
set_option maxHeartbeats 4000000 in
theorem law_c3 {p : Program} {l : Launch} {e : Env} {s : State} {m : MethodId} {below : List Frame} {meth : Method} {c : Code} {b L : Nat} {xs : Nat → Int32} {E : EV} (K0 : LC p s m meth c b L xs E) {am : Nat → Nat} (i k : Nat) (hi : i + 6 ≤ L) (hk : k ≤ 512) (ih : ∀ (ad : Nat → Nat) (zt zs zg zh zu zl zc zw zx : OS) (H : Heap) (locs : List Loc) (ls : Array Slot), Rel zt zs zg zh zu zl zc zw zx → Wd E (LA s) s H locs (wX E ad zt zs zg zh zu zl zc zw ++ wM E am zx) → lv_has ls 4 [(0, .ref b), (1, .ref (ad 0)), (2, .ref (am 0)), (3, .int (nI (i + 6)))] → W p l e room_1 s m #[Value.ref b] below meth c H locs (90 + 2 * (k + 1)) (150000 + 13 * (k + 1)) (lw_Z below #[Value.ref b] s) (F0 m 18 ls [])) (ad : Nat → Nat) (zt zs zg zh zu zl zc zw zx : OS) (H : Heap) (locs : List Loc) (ls : Array Slot) (hR : Rel zt zs zg zh zu zl zc zw zx) (hw : Wd E (LA s) s H locs (wX E ad zt zs zg zh zu zl zc zw ++ wM E am zx)) (hl : lv_has ls 4 [(0, .ref b), (1, .ref (ad 0)), (2, .ref (am 0)), (3, .int (nI i))]) : W p l e room_1 s m #[Value.ref b] below meth c H locs (90 + 2 * k) (150000 + 13 * k) (lw_Z below #[Value.ref b] s) (F0 m 217 ls []) := by
  obtain ⟨C0, hA, hX, hbl, hL⟩ := K0
  have hx := C0.1
  have hb := C0.2.1
  have hbA : ¬ LA s b := fun z => Nat.not_le.mpr hbl z
  refine lv_aload_n hx hb dL_law_217 rfl (lv_at hl 1 rfl) ?_
  refine lv_aload_n hx hb dL_law_218 rfl (lv_at hl 0 rfl) ?_
  refine lv_iload_n hx hb dL_law_219 rfl (lv_at hl 3 rfl) ?_
  refine lv_iconst (v := 1) hx hb dL_law_220 (by decide) ?_
  refine lv_iadd hx hb dL_law_221 ?_
  refine va_sld hx hb hX hbl hbA hw.2.2 (sc_in (j := 1) (by decide) (by omega) hL) dL_law_222 ?_
  refine lv_aload_n hx hb dL_law_223 rfl (lv_at hl 0 rfl) ?_
  refine lv_iload_n hx hb dL_law_224 rfl (lv_at hl 3 rfl) ?_
  refine lv_iconst (v := 2) hx hb dL_law_225 (by decide) ?_
  refine lv_iadd hx hb dL_law_226 ?_
  refine va_sld hx hb hX hbl hbA hw.2.2 (sc_in (j := 2) (by decide) (by omega) hL) dL_law_227 ?_
  obtain ⟨F1, F2, r, h1, h2, hR⟩ := R_rule hR (xs (nI i + 1).toNatClampNeg) (xs (nI i + 2).toNatClampNeg)
  refine r_backP (va_runV (As := [.int (xs (nI i + 1).toNatClampNeg), .int (xs (nI i + 2).toNatClampNeg)]) (rest := []) ⟨hx, hb, C0.2.2.2.1, C0.2.2.2.2.1, C0.2.2.2.2.2.1⟩ (tX9_rule l E ad zt zs zg zh zu zl zc zw (xs (nI i + 1).toNatClampNeg) (xs (nI i + 2).toNatClampNeg) h1 H.size) (cwV 2 C0.2.2.2.2.2.1 gL_X9_rule rfl rfl rfl (by decide +kernel) ⟨Nat.le_of_ble_eq_true rfl, Nat.le_of_ble_eq_true rfl⟩) ⟨PG_blind, va_recv hA.2.2.1.1 hw.1 (ci := 9) (q0 := 0) rfl rfl, pg_at hA hw [0, 1, 2, 3, 4, 5, 6, 7, 8, 9, 10, 11, 12, 13, 14, 15, 16, 17, 18, 19, 20, 21, 22, 23, 24, 25, 26, 27, 28, 29, 30, 31, 32, 33, 34, 35, 36, 37, 38, 39, 40, 41, 42, 43, 44, 45, 46, 47, 48, 49] rfl (lcX E ad am zt zs zg zh zu zl zc zw zx)⟩ rfl rfl hl.1 rfl (lv_room (Nat.le_of_ble_eq_true rfl)) dL_law_228 ⟨by show _ ≤ 600000; omega, by show _ ≤ 7302250; omega⟩) hA hw [0, 1, 2, 3, 4, 5, 6, 7, 8, 9, 10, 11, 12, 13, 14, 15, 16, 17, 18, 19, 20, 21, 22, 23, 24, 25, 26, 27, 28, 29, 30, 31, 32, 33, 34, 35, 36, 37, 38, 39, 40, 41, 42, 43, 44, 45, 46, 47, 48, 49] [50, 51, 52, 53, 54, 55, 56, 57, 58, 59, 60, 61, 62, 63, 64, 65, 66, 67, 68, 69, 70, 71, 72, 73, 74, 75, 76, 77, 78, 79, 80, 81, 82, 83, 84, 85, 86] (lcX E ad am zt zs zg zh zu zl zc zw zx) (lcM E ad am zt zs zg zh zu zl zc zw zx) rfl (by decide) (fun H locs hw => ?_)
  have hw := lj1 hw
  refine W.widen (k := 90 + 2 * (k + 1)) (n := 150000 + 13 * (k + 1)) (by omega) (by omega) ?_
  refine lv_aload_n hx hb dL_law_231 rfl (lv_at hl 2 rfl) ?_
  refine lv_aload_n hx hb dL_law_232 rfl (lv_at hl 0 rfl) ?_
  refine lv_iload_n hx hb dL_law_233 rfl (lv_at hl 3 rfl) ?_
  refine lv_iconst (v := 1) hx hb dL_law_234 (by decide) ?_
  refine lv_iadd hx hb dL_law_235 ?_
  refine va_sld hx hb hX hbl hbA hw.2.2 (sc_in (j := 1) (by decide) (by omega) hL) dL_law_236 ?_
  refine lv_aload_n hx hb dL_law_237 rfl (lv_at hl 0 rfl) ?_
  refine lv_iload_n hx hb dL_law_238 rfl (lv_at hl 3 rfl) ?_
  refine lv_iconst (v := 2) hx hb dL_law_239 (by decide) ?_
  refine lv_iadd hx hb dL_law_240 ?_
  refine va_sld hx hb hX hbl hbA hw.2.2 (sc_in (j := 2) (by decide) (by omega) hL) dL_law_241 ?_
  refine r_backP (va_runV (As := [.int (xs (nI i + 1).toNatClampNeg), .int (xs (nI i + 2).toNatClampNeg)]) (rest := [.int r]) ⟨hx, hb, C0.2.2.2.1, C0.2.2.2.2.1, C0.2.2.2.2.2.1⟩ (tX10_rule l E am F2 zx (xs (nI i + 1).toNatClampNeg) (xs (nI i + 2).toNatClampNeg) h2 H.size) (cwV 2 C0.2.2.2.2.2.1 gL_X10_rule rfl rfl rfl (by decide +kernel) ⟨Nat.le_of_ble_eq_true rfl, Nat.le_of_ble_eq_true rfl⟩) ⟨PG_blind, va_recv hA.2.2.1.1 hw.1 (ci := 10) (q0 := 50) rfl rfl, pg_at hA hw [50, 51, 52, 53, 54, 55, 56, 57, 58, 59, 60, 61, 62, 63, 64, 65, 66, 67, 68, 69, 70, 71, 72, 73, 74, 75, 76, 77, 78, 79, 80, 81, 82, 83, 84, 85, 86] rfl (lcM E ad am zt zs zg zh zu zl zc zw zx)⟩ rfl rfl hl.1 rfl (lv_room (Nat.le_of_ble_eq_true rfl)) dL_law_242 ⟨by show _ ≤ 600000; omega, by show _ ≤ 7302250; omega⟩) hA hw [50, 51, 52, 53, 54, 55, 56, 57, 58, 59, 60, 61, 62, 63, 64, 65, 66, 67, 68, 69, 70, 71, 72, 73, 74, 75, 76, 77, 78, 79, 80, 81, 82, 83, 84, 85, 86] [0, 1, 2, 3, 4, 5, 6, 7, 8, 9, 10, 11, 12, 13, 14, 15, 16, 17, 18, 19, 20, 21, 22, 23, 24, 25, 26, 27, 28, 29, 30, 31, 32, 33, 34, 35, 36, 37, 38, 39, 40, 41, 42, 43, 44, 45, 46, 47, 48, 49] (lcM E ad am zt zs zg zh zu zl zc zw zx) (lcX E ad am zt zs zg zh zu zl zc zw zx) rfl (by decide) (fun H locs hw => ?_)
  refine lv_icmp_eq (tgt := 888) hx hb dL_law_245 (by decide) (fun c1 => ?_) (fun c1 => absurd rfl c1)
  refine lv_iinc (v := nI (i + 6)) (lv' := [(3, .int (nI (i + 6))), (0, .ref b), (1, .ref (ad 0)), (2, .ref (am 0))]) hx hb dL_law_888 hl (k := 3) rfl (nI_add i 6) (by decide) rfl (fun ls hl => ?_)
  refine lv_goto (tgt := 18) hx hb dL_law_891 (by decide) ?_
  exact ih _ zt zs zg zh zu zl zc zw zx _ _ _ hR hw (lv_sub hl [1, 2, 3, 0] rfl)
set_option maxRecDepth 20000 in
theorem gL_X9_want : GoodIn lw_tbl (wsV RL 35 RX9 yX9_want wsX9_want) := goodIn_sub (by decide +kernel) (by decide +kernel)
set_option maxRecDepth 20000 in
theorem gL_X10_want : GoodIn lw_tbl (wsV RL 38 RX10 yX10_want wsX10_want) := goodIn_sub (by decide +kernel) (by decide +kernel)
set_option maxRecDepth 20000 in
set_option maxHeartbeats 4000000 in
theorem law_c4 {p : Program} {l : Launch} {e : Env} {s : State} {m : MethodId} {below : List Frame} {meth : Method} {c : Code} {b L : Nat} {xs : Nat → Int32} {E : EV} (K0 : LC p s m meth c b L xs E) {am : Nat → Nat} (i k : Nat) (hi : i + 6 ≤ L) (hk : k ≤ 512) (ih : ∀ (ad : Nat → Nat) (zt zs zg zh zu zl zc zw zx : OS) (H : Heap) (locs : List Loc) (ls : Array Slot), Rel zt zs zg zh zu zl zc zw zx → Wd E (LA s) s H locs (wX E ad zt zs zg zh zu zl zc zw ++ wM E am zx) → lv_has ls 4 [(0, .ref b), (1, .ref (ad 0)), (2, .ref (am 0)), (3, .int (nI (i + 6)))] → W p l e room_1 s m #[Value.ref b] below meth c H locs (90 + 2 * (k + 1)) (150000 + 13 * (k + 1)) (lw_Z below #[Value.ref b] s) (F0 m 18 ls [])) (ad : Nat → Nat) (zt zs zg zh zu zl zc zw zx : OS) (H : Heap) (locs : List Loc) (ls : Array Slot) (hR : Rel zt zs zg zh zu zl zc zw zx) (hw : Wd E (LA s) s H locs (wX E ad zt zs zg zh zu zl zc zw ++ wM E am zx)) (hl : lv_has ls 4 [(0, .ref b), (1, .ref (ad 0)), (2, .ref (am 0)), (3, .int (nI i))]) : W p l e room_1 s m #[Value.ref b] below meth c H locs (90 + 2 * k) (150000 + 13 * k) (lw_Z below #[Value.ref b] s) (F0 m 250 ls []) := by
  obtain ⟨C0, hA, hX, hbl, hL⟩ := K0
  have hx := C0.1
  have hb := C0.2.1
  have hbA : ¬ LA s b := fun z => Nat.not_le.mpr hbl z
  refine lv_aload_n hx hb dL_law_250 rfl (lv_at hl 1 rfl) ?_
  refine lv_aload_n hx hb dL_law_251 rfl (lv_at hl 0 rfl) ?_
  refine lv_iload_n hx hb dL_law_252 rfl (lv_at hl 3 rfl) ?_
  refine lv_iconst (v := 1) hx hb dL_law_253 (by decide) ?_
  refine lv_iadd hx hb dL_law_254 ?_
  refine va_sld hx hb hX hbl hbA hw.2.2 (sc_in (j := 1) (by decide) (by omega) hL) dL_law_255 ?_
  refine lv_aload_n hx hb dL_law_256 rfl (lv_at hl 0 rfl) ?_
  refine lv_iload_n hx hb dL_law_257 rfl (lv_at hl 3 rfl) ?_
  refine lv_iconst (v := 2) hx hb dL_law_258 (by decide) ?_
  refine lv_iadd hx hb dL_law_259 ?_
  refine va_sld hx hb hX hbl hbA hw.2.2 (sc_in (j := 2) (by decide) (by omega) hL) dL_law_260 ?_
  obtain ⟨F1, F2, r, zt1, zx1, h1, h2, hR⟩ := R_want hR (xs (nI i + 1).toNatClampNeg) (xs (nI i + 2).toNatClampNeg)
  refine r_backP (va_runV (As := [.int (xs (nI i + 1).toNatClampNeg), .int (xs (nI i + 2).toNatClampNeg)]) (rest := []) ⟨hx, hb, C0.2.2.2.1, C0.2.2.2.2.1, C0.2.2.2.2.2.1⟩ (tX9_want l E ad zt zs zg zh zu zl zc zw (xs (nI i + 1).toNatClampNeg) (xs (nI i + 2).toNatClampNeg) h1 H.size) (cwV 2 C0.2.2.2.2.2.1 gL_X9_want rfl rfl rfl (by decide +kernel) ⟨Nat.le_of_ble_eq_true rfl, Nat.le_of_ble_eq_true rfl⟩) ⟨PG_blind, va_recv hA.2.2.1.1 hw.1 (ci := 9) (q0 := 0) rfl rfl, pg_at hA hw [0, 1, 2, 3, 4, 5, 6, 7, 8, 9, 10, 11, 12, 13, 14, 15, 16, 17, 18, 19, 20, 21, 22, 23, 24, 25, 26, 27, 28, 29, 30, 31, 32, 33, 34, 35, 36, 37, 38, 39, 40, 41, 42, 43, 44, 45, 46, 47, 48, 49] rfl (lcX E ad am zt zs zg zh zu zl zc zw zx)⟩ rfl rfl hl.1 rfl (lv_room (Nat.le_of_ble_eq_true rfl)) dL_law_261 ⟨by show _ ≤ 600000; omega, by show _ ≤ 7302250; omega⟩) hA hw [0, 1, 2, 3, 4, 5, 6, 7, 8, 9, 10, 11, 12, 13, 14, 15, 16, 17, 18, 19, 20, 21, 22, 23, 24, 25, 26, 27, 28, 29, 30, 31, 32, 33, 34, 35, 36, 37, 38, 39, 40, 41, 42, 43, 44, 45, 46, 47, 48, 49] [50, 51, 52, 53, 54, 55, 56, 57, 58, 59, 60, 61, 62, 63, 64, 65, 66, 67, 68, 69, 70, 71, 72, 73, 74, 75, 76, 77, 78, 79, 80, 81, 82, 83, 84, 85, 86] (lcX E ad am zt zs zg zh zu zl zc zw zx) (lcM E ad am zt zs zg zh zu zl zc zw zx) rfl (by decide) (fun H locs hw => ?_)
  have hw := lj1 hw
  refine W.widen (k := 90 + 2 * (k + 1)) (n := 150000 + 13 * (k + 1)) (by omega) (by omega) ?_
  refine lv_aload_n hx hb dL_law_264 rfl (lv_at hl 2 rfl) ?_
  refine lv_aload_n hx hb dL_law_265 rfl (lv_at hl 0 rfl) ?_
  refine lv_iload_n hx hb dL_law_266 rfl (lv_at hl 3 rfl) ?_
  refine lv_iconst (v := 1) hx hb dL_law_267 (by decide) ?_
  refine lv_iadd hx hb dL_law_268 ?_
  refine va_sld hx hb hX hbl hbA hw.2.2 (sc_in (j := 1) (by decide) (by omega) hL) dL_law_269 ?_
  refine lv_aload_n hx hb dL_law_270 rfl (lv_at hl 0 rfl) ?_
  refine lv_iload_n hx hb dL_law_271 rfl (lv_at hl 3 rfl) ?_
  refine lv_iconst (v := 2) hx hb dL_law_272 (by decide) ?_
  refine lv_iadd hx hb dL_law_273 ?_
  refine va_sld hx hb hX hbl hbA hw.2.2 (sc_in (j := 2) (by decide) (by omega) hL) dL_law_274 ?_
  refine r_backP (va_runV (As := [.int (xs (nI i + 1).toNatClampNeg), .int (xs (nI i + 2).toNatClampNeg)]) (rest := [.int r]) ⟨hx, hb, C0.2.2.2.1, C0.2.2.2.2.1, C0.2.2.2.2.2.1⟩ (tX10_want l E am zx (xs (nI i + 1).toNatClampNeg) (xs (nI i + 2).toNatClampNeg) h2 H.size) (cwV 2 C0.2.2.2.2.2.1 gL_X10_want rfl rfl rfl (by decide +kernel) ⟨Nat.le_of_ble_eq_true rfl, Nat.le_of_ble_eq_true rfl⟩) ⟨PG_blind, va_recv hA.2.2.1.1 hw.1 (ci := 10) (q0 := 50) rfl rfl, pg_at hA hw [50, 51, 52, 53, 54, 55, 56, 57, 58, 59, 60, 61, 62, 63, 64, 65, 66, 67, 68, 69, 70, 71, 72, 73, 74, 75, 76, 77, 78, 79, 80, 81, 82, 83, 84, 85, 86] rfl (lcM E ad am zt1 zs zg zh zu zl zc zw zx)⟩ rfl rfl hl.1 rfl (lv_room (Nat.le_of_ble_eq_true rfl)) dL_law_275 ⟨by show _ ≤ 600000; omega, by show _ ≤ 7302250; omega⟩) hA hw [50, 51, 52, 53, 54, 55, 56, 57, 58, 59, 60, 61, 62, 63, 64, 65, 66, 67, 68, 69, 70, 71, 72, 73, 74, 75, 76, 77, 78, 79, 80, 81, 82, 83, 84, 85, 86] [0, 1, 2, 3, 4, 5, 6, 7, 8, 9, 10, 11, 12, 13, 14, 15, 16, 17, 18, 19, 20, 21, 22, 23, 24, 25, 26, 27, 28, 29, 30, 31, 32, 33, 34, 35, 36, 37, 38, 39, 40, 41, 42, 43, 44, 45, 46, 47, 48, 49] (lcM E ad am zt1 zs zg zh zu zl zc zw zx) (lcX E ad am zt1 zs zg zh zu zl zc zw zx) rfl (by decide) (fun H locs hw => ?_)
  refine lv_icmp_eq (tgt := 888) hx hb dL_law_278 (by decide) (fun c1 => ?_) (fun c1 => absurd rfl c1)
  refine lv_iinc (v := nI (i + 6)) (lv' := [(3, .int (nI (i + 6))), (0, .ref b), (1, .ref (ad 0)), (2, .ref (am 0))]) hx hb dL_law_888 hl (k := 3) rfl (nI_add i 6) (by decide) rfl (fun ls hl => ?_)
  refine lv_goto (tgt := 18) hx hb dL_law_891 (by decide) ?_
  exact ih _ zt1 zs zg zh zu zl zc zw zx1 _ _ _ hR hw (lv_sub hl [1, 2, 3, 0] rfl)
set_option maxRecDepth 20000 in
theorem gL_X9_make : GoodIn lw_tbl (wsV RL 39 RX9 yX9_make wsX9_make) := goodIn_sub (by decide +kernel) (by decide +kernel)
set_option maxRecDepth 20000 in
theorem gL_X10_make : GoodIn lw_tbl (wsV RL 43 RX10 yX10_make wsX10_make) := goodIn_sub (by decide +kernel) (by decide +kernel)
set_option maxRecDepth 20000 in
set_option maxHeartbeats 4000000 in
theorem law_c5 {p : Program} {l : Launch} {e : Env} {s : State} {m : MethodId} {below : List Frame} {meth : Method} {c : Code} {b L : Nat} {xs : Nat → Int32} {E : EV} (K0 : LC p s m meth c b L xs E) {am : Nat → Nat} (i k : Nat) (hi : i + 6 ≤ L) (hk : k ≤ 512) (ih : ∀ (ad : Nat → Nat) (zt zs zg zh zu zl zc zw zx : OS) (H : Heap) (locs : List Loc) (ls : Array Slot), Rel zt zs zg zh zu zl zc zw zx → Wd E (LA s) s H locs (wX E ad zt zs zg zh zu zl zc zw ++ wM E am zx) → lv_has ls 4 [(0, .ref b), (1, .ref (ad 0)), (2, .ref (am 0)), (3, .int (nI (i + 6)))] → W p l e room_1 s m #[Value.ref b] below meth c H locs (90 + 2 * (k + 1)) (150000 + 13 * (k + 1)) (lw_Z below #[Value.ref b] s) (F0 m 18 ls [])) (ad : Nat → Nat) (zt zs zg zh zu zl zc zw zx : OS) (H : Heap) (locs : List Loc) (ls : Array Slot) (hR : Rel zt zs zg zh zu zl zc zw zx) (hw : Wd E (LA s) s H locs (wX E ad zt zs zg zh zu zl zc zw ++ wM E am zx)) (hl : lv_has ls 4 [(0, .ref b), (1, .ref (ad 0)), (2, .ref (am 0)), (3, .int (nI i))]) : W p l e room_1 s m #[Value.ref b] below meth c H locs (90 + 2 * k) (150000 + 13 * k) (lw_Z below #[Value.ref b] s) (F0 m 283 ls []) := by
  obtain ⟨C0, hA, hX, hbl, hL⟩ := K0
  have hx := C0.1
  have hb := C0.2.1
  have hbA : ¬ LA s b := fun z => Nat.not_le.mpr hbl z
  refine lv_aload_n hx hb dL_law_283 rfl (lv_at hl 1 rfl) ?_
  refine lv_aload_n hx hb dL_law_284 rfl (lv_at hl 0 rfl) ?_
  refine lv_iload_n hx hb dL_law_285 rfl (lv_at hl 3 rfl) ?_
  refine lv_iconst (v := 1) hx hb dL_law_286 (by decide) ?_
  refine lv_iadd hx hb dL_law_287 ?_
  refine va_sld hx hb hX hbl hbA hw.2.2 (sc_in (j := 1) (by decide) (by omega) hL) dL_law_288 ?_
  refine lv_aload_n hx hb dL_law_289 rfl (lv_at hl 0 rfl) ?_
  refine lv_iload_n hx hb dL_law_290 rfl (lv_at hl 3 rfl) ?_
  refine lv_iconst (v := 2) hx hb dL_law_291 (by decide) ?_
  refine lv_iadd hx hb dL_law_292 ?_
  refine va_sld hx hb hX hbl hbA hw.2.2 (sc_in (j := 2) (by decide) (by omega) hL) dL_law_293 ?_
  refine lv_i2l hx hb dL_law_294 rfl ?_
  refine lv_bipush (v := 32) hx hb dL_law_295 (by decide) ?_
  refine lv_lshl hx hb dL_law_297 rfl ?_
  refine lv_aload_n hx hb dL_law_298 rfl (lv_at hl 0 rfl) ?_
  refine lv_iload_n hx hb dL_law_299 rfl (lv_at hl 3 rfl) ?_
  refine lv_iconst (v := 3) hx hb dL_law_300 (by decide) ?_
  refine lv_iadd hx hb dL_law_301 ?_
  refine va_sld hx hb hX hbl hbA hw.2.2 (sc_in (j := 3) (by decide) (by omega) hL) dL_law_302 ?_
  refine lv_i2l hx hb dL_law_303 rfl ?_
  refine lv_ldc2 (v := 4294967295) hx hb C0.2.2.2.2.1 (C0.2.2.2.2.2.1 (.constantLong RL 13 4294967295) (by decide +kernel)) dL_law_304 ?_
  refine lv_land hx hb dL_law_307 ?_
  refine lv_lor hx hb dL_law_308 ?_
  obtain ⟨F1, F2, r, zt1, zu1, zl1, zx1, h1, h2, hR⟩ := R_make hR (xs (nI i + 1).toNatClampNeg) ((((xs (nI i + 2).toNatClampNeg).toInt64) <<< ((32 : Int32).toInt64 &&& 63)) ||| (((xs (nI i + 3).toNatClampNeg).toInt64) &&& 4294967295))
  refine r_back (va_runV (As := [.int (xs (nI i + 1).toNatClampNeg), .long ((((xs (nI i + 2).toNatClampNeg).toInt64) <<< ((32 : Int32).toInt64 &&& 63)) ||| (((xs (nI i + 3).toNatClampNeg).toInt64) &&& 4294967295))]) (rest := []) ⟨hx, hb, C0.2.2.2.1, C0.2.2.2.2.1, C0.2.2.2.2.2.1⟩ (tX9_make l E ad F1 zt zs zg zh zu zl zc zw (xs (nI i + 1).toNatClampNeg) ((((xs (nI i + 2).toNatClampNeg).toInt64) <<< ((32 : Int32).toInt64 &&& 63)) ||| (((xs (nI i + 3).toNatClampNeg).toInt64) &&& 4294967295)) h1 H.size) (cwV 2 C0.2.2.2.2.2.1 gL_X9_make rfl rfl rfl (by decide +kernel) ⟨Nat.le_of_ble_eq_true rfl, Nat.le_of_ble_eq_true rfl⟩) ⟨PG_blind, va_recv hA.2.2.1.1 hw.1 (ci := 9) (q0 := 0) rfl rfl, pg_at hA hw [0, 1, 2, 3, 4, 5, 6, 7, 8, 9, 10, 11, 12, 13, 14, 15, 16, 17, 18, 19, 20, 21, 22, 23, 24, 25, 26, 27, 28, 29, 30, 31, 32, 33, 34, 35, 36, 37, 38, 39, 40, 41, 42, 43, 44, 45, 46, 47, 48, 49] rfl (lcX E ad am zt zs zg zh zu zl zc zw zx)⟩ rfl rfl hl.1 rfl (lv_room (Nat.le_of_ble_eq_true rfl)) dL_law_309 ⟨by show _ ≤ 600000; omega, by show _ ≤ 7302250; omega⟩) hA hw [0, 1, 2, 3, 4, 5, 6, 7, 8, 9, 10, 11, 12, 13, 14, 15, 16, 17, 18, 19, 20, 21, 22, 23, 24, 25, 26, 27, 28, 29, 30, 31, 32, 33, 34, 35, 36, 37, 38, 39, 40, 41, 42, 43, 44, 45, 46, 47, 48, 49] [50, 51, 52, 53, 54, 55, 56, 57, 58, 59, 60, 61, 62, 63, 64, 65, 66, 67, 68, 69, 70, 71, 72, 73, 74, 75, 76, 77, 78, 79, 80, 81, 82, 83, 84, 85, 86] (lcX E ad am zt zs zg zh zu zl zc zw zx) (lcM E ad am zt zs zg zh zu zl zc zw zx) rfl (by decide) (fun v w1 H locs hq hw => ?_)
  obtain ⟨rfl, ad2, ex, had, rfl⟩ := hq
  have hw := lj2 hw
  refine W.widen (k := 90 + 2 * (k + 1)) (n := 150000 + 13 * (k + 1)) (by omega) (by omega) ?_
  have hl : lv_has ls 4 [(0, .ref b), (1, .ref (ad2 0)), (2, .ref (am 0)), (3, .int (nI i))] := by rw [had]; exact hl
  generalize ad2 = ad at hw hl
  refine lv_aload_n hx hb dL_law_312 rfl (lv_at hl 2 rfl) ?_
  refine lv_aload_n hx hb dL_law_313 rfl (lv_at hl 0 rfl) ?_
  refine lv_iload_n hx hb dL_law_314 rfl (lv_at hl 3 rfl) ?_
  refine lv_iconst (v := 1) hx hb dL_law_315 (by decide) ?_
  refine lv_iadd hx hb dL_law_316 ?_
  refine va_sld hx hb hX hbl hbA hw.2.2 (sc_in (j := 1) (by decide) (by omega) hL) dL_law_317 ?_
  refine lv_aload_n hx hb dL_law_318 rfl (lv_at hl 0 rfl) ?_
  refine lv_iload_n hx hb dL_law_319 rfl (lv_at hl 3 rfl) ?_
  refine lv_iconst (v := 2) hx hb dL_law_320 (by decide) ?_
  refine lv_iadd hx hb dL_law_321 ?_
  refine va_sld hx hb hX hbl hbA hw.2.2 (sc_in (j := 2) (by decide) (by omega) hL) dL_law_322 ?_
  refine lv_i2l hx hb dL_law_323 rfl ?_
  refine lv_bipush (v := 32) hx hb dL_law_324 (by decide) ?_
  refine lv_lshl hx hb dL_law_326 rfl ?_
  refine lv_aload_n hx hb dL_law_327 rfl (lv_at hl 0 rfl) ?_
  refine lv_iload_n hx hb dL_law_328 rfl (lv_at hl 3 rfl) ?_
  refine lv_iconst (v := 3) hx hb dL_law_329 (by decide) ?_
  refine lv_iadd hx hb dL_law_330 ?_
  refine va_sld hx hb hX hbl hbA hw.2.2 (sc_in (j := 3) (by decide) (by omega) hL) dL_law_331 ?_
  refine lv_i2l hx hb dL_law_332 rfl ?_
  refine lv_ldc2 (v := 4294967295) hx hb C0.2.2.2.2.1 (C0.2.2.2.2.2.1 (.constantLong RL 13 4294967295) (by decide +kernel)) dL_law_333 ?_
  refine lv_land hx hb dL_law_336 ?_
  refine lv_lor hx hb dL_law_337 ?_
  refine r_backP (va_runV (As := [.int (xs (nI i + 1).toNatClampNeg), .long ((((xs (nI i + 2).toNatClampNeg).toInt64) <<< ((32 : Int32).toInt64 &&& 63)) ||| (((xs (nI i + 3).toNatClampNeg).toInt64) &&& 4294967295))]) (rest := [.int r]) ⟨hx, hb, C0.2.2.2.1, C0.2.2.2.2.1, C0.2.2.2.2.2.1⟩ (tX10_make l E am F2 zx (xs (nI i + 1).toNatClampNeg) ((((xs (nI i + 2).toNatClampNeg).toInt64) <<< ((32 : Int32).toInt64 &&& 63)) ||| (((xs (nI i + 3).toNatClampNeg).toInt64) &&& 4294967295)) h2 H.size) (cwV 2 C0.2.2.2.2.2.1 gL_X10_make rfl rfl rfl (by decide +kernel) ⟨Nat.le_of_ble_eq_true rfl, Nat.le_of_ble_eq_true rfl⟩) ⟨PG_blind, va_recv hA.2.2.1.1 hw.1 (ci := 10) (q0 := 50) rfl rfl, pg_at hA hw [50, 51, 52, 53, 54, 55, 56, 57, 58, 59, 60, 61, 62, 63, 64, 65, 66, 67, 68, 69, 70, 71, 72, 73, 74, 75, 76, 77, 78, 79, 80, 81, 82, 83, 84, 85, 86] rfl (lcM E ad am zt1 zs zg zh zu1 zl1 zc zw zx)⟩ rfl rfl hl.1 rfl (lv_room (Nat.le_of_ble_eq_true rfl)) dL_law_338 ⟨by show _ ≤ 600000; omega, by show _ ≤ 7302250; omega⟩) hA hw [50, 51, 52, 53, 54, 55, 56, 57, 58, 59, 60, 61, 62, 63, 64, 65, 66, 67, 68, 69, 70, 71, 72, 73, 74, 75, 76, 77, 78, 79, 80, 81, 82, 83, 84, 85, 86] [0, 1, 2, 3, 4, 5, 6, 7, 8, 9, 10, 11, 12, 13, 14, 15, 16, 17, 18, 19, 20, 21, 22, 23, 24, 25, 26, 27, 28, 29, 30, 31, 32, 33, 34, 35, 36, 37, 38, 39, 40, 41, 42, 43, 44, 45, 46, 47, 48, 49] (lcM E ad am zt1 zs zg zh zu1 zl1 zc zw zx) (lcX E ad am zt1 zs zg zh zu1 zl1 zc zw zx) rfl (by decide) (fun H locs hw => ?_)
  refine lv_icmp_eq (tgt := 888) hx hb dL_law_341 (by decide) (fun c1 => ?_) (fun c1 => absurd rfl c1)
  refine lv_iinc (v := nI (i + 6)) (lv' := [(3, .int (nI (i + 6))), (0, .ref b), (1, .ref (ad 0)), (2, .ref (am 0))]) hx hb dL_law_888 hl (k := 3) rfl (nI_add i 6) (by decide) rfl (fun ls hl => ?_)
  refine lv_goto (tgt := 18) hx hb dL_law_891 (by decide) ?_
  exact ih _ zt1 zs zg zh zu1 zl1 zc zw zx1 _ _ _ hR hw (lv_sub hl [1, 2, 3, 0] rfl)
set_option maxRecDepth 20000 in
theorem gL_X9_tries : GoodIn lw_tbl (wsV RL 44 RX9 yX9_tries wsX9_tries) := goodIn_sub (by decide +kernel) (by decide +kernel)
set_option maxRecDepth 20000 in
theorem gL_X10_tries : GoodIn lw_tbl (wsV RL 47 RX10 yX10_tries wsX10_tries) := goodIn_sub (by decide +kernel) (by decide +kernel)
set_option maxRecDepth 20000 in
set_option maxHeartbeats 4000000 in
theorem law_c6 {p : Program} {l : Launch} {e : Env} {s : State} {m : MethodId} {below : List Frame} {meth : Method} {c : Code} {b L : Nat} {xs : Nat → Int32} {E : EV} (K0 : LC p s m meth c b L xs E) {am : Nat → Nat} (i k : Nat) (hi : i + 6 ≤ L) (hk : k ≤ 512) (ih : ∀ (ad : Nat → Nat) (zt zs zg zh zu zl zc zw zx : OS) (H : Heap) (locs : List Loc) (ls : Array Slot), Rel zt zs zg zh zu zl zc zw zx → Wd E (LA s) s H locs (wX E ad zt zs zg zh zu zl zc zw ++ wM E am zx) → lv_has ls 4 [(0, .ref b), (1, .ref (ad 0)), (2, .ref (am 0)), (3, .int (nI (i + 6)))] → W p l e room_1 s m #[Value.ref b] below meth c H locs (90 + 2 * (k + 1)) (150000 + 13 * (k + 1)) (lw_Z below #[Value.ref b] s) (F0 m 18 ls [])) (ad : Nat → Nat) (zt zs zg zh zu zl zc zw zx : OS) (H : Heap) (locs : List Loc) (ls : Array Slot) (hR : Rel zt zs zg zh zu zl zc zw zx) (hw : Wd E (LA s) s H locs (wX E ad zt zs zg zh zu zl zc zw ++ wM E am zx)) (hl : lv_has ls 4 [(0, .ref b), (1, .ref (ad 0)), (2, .ref (am 0)), (3, .int (nI i))]) : W p l e room_1 s m #[Value.ref b] below meth c H locs (90 + 2 * k) (150000 + 13 * k) (lw_Z below #[Value.ref b] s) (F0 m 346 ls []) := by
  obtain ⟨C0, hA, hX, hbl, hL⟩ := K0
  have hx := C0.1
  have hb := C0.2.1
  have hbA : ¬ LA s b := fun z => Nat.not_le.mpr hbl z
  refine lv_aload_n hx hb dL_law_346 rfl (lv_at hl 1 rfl) ?_
  obtain ⟨F1, F2, r, h1, h2, hR⟩ := R_tries hR 
  refine r_backP (va_runV (As := []) (rest := []) ⟨hx, hb, C0.2.2.2.1, C0.2.2.2.2.1, C0.2.2.2.2.2.1⟩ (tX9_tries l E ad zt zs zg zh zu zl zc zw  h1 H.size) (cwV 0 C0.2.2.2.2.2.1 gL_X9_tries rfl rfl rfl (by decide +kernel) ⟨Nat.le_of_ble_eq_true rfl, Nat.le_of_ble_eq_true rfl⟩) ⟨PG_blind, va_recv hA.2.2.1.1 hw.1 (ci := 9) (q0 := 0) rfl rfl, pg_at hA hw [0, 1, 2, 3, 4, 5, 6, 7, 8, 9, 10, 11, 12, 13, 14, 15, 16, 17, 18, 19, 20, 21, 22, 23, 24, 25, 26, 27, 28, 29, 30, 31, 32, 33, 34, 35, 36, 37, 38, 39, 40, 41, 42, 43, 44, 45, 46, 47, 48, 49] rfl (lcX E ad am zt zs zg zh zu zl zc zw zx)⟩ rfl rfl hl.1 rfl (lv_room (Nat.le_of_ble_eq_true rfl)) dL_law_347 ⟨by show _ ≤ 600000; omega, by show _ ≤ 7302250; omega⟩) hA hw [0, 1, 2, 3, 4, 5, 6, 7, 8, 9, 10, 11, 12, 13, 14, 15, 16, 17, 18, 19, 20, 21, 22, 23, 24, 25, 26, 27, 28, 29, 30, 31, 32, 33, 34, 35, 36, 37, 38, 39, 40, 41, 42, 43, 44, 45, 46, 47, 48, 49] [50, 51, 52, 53, 54, 55, 56, 57, 58, 59, 60, 61, 62, 63, 64, 65, 66, 67, 68, 69, 70, 71, 72, 73, 74, 75, 76, 77, 78, 79, 80, 81, 82, 83, 84, 85, 86] (lcX E ad am zt zs zg zh zu zl zc zw zx) (lcM E ad am zt zs zg zh zu zl zc zw zx) rfl (by decide) (fun H locs hw => ?_)
  have hw := lj1 hw
  refine W.widen (k := 90 + 2 * (k + 1)) (n := 150000 + 13 * (k + 1)) (by omega) (by omega) ?_
  refine lv_aload_n hx hb dL_law_350 rfl (lv_at hl 2 rfl) ?_
  refine r_backP (va_runV (As := []) (rest := [.int r]) ⟨hx, hb, C0.2.2.2.1, C0.2.2.2.2.1, C0.2.2.2.2.2.1⟩ (tX10_tries l E am zx  h2 H.size) (cwV 0 C0.2.2.2.2.2.1 gL_X10_tries rfl rfl rfl (by decide +kernel) ⟨Nat.le_of_ble_eq_true rfl, Nat.le_of_ble_eq_true rfl⟩) ⟨PG_blind, va_recv hA.2.2.1.1 hw.1 (ci := 10) (q0 := 50) rfl rfl, pg_at hA hw [50, 51, 52, 53, 54, 55, 56, 57, 58, 59, 60, 61, 62, 63, 64, 65, 66, 67, 68, 69, 70, 71, 72, 73, 74, 75, 76, 77, 78, 79, 80, 81, 82, 83, 84, 85, 86] rfl (lcM E ad am zt zs zg zh zu zl zc zw zx)⟩ rfl rfl hl.1 rfl (lv_room (Nat.le_of_ble_eq_true rfl)) dL_law_351 ⟨by show _ ≤ 600000; omega, by show _ ≤ 7302250; omega⟩) hA hw [50, 51, 52, 53, 54, 55, 56, 57, 58, 59, 60, 61, 62, 63, 64, 65, 66, 67, 68, 69, 70, 71, 72, 73, 74, 75, 76, 77, 78, 79, 80, 81, 82, 83, 84, 85, 86] [0, 1, 2, 3, 4, 5, 6, 7, 8, 9, 10, 11, 12, 13, 14, 15, 16, 17, 18, 19, 20, 21, 22, 23, 24, 25, 26, 27, 28, 29, 30, 31, 32, 33, 34, 35, 36, 37, 38, 39, 40, 41, 42, 43, 44, 45, 46, 47, 48, 49] (lcM E ad am zt zs zg zh zu zl zc zw zx) (lcX E ad am zt zs zg zh zu zl zc zw zx) rfl (by decide) (fun H locs hw => ?_)
  refine lv_icmp_eq (tgt := 888) hx hb dL_law_354 (by decide) (fun c1 => ?_) (fun c1 => absurd rfl c1)
  refine lv_iinc (v := nI (i + 6)) (lv' := [(3, .int (nI (i + 6))), (0, .ref b), (1, .ref (ad 0)), (2, .ref (am 0))]) hx hb dL_law_888 hl (k := 3) rfl (nI_add i 6) (by decide) rfl (fun ls hl => ?_)
  refine lv_goto (tgt := 18) hx hb dL_law_891 (by decide) ?_
  exact ih _ zt zs zg zh zu zl zc zw zx _ _ _ hR hw (lv_sub hl [1, 2, 3, 0] rfl)
set_option maxRecDepth 20000 in
theorem gL_X9_item : GoodIn lw_tbl (wsV RL 48 RX9 yX9_item wsX9_item) := goodIn_sub (by decide +kernel) (by decide +kernel)
set_option maxRecDepth 20000 in
theorem gL_X10_item : GoodIn lw_tbl (wsV RL 51 RX10 yX10_item wsX10_item) := goodIn_sub (by decide +kernel) (by decide +kernel)
set_option maxRecDepth 20000 in
set_option maxHeartbeats 4000000 in
theorem law_c7 {p : Program} {l : Launch} {e : Env} {s : State} {m : MethodId} {below : List Frame} {meth : Method} {c : Code} {b L : Nat} {xs : Nat → Int32} {E : EV} (K0 : LC p s m meth c b L xs E) {am : Nat → Nat} (i k : Nat) (hi : i + 6 ≤ L) (hk : k ≤ 512) (ih : ∀ (ad : Nat → Nat) (zt zs zg zh zu zl zc zw zx : OS) (H : Heap) (locs : List Loc) (ls : Array Slot), Rel zt zs zg zh zu zl zc zw zx → Wd E (LA s) s H locs (wX E ad zt zs zg zh zu zl zc zw ++ wM E am zx) → lv_has ls 4 [(0, .ref b), (1, .ref (ad 0)), (2, .ref (am 0)), (3, .int (nI (i + 6)))] → W p l e room_1 s m #[Value.ref b] below meth c H locs (90 + 2 * (k + 1)) (150000 + 13 * (k + 1)) (lw_Z below #[Value.ref b] s) (F0 m 18 ls [])) (ad : Nat → Nat) (zt zs zg zh zu zl zc zw zx : OS) (H : Heap) (locs : List Loc) (ls : Array Slot) (hR : Rel zt zs zg zh zu zl zc zw zx) (hw : Wd E (LA s) s H locs (wX E ad zt zs zg zh zu zl zc zw ++ wM E am zx)) (hl : lv_has ls 4 [(0, .ref b), (1, .ref (ad 0)), (2, .ref (am 0)), (3, .int (nI i))]) : W p l e room_1 s m #[Value.ref b] below meth c H locs (90 + 2 * k) (150000 + 13 * k) (lw_Z below #[Value.ref b] s) (F0 m 359 ls []) := by
  obtain ⟨C0, hA, hX, hbl, hL⟩ := K0
  have hx := C0.1
  have hb := C0.2.1
  have hbA : ¬ LA s b := fun z => Nat.not_le.mpr hbl z
  refine lv_aload_n hx hb dL_law_359 rfl (lv_at hl 1 rfl) ?_
  refine lv_aload_n hx hb dL_law_360 rfl (lv_at hl 0 rfl) ?_
  refine lv_iload_n hx hb dL_law_361 rfl (lv_at hl 3 rfl) ?_
  refine lv_iconst (v := 1) hx hb dL_law_362 (by decide) ?_
  refine lv_iadd hx hb dL_law_363 ?_
  refine va_sld hx hb hX hbl hbA hw.2.2 (sc_in (j := 1) (by decide) (by omega) hL) dL_law_364 ?_
  refine lv_aload_n hx hb dL_law_365 rfl (lv_at hl 0 rfl) ?_
  refine lv_iload_n hx hb dL_law_366 rfl (lv_at hl 3 rfl) ?_
  refine lv_iconst (v := 2) hx hb dL_law_367 (by decide) ?_
  refine lv_iadd hx hb dL_law_368 ?_
  refine va_sld hx hb hX hbl hbA hw.2.2 (sc_in (j := 2) (by decide) (by omega) hL) dL_law_369 ?_
  obtain ⟨F1, F2, r, h1, h2, hR⟩ := R_item hR (xs (nI i + 1).toNatClampNeg) (xs (nI i + 2).toNatClampNeg)
  refine r_backP (va_runV (As := [.int (xs (nI i + 1).toNatClampNeg), .int (xs (nI i + 2).toNatClampNeg)]) (rest := []) ⟨hx, hb, C0.2.2.2.1, C0.2.2.2.2.1, C0.2.2.2.2.2.1⟩ (tX9_item l E ad zt zs zg zh zu zl zc zw (xs (nI i + 1).toNatClampNeg) (xs (nI i + 2).toNatClampNeg) h1 H.size) (cwV 2 C0.2.2.2.2.2.1 gL_X9_item rfl rfl rfl (by decide +kernel) ⟨Nat.le_of_ble_eq_true rfl, Nat.le_of_ble_eq_true rfl⟩) ⟨PG_blind, va_recv hA.2.2.1.1 hw.1 (ci := 9) (q0 := 0) rfl rfl, pg_at hA hw [0, 1, 2, 3, 4, 5, 6, 7, 8, 9, 10, 11, 12, 13, 14, 15, 16, 17, 18, 19, 20, 21, 22, 23, 24, 25, 26, 27, 28, 29, 30, 31, 32, 33, 34, 35, 36, 37, 38, 39, 40, 41, 42, 43, 44, 45, 46, 47, 48, 49] rfl (lcX E ad am zt zs zg zh zu zl zc zw zx)⟩ rfl rfl hl.1 rfl (lv_room (Nat.le_of_ble_eq_true rfl)) dL_law_370 ⟨by show _ ≤ 600000; omega, by show _ ≤ 7302250; omega⟩) hA hw [0, 1, 2, 3, 4, 5, 6, 7, 8, 9, 10, 11, 12, 13, 14, 15, 16, 17, 18, 19, 20, 21, 22, 23, 24, 25, 26, 27, 28, 29, 30, 31, 32, 33, 34, 35, 36, 37, 38, 39, 40, 41, 42, 43, 44, 45, 46, 47, 48, 49] [50, 51, 52, 53, 54, 55, 56, 57, 58, 59, 60, 61, 62, 63, 64, 65, 66, 67, 68, 69, 70, 71, 72, 73, 74, 75, 76, 77, 78, 79, 80, 81, 82, 83, 84, 85, 86] (lcX E ad am zt zs zg zh zu zl zc zw zx) (lcM E ad am zt zs zg zh zu zl zc zw zx) rfl (by decide) (fun H locs hw => ?_)
  have hw := lj1 hw
  refine W.widen (k := 90 + 2 * (k + 1)) (n := 150000 + 13 * (k + 1)) (by omega) (by omega) ?_
  refine lv_aload_n hx hb dL_law_373 rfl (lv_at hl 2 rfl) ?_
  refine lv_aload_n hx hb dL_law_374 rfl (lv_at hl 0 rfl) ?_
  refine lv_iload_n hx hb dL_law_375 rfl (lv_at hl 3 rfl) ?_
  refine lv_iconst (v := 1) hx hb dL_law_376 (by decide) ?_
  refine lv_iadd hx hb dL_law_377 ?_
  refine va_sld hx hb hX hbl hbA hw.2.2 (sc_in (j := 1) (by decide) (by omega) hL) dL_law_378 ?_
  refine lv_aload_n hx hb dL_law_379 rfl (lv_at hl 0 rfl) ?_
  refine lv_iload_n hx hb dL_law_380 rfl (lv_at hl 3 rfl) ?_
  refine lv_iconst (v := 2) hx hb dL_law_381 (by decide) ?_
  refine lv_iadd hx hb dL_law_382 ?_
  refine va_sld hx hb hX hbl hbA hw.2.2 (sc_in (j := 2) (by decide) (by omega) hL) dL_law_383 ?_
  refine r_backP (va_runV (As := [.int (xs (nI i + 1).toNatClampNeg), .int (xs (nI i + 2).toNatClampNeg)]) (rest := [.int r]) ⟨hx, hb, C0.2.2.2.1, C0.2.2.2.2.1, C0.2.2.2.2.2.1⟩ (tX10_item l E am zx (xs (nI i + 1).toNatClampNeg) (xs (nI i + 2).toNatClampNeg) h2 H.size) (cwV 2 C0.2.2.2.2.2.1 gL_X10_item rfl rfl rfl (by decide +kernel) ⟨Nat.le_of_ble_eq_true rfl, Nat.le_of_ble_eq_true rfl⟩) ⟨PG_blind, va_recv hA.2.2.1.1 hw.1 (ci := 10) (q0 := 50) rfl rfl, pg_at hA hw [50, 51, 52, 53, 54, 55, 56, 57, 58, 59, 60, 61, 62, 63, 64, 65, 66, 67, 68, 69, 70, 71, 72, 73, 74, 75, 76, 77, 78, 79, 80, 81, 82, 83, 84, 85, 86] rfl (lcM E ad am zt zs zg zh zu zl zc zw zx)⟩ rfl rfl hl.1 rfl (lv_room (Nat.le_of_ble_eq_true rfl)) dL_law_384 ⟨by show _ ≤ 600000; omega, by show _ ≤ 7302250; omega⟩) hA hw [50, 51, 52, 53, 54, 55, 56, 57, 58, 59, 60, 61, 62, 63, 64, 65, 66, 67, 68, 69, 70, 71, 72, 73, 74, 75, 76, 77, 78, 79, 80, 81, 82, 83, 84, 85, 86] [0, 1, 2, 3, 4, 5, 6, 7, 8, 9, 10, 11, 12, 13, 14, 15, 16, 17, 18, 19, 20, 21, 22, 23, 24, 25, 26, 27, 28, 29, 30, 31, 32, 33, 34, 35, 36, 37, 38, 39, 40, 41, 42, 43, 44, 45, 46, 47, 48, 49] (lcM E ad am zt zs zg zh zu zl zc zw zx) (lcX E ad am zt zs zg zh zu zl zc zw zx) rfl (by decide) (fun H locs hw => ?_)
  refine lv_icmp_eq (tgt := 888) hx hb dL_law_387 (by decide) (fun c1 => ?_) (fun c1 => absurd rfl c1)
  refine lv_iinc (v := nI (i + 6)) (lv' := [(3, .int (nI (i + 6))), (0, .ref b), (1, .ref (ad 0)), (2, .ref (am 0))]) hx hb dL_law_888 hl (k := 3) rfl (nI_add i 6) (by decide) rfl (fun ls hl => ?_)
  refine lv_goto (tgt := 18) hx hb dL_law_891 (by decide) ?_
  exact ih _ zt zs zg zh zu zl zc zw zx _ _ _ hR hw (lv_sub hl [1, 2, 3, 0] rfl)
set_option maxRecDepth 20000 in
theorem gL_X9_below : GoodIn lw_tbl (wsV RL 52 RX9 yX9_below wsX9_below) := goodIn_sub (by decide +kernel) (by decide +kernel)
set_option maxRecDepth 20000 in
theorem gL_X10_below : GoodIn lw_tbl (wsV RL 56 RX10 yX10_below wsX10_below) := goodIn_sub (by decide +kernel) (by decide +kernel)
set_option maxRecDepth 20000 in
set_option maxHeartbeats 4000000 in
theorem law_c8 {p : Program} {l : Launch} {e : Env} {s : State} {m : MethodId} {below : List Frame} {meth : Method} {c : Code} {b L : Nat} {xs : Nat → Int32} {E : EV} (K0 : LC p s m meth c b L xs E) {am : Nat → Nat} (i k : Nat) (hi : i + 6 ≤ L) (hk : k ≤ 512) (ih : ∀ (ad : Nat → Nat) (zt zs zg zh zu zl zc zw zx : OS) (H : Heap) (locs : List Loc) (ls : Array Slot), Rel zt zs zg zh zu zl zc zw zx → Wd E (LA s) s H locs (wX E ad zt zs zg zh zu zl zc zw ++ wM E am zx) → lv_has ls 4 [(0, .ref b), (1, .ref (ad 0)), (2, .ref (am 0)), (3, .int (nI (i + 6)))] → W p l e room_1 s m #[Value.ref b] below meth c H locs (90 + 2 * (k + 1)) (150000 + 13 * (k + 1)) (lw_Z below #[Value.ref b] s) (F0 m 18 ls [])) (ad : Nat → Nat) (zt zs zg zh zu zl zc zw zx : OS) (H : Heap) (locs : List Loc) (ls : Array Slot) (hR : Rel zt zs zg zh zu zl zc zw zx) (hw : Wd E (LA s) s H locs (wX E ad zt zs zg zh zu zl zc zw ++ wM E am zx)) (hl : lv_has ls 4 [(0, .ref b), (1, .ref (ad 0)), (2, .ref (am 0)), (3, .int (nI i))]) : W p l e room_1 s m #[Value.ref b] below meth c H locs (90 + 2 * k) (150000 + 13 * k) (lw_Z below #[Value.ref b] s) (F0 m 392 ls []) := by
  obtain ⟨C0, hA, hX, hbl, hL⟩ := K0
  have hx := C0.1
  have hb := C0.2.1
  have hbA : ¬ LA s b := fun z => Nat.not_le.mpr hbl z
  refine lv_aload_n hx hb dL_law_392 rfl (lv_at hl 1 rfl) ?_
  refine lv_aload_n hx hb dL_law_393 rfl (lv_at hl 0 rfl) ?_
  refine lv_iload_n hx hb dL_law_394 rfl (lv_at hl 3 rfl) ?_
  refine lv_iconst (v := 1) hx hb dL_law_395 (by decide) ?_
  refine lv_iadd hx hb dL_law_396 ?_
  refine va_sld hx hb hX hbl hbA hw.2.2 (sc_in (j := 1) (by decide) (by omega) hL) dL_law_397 ?_
  refine lv_i2l hx hb dL_law_398 rfl ?_
  refine lv_bipush (v := 32) hx hb dL_law_399 (by decide) ?_
  refine lv_lshl hx hb dL_law_401 rfl ?_
  refine lv_aload_n hx hb dL_law_402 rfl (lv_at hl 0 rfl) ?_
  refine lv_iload_n hx hb dL_law_403 rfl (lv_at hl 3 rfl) ?_
  refine lv_iconst (v := 2) hx hb dL_law_404 (by decide) ?_
  refine lv_iadd hx hb dL_law_405 ?_
  refine va_sld hx hb hX hbl hbA hw.2.2 (sc_in (j := 2) (by decide) (by omega) hL) dL_law_406 ?_
  refine lv_i2l hx hb dL_law_407 rfl ?_
  refine lv_ldc2 (v := 4294967295) hx hb C0.2.2.2.2.1 (C0.2.2.2.2.2.1 (.constantLong RL 13 4294967295) (by decide +kernel)) dL_law_408 ?_
  refine lv_land hx hb dL_law_411 ?_
  refine lv_lor hx hb dL_law_412 ?_
  refine lv_aload_n hx hb dL_law_413 rfl (lv_at hl 0 rfl) ?_
  refine lv_iload_n hx hb dL_law_414 rfl (lv_at hl 3 rfl) ?_
  refine lv_iconst (v := 3) hx hb dL_law_415 (by decide) ?_
  refine lv_iadd hx hb dL_law_416 ?_
  refine va_sld hx hb hX hbl hbA hw.2.2 (sc_in (j := 3) (by decide) (by omega) hL) dL_law_417 ?_
  refine lv_aload_n hx hb dL_law_418 rfl (lv_at hl 0 rfl) ?_
  refine lv_iload_n hx hb dL_law_419 rfl (lv_at hl 3 rfl) ?_
  refine lv_iconst (v := 4) hx hb dL_law_420 (by decide) ?_
  refine lv_iadd hx hb dL_law_421 ?_
  refine va_sld hx hb hX hbl hbA hw.2.2 (sc_in (j := 4) (by decide) (by omega) hL) dL_law_422 ?_
  obtain ⟨F1, F2, r, zx1, h1, h2, hR⟩ := R_below hR ((((xs (nI i + 1).toNatClampNeg).toInt64) <<< ((32 : Int32).toInt64 &&& 63)) ||| (((xs (nI i + 2).toNatClampNeg).toInt64) &&& 4294967295)) (xs (nI i + 3).toNatClampNeg) (xs (nI i + 4).toNatClampNeg)
  refine r_back (va_runV (As := [.long ((((xs (nI i + 1).toNatClampNeg).toInt64) <<< ((32 : Int32).toInt64 &&& 63)) ||| (((xs (nI i + 2).toNatClampNeg).toInt64) &&& 4294967295)), .int (xs (nI i + 3).toNatClampNeg), .int (xs (nI i + 4).toNatClampNeg)]) (rest := []) ⟨hx, hb, C0.2.2.2.1, C0.2.2.2.2.1, C0.2.2.2.2.2.1⟩ (tX9_below l E ad F1 zt zs zg zh zu zl zc zw ((((xs (nI i + 1).toNatClampNeg).toInt64) <<< ((32 : Int32).toInt64 &&& 63)) ||| (((xs (nI i + 2).toNatClampNeg).toInt64) &&& 4294967295)) (xs (nI i + 3).toNatClampNeg) (xs (nI i + 4).toNatClampNeg) h1 H.size) (cwV 3 C0.2.2.2.2.2.1 gL_X9_below rfl rfl rfl (by decide +kernel) ⟨Nat.le_of_ble_eq_true rfl, Nat.le_of_ble_eq_true rfl⟩) ⟨PG_blind, va_recv hA.2.2.1.1 hw.1 (ci := 9) (q0 := 0) rfl rfl, pg_at hA hw [0, 1, 2, 3, 4, 5, 6, 7, 8, 9, 10, 11, 12, 13, 14, 15, 16, 17, 18, 19, 20, 21, 22, 23, 24, 25, 26, 27, 28, 29, 30, 31, 32, 33, 34, 35, 36, 37, 38, 39, 40, 41, 42, 43, 44, 45, 46, 47, 48, 49] rfl (lcX E ad am zt zs zg zh zu zl zc zw zx)⟩ rfl rfl hl.1 rfl (lv_room (Nat.le_of_ble_eq_true rfl)) dL_law_423 ⟨by show _ ≤ 600000; omega, by show _ ≤ 7302250; omega⟩) hA hw [0, 1, 2, 3, 4, 5, 6, 7, 8, 9, 10, 11, 12, 13, 14, 15, 16, 17, 18, 19, 20, 21, 22, 23, 24, 25, 26, 27, 28, 29, 30, 31, 32, 33, 34, 35, 36, 37, 38, 39, 40, 41, 42, 43, 44, 45, 46, 47, 48, 49] [50, 51, 52, 53, 54, 55, 56, 57, 58, 59, 60, 61, 62, 63, 64, 65, 66, 67, 68, 69, 70, 71, 72, 73, 74, 75, 76, 77, 78, 79, 80, 81, 82, 83, 84, 85, 86] (lcX E ad am zt zs zg zh zu zl zc zw zx) (lcM E ad am zt zs zg zh zu zl zc zw zx) rfl (by decide) (fun v w1 H locs hq hw => ?_)
  obtain ⟨rfl, ad2, ex, had, rfl⟩ := hq
  have hw := lj2 hw
  refine W.widen (k := 90 + 2 * (k + 1)) (n := 150000 + 13 * (k + 1)) (by omega) (by omega) ?_
  have hl : lv_has ls 4 [(0, .ref b), (1, .ref (ad2 0)), (2, .ref (am 0)), (3, .int (nI i))] := by rw [had]; exact hl
  generalize ad2 = ad at hw hl
  refine lv_aload_n hx hb dL_law_426 rfl (lv_at hl 2 rfl) ?_
  refine lv_aload_n hx hb dL_law_427 rfl (lv_at hl 0 rfl) ?_
  refine lv_iload_n hx hb dL_law_428 rfl (lv_at hl 3 rfl) ?_
  refine lv_iconst (v := 1) hx hb dL_law_429 (by decide) ?_
  refine lv_iadd hx hb dL_law_430 ?_
  refine va_sld hx hb hX hbl hbA hw.2.2 (sc_in (j := 1) (by decide) (by omega) hL) dL_law_431 ?_
  refine lv_i2l hx hb dL_law_432 rfl ?_
  refine lv_bipush (v := 32) hx hb dL_law_433 (by decide) ?_
  refine lv_lshl hx hb dL_law_435 rfl ?_
  refine lv_aload_n hx hb dL_law_436 rfl (lv_at hl 0 rfl) ?_
  refine lv_iload_n hx hb dL_law_437 rfl (lv_at hl 3 rfl) ?_
  refine lv_iconst (v := 2) hx hb dL_law_438 (by decide) ?_
  refine lv_iadd hx hb dL_law_439 ?_
  refine va_sld hx hb hX hbl hbA hw.2.2 (sc_in (j := 2) (by decide) (by omega) hL) dL_law_440 ?_
  refine lv_i2l hx hb dL_law_441 rfl ?_
  refine lv_ldc2 (v := 4294967295) hx hb C0.2.2.2.2.1 (C0.2.2.2.2.2.1 (.constantLong RL 13 4294967295) (by decide +kernel)) dL_law_442 ?_
  refine lv_land hx hb dL_law_445 ?_
  refine lv_lor hx hb dL_law_446 ?_
  refine lv_aload_n hx hb dL_law_447 rfl (lv_at hl 0 rfl) ?_
  refine lv_iload_n hx hb dL_law_448 rfl (lv_at hl 3 rfl) ?_
  refine lv_iconst (v := 3) hx hb dL_law_449 (by decide) ?_
  refine lv_iadd hx hb dL_law_450 ?_
  refine va_sld hx hb hX hbl hbA hw.2.2 (sc_in (j := 3) (by decide) (by omega) hL) dL_law_451 ?_
  refine lv_aload_n hx hb dL_law_452 rfl (lv_at hl 0 rfl) ?_
  refine lv_iload_n hx hb dL_law_453 rfl (lv_at hl 3 rfl) ?_
  refine lv_iconst (v := 4) hx hb dL_law_454 (by decide) ?_
  refine lv_iadd hx hb dL_law_455 ?_
  refine va_sld hx hb hX hbl hbA hw.2.2 (sc_in (j := 4) (by decide) (by omega) hL) dL_law_456 ?_
  refine r_backP (va_runV (As := [.long ((((xs (nI i + 1).toNatClampNeg).toInt64) <<< ((32 : Int32).toInt64 &&& 63)) ||| (((xs (nI i + 2).toNatClampNeg).toInt64) &&& 4294967295)), .int (xs (nI i + 3).toNatClampNeg), .int (xs (nI i + 4).toNatClampNeg)]) (rest := [.int r]) ⟨hx, hb, C0.2.2.2.1, C0.2.2.2.2.1, C0.2.2.2.2.2.1⟩ (tX10_below l E am F2 zx ((((xs (nI i + 1).toNatClampNeg).toInt64) <<< ((32 : Int32).toInt64 &&& 63)) ||| (((xs (nI i + 2).toNatClampNeg).toInt64) &&& 4294967295)) (xs (nI i + 3).toNatClampNeg) (xs (nI i + 4).toNatClampNeg) h2 H.size) (cwV 3 C0.2.2.2.2.2.1 gL_X10_below rfl rfl rfl (by decide +kernel) ⟨Nat.le_of_ble_eq_true rfl, Nat.le_of_ble_eq_true rfl⟩) ⟨PG_blind, va_recv hA.2.2.1.1 hw.1 (ci := 10) (q0 := 50) rfl rfl, pg_at hA hw [50, 51, 52, 53, 54, 55, 56, 57, 58, 59, 60, 61, 62, 63, 64, 65, 66, 67, 68, 69, 70, 71, 72, 73, 74, 75, 76, 77, 78, 79, 80, 81, 82, 83, 84, 85, 86] rfl (lcM E ad am zt zs zg zh zu zl zc zw zx)⟩ rfl rfl hl.1 rfl (lv_room (Nat.le_of_ble_eq_true rfl)) dL_law_457 ⟨by show _ ≤ 600000; omega, by show _ ≤ 7302250; omega⟩) hA hw [50, 51, 52, 53, 54, 55, 56, 57, 58, 59, 60, 61, 62, 63, 64, 65, 66, 67, 68, 69, 70, 71, 72, 73, 74, 75, 76, 77, 78, 79, 80, 81, 82, 83, 84, 85, 86] [0, 1, 2, 3, 4, 5, 6, 7, 8, 9, 10, 11, 12, 13, 14, 15, 16, 17, 18, 19, 20, 21, 22, 23, 24, 25, 26, 27, 28, 29, 30, 31, 32, 33, 34, 35, 36, 37, 38, 39, 40, 41, 42, 43, 44, 45, 46, 47, 48, 49] (lcM E ad am zt zs zg zh zu zl zc zw zx) (lcX E ad am zt zs zg zh zu zl zc zw zx) rfl (by decide) (fun H locs hw => ?_)
  refine lv_icmp_eq (tgt := 888) hx hb dL_law_460 (by decide) (fun c1 => ?_) (fun c1 => absurd rfl c1)
  refine lv_iinc (v := nI (i + 6)) (lv' := [(3, .int (nI (i + 6))), (0, .ref b), (1, .ref (ad 0)), (2, .ref (am 0))]) hx hb dL_law_888 hl (k := 3) rfl (nI_add i 6) (by decide) rfl (fun ls hl => ?_)
  refine lv_goto (tgt := 18) hx hb dL_law_891 (by decide) ?_
  exact ih _ zt zs zg zh zu zl zc zw zx1 _ _ _ hR hw (lv_sub hl [1, 2, 3, 0] rfl)
set_option maxRecDepth 20000 in
theorem gL_X9_corpus : GoodIn lw_tbl (wsV RL 57 RX9 yX9_corpus wsX9_corpus) := goodIn_sub (by decide +kernel) (by decide +kernel)
set_option maxRecDepth 20000 in
theorem gL_X10_corpus : GoodIn lw_tbl (wsV RL 60 RX10 yX10_corpus wsX10_corpus) := goodIn_sub (by decide +kernel) (by decide +kernel)
set_option maxRecDepth 20000 in
set_option maxHeartbeats 4000000 in
theorem law_c9 {p : Program} {l : Launch} {e : Env} {s : State} {m : MethodId} {below : List Frame} {meth : Method} {c : Code} {b L : Nat} {xs : Nat → Int32} {E : EV} (K0 : LC p s m meth c b L xs E) {am : Nat → Nat} (i k : Nat) (hi : i + 6 ≤ L) (hk : k ≤ 512) (ih : ∀ (ad : Nat → Nat) (zt zs zg zh zu zl zc zw zx : OS) (H : Heap) (locs : List Loc) (ls : Array Slot), Rel zt zs zg zh zu zl zc zw zx → Wd E (LA s) s H locs (wX E ad zt zs zg zh zu zl zc zw ++ wM E am zx) → lv_has ls 4 [(0, .ref b), (1, .ref (ad 0)), (2, .ref (am 0)), (3, .int (nI (i + 6)))] → W p l e room_1 s m #[Value.ref b] below meth c H locs (90 + 2 * (k + 1)) (150000 + 13 * (k + 1)) (lw_Z below #[Value.ref b] s) (F0 m 18 ls [])) (ad : Nat → Nat) (zt zs zg zh zu zl zc zw zx : OS) (H : Heap) (locs : List Loc) (ls : Array Slot) (hR : Rel zt zs zg zh zu zl zc zw zx) (hw : Wd E (LA s) s H locs (wX E ad zt zs zg zh zu zl zc zw ++ wM E am zx)) (hl : lv_has ls 4 [(0, .ref b), (1, .ref (ad 0)), (2, .ref (am 0)), (3, .int (nI i))]) : W p l e room_1 s m #[Value.ref b] below meth c H locs (90 + 2 * k) (150000 + 13 * k) (lw_Z below #[Value.ref b] s) (F0 m 465 ls []) := by
  obtain ⟨C0, hA, hX, hbl, hL⟩ := K0
  have hx := C0.1
  have hb := C0.2.1
  have hbA : ¬ LA s b := fun z => Nat.not_le.mpr hbl z
  refine lv_aload_n hx hb dL_law_465 rfl (lv_at hl 1 rfl) ?_
  refine lv_aload_n hx hb dL_law_466 rfl (lv_at hl 0 rfl) ?_
  refine lv_iload_n hx hb dL_law_467 rfl (lv_at hl 3 rfl) ?_
  refine lv_iconst (v := 1) hx hb dL_law_468 (by decide) ?_
  refine lv_iadd hx hb dL_law_469 ?_
  refine va_sld hx hb hX hbl hbA hw.2.2 (sc_in (j := 1) (by decide) (by omega) hL) dL_law_470 ?_
  obtain ⟨F1, F2, r, zc1, zx1, h1, h2, hR⟩ := R_corpus hR (xs (nI i + 1).toNatClampNeg)
  refine r_backP (va_runV (As := [.int (xs (nI i + 1).toNatClampNeg)]) (rest := []) ⟨hx, hb, C0.2.2.2.1, C0.2.2.2.2.1, C0.2.2.2.2.2.1⟩ (tX9_corpus l E ad zt zs zg zh zu zl zc zw (xs (nI i + 1).toNatClampNeg) h1 H.size) (cwV 1 C0.2.2.2.2.2.1 gL_X9_corpus rfl rfl rfl (by decide +kernel) ⟨Nat.le_of_ble_eq_true rfl, Nat.le_of_ble_eq_true rfl⟩) ⟨PG_blind, va_recv hA.2.2.1.1 hw.1 (ci := 9) (q0 := 0) rfl rfl, pg_at hA hw [0, 1, 2, 3, 4, 5, 6, 7, 8, 9, 10, 11, 12, 13, 14, 15, 16, 17, 18, 19, 20, 21, 22, 23, 24, 25, 26, 27, 28, 29, 30, 31, 32, 33, 34, 35, 36, 37, 38, 39, 40, 41, 42, 43, 44, 45, 46, 47, 48, 49] rfl (lcX E ad am zt zs zg zh zu zl zc zw zx)⟩ rfl rfl hl.1 rfl (lv_room (Nat.le_of_ble_eq_true rfl)) dL_law_471 ⟨by show _ ≤ 600000; omega, by show _ ≤ 7302250; omega⟩) hA hw [0, 1, 2, 3, 4, 5, 6, 7, 8, 9, 10, 11, 12, 13, 14, 15, 16, 17, 18, 19, 20, 21, 22, 23, 24, 25, 26, 27, 28, 29, 30, 31, 32, 33, 34, 35, 36, 37, 38, 39, 40, 41, 42, 43, 44, 45, 46, 47, 48, 49] [50, 51, 52, 53, 54, 55, 56, 57, 58, 59, 60, 61, 62, 63, 64, 65, 66, 67, 68, 69, 70, 71, 72, 73, 74, 75, 76, 77, 78, 79, 80, 81, 82, 83, 84, 85, 86] (lcX E ad am zt zs zg zh zu zl zc zw zx) (lcM E ad am zt zs zg zh zu zl zc zw zx) rfl (by decide) (fun H locs hw => ?_)
  have hw := lj1 hw
  refine W.widen (k := 90 + 2 * (k + 1)) (n := 150000 + 13 * (k + 1)) (by omega) (by omega) ?_
  refine lv_aload_n hx hb dL_law_474 rfl (lv_at hl 2 rfl) ?_
  refine lv_aload_n hx hb dL_law_475 rfl (lv_at hl 0 rfl) ?_
  refine lv_iload_n hx hb dL_law_476 rfl (lv_at hl 3 rfl) ?_
  refine lv_iconst (v := 1) hx hb dL_law_477 (by decide) ?_
  refine lv_iadd hx hb dL_law_478 ?_
  refine va_sld hx hb hX hbl hbA hw.2.2 (sc_in (j := 1) (by decide) (by omega) hL) dL_law_479 ?_
  refine r_backP (va_runV (As := [.int (xs (nI i + 1).toNatClampNeg)]) (rest := [.int r]) ⟨hx, hb, C0.2.2.2.1, C0.2.2.2.2.1, C0.2.2.2.2.2.1⟩ (tX10_corpus l E am zx (xs (nI i + 1).toNatClampNeg) h2 H.size) (cwV 1 C0.2.2.2.2.2.1 gL_X10_corpus rfl rfl rfl (by decide +kernel) ⟨Nat.le_of_ble_eq_true rfl, Nat.le_of_ble_eq_true rfl⟩) ⟨PG_blind, va_recv hA.2.2.1.1 hw.1 (ci := 10) (q0 := 50) rfl rfl, pg_at hA hw [50, 51, 52, 53, 54, 55, 56, 57, 58, 59, 60, 61, 62, 63, 64, 65, 66, 67, 68, 69, 70, 71, 72, 73, 74, 75, 76, 77, 78, 79, 80, 81, 82, 83, 84, 85, 86] rfl (lcM E ad am zt zs zg zh zu zl zc1 zw zx)⟩ rfl rfl hl.1 rfl (lv_room (Nat.le_of_ble_eq_true rfl)) dL_law_480 ⟨by show _ ≤ 600000; omega, by show _ ≤ 7302250; omega⟩) hA hw [50, 51, 52, 53, 54, 55, 56, 57, 58, 59, 60, 61, 62, 63, 64, 65, 66, 67, 68, 69, 70, 71, 72, 73, 74, 75, 76, 77, 78, 79, 80, 81, 82, 83, 84, 85, 86] [0, 1, 2, 3, 4, 5, 6, 7, 8, 9, 10, 11, 12, 13, 14, 15, 16, 17, 18, 19, 20, 21, 22, 23, 24, 25, 26, 27, 28, 29, 30, 31, 32, 33, 34, 35, 36, 37, 38, 39, 40, 41, 42, 43, 44, 45, 46, 47, 48, 49] (lcM E ad am zt zs zg zh zu zl zc1 zw zx) (lcX E ad am zt zs zg zh zu zl zc1 zw zx) rfl (by decide) (fun H locs hw => ?_)
  refine lv_icmp_eq (tgt := 888) hx hb dL_law_483 (by decide) (fun c1 => ?_) (fun c1 => absurd rfl c1)
  refine lv_iinc (v := nI (i + 6)) (lv' := [(3, .int (nI (i + 6))), (0, .ref b), (1, .ref (ad 0)), (2, .ref (am 0))]) hx hb dL_law_888 hl (k := 3) rfl (nI_add i 6) (by decide) rfl (fun ls hl => ?_)
  refine lv_goto (tgt := 18) hx hb dL_law_891 (by decide) ?_
  exact ih _ zt zs zg zh zu zl zc1 zw zx1 _ _ _ hR hw (lv_sub hl [1, 2, 3, 0] rfl)
set_option maxRecDepth 20000 in
theorem gL_X9_forget : GoodIn lw_tbl (wsV RL 61 RX9 yX9_forget wsX9_forget) := goodIn_sub (by decide +kernel) (by decide +kernel)
set_option maxRecDepth 20000 in
theorem gL_X10_forget : GoodIn lw_tbl (wsV RL 64 RX10 yX10_forget wsX10_forget) := goodIn_sub (by decide +kernel) (by decide +kernel)
set_option maxRecDepth 20000 in
set_option maxHeartbeats 4000000 in
theorem law_c10 {p : Program} {l : Launch} {e : Env} {s : State} {m : MethodId} {below : List Frame} {meth : Method} {c : Code} {b L : Nat} {xs : Nat → Int32} {E : EV} (K0 : LC p s m meth c b L xs E) {am : Nat → Nat} (i k : Nat) (hi : i + 6 ≤ L) (hk : k ≤ 512) (ih : ∀ (ad : Nat → Nat) (zt zs zg zh zu zl zc zw zx : OS) (H : Heap) (locs : List Loc) (ls : Array Slot), Rel zt zs zg zh zu zl zc zw zx → Wd E (LA s) s H locs (wX E ad zt zs zg zh zu zl zc zw ++ wM E am zx) → lv_has ls 4 [(0, .ref b), (1, .ref (ad 0)), (2, .ref (am 0)), (3, .int (nI (i + 6)))] → W p l e room_1 s m #[Value.ref b] below meth c H locs (90 + 2 * (k + 1)) (150000 + 13 * (k + 1)) (lw_Z below #[Value.ref b] s) (F0 m 18 ls [])) (ad : Nat → Nat) (zt zs zg zh zu zl zc zw zx : OS) (H : Heap) (locs : List Loc) (ls : Array Slot) (hR : Rel zt zs zg zh zu zl zc zw zx) (hw : Wd E (LA s) s H locs (wX E ad zt zs zg zh zu zl zc zw ++ wM E am zx)) (hl : lv_has ls 4 [(0, .ref b), (1, .ref (ad 0)), (2, .ref (am 0)), (3, .int (nI i))]) : W p l e room_1 s m #[Value.ref b] below meth c H locs (90 + 2 * k) (150000 + 13 * k) (lw_Z below #[Value.ref b] s) (F0 m 488 ls []) := by
  obtain ⟨C0, hA, hX, hbl, hL⟩ := K0
  have hx := C0.1
  have hb := C0.2.1
  have hbA : ¬ LA s b := fun z => Nat.not_le.mpr hbl z
  refine lv_aload_n hx hb dL_law_488 rfl (lv_at hl 1 rfl) ?_
  obtain ⟨F1, F2, r, zc1, zx1, h1, h2, hR⟩ := R_forget hR 
  refine r_backP (va_runV (As := []) (rest := []) ⟨hx, hb, C0.2.2.2.1, C0.2.2.2.2.1, C0.2.2.2.2.2.1⟩ (tX9_forget l E ad zt zs zg zh zu zl zc zw  h1 H.size) (cwV 0 C0.2.2.2.2.2.1 gL_X9_forget rfl rfl rfl (by decide +kernel) ⟨Nat.le_of_ble_eq_true rfl, Nat.le_of_ble_eq_true rfl⟩) ⟨PG_blind, va_recv hA.2.2.1.1 hw.1 (ci := 9) (q0 := 0) rfl rfl, pg_at hA hw [0, 1, 2, 3, 4, 5, 6, 7, 8, 9, 10, 11, 12, 13, 14, 15, 16, 17, 18, 19, 20, 21, 22, 23, 24, 25, 26, 27, 28, 29, 30, 31, 32, 33, 34, 35, 36, 37, 38, 39, 40, 41, 42, 43, 44, 45, 46, 47, 48, 49] rfl (lcX E ad am zt zs zg zh zu zl zc zw zx)⟩ rfl rfl hl.1 rfl (lv_room (Nat.le_of_ble_eq_true rfl)) dL_law_489 ⟨by show _ ≤ 600000; omega, by show _ ≤ 7302250; omega⟩) hA hw [0, 1, 2, 3, 4, 5, 6, 7, 8, 9, 10, 11, 12, 13, 14, 15, 16, 17, 18, 19, 20, 21, 22, 23, 24, 25, 26, 27, 28, 29, 30, 31, 32, 33, 34, 35, 36, 37, 38, 39, 40, 41, 42, 43, 44, 45, 46, 47, 48, 49] [50, 51, 52, 53, 54, 55, 56, 57, 58, 59, 60, 61, 62, 63, 64, 65, 66, 67, 68, 69, 70, 71, 72, 73, 74, 75, 76, 77, 78, 79, 80, 81, 82, 83, 84, 85, 86] (lcX E ad am zt zs zg zh zu zl zc zw zx) (lcM E ad am zt zs zg zh zu zl zc zw zx) rfl (by decide) (fun H locs hw => ?_)
  have hw := lj1 hw
  refine W.widen (k := 90 + 2 * (k + 1)) (n := 150000 + 13 * (k + 1)) (by omega) (by omega) ?_
  refine lv_aload_n hx hb dL_law_492 rfl (lv_at hl 2 rfl) ?_
  refine r_backP (va_runV (As := []) (rest := [.int r]) ⟨hx, hb, C0.2.2.2.1, C0.2.2.2.2.1, C0.2.2.2.2.2.1⟩ (tX10_forget l E am zx  h2 H.size) (cwV 0 C0.2.2.2.2.2.1 gL_X10_forget rfl rfl rfl (by decide +kernel) ⟨Nat.le_of_ble_eq_true rfl, Nat.le_of_ble_eq_true rfl⟩) ⟨PG_blind, va_recv hA.2.2.1.1 hw.1 (ci := 10) (q0 := 50) rfl rfl, pg_at hA hw [50, 51, 52, 53, 54, 55, 56, 57, 58, 59, 60, 61, 62, 63, 64, 65, 66, 67, 68, 69, 70, 71, 72, 73, 74, 75, 76, 77, 78, 79, 80, 81, 82, 83, 84, 85, 86] rfl (lcM E ad am zt zs zg zh zu zl zc1 zw zx)⟩ rfl rfl hl.1 rfl (lv_room (Nat.le_of_ble_eq_true rfl)) dL_law_493 ⟨by show _ ≤ 600000; omega, by show _ ≤ 7302250; omega⟩) hA hw [50, 51, 52, 53, 54, 55, 56, 57, 58, 59, 60, 61, 62, 63, 64, 65, 66, 67, 68, 69, 70, 71, 72, 73, 74, 75, 76, 77, 78, 79, 80, 81, 82, 83, 84, 85, 86] [0, 1, 2, 3, 4, 5, 6, 7, 8, 9, 10, 11, 12, 13, 14, 15, 16, 17, 18, 19, 20, 21, 22, 23, 24, 25, 26, 27, 28, 29, 30, 31, 32, 33, 34, 35, 36, 37, 38, 39, 40, 41, 42, 43, 44, 45, 46, 47, 48, 49] (lcM E ad am zt zs zg zh zu zl zc1 zw zx) (lcX E ad am zt zs zg zh zu zl zc1 zw zx) rfl (by decide) (fun H locs hw => ?_)
  refine lv_icmp_eq (tgt := 888) hx hb dL_law_496 (by decide) (fun c1 => ?_) (fun c1 => absurd rfl c1)
  refine lv_iinc (v := nI (i + 6)) (lv' := [(3, .int (nI (i + 6))), (0, .ref b), (1, .ref (ad 0)), (2, .ref (am 0))]) hx hb dL_law_888 hl (k := 3) rfl (nI_add i 6) (by decide) rfl (fun ls hl => ?_)
  refine lv_goto (tgt := 18) hx hb dL_law_891 (by decide) ?_
  exact ih _ zt zs zg zh zu zl zc1 zw zx1 _ _ _ hR hw (lv_sub hl [1, 2, 3, 0] rfl)
set_option maxRecDepth 20000 in
theorem gL_X9_walk : GoodIn lw_tbl (wsV RL 65 RX9 yX9_walk wsX9_walk) := goodIn_sub (by decide +kernel) (by decide +kernel)
set_option maxRecDepth 20000 in
theorem gL_X10_walk : GoodIn lw_tbl (wsV RL 69 RX10 yX10_walk wsX10_walk) := goodIn_sub (by decide +kernel) (by decide +kernel)
set_option maxRecDepth 20000 in
set_option maxHeartbeats 4000000 in
theorem law_c11 {p : Program} {l : Launch} {e : Env} {s : State} {m : MethodId} {below : List Frame} {meth : Method} {c : Code} {b L : Nat} {xs : Nat → Int32} {E : EV} (K0 : LC p s m meth c b L xs E) {am : Nat → Nat} (i k : Nat) (hi : i + 6 ≤ L) (hk : k ≤ 512) (ih : ∀ (ad : Nat → Nat) (zt zs zg zh zu zl zc zw zx : OS) (H : Heap) (locs : List Loc) (ls : Array Slot), Rel zt zs zg zh zu zl zc zw zx → Wd E (LA s) s H locs (wX E ad zt zs zg zh zu zl zc zw ++ wM E am zx) → lv_has ls 4 [(0, .ref b), (1, .ref (ad 0)), (2, .ref (am 0)), (3, .int (nI (i + 6)))] → W p l e room_1 s m #[Value.ref b] below meth c H locs (90 + 2 * (k + 1)) (150000 + 13 * (k + 1)) (lw_Z below #[Value.ref b] s) (F0 m 18 ls [])) (ad : Nat → Nat) (zt zs zg zh zu zl zc zw zx : OS) (H : Heap) (locs : List Loc) (ls : Array Slot) (hR : Rel zt zs zg zh zu zl zc zw zx) (hw : Wd E (LA s) s H locs (wX E ad zt zs zg zh zu zl zc zw ++ wM E am zx)) (hl : lv_has ls 4 [(0, .ref b), (1, .ref (ad 0)), (2, .ref (am 0)), (3, .int (nI i))]) : W p l e room_1 s m #[Value.ref b] below meth c H locs (90 + 2 * k) (150000 + 13 * k) (lw_Z below #[Value.ref b] s) (F0 m 501 ls []) := by
  obtain ⟨C0, hA, hX, hbl, hL⟩ := K0
  have hx := C0.1
  have hb := C0.2.1
  have hbA : ¬ LA s b := fun z => Nat.not_le.mpr hbl z
  refine lv_aload_n hx hb dL_law_501 rfl (lv_at hl 1 rfl) ?_
  refine lv_aload_n hx hb dL_law_502 rfl (lv_at hl 0 rfl) ?_
  refine lv_iload_n hx hb dL_law_503 rfl (lv_at hl 3 rfl) ?_
  refine lv_iconst (v := 1) hx hb dL_law_504 (by decide) ?_
  refine lv_iadd hx hb dL_law_505 ?_
  refine va_sld hx hb hX hbl hbA hw.2.2 (sc_in (j := 1) (by decide) (by omega) hL) dL_law_506 ?_
  refine lv_aload_n hx hb dL_law_507 rfl (lv_at hl 0 rfl) ?_
  refine lv_iload_n hx hb dL_law_508 rfl (lv_at hl 3 rfl) ?_
  refine lv_iconst (v := 2) hx hb dL_law_509 (by decide) ?_
  refine lv_iadd hx hb dL_law_510 ?_
  refine va_sld hx hb hX hbl hbA hw.2.2 (sc_in (j := 2) (by decide) (by omega) hL) dL_law_511 ?_
  refine lv_aload_n hx hb dL_law_512 rfl (lv_at hl 0 rfl) ?_
  refine lv_iload_n hx hb dL_law_513 rfl (lv_at hl 3 rfl) ?_
  refine lv_iconst (v := 3) hx hb dL_law_514 (by decide) ?_
  refine lv_iadd hx hb dL_law_515 ?_
  refine va_sld hx hb hX hbl hbA hw.2.2 (sc_in (j := 3) (by decide) (by omega) hL) dL_law_516 ?_
  refine lv_aload_n hx hb dL_law_517 rfl (lv_at hl 0 rfl) ?_
  refine lv_iload_n hx hb dL_law_518 rfl (lv_at hl 3 rfl) ?_
  refine lv_iconst (v := 4) hx hb dL_law_519 (by decide) ?_
  refine lv_iadd hx hb dL_law_520 ?_
  refine va_sld hx hb hX hbl hbA hw.2.2 (sc_in (j := 4) (by decide) (by omega) hL) dL_law_521 ?_
  refine lv_i2l hx hb dL_law_522 rfl ?_
  refine lv_bipush (v := 32) hx hb dL_law_523 (by decide) ?_
  refine lv_lshl hx hb dL_law_525 rfl ?_
  refine lv_aload_n hx hb dL_law_526 rfl (lv_at hl 0 rfl) ?_
  refine lv_iload_n hx hb dL_law_527 rfl (lv_at hl 3 rfl) ?_
  refine lv_iconst (v := 5) hx hb dL_law_528 (by decide) ?_
  refine lv_iadd hx hb dL_law_529 ?_
  refine va_sld hx hb hX hbl hbA hw.2.2 (sc_in (j := 5) (by decide) (by omega) hL) dL_law_530 ?_
  refine lv_i2l hx hb dL_law_531 rfl ?_
  refine lv_ldc2 (v := 4294967295) hx hb C0.2.2.2.2.1 (C0.2.2.2.2.2.1 (.constantLong RL 13 4294967295) (by decide +kernel)) dL_law_532 ?_
  refine lv_land hx hb dL_law_535 ?_
  refine lv_lor hx hb dL_law_536 ?_
  obtain ⟨F1, F2, r, zc1, zx1, h1, h2, hR⟩ := R_walk hR (xs (nI i + 1).toNatClampNeg) (xs (nI i + 2).toNatClampNeg) (xs (nI i + 3).toNatClampNeg) ((((xs (nI i + 4).toNatClampNeg).toInt64) <<< ((32 : Int32).toInt64 &&& 63)) ||| (((xs (nI i + 5).toNatClampNeg).toInt64) &&& 4294967295))
  refine r_back (va_runV (As := [.int (xs (nI i + 1).toNatClampNeg), .int (xs (nI i + 2).toNatClampNeg), .int (xs (nI i + 3).toNatClampNeg), .long ((((xs (nI i + 4).toNatClampNeg).toInt64) <<< ((32 : Int32).toInt64 &&& 63)) ||| (((xs (nI i + 5).toNatClampNeg).toInt64) &&& 4294967295))]) (rest := []) ⟨hx, hb, C0.2.2.2.1, C0.2.2.2.2.1, C0.2.2.2.2.2.1⟩ (tX9_walk l E ad F1 zt zs zg zh zu zl zc zw (xs (nI i + 1).toNatClampNeg) (xs (nI i + 2).toNatClampNeg) (xs (nI i + 3).toNatClampNeg) ((((xs (nI i + 4).toNatClampNeg).toInt64) <<< ((32 : Int32).toInt64 &&& 63)) ||| (((xs (nI i + 5).toNatClampNeg).toInt64) &&& 4294967295)) h1 H.size) (cwV 4 C0.2.2.2.2.2.1 gL_X9_walk rfl rfl rfl (by decide +kernel) ⟨Nat.le_of_ble_eq_true rfl, Nat.le_of_ble_eq_true rfl⟩) ⟨PG_blind, va_recv hA.2.2.1.1 hw.1 (ci := 9) (q0 := 0) rfl rfl, pg_at hA hw [0, 1, 2, 3, 4, 5, 6, 7, 8, 9, 10, 11, 12, 13, 14, 15, 16, 17, 18, 19, 20, 21, 22, 23, 24, 25, 26, 27, 28, 29, 30, 31, 32, 33, 34, 35, 36, 37, 38, 39, 40, 41, 42, 43, 44, 45, 46, 47, 48, 49] rfl (lcX E ad am zt zs zg zh zu zl zc zw zx)⟩ rfl rfl hl.1 rfl (lv_room (Nat.le_of_ble_eq_true rfl)) dL_law_537 ⟨by show _ ≤ 600000; omega, by show _ ≤ 7302250; omega⟩) hA hw [0, 1, 2, 3, 4, 5, 6, 7, 8, 9, 10, 11, 12, 13, 14, 15, 16, 17, 18, 19, 20, 21, 22, 23, 24, 25, 26, 27, 28, 29, 30, 31, 32, 33, 34, 35, 36, 37, 38, 39, 40, 41, 42, 43, 44, 45, 46, 47, 48, 49] [50, 51, 52, 53, 54, 55, 56, 57, 58, 59, 60, 61, 62, 63, 64, 65, 66, 67, 68, 69, 70, 71, 72, 73, 74, 75, 76, 77, 78, 79, 80, 81, 82, 83, 84, 85, 86] (lcX E ad am zt zs zg zh zu zl zc zw zx) (lcM E ad am zt zs zg zh zu zl zc zw zx) rfl (by decide) (fun v w1 H locs hq hw => ?_)
  obtain ⟨rfl, ad2, ex, had, rfl⟩ := hq
  have hw := lj2 hw
  refine W.widen (k := 90 + 2 * (k + 1)) (n := 150000 + 13 * (k + 1)) (by omega) (by omega) ?_
  have hl : lv_has ls 4 [(0, .ref b), (1, .ref (ad2 0)), (2, .ref (am 0)), (3, .int (nI i))] := by rw [had]; exact hl
  generalize ad2 = ad at hw hl
  refine lv_aload_n hx hb dL_law_540 rfl (lv_at hl 2 rfl) ?_
  refine lv_aload_n hx hb dL_law_541 rfl (lv_at hl 0 rfl) ?_
  refine lv_iload_n hx hb dL_law_542 rfl (lv_at hl 3 rfl) ?_
  refine lv_iconst (v := 1) hx hb dL_law_543 (by decide) ?_
  refine lv_iadd hx hb dL_law_544 ?_
  refine va_sld hx hb hX hbl hbA hw.2.2 (sc_in (j := 1) (by decide) (by omega) hL) dL_law_545 ?_
  refine lv_aload_n hx hb dL_law_546 rfl (lv_at hl 0 rfl) ?_
  refine lv_iload_n hx hb dL_law_547 rfl (lv_at hl 3 rfl) ?_
  refine lv_iconst (v := 2) hx hb dL_law_548 (by decide) ?_
  refine lv_iadd hx hb dL_law_549 ?_
  refine va_sld hx hb hX hbl hbA hw.2.2 (sc_in (j := 2) (by decide) (by omega) hL) dL_law_550 ?_
  refine lv_aload_n hx hb dL_law_551 rfl (lv_at hl 0 rfl) ?_
  refine lv_iload_n hx hb dL_law_552 rfl (lv_at hl 3 rfl) ?_
  refine lv_iconst (v := 3) hx hb dL_law_553 (by decide) ?_
  refine lv_iadd hx hb dL_law_554 ?_
  refine va_sld hx hb hX hbl hbA hw.2.2 (sc_in (j := 3) (by decide) (by omega) hL) dL_law_555 ?_
  refine lv_aload_n hx hb dL_law_556 rfl (lv_at hl 0 rfl) ?_
  refine lv_iload_n hx hb dL_law_557 rfl (lv_at hl 3 rfl) ?_
  refine lv_iconst (v := 4) hx hb dL_law_558 (by decide) ?_
  refine lv_iadd hx hb dL_law_559 ?_
  refine va_sld hx hb hX hbl hbA hw.2.2 (sc_in (j := 4) (by decide) (by omega) hL) dL_law_560 ?_
  refine lv_i2l hx hb dL_law_561 rfl ?_
  refine lv_bipush (v := 32) hx hb dL_law_562 (by decide) ?_
  refine lv_lshl hx hb dL_law_564 rfl ?_
  refine lv_aload_n hx hb dL_law_565 rfl (lv_at hl 0 rfl) ?_
  refine lv_iload_n hx hb dL_law_566 rfl (lv_at hl 3 rfl) ?_
  refine lv_iconst (v := 5) hx hb dL_law_567 (by decide) ?_
  refine lv_iadd hx hb dL_law_568 ?_
  refine va_sld hx hb hX hbl hbA hw.2.2 (sc_in (j := 5) (by decide) (by omega) hL) dL_law_569 ?_
  refine lv_i2l hx hb dL_law_570 rfl ?_
  refine lv_ldc2 (v := 4294967295) hx hb C0.2.2.2.2.1 (C0.2.2.2.2.2.1 (.constantLong RL 13 4294967295) (by decide +kernel)) dL_law_571 ?_
  refine lv_land hx hb dL_law_574 ?_
  refine lv_lor hx hb dL_law_575 ?_
  refine r_backP (va_runV (As := [.int (xs (nI i + 1).toNatClampNeg), .int (xs (nI i + 2).toNatClampNeg), .int (xs (nI i + 3).toNatClampNeg), .long ((((xs (nI i + 4).toNatClampNeg).toInt64) <<< ((32 : Int32).toInt64 &&& 63)) ||| (((xs (nI i + 5).toNatClampNeg).toInt64) &&& 4294967295))]) (rest := [.int r]) ⟨hx, hb, C0.2.2.2.1, C0.2.2.2.2.1, C0.2.2.2.2.2.1⟩ (tX10_walk l E am F2 zx (xs (nI i + 1).toNatClampNeg) (xs (nI i + 2).toNatClampNeg) (xs (nI i + 3).toNatClampNeg) ((((xs (nI i + 4).toNatClampNeg).toInt64) <<< ((32 : Int32).toInt64 &&& 63)) ||| (((xs (nI i + 5).toNatClampNeg).toInt64) &&& 4294967295)) h2 H.size) (cwV 4 C0.2.2.2.2.2.1 gL_X10_walk rfl rfl rfl (by decide +kernel) ⟨Nat.le_of_ble_eq_true rfl, Nat.le_of_ble_eq_true rfl⟩) ⟨PG_blind, va_recv hA.2.2.1.1 hw.1 (ci := 10) (q0 := 50) rfl rfl, pg_at hA hw [50, 51, 52, 53, 54, 55, 56, 57, 58, 59, 60, 61, 62, 63, 64, 65, 66, 67, 68, 69, 70, 71, 72, 73, 74, 75, 76, 77, 78, 79, 80, 81, 82, 83, 84, 85, 86] rfl (lcM E ad am zt zs zg zh zu zl zc1 zw zx)⟩ rfl rfl hl.1 rfl (lv_room (Nat.le_of_ble_eq_true rfl)) dL_law_576 ⟨by show _ ≤ 600000; omega, by show _ ≤ 7302250; omega⟩) hA hw [50, 51, 52, 53, 54, 55, 56, 57, 58, 59, 60, 61, 62, 63, 64, 65, 66, 67, 68, 69, 70, 71, 72, 73, 74, 75, 76, 77, 78, 79, 80, 81, 82, 83, 84, 85, 86] [0, 1, 2, 3, 4, 5, 6, 7, 8, 9, 10, 11, 12, 13, 14, 15, 16, 17, 18, 19, 20, 21, 22, 23, 24, 25, 26, 27, 28, 29, 30, 31, 32, 33, 34, 35, 36, 37, 38, 39, 40, 41, 42, 43, 44, 45, 46, 47, 48, 49] (lcM E ad am zt zs zg zh zu zl zc1 zw zx) (lcX E ad am zt zs zg zh zu zl zc1 zw zx) rfl (by decide) (fun H locs hw => ?_)
  refine lv_icmp_eq (tgt := 888) hx hb dL_law_579 (by decide) (fun c1 => ?_) (fun c1 => absurd rfl c1)
  refine lv_iinc (v := nI (i + 6)) (lv' := [(3, .int (nI (i + 6))), (0, .ref b), (1, .ref (ad 0)), (2, .ref (am 0))]) hx hb dL_law_888 hl (k := 3) rfl (nI_add i 6) (by decide) rfl (fun ls hl => ?_)
  refine lv_goto (tgt := 18) hx hb dL_law_891 (by decide) ?_
  exact ih _ zt zs zg zh zu zl zc1 zw zx1 _ _ _ hR hw (lv_sub hl [1, 2, 3, 0] rfl)
set_option maxRecDepth 20000 in
theorem gL_X9_step : GoodIn lw_tbl (wsV RL 70 RX9 yX9_step wsX9_step) := goodIn_sub (by decide +kernel) (by decide +kernel)
set_option maxRecDepth 20000 in
theorem gL_X10_step : GoodIn lw_tbl (wsV RL 73 RX10 yX10_step wsX10_step) := goodIn_sub (by decide +kernel) (by decide +kernel)
set_option maxRecDepth 20000 in
set_option maxHeartbeats 4000000 in
theorem law_c12 {p : Program} {l : Launch} {e : Env} {s : State} {m : MethodId} {below : List Frame} {meth : Method} {c : Code} {b L : Nat} {xs : Nat → Int32} {E : EV} (K0 : LC p s m meth c b L xs E) {am : Nat → Nat} (i k : Nat) (hi : i + 6 ≤ L) (hk : k ≤ 512) (ih : ∀ (ad : Nat → Nat) (zt zs zg zh zu zl zc zw zx : OS) (H : Heap) (locs : List Loc) (ls : Array Slot), Rel zt zs zg zh zu zl zc zw zx → Wd E (LA s) s H locs (wX E ad zt zs zg zh zu zl zc zw ++ wM E am zx) → lv_has ls 4 [(0, .ref b), (1, .ref (ad 0)), (2, .ref (am 0)), (3, .int (nI (i + 6)))] → W p l e room_1 s m #[Value.ref b] below meth c H locs (90 + 2 * (k + 1)) (150000 + 13 * (k + 1)) (lw_Z below #[Value.ref b] s) (F0 m 18 ls [])) (ad : Nat → Nat) (zt zs zg zh zu zl zc zw zx : OS) (H : Heap) (locs : List Loc) (ls : Array Slot) (hR : Rel zt zs zg zh zu zl zc zw zx) (hw : Wd E (LA s) s H locs (wX E ad zt zs zg zh zu zl zc zw ++ wM E am zx)) (hl : lv_has ls 4 [(0, .ref b), (1, .ref (ad 0)), (2, .ref (am 0)), (3, .int (nI i))]) : W p l e room_1 s m #[Value.ref b] below meth c H locs (90 + 2 * k) (150000 + 13 * k) (lw_Z below #[Value.ref b] s) (F0 m 584 ls []) := by
  obtain ⟨C0, hA, hX, hbl, hL⟩ := K0
  have hx := C0.1
  have hb := C0.2.1
  have hbA : ¬ LA s b := fun z => Nat.not_le.mpr hbl z
  refine lv_aload_n hx hb dL_law_584 rfl (lv_at hl 1 rfl) ?_
  refine lv_aload_n hx hb dL_law_585 rfl (lv_at hl 0 rfl) ?_
  refine lv_iload_n hx hb dL_law_586 rfl (lv_at hl 3 rfl) ?_
  refine lv_iconst (v := 1) hx hb dL_law_587 (by decide) ?_
  refine lv_iadd hx hb dL_law_588 ?_
  refine va_sld hx hb hX hbl hbA hw.2.2 (sc_in (j := 1) (by decide) (by omega) hL) dL_law_589 ?_
  obtain ⟨F1, F2, r, h1, h2, hR⟩ := R_step hR (xs (nI i + 1).toNatClampNeg)
  refine r_backP (va_runV (As := [.int (xs (nI i + 1).toNatClampNeg)]) (rest := []) ⟨hx, hb, C0.2.2.2.1, C0.2.2.2.2.1, C0.2.2.2.2.2.1⟩ (tX9_step l E ad zt zs zg zh zu zl zc zw (xs (nI i + 1).toNatClampNeg) h1 H.size) (cwV 1 C0.2.2.2.2.2.1 gL_X9_step rfl rfl rfl (by decide +kernel) ⟨Nat.le_of_ble_eq_true rfl, Nat.le_of_ble_eq_true rfl⟩) ⟨PG_blind, va_recv hA.2.2.1.1 hw.1 (ci := 9) (q0 := 0) rfl rfl, pg_at hA hw [0, 1, 2, 3, 4, 5, 6, 7, 8, 9, 10, 11, 12, 13, 14, 15, 16, 17, 18, 19, 20, 21, 22, 23, 24, 25, 26, 27, 28, 29, 30, 31, 32, 33, 34, 35, 36, 37, 38, 39, 40, 41, 42, 43, 44, 45, 46, 47, 48, 49] rfl (lcX E ad am zt zs zg zh zu zl zc zw zx)⟩ rfl rfl hl.1 rfl (lv_room (Nat.le_of_ble_eq_true rfl)) dL_law_590 ⟨by show _ ≤ 600000; omega, by show _ ≤ 7302250; omega⟩) hA hw [0, 1, 2, 3, 4, 5, 6, 7, 8, 9, 10, 11, 12, 13, 14, 15, 16, 17, 18, 19, 20, 21, 22, 23, 24, 25, 26, 27, 28, 29, 30, 31, 32, 33, 34, 35, 36, 37, 38, 39, 40, 41, 42, 43, 44, 45, 46, 47, 48, 49] [50, 51, 52, 53, 54, 55, 56, 57, 58, 59, 60, 61, 62, 63, 64, 65, 66, 67, 68, 69, 70, 71, 72, 73, 74, 75, 76, 77, 78, 79, 80, 81, 82, 83, 84, 85, 86] (lcX E ad am zt zs zg zh zu zl zc zw zx) (lcM E ad am zt zs zg zh zu zl zc zw zx) rfl (by decide) (fun H locs hw => ?_)
  have hw := lj1 hw
  refine W.widen (k := 90 + 2 * (k + 1)) (n := 150000 + 13 * (k + 1)) (by omega) (by omega) ?_
  refine lv_aload_n hx hb dL_law_593 rfl (lv_at hl 2 rfl) ?_
  refine lv_aload_n hx hb dL_law_594 rfl (lv_at hl 0 rfl) ?_
  refine lv_iload_n hx hb dL_law_595 rfl (lv_at hl 3 rfl) ?_
  refine lv_iconst (v := 1) hx hb dL_law_596 (by decide) ?_
  refine lv_iadd hx hb dL_law_597 ?_
  refine va_sld hx hb hX hbl hbA hw.2.2 (sc_in (j := 1) (by decide) (by omega) hL) dL_law_598 ?_
  refine r_backP (va_runV (As := [.int (xs (nI i + 1).toNatClampNeg)]) (rest := [.int r]) ⟨hx, hb, C0.2.2.2.1, C0.2.2.2.2.1, C0.2.2.2.2.2.1⟩ (tX10_step l E am zx (xs (nI i + 1).toNatClampNeg) h2 H.size) (cwV 1 C0.2.2.2.2.2.1 gL_X10_step rfl rfl rfl (by decide +kernel) ⟨Nat.le_of_ble_eq_true rfl, Nat.le_of_ble_eq_true rfl⟩) ⟨PG_blind, va_recv hA.2.2.1.1 hw.1 (ci := 10) (q0 := 50) rfl rfl, pg_at hA hw [50, 51, 52, 53, 54, 55, 56, 57, 58, 59, 60, 61, 62, 63, 64, 65, 66, 67, 68, 69, 70, 71, 72, 73, 74, 75, 76, 77, 78, 79, 80, 81, 82, 83, 84, 85, 86] rfl (lcM E ad am zt zs zg zh zu zl zc zw zx)⟩ rfl rfl hl.1 rfl (lv_room (Nat.le_of_ble_eq_true rfl)) dL_law_599 ⟨by show _ ≤ 600000; omega, by show _ ≤ 7302250; omega⟩) hA hw [50, 51, 52, 53, 54, 55, 56, 57, 58, 59, 60, 61, 62, 63, 64, 65, 66, 67, 68, 69, 70, 71, 72, 73, 74, 75, 76, 77, 78, 79, 80, 81, 82, 83, 84, 85, 86] [0, 1, 2, 3, 4, 5, 6, 7, 8, 9, 10, 11, 12, 13, 14, 15, 16, 17, 18, 19, 20, 21, 22, 23, 24, 25, 26, 27, 28, 29, 30, 31, 32, 33, 34, 35, 36, 37, 38, 39, 40, 41, 42, 43, 44, 45, 46, 47, 48, 49] (lcM E ad am zt zs zg zh zu zl zc zw zx) (lcX E ad am zt zs zg zh zu zl zc zw zx) rfl (by decide) (fun H locs hw => ?_)
  refine lv_icmp_eq (tgt := 888) hx hb dL_law_602 (by decide) (fun c1 => ?_) (fun c1 => absurd rfl c1)
  refine lv_iinc (v := nI (i + 6)) (lv' := [(3, .int (nI (i + 6))), (0, .ref b), (1, .ref (ad 0)), (2, .ref (am 0))]) hx hb dL_law_888 hl (k := 3) rfl (nI_add i 6) (by decide) rfl (fun ls hl => ?_)
  refine lv_goto (tgt := 18) hx hb dL_law_891 (by decide) ?_
  exact ih _ zt zs zg zh zu zl zc zw zx _ _ _ hR hw (lv_sub hl [1, 2, 3, 0] rfl)
set_option maxRecDepth 20000 in
theorem gL_X9_steps : GoodIn lw_tbl (wsV RL 74 RX9 yX9_steps wsX9_steps) := goodIn_sub (by decide +kernel) (by decide +kernel)
set_option maxRecDepth 20000 in
theorem gL_X10_steps : GoodIn lw_tbl (wsV RL 77 RX10 yX10_steps wsX10_steps) := goodIn_sub (by decide +kernel) (by decide +kernel)
set_option maxRecDepth 20000 in
set_option maxHeartbeats 4000000 in
theorem law_c13 {p : Program} {l : Launch} {e : Env} {s : State} {m : MethodId} {below : List Frame} {meth : Method} {c : Code} {b L : Nat} {xs : Nat → Int32} {E : EV} (K0 : LC p s m meth c b L xs E) {am : Nat → Nat} (i k : Nat) (hi : i + 6 ≤ L) (hk : k ≤ 512) (ih : ∀ (ad : Nat → Nat) (zt zs zg zh zu zl zc zw zx : OS) (H : Heap) (locs : List Loc) (ls : Array Slot), Rel zt zs zg zh zu zl zc zw zx → Wd E (LA s) s H locs (wX E ad zt zs zg zh zu zl zc zw ++ wM E am zx) → lv_has ls 4 [(0, .ref b), (1, .ref (ad 0)), (2, .ref (am 0)), (3, .int (nI (i + 6)))] → W p l e room_1 s m #[Value.ref b] below meth c H locs (90 + 2 * (k + 1)) (150000 + 13 * (k + 1)) (lw_Z below #[Value.ref b] s) (F0 m 18 ls [])) (ad : Nat → Nat) (zt zs zg zh zu zl zc zw zx : OS) (H : Heap) (locs : List Loc) (ls : Array Slot) (hR : Rel zt zs zg zh zu zl zc zw zx) (hw : Wd E (LA s) s H locs (wX E ad zt zs zg zh zu zl zc zw ++ wM E am zx)) (hl : lv_has ls 4 [(0, .ref b), (1, .ref (ad 0)), (2, .ref (am 0)), (3, .int (nI i))]) : W p l e room_1 s m #[Value.ref b] below meth c H locs (90 + 2 * k) (150000 + 13 * k) (lw_Z below #[Value.ref b] s) (F0 m 607 ls []) := by
  obtain ⟨C0, hA, hX, hbl, hL⟩ := K0
  have hx := C0.1
  have hb := C0.2.1
  have hbA : ¬ LA s b := fun z => Nat.not_le.mpr hbl z
  refine lv_aload_n hx hb dL_law_607 rfl (lv_at hl 1 rfl) ?_
  obtain ⟨F1, F2, r, h1, h2, hR⟩ := R_steps hR 
  refine r_backP (va_runV (As := []) (rest := []) ⟨hx, hb, C0.2.2.2.1, C0.2.2.2.2.1, C0.2.2.2.2.2.1⟩ (tX9_steps l E ad zt zs zg zh zu zl zc zw  h1 H.size) (cwV 0 C0.2.2.2.2.2.1 gL_X9_steps rfl rfl rfl (by decide +kernel) ⟨Nat.le_of_ble_eq_true rfl, Nat.le_of_ble_eq_true rfl⟩) ⟨PG_blind, va_recv hA.2.2.1.1 hw.1 (ci := 9) (q0 := 0) rfl rfl, pg_at hA hw [0, 1, 2, 3, 4, 5, 6, 7, 8, 9, 10, 11, 12, 13, 14, 15, 16, 17, 18, 19, 20, 21, 22, 23, 24, 25, 26, 27, 28, 29, 30, 31, 32, 33, 34, 35, 36, 37, 38, 39, 40, 41, 42, 43, 44, 45, 46, 47, 48, 49] rfl (lcX E ad am zt zs zg zh zu zl zc zw zx)⟩ rfl rfl hl.1 rfl (lv_room (Nat.le_of_ble_eq_true rfl)) dL_law_608 ⟨by show _ ≤ 600000; omega, by show _ ≤ 7302250; omega⟩) hA hw [0, 1, 2, 3, 4, 5, 6, 7, 8, 9, 10, 11, 12, 13, 14, 15, 16, 17, 18, 19, 20, 21, 22, 23, 24, 25, 26, 27, 28, 29, 30, 31, 32, 33, 34, 35, 36, 37, 38, 39, 40, 41, 42, 43, 44, 45, 46, 47, 48, 49] [50, 51, 52, 53, 54, 55, 56, 57, 58, 59, 60, 61, 62, 63, 64, 65, 66, 67, 68, 69, 70, 71, 72, 73, 74, 75, 76, 77, 78, 79, 80, 81, 82, 83, 84, 85, 86] (lcX E ad am zt zs zg zh zu zl zc zw zx) (lcM E ad am zt zs zg zh zu zl zc zw zx) rfl (by decide) (fun H locs hw => ?_)
  have hw := lj1 hw
  refine W.widen (k := 90 + 2 * (k + 1)) (n := 150000 + 13 * (k + 1)) (by omega) (by omega) ?_
  refine lv_aload_n hx hb dL_law_611 rfl (lv_at hl 2 rfl) ?_
  refine r_backP (va_runV (As := []) (rest := [.int r]) ⟨hx, hb, C0.2.2.2.1, C0.2.2.2.2.1, C0.2.2.2.2.2.1⟩ (tX10_steps l E am zx  h2 H.size) (cwV 0 C0.2.2.2.2.2.1 gL_X10_steps rfl rfl rfl (by decide +kernel) ⟨Nat.le_of_ble_eq_true rfl, Nat.le_of_ble_eq_true rfl⟩) ⟨PG_blind, va_recv hA.2.2.1.1 hw.1 (ci := 10) (q0 := 50) rfl rfl, pg_at hA hw [50, 51, 52, 53, 54, 55, 56, 57, 58, 59, 60, 61, 62, 63, 64, 65, 66, 67, 68, 69, 70, 71, 72, 73, 74, 75, 76, 77, 78, 79, 80, 81, 82, 83, 84, 85, 86] rfl (lcM E ad am zt zs zg zh zu zl zc zw zx)⟩ rfl rfl hl.1 rfl (lv_room (Nat.le_of_ble_eq_true rfl)) dL_law_612 ⟨by show _ ≤ 600000; omega, by show _ ≤ 7302250; omega⟩) hA hw [50, 51, 52, 53, 54, 55, 56, 57, 58, 59, 60, 61, 62, 63, 64, 65, 66, 67, 68, 69, 70, 71, 72, 73, 74, 75, 76, 77, 78, 79, 80, 81, 82, 83, 84, 85, 86] [0, 1, 2, 3, 4, 5, 6, 7, 8, 9, 10, 11, 12, 13, 14, 15, 16, 17, 18, 19, 20, 21, 22, 23, 24, 25, 26, 27, 28, 29, 30, 31, 32, 33, 34, 35, 36, 37, 38, 39, 40, 41, 42, 43, 44, 45, 46, 47, 48, 49] (lcM E ad am zt zs zg zh zu zl zc zw zx) (lcX E ad am zt zs zg zh zu zl zc zw zx) rfl (by decide) (fun H locs hw => ?_)
  refine lv_icmp_eq (tgt := 888) hx hb dL_law_615 (by decide) (fun c1 => ?_) (fun c1 => absurd rfl c1)
  refine lv_iinc (v := nI (i + 6)) (lv' := [(3, .int (nI (i + 6))), (0, .ref b), (1, .ref (ad 0)), (2, .ref (am 0))]) hx hb dL_law_888 hl (k := 3) rfl (nI_add i 6) (by decide) rfl (fun ls hl => ?_)
  refine lv_goto (tgt := 18) hx hb dL_law_891 (by decide) ?_
  exact ih _ zt zs zg zh zu zl zc zw zx _ _ _ hR hw (lv_sub hl [1, 2, 3, 0] rfl)
set_option maxRecDepth 20000 in
theorem gL_X9_stroke : GoodIn lw_tbl (wsV RL 78 RX9 yX9_stroke wsX9_stroke) := goodIn_sub (by decide +kernel) (by decide +kernel)
set_option maxRecDepth 20000 in
theorem gL_X10_stroke : GoodIn lw_tbl (wsV RL 82 RX10 yX10_stroke wsX10_stroke) := goodIn_sub (by decide +kernel) (by decide +kernel)
set_option maxRecDepth 20000 in
set_option maxHeartbeats 4000000 in
theorem law_c14 {p : Program} {l : Launch} {e : Env} {s : State} {m : MethodId} {below : List Frame} {meth : Method} {c : Code} {b L : Nat} {xs : Nat → Int32} {E : EV} (K0 : LC p s m meth c b L xs E) {am : Nat → Nat} (i k : Nat) (hi : i + 6 ≤ L) (hk : k ≤ 512) (ih : ∀ (ad : Nat → Nat) (zt zs zg zh zu zl zc zw zx : OS) (H : Heap) (locs : List Loc) (ls : Array Slot), Rel zt zs zg zh zu zl zc zw zx → Wd E (LA s) s H locs (wX E ad zt zs zg zh zu zl zc zw ++ wM E am zx) → lv_has ls 4 [(0, .ref b), (1, .ref (ad 0)), (2, .ref (am 0)), (3, .int (nI (i + 6)))] → W p l e room_1 s m #[Value.ref b] below meth c H locs (90 + 2 * (k + 1)) (150000 + 13 * (k + 1)) (lw_Z below #[Value.ref b] s) (F0 m 18 ls [])) (ad : Nat → Nat) (zt zs zg zh zu zl zc zw zx : OS) (H : Heap) (locs : List Loc) (ls : Array Slot) (hR : Rel zt zs zg zh zu zl zc zw zx) (hw : Wd E (LA s) s H locs (wX E ad zt zs zg zh zu zl zc zw ++ wM E am zx)) (hl : lv_has ls 4 [(0, .ref b), (1, .ref (ad 0)), (2, .ref (am 0)), (3, .int (nI i))]) : W p l e room_1 s m #[Value.ref b] below meth c H locs (90 + 2 * k) (150000 + 13 * k) (lw_Z below #[Value.ref b] s) (F0 m 620 ls []) := by
  obtain ⟨C0, hA, hX, hbl, hL⟩ := K0
  have hx := C0.1
  have hb := C0.2.1
  have hbA : ¬ LA s b := fun z => Nat.not_le.mpr hbl z
  refine lv_aload_n hx hb dL_law_620 rfl (lv_at hl 1 rfl) ?_
  refine lv_aload_n hx hb dL_law_621 rfl (lv_at hl 0 rfl) ?_
  refine lv_iload_n hx hb dL_law_622 rfl (lv_at hl 3 rfl) ?_
  refine lv_iconst (v := 1) hx hb dL_law_623 (by decide) ?_
  refine lv_iadd hx hb dL_law_624 ?_
  refine va_sld hx hb hX hbl hbA hw.2.2 (sc_in (j := 1) (by decide) (by omega) hL) dL_law_625 ?_
  refine lv_aload_n hx hb dL_law_626 rfl (lv_at hl 0 rfl) ?_
  refine lv_iload_n hx hb dL_law_627 rfl (lv_at hl 3 rfl) ?_
  refine lv_iconst (v := 2) hx hb dL_law_628 (by decide) ?_
  refine lv_iadd hx hb dL_law_629 ?_
  refine va_sld hx hb hX hbl hbA hw.2.2 (sc_in (j := 2) (by decide) (by omega) hL) dL_law_630 ?_
  refine lv_aload_n hx hb dL_law_631 rfl (lv_at hl 0 rfl) ?_
  refine lv_iload_n hx hb dL_law_632 rfl (lv_at hl 3 rfl) ?_
  refine lv_iconst (v := 3) hx hb dL_law_633 (by decide) ?_
  refine lv_iadd hx hb dL_law_634 ?_
  refine va_sld hx hb hX hbl hbA hw.2.2 (sc_in (j := 3) (by decide) (by omega) hL) dL_law_635 ?_
  refine lv_aload_n hx hb dL_law_636 rfl (lv_at hl 0 rfl) ?_
  refine lv_iload_n hx hb dL_law_637 rfl (lv_at hl 3 rfl) ?_
  refine lv_iconst (v := 4) hx hb dL_law_638 (by decide) ?_
  refine lv_iadd hx hb dL_law_639 ?_
  refine va_sld hx hb hX hbl hbA hw.2.2 (sc_in (j := 4) (by decide) (by omega) hL) dL_law_640 ?_
  obtain ⟨F1, F2, r, h1, h2, hR⟩ := R_stroke hR (xs (nI i + 1).toNatClampNeg) (xs (nI i + 2).toNatClampNeg) (xs (nI i + 3).toNatClampNeg) (xs (nI i + 4).toNatClampNeg)
  refine r_backP (va_runV (As := [.int (xs (nI i + 1).toNatClampNeg), .int (xs (nI i + 2).toNatClampNeg), .int (xs (nI i + 3).toNatClampNeg), .int (xs (nI i + 4).toNatClampNeg)]) (rest := []) ⟨hx, hb, C0.2.2.2.1, C0.2.2.2.2.1, C0.2.2.2.2.2.1⟩ (tX9_stroke l E ad zt zs zg zh zu zl zc zw (xs (nI i + 1).toNatClampNeg) (xs (nI i + 2).toNatClampNeg) (xs (nI i + 3).toNatClampNeg) (xs (nI i + 4).toNatClampNeg) h1 H.size) (cwV 4 C0.2.2.2.2.2.1 gL_X9_stroke rfl rfl rfl (by decide +kernel) ⟨Nat.le_of_ble_eq_true rfl, Nat.le_of_ble_eq_true rfl⟩) ⟨PG_blind, va_recv hA.2.2.1.1 hw.1 (ci := 9) (q0 := 0) rfl rfl, pg_at hA hw [0, 1, 2, 3, 4, 5, 6, 7, 8, 9, 10, 11, 12, 13, 14, 15, 16, 17, 18, 19, 20, 21, 22, 23, 24, 25, 26, 27, 28, 29, 30, 31, 32, 33, 34, 35, 36, 37, 38, 39, 40, 41, 42, 43, 44, 45, 46, 47, 48, 49] rfl (lcX E ad am zt zs zg zh zu zl zc zw zx)⟩ rfl rfl hl.1 rfl (lv_room (Nat.le_of_ble_eq_true rfl)) dL_law_641 ⟨by show _ ≤ 600000; omega, by show _ ≤ 7302250; omega⟩) hA hw [0, 1, 2, 3, 4, 5, 6, 7, 8, 9, 10, 11, 12, 13, 14, 15, 16, 17, 18, 19, 20, 21, 22, 23, 24, 25, 26, 27, 28, 29, 30, 31, 32, 33, 34, 35, 36, 37, 38, 39, 40, 41, 42, 43, 44, 45, 46, 47, 48, 49] [50, 51, 52, 53, 54, 55, 56, 57, 58, 59, 60, 61, 62, 63, 64, 65, 66, 67, 68, 69, 70, 71, 72, 73, 74, 75, 76, 77, 78, 79, 80, 81, 82, 83, 84, 85, 86] (lcX E ad am zt zs zg zh zu zl zc zw zx) (lcM E ad am zt zs zg zh zu zl zc zw zx) rfl (by decide) (fun H locs hw => ?_)
  have hw := lj1 hw
  refine W.widen (k := 90 + 2 * (k + 1)) (n := 150000 + 13 * (k + 1)) (by omega) (by omega) ?_
  refine lv_aload_n hx hb dL_law_644 rfl (lv_at hl 2 rfl) ?_
  refine lv_aload_n hx hb dL_law_645 rfl (lv_at hl 0 rfl) ?_
  refine lv_iload_n hx hb dL_law_646 rfl (lv_at hl 3 rfl) ?_
  refine lv_iconst (v := 1) hx hb dL_law_647 (by decide) ?_
  refine lv_iadd hx hb dL_law_648 ?_
  refine va_sld hx hb hX hbl hbA hw.2.2 (sc_in (j := 1) (by decide) (by omega) hL) dL_law_649 ?_
  refine lv_aload_n hx hb dL_law_650 rfl (lv_at hl 0 rfl) ?_
  refine lv_iload_n hx hb dL_law_651 rfl (lv_at hl 3 rfl) ?_
  refine lv_iconst (v := 2) hx hb dL_law_652 (by decide) ?_
  refine lv_iadd hx hb dL_law_653 ?_
  refine va_sld hx hb hX hbl hbA hw.2.2 (sc_in (j := 2) (by decide) (by omega) hL) dL_law_654 ?_
  refine lv_aload_n hx hb dL_law_655 rfl (lv_at hl 0 rfl) ?_
  refine lv_iload_n hx hb dL_law_656 rfl (lv_at hl 3 rfl) ?_
  refine lv_iconst (v := 3) hx hb dL_law_657 (by decide) ?_
  refine lv_iadd hx hb dL_law_658 ?_
  refine va_sld hx hb hX hbl hbA hw.2.2 (sc_in (j := 3) (by decide) (by omega) hL) dL_law_659 ?_
  refine lv_aload_n hx hb dL_law_660 rfl (lv_at hl 0 rfl) ?_
  refine lv_iload_n hx hb dL_law_661 rfl (lv_at hl 3 rfl) ?_
  refine lv_iconst (v := 4) hx hb dL_law_662 (by decide) ?_
  refine lv_iadd hx hb dL_law_663 ?_
  refine va_sld hx hb hX hbl hbA hw.2.2 (sc_in (j := 4) (by decide) (by omega) hL) dL_law_664 ?_
  refine r_backP (va_runV (As := [.int (xs (nI i + 1).toNatClampNeg), .int (xs (nI i + 2).toNatClampNeg), .int (xs (nI i + 3).toNatClampNeg), .int (xs (nI i + 4).toNatClampNeg)]) (rest := [.int r]) ⟨hx, hb, C0.2.2.2.1, C0.2.2.2.2.1, C0.2.2.2.2.2.1⟩ (tX10_stroke l E am zx (xs (nI i + 1).toNatClampNeg) (xs (nI i + 2).toNatClampNeg) (xs (nI i + 3).toNatClampNeg) (xs (nI i + 4).toNatClampNeg) h2 H.size) (cwV 4 C0.2.2.2.2.2.1 gL_X10_stroke rfl rfl rfl (by decide +kernel) ⟨Nat.le_of_ble_eq_true rfl, Nat.le_of_ble_eq_true rfl⟩) ⟨PG_blind, va_recv hA.2.2.1.1 hw.1 (ci := 10) (q0 := 50) rfl rfl, pg_at hA hw [50, 51, 52, 53, 54, 55, 56, 57, 58, 59, 60, 61, 62, 63, 64, 65, 66, 67, 68, 69, 70, 71, 72, 73, 74, 75, 76, 77, 78, 79, 80, 81, 82, 83, 84, 85, 86] rfl (lcM E ad am zt zs zg zh zu zl zc zw zx)⟩ rfl rfl hl.1 rfl (lv_room (Nat.le_of_ble_eq_true rfl)) dL_law_665 ⟨by show _ ≤ 600000; omega, by show _ ≤ 7302250; omega⟩) hA hw [50, 51, 52, 53, 54, 55, 56, 57, 58, 59, 60, 61, 62, 63, 64, 65, 66, 67, 68, 69, 70, 71, 72, 73, 74, 75, 76, 77, 78, 79, 80, 81, 82, 83, 84, 85, 86] [0, 1, 2, 3, 4, 5, 6, 7, 8, 9, 10, 11, 12, 13, 14, 15, 16, 17, 18, 19, 20, 21, 22, 23, 24, 25, 26, 27, 28, 29, 30, 31, 32, 33, 34, 35, 36, 37, 38, 39, 40, 41, 42, 43, 44, 45, 46, 47, 48, 49] (lcM E ad am zt zs zg zh zu zl zc zw zx) (lcX E ad am zt zs zg zh zu zl zc zw zx) rfl (by decide) (fun H locs hw => ?_)
  refine lv_icmp_eq (tgt := 888) hx hb dL_law_668 (by decide) (fun c1 => ?_) (fun c1 => absurd rfl c1)
  refine lv_iinc (v := nI (i + 6)) (lv' := [(3, .int (nI (i + 6))), (0, .ref b), (1, .ref (ad 0)), (2, .ref (am 0))]) hx hb dL_law_888 hl (k := 3) rfl (nI_add i 6) (by decide) rfl (fun ls hl => ?_)
  refine lv_goto (tgt := 18) hx hb dL_law_891 (by decide) ?_
  exact ih _ zt zs zg zh zu zl zc zw zx _ _ _ hR hw (lv_sub hl [1, 2, 3, 0] rfl)
set_option maxRecDepth 20000 in
theorem gL_X9_turned : GoodIn lw_tbl (wsV RL 83 RX9 yX9_turned wsX9_turned) := goodIn_sub (by decide +kernel) (by decide +kernel)
set_option maxRecDepth 20000 in
theorem gL_X10_turned : GoodIn lw_tbl (wsV RL 87 RX10 yX10_turned wsX10_turned) := goodIn_sub (by decide +kernel) (by decide +kernel)
set_option maxRecDepth 20000 in
set_option maxHeartbeats 4000000 in
theorem law_c15 {p : Program} {l : Launch} {e : Env} {s : State} {m : MethodId} {below : List Frame} {meth : Method} {c : Code} {b L : Nat} {xs : Nat → Int32} {E : EV} (K0 : LC p s m meth c b L xs E) {am : Nat → Nat} (i k : Nat) (hi : i + 6 ≤ L) (hk : k ≤ 512) (ih : ∀ (ad : Nat → Nat) (zt zs zg zh zu zl zc zw zx : OS) (H : Heap) (locs : List Loc) (ls : Array Slot), Rel zt zs zg zh zu zl zc zw zx → Wd E (LA s) s H locs (wX E ad zt zs zg zh zu zl zc zw ++ wM E am zx) → lv_has ls 4 [(0, .ref b), (1, .ref (ad 0)), (2, .ref (am 0)), (3, .int (nI (i + 6)))] → W p l e room_1 s m #[Value.ref b] below meth c H locs (90 + 2 * (k + 1)) (150000 + 13 * (k + 1)) (lw_Z below #[Value.ref b] s) (F0 m 18 ls [])) (ad : Nat → Nat) (zt zs zg zh zu zl zc zw zx : OS) (H : Heap) (locs : List Loc) (ls : Array Slot) (hR : Rel zt zs zg zh zu zl zc zw zx) (hw : Wd E (LA s) s H locs (wX E ad zt zs zg zh zu zl zc zw ++ wM E am zx)) (hl : lv_has ls 4 [(0, .ref b), (1, .ref (ad 0)), (2, .ref (am 0)), (3, .int (nI i))]) : W p l e room_1 s m #[Value.ref b] below meth c H locs (90 + 2 * k) (150000 + 13 * k) (lw_Z below #[Value.ref b] s) (F0 m 673 ls []) := by
  obtain ⟨C0, hA, hX, hbl, hL⟩ := K0
  have hx := C0.1
  have hb := C0.2.1
  have hbA : ¬ LA s b := fun z => Nat.not_le.mpr hbl z
  refine lv_aload_n hx hb dL_law_673 rfl (lv_at hl 1 rfl) ?_
  refine lv_aload_n hx hb dL_law_674 rfl (lv_at hl 0 rfl) ?_
  refine lv_iload_n hx hb dL_law_675 rfl (lv_at hl 3 rfl) ?_
  refine lv_iconst (v := 1) hx hb dL_law_676 (by decide) ?_
  refine lv_iadd hx hb dL_law_677 ?_
  refine va_sld hx hb hX hbl hbA hw.2.2 (sc_in (j := 1) (by decide) (by omega) hL) dL_law_678 ?_
  refine lv_i2l hx hb dL_law_679 rfl ?_
  refine lv_bipush (v := 32) hx hb dL_law_680 (by decide) ?_
  refine lv_lshl hx hb dL_law_682 rfl ?_
  refine lv_aload_n hx hb dL_law_683 rfl (lv_at hl 0 rfl) ?_
  refine lv_iload_n hx hb dL_law_684 rfl (lv_at hl 3 rfl) ?_
  refine lv_iconst (v := 2) hx hb dL_law_685 (by decide) ?_
  refine lv_iadd hx hb dL_law_686 ?_
  refine va_sld hx hb hX hbl hbA hw.2.2 (sc_in (j := 2) (by decide) (by omega) hL) dL_law_687 ?_
  refine lv_i2l hx hb dL_law_688 rfl ?_
  refine lv_ldc2 (v := 4294967295) hx hb C0.2.2.2.2.1 (C0.2.2.2.2.2.1 (.constantLong RL 13 4294967295) (by decide +kernel)) dL_law_689 ?_
  refine lv_land hx hb dL_law_692 ?_
  refine lv_lor hx hb dL_law_693 ?_
  refine lv_aload_n hx hb dL_law_694 rfl (lv_at hl 0 rfl) ?_
  refine lv_iload_n hx hb dL_law_695 rfl (lv_at hl 3 rfl) ?_
  refine lv_iconst (v := 3) hx hb dL_law_696 (by decide) ?_
  refine lv_iadd hx hb dL_law_697 ?_
  refine va_sld hx hb hX hbl hbA hw.2.2 (sc_in (j := 3) (by decide) (by omega) hL) dL_law_698 ?_
  refine lv_i2l hx hb dL_law_699 rfl ?_
  refine lv_bipush (v := 32) hx hb dL_law_700 (by decide) ?_
  refine lv_lshl hx hb dL_law_702 rfl ?_
  refine lv_aload_n hx hb dL_law_703 rfl (lv_at hl 0 rfl) ?_
  refine lv_iload_n hx hb dL_law_704 rfl (lv_at hl 3 rfl) ?_
  refine lv_iconst (v := 4) hx hb dL_law_705 (by decide) ?_
  refine lv_iadd hx hb dL_law_706 ?_
  refine va_sld hx hb hX hbl hbA hw.2.2 (sc_in (j := 4) (by decide) (by omega) hL) dL_law_707 ?_
  refine lv_i2l hx hb dL_law_708 rfl ?_
  refine lv_ldc2 (v := 4294967295) hx hb C0.2.2.2.2.1 (C0.2.2.2.2.2.1 (.constantLong RL 13 4294967295) (by decide +kernel)) dL_law_709 ?_
  refine lv_land hx hb dL_law_712 ?_
  refine lv_lor hx hb dL_law_713 ?_
  refine lv_aload_n hx hb dL_law_714 rfl (lv_at hl 0 rfl) ?_
  refine lv_iload_n hx hb dL_law_715 rfl (lv_at hl 3 rfl) ?_
  refine lv_iconst (v := 5) hx hb dL_law_716 (by decide) ?_
  refine lv_iadd hx hb dL_law_717 ?_
  refine va_sld hx hb hX hbl hbA hw.2.2 (sc_in (j := 5) (by decide) (by omega) hL) dL_law_718 ?_
  obtain ⟨F1, F2, r, h1, h2, hR⟩ := R_turned hR ((((xs (nI i + 1).toNatClampNeg).toInt64) <<< ((32 : Int32).toInt64 &&& 63)) ||| (((xs (nI i + 2).toNatClampNeg).toInt64) &&& 4294967295)) ((((xs (nI i + 3).toNatClampNeg).toInt64) <<< ((32 : Int32).toInt64 &&& 63)) ||| (((xs (nI i + 4).toNatClampNeg).toInt64) &&& 4294967295)) (xs (nI i + 5).toNatClampNeg)
  refine r_backP (va_runV (As := [.long ((((xs (nI i + 1).toNatClampNeg).toInt64) <<< ((32 : Int32).toInt64 &&& 63)) ||| (((xs (nI i + 2).toNatClampNeg).toInt64) &&& 4294967295)), .long ((((xs (nI i + 3).toNatClampNeg).toInt64) <<< ((32 : Int32).toInt64 &&& 63)) ||| (((xs (nI i + 4).toNatClampNeg).toInt64) &&& 4294967295)), .int (xs (nI i + 5).toNatClampNeg)]) (rest := []) ⟨hx, hb, C0.2.2.2.1, C0.2.2.2.2.1, C0.2.2.2.2.2.1⟩ (tX9_turned l E ad F1 zt zs zg zh zu zl zc zw ((((xs (nI i + 1).toNatClampNeg).toInt64) <<< ((32 : Int32).toInt64 &&& 63)) ||| (((xs (nI i + 2).toNatClampNeg).toInt64) &&& 4294967295)) ((((xs (nI i + 3).toNatClampNeg).toInt64) <<< ((32 : Int32).toInt64 &&& 63)) ||| (((xs (nI i + 4).toNatClampNeg).toInt64) &&& 4294967295)) (xs (nI i + 5).toNatClampNeg) h1 H.size) (cwV 3 C0.2.2.2.2.2.1 gL_X9_turned rfl rfl rfl (by decide +kernel) ⟨Nat.le_of_ble_eq_true rfl, Nat.le_of_ble_eq_true rfl⟩) ⟨PG_blind, va_recv hA.2.2.1.1 hw.1 (ci := 9) (q0 := 0) rfl rfl, pg_at hA hw [0, 1, 2, 3, 4, 5, 6, 7, 8, 9, 10, 11, 12, 13, 14, 15, 16, 17, 18, 19, 20, 21, 22, 23, 24, 25, 26, 27, 28, 29, 30, 31, 32, 33, 34, 35, 36, 37, 38, 39, 40, 41, 42, 43, 44, 45, 46, 47, 48, 49] rfl (lcX E ad am zt zs zg zh zu zl zc zw zx)⟩ rfl rfl hl.1 rfl (lv_room (Nat.le_of_ble_eq_true rfl)) dL_law_719 ⟨by show _ ≤ 600000; omega, by show _ ≤ 7302250; omega⟩) hA hw [0, 1, 2, 3, 4, 5, 6, 7, 8, 9, 10, 11, 12, 13, 14, 15, 16, 17, 18, 19, 20, 21, 22, 23, 24, 25, 26, 27, 28, 29, 30, 31, 32, 33, 34, 35, 36, 37, 38, 39, 40, 41, 42, 43, 44, 45, 46, 47, 48, 49] [50, 51, 52, 53, 54, 55, 56, 57, 58, 59, 60, 61, 62, 63, 64, 65, 66, 67, 68, 69, 70, 71, 72, 73, 74, 75, 76, 77, 78, 79, 80, 81, 82, 83, 84, 85, 86] (lcX E ad am zt zs zg zh zu zl zc zw zx) (lcM E ad am zt zs zg zh zu zl zc zw zx) rfl (by decide) (fun H locs hw => ?_)
  have hw := lj1 hw
  refine W.widen (k := 90 + 2 * (k + 1)) (n := 150000 + 13 * (k + 1)) (by omega) (by omega) ?_
  refine lv_aload_n hx hb dL_law_722 rfl (lv_at hl 2 rfl) ?_
  refine lv_aload_n hx hb dL_law_723 rfl (lv_at hl 0 rfl) ?_
  refine lv_iload_n hx hb dL_law_724 rfl (lv_at hl 3 rfl) ?_
  refine lv_iconst (v := 1) hx hb dL_law_725 (by decide) ?_
  refine lv_iadd hx hb dL_law_726 ?_
  refine va_sld hx hb hX hbl hbA hw.2.2 (sc_in (j := 1) (by decide) (by omega) hL) dL_law_727 ?_
  refine lv_i2l hx hb dL_law_728 rfl ?_
  refine lv_bipush (v := 32) hx hb dL_law_729 (by decide) ?_
  refine lv_lshl hx hb dL_law_731 rfl ?_
  refine lv_aload_n hx hb dL_law_732 rfl (lv_at hl 0 rfl) ?_
  refine lv_iload_n hx hb dL_law_733 rfl (lv_at hl 3 rfl) ?_
  refine lv_iconst (v := 2) hx hb dL_law_734 (by decide) ?_
  refine lv_iadd hx hb dL_law_735 ?_
  refine va_sld hx hb hX hbl hbA hw.2.2 (sc_in (j := 2) (by decide) (by omega) hL) dL_law_736 ?_
  refine lv_i2l hx hb dL_law_737 rfl ?_
  refine lv_ldc2 (v := 4294967295) hx hb C0.2.2.2.2.1 (C0.2.2.2.2.2.1 (.constantLong RL 13 4294967295) (by decide +kernel)) dL_law_738 ?_
  refine lv_land hx hb dL_law_741 ?_
  refine lv_lor hx hb dL_law_742 ?_
  refine lv_aload_n hx hb dL_law_743 rfl (lv_at hl 0 rfl) ?_
  refine lv_iload_n hx hb dL_law_744 rfl (lv_at hl 3 rfl) ?_
  refine lv_iconst (v := 3) hx hb dL_law_745 (by decide) ?_
  refine lv_iadd hx hb dL_law_746 ?_
  refine va_sld hx hb hX hbl hbA hw.2.2 (sc_in (j := 3) (by decide) (by omega) hL) dL_law_747 ?_
  refine lv_i2l hx hb dL_law_748 rfl ?_
  refine lv_bipush (v := 32) hx hb dL_law_749 (by decide) ?_
  refine lv_lshl hx hb dL_law_751 rfl ?_
  refine lv_aload_n hx hb dL_law_752 rfl (lv_at hl 0 rfl) ?_
  refine lv_iload_n hx hb dL_law_753 rfl (lv_at hl 3 rfl) ?_
  refine lv_iconst (v := 4) hx hb dL_law_754 (by decide) ?_
  refine lv_iadd hx hb dL_law_755 ?_
  refine va_sld hx hb hX hbl hbA hw.2.2 (sc_in (j := 4) (by decide) (by omega) hL) dL_law_756 ?_
  refine lv_i2l hx hb dL_law_757 rfl ?_
  refine lv_ldc2 (v := 4294967295) hx hb C0.2.2.2.2.1 (C0.2.2.2.2.2.1 (.constantLong RL 13 4294967295) (by decide +kernel)) dL_law_758 ?_
  refine lv_land hx hb dL_law_761 ?_
  refine lv_lor hx hb dL_law_762 ?_
  refine lv_aload_n hx hb dL_law_763 rfl (lv_at hl 0 rfl) ?_
  refine lv_iload_n hx hb dL_law_764 rfl (lv_at hl 3 rfl) ?_
  refine lv_iconst (v := 5) hx hb dL_law_765 (by decide) ?_
  refine lv_iadd hx hb dL_law_766 ?_
  refine va_sld hx hb hX hbl hbA hw.2.2 (sc_in (j := 5) (by decide) (by omega) hL) dL_law_767 ?_
  refine r_backP (va_runV (As := [.long ((((xs (nI i + 1).toNatClampNeg).toInt64) <<< ((32 : Int32).toInt64 &&& 63)) ||| (((xs (nI i + 2).toNatClampNeg).toInt64) &&& 4294967295)), .long ((((xs (nI i + 3).toNatClampNeg).toInt64) <<< ((32 : Int32).toInt64 &&& 63)) ||| (((xs (nI i + 4).toNatClampNeg).toInt64) &&& 4294967295)), .int (xs (nI i + 5).toNatClampNeg)]) (rest := [.int r]) ⟨hx, hb, C0.2.2.2.1, C0.2.2.2.2.1, C0.2.2.2.2.2.1⟩ (tX10_turned l E am F2 zx ((((xs (nI i + 1).toNatClampNeg).toInt64) <<< ((32 : Int32).toInt64 &&& 63)) ||| (((xs (nI i + 2).toNatClampNeg).toInt64) &&& 4294967295)) ((((xs (nI i + 3).toNatClampNeg).toInt64) <<< ((32 : Int32).toInt64 &&& 63)) ||| (((xs (nI i + 4).toNatClampNeg).toInt64) &&& 4294967295)) (xs (nI i + 5).toNatClampNeg) h2 H.size) (cwV 3 C0.2.2.2.2.2.1 gL_X10_turned rfl rfl rfl (by decide +kernel) ⟨Nat.le_of_ble_eq_true rfl, Nat.le_of_ble_eq_true rfl⟩) ⟨PG_blind, va_recv hA.2.2.1.1 hw.1 (ci := 10) (q0 := 50) rfl rfl, pg_at hA hw [50, 51, 52, 53, 54, 55, 56, 57, 58, 59, 60, 61, 62, 63, 64, 65, 66, 67, 68, 69, 70, 71, 72, 73, 74, 75, 76, 77, 78, 79, 80, 81, 82, 83, 84, 85, 86] rfl (lcM E ad am zt zs zg zh zu zl zc zw zx)⟩ rfl rfl hl.1 rfl (lv_room (Nat.le_of_ble_eq_true rfl)) dL_law_768 ⟨by show _ ≤ 600000; omega, by show _ ≤ 7302250; omega⟩) hA hw [50, 51, 52, 53, 54, 55, 56, 57, 58, 59, 60, 61, 62, 63, 64, 65, 66, 67, 68, 69, 70, 71, 72, 73, 74, 75, 76, 77, 78, 79, 80, 81, 82, 83, 84, 85, 86] [0, 1, 2, 3, 4, 5, 6, 7, 8, 9, 10, 11, 12, 13, 14, 15, 16, 17, 18, 19, 20, 21, 22, 23, 24, 25, 26, 27, 28, 29, 30, 31, 32, 33, 34, 35, 36, 37, 38, 39, 40, 41, 42, 43, 44, 45, 46, 47, 48, 49] (lcM E ad am zt zs zg zh zu zl zc zw zx) (lcX E ad am zt zs zg zh zu zl zc zw zx) rfl (by decide) (fun H locs hw => ?_)
  refine lv_icmp_eq (tgt := 888) hx hb dL_law_771 (by decide) (fun c1 => ?_) (fun c1 => absurd rfl c1)
  refine lv_iinc (v := nI (i + 6)) (lv' := [(3, .int (nI (i + 6))), (0, .ref b), (1, .ref (ad 0)), (2, .ref (am 0))]) hx hb dL_law_888 hl (k := 3) rfl (nI_add i 6) (by decide) rfl (fun ls hl => ?_)
  refine lv_goto (tgt := 18) hx hb dL_law_891 (by decide) ?_
  exact ih _ zt zs zg zh zu zl zc zw zx _ _ _ hR hw (lv_sub hl [1, 2, 3, 0] rfl)
set_option maxRecDepth 20000 in
theorem gL_X9_place : GoodIn lw_tbl (wsV RL 88 RX9 yX9_place wsX9_place) := goodIn_sub (by decide +kernel) (by decide +kernel)
set_option maxRecDepth 20000 in
theorem gL_X10_place : GoodIn lw_tbl (wsV RL 91 RX10 yX10_place wsX10_place) := goodIn_sub (by decide +kernel) (by decide +kernel)
set_option maxRecDepth 20000 in
set_option maxHeartbeats 4000000 in
theorem law_c16 {p : Program} {l : Launch} {e : Env} {s : State} {m : MethodId} {below : List Frame} {meth : Method} {c : Code} {b L : Nat} {xs : Nat → Int32} {E : EV} (K0 : LC p s m meth c b L xs E) {am : Nat → Nat} (i k : Nat) (hi : i + 6 ≤ L) (hk : k ≤ 512) (ih : ∀ (ad : Nat → Nat) (zt zs zg zh zu zl zc zw zx : OS) (H : Heap) (locs : List Loc) (ls : Array Slot), Rel zt zs zg zh zu zl zc zw zx → Wd E (LA s) s H locs (wX E ad zt zs zg zh zu zl zc zw ++ wM E am zx) → lv_has ls 4 [(0, .ref b), (1, .ref (ad 0)), (2, .ref (am 0)), (3, .int (nI (i + 6)))] → W p l e room_1 s m #[Value.ref b] below meth c H locs (90 + 2 * (k + 1)) (150000 + 13 * (k + 1)) (lw_Z below #[Value.ref b] s) (F0 m 18 ls [])) (ad : Nat → Nat) (zt zs zg zh zu zl zc zw zx : OS) (H : Heap) (locs : List Loc) (ls : Array Slot) (hR : Rel zt zs zg zh zu zl zc zw zx) (hw : Wd E (LA s) s H locs (wX E ad zt zs zg zh zu zl zc zw ++ wM E am zx)) (hl : lv_has ls 4 [(0, .ref b), (1, .ref (ad 0)), (2, .ref (am 0)), (3, .int (nI i))]) : W p l e room_1 s m #[Value.ref b] below meth c H locs (90 + 2 * k) (150000 + 13 * k) (lw_Z below #[Value.ref b] s) (F0 m 776 ls []) := by
  obtain ⟨C0, hA, hX, hbl, hL⟩ := K0
  have hx := C0.1
  have hb := C0.2.1
  have hbA : ¬ LA s b := fun z => Nat.not_le.mpr hbl z
  refine lv_aload_n hx hb dL_law_776 rfl (lv_at hl 1 rfl) ?_
  refine lv_aload_n hx hb dL_law_777 rfl (lv_at hl 0 rfl) ?_
  refine lv_iload_n hx hb dL_law_778 rfl (lv_at hl 3 rfl) ?_
  refine lv_iconst (v := 1) hx hb dL_law_779 (by decide) ?_
  refine lv_iadd hx hb dL_law_780 ?_
  refine va_sld hx hb hX hbl hbA hw.2.2 (sc_in (j := 1) (by decide) (by omega) hL) dL_law_781 ?_
  refine lv_aload_n hx hb dL_law_782 rfl (lv_at hl 0 rfl) ?_
  refine lv_iload_n hx hb dL_law_783 rfl (lv_at hl 3 rfl) ?_
  refine lv_iconst (v := 2) hx hb dL_law_784 (by decide) ?_
  refine lv_iadd hx hb dL_law_785 ?_
  refine va_sld hx hb hX hbl hbA hw.2.2 (sc_in (j := 2) (by decide) (by omega) hL) dL_law_786 ?_
  obtain ⟨F1, F2, r, zw1, zx1, h1, h2, hR⟩ := R_place hR (xs (nI i + 1).toNatClampNeg) (xs (nI i + 2).toNatClampNeg)
  refine r_backP (va_runV (As := [.int (xs (nI i + 1).toNatClampNeg), .int (xs (nI i + 2).toNatClampNeg)]) (rest := []) ⟨hx, hb, C0.2.2.2.1, C0.2.2.2.2.1, C0.2.2.2.2.2.1⟩ (tX9_place l E ad F1 zt zs zg zh zu zl zc zw (xs (nI i + 1).toNatClampNeg) (xs (nI i + 2).toNatClampNeg) h1 H.size) (cwV 2 C0.2.2.2.2.2.1 gL_X9_place rfl rfl rfl (by decide +kernel) ⟨Nat.le_of_ble_eq_true rfl, Nat.le_of_ble_eq_true rfl⟩) ⟨PG_blind, va_recv hA.2.2.1.1 hw.1 (ci := 9) (q0 := 0) rfl rfl, pg_at hA hw [0, 1, 2, 3, 4, 5, 6, 7, 8, 9, 10, 11, 12, 13, 14, 15, 16, 17, 18, 19, 20, 21, 22, 23, 24, 25, 26, 27, 28, 29, 30, 31, 32, 33, 34, 35, 36, 37, 38, 39, 40, 41, 42, 43, 44, 45, 46, 47, 48, 49] rfl (lcX E ad am zt zs zg zh zu zl zc zw zx)⟩ rfl rfl hl.1 rfl (lv_room (Nat.le_of_ble_eq_true rfl)) dL_law_787 ⟨by show _ ≤ 600000; omega, by show _ ≤ 7302250; omega⟩) hA hw [0, 1, 2, 3, 4, 5, 6, 7, 8, 9, 10, 11, 12, 13, 14, 15, 16, 17, 18, 19, 20, 21, 22, 23, 24, 25, 26, 27, 28, 29, 30, 31, 32, 33, 34, 35, 36, 37, 38, 39, 40, 41, 42, 43, 44, 45, 46, 47, 48, 49] [50, 51, 52, 53, 54, 55, 56, 57, 58, 59, 60, 61, 62, 63, 64, 65, 66, 67, 68, 69, 70, 71, 72, 73, 74, 75, 76, 77, 78, 79, 80, 81, 82, 83, 84, 85, 86] (lcX E ad am zt zs zg zh zu zl zc zw zx) (lcM E ad am zt zs zg zh zu zl zc zw zx) rfl (by decide) (fun H locs hw => ?_)
  have hw := lj1 hw
  refine W.widen (k := 90 + 2 * (k + 1)) (n := 150000 + 13 * (k + 1)) (by omega) (by omega) ?_
  refine lv_aload_n hx hb dL_law_790 rfl (lv_at hl 2 rfl) ?_
  refine lv_aload_n hx hb dL_law_791 rfl (lv_at hl 0 rfl) ?_
  refine lv_iload_n hx hb dL_law_792 rfl (lv_at hl 3 rfl) ?_
  refine lv_iconst (v := 1) hx hb dL_law_793 (by decide) ?_
  refine lv_iadd hx hb dL_law_794 ?_
  refine va_sld hx hb hX hbl hbA hw.2.2 (sc_in (j := 1) (by decide) (by omega) hL) dL_law_795 ?_
  refine lv_aload_n hx hb dL_law_796 rfl (lv_at hl 0 rfl) ?_
  refine lv_iload_n hx hb dL_law_797 rfl (lv_at hl 3 rfl) ?_
  refine lv_iconst (v := 2) hx hb dL_law_798 (by decide) ?_
  refine lv_iadd hx hb dL_law_799 ?_
  refine va_sld hx hb hX hbl hbA hw.2.2 (sc_in (j := 2) (by decide) (by omega) hL) dL_law_800 ?_
  refine r_backP (va_runV (As := [.int (xs (nI i + 1).toNatClampNeg), .int (xs (nI i + 2).toNatClampNeg)]) (rest := [.int r]) ⟨hx, hb, C0.2.2.2.1, C0.2.2.2.2.1, C0.2.2.2.2.2.1⟩ (tX10_place l E am F2 zx (xs (nI i + 1).toNatClampNeg) (xs (nI i + 2).toNatClampNeg) h2 H.size) (cwV 2 C0.2.2.2.2.2.1 gL_X10_place rfl rfl rfl (by decide +kernel) ⟨Nat.le_of_ble_eq_true rfl, Nat.le_of_ble_eq_true rfl⟩) ⟨PG_blind, va_recv hA.2.2.1.1 hw.1 (ci := 10) (q0 := 50) rfl rfl, pg_at hA hw [50, 51, 52, 53, 54, 55, 56, 57, 58, 59, 60, 61, 62, 63, 64, 65, 66, 67, 68, 69, 70, 71, 72, 73, 74, 75, 76, 77, 78, 79, 80, 81, 82, 83, 84, 85, 86] rfl (lcM E ad am zt zs zg zh zu zl zc zw1 zx)⟩ rfl rfl hl.1 rfl (lv_room (Nat.le_of_ble_eq_true rfl)) dL_law_801 ⟨by show _ ≤ 600000; omega, by show _ ≤ 7302250; omega⟩) hA hw [50, 51, 52, 53, 54, 55, 56, 57, 58, 59, 60, 61, 62, 63, 64, 65, 66, 67, 68, 69, 70, 71, 72, 73, 74, 75, 76, 77, 78, 79, 80, 81, 82, 83, 84, 85, 86] [0, 1, 2, 3, 4, 5, 6, 7, 8, 9, 10, 11, 12, 13, 14, 15, 16, 17, 18, 19, 20, 21, 22, 23, 24, 25, 26, 27, 28, 29, 30, 31, 32, 33, 34, 35, 36, 37, 38, 39, 40, 41, 42, 43, 44, 45, 46, 47, 48, 49] (lcM E ad am zt zs zg zh zu zl zc zw1 zx) (lcX E ad am zt zs zg zh zu zl zc zw1 zx) rfl (by decide) (fun H locs hw => ?_)
  refine lv_icmp_eq (tgt := 888) hx hb dL_law_804 (by decide) (fun c1 => ?_) (fun c1 => absurd rfl c1)
  refine lv_iinc (v := nI (i + 6)) (lv' := [(3, .int (nI (i + 6))), (0, .ref b), (1, .ref (ad 0)), (2, .ref (am 0))]) hx hb dL_law_888 hl (k := 3) rfl (nI_add i 6) (by decide) rfl (fun ls hl => ?_)
  refine lv_goto (tgt := 18) hx hb dL_law_891 (by decide) ?_
  exact ih _ zt zs zg zh zu zl zc zw1 zx1 _ _ _ hR hw (lv_sub hl [1, 2, 3, 0] rfl)
set_option maxRecDepth 20000 in
theorem gL_X9_form : GoodIn lw_tbl (wsV RL 92 RX9 yX9_form wsX9_form) := goodIn_sub (by decide +kernel) (by decide +kernel)
set_option maxRecDepth 20000 in
theorem gL_X10_form : GoodIn lw_tbl (wsV RL 96 RX10 yX10_form wsX10_form) := goodIn_sub (by decide +kernel) (by decide +kernel)
set_option maxRecDepth 20000 in
set_option maxHeartbeats 4000000 in
theorem law_c17 {p : Program} {l : Launch} {e : Env} {s : State} {m : MethodId} {below : List Frame} {meth : Method} {c : Code} {b L : Nat} {xs : Nat → Int32} {E : EV} (K0 : LC p s m meth c b L xs E) {am : Nat → Nat} (i k : Nat) (hi : i + 6 ≤ L) (hk : k ≤ 512) (ih : ∀ (ad : Nat → Nat) (zt zs zg zh zu zl zc zw zx : OS) (H : Heap) (locs : List Loc) (ls : Array Slot), Rel zt zs zg zh zu zl zc zw zx → Wd E (LA s) s H locs (wX E ad zt zs zg zh zu zl zc zw ++ wM E am zx) → lv_has ls 4 [(0, .ref b), (1, .ref (ad 0)), (2, .ref (am 0)), (3, .int (nI (i + 6)))] → W p l e room_1 s m #[Value.ref b] below meth c H locs (90 + 2 * (k + 1)) (150000 + 13 * (k + 1)) (lw_Z below #[Value.ref b] s) (F0 m 18 ls [])) (ad : Nat → Nat) (zt zs zg zh zu zl zc zw zx : OS) (H : Heap) (locs : List Loc) (ls : Array Slot) (hR : Rel zt zs zg zh zu zl zc zw zx) (hw : Wd E (LA s) s H locs (wX E ad zt zs zg zh zu zl zc zw ++ wM E am zx)) (hl : lv_has ls 4 [(0, .ref b), (1, .ref (ad 0)), (2, .ref (am 0)), (3, .int (nI i))]) : W p l e room_1 s m #[Value.ref b] below meth c H locs (90 + 2 * k) (150000 + 13 * k) (lw_Z below #[Value.ref b] s) (F0 m 809 ls []) := by
  obtain ⟨C0, hA, hX, hbl, hL⟩ := K0
  have hx := C0.1
  have hb := C0.2.1
  have hbA : ¬ LA s b := fun z => Nat.not_le.mpr hbl z
  refine lv_aload_n hx hb dL_law_809 rfl (lv_at hl 1 rfl) ?_
  refine lv_aload_n hx hb dL_law_810 rfl (lv_at hl 0 rfl) ?_
  refine lv_iload_n hx hb dL_law_811 rfl (lv_at hl 3 rfl) ?_
  refine lv_iconst (v := 1) hx hb dL_law_812 (by decide) ?_
  refine lv_iadd hx hb dL_law_813 ?_
  refine va_sld hx hb hX hbl hbA hw.2.2 (sc_in (j := 1) (by decide) (by omega) hL) dL_law_814 ?_
  refine lv_aload_n hx hb dL_law_815 rfl (lv_at hl 0 rfl) ?_
  refine lv_iload_n hx hb dL_law_816 rfl (lv_at hl 3 rfl) ?_
  refine lv_iconst (v := 2) hx hb dL_law_817 (by decide) ?_
  refine lv_iadd hx hb dL_law_818 ?_
  refine va_sld hx hb hX hbl hbA hw.2.2 (sc_in (j := 2) (by decide) (by omega) hL) dL_law_819 ?_
  refine lv_aload_n hx hb dL_law_820 rfl (lv_at hl 0 rfl) ?_
  refine lv_iload_n hx hb dL_law_821 rfl (lv_at hl 3 rfl) ?_
  refine lv_iconst (v := 3) hx hb dL_law_822 (by decide) ?_
  refine lv_iadd hx hb dL_law_823 ?_
  refine va_sld hx hb hX hbl hbA hw.2.2 (sc_in (j := 3) (by decide) (by omega) hL) dL_law_824 ?_
  obtain ⟨F1, F2, r, h1, h2, hR⟩ := R_form hR (xs (nI i + 1).toNatClampNeg) (xs (nI i + 2).toNatClampNeg) (xs (nI i + 3).toNatClampNeg)
  refine r_backP (va_runV (As := [.int (xs (nI i + 1).toNatClampNeg), .int (xs (nI i + 2).toNatClampNeg), .int (xs (nI i + 3).toNatClampNeg)]) (rest := []) ⟨hx, hb, C0.2.2.2.1, C0.2.2.2.2.1, C0.2.2.2.2.2.1⟩ (tX9_form l E ad zt zs zg zh zu zl zc zw (xs (nI i + 1).toNatClampNeg) (xs (nI i + 2).toNatClampNeg) (xs (nI i + 3).toNatClampNeg) h1 H.size) (cwV 3 C0.2.2.2.2.2.1 gL_X9_form rfl rfl rfl (by decide +kernel) ⟨Nat.le_of_ble_eq_true rfl, Nat.le_of_ble_eq_true rfl⟩) ⟨PG_blind, va_recv hA.2.2.1.1 hw.1 (ci := 9) (q0 := 0) rfl rfl, pg_at hA hw [0, 1, 2, 3, 4, 5, 6, 7, 8, 9, 10, 11, 12, 13, 14, 15, 16, 17, 18, 19, 20, 21, 22, 23, 24, 25, 26, 27, 28, 29, 30, 31, 32, 33, 34, 35, 36, 37, 38, 39, 40, 41, 42, 43, 44, 45, 46, 47, 48, 49] rfl (lcX E ad am zt zs zg zh zu zl zc zw zx)⟩ rfl rfl hl.1 rfl (lv_room (Nat.le_of_ble_eq_true rfl)) dL_law_825 ⟨by show _ ≤ 600000; omega, by show _ ≤ 7302250; omega⟩) hA hw [0, 1, 2, 3, 4, 5, 6, 7, 8, 9, 10, 11, 12, 13, 14, 15, 16, 17, 18, 19, 20, 21, 22, 23, 24, 25, 26, 27, 28, 29, 30, 31, 32, 33, 34, 35, 36, 37, 38, 39, 40, 41, 42, 43, 44, 45, 46, 47, 48, 49] [50, 51, 52, 53, 54, 55, 56, 57, 58, 59, 60, 61, 62, 63, 64, 65, 66, 67, 68, 69, 70, 71, 72, 73, 74, 75, 76, 77, 78, 79, 80, 81, 82, 83, 84, 85, 86] (lcX E ad am zt zs zg zh zu zl zc zw zx) (lcM E ad am zt zs zg zh zu zl zc zw zx) rfl (by decide) (fun H locs hw => ?_)
  have hw := lj1 hw
  refine W.widen (k := 90 + 2 * (k + 1)) (n := 150000 + 13 * (k + 1)) (by omega) (by omega) ?_
  refine lv_aload_n hx hb dL_law_828 rfl (lv_at hl 2 rfl) ?_
  refine lv_aload_n hx hb dL_law_829 rfl (lv_at hl 0 rfl) ?_
  refine lv_iload_n hx hb dL_law_830 rfl (lv_at hl 3 rfl) ?_
  refine lv_iconst (v := 1) hx hb dL_law_831 (by decide) ?_
  refine lv_iadd hx hb dL_law_832 ?_
  refine va_sld hx hb hX hbl hbA hw.2.2 (sc_in (j := 1) (by decide) (by omega) hL) dL_law_833 ?_
  refine lv_aload_n hx hb dL_law_834 rfl (lv_at hl 0 rfl) ?_
  refine lv_iload_n hx hb dL_law_835 rfl (lv_at hl 3 rfl) ?_
  refine lv_iconst (v := 2) hx hb dL_law_836 (by decide) ?_
  refine lv_iadd hx hb dL_law_837 ?_
  refine va_sld hx hb hX hbl hbA hw.2.2 (sc_in (j := 2) (by decide) (by omega) hL) dL_law_838 ?_
  refine lv_aload_n hx hb dL_law_839 rfl (lv_at hl 0 rfl) ?_
  refine lv_iload_n hx hb dL_law_840 rfl (lv_at hl 3 rfl) ?_
  refine lv_iconst (v := 3) hx hb dL_law_841 (by decide) ?_
  refine lv_iadd hx hb dL_law_842 ?_
  refine va_sld hx hb hX hbl hbA hw.2.2 (sc_in (j := 3) (by decide) (by omega) hL) dL_law_843 ?_
  refine r_backP (va_runV (As := [.int (xs (nI i + 1).toNatClampNeg), .int (xs (nI i + 2).toNatClampNeg), .int (xs (nI i + 3).toNatClampNeg)]) (rest := [.int r]) ⟨hx, hb, C0.2.2.2.1, C0.2.2.2.2.1, C0.2.2.2.2.2.1⟩ (tX10_form l E am zx (xs (nI i + 1).toNatClampNeg) (xs (nI i + 2).toNatClampNeg) (xs (nI i + 3).toNatClampNeg) h2 H.size) (cwV 3 C0.2.2.2.2.2.1 gL_X10_form rfl rfl rfl (by decide +kernel) ⟨Nat.le_of_ble_eq_true rfl, Nat.le_of_ble_eq_true rfl⟩) ⟨PG_blind, va_recv hA.2.2.1.1 hw.1 (ci := 10) (q0 := 50) rfl rfl, pg_at hA hw [50, 51, 52, 53, 54, 55, 56, 57, 58, 59, 60, 61, 62, 63, 64, 65, 66, 67, 68, 69, 70, 71, 72, 73, 74, 75, 76, 77, 78, 79, 80, 81, 82, 83, 84, 85, 86] rfl (lcM E ad am zt zs zg zh zu zl zc zw zx)⟩ rfl rfl hl.1 rfl (lv_room (Nat.le_of_ble_eq_true rfl)) dL_law_844 ⟨by show _ ≤ 600000; omega, by show _ ≤ 7302250; omega⟩) hA hw [50, 51, 52, 53, 54, 55, 56, 57, 58, 59, 60, 61, 62, 63, 64, 65, 66, 67, 68, 69, 70, 71, 72, 73, 74, 75, 76, 77, 78, 79, 80, 81, 82, 83, 84, 85, 86] [0, 1, 2, 3, 4, 5, 6, 7, 8, 9, 10, 11, 12, 13, 14, 15, 16, 17, 18, 19, 20, 21, 22, 23, 24, 25, 26, 27, 28, 29, 30, 31, 32, 33, 34, 35, 36, 37, 38, 39, 40, 41, 42, 43, 44, 45, 46, 47, 48, 49] (lcM E ad am zt zs zg zh zu zl zc zw zx) (lcX E ad am zt zs zg zh zu zl zc zw zx) rfl (by decide) (fun H locs hw => ?_)
  refine lv_icmp_eq (tgt := 888) hx hb dL_law_847 (by decide) (fun c1 => ?_) (fun c1 => absurd rfl c1)
  refine lv_iinc (v := nI (i + 6)) (lv' := [(3, .int (nI (i + 6))), (0, .ref b), (1, .ref (ad 0)), (2, .ref (am 0))]) hx hb dL_law_888 hl (k := 3) rfl (nI_add i 6) (by decide) rfl (fun ls hl => ?_)
  refine lv_goto (tgt := 18) hx hb dL_law_891 (by decide) ?_
  exact ih _ zt zs zg zh zu zl zc zw zx _ _ _ hR hw (lv_sub hl [1, 2, 3, 0] rfl)
set_option maxRecDepth 20000 in
theorem gL_X9_doubled : GoodIn lw_tbl (wsV RL 97 RX9 yX9_doubled wsX9_doubled) := goodIn_sub (by decide +kernel) (by decide +kernel)
set_option maxRecDepth 20000 in
theorem gL_X10_doubled : GoodIn lw_tbl (wsV RL 100 RX10 yX10_doubled wsX10_doubled) := goodIn_sub (by decide +kernel) (by decide +kernel)
set_option maxRecDepth 20000 in
set_option maxHeartbeats 4000000 in
theorem law_c18 {p : Program} {l : Launch} {e : Env} {s : State} {m : MethodId} {below : List Frame} {meth : Method} {c : Code} {b L : Nat} {xs : Nat → Int32} {E : EV} (K0 : LC p s m meth c b L xs E) {am : Nat → Nat} (i k : Nat) (hi : i + 6 ≤ L) (hk : k ≤ 512) (ih : ∀ (ad : Nat → Nat) (zt zs zg zh zu zl zc zw zx : OS) (H : Heap) (locs : List Loc) (ls : Array Slot), Rel zt zs zg zh zu zl zc zw zx → Wd E (LA s) s H locs (wX E ad zt zs zg zh zu zl zc zw ++ wM E am zx) → lv_has ls 4 [(0, .ref b), (1, .ref (ad 0)), (2, .ref (am 0)), (3, .int (nI (i + 6)))] → W p l e room_1 s m #[Value.ref b] below meth c H locs (90 + 2 * (k + 1)) (150000 + 13 * (k + 1)) (lw_Z below #[Value.ref b] s) (F0 m 18 ls [])) (ad : Nat → Nat) (zt zs zg zh zu zl zc zw zx : OS) (H : Heap) (locs : List Loc) (ls : Array Slot) (hR : Rel zt zs zg zh zu zl zc zw zx) (hw : Wd E (LA s) s H locs (wX E ad zt zs zg zh zu zl zc zw ++ wM E am zx)) (hl : lv_has ls 4 [(0, .ref b), (1, .ref (ad 0)), (2, .ref (am 0)), (3, .int (nI i))]) : W p l e room_1 s m #[Value.ref b] below meth c H locs (90 + 2 * k) (150000 + 13 * k) (lw_Z below #[Value.ref b] s) (F0 m 852 ls []) := by
  obtain ⟨C0, hA, hX, hbl, hL⟩ := K0
  have hx := C0.1
  have hb := C0.2.1
  have hbA : ¬ LA s b := fun z => Nat.not_le.mpr hbl z
  refine lv_aload_n hx hb dL_law_852 rfl (lv_at hl 1 rfl) ?_
  obtain ⟨F1, F2, r, h1, h2, hR⟩ := R_doubled hR 
  refine r_backP (va_runV (As := []) (rest := []) ⟨hx, hb, C0.2.2.2.1, C0.2.2.2.2.1, C0.2.2.2.2.2.1⟩ (tX9_doubled l E ad F1 zt zs zg zh zu zl zc zw  h1 H.size) (cwV 0 C0.2.2.2.2.2.1 gL_X9_doubled rfl rfl rfl (by decide +kernel) ⟨Nat.le_of_ble_eq_true rfl, Nat.le_of_ble_eq_true rfl⟩) ⟨PG_blind, va_recv hA.2.2.1.1 hw.1 (ci := 9) (q0 := 0) rfl rfl, pg_at hA hw [0, 1, 2, 3, 4, 5, 6, 7, 8, 9, 10, 11, 12, 13, 14, 15, 16, 17, 18, 19, 20, 21, 22, 23, 24, 25, 26, 27, 28, 29, 30, 31, 32, 33, 34, 35, 36, 37, 38, 39, 40, 41, 42, 43, 44, 45, 46, 47, 48, 49] rfl (lcX E ad am zt zs zg zh zu zl zc zw zx)⟩ rfl rfl hl.1 rfl (lv_room (Nat.le_of_ble_eq_true rfl)) dL_law_853 ⟨by show _ ≤ 600000; omega, by show _ ≤ 7302250; omega⟩) hA hw [0, 1, 2, 3, 4, 5, 6, 7, 8, 9, 10, 11, 12, 13, 14, 15, 16, 17, 18, 19, 20, 21, 22, 23, 24, 25, 26, 27, 28, 29, 30, 31, 32, 33, 34, 35, 36, 37, 38, 39, 40, 41, 42, 43, 44, 45, 46, 47, 48, 49] [50, 51, 52, 53, 54, 55, 56, 57, 58, 59, 60, 61, 62, 63, 64, 65, 66, 67, 68, 69, 70, 71, 72, 73, 74, 75, 76, 77, 78, 79, 80, 81, 82, 83, 84, 85, 86] (lcX E ad am zt zs zg zh zu zl zc zw zx) (lcM E ad am zt zs zg zh zu zl zc zw zx) rfl (by decide) (fun H locs hw => ?_)
  have hw := lj1 hw
  refine W.widen (k := 90 + 2 * (k + 1)) (n := 150000 + 13 * (k + 1)) (by omega) (by omega) ?_
  refine lv_aload_n hx hb dL_law_856 rfl (lv_at hl 2 rfl) ?_
  refine r_backP (va_runV (As := []) (rest := [.int r]) ⟨hx, hb, C0.2.2.2.1, C0.2.2.2.2.1, C0.2.2.2.2.2.1⟩ (tX10_doubled l E am F2 zx  h2 H.size) (cwV 0 C0.2.2.2.2.2.1 gL_X10_doubled rfl rfl rfl (by decide +kernel) ⟨Nat.le_of_ble_eq_true rfl, Nat.le_of_ble_eq_true rfl⟩) ⟨PG_blind, va_recv hA.2.2.1.1 hw.1 (ci := 10) (q0 := 50) rfl rfl, pg_at hA hw [50, 51, 52, 53, 54, 55, 56, 57, 58, 59, 60, 61, 62, 63, 64, 65, 66, 67, 68, 69, 70, 71, 72, 73, 74, 75, 76, 77, 78, 79, 80, 81, 82, 83, 84, 85, 86] rfl (lcM E ad am zt zs zg zh zu zl zc zw zx)⟩ rfl rfl hl.1 rfl (lv_room (Nat.le_of_ble_eq_true rfl)) dL_law_857 ⟨by show _ ≤ 600000; omega, by show _ ≤ 7302250; omega⟩) hA hw [50, 51, 52, 53, 54, 55, 56, 57, 58, 59, 60, 61, 62, 63, 64, 65, 66, 67, 68, 69, 70, 71, 72, 73, 74, 75, 76, 77, 78, 79, 80, 81, 82, 83, 84, 85, 86] [0, 1, 2, 3, 4, 5, 6, 7, 8, 9, 10, 11, 12, 13, 14, 15, 16, 17, 18, 19, 20, 21, 22, 23, 24, 25, 26, 27, 28, 29, 30, 31, 32, 33, 34, 35, 36, 37, 38, 39, 40, 41, 42, 43, 44, 45, 46, 47, 48, 49] (lcM E ad am zt zs zg zh zu zl zc zw zx) (lcX E ad am zt zs zg zh zu zl zc zw zx) rfl (by decide) (fun H locs hw => ?_)
  refine lv_icmp_eq (tgt := 888) hx hb dL_law_860 (by decide) (fun c1 => ?_) (fun c1 => absurd rfl c1)
  refine lv_iinc (v := nI (i + 6)) (lv' := [(3, .int (nI (i + 6))), (0, .ref b), (1, .ref (ad 0)), (2, .ref (am 0))]) hx hb dL_law_888 hl (k := 3) rfl (nI_add i 6) (by decide) rfl (fun ls hl => ?_)
  refine lv_goto (tgt := 18) hx hb dL_law_891 (by decide) ?_
  exact ih _ zt zs zg zh zu zl zc zw zx _ _ _ hR hw (lv_sub hl [1, 2, 3, 0] rfl)
set_option maxRecDepth 20000 in
theorem gL_X9_told : GoodIn lw_tbl (wsV RL 101 RX9 yX9_told wsX9_told) := goodIn_sub (by decide +kernel) (by decide +kernel)
set_option maxRecDepth 20000 in
theorem gL_X10_told : GoodIn lw_tbl (wsV RL 104 RX10 yX10_told wsX10_told) := goodIn_sub (by decide +kernel) (by decide +kernel)
set_option maxRecDepth 20000 in
set_option maxHeartbeats 4000000 in
theorem law_c19 {p : Program} {l : Launch} {e : Env} {s : State} {m : MethodId} {below : List Frame} {meth : Method} {c : Code} {b L : Nat} {xs : Nat → Int32} {E : EV} (K0 : LC p s m meth c b L xs E) {am : Nat → Nat} (i k : Nat) (hi : i + 6 ≤ L) (hk : k ≤ 512) (ih : ∀ (ad : Nat → Nat) (zt zs zg zh zu zl zc zw zx : OS) (H : Heap) (locs : List Loc) (ls : Array Slot), Rel zt zs zg zh zu zl zc zw zx → Wd E (LA s) s H locs (wX E ad zt zs zg zh zu zl zc zw ++ wM E am zx) → lv_has ls 4 [(0, .ref b), (1, .ref (ad 0)), (2, .ref (am 0)), (3, .int (nI (i + 6)))] → W p l e room_1 s m #[Value.ref b] below meth c H locs (90 + 2 * (k + 1)) (150000 + 13 * (k + 1)) (lw_Z below #[Value.ref b] s) (F0 m 18 ls [])) (ad : Nat → Nat) (zt zs zg zh zu zl zc zw zx : OS) (H : Heap) (locs : List Loc) (ls : Array Slot) (hR : Rel zt zs zg zh zu zl zc zw zx) (hw : Wd E (LA s) s H locs (wX E ad zt zs zg zh zu zl zc zw ++ wM E am zx)) (hl : lv_has ls 4 [(0, .ref b), (1, .ref (ad 0)), (2, .ref (am 0)), (3, .int (nI i))]) : W p l e room_1 s m #[Value.ref b] below meth c H locs (90 + 2 * k) (150000 + 13 * k) (lw_Z below #[Value.ref b] s) (F0 m 865 ls []) := by
  obtain ⟨C0, hA, hX, hbl, hL⟩ := K0
  have hx := C0.1
  have hb := C0.2.1
  have hbA : ¬ LA s b := fun z => Nat.not_le.mpr hbl z
  refine lv_aload_n hx hb dL_law_865 rfl (lv_at hl 1 rfl) ?_
  refine lv_aload_n hx hb dL_law_866 rfl (lv_at hl 0 rfl) ?_
  refine lv_iload_n hx hb dL_law_867 rfl (lv_at hl 3 rfl) ?_
  refine lv_iconst (v := 1) hx hb dL_law_868 (by decide) ?_
  refine lv_iadd hx hb dL_law_869 ?_
  refine va_sld hx hb hX hbl hbA hw.2.2 (sc_in (j := 1) (by decide) (by omega) hL) dL_law_870 ?_
  obtain ⟨F1, F2, r, h1, h2, hR⟩ := R_told hR (xs (nI i + 1).toNatClampNeg)
  refine r_backP (va_runV (As := [.int (xs (nI i + 1).toNatClampNeg)]) (rest := []) ⟨hx, hb, C0.2.2.2.1, C0.2.2.2.2.1, C0.2.2.2.2.2.1⟩ (tX9_told l E ad zt zs zg zh zu zl zc zw (xs (nI i + 1).toNatClampNeg) h1 H.size) (cwV 1 C0.2.2.2.2.2.1 gL_X9_told rfl rfl rfl (by decide +kernel) ⟨Nat.le_of_ble_eq_true rfl, Nat.le_of_ble_eq_true rfl⟩) ⟨PG_blind, va_recv hA.2.2.1.1 hw.1 (ci := 9) (q0 := 0) rfl rfl, pg_at hA hw [0, 1, 2, 3, 4, 5, 6, 7, 8, 9, 10, 11, 12, 13, 14, 15, 16, 17, 18, 19, 20, 21, 22, 23, 24, 25, 26, 27, 28, 29, 30, 31, 32, 33, 34, 35, 36, 37, 38, 39, 40, 41, 42, 43, 44, 45, 46, 47, 48, 49] rfl (lcX E ad am zt zs zg zh zu zl zc zw zx)⟩ rfl rfl hl.1 rfl (lv_room (Nat.le_of_ble_eq_true rfl)) dL_law_871 ⟨by show _ ≤ 600000; omega, by show _ ≤ 7302250; omega⟩) hA hw [0, 1, 2, 3, 4, 5, 6, 7, 8, 9, 10, 11, 12, 13, 14, 15, 16, 17, 18, 19, 20, 21, 22, 23, 24, 25, 26, 27, 28, 29, 30, 31, 32, 33, 34, 35, 36, 37, 38, 39, 40, 41, 42, 43, 44, 45, 46, 47, 48, 49] [50, 51, 52, 53, 54, 55, 56, 57, 58, 59, 60, 61, 62, 63, 64, 65, 66, 67, 68, 69, 70, 71, 72, 73, 74, 75, 76, 77, 78, 79, 80, 81, 82, 83, 84, 85, 86] (lcX E ad am zt zs zg zh zu zl zc zw zx) (lcM E ad am zt zs zg zh zu zl zc zw zx) rfl (by decide) (fun H locs hw => ?_)
  have hw := lj1 hw
  refine W.widen (k := 90 + 2 * (k + 1)) (n := 150000 + 13 * (k + 1)) (by omega) (by omega) ?_
  refine lv_aload_n hx hb dL_law_874 rfl (lv_at hl 2 rfl) ?_
  refine lv_aload_n hx hb dL_law_875 rfl (lv_at hl 0 rfl) ?_
  refine lv_iload_n hx hb dL_law_876 rfl (lv_at hl 3 rfl) ?_
  refine lv_iconst (v := 1) hx hb dL_law_877 (by decide) ?_
  refine lv_iadd hx hb dL_law_878 ?_
  refine va_sld hx hb hX hbl hbA hw.2.2 (sc_in (j := 1) (by decide) (by omega) hL) dL_law_879 ?_
  refine r_backP (va_runV (As := [.int (xs (nI i + 1).toNatClampNeg)]) (rest := [.int r]) ⟨hx, hb, C0.2.2.2.1, C0.2.2.2.2.1, C0.2.2.2.2.2.1⟩ (tX10_told l E am zx (xs (nI i + 1).toNatClampNeg) h2 H.size) (cwV 1 C0.2.2.2.2.2.1 gL_X10_told rfl rfl rfl (by decide +kernel) ⟨Nat.le_of_ble_eq_true rfl, Nat.le_of_ble_eq_true rfl⟩) ⟨PG_blind, va_recv hA.2.2.1.1 hw.1 (ci := 10) (q0 := 50) rfl rfl, pg_at hA hw [50, 51, 52, 53, 54, 55, 56, 57, 58, 59, 60, 61, 62, 63, 64, 65, 66, 67, 68, 69, 70, 71, 72, 73, 74, 75, 76, 77, 78, 79, 80, 81, 82, 83, 84, 85, 86] rfl (lcM E ad am zt zs zg zh zu zl zc zw zx)⟩ rfl rfl hl.1 rfl (lv_room (Nat.le_of_ble_eq_true rfl)) dL_law_880 ⟨by show _ ≤ 600000; omega, by show _ ≤ 7302250; omega⟩) hA hw [50, 51, 52, 53, 54, 55, 56, 57, 58, 59, 60, 61, 62, 63, 64, 65, 66, 67, 68, 69, 70, 71, 72, 73, 74, 75, 76, 77, 78, 79, 80, 81, 82, 83, 84, 85, 86] [0, 1, 2, 3, 4, 5, 6, 7, 8, 9, 10, 11, 12, 13, 14, 15, 16, 17, 18, 19, 20, 21, 22, 23, 24, 25, 26, 27, 28, 29, 30, 31, 32, 33, 34, 35, 36, 37, 38, 39, 40, 41, 42, 43, 44, 45, 46, 47, 48, 49] (lcM E ad am zt zs zg zh zu zl zc zw zx) (lcX E ad am zt zs zg zh zu zl zc zw zx) rfl (by decide) (fun H locs hw => ?_)
  refine lv_icmp_eq (tgt := 888) hx hb dL_law_883 (by decide) (fun c1 => ?_) (fun c1 => absurd rfl c1)
  refine lv_iinc (v := nI (i + 6)) (lv' := [(3, .int (nI (i + 6))), (0, .ref b), (1, .ref (ad 0)), (2, .ref (am 0))]) hx hb dL_law_888 hl (k := 3) rfl (nI_add i 6) (by decide) rfl (fun ls hl => ?_)
  refine lv_goto (tgt := 18) hx hb dL_law_891 (by decide) ?_
  exact ih _ zt zs zg zh zu zl zc zw zx _ _ _ hR hw (lv_sub hl [1, 2, 3, 0] rfl)

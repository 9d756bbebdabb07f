theorem nI_s6 {L i : Nat} (hL : L ≤ 3072) (hi : i ≤ 4000) : (nI L - 6 < nI i) ↔ L < i + 6 := by
  rw [Int32.lt_iff_toInt_lt, show (6 : Int32) = nI 6 from rfl, pk_sub_toInt (by omega) (by omega), nI_toInt (by omega)]
  omega
set_option maxRecDepth 20000 in
set_option maxHeartbeats 4000000 in
theorem law_loop {p : Program} {l : Launch} {e : Env} {s : State} {m : MethodId} {below : List Frame} {meth : Method} {c : Code} {b L : Nat} {xs : Nat → Int32} {E : EV} (K0 : LC p s m meth c b L xs E) {am : Nat → Nat} : ∀ (n i k : Nat) (ad : Nat → Nat) (zt zs zg zh zu zl zc zw zx : OS) (H : Heap) (locs : List Loc) (ls : Array Slot), i = 6 * k → i ≤ L + 6 → L + 6 < i + 6 * n → Rel zt zs zg zh zu zl zc zw zx → Wd E (LA s) s H locs (wX E ad zt zs zg zh zu zl zc zw ++ wM E am zx) → lv_has ls 4 [(0, .ref b), (1, .ref (ad 0)), (2, .ref (am 0)), (3, .int (nI i))] → W p l e room_1 s m #[Value.ref b] below meth c H locs (90 + 2 * k) (150000 + 13 * k) (lw_Z below #[Value.ref b] s) (F0 m 18 ls []) := by
  have hx := K0.1.1
  have hb := K0.1.2.1
  have hL := K0.2.2.2.2
  intro n
  induction n with
  | zero =>
    intro i k ad zt zs zg zh zu zl zc zw zx H locs ls h1 h2 h3
    omega
  | succ n ih =>
    intro i k ad zt zs zg zh zu zl zc zw zx H locs ls h1 h2 h3 hR hw hl
    have hbA : ¬ LA s b := fun z => Nat.not_le.mpr K0.2.2.2.1 z
    refine lv_iload_n hx hb dL_law_18 rfl (lv_at hl 3 rfl) ?_
    refine lv_aload_n hx hb dL_law_19 rfl (lv_at hl 0 rfl) ?_
    refine va_slen hx hb K0.2.2.1 K0.2.2.2.1 hbA hw.2.2 dL_law_20 ?_
    refine lv_bipush (v := 6) hx hb dL_law_21 (by decide) ?_
    refine lv_isub hx hb dL_law_23 ?_
    refine lv_icmp_gt (tgt := 894) hx hb dL_law_24 (by decide) (fun c1 => ?_) (fun c1 => ?_)
    · refine lv_iconst (v := 1) hx hb dL_law_894 (by decide) ?_
      refine va_forget (fun q hq => hw.2.2.2.2 q hq) ?_
      refine W.widen (k := 600000) (n := 7302250) (by omega) (by omega) ?_
      exact lw_ret hx hb K0.1.2.2.1 K0.1.2.2.2.2.2.2.1 dL_law_895
    · have hi : i + 6 ≤ L := Nat.not_lt.mp (fun z => c1 ((nI_s6 hL (by omega)).mpr z))
      have hk : k ≤ 512 := by omega
      refine lv_aload_n hx hb dL_law_27 rfl (lv_at hl 0 rfl) ?_
      refine lv_iload_n hx hb dL_law_28 rfl (lv_at hl 3 rfl) ?_
      refine va_sld hx hb K0.2.2.1 K0.2.2.2.1 hbA hw.2.2 (vp_in_nI (show i < L by omega) (by omega)) dL_law_29 ?_
      refine lv_bipush (v := 31) hx hb dL_law_30 (by decide) ?_
      refine lv_iand hx hb dL_law_32 ?_
      refine lv_topi (fun x ex => ?_)
      have ih2 := fun ad zt zs zg zh zu zl zc zw zx H locs ls hR hw hl => ih (i + 6) (k + 1) ad zt zs zg zh zu zl zc zw zx H locs ls (by omega) (by omega) (by omega) hR hw hl
      by_cases e0 : x = 0
      · refine lv_tableIn (tgt := 128) (off := 95) hx hb dL_law_33 (by rw [e0]; decide) (by rw [e0]; decide) (by rw [e0]; decide) (by decide) ?_
        exact law_c0 K0 i k hi hk ih2 ad zt zs zg zh zu zl zc zw zx H locs ls hR hw hl
      by_cases e1 : x = 1
      · refine lv_tableIn (tgt := 181) (off := 148) hx hb dL_law_33 (by rw [e1]; decide) (by rw [e1]; decide) (by rw [e1]; decide) (by decide) ?_
        exact law_c1 K0 i k hi hk ih2 ad zt zs zg zh zu zl zc zw zx H locs ls hR hw hl
      by_cases e2 : x = 2
      · refine lv_tableIn (tgt := 204) (off := 171) hx hb dL_law_33 (by rw [e2]; decide) (by rw [e2]; decide) (by rw [e2]; decide) (by decide) ?_
        exact law_c2 K0 i k hi hk ih2 ad zt zs zg zh zu zl zc zw zx H locs ls hR hw hl
      by_cases e3 : x = 3
      · refine lv_tableIn (tgt := 217) (off := 184) hx hb dL_law_33 (by rw [e3]; decide) (by rw [e3]; decide) (by rw [e3]; decide) (by decide) ?_
        exact law_c3 K0 i k hi hk ih2 ad zt zs zg zh zu zl zc zw zx H locs ls hR hw hl
      by_cases e4 : x = 4
      · refine lv_tableIn (tgt := 250) (off := 217) hx hb dL_law_33 (by rw [e4]; decide) (by rw [e4]; decide) (by rw [e4]; decide) (by decide) ?_
        exact law_c4 K0 i k hi hk ih2 ad zt zs zg zh zu zl zc zw zx H locs ls hR hw hl
      by_cases e5 : x = 5
      · refine lv_tableIn (tgt := 283) (off := 250) hx hb dL_law_33 (by rw [e5]; decide) (by rw [e5]; decide) (by rw [e5]; decide) (by decide) ?_
        exact law_c5 K0 i k hi hk ih2 ad zt zs zg zh zu zl zc zw zx H locs ls hR hw hl
      by_cases e6 : x = 6
      · refine lv_tableIn (tgt := 346) (off := 313) hx hb dL_law_33 (by rw [e6]; decide) (by rw [e6]; decide) (by rw [e6]; decide) (by decide) ?_
        exact law_c6 K0 i k hi hk ih2 ad zt zs zg zh zu zl zc zw zx H locs ls hR hw hl
      by_cases e7 : x = 7
      · refine lv_tableIn (tgt := 359) (off := 326) hx hb dL_law_33 (by rw [e7]; decide) (by rw [e7]; decide) (by rw [e7]; decide) (by decide) ?_
        exact law_c7 K0 i k hi hk ih2 ad zt zs zg zh zu zl zc zw zx H locs ls hR hw hl
      by_cases e8 : x = 8
      · refine lv_tableIn (tgt := 392) (off := 359) hx hb dL_law_33 (by rw [e8]; decide) (by rw [e8]; decide) (by rw [e8]; decide) (by decide) ?_
        exact law_c8 K0 i k hi hk ih2 ad zt zs zg zh zu zl zc zw zx H locs ls hR hw hl
      by_cases e9 : x = 9
      · refine lv_tableIn (tgt := 465) (off := 432) hx hb dL_law_33 (by rw [e9]; decide) (by rw [e9]; decide) (by rw [e9]; decide) (by decide) ?_
        exact law_c9 K0 i k hi hk ih2 ad zt zs zg zh zu zl zc zw zx H locs ls hR hw hl
      by_cases e10 : x = 10
      · refine lv_tableIn (tgt := 488) (off := 455) hx hb dL_law_33 (by rw [e10]; decide) (by rw [e10]; decide) (by rw [e10]; decide) (by decide) ?_
        exact law_c10 K0 i k hi hk ih2 ad zt zs zg zh zu zl zc zw zx H locs ls hR hw hl
      by_cases e11 : x = 11
      · refine lv_tableIn (tgt := 501) (off := 468) hx hb dL_law_33 (by rw [e11]; decide) (by rw [e11]; decide) (by rw [e11]; decide) (by decide) ?_
        exact law_c11 K0 i k hi hk ih2 ad zt zs zg zh zu zl zc zw zx H locs ls hR hw hl
      by_cases e12 : x = 12
      · refine lv_tableIn (tgt := 584) (off := 551) hx hb dL_law_33 (by rw [e12]; decide) (by rw [e12]; decide) (by rw [e12]; decide) (by decide) ?_
        exact law_c12 K0 i k hi hk ih2 ad zt zs zg zh zu zl zc zw zx H locs ls hR hw hl
      by_cases e13 : x = 13
      · refine lv_tableIn (tgt := 607) (off := 574) hx hb dL_law_33 (by rw [e13]; decide) (by rw [e13]; decide) (by rw [e13]; decide) (by decide) ?_
        exact law_c13 K0 i k hi hk ih2 ad zt zs zg zh zu zl zc zw zx H locs ls hR hw hl
      by_cases e14 : x = 14
      · refine lv_tableIn (tgt := 620) (off := 587) hx hb dL_law_33 (by rw [e14]; decide) (by rw [e14]; decide) (by rw [e14]; decide) (by decide) ?_
        exact law_c14 K0 i k hi hk ih2 ad zt zs zg zh zu zl zc zw zx H locs ls hR hw hl
      by_cases e15 : x = 15
      · refine lv_tableIn (tgt := 673) (off := 640) hx hb dL_law_33 (by rw [e15]; decide) (by rw [e15]; decide) (by rw [e15]; decide) (by decide) ?_
        exact law_c15 K0 i k hi hk ih2 ad zt zs zg zh zu zl zc zw zx H locs ls hR hw hl
      by_cases e16 : x = 16
      · refine lv_tableIn (tgt := 776) (off := 743) hx hb dL_law_33 (by rw [e16]; decide) (by rw [e16]; decide) (by rw [e16]; decide) (by decide) ?_
        exact law_c16 K0 i k hi hk ih2 ad zt zs zg zh zu zl zc zw zx H locs ls hR hw hl
      by_cases e17 : x = 17
      · refine lv_tableIn (tgt := 809) (off := 776) hx hb dL_law_33 (by rw [e17]; decide) (by rw [e17]; decide) (by rw [e17]; decide) (by decide) ?_
        exact law_c17 K0 i k hi hk ih2 ad zt zs zg zh zu zl zc zw zx H locs ls hR hw hl
      by_cases e18 : x = 18
      · refine lv_tableIn (tgt := 852) (off := 819) hx hb dL_law_33 (by rw [e18]; decide) (by rw [e18]; decide) (by rw [e18]; decide) (by decide) ?_
        exact law_c18 K0 i k hi hk ih2 ad zt zs zg zh zu zl zc zw zx H locs ls hR hw hl
      by_cases e19 : x = 19
      · refine lv_tableIn (tgt := 865) (off := 832) hx hb dL_law_33 (by rw [e19]; decide) (by rw [e19]; decide) (by rw [e19]; decide) (by decide) ?_
        exact law_c19 K0 i k hi hk ih2 ad zt zs zg zh zu zl zc zw zx H locs ls hR hw hl
      refine lv_tableOut (tgt := 888) hx hb dL_law_33 (by have q0 : x.toInt ≠ 0 := i32_ne e0; have q1 : x.toInt ≠ 1 := i32_ne e1; have q2 : x.toInt ≠ 2 := i32_ne e2; have q3 : x.toInt ≠ 3 := i32_ne e3; have q4 : x.toInt ≠ 4 := i32_ne e4; have q5 : x.toInt ≠ 5 := i32_ne e5; have q6 : x.toInt ≠ 6 := i32_ne e6; have q7 : x.toInt ≠ 7 := i32_ne e7; have q8 : x.toInt ≠ 8 := i32_ne e8; have q9 : x.toInt ≠ 9 := i32_ne e9; have q10 : x.toInt ≠ 10 := i32_ne e10; have q11 : x.toInt ≠ 11 := i32_ne e11; have q12 : x.toInt ≠ 12 := i32_ne e12; have q13 : x.toInt ≠ 13 := i32_ne e13; have q14 : x.toInt ≠ 14 := i32_ne e14; have q15 : x.toInt ≠ 15 := i32_ne e15; have q16 : x.toInt ≠ 16 := i32_ne e16; have q17 : x.toInt ≠ 17 := i32_ne e17; have q18 : x.toInt ≠ 18 := i32_ne e18; have q19 : x.toInt ≠ 19 := i32_ne e19; omega) (by decide) ?_
      refine lv_iinc (v := nI (i + 6)) (lv' := [(3, .int (nI (i + 6))), (0, .ref b), (1, .ref (ad 0)), (2, .ref (am 0))]) hx hb dL_law_888 hl (k := 3) rfl (nI_add i 6) (by decide) rfl (fun ls hl => ?_)
      refine lv_goto (tgt := 18) hx hb dL_law_891 (by decide) ?_
      refine W.widen (k := 90 + 2 * (k + 1)) (n := 150000 + 13 * (k + 1)) (by omega) (by omega) ?_
      exact ih2 ad zt zs zg zh zu zl zc zw zx H locs ls hR hw (lv_sub hl [1, 2, 3, 0] rfl)

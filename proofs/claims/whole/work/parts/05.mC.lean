theorem lkX10_draw_166 : Cond.fieldLink RX10 166 (TX10 26).1 (TX10 26).2.1 (TX10 26).2.2.1 ∈ wsX10_draw := by decide +kernel
theorem hiX10_draw_X10 : ∀ w ∈ u_ws RX10 TX10 53, w ∈ wsX10_draw := by decide +kernel
def mX10_draw_b0  (zx : OS) : Option (Int64 × OS) := nm (sL zx 26 ((zx.2.1 26) + (-7046029254386353131))) (fun zx1 => nm (zx1.2.1 26 : Int64) (fun v2 => nm ((v2 ^^^ (((v2 : Int64).toUInt64 >>> ((30 : Int32).toInt64.toUInt64 &&& Int64.toUInt64 63)).toInt64)) * (-4658895280553007687) : Int64) (fun v3 => nm ((v3 ^^^ (((v3 : Int64).toUInt64 >>> ((27 : Int32).toInt64.toUInt64 &&& Int64.toUInt64 63)).toInt64)) * (-7723592293110705685) : Int64) (fun v4 => some (((v4 ^^^ (((v4 : Int64).toUInt64 >>> ((31 : Int32).toInt64.toUInt64 &&& Int64.toUInt64 63)).toInt64) : Int64).toUInt64 >>> ((1 : Int32).toInt64.toUInt64 &&& Int64.toUInt64 63)).toInt64, zx1)))))
def mX10_draw (zx : OS)  : Option (Int64 × OS) := mX10_draw_b0 zx
set_option maxRecDepth 20000 in
theorem kX10_draw_b0 {p : Program} {l : Launch} {e : Env} {s : State} {m : MethodId} {args : Array Value} {below : List Frame} {meth : Method} {c : Code} {A : Nat → Prop} {E : EV} {ad : Nat → Nat}  {r : Int64} {zx' : OS} (C0 : Cx RX10 "draw" cX10_draw (some .long) 3 wsX10_draw p s m args meth c) (hA : Ax E A s) : ∀ (zx : OS) (H : Heap) (locs : List Loc) (ls : Array Slot), mX10_draw_b0 zx = some (r, zx') → Wd E A s H locs (wM E ad zx) → lv_has ls 3 [(0, .ref (ad 0))] → W p l e ({ frames := 0, cells := 0, slots := 0, locals := 0 } : Room) s m args below meth c H locs 0 0 (MQ below (QG E (Qd (some (.long r)) (wM E ad zx')) A) args s 0 0 A) (F0 m 0 ls []) := by
  have hx := C0.1
  have hb := C0.2.1
  intro zx H locs ls hm hw hl
  unfold mX10_draw_b0 at hm
  refine lv_aload_n hx hb dX10_draw_0 rfl (lv_at hl 0 rfl) ?_
  refine lv_dup hx hb dX10_draw_1 rfl ?_
  refine gM_0_26 C0 hA hw hiX10_draw_X10 lkX10_draw_166 dX10_draw_2 ?_
  refine lv_ldc2 (v := (-7046029254386353131)) hx hb C0.2.2.2.2.1 (C0.2.2.2.2.2.1 (.constantLong RX10 170 (-7046029254386353131)) (by decide +kernel)) dX10_draw_5 ?_
  refine lv_ladd hx hb dX10_draw_8 ?_
  refine pM_0_26 C0 hA hw hiX10_draw_X10 lkX10_draw_166 dX10_draw_9 (fun zx1 ezx1 H locs hw => ?_)
  have hm := nm_at hm ezx1
  refine lv_aload_n hx hb dX10_draw_12 rfl (lv_at hl 0 rfl) ?_
  refine gM_0_26 C0 hA hw hiX10_draw_X10 lkX10_draw_166 dX10_draw_13 ?_
  refine lv_topl (fun v2 ev2 => ?_)
  have hm := nm_at hm ev2
  refine lv_lstore_n (lv' := [(1, .long v2), (0, .ref (ad 0))]) hx hb dX10_draw_16 rfl hl (by decide) rfl (fun ls hl => ?_)
  refine lv_lload_n hx hb dX10_draw_17 rfl (lv_at hl 0 rfl) ?_
  refine lv_lload_n hx hb dX10_draw_18 rfl (lv_at hl 0 rfl) ?_
  refine lv_bipush (v := 30) hx hb dX10_draw_19 (by decide) ?_
  refine lv_lushr hx hb dX10_draw_21 rfl ?_
  refine lv_lxor hx hb dX10_draw_22 ?_
  refine lv_ldc2 (v := (-4658895280553007687)) hx hb C0.2.2.2.2.1 (C0.2.2.2.2.2.1 (.constantLong RX10 172 (-4658895280553007687)) (by decide +kernel)) dX10_draw_23 ?_
  refine lv_lmul hx hb dX10_draw_26 ?_
  refine lv_topl (fun v3 ev3 => ?_)
  have hm := nm_at hm ev3
  refine lv_lstore_n (lv' := [(1, .long v3), (0, .ref (ad 0))]) hx hb dX10_draw_27 rfl hl (by decide) rfl (fun ls hl => ?_)
  refine lv_lload_n hx hb dX10_draw_28 rfl (lv_at hl 0 rfl) ?_
  refine lv_lload_n hx hb dX10_draw_29 rfl (lv_at hl 0 rfl) ?_
  refine lv_bipush (v := 27) hx hb dX10_draw_30 (by decide) ?_
  refine lv_lushr hx hb dX10_draw_32 rfl ?_
  refine lv_lxor hx hb dX10_draw_33 ?_
  refine lv_ldc2 (v := (-7723592293110705685)) hx hb C0.2.2.2.2.1 (C0.2.2.2.2.2.1 (.constantLong RX10 174 (-7723592293110705685)) (by decide +kernel)) dX10_draw_34 ?_
  refine lv_lmul hx hb dX10_draw_37 ?_
  refine lv_topl (fun v4 ev4 => ?_)
  have hm := nm_at hm ev4
  refine lv_lstore_n (lv' := [(1, .long v4), (0, .ref (ad 0))]) hx hb dX10_draw_38 rfl hl (by decide) rfl (fun ls hl => ?_)
  refine lv_lload_n hx hb dX10_draw_39 rfl (lv_at hl 0 rfl) ?_
  refine lv_lload_n hx hb dX10_draw_40 rfl (lv_at hl 0 rfl) ?_
  refine lv_bipush (v := 31) hx hb dX10_draw_41 (by decide) ?_
  refine lv_lushr hx hb dX10_draw_43 rfl ?_
  refine lv_lxor hx hb dX10_draw_44 ?_
  refine lv_iconst (v := 1) hx hb dX10_draw_45 (by decide) ?_
  refine lv_lushr hx hb dX10_draw_46 rfl ?_
  obtain ⟨rfl, rfl⟩ := sj2 hm
  exact r_lret C0 hw dX10_draw_47 ⟨rfl, rfl⟩
theorem tX10_draw (l : Launch) (E : EV) (ad : Nat → Nat) (zx : OS)  {r : Int64} {zx' : OS} (hm : mX10_draw zx = some (r, zx')) : CT l yX10_draw wsX10_draw ({ frames := 0, cells := 0, slots := 0, locals := 0 } : Room) E [.ref (ad 0)] (wM E ad zx) (Qd (some (.long r)) (wM E ad zx')) 0 0 :=
  CT.of (mL := 3) (lvs := [(0, .ref (ad 0))]) (by decide +kernel) rfl (Nat.le_of_ble_eq_true rfl) rfl rfl rfl (fun p e s m below meth c A C0 hA hw ls hl => kX10_draw_b0 (ad := ad) C0 hA zx _ _ _ hm hw (lv_sub hl [0] rfl))
def mX10_drawBelow_b18 (F : Nat)  : Nat → OS → Int32 → Int64 → Int64 → Option (Int32 × OS)
  | 0, _, _, _, _ => none
  | n + 1, zx, a1, a2, a4 => (if (lg_cmp a4 (9223372036854775807 - a2) : Int32) ≤ 0 then nzl ((a1 : Int32).toInt64) (some ((a4 - a4 / ((a1 : Int32).toInt64) * ((a1 : Int32).toInt64) : Int64).toInt32, zx)) else b2 (mX10_draw zx) (fun r3 zx4 => mX10_drawBelow_b18 F n zx4 a1 a2 r3))
def mX10_drawBelow_b0 (F : Nat)  (zx : OS) (a1 : Int32) : Option (Int32 × OS) := nzl ((a1 : Int32).toInt64) (nzl ((a1 : Int32).toInt64) (nm (((9223372036854775807 - 9223372036854775807 / ((a1 : Int32).toInt64) * ((a1 : Int32).toInt64)) + 1) - ((9223372036854775807 - 9223372036854775807 / ((a1 : Int32).toInt64) * ((a1 : Int32).toInt64)) + 1) / ((a1 : Int32).toInt64) * ((a1 : Int32).toInt64) : Int64) (fun v3 => b2 (mX10_draw zx) (fun r4 zx5 => mX10_drawBelow_b18 F F zx5 a1 v3 r4))))
def mX10_drawBelow (F : Nat) (zx : OS) (a1 : Int32) : Option (Int32 × OS) := mX10_drawBelow_b0 F zx a1
set_option maxRecDepth 20000 in
theorem kX10_drawBelow_b18 {p : Program} {l : Launch} {e : Env} {s : State} {m : MethodId} {args : Array Value} {below : List Frame} {meth : Method} {c : Code} {A : Nat → Prop} {E : EV} {ad : Nat → Nat} (F : Nat)  {r : Int32} {zx' : OS} (C0 : Cx RX10 "drawBelow" cX10_drawBelow (some .int) 6 wsX10_drawBelow p s m args meth c) (hA : Ax E A s) : ∀ (n : Nat) (zx : OS) (a1 : Int32) (a2 : Int64) (a4 : Int64) (H : Heap) (locs : List Loc) (ls : Array Slot), mX10_drawBelow_b18 F n zx a1 a2 a4 = some (r, zx') → Wd E A s H locs (wM E ad zx) → lv_has ls 6 [(0, .ref (ad 0)), (1, .int a1), (2, .long a2), (4, .long a4)] → W p l e ({ frames := 1, cells := 0, slots := 0, locals := 22 } : Room) s m args below meth c H locs 0 0 (MQ below (QG E (Qd (some (.int r)) (wM E ad zx')) A) args s 0 0 A) (F0 m 18 ls []) := by
  have hx := C0.1
  have hb := C0.2.1
  intro n
  induction n with
  | zero =>
    intro zx a1 a2 a4 H locs ls hm
    cases hm
  | succ n ih =>
    intro zx a1 a2 a4 H locs ls hm hw hl
    unfold mX10_drawBelow_b18 at hm
    refine lv_lload hx hb dX10_drawBelow_18 (lv_at hl 3 rfl) ?_
    refine lv_ldc2 (v := 9223372036854775807) hx hb C0.2.2.2.2.1 (C0.2.2.2.2.2.1 (.constantLong RX10 176 9223372036854775807) (by decide +kernel)) dX10_drawBelow_20 ?_
    refine lv_lload_n hx hb dX10_drawBelow_23 rfl (lv_at hl 2 rfl) ?_
    refine lv_lsub hx hb dX10_drawBelow_24 ?_
    refine W.lcmp hx hb dX10_drawBelow_25 ?_
    refine lv_if_le (tgt := 38) hx hb dX10_drawBelow_26 (by decide) (fun c1 => ?_) (fun c1 => ?_)
    · have hm := Eq.trans (if_pos c1).symm hm
      refine lv_lload hx hb dX10_drawBelow_38 (lv_at hl 3 rfl) ?_
      refine lv_iload_n hx hb dX10_drawBelow_40 rfl (lv_at hl 1 rfl) ?_
      refine lv_i2l hx hb dX10_drawBelow_41 rfl ?_
      obtain ⟨c2, hm⟩ := nzl_some hm
      refine lv_lrem hx hb dX10_drawBelow_42 c2 ?_
      refine lv_l2i hx hb dX10_drawBelow_43 rfl ?_
      obtain ⟨rfl, rfl⟩ := sj2 hm
      exact r_iret C0 hw dX10_drawBelow_44 ⟨rfl, rfl⟩
    · have hm := Eq.trans (if_neg c1).symm hm
      refine lv_aload_n hx hb dX10_drawBelow_29 rfl (lv_at hl 0 rfl) ?_
      obtain ⟨r3, zx4, h5, hm⟩ := b2_some hm
      refine r_backS (va_runV (As := []) (rest := []) ⟨hx, hb, C0.2.2.2.1, C0.2.2.2.2.1, C0.2.2.2.2.2.1⟩ (tX10_draw l E ad zx h5 H.size) (cwV 0 C0.2.2.2.2.2.1 gX10_drawBelow_X10_draw rfl rfl rfl (by decide +kernel) ⟨Nat.le_of_ble_eq_true rfl, Nat.le_of_ble_eq_true rfl⟩) ⟨PG_blind, va_recv hA.2.2.1.1 hw.1 (ci := 10) (q0 := 0) rfl rfl, pg_self hA hw⟩ rfl rfl hl.1 rfl (lv_room (Nat.le_of_ble_eq_true rfl)) dX10_drawBelow_30 ⟨Nat.zero_le _, Nat.zero_le _⟩) hA hw (fun H locs hw => ?_)
      refine lv_lstore (lv' := [(4, .long r3), (0, .ref (ad 0)), (1, .int a1), (2, .long a2)]) hx hb dX10_drawBelow_33 hl (by decide) rfl (fun ls hl => ?_)
      refine lv_goto (tgt := 18) hx hb dX10_drawBelow_35 (by decide) ?_
      exact ih zx4 a1 a2 r3 _ _ _ hm hw (lv_sub hl [1, 2, 3, 0] rfl)
set_option maxRecDepth 20000 in
theorem kX10_drawBelow_b0 {p : Program} {l : Launch} {e : Env} {s : State} {m : MethodId} {args : Array Value} {below : List Frame} {meth : Method} {c : Code} {A : Nat → Prop} {E : EV} {ad : Nat → Nat} (F : Nat)  {r : Int32} {zx' : OS} (C0 : Cx RX10 "drawBelow" cX10_drawBelow (some .int) 6 wsX10_drawBelow p s m args meth c) (hA : Ax E A s) : ∀ (zx : OS) (a1 : Int32) (H : Heap) (locs : List Loc) (ls : Array Slot), mX10_drawBelow_b0 F zx a1 = some (r, zx') → Wd E A s H locs (wM E ad zx) → lv_has ls 6 [(0, .ref (ad 0)), (1, .int a1)] → W p l e ({ frames := 1, cells := 0, slots := 0, locals := 22 } : Room) s m args below meth c H locs 0 0 (MQ below (QG E (Qd (some (.int r)) (wM E ad zx')) A) args s 0 0 A) (F0 m 0 ls []) := by
  have hx := C0.1
  have hb := C0.2.1
  intro zx a1 H locs ls hm hw hl
  unfold mX10_drawBelow_b0 at hm
  refine lv_ldc2 (v := 9223372036854775807) hx hb C0.2.2.2.2.1 (C0.2.2.2.2.2.1 (.constantLong RX10 176 9223372036854775807) (by decide +kernel)) dX10_drawBelow_0 ?_
  refine lv_iload_n hx hb dX10_drawBelow_3 rfl (lv_at hl 1 rfl) ?_
  refine lv_i2l hx hb dX10_drawBelow_4 rfl ?_
  obtain ⟨c1, hm⟩ := nzl_some hm
  refine lv_lrem hx hb dX10_drawBelow_5 c1 ?_
  refine lv_lconst (v := 1) hx hb dX10_drawBelow_6 (by decide) ?_
  refine lv_ladd hx hb dX10_drawBelow_7 ?_
  refine lv_iload_n hx hb dX10_drawBelow_8 rfl (lv_at hl 1 rfl) ?_
  refine lv_i2l hx hb dX10_drawBelow_9 rfl ?_
  obtain ⟨c2, hm⟩ := nzl_some hm
  refine lv_lrem hx hb dX10_drawBelow_10 c2 ?_
  refine lv_topl (fun v3 ev3 => ?_)
  have hm := nm_at hm ev3
  refine lv_lstore_n (lv' := [(2, .long v3), (0, .ref (ad 0)), (1, .int a1)]) hx hb dX10_drawBelow_11 rfl hl (by decide) rfl (fun ls hl => ?_)
  refine lv_aload_n hx hb dX10_drawBelow_12 rfl (lv_at hl 1 rfl) ?_
  obtain ⟨r4, zx5, h6, hm⟩ := b2_some hm
  refine r_backS (va_runV (As := []) (rest := []) ⟨hx, hb, C0.2.2.2.1, C0.2.2.2.2.1, C0.2.2.2.2.2.1⟩ (tX10_draw l E ad zx h6 H.size) (cwV 0 C0.2.2.2.2.2.1 gX10_drawBelow_X10_draw rfl rfl rfl (by decide +kernel) ⟨Nat.le_of_ble_eq_true rfl, Nat.le_of_ble_eq_true rfl⟩) ⟨PG_blind, va_recv hA.2.2.1.1 hw.1 (ci := 10) (q0 := 0) rfl rfl, pg_self hA hw⟩ rfl rfl hl.1 rfl (lv_room (Nat.le_of_ble_eq_true rfl)) dX10_drawBelow_13 ⟨Nat.zero_le _, Nat.zero_le _⟩) hA hw (fun H locs hw => ?_)
  refine lv_lstore (lv' := [(4, .long r4), (2, .long v3), (0, .ref (ad 0)), (1, .int a1)]) hx hb dX10_drawBelow_16 hl (by decide) rfl (fun ls hl => ?_)
  exact kX10_drawBelow_b18 F C0 hA F zx5 a1 v3 r4 _ _ _ hm hw (lv_sub hl [2, 3, 1, 0] rfl)
theorem tX10_drawBelow (l : Launch) (E : EV) (ad : Nat → Nat) (F : Nat) (zx : OS) (a1 : Int32) {r : Int32} {zx' : OS} (hm : mX10_drawBelow F zx a1 = some (r, zx')) : CT l yX10_drawBelow wsX10_drawBelow ({ frames := 1, cells := 0, slots := 0, locals := 22 } : Room) E [.ref (ad 0), .int a1] (wM E ad zx) (Qd (some (.int r)) (wM E ad zx')) 0 0 :=
  CT.of (mL := 6) (lvs := [(0, .ref (ad 0)), (1, .int a1)]) (by decide +kernel) rfl (Nat.le_of_ble_eq_true rfl) rfl rfl rfl (fun p e s m below meth c A C0 hA hw ls hl => kX10_drawBelow_b0 (ad := ad) F C0 hA zx a1 _ _ _ hm hw (lv_sub hl [0, 1] rfl))
theorem lkX10_below_166 : Cond.fieldLink RX10 166 (TX10 26).1 (TX10 26).2.1 (TX10 26).2.2.1 ∈ wsX10_below := by decide +kernel
theorem hiX10_below_X10 : ∀ w ∈ u_ws RX10 TX10 53, w ∈ wsX10_below := by decide +kernel
def mX10_below_b36 (F : Nat)  : Nat → OS → Int32 → Int32 → Int32 → Int32 → Option (Int32 × OS)
  | 0, _, _, _, _, _ => none
  | n + 1, zx, a3, a4, a5, a6 => (if a4 ≤ (a6 : Int32) then some (a5, zx) else b2 (mX10_drawBelow F zx a3) (fun r2 zx3 => nm (a6 + 1 : Int32) (fun v5 => mX10_below_b36 F n zx3 a3 a4 r2 v5)))
def mX10_below_b0 (F : Nat)  (zx : OS) (a1 : Int64) (a3 : Int32) (a4 : Int32) : Option (Int32 × OS) := (if (a3 : Int32) < 1 then some ((-2), zx) else (if (a4 : Int32) < 0 then some ((-2), zx) else (if (a4 : Int32) ≤ 1000 then nm (sL zx 26 a1) (fun zx4 => b2 (mX10_drawBelow F zx4 a3) (fun r5 zx6 => nm (0 : Int32) (fun v8 => mX10_below_b36 F F zx6 a3 a4 r5 v8))) else some ((-2), zx))))
def mX10_below (F : Nat) (zx : OS) (a1 : Int64) (a3 : Int32) (a4 : Int32) : Option (Int32 × OS) := mX10_below_b0 F zx a1 a3 a4
set_option maxRecDepth 20000 in
theorem kX10_below_b36 {p : Program} {l : Launch} {e : Env} {s : State} {m : MethodId} {args : Array Value} {below : List Frame} {meth : Method} {c : Code} {A : Nat → Prop} {E : EV} {ad : Nat → Nat} (F : Nat)  {r : Int32} {zx' : OS} (C0 : Cx RX10 "below" cX10_below (some .int) 7 wsX10_below p s m args meth c) (hA : Ax E A s) : ∀ (n : Nat) (zx : OS) (a3 : Int32) (a4 : Int32) (a5 : Int32) (a6 : Int32) (H : Heap) (locs : List Loc) (ls : Array Slot), mX10_below_b36 F n zx a3 a4 a5 a6 = some (r, zx') → Wd E A s H locs (wM E ad zx) → lv_has ls 7 [(0, .ref (ad 0)), (3, .int a3), (4, .int a4), (5, .int a5), (6, .int a6)] → W p l e ({ frames := 2, cells := 0, slots := 0, locals := 47 } : Room) s m args below meth c H locs 0 0 (MQ below (QG E (Qd (some (.int r)) (wM E ad zx')) A) args s 0 0 A) (F0 m 36 ls []) := by
  have hx := C0.1
  have hb := C0.2.1
  intro n
  induction n with
  | zero =>
    intro zx a3 a4 a5 a6 H locs ls hm
    cases hm
  | succ n ih =>
    intro zx a3 a4 a5 a6 H locs ls hm hw hl
    unfold mX10_below_b36 at hm
    refine lv_iload hx hb dX10_below_36 (lv_at hl 4 rfl) ?_
    refine lv_iload hx hb dX10_below_38 (lv_at hl 2 rfl) ?_
    refine lv_icmp_ge (tgt := 56) hx hb dX10_below_40 (by decide) (fun c1 => ?_) (fun c1 => ?_)
    · have hm := Eq.trans (if_pos c1).symm hm
      refine lv_iload hx hb dX10_below_56 (lv_at hl 3 rfl) ?_
      obtain ⟨rfl, rfl⟩ := sj2 hm
      exact r_iret C0 hw dX10_below_58 ⟨rfl, rfl⟩
    · have hm := Eq.trans (if_neg c1).symm hm
      refine lv_aload_n hx hb dX10_below_43 rfl (lv_at hl 0 rfl) ?_
      refine lv_iload_n hx hb dX10_below_44 rfl (lv_at hl 1 rfl) ?_
      obtain ⟨r2, zx3, h4, hm⟩ := b2_some hm
      refine r_backS (va_runV (As := [.int a3]) (rest := []) ⟨hx, hb, C0.2.2.2.1, C0.2.2.2.2.1, C0.2.2.2.2.2.1⟩ (tX10_drawBelow l E ad F zx a3 h4 H.size) (cwV 1 C0.2.2.2.2.2.1 gX10_below_X10_drawBelow rfl rfl rfl (by decide +kernel) ⟨Nat.le_of_ble_eq_true rfl, Nat.le_of_ble_eq_true rfl⟩) ⟨PG_blind, va_recv hA.2.2.1.1 hw.1 (ci := 10) (q0 := 0) rfl rfl, pg_self hA hw⟩ rfl rfl hl.1 rfl (lv_room (Nat.le_of_ble_eq_true rfl)) dX10_below_45 ⟨Nat.zero_le _, Nat.zero_le _⟩) hA hw (fun H locs hw => ?_)
      refine lv_istore (lv' := [(5, .int r2), (0, .ref (ad 0)), (3, .int a3), (4, .int a4), (6, .int a6)]) hx hb dX10_below_48 hl (by decide) rfl (fun ls hl => ?_)
      obtain ⟨v5, ev5⟩ : ∃ y : Int32, y = a6 + 1 := ⟨_, rfl⟩
      have hm := nm_at hm ev5
      refine lv_iinc (v := v5) (lv' := [(6, .int v5), (5, .int r2), (0, .ref (ad 0)), (3, .int a3), (4, .int a4)]) hx hb dX10_below_50 hl (k := 4) rfl (by rw [ev5]; rfl) (by decide) rfl (fun ls hl => ?_)
      refine lv_goto (tgt := 36) hx hb dX10_below_53 (by decide) ?_
      exact ih zx3 a3 a4 r2 v5 _ _ _ hm hw (lv_sub hl [2, 3, 4, 1, 0] rfl)
set_option maxRecDepth 20000 in
theorem kX10_below_b0 {p : Program} {l : Launch} {e : Env} {s : State} {m : MethodId} {args : Array Value} {below : List Frame} {meth : Method} {c : Code} {A : Nat → Prop} {E : EV} {ad : Nat → Nat} (F : Nat)  {r : Int32} {zx' : OS} (C0 : Cx RX10 "below" cX10_below (some .int) 7 wsX10_below p s m args meth c) (hA : Ax E A s) : ∀ (zx : OS) (a1 : Int64) (a3 : Int32) (a4 : Int32) (H : Heap) (locs : List Loc) (ls : Array Slot), mX10_below_b0 F zx a1 a3 a4 = some (r, zx') → Wd E A s H locs (wM E ad zx) → lv_has ls 7 [(0, .ref (ad 0)), (1, .long a1), (3, .int a3), (4, .int a4)] → W p l e ({ frames := 2, cells := 0, slots := 0, locals := 47 } : Room) s m args below meth c H locs 0 0 (MQ below (QG E (Qd (some (.int r)) (wM E ad zx')) A) args s 0 0 A) (F0 m 0 ls []) := by
  have hx := C0.1
  have hb := C0.2.1
  intro zx a1 a3 a4 H locs ls hm hw hl
  unfold mX10_below_b0 at hm
  refine lv_iload_n hx hb dX10_below_0 rfl (lv_at hl 2 rfl) ?_
  refine lv_iconst (v := 1) hx hb dX10_below_1 (by decide) ?_
  refine lv_icmp_lt (tgt := 18) hx hb dX10_below_2 (by decide) (fun c1 => ?_) (fun c1 => ?_)
  · have hm := Eq.trans (if_pos c1).symm hm
    refine lv_bipush (v := (-2)) hx hb dX10_below_18 (by decide) ?_
    obtain ⟨rfl, rfl⟩ := sj2 hm
    exact r_iret C0 hw dX10_below_20 ⟨rfl, rfl⟩
  · have hm := Eq.trans (if_neg c1).symm hm
    refine lv_iload hx hb dX10_below_5 (lv_at hl 3 rfl) ?_
    refine lv_if_lt (tgt := 18) hx hb dX10_below_7 (by decide) (fun c2 => ?_) (fun c2 => ?_)
    · have hm := Eq.trans (if_pos c2).symm hm
      refine lv_bipush (v := (-2)) hx hb dX10_below_18 (by decide) ?_
      obtain ⟨rfl, rfl⟩ := sj2 hm
      exact r_iret C0 hw dX10_below_20 ⟨rfl, rfl⟩
    · have hm := Eq.trans (if_neg c2).symm hm
      refine lv_iload hx hb dX10_below_10 (lv_at hl 3 rfl) ?_
      refine lv_sipush (v := 1000) hx hb dX10_below_12 (by decide) ?_
      refine lv_icmp_le (tgt := 21) hx hb dX10_below_15 (by decide) (fun c3 => ?_) (fun c3 => ?_)
      · have hm := Eq.trans (if_pos c3).symm hm
        refine lv_aload_n hx hb dX10_below_21 rfl (lv_at hl 0 rfl) ?_
        refine lv_lload_n hx hb dX10_below_22 rfl (lv_at hl 1 rfl) ?_
        refine pM_0_26 C0 hA hw hiX10_below_X10 lkX10_below_166 dX10_below_23 (fun zx4 ezx4 H locs hw => ?_)
        have hm := nm_at hm ezx4
        refine lv_aload_n hx hb dX10_below_26 rfl (lv_at hl 0 rfl) ?_
        refine lv_iload_n hx hb dX10_below_27 rfl (lv_at hl 2 rfl) ?_
        obtain ⟨r5, zx6, h7, hm⟩ := b2_some hm
        refine r_backS (va_runV (As := [.int a3]) (rest := []) ⟨hx, hb, C0.2.2.2.1, C0.2.2.2.2.1, C0.2.2.2.2.2.1⟩ (tX10_drawBelow l E ad F zx4 a3 h7 H.size) (cwV 1 C0.2.2.2.2.2.1 gX10_below_X10_drawBelow rfl rfl rfl (by decide +kernel) ⟨Nat.le_of_ble_eq_true rfl, Nat.le_of_ble_eq_true rfl⟩) ⟨PG_blind, va_recv hA.2.2.1.1 hw.1 (ci := 10) (q0 := 0) rfl rfl, pg_self hA hw⟩ rfl rfl hl.1 rfl (lv_room (Nat.le_of_ble_eq_true rfl)) dX10_below_28 ⟨Nat.zero_le _, Nat.zero_le _⟩) hA hw (fun H locs hw => ?_)
        refine lv_istore (lv' := [(5, .int r5), (0, .ref (ad 0)), (1, .long a1), (3, .int a3), (4, .int a4)]) hx hb dX10_below_31 hl (by decide) rfl (fun ls hl => ?_)
        refine lv_iconst (v := 0) hx hb dX10_below_33 (by decide) ?_
        refine lv_topi (fun v8 ev8 => ?_)
        have hm := nm_at hm ev8
        refine lv_istore (lv' := [(6, .int v8), (5, .int r5), (0, .ref (ad 0)), (1, .long a1), (3, .int a3), (4, .int a4)]) hx hb dX10_below_34 hl (by decide) rfl (fun ls hl => ?_)
        exact kX10_below_b36 F C0 hA F zx6 a3 a4 r5 v8 _ _ _ hm hw (lv_sub hl [2, 4, 5, 1, 0] rfl)
      · have hm := Eq.trans (if_neg c3).symm hm
        refine lv_bipush (v := (-2)) hx hb dX10_below_18 (by decide) ?_
        obtain ⟨rfl, rfl⟩ := sj2 hm
        exact r_iret C0 hw dX10_below_20 ⟨rfl, rfl⟩
theorem tX10_below (l : Launch) (E : EV) (ad : Nat → Nat) (F : Nat) (zx : OS) (a1 : Int64) (a3 : Int32) (a4 : Int32) {r : Int32} {zx' : OS} (hm : mX10_below F zx a1 a3 a4 = some (r, zx')) : CT l yX10_below wsX10_below ({ frames := 2, cells := 0, slots := 0, locals := 47 } : Room) E [.ref (ad 0), .long a1, .int a3, .int a4] (wM E ad zx) (Qd (some (.int r)) (wM E ad zx')) 0 0 :=
  CT.of (mL := 7) (lvs := [(0, .ref (ad 0)), (1, .long a1), (3, .int a3), (4, .int a4)]) (by decide +kernel) rfl (Nat.le_of_ble_eq_true rfl) rfl rfl rfl (fun p e s m below meth c A C0 hA hw ls hl => kX10_below_b0 (ad := ad) F C0 hA zx a1 a3 a4 _ _ _ hm hw (lv_sub hl [0, 1, 2, 3] rfl))
theorem lkX10_keep_80 : Cond.fieldLink RX10 80 (TX10 37).1 (TX10 37).2.1 (TX10 37).2.2.1 ∈ wsX10_keep := by decide +kernel
theorem lkX10_keep_185 : Cond.fieldLink RX10 185 (TX10 47).1 (TX10 47).2.1 (TX10 47).2.2.1 ∈ wsX10_keep := by decide +kernel
theorem lkX10_keep_83 : Cond.fieldLink RX10 83 (TX10 38).1 (TX10 38).2.1 (TX10 38).2.2.1 ∈ wsX10_keep := by decide +kernel
theorem lkX10_keep_188 : Cond.fieldLink RX10 188 (TX10 30).1 (TX10 30).2.1 (TX10 30).2.2.1 ∈ wsX10_keep := by decide +kernel
theorem lkX10_keep_86 : Cond.fieldLink RX10 86 (TX10 39).1 (TX10 39).2.1 (TX10 39).2.2.1 ∈ wsX10_keep := by decide +kernel
theorem lkX10_keep_191 : Cond.fieldLink RX10 191 (TX10 31).1 (TX10 31).2.1 (TX10 31).2.2.1 ∈ wsX10_keep := by decide +kernel
theorem lkX10_keep_89 : Cond.fieldLink RX10 89 (TX10 40).1 (TX10 40).2.1 (TX10 40).2.2.1 ∈ wsX10_keep := by decide +kernel
theorem lkX10_keep_194 : Cond.fieldLink RX10 194 (TX10 32).1 (TX10 32).2.1 (TX10 32).2.2.1 ∈ wsX10_keep := by decide +kernel
theorem lkX10_keep_92 : Cond.fieldLink RX10 92 (TX10 41).1 (TX10 41).2.1 (TX10 41).2.2.1 ∈ wsX10_keep := by decide +kernel
theorem lkX10_keep_197 : Cond.fieldLink RX10 197 (TX10 33).1 (TX10 33).2.1 (TX10 33).2.2.1 ∈ wsX10_keep := by decide +kernel
theorem lkX10_keep_95 : Cond.fieldLink RX10 95 (TX10 42).1 (TX10 42).2.1 (TX10 42).2.2.1 ∈ wsX10_keep := by decide +kernel
theorem lkX10_keep_200 : Cond.fieldLink RX10 200 (TX10 34).1 (TX10 34).2.1 (TX10 34).2.2.1 ∈ wsX10_keep := by decide +kernel
theorem lkX10_keep_98 : Cond.fieldLink RX10 98 (TX10 43).1 (TX10 43).2.1 (TX10 43).2.2.1 ∈ wsX10_keep := by decide +kernel
theorem lkX10_keep_203 : Cond.fieldLink RX10 203 (TX10 35).1 (TX10 35).2.1 (TX10 35).2.2.1 ∈ wsX10_keep := by decide +kernel
theorem lkX10_keep_101 : Cond.fieldLink RX10 101 (TX10 44).1 (TX10 44).2.1 (TX10 44).2.2.1 ∈ wsX10_keep := by decide +kernel
theorem lkX10_keep_206 : Cond.fieldLink RX10 206 (TX10 36).1 (TX10 36).2.1 (TX10 36).2.2.1 ∈ wsX10_keep := by decide +kernel
theorem lkX10_keep_104 : Cond.fieldLink RX10 104 (TX10 45).1 (TX10 45).2.1 (TX10 45).2.2.1 ∈ wsX10_keep := by decide +kernel
theorem lkX10_keep_209 : Cond.fieldLink RX10 209 (TX10 29).1 (TX10 29).2.1 (TX10 29).2.2.1 ∈ wsX10_keep := by decide +kernel
theorem lkX10_keep_107 : Cond.fieldLink RX10 107 (TX10 46).1 (TX10 46).2.1 (TX10 46).2.2.1 ∈ wsX10_keep := by decide +kernel
theorem hiX10_keep_X10 : ∀ w ∈ u_ws RX10 TX10 53, w ∈ wsX10_keep := by decide +kernel
def mX10_keep_b0  (zx : OS) (a1 : Int32) : Option (OS) := gd (zx.1 47) 3002 (nm (sA zx 37 (zx.1 47) a1) (fun zx2 => gd (zx2.1 47) 3002 (nm (sA zx2 38 (zx2.1 47) (zx2.1 30)) (fun zx4 => gd (zx4.1 47) 3002 (nm (sA zx4 39 (zx4.1 47) (zx4.1 31)) (fun zx6 => gd (zx6.1 47) 3002 (nm (sA zx6 40 (zx6.1 47) (zx6.1 32)) (fun zx8 => gd (zx8.1 47) 3002 (nm (sA zx8 41 (zx8.1 47) (zx8.1 33)) (fun zx10 => gd (zx10.1 47) 3002 (nm (sA zx10 42 (zx10.1 47) (zx10.1 34)) (fun zx12 => gd (zx12.1 47) 3002 (nm (sA zx12 43 (zx12.1 47) (zx12.1 35)) (fun zx14 => gd (zx14.1 47) 3002 (nm (sA zx14 44 (zx14.1 47) (zx14.1 36)) (fun zx16 => gd (zx16.1 47) 3002 (nm (sA zx16 45 (zx16.1 47) (zx16.1 29)) (fun zx18 => gd (zx18.1 47) 3002 (nm (sB zx18 46 (zx18.1 47) 0) (fun zx20 => nm (sI zx20 47 ((zx20.1 47) + 1)) (fun zx21 => some zx21)))))))))))))))))))))
def mX10_keep (zx : OS) (a1 : Int32) : Option (OS) := mX10_keep_b0 zx a1
set_option maxRecDepth 20000 in
theorem kX10_keep_b0 {p : Program} {l : Launch} {e : Env} {s : State} {m : MethodId} {args : Array Value} {below : List Frame} {meth : Method} {c : Code} {A : Nat → Prop} {E : EV} {ad : Nat → Nat}  {zx' : OS} (C0 : Cx RX10 "keep" cX10_keep (none) 2 wsX10_keep p s m args meth c) (hA : Ax E A s) : ∀ (zx : OS) (a1 : Int32) (H : Heap) (locs : List Loc) (ls : Array Slot), mX10_keep_b0 zx a1 = some zx' → Wd E A s H locs (wM E ad zx) → lv_has ls 2 [(0, .ref (ad 0)), (1, .int a1)] → W p l e ({ frames := 0, cells := 0, slots := 0, locals := 0 } : Room) s m args below meth c H locs 0 0 (MQ below (QG E (Qd none (wM E ad zx')) A) args s 0 0 A) (F0 m 0 ls []) := by
  have hx := C0.1
  have hb := C0.2.1
  intro zx a1 H locs ls hm hw hl
  unfold mX10_keep_b0 at hm
  refine lv_aload_n hx hb dX10_keep_0 rfl (lv_at hl 0 rfl) ?_
  refine gM_0_37 C0 hA hw hiX10_keep_X10 lkX10_keep_80 dX10_keep_1 ?_
  refine lv_aload_n hx hb dX10_keep_4 rfl (lv_at hl 0 rfl) ?_
  refine gM_0_47 C0 hA hw hiX10_keep_X10 lkX10_keep_185 dX10_keep_5 ?_
  refine lv_iload_n hx hb dX10_keep_8 rfl (lv_at hl 1 rfl) ?_
  obtain ⟨c1, hm⟩ := gd_some hm
  refine sM_24 C0 hA hw c1 dX10_keep_9 (fun zx2 ezx2 H locs hw => ?_)
  have hm := nm_at hm ezx2
  refine lv_aload_n hx hb dX10_keep_10 rfl (lv_at hl 0 rfl) ?_
  refine gM_0_38 C0 hA hw hiX10_keep_X10 lkX10_keep_83 dX10_keep_11 ?_
  refine lv_aload_n hx hb dX10_keep_14 rfl (lv_at hl 0 rfl) ?_
  refine gM_0_47 C0 hA hw hiX10_keep_X10 lkX10_keep_185 dX10_keep_15 ?_
  refine lv_aload_n hx hb dX10_keep_18 rfl (lv_at hl 0 rfl) ?_
  refine gM_0_30 C0 hA hw hiX10_keep_X10 lkX10_keep_188 dX10_keep_19 ?_
  obtain ⟨c3, hm⟩ := gd_some hm
  refine sM_25 C0 hA hw c3 dX10_keep_22 (fun zx4 ezx4 H locs hw => ?_)
  have hm := nm_at hm ezx4
  refine lv_aload_n hx hb dX10_keep_23 rfl (lv_at hl 0 rfl) ?_
  refine gM_0_39 C0 hA hw hiX10_keep_X10 lkX10_keep_86 dX10_keep_24 ?_
  refine lv_aload_n hx hb dX10_keep_27 rfl (lv_at hl 0 rfl) ?_
  refine gM_0_47 C0 hA hw hiX10_keep_X10 lkX10_keep_185 dX10_keep_28 ?_
  refine lv_aload_n hx hb dX10_keep_31 rfl (lv_at hl 0 rfl) ?_
  refine gM_0_31 C0 hA hw hiX10_keep_X10 lkX10_keep_191 dX10_keep_32 ?_
  obtain ⟨c5, hm⟩ := gd_some hm
  refine sM_26 C0 hA hw c5 dX10_keep_35 (fun zx6 ezx6 H locs hw => ?_)
  have hm := nm_at hm ezx6
  refine lv_aload_n hx hb dX10_keep_36 rfl (lv_at hl 0 rfl) ?_
  refine gM_0_40 C0 hA hw hiX10_keep_X10 lkX10_keep_89 dX10_keep_37 ?_
  refine lv_aload_n hx hb dX10_keep_40 rfl (lv_at hl 0 rfl) ?_
  refine gM_0_47 C0 hA hw hiX10_keep_X10 lkX10_keep_185 dX10_keep_41 ?_
  refine lv_aload_n hx hb dX10_keep_44 rfl (lv_at hl 0 rfl) ?_
  refine gM_0_32 C0 hA hw hiX10_keep_X10 lkX10_keep_194 dX10_keep_45 ?_
  obtain ⟨c7, hm⟩ := gd_some hm
  refine sM_27 C0 hA hw c7 dX10_keep_48 (fun zx8 ezx8 H locs hw => ?_)
  have hm := nm_at hm ezx8
  refine lv_aload_n hx hb dX10_keep_49 rfl (lv_at hl 0 rfl) ?_
  refine gM_0_41 C0 hA hw hiX10_keep_X10 lkX10_keep_92 dX10_keep_50 ?_
  refine lv_aload_n hx hb dX10_keep_53 rfl (lv_at hl 0 rfl) ?_
  refine gM_0_47 C0 hA hw hiX10_keep_X10 lkX10_keep_185 dX10_keep_54 ?_
  refine lv_aload_n hx hb dX10_keep_57 rfl (lv_at hl 0 rfl) ?_
  refine gM_0_33 C0 hA hw hiX10_keep_X10 lkX10_keep_197 dX10_keep_58 ?_
  obtain ⟨c9, hm⟩ := gd_some hm
  refine sM_28 C0 hA hw c9 dX10_keep_61 (fun zx10 ezx10 H locs hw => ?_)
  have hm := nm_at hm ezx10
  refine lv_aload_n hx hb dX10_keep_62 rfl (lv_at hl 0 rfl) ?_
  refine gM_0_42 C0 hA hw hiX10_keep_X10 lkX10_keep_95 dX10_keep_63 ?_
  refine lv_aload_n hx hb dX10_keep_66 rfl (lv_at hl 0 rfl) ?_
  refine gM_0_47 C0 hA hw hiX10_keep_X10 lkX10_keep_185 dX10_keep_67 ?_
  refine lv_aload_n hx hb dX10_keep_70 rfl (lv_at hl 0 rfl) ?_
  refine gM_0_34 C0 hA hw hiX10_keep_X10 lkX10_keep_200 dX10_keep_71 ?_
  obtain ⟨c11, hm⟩ := gd_some hm
  refine sM_29 C0 hA hw c11 dX10_keep_74 (fun zx12 ezx12 H locs hw => ?_)
  have hm := nm_at hm ezx12
  refine lv_aload_n hx hb dX10_keep_75 rfl (lv_at hl 0 rfl) ?_
  refine gM_0_43 C0 hA hw hiX10_keep_X10 lkX10_keep_98 dX10_keep_76 ?_
  refine lv_aload_n hx hb dX10_keep_79 rfl (lv_at hl 0 rfl) ?_
  refine gM_0_47 C0 hA hw hiX10_keep_X10 lkX10_keep_185 dX10_keep_80 ?_
  refine lv_aload_n hx hb dX10_keep_83 rfl (lv_at hl 0 rfl) ?_
  refine gM_0_35 C0 hA hw hiX10_keep_X10 lkX10_keep_203 dX10_keep_84 ?_
  obtain ⟨c13, hm⟩ := gd_some hm
  refine sM_30 C0 hA hw c13 dX10_keep_87 (fun zx14 ezx14 H locs hw => ?_)
  have hm := nm_at hm ezx14
  refine lv_aload_n hx hb dX10_keep_88 rfl (lv_at hl 0 rfl) ?_
  refine gM_0_44 C0 hA hw hiX10_keep_X10 lkX10_keep_101 dX10_keep_89 ?_
  refine lv_aload_n hx hb dX10_keep_92 rfl (lv_at hl 0 rfl) ?_
  refine gM_0_47 C0 hA hw hiX10_keep_X10 lkX10_keep_185 dX10_keep_93 ?_
  refine lv_aload_n hx hb dX10_keep_96 rfl (lv_at hl 0 rfl) ?_
  refine gM_0_36 C0 hA hw hiX10_keep_X10 lkX10_keep_206 dX10_keep_97 ?_
  obtain ⟨c15, hm⟩ := gd_some hm
  refine sM_31 C0 hA hw c15 dX10_keep_100 (fun zx16 ezx16 H locs hw => ?_)
  have hm := nm_at hm ezx16
  refine lv_aload_n hx hb dX10_keep_101 rfl (lv_at hl 0 rfl) ?_
  refine gM_0_45 C0 hA hw hiX10_keep_X10 lkX10_keep_104 dX10_keep_102 ?_
  refine lv_aload_n hx hb dX10_keep_105 rfl (lv_at hl 0 rfl) ?_
  refine gM_0_47 C0 hA hw hiX10_keep_X10 lkX10_keep_185 dX10_keep_106 ?_
  refine lv_aload_n hx hb dX10_keep_109 rfl (lv_at hl 0 rfl) ?_
  refine gM_0_29 C0 hA hw hiX10_keep_X10 lkX10_keep_209 dX10_keep_110 ?_
  obtain ⟨c17, hm⟩ := gd_some hm
  refine sM_32 C0 hA hw c17 dX10_keep_113 (fun zx18 ezx18 H locs hw => ?_)
  have hm := nm_at hm ezx18
  refine lv_aload_n hx hb dX10_keep_114 rfl (lv_at hl 0 rfl) ?_
  refine gM_0_46 C0 hA hw hiX10_keep_X10 lkX10_keep_107 dX10_keep_115 ?_
  refine lv_aload_n hx hb dX10_keep_118 rfl (lv_at hl 0 rfl) ?_
  refine gM_0_47 C0 hA hw hiX10_keep_X10 lkX10_keep_185 dX10_keep_119 ?_
  refine lv_lconst (v := 0) hx hb dX10_keep_122 (by decide) ?_
  obtain ⟨c19, hm⟩ := gd_some hm
  refine sM_33 C0 hA hw c19 dX10_keep_123 (fun zx20 ezx20 H locs hw => ?_)
  have hm := nm_at hm ezx20
  refine lv_aload_n hx hb dX10_keep_124 rfl (lv_at hl 0 rfl) ?_
  refine lv_dup hx hb dX10_keep_125 rfl ?_
  refine gM_0_47 C0 hA hw hiX10_keep_X10 lkX10_keep_185 dX10_keep_126 ?_
  refine lv_iconst (v := 1) hx hb dX10_keep_129 (by decide) ?_
  refine lv_iadd hx hb dX10_keep_130 ?_
  refine pM_0_47 C0 hA hw hiX10_keep_X10 lkX10_keep_185 dX10_keep_131 (fun zx21 ezx21 H locs hw => ?_)
  have hm := nm_at hm ezx21
  obtain rfl := sj1 hm
  exact r_vret C0 hw dX10_keep_134 ⟨rfl, rfl⟩
theorem tX10_keep (l : Launch) (E : EV) (ad : Nat → Nat) (zx : OS) (a1 : Int32) {zx' : OS} (hm : mX10_keep zx a1 = some zx') : CT l yX10_keep wsX10_keep ({ frames := 0, cells := 0, slots := 0, locals := 0 } : Room) E [.ref (ad 0), .int a1] (wM E ad zx) (Qd none (wM E ad zx')) 0 0 :=
  CT.of (mL := 2) (lvs := [(0, .ref (ad 0)), (1, .int a1)]) (by decide +kernel) rfl (Nat.le_of_ble_eq_true rfl) rfl rfl rfl (fun p e s m below meth c A C0 hA hw ls hl => kX10_keep_b0 (ad := ad) C0 hA zx a1 _ _ _ hm hw (lv_sub hl [0, 1] rfl))
theorem lkX10_back_185 : Cond.fieldLink RX10 185 (TX10 47).1 (TX10 47).2.1 (TX10 47).2.2.1 ∈ wsX10_back := by decide +kernel
theorem lkX10_back_83 : Cond.fieldLink RX10 83 (TX10 38).1 (TX10 38).2.1 (TX10 38).2.2.1 ∈ wsX10_back := by decide +kernel
theorem lkX10_back_188 : Cond.fieldLink RX10 188 (TX10 30).1 (TX10 30).2.1 (TX10 30).2.2.1 ∈ wsX10_back := by decide +kernel
theorem lkX10_back_86 : Cond.fieldLink RX10 86 (TX10 39).1 (TX10 39).2.1 (TX10 39).2.2.1 ∈ wsX10_back := by decide +kernel
theorem lkX10_back_191 : Cond.fieldLink RX10 191 (TX10 31).1 (TX10 31).2.1 (TX10 31).2.2.1 ∈ wsX10_back := by decide +kernel
theorem lkX10_back_89 : Cond.fieldLink RX10 89 (TX10 40).1 (TX10 40).2.1 (TX10 40).2.2.1 ∈ wsX10_back := by decide +kernel
theorem lkX10_back_194 : Cond.fieldLink RX10 194 (TX10 32).1 (TX10 32).2.1 (TX10 32).2.2.1 ∈ wsX10_back := by decide +kernel
theorem lkX10_back_92 : Cond.fieldLink RX10 92 (TX10 41).1 (TX10 41).2.1 (TX10 41).2.2.1 ∈ wsX10_back := by decide +kernel
theorem lkX10_back_197 : Cond.fieldLink RX10 197 (TX10 33).1 (TX10 33).2.1 (TX10 33).2.2.1 ∈ wsX10_back := by decide +kernel
theorem lkX10_back_95 : Cond.fieldLink RX10 95 (TX10 42).1 (TX10 42).2.1 (TX10 42).2.2.1 ∈ wsX10_back := by decide +kernel
theorem lkX10_back_200 : Cond.fieldLink RX10 200 (TX10 34).1 (TX10 34).2.1 (TX10 34).2.2.1 ∈ wsX10_back := by decide +kernel
theorem lkX10_back_98 : Cond.fieldLink RX10 98 (TX10 43).1 (TX10 43).2.1 (TX10 43).2.2.1 ∈ wsX10_back := by decide +kernel
theorem lkX10_back_203 : Cond.fieldLink RX10 203 (TX10 35).1 (TX10 35).2.1 (TX10 35).2.2.1 ∈ wsX10_back := by decide +kernel
theorem lkX10_back_101 : Cond.fieldLink RX10 101 (TX10 44).1 (TX10 44).2.1 (TX10 44).2.2.1 ∈ wsX10_back := by decide +kernel
theorem lkX10_back_206 : Cond.fieldLink RX10 206 (TX10 36).1 (TX10 36).2.1 (TX10 36).2.2.1 ∈ wsX10_back := by decide +kernel
theorem lkX10_back_104 : Cond.fieldLink RX10 104 (TX10 45).1 (TX10 45).2.1 (TX10 45).2.2.1 ∈ wsX10_back := by decide +kernel
theorem lkX10_back_209 : Cond.fieldLink RX10 209 (TX10 29).1 (TX10 29).2.1 (TX10 29).2.2.1 ∈ wsX10_back := by decide +kernel
theorem hiX10_back_X10 : ∀ w ∈ u_ws RX10 TX10 53, w ∈ wsX10_back := by decide +kernel
def mX10_back_b0  (zx : OS) : Option (OS) := nm ((zx.1 47) - 1 : Int32) (fun v1 => gd v1 3002 (nm (sI zx 30 (zx.2.2.1 38 (v1 : Int32).toNatClampNeg)) (fun zx3 => gd v1 3002 (nm (sI zx3 31 (zx3.2.2.1 39 (v1 : Int32).toNatClampNeg)) (fun zx5 => gd v1 3002 (nm (sI zx5 32 (zx5.2.2.1 40 (v1 : Int32).toNatClampNeg)) (fun zx7 => gd v1 3002 (nm (sI zx7 33 (zx7.2.2.1 41 (v1 : Int32).toNatClampNeg)) (fun zx9 => gd v1 3002 (nm (sI zx9 34 (zx9.2.2.1 42 (v1 : Int32).toNatClampNeg)) (fun zx11 => gd v1 3002 (nm (sI zx11 35 (zx11.2.2.1 43 (v1 : Int32).toNatClampNeg)) (fun zx13 => gd v1 3002 (nm (sI zx13 36 (zx13.2.2.1 44 (v1 : Int32).toNatClampNeg)) (fun zx15 => gd v1 3002 (nm (sI zx15 29 (zx15.2.2.1 45 (v1 : Int32).toNatClampNeg)) (fun zx17 => some zx17)))))))))))))))))
def mX10_back (zx : OS)  : Option (OS) := mX10_back_b0 zx
set_option maxRecDepth 20000 in
theorem kX10_back_b0 {p : Program} {l : Launch} {e : Env} {s : State} {m : MethodId} {args : Array Value} {below : List Frame} {meth : Method} {c : Code} {A : Nat → Prop} {E : EV} {ad : Nat → Nat}  {zx' : OS} (C0 : Cx RX10 "back" cX10_back (none) 2 wsX10_back p s m args meth c) (hA : Ax E A s) : ∀ (zx : OS) (H : Heap) (locs : List Loc) (ls : Array Slot), mX10_back_b0 zx = some zx' → Wd E A s H locs (wM E ad zx) → lv_has ls 2 [(0, .ref (ad 0))] → W p l e ({ frames := 0, cells := 0, slots := 0, locals := 0 } : Room) s m args below meth c H locs 0 0 (MQ below (QG E (Qd none (wM E ad zx')) A) args s 0 0 A) (F0 m 0 ls []) := by
  have hx := C0.1
  have hb := C0.2.1
  intro zx H locs ls hm hw hl
  unfold mX10_back_b0 at hm
  refine lv_aload_n hx hb dX10_back_0 rfl (lv_at hl 0 rfl) ?_
  refine gM_0_47 C0 hA hw hiX10_back_X10 lkX10_back_185 dX10_back_1 ?_
  refine lv_iconst (v := 1) hx hb dX10_back_4 (by decide) ?_
  refine lv_isub hx hb dX10_back_5 ?_
  refine lv_topi (fun v1 ev1 => ?_)
  have hm := nm_at hm ev1
  refine lv_istore_n (lv' := [(1, .int v1), (0, .ref (ad 0))]) hx hb dX10_back_6 rfl hl (by decide) rfl (fun ls hl => ?_)
  refine lv_aload_n hx hb dX10_back_7 rfl (lv_at hl 1 rfl) ?_
  refine lv_aload_n hx hb dX10_back_8 rfl (lv_at hl 1 rfl) ?_
  refine gM_0_38 C0 hA hw hiX10_back_X10 lkX10_back_83 dX10_back_9 ?_
  refine lv_iload_n hx hb dX10_back_12 rfl (lv_at hl 0 rfl) ?_
  obtain ⟨c2, hm⟩ := gd_some hm
  refine lM_25 C0 hA hw c2 dX10_back_13 ?_
  refine pM_0_30 C0 hA hw hiX10_back_X10 lkX10_back_188 dX10_back_14 (fun zx3 ezx3 H locs hw => ?_)
  have hm := nm_at hm ezx3
  refine lv_aload_n hx hb dX10_back_17 rfl (lv_at hl 1 rfl) ?_
  refine lv_aload_n hx hb dX10_back_18 rfl (lv_at hl 1 rfl) ?_
  refine gM_0_39 C0 hA hw hiX10_back_X10 lkX10_back_86 dX10_back_19 ?_
  refine lv_iload_n hx hb dX10_back_22 rfl (lv_at hl 0 rfl) ?_
  obtain ⟨c4, hm⟩ := gd_some hm
  refine lM_26 C0 hA hw c4 dX10_back_23 ?_
  refine pM_0_31 C0 hA hw hiX10_back_X10 lkX10_back_191 dX10_back_24 (fun zx5 ezx5 H locs hw => ?_)
  have hm := nm_at hm ezx5
  refine lv_aload_n hx hb dX10_back_27 rfl (lv_at hl 1 rfl) ?_
  refine lv_aload_n hx hb dX10_back_28 rfl (lv_at hl 1 rfl) ?_
  refine gM_0_40 C0 hA hw hiX10_back_X10 lkX10_back_89 dX10_back_29 ?_
  refine lv_iload_n hx hb dX10_back_32 rfl (lv_at hl 0 rfl) ?_
  obtain ⟨c6, hm⟩ := gd_some hm
  refine lM_27 C0 hA hw c6 dX10_back_33 ?_
  refine pM_0_32 C0 hA hw hiX10_back_X10 lkX10_back_194 dX10_back_34 (fun zx7 ezx7 H locs hw => ?_)
  have hm := nm_at hm ezx7
  refine lv_aload_n hx hb dX10_back_37 rfl (lv_at hl 1 rfl) ?_
  refine lv_aload_n hx hb dX10_back_38 rfl (lv_at hl 1 rfl) ?_
  refine gM_0_41 C0 hA hw hiX10_back_X10 lkX10_back_92 dX10_back_39 ?_
  refine lv_iload_n hx hb dX10_back_42 rfl (lv_at hl 0 rfl) ?_
  obtain ⟨c8, hm⟩ := gd_some hm
  refine lM_28 C0 hA hw c8 dX10_back_43 ?_
  refine pM_0_33 C0 hA hw hiX10_back_X10 lkX10_back_197 dX10_back_44 (fun zx9 ezx9 H locs hw => ?_)
  have hm := nm_at hm ezx9
  refine lv_aload_n hx hb dX10_back_47 rfl (lv_at hl 1 rfl) ?_
  refine lv_aload_n hx hb dX10_back_48 rfl (lv_at hl 1 rfl) ?_
  refine gM_0_42 C0 hA hw hiX10_back_X10 lkX10_back_95 dX10_back_49 ?_
  refine lv_iload_n hx hb dX10_back_52 rfl (lv_at hl 0 rfl) ?_
  obtain ⟨c10, hm⟩ := gd_some hm
  refine lM_29 C0 hA hw c10 dX10_back_53 ?_
  refine pM_0_34 C0 hA hw hiX10_back_X10 lkX10_back_200 dX10_back_54 (fun zx11 ezx11 H locs hw => ?_)
  have hm := nm_at hm ezx11
  refine lv_aload_n hx hb dX10_back_57 rfl (lv_at hl 1 rfl) ?_
  refine lv_aload_n hx hb dX10_back_58 rfl (lv_at hl 1 rfl) ?_
  refine gM_0_43 C0 hA hw hiX10_back_X10 lkX10_back_98 dX10_back_59 ?_
  refine lv_iload_n hx hb dX10_back_62 rfl (lv_at hl 0 rfl) ?_
  obtain ⟨c12, hm⟩ := gd_some hm
  refine lM_30 C0 hA hw c12 dX10_back_63 ?_
  refine pM_0_35 C0 hA hw hiX10_back_X10 lkX10_back_203 dX10_back_64 (fun zx13 ezx13 H locs hw => ?_)
  have hm := nm_at hm ezx13
  refine lv_aload_n hx hb dX10_back_67 rfl (lv_at hl 1 rfl) ?_
  refine lv_aload_n hx hb dX10_back_68 rfl (lv_at hl 1 rfl) ?_
  refine gM_0_44 C0 hA hw hiX10_back_X10 lkX10_back_101 dX10_back_69 ?_
  refine lv_iload_n hx hb dX10_back_72 rfl (lv_at hl 0 rfl) ?_
  obtain ⟨c14, hm⟩ := gd_some hm
  refine lM_31 C0 hA hw c14 dX10_back_73 ?_
  refine pM_0_36 C0 hA hw hiX10_back_X10 lkX10_back_206 dX10_back_74 (fun zx15 ezx15 H locs hw => ?_)
  have hm := nm_at hm ezx15
  refine lv_aload_n hx hb dX10_back_77 rfl (lv_at hl 1 rfl) ?_
  refine lv_aload_n hx hb dX10_back_78 rfl (lv_at hl 1 rfl) ?_
  refine gM_0_45 C0 hA hw hiX10_back_X10 lkX10_back_104 dX10_back_79 ?_
  refine lv_iload_n hx hb dX10_back_82 rfl (lv_at hl 0 rfl) ?_
  obtain ⟨c16, hm⟩ := gd_some hm
  refine lM_32 C0 hA hw c16 dX10_back_83 ?_
  refine pM_0_29 C0 hA hw hiX10_back_X10 lkX10_back_209 dX10_back_84 (fun zx17 ezx17 H locs hw => ?_)
  have hm := nm_at hm ezx17
  obtain rfl := sj1 hm
  exact r_vret C0 hw dX10_back_87 ⟨rfl, rfl⟩
theorem tX10_back (l : Launch) (E : EV) (ad : Nat → Nat) (zx : OS)  {zx' : OS} (hm : mX10_back zx = some zx') : CT l yX10_back wsX10_back ({ frames := 0, cells := 0, slots := 0, locals := 0 } : Room) E [.ref (ad 0)] (wM E ad zx) (Qd none (wM E ad zx')) 0 0 :=
  CT.of (mL := 2) (lvs := [(0, .ref (ad 0))]) (by decide +kernel) rfl (Nat.le_of_ble_eq_true rfl) rfl rfl rfl (fun p e s m below meth c A C0 hA hw ls hl => kX10_back_b0 (ad := ad) C0 hA zx _ _ _ hm hw (lv_sub hl [0] rfl))
theorem lkX10_left_19 : Cond.fieldLink RX10 19 (TX10 4).1 (TX10 4).2.1 (TX10 4).2.2.1 ∈ wsX10_left := by decide +kernel
theorem lkX10_left_107 : Cond.fieldLink RX10 107 (TX10 46).1 (TX10 46).2.1 (TX10 46).2.2.1 ∈ wsX10_left := by decide +kernel
theorem lkX10_left_185 : Cond.fieldLink RX10 185 (TX10 47).1 (TX10 47).2.1 (TX10 47).2.2.1 ∈ wsX10_left := by decide +kernel
theorem lkX10_left_22 : Cond.fieldLink RX10 22 (TX10 5).1 (TX10 5).2.1 (TX10 5).2.2.1 ∈ wsX10_left := by decide +kernel
theorem lkX10_left_16 : Cond.fieldLink RX10 16 (TX10 3).1 (TX10 3).2.1 (TX10 3).2.2.1 ∈ wsX10_left := by decide +kernel
theorem lkX10_left_80 : Cond.fieldLink RX10 80 (TX10 37).1 (TX10 37).2.1 (TX10 37).2.2.1 ∈ wsX10_left := by decide +kernel
theorem hiX10_left_X10 : ∀ w ∈ u_ws RX10 TX10 53, w ∈ wsX10_left := by decide +kernel
def mX10_left_b16 (F : Nat)  : Nat → OS → Int32 → Int32 → Int32 → Option (Int32)
  | 0, _, _, _, _ => none
  | n + 1, zx, a1, a2, a3 => gd a1 52 ((if (zx.2.2.1 4 (a1 : Int32).toNatClampNeg) ≤ (a3 : Int32) then some a2 else gd ((zx.1 47) - 1) 3002 ((if (lg_cmp (((zx.2.2.2 46 ((zx.1 47) - 1 : Int32).toNatClampNeg) >>> ((a3 : Int32).toInt64 &&& 63)) &&& 1) 0 : Int32) = 0 then gd a1 52 (gd ((zx.2.2.1 3 (a1 : Int32).toNatClampNeg) + a3) 96 (nm (a2 + (zx.2.2.1 5 ((zx.2.2.1 3 (a1 : Int32).toNatClampNeg) + a3 : Int32).toNatClampNeg) : Int32) (fun v9 => nm (a3 + 1 : Int32) (fun v10 => mX10_left_b16 F n zx a1 v9 v10)))) else nm (a2 + 0 : Int32) (fun v5 => nm (a3 + 1 : Int32) (fun v6 => mX10_left_b16 F n zx a1 v5 v6))))))
def mX10_left_b0 (F : Nat)  (zx : OS) : Option (Int32) := gd ((zx.1 47) - 1) 3002 (nm (zx.2.2.1 37 ((zx.1 47) - 1 : Int32).toNatClampNeg : Int32) (fun v2 => nm (0 : Int32) (fun v3 => nm (0 : Int32) (fun v4 => mX10_left_b16 F F zx v2 v3 v4))))
def mX10_left (F : Nat) (zx : OS)  : Option (Int32) := mX10_left_b0 F zx
set_option maxRecDepth 20000 in
theorem kX10_left_b16 {p : Program} {l : Launch} {e : Env} {s : State} {m : MethodId} {args : Array Value} {below : List Frame} {meth : Method} {c : Code} {A : Nat → Prop} {E : EV} {ad : Nat → Nat} (F : Nat) {zx : OS} {r : Int32} (C0 : Cx RX10 "left" cX10_left (some .int) 4 wsX10_left p s m args meth c) (hA : Ax E A s) : ∀ (n : Nat) (a1 : Int32) (a2 : Int32) (a3 : Int32) (H : Heap) (locs : List Loc) (ls : Array Slot), mX10_left_b16 F n zx a1 a2 a3 = some r → Wd E A s H locs (wM E ad zx) → lv_has ls 4 [(0, .ref (ad 0)), (1, .int a1), (2, .int a2), (3, .int a3)] → W p l e ({ frames := 0, cells := 0, slots := 0, locals := 0 } : Room) s m args below meth c H locs 0 0 (MQ below (QG E (Qd (some (.int r)) (wM E ad zx)) A) args s 0 0 A) (F0 m 16 ls []) := by
  have hx := C0.1
  have hb := C0.2.1
  intro n
  induction n with
  | zero =>
    intro a1 a2 a3 H locs ls hm
    cases hm
  | succ n ih =>
    intro a1 a2 a3 H locs ls hm hw hl
    unfold mX10_left_b16 at hm
    refine lv_iload_n hx hb dX10_left_16 rfl (lv_at hl 3 rfl) ?_
    refine lv_aload_n hx hb dX10_left_17 rfl (lv_at hl 0 rfl) ?_
    refine gM_0_4 C0 hA hw hiX10_left_X10 lkX10_left_19 dX10_left_18 ?_
    refine lv_iload_n hx hb dX10_left_21 rfl (lv_at hl 1 rfl) ?_
    obtain ⟨c1, hm⟩ := gd_some hm
    refine lM_4 C0 hA hw c1 dX10_left_22 ?_
    refine lv_icmp_ge (tgt := 72) hx hb dX10_left_23 (by decide) (fun c2 => ?_) (fun c2 => ?_)
    · have hm := Eq.trans (if_pos c2).symm hm
      refine lv_iload_n hx hb dX10_left_72 rfl (lv_at hl 2 rfl) ?_
      obtain rfl := sj1 hm
      exact r_iret C0 hw dX10_left_73 ⟨rfl, rfl⟩
    · have hm := Eq.trans (if_neg c2).symm hm
      refine lv_iload_n hx hb dX10_left_26 rfl (lv_at hl 2 rfl) ?_
      refine lv_aload_n hx hb dX10_left_27 rfl (lv_at hl 0 rfl) ?_
      refine gM_0_46 C0 hA hw hiX10_left_X10 lkX10_left_107 dX10_left_28 ?_
      refine lv_aload_n hx hb dX10_left_31 rfl (lv_at hl 0 rfl) ?_
      refine gM_0_47 C0 hA hw hiX10_left_X10 lkX10_left_185 dX10_left_32 ?_
      refine lv_iconst (v := 1) hx hb dX10_left_35 (by decide) ?_
      refine lv_isub hx hb dX10_left_36 ?_
      obtain ⟨c3, hm⟩ := gd_some hm
      refine lM_33 C0 hA hw c3 dX10_left_37 ?_
      refine lv_iload_n hx hb dX10_left_38 rfl (lv_at hl 3 rfl) ?_
      refine lv_lshr hx hb dX10_left_39 rfl ?_
      refine lv_lconst (v := 1) hx hb dX10_left_40 (by decide) ?_
      refine lv_land hx hb dX10_left_41 ?_
      refine lv_lconst (v := 0) hx hb dX10_left_42 (by decide) ?_
      refine W.lcmp hx hb dX10_left_43 ?_
      refine lv_if_ne (tgt := 63) hx hb dX10_left_44 (by decide) (fun c4 => ?_) (fun c4 => ?_)
      · have hm := Eq.trans (if_neg c4).symm hm
        refine lv_iconst (v := 0) hx hb dX10_left_63 (by decide) ?_
        refine lv_iadd hx hb dX10_left_64 ?_
        refine lv_topi (fun v5 ev5 => ?_)
        have hm := nm_at hm ev5
        refine lv_istore_n (lv' := [(2, .int v5), (0, .ref (ad 0)), (1, .int a1), (3, .int a3)]) hx hb dX10_left_65 rfl hl (by decide) rfl (fun ls hl => ?_)
        obtain ⟨v6, ev6⟩ : ∃ y : Int32, y = a3 + 1 := ⟨_, rfl⟩
        have hm := nm_at hm ev6
        refine lv_iinc (v := v6) (lv' := [(3, .int v6), (2, .int v5), (0, .ref (ad 0)), (1, .int a1)]) hx hb dX10_left_66 hl (k := 3) rfl (by rw [ev6]; rfl) (by decide) rfl (fun ls hl => ?_)
        refine lv_goto (tgt := 16) hx hb dX10_left_69 (by decide) ?_
        exact ih a1 v5 v6 _ _ _ hm hw (lv_sub hl [2, 3, 1, 0] rfl)
      · have hm := Eq.trans (if_pos c4).symm hm
        refine lv_aload_n hx hb dX10_left_47 rfl (lv_at hl 0 rfl) ?_
        refine gM_0_5 C0 hA hw hiX10_left_X10 lkX10_left_22 dX10_left_48 ?_
        refine lv_aload_n hx hb dX10_left_51 rfl (lv_at hl 0 rfl) ?_
        refine gM_0_3 C0 hA hw hiX10_left_X10 lkX10_left_16 dX10_left_52 ?_
        refine lv_iload_n hx hb dX10_left_55 rfl (lv_at hl 1 rfl) ?_
        obtain ⟨c7, hm⟩ := gd_some hm
        refine lM_3 C0 hA hw c7 dX10_left_56 ?_
        refine lv_iload_n hx hb dX10_left_57 rfl (lv_at hl 3 rfl) ?_
        refine lv_iadd hx hb dX10_left_58 ?_
        obtain ⟨c8, hm⟩ := gd_some hm
        refine lM_5 C0 hA hw c8 dX10_left_59 ?_
        refine lv_goto (tgt := 64) hx hb dX10_left_60 (by decide) ?_
        refine lv_iadd hx hb dX10_left_64 ?_
        refine lv_topi (fun v9 ev9 => ?_)
        have hm := nm_at hm ev9
        refine lv_istore_n (lv' := [(2, .int v9), (0, .ref (ad 0)), (1, .int a1), (3, .int a3)]) hx hb dX10_left_65 rfl hl (by decide) rfl (fun ls hl => ?_)
        obtain ⟨v10, ev10⟩ : ∃ y : Int32, y = a3 + 1 := ⟨_, rfl⟩
        have hm := nm_at hm ev10
        refine lv_iinc (v := v10) (lv' := [(3, .int v10), (2, .int v9), (0, .ref (ad 0)), (1, .int a1)]) hx hb dX10_left_66 hl (k := 3) rfl (by rw [ev10]; rfl) (by decide) rfl (fun ls hl => ?_)
        refine lv_goto (tgt := 16) hx hb dX10_left_69 (by decide) ?_
        exact ih a1 v9 v10 _ _ _ hm hw (lv_sub hl [2, 3, 1, 0] rfl)
set_option maxRecDepth 20000 in
theorem kX10_left_b0 {p : Program} {l : Launch} {e : Env} {s : State} {m : MethodId} {args : Array Value} {below : List Frame} {meth : Method} {c : Code} {A : Nat → Prop} {E : EV} {ad : Nat → Nat} (F : Nat) {zx : OS} {r : Int32} (C0 : Cx RX10 "left" cX10_left (some .int) 4 wsX10_left p s m args meth c) (hA : Ax E A s) : ∀  (H : Heap) (locs : List Loc) (ls : Array Slot), mX10_left_b0 F zx = some r → Wd E A s H locs (wM E ad zx) → lv_has ls 4 [(0, .ref (ad 0))] → W p l e ({ frames := 0, cells := 0, slots := 0, locals := 0 } : Room) s m args below meth c H locs 0 0 (MQ below (QG E (Qd (some (.int r)) (wM E ad zx)) A) args s 0 0 A) (F0 m 0 ls []) := by
  have hx := C0.1
  have hb := C0.2.1
  intro  H locs ls hm hw hl
  unfold mX10_left_b0 at hm
  refine lv_aload_n hx hb dX10_left_0 rfl (lv_at hl 0 rfl) ?_
  refine gM_0_37 C0 hA hw hiX10_left_X10 lkX10_left_80 dX10_left_1 ?_
  refine lv_aload_n hx hb dX10_left_4 rfl (lv_at hl 0 rfl) ?_
  refine gM_0_47 C0 hA hw hiX10_left_X10 lkX10_left_185 dX10_left_5 ?_
  refine lv_iconst (v := 1) hx hb dX10_left_8 (by decide) ?_
  refine lv_isub hx hb dX10_left_9 ?_
  obtain ⟨c1, hm⟩ := gd_some hm
  refine lM_24 C0 hA hw c1 dX10_left_10 ?_
  refine lv_topi (fun v2 ev2 => ?_)
  have hm := nm_at hm ev2
  refine lv_istore_n (lv' := [(1, .int v2), (0, .ref (ad 0))]) hx hb dX10_left_11 rfl hl (by decide) rfl (fun ls hl => ?_)
  refine lv_iconst (v := 0) hx hb dX10_left_12 (by decide) ?_
  refine lv_topi (fun v3 ev3 => ?_)
  have hm := nm_at hm ev3
  refine lv_istore_n (lv' := [(2, .int v3), (1, .int v2), (0, .ref (ad 0))]) hx hb dX10_left_13 rfl hl (by decide) rfl (fun ls hl => ?_)
  refine lv_iconst (v := 0) hx hb dX10_left_14 (by decide) ?_
  refine lv_topi (fun v4 ev4 => ?_)
  have hm := nm_at hm ev4
  refine lv_istore_n (lv' := [(3, .int v4), (2, .int v3), (1, .int v2), (0, .ref (ad 0))]) hx hb dX10_left_15 rfl hl (by decide) rfl (fun ls hl => ?_)
  exact kX10_left_b16 F C0 hA F v2 v3 v4 _ _ _ hm hw (lv_sub hl [3, 2, 1, 0] rfl)
theorem tX10_left (l : Launch) (E : EV) (ad : Nat → Nat) (F : Nat) (zx : OS)  {r : Int32} (hm : mX10_left F zx = some r) : CT l yX10_left wsX10_left ({ frames := 0, cells := 0, slots := 0, locals := 0 } : Room) E [.ref (ad 0)] (wM E ad zx) (Qd (some (.int r)) (wM E ad zx)) 0 0 :=
  CT.of (mL := 4) (lvs := [(0, .ref (ad 0))]) (by decide +kernel) rfl (Nat.le_of_ble_eq_true rfl) rfl rfl rfl (fun p e s m below meth c A C0 hA hw ls hl => kX10_left_b0 (ad := ad) F C0 hA  _ _ _ hm hw (lv_sub hl [0] rfl))
theorem lkX10_put_74 : Cond.fieldLink RX10 74 (TX10 27).1 (TX10 27).2.1 (TX10 27).2.2.1 ∈ wsX10_put := by decide +kernel
theorem lkX10_put_209 : Cond.fieldLink RX10 209 (TX10 29).1 (TX10 29).2.1 (TX10 29).2.2.1 ∈ wsX10_put := by decide +kernel
theorem lkX10_put_77 : Cond.fieldLink RX10 77 (TX10 28).1 (TX10 28).2.1 (TX10 28).2.2.1 ∈ wsX10_put := by decide +kernel
theorem lkX10_put_188 : Cond.fieldLink RX10 188 (TX10 30).1 (TX10 30).2.1 (TX10 30).2.2.1 ∈ wsX10_put := by decide +kernel
theorem lkX10_put_191 : Cond.fieldLink RX10 191 (TX10 31).1 (TX10 31).2.1 (TX10 31).2.2.1 ∈ wsX10_put := by decide +kernel
theorem hiX10_put_X10 : ∀ w ∈ u_ws RX10 TX10 53, w ∈ wsX10_put := by decide +kernel
def mX10_put_b0  (zx : OS) (a1 : Int32) : Option (OS) := gd (zx.1 29) 40000 (nm (sA zx 27 (zx.1 29) a1) (fun zx2 => gd (zx2.1 29) 40000 (nm (sA zx2 28 (zx2.1 29) (zx2.1 30)) (fun zx4 => nm (sI zx4 30 (zx4.1 29)) (fun zx5 => nm (sI zx5 29 ((zx5.1 29) + 1)) (fun zx6 => nm (sI zx6 31 ((zx6.1 31) + 1)) (fun zx7 => some zx7)))))))
def mX10_put (zx : OS) (a1 : Int32) : Option (OS) := mX10_put_b0 zx a1
set_option maxRecDepth 20000 in
theorem kX10_put_b0 {p : Program} {l : Launch} {e : Env} {s : State} {m : MethodId} {args : Array Value} {below : List Frame} {meth : Method} {c : Code} {A : Nat → Prop} {E : EV} {ad : Nat → Nat}  {zx' : OS} (C0 : Cx RX10 "put" cX10_put (none) 2 wsX10_put p s m args meth c) (hA : Ax E A s) : ∀ (zx : OS) (a1 : Int32) (H : Heap) (locs : List Loc) (ls : Array Slot), mX10_put_b0 zx a1 = some zx' → Wd E A s H locs (wM E ad zx) → lv_has ls 2 [(0, .ref (ad 0)), (1, .int a1)] → W p l e ({ frames := 0, cells := 0, slots := 0, locals := 0 } : Room) s m args below meth c H locs 0 0 (MQ below (QG E (Qd none (wM E ad zx')) A) args s 0 0 A) (F0 m 0 ls []) := by
  have hx := C0.1
  have hb := C0.2.1
  intro zx a1 H locs ls hm hw hl
  unfold mX10_put_b0 at hm
  refine lv_aload_n hx hb dX10_put_0 rfl (lv_at hl 0 rfl) ?_
  refine gM_0_27 C0 hA hw hiX10_put_X10 lkX10_put_74 dX10_put_1 ?_
  refine lv_aload_n hx hb dX10_put_4 rfl (lv_at hl 0 rfl) ?_
  refine gM_0_29 C0 hA hw hiX10_put_X10 lkX10_put_209 dX10_put_5 ?_
  refine lv_iload_n hx hb dX10_put_8 rfl (lv_at hl 1 rfl) ?_
  obtain ⟨c1, hm⟩ := gd_some hm
  refine sM_22 C0 hA hw c1 dX10_put_9 (fun zx2 ezx2 H locs hw => ?_)
  have hm := nm_at hm ezx2
  refine lv_aload_n hx hb dX10_put_10 rfl (lv_at hl 0 rfl) ?_
  refine gM_0_28 C0 hA hw hiX10_put_X10 lkX10_put_77 dX10_put_11 ?_
  refine lv_aload_n hx hb dX10_put_14 rfl (lv_at hl 0 rfl) ?_
  refine gM_0_29 C0 hA hw hiX10_put_X10 lkX10_put_209 dX10_put_15 ?_
  refine lv_aload_n hx hb dX10_put_18 rfl (lv_at hl 0 rfl) ?_
  refine gM_0_30 C0 hA hw hiX10_put_X10 lkX10_put_188 dX10_put_19 ?_
  obtain ⟨c3, hm⟩ := gd_some hm
  refine sM_23 C0 hA hw c3 dX10_put_22 (fun zx4 ezx4 H locs hw => ?_)
  have hm := nm_at hm ezx4
  refine lv_aload_n hx hb dX10_put_23 rfl (lv_at hl 0 rfl) ?_
  refine lv_aload_n hx hb dX10_put_24 rfl (lv_at hl 0 rfl) ?_
  refine gM_0_29 C0 hA hw hiX10_put_X10 lkX10_put_209 dX10_put_25 ?_
  refine pM_0_30 C0 hA hw hiX10_put_X10 lkX10_put_188 dX10_put_28 (fun zx5 ezx5 H locs hw => ?_)
  have hm := nm_at hm ezx5
  refine lv_aload_n hx hb dX10_put_31 rfl (lv_at hl 0 rfl) ?_
  refine lv_dup hx hb dX10_put_32 rfl ?_
  refine gM_0_29 C0 hA hw hiX10_put_X10 lkX10_put_209 dX10_put_33 ?_
  refine lv_iconst (v := 1) hx hb dX10_put_36 (by decide) ?_
  refine lv_iadd hx hb dX10_put_37 ?_
  refine pM_0_29 C0 hA hw hiX10_put_X10 lkX10_put_209 dX10_put_38 (fun zx6 ezx6 H locs hw => ?_)
  have hm := nm_at hm ezx6
  refine lv_aload_n hx hb dX10_put_41 rfl (lv_at hl 0 rfl) ?_
  refine lv_dup hx hb dX10_put_42 rfl ?_
  refine gM_0_31 C0 hA hw hiX10_put_X10 lkX10_put_191 dX10_put_43 ?_
  refine lv_iconst (v := 1) hx hb dX10_put_46 (by decide) ?_
  refine lv_iadd hx hb dX10_put_47 ?_
  refine pM_0_31 C0 hA hw hiX10_put_X10 lkX10_put_191 dX10_put_48 (fun zx7 ezx7 H locs hw => ?_)
  have hm := nm_at hm ezx7
  obtain rfl := sj1 hm
  exact r_vret C0 hw dX10_put_51 ⟨rfl, rfl⟩
theorem tX10_put (l : Launch) (E : EV) (ad : Nat → Nat) (zx : OS) (a1 : Int32) {zx' : OS} (hm : mX10_put zx a1 = some zx') : CT l yX10_put wsX10_put ({ frames := 0, cells := 0, slots := 0, locals := 0 } : Room) E [.ref (ad 0), .int a1] (wM E ad zx) (Qd none (wM E ad zx')) 0 0 :=
  CT.of (mL := 2) (lvs := [(0, .ref (ad 0)), (1, .int a1)]) (by decide +kernel) rfl (Nat.le_of_ble_eq_true rfl) rfl rfl rfl (fun p e s m below meth c A C0 hA hw ls hl => kX10_put_b0 (ad := ad) C0 hA zx a1 _ _ _ hm hw (lv_sub hl [0, 1] rfl))
theorem lkX10_choose_191 : Cond.fieldLink RX10 191 (TX10 31).1 (TX10 31).2.1 (TX10 31).2.2.1 ∈ wsX10_choose := by decide +kernel
theorem lkX10_choose_25 : Cond.fieldLink RX10 25 (TX10 6).1 (TX10 6).2.1 (TX10 6).2.2.1 ∈ wsX10_choose := by decide +kernel
theorem lkX10_choose_107 : Cond.fieldLink RX10 107 (TX10 46).1 (TX10 46).2.1 (TX10 46).2.2.1 ∈ wsX10_choose := by decide +kernel
theorem lkX10_choose_185 : Cond.fieldLink RX10 185 (TX10 47).1 (TX10 47).2.1 (TX10 47).2.2.1 ∈ wsX10_choose := by decide +kernel
theorem lkX10_choose_16 : Cond.fieldLink RX10 16 (TX10 3).1 (TX10 3).2.1 (TX10 3).2.2.1 ∈ wsX10_choose := by decide +kernel
theorem lkX10_choose_28 : Cond.fieldLink RX10 28 (TX10 7).1 (TX10 7).2.1 (TX10 7).2.2.1 ∈ wsX10_choose := by decide +kernel
theorem lkX10_choose_19 : Cond.fieldLink RX10 19 (TX10 4).1 (TX10 4).2.1 (TX10 4).2.2.1 ∈ wsX10_choose := by decide +kernel
theorem lkX10_choose_22 : Cond.fieldLink RX10 22 (TX10 5).1 (TX10 5).2.1 (TX10 5).2.2.1 ∈ wsX10_choose := by decide +kernel
theorem lkX10_choose_80 : Cond.fieldLink RX10 80 (TX10 37).1 (TX10 37).2.1 (TX10 37).2.2.1 ∈ wsX10_choose := by decide +kernel
theorem lkX10_choose_212 : Cond.fieldLink RX10 212 (TX10 25).1 (TX10 25).2.1 (TX10 25).2.2.1 ∈ wsX10_choose := by decide +kernel
theorem hiX10_choose_X10 : ∀ w ∈ u_ws RX10 TX10 53, w ∈ wsX10_choose := by decide +kernel
def mX10_choose_b147 (F : Nat)  : Nat → OS → Int32 → Int32 → Option (Int32 × OS)
  | 0, _, _, _ => none
  | n + 1, zx, a5, a6 => (if (a6 : Int32) < 0 then (if 200 < (zx.1 31 : Int32) then some (0, zx) else some (1, zx)) else gd a5 96 (b1 (mX10_put zx ((zx.2.2.1 6 (a5 : Int32).toNatClampNeg) + a6)) (fun zx4 => nm (a6 + (-1) : Int32) (fun v6 => mX10_choose_b147 F n zx4 a5 v6))))
def mX10_choose_b107 (F : Nat)  (zx : OS) (a2 : Int32) (a4 : Int32) : Option (Int32 × OS) := gd ((zx.1 47) - 1) 3002 (gd ((zx.1 47) - 1) 3002 (nm (sB zx 46 ((zx.1 47) - 1) ((zx.2.2.2 46 ((zx.1 47) - 1 : Int32).toNatClampNeg) ||| (1 <<< ((a4 : Int32).toInt64 &&& 63)))) (fun zx3 => gd a2 52 (nm ((zx3.2.2.1 3 (a2 : Int32).toNatClampNeg) + a4 : Int32) (fun v5 => gd v5 96 (nm ((zx3.2.2.1 7 (v5 : Int32).toNatClampNeg) - 1 : Int32) (fun v7 => mX10_choose_b147 F F zx3 v5 v7)))))))
def mX10_choose_b34 (F : Nat)  : Nat → OS → Int32 → Int32 → Int32 → Int32 → Option (Int32 × OS)
  | 0, _, _, _, _, _ => none
  | n + 1, zx, a2, a3, a4, a5 => gd a2 52 ((if (zx.2.2.1 4 (a2 : Int32).toNatClampNeg) ≤ (a5 : Int32) then mX10_choose_b107 F zx a2 a4 else (if 0 ≤ (a4 : Int32) then mX10_choose_b107 F zx a2 a4 else gd ((zx.1 47) - 1) 3002 ((if (lg_cmp (((zx.2.2.2 46 ((zx.1 47) - 1 : Int32).toNatClampNeg) >>> ((a5 : Int32).toInt64 &&& 63)) &&& 1) 0 : Int32) = 0 then gd a2 52 (gd ((zx.2.2.1 3 (a2 : Int32).toNatClampNeg) + a5) 96 (nm (a3 - (zx.2.2.1 5 ((zx.2.2.1 3 (a2 : Int32).toNatClampNeg) + a5 : Int32).toNatClampNeg) : Int32) (fun v9 => (if 0 ≤ (v9 : Int32) then nm (a5 + 1 : Int32) (fun v11 => mX10_choose_b34 F n zx a2 v9 a4 v11) else nm (a5 + 1 : Int32) (fun v12 => mX10_choose_b34 F n zx a2 v9 a5 v12))))) else nm (a5 + 1 : Int32) (fun v6 => mX10_choose_b34 F n zx a2 a3 a4 v6))))))
def mX10_choose_b0 (F : Nat)  (zx : OS) (a1 : Int32) : Option (Int32 × OS) := gd ((zx.1 47) - 1) 3002 (nm (zx.2.2.1 37 ((zx.1 47) - 1 : Int32).toNatClampNeg : Int32) (fun v2 => b2 (mX10_drawBelow F zx a1) (fun r3 zx4 => nm (sI zx4 25 ((zx4.1 25) + 1)) (fun zx6 => nm ((-1) : Int32) (fun v7 => nm (0 : Int32) (fun v8 => mX10_choose_b34 F F zx6 v2 r3 v7 v8))))))
def mX10_choose (F : Nat) (zx : OS) (a1 : Int32) : Option (Int32 × OS) := mX10_choose_b0 F zx a1
set_option maxRecDepth 20000 in
theorem kX10_choose_b147 {p : Program} {l : Launch} {e : Env} {s : State} {m : MethodId} {args : Array Value} {below : List Frame} {meth : Method} {c : Code} {A : Nat → Prop} {E : EV} {ad : Nat → Nat} (F : Nat)  {r : Int32} {zx' : OS} (C0 : Cx RX10 "choose" cX10_choose (some .boolean) 7 wsX10_choose p s m args meth c) (hA : Ax E A s) : ∀ (n : Nat) (zx : OS) (a5 : Int32) (a6 : Int32) (H : Heap) (locs : List Loc) (ls : Array Slot), mX10_choose_b147 F n zx a5 a6 = some (r, zx') → Wd E A s H locs (wM E ad zx) → lv_has ls 7 [(0, .ref (ad 0)), (5, .int a5), (6, .int a6)] → W p l e ({ frames := 2, cells := 0, slots := 0, locals := 47 } : Room) s m args below meth c H locs 0 0 (MQ below (QG E (Qd (some (.int r)) (wM E ad zx')) A) args s 0 0 A) (F0 m 147 ls []) := by
  have hx := C0.1
  have hb := C0.2.1
  intro n
  induction n with
  | zero =>
    intro zx a5 a6 H locs ls hm
    cases hm
  | succ n ih =>
    intro zx a5 a6 H locs ls hm hw hl
    unfold mX10_choose_b147 at hm
    refine lv_iload hx hb dX10_choose_147 (lv_at hl 2 rfl) ?_
    refine lv_if_lt (tgt := 172) hx hb dX10_choose_149 (by decide) (fun c1 => ?_) (fun c1 => ?_)
    · have hm := Eq.trans (if_pos c1).symm hm
      refine lv_aload_n hx hb dX10_choose_172 rfl (lv_at hl 0 rfl) ?_
      refine gM_0_31 C0 hA hw hiX10_choose_X10 lkX10_choose_191 dX10_choose_173 ?_
      refine lv_sipush (v := 200) hx hb dX10_choose_176 (by decide) ?_
      refine lv_icmp_gt (tgt := 186) hx hb dX10_choose_179 (by decide) (fun c2 => ?_) (fun c2 => ?_)
      · have hm := Eq.trans (if_pos c2).symm hm
        refine lv_iconst (v := 0) hx hb dX10_choose_186 (by decide) ?_
        obtain ⟨rfl, rfl⟩ := sj2 hm
        exact r_zret C0 hw dX10_choose_187 rfl ⟨rfl, rfl⟩
      · have hm := Eq.trans (if_neg c2).symm hm
        refine lv_iconst (v := 1) hx hb dX10_choose_182 (by decide) ?_
        refine lv_goto (tgt := 187) hx hb dX10_choose_183 (by decide) ?_
        obtain ⟨rfl, rfl⟩ := sj2 hm
        exact r_zret C0 hw dX10_choose_187 rfl ⟨rfl, rfl⟩
    · have hm := Eq.trans (if_neg c1).symm hm
      refine lv_aload_n hx hb dX10_choose_152 rfl (lv_at hl 0 rfl) ?_
      refine lv_aload_n hx hb dX10_choose_153 rfl (lv_at hl 0 rfl) ?_
      refine gM_0_6 C0 hA hw hiX10_choose_X10 lkX10_choose_25 dX10_choose_154 ?_
      refine lv_iload hx hb dX10_choose_157 (lv_at hl 1 rfl) ?_
      obtain ⟨c3, hm⟩ := gd_some hm
      refine lM_6 C0 hA hw c3 dX10_choose_159 ?_
      refine lv_iload hx hb dX10_choose_160 (lv_at hl 2 rfl) ?_
      refine lv_iadd hx hb dX10_choose_162 ?_
      obtain ⟨zx4, h5, hm⟩ := b1_some hm
      refine r_backS (va_runV (As := [.int ((zx.2.2.1 6 (a5 : Int32).toNatClampNeg) + a6)]) (rest := []) ⟨hx, hb, C0.2.2.2.1, C0.2.2.2.2.1, C0.2.2.2.2.2.1⟩ (tX10_put l E ad zx ((zx.2.2.1 6 (a5 : Int32).toNatClampNeg) + a6) h5 H.size) (cwV 1 C0.2.2.2.2.2.1 gX10_choose_X10_put rfl rfl rfl (by decide +kernel) ⟨Nat.le_of_ble_eq_true rfl, Nat.le_of_ble_eq_true rfl⟩) ⟨PG_blind, va_recv hA.2.2.1.1 hw.1 (ci := 10) (q0 := 0) rfl rfl, pg_self hA hw⟩ rfl rfl hl.1 rfl (lv_room (Nat.le_of_ble_eq_true rfl)) dX10_choose_163 ⟨Nat.zero_le _, Nat.zero_le _⟩) hA hw (fun H locs hw => ?_)
      obtain ⟨v6, ev6⟩ : ∃ y : Int32, y = a6 + (-1) := ⟨_, rfl⟩
      have hm := nm_at hm ev6
      refine lv_iinc (v := v6) (lv' := [(6, .int v6), (0, .ref (ad 0)), (5, .int a5)]) hx hb dX10_choose_166 hl (k := 2) rfl (by rw [ev6]; rfl) (by decide) rfl (fun ls hl => ?_)
      refine lv_goto (tgt := 147) hx hb dX10_choose_169 (by decide) ?_
      exact ih zx4 a5 v6 _ _ _ hm hw (lv_sub hl [1, 2, 0] rfl)
set_option maxRecDepth 20000 in
theorem kX10_choose_b107 {p : Program} {l : Launch} {e : Env} {s : State} {m : MethodId} {args : Array Value} {below : List Frame} {meth : Method} {c : Code} {A : Nat → Prop} {E : EV} {ad : Nat → Nat} (F : Nat)  {r : Int32} {zx' : OS} (C0 : Cx RX10 "choose" cX10_choose (some .boolean) 7 wsX10_choose p s m args meth c) (hA : Ax E A s) : ∀ (zx : OS) (a2 : Int32) (a4 : Int32) (H : Heap) (locs : List Loc) (ls : Array Slot), mX10_choose_b107 F zx a2 a4 = some (r, zx') → Wd E A s H locs (wM E ad zx) → lv_has ls 7 [(0, .ref (ad 0)), (2, .int a2), (4, .int a4)] → W p l e ({ frames := 2, cells := 0, slots := 0, locals := 47 } : Room) s m args below meth c H locs 0 0 (MQ below (QG E (Qd (some (.int r)) (wM E ad zx')) A) args s 0 0 A) (F0 m 107 ls []) := by
  have hx := C0.1
  have hb := C0.2.1
  intro zx a2 a4 H locs ls hm hw hl
  unfold mX10_choose_b107 at hm
  refine lv_aload_n hx hb dX10_choose_107 rfl (lv_at hl 0 rfl) ?_
  refine gM_0_46 C0 hA hw hiX10_choose_X10 lkX10_choose_107 dX10_choose_108 ?_
  refine lv_aload_n hx hb dX10_choose_111 rfl (lv_at hl 0 rfl) ?_
  refine gM_0_47 C0 hA hw hiX10_choose_X10 lkX10_choose_185 dX10_choose_112 ?_
  refine lv_iconst (v := 1) hx hb dX10_choose_115 (by decide) ?_
  refine lv_isub hx hb dX10_choose_116 ?_
  refine lv_dup2_11 hx hb dX10_choose_117 rfl rfl ?_
  obtain ⟨c1, hm⟩ := gd_some hm
  refine lM_33 C0 hA hw c1 dX10_choose_118 ?_
  refine lv_lconst (v := 1) hx hb dX10_choose_119 (by decide) ?_
  refine lv_iload hx hb dX10_choose_120 (lv_at hl 2 rfl) ?_
  refine lv_lshl hx hb dX10_choose_122 rfl ?_
  refine lv_lor hx hb dX10_choose_123 ?_
  obtain ⟨c2, hm⟩ := gd_some hm
  refine sM_33 C0 hA hw c2 dX10_choose_124 (fun zx3 ezx3 H locs hw => ?_)
  have hm := nm_at hm ezx3
  refine lv_aload_n hx hb dX10_choose_125 rfl (lv_at hl 0 rfl) ?_
  refine gM_0_3 C0 hA hw hiX10_choose_X10 lkX10_choose_16 dX10_choose_126 ?_
  refine lv_iload_n hx hb dX10_choose_129 rfl (lv_at hl 1 rfl) ?_
  obtain ⟨c4, hm⟩ := gd_some hm
  refine lM_3 C0 hA hw c4 dX10_choose_130 ?_
  refine lv_iload hx hb dX10_choose_131 (lv_at hl 2 rfl) ?_
  refine lv_iadd hx hb dX10_choose_133 ?_
  refine lv_topi (fun v5 ev5 => ?_)
  have hm := nm_at hm ev5
  refine lv_istore (lv' := [(5, .int v5), (0, .ref (ad 0)), (2, .int a2), (4, .int a4)]) hx hb dX10_choose_134 hl (by decide) rfl (fun ls hl => ?_)
  refine lv_aload_n hx hb dX10_choose_136 rfl (lv_at hl 1 rfl) ?_
  refine gM_0_7 C0 hA hw hiX10_choose_X10 lkX10_choose_28 dX10_choose_137 ?_
  refine lv_iload hx hb dX10_choose_140 (lv_at hl 0 rfl) ?_
  obtain ⟨c6, hm⟩ := gd_some hm
  refine lM_7 C0 hA hw c6 dX10_choose_142 ?_
  refine lv_iconst (v := 1) hx hb dX10_choose_143 (by decide) ?_
  refine lv_isub hx hb dX10_choose_144 ?_
  refine lv_topi (fun v7 ev7 => ?_)
  have hm := nm_at hm ev7
  refine lv_istore (lv' := [(6, .int v7), (5, .int v5), (0, .ref (ad 0)), (2, .int a2), (4, .int a4)]) hx hb dX10_choose_145 hl (by decide) rfl (fun ls hl => ?_)
  exact kX10_choose_b147 F C0 hA F zx3 v5 v7 _ _ _ hm hw (lv_sub hl [2, 1, 0] rfl)
set_option maxRecDepth 20000 in
theorem kX10_choose_b34 {p : Program} {l : Launch} {e : Env} {s : State} {m : MethodId} {args : Array Value} {below : List Frame} {meth : Method} {c : Code} {A : Nat → Prop} {E : EV} {ad : Nat → Nat} (F : Nat)  {r : Int32} {zx' : OS} (C0 : Cx RX10 "choose" cX10_choose (some .boolean) 7 wsX10_choose p s m args meth c) (hA : Ax E A s) : ∀ (n : Nat) (zx : OS) (a2 : Int32) (a3 : Int32) (a4 : Int32) (a5 : Int32) (H : Heap) (locs : List Loc) (ls : Array Slot), mX10_choose_b34 F n zx a2 a3 a4 a5 = some (r, zx') → Wd E A s H locs (wM E ad zx) → lv_has ls 7 [(0, .ref (ad 0)), (2, .int a2), (3, .int a3), (4, .int a4), (5, .int a5)] → W p l e ({ frames := 2, cells := 0, slots := 0, locals := 47 } : Room) s m args below meth c H locs 0 0 (MQ below (QG E (Qd (some (.int r)) (wM E ad zx')) A) args s 0 0 A) (F0 m 34 ls []) := by
  have hx := C0.1
  have hb := C0.2.1
  intro n
  induction n with
  | zero =>
    intro zx a2 a3 a4 a5 H locs ls hm
    cases hm
  | succ n ih =>
    intro zx a2 a3 a4 a5 H locs ls hm hw hl
    unfold mX10_choose_b34 at hm
    refine lv_iload hx hb dX10_choose_34 (lv_at hl 4 rfl) ?_
    refine lv_aload_n hx hb dX10_choose_36 rfl (lv_at hl 0 rfl) ?_
    refine gM_0_4 C0 hA hw hiX10_choose_X10 lkX10_choose_19 dX10_choose_37 ?_
    refine lv_iload_n hx hb dX10_choose_40 rfl (lv_at hl 1 rfl) ?_
    obtain ⟨c1, hm⟩ := gd_some hm
    refine lM_4 C0 hA hw c1 dX10_choose_41 ?_
    refine lv_icmp_ge (tgt := 107) hx hb dX10_choose_42 (by decide) (fun c2 => ?_) (fun c2 => ?_)
    · have hm := Eq.trans (if_pos c2).symm hm
      exact kX10_choose_b107 F C0 hA zx a2 a4 _ _ _ hm hw (lv_sub hl [0, 1, 3] rfl)
    · have hm := Eq.trans (if_neg c2).symm hm
      refine lv_iload hx hb dX10_choose_45 (lv_at hl 3 rfl) ?_
      refine lv_if_ge (tgt := 107) hx hb dX10_choose_47 (by decide) (fun c3 => ?_) (fun c3 => ?_)
      · have hm := Eq.trans (if_pos c3).symm hm
        exact kX10_choose_b107 F C0 hA zx a2 a4 _ _ _ hm hw (lv_sub hl [0, 1, 3] rfl)
      · have hm := Eq.trans (if_neg c3).symm hm
        refine lv_aload_n hx hb dX10_choose_50 rfl (lv_at hl 0 rfl) ?_
        refine gM_0_46 C0 hA hw hiX10_choose_X10 lkX10_choose_107 dX10_choose_51 ?_
        refine lv_aload_n hx hb dX10_choose_54 rfl (lv_at hl 0 rfl) ?_
        refine gM_0_47 C0 hA hw hiX10_choose_X10 lkX10_choose_185 dX10_choose_55 ?_
        refine lv_iconst (v := 1) hx hb dX10_choose_58 (by decide) ?_
        refine lv_isub hx hb dX10_choose_59 ?_
        obtain ⟨c4, hm⟩ := gd_some hm
        refine lM_33 C0 hA hw c4 dX10_choose_60 ?_
        refine lv_iload hx hb dX10_choose_61 (lv_at hl 4 rfl) ?_
        refine lv_lshr hx hb dX10_choose_63 rfl ?_
        refine lv_lconst (v := 1) hx hb dX10_choose_64 (by decide) ?_
        refine lv_land hx hb dX10_choose_65 ?_
        refine lv_lconst (v := 0) hx hb dX10_choose_66 (by decide) ?_
        refine W.lcmp hx hb dX10_choose_67 ?_
        refine lv_if_ne (tgt := 101) hx hb dX10_choose_68 (by decide) (fun c5 => ?_) (fun c5 => ?_)
        · have hm := Eq.trans (if_neg c5).symm hm
          obtain ⟨v6, ev6⟩ : ∃ y : Int32, y = a5 + 1 := ⟨_, rfl⟩
          have hm := nm_at hm ev6
          refine lv_iinc (v := v6) (lv' := [(5, .int v6), (0, .ref (ad 0)), (2, .int a2), (3, .int a3), (4, .int a4)]) hx hb dX10_choose_101 hl (k := 4) rfl (by rw [ev6]; rfl) (by decide) rfl (fun ls hl => ?_)
          refine lv_goto (tgt := 34) hx hb dX10_choose_104 (by decide) ?_
          exact ih zx a2 a3 a4 v6 _ _ _ hm hw (lv_sub hl [1, 2, 3, 4, 0] rfl)
        · have hm := Eq.trans (if_pos c5).symm hm
          refine lv_iload_n hx hb dX10_choose_71 rfl (lv_at hl 2 rfl) ?_
          refine lv_aload_n hx hb dX10_choose_72 rfl (lv_at hl 0 rfl) ?_
          refine gM_0_5 C0 hA hw hiX10_choose_X10 lkX10_choose_22 dX10_choose_73 ?_
          refine lv_aload_n hx hb dX10_choose_76 rfl (lv_at hl 0 rfl) ?_
          refine gM_0_3 C0 hA hw hiX10_choose_X10 lkX10_choose_16 dX10_choose_77 ?_
          refine lv_iload_n hx hb dX10_choose_80 rfl (lv_at hl 1 rfl) ?_
          obtain ⟨c7, hm⟩ := gd_some hm
          refine lM_3 C0 hA hw c7 dX10_choose_81 ?_
          refine lv_iload hx hb dX10_choose_82 (lv_at hl 4 rfl) ?_
          refine lv_iadd hx hb dX10_choose_84 ?_
          obtain ⟨c8, hm⟩ := gd_some hm
          refine lM_5 C0 hA hw c8 dX10_choose_85 ?_
          refine lv_isub hx hb dX10_choose_86 ?_
          refine lv_topi (fun v9 ev9 => ?_)
          have hm := nm_at hm ev9
          refine lv_istore_n (lv' := [(3, .int v9), (0, .ref (ad 0)), (2, .int a2), (4, .int a4), (5, .int a5)]) hx hb dX10_choose_87 rfl hl (by decide) rfl (fun ls hl => ?_)
          refine lv_iload_n hx hb dX10_choose_88 rfl (lv_at hl 0 rfl) ?_
          refine lv_if_ge (tgt := 97) hx hb dX10_choose_89 (by decide) (fun c10 => ?_) (fun c10 => ?_)
          · have hm := Eq.trans (if_pos c10).symm hm
            refine lv_iload hx hb dX10_choose_97 (lv_at hl 3 rfl) ?_
            refine lv_istore (lv' := [(4, .int a4), (3, .int v9), (0, .ref (ad 0)), (2, .int a2), (5, .int a5)]) hx hb dX10_choose_99 hl (by decide) rfl (fun ls hl => ?_)
            obtain ⟨v11, ev11⟩ : ∃ y : Int32, y = a5 + 1 := ⟨_, rfl⟩
            have hm := nm_at hm ev11
            refine lv_iinc (v := v11) (lv' := [(5, .int v11), (4, .int a4), (3, .int v9), (0, .ref (ad 0)), (2, .int a2)]) hx hb dX10_choose_101 hl (k := 4) rfl (by rw [ev11]; rfl) (by decide) rfl (fun ls hl => ?_)
            refine lv_goto (tgt := 34) hx hb dX10_choose_104 (by decide) ?_
            exact ih zx a2 v9 a4 v11 _ _ _ hm hw (lv_sub hl [3, 4, 2, 1, 0] rfl)
          · have hm := Eq.trans (if_neg c10).symm hm
            refine lv_iload hx hb dX10_choose_92 (lv_at hl 4 rfl) ?_
            refine lv_goto (tgt := 99) hx hb dX10_choose_94 (by decide) ?_
            refine lv_istore (lv' := [(4, .int a5), (3, .int v9), (0, .ref (ad 0)), (2, .int a2), (5, .int a5)]) hx hb dX10_choose_99 hl (by decide) rfl (fun ls hl => ?_)
            obtain ⟨v12, ev12⟩ : ∃ y : Int32, y = a5 + 1 := ⟨_, rfl⟩
            have hm := nm_at hm ev12
            refine lv_iinc (v := v12) (lv' := [(5, .int v12), (4, .int a5), (3, .int v9), (0, .ref (ad 0)), (2, .int a2)]) hx hb dX10_choose_101 hl (k := 4) rfl (by rw [ev12]; rfl) (by decide) rfl (fun ls hl => ?_)
            refine lv_goto (tgt := 34) hx hb dX10_choose_104 (by decide) ?_
            exact ih zx a2 v9 a5 v12 _ _ _ hm hw (lv_sub hl [3, 4, 2, 1, 0] rfl)
set_option maxRecDepth 20000 in
theorem kX10_choose_b0 {p : Program} {l : Launch} {e : Env} {s : State} {m : MethodId} {args : Array Value} {below : List Frame} {meth : Method} {c : Code} {A : Nat → Prop} {E : EV} {ad : Nat → Nat} (F : Nat)  {r : Int32} {zx' : OS} (C0 : Cx RX10 "choose" cX10_choose (some .boolean) 7 wsX10_choose p s m args meth c) (hA : Ax E A s) : ∀ (zx : OS) (a1 : Int32) (H : Heap) (locs : List Loc) (ls : Array Slot), mX10_choose_b0 F zx a1 = some (r, zx') → Wd E A s H locs (wM E ad zx) → lv_has ls 7 [(0, .ref (ad 0)), (1, .int a1)] → W p l e ({ frames := 2, cells := 0, slots := 0, locals := 47 } : Room) s m args below meth c H locs 0 0 (MQ below (QG E (Qd (some (.int r)) (wM E ad zx')) A) args s 0 0 A) (F0 m 0 ls []) := by
  have hx := C0.1
  have hb := C0.2.1
  intro zx a1 H locs ls hm hw hl
  unfold mX10_choose_b0 at hm
  refine lv_aload_n hx hb dX10_choose_0 rfl (lv_at hl 0 rfl) ?_
  refine gM_0_37 C0 hA hw hiX10_choose_X10 lkX10_choose_80 dX10_choose_1 ?_
  refine lv_aload_n hx hb dX10_choose_4 rfl (lv_at hl 0 rfl) ?_
  refine gM_0_47 C0 hA hw hiX10_choose_X10 lkX10_choose_185 dX10_choose_5 ?_
  refine lv_iconst (v := 1) hx hb dX10_choose_8 (by decide) ?_
  refine lv_isub hx hb dX10_choose_9 ?_
  obtain ⟨c1, hm⟩ := gd_some hm
  refine lM_24 C0 hA hw c1 dX10_choose_10 ?_
  refine lv_topi (fun v2 ev2 => ?_)
  have hm := nm_at hm ev2
  refine lv_istore_n (lv' := [(2, .int v2), (0, .ref (ad 0)), (1, .int a1)]) hx hb dX10_choose_11 rfl hl (by decide) rfl (fun ls hl => ?_)
  refine lv_aload_n hx hb dX10_choose_12 rfl (lv_at hl 1 rfl) ?_
  refine lv_iload_n hx hb dX10_choose_13 rfl (lv_at hl 2 rfl) ?_
  obtain ⟨r3, zx4, h5, hm⟩ := b2_some hm
  refine r_backS (va_runV (As := [.int a1]) (rest := []) ⟨hx, hb, C0.2.2.2.1, C0.2.2.2.2.1, C0.2.2.2.2.2.1⟩ (tX10_drawBelow l E ad F zx a1 h5 H.size) (cwV 1 C0.2.2.2.2.2.1 gX10_choose_X10_drawBelow rfl rfl rfl (by decide +kernel) ⟨Nat.le_of_ble_eq_true rfl, Nat.le_of_ble_eq_true rfl⟩) ⟨PG_blind, va_recv hA.2.2.1.1 hw.1 (ci := 10) (q0 := 0) rfl rfl, pg_self hA hw⟩ rfl rfl hl.1 rfl (lv_room (Nat.le_of_ble_eq_true rfl)) dX10_choose_14 ⟨Nat.zero_le _, Nat.zero_le _⟩) hA hw (fun H locs hw => ?_)
  refine lv_istore_n (lv' := [(3, .int r3), (2, .int v2), (0, .ref (ad 0)), (1, .int a1)]) hx hb dX10_choose_17 rfl hl (by decide) rfl (fun ls hl => ?_)
  refine lv_aload_n hx hb dX10_choose_18 rfl (lv_at hl 2 rfl) ?_
  refine lv_dup hx hb dX10_choose_19 rfl ?_
  refine gM_0_25 C0 hA hw hiX10_choose_X10 lkX10_choose_212 dX10_choose_20 ?_
  refine lv_iconst (v := 1) hx hb dX10_choose_23 (by decide) ?_
  refine lv_iadd hx hb dX10_choose_24 ?_
  refine pM_0_25 C0 hA hw hiX10_choose_X10 lkX10_choose_212 dX10_choose_25 (fun zx6 ezx6 H locs hw => ?_)
  have hm := nm_at hm ezx6
  refine lv_iconst (v := (-1)) hx hb dX10_choose_28 (by decide) ?_
  refine lv_topi (fun v7 ev7 => ?_)
  have hm := nm_at hm ev7
  refine lv_istore (lv' := [(4, .int v7), (3, .int r3), (2, .int v2), (0, .ref (ad 0)), (1, .int a1)]) hx hb dX10_choose_29 hl (by decide) rfl (fun ls hl => ?_)
  refine lv_iconst (v := 0) hx hb dX10_choose_31 (by decide) ?_
  refine lv_topi (fun v8 ev8 => ?_)
  have hm := nm_at hm ev8
  refine lv_istore (lv' := [(5, .int v8), (4, .int v7), (3, .int r3), (2, .int v2), (0, .ref (ad 0)), (1, .int a1)]) hx hb dX10_choose_32 hl (by decide) rfl (fun ls hl => ?_)
  exact kX10_choose_b34 F C0 hA F zx6 v2 r3 v7 v8 _ _ _ hm hw (lv_sub hl [4, 3, 2, 1, 0] rfl)
theorem tX10_choose (l : Launch) (E : EV) (ad : Nat → Nat) (F : Nat) (zx : OS) (a1 : Int32) {r : Int32} {zx' : OS} (hm : mX10_choose F zx a1 = some (r, zx')) : CT l yX10_choose wsX10_choose ({ frames := 2, cells := 0, slots := 0, locals := 47 } : Room) E [.ref (ad 0), .int a1] (wM E ad zx) (Qd (some (.int r)) (wM E ad zx')) 0 0 :=
  CT.of (mL := 7) (lvs := [(0, .ref (ad 0)), (1, .int a1)]) (by decide +kernel) rfl (Nat.le_of_ble_eq_true rfl) rfl rfl rfl (fun p e s m below meth c A C0 hA hw ls hl => kX10_choose_b0 (ad := ad) F C0 hA zx a1 _ _ _ hm hw (lv_sub hl [0, 1] rfl))

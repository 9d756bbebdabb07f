def mX8_pitchOf_b0  (a0 : Int32) (a1 : Int32) : Option (Int32) := b1 (mX9_isWithin a0 0 6) (fun r1 => (if (r1 : Int32) = 0 then some (-1) else gd a0 7 (some ((stPi (a0 : Int32).toNatClampNeg) + (12 * a1)))))
def mX8_pitchOf  (a0 : Int32) (a1 : Int32) : Option (Int32) := mX8_pitchOf_b0 a0 a1
set_option maxRecDepth 20000 in
theorem kX8_pitchOf_b0 {p : Program} {l : Launch} {e : Env} {s : State} {m : MethodId} {args : Array Value} {below : List Frame} {meth : Method} {c : Code} {A : Nat → Prop} {E : EV} {ad : Nat → Nat}  {r : Int32} (C0 : Cx RX8 "pitchOf" cX8_pitchOf (some .int) 2 wsX8_pitchOf p s m args meth c) (hA : Ax E A s) : ∀ (a0 : Int32) (a1 : Int32) (H : Heap) (locs : List Loc) (ls : Array Slot), mX8_pitchOf_b0 a0 a1 = some r → Wd E A s H locs ([] : va_W) → lv_has ls 2 [(0, .int a0), (1, .int a1)] → W p l e ({ frames := 1, cells := 0, slots := 0, locals := 22 } : Room) s m args below meth c H locs 0 0 (MQ below (QG E (Qd (some (.int r)) ([] : va_W)) A) args s 0 0 A) (F0 m 0 ls []) := by
  have hx := C0.1
  have hb := C0.2.1
  intro a0 a1 H locs ls hm hw hl
  unfold mX8_pitchOf_b0 at hm
  refine lv_iload_n hx hb dX8_pitchOf_0 rfl (lv_at hl 0 rfl) ?_
  refine lv_iconst (v := 0) hx hb dX8_pitchOf_1 (by decide) ?_
  refine lv_bipush (v := 6) hx hb dX8_pitchOf_2 (by decide) ?_
  obtain ⟨r1, h2, hm⟩ := b1_some hm
  refine r_backZ (va_runSN (As := [.int a0, .int 0, .int 6]) (rest := []) ⟨hx, hb, C0.2.2.2.1, C0.2.2.2.2.1, C0.2.2.2.2.2.1⟩ (tX9_isWithin l E a0 0 6 h2 H.size) ⟨va_cnB 3 C0.2.2.2.2.2.1 ggX8_pitchOf_X9_isWithin rfl rfl rfl (hA.2.2.1.2.1 (.methodLinkNest RX8 34 yX9_isWithin "GrammarTunes") (by decide +kernel)) (C0.2.2.2.2.2.1 (.initialized RX9) (by decide +kernel)) (by decide +kernel) ⟨Nat.le_of_ble_eq_true rfl, Nat.le_of_ble_eq_true rfl⟩, C0.2.2.2.2.2.1 (.static yX9_isWithin) (by decide +kernel), trivial⟩ ⟨PG_blind, pg_nil hA hw⟩ rfl rfl hl.1 rfl (lv_room (Nat.le_of_ble_eq_true rfl)) dX8_pitchOf_4 ⟨Nat.zero_le _, Nat.zero_le _⟩) hA hw (fun H locs hw => ?_)
  refine lv_if_eq (tgt := 23) hx hb dX8_pitchOf_7 (by decide) (fun c3 => ?_) (fun c3 => ?_)
  · have hm := Eq.trans (if_pos c3).symm hm
    refine lv_iconst (v := (-1)) hx hb dX8_pitchOf_23 (by decide) ?_
    obtain rfl := sj1 hm
    exact r_iret C0 hw dX8_pitchOf_24 ⟨rfl, rfl⟩
  · have hm := Eq.trans (if_neg c3).symm hm
    refine r_gets C0 hA hw (hA.2.2.1.2.2.2.2.2.1.1) (C0.2.2.2.2.2.1 (.fieldLink RX8 38 "GrammarTunes$Tune" "PITCH_OF_DEGREE" "[I") (by decide +kernel)) dX8_pitchOf_10 ?_
    refine lv_iload_n hx hb dX8_pitchOf_13 rfl (lv_at hl 0 rfl) ?_
    obtain ⟨c4, hm⟩ := gd_some hm
    refine r_tld C0 hA hw (hA.2.2.1.2.2.2.2.2.1.2) c4 dX8_pitchOf_14 ?_
    refine lv_bipush (v := 12) hx hb dX8_pitchOf_15 (by decide) ?_
    refine lv_iload_n hx hb dX8_pitchOf_17 rfl (lv_at hl 1 rfl) ?_
    refine lv_imul hx hb dX8_pitchOf_18 ?_
    refine lv_iadd hx hb dX8_pitchOf_19 ?_
    refine lv_goto (tgt := 24) hx hb dX8_pitchOf_20 (by decide) ?_
    obtain rfl := sj1 hm
    exact r_iret C0 hw dX8_pitchOf_24 ⟨rfl, rfl⟩
theorem tX8_pitchOf (l : Launch) (E : EV)  (a0 : Int32) (a1 : Int32) {r : Int32} (hm : mX8_pitchOf a0 a1 = some r) : CT l yX8_pitchOf wsX8_pitchOf ({ frames := 1, cells := 0, slots := 0, locals := 22 } : Room) E [.int a0, .int a1] ([] : va_W) (Qd (some (.int r)) ([] : va_W)) 0 0 :=
  CT.of (mL := 2) (lvs := [(0, .int a0), (1, .int a1)]) (by decide +kernel) rfl (Nat.le_of_ble_eq_true rfl) rfl rfl rfl (fun p e s m below meth c A C0 hA hw ls hl => kX8_pitchOf_b0 (ad := fun _ => 0) C0 hA a0 a1 _ _ _ hm hw (lv_sub hl [0, 1] rfl))
theorem lkX8_shorten_30 : Cond.fieldLink RX8 30 (TX8 6).1 (TX8 6).2.1 (TX8 6).2.2.1 ∈ wsX8_shorten := by decide +kernel
theorem hiX8_shorten_X8 : ∀ w ∈ u_ws RX8 TX8 7, w ∈ wsX8_shorten := by decide +kernel
def mX8_shorten_b0  (zx : OS) (a1 : Int32) : Option (OS) := b1 (mX9_isWithin a1 0 (zx.1 6)) (fun r1 => (if (r1 : Int32) = 0 then some zx else nm (sI zx 6 a1) (fun zx4 => some zx4)))
def mX8_shorten (zx : OS) (a1 : Int32) : Option (OS) := mX8_shorten_b0 zx a1
set_option maxRecDepth 20000 in
theorem kX8_shorten_b0 {p : Program} {l : Launch} {e : Env} {s : State} {m : MethodId} {args : Array Value} {below : List Frame} {meth : Method} {c : Code} {A : Nat → Prop} {E : EV} {ad : Nat → Nat}  {zx' : OS} (C0 : Cx RX8 "shorten" cX8_shorten (none) 2 wsX8_shorten p s m args meth c) (hA : Ax E A s) : ∀ (zx : OS) (a1 : Int32) (H : Heap) (locs : List Loc) (ls : Array Slot), mX8_shorten_b0 zx a1 = some zx' → Wd E A s H locs (wU E ad zx) → lv_has ls 2 [(0, .ref (ad 0)), (1, .int a1)] → W p l e ({ frames := 1, cells := 0, slots := 0, locals := 22 } : Room) s m args below meth c H locs 0 0 (MQ below (QG E (Qd none (wU E ad zx')) A) args s 0 0 A) (F0 m 0 ls []) := by
  have hx := C0.1
  have hb := C0.2.1
  intro zx a1 H locs ls hm hw hl
  unfold mX8_shorten_b0 at hm
  refine lv_iload_n hx hb dX8_shorten_0 rfl (lv_at hl 1 rfl) ?_
  refine lv_iconst (v := 0) hx hb dX8_shorten_1 (by decide) ?_
  refine lv_aload_n hx hb dX8_shorten_2 rfl (lv_at hl 0 rfl) ?_
  refine gU_0_6 C0 hA hw hiX8_shorten_X8 lkX8_shorten_30 dX8_shorten_3 ?_
  obtain ⟨r1, h2, hm⟩ := b1_some hm
  refine r_backZ (va_runSN (As := [.int a1, .int 0, .int (zx.1 6)]) (rest := []) ⟨hx, hb, C0.2.2.2.1, C0.2.2.2.2.1, C0.2.2.2.2.2.1⟩ (tX9_isWithin l E a1 0 (zx.1 6) h2 H.size) ⟨va_cnB 3 C0.2.2.2.2.2.1 ggX8_shorten_X9_isWithin rfl rfl rfl (hA.2.2.1.2.1 (.methodLinkNest RX8 34 yX9_isWithin "GrammarTunes") (by decide +kernel)) (C0.2.2.2.2.2.1 (.initialized RX9) (by decide +kernel)) (by decide +kernel) ⟨Nat.le_of_ble_eq_true rfl, Nat.le_of_ble_eq_true rfl⟩, C0.2.2.2.2.2.1 (.static yX9_isWithin) (by decide +kernel), trivial⟩ ⟨PG_blind, pg_nil hA hw⟩ rfl rfl hl.1 rfl (lv_room (Nat.le_of_ble_eq_true rfl)) dX8_shorten_6 ⟨Nat.zero_le _, Nat.zero_le _⟩) hA hw (fun H locs hw => ?_)
  refine lv_if_eq (tgt := 17) hx hb dX8_shorten_9 (by decide) (fun c3 => ?_) (fun c3 => ?_)
  · have hm := Eq.trans (if_pos c3).symm hm
    obtain rfl := sj1 hm
    exact r_vret C0 hw dX8_shorten_17 ⟨rfl, rfl⟩
  · have hm := Eq.trans (if_neg c3).symm hm
    refine lv_aload_n hx hb dX8_shorten_12 rfl (lv_at hl 0 rfl) ?_
    refine lv_iload_n hx hb dX8_shorten_13 rfl (lv_at hl 1 rfl) ?_
    refine pU_0_6 C0 hA hw hiX8_shorten_X8 lkX8_shorten_30 dX8_shorten_14 (fun zx4 ezx4 H locs hw => ?_)
    have hm := nm_at hm ezx4
    obtain rfl := sj1 hm
    exact r_vret C0 hw dX8_shorten_17 ⟨rfl, rfl⟩
theorem tX8_shorten (l : Launch) (E : EV) (ad : Nat → Nat) (zx : OS) (a1 : Int32) {zx' : OS} (hm : mX8_shorten zx a1 = some zx') : CT l yX8_shorten wsX8_shorten ({ frames := 1, cells := 0, slots := 0, locals := 22 } : Room) E [.ref (ad 0), .int a1] (wU E ad zx) (Qd none (wU E ad zx')) 0 0 :=
  CT.of (mL := 2) (lvs := [(0, .ref (ad 0)), (1, .int a1)]) (by decide +kernel) rfl (Nat.le_of_ble_eq_true rfl) rfl rfl rfl (fun p e s m below meth c A C0 hA hw ls hl => kX8_shorten_b0 (ad := ad) C0 hA zx a1 _ _ _ hm hw (lv_sub hl [0, 1] rfl))
theorem lkX8_time_30 : Cond.fieldLink RX8 30 (TX8 6).1 (TX8 6).2.1 (TX8 6).2.2.1 ∈ wsX8_time := by decide +kernel
theorem lkX8_time_18 : Cond.fieldLink RX8 18 (TX8 2).1 (TX8 2).2.1 (TX8 2).2.2.1 ∈ wsX8_time := by decide +kernel
theorem lkX8_time_15 : Cond.fieldLink RX8 15 (TX8 1).1 (TX8 1).2.1 (TX8 1).2.2.1 ∈ wsX8_time := by decide +kernel
theorem hiX8_time_X8 : ∀ w ∈ u_ws RX8 TX8 7, w ∈ wsX8_time := by decide +kernel
def mX8_time_b0  (zx : OS) : Option (Int32) := (if (zx.1 6 : Int32) = 0 then some 0 else gd ((zx.1 6) - 1) 256 (gd ((zx.1 6) - 1) 256 (some ((zx.2.2.1 2 ((zx.1 6) - 1 : Int32).toNatClampNeg) + (zx.2.2.1 1 ((zx.1 6) - 1 : Int32).toNatClampNeg)))))
def mX8_time (zx : OS)  : Option (Int32) := mX8_time_b0 zx
set_option maxRecDepth 20000 in
theorem kX8_time_b0 {p : Program} {l : Launch} {e : Env} {s : State} {m : MethodId} {args : Array Value} {below : List Frame} {meth : Method} {c : Code} {A : Nat → Prop} {E : EV} {ad : Nat → Nat} {zx : OS} {r : Int32} (C0 : Cx RX8 "time" cX8_time (some .int) 1 wsX8_time p s m args meth c) (hA : Ax E A s) : ∀  (H : Heap) (locs : List Loc) (ls : Array Slot), mX8_time_b0 zx = some r → Wd E A s H locs (wU E ad zx) → lv_has ls 1 [(0, .ref (ad 0))] → W p l e ({ frames := 0, cells := 0, slots := 0, locals := 0 } : Room) s m args below meth c H locs 0 0 (MQ below (QG E (Qd (some (.int r)) (wU E ad zx)) A) args s 0 0 A) (F0 m 0 ls []) := by
  have hx := C0.1
  have hb := C0.2.1
  intro  H locs ls hm hw hl
  unfold mX8_time_b0 at hm
  refine lv_aload_n hx hb dX8_time_0 rfl (lv_at hl 0 rfl) ?_
  refine gU_0_6 C0 hA hw hiX8_time_X8 lkX8_time_30 dX8_time_1 ?_
  refine lv_if_ne (tgt := 11) hx hb dX8_time_4 (by decide) (fun c1 => ?_) (fun c1 => ?_)
  · have hm := Eq.trans (if_neg c1).symm hm
    refine lv_aload_n hx hb dX8_time_11 rfl (lv_at hl 0 rfl) ?_
    refine gU_0_2 C0 hA hw hiX8_time_X8 lkX8_time_18 dX8_time_12 ?_
    refine lv_aload_n hx hb dX8_time_15 rfl (lv_at hl 0 rfl) ?_
    refine gU_0_6 C0 hA hw hiX8_time_X8 lkX8_time_30 dX8_time_16 ?_
    refine lv_iconst (v := 1) hx hb dX8_time_19 (by decide) ?_
    refine lv_isub hx hb dX8_time_20 ?_
    obtain ⟨c2, hm⟩ := gd_some hm
    refine lU_3 C0 hA hw c2 dX8_time_21 ?_
    refine lv_aload_n hx hb dX8_time_22 rfl (lv_at hl 0 rfl) ?_
    refine gU_0_1 C0 hA hw hiX8_time_X8 lkX8_time_15 dX8_time_23 ?_
    refine lv_aload_n hx hb dX8_time_26 rfl (lv_at hl 0 rfl) ?_
    refine gU_0_6 C0 hA hw hiX8_time_X8 lkX8_time_30 dX8_time_27 ?_
    refine lv_iconst (v := 1) hx hb dX8_time_30 (by decide) ?_
    refine lv_isub hx hb dX8_time_31 ?_
    obtain ⟨c3, hm⟩ := gd_some hm
    refine lU_2 C0 hA hw c3 dX8_time_32 ?_
    refine lv_iadd hx hb dX8_time_33 ?_
    obtain rfl := sj1 hm
    exact r_iret C0 hw dX8_time_34 ⟨rfl, rfl⟩
  · have hm := Eq.trans (if_pos c1).symm hm
    refine lv_iconst (v := 0) hx hb dX8_time_7 (by decide) ?_
    refine lv_goto (tgt := 34) hx hb dX8_time_8 (by decide) ?_
    obtain rfl := sj1 hm
    exact r_iret C0 hw dX8_time_34 ⟨rfl, rfl⟩
theorem tX8_time (l : Launch) (E : EV) (ad : Nat → Nat) (zx : OS)  {r : Int32} (hm : mX8_time zx = some r) : CT l yX8_time wsX8_time ({ frames := 0, cells := 0, slots := 0, locals := 0 } : Room) E [.ref (ad 0)] (wU E ad zx) (Qd (some (.int r)) (wU E ad zx)) 0 0 :=
  CT.of (mL := 1) (lvs := [(0, .ref (ad 0))]) (by decide +kernel) rfl (Nat.le_of_ble_eq_true rfl) rfl rfl rfl (fun p e s m below meth c A C0 hA hw ls hl => kX8_time_b0 (ad := ad) C0 hA  _ _ _ hm hw (lv_sub hl [0] rfl))
theorem lkX8_latestPitch_9 : Cond.fieldLink RX8 9 (TX8 0).1 (TX8 0).2.1 (TX8 0).2.2.1 ∈ wsX8_latestPitch := by decide +kernel
theorem lkX8_latestPitch_30 : Cond.fieldLink RX8 30 (TX8 6).1 (TX8 6).2.1 (TX8 6).2.2.1 ∈ wsX8_latestPitch := by decide +kernel
theorem lkX8_latestPitch_24 : Cond.fieldLink RX8 24 (TX8 4).1 (TX8 4).2.1 (TX8 4).2.2.1 ∈ wsX8_latestPitch := by decide +kernel
theorem hiX8_latestPitch_X8 : ∀ w ∈ u_ws RX8 TX8 7, w ∈ wsX8_latestPitch := by decide +kernel
def mX8_latestPitch_b22  (zx : OS) (t0 : Int32) : Option (Int32) := (if (t0 : Int32) = (-1) then some (-1) else gd t0 256 (some (zx.2.2.1 0 (t0 : Int32).toNatClampNeg)))
def mX8_latestPitch_b0  (zx : OS) : Option (Int32) := (if (zx.1 6 : Int32) = 0 then mX8_latestPitch_b22 zx (-1) else gd ((zx.1 6) - 1) 256 (mX8_latestPitch_b22 zx (zx.2.2.1 4 ((zx.1 6) - 1 : Int32).toNatClampNeg)))
def mX8_latestPitch (zx : OS)  : Option (Int32) := mX8_latestPitch_b0 zx
set_option maxRecDepth 20000 in
theorem kX8_latestPitch_b22 {p : Program} {l : Launch} {e : Env} {s : State} {m : MethodId} {args : Array Value} {below : List Frame} {meth : Method} {c : Code} {A : Nat → Prop} {E : EV} {ad : Nat → Nat} {zx : OS} {r : Int32} (C0 : Cx RX8 "latestPitch" cX8_latestPitch (some .int) 2 wsX8_latestPitch p s m args meth c) (hA : Ax E A s) : ∀ (t0 : Int32) (H : Heap) (locs : List Loc) (ls : Array Slot), mX8_latestPitch_b22 zx t0 = some r → Wd E A s H locs (wU E ad zx) → lv_has ls 2 [(0, .ref (ad 0))] → W p l e ({ frames := 0, cells := 0, slots := 0, locals := 0 } : Room) s m args below meth c H locs 0 0 (MQ below (QG E (Qd (some (.int r)) (wU E ad zx)) A) args s 0 0 A) (F0 m 22 ls [.int t0]) := by
  have hx := C0.1
  have hb := C0.2.1
  intro t0 H locs ls hm hw hl
  unfold mX8_latestPitch_b22 at hm
  refine lv_istore_n (lv' := [(1, .int t0), (0, .ref (ad 0))]) hx hb dX8_latestPitch_22 rfl hl (by decide) rfl (fun ls hl => ?_)
  refine lv_iload_n hx hb dX8_latestPitch_23 rfl (lv_at hl 0 rfl) ?_
  refine lv_iconst (v := (-1)) hx hb dX8_latestPitch_24 (by decide) ?_
  refine lv_icmp_ne (tgt := 32) hx hb dX8_latestPitch_25 (by decide) (fun c1 => ?_) (fun c1 => ?_)
  · have hm := Eq.trans (if_neg c1).symm hm
    refine lv_aload_n hx hb dX8_latestPitch_32 rfl (lv_at hl 1 rfl) ?_
    refine gU_0_0 C0 hA hw hiX8_latestPitch_X8 lkX8_latestPitch_9 dX8_latestPitch_33 ?_
    refine lv_iload_n hx hb dX8_latestPitch_36 rfl (lv_at hl 0 rfl) ?_
    obtain ⟨c2, hm⟩ := gd_some hm
    refine lU_1 C0 hA hw c2 dX8_latestPitch_37 ?_
    obtain rfl := sj1 hm
    exact r_iret C0 hw dX8_latestPitch_38 ⟨rfl, rfl⟩
  · have hm := Eq.trans (if_pos c1).symm hm
    refine lv_iconst (v := (-1)) hx hb dX8_latestPitch_28 (by decide) ?_
    refine lv_goto (tgt := 38) hx hb dX8_latestPitch_29 (by decide) ?_
    obtain rfl := sj1 hm
    exact r_iret C0 hw dX8_latestPitch_38 ⟨rfl, rfl⟩
set_option maxRecDepth 20000 in
theorem kX8_latestPitch_b0 {p : Program} {l : Launch} {e : Env} {s : State} {m : MethodId} {args : Array Value} {below : List Frame} {meth : Method} {c : Code} {A : Nat → Prop} {E : EV} {ad : Nat → Nat} {zx : OS} {r : Int32} (C0 : Cx RX8 "latestPitch" cX8_latestPitch (some .int) 2 wsX8_latestPitch p s m args meth c) (hA : Ax E A s) : ∀  (H : Heap) (locs : List Loc) (ls : Array Slot), mX8_latestPitch_b0 zx = some r → Wd E A s H locs (wU E ad zx) → lv_has ls 2 [(0, .ref (ad 0))] → W p l e ({ frames := 0, cells := 0, slots := 0, locals := 0 } : Room) s m args below meth c H locs 0 0 (MQ below (QG E (Qd (some (.int r)) (wU E ad zx)) A) args s 0 0 A) (F0 m 0 ls []) := by
  have hx := C0.1
  have hb := C0.2.1
  intro  H locs ls hm hw hl
  unfold mX8_latestPitch_b0 at hm
  refine lv_aload_n hx hb dX8_latestPitch_0 rfl (lv_at hl 0 rfl) ?_
  refine gU_0_6 C0 hA hw hiX8_latestPitch_X8 lkX8_latestPitch_30 dX8_latestPitch_1 ?_
  refine lv_if_ne (tgt := 11) hx hb dX8_latestPitch_4 (by decide) (fun c1 => ?_) (fun c1 => ?_)
  · have hm := Eq.trans (if_neg c1).symm hm
    refine lv_aload_n hx hb dX8_latestPitch_11 rfl (lv_at hl 0 rfl) ?_
    refine gU_0_4 C0 hA hw hiX8_latestPitch_X8 lkX8_latestPitch_24 dX8_latestPitch_12 ?_
    refine lv_aload_n hx hb dX8_latestPitch_15 rfl (lv_at hl 0 rfl) ?_
    refine gU_0_6 C0 hA hw hiX8_latestPitch_X8 lkX8_latestPitch_30 dX8_latestPitch_16 ?_
    refine lv_iconst (v := 1) hx hb dX8_latestPitch_19 (by decide) ?_
    refine lv_isub hx hb dX8_latestPitch_20 ?_
    obtain ⟨c2, hm⟩ := gd_some hm
    refine lU_5 C0 hA hw c2 dX8_latestPitch_21 ?_
    exact kX8_latestPitch_b22 C0 hA (zx.2.2.1 4 ((zx.1 6) - 1 : Int32).toNatClampNeg) _ _ _ hm hw (lv_sub hl [0] rfl)
  · have hm := Eq.trans (if_pos c1).symm hm
    refine lv_iconst (v := (-1)) hx hb dX8_latestPitch_7 (by decide) ?_
    refine lv_goto (tgt := 22) hx hb dX8_latestPitch_8 (by decide) ?_
    exact kX8_latestPitch_b22 C0 hA (-1) _ _ _ hm hw (lv_sub hl [0] rfl)
theorem tX8_latestPitch (l : Launch) (E : EV) (ad : Nat → Nat) (zx : OS)  {r : Int32} (hm : mX8_latestPitch zx = some r) : CT l yX8_latestPitch wsX8_latestPitch ({ frames := 0, cells := 0, slots := 0, locals := 0 } : Room) E [.ref (ad 0)] (wU E ad zx) (Qd (some (.int r)) (wU E ad zx)) 0 0 :=
  CT.of (mL := 2) (lvs := [(0, .ref (ad 0))]) (by decide +kernel) rfl (Nat.le_of_ble_eq_true rfl) rfl rfl rfl (fun p e s m below meth c A C0 hA hw ls hl => kX8_latestPitch_b0 (ad := ad) C0 hA  _ _ _ hm hw (lv_sub hl [0] rfl))
theorem lkX8_latestDegree_21 : Cond.fieldLink RX8 21 (TX8 3).1 (TX8 3).2.1 (TX8 3).2.2.1 ∈ wsX8_latestDegree := by decide +kernel
theorem lkX8_latestDegree_30 : Cond.fieldLink RX8 30 (TX8 6).1 (TX8 6).2.1 (TX8 6).2.2.1 ∈ wsX8_latestDegree := by decide +kernel
theorem lkX8_latestDegree_24 : Cond.fieldLink RX8 24 (TX8 4).1 (TX8 4).2.1 (TX8 4).2.2.1 ∈ wsX8_latestDegree := by decide +kernel
theorem hiX8_latestDegree_X8 : ∀ w ∈ u_ws RX8 TX8 7, w ∈ wsX8_latestDegree := by decide +kernel
def mX8_latestDegree_b22  (zx : OS) (t0 : Int32) : Option (Int32) := (if (t0 : Int32) = (-1) then some (-1) else gd t0 256 (some (zx.2.2.1 3 (t0 : Int32).toNatClampNeg)))
def mX8_latestDegree_b0  (zx : OS) : Option (Int32) := (if (zx.1 6 : Int32) = 0 then mX8_latestDegree_b22 zx (-1) else gd ((zx.1 6) - 1) 256 (mX8_latestDegree_b22 zx (zx.2.2.1 4 ((zx.1 6) - 1 : Int32).toNatClampNeg)))
def mX8_latestDegree (zx : OS)  : Option (Int32) := mX8_latestDegree_b0 zx
set_option maxRecDepth 20000 in
theorem kX8_latestDegree_b22 {p : Program} {l : Launch} {e : Env} {s : State} {m : MethodId} {args : Array Value} {below : List Frame} {meth : Method} {c : Code} {A : Nat → Prop} {E : EV} {ad : Nat → Nat} {zx : OS} {r : Int32} (C0 : Cx RX8 "latestDegree" cX8_latestDegree (some .int) 2 wsX8_latestDegree p s m args meth c) (hA : Ax E A s) : ∀ (t0 : Int32) (H : Heap) (locs : List Loc) (ls : Array Slot), mX8_latestDegree_b22 zx t0 = some r → Wd E A s H locs (wU E ad zx) → lv_has ls 2 [(0, .ref (ad 0))] → W p l e ({ frames := 0, cells := 0, slots := 0, locals := 0 } : Room) s m args below meth c H locs 0 0 (MQ below (QG E (Qd (some (.int r)) (wU E ad zx)) A) args s 0 0 A) (F0 m 22 ls [.int t0]) := by
  have hx := C0.1
  have hb := C0.2.1
  intro t0 H locs ls hm hw hl
  unfold mX8_latestDegree_b22 at hm
  refine lv_istore_n (lv' := [(1, .int t0), (0, .ref (ad 0))]) hx hb dX8_latestDegree_22 rfl hl (by decide) rfl (fun ls hl => ?_)
  refine lv_iload_n hx hb dX8_latestDegree_23 rfl (lv_at hl 0 rfl) ?_
  refine lv_iconst (v := (-1)) hx hb dX8_latestDegree_24 (by decide) ?_
  refine lv_icmp_ne (tgt := 32) hx hb dX8_latestDegree_25 (by decide) (fun c1 => ?_) (fun c1 => ?_)
  · have hm := Eq.trans (if_neg c1).symm hm
    refine lv_aload_n hx hb dX8_latestDegree_32 rfl (lv_at hl 1 rfl) ?_
    refine gU_0_3 C0 hA hw hiX8_latestDegree_X8 lkX8_latestDegree_21 dX8_latestDegree_33 ?_
    refine lv_iload_n hx hb dX8_latestDegree_36 rfl (lv_at hl 0 rfl) ?_
    obtain ⟨c2, hm⟩ := gd_some hm
    refine lU_4 C0 hA hw c2 dX8_latestDegree_37 ?_
    obtain rfl := sj1 hm
    exact r_iret C0 hw dX8_latestDegree_38 ⟨rfl, rfl⟩
  · have hm := Eq.trans (if_pos c1).symm hm
    refine lv_iconst (v := (-1)) hx hb dX8_latestDegree_28 (by decide) ?_
    refine lv_goto (tgt := 38) hx hb dX8_latestDegree_29 (by decide) ?_
    obtain rfl := sj1 hm
    exact r_iret C0 hw dX8_latestDegree_38 ⟨rfl, rfl⟩
set_option maxRecDepth 20000 in
theorem kX8_latestDegree_b0 {p : Program} {l : Launch} {e : Env} {s : State} {m : MethodId} {args : Array Value} {below : List Frame} {meth : Method} {c : Code} {A : Nat → Prop} {E : EV} {ad : Nat → Nat} {zx : OS} {r : Int32} (C0 : Cx RX8 "latestDegree" cX8_latestDegree (some .int) 2 wsX8_latestDegree p s m args meth c) (hA : Ax E A s) : ∀  (H : Heap) (locs : List Loc) (ls : Array Slot), mX8_latestDegree_b0 zx = some r → Wd E A s H locs (wU E ad zx) → lv_has ls 2 [(0, .ref (ad 0))] → W p l e ({ frames := 0, cells := 0, slots := 0, locals := 0 } : Room) s m args below meth c H locs 0 0 (MQ below (QG E (Qd (some (.int r)) (wU E ad zx)) A) args s 0 0 A) (F0 m 0 ls []) := by
  have hx := C0.1
  have hb := C0.2.1
  intro  H locs ls hm hw hl
  unfold mX8_latestDegree_b0 at hm
  refine lv_aload_n hx hb dX8_latestDegree_0 rfl (lv_at hl 0 rfl) ?_
  refine gU_0_6 C0 hA hw hiX8_latestDegree_X8 lkX8_latestDegree_30 dX8_latestDegree_1 ?_
  refine lv_if_ne (tgt := 11) hx hb dX8_latestDegree_4 (by decide) (fun c1 => ?_) (fun c1 => ?_)
  · have hm := Eq.trans (if_neg c1).symm hm
    refine lv_aload_n hx hb dX8_latestDegree_11 rfl (lv_at hl 0 rfl) ?_
    refine gU_0_4 C0 hA hw hiX8_latestDegree_X8 lkX8_latestDegree_24 dX8_latestDegree_12 ?_
    refine lv_aload_n hx hb dX8_latestDegree_15 rfl (lv_at hl 0 rfl) ?_
    refine gU_0_6 C0 hA hw hiX8_latestDegree_X8 lkX8_latestDegree_30 dX8_latestDegree_16 ?_
    refine lv_iconst (v := 1) hx hb dX8_latestDegree_19 (by decide) ?_
    refine lv_isub hx hb dX8_latestDegree_20 ?_
    obtain ⟨c2, hm⟩ := gd_some hm
    refine lU_5 C0 hA hw c2 dX8_latestDegree_21 ?_
    exact kX8_latestDegree_b22 C0 hA (zx.2.2.1 4 ((zx.1 6) - 1 : Int32).toNatClampNeg) _ _ _ hm hw (lv_sub hl [0] rfl)
  · have hm := Eq.trans (if_pos c1).symm hm
    refine lv_iconst (v := (-1)) hx hb dX8_latestDegree_7 (by decide) ?_
    refine lv_goto (tgt := 22) hx hb dX8_latestDegree_8 (by decide) ?_
    exact kX8_latestDegree_b22 C0 hA (-1) _ _ _ hm hw (lv_sub hl [0] rfl)
theorem tX8_latestDegree (l : Launch) (E : EV) (ad : Nat → Nat) (zx : OS)  {r : Int32} (hm : mX8_latestDegree zx = some r) : CT l yX8_latestDegree wsX8_latestDegree ({ frames := 0, cells := 0, slots := 0, locals := 0 } : Room) E [.ref (ad 0)] (wU E ad zx) (Qd (some (.int r)) (wU E ad zx)) 0 0 :=
  CT.of (mL := 2) (lvs := [(0, .ref (ad 0))]) (by decide +kernel) rfl (Nat.le_of_ble_eq_true rfl) rfl rfl rfl (fun p e s m below meth c A C0 hA hw ls hl => kX8_latestDegree_b0 (ad := ad) C0 hA  _ _ _ hm hw (lv_sub hl [0] rfl))
theorem lkX8_alikeWith_27 : Cond.fieldLink RX8 27 (TX8 5).1 (TX8 5).2.1 (TX8 5).2.2.1 ∈ wsX8_alikeWith := by decide +kernel
theorem lkX8_alikeWith_30 : Cond.fieldLink RX8 30 (TX8 6).1 (TX8 6).2.1 (TX8 6).2.2.1 ∈ wsX8_alikeWith := by decide +kernel
theorem hiX8_alikeWith_X8 : ∀ w ∈ u_ws RX8 TX8 7, w ∈ wsX8_alikeWith := by decide +kernel
def mX8_alikeWith_b0  (zx : OS) (a1 : Int32) : Option (Int32) := b1 (mX8_latestPitch zx) (fun r1 => (if (r1 : Int32) = a1 then gd ((zx.1 6) - 1) 256 (some ((zx.2.2.1 5 ((zx.1 6) - 1 : Int32).toNatClampNeg) + 1)) else some 1))
def mX8_alikeWith (zx : OS) (a1 : Int32) : Option (Int32) := mX8_alikeWith_b0 zx a1
set_option maxRecDepth 20000 in
theorem kX8_alikeWith_b0 {p : Program} {l : Launch} {e : Env} {s : State} {m : MethodId} {args : Array Value} {below : List Frame} {meth : Method} {c : Code} {A : Nat → Prop} {E : EV} {ad : Nat → Nat} {zx : OS} {r : Int32} (C0 : Cx RX8 "alikeWith" cX8_alikeWith (some .int) 2 wsX8_alikeWith p s m args meth c) (hA : Ax E A s) : ∀ (a1 : Int32) (H : Heap) (locs : List Loc) (ls : Array Slot), mX8_alikeWith_b0 zx a1 = some r → Wd E A s H locs (wU E ad zx) → lv_has ls 2 [(0, .ref (ad 0)), (1, .int a1)] → W p l e ({ frames := 1, cells := 0, slots := 0, locals := 21 } : Room) s m args below meth c H locs 0 0 (MQ below (QG E (Qd (some (.int r)) (wU E ad zx)) A) args s 0 0 A) (F0 m 0 ls []) := by
  have hx := C0.1
  have hb := C0.2.1
  intro a1 H locs ls hm hw hl
  unfold mX8_alikeWith_b0 at hm
  refine lv_aload_n hx hb dX8_alikeWith_0 rfl (lv_at hl 0 rfl) ?_
  obtain ⟨r1, h2, hm⟩ := b1_some hm
  refine r_backS (va_runV (As := []) (rest := []) ⟨hx, hb, C0.2.2.2.1, C0.2.2.2.2.1, C0.2.2.2.2.2.1⟩ (tX8_latestPitch l E ad zx h2 H.size) (cwV 0 C0.2.2.2.2.2.1 gX8_alikeWith_X8_latestPitch rfl rfl rfl (by decide +kernel) ⟨Nat.le_of_ble_eq_true rfl, Nat.le_of_ble_eq_true rfl⟩) ⟨PG_blind, va_recv hA.2.2.1.1 hw.1 (ci := 8) (q0 := 0) rfl rfl, pg_self hA hw⟩ rfl rfl hl.1 rfl (lv_room (Nat.le_of_ble_eq_true rfl)) dX8_alikeWith_1 ⟨Nat.zero_le _, Nat.zero_le _⟩) hA hw (fun H locs hw => ?_)
  refine lv_iload_n hx hb dX8_alikeWith_4 rfl (lv_at hl 1 rfl) ?_
  refine lv_icmp_ne (tgt := 24) hx hb dX8_alikeWith_5 (by decide) (fun c3 => ?_) (fun c3 => ?_)
  · have hm := Eq.trans (if_neg c3).symm hm
    refine lv_iconst (v := 1) hx hb dX8_alikeWith_24 (by decide) ?_
    obtain rfl := sj1 hm
    exact r_iret C0 hw dX8_alikeWith_25 ⟨rfl, rfl⟩
  · have hm := Eq.trans (if_pos c3).symm hm
    refine lv_aload_n hx hb dX8_alikeWith_8 rfl (lv_at hl 0 rfl) ?_
    refine gU_0_5 C0 hA hw hiX8_alikeWith_X8 lkX8_alikeWith_27 dX8_alikeWith_9 ?_
    refine lv_aload_n hx hb dX8_alikeWith_12 rfl (lv_at hl 0 rfl) ?_
    refine gU_0_6 C0 hA hw hiX8_alikeWith_X8 lkX8_alikeWith_30 dX8_alikeWith_13 ?_
    refine lv_iconst (v := 1) hx hb dX8_alikeWith_16 (by decide) ?_
    refine lv_isub hx hb dX8_alikeWith_17 ?_
    obtain ⟨c4, hm⟩ := gd_some hm
    refine lU_6 C0 hA hw c4 dX8_alikeWith_18 ?_
    refine lv_iconst (v := 1) hx hb dX8_alikeWith_19 (by decide) ?_
    refine lv_iadd hx hb dX8_alikeWith_20 ?_
    refine lv_goto (tgt := 25) hx hb dX8_alikeWith_21 (by decide) ?_
    obtain rfl := sj1 hm
    exact r_iret C0 hw dX8_alikeWith_25 ⟨rfl, rfl⟩
theorem tX8_alikeWith (l : Launch) (E : EV) (ad : Nat → Nat) (zx : OS) (a1 : Int32) {r : Int32} (hm : mX8_alikeWith zx a1 = some r) : CT l yX8_alikeWith wsX8_alikeWith ({ frames := 1, cells := 0, slots := 0, locals := 21 } : Room) E [.ref (ad 0), .int a1] (wU E ad zx) (Qd (some (.int r)) (wU E ad zx)) 0 0 :=
  CT.of (mL := 2) (lvs := [(0, .ref (ad 0)), (1, .int a1)]) (by decide +kernel) rfl (Nat.le_of_ble_eq_true rfl) rfl rfl rfl (fun p e s m below meth c A C0 hA hw ls hl => kX8_alikeWith_b0 (ad := ad) C0 hA a1 _ _ _ hm hw (lv_sub hl [0, 1] rfl))
theorem lkX8_add_9 : Cond.fieldLink RX8 9 (TX8 0).1 (TX8 0).2.1 (TX8 0).2.2.1 ∈ wsX8_add := by decide +kernel
theorem lkX8_add_30 : Cond.fieldLink RX8 30 (TX8 6).1 (TX8 6).2.1 (TX8 6).2.2.1 ∈ wsX8_add := by decide +kernel
theorem lkX8_add_15 : Cond.fieldLink RX8 15 (TX8 1).1 (TX8 1).2.1 (TX8 1).2.2.1 ∈ wsX8_add := by decide +kernel
theorem lkX8_add_21 : Cond.fieldLink RX8 21 (TX8 3).1 (TX8 3).2.1 (TX8 3).2.2.1 ∈ wsX8_add := by decide +kernel
theorem lkX8_add_24 : Cond.fieldLink RX8 24 (TX8 4).1 (TX8 4).2.1 (TX8 4).2.2.1 ∈ wsX8_add := by decide +kernel
theorem lkX8_add_18 : Cond.fieldLink RX8 18 (TX8 2).1 (TX8 2).2.1 (TX8 2).2.2.1 ∈ wsX8_add := by decide +kernel
theorem lkX8_add_27 : Cond.fieldLink RX8 27 (TX8 5).1 (TX8 5).2.1 (TX8 5).2.2.1 ∈ wsX8_add := by decide +kernel
theorem hiX8_add_X8 : ∀ w ∈ u_ws RX8 TX8 7, w ∈ wsX8_add := by decide +kernel
def mX8_add_b130  (zx : OS) (a1 : Int32) (a2 : Int32) (a3 : Int32) (t1 : Int32) (t2 : Int32) : Option (OS) := gd t1 256 (nm (sA zx 4 t1 t2) (fun zx2 => gd (zx2.1 6) 256 (nm (sA zx2 0 (zx2.1 6) a2) (fun zx4 => gd (zx4.1 6) 256 (nm (sA zx4 1 (zx4.1 6) a3) (fun zx6 => gd (zx6.1 6) 256 (nm (sA zx6 3 (zx6.1 6) a1) (fun zx8 => nm (sI zx8 6 ((zx8.1 6) + 1)) (fun zx9 => some zx9)))))))))
def mX8_add_b107  (zx : OS) (a1 : Int32) (a2 : Int32) (a3 : Int32) (a4 : Int32) (a5 : Int32) (t1 : Int32) (t2 : Int32) : Option (OS) := gd t1 256 (nm (sA zx 5 t1 t2) (fun zx2 => (if (a4 : Int32) = 0 then mX8_add_b130 zx2 a1 a2 a3 (zx2.1 6) (zx2.1 6) else mX8_add_b130 zx2 a1 a2 a3 (zx2.1 6) a5)))
def mX8_add_b69  (zx : OS) (a1 : Int32) (a2 : Int32) (a3 : Int32) (a4 : Int32) (a5 : Int32) (t0 : Int32) : Option (OS) := b1 (mX8_time zx) (fun r1 => gd (zx.1 6) 256 (nm (sA zx 2 (zx.1 6) r1) (fun zx4 => (if (a4 : Int32) = 0 then b1 (mX8_alikeWith zx4 a2) (fun r6 => mX8_add_b107 zx4 a1 a2 a3 a4 a5 (zx4.1 6) r6) else mX8_add_b107 zx4 a1 a2 a3 a4 a5 (zx4.1 6) t0))))
def mX8_add_b45  (zx : OS) (a1 : Int32) (a2 : Int32) (a3 : Int32) (a4 : Int32) (t0 : Int32) : Option (OS) := (if (zx.1 6 : Int32) = 0 then mX8_add_b69 zx a1 a2 a3 a4 t0 0 else gd ((zx.1 6) - 1) 256 (mX8_add_b69 zx a1 a2 a3 a4 t0 (zx.2.2.1 5 ((zx.1 6) - 1 : Int32).toNatClampNeg)))
def mX8_add_b21  (zx : OS) (a1 : Int32) (a2 : Int32) (a3 : Int32) (t0 : Int32) : Option (OS) := (if (zx.1 6 : Int32) = 0 then mX8_add_b45 zx a1 a2 a3 t0 (-1) else gd ((zx.1 6) - 1) 256 (mX8_add_b45 zx a1 a2 a3 t0 (zx.2.2.1 4 ((zx.1 6) - 1 : Int32).toNatClampNeg)))
def mX8_add_b0  (zx : OS) (a1 : Int32) (a2 : Int32) (a3 : Int32) : Option (OS) := (if (zx.1 6 : Int32) < 256 then (if (a1 : Int32) = (-1) then mX8_add_b21 zx a1 a2 a3 1 else mX8_add_b21 zx a1 a2 a3 0) else some zx)
def mX8_add (zx : OS) (a1 : Int32) (a2 : Int32) (a3 : Int32) : Option (OS) := mX8_add_b0 zx a1 a2 a3
set_option maxRecDepth 20000 in
theorem kX8_add_b130 {p : Program} {l : Launch} {e : Env} {s : State} {m : MethodId} {args : Array Value} {below : List Frame} {meth : Method} {c : Code} {A : Nat → Prop} {E : EV} {ad : Nat → Nat}  {zx' : OS} (C0 : Cx RX8 "add" cX8_add (none) 7 wsX8_add p s m args meth c) (hA : Ax E A s) : ∀ (zx : OS) (a1 : Int32) (a2 : Int32) (a3 : Int32) (t1 : Int32) (t2 : Int32) (H : Heap) (locs : List Loc) (ls : Array Slot), mX8_add_b130 zx a1 a2 a3 t1 t2 = some zx' → Wd E A s H locs (wU E ad zx) → lv_has ls 7 [(0, .ref (ad 0)), (1, .int a1), (2, .int a2), (3, .int a3)] → W p l e ({ frames := 2, cells := 0, slots := 0, locals := 42 } : Room) s m args below meth c H locs 0 0 (MQ below (QG E (Qd none (wU E ad zx')) A) args s 0 0 A) (F0 m 130 ls [.int t2, .int t1, .ref (ad 5)]) := by
  have hx := C0.1
  have hb := C0.2.1
  intro zx a1 a2 a3 t1 t2 H locs ls hm hw hl
  unfold mX8_add_b130 at hm
  obtain ⟨c1, hm⟩ := gd_some hm
  refine sU_5 C0 hA hw c1 dX8_add_130 (fun zx2 ezx2 H locs hw => ?_)
  have hm := nm_at hm ezx2
  refine lv_aload_n hx hb dX8_add_131 rfl (lv_at hl 0 rfl) ?_
  refine gU_0_0 C0 hA hw hiX8_add_X8 lkX8_add_9 dX8_add_132 ?_
  refine lv_aload_n hx hb dX8_add_135 rfl (lv_at hl 0 rfl) ?_
  refine gU_0_6 C0 hA hw hiX8_add_X8 lkX8_add_30 dX8_add_136 ?_
  refine lv_iload_n hx hb dX8_add_139 rfl (lv_at hl 2 rfl) ?_
  obtain ⟨c3, hm⟩ := gd_some hm
  refine sU_1 C0 hA hw c3 dX8_add_140 (fun zx4 ezx4 H locs hw => ?_)
  have hm := nm_at hm ezx4
  refine lv_aload_n hx hb dX8_add_141 rfl (lv_at hl 0 rfl) ?_
  refine gU_0_1 C0 hA hw hiX8_add_X8 lkX8_add_15 dX8_add_142 ?_
  refine lv_aload_n hx hb dX8_add_145 rfl (lv_at hl 0 rfl) ?_
  refine gU_0_6 C0 hA hw hiX8_add_X8 lkX8_add_30 dX8_add_146 ?_
  refine lv_iload_n hx hb dX8_add_149 rfl (lv_at hl 3 rfl) ?_
  obtain ⟨c5, hm⟩ := gd_some hm
  refine sU_2 C0 hA hw c5 dX8_add_150 (fun zx6 ezx6 H locs hw => ?_)
  have hm := nm_at hm ezx6
  refine lv_aload_n hx hb dX8_add_151 rfl (lv_at hl 0 rfl) ?_
  refine gU_0_3 C0 hA hw hiX8_add_X8 lkX8_add_21 dX8_add_152 ?_
  refine lv_aload_n hx hb dX8_add_155 rfl (lv_at hl 0 rfl) ?_
  refine gU_0_6 C0 hA hw hiX8_add_X8 lkX8_add_30 dX8_add_156 ?_
  refine lv_iload_n hx hb dX8_add_159 rfl (lv_at hl 1 rfl) ?_
  obtain ⟨c7, hm⟩ := gd_some hm
  refine sU_4 C0 hA hw c7 dX8_add_160 (fun zx8 ezx8 H locs hw => ?_)
  have hm := nm_at hm ezx8
  refine lv_aload_n hx hb dX8_add_161 rfl (lv_at hl 0 rfl) ?_
  refine lv_dup hx hb dX8_add_162 rfl ?_
  refine gU_0_6 C0 hA hw hiX8_add_X8 lkX8_add_30 dX8_add_163 ?_
  refine lv_iconst (v := 1) hx hb dX8_add_166 (by decide) ?_
  refine lv_iadd hx hb dX8_add_167 ?_
  refine pU_0_6 C0 hA hw hiX8_add_X8 lkX8_add_30 dX8_add_168 (fun zx9 ezx9 H locs hw => ?_)
  have hm := nm_at hm ezx9
  obtain rfl := sj1 hm
  exact r_vret C0 hw dX8_add_171 ⟨rfl, rfl⟩
set_option maxRecDepth 20000 in
theorem kX8_add_b107 {p : Program} {l : Launch} {e : Env} {s : State} {m : MethodId} {args : Array Value} {below : List Frame} {meth : Method} {c : Code} {A : Nat → Prop} {E : EV} {ad : Nat → Nat}  {zx' : OS} (C0 : Cx RX8 "add" cX8_add (none) 7 wsX8_add p s m args meth c) (hA : Ax E A s) : ∀ (zx : OS) (a1 : Int32) (a2 : Int32) (a3 : Int32) (a4 : Int32) (a5 : Int32) (t1 : Int32) (t2 : Int32) (H : Heap) (locs : List Loc) (ls : Array Slot), mX8_add_b107 zx a1 a2 a3 a4 a5 t1 t2 = some zx' → Wd E A s H locs (wU E ad zx) → lv_has ls 7 [(0, .ref (ad 0)), (1, .int a1), (2, .int a2), (3, .int a3), (4, .int a4), (5, .int a5)] → W p l e ({ frames := 2, cells := 0, slots := 0, locals := 42 } : Room) s m args below meth c H locs 0 0 (MQ below (QG E (Qd none (wU E ad zx')) A) args s 0 0 A) (F0 m 107 ls [.int t2, .int t1, .ref (ad 6)]) := by
  have hx := C0.1
  have hb := C0.2.1
  intro zx a1 a2 a3 a4 a5 t1 t2 H locs ls hm hw hl
  unfold mX8_add_b107 at hm
  obtain ⟨c1, hm⟩ := gd_some hm
  refine sU_6 C0 hA hw c1 dX8_add_107 (fun zx2 ezx2 H locs hw => ?_)
  have hm := nm_at hm ezx2
  refine lv_aload_n hx hb dX8_add_108 rfl (lv_at hl 0 rfl) ?_
  refine gU_0_4 C0 hA hw hiX8_add_X8 lkX8_add_24 dX8_add_109 ?_
  refine lv_aload_n hx hb dX8_add_112 rfl (lv_at hl 0 rfl) ?_
  refine gU_0_6 C0 hA hw hiX8_add_X8 lkX8_add_30 dX8_add_113 ?_
  refine lv_iload hx hb dX8_add_116 (lv_at hl 4 rfl) ?_
  refine lv_if_eq (tgt := 126) hx hb dX8_add_118 (by decide) (fun c3 => ?_) (fun c3 => ?_)
  · have hm := Eq.trans (if_pos c3).symm hm
    refine lv_aload_n hx hb dX8_add_126 rfl (lv_at hl 0 rfl) ?_
    refine gU_0_6 C0 hA hw hiX8_add_X8 lkX8_add_30 dX8_add_127 ?_
    exact kX8_add_b130 C0 hA zx2 a1 a2 a3 (zx2.1 6) (zx2.1 6) _ _ _ hm hw (lv_sub hl [0, 1, 2, 3] rfl)
  · have hm := Eq.trans (if_neg c3).symm hm
    refine lv_iload hx hb dX8_add_121 (lv_at hl 5 rfl) ?_
    refine lv_goto (tgt := 130) hx hb dX8_add_123 (by decide) ?_
    exact kX8_add_b130 C0 hA zx2 a1 a2 a3 (zx2.1 6) a5 _ _ _ hm hw (lv_sub hl [0, 1, 2, 3] rfl)
set_option maxRecDepth 20000 in
theorem kX8_add_b69 {p : Program} {l : Launch} {e : Env} {s : State} {m : MethodId} {args : Array Value} {below : List Frame} {meth : Method} {c : Code} {A : Nat → Prop} {E : EV} {ad : Nat → Nat}  {zx' : OS} (C0 : Cx RX8 "add" cX8_add (none) 7 wsX8_add p s m args meth c) (hA : Ax E A s) : ∀ (zx : OS) (a1 : Int32) (a2 : Int32) (a3 : Int32) (a4 : Int32) (a5 : Int32) (t0 : Int32) (H : Heap) (locs : List Loc) (ls : Array Slot), mX8_add_b69 zx a1 a2 a3 a4 a5 t0 = some zx' → Wd E A s H locs (wU E ad zx) → lv_has ls 7 [(0, .ref (ad 0)), (1, .int a1), (2, .int a2), (3, .int a3), (4, .int a4), (5, .int a5)] → W p l e ({ frames := 2, cells := 0, slots := 0, locals := 42 } : Room) s m args below meth c H locs 0 0 (MQ below (QG E (Qd none (wU E ad zx')) A) args s 0 0 A) (F0 m 69 ls [.int t0]) := by
  have hx := C0.1
  have hb := C0.2.1
  intro zx a1 a2 a3 a4 a5 t0 H locs ls hm hw hl
  unfold mX8_add_b69 at hm
  refine lv_istore (lv' := [(6, .int t0), (0, .ref (ad 0)), (1, .int a1), (2, .int a2), (3, .int a3), (4, .int a4), (5, .int a5)]) hx hb dX8_add_69 hl (by decide) rfl (fun ls hl => ?_)
  refine lv_aload_n hx hb dX8_add_71 rfl (lv_at hl 1 rfl) ?_
  refine gU_0_2 C0 hA hw hiX8_add_X8 lkX8_add_18 dX8_add_72 ?_
  refine lv_aload_n hx hb dX8_add_75 rfl (lv_at hl 1 rfl) ?_
  refine gU_0_6 C0 hA hw hiX8_add_X8 lkX8_add_30 dX8_add_76 ?_
  refine lv_aload_n hx hb dX8_add_79 rfl (lv_at hl 1 rfl) ?_
  obtain ⟨r1, h2, hm⟩ := b1_some hm
  refine r_backS (va_runV (As := []) (rest := [.int (zx.1 6), .ref (ad 3)]) ⟨hx, hb, C0.2.2.2.1, C0.2.2.2.2.1, C0.2.2.2.2.2.1⟩ (tX8_time l E ad zx h2 H.size) (cwV 0 C0.2.2.2.2.2.1 gX8_add_X8_time rfl rfl rfl (by decide +kernel) ⟨Nat.le_of_ble_eq_true rfl, Nat.le_of_ble_eq_true rfl⟩) ⟨PG_blind, va_recv hA.2.2.1.1 hw.1 (ci := 8) (q0 := 0) rfl rfl, pg_self hA hw⟩ rfl rfl hl.1 rfl (lv_room (Nat.le_of_ble_eq_true rfl)) dX8_add_80 ⟨Nat.zero_le _, Nat.zero_le _⟩) hA hw (fun H locs hw => ?_)
  obtain ⟨c3, hm⟩ := gd_some hm
  refine sU_3 C0 hA hw c3 dX8_add_83 (fun zx4 ezx4 H locs hw => ?_)
  have hm := nm_at hm ezx4
  refine lv_aload_n hx hb dX8_add_84 rfl (lv_at hl 1 rfl) ?_
  refine gU_0_5 C0 hA hw hiX8_add_X8 lkX8_add_27 dX8_add_85 ?_
  refine lv_aload_n hx hb dX8_add_88 rfl (lv_at hl 1 rfl) ?_
  refine gU_0_6 C0 hA hw hiX8_add_X8 lkX8_add_30 dX8_add_89 ?_
  refine lv_iload hx hb dX8_add_92 (lv_at hl 5 rfl) ?_
  refine lv_if_eq (tgt := 102) hx hb dX8_add_94 (by decide) (fun c5 => ?_) (fun c5 => ?_)
  · have hm := Eq.trans (if_pos c5).symm hm
    refine lv_aload_n hx hb dX8_add_102 rfl (lv_at hl 1 rfl) ?_
    refine lv_iload_n hx hb dX8_add_103 rfl (lv_at hl 3 rfl) ?_
    obtain ⟨r6, h7, hm⟩ := b1_some hm
    refine r_backS (va_runV (As := [.int a2]) (rest := [.int (zx4.1 6), .ref (ad 6)]) ⟨hx, hb, C0.2.2.2.1, C0.2.2.2.2.1, C0.2.2.2.2.2.1⟩ (tX8_alikeWith l E ad zx4 a2 h7 H.size) (cwV 1 C0.2.2.2.2.2.1 gX8_add_X8_alikeWith rfl rfl rfl (by decide +kernel) ⟨Nat.le_of_ble_eq_true rfl, Nat.le_of_ble_eq_true rfl⟩) ⟨PG_blind, va_recv hA.2.2.1.1 hw.1 (ci := 8) (q0 := 0) rfl rfl, pg_self hA hw⟩ rfl rfl hl.1 rfl (lv_room (Nat.le_of_ble_eq_true rfl)) dX8_add_104 ⟨Nat.zero_le _, Nat.zero_le _⟩) hA hw (fun H locs hw => ?_)
    exact kX8_add_b107 C0 hA zx4 a1 a2 a3 a4 a5 (zx4.1 6) r6 _ _ _ hm hw (lv_sub hl [1, 2, 3, 4, 5, 6] rfl)
  · have hm := Eq.trans (if_neg c5).symm hm
    refine lv_iload hx hb dX8_add_97 (lv_at hl 0 rfl) ?_
    refine lv_goto (tgt := 107) hx hb dX8_add_99 (by decide) ?_
    exact kX8_add_b107 C0 hA zx4 a1 a2 a3 a4 a5 (zx4.1 6) t0 _ _ _ hm hw (lv_sub hl [1, 2, 3, 4, 5, 6] rfl)
set_option maxRecDepth 20000 in
theorem kX8_add_b45 {p : Program} {l : Launch} {e : Env} {s : State} {m : MethodId} {args : Array Value} {below : List Frame} {meth : Method} {c : Code} {A : Nat → Prop} {E : EV} {ad : Nat → Nat}  {zx' : OS} (C0 : Cx RX8 "add" cX8_add (none) 7 wsX8_add p s m args meth c) (hA : Ax E A s) : ∀ (zx : OS) (a1 : Int32) (a2 : Int32) (a3 : Int32) (a4 : Int32) (t0 : Int32) (H : Heap) (locs : List Loc) (ls : Array Slot), mX8_add_b45 zx a1 a2 a3 a4 t0 = some zx' → Wd E A s H locs (wU E ad zx) → lv_has ls 7 [(0, .ref (ad 0)), (1, .int a1), (2, .int a2), (3, .int a3), (4, .int a4)] → W p l e ({ frames := 2, cells := 0, slots := 0, locals := 42 } : Room) s m args below meth c H locs 0 0 (MQ below (QG E (Qd none (wU E ad zx')) A) args s 0 0 A) (F0 m 45 ls [.int t0]) := by
  have hx := C0.1
  have hb := C0.2.1
  intro zx a1 a2 a3 a4 t0 H locs ls hm hw hl
  unfold mX8_add_b45 at hm
  refine lv_istore (lv' := [(5, .int t0), (0, .ref (ad 0)), (1, .int a1), (2, .int a2), (3, .int a3), (4, .int a4)]) hx hb dX8_add_45 hl (by decide) rfl (fun ls hl => ?_)
  refine lv_aload_n hx hb dX8_add_47 rfl (lv_at hl 1 rfl) ?_
  refine gU_0_6 C0 hA hw hiX8_add_X8 lkX8_add_30 dX8_add_48 ?_
  refine lv_if_ne (tgt := 58) hx hb dX8_add_51 (by decide) (fun c1 => ?_) (fun c1 => ?_)
  · have hm := Eq.trans (if_neg c1).symm hm
    refine lv_aload_n hx hb dX8_add_58 rfl (lv_at hl 1 rfl) ?_
    refine gU_0_5 C0 hA hw hiX8_add_X8 lkX8_add_27 dX8_add_59 ?_
    refine lv_aload_n hx hb dX8_add_62 rfl (lv_at hl 1 rfl) ?_
    refine gU_0_6 C0 hA hw hiX8_add_X8 lkX8_add_30 dX8_add_63 ?_
    refine lv_iconst (v := 1) hx hb dX8_add_66 (by decide) ?_
    refine lv_isub hx hb dX8_add_67 ?_
    obtain ⟨c2, hm⟩ := gd_some hm
    refine lU_6 C0 hA hw c2 dX8_add_68 ?_
    exact kX8_add_b69 C0 hA zx a1 a2 a3 a4 t0 (zx.2.2.1 5 ((zx.1 6) - 1 : Int32).toNatClampNeg) _ _ _ hm hw (lv_sub hl [1, 2, 3, 4, 5, 0] rfl)
  · have hm := Eq.trans (if_pos c1).symm hm
    refine lv_iconst (v := 0) hx hb dX8_add_54 (by decide) ?_
    refine lv_goto (tgt := 69) hx hb dX8_add_55 (by decide) ?_
    exact kX8_add_b69 C0 hA zx a1 a2 a3 a4 t0 0 _ _ _ hm hw (lv_sub hl [1, 2, 3, 4, 5, 0] rfl)
set_option maxRecDepth 20000 in
theorem kX8_add_b21 {p : Program} {l : Launch} {e : Env} {s : State} {m : MethodId} {args : Array Value} {below : List Frame} {meth : Method} {c : Code} {A : Nat → Prop} {E : EV} {ad : Nat → Nat}  {zx' : OS} (C0 : Cx RX8 "add" cX8_add (none) 7 wsX8_add p s m args meth c) (hA : Ax E A s) : ∀ (zx : OS) (a1 : Int32) (a2 : Int32) (a3 : Int32) (t0 : Int32) (H : Heap) (locs : List Loc) (ls : Array Slot), mX8_add_b21 zx a1 a2 a3 t0 = some zx' → Wd E A s H locs (wU E ad zx) → lv_has ls 7 [(0, .ref (ad 0)), (1, .int a1), (2, .int a2), (3, .int a3)] → W p l e ({ frames := 2, cells := 0, slots := 0, locals := 42 } : Room) s m args below meth c H locs 0 0 (MQ below (QG E (Qd none (wU E ad zx')) A) args s 0 0 A) (F0 m 21 ls [.int t0]) := by
  have hx := C0.1
  have hb := C0.2.1
  intro zx a1 a2 a3 t0 H locs ls hm hw hl
  unfold mX8_add_b21 at hm
  refine lv_istore (lv' := [(4, .int t0), (0, .ref (ad 0)), (1, .int a1), (2, .int a2), (3, .int a3)]) hx hb dX8_add_21 hl (by decide) rfl (fun ls hl => ?_)
  refine lv_aload_n hx hb dX8_add_23 rfl (lv_at hl 1 rfl) ?_
  refine gU_0_6 C0 hA hw hiX8_add_X8 lkX8_add_30 dX8_add_24 ?_
  refine lv_if_ne (tgt := 34) hx hb dX8_add_27 (by decide) (fun c1 => ?_) (fun c1 => ?_)
  · have hm := Eq.trans (if_neg c1).symm hm
    refine lv_aload_n hx hb dX8_add_34 rfl (lv_at hl 1 rfl) ?_
    refine gU_0_4 C0 hA hw hiX8_add_X8 lkX8_add_24 dX8_add_35 ?_
    refine lv_aload_n hx hb dX8_add_38 rfl (lv_at hl 1 rfl) ?_
    refine gU_0_6 C0 hA hw hiX8_add_X8 lkX8_add_30 dX8_add_39 ?_
    refine lv_iconst (v := 1) hx hb dX8_add_42 (by decide) ?_
    refine lv_isub hx hb dX8_add_43 ?_
    obtain ⟨c2, hm⟩ := gd_some hm
    refine lU_5 C0 hA hw c2 dX8_add_44 ?_
    exact kX8_add_b45 C0 hA zx a1 a2 a3 t0 (zx.2.2.1 4 ((zx.1 6) - 1 : Int32).toNatClampNeg) _ _ _ hm hw (lv_sub hl [1, 2, 3, 4, 0] rfl)
  · have hm := Eq.trans (if_pos c1).symm hm
    refine lv_iconst (v := (-1)) hx hb dX8_add_30 (by decide) ?_
    refine lv_goto (tgt := 45) hx hb dX8_add_31 (by decide) ?_
    exact kX8_add_b45 C0 hA zx a1 a2 a3 t0 (-1) _ _ _ hm hw (lv_sub hl [1, 2, 3, 4, 0] rfl)
set_option maxRecDepth 20000 in
theorem kX8_add_b0 {p : Program} {l : Launch} {e : Env} {s : State} {m : MethodId} {args : Array Value} {below : List Frame} {meth : Method} {c : Code} {A : Nat → Prop} {E : EV} {ad : Nat → Nat}  {zx' : OS} (C0 : Cx RX8 "add" cX8_add (none) 7 wsX8_add p s m args meth c) (hA : Ax E A s) : ∀ (zx : OS) (a1 : Int32) (a2 : Int32) (a3 : Int32) (H : Heap) (locs : List Loc) (ls : Array Slot), mX8_add_b0 zx a1 a2 a3 = some zx' → Wd E A s H locs (wU E ad zx) → lv_has ls 7 [(0, .ref (ad 0)), (1, .int a1), (2, .int a2), (3, .int a3)] → W p l e ({ frames := 2, cells := 0, slots := 0, locals := 42 } : Room) s m args below meth c H locs 0 0 (MQ below (QG E (Qd none (wU E ad zx')) A) args s 0 0 A) (F0 m 0 ls []) := by
  have hx := C0.1
  have hb := C0.2.1
  intro zx a1 a2 a3 H locs ls hm hw hl
  unfold mX8_add_b0 at hm
  refine lv_aload_n hx hb dX8_add_0 rfl (lv_at hl 0 rfl) ?_
  refine gU_0_6 C0 hA hw hiX8_add_X8 lkX8_add_30 dX8_add_1 ?_
  refine lv_sipush (v := 256) hx hb dX8_add_4 (by decide) ?_
  refine lv_icmp_lt (tgt := 11) hx hb dX8_add_7 (by decide) (fun c1 => ?_) (fun c1 => ?_)
  · have hm := Eq.trans (if_pos c1).symm hm
    refine lv_iload_n hx hb dX8_add_11 rfl (lv_at hl 1 rfl) ?_
    refine lv_iconst (v := (-1)) hx hb dX8_add_12 (by decide) ?_
    refine lv_icmp_ne (tgt := 20) hx hb dX8_add_13 (by decide) (fun c2 => ?_) (fun c2 => ?_)
    · have hm := Eq.trans (if_neg c2).symm hm
      refine lv_iconst (v := 0) hx hb dX8_add_20 (by decide) ?_
      exact kX8_add_b21 C0 hA zx a1 a2 a3 0 _ _ _ hm hw (lv_sub hl [0, 1, 2, 3] rfl)
    · have hm := Eq.trans (if_pos c2).symm hm
      refine lv_iconst (v := 1) hx hb dX8_add_16 (by decide) ?_
      refine lv_goto (tgt := 21) hx hb dX8_add_17 (by decide) ?_
      exact kX8_add_b21 C0 hA zx a1 a2 a3 1 _ _ _ hm hw (lv_sub hl [0, 1, 2, 3] rfl)
  · have hm := Eq.trans (if_neg c1).symm hm
    obtain rfl := sj1 hm
    exact r_vret C0 hw dX8_add_10 ⟨rfl, rfl⟩
theorem tX8_add (l : Launch) (E : EV) (ad : Nat → Nat) (zx : OS) (a1 : Int32) (a2 : Int32) (a3 : Int32) {zx' : OS} (hm : mX8_add zx a1 a2 a3 = some zx') : CT l yX8_add wsX8_add ({ frames := 2, cells := 0, slots := 0, locals := 42 } : Room) E [.ref (ad 0), .int a1, .int a2, .int a3] (wU E ad zx) (Qd none (wU E ad zx')) 0 0 :=
  CT.of (mL := 7) (lvs := [(0, .ref (ad 0)), (1, .int a1), (2, .int a2), (3, .int a3)]) (by decide +kernel) rfl (Nat.le_of_ble_eq_true rfl) rfl rfl rfl (fun p e s m below meth c A C0 hA hw ls hl => kX8_add_b0 (ad := ad) C0 hA zx a1 a2 a3 _ _ _ hm hw (lv_sub hl [0, 1, 2, 3] rfl))
theorem lkX0_add_21 : Cond.fieldLink RX0 21 (TX0 3).1 (TX0 3).2.1 (TX0 3).2.2.1 ∈ wsX0_add := by decide +kernel
theorem lkX0_add_9 : Cond.fieldLink RX0 9 (TX0 0).1 (TX0 0).2.1 (TX0 0).2.2.1 ∈ wsX0_add := by decide +kernel
theorem hiX0_add_X0 : ∀ w ∈ u_ws RX0 TX0 5, w ∈ wsX0_add := by decide +kernel
def mX0_add_b0  (zx : OS) (a1 : Int32) : Option (Int32 × OS) := (if (zx.1 3 : Int32) < 300 then gd (zx.1 3) 300 (nm (sA zx 0 (zx.1 3) a1) (fun zx3 => nm (sI zx3 3 ((zx3.1 3) + 1)) (fun zx4 => some (zx4.1 3, zx4)))) else some ((-4), zx))
def mX0_add (zx : OS) (a1 : Int32) : Option (Int32 × OS) := mX0_add_b0 zx a1
set_option maxRecDepth 20000 in
theorem kX0_add_b0 {p : Program} {l : Launch} {e : Env} {s : State} {m : MethodId} {args : Array Value} {below : List Frame} {meth : Method} {c : Code} {A : Nat → Prop} {E : EV} {ad : Nat → Nat}  {r : Int32} {zx' : OS} (C0 : Cx RX0 "add" cX0_add (some .int) 2 wsX0_add p s m args meth c) (hA : Ax E A s) : ∀ (zx : OS) (a1 : Int32) (H : Heap) (locs : List Loc) (ls : Array Slot), mX0_add_b0 zx a1 = some (r, zx') → Wd E A s H locs (wC E ad zx) → lv_has ls 2 [(0, .ref (ad 0)), (1, .int a1)] → W p l e ({ frames := 0, cells := 0, slots := 0, locals := 0 } : Room) s m args below meth c H locs 0 0 (MQ below (QG E (Qd (some (.int r)) (wC E ad zx')) A) args s 0 0 A) (F0 m 0 ls []) := by
  have hx := C0.1
  have hb := C0.2.1
  intro zx a1 H locs ls hm hw hl
  unfold mX0_add_b0 at hm
  refine lv_aload_n hx hb dX0_add_0 rfl (lv_at hl 0 rfl) ?_
  refine gC_0_3 C0 hA hw hiX0_add_X0 lkX0_add_21 dX0_add_1 ?_
  refine lv_sipush (v := 300) hx hb dX0_add_4 (by decide) ?_
  refine lv_icmp_lt (tgt := 13) hx hb dX0_add_7 (by decide) (fun c1 => ?_) (fun c1 => ?_)
  · have hm := Eq.trans (if_pos c1).symm hm
    refine lv_aload_n hx hb dX0_add_13 rfl (lv_at hl 0 rfl) ?_
    refine gC_0_0 C0 hA hw hiX0_add_X0 lkX0_add_9 dX0_add_14 ?_
    refine lv_aload_n hx hb dX0_add_17 rfl (lv_at hl 0 rfl) ?_
    refine gC_0_3 C0 hA hw hiX0_add_X0 lkX0_add_21 dX0_add_18 ?_
    refine lv_iload_n hx hb dX0_add_21 rfl (lv_at hl 1 rfl) ?_
    obtain ⟨c2, hm⟩ := gd_some hm
    refine sC_1 C0 hA hw c2 dX0_add_22 (fun zx3 ezx3 H locs hw => ?_)
    have hm := nm_at hm ezx3
    refine lv_aload_n hx hb dX0_add_23 rfl (lv_at hl 0 rfl) ?_
    refine lv_dup hx hb dX0_add_24 rfl ?_
    refine gC_0_3 C0 hA hw hiX0_add_X0 lkX0_add_21 dX0_add_25 ?_
    refine lv_iconst (v := 1) hx hb dX0_add_28 (by decide) ?_
    refine lv_iadd hx hb dX0_add_29 ?_
    refine pC_0_3 C0 hA hw hiX0_add_X0 lkX0_add_21 dX0_add_30 (fun zx4 ezx4 H locs hw => ?_)
    have hm := nm_at hm ezx4
    refine lv_aload_n hx hb dX0_add_33 rfl (lv_at hl 0 rfl) ?_
    refine gC_0_3 C0 hA hw hiX0_add_X0 lkX0_add_21 dX0_add_34 ?_
    obtain ⟨rfl, rfl⟩ := sj2 hm
    exact r_iret C0 hw dX0_add_37 ⟨rfl, rfl⟩
  · have hm := Eq.trans (if_neg c1).symm hm
    refine lv_bipush (v := (-4)) hx hb dX0_add_10 (by decide) ?_
    obtain ⟨rfl, rfl⟩ := sj2 hm
    exact r_iret C0 hw dX0_add_12 ⟨rfl, rfl⟩
theorem tX0_add (l : Launch) (E : EV) (ad : Nat → Nat) (zx : OS) (a1 : Int32) {r : Int32} {zx' : OS} (hm : mX0_add zx a1 = some (r, zx')) : CT l yX0_add wsX0_add ({ frames := 0, cells := 0, slots := 0, locals := 0 } : Room) E [.ref (ad 0), .int a1] (wC E ad zx) (Qd (some (.int r)) (wC E ad zx')) 0 0 :=
  CT.of (mL := 2) (lvs := [(0, .ref (ad 0)), (1, .int a1)]) (by decide +kernel) rfl (Nat.le_of_ble_eq_true rfl) rfl rfl rfl (fun p e s m below meth c A C0 hA hw ls hl => kX0_add_b0 (ad := ad) C0 hA zx a1 _ _ _ hm hw (lv_sub hl [0, 1] rfl))
theorem lkX0_clear_21 : Cond.fieldLink RX0 21 (TX0 3).1 (TX0 3).2.1 (TX0 3).2.2.1 ∈ wsX0_clear := by decide +kernel
theorem hiX0_clear_X0 : ∀ w ∈ u_ws RX0 TX0 5, w ∈ wsX0_clear := by decide +kernel
def mX0_clear_b0  (zx : OS) : Option (Int32 × OS) := nm (zx.1 3 : Int32) (fun v1 => nm (sI zx 3 0) (fun zx2 => some (v1, zx2)))
def mX0_clear (zx : OS)  : Option (Int32 × OS) := mX0_clear_b0 zx
set_option maxRecDepth 20000 in
theorem kX0_clear_b0 {p : Program} {l : Launch} {e : Env} {s : State} {m : MethodId} {args : Array Value} {below : List Frame} {meth : Method} {c : Code} {A : Nat → Prop} {E : EV} {ad : Nat → Nat}  {r : Int32} {zx' : OS} (C0 : Cx RX0 "clear" cX0_clear (some .int) 2 wsX0_clear p s m args meth c) (hA : Ax E A s) : ∀ (zx : OS) (H : Heap) (locs : List Loc) (ls : Array Slot), mX0_clear_b0 zx = some (r, zx') → Wd E A s H locs (wC E ad zx) → lv_has ls 2 [(0, .ref (ad 0))] → W p l e ({ frames := 0, cells := 0, slots := 0, locals := 0 } : Room) s m args below meth c H locs 0 0 (MQ below (QG E (Qd (some (.int r)) (wC E ad zx')) A) args s 0 0 A) (F0 m 0 ls []) := by
  have hx := C0.1
  have hb := C0.2.1
  intro zx H locs ls hm hw hl
  unfold mX0_clear_b0 at hm
  refine lv_aload_n hx hb dX0_clear_0 rfl (lv_at hl 0 rfl) ?_
  refine gC_0_3 C0 hA hw hiX0_clear_X0 lkX0_clear_21 dX0_clear_1 ?_
  refine lv_topi (fun v1 ev1 => ?_)
  have hm := nm_at hm ev1
  refine lv_istore_n (lv' := [(1, .int v1), (0, .ref (ad 0))]) hx hb dX0_clear_4 rfl hl (by decide) rfl (fun ls hl => ?_)
  refine lv_aload_n hx hb dX0_clear_5 rfl (lv_at hl 1 rfl) ?_
  refine lv_iconst (v := 0) hx hb dX0_clear_6 (by decide) ?_
  refine pC_0_3 C0 hA hw hiX0_clear_X0 lkX0_clear_21 dX0_clear_7 (fun zx2 ezx2 H locs hw => ?_)
  have hm := nm_at hm ezx2
  refine lv_iload_n hx hb dX0_clear_10 rfl (lv_at hl 0 rfl) ?_
  obtain ⟨rfl, rfl⟩ := sj2 hm
  exact r_iret C0 hw dX0_clear_11 ⟨rfl, rfl⟩
theorem tX0_clear (l : Launch) (E : EV) (ad : Nat → Nat) (zx : OS)  {r : Int32} {zx' : OS} (hm : mX0_clear zx = some (r, zx')) : CT l yX0_clear wsX0_clear ({ frames := 0, cells := 0, slots := 0, locals := 0 } : Room) E [.ref (ad 0)] (wC E ad zx) (Qd (some (.int r)) (wC E ad zx')) 0 0 :=
  CT.of (mL := 2) (lvs := [(0, .ref (ad 0))]) (by decide +kernel) rfl (Nat.le_of_ble_eq_true rfl) rfl rfl rfl (fun p e s m below meth c A C0 hA hw ls hl => kX0_clear_b0 (ad := ad) C0 hA zx _ _ _ hm hw (lv_sub hl [0] rfl))
theorem lkX0_isBehindLatest_9 : Cond.fieldLink RX0 9 (TX0 0).1 (TX0 0).2.1 (TX0 0).2.2.1 ∈ wsX0_isBehindLatest := by decide +kernel
theorem lkX0_isBehindLatest_15 : Cond.fieldLink RX0 15 (TX0 1).1 (TX0 1).2.1 (TX0 1).2.2.1 ∈ wsX0_isBehindLatest := by decide +kernel
theorem lkX0_isBehindLatest_25 : Cond.fieldLink RX0 25 (TX0 4).1 (TX0 4).2.1 (TX0 4).2.2.1 ∈ wsX0_isBehindLatest := by decide +kernel
theorem hiX0_isBehindLatest_X0 : ∀ w ∈ u_ws RX0 TX0 5, w ∈ wsX0_isBehindLatest := by decide +kernel
def mX0_isBehindLatest_b2 (F : Nat)  : Nat → OS → Int32 → Int32 → Int32 → Option (Int32)
  | 0, _, _, _, _ => none
  | n + 1, zx, a1, a2, a3 => (if a2 < (a3 : Int32) then some 1 else gd (a1 - a3) 300 (gd ((zx.1 4) - a3) 203 ((if (zx.2.2.1 0 (a1 - a3 : Int32).toNatClampNeg : Int32) = (zx.2.2.1 1 ((zx.1 4) - a3 : Int32).toNatClampNeg) then nm (a3 + 1 : Int32) (fun v5 => mX0_isBehindLatest_b2 F n zx a1 a2 v5) else some 0))))
def mX0_isBehindLatest_b0 (F : Nat)  (zx : OS) (a1 : Int32) (a2 : Int32) : Option (Int32) := nm (1 : Int32) (fun v1 => mX0_isBehindLatest_b2 F F zx a1 a2 v1)
def mX0_isBehindLatest (F : Nat) (zx : OS) (a1 : Int32) (a2 : Int32) : Option (Int32) := mX0_isBehindLatest_b0 F zx a1 a2
set_option maxRecDepth 20000 in
theorem kX0_isBehindLatest_b2 {p : Program} {l : Launch} {e : Env} {s : State} {m : MethodId} {args : Array Value} {below : List Frame} {meth : Method} {c : Code} {A : Nat → Prop} {E : EV} {ad : Nat → Nat} (F : Nat) {zx : OS} {r : Int32} (C0 : Cx RX0 "isBehindLatest" cX0_isBehindLatest (some .boolean) 4 wsX0_isBehindLatest p s m args meth c) (hA : Ax E A s) : ∀ (n : Nat) (a1 : Int32) (a2 : Int32) (a3 : Int32) (H : Heap) (locs : List Loc) (ls : Array Slot), mX0_isBehindLatest_b2 F n zx a1 a2 a3 = some r → Wd E A s H locs (wC E ad zx) → lv_has ls 4 [(0, .ref (ad 0)), (1, .int a1), (2, .int a2), (3, .int a3)] → W p l e ({ frames := 0, cells := 0, slots := 0, locals := 0 } : Room) s m args below meth c H locs 0 0 (MQ below (QG E (Qd (some (.int r)) (wC E ad zx)) A) args s 0 0 A) (F0 m 2 ls []) := by
  have hx := C0.1
  have hb := C0.2.1
  intro n
  induction n with
  | zero =>
    intro a1 a2 a3 H locs ls hm
    cases hm
  | succ n ih =>
    intro a1 a2 a3 H locs ls hm hw hl
    unfold mX0_isBehindLatest_b2 at hm
    refine lv_iload_n hx hb dX0_isBehindLatest_2 rfl (lv_at hl 3 rfl) ?_
    refine lv_iload_n hx hb dX0_isBehindLatest_3 rfl (lv_at hl 2 rfl) ?_
    refine lv_icmp_gt (tgt := 37) hx hb dX0_isBehindLatest_4 (by decide) (fun c1 => ?_) (fun c1 => ?_)
    · have hm := Eq.trans (if_pos c1).symm hm
      refine lv_iconst (v := 1) hx hb dX0_isBehindLatest_37 (by decide) ?_
      obtain rfl := sj1 hm
      exact r_zret C0 hw dX0_isBehindLatest_38 rfl ⟨rfl, rfl⟩
    · have hm := Eq.trans (if_neg c1).symm hm
      refine lv_aload_n hx hb dX0_isBehindLatest_7 rfl (lv_at hl 0 rfl) ?_
      refine gC_0_0 C0 hA hw hiX0_isBehindLatest_X0 lkX0_isBehindLatest_9 dX0_isBehindLatest_8 ?_
      refine lv_iload_n hx hb dX0_isBehindLatest_11 rfl (lv_at hl 1 rfl) ?_
      refine lv_iload_n hx hb dX0_isBehindLatest_12 rfl (lv_at hl 3 rfl) ?_
      refine lv_isub hx hb dX0_isBehindLatest_13 ?_
      obtain ⟨c2, hm⟩ := gd_some hm
      refine lC_1 C0 hA hw c2 dX0_isBehindLatest_14 ?_
      refine lv_aload_n hx hb dX0_isBehindLatest_15 rfl (lv_at hl 0 rfl) ?_
      refine gC_0_1 C0 hA hw hiX0_isBehindLatest_X0 lkX0_isBehindLatest_15 dX0_isBehindLatest_16 ?_
      refine lv_aload_n hx hb dX0_isBehindLatest_19 rfl (lv_at hl 0 rfl) ?_
      refine gC_0_4 C0 hA hw hiX0_isBehindLatest_X0 lkX0_isBehindLatest_25 dX0_isBehindLatest_20 ?_
      refine lv_iload_n hx hb dX0_isBehindLatest_23 rfl (lv_at hl 3 rfl) ?_
      refine lv_isub hx hb dX0_isBehindLatest_24 ?_
      obtain ⟨c3, hm⟩ := gd_some hm
      refine lC_2 C0 hA hw c3 dX0_isBehindLatest_25 ?_
      refine lv_icmp_eq (tgt := 31) hx hb dX0_isBehindLatest_26 (by decide) (fun c4 => ?_) (fun c4 => ?_)
      · have hm := Eq.trans (if_pos c4).symm hm
        obtain ⟨v5, ev5⟩ : ∃ y : Int32, y = a3 + 1 := ⟨_, rfl⟩
        have hm := nm_at hm ev5
        refine lv_iinc (v := v5) (lv' := [(3, .int v5), (0, .ref (ad 0)), (1, .int a1), (2, .int a2)]) hx hb dX0_isBehindLatest_31 hl (k := 3) rfl (by rw [ev5]; rfl) (by decide) rfl (fun ls hl => ?_)
        refine lv_goto (tgt := 2) hx hb dX0_isBehindLatest_34 (by decide) ?_
        exact ih a1 a2 v5 _ _ _ hm hw (lv_sub hl [1, 2, 3, 0] rfl)
      · have hm := Eq.trans (if_neg c4).symm hm
        refine lv_iconst (v := 0) hx hb dX0_isBehindLatest_29 (by decide) ?_
        obtain rfl := sj1 hm
        exact r_zret C0 hw dX0_isBehindLatest_30 rfl ⟨rfl, rfl⟩
set_option maxRecDepth 20000 in
theorem kX0_isBehindLatest_b0 {p : Program} {l : Launch} {e : Env} {s : State} {m : MethodId} {args : Array Value} {below : List Frame} {meth : Method} {c : Code} {A : Nat → Prop} {E : EV} {ad : Nat → Nat} (F : Nat) {zx : OS} {r : Int32} (C0 : Cx RX0 "isBehindLatest" cX0_isBehindLatest (some .boolean) 4 wsX0_isBehindLatest p s m args meth c) (hA : Ax E A s) : ∀ (a1 : Int32) (a2 : Int32) (H : Heap) (locs : List Loc) (ls : Array Slot), mX0_isBehindLatest_b0 F zx a1 a2 = some r → Wd E A s H locs (wC E ad zx) → lv_has ls 4 [(0, .ref (ad 0)), (1, .int a1), (2, .int a2)] → W p l e ({ frames := 0, cells := 0, slots := 0, locals := 0 } : Room) s m args below meth c H locs 0 0 (MQ below (QG E (Qd (some (.int r)) (wC E ad zx)) A) args s 0 0 A) (F0 m 0 ls []) := by
  have hx := C0.1
  have hb := C0.2.1
  intro a1 a2 H locs ls hm hw hl
  unfold mX0_isBehindLatest_b0 at hm
  refine lv_iconst (v := 1) hx hb dX0_isBehindLatest_0 (by decide) ?_
  refine lv_topi (fun v1 ev1 => ?_)
  have hm := nm_at hm ev1
  refine lv_istore_n (lv' := [(3, .int v1), (0, .ref (ad 0)), (1, .int a1), (2, .int a2)]) hx hb dX0_isBehindLatest_1 rfl hl (by decide) rfl (fun ls hl => ?_)
  exact kX0_isBehindLatest_b2 F C0 hA F a1 a2 v1 _ _ _ hm hw (lv_sub hl [1, 2, 3, 0] rfl)
theorem tX0_isBehindLatest (l : Launch) (E : EV) (ad : Nat → Nat) (F : Nat) (zx : OS) (a1 : Int32) (a2 : Int32) {r : Int32} (hm : mX0_isBehindLatest F zx a1 a2 = some r) : CT l yX0_isBehindLatest wsX0_isBehindLatest ({ frames := 0, cells := 0, slots := 0, locals := 0 } : Room) E [.ref (ad 0), .int a1, .int a2] (wC E ad zx) (Qd (some (.int r)) (wC E ad zx)) 0 0 :=
  CT.of (mL := 4) (lvs := [(0, .ref (ad 0)), (1, .int a1), (2, .int a2)]) (by decide +kernel) rfl (Nat.le_of_ble_eq_true rfl) rfl rfl rfl (fun p e s m below meth c A C0 hA hw ls hl => kX0_isBehindLatest_b0 (ad := ad) F C0 hA a1 a2 _ _ _ hm hw (lv_sub hl [0, 1, 2] rfl))
theorem lkX0_findFollowers_21 : Cond.fieldLink RX0 21 (TX0 3).1 (TX0 3).2.1 (TX0 3).2.2.1 ∈ wsX0_findFollowers := by decide +kernel
theorem lkX0_findFollowers_18 : Cond.fieldLink RX0 18 (TX0 2).1 (TX0 2).2.1 (TX0 2).2.2.1 ∈ wsX0_findFollowers := by decide +kernel
theorem hiX0_findFollowers_X0 : ∀ w ∈ u_ws RX0 TX0 5, w ∈ wsX0_findFollowers := by decide +kernel
def mX0_findFollowers_b4 (F : Nat)  : Nat → OS → Int32 → Int32 → Int32 → Option (Int32 × OS)
  | 0, _, _, _, _ => none
  | n + 1, zx, a1, a2, a3 => (if (zx.1 3) ≤ (a3 : Int32) then some (a2, zx) else b1 (mX0_isBehindLatest F zx a3 a1) (fun r2 => (if (r2 : Int32) = 0 then nm (a3 + 1 : Int32) (fun v5 => mX0_findFollowers_b4 F n zx a1 a2 v5) else gd a2 300 (nm (sA zx 2 a2 a3) (fun zx7 => nm (a2 + 1 : Int32) (fun v8 => nm (a3 + 1 : Int32) (fun v9 => mX0_findFollowers_b4 F n zx7 a1 v8 v9)))))))
def mX0_findFollowers_b0 (F : Nat)  (zx : OS) (a1 : Int32) : Option (Int32 × OS) := nm (0 : Int32) (fun v1 => mX0_findFollowers_b4 F F zx a1 v1 a1)
def mX0_findFollowers (F : Nat) (zx : OS) (a1 : Int32) : Option (Int32 × OS) := mX0_findFollowers_b0 F zx a1
set_option maxRecDepth 20000 in
theorem kX0_findFollowers_b4 {p : Program} {l : Launch} {e : Env} {s : State} {m : MethodId} {args : Array Value} {below : List Frame} {meth : Method} {c : Code} {A : Nat → Prop} {E : EV} {ad : Nat → Nat} (F : Nat)  {r : Int32} {zx' : OS} (C0 : Cx RX0 "findFollowers" cX0_findFollowers (some .int) 4 wsX0_findFollowers p s m args meth c) (hA : Ax E A s) : ∀ (n : Nat) (zx : OS) (a1 : Int32) (a2 : Int32) (a3 : Int32) (H : Heap) (locs : List Loc) (ls : Array Slot), mX0_findFollowers_b4 F n zx a1 a2 a3 = some (r, zx') → Wd E A s H locs (wC E ad zx) → lv_has ls 4 [(0, .ref (ad 0)), (1, .int a1), (2, .int a2), (3, .int a3)] → W p l e ({ frames := 1, cells := 0, slots := 0, locals := 23 } : Room) s m args below meth c H locs 0 0 (MQ below (QG E (Qd (some (.int r)) (wC E ad zx')) A) args s 0 0 A) (F0 m 4 ls []) := by
  have hx := C0.1
  have hb := C0.2.1
  intro n
  induction n with
  | zero =>
    intro zx a1 a2 a3 H locs ls hm
    cases hm
  | succ n ih =>
    intro zx a1 a2 a3 H locs ls hm hw hl
    unfold mX0_findFollowers_b4 at hm
    refine lv_iload_n hx hb dX0_findFollowers_4 rfl (lv_at hl 3 rfl) ?_
    refine lv_aload_n hx hb dX0_findFollowers_5 rfl (lv_at hl 0 rfl) ?_
    refine gC_0_3 C0 hA hw hiX0_findFollowers_X0 lkX0_findFollowers_21 dX0_findFollowers_6 ?_
    refine lv_icmp_ge (tgt := 37) hx hb dX0_findFollowers_9 (by decide) (fun c1 => ?_) (fun c1 => ?_)
    · have hm := Eq.trans (if_pos c1).symm hm
      refine lv_iload_n hx hb dX0_findFollowers_37 rfl (lv_at hl 2 rfl) ?_
      obtain ⟨rfl, rfl⟩ := sj2 hm
      exact r_iret C0 hw dX0_findFollowers_38 ⟨rfl, rfl⟩
    · have hm := Eq.trans (if_neg c1).symm hm
      refine lv_aload_n hx hb dX0_findFollowers_12 rfl (lv_at hl 0 rfl) ?_
      refine lv_iload_n hx hb dX0_findFollowers_13 rfl (lv_at hl 3 rfl) ?_
      refine lv_iload_n hx hb dX0_findFollowers_14 rfl (lv_at hl 1 rfl) ?_
      obtain ⟨r2, h3, hm⟩ := b1_some hm
      refine r_backS (va_runV (As := [.int a3, .int a1]) (rest := []) ⟨hx, hb, C0.2.2.2.1, C0.2.2.2.2.1, C0.2.2.2.2.2.1⟩ (tX0_isBehindLatest l E ad F zx a3 a1 h3 H.size) (cwV 2 C0.2.2.2.2.2.1 gX0_findFollowers_X0_isBehindLatest rfl rfl rfl (by decide +kernel) ⟨Nat.le_of_ble_eq_true rfl, Nat.le_of_ble_eq_true rfl⟩) ⟨PG_blind, va_recv hA.2.2.1.1 hw.1 (ci := 0) (q0 := 0) rfl rfl, pg_self hA hw⟩ rfl rfl hl.1 rfl (lv_room (Nat.le_of_ble_eq_true rfl)) dX0_findFollowers_15 ⟨Nat.zero_le _, Nat.zero_le _⟩) hA hw (fun H locs hw => ?_)
      refine lv_if_eq (tgt := 31) hx hb dX0_findFollowers_18 (by decide) (fun c4 => ?_) (fun c4 => ?_)
      · have hm := Eq.trans (if_pos c4).symm hm
        obtain ⟨v5, ev5⟩ : ∃ y : Int32, y = a3 + 1 := ⟨_, rfl⟩
        have hm := nm_at hm ev5
        refine lv_iinc (v := v5) (lv' := [(3, .int v5), (0, .ref (ad 0)), (1, .int a1), (2, .int a2)]) hx hb dX0_findFollowers_31 hl (k := 3) rfl (by rw [ev5]; rfl) (by decide) rfl (fun ls hl => ?_)
        refine lv_goto (tgt := 4) hx hb dX0_findFollowers_34 (by decide) ?_
        exact ih zx a1 a2 v5 _ _ _ hm hw (lv_sub hl [1, 2, 3, 0] rfl)
      · have hm := Eq.trans (if_neg c4).symm hm
        refine lv_aload_n hx hb dX0_findFollowers_21 rfl (lv_at hl 0 rfl) ?_
        refine gC_0_2 C0 hA hw hiX0_findFollowers_X0 lkX0_findFollowers_18 dX0_findFollowers_22 ?_
        refine lv_iload_n hx hb dX0_findFollowers_25 rfl (lv_at hl 2 rfl) ?_
        refine lv_iload_n hx hb dX0_findFollowers_26 rfl (lv_at hl 3 rfl) ?_
        obtain ⟨c6, hm⟩ := gd_some hm
        refine sC_3 C0 hA hw c6 dX0_findFollowers_27 (fun zx7 ezx7 H locs hw => ?_)
        have hm := nm_at hm ezx7
        obtain ⟨v8, ev8⟩ : ∃ y : Int32, y = a2 + 1 := ⟨_, rfl⟩
        have hm := nm_at hm ev8
        refine lv_iinc (v := v8) (lv' := [(2, .int v8), (0, .ref (ad 0)), (1, .int a1), (3, .int a3)]) hx hb dX0_findFollowers_28 hl (k := 2) rfl (by rw [ev8]; rfl) (by decide) rfl (fun ls hl => ?_)
        obtain ⟨v9, ev9⟩ : ∃ y : Int32, y = a3 + 1 := ⟨_, rfl⟩
        have hm := nm_at hm ev9
        refine lv_iinc (v := v9) (lv' := [(3, .int v9), (2, .int v8), (0, .ref (ad 0)), (1, .int a1)]) hx hb dX0_findFollowers_31 hl (k := 3) rfl (by rw [ev9]; rfl) (by decide) rfl (fun ls hl => ?_)
        refine lv_goto (tgt := 4) hx hb dX0_findFollowers_34 (by decide) ?_
        exact ih zx7 a1 v8 v9 _ _ _ hm hw (lv_sub hl [2, 3, 1, 0] rfl)
set_option maxRecDepth 20000 in
theorem kX0_findFollowers_b0 {p : Program} {l : Launch} {e : Env} {s : State} {m : MethodId} {args : Array Value} {below : List Frame} {meth : Method} {c : Code} {A : Nat → Prop} {E : EV} {ad : Nat → Nat} (F : Nat)  {r : Int32} {zx' : OS} (C0 : Cx RX0 "findFollowers" cX0_findFollowers (some .int) 4 wsX0_findFollowers p s m args meth c) (hA : Ax E A s) : ∀ (zx : OS) (a1 : Int32) (H : Heap) (locs : List Loc) (ls : Array Slot), mX0_findFollowers_b0 F zx a1 = some (r, zx') → Wd E A s H locs (wC E ad zx) → lv_has ls 4 [(0, .ref (ad 0)), (1, .int a1)] → W p l e ({ frames := 1, cells := 0, slots := 0, locals := 23 } : Room) s m args below meth c H locs 0 0 (MQ below (QG E (Qd (some (.int r)) (wC E ad zx')) A) args s 0 0 A) (F0 m 0 ls []) := by
  have hx := C0.1
  have hb := C0.2.1
  intro zx a1 H locs ls hm hw hl
  unfold mX0_findFollowers_b0 at hm
  refine lv_iconst (v := 0) hx hb dX0_findFollowers_0 (by decide) ?_
  refine lv_topi (fun v1 ev1 => ?_)
  have hm := nm_at hm ev1
  refine lv_istore_n (lv' := [(2, .int v1), (0, .ref (ad 0)), (1, .int a1)]) hx hb dX0_findFollowers_1 rfl hl (by decide) rfl (fun ls hl => ?_)
  refine lv_iload_n hx hb dX0_findFollowers_2 rfl (lv_at hl 2 rfl) ?_
  refine lv_istore_n (lv' := [(3, .int a1), (2, .int v1), (0, .ref (ad 0)), (1, .int a1)]) hx hb dX0_findFollowers_3 rfl hl (by decide) rfl (fun ls hl => ?_)
  exact kX0_findFollowers_b4 F C0 hA F zx a1 v1 a1 _ _ _ hm hw (lv_sub hl [2, 3, 1, 0] rfl)
theorem tX0_findFollowers (l : Launch) (E : EV) (ad : Nat → Nat) (F : Nat) (zx : OS) (a1 : Int32) {r : Int32} {zx' : OS} (hm : mX0_findFollowers F zx a1 = some (r, zx')) : CT l yX0_findFollowers wsX0_findFollowers ({ frames := 1, cells := 0, slots := 0, locals := 23 } : Room) E [.ref (ad 0), .int a1] (wC E ad zx) (Qd (some (.int r)) (wC E ad zx')) 0 0 :=
  CT.of (mL := 4) (lvs := [(0, .ref (ad 0)), (1, .int a1)]) (by decide +kernel) rfl (Nat.le_of_ble_eq_true rfl) rfl rfl rfl (fun p e s m below meth c A C0 hA hw ls hl => kX0_findFollowers_b0 (ad := ad) F C0 hA zx a1 _ _ _ hm hw (lv_sub hl [0, 1] rfl))
theorem lkX0_wander_15 : Cond.fieldLink RX0 15 (TX0 1).1 (TX0 1).2.1 (TX0 1).2.2.1 ∈ wsX0_wander := by decide +kernel
theorem lkX0_wander_25 : Cond.fieldLink RX0 25 (TX0 4).1 (TX0 4).2.1 (TX0 4).2.2.1 ∈ wsX0_wander := by decide +kernel
theorem lkX0_wander_9 : Cond.fieldLink RX0 9 (TX0 0).1 (TX0 0).2.1 (TX0 0).2.2.1 ∈ wsX0_wander := by decide +kernel
theorem lkX0_wander_18 : Cond.fieldLink RX0 18 (TX0 2).1 (TX0 2).2.1 (TX0 2).2.2.1 ∈ wsX0_wander := by decide +kernel
theorem hiX0_wander_X0 : ∀ w ∈ u_ws RX0 TX0 5, w ∈ wsX0_wander := by decide +kernel
def mX0_wander_b56 (F : Nat) (K22 : OS → OS → Int32 → Int32 → Int32 → Int32 → Option (Int32 × OS × OS)) (zx : OS) (zd : OS) (a1 : Int32) (a2 : Int32) (a3 : Int32) (a5 : Int32) (t0 : Int32) : Option (Int32 × OS × OS) := gd t0 300 (gd (zx.1 4) 203 (nm (sA zx 1 (zx.1 4) (zx.2.2.1 0 (t0 : Int32).toNatClampNeg)) (fun zx3 => nm (sI zx3 4 ((zx3.1 4) + 1)) (fun zx4 => nm (a5 + 1 : Int32) (fun v5 => K22 zx4 zd a1 a2 a3 v5)))))
def mX0_wander_b22 (F : Nat)  : Nat → OS → OS → Int32 → Int32 → Int32 → Int32 → Option (Int32 × OS × OS)
  | 0, _, _, _, _, _, _ => none
  | n + 1, zx, zd, a1, a2, a3, a5 => (if a3 ≤ (a5 : Int32) then some (zx.1 4, zx, zd) else b2 (mX0_findFollowers F zx a1) (fun r2 zx3 => (if (r2 : Int32) = 0 then mX0_wander_b56 F (mX0_wander_b22 F n) zx3 zd a1 a2 a3 a5 a2 else b2 (mX1_drawUnder F zd r2) (fun r6 zd7 => gd r6 300 (mX0_wander_b56 F (mX0_wander_b22 F n) zx3 zd7 a1 a2 a3 a5 (zx3.2.2.1 2 (r6 : Int32).toNatClampNeg))))))
def mX0_wander_b0 (F : Nat)  (zx : OS) (zd : OS) (a1 : Int32) (a2 : Int32) (a3 : Int32) : Option (Int32 × OS × OS) := cpy a2 0 a1 300 203 (nm (sR zx 1 (va_cpy (zx.2.2.1 0) (zx.2.2.1 1) (a2 : Int32).toNatClampNeg (0 : Int32).toNatClampNeg (a1 : Int32).toNatClampNeg)) (fun zx2 => nm (sI zx2 4 a1) (fun zx3 => nm (0 : Int32) (fun v4 => mX0_wander_b22 F F zx3 zd a1 a2 a3 v4))))
def mX0_wander (F : Nat) (zx : OS) (zd : OS) (a1 : Int32) (a2 : Int32) (a3 : Int32) : Option (Int32 × OS × OS) := mX0_wander_b0 F zx zd a1 a2 a3
set_option maxRecDepth 20000 in
theorem kX0_wander_b56 {p : Program} {l : Launch} {e : Env} {s : State} {m : MethodId} {args : Array Value} {below : List Frame} {meth : Method} {c : Code} {A : Nat → Prop} {E : EV} {ad : Nat → Nat} (F : Nat)  {r : Int32} {zx' : OS} {zd' : OS} (C0 : Cx RX0 "wander" cX0_wander (some .int) 8 wsX0_wander p s m args meth c) (hA : Ax E A s) (K22 : OS → OS → Int32 → Int32 → Int32 → Int32 → Option (Int32 × OS × OS)) (hK22 : ∀ (zx : OS) (zd : OS) (a1 : Int32) (a2 : Int32) (a3 : Int32) (a5 : Int32) (H : Heap) (locs : List Loc) (ls : Array Slot), K22 zx zd a1 a2 a3 a5 = some (r, zx', zd') → Wd E A s H locs (wCD E ad zx zd) → lv_has ls 8 [(0, .ref (ad 0)), (1, .int a1), (2, .int a2), (3, .int a3), (4, .ref (ad 4)), (5, .int a5)] → W p l e ({ frames := 2, cells := 0, slots := 0, locals := 50 } : Room) s m args below meth c H locs 0 0 (MQ below (QG E (Qd (some (.int r)) (wCD E ad zx' zd')) A) args s 0 0 A) (F0 m 22 ls [])) : ∀ (zx : OS) (zd : OS) (a1 : Int32) (a2 : Int32) (a3 : Int32) (a5 : Int32) (t0 : Int32) (H : Heap) (locs : List Loc) (ls : Array Slot), mX0_wander_b56 F K22 zx zd a1 a2 a3 a5 t0 = some (r, zx', zd') → Wd E A s H locs (wCD E ad zx zd) → lv_has ls 8 [(0, .ref (ad 0)), (1, .int a1), (2, .int a2), (3, .int a3), (4, .ref (ad 4)), (5, .int a5)] → W p l e ({ frames := 2, cells := 0, slots := 0, locals := 50 } : Room) s m args below meth c H locs 0 0 (MQ below (QG E (Qd (some (.int r)) (wCD E ad zx' zd')) A) args s 0 0 A) (F0 m 56 ls [.int t0]) := by
  have hx := C0.1
  have hb := C0.2.1
  intro zx zd a1 a2 a3 a5 t0 H locs ls hm hw hl
  unfold mX0_wander_b56 at hm
  refine lv_istore (lv' := [(7, .int t0), (0, .ref (ad 0)), (1, .int a1), (2, .int a2), (3, .int a3), (4, .ref (ad 4)), (5, .int a5)]) hx hb dX0_wander_56 hl (by decide) rfl (fun ls hl => ?_)
  refine lv_aload_n hx hb dX0_wander_58 rfl (lv_at hl 1 rfl) ?_
  refine gCD_0_1 C0 hA hw hiX0_wander_X0 lkX0_wander_15 dX0_wander_59 ?_
  refine lv_aload_n hx hb dX0_wander_62 rfl (lv_at hl 1 rfl) ?_
  refine gCD_0_4 C0 hA hw hiX0_wander_X0 lkX0_wander_25 dX0_wander_63 ?_
  refine lv_aload_n hx hb dX0_wander_66 rfl (lv_at hl 1 rfl) ?_
  refine gCD_0_0 C0 hA hw hiX0_wander_X0 lkX0_wander_9 dX0_wander_67 ?_
  refine lv_iload hx hb dX0_wander_70 (lv_at hl 0 rfl) ?_
  obtain ⟨c1, hm⟩ := gd_some hm
  refine lCD_1 C0 hA hw c1 dX0_wander_72 ?_
  obtain ⟨c2, hm⟩ := gd_some hm
  refine sCD_2 C0 hA hw c2 dX0_wander_73 (fun zx3 ezx3 H locs hw => ?_)
  have hm := nm_at hm ezx3
  refine lv_aload_n hx hb dX0_wander_74 rfl (lv_at hl 1 rfl) ?_
  refine lv_dup hx hb dX0_wander_75 rfl ?_
  refine gCD_0_4 C0 hA hw hiX0_wander_X0 lkX0_wander_25 dX0_wander_76 ?_
  refine lv_iconst (v := 1) hx hb dX0_wander_79 (by decide) ?_
  refine lv_iadd hx hb dX0_wander_80 ?_
  refine pCD_0_4 C0 hA hw hiX0_wander_X0 lkX0_wander_25 dX0_wander_81 (fun zx4 ezx4 H locs hw => ?_)
  have hm := nm_at hm ezx4
  obtain ⟨v5, ev5⟩ : ∃ y : Int32, y = a5 + 1 := ⟨_, rfl⟩
  have hm := nm_at hm ev5
  refine lv_iinc (v := v5) (lv' := [(5, .int v5), (7, .int t0), (0, .ref (ad 0)), (1, .int a1), (2, .int a2), (3, .int a3), (4, .ref (ad 4))]) hx hb dX0_wander_84 hl (k := 6) rfl (by rw [ev5]; rfl) (by decide) rfl (fun ls hl => ?_)
  refine lv_goto (tgt := 22) hx hb dX0_wander_87 (by decide) ?_
  exact hK22 zx4 zd a1 a2 a3 v5 _ _ _ hm hw (lv_sub hl [2, 3, 4, 5, 6, 0] rfl)
set_option maxRecDepth 20000 in
theorem kX0_wander_b22 {p : Program} {l : Launch} {e : Env} {s : State} {m : MethodId} {args : Array Value} {below : List Frame} {meth : Method} {c : Code} {A : Nat → Prop} {E : EV} {ad : Nat → Nat} (F : Nat)  {r : Int32} {zx' : OS} {zd' : OS} (C0 : Cx RX0 "wander" cX0_wander (some .int) 8 wsX0_wander p s m args meth c) (hA : Ax E A s) : ∀ (n : Nat) (zx : OS) (zd : OS) (a1 : Int32) (a2 : Int32) (a3 : Int32) (a5 : Int32) (H : Heap) (locs : List Loc) (ls : Array Slot), mX0_wander_b22 F n zx zd a1 a2 a3 a5 = some (r, zx', zd') → Wd E A s H locs (wCD E ad zx zd) → lv_has ls 8 [(0, .ref (ad 0)), (1, .int a1), (2, .int a2), (3, .int a3), (4, .ref (ad 4)), (5, .int a5)] → W p l e ({ frames := 2, cells := 0, slots := 0, locals := 50 } : Room) s m args below meth c H locs 0 0 (MQ below (QG E (Qd (some (.int r)) (wCD E ad zx' zd')) A) args s 0 0 A) (F0 m 22 ls []) := by
  have hx := C0.1
  have hb := C0.2.1
  intro n
  induction n with
  | zero =>
    intro zx zd a1 a2 a3 a5 H locs ls hm
    cases hm
  | succ n ih =>
    intro zx zd a1 a2 a3 a5 H locs ls hm hw hl
    unfold mX0_wander_b22 at hm
    refine lv_iload hx hb dX0_wander_22 (lv_at hl 5 rfl) ?_
    refine lv_iload_n hx hb dX0_wander_24 rfl (lv_at hl 3 rfl) ?_
    refine lv_icmp_ge (tgt := 90) hx hb dX0_wander_25 (by decide) (fun c1 => ?_) (fun c1 => ?_)
    · have hm := Eq.trans (if_pos c1).symm hm
      refine lv_aload_n hx hb dX0_wander_90 rfl (lv_at hl 0 rfl) ?_
      refine gCD_0_4 C0 hA hw hiX0_wander_X0 lkX0_wander_25 dX0_wander_91 ?_
      obtain ⟨rfl, rfl, rfl⟩ := sj3 hm
      exact r_iret C0 hw dX0_wander_94 ⟨rfl, rfl⟩
    · have hm := Eq.trans (if_neg c1).symm hm
      refine lv_aload_n hx hb dX0_wander_28 rfl (lv_at hl 0 rfl) ?_
      refine lv_iload_n hx hb dX0_wander_29 rfl (lv_at hl 1 rfl) ?_
      obtain ⟨r2, zx3, h4, hm⟩ := b2_some hm
      refine r_backP (va_runV (As := [.int a1]) (rest := []) ⟨hx, hb, C0.2.2.2.1, C0.2.2.2.2.1, C0.2.2.2.2.2.1⟩ (tX0_findFollowers l E (fun k => ad (k + 0)) F zx a1 h4 H.size) (cwV 1 C0.2.2.2.2.2.1 gX0_wander_X0_findFollowers rfl rfl rfl (by decide +kernel) ⟨Nat.le_of_ble_eq_true rfl, Nat.le_of_ble_eq_true rfl⟩) ⟨PG_blind, va_recv hA.2.2.1.1 hw.1 (ci := 0) (q0 := 0) rfl rfl, pg_at hA hw [0, 1, 2, 3] rfl (wcCD_zx E ad zx zd)⟩ rfl rfl hl.1 rfl (lv_room (Nat.le_of_ble_eq_true rfl)) dX0_wander_30 ⟨Nat.zero_le _, Nat.zero_le _⟩) hA hw [0, 1, 2, 3] [4] (wcCD_zx E ad zx zd) (wqCD_zx E ad zx zd) rfl (by decide) (fun H locs hw => ?_)
      have hw := wjCD_zx zx3 hw
      refine lv_istore (lv' := [(6, .int r2), (0, .ref (ad 0)), (1, .int a1), (2, .int a2), (3, .int a3), (4, .ref (ad 4)), (5, .int a5)]) hx hb dX0_wander_33 hl (by decide) rfl (fun ls hl => ?_)
      refine lv_iload hx hb dX0_wander_35 (lv_at hl 0 rfl) ?_
      refine lv_if_ne (tgt := 44) hx hb dX0_wander_37 (by decide) (fun c5 => ?_) (fun c5 => ?_)
      · have hm := Eq.trans (if_neg c5).symm hm
        refine lv_aload_n hx hb dX0_wander_44 rfl (lv_at hl 1 rfl) ?_
        refine gCD_0_2 C0 hA hw hiX0_wander_X0 lkX0_wander_18 dX0_wander_45 ?_
        refine lv_aload hx hb dX0_wander_48 (lv_at hl 5 rfl) ?_
        refine lv_iload hx hb dX0_wander_50 (lv_at hl 0 rfl) ?_
        obtain ⟨r6, zd7, h8, hm⟩ := b2_some hm
        refine r_backP (va_runV (As := [.int r2]) (rest := [.ref (ad 3)]) ⟨hx, hb, C0.2.2.2.1, C0.2.2.2.2.1, C0.2.2.2.2.2.1⟩ (tX1_drawUnder l E (fun k => ad (k + 4)) F zd r2 h8 H.size) (cwV 1 C0.2.2.2.2.2.1 gX0_wander_X1_drawUnder rfl rfl rfl (by decide +kernel) ⟨Nat.le_of_ble_eq_true rfl, Nat.le_of_ble_eq_true rfl⟩) ⟨PG_blind, va_recv hA.2.2.1.1 hw.1 (ci := 1) (q0 := 4) rfl rfl, pg_at hA hw [4] rfl (wcCD_zd E ad zx3 zd)⟩ rfl rfl hl.1 rfl (lv_room (Nat.le_of_ble_eq_true rfl)) dX0_wander_52 ⟨Nat.zero_le _, Nat.zero_le _⟩) hA hw [4] [0, 1, 2, 3] (wcCD_zd E ad zx3 zd) (wqCD_zd E ad zx3 zd) rfl (by decide) (fun H locs hw => ?_)
        have hw := wjCD_zd zd7 hw
        obtain ⟨c9, hm⟩ := gd_some hm
        refine lCD_3 C0 hA hw c9 dX0_wander_55 ?_
        exact kX0_wander_b56 F C0 hA _ ih zx3 zd7 a1 a2 a3 a5 (zx3.2.2.1 2 (r6 : Int32).toNatClampNeg) _ _ _ hm hw (lv_sub hl [1, 2, 3, 4, 5, 6] rfl)
      · have hm := Eq.trans (if_pos c5).symm hm
        refine lv_iload_n hx hb dX0_wander_40 rfl (lv_at hl 3 rfl) ?_
        refine lv_goto (tgt := 56) hx hb dX0_wander_41 (by decide) ?_
        exact kX0_wander_b56 F C0 hA _ ih zx3 zd a1 a2 a3 a5 a2 _ _ _ hm hw (lv_sub hl [1, 2, 3, 4, 5, 6] rfl)
set_option maxRecDepth 20000 in
theorem kX0_wander_b0 {p : Program} {l : Launch} {e : Env} {s : State} {m : MethodId} {args : Array Value} {below : List Frame} {meth : Method} {c : Code} {A : Nat → Prop} {E : EV} {ad : Nat → Nat} (F : Nat)  {r : Int32} {zx' : OS} {zd' : OS} (C0 : Cx RX0 "wander" cX0_wander (some .int) 8 wsX0_wander p s m args meth c) (hA : Ax E A s) : ∀ (zx : OS) (zd : OS) (a1 : Int32) (a2 : Int32) (a3 : Int32) (H : Heap) (locs : List Loc) (ls : Array Slot), mX0_wander_b0 F zx zd a1 a2 a3 = some (r, zx', zd') → Wd E A s H locs (wCD E ad zx zd) → lv_has ls 8 [(0, .ref (ad 0)), (1, .int a1), (2, .int a2), (3, .int a3), (4, .ref (ad 4))] → W p l e ({ frames := 2, cells := 0, slots := 0, locals := 50 } : Room) s m args below meth c H locs 0 0 (MQ below (QG E (Qd (some (.int r)) (wCD E ad zx' zd')) A) args s 0 0 A) (F0 m 0 ls []) := by
  have hx := C0.1
  have hb := C0.2.1
  intro zx zd a1 a2 a3 H locs ls hm hw hl
  unfold mX0_wander_b0 at hm
  refine lv_aload_n hx hb dX0_wander_0 rfl (lv_at hl 0 rfl) ?_
  refine gCD_0_0 C0 hA hw hiX0_wander_X0 lkX0_wander_9 dX0_wander_1 ?_
  refine lv_iload_n hx hb dX0_wander_4 rfl (lv_at hl 2 rfl) ?_
  refine lv_aload_n hx hb dX0_wander_5 rfl (lv_at hl 0 rfl) ?_
  refine gCD_0_1 C0 hA hw hiX0_wander_X0 lkX0_wander_15 dX0_wander_6 ?_
  refine lv_iconst (v := 0) hx hb dX0_wander_9 (by decide) ?_
  refine lv_iload_n hx hb dX0_wander_10 rfl (lv_at hl 1 rfl) ?_
  obtain ⟨c1, hm⟩ := cpy_some hm
  refine r_copy C0 hA hw hl.1 1 2 rfl rfl (C0.2.2.2.2.2.1 (.methodLink RX0 28 arraycopyName) (by decide +kernel)) (C0.2.2.2.2.2.1 (.native arraycopyName) (by decide +kernel)) (C0.2.2.2.2.2.1 (.static arraycopyName) (by decide +kernel)) (C0.2.2.2.2.2.1 (.initialized "java/lang/System") (by decide +kernel)) c1 (Nat.le_of_ble_eq_true rfl) (Nat.le_of_ble_eq_true rfl) dX0_wander_11 (sR zx 1 (va_cpy (zx.2.2.1 0) (zx.2.2.1 1) (a2 : Int32).toNatClampNeg (0 : Int32).toNatClampNeg (a1 : Int32).toNatClampNeg)) (fun y => wCD E ad y zd) rfl (fun zx2 ezx2 H locs hw => ?_)
  have hm := nm_at hm ezx2
  refine lv_aload_n hx hb dX0_wander_14 rfl (lv_at hl 0 rfl) ?_
  refine lv_iload_n hx hb dX0_wander_15 rfl (lv_at hl 1 rfl) ?_
  refine pCD_0_4 C0 hA hw hiX0_wander_X0 lkX0_wander_25 dX0_wander_16 (fun zx3 ezx3 H locs hw => ?_)
  have hm := nm_at hm ezx3
  refine lv_iconst (v := 0) hx hb dX0_wander_19 (by decide) ?_
  refine lv_topi (fun v4 ev4 => ?_)
  have hm := nm_at hm ev4
  refine lv_istore (lv' := [(5, .int v4), (0, .ref (ad 0)), (1, .int a1), (2, .int a2), (3, .int a3), (4, .ref (ad 4))]) hx hb dX0_wander_20 hl (by decide) rfl (fun ls hl => ?_)
  exact kX0_wander_b22 F C0 hA F zx3 zd a1 a2 a3 v4 _ _ _ hm hw (lv_sub hl [1, 2, 3, 4, 5, 0] rfl)
theorem tX0_wander (l : Launch) (E : EV) (ad : Nat → Nat) (F : Nat) (zx : OS) (zd : OS) (a1 : Int32) (a2 : Int32) (a3 : Int32) {r : Int32} {zx' : OS} {zd' : OS} (hm : mX0_wander F zx zd a1 a2 a3 = some (r, zx', zd')) : CT l yX0_wander wsX0_wander ({ frames := 2, cells := 0, slots := 0, locals := 50 } : Room) E [.ref (ad 0), .int a1, .int a2, .int a3, .ref (ad 4)] (wCD E ad zx zd) (Qd (some (.int r)) (wCD E ad zx' zd')) 0 0 :=
  CT.of (mL := 8) (lvs := [(0, .ref (ad 0)), (1, .int a1), (2, .int a2), (3, .int a3), (4, .ref (ad 4))]) (by decide +kernel) rfl (Nat.le_of_ble_eq_true rfl) rfl rfl rfl (fun p e s m below meth c A C0 hA hw ls hl => kX0_wander_b0 (ad := ad) F C0 hA zx zd a1 a2 a3 _ _ _ hm hw (lv_sub hl [0, 1, 2, 3, 4] rfl))

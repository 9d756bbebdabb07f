theorem lkX2_clear_45 : Cond.fieldLink RX2 45 (TX2 11).1 (TX2 11).2.1 (TX2 11).2.2.1 ∈ wsX2_clear := by decide +kernel
theorem lkX2_clear_49 : Cond.fieldLink RX2 49 (TX2 12).1 (TX2 12).2.1 (TX2 12).2.2.1 ∈ wsX2_clear := by decide +kernel
theorem lkX2_clear_52 : Cond.fieldLink RX2 52 (TX2 13).1 (TX2 13).2.1 (TX2 13).2.2.1 ∈ wsX2_clear := by decide +kernel
theorem lkX2_clear_15 : Cond.fieldLink RX2 15 (TX2 1).1 (TX2 1).2.1 (TX2 1).2.2.1 ∈ wsX2_clear := by decide +kernel
theorem lkX2_clear_18 : Cond.fieldLink RX2 18 (TX2 2).1 (TX2 2).2.1 (TX2 2).2.2.1 ∈ wsX2_clear := by decide +kernel
theorem lkX2_clear_21 : Cond.fieldLink RX2 21 (TX2 3).1 (TX2 3).2.1 (TX2 3).2.2.1 ∈ wsX2_clear := by decide +kernel
theorem hiX2_clear_X2 : ∀ w ∈ u_ws RX2 TX2 16, w ∈ wsX2_clear := by decide +kernel
def mX2_clear_b0  (zx : OS) : Option (OS) := nm (sI zx 11 0) (fun zx1 => nm (sI zx1 12 0) (fun zx2 => nm (sI zx2 13 0) (fun zx3 => nm (sR zx3 1 (fillF 26 (zx3.2.2.1 1) 0)) (fun zx4 => nm (sR zx4 2 (fillF 26 (zx4.2.2.1 2) 0)) (fun zx5 => nm (sR zx5 3 (fillF 26 (zx5.2.2.1 3) (-1))) (fun zx6 => some zx6))))))
def mX2_clear (zx : OS)  : Option (OS) := mX2_clear_b0 zx
set_option maxRecDepth 20000 in
theorem kX2_clear_b0 {p : Program} {l : Launch} {e : Env} {s : State} {m : MethodId} {args : Array Value} {below : List Frame} {meth : Method} {c : Code} {A : Nat → Prop} {E : EV} {ad : Nat → Nat}  {zx' : OS} (C0 : Cx RX2 "clear" cX2_clear (none) 1 wsX2_clear p s m args meth c) (hA : Ax E A s) : ∀ (zx : OS) (H : Heap) (locs : List Loc) (ls : Array Slot), mX2_clear_b0 zx = some zx' → Wd E A s H locs (wG E ad zx) → lv_has ls 1 [(0, .ref (ad 0))] → W p l e ({ frames := 1, cells := 0, slots := 0, locals := 23 } : Room) s m args below meth c H locs 0 0 (MQ below (QG E (Qd none (wG E ad zx')) A) args s 0 0 A) (F0 m 0 ls []) := by
  have hx := C0.1
  have hb := C0.2.1
  intro zx H locs ls hm hw hl
  unfold mX2_clear_b0 at hm
  refine lv_aload_n hx hb dX2_clear_0 rfl (lv_at hl 0 rfl) ?_
  refine lv_iconst (v := 0) hx hb dX2_clear_1 (by decide) ?_
  refine pG_0_11 C0 hA hw hiX2_clear_X2 lkX2_clear_45 dX2_clear_2 (fun zx1 ezx1 H locs hw => ?_)
  have hm := nm_at hm ezx1
  refine lv_aload_n hx hb dX2_clear_5 rfl (lv_at hl 0 rfl) ?_
  refine lv_iconst (v := 0) hx hb dX2_clear_6 (by decide) ?_
  refine pG_0_12 C0 hA hw hiX2_clear_X2 lkX2_clear_49 dX2_clear_7 (fun zx2 ezx2 H locs hw => ?_)
  have hm := nm_at hm ezx2
  refine lv_aload_n hx hb dX2_clear_10 rfl (lv_at hl 0 rfl) ?_
  refine lv_iconst (v := 0) hx hb dX2_clear_11 (by decide) ?_
  refine pG_0_13 C0 hA hw hiX2_clear_X2 lkX2_clear_52 dX2_clear_12 (fun zx3 ezx3 H locs hw => ?_)
  have hm := nm_at hm ezx3
  refine lv_aload_n hx hb dX2_clear_15 rfl (lv_at hl 0 rfl) ?_
  refine gG_0_1 C0 hA hw hiX2_clear_X2 lkX2_clear_15 dX2_clear_16 ?_
  refine lv_iconst (v := 0) hx hb dX2_clear_19 (by decide) ?_
  refine fG_2 C0 hA hw hl.1 dX2_clear_20 (fun zx4 ezx4 H locs hw => ?_)
  have hm := nm_at hm ezx4
  refine lv_aload_n hx hb dX2_clear_23 rfl (lv_at hl 0 rfl) ?_
  refine gG_0_2 C0 hA hw hiX2_clear_X2 lkX2_clear_18 dX2_clear_24 ?_
  refine lv_iconst (v := 0) hx hb dX2_clear_27 (by decide) ?_
  refine fG_3 C0 hA hw hl.1 dX2_clear_28 (fun zx5 ezx5 H locs hw => ?_)
  have hm := nm_at hm ezx5
  refine lv_aload_n hx hb dX2_clear_31 rfl (lv_at hl 0 rfl) ?_
  refine gG_0_3 C0 hA hw hiX2_clear_X2 lkX2_clear_21 dX2_clear_32 ?_
  refine lv_iconst (v := (-1)) hx hb dX2_clear_35 (by decide) ?_
  refine fG_4 C0 hA hw hl.1 dX2_clear_36 (fun zx6 ezx6 H locs hw => ?_)
  have hm := nm_at hm ezx6
  obtain rfl := sj1 hm
  exact r_vret C0 hw dX2_clear_39 ⟨rfl, rfl⟩
theorem tX2_clear (l : Launch) (E : EV) (ad : Nat → Nat) (zx : OS)  {zx' : OS} (hm : mX2_clear zx = some zx') : CT l yX2_clear wsX2_clear ({ frames := 1, cells := 0, slots := 0, locals := 23 } : Room) E [.ref (ad 0)] (wG E ad zx) (Qd none (wG E ad zx')) 0 0 :=
  CT.of (mL := 1) (lvs := [(0, .ref (ad 0))]) (by decide +kernel) rfl (Nat.le_of_ble_eq_true rfl) rfl rfl rfl (fun p e s m below meth c A C0 hA hw ls hl => kX2_clear_b0 (ad := ad) C0 hA zx _ _ _ hm hw (lv_sub hl [0] rfl))
theorem lkX2_hasRule_15 : Cond.fieldLink RX2 15 (TX2 1).1 (TX2 1).2.1 (TX2 1).2.2.1 ∈ wsX2_hasRule := by decide +kernel
theorem hiX2_hasRule_X2 : ∀ w ∈ u_ws RX2 TX2 16, w ∈ wsX2_hasRule := by decide +kernel
def mX2_hasRule_b0  (zx : OS) (a1 : Int32) : Option (Int32) := b1 (mX9_isWithin a1 0 25) (fun r1 => (if (r1 : Int32) = 0 then some 0 else gd a1 26 ((if (zx.2.2.1 1 (a1 : Int32).toNatClampNeg : Int32) ≤ 0 then some 0 else some 1))))
def mX2_hasRule (zx : OS) (a1 : Int32) : Option (Int32) := mX2_hasRule_b0 zx a1
set_option maxRecDepth 20000 in
theorem kX2_hasRule_b0 {p : Program} {l : Launch} {e : Env} {s : State} {m : MethodId} {args : Array Value} {below : List Frame} {meth : Method} {c : Code} {A : Nat → Prop} {E : EV} {ad : Nat → Nat} {zx : OS} {r : Int32} (C0 : Cx RX2 "hasRule" cX2_hasRule (some .boolean) 2 wsX2_hasRule p s m args meth c) (hA : Ax E A s) : ∀ (a1 : Int32) (H : Heap) (locs : List Loc) (ls : Array Slot), mX2_hasRule_b0 zx a1 = some r → Wd E A s H locs (wG E ad zx) → lv_has ls 2 [(0, .ref (ad 0)), (1, .int a1)] → W p l e ({ frames := 1, cells := 0, slots := 0, locals := 22 } : Room) s m args below meth c H locs 0 0 (MQ below (QG E (Qd (some (.int r)) (wG E ad zx)) A) args s 0 0 A) (F0 m 0 ls []) := by
  have hx := C0.1
  have hb := C0.2.1
  intro a1 H locs ls hm hw hl
  unfold mX2_hasRule_b0 at hm
  refine lv_iload_n hx hb dX2_hasRule_0 rfl (lv_at hl 1 rfl) ?_
  refine lv_iconst (v := 0) hx hb dX2_hasRule_1 (by decide) ?_
  refine lv_bipush (v := 25) hx hb dX2_hasRule_2 (by decide) ?_
  obtain ⟨r1, h2, hm⟩ := b1_some hm
  refine r_backZ (va_runSN (As := [.int a1, .int 0, .int 25]) (rest := []) ⟨hx, hb, C0.2.2.2.1, C0.2.2.2.2.1, C0.2.2.2.2.2.1⟩ (tX9_isWithin l E a1 0 25 h2 H.size) ⟨va_cnB 3 C0.2.2.2.2.2.1 ggX2_hasRule_X9_isWithin rfl rfl rfl (hA.2.2.1.2.1 (.methodLinkNest RX2 67 yX9_isWithin "GrammarTunes") (by decide +kernel)) (C0.2.2.2.2.2.1 (.initialized RX9) (by decide +kernel)) (by decide +kernel) ⟨Nat.le_of_ble_eq_true rfl, Nat.le_of_ble_eq_true rfl⟩, C0.2.2.2.2.2.1 (.static yX9_isWithin) (by decide +kernel), trivial⟩ ⟨PG_blind, pg_nil hA hw⟩ rfl rfl hl.1 rfl (lv_room (Nat.le_of_ble_eq_true rfl)) dX2_hasRule_4 ⟨Nat.zero_le _, Nat.zero_le _⟩) hA hw (fun H locs hw => ?_)
  refine lv_if_eq (tgt := 23) hx hb dX2_hasRule_7 (by decide) (fun c3 => ?_) (fun c3 => ?_)
  · have hm := Eq.trans (if_pos c3).symm hm
    refine lv_iconst (v := 0) hx hb dX2_hasRule_23 (by decide) ?_
    obtain rfl := sj1 hm
    exact r_zret C0 hw dX2_hasRule_24 rfl ⟨rfl, rfl⟩
  · have hm := Eq.trans (if_neg c3).symm hm
    refine lv_aload_n hx hb dX2_hasRule_10 rfl (lv_at hl 0 rfl) ?_
    refine gG_0_1 C0 hA hw hiX2_hasRule_X2 lkX2_hasRule_15 dX2_hasRule_11 ?_
    refine lv_iload_n hx hb dX2_hasRule_14 rfl (lv_at hl 1 rfl) ?_
    obtain ⟨c4, hm⟩ := gd_some hm
    refine lG_2 C0 hA hw c4 dX2_hasRule_15 ?_
    refine lv_if_le (tgt := 23) hx hb dX2_hasRule_16 (by decide) (fun c5 => ?_) (fun c5 => ?_)
    · have hm := Eq.trans (if_pos c5).symm hm
      refine lv_iconst (v := 0) hx hb dX2_hasRule_23 (by decide) ?_
      obtain rfl := sj1 hm
      exact r_zret C0 hw dX2_hasRule_24 rfl ⟨rfl, rfl⟩
    · have hm := Eq.trans (if_neg c5).symm hm
      refine lv_iconst (v := 1) hx hb dX2_hasRule_19 (by decide) ?_
      refine lv_goto (tgt := 24) hx hb dX2_hasRule_20 (by decide) ?_
      obtain rfl := sj1 hm
      exact r_zret C0 hw dX2_hasRule_24 rfl ⟨rfl, rfl⟩
theorem tX2_hasRule (l : Launch) (E : EV) (ad : Nat → Nat) (zx : OS) (a1 : Int32) {r : Int32} (hm : mX2_hasRule zx a1 = some r) : CT l yX2_hasRule wsX2_hasRule ({ frames := 1, cells := 0, slots := 0, locals := 22 } : Room) E [.ref (ad 0), .int a1] (wG E ad zx) (Qd (some (.int r)) (wG E ad zx)) 0 0 :=
  CT.of (mL := 2) (lvs := [(0, .ref (ad 0)), (1, .int a1)]) (by decide +kernel) rfl (Nat.le_of_ble_eq_true rfl) rfl rfl rfl (fun p e s m below meth c A C0 hA hw ls hl => kX2_hasRule_b0 (ad := ad) C0 hA a1 _ _ _ hm hw (lv_sub hl [0, 1] rfl))
theorem lkX2_canOpenRule_45 : Cond.fieldLink RX2 45 (TX2 11).1 (TX2 11).2.1 (TX2 11).2.2.1 ∈ wsX2_canOpenRule := by decide +kernel
theorem hiX2_canOpenRule_X2 : ∀ w ∈ u_ws RX2 TX2 16, w ∈ wsX2_canOpenRule := by decide +kernel
def mX2_canOpenRule_b0  (zx : OS) (a1 : Int32) : Option (Int32) := b1 (mX9_isWithin a1 0 25) (fun r1 => (if (r1 : Int32) = 0 then some 0 else b1 (mX2_hasRule zx a1) (fun r4 => (if (r4 : Int32) = 0 then (if 16 ≤ (zx.1 11 : Int32) then some 0 else some 1) else some 0))))
def mX2_canOpenRule (zx : OS) (a1 : Int32) : Option (Int32) := mX2_canOpenRule_b0 zx a1
set_option maxRecDepth 20000 in
theorem kX2_canOpenRule_b0 {p : Program} {l : Launch} {e : Env} {s : State} {m : MethodId} {args : Array Value} {below : List Frame} {meth : Method} {c : Code} {A : Nat → Prop} {E : EV} {ad : Nat → Nat} {zx : OS} {r : Int32} (C0 : Cx RX2 "canOpenRule" cX2_canOpenRule (some .boolean) 2 wsX2_canOpenRule p s m args meth c) (hA : Ax E A s) : ∀ (a1 : Int32) (H : Heap) (locs : List Loc) (ls : Array Slot), mX2_canOpenRule_b0 zx a1 = some r → Wd E A s H locs (wG E ad zx) → lv_has ls 2 [(0, .ref (ad 0)), (1, .int a1)] → W p l e ({ frames := 2, cells := 0, slots := 0, locals := 43 } : Room) s m args below meth c H locs 0 0 (MQ below (QG E (Qd (some (.int r)) (wG E ad zx)) A) args s 0 0 A) (F0 m 0 ls []) := by
  have hx := C0.1
  have hb := C0.2.1
  intro a1 H locs ls hm hw hl
  unfold mX2_canOpenRule_b0 at hm
  refine lv_iload_n hx hb dX2_canOpenRule_0 rfl (lv_at hl 1 rfl) ?_
  refine lv_iconst (v := 0) hx hb dX2_canOpenRule_1 (by decide) ?_
  refine lv_bipush (v := 25) hx hb dX2_canOpenRule_2 (by decide) ?_
  obtain ⟨r1, h2, hm⟩ := b1_some hm
  refine r_backZ (va_runSN (As := [.int a1, .int 0, .int 25]) (rest := []) ⟨hx, hb, C0.2.2.2.1, C0.2.2.2.2.1, C0.2.2.2.2.2.1⟩ (tX9_isWithin l E a1 0 25 h2 H.size) ⟨va_cnB 3 C0.2.2.2.2.2.1 ggX2_canOpenRule_X9_isWithin rfl rfl rfl (hA.2.2.1.2.1 (.methodLinkNest RX2 67 yX9_isWithin "GrammarTunes") (by decide +kernel)) (C0.2.2.2.2.2.1 (.initialized RX9) (by decide +kernel)) (by decide +kernel) ⟨Nat.le_of_ble_eq_true rfl, Nat.le_of_ble_eq_true rfl⟩, C0.2.2.2.2.2.1 (.static yX9_isWithin) (by decide +kernel), trivial⟩ ⟨PG_blind, pg_nil hA hw⟩ rfl rfl hl.1 rfl (lv_room (Nat.le_of_ble_eq_true rfl)) dX2_canOpenRule_4 ⟨Nat.zero_le _, Nat.zero_le _⟩) hA hw (fun H locs hw => ?_)
  refine lv_if_eq (tgt := 31) hx hb dX2_canOpenRule_7 (by decide) (fun c3 => ?_) (fun c3 => ?_)
  · have hm := Eq.trans (if_pos c3).symm hm
    refine lv_iconst (v := 0) hx hb dX2_canOpenRule_31 (by decide) ?_
    obtain rfl := sj1 hm
    exact r_zret C0 hw dX2_canOpenRule_32 rfl ⟨rfl, rfl⟩
  · have hm := Eq.trans (if_neg c3).symm hm
    refine lv_aload_n hx hb dX2_canOpenRule_10 rfl (lv_at hl 0 rfl) ?_
    refine lv_iload_n hx hb dX2_canOpenRule_11 rfl (lv_at hl 1 rfl) ?_
    obtain ⟨r4, h5, hm⟩ := b1_some hm
    refine r_backS (va_runV (As := [.int a1]) (rest := []) ⟨hx, hb, C0.2.2.2.1, C0.2.2.2.2.1, C0.2.2.2.2.2.1⟩ (tX2_hasRule l E ad zx a1 h5 H.size) (cwV 1 C0.2.2.2.2.2.1 gX2_canOpenRule_X2_hasRule rfl rfl rfl (by decide +kernel) ⟨Nat.le_of_ble_eq_true rfl, Nat.le_of_ble_eq_true rfl⟩) ⟨PG_blind, va_recv hA.2.2.1.1 hw.1 (ci := 2) (q0 := 0) rfl rfl, pg_self hA hw⟩ rfl rfl hl.1 rfl (lv_room (Nat.le_of_ble_eq_true rfl)) dX2_canOpenRule_12 ⟨Nat.zero_le _, Nat.zero_le _⟩) hA hw (fun H locs hw => ?_)
    refine lv_if_ne (tgt := 31) hx hb dX2_canOpenRule_15 (by decide) (fun c6 => ?_) (fun c6 => ?_)
    · have hm := Eq.trans (if_neg c6).symm hm
      refine lv_iconst (v := 0) hx hb dX2_canOpenRule_31 (by decide) ?_
      obtain rfl := sj1 hm
      exact r_zret C0 hw dX2_canOpenRule_32 rfl ⟨rfl, rfl⟩
    · have hm := Eq.trans (if_pos c6).symm hm
      refine lv_aload_n hx hb dX2_canOpenRule_18 rfl (lv_at hl 0 rfl) ?_
      refine gG_0_11 C0 hA hw hiX2_canOpenRule_X2 lkX2_canOpenRule_45 dX2_canOpenRule_19 ?_
      refine lv_bipush (v := 16) hx hb dX2_canOpenRule_22 (by decide) ?_
      refine lv_icmp_ge (tgt := 31) hx hb dX2_canOpenRule_24 (by decide) (fun c7 => ?_) (fun c7 => ?_)
      · have hm := Eq.trans (if_pos c7).symm hm
        refine lv_iconst (v := 0) hx hb dX2_canOpenRule_31 (by decide) ?_
        obtain rfl := sj1 hm
        exact r_zret C0 hw dX2_canOpenRule_32 rfl ⟨rfl, rfl⟩
      · have hm := Eq.trans (if_neg c7).symm hm
        refine lv_iconst (v := 1) hx hb dX2_canOpenRule_27 (by decide) ?_
        refine lv_goto (tgt := 32) hx hb dX2_canOpenRule_28 (by decide) ?_
        obtain rfl := sj1 hm
        exact r_zret C0 hw dX2_canOpenRule_32 rfl ⟨rfl, rfl⟩
theorem tX2_canOpenRule (l : Launch) (E : EV) (ad : Nat → Nat) (zx : OS) (a1 : Int32) {r : Int32} (hm : mX2_canOpenRule zx a1 = some r) : CT l yX2_canOpenRule wsX2_canOpenRule ({ frames := 2, cells := 0, slots := 0, locals := 43 } : Room) E [.ref (ad 0), .int a1] (wG E ad zx) (Qd (some (.int r)) (wG E ad zx)) 0 0 :=
  CT.of (mL := 2) (lvs := [(0, .ref (ad 0)), (1, .int a1)]) (by decide +kernel) rfl (Nat.le_of_ble_eq_true rfl) rfl rfl rfl (fun p e s m below meth c A C0 hA hw ls hl => kX2_canOpenRule_b0 (ad := ad) C0 hA a1 _ _ _ hm hw (lv_sub hl [0, 1] rfl))
theorem lkX2_openRule_58 : Cond.fieldLink RX2 58 (TX2 15).1 (TX2 15).2.1 (TX2 15).2.2.1 ∈ wsX2_openRule := by decide +kernel
theorem lkX2_openRule_9 : Cond.fieldLink RX2 9 (TX2 0).1 (TX2 0).2.1 (TX2 0).2.2.1 ∈ wsX2_openRule := by decide +kernel
theorem lkX2_openRule_49 : Cond.fieldLink RX2 49 (TX2 12).1 (TX2 12).2.1 (TX2 12).2.2.1 ∈ wsX2_openRule := by decide +kernel
theorem lkX2_openRule_45 : Cond.fieldLink RX2 45 (TX2 11).1 (TX2 11).2.1 (TX2 11).2.2.1 ∈ wsX2_openRule := by decide +kernel
theorem lkX2_openRule_55 : Cond.fieldLink RX2 55 (TX2 14).1 (TX2 14).2.1 (TX2 14).2.2.1 ∈ wsX2_openRule := by decide +kernel
theorem hiX2_openRule_X2 : ∀ w ∈ u_ws RX2 TX2 16, w ∈ wsX2_openRule := by decide +kernel
def mX2_openRule_b12  (zx : OS) (a1 : Int32) : Option (OS) := nm (sI zx 15 a1) (fun zx1 => gd a1 26 (nm (sA zx1 0 a1 (zx1.1 12)) (fun zx3 => nm (sI zx3 11 ((zx3.1 11) + 1)) (fun zx4 => some zx4))))
def mX2_openRule_b0  (zx : OS) (a1 : Int32) : Option (OS) := (if (zx.1 11 : Int32) = 0 then nm (sI zx 14 a1) (fun zx2 => mX2_openRule_b12 zx2 a1) else mX2_openRule_b12 zx a1)
def mX2_openRule (zx : OS) (a1 : Int32) : Option (OS) := mX2_openRule_b0 zx a1
set_option maxRecDepth 20000 in
theorem kX2_openRule_b12 {p : Program} {l : Launch} {e : Env} {s : State} {m : MethodId} {args : Array Value} {below : List Frame} {meth : Method} {c : Code} {A : Nat → Prop} {E : EV} {ad : Nat → Nat}  {zx' : OS} (C0 : Cx RX2 "openRule" cX2_openRule (none) 2 wsX2_openRule p s m args meth c) (hA : Ax E A s) : ∀ (zx : OS) (a1 : Int32) (H : Heap) (locs : List Loc) (ls : Array Slot), mX2_openRule_b12 zx a1 = some zx' → Wd E A s H locs (wG E ad zx) → lv_has ls 2 [(0, .ref (ad 0)), (1, .int a1)] → W p l e ({ frames := 0, cells := 0, slots := 0, locals := 0 } : Room) s m args below meth c H locs 0 0 (MQ below (QG E (Qd none (wG E ad zx')) A) args s 0 0 A) (F0 m 12 ls []) := by
  have hx := C0.1
  have hb := C0.2.1
  intro zx a1 H locs ls hm hw hl
  unfold mX2_openRule_b12 at hm
  refine lv_aload_n hx hb dX2_openRule_12 rfl (lv_at hl 0 rfl) ?_
  refine lv_iload_n hx hb dX2_openRule_13 rfl (lv_at hl 1 rfl) ?_
  refine pG_0_15 C0 hA hw hiX2_openRule_X2 lkX2_openRule_58 dX2_openRule_14 (fun zx1 ezx1 H locs hw => ?_)
  have hm := nm_at hm ezx1
  refine lv_aload_n hx hb dX2_openRule_17 rfl (lv_at hl 0 rfl) ?_
  refine gG_0_0 C0 hA hw hiX2_openRule_X2 lkX2_openRule_9 dX2_openRule_18 ?_
  refine lv_iload_n hx hb dX2_openRule_21 rfl (lv_at hl 1 rfl) ?_
  refine lv_aload_n hx hb dX2_openRule_22 rfl (lv_at hl 0 rfl) ?_
  refine gG_0_12 C0 hA hw hiX2_openRule_X2 lkX2_openRule_49 dX2_openRule_23 ?_
  obtain ⟨c2, hm⟩ := gd_some hm
  refine sG_1 C0 hA hw c2 dX2_openRule_26 (fun zx3 ezx3 H locs hw => ?_)
  have hm := nm_at hm ezx3
  refine lv_aload_n hx hb dX2_openRule_27 rfl (lv_at hl 0 rfl) ?_
  refine lv_dup hx hb dX2_openRule_28 rfl ?_
  refine gG_0_11 C0 hA hw hiX2_openRule_X2 lkX2_openRule_45 dX2_openRule_29 ?_
  refine lv_iconst (v := 1) hx hb dX2_openRule_32 (by decide) ?_
  refine lv_iadd hx hb dX2_openRule_33 ?_
  refine pG_0_11 C0 hA hw hiX2_openRule_X2 lkX2_openRule_45 dX2_openRule_34 (fun zx4 ezx4 H locs hw => ?_)
  have hm := nm_at hm ezx4
  obtain rfl := sj1 hm
  exact r_vret C0 hw dX2_openRule_37 ⟨rfl, rfl⟩
set_option maxRecDepth 20000 in
theorem kX2_openRule_b0 {p : Program} {l : Launch} {e : Env} {s : State} {m : MethodId} {args : Array Value} {below : List Frame} {meth : Method} {c : Code} {A : Nat → Prop} {E : EV} {ad : Nat → Nat}  {zx' : OS} (C0 : Cx RX2 "openRule" cX2_openRule (none) 2 wsX2_openRule p s m args meth c) (hA : Ax E A s) : ∀ (zx : OS) (a1 : Int32) (H : Heap) (locs : List Loc) (ls : Array Slot), mX2_openRule_b0 zx a1 = some zx' → Wd E A s H locs (wG E ad zx) → lv_has ls 2 [(0, .ref (ad 0)), (1, .int a1)] → W p l e ({ frames := 0, cells := 0, slots := 0, locals := 0 } : Room) s m args below meth c H locs 0 0 (MQ below (QG E (Qd none (wG E ad zx')) A) args s 0 0 A) (F0 m 0 ls []) := by
  have hx := C0.1
  have hb := C0.2.1
  intro zx a1 H locs ls hm hw hl
  unfold mX2_openRule_b0 at hm
  refine lv_aload_n hx hb dX2_openRule_0 rfl (lv_at hl 0 rfl) ?_
  refine gG_0_11 C0 hA hw hiX2_openRule_X2 lkX2_openRule_45 dX2_openRule_1 ?_
  refine lv_if_ne (tgt := 12) hx hb dX2_openRule_4 (by decide) (fun c1 => ?_) (fun c1 => ?_)
  · have hm := Eq.trans (if_neg c1).symm hm
    exact kX2_openRule_b12 C0 hA zx a1 _ _ _ hm hw (lv_sub hl [0, 1] rfl)
  · have hm := Eq.trans (if_pos c1).symm hm
    refine lv_aload_n hx hb dX2_openRule_7 rfl (lv_at hl 0 rfl) ?_
    refine lv_iload_n hx hb dX2_openRule_8 rfl (lv_at hl 1 rfl) ?_
    refine pG_0_14 C0 hA hw hiX2_openRule_X2 lkX2_openRule_55 dX2_openRule_9 (fun zx2 ezx2 H locs hw => ?_)
    have hm := nm_at hm ezx2
    exact kX2_openRule_b12 C0 hA zx2 a1 _ _ _ hm hw (lv_sub hl [0, 1] rfl)
theorem tX2_openRule (l : Launch) (E : EV) (ad : Nat → Nat) (zx : OS) (a1 : Int32) {zx' : OS} (hm : mX2_openRule zx a1 = some zx') : CT l yX2_openRule wsX2_openRule ({ frames := 0, cells := 0, slots := 0, locals := 0 } : Room) E [.ref (ad 0), .int a1] (wG E ad zx) (Qd none (wG E ad zx')) 0 0 :=
  CT.of (mL := 2) (lvs := [(0, .ref (ad 0)), (1, .int a1)]) (by decide +kernel) rfl (Nat.le_of_ble_eq_true rfl) rfl rfl rfl (fun p e s m below meth c A C0 hA hw ls hl => kX2_openRule_b0 (ad := ad) C0 hA zx a1 _ _ _ hm hw (lv_sub hl [0, 1] rfl))
theorem lkX2_canOpenAlternative_49 : Cond.fieldLink RX2 49 (TX2 12).1 (TX2 12).2.1 (TX2 12).2.2.1 ∈ wsX2_canOpenAlternative := by decide +kernel
theorem hiX2_canOpenAlternative_X2 : ∀ w ∈ u_ws RX2 TX2 16, w ∈ wsX2_canOpenAlternative := by decide +kernel
def mX2_canOpenAlternative_b0  (zx : OS) : Option (Int32) := (if 48 ≤ (zx.1 12 : Int32) then some 0 else some 1)
def mX2_canOpenAlternative (zx : OS)  : Option (Int32) := mX2_canOpenAlternative_b0 zx
set_option maxRecDepth 20000 in
theorem kX2_canOpenAlternative_b0 {p : Program} {l : Launch} {e : Env} {s : State} {m : MethodId} {args : Array Value} {below : List Frame} {meth : Method} {c : Code} {A : Nat → Prop} {E : EV} {ad : Nat → Nat} {zx : OS} {r : Int32} (C0 : Cx RX2 "canOpenAlternative" cX2_canOpenAlternative (some .boolean) 1 wsX2_canOpenAlternative p s m args meth c) (hA : Ax E A s) : ∀  (H : Heap) (locs : List Loc) (ls : Array Slot), mX2_canOpenAlternative_b0 zx = some r → Wd E A s H locs (wG E ad zx) → lv_has ls 1 [(0, .ref (ad 0))] → W p l e ({ frames := 0, cells := 0, slots := 0, locals := 0 } : Room) s m args below meth c H locs 0 0 (MQ below (QG E (Qd (some (.int r)) (wG E ad zx)) A) args s 0 0 A) (F0 m 0 ls []) := by
  have hx := C0.1
  have hb := C0.2.1
  intro  H locs ls hm hw hl
  unfold mX2_canOpenAlternative_b0 at hm
  refine lv_aload_n hx hb dX2_canOpenAlternative_0 rfl (lv_at hl 0 rfl) ?_
  refine gG_0_12 C0 hA hw hiX2_canOpenAlternative_X2 lkX2_canOpenAlternative_49 dX2_canOpenAlternative_1 ?_
  refine lv_bipush (v := 48) hx hb dX2_canOpenAlternative_4 (by decide) ?_
  refine lv_icmp_ge (tgt := 13) hx hb dX2_canOpenAlternative_6 (by decide) (fun c1 => ?_) (fun c1 => ?_)
  · have hm := Eq.trans (if_pos c1).symm hm
    refine lv_iconst (v := 0) hx hb dX2_canOpenAlternative_13 (by decide) ?_
    obtain rfl := sj1 hm
    exact r_zret C0 hw dX2_canOpenAlternative_14 rfl ⟨rfl, rfl⟩
  · have hm := Eq.trans (if_neg c1).symm hm
    refine lv_iconst (v := 1) hx hb dX2_canOpenAlternative_9 (by decide) ?_
    refine lv_goto (tgt := 14) hx hb dX2_canOpenAlternative_10 (by decide) ?_
    obtain rfl := sj1 hm
    exact r_zret C0 hw dX2_canOpenAlternative_14 rfl ⟨rfl, rfl⟩
theorem tX2_canOpenAlternative (l : Launch) (E : EV) (ad : Nat → Nat) (zx : OS)  {r : Int32} (hm : mX2_canOpenAlternative zx = some r) : CT l yX2_canOpenAlternative wsX2_canOpenAlternative ({ frames := 0, cells := 0, slots := 0, locals := 0 } : Room) E [.ref (ad 0)] (wG E ad zx) (Qd (some (.int r)) (wG E ad zx)) 0 0 :=
  CT.of (mL := 1) (lvs := [(0, .ref (ad 0))]) (by decide +kernel) rfl (Nat.le_of_ble_eq_true rfl) rfl rfl rfl (fun p e s m below meth c A C0 hA hw ls hl => kX2_canOpenAlternative_b0 (ad := ad) C0 hA  _ _ _ hm hw (lv_sub hl [0] rfl))
theorem lkX2_openAlternative_24 : Cond.fieldLink RX2 24 (TX2 4).1 (TX2 4).2.1 (TX2 4).2.2.1 ∈ wsX2_openAlternative := by decide +kernel
theorem lkX2_openAlternative_49 : Cond.fieldLink RX2 49 (TX2 12).1 (TX2 12).2.1 (TX2 12).2.2.1 ∈ wsX2_openAlternative := by decide +kernel
theorem lkX2_openAlternative_27 : Cond.fieldLink RX2 27 (TX2 5).1 (TX2 5).2.1 (TX2 5).2.2.1 ∈ wsX2_openAlternative := by decide +kernel
theorem lkX2_openAlternative_52 : Cond.fieldLink RX2 52 (TX2 13).1 (TX2 13).2.1 (TX2 13).2.2.1 ∈ wsX2_openAlternative := by decide +kernel
theorem lkX2_openAlternative_30 : Cond.fieldLink RX2 30 (TX2 6).1 (TX2 6).2.1 (TX2 6).2.2.1 ∈ wsX2_openAlternative := by decide +kernel
theorem lkX2_openAlternative_15 : Cond.fieldLink RX2 15 (TX2 1).1 (TX2 1).2.1 (TX2 1).2.2.1 ∈ wsX2_openAlternative := by decide +kernel
theorem lkX2_openAlternative_58 : Cond.fieldLink RX2 58 (TX2 15).1 (TX2 15).2.1 (TX2 15).2.2.1 ∈ wsX2_openAlternative := by decide +kernel
theorem lkX2_openAlternative_18 : Cond.fieldLink RX2 18 (TX2 2).1 (TX2 2).2.1 (TX2 2).2.2.1 ∈ wsX2_openAlternative := by decide +kernel
theorem hiX2_openAlternative_X2 : ∀ w ∈ u_ws RX2 TX2 16, w ∈ wsX2_openAlternative := by decide +kernel
def mX2_openAlternative_b0  (zx : OS) (a1 : Int32) : Option (OS) := gd (zx.1 12) 48 (nm (sA zx 4 (zx.1 12) a1) (fun zx2 => gd (zx2.1 12) 48 (nm (sA zx2 5 (zx2.1 12) (zx2.1 13)) (fun zx4 => gd (zx4.1 12) 48 (nm (sA zx4 6 (zx4.1 12) (zx4.1 13)) (fun zx6 => nm (sI zx6 12 ((zx6.1 12) + 1)) (fun zx7 => gd (zx7.1 15) 26 (gd (zx7.1 15) 26 (nm (sA zx7 1 (zx7.1 15) ((zx7.2.2.1 1 (zx7.1 15 : Int32).toNatClampNeg) + 1)) (fun zx10 => gd (zx10.1 15) 26 (gd (zx10.1 15) 26 (nm (sA zx10 2 (zx10.1 15) ((zx10.2.2.1 2 (zx10.1 15 : Int32).toNatClampNeg) + a1)) (fun zx13 => some zx13)))))))))))))
def mX2_openAlternative (zx : OS) (a1 : Int32) : Option (OS) := mX2_openAlternative_b0 zx a1
set_option maxRecDepth 20000 in
theorem kX2_openAlternative_b0 {p : Program} {l : Launch} {e : Env} {s : State} {m : MethodId} {args : Array Value} {below : List Frame} {meth : Method} {c : Code} {A : Nat → Prop} {E : EV} {ad : Nat → Nat}  {zx' : OS} (C0 : Cx RX2 "openAlternative" cX2_openAlternative (none) 2 wsX2_openAlternative p s m args meth c) (hA : Ax E A s) : ∀ (zx : OS) (a1 : Int32) (H : Heap) (locs : List Loc) (ls : Array Slot), mX2_openAlternative_b0 zx a1 = some zx' → Wd E A s H locs (wG E ad zx) → lv_has ls 2 [(0, .ref (ad 0)), (1, .int a1)] → W p l e ({ frames := 0, cells := 0, slots := 0, locals := 0 } : Room) s m args below meth c H locs 0 0 (MQ below (QG E (Qd none (wG E ad zx')) A) args s 0 0 A) (F0 m 0 ls []) := by
  have hx := C0.1
  have hb := C0.2.1
  intro zx a1 H locs ls hm hw hl
  unfold mX2_openAlternative_b0 at hm
  refine lv_aload_n hx hb dX2_openAlternative_0 rfl (lv_at hl 0 rfl) ?_
  refine gG_0_4 C0 hA hw hiX2_openAlternative_X2 lkX2_openAlternative_24 dX2_openAlternative_1 ?_
  refine lv_aload_n hx hb dX2_openAlternative_4 rfl (lv_at hl 0 rfl) ?_
  refine gG_0_12 C0 hA hw hiX2_openAlternative_X2 lkX2_openAlternative_49 dX2_openAlternative_5 ?_
  refine lv_iload_n hx hb dX2_openAlternative_8 rfl (lv_at hl 1 rfl) ?_
  obtain ⟨c1, hm⟩ := gd_some hm
  refine sG_5 C0 hA hw c1 dX2_openAlternative_9 (fun zx2 ezx2 H locs hw => ?_)
  have hm := nm_at hm ezx2
  refine lv_aload_n hx hb dX2_openAlternative_10 rfl (lv_at hl 0 rfl) ?_
  refine gG_0_5 C0 hA hw hiX2_openAlternative_X2 lkX2_openAlternative_27 dX2_openAlternative_11 ?_
  refine lv_aload_n hx hb dX2_openAlternative_14 rfl (lv_at hl 0 rfl) ?_
  refine gG_0_12 C0 hA hw hiX2_openAlternative_X2 lkX2_openAlternative_49 dX2_openAlternative_15 ?_
  refine lv_aload_n hx hb dX2_openAlternative_18 rfl (lv_at hl 0 rfl) ?_
  refine gG_0_13 C0 hA hw hiX2_openAlternative_X2 lkX2_openAlternative_52 dX2_openAlternative_19 ?_
  obtain ⟨c3, hm⟩ := gd_some hm
  refine sG_6 C0 hA hw c3 dX2_openAlternative_22 (fun zx4 ezx4 H locs hw => ?_)
  have hm := nm_at hm ezx4
  refine lv_aload_n hx hb dX2_openAlternative_23 rfl (lv_at hl 0 rfl) ?_
  refine gG_0_6 C0 hA hw hiX2_openAlternative_X2 lkX2_openAlternative_30 dX2_openAlternative_24 ?_
  refine lv_aload_n hx hb dX2_openAlternative_27 rfl (lv_at hl 0 rfl) ?_
  refine gG_0_12 C0 hA hw hiX2_openAlternative_X2 lkX2_openAlternative_49 dX2_openAlternative_28 ?_
  refine lv_aload_n hx hb dX2_openAlternative_31 rfl (lv_at hl 0 rfl) ?_
  refine gG_0_13 C0 hA hw hiX2_openAlternative_X2 lkX2_openAlternative_52 dX2_openAlternative_32 ?_
  obtain ⟨c5, hm⟩ := gd_some hm
  refine sG_7 C0 hA hw c5 dX2_openAlternative_35 (fun zx6 ezx6 H locs hw => ?_)
  have hm := nm_at hm ezx6
  refine lv_aload_n hx hb dX2_openAlternative_36 rfl (lv_at hl 0 rfl) ?_
  refine lv_dup hx hb dX2_openAlternative_37 rfl ?_
  refine gG_0_12 C0 hA hw hiX2_openAlternative_X2 lkX2_openAlternative_49 dX2_openAlternative_38 ?_
  refine lv_iconst (v := 1) hx hb dX2_openAlternative_41 (by decide) ?_
  refine lv_iadd hx hb dX2_openAlternative_42 ?_
  refine pG_0_12 C0 hA hw hiX2_openAlternative_X2 lkX2_openAlternative_49 dX2_openAlternative_43 (fun zx7 ezx7 H locs hw => ?_)
  have hm := nm_at hm ezx7
  refine lv_aload_n hx hb dX2_openAlternative_46 rfl (lv_at hl 0 rfl) ?_
  refine gG_0_1 C0 hA hw hiX2_openAlternative_X2 lkX2_openAlternative_15 dX2_openAlternative_47 ?_
  refine lv_aload_n hx hb dX2_openAlternative_50 rfl (lv_at hl 0 rfl) ?_
  refine gG_0_15 C0 hA hw hiX2_openAlternative_X2 lkX2_openAlternative_58 dX2_openAlternative_51 ?_
  refine lv_dup2_11 hx hb dX2_openAlternative_54 rfl rfl ?_
  obtain ⟨c8, hm⟩ := gd_some hm
  refine lG_2 C0 hA hw c8 dX2_openAlternative_55 ?_
  refine lv_iconst (v := 1) hx hb dX2_openAlternative_56 (by decide) ?_
  refine lv_iadd hx hb dX2_openAlternative_57 ?_
  obtain ⟨c9, hm⟩ := gd_some hm
  refine sG_2 C0 hA hw c9 dX2_openAlternative_58 (fun zx10 ezx10 H locs hw => ?_)
  have hm := nm_at hm ezx10
  refine lv_aload_n hx hb dX2_openAlternative_59 rfl (lv_at hl 0 rfl) ?_
  refine gG_0_2 C0 hA hw hiX2_openAlternative_X2 lkX2_openAlternative_18 dX2_openAlternative_60 ?_
  refine lv_aload_n hx hb dX2_openAlternative_63 rfl (lv_at hl 0 rfl) ?_
  refine gG_0_15 C0 hA hw hiX2_openAlternative_X2 lkX2_openAlternative_58 dX2_openAlternative_64 ?_
  refine lv_dup2_11 hx hb dX2_openAlternative_67 rfl rfl ?_
  obtain ⟨c11, hm⟩ := gd_some hm
  refine lG_3 C0 hA hw c11 dX2_openAlternative_68 ?_
  refine lv_iload_n hx hb dX2_openAlternative_69 rfl (lv_at hl 1 rfl) ?_
  refine lv_iadd hx hb dX2_openAlternative_70 ?_
  obtain ⟨c12, hm⟩ := gd_some hm
  refine sG_3 C0 hA hw c12 dX2_openAlternative_71 (fun zx13 ezx13 H locs hw => ?_)
  have hm := nm_at hm ezx13
  obtain rfl := sj1 hm
  exact r_vret C0 hw dX2_openAlternative_72 ⟨rfl, rfl⟩
theorem tX2_openAlternative (l : Launch) (E : EV) (ad : Nat → Nat) (zx : OS) (a1 : Int32) {zx' : OS} (hm : mX2_openAlternative zx a1 = some zx') : CT l yX2_openAlternative wsX2_openAlternative ({ frames := 0, cells := 0, slots := 0, locals := 0 } : Room) E [.ref (ad 0), .int a1] (wG E ad zx) (Qd none (wG E ad zx')) 0 0 :=
  CT.of (mL := 2) (lvs := [(0, .ref (ad 0)), (1, .int a1)]) (by decide +kernel) rfl (Nat.le_of_ble_eq_true rfl) rfl rfl rfl (fun p e s m below meth c A C0 hA hw ls hl => kX2_openAlternative_b0 (ad := ad) C0 hA zx a1 _ _ _ hm hw (lv_sub hl [0, 1] rfl))
theorem lkX2_canAddSign_52 : Cond.fieldLink RX2 52 (TX2 13).1 (TX2 13).2.1 (TX2 13).2.2.1 ∈ wsX2_canAddSign := by decide +kernel
theorem lkX2_canAddSign_49 : Cond.fieldLink RX2 49 (TX2 12).1 (TX2 12).2.1 (TX2 12).2.2.1 ∈ wsX2_canAddSign := by decide +kernel
theorem lkX2_canAddSign_27 : Cond.fieldLink RX2 27 (TX2 5).1 (TX2 5).2.1 (TX2 5).2.2.1 ∈ wsX2_canAddSign := by decide +kernel
theorem hiX2_canAddSign_X2 : ∀ w ∈ u_ws RX2 TX2 16, w ∈ wsX2_canAddSign := by decide +kernel
def mX2_canAddSign_b0  (zx : OS) : Option (Int32) := (if 240 ≤ (zx.1 13 : Int32) then some 0 else (if (zx.1 12 : Int32) ≤ 0 then some 0 else gd ((zx.1 12) - 1) 48 ((if 12 ≤ ((zx.1 13) - (zx.2.2.1 5 ((zx.1 12) - 1 : Int32).toNatClampNeg) : Int32) then some 0 else some 1))))
def mX2_canAddSign (zx : OS)  : Option (Int32) := mX2_canAddSign_b0 zx
set_option maxRecDepth 20000 in
theorem kX2_canAddSign_b0 {p : Program} {l : Launch} {e : Env} {s : State} {m : MethodId} {args : Array Value} {below : List Frame} {meth : Method} {c : Code} {A : Nat → Prop} {E : EV} {ad : Nat → Nat} {zx : OS} {r : Int32} (C0 : Cx RX2 "canAddSign" cX2_canAddSign (some .boolean) 1 wsX2_canAddSign p s m args meth c) (hA : Ax E A s) : ∀  (H : Heap) (locs : List Loc) (ls : Array Slot), mX2_canAddSign_b0 zx = some r → Wd E A s H locs (wG E ad zx) → lv_has ls 1 [(0, .ref (ad 0))] → W p l e ({ frames := 0, cells := 0, slots := 0, locals := 0 } : Room) s m args below meth c H locs 0 0 (MQ below (QG E (Qd (some (.int r)) (wG E ad zx)) A) args s 0 0 A) (F0 m 0 ls []) := by
  have hx := C0.1
  have hb := C0.2.1
  intro  H locs ls hm hw hl
  unfold mX2_canAddSign_b0 at hm
  refine lv_aload_n hx hb dX2_canAddSign_0 rfl (lv_at hl 0 rfl) ?_
  refine gG_0_13 C0 hA hw hiX2_canAddSign_X2 lkX2_canAddSign_52 dX2_canAddSign_1 ?_
  refine lv_sipush (v := 240) hx hb dX2_canAddSign_4 (by decide) ?_
  refine lv_icmp_ge (tgt := 42) hx hb dX2_canAddSign_7 (by decide) (fun c1 => ?_) (fun c1 => ?_)
  · have hm := Eq.trans (if_pos c1).symm hm
    refine lv_iconst (v := 0) hx hb dX2_canAddSign_42 (by decide) ?_
    obtain rfl := sj1 hm
    exact r_zret C0 hw dX2_canAddSign_43 rfl ⟨rfl, rfl⟩
  · have hm := Eq.trans (if_neg c1).symm hm
    refine lv_aload_n hx hb dX2_canAddSign_10 rfl (lv_at hl 0 rfl) ?_
    refine gG_0_12 C0 hA hw hiX2_canAddSign_X2 lkX2_canAddSign_49 dX2_canAddSign_11 ?_
    refine lv_if_le (tgt := 42) hx hb dX2_canAddSign_14 (by decide) (fun c2 => ?_) (fun c2 => ?_)
    · have hm := Eq.trans (if_pos c2).symm hm
      refine lv_iconst (v := 0) hx hb dX2_canAddSign_42 (by decide) ?_
      obtain rfl := sj1 hm
      exact r_zret C0 hw dX2_canAddSign_43 rfl ⟨rfl, rfl⟩
    · have hm := Eq.trans (if_neg c2).symm hm
      refine lv_aload_n hx hb dX2_canAddSign_17 rfl (lv_at hl 0 rfl) ?_
      refine gG_0_13 C0 hA hw hiX2_canAddSign_X2 lkX2_canAddSign_52 dX2_canAddSign_18 ?_
      refine lv_aload_n hx hb dX2_canAddSign_21 rfl (lv_at hl 0 rfl) ?_
      refine gG_0_5 C0 hA hw hiX2_canAddSign_X2 lkX2_canAddSign_27 dX2_canAddSign_22 ?_
      refine lv_aload_n hx hb dX2_canAddSign_25 rfl (lv_at hl 0 rfl) ?_
      refine gG_0_12 C0 hA hw hiX2_canAddSign_X2 lkX2_canAddSign_49 dX2_canAddSign_26 ?_
      refine lv_iconst (v := 1) hx hb dX2_canAddSign_29 (by decide) ?_
      refine lv_isub hx hb dX2_canAddSign_30 ?_
      obtain ⟨c3, hm⟩ := gd_some hm
      refine lG_6 C0 hA hw c3 dX2_canAddSign_31 ?_
      refine lv_isub hx hb dX2_canAddSign_32 ?_
      refine lv_bipush (v := 12) hx hb dX2_canAddSign_33 (by decide) ?_
      refine lv_icmp_ge (tgt := 42) hx hb dX2_canAddSign_35 (by decide) (fun c4 => ?_) (fun c4 => ?_)
      · have hm := Eq.trans (if_pos c4).symm hm
        refine lv_iconst (v := 0) hx hb dX2_canAddSign_42 (by decide) ?_
        obtain rfl := sj1 hm
        exact r_zret C0 hw dX2_canAddSign_43 rfl ⟨rfl, rfl⟩
      · have hm := Eq.trans (if_neg c4).symm hm
        refine lv_iconst (v := 1) hx hb dX2_canAddSign_38 (by decide) ?_
        refine lv_goto (tgt := 43) hx hb dX2_canAddSign_39 (by decide) ?_
        obtain rfl := sj1 hm
        exact r_zret C0 hw dX2_canAddSign_43 rfl ⟨rfl, rfl⟩
theorem tX2_canAddSign (l : Launch) (E : EV) (ad : Nat → Nat) (zx : OS)  {r : Int32} (hm : mX2_canAddSign zx = some r) : CT l yX2_canAddSign wsX2_canAddSign ({ frames := 0, cells := 0, slots := 0, locals := 0 } : Room) E [.ref (ad 0)] (wG E ad zx) (Qd (some (.int r)) (wG E ad zx)) 0 0 :=
  CT.of (mL := 1) (lvs := [(0, .ref (ad 0))]) (by decide +kernel) rfl (Nat.le_of_ble_eq_true rfl) rfl rfl rfl (fun p e s m below meth c A C0 hA hw ls hl => kX2_canAddSign_b0 (ad := ad) C0 hA  _ _ _ hm hw (lv_sub hl [0] rfl))
theorem lkX2_addSign_33 : Cond.fieldLink RX2 33 (TX2 7).1 (TX2 7).2.1 (TX2 7).2.2.1 ∈ wsX2_addSign := by decide +kernel
theorem lkX2_addSign_52 : Cond.fieldLink RX2 52 (TX2 13).1 (TX2 13).2.1 (TX2 13).2.2.1 ∈ wsX2_addSign := by decide +kernel
theorem lkX2_addSign_36 : Cond.fieldLink RX2 36 (TX2 8).1 (TX2 8).2.1 (TX2 8).2.2.1 ∈ wsX2_addSign := by decide +kernel
theorem lkX2_addSign_39 : Cond.fieldLink RX2 39 (TX2 9).1 (TX2 9).2.1 (TX2 9).2.2.1 ∈ wsX2_addSign := by decide +kernel
theorem lkX2_addSign_42 : Cond.fieldLink RX2 42 (TX2 10).1 (TX2 10).2.1 (TX2 10).2.2.1 ∈ wsX2_addSign := by decide +kernel
theorem lkX2_addSign_30 : Cond.fieldLink RX2 30 (TX2 6).1 (TX2 6).2.1 (TX2 6).2.2.1 ∈ wsX2_addSign := by decide +kernel
theorem lkX2_addSign_49 : Cond.fieldLink RX2 49 (TX2 12).1 (TX2 12).2.1 (TX2 12).2.2.1 ∈ wsX2_addSign := by decide +kernel
theorem hiX2_addSign_X2 : ∀ w ∈ u_ws RX2 TX2 16, w ∈ wsX2_addSign := by decide +kernel
def mX2_addSign_b0  (zx : OS) (a1 : Int32) (a2 : Int32) (a3 : Int32) (a4 : Int32) : Option (OS) := gd (zx.1 13) 240 (nm (sA zx 7 (zx.1 13) a1) (fun zx2 => gd (zx2.1 13) 240 (nm (sA zx2 8 (zx2.1 13) a2) (fun zx4 => gd (zx4.1 13) 240 (nm (sA zx4 9 (zx4.1 13) a3) (fun zx6 => gd (zx6.1 13) 240 (nm (sA zx6 10 (zx6.1 13) a4) (fun zx8 => nm (sI zx8 13 ((zx8.1 13) + 1)) (fun zx9 => gd ((zx9.1 12) - 1) 48 (nm (sA zx9 6 ((zx9.1 12) - 1) (zx9.1 13)) (fun zx11 => some zx11)))))))))))
def mX2_addSign (zx : OS) (a1 : Int32) (a2 : Int32) (a3 : Int32) (a4 : Int32) : Option (OS) := mX2_addSign_b0 zx a1 a2 a3 a4
set_option maxRecDepth 20000 in
theorem kX2_addSign_b0 {p : Program} {l : Launch} {e : Env} {s : State} {m : MethodId} {args : Array Value} {below : List Frame} {meth : Method} {c : Code} {A : Nat → Prop} {E : EV} {ad : Nat → Nat}  {zx' : OS} (C0 : Cx RX2 "addSign" cX2_addSign (none) 5 wsX2_addSign p s m args meth c) (hA : Ax E A s) : ∀ (zx : OS) (a1 : Int32) (a2 : Int32) (a3 : Int32) (a4 : Int32) (H : Heap) (locs : List Loc) (ls : Array Slot), mX2_addSign_b0 zx a1 a2 a3 a4 = some zx' → Wd E A s H locs (wG E ad zx) → lv_has ls 5 [(0, .ref (ad 0)), (1, .int a1), (2, .int a2), (3, .int a3), (4, .int a4)] → W p l e ({ frames := 0, cells := 0, slots := 0, locals := 0 } : Room) s m args below meth c H locs 0 0 (MQ below (QG E (Qd none (wG E ad zx')) A) args s 0 0 A) (F0 m 0 ls []) := by
  have hx := C0.1
  have hb := C0.2.1
  intro zx a1 a2 a3 a4 H locs ls hm hw hl
  unfold mX2_addSign_b0 at hm
  refine lv_aload_n hx hb dX2_addSign_0 rfl (lv_at hl 0 rfl) ?_
  refine gG_0_7 C0 hA hw hiX2_addSign_X2 lkX2_addSign_33 dX2_addSign_1 ?_
  refine lv_aload_n hx hb dX2_addSign_4 rfl (lv_at hl 0 rfl) ?_
  refine gG_0_13 C0 hA hw hiX2_addSign_X2 lkX2_addSign_52 dX2_addSign_5 ?_
  refine lv_iload_n hx hb dX2_addSign_8 rfl (lv_at hl 1 rfl) ?_
  obtain ⟨c1, hm⟩ := gd_some hm
  refine sG_8 C0 hA hw c1 dX2_addSign_9 (fun zx2 ezx2 H locs hw => ?_)
  have hm := nm_at hm ezx2
  refine lv_aload_n hx hb dX2_addSign_10 rfl (lv_at hl 0 rfl) ?_
  refine gG_0_8 C0 hA hw hiX2_addSign_X2 lkX2_addSign_36 dX2_addSign_11 ?_
  refine lv_aload_n hx hb dX2_addSign_14 rfl (lv_at hl 0 rfl) ?_
  refine gG_0_13 C0 hA hw hiX2_addSign_X2 lkX2_addSign_52 dX2_addSign_15 ?_
  refine lv_iload_n hx hb dX2_addSign_18 rfl (lv_at hl 2 rfl) ?_
  obtain ⟨c3, hm⟩ := gd_some hm
  refine sG_9 C0 hA hw c3 dX2_addSign_19 (fun zx4 ezx4 H locs hw => ?_)
  have hm := nm_at hm ezx4
  refine lv_aload_n hx hb dX2_addSign_20 rfl (lv_at hl 0 rfl) ?_
  refine gG_0_9 C0 hA hw hiX2_addSign_X2 lkX2_addSign_39 dX2_addSign_21 ?_
  refine lv_aload_n hx hb dX2_addSign_24 rfl (lv_at hl 0 rfl) ?_
  refine gG_0_13 C0 hA hw hiX2_addSign_X2 lkX2_addSign_52 dX2_addSign_25 ?_
  refine lv_iload_n hx hb dX2_addSign_28 rfl (lv_at hl 3 rfl) ?_
  obtain ⟨c5, hm⟩ := gd_some hm
  refine sG_10 C0 hA hw c5 dX2_addSign_29 (fun zx6 ezx6 H locs hw => ?_)
  have hm := nm_at hm ezx6
  refine lv_aload_n hx hb dX2_addSign_30 rfl (lv_at hl 0 rfl) ?_
  refine gG_0_10 C0 hA hw hiX2_addSign_X2 lkX2_addSign_42 dX2_addSign_31 ?_
  refine lv_aload_n hx hb dX2_addSign_34 rfl (lv_at hl 0 rfl) ?_
  refine gG_0_13 C0 hA hw hiX2_addSign_X2 lkX2_addSign_52 dX2_addSign_35 ?_
  refine lv_iload hx hb dX2_addSign_38 (lv_at hl 4 rfl) ?_
  obtain ⟨c7, hm⟩ := gd_some hm
  refine sG_11 C0 hA hw c7 dX2_addSign_40 (fun zx8 ezx8 H locs hw => ?_)
  have hm := nm_at hm ezx8
  refine lv_aload_n hx hb dX2_addSign_41 rfl (lv_at hl 0 rfl) ?_
  refine lv_dup hx hb dX2_addSign_42 rfl ?_
  refine gG_0_13 C0 hA hw hiX2_addSign_X2 lkX2_addSign_52 dX2_addSign_43 ?_
  refine lv_iconst (v := 1) hx hb dX2_addSign_46 (by decide) ?_
  refine lv_iadd hx hb dX2_addSign_47 ?_
  refine pG_0_13 C0 hA hw hiX2_addSign_X2 lkX2_addSign_52 dX2_addSign_48 (fun zx9 ezx9 H locs hw => ?_)
  have hm := nm_at hm ezx9
  refine lv_aload_n hx hb dX2_addSign_51 rfl (lv_at hl 0 rfl) ?_
  refine gG_0_6 C0 hA hw hiX2_addSign_X2 lkX2_addSign_30 dX2_addSign_52 ?_
  refine lv_aload_n hx hb dX2_addSign_55 rfl (lv_at hl 0 rfl) ?_
  refine gG_0_12 C0 hA hw hiX2_addSign_X2 lkX2_addSign_49 dX2_addSign_56 ?_
  refine lv_iconst (v := 1) hx hb dX2_addSign_59 (by decide) ?_
  refine lv_isub hx hb dX2_addSign_60 ?_
  refine lv_aload_n hx hb dX2_addSign_61 rfl (lv_at hl 0 rfl) ?_
  refine gG_0_13 C0 hA hw hiX2_addSign_X2 lkX2_addSign_52 dX2_addSign_62 ?_
  obtain ⟨c10, hm⟩ := gd_some hm
  refine sG_7 C0 hA hw c10 dX2_addSign_65 (fun zx11 ezx11 H locs hw => ?_)
  have hm := nm_at hm ezx11
  obtain rfl := sj1 hm
  exact r_vret C0 hw dX2_addSign_66 ⟨rfl, rfl⟩
theorem tX2_addSign (l : Launch) (E : EV) (ad : Nat → Nat) (zx : OS) (a1 : Int32) (a2 : Int32) (a3 : Int32) (a4 : Int32) {zx' : OS} (hm : mX2_addSign zx a1 a2 a3 a4 = some zx') : CT l yX2_addSign wsX2_addSign ({ frames := 0, cells := 0, slots := 0, locals := 0 } : Room) E [.ref (ad 0), .int a1, .int a2, .int a3, .int a4] (wG E ad zx) (Qd none (wG E ad zx')) 0 0 :=
  CT.of (mL := 5) (lvs := [(0, .ref (ad 0)), (1, .int a1), (2, .int a2), (3, .int a3), (4, .int a4)]) (by decide +kernel) rfl (Nat.le_of_ble_eq_true rfl) rfl rfl rfl (fun p e s m below meth c A C0 hA hw ls hl => kX2_addSign_b0 (ad := ad) C0 hA zx a1 a2 a3 a4 _ _ _ hm hw (lv_sub hl [0, 1, 2, 3, 4] rfl))
theorem lkX2_addLetter_21 : Cond.fieldLink RX2 21 (TX2 3).1 (TX2 3).2.1 (TX2 3).2.2.1 ∈ wsX2_addLetter := by decide +kernel
theorem hiX2_addLetter_X2 : ∀ w ∈ u_ws RX2 TX2 16, w ∈ wsX2_addLetter := by decide +kernel
def mX2_addLetter_b17  (zx : OS) (a1 : Int32) : Option (OS) := b1 (mX2_addSign zx a1 (-1) 0 0) (fun zx1 => some zx1)
def mX2_addLetter_b0  (zx : OS) (a1 : Int32) (a2 : Int32) : Option (OS) := gd a1 26 ((if (zx.2.2.1 3 (a1 : Int32).toNatClampNeg : Int32) = (-1) then gd a1 26 (nm (sA zx 3 a1 a2) (fun zx4 => mX2_addLetter_b17 zx4 a1)) else mX2_addLetter_b17 zx a1))
def mX2_addLetter (zx : OS) (a1 : Int32) (a2 : Int32) : Option (OS) := mX2_addLetter_b0 zx a1 a2
set_option maxRecDepth 20000 in
theorem kX2_addLetter_b17 {p : Program} {l : Launch} {e : Env} {s : State} {m : MethodId} {args : Array Value} {below : List Frame} {meth : Method} {c : Code} {A : Nat → Prop} {E : EV} {ad : Nat → Nat}  {zx' : OS} (C0 : Cx RX2 "addLetter" cX2_addLetter (none) 3 wsX2_addLetter p s m args meth c) (hA : Ax E A s) : ∀ (zx : OS) (a1 : Int32) (H : Heap) (locs : List Loc) (ls : Array Slot), mX2_addLetter_b17 zx a1 = some zx' → Wd E A s H locs (wG E ad zx) → lv_has ls 3 [(0, .ref (ad 0)), (1, .int a1)] → W p l e ({ frames := 1, cells := 0, slots := 0, locals := 24 } : Room) s m args below meth c H locs 0 0 (MQ below (QG E (Qd none (wG E ad zx')) A) args s 0 0 A) (F0 m 17 ls []) := by
  have hx := C0.1
  have hb := C0.2.1
  intro zx a1 H locs ls hm hw hl
  unfold mX2_addLetter_b17 at hm
  refine lv_aload_n hx hb dX2_addLetter_17 rfl (lv_at hl 0 rfl) ?_
  refine lv_iload_n hx hb dX2_addLetter_18 rfl (lv_at hl 1 rfl) ?_
  refine lv_iconst (v := (-1)) hx hb dX2_addLetter_19 (by decide) ?_
  refine lv_iconst (v := 0) hx hb dX2_addLetter_20 (by decide) ?_
  refine lv_iconst (v := 0) hx hb dX2_addLetter_21 (by decide) ?_
  obtain ⟨zx1, h2, hm⟩ := b1_some hm
  refine r_backS (va_runV (As := [.int a1, .int (-1), .int 0, .int 0]) (rest := []) ⟨hx, hb, C0.2.2.2.1, C0.2.2.2.2.1, C0.2.2.2.2.2.1⟩ (tX2_addSign l E ad zx a1 (-1) 0 0 h2 H.size) (cwV 4 C0.2.2.2.2.2.1 gX2_addLetter_X2_addSign rfl rfl rfl (by decide +kernel) ⟨Nat.le_of_ble_eq_true rfl, Nat.le_of_ble_eq_true rfl⟩) ⟨PG_blind, va_recv hA.2.2.1.1 hw.1 (ci := 2) (q0 := 0) rfl rfl, pg_self hA hw⟩ rfl rfl hl.1 rfl (lv_room (Nat.le_of_ble_eq_true rfl)) dX2_addLetter_22 ⟨Nat.zero_le _, Nat.zero_le _⟩) hA hw (fun H locs hw => ?_)
  obtain rfl := sj1 hm
  exact r_vret C0 hw dX2_addLetter_25 ⟨rfl, rfl⟩
set_option maxRecDepth 20000 in
theorem kX2_addLetter_b0 {p : Program} {l : Launch} {e : Env} {s : State} {m : MethodId} {args : Array Value} {below : List Frame} {meth : Method} {c : Code} {A : Nat → Prop} {E : EV} {ad : Nat → Nat}  {zx' : OS} (C0 : Cx RX2 "addLetter" cX2_addLetter (none) 3 wsX2_addLetter p s m args meth c) (hA : Ax E A s) : ∀ (zx : OS) (a1 : Int32) (a2 : Int32) (H : Heap) (locs : List Loc) (ls : Array Slot), mX2_addLetter_b0 zx a1 a2 = some zx' → Wd E A s H locs (wG E ad zx) → lv_has ls 3 [(0, .ref (ad 0)), (1, .int a1), (2, .int a2)] → W p l e ({ frames := 1, cells := 0, slots := 0, locals := 24 } : Room) s m args below meth c H locs 0 0 (MQ below (QG E (Qd none (wG E ad zx')) A) args s 0 0 A) (F0 m 0 ls []) := by
  have hx := C0.1
  have hb := C0.2.1
  intro zx a1 a2 H locs ls hm hw hl
  unfold mX2_addLetter_b0 at hm
  refine lv_aload_n hx hb dX2_addLetter_0 rfl (lv_at hl 0 rfl) ?_
  refine gG_0_3 C0 hA hw hiX2_addLetter_X2 lkX2_addLetter_21 dX2_addLetter_1 ?_
  refine lv_iload_n hx hb dX2_addLetter_4 rfl (lv_at hl 1 rfl) ?_
  obtain ⟨c1, hm⟩ := gd_some hm
  refine lG_4 C0 hA hw c1 dX2_addLetter_5 ?_
  refine lv_iconst (v := (-1)) hx hb dX2_addLetter_6 (by decide) ?_
  refine lv_icmp_ne (tgt := 17) hx hb dX2_addLetter_7 (by decide) (fun c2 => ?_) (fun c2 => ?_)
  · have hm := Eq.trans (if_neg c2).symm hm
    exact kX2_addLetter_b17 C0 hA zx a1 _ _ _ hm hw (lv_sub hl [0, 1] rfl)
  · have hm := Eq.trans (if_pos c2).symm hm
    refine lv_aload_n hx hb dX2_addLetter_10 rfl (lv_at hl 0 rfl) ?_
    refine gG_0_3 C0 hA hw hiX2_addLetter_X2 lkX2_addLetter_21 dX2_addLetter_11 ?_
    refine lv_iload_n hx hb dX2_addLetter_14 rfl (lv_at hl 1 rfl) ?_
    refine lv_iload_n hx hb dX2_addLetter_15 rfl (lv_at hl 2 rfl) ?_
    obtain ⟨c3, hm⟩ := gd_some hm
    refine sG_4 C0 hA hw c3 dX2_addLetter_16 (fun zx4 ezx4 H locs hw => ?_)
    have hm := nm_at hm ezx4
    exact kX2_addLetter_b17 C0 hA zx4 a1 _ _ _ hm hw (lv_sub hl [0, 1] rfl)
theorem tX2_addLetter (l : Launch) (E : EV) (ad : Nat → Nat) (zx : OS) (a1 : Int32) (a2 : Int32) {zx' : OS} (hm : mX2_addLetter zx a1 a2 = some zx') : CT l yX2_addLetter wsX2_addLetter ({ frames := 1, cells := 0, slots := 0, locals := 24 } : Room) E [.ref (ad 0), .int a1, .int a2] (wG E ad zx) (Qd none (wG E ad zx')) 0 0 :=
  CT.of (mL := 3) (lvs := [(0, .ref (ad 0)), (1, .int a1), (2, .int a2)]) (by decide +kernel) rfl (Nat.le_of_ble_eq_true rfl) rfl rfl rfl (fun p e s m below meth c A C0 hA hw ls hl => kX2_addLetter_b0 (ad := ad) C0 hA zx a1 a2 _ _ _ hm hw (lv_sub hl [0, 1, 2] rfl))
def mX2_addSound_b0  (zx : OS) (a1 : Int32) (a2 : Int32) (a3 : Int32) : Option (OS) := b1 (mX2_addSign zx (-1) a1 a2 a3) (fun zx1 => some zx1)
def mX2_addSound (zx : OS) (a1 : Int32) (a2 : Int32) (a3 : Int32) : Option (OS) := mX2_addSound_b0 zx a1 a2 a3
set_option maxRecDepth 20000 in
theorem kX2_addSound_b0 {p : Program} {l : Launch} {e : Env} {s : State} {m : MethodId} {args : Array Value} {below : List Frame} {meth : Method} {c : Code} {A : Nat → Prop} {E : EV} {ad : Nat → Nat}  {zx' : OS} (C0 : Cx RX2 "addSound" cX2_addSound (none) 4 wsX2_addSound p s m args meth c) (hA : Ax E A s) : ∀ (zx : OS) (a1 : Int32) (a2 : Int32) (a3 : Int32) (H : Heap) (locs : List Loc) (ls : Array Slot), mX2_addSound_b0 zx a1 a2 a3 = some zx' → Wd E A s H locs (wG E ad zx) → lv_has ls 4 [(0, .ref (ad 0)), (1, .int a1), (2, .int a2), (3, .int a3)] → W p l e ({ frames := 1, cells := 0, slots := 0, locals := 24 } : Room) s m args below meth c H locs 0 0 (MQ below (QG E (Qd none (wG E ad zx')) A) args s 0 0 A) (F0 m 0 ls []) := by
  have hx := C0.1
  have hb := C0.2.1
  intro zx a1 a2 a3 H locs ls hm hw hl
  unfold mX2_addSound_b0 at hm
  refine lv_aload_n hx hb dX2_addSound_0 rfl (lv_at hl 0 rfl) ?_
  refine lv_iconst (v := (-1)) hx hb dX2_addSound_1 (by decide) ?_
  refine lv_iload_n hx hb dX2_addSound_2 rfl (lv_at hl 1 rfl) ?_
  refine lv_iload_n hx hb dX2_addSound_3 rfl (lv_at hl 2 rfl) ?_
  refine lv_iload_n hx hb dX2_addSound_4 rfl (lv_at hl 3 rfl) ?_
  obtain ⟨zx1, h2, hm⟩ := b1_some hm
  refine r_backS (va_runV (As := [.int (-1), .int a1, .int a2, .int a3]) (rest := []) ⟨hx, hb, C0.2.2.2.1, C0.2.2.2.2.1, C0.2.2.2.2.2.1⟩ (tX2_addSign l E ad zx (-1) a1 a2 a3 h2 H.size) (cwV 4 C0.2.2.2.2.2.1 gX2_addSound_X2_addSign rfl rfl rfl (by decide +kernel) ⟨Nat.le_of_ble_eq_true rfl, Nat.le_of_ble_eq_true rfl⟩) ⟨PG_blind, va_recv hA.2.2.1.1 hw.1 (ci := 2) (q0 := 0) rfl rfl, pg_self hA hw⟩ rfl rfl hl.1 rfl (lv_room (Nat.le_of_ble_eq_true rfl)) dX2_addSound_5 ⟨Nat.zero_le _, Nat.zero_le _⟩) hA hw (fun H locs hw => ?_)
  obtain rfl := sj1 hm
  exact r_vret C0 hw dX2_addSound_8 ⟨rfl, rfl⟩
theorem tX2_addSound (l : Launch) (E : EV) (ad : Nat → Nat) (zx : OS) (a1 : Int32) (a2 : Int32) (a3 : Int32) {zx' : OS} (hm : mX2_addSound zx a1 a2 a3 = some zx') : CT l yX2_addSound wsX2_addSound ({ frames := 1, cells := 0, slots := 0, locals := 24 } : Room) E [.ref (ad 0), .int a1, .int a2, .int a3] (wG E ad zx) (Qd none (wG E ad zx')) 0 0 :=
  CT.of (mL := 4) (lvs := [(0, .ref (ad 0)), (1, .int a1), (2, .int a2), (3, .int a3)]) (by decide +kernel) rfl (Nat.le_of_ble_eq_true rfl) rfl rfl rfl (fun p e s m below meth c A C0 hA hw ls hl => kX2_addSound_b0 (ad := ad) C0 hA zx a1 a2 a3 _ _ _ hm hw (lv_sub hl [0, 1, 2, 3] rfl))
theorem lkX2_firstUseWithoutRule_21 : Cond.fieldLink RX2 21 (TX2 3).1 (TX2 3).2.1 (TX2 3).2.2.1 ∈ wsX2_firstUseWithoutRule := by decide +kernel
theorem hiX2_firstUseWithoutRule_X2 : ∀ w ∈ u_ws RX2 TX2 16, w ∈ wsX2_firstUseWithoutRule := by decide +kernel
def mX2_firstUseWithoutRule_b4 (F : Nat)  : Nat → OS → Int32 → Int32 → Option (Int32)
  | 0, _, _, _ => none
  | n + 1, zx, a1, a2 => (if 26 ≤ (a2 : Int32) then some a1 else gd a2 26 (nm (zx.2.2.1 3 (a2 : Int32).toNatClampNeg : Int32) (fun v3 => (if (v3 : Int32) = (-1) then nm (a2 + 1 : Int32) (fun v5 => mX2_firstUseWithoutRule_b4 F n zx a1 v5) else b1 (mX2_hasRule zx a2) (fun r6 => (if (r6 : Int32) = 0 then (if (a1 : Int32) = (-1) then nm (a2 + 1 : Int32) (fun v11 => mX2_firstUseWithoutRule_b4 F n zx v3 v11) else (if a1 ≤ (v3 : Int32) then nm (a2 + 1 : Int32) (fun v13 => mX2_firstUseWithoutRule_b4 F n zx a1 v13) else nm (a2 + 1 : Int32) (fun v14 => mX2_firstUseWithoutRule_b4 F n zx v3 v14))) else nm (a2 + 1 : Int32) (fun v9 => mX2_firstUseWithoutRule_b4 F n zx a1 v9)))))))
def mX2_firstUseWithoutRule_b0 (F : Nat)  (zx : OS) : Option (Int32) := nm ((-1) : Int32) (fun v1 => nm (0 : Int32) (fun v2 => mX2_firstUseWithoutRule_b4 F F zx v1 v2))
def mX2_firstUseWithoutRule (F : Nat) (zx : OS)  : Option (Int32) := mX2_firstUseWithoutRule_b0 F zx
set_option maxRecDepth 20000 in
theorem kX2_firstUseWithoutRule_b4 {p : Program} {l : Launch} {e : Env} {s : State} {m : MethodId} {args : Array Value} {below : List Frame} {meth : Method} {c : Code} {A : Nat → Prop} {E : EV} {ad : Nat → Nat} (F : Nat) {zx : OS} {r : Int32} (C0 : Cx RX2 "firstUseWithoutRule" cX2_firstUseWithoutRule (some .int) 4 wsX2_firstUseWithoutRule p s m args meth c) (hA : Ax E A s) : ∀ (n : Nat) (a1 : Int32) (a2 : Int32) (H : Heap) (locs : List Loc) (ls : Array Slot), mX2_firstUseWithoutRule_b4 F n zx a1 a2 = some r → Wd E A s H locs (wG E ad zx) → lv_has ls 4 [(0, .ref (ad 0)), (1, .int a1), (2, .int a2)] → W p l e ({ frames := 2, cells := 0, slots := 0, locals := 43 } : Room) s m args below meth c H locs 0 0 (MQ below (QG E (Qd (some (.int r)) (wG E ad zx)) A) args s 0 0 A) (F0 m 4 ls []) := by
  have hx := C0.1
  have hb := C0.2.1
  intro n
  induction n with
  | zero =>
    intro a1 a2 H locs ls hm
    cases hm
  | succ n ih =>
    intro a1 a2 H locs ls hm hw hl
    unfold mX2_firstUseWithoutRule_b4 at hm
    refine lv_iload_n hx hb dX2_firstUseWithoutRule_4 rfl (lv_at hl 2 rfl) ?_
    refine lv_bipush (v := 26) hx hb dX2_firstUseWithoutRule_5 (by decide) ?_
    refine lv_icmp_ge (tgt := 48) hx hb dX2_firstUseWithoutRule_7 (by decide) (fun c1 => ?_) (fun c1 => ?_)
    · have hm := Eq.trans (if_pos c1).symm hm
      refine lv_iload_n hx hb dX2_firstUseWithoutRule_48 rfl (lv_at hl 1 rfl) ?_
      obtain rfl := sj1 hm
      exact r_iret C0 hw dX2_firstUseWithoutRule_49 ⟨rfl, rfl⟩
    · have hm := Eq.trans (if_neg c1).symm hm
      refine lv_aload_n hx hb dX2_firstUseWithoutRule_10 rfl (lv_at hl 0 rfl) ?_
      refine gG_0_3 C0 hA hw hiX2_firstUseWithoutRule_X2 lkX2_firstUseWithoutRule_21 dX2_firstUseWithoutRule_11 ?_
      refine lv_iload_n hx hb dX2_firstUseWithoutRule_14 rfl (lv_at hl 2 rfl) ?_
      obtain ⟨c2, hm⟩ := gd_some hm
      refine lG_4 C0 hA hw c2 dX2_firstUseWithoutRule_15 ?_
      refine lv_topi (fun v3 ev3 => ?_)
      have hm := nm_at hm ev3
      refine lv_istore_n (lv' := [(3, .int v3), (0, .ref (ad 0)), (1, .int a1), (2, .int a2)]) hx hb dX2_firstUseWithoutRule_16 rfl hl (by decide) rfl (fun ls hl => ?_)
      refine lv_iload_n hx hb dX2_firstUseWithoutRule_17 rfl (lv_at hl 0 rfl) ?_
      refine lv_iconst (v := (-1)) hx hb dX2_firstUseWithoutRule_18 (by decide) ?_
      refine lv_icmp_eq (tgt := 42) hx hb dX2_firstUseWithoutRule_19 (by decide) (fun c4 => ?_) (fun c4 => ?_)
      · have hm := Eq.trans (if_pos c4).symm hm
        obtain ⟨v5, ev5⟩ : ∃ y : Int32, y = a2 + 1 := ⟨_, rfl⟩
        have hm := nm_at hm ev5
        refine lv_iinc (v := v5) (lv' := [(2, .int v5), (3, .int v3), (0, .ref (ad 0)), (1, .int a1)]) hx hb dX2_firstUseWithoutRule_42 hl (k := 3) rfl (by rw [ev5]; rfl) (by decide) rfl (fun ls hl => ?_)
        refine lv_goto (tgt := 4) hx hb dX2_firstUseWithoutRule_45 (by decide) ?_
        exact ih a1 v5 _ _ _ hm hw (lv_sub hl [2, 3, 0] rfl)
      · have hm := Eq.trans (if_neg c4).symm hm
        refine lv_aload_n hx hb dX2_firstUseWithoutRule_22 rfl (lv_at hl 1 rfl) ?_
        refine lv_iload_n hx hb dX2_firstUseWithoutRule_23 rfl (lv_at hl 3 rfl) ?_
        obtain ⟨r6, h7, hm⟩ := b1_some hm
        refine r_backS (va_runV (As := [.int a2]) (rest := []) ⟨hx, hb, C0.2.2.2.1, C0.2.2.2.2.1, C0.2.2.2.2.2.1⟩ (tX2_hasRule l E ad zx a2 h7 H.size) (cwV 1 C0.2.2.2.2.2.1 gX2_firstUseWithoutRule_X2_hasRule rfl rfl rfl (by decide +kernel) ⟨Nat.le_of_ble_eq_true rfl, Nat.le_of_ble_eq_true rfl⟩) ⟨PG_blind, va_recv hA.2.2.1.1 hw.1 (ci := 2) (q0 := 0) rfl rfl, pg_self hA hw⟩ rfl rfl hl.1 rfl (lv_room (Nat.le_of_ble_eq_true rfl)) dX2_firstUseWithoutRule_24 ⟨Nat.zero_le _, Nat.zero_le _⟩) hA hw (fun H locs hw => ?_)
        refine lv_if_ne (tgt := 42) hx hb dX2_firstUseWithoutRule_27 (by decide) (fun c8 => ?_) (fun c8 => ?_)
        · have hm := Eq.trans (if_neg c8).symm hm
          obtain ⟨v9, ev9⟩ : ∃ y : Int32, y = a2 + 1 := ⟨_, rfl⟩
          have hm := nm_at hm ev9
          refine lv_iinc (v := v9) (lv' := [(2, .int v9), (3, .int v3), (0, .ref (ad 0)), (1, .int a1)]) hx hb dX2_firstUseWithoutRule_42 hl (k := 3) rfl (by rw [ev9]; rfl) (by decide) rfl (fun ls hl => ?_)
          refine lv_goto (tgt := 4) hx hb dX2_firstUseWithoutRule_45 (by decide) ?_
          exact ih a1 v9 _ _ _ hm hw (lv_sub hl [2, 3, 0] rfl)
        · have hm := Eq.trans (if_pos c8).symm hm
          refine lv_iload_n hx hb dX2_firstUseWithoutRule_30 rfl (lv_at hl 2 rfl) ?_
          refine lv_iconst (v := (-1)) hx hb dX2_firstUseWithoutRule_31 (by decide) ?_
          refine lv_icmp_eq (tgt := 40) hx hb dX2_firstUseWithoutRule_32 (by decide) (fun c10 => ?_) (fun c10 => ?_)
          · have hm := Eq.trans (if_pos c10).symm hm
            refine lv_iload_n hx hb dX2_firstUseWithoutRule_40 rfl (lv_at hl 0 rfl) ?_
            refine lv_istore_n (lv' := [(1, .int v3), (3, .int v3), (0, .ref (ad 0)), (2, .int a2)]) hx hb dX2_firstUseWithoutRule_41 rfl hl (by decide) rfl (fun ls hl => ?_)
            obtain ⟨v11, ev11⟩ : ∃ y : Int32, y = a2 + 1 := ⟨_, rfl⟩
            have hm := nm_at hm ev11
            refine lv_iinc (v := v11) (lv' := [(2, .int v11), (1, .int v3), (3, .int v3), (0, .ref (ad 0))]) hx hb dX2_firstUseWithoutRule_42 hl (k := 3) rfl (by rw [ev11]; rfl) (by decide) rfl (fun ls hl => ?_)
            refine lv_goto (tgt := 4) hx hb dX2_firstUseWithoutRule_45 (by decide) ?_
            exact ih v3 v11 _ _ _ hm hw (lv_sub hl [3, 1, 0] rfl)
          · have hm := Eq.trans (if_neg c10).symm hm
            refine lv_iload_n hx hb dX2_firstUseWithoutRule_35 rfl (lv_at hl 0 rfl) ?_
            refine lv_iload_n hx hb dX2_firstUseWithoutRule_36 rfl (lv_at hl 2 rfl) ?_
            refine lv_icmp_ge (tgt := 42) hx hb dX2_firstUseWithoutRule_37 (by decide) (fun c12 => ?_) (fun c12 => ?_)
            · have hm := Eq.trans (if_pos c12).symm hm
              obtain ⟨v13, ev13⟩ : ∃ y : Int32, y = a2 + 1 := ⟨_, rfl⟩
              have hm := nm_at hm ev13
              refine lv_iinc (v := v13) (lv' := [(2, .int v13), (3, .int v3), (0, .ref (ad 0)), (1, .int a1)]) hx hb dX2_firstUseWithoutRule_42 hl (k := 3) rfl (by rw [ev13]; rfl) (by decide) rfl (fun ls hl => ?_)
              refine lv_goto (tgt := 4) hx hb dX2_firstUseWithoutRule_45 (by decide) ?_
              exact ih a1 v13 _ _ _ hm hw (lv_sub hl [2, 3, 0] rfl)
            · have hm := Eq.trans (if_neg c12).symm hm
              refine lv_iload_n hx hb dX2_firstUseWithoutRule_40 rfl (lv_at hl 0 rfl) ?_
              refine lv_istore_n (lv' := [(1, .int v3), (3, .int v3), (0, .ref (ad 0)), (2, .int a2)]) hx hb dX2_firstUseWithoutRule_41 rfl hl (by decide) rfl (fun ls hl => ?_)
              obtain ⟨v14, ev14⟩ : ∃ y : Int32, y = a2 + 1 := ⟨_, rfl⟩
              have hm := nm_at hm ev14
              refine lv_iinc (v := v14) (lv' := [(2, .int v14), (1, .int v3), (3, .int v3), (0, .ref (ad 0))]) hx hb dX2_firstUseWithoutRule_42 hl (k := 3) rfl (by rw [ev14]; rfl) (by decide) rfl (fun ls hl => ?_)
              refine lv_goto (tgt := 4) hx hb dX2_firstUseWithoutRule_45 (by decide) ?_
              exact ih v3 v14 _ _ _ hm hw (lv_sub hl [3, 1, 0] rfl)
set_option maxRecDepth 20000 in
theorem kX2_firstUseWithoutRule_b0 {p : Program} {l : Launch} {e : Env} {s : State} {m : MethodId} {args : Array Value} {below : List Frame} {meth : Method} {c : Code} {A : Nat → Prop} {E : EV} {ad : Nat → Nat} (F : Nat) {zx : OS} {r : Int32} (C0 : Cx RX2 "firstUseWithoutRule" cX2_firstUseWithoutRule (some .int) 4 wsX2_firstUseWithoutRule p s m args meth c) (hA : Ax E A s) : ∀  (H : Heap) (locs : List Loc) (ls : Array Slot), mX2_firstUseWithoutRule_b0 F zx = some r → Wd E A s H locs (wG E ad zx) → lv_has ls 4 [(0, .ref (ad 0))] → W p l e ({ frames := 2, cells := 0, slots := 0, locals := 43 } : Room) s m args below meth c H locs 0 0 (MQ below (QG E (Qd (some (.int r)) (wG E ad zx)) A) args s 0 0 A) (F0 m 0 ls []) := by
  have hx := C0.1
  have hb := C0.2.1
  intro  H locs ls hm hw hl
  unfold mX2_firstUseWithoutRule_b0 at hm
  refine lv_iconst (v := (-1)) hx hb dX2_firstUseWithoutRule_0 (by decide) ?_
  refine lv_topi (fun v1 ev1 => ?_)
  have hm := nm_at hm ev1
  refine lv_istore_n (lv' := [(1, .int v1), (0, .ref (ad 0))]) hx hb dX2_firstUseWithoutRule_1 rfl hl (by decide) rfl (fun ls hl => ?_)
  refine lv_iconst (v := 0) hx hb dX2_firstUseWithoutRule_2 (by decide) ?_
  refine lv_topi (fun v2 ev2 => ?_)
  have hm := nm_at hm ev2
  refine lv_istore_n (lv' := [(2, .int v2), (1, .int v1), (0, .ref (ad 0))]) hx hb dX2_firstUseWithoutRule_3 rfl hl (by decide) rfl (fun ls hl => ?_)
  exact kX2_firstUseWithoutRule_b4 F C0 hA F v1 v2 _ _ _ hm hw (lv_sub hl [2, 1, 0] rfl)
theorem tX2_firstUseWithoutRule (l : Launch) (E : EV) (ad : Nat → Nat) (F : Nat) (zx : OS)  {r : Int32} (hm : mX2_firstUseWithoutRule F zx = some r) : CT l yX2_firstUseWithoutRule wsX2_firstUseWithoutRule ({ frames := 2, cells := 0, slots := 0, locals := 43 } : Room) E [.ref (ad 0)] (wG E ad zx) (Qd (some (.int r)) (wG E ad zx)) 0 0 :=
  CT.of (mL := 4) (lvs := [(0, .ref (ad 0))]) (by decide +kernel) rfl (Nat.le_of_ble_eq_true rfl) rfl rfl rfl (fun p e s m below meth c A C0 hA hw ls hl => kX2_firstUseWithoutRule_b0 (ad := ad) F C0 hA  _ _ _ hm hw (lv_sub hl [0] rfl))

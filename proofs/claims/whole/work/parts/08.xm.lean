theorem lnX9_124 : Cond.fieldLinkNest RX9 124 (TX3 6).1 (TX3 6).2.1 (TX3 6).2.2.1 "GrammarTunes" ∈ nestWords := by decide +kernel
def swp (ad : Nat → Nat) : Nat → Nat := fun k => if 4 ≤ k ∧ k < 16 then ad (k + 12) else if 16 ≤ k ∧ k < 28 then ad (k - 12) else ad k
def QX (E : EV) (ad : Nat → Nat) (v : Option Value) (zt zs zg zh zu zl zc zw : OS) : Option Value → va_W → Prop := fun v' w' => v' = v ∧ ∃ (ad' : Nat → Nat) (ex : va_W), ad' 0 = ad 0 ∧ w' = wX E ad' zt zs zg zh zu zl zc zw ++ ex
def iX5 : OS := sI zOS 3 (-1)
def iX3 (n : Int32) (zt : OS) : OS := sR (sI (sI zOS 5 n) 11 (-1)) 1 (zt.2.2.1 3)
theorem lkX1_init_7 : Cond.fieldLink RX1 7 (TX1 0).1 (TX1 0).2.1 (TX1 0).2.2.1 ∈ wsX1_init := by decide +kernel
theorem hiX1_init_X1 : ∀ w ∈ u_ws RX1 TX1 1, w ∈ wsX1_init := by decide +kernel
def mX1_init_b0  (zx : OS) (a1 : Int64) : Option (OS) := nm (sL zx 0 a1) (fun zx1 => some zx1)
def mX1_init (zx : OS) (a1 : Int64) : Option (OS) := mX1_init_b0 zx a1
set_option maxRecDepth 20000 in
theorem kX1_init_b0 {p : Program} {l : Launch} {e : Env} {s : State} {m : MethodId} {args : Array Value} {below : List Frame} {meth : Method} {c : Code} {A : Nat → Prop} {E : EV} {ad : Nat → Nat}  {zx' : OS} (C0 : Cx RX1 "<init>" cX1_init (none) 3 wsX1_init p s m args meth c) (hA : Ax E A s) : ∀ (zx : OS) (a1 : Int64) (H : Heap) (locs : List Loc) (ls : Array Slot), mX1_init_b0 zx a1 = some zx' → Wd E A s H locs (wD E ad zx) → lv_has ls 3 [(0, .ref (ad 0)), (1, .long a1)] → W p l e ({ frames := 1, cells := 0, slots := 0, locals := 20 } : Room) s m args below meth c H locs 0 0 (MQ below (QG E (Qd none (wD E ad zx')) A) args s 0 0 A) (F0 m 0 ls []) := by
  have hx := C0.1
  have hb := C0.2.1
  intro zx a1 H locs ls hm hw hl
  unfold mX1_init_b0 at hm
  refine lv_aload_n hx hb dX1_init_0 rfl (lv_at hl 0 rfl) ?_
  refine r_obj C0 (idx := 1) (by decide +kernel) (by decide +kernel) (by decide +kernel) hl.1 dX1_init_1 (Nat.le_of_ble_eq_true rfl) (Nat.le_of_ble_eq_true rfl) ?_
  refine lv_aload_n hx hb dX1_init_4 rfl (lv_at hl 0 rfl) ?_
  refine lv_lload_n hx hb dX1_init_5 rfl (lv_at hl 1 rfl) ?_
  refine pD_0_0 C0 hA hw hiX1_init_X1 lkX1_init_7 dX1_init_6 (fun zx1 ezx1 H locs hw => ?_)
  have hm := nm_at hm ezx1
  obtain rfl := sj1 hm
  exact r_vret C0 hw dX1_init_9 ⟨rfl, rfl⟩
theorem tX1_init (l : Launch) (E : EV) (ad : Nat → Nat) (zx : OS) (a1 : Int64) {zx' : OS} (hm : mX1_init zx a1 = some zx') : CT l yX1_init wsX1_init ({ frames := 1, cells := 0, slots := 0, locals := 20 } : Room) E [.ref (ad 0), .long a1] (wD E ad zx) (Qd none (wD E ad zx')) 0 0 :=
  CT.of (mL := 3) (lvs := [(0, .ref (ad 0)), (1, .long a1)]) (by decide +kernel) rfl (Nat.le_of_ble_eq_true rfl) rfl rfl rfl (fun p e s m below meth c A C0 hA hw ls hl => kX1_init_b0 (ad := ad) C0 hA zx a1 _ _ _ hm hw (lv_sub hl [0, 1] rfl))
theorem lkX5_init_9 : Cond.fieldLink RX5 9 (TX5 2).1 (TX5 2).2.1 (TX5 2).2.2.1 ∈ wsX5_init := by decide +kernel
theorem lkX5_init_15 : Cond.fieldLink RX5 15 (TX5 3).1 (TX5 3).2.1 (TX5 3).2.2.1 ∈ wsX5_init := by decide +kernel
theorem lkX5_init_18 : Cond.fieldLink RX5 18 (TX5 0).1 (TX5 0).2.1 (TX5 0).2.2.1 ∈ wsX5_init := by decide +kernel
theorem lkX5_init_22 : Cond.fieldLink RX5 22 (TX5 1).1 (TX5 1).2.1 (TX5 1).2.2.1 ∈ wsX5_init := by decide +kernel
theorem hiX5_init_X5 : ∀ w ∈ u_ws RX5 TX5 4, w ∈ wsX5_init := by decide +kernel
set_option maxRecDepth 20000 in
theorem tX5_init (l : Launch) (E : EV) (h : Nat) (b0 : Nat) (b1 : Nat) : CT l yX5_init wsX5_init ({ frames := 1, cells := 0, slots := 0, locals := 20 } : Room) E [.ref h, .ref b0, .ref b1] [(h, .inr (5, [.null, .null, .int 0, .int 0]))] (Qd none [(h, .inr (5, [.ref b0, .ref b1, .int 0, .int (-1)]))]) 0 0 :=
  CT.of (mL := 3) (lvs := [(0, .ref h), (1, .ref b0), (2, .ref b1)]) (by decide +kernel) rfl (Nat.le_of_ble_eq_true rfl) rfl rfl rfl (fun p e s m below meth c A C0 hA hw ls hl => by
    have hx := C0.1
    have hb := C0.2.1
    refine lv_aload_n hx hb dX5_init_0 rfl (lv_at hl 0 rfl) ?_
    refine r_obj C0 (idx := 3) (by decide +kernel) (by decide +kernel) (by decide +kernel) hl.1 dX5_init_1 (Nat.le_of_ble_eq_true rfl) (Nat.le_of_ble_eq_true rfl) ?_
    refine lv_aload_n hx hb dX5_init_4 rfl (lv_at hl 0 rfl) ?_
    refine lv_iconst (v := 0) hx hb dX5_init_5 (by decide) ?_
    refine r_put C0 hA hw 0 rfl rfl hiX5_init_X5 tyX5 tyX5_ok nmX5 2 (by decide) lkX5_init_9 rfl rfl rfl (Nat.le_of_ble_eq_true rfl) dX5_init_6 () (fun _ => [(h, .inr (5, [.null, .null, .int 0, .int 0]))]) rfl (fun _ _ H locs hw => ?_)
    refine lv_aload_n hx hb dX5_init_9 rfl (lv_at hl 0 rfl) ?_
    refine lv_iconst (v := (-1)) hx hb dX5_init_10 (by decide) ?_
    refine r_put C0 hA hw 0 rfl rfl hiX5_init_X5 tyX5 tyX5_ok nmX5 3 (by decide) lkX5_init_15 rfl rfl rfl (Nat.le_of_ble_eq_true rfl) dX5_init_11 () (fun _ => [(h, .inr (5, [.null, .null, .int 0, .int (-1)]))]) rfl (fun _ _ H locs hw => ?_)
    refine lv_aload_n hx hb dX5_init_14 rfl (lv_at hl 0 rfl) ?_
    refine lv_aload_n hx hb dX5_init_15 rfl (lv_at hl 1 rfl) ?_
    refine r_putF C0 hA hw 0 rfl rfl hiX5_init_X5 tyX5 tyX5_ok nmX5 0 (by decide) lkX5_init_18 rfl rfl rfl rfl rfl (Nat.le_of_ble_eq_true rfl) dX5_init_16 () (fun _ => [(h, .inr (5, [.ref b0, .null, .int 0, .int (-1)]))]) rfl (fun _ _ H locs hw => ?_)
    refine lv_aload_n hx hb dX5_init_19 rfl (lv_at hl 0 rfl) ?_
    refine lv_aload_n hx hb dX5_init_20 rfl (lv_at hl 2 rfl) ?_
    refine r_putF C0 hA hw 0 rfl rfl hiX5_init_X5 tyX5 tyX5_ok nmX5 1 (by decide) lkX5_init_22 rfl rfl rfl rfl rfl (Nat.le_of_ble_eq_true rfl) dX5_init_21 () (fun _ => [(h, .inr (5, [.ref b0, .ref b1, .int 0, .int (-1)]))]) rfl (fun _ _ H locs hw => ?_)
    exact r_vret C0 hw dX5_init_24 ⟨rfl, rfl⟩)
theorem lkX3_init_9 : Cond.fieldLink RX3 9 (TX3 6).1 (TX3 6).2.1 (TX3 6).2.2.1 ∈ wsX3_init := by decide +kernel
theorem lkX3_init_15 : Cond.fieldLink RX3 15 (TX3 7).1 (TX3 7).2.1 (TX3 7).2.2.1 ∈ wsX3_init := by decide +kernel
theorem lkX3_init_18 : Cond.fieldLink RX3 18 (TX3 8).1 (TX3 8).2.1 (TX3 8).2.2.1 ∈ wsX3_init := by decide +kernel
theorem lkX3_init_21 : Cond.fieldLink RX3 21 (TX3 9).1 (TX3 9).2.1 (TX3 9).2.2.1 ∈ wsX3_init := by decide +kernel
theorem lkX3_init_24 : Cond.fieldLink RX3 24 (TX3 10).1 (TX3 10).2.1 (TX3 10).2.2.1 ∈ wsX3_init := by decide +kernel
theorem lkX3_init_27 : Cond.fieldLink RX3 27 (TX3 11).1 (TX3 11).2.1 (TX3 11).2.2.1 ∈ wsX3_init := by decide +kernel
theorem lkX3_init_30 : Cond.fieldLink RX3 30 (TX3 0).1 (TX3 0).2.1 (TX3 0).2.2.1 ∈ wsX3_init := by decide +kernel
theorem lkX3_init_34 : Cond.fieldLink RX3 34 (TX3 1).1 (TX3 1).2.1 (TX3 1).2.2.1 ∈ wsX3_init := by decide +kernel
theorem lkX3_init_38 : Cond.fieldLink RX3 38 (TX3 2).1 (TX3 2).2.1 (TX3 2).2.2.1 ∈ wsX3_init := by decide +kernel
theorem lkX3_init_42 : Cond.fieldLink RX3 42 (TX3 3).1 (TX3 3).2.1 (TX3 3).2.2.1 ∈ wsX3_init := by decide +kernel
theorem lkX3_init_46 : Cond.fieldLink RX3 46 (TX3 4).1 (TX3 4).2.1 (TX3 4).2.2.1 ∈ wsX3_init := by decide +kernel
theorem lkX3_init_50 : Cond.fieldLink RX3 50 (TX3 5).1 (TX3 5).2.1 (TX3 5).2.2.1 ∈ wsX3_init := by decide +kernel
theorem hiX3_init_X3 : ∀ w ∈ u_ws RX3 TX3 12, w ∈ wsX3_init := by decide +kernel
set_option maxRecDepth 20000 in
theorem tX3_init (l : Launch) (E : EV) (h : Nat) (b0 : Nat) (b1 : Nat) (b2 : Nat) (b3 : Nat) (b4 : Nat) (n5 : Int32) : CT l yX3_init wsX3_init ({ frames := 1, cells := 0, slots := 0, locals := 20 } : Room) E [.ref h, .ref b0, .ref b1, .ref b2, .ref b3, .ref b4, .int n5] [(h, .inr (3, [.null, .null, .null, .null, .null, .int 0, .int 0, .int 0, .int 0, .int 0, .int 0, .int 0]))] (Qd none [(h, .inr (3, [.ref b0, .ref b1, .ref b2, .ref b3, .ref b4, .int n5, .int 0, .int 0, .int 0, .int 0, .int 0, .int (-1)]))]) 0 0 :=
  CT.of (mL := 7) (lvs := [(0, .ref h), (1, .ref b0), (2, .ref b1), (3, .ref b2), (4, .ref b3), (5, .ref b4), (6, .int n5)]) (by decide +kernel) rfl (Nat.le_of_ble_eq_true rfl) rfl rfl rfl (fun p e s m below meth c A C0 hA hw ls hl => by
    have hx := C0.1
    have hb := C0.2.1
    refine lv_aload_n hx hb dX3_init_0 rfl (lv_at hl 0 rfl) ?_
    refine r_obj C0 (idx := 3) (by decide +kernel) (by decide +kernel) (by decide +kernel) hl.1 dX3_init_1 (Nat.le_of_ble_eq_true rfl) (Nat.le_of_ble_eq_true rfl) ?_
    refine lv_aload_n hx hb dX3_init_4 rfl (lv_at hl 0 rfl) ?_
    refine lv_iconst (v := 0) hx hb dX3_init_5 (by decide) ?_
    refine r_put C0 hA hw 0 rfl rfl hiX3_init_X3 tyX3 tyX3_ok nmX3 6 (by decide) lkX3_init_9 rfl rfl rfl (Nat.le_of_ble_eq_true rfl) dX3_init_6 () (fun _ => [(h, .inr (3, [.null, .null, .null, .null, .null, .int 0, .int 0, .int 0, .int 0, .int 0, .int 0, .int 0]))]) rfl (fun _ _ H locs hw => ?_)
    refine lv_aload_n hx hb dX3_init_9 rfl (lv_at hl 0 rfl) ?_
    refine lv_iconst (v := 0) hx hb dX3_init_10 (by decide) ?_
    refine r_put C0 hA hw 0 rfl rfl hiX3_init_X3 tyX3 tyX3_ok nmX3 7 (by decide) lkX3_init_15 rfl rfl rfl (Nat.le_of_ble_eq_true rfl) dX3_init_11 () (fun _ => [(h, .inr (3, [.null, .null, .null, .null, .null, .int 0, .int 0, .int 0, .int 0, .int 0, .int 0, .int 0]))]) rfl (fun _ _ H locs hw => ?_)
    refine lv_aload_n hx hb dX3_init_14 rfl (lv_at hl 0 rfl) ?_
    refine lv_iconst (v := 0) hx hb dX3_init_15 (by decide) ?_
    refine r_put C0 hA hw 0 rfl rfl hiX3_init_X3 tyX3 tyX3_ok nmX3 8 (by decide) lkX3_init_18 rfl rfl rfl (Nat.le_of_ble_eq_true rfl) dX3_init_16 () (fun _ => [(h, .inr (3, [.null, .null, .null, .null, .null, .int 0, .int 0, .int 0, .int 0, .int 0, .int 0, .int 0]))]) rfl (fun _ _ H locs hw => ?_)
    refine lv_aload_n hx hb dX3_init_19 rfl (lv_at hl 0 rfl) ?_
    refine lv_iconst (v := 0) hx hb dX3_init_20 (by decide) ?_
    refine r_put C0 hA hw 0 rfl rfl hiX3_init_X3 tyX3 tyX3_ok nmX3 9 (by decide) lkX3_init_21 rfl rfl rfl (Nat.le_of_ble_eq_true rfl) dX3_init_21 () (fun _ => [(h, .inr (3, [.null, .null, .null, .null, .null, .int 0, .int 0, .int 0, .int 0, .int 0, .int 0, .int 0]))]) rfl (fun _ _ H locs hw => ?_)
    refine lv_aload_n hx hb dX3_init_24 rfl (lv_at hl 0 rfl) ?_
    refine lv_iconst (v := 0) hx hb dX3_init_25 (by decide) ?_
    refine r_put C0 hA hw 0 rfl rfl hiX3_init_X3 tyX3 tyX3_ok nmX3 10 (by decide) lkX3_init_24 rfl rfl rfl (Nat.le_of_ble_eq_true rfl) dX3_init_26 () (fun _ => [(h, .inr (3, [.null, .null, .null, .null, .null, .int 0, .int 0, .int 0, .int 0, .int 0, .int 0, .int 0]))]) rfl (fun _ _ H locs hw => ?_)
    refine lv_aload_n hx hb dX3_init_29 rfl (lv_at hl 0 rfl) ?_
    refine lv_iconst (v := (-1)) hx hb dX3_init_30 (by decide) ?_
    refine r_put C0 hA hw 0 rfl rfl hiX3_init_X3 tyX3 tyX3_ok nmX3 11 (by decide) lkX3_init_27 rfl rfl rfl (Nat.le_of_ble_eq_true rfl) dX3_init_31 () (fun _ => [(h, .inr (3, [.null, .null, .null, .null, .null, .int 0, .int 0, .int 0, .int 0, .int 0, .int 0, .int (-1)]))]) rfl (fun _ _ H locs hw => ?_)
    refine lv_aload_n hx hb dX3_init_34 rfl (lv_at hl 0 rfl) ?_
    refine lv_aload_n hx hb dX3_init_35 rfl (lv_at hl 1 rfl) ?_
    refine r_putF C0 hA hw 0 rfl rfl hiX3_init_X3 tyX3 tyX3_ok nmX3 0 (by decide) lkX3_init_30 rfl rfl rfl rfl rfl (Nat.le_of_ble_eq_true rfl) dX3_init_36 () (fun _ => [(h, .inr (3, [.ref b0, .null, .null, .null, .null, .int 0, .int 0, .int 0, .int 0, .int 0, .int 0, .int (-1)]))]) rfl (fun _ _ H locs hw => ?_)
    refine lv_aload_n hx hb dX3_init_39 rfl (lv_at hl 0 rfl) ?_
    refine lv_aload_n hx hb dX3_init_40 rfl (lv_at hl 2 rfl) ?_
    refine r_putF C0 hA hw 0 rfl rfl hiX3_init_X3 tyX3 tyX3_ok nmX3 1 (by decide) lkX3_init_34 rfl rfl rfl rfl rfl (Nat.le_of_ble_eq_true rfl) dX3_init_41 () (fun _ => [(h, .inr (3, [.ref b0, .ref b1, .null, .null, .null, .int 0, .int 0, .int 0, .int 0, .int 0, .int 0, .int (-1)]))]) rfl (fun _ _ H locs hw => ?_)
    refine lv_aload_n hx hb dX3_init_44 rfl (lv_at hl 0 rfl) ?_
    refine lv_aload_n hx hb dX3_init_45 rfl (lv_at hl 3 rfl) ?_
    refine r_putF C0 hA hw 0 rfl rfl hiX3_init_X3 tyX3 tyX3_ok nmX3 2 (by decide) lkX3_init_38 rfl rfl rfl rfl rfl (Nat.le_of_ble_eq_true rfl) dX3_init_46 () (fun _ => [(h, .inr (3, [.ref b0, .ref b1, .ref b2, .null, .null, .int 0, .int 0, .int 0, .int 0, .int 0, .int 0, .int (-1)]))]) rfl (fun _ _ H locs hw => ?_)
    refine lv_aload_n hx hb dX3_init_49 rfl (lv_at hl 0 rfl) ?_
    refine lv_aload hx hb dX3_init_50 (lv_at hl 4 rfl) ?_
    refine r_putF C0 hA hw 0 rfl rfl hiX3_init_X3 tyX3 tyX3_ok nmX3 3 (by decide) lkX3_init_42 rfl rfl rfl rfl rfl (Nat.le_of_ble_eq_true rfl) dX3_init_52 () (fun _ => [(h, .inr (3, [.ref b0, .ref b1, .ref b2, .ref b3, .null, .int 0, .int 0, .int 0, .int 0, .int 0, .int 0, .int (-1)]))]) rfl (fun _ _ H locs hw => ?_)
    refine lv_aload_n hx hb dX3_init_55 rfl (lv_at hl 0 rfl) ?_
    refine lv_aload hx hb dX3_init_56 (lv_at hl 5 rfl) ?_
    refine r_putF C0 hA hw 0 rfl rfl hiX3_init_X3 tyX3 tyX3_ok nmX3 4 (by decide) lkX3_init_46 rfl rfl rfl rfl rfl (Nat.le_of_ble_eq_true rfl) dX3_init_58 () (fun _ => [(h, .inr (3, [.ref b0, .ref b1, .ref b2, .ref b3, .ref b4, .int 0, .int 0, .int 0, .int 0, .int 0, .int 0, .int (-1)]))]) rfl (fun _ _ H locs hw => ?_)
    refine lv_aload_n hx hb dX3_init_61 rfl (lv_at hl 0 rfl) ?_
    refine lv_iload hx hb dX3_init_62 (lv_at hl 6 rfl) ?_
    refine r_putF C0 hA hw 0 rfl rfl hiX3_init_X3 tyX3 tyX3_ok nmX3 5 (by decide) lkX3_init_50 rfl rfl rfl rfl rfl (Nat.le_of_ble_eq_true rfl) dX3_init_64 () (fun _ => [(h, .inr (3, [.ref b0, .ref b1, .ref b2, .ref b3, .ref b4, .int n5, .int 0, .int 0, .int 0, .int 0, .int 0, .int (-1)]))]) rfl (fun _ _ H locs hw => ?_)
    exact r_vret C0 hw dX3_init_67 ⟨rfl, rfl⟩)
def mX9_below_b33 (F : Nat) : Nat → OS → Int32 → Int32 → Int32 → Option Int32
  | 0, _, _, _, _ => none
  | n + 1, zd, a3, a4, a6 => (if a4 ≤ (a6 : Int32) then b2 (mX1_drawUnder F zd a3) (fun r1 z1 => some r1) else b2 (mX1_drawUnder F zd a3) (fun r1 z1 => nm (a6 + 1 : Int32) (fun v1 => mX9_below_b33 F n z1 a3 a4 v1)))
set_option maxRecDepth 20000 in
theorem kX9_below_b33 {p : Program} {l : Launch} {e : Env} {s : State} {m : MethodId} {args : Array Value} {below : List Frame} {meth : Method} {c : Code} {A : Nat → Prop} {E : EV} {ad : Nat → Nat} {q : Nat} (F : Nat) {zt zs zg zh zu zl zc zw : OS} {r : Int32} (C0 : Cx RX9 "below" cX9_below (some .int) 7 wsX9_below p s m args meth c) (hA : Ax E A s) : ∀ (n : Nat) (zd : OS) (a3 a4 a6 : Int32) (H : Heap) (locs : List Loc) (ls : Array Slot), mX9_below_b33 F n zd a3 a4 a6 = some r → Wd E A s H locs (wX E ad zt zs zg zh zu zl zc zw ++ [(q, .inr (1, [.long (zd.2.1 0)]))]) → lv_has ls 7 [(3, .int a3), (4, .int a4), (5, .ref q), (6, .int a6)] → W p l e ({ frames := 2, cells := 1, slots := 1, locals := 50 } : Room) s m args below meth c H locs 1 1 (MQ below (QG E (QX E ad (some (.int r)) zt zs zg zh zu zl zc zw) A) args s 1 1 A) (F0 m 33 ls []) := by
  have hx := C0.1
  have hb := C0.2.1
  intro n
  induction n with
  | zero =>
    intro zd a3 a4 a6 H locs ls hm
    cases hm
  | succ n ih =>
    intro zd a3 a4 a6 H locs ls hm hw hl
    unfold mX9_below_b33 at hm
    refine lv_iload hx hb dX9_below_33 (lv_at hl 3 rfl) ?_
    refine lv_iload hx hb dX9_below_35 (lv_at hl 1 rfl) ?_
    refine lv_icmp_ge (tgt := 53) hx hb dX9_below_37 (by decide) (fun c1 => ?_) (fun c1 => ?_)
    · have hm := Eq.trans (if_pos c1).symm hm
      refine lv_aload hx hb dX9_below_53 (lv_at hl 2 rfl) ?_
      refine lv_iload_n hx hb dX9_below_55 rfl (lv_at hl 0 rfl) ?_
      obtain ⟨r1, z1, h1, hm⟩ := b2_some hm
      refine r_backP (va_runV (As := [.int a3]) (rest := []) ⟨hx, hb, C0.2.2.2.1, C0.2.2.2.2.1, C0.2.2.2.2.2.1⟩ (tX1_drawUnder l E (fun _ => q) F zd a3 h1 _) (cwV 1 C0.2.2.2.2.2.1 gX9_below_X1_drawUnder rfl rfl rfl (by decide +kernel) ⟨Nat.le_of_ble_eq_true rfl, Nat.le_of_ble_eq_true rfl⟩) ⟨PG_blind, va_recv hA.2.2.1.1 hw.1 (ci := 1) (q0 := 50) rfl rfl, pg_at hA hw [50] rfl rfl⟩ rfl rfl hl.1 rfl (lv_room (Nat.le_of_ble_eq_true rfl)) dX9_below_56 ⟨Nat.le_of_ble_eq_true rfl, Nat.le_of_ble_eq_true rfl⟩) hA hw [50] [0, 1, 2, 3, 4, 5, 6, 7, 8, 9, 10, 11, 12, 13, 14, 15, 16, 17, 18, 19, 20, 21, 22, 23, 24, 25, 26, 27, 28, 29, 30, 31, 32, 33, 34, 35, 36, 37, 38, 39, 40, 41, 42, 43, 44, 45, 46, 47, 48, 49] (wr := wX E ad zt zs zg zh zu zl zc zw) rfl rfl rfl (by decide) (fun H locs hw => ?_)
      have hw : Wd E A s _ _ (wX E ad zt zs zg zh zu zl zc zw ++ [(q, .inr (1, [.long (z1.2.1 0)]))]) := hw
      obtain rfl := sj1 hm
      exact r_iret C0 hw dX9_below_59 ⟨rfl, ad, _, rfl, rfl⟩
    · have hm := Eq.trans (if_neg c1).symm hm
      refine lv_aload hx hb dX9_below_40 (lv_at hl 2 rfl) ?_
      refine lv_iload_n hx hb dX9_below_42 rfl (lv_at hl 0 rfl) ?_
      obtain ⟨r1, z1, h1, hm⟩ := b2_some hm
      refine r_backP (va_runV (As := [.int a3]) (rest := []) ⟨hx, hb, C0.2.2.2.1, C0.2.2.2.2.1, C0.2.2.2.2.2.1⟩ (tX1_drawUnder l E (fun _ => q) F zd a3 h1 _) (cwV 1 C0.2.2.2.2.2.1 gX9_below_X1_drawUnder rfl rfl rfl (by decide +kernel) ⟨Nat.le_of_ble_eq_true rfl, Nat.le_of_ble_eq_true rfl⟩) ⟨PG_blind, va_recv hA.2.2.1.1 hw.1 (ci := 1) (q0 := 50) rfl rfl, pg_at hA hw [50] rfl rfl⟩ rfl rfl hl.1 rfl (lv_room (Nat.le_of_ble_eq_true rfl)) dX9_below_43 ⟨Nat.le_of_ble_eq_true rfl, Nat.le_of_ble_eq_true rfl⟩) hA hw [50] [0, 1, 2, 3, 4, 5, 6, 7, 8, 9, 10, 11, 12, 13, 14, 15, 16, 17, 18, 19, 20, 21, 22, 23, 24, 25, 26, 27, 28, 29, 30, 31, 32, 33, 34, 35, 36, 37, 38, 39, 40, 41, 42, 43, 44, 45, 46, 47, 48, 49] (wr := wX E ad zt zs zg zh zu zl zc zw) rfl rfl rfl (by decide) (fun H locs hw => ?_)
      have hw : Wd E A s _ _ (wX E ad zt zs zg zh zu zl zc zw ++ [(q, .inr (1, [.long (z1.2.1 0)]))]) := hw
      refine lv_pop hx hb dX9_below_46 rfl ?_
      obtain ⟨v1, ev1⟩ : ∃ y : Int32, y = a6 + 1 := ⟨_, rfl⟩
      have hm := nm_at hm ev1
      refine lv_iinc (v := v1) (lv' := [(6, .int v1), (3, .int a3), (4, .int a4), (5, .ref q)]) hx hb dX9_below_47 hl (k := 3) rfl (by rw [ev1]; rfl) (by decide) rfl (fun ls hl => ?_)
      refine lv_goto (tgt := 33) hx hb dX9_below_50 (by decide) ?_
      exact ih z1 a3 a4 v1 _ _ _ hm hw (lv_sub hl [1, 2, 3, 0] rfl)
theorem hiX9_below_X1 : ∀ w ∈ u_ws RX1 TX1 1, w ∈ wsX9_below := by decide +kernel
def mX9_below (F : Nat) (a1 : Int64) (a3 : Int32) (a4 : Int32) : Option (Int32) := (if (a3 : Int32) < 1 then some (-2) else b1 (mX9_isWithin a4 0 1000) (fun r2 => (if (r2 : Int32) = 0 then some (-2) else b1 (mX1_init zOS a1) (fun zd6 => nm (0 : Int32) (fun v8 => mX9_below_b33 F F zd6 a3 a4 v8)))))
set_option maxRecDepth 100000 in
set_option maxHeartbeats 4000000 in
theorem tX9_below (l : Launch) (E : EV) (ad : Nat → Nat) (F : Nat) (zt zs zg zh zu zl zc zw : OS) (a1 : Int64) (a3 : Int32) (a4 : Int32) {r : Int32}  (hm : mX9_below F a1 a3 a4 = some r) : CT l yX9_below wsX9_below ({ frames := 2, cells := 1, slots := 1, locals := 50 } : Room) E [.ref (ad 0), .long a1, .int a3, .int a4] (wX E ad zt zs zg zh zu zl zc zw) (QX E ad (some (.int r)) zt zs zg zh zu zl zc zw) 1 1 :=
  CT.of (mL := 7) (lvs := [(0, .ref (ad 0)), (1, .long a1), (3, .int a3), (4, .int a4)]) (by decide +kernel) rfl (Nat.le_of_ble_eq_true rfl) rfl rfl rfl (fun p e s m below meth c A C0 hA hw ls hl => by
    have hx := C0.1
    have hb := C0.2.1
    unfold mX9_below at hm
    refine lv_iload_n hx hb dX9_below_0 rfl (lv_at hl 2 rfl) ?_
    refine lv_iconst (v := 1) hx hb dX9_below_1 (by decide) ?_
    refine lv_icmp_lt (tgt := 17) hx hb dX9_below_2 (by decide) (fun c1 => ?_) (fun c1 => ?_)
    · have hm := Eq.trans (if_pos c1).symm hm
      refine lv_bipush (v := (-2)) hx hb dX9_below_17 (by decide) ?_
      obtain rfl := sj1 hm
      refine W.widen (k := 1) (n := 1) (Nat.le_of_ble_eq_true rfl) (Nat.le_of_ble_eq_true rfl) ?_
      exact r_iret C0 hw dX9_below_19 ⟨rfl, ad, ([] : va_W), rfl, (List.append_nil _).symm⟩
    · have hm := Eq.trans (if_neg c1).symm hm
      refine lv_iload hx hb dX9_below_5 (lv_at hl 3 rfl) ?_
      refine lv_iconst (v := 0) hx hb dX9_below_7 (by decide) ?_
      refine lv_sipush (v := 1000) hx hb dX9_below_8 (by decide) ?_
      obtain ⟨r2, h3, hm⟩ := b1_some hm
      refine r_backZ (va_runS (As := [.int a4, .int 0, .int 1000]) (rest := []) ⟨hx, hb, C0.2.2.2.1, C0.2.2.2.2.1, C0.2.2.2.2.2.1⟩ (tX9_isWithin l E a4 0 1000 h3 _) (va_cwS 3 C0.2.2.2.2.2.1 gX9_below_X9_isWithin rfl rfl rfl (by decide +kernel) ⟨Nat.le_of_ble_eq_true rfl, Nat.le_of_ble_eq_true rfl⟩) ⟨PG_blind, pg_nil hA hw⟩ rfl rfl hl.1 rfl (lv_room (Nat.le_of_ble_eq_true rfl)) dX9_below_11 ⟨Nat.zero_le _, Nat.zero_le _⟩) hA hw (fun H locs hw => ?_)
      refine lv_if_ne (tgt := 20) hx hb dX9_below_14 (by decide) (fun c4 => ?_) (fun c4 => ?_)
      · have hm := Eq.trans (if_neg c4).symm hm
        refine r_new C0 hA hw (ci := 1) (fs := [.long 0]) hiX9_below_X1 tyX1 tyX1_ok (C := RX1) (index := 113) (by decide +kernel) (by decide +kernel) (by decide +kernel) rfl (by decide) (Nat.le_of_ble_eq_true rfl) (Nat.le_of_ble_eq_true rfl) dX9_below_20 (fun q5 H hw => ?_)
        refine W.cs (cells' := 1) (slots' := 1) rfl rfl ?_
        have hw : Wd E A s _ _ (wX E ad zt zs zg zh zu zl zc zw ++ [(q5, .inr (1, [.long 0]))]) := hw
        refine lv_dup hx hb dX9_below_23 rfl ?_
        refine lv_lload_n hx hb dX9_below_24 rfl (lv_at hl 1 rfl) ?_
        obtain ⟨zd6, h7, hm⟩ := b1_some hm
        refine r_backP (va_runI (As := [.long a1]) (rest := [.ref q5]) ⟨hx, hb, C0.2.2.2.1, C0.2.2.2.2.1, C0.2.2.2.2.2.1⟩ (tX1_init l E (fun _ => q5) zOS a1 h7 _) (cwI 1 C0.2.2.2.2.2.1 gX9_below_X1_init rfl rfl rfl (C0.2.2.2.2.2.1 (.initialized RX1) (by decide +kernel)) (C0.2.2.2.2.2.1 (.methodLink RX9 115 yX1_init) (by decide +kernel)) (C0.2.2.2.2.2.1 (.instanceMethod yX1_init) (by decide +kernel)) rfl (by decide +kernel) ⟨Nat.le_of_ble_eq_true rfl, Nat.le_of_ble_eq_true rfl⟩) ⟨PG_blind, pg_at hA hw [50] rfl rfl⟩ rfl rfl hl.1 rfl (lv_room (Nat.le_of_ble_eq_true rfl)) dX9_below_25 ⟨Nat.le_of_ble_eq_true rfl, Nat.le_of_ble_eq_true rfl⟩) hA hw [50] [0, 1, 2, 3, 4, 5, 6, 7, 8, 9, 10, 11, 12, 13, 14, 15, 16, 17, 18, 19, 20, 21, 22, 23, 24, 25, 26, 27, 28, 29, 30, 31, 32, 33, 34, 35, 36, 37, 38, 39, 40, 41, 42, 43, 44, 45, 46, 47, 48, 49] (wr := (wX E ad zt zs zg zh zu zl zc zw)) rfl rfl rfl (by decide) (fun H locs hw => ?_)
        have hw : Wd E A s _ _ (wX E ad zt zs zg zh zu zl zc zw ++ [(q5, .inr (1, [.long (zd6.2.1 0)]))]) := hw
        refine lv_astore (lv' := [(5, .ref q5), (0, .ref (ad 0)), (1, .long a1), (3, .int a3), (4, .int a4)]) hx hb dX9_below_28 hl (by decide) rfl (fun ls hl => ?_)
        refine lv_iconst (v := 0) hx hb dX9_below_30 (by decide) ?_
        refine lv_topi (fun v8 ev8 => ?_)
        have hm := nm_at hm ev8
        refine lv_istore (lv' := [(6, .int v8), (5, .ref q5), (0, .ref (ad 0)), (1, .long a1), (3, .int a3), (4, .int a4)]) hx hb dX9_below_31 hl (by decide) rfl (fun ls hl => ?_)
        exact kX9_below_b33 F C0 hA F zd6 a3 a4 v8 _ _ _ hm hw (lv_sub hl [4, 5, 1, 0] rfl)
      · have hm := Eq.trans (if_pos c4).symm hm
        refine lv_bipush (v := (-2)) hx hb dX9_below_17 (by decide) ?_
        obtain rfl := sj1 hm
        refine W.widen (k := 1) (n := 1) (Nat.le_of_ble_eq_true rfl) (Nat.le_of_ble_eq_true rfl) ?_
        exact r_iret C0 hw dX9_below_19 ⟨rfl, ad, ([] : va_W), rfl, (List.append_nil _).symm⟩)
theorem lkX9_walk_51 : Cond.fieldLink RX9 51 (TX9 7).1 (TX9 7).2.1 (TX9 7).2.2.1 ∈ wsX9_walk := by decide +kernel
theorem hiX9_walk_X9 : ∀ w ∈ u_ws RX9 TX9 9, w ∈ wsX9_walk := by decide +kernel
theorem hiX9_walk_X0 : ∀ w ∈ u_ws RX0 TX0 5, w ∈ wsX9_walk := by decide +kernel
theorem hiX9_walk_X1 : ∀ w ∈ u_ws RX1 TX1 1, w ∈ wsX9_walk := by decide +kernel
def mX9_walk (F : Nat) (zc : OS) (a1 : Int32) (a2 : Int32) (a3 : Int32) (a4 : Int64) : Option (Int32 × OS) := b1 (mX9_isWithin a1 1 3) (fun r1 => (if (r1 : Int32) = 0 then some ((-2), zc) else b1 (mX9_isWithin a3 0 200) (fun r4 => (if (r4 : Int32) = 0 then some ((-2), zc) else b1 (mX9_isWithin a2 0 ((zc.1 3) - a1)) (fun r7 => (if (r7 : Int32) = 0 then some ((-3), zc) else b1 (mX1_init zOS a4) (fun zd11 => b3 (mX0_wander F zc zd11 a1 a2 a3) (fun r13 zc14 zd15 => some (r13, zc14)))))))))
set_option maxRecDepth 100000 in
set_option maxHeartbeats 4000000 in
theorem tX9_walk (l : Launch) (E : EV) (ad : Nat → Nat) (F : Nat) (zt zs zg zh zu zl zc zw : OS) (a1 : Int32) (a2 : Int32) (a3 : Int32) (a4 : Int64) {r : Int32} {zc' : OS} (hm : mX9_walk F zc a1 a2 a3 a4 = some (r, zc')) : CT l yX9_walk wsX9_walk ({ frames := 3, cells := 1, slots := 1, locals := 77 } : Room) E [.ref (ad 0), .int a1, .int a2, .int a3, .long a4] (wX E ad zt zs zg zh zu zl zc zw) (QX E ad (some (.int r)) zt zs zg zh zu zl zc' zw) 1 1 :=
  CT.of (mL := 6) (lvs := [(0, .ref (ad 0)), (1, .int a1), (2, .int a2), (3, .int a3), (4, .long a4)]) (by decide +kernel) rfl (Nat.le_of_ble_eq_true rfl) rfl rfl rfl (fun p e s m below meth c A C0 hA hw ls hl => by
    have hx := C0.1
    have hb := C0.2.1
    unfold mX9_walk at hm
    refine lv_iload_n hx hb dX9_walk_0 rfl (lv_at hl 1 rfl) ?_
    refine lv_iconst (v := 1) hx hb dX9_walk_1 (by decide) ?_
    refine lv_iconst (v := 3) hx hb dX9_walk_2 (by decide) ?_
    obtain ⟨r1, h2, hm⟩ := b1_some hm
    refine r_backZ (va_runS (As := [.int a1, .int 1, .int 3]) (rest := []) ⟨hx, hb, C0.2.2.2.1, C0.2.2.2.2.1, C0.2.2.2.2.2.1⟩ (tX9_isWithin l E a1 1 3 h2 _) (va_cwS 3 C0.2.2.2.2.2.1 gX9_walk_X9_isWithin rfl rfl rfl (by decide +kernel) ⟨Nat.le_of_ble_eq_true rfl, Nat.le_of_ble_eq_true rfl⟩) ⟨PG_blind, pg_nil hA hw⟩ rfl rfl hl.1 rfl (lv_room (Nat.le_of_ble_eq_true rfl)) dX9_walk_3 ⟨Nat.zero_le _, Nat.zero_le _⟩) hA hw (fun H locs hw => ?_)
    refine lv_if_eq (tgt := 20) hx hb dX9_walk_6 (by decide) (fun c3 => ?_) (fun c3 => ?_)
    · have hm := Eq.trans (if_pos c3).symm hm
      refine lv_bipush (v := (-2)) hx hb dX9_walk_20 (by decide) ?_
      obtain ⟨rfl, rfl⟩ := sj2 hm
      refine W.widen (k := 1) (n := 1) (Nat.le_of_ble_eq_true rfl) (Nat.le_of_ble_eq_true rfl) ?_
      exact r_iret C0 hw dX9_walk_22 ⟨rfl, ad, ([] : va_W), rfl, (List.append_nil _).symm⟩
    · have hm := Eq.trans (if_neg c3).symm hm
      refine lv_iload_n hx hb dX9_walk_9 rfl (lv_at hl 3 rfl) ?_
      refine lv_iconst (v := 0) hx hb dX9_walk_10 (by decide) ?_
      refine lv_sipush (v := 200) hx hb dX9_walk_11 (by decide) ?_
      obtain ⟨r4, h5, hm⟩ := b1_some hm
      refine r_backZ (va_runS (As := [.int a3, .int 0, .int 200]) (rest := []) ⟨hx, hb, C0.2.2.2.1, C0.2.2.2.2.1, C0.2.2.2.2.2.1⟩ (tX9_isWithin l E a3 0 200 h5 _) (va_cwS 3 C0.2.2.2.2.2.1 gX9_walk_X9_isWithin rfl rfl rfl (by decide +kernel) ⟨Nat.le_of_ble_eq_true rfl, Nat.le_of_ble_eq_true rfl⟩) ⟨PG_blind, pg_nil hA hw⟩ rfl rfl hl.1 rfl (lv_room (Nat.le_of_ble_eq_true rfl)) dX9_walk_14 ⟨Nat.zero_le _, Nat.zero_le _⟩) hA hw (fun H locs hw => ?_)
      refine lv_if_ne (tgt := 23) hx hb dX9_walk_17 (by decide) (fun c6 => ?_) (fun c6 => ?_)
      · have hm := Eq.trans (if_neg c6).symm hm
        refine lv_iload_n hx hb dX9_walk_23 rfl (lv_at hl 2 rfl) ?_
        refine lv_iconst (v := 0) hx hb dX9_walk_24 (by decide) ?_
        refine lv_aload_n hx hb dX9_walk_25 rfl (lv_at hl 0 rfl) ?_
        refine r_get C0 hA hw 0 rfl rfl hiX9_walk_X9 7 (by decide) lkX9_walk_51 rfl dX9_walk_26 ?_
        refine r_getN C0 hA hw 44 rfl rfl hiX9_walk_X0 3 (by decide) lnX9_154 rfl dX9_walk_29 ?_
        refine lv_iload_n hx hb dX9_walk_32 rfl (lv_at hl 1 rfl) ?_
        refine lv_isub hx hb dX9_walk_33 ?_
        obtain ⟨r7, h8, hm⟩ := b1_some hm
        refine r_backZ (va_runS (As := [.int a2, .int 0, .int ((zc.1 3) - a1)]) (rest := []) ⟨hx, hb, C0.2.2.2.1, C0.2.2.2.2.1, C0.2.2.2.2.2.1⟩ (tX9_isWithin l E a2 0 ((zc.1 3) - a1) h8 _) (va_cwS 3 C0.2.2.2.2.2.1 gX9_walk_X9_isWithin rfl rfl rfl (by decide +kernel) ⟨Nat.le_of_ble_eq_true rfl, Nat.le_of_ble_eq_true rfl⟩) ⟨PG_blind, pg_nil hA hw⟩ rfl rfl hl.1 rfl (lv_room (Nat.le_of_ble_eq_true rfl)) dX9_walk_34 ⟨Nat.zero_le _, Nat.zero_le _⟩) hA hw (fun H locs hw => ?_)
        refine lv_if_ne (tgt := 43) hx hb dX9_walk_37 (by decide) (fun c9 => ?_) (fun c9 => ?_)
        · have hm := Eq.trans (if_neg c9).symm hm
          refine lv_aload_n hx hb dX9_walk_43 rfl (lv_at hl 0 rfl) ?_
          refine r_get C0 hA hw 0 rfl rfl hiX9_walk_X9 7 (by decide) lkX9_walk_51 rfl dX9_walk_44 ?_
          refine lv_iload_n hx hb dX9_walk_47 rfl (lv_at hl 1 rfl) ?_
          refine lv_iload_n hx hb dX9_walk_48 rfl (lv_at hl 2 rfl) ?_
          refine lv_iload_n hx hb dX9_walk_49 rfl (lv_at hl 3 rfl) ?_
          refine r_new C0 hA hw (ci := 1) (fs := [.long 0]) hiX9_walk_X1 tyX1 tyX1_ok (C := RX1) (index := 113) (by decide +kernel) (by decide +kernel) (by decide +kernel) rfl (by decide) (Nat.le_of_ble_eq_true rfl) (Nat.le_of_ble_eq_true rfl) dX9_walk_50 (fun q10 H hw => ?_)
          refine W.cs (cells' := 1) (slots' := 1) rfl rfl ?_
          have hw : Wd E A s _ _ (wX E ad zt zs zg zh zu zl zc zw ++ [(q10, .inr (1, [.long 0]))]) := hw
          refine lv_dup hx hb dX9_walk_53 rfl ?_
          refine lv_lload hx hb dX9_walk_54 (lv_at hl 4 rfl) ?_
          obtain ⟨zd11, h12, hm⟩ := b1_some hm
          refine r_backP (va_runI (As := [.long a4]) (rest := [.ref q10, .int a3, .int a2, .int a1, .ref (ad 44)]) ⟨hx, hb, C0.2.2.2.1, C0.2.2.2.2.1, C0.2.2.2.2.2.1⟩ (tX1_init l E (fun _ => q10) zOS a4 h12 _) (cwI 1 C0.2.2.2.2.2.1 gX9_walk_X1_init rfl rfl rfl (C0.2.2.2.2.2.1 (.initialized RX1) (by decide +kernel)) (C0.2.2.2.2.2.1 (.methodLink RX9 115 yX1_init) (by decide +kernel)) (C0.2.2.2.2.2.1 (.instanceMethod yX1_init) (by decide +kernel)) rfl (by decide +kernel) ⟨Nat.le_of_ble_eq_true rfl, Nat.le_of_ble_eq_true rfl⟩) ⟨PG_blind, pg_at hA hw [50] rfl rfl⟩ rfl rfl hl.1 rfl (lv_room (Nat.le_of_ble_eq_true rfl)) dX9_walk_56 ⟨Nat.le_of_ble_eq_true rfl, Nat.le_of_ble_eq_true rfl⟩) hA hw [50] [0, 1, 2, 3, 4, 5, 6, 7, 8, 9, 10, 11, 12, 13, 14, 15, 16, 17, 18, 19, 20, 21, 22, 23, 24, 25, 26, 27, 28, 29, 30, 31, 32, 33, 34, 35, 36, 37, 38, 39, 40, 41, 42, 43, 44, 45, 46, 47, 48, 49] (wr := (wX E ad zt zs zg zh zu zl zc zw)) rfl rfl rfl (by decide) (fun H locs hw => ?_)
          have hw : Wd E A s _ _ (wX E ad zt zs zg zh zu zl zc zw ++ [(q10, .inr (1, [.long (zd11.2.1 0)]))]) := hw
          obtain ⟨r13, zc14, zd15, h16, hm⟩ := b3_some hm
          refine r_backP (va_runV (As := [.int a1, .int a2, .int a3, .ref q10]) (rest := []) ⟨hx, hb, C0.2.2.2.1, C0.2.2.2.2.1, C0.2.2.2.2.2.1⟩ (tX0_wander l E (fun k => if k = 4 then q10 else ad (k + 44)) F zc zd11 a1 a2 a3 h16 _) (cwV 4 C0.2.2.2.2.2.1 gX9_walk_X0_wander rfl rfl rfl (by decide +kernel) ⟨Nat.le_of_ble_eq_true rfl, Nat.le_of_ble_eq_true rfl⟩) ⟨PG_blind, va_recv hA.2.2.1.1 hw.1 (ci := 0) (q0 := 44) rfl rfl, pg_at hA hw [44, 45, 46, 47, 50] rfl rfl⟩ rfl rfl hl.1 rfl (lv_room (Nat.le_of_ble_eq_true rfl)) dX9_walk_59 ⟨Nat.le_of_ble_eq_true rfl, Nat.le_of_ble_eq_true rfl⟩) hA hw [44, 45, 46, 47, 50] [0, 1, 2, 3, 4, 5, 6, 7, 8, 9, 10, 11, 12, 13, 14, 15, 16, 17, 18, 19, 20, 21, 22, 23, 24, 25, 26, 27, 28, 29, 30, 31, 32, 33, 34, 35, 36, 37, 38, 39, 40, 41, 42, 43, 48, 49] (wr := [(ad 0, .inr (9, [.ref (ad 2), .ref (ad 4), .ref (ad 16), .ref (ad 1), .ref (ad 28), .ref (ad 35), .int (zt.1 6), .ref (ad 44), .ref (ad 48)])), (ad 1, .inl (E.2.1.2.1, 7, .inl (zt.2.2.1 3))), (ad 2, .inr (6, [.ref (ad 3), .int (zs.1 1)])), (ad 3, .inl (E.2.1.1, 1200, .inl (zs.2.2.1 0))), (ad 4, .inr (2, [.ref (ad 5), .ref (ad 6), .ref (ad 7), .ref (ad 8), .ref (ad 9), .ref (ad 10), .ref (ad 11), .ref (ad 12), .ref (ad 13), .ref (ad 14), .ref (ad 15), .int (zg.1 11), .int (zg.1 12), .int (zg.1 13), .int (zg.1 14), .int (zg.1 15)])), (ad 5, .inl (E.2.1.2.1, 26, .inl (zg.2.2.1 0))), (ad 6, .inl (E.2.1.2.1, 26, .inl (zg.2.2.1 1))), (ad 7, .inl (E.2.1.2.1, 26, .inl (zg.2.2.1 2))), (ad 8, .inl (E.2.1.2.1, 26, .inl (zg.2.2.1 3))), (ad 9, .inl (E.2.1.2.1, 48, .inl (zg.2.2.1 4))), (ad 10, .inl (E.2.1.2.1, 48, .inl (zg.2.2.1 5))), (ad 11, .inl (E.2.1.2.1, 48, .inl (zg.2.2.1 6))), (ad 12, .inl (E.2.1.2.1, 240, .inl (zg.2.2.1 7))), (ad 13, .inl (E.2.1.2.1, 240, .inl (zg.2.2.1 8))), (ad 14, .inl (E.2.1.2.1, 240, .inl (zg.2.2.1 9))), (ad 15, .inl (E.2.1.2.1, 240, .inl (zg.2.2.1 10))), (ad 16, .inr (2, [.ref (ad 17), .ref (ad 18), .ref (ad 19), .ref (ad 20), .ref (ad 21), .ref (ad 22), .ref (ad 23), .ref (ad 24), .ref (ad 25), .ref (ad 26), .ref (ad 27), .int (zh.1 11), .int (zh.1 12), .int (zh.1 13), .int (zh.1 14), .int (zh.1 15)])), (ad 17, .inl (E.2.1.2.1, 26, .inl (zh.2.2.1 0))), (ad 18, .inl (E.2.1.2.1, 26, .inl (zh.2.2.1 1))), (ad 19, .inl (E.2.1.2.1, 26, .inl (zh.2.2.1 2))), (ad 20, .inl (E.2.1.2.1, 26, .inl (zh.2.2.1 3))), (ad 21, .inl (E.2.1.2.1, 48, .inl (zh.2.2.1 4))), (ad 22, .inl (E.2.1.2.1, 48, .inl (zh.2.2.1 5))), (ad 23, .inl (E.2.1.2.1, 48, .inl (zh.2.2.1 6))), (ad 24, .inl (E.2.1.2.1, 240, .inl (zh.2.2.1 7))), (ad 25, .inl (E.2.1.2.1, 240, .inl (zh.2.2.1 8))), (ad 26, .inl (E.2.1.2.1, 240, .inl (zh.2.2.1 9))), (ad 27, .inl (E.2.1.2.1, 240, .inl (zh.2.2.1 10))), (ad 28, .inr (8, [.ref (ad 29), .ref (ad 30), .ref (ad 31), .ref (ad 32), .ref (ad 33), .ref (ad 34), .int (zu.1 6)])), (ad 29, .inl (E.2.1.2.1, 256, .inl (zu.2.2.1 0))), (ad 30, .inl (E.2.1.2.1, 256, .inl (zu.2.2.1 1))), (ad 31, .inl (E.2.1.2.1, 256, .inl (zu.2.2.1 2))), (ad 32, .inl (E.2.1.2.1, 256, .inl (zu.2.2.1 3))), (ad 33, .inl (E.2.1.2.1, 256, .inl (zu.2.2.1 4))), (ad 34, .inl (E.2.1.2.1, 256, .inl (zu.2.2.1 5))), (ad 35, .inr (4, [.ref (ad 36), .ref (ad 37), .ref (ad 38), .ref (ad 39), .ref (ad 40), .ref (ad 41), .ref (ad 42), .ref (ad 43)])), (ad 36, .inl (E.2.1.2.1, 3001, .inl (zl.2.2.1 0))), (ad 37, .inl (E.2.1.2.1, 3001, .inl (zl.2.2.1 1))), (ad 38, .inl (E.2.1.2.2, 3001, .inr (.inl (zl.2.2.2 2)))), (ad 39, .inl (E.2.1.2.1, 3001, .inl (zl.2.2.1 3))), (ad 40, .inl (E.2.1.2.1, 3001, .inl (zl.2.2.1 4))), (ad 41, .inl (E.2.1.2.1, 3001, .inl (zl.2.2.1 5))), (ad 42, .inl (E.2.1.2.1, 3001, .inl (zl.2.2.1 6))), (ad 43, .inl (E.2.1.2.1, 3001, .inl (zl.2.2.1 7))), (ad 48, .inr (7, [.ref (ad 49)])), (ad 49, .inl (E.2.1.2.1, 12, .inl (zw.2.2.1 0)))]) rfl rfl rfl (by decide) (fun H locs hw => ?_)
          have hw := hw.sub (w' := (wX E ad zt zs zg zh zu zl zc14 zw ++ [(q10, .inr (1, [.long (zd15.2.1 0)]))])) [0, 1, 2, 3, 4, 5, 6, 7, 8, 9, 10, 11, 12, 13, 14, 15, 16, 17, 18, 19, 20, 21, 22, 23, 24, 25, 26, 27, 28, 29, 30, 31, 32, 33, 34, 35, 36, 37, 38, 39, 40, 41, 42, 43, 46, 47, 48, 49, 44, 45, 50] rfl rfl
          obtain ⟨rfl, rfl⟩ := sj2 hm
          exact r_iret C0 hw dX9_walk_62 ⟨rfl, ad, ([(q10, .inr (1, [.long (zd15.2.1 0)]))] : va_W), rfl, rfl⟩
        · have hm := Eq.trans (if_pos c9).symm hm
          refine lv_bipush (v := (-3)) hx hb dX9_walk_40 (by decide) ?_
          obtain ⟨rfl, rfl⟩ := sj2 hm
          refine W.widen (k := 1) (n := 1) (Nat.le_of_ble_eq_true rfl) (Nat.le_of_ble_eq_true rfl) ?_
          exact r_iret C0 hw dX9_walk_42 ⟨rfl, ad, ([] : va_W), rfl, (List.append_nil _).symm⟩
      · have hm := Eq.trans (if_pos c6).symm hm
        refine lv_bipush (v := (-2)) hx hb dX9_walk_20 (by decide) ?_
        obtain ⟨rfl, rfl⟩ := sj2 hm
        refine W.widen (k := 1) (n := 1) (Nat.le_of_ble_eq_true rfl) (Nat.le_of_ble_eq_true rfl) ?_
        exact r_iret C0 hw dX9_walk_22 ⟨rfl, ad, ([] : va_W), rfl, (List.append_nil _).symm⟩)
theorem lkX9_read_12 : Cond.fieldLink RX9 12 (TX9 0).1 (TX9 0).2.1 (TX9 0).2.2.1 ∈ wsX9_read := by decide +kernel
theorem lkX9_read_23 : Cond.fieldLink RX9 23 (TX9 2).1 (TX9 2).2.1 (TX9 2).2.2.1 ∈ wsX9_read := by decide +kernel
theorem lkX9_read_19 : Cond.fieldLink RX9 19 (TX9 1).1 (TX9 1).2.1 (TX9 1).2.2.1 ∈ wsX9_read := by decide +kernel
theorem hiX9_read_X5 : ∀ w ∈ u_ws RX5 TX5 4, w ∈ wsX9_read := by decide +kernel
theorem hiX9_read_X9 : ∀ w ∈ u_ws RX9 TX9 9, w ∈ wsX9_read := by decide +kernel
theorem hiX9_read_X2 : ∀ w ∈ u_ws RX2 TX2 16, w ∈ wsX9_read := by decide +kernel
def mX9_read (F : Nat) (zs : OS) (zg : OS) (zh : OS) : Option (Int32 × OS × OS) := b3 (mX5_readAll F iX5 zs zh) (fun r2 zr3 zh4 => (if (r2 : Int32) = (-1) then some (zh4.1 11, zh4, zg) else some ((-10) - r2, zg, zh4)))
set_option maxRecDepth 100000 in
set_option maxHeartbeats 4000000 in
theorem tX9_read (l : Launch) (E : EV) (ad : Nat → Nat) (F : Nat) (zt zs zg zh zu zl zc zw : OS)  {r : Int32} {zg' : OS} {zh' : OS} (hm : mX9_read F zs zg zh = some (r, zg', zh')) : CT l yX9_read wsX9_read ({ frames := 6, cells := 1, slots := 4, locals := 133 } : Room) E [.ref (ad 0)] (wX E ad zt zs zg zh zu zl zc zw) (QX E ad (some (.int r)) zt zs zg' zh' zu zl zc zw) 1 4 :=
  CT.of (mL := 3) (lvs := [(0, .ref (ad 0))]) (by decide +kernel) rfl (Nat.le_of_ble_eq_true rfl) rfl rfl rfl (fun p e s m below meth c A C0 hA hw ls hl => by
    have hx := C0.1
    have hb := C0.2.1
    unfold mX9_read at hm
    refine r_new C0 hA hw (ci := 5) (fs := [.null, .null, .int 0, .int 0]) hiX9_read_X5 tyX5 tyX5_ok (C := RX5) (index := 79) (by decide +kernel) (by decide +kernel) (by decide +kernel) rfl (by decide) (Nat.le_of_ble_eq_true rfl) (Nat.le_of_ble_eq_true rfl) dX9_read_0 (fun q1 H hw => ?_)
    refine W.cs (cells' := 1) (slots' := 4) rfl rfl ?_
    have hw : Wd E A s _ _ (wX E ad zt zs zg zh zu zl zc zw ++ [(q1, .inr (5, [.null, .null, .int 0, .int 0]))]) := hw
    refine lv_dup hx hb dX9_read_3 rfl ?_
    refine lv_aload_n hx hb dX9_read_4 rfl (lv_at hl 0 rfl) ?_
    refine r_get C0 hA hw 0 rfl rfl hiX9_read_X9 0 (by decide) lkX9_read_12 rfl dX9_read_5 ?_
    refine lv_aload_n hx hb dX9_read_8 rfl (lv_at hl 0 rfl) ?_
    refine r_get C0 hA hw 0 rfl rfl hiX9_read_X9 2 (by decide) lkX9_read_23 rfl dX9_read_9 ?_
    refine r_backP (va_runI (As := [.ref (ad 2), .ref (ad 16)]) (rest := [.ref q1]) ⟨hx, hb, C0.2.2.2.1, C0.2.2.2.2.1, C0.2.2.2.2.2.1⟩ (tX5_init l E q1 ((ad 2)) ((ad 16)) _) (cwI 2 C0.2.2.2.2.2.1 gX9_read_X5_init rfl rfl rfl (C0.2.2.2.2.2.1 (.initialized RX5) (by decide +kernel)) (C0.2.2.2.2.2.1 (.methodLink RX9 81 yX5_init) (by decide +kernel)) (C0.2.2.2.2.2.1 (.instanceMethod yX5_init) (by decide +kernel)) rfl (by decide +kernel) ⟨Nat.le_of_ble_eq_true rfl, Nat.le_of_ble_eq_true rfl⟩) ⟨PG_blind, pg_at hA hw [50] rfl rfl⟩ rfl rfl hl.1 rfl (lv_room (Nat.le_of_ble_eq_true rfl)) dX9_read_12 ⟨Nat.le_of_ble_eq_true rfl, Nat.le_of_ble_eq_true rfl⟩) hA hw [50] [0, 1, 2, 3, 4, 5, 6, 7, 8, 9, 10, 11, 12, 13, 14, 15, 16, 17, 18, 19, 20, 21, 22, 23, 24, 25, 26, 27, 28, 29, 30, 31, 32, 33, 34, 35, 36, 37, 38, 39, 40, 41, 42, 43, 44, 45, 46, 47, 48, 49] (wr := (wX E ad zt zs zg zh zu zl zc zw)) rfl rfl rfl (by decide) (fun H locs hw => ?_)
    have hw : Wd E A s _ _ (wX E ad zt zs zg zh zu zl zc zw ++ [(q1, .inr (5, [.ref (ad 2), .ref (ad 16), .int 0, .int (-1)]))]) := hw
    obtain ⟨r2, zr3, zh4, h5, hm⟩ := b3_some hm
    refine r_backP (va_runV (As := []) (rest := []) ⟨hx, hb, C0.2.2.2.1, C0.2.2.2.2.1, C0.2.2.2.2.2.1⟩ (tX5_readAll l E (fun k => if k = 0 then q1 else if k < 3 then ad (k + 1) else ad (k + 13)) F iX5 zs zh h5 _) (cwV 0 C0.2.2.2.2.2.1 gX9_read_X5_readAll rfl rfl rfl (by decide +kernel) ⟨Nat.le_of_ble_eq_true rfl, Nat.le_of_ble_eq_true rfl⟩) ⟨PG_blind, va_recv hA.2.2.1.1 hw.1 (ci := 5) (q0 := 50) rfl rfl, pg_at hA hw [50, 2, 3, 16, 17, 18, 19, 20, 21, 22, 23, 24, 25, 26, 27] rfl rfl⟩ rfl rfl hl.1 rfl (lv_room (Nat.le_of_ble_eq_true rfl)) dX9_read_15 ⟨Nat.le_of_ble_eq_true rfl, Nat.le_of_ble_eq_true rfl⟩) hA hw [50, 2, 3, 16, 17, 18, 19, 20, 21, 22, 23, 24, 25, 26, 27] [0, 1, 4, 5, 6, 7, 8, 9, 10, 11, 12, 13, 14, 15, 28, 29, 30, 31, 32, 33, 34, 35, 36, 37, 38, 39, 40, 41, 42, 43, 44, 45, 46, 47, 48, 49] (wr := [(ad 0, .inr (9, [.ref (ad 2), .ref (ad 4), .ref (ad 16), .ref (ad 1), .ref (ad 28), .ref (ad 35), .int (zt.1 6), .ref (ad 44), .ref (ad 48)])), (ad 1, .inl (E.2.1.2.1, 7, .inl (zt.2.2.1 3))), (ad 4, .inr (2, [.ref (ad 5), .ref (ad 6), .ref (ad 7), .ref (ad 8), .ref (ad 9), .ref (ad 10), .ref (ad 11), .ref (ad 12), .ref (ad 13), .ref (ad 14), .ref (ad 15), .int (zg.1 11), .int (zg.1 12), .int (zg.1 13), .int (zg.1 14), .int (zg.1 15)])), (ad 5, .inl (E.2.1.2.1, 26, .inl (zg.2.2.1 0))), (ad 6, .inl (E.2.1.2.1, 26, .inl (zg.2.2.1 1))), (ad 7, .inl (E.2.1.2.1, 26, .inl (zg.2.2.1 2))), (ad 8, .inl (E.2.1.2.1, 26, .inl (zg.2.2.1 3))), (ad 9, .inl (E.2.1.2.1, 48, .inl (zg.2.2.1 4))), (ad 10, .inl (E.2.1.2.1, 48, .inl (zg.2.2.1 5))), (ad 11, .inl (E.2.1.2.1, 48, .inl (zg.2.2.1 6))), (ad 12, .inl (E.2.1.2.1, 240, .inl (zg.2.2.1 7))), (ad 13, .inl (E.2.1.2.1, 240, .inl (zg.2.2.1 8))), (ad 14, .inl (E.2.1.2.1, 240, .inl (zg.2.2.1 9))), (ad 15, .inl (E.2.1.2.1, 240, .inl (zg.2.2.1 10))), (ad 28, .inr (8, [.ref (ad 29), .ref (ad 30), .ref (ad 31), .ref (ad 32), .ref (ad 33), .ref (ad 34), .int (zu.1 6)])), (ad 29, .inl (E.2.1.2.1, 256, .inl (zu.2.2.1 0))), (ad 30, .inl (E.2.1.2.1, 256, .inl (zu.2.2.1 1))), (ad 31, .inl (E.2.1.2.1, 256, .inl (zu.2.2.1 2))), (ad 32, .inl (E.2.1.2.1, 256, .inl (zu.2.2.1 3))), (ad 33, .inl (E.2.1.2.1, 256, .inl (zu.2.2.1 4))), (ad 34, .inl (E.2.1.2.1, 256, .inl (zu.2.2.1 5))), (ad 35, .inr (4, [.ref (ad 36), .ref (ad 37), .ref (ad 38), .ref (ad 39), .ref (ad 40), .ref (ad 41), .ref (ad 42), .ref (ad 43)])), (ad 36, .inl (E.2.1.2.1, 3001, .inl (zl.2.2.1 0))), (ad 37, .inl (E.2.1.2.1, 3001, .inl (zl.2.2.1 1))), (ad 38, .inl (E.2.1.2.2, 3001, .inr (.inl (zl.2.2.2 2)))), (ad 39, .inl (E.2.1.2.1, 3001, .inl (zl.2.2.1 3))), (ad 40, .inl (E.2.1.2.1, 3001, .inl (zl.2.2.1 4))), (ad 41, .inl (E.2.1.2.1, 3001, .inl (zl.2.2.1 5))), (ad 42, .inl (E.2.1.2.1, 3001, .inl (zl.2.2.1 6))), (ad 43, .inl (E.2.1.2.1, 3001, .inl (zl.2.2.1 7))), (ad 44, .inr (0, [.ref (ad 45), .ref (ad 46), .ref (ad 47), .int (zc.1 3), .int (zc.1 4)])), (ad 45, .inl (E.2.1.2.1, 300, .inl (zc.2.2.1 0))), (ad 46, .inl (E.2.1.2.1, 203, .inl (zc.2.2.1 1))), (ad 47, .inl (E.2.1.2.1, 300, .inl (zc.2.2.1 2))), (ad 48, .inr (7, [.ref (ad 49)])), (ad 49, .inl (E.2.1.2.1, 12, .inl (zw.2.2.1 0)))]) rfl rfl rfl (by decide) (fun H locs hw => ?_)
    have hw := hw.sub (w' := (wX E ad zt zs zg zh4 zu zl zc zw ++ [(q1, .inr (5, [.ref (ad 2), .ref (ad 16), .int (zr3.1 2), .int (zr3.1 3)]))])) [0, 1, 37, 38, 2, 3, 4, 5, 6, 7, 8, 9, 10, 11, 12, 13, 39, 40, 41, 42, 43, 44, 45, 46, 47, 48, 49, 50, 14, 15, 16, 17, 18, 19, 20, 21, 22, 23, 24, 25, 26, 27, 28, 29, 30, 31, 32, 33, 34, 35, 36] rfl rfl
    refine lv_istore_n (lv' := [(1, .int r2), (0, .ref (ad 0))]) hx hb dX9_read_18 rfl hl (by decide) rfl (fun ls hl => ?_)
    refine lv_iload_n hx hb dX9_read_19 rfl (lv_at hl 0 rfl) ?_
    refine lv_iconst (v := (-1)) hx hb dX9_read_20 (by decide) ?_
    refine lv_icmp_eq (tgt := 29) hx hb dX9_read_21 (by decide) (fun c6 => ?_) (fun c6 => ?_)
    · have hm := Eq.trans (if_pos c6).symm hm
      refine lv_aload_n hx hb dX9_read_29 rfl (lv_at hl 1 rfl) ?_
      refine r_get C0 hA hw 0 rfl rfl hiX9_read_X9 1 (by decide) lkX9_read_19 rfl dX9_read_30 ?_
      refine lv_astore_n (lv' := [(2, .ref (ad 4)), (1, .int r2), (0, .ref (ad 0))]) hx hb dX9_read_33 rfl hl (by decide) rfl (fun ls hl => ?_)
      refine lv_aload_n hx hb dX9_read_34 rfl (lv_at hl 2 rfl) ?_
      refine lv_aload_n hx hb dX9_read_35 rfl (lv_at hl 2 rfl) ?_
      refine r_get C0 hA hw 0 rfl rfl hiX9_read_X9 2 (by decide) lkX9_read_23 rfl dX9_read_36 ?_
      refine r_put C0 hA hw 0 rfl rfl hiX9_read_X9 tyX9 tyX9_ok nmX9 1 (by decide) lkX9_read_19 rfl rfl rfl (Nat.le_of_ble_eq_true rfl) dX9_read_39 () (fun _ => [(ad 0, .inr (9, [.ref (ad 2), .ref (ad 16), .ref (ad 16), .ref (ad 1), .ref (ad 28), .ref (ad 35), .int (zt.1 6), .ref (ad 44), .ref (ad 48)])), (ad 1, .inl (E.2.1.2.1, 7, .inl (zt.2.2.1 3))), (ad 2, .inr (6, [.ref (ad 3), .int (zs.1 1)])), (ad 3, .inl (E.2.1.1, 1200, .inl (zs.2.2.1 0))), (ad 4, .inr (2, [.ref (ad 5), .ref (ad 6), .ref (ad 7), .ref (ad 8), .ref (ad 9), .ref (ad 10), .ref (ad 11), .ref (ad 12), .ref (ad 13), .ref (ad 14), .ref (ad 15), .int (zg.1 11), .int (zg.1 12), .int (zg.1 13), .int (zg.1 14), .int (zg.1 15)])), (ad 5, .inl (E.2.1.2.1, 26, .inl (zg.2.2.1 0))), (ad 6, .inl (E.2.1.2.1, 26, .inl (zg.2.2.1 1))), (ad 7, .inl (E.2.1.2.1, 26, .inl (zg.2.2.1 2))), (ad 8, .inl (E.2.1.2.1, 26, .inl (zg.2.2.1 3))), (ad 9, .inl (E.2.1.2.1, 48, .inl (zg.2.2.1 4))), (ad 10, .inl (E.2.1.2.1, 48, .inl (zg.2.2.1 5))), (ad 11, .inl (E.2.1.2.1, 48, .inl (zg.2.2.1 6))), (ad 12, .inl (E.2.1.2.1, 240, .inl (zg.2.2.1 7))), (ad 13, .inl (E.2.1.2.1, 240, .inl (zg.2.2.1 8))), (ad 14, .inl (E.2.1.2.1, 240, .inl (zg.2.2.1 9))), (ad 15, .inl (E.2.1.2.1, 240, .inl (zg.2.2.1 10))), (ad 16, .inr (2, [.ref (ad 17), .ref (ad 18), .ref (ad 19), .ref (ad 20), .ref (ad 21), .ref (ad 22), .ref (ad 23), .ref (ad 24), .ref (ad 25), .ref (ad 26), .ref (ad 27), .int (zh4.1 11), .int (zh4.1 12), .int (zh4.1 13), .int (zh4.1 14), .int (zh4.1 15)])), (ad 17, .inl (E.2.1.2.1, 26, .inl (zh4.2.2.1 0))), (ad 18, .inl (E.2.1.2.1, 26, .inl (zh4.2.2.1 1))), (ad 19, .inl (E.2.1.2.1, 26, .inl (zh4.2.2.1 2))), (ad 20, .inl (E.2.1.2.1, 26, .inl (zh4.2.2.1 3))), (ad 21, .inl (E.2.1.2.1, 48, .inl (zh4.2.2.1 4))), (ad 22, .inl (E.2.1.2.1, 48, .inl (zh4.2.2.1 5))), (ad 23, .inl (E.2.1.2.1, 48, .inl (zh4.2.2.1 6))), (ad 24, .inl (E.2.1.2.1, 240, .inl (zh4.2.2.1 7))), (ad 25, .inl (E.2.1.2.1, 240, .inl (zh4.2.2.1 8))), (ad 26, .inl (E.2.1.2.1, 240, .inl (zh4.2.2.1 9))), (ad 27, .inl (E.2.1.2.1, 240, .inl (zh4.2.2.1 10))), (ad 28, .inr (8, [.ref (ad 29), .ref (ad 30), .ref (ad 31), .ref (ad 32), .ref (ad 33), .ref (ad 34), .int (zu.1 6)])), (ad 29, .inl (E.2.1.2.1, 256, .inl (zu.2.2.1 0))), (ad 30, .inl (E.2.1.2.1, 256, .inl (zu.2.2.1 1))), (ad 31, .inl (E.2.1.2.1, 256, .inl (zu.2.2.1 2))), (ad 32, .inl (E.2.1.2.1, 256, .inl (zu.2.2.1 3))), (ad 33, .inl (E.2.1.2.1, 256, .inl (zu.2.2.1 4))), (ad 34, .inl (E.2.1.2.1, 256, .inl (zu.2.2.1 5))), (ad 35, .inr (4, [.ref (ad 36), .ref (ad 37), .ref (ad 38), .ref (ad 39), .ref (ad 40), .ref (ad 41), .ref (ad 42), .ref (ad 43)])), (ad 36, .inl (E.2.1.2.1, 3001, .inl (zl.2.2.1 0))), (ad 37, .inl (E.2.1.2.1, 3001, .inl (zl.2.2.1 1))), (ad 38, .inl (E.2.1.2.2, 3001, .inr (.inl (zl.2.2.2 2)))), (ad 39, .inl (E.2.1.2.1, 3001, .inl (zl.2.2.1 3))), (ad 40, .inl (E.2.1.2.1, 3001, .inl (zl.2.2.1 4))), (ad 41, .inl (E.2.1.2.1, 3001, .inl (zl.2.2.1 5))), (ad 42, .inl (E.2.1.2.1, 3001, .inl (zl.2.2.1 6))), (ad 43, .inl (E.2.1.2.1, 3001, .inl (zl.2.2.1 7))), (ad 44, .inr (0, [.ref (ad 45), .ref (ad 46), .ref (ad 47), .int (zc.1 3), .int (zc.1 4)])), (ad 45, .inl (E.2.1.2.1, 300, .inl (zc.2.2.1 0))), (ad 46, .inl (E.2.1.2.1, 203, .inl (zc.2.2.1 1))), (ad 47, .inl (E.2.1.2.1, 300, .inl (zc.2.2.1 2))), (ad 48, .inr (7, [.ref (ad 49)])), (ad 49, .inl (E.2.1.2.1, 12, .inl (zw.2.2.1 0))), (q1, .inr (5, [.ref (ad 2), .ref (ad 16), .int (zr3.1 2), .int (zr3.1 3)]))]) rfl (fun _ _ H locs hw => ?_)
      refine lv_aload_n hx hb dX9_read_42 rfl (lv_at hl 2 rfl) ?_
      refine lv_aload_n hx hb dX9_read_43 rfl (lv_at hl 0 rfl) ?_
      refine r_put C0 hA hw 0 rfl rfl hiX9_read_X9 tyX9 tyX9_ok nmX9 2 (by decide) lkX9_read_23 rfl rfl rfl (Nat.le_of_ble_eq_true rfl) dX9_read_44 () (fun _ => [(ad 0, .inr (9, [.ref (ad 2), .ref (ad 16), .ref (ad 4), .ref (ad 1), .ref (ad 28), .ref (ad 35), .int (zt.1 6), .ref (ad 44), .ref (ad 48)])), (ad 1, .inl (E.2.1.2.1, 7, .inl (zt.2.2.1 3))), (ad 2, .inr (6, [.ref (ad 3), .int (zs.1 1)])), (ad 3, .inl (E.2.1.1, 1200, .inl (zs.2.2.1 0))), (ad 4, .inr (2, [.ref (ad 5), .ref (ad 6), .ref (ad 7), .ref (ad 8), .ref (ad 9), .ref (ad 10), .ref (ad 11), .ref (ad 12), .ref (ad 13), .ref (ad 14), .ref (ad 15), .int (zg.1 11), .int (zg.1 12), .int (zg.1 13), .int (zg.1 14), .int (zg.1 15)])), (ad 5, .inl (E.2.1.2.1, 26, .inl (zg.2.2.1 0))), (ad 6, .inl (E.2.1.2.1, 26, .inl (zg.2.2.1 1))), (ad 7, .inl (E.2.1.2.1, 26, .inl (zg.2.2.1 2))), (ad 8, .inl (E.2.1.2.1, 26, .inl (zg.2.2.1 3))), (ad 9, .inl (E.2.1.2.1, 48, .inl (zg.2.2.1 4))), (ad 10, .inl (E.2.1.2.1, 48, .inl (zg.2.2.1 5))), (ad 11, .inl (E.2.1.2.1, 48, .inl (zg.2.2.1 6))), (ad 12, .inl (E.2.1.2.1, 240, .inl (zg.2.2.1 7))), (ad 13, .inl (E.2.1.2.1, 240, .inl (zg.2.2.1 8))), (ad 14, .inl (E.2.1.2.1, 240, .inl (zg.2.2.1 9))), (ad 15, .inl (E.2.1.2.1, 240, .inl (zg.2.2.1 10))), (ad 16, .inr (2, [.ref (ad 17), .ref (ad 18), .ref (ad 19), .ref (ad 20), .ref (ad 21), .ref (ad 22), .ref (ad 23), .ref (ad 24), .ref (ad 25), .ref (ad 26), .ref (ad 27), .int (zh4.1 11), .int (zh4.1 12), .int (zh4.1 13), .int (zh4.1 14), .int (zh4.1 15)])), (ad 17, .inl (E.2.1.2.1, 26, .inl (zh4.2.2.1 0))), (ad 18, .inl (E.2.1.2.1, 26, .inl (zh4.2.2.1 1))), (ad 19, .inl (E.2.1.2.1, 26, .inl (zh4.2.2.1 2))), (ad 20, .inl (E.2.1.2.1, 26, .inl (zh4.2.2.1 3))), (ad 21, .inl (E.2.1.2.1, 48, .inl (zh4.2.2.1 4))), (ad 22, .inl (E.2.1.2.1, 48, .inl (zh4.2.2.1 5))), (ad 23, .inl (E.2.1.2.1, 48, .inl (zh4.2.2.1 6))), (ad 24, .inl (E.2.1.2.1, 240, .inl (zh4.2.2.1 7))), (ad 25, .inl (E.2.1.2.1, 240, .inl (zh4.2.2.1 8))), (ad 26, .inl (E.2.1.2.1, 240, .inl (zh4.2.2.1 9))), (ad 27, .inl (E.2.1.2.1, 240, .inl (zh4.2.2.1 10))), (ad 28, .inr (8, [.ref (ad 29), .ref (ad 30), .ref (ad 31), .ref (ad 32), .ref (ad 33), .ref (ad 34), .int (zu.1 6)])), (ad 29, .inl (E.2.1.2.1, 256, .inl (zu.2.2.1 0))), (ad 30, .inl (E.2.1.2.1, 256, .inl (zu.2.2.1 1))), (ad 31, .inl (E.2.1.2.1, 256, .inl (zu.2.2.1 2))), (ad 32, .inl (E.2.1.2.1, 256, .inl (zu.2.2.1 3))), (ad 33, .inl (E.2.1.2.1, 256, .inl (zu.2.2.1 4))), (ad 34, .inl (E.2.1.2.1, 256, .inl (zu.2.2.1 5))), (ad 35, .inr (4, [.ref (ad 36), .ref (ad 37), .ref (ad 38), .ref (ad 39), .ref (ad 40), .ref (ad 41), .ref (ad 42), .ref (ad 43)])), (ad 36, .inl (E.2.1.2.1, 3001, .inl (zl.2.2.1 0))), (ad 37, .inl (E.2.1.2.1, 3001, .inl (zl.2.2.1 1))), (ad 38, .inl (E.2.1.2.2, 3001, .inr (.inl (zl.2.2.2 2)))), (ad 39, .inl (E.2.1.2.1, 3001, .inl (zl.2.2.1 3))), (ad 40, .inl (E.2.1.2.1, 3001, .inl (zl.2.2.1 4))), (ad 41, .inl (E.2.1.2.1, 3001, .inl (zl.2.2.1 5))), (ad 42, .inl (E.2.1.2.1, 3001, .inl (zl.2.2.1 6))), (ad 43, .inl (E.2.1.2.1, 3001, .inl (zl.2.2.1 7))), (ad 44, .inr (0, [.ref (ad 45), .ref (ad 46), .ref (ad 47), .int (zc.1 3), .int (zc.1 4)])), (ad 45, .inl (E.2.1.2.1, 300, .inl (zc.2.2.1 0))), (ad 46, .inl (E.2.1.2.1, 203, .inl (zc.2.2.1 1))), (ad 47, .inl (E.2.1.2.1, 300, .inl (zc.2.2.1 2))), (ad 48, .inr (7, [.ref (ad 49)])), (ad 49, .inl (E.2.1.2.1, 12, .inl (zw.2.2.1 0))), (q1, .inr (5, [.ref (ad 2), .ref (ad 16), .int (zr3.1 2), .int (zr3.1 3)]))]) rfl (fun _ _ H locs hw => ?_)
      have hw := hw.sub (w' := (wX E (swp ad) zt zs zh4 zg zu zl zc zw ++ [(q1, .inr (5, [.ref (ad 2), .ref (ad 16), .int (zr3.1 2), .int (zr3.1 3)]))])) [0, 1, 2, 3, 16, 17, 18, 19, 20, 21, 22, 23, 24, 25, 26, 27, 4, 5, 6, 7, 8, 9, 10, 11, 12, 13, 14, 15, 28, 29, 30, 31, 32, 33, 34, 35, 36, 37, 38, 39, 40, 41, 42, 43, 44, 45, 46, 47, 48, 49, 50] rfl rfl
      refine lv_aload_n hx hb dX9_read_47 rfl (lv_at hl 2 rfl) ?_
      refine r_get C0 hA hw 0 rfl rfl hiX9_read_X9 1 (by decide) lkX9_read_19 rfl dX9_read_48 ?_
      refine r_getN C0 hA hw 4 rfl rfl hiX9_read_X2 11 (by decide) lnX9_88 rfl dX9_read_51 ?_
      obtain ⟨rfl, rfl, rfl⟩ := sj3 hm
      exact r_iret C0 hw dX9_read_54 ⟨rfl, (swp ad), ([(q1, .inr (5, [.ref (ad 2), .ref (ad 16), .int (zr3.1 2), .int (zr3.1 3)]))] : va_W), rfl, rfl⟩
    · have hm := Eq.trans (if_neg c6).symm hm
      refine lv_bipush (v := (-10)) hx hb dX9_read_24 (by decide) ?_
      refine lv_iload_n hx hb dX9_read_26 rfl (lv_at hl 0 rfl) ?_
      refine lv_isub hx hb dX9_read_27 ?_
      obtain ⟨rfl, rfl, rfl⟩ := sj3 hm
      exact r_iret C0 hw dX9_read_28 ⟨rfl, ad, ([(q1, .inr (5, [.ref (ad 2), .ref (ad 16), .int (zr3.1 2), .int (zr3.1 3)]))] : va_W), rfl, rfl⟩)
theorem lkX9_make_19 : Cond.fieldLink RX9 19 (TX9 1).1 (TX9 1).2.1 (TX9 1).2.2.1 ∈ wsX9_make := by decide +kernel
theorem lkX9_make_26 : Cond.fieldLink RX9 26 (TX9 3).1 (TX9 3).2.1 (TX9 3).2.2.1 ∈ wsX9_make := by decide +kernel
theorem lkX9_make_33 : Cond.fieldLink RX9 33 (TX9 4).1 (TX9 4).2.1 (TX9 4).2.2.1 ∈ wsX9_make := by decide +kernel
theorem lkX9_make_40 : Cond.fieldLink RX9 40 (TX9 5).1 (TX9 5).2.1 (TX9 5).2.2.1 ∈ wsX9_make := by decide +kernel
theorem lkX9_make_44 : Cond.fieldLink RX9 44 (TX9 6).1 (TX9 6).2.1 (TX9 6).2.2.1 ∈ wsX9_make := by decide +kernel
theorem hiX9_make_X9 : ∀ w ∈ u_ws RX9 TX9 9, w ∈ wsX9_make := by decide +kernel
theorem hiX9_make_X2 : ∀ w ∈ u_ws RX2 TX2 16, w ∈ wsX9_make := by decide +kernel
theorem hiX9_make_X3 : ∀ w ∈ u_ws RX3 TX3 12, w ∈ wsX9_make := by decide +kernel
theorem hiX9_make_X1 : ∀ w ∈ u_ws RX1 TX1 1, w ∈ wsX9_make := by decide +kernel
def mX9_make (F : Nat) (zt : OS) (zg : OS) (zu : OS) (zl : OS) (a1 : Int32) (a2 : Int64) : Option (Int32 × OS × OS × OS) := b1 (mX9_isWithin a1 1 16) (fun r1 => (if (r1 : Int32) = 0 then some ((-2), zt, zu, zl) else (if (zg.1 11 : Int32) = 0 then some ((-3), zt, zu, zl) else b1 (mX1_init zOS a2) (fun zd7 => b5 (mX3_unfold F (iX3 (a1 * 16) zt) zd7 zg zu zl) (fun r9 zk10 zd11 zu12 zl13 => nm (sI (sR zt 3 (zk10.2.2.1 1)) 6 (zk10.1 6)) (fun zt15 => (if 0 ≤ (r9 : Int32) then some (r9, zt15, zu12, zl13) else b1 (mX8_shorten zu12 0) (fun zu17 => some (r9, zt15, zu17, zl13)))))))))
set_option maxRecDepth 100000 in
set_option maxHeartbeats 4000000 in
theorem tX9_make (l : Launch) (E : EV) (ad : Nat → Nat) (F : Nat) (zt zs zg zh zu zl zc zw : OS) (a1 : Int32) (a2 : Int64) {r : Int32} {zt' : OS} {zu' : OS} {zl' : OS} (hm : mX9_make F zt zg zu zl a1 a2 = some (r, zt', zu', zl')) : CT l yX9_make wsX9_make ({ frames := 6, cells := 2, slots := 13, locals := 137 } : Room) E [.ref (ad 0), .int a1, .long a2] (wX E ad zt zs zg zh zu zl zc zw) (QX E ad (some (.int r)) zt' zs zg zh zu' zl' zc zw) 2 13 :=
  CT.of (mL := 6) (lvs := [(0, .ref (ad 0)), (1, .int a1), (2, .long a2)]) (by decide +kernel) rfl (Nat.le_of_ble_eq_true rfl) rfl rfl rfl (fun p e s m below meth c A C0 hA hw ls hl => by
    have hx := C0.1
    have hb := C0.2.1
    unfold mX9_make at hm
    refine lv_iload_n hx hb dX9_make_0 rfl (lv_at hl 1 rfl) ?_
    refine lv_iconst (v := 1) hx hb dX9_make_1 (by decide) ?_
    refine lv_bipush (v := 16) hx hb dX9_make_2 (by decide) ?_
    obtain ⟨r1, h2, hm⟩ := b1_some hm
    refine r_backZ (va_runS (As := [.int a1, .int 1, .int 16]) (rest := []) ⟨hx, hb, C0.2.2.2.1, C0.2.2.2.2.1, C0.2.2.2.2.2.1⟩ (tX9_isWithin l E a1 1 16 h2 _) (va_cwS 3 C0.2.2.2.2.2.1 gX9_make_X9_isWithin rfl rfl rfl (by decide +kernel) ⟨Nat.le_of_ble_eq_true rfl, Nat.le_of_ble_eq_true rfl⟩) ⟨PG_blind, pg_nil hA hw⟩ rfl rfl hl.1 rfl (lv_room (Nat.le_of_ble_eq_true rfl)) dX9_make_4 ⟨Nat.zero_le _, Nat.zero_le _⟩) hA hw (fun H locs hw => ?_)
    refine lv_if_ne (tgt := 13) hx hb dX9_make_7 (by decide) (fun c3 => ?_) (fun c3 => ?_)
    · have hm := Eq.trans (if_neg c3).symm hm
      refine lv_aload_n hx hb dX9_make_13 rfl (lv_at hl 0 rfl) ?_
      refine r_get C0 hA hw 0 rfl rfl hiX9_make_X9 1 (by decide) lkX9_make_19 rfl dX9_make_14 ?_
      refine r_getN C0 hA hw 4 rfl rfl hiX9_make_X2 11 (by decide) lnX9_88 rfl dX9_make_17 ?_
      refine lv_if_ne (tgt := 26) hx hb dX9_make_20 (by decide) (fun c4 => ?_) (fun c4 => ?_)
      · have hm := Eq.trans (if_neg c4).symm hm
        refine r_new C0 hA hw (ci := 3) (fs := [.null, .null, .null, .null, .null, .int 0, .int 0, .int 0, .int 0, .int 0, .int 0, .int 0]) hiX9_make_X3 tyX3 tyX3_ok (C := RX3) (index := 111) (by decide +kernel) (by decide +kernel) (by decide +kernel) rfl (by decide) (Nat.le_of_ble_eq_true rfl) (Nat.le_of_ble_eq_true rfl) dX9_make_26 (fun q5 H hw => ?_)
        refine W.cs (cells' := 1) (slots' := 12) rfl rfl ?_
        have hw : Wd E A s _ _ (wX E ad zt zs zg zh zu zl zc zw ++ [(q5, .inr (3, [.null, .null, .null, .null, .null, .int 0, .int 0, .int 0, .int 0, .int 0, .int 0, .int 0]))]) := hw
        refine lv_dup hx hb dX9_make_29 rfl ?_
        refine lv_aload_n hx hb dX9_make_30 rfl (lv_at hl 0 rfl) ?_
        refine r_get C0 hA hw 0 rfl rfl hiX9_make_X9 1 (by decide) lkX9_make_19 rfl dX9_make_31 ?_
        refine lv_aload_n hx hb dX9_make_34 rfl (lv_at hl 0 rfl) ?_
        refine r_get C0 hA hw 0 rfl rfl hiX9_make_X9 3 (by decide) lkX9_make_26 rfl dX9_make_35 ?_
        refine lv_aload_n hx hb dX9_make_38 rfl (lv_at hl 0 rfl) ?_
        refine r_get C0 hA hw 0 rfl rfl hiX9_make_X9 4 (by decide) lkX9_make_33 rfl dX9_make_39 ?_
        refine lv_aload_n hx hb dX9_make_42 rfl (lv_at hl 0 rfl) ?_
        refine r_get C0 hA hw 0 rfl rfl hiX9_make_X9 5 (by decide) lkX9_make_40 rfl dX9_make_43 ?_
        refine r_new C0 hA hw (ci := 1) (fs := [.long 0]) hiX9_make_X1 tyX1 tyX1_ok (C := RX1) (index := 113) (by decide +kernel) (by decide +kernel) (by decide +kernel) rfl (by decide) (Nat.le_of_ble_eq_true rfl) (Nat.le_of_ble_eq_true rfl) dX9_make_46 (fun q6 H hw => ?_)
        refine W.cs (cells' := 2) (slots' := 13) rfl rfl ?_
        have hw : Wd E A s _ _ (wX E ad zt zs zg zh zu zl zc zw ++ [(q5, .inr (3, [.null, .null, .null, .null, .null, .int 0, .int 0, .int 0, .int 0, .int 0, .int 0, .int 0])), (q6, .inr (1, [.long 0]))]) := hw
        refine lv_dup hx hb dX9_make_49 rfl ?_
        refine lv_lload_n hx hb dX9_make_50 rfl (lv_at hl 2 rfl) ?_
        obtain ⟨zd7, h8, hm⟩ := b1_some hm
        refine r_backP (va_runI (As := [.long a2]) (rest := [.ref q6, .ref (ad 35), .ref (ad 28), .ref (ad 1), .ref (ad 4), .ref q5, .ref q5]) ⟨hx, hb, C0.2.2.2.1, C0.2.2.2.2.1, C0.2.2.2.2.2.1⟩ (tX1_init l E (fun _ => q6) zOS a2 h8 _) (cwI 1 C0.2.2.2.2.2.1 gX9_make_X1_init rfl rfl rfl (C0.2.2.2.2.2.1 (.initialized RX1) (by decide +kernel)) (C0.2.2.2.2.2.1 (.methodLink RX9 115 yX1_init) (by decide +kernel)) (C0.2.2.2.2.2.1 (.instanceMethod yX1_init) (by decide +kernel)) rfl (by decide +kernel) ⟨Nat.le_of_ble_eq_true rfl, Nat.le_of_ble_eq_true rfl⟩) ⟨PG_blind, pg_at hA hw [51] rfl rfl⟩ rfl rfl hl.1 rfl (lv_room (Nat.le_of_ble_eq_true rfl)) dX9_make_51 ⟨Nat.le_of_ble_eq_true rfl, Nat.le_of_ble_eq_true rfl⟩) hA hw [51] [0, 1, 2, 3, 4, 5, 6, 7, 8, 9, 10, 11, 12, 13, 14, 15, 16, 17, 18, 19, 20, 21, 22, 23, 24, 25, 26, 27, 28, 29, 30, 31, 32, 33, 34, 35, 36, 37, 38, 39, 40, 41, 42, 43, 44, 45, 46, 47, 48, 49, 50] (wr := (wX E ad zt zs zg zh zu zl zc zw ++ [(q5, .inr (3, [.null, .null, .null, .null, .null, .int 0, .int 0, .int 0, .int 0, .int 0, .int 0, .int 0]))])) rfl rfl rfl (by decide) (fun H locs hw => ?_)
        have hw : Wd E A s _ _ (wX E ad zt zs zg zh zu zl zc zw ++ [(q5, .inr (3, [.null, .null, .null, .null, .null, .int 0, .int 0, .int 0, .int 0, .int 0, .int 0, .int 0])), (q6, .inr (1, [.long (zd7.2.1 0)]))]) := hw
        refine lv_iload_n hx hb dX9_make_54 rfl (lv_at hl 1 rfl) ?_
        refine lv_bipush (v := 16) hx hb dX9_make_55 (by decide) ?_
        refine lv_imul hx hb dX9_make_57 ?_
        refine r_backP (va_runI (As := [.ref (ad 4), .ref (ad 1), .ref (ad 28), .ref (ad 35), .ref q6, .int (a1 * 16)]) (rest := [.ref q5]) ⟨hx, hb, C0.2.2.2.1, C0.2.2.2.2.1, C0.2.2.2.2.2.1⟩ (tX3_init l E q5 ((ad 4)) ((ad 1)) ((ad 28)) ((ad 35)) q6 ((a1 * 16)) _) (cwI 6 C0.2.2.2.2.2.1 gX9_make_X3_init rfl rfl rfl (C0.2.2.2.2.2.1 (.initialized RX3) (by decide +kernel)) (C0.2.2.2.2.2.1 (.methodLink RX9 118 yX3_init) (by decide +kernel)) (C0.2.2.2.2.2.1 (.instanceMethod yX3_init) (by decide +kernel)) rfl (by decide +kernel) ⟨Nat.le_of_ble_eq_true rfl, Nat.le_of_ble_eq_true rfl⟩) ⟨PG_blind, pg_at hA hw [50] rfl rfl⟩ rfl rfl hl.1 rfl (lv_room (Nat.le_of_ble_eq_true rfl)) dX9_make_58 ⟨Nat.le_of_ble_eq_true rfl, Nat.le_of_ble_eq_true rfl⟩) hA hw [50] [0, 1, 2, 3, 4, 5, 6, 7, 8, 9, 10, 11, 12, 13, 14, 15, 16, 17, 18, 19, 20, 21, 22, 23, 24, 25, 26, 27, 28, 29, 30, 31, 32, 33, 34, 35, 36, 37, 38, 39, 40, 41, 42, 43, 44, 45, 46, 47, 48, 49, 51] (wr := (wX E ad zt zs zg zh zu zl zc zw ++ [(q6, .inr (1, [.long (zd7.2.1 0)]))])) rfl rfl rfl (by decide) (fun H locs hw => ?_)
        have hw := hw.sub (w' := (wX E ad zt zs zg zh zu zl zc zw ++ [(q5, .inr (3, [.ref (ad 4), .ref (ad 1), .ref (ad 28), .ref (ad 35), .ref q6, .int (a1 * 16), .int 0, .int 0, .int 0, .int 0, .int 0, .int (-1)])), (q6, .inr (1, [.long (zd7.2.1 0)]))])) [0, 1, 2, 3, 4, 5, 6, 7, 8, 9, 10, 11, 12, 13, 14, 15, 16, 17, 18, 19, 20, 21, 22, 23, 24, 25, 26, 27, 28, 29, 30, 31, 32, 33, 34, 35, 36, 37, 38, 39, 40, 41, 42, 43, 44, 45, 46, 47, 48, 49, 51, 50] rfl rfl
        refine lv_astore (lv' := [(4, .ref q5), (0, .ref (ad 0)), (1, .int a1), (2, .long a2)]) hx hb dX9_make_61 hl (by decide) rfl (fun ls hl => ?_)
        refine lv_aload hx hb dX9_make_63 (lv_at hl 0 rfl) ?_
        obtain ⟨r9, zk10, zd11, zu12, zl13, h14, hm⟩ := b5_some hm
        refine r_backP (va_runV (As := []) (rest := []) ⟨hx, hb, C0.2.2.2.1, C0.2.2.2.2.1, C0.2.2.2.2.2.1⟩ (tX3_unfold l E (fun k => if k = 0 then q5 else if k = 1 then ad 1 else if k = 2 then q6 else if k < 15 then ad (k + 1) else ad (k + 13)) F (iX3 (a1 * 16) zt) zd7 zg zu zl h14 _) (cwV 0 C0.2.2.2.2.2.1 gX9_make_X3_unfold rfl rfl rfl (by decide +kernel) ⟨Nat.le_of_ble_eq_true rfl, Nat.le_of_ble_eq_true rfl⟩) ⟨PG_blind, va_recv hA.2.2.1.1 hw.1 (ci := 3) (q0 := 50) rfl rfl, pg_at hA hw [50, 1, 51, 4, 5, 6, 7, 8, 9, 10, 11, 12, 13, 14, 15, 28, 29, 30, 31, 32, 33, 34, 35, 36, 37, 38, 39, 40, 41, 42, 43] rfl rfl⟩ rfl rfl hl.1 rfl (lv_room (Nat.le_of_ble_eq_true rfl)) dX9_make_65 ⟨Nat.le_of_ble_eq_true rfl, Nat.le_of_ble_eq_true rfl⟩) hA hw [50, 1, 51, 4, 5, 6, 7, 8, 9, 10, 11, 12, 13, 14, 15, 28, 29, 30, 31, 32, 33, 34, 35, 36, 37, 38, 39, 40, 41, 42, 43] [0, 2, 3, 16, 17, 18, 19, 20, 21, 22, 23, 24, 25, 26, 27, 44, 45, 46, 47, 48, 49] (wr := [(ad 0, .inr (9, [.ref (ad 2), .ref (ad 4), .ref (ad 16), .ref (ad 1), .ref (ad 28), .ref (ad 35), .int (zt.1 6), .ref (ad 44), .ref (ad 48)])), (ad 2, .inr (6, [.ref (ad 3), .int (zs.1 1)])), (ad 3, .inl (E.2.1.1, 1200, .inl (zs.2.2.1 0))), (ad 16, .inr (2, [.ref (ad 17), .ref (ad 18), .ref (ad 19), .ref (ad 20), .ref (ad 21), .ref (ad 22), .ref (ad 23), .ref (ad 24), .ref (ad 25), .ref (ad 26), .ref (ad 27), .int (zh.1 11), .int (zh.1 12), .int (zh.1 13), .int (zh.1 14), .int (zh.1 15)])), (ad 17, .inl (E.2.1.2.1, 26, .inl (zh.2.2.1 0))), (ad 18, .inl (E.2.1.2.1, 26, .inl (zh.2.2.1 1))), (ad 19, .inl (E.2.1.2.1, 26, .inl (zh.2.2.1 2))), (ad 20, .inl (E.2.1.2.1, 26, .inl (zh.2.2.1 3))), (ad 21, .inl (E.2.1.2.1, 48, .inl (zh.2.2.1 4))), (ad 22, .inl (E.2.1.2.1, 48, .inl (zh.2.2.1 5))), (ad 23, .inl (E.2.1.2.1, 48, .inl (zh.2.2.1 6))), (ad 24, .inl (E.2.1.2.1, 240, .inl (zh.2.2.1 7))), (ad 25, .inl (E.2.1.2.1, 240, .inl (zh.2.2.1 8))), (ad 26, .inl (E.2.1.2.1, 240, .inl (zh.2.2.1 9))), (ad 27, .inl (E.2.1.2.1, 240, .inl (zh.2.2.1 10))), (ad 44, .inr (0, [.ref (ad 45), .ref (ad 46), .ref (ad 47), .int (zc.1 3), .int (zc.1 4)])), (ad 45, .inl (E.2.1.2.1, 300, .inl (zc.2.2.1 0))), (ad 46, .inl (E.2.1.2.1, 203, .inl (zc.2.2.1 1))), (ad 47, .inl (E.2.1.2.1, 300, .inl (zc.2.2.1 2))), (ad 48, .inr (7, [.ref (ad 49)])), (ad 49, .inl (E.2.1.2.1, 12, .inl (zw.2.2.1 0)))]) rfl rfl rfl (by decide) (fun H locs hw => ?_)
        have hw := hw.sub (w' := (wX E ad (sR zt 3 (zk10.2.2.1 1)) zs zg zh zu12 zl13 zc zw ++ [(q5, .inr (3, [.ref (ad 4), .ref (ad 1), .ref (ad 28), .ref (ad 35), .ref q6, .int (zk10.1 5), .int (zk10.1 6), .int (zk10.1 7), .int (zk10.1 8), .int (zk10.1 9), .int (zk10.1 10), .int (zk10.1 11)])), (q6, .inr (1, [.long (zd11.2.1 0)]))])) [0, 22, 1, 2, 24, 25, 26, 27, 28, 29, 30, 31, 32, 33, 34, 35, 3, 4, 5, 6, 7, 8, 9, 10, 11, 12, 13, 14, 36, 37, 38, 39, 40, 41, 42, 43, 44, 45, 46, 47, 48, 49, 50, 51, 15, 16, 17, 18, 19, 20, 21, 23] rfl rfl
        refine lv_istore (lv' := [(5, .int r9), (4, .ref q5), (0, .ref (ad 0)), (1, .int a1), (2, .long a2)]) hx hb dX9_make_68 hl (by decide) rfl (fun ls hl => ?_)
        refine lv_aload_n hx hb dX9_make_70 rfl (lv_at hl 2 rfl) ?_
        refine lv_aload hx hb dX9_make_71 (lv_at hl 1 rfl) ?_
        refine r_getN C0 hA hw 50 rfl rfl hiX9_make_X3 6 (by decide) lnX9_124 rfl dX9_make_73 ?_
        refine r_put C0 hA hw 0 rfl rfl hiX9_make_X9 tyX9 tyX9_ok nmX9 6 (by decide) lkX9_make_44 rfl rfl rfl (Nat.le_of_ble_eq_true rfl) dX9_make_76 (sI (sR zt 3 (zk10.2.2.1 1)) 6 (zk10.1 6)) (fun y => (wX E ad y zs zg zh zu12 zl13 zc zw ++ [(q5, .inr (3, [.ref (ad 4), .ref (ad 1), .ref (ad 28), .ref (ad 35), .ref q6, .int (zk10.1 5), .int (zk10.1 6), .int (zk10.1 7), .int (zk10.1 8), .int (zk10.1 9), .int (zk10.1 10), .int (zk10.1 11)])), (q6, .inr (1, [.long (zd11.2.1 0)]))])) rfl (fun zt15 ezt15 H locs hw => ?_)
        have hm := nm_at hm ezt15
        refine lv_iload hx hb dX9_make_79 (lv_at hl 0 rfl) ?_
        refine lv_if_ge (tgt := 92) hx hb dX9_make_81 (by decide) (fun c16 => ?_) (fun c16 => ?_)
        · have hm := Eq.trans (if_pos c16).symm hm
          refine lv_iload hx hb dX9_make_92 (lv_at hl 0 rfl) ?_
          obtain ⟨rfl, rfl, rfl, rfl⟩ := sj4 hm
          exact r_iret C0 hw dX9_make_94 ⟨rfl, ad, ([(q5, .inr (3, [.ref (ad 4), .ref (ad 1), .ref (ad 28), .ref (ad 35), .ref q6, .int (zk10.1 5), .int (zk10.1 6), .int (zk10.1 7), .int (zk10.1 8), .int (zk10.1 9), .int (zk10.1 10), .int (zk10.1 11)])), (q6, .inr (1, [.long (zd11.2.1 0)]))] : va_W), rfl, rfl⟩
        · have hm := Eq.trans (if_neg c16).symm hm
          refine lv_aload_n hx hb dX9_make_84 rfl (lv_at hl 2 rfl) ?_
          refine r_get C0 hA hw 0 rfl rfl hiX9_make_X9 4 (by decide) lkX9_make_33 rfl dX9_make_85 ?_
          refine lv_iconst (v := 0) hx hb dX9_make_88 (by decide) ?_
          obtain ⟨zu17, h18, hm⟩ := b1_some hm
          refine r_backP (va_runV (As := [.int 0]) (rest := []) ⟨hx, hb, C0.2.2.2.1, C0.2.2.2.2.1, C0.2.2.2.2.2.1⟩ (tX8_shorten l E (fun k => ad (k + 28)) zu12 0 h18 _) (cwV 1 C0.2.2.2.2.2.1 gX9_make_X8_shorten rfl rfl rfl (by decide +kernel) ⟨Nat.le_of_ble_eq_true rfl, Nat.le_of_ble_eq_true rfl⟩) ⟨PG_blind, va_recv hA.2.2.1.1 hw.1 (ci := 8) (q0 := 28) rfl rfl, pg_at hA hw [28, 29, 30, 31, 32, 33, 34] rfl rfl⟩ rfl rfl hl.1 rfl (lv_room (Nat.le_of_ble_eq_true rfl)) dX9_make_89 ⟨Nat.le_of_ble_eq_true rfl, Nat.le_of_ble_eq_true rfl⟩) hA hw [28, 29, 30, 31, 32, 33, 34] [0, 1, 2, 3, 4, 5, 6, 7, 8, 9, 10, 11, 12, 13, 14, 15, 16, 17, 18, 19, 20, 21, 22, 23, 24, 25, 26, 27, 35, 36, 37, 38, 39, 40, 41, 42, 43, 44, 45, 46, 47, 48, 49, 50, 51] (wr := [(ad 0, .inr (9, [.ref (ad 2), .ref (ad 4), .ref (ad 16), .ref (ad 1), .ref (ad 28), .ref (ad 35), .int (zt15.1 6), .ref (ad 44), .ref (ad 48)])), (ad 1, .inl (E.2.1.2.1, 7, .inl (zt15.2.2.1 3))), (ad 2, .inr (6, [.ref (ad 3), .int (zs.1 1)])), (ad 3, .inl (E.2.1.1, 1200, .inl (zs.2.2.1 0))), (ad 4, .inr (2, [.ref (ad 5), .ref (ad 6), .ref (ad 7), .ref (ad 8), .ref (ad 9), .ref (ad 10), .ref (ad 11), .ref (ad 12), .ref (ad 13), .ref (ad 14), .ref (ad 15), .int (zg.1 11), .int (zg.1 12), .int (zg.1 13), .int (zg.1 14), .int (zg.1 15)])), (ad 5, .inl (E.2.1.2.1, 26, .inl (zg.2.2.1 0))), (ad 6, .inl (E.2.1.2.1, 26, .inl (zg.2.2.1 1))), (ad 7, .inl (E.2.1.2.1, 26, .inl (zg.2.2.1 2))), (ad 8, .inl (E.2.1.2.1, 26, .inl (zg.2.2.1 3))), (ad 9, .inl (E.2.1.2.1, 48, .inl (zg.2.2.1 4))), (ad 10, .inl (E.2.1.2.1, 48, .inl (zg.2.2.1 5))), (ad 11, .inl (E.2.1.2.1, 48, .inl (zg.2.2.1 6))), (ad 12, .inl (E.2.1.2.1, 240, .inl (zg.2.2.1 7))), (ad 13, .inl (E.2.1.2.1, 240, .inl (zg.2.2.1 8))), (ad 14, .inl (E.2.1.2.1, 240, .inl (zg.2.2.1 9))), (ad 15, .inl (E.2.1.2.1, 240, .inl (zg.2.2.1 10))), (ad 16, .inr (2, [.ref (ad 17), .ref (ad 18), .ref (ad 19), .ref (ad 20), .ref (ad 21), .ref (ad 22), .ref (ad 23), .ref (ad 24), .ref (ad 25), .ref (ad 26), .ref (ad 27), .int (zh.1 11), .int (zh.1 12), .int (zh.1 13), .int (zh.1 14), .int (zh.1 15)])), (ad 17, .inl (E.2.1.2.1, 26, .inl (zh.2.2.1 0))), (ad 18, .inl (E.2.1.2.1, 26, .inl (zh.2.2.1 1))), (ad 19, .inl (E.2.1.2.1, 26, .inl (zh.2.2.1 2))), (ad 20, .inl (E.2.1.2.1, 26, .inl (zh.2.2.1 3))), (ad 21, .inl (E.2.1.2.1, 48, .inl (zh.2.2.1 4))), (ad 22, .inl (E.2.1.2.1, 48, .inl (zh.2.2.1 5))), (ad 23, .inl (E.2.1.2.1, 48, .inl (zh.2.2.1 6))), (ad 24, .inl (E.2.1.2.1, 240, .inl (zh.2.2.1 7))), (ad 25, .inl (E.2.1.2.1, 240, .inl (zh.2.2.1 8))), (ad 26, .inl (E.2.1.2.1, 240, .inl (zh.2.2.1 9))), (ad 27, .inl (E.2.1.2.1, 240, .inl (zh.2.2.1 10))), (ad 35, .inr (4, [.ref (ad 36), .ref (ad 37), .ref (ad 38), .ref (ad 39), .ref (ad 40), .ref (ad 41), .ref (ad 42), .ref (ad 43)])), (ad 36, .inl (E.2.1.2.1, 3001, .inl (zl13.2.2.1 0))), (ad 37, .inl (E.2.1.2.1, 3001, .inl (zl13.2.2.1 1))), (ad 38, .inl (E.2.1.2.2, 3001, .inr (.inl (zl13.2.2.2 2)))), (ad 39, .inl (E.2.1.2.1, 3001, .inl (zl13.2.2.1 3))), (ad 40, .inl (E.2.1.2.1, 3001, .inl (zl13.2.2.1 4))), (ad 41, .inl (E.2.1.2.1, 3001, .inl (zl13.2.2.1 5))), (ad 42, .inl (E.2.1.2.1, 3001, .inl (zl13.2.2.1 6))), (ad 43, .inl (E.2.1.2.1, 3001, .inl (zl13.2.2.1 7))), (ad 44, .inr (0, [.ref (ad 45), .ref (ad 46), .ref (ad 47), .int (zc.1 3), .int (zc.1 4)])), (ad 45, .inl (E.2.1.2.1, 300, .inl (zc.2.2.1 0))), (ad 46, .inl (E.2.1.2.1, 203, .inl (zc.2.2.1 1))), (ad 47, .inl (E.2.1.2.1, 300, .inl (zc.2.2.1 2))), (ad 48, .inr (7, [.ref (ad 49)])), (ad 49, .inl (E.2.1.2.1, 12, .inl (zw.2.2.1 0))), (q5, .inr (3, [.ref (ad 4), .ref (ad 1), .ref (ad 28), .ref (ad 35), .ref q6, .int (zk10.1 5), .int (zk10.1 6), .int (zk10.1 7), .int (zk10.1 8), .int (zk10.1 9), .int (zk10.1 10), .int (zk10.1 11)])), (q6, .inr (1, [.long (zd11.2.1 0)]))]) rfl rfl rfl (by decide) (fun H locs hw => ?_)
          have hw := hw.sub (w' := (wX E ad zt15 zs zg zh zu17 zl13 zc zw ++ [(q5, .inr (3, [.ref (ad 4), .ref (ad 1), .ref (ad 28), .ref (ad 35), .ref q6, .int (zk10.1 5), .int (zk10.1 6), .int (zk10.1 7), .int (zk10.1 8), .int (zk10.1 9), .int (zk10.1 10), .int (zk10.1 11)])), (q6, .inr (1, [.long (zd11.2.1 0)]))])) [0, 1, 2, 3, 4, 5, 6, 7, 8, 9, 10, 11, 12, 13, 14, 15, 16, 17, 18, 19, 20, 21, 22, 23, 24, 25, 26, 27, 45, 46, 47, 48, 49, 50, 51, 28, 29, 30, 31, 32, 33, 34, 35, 36, 37, 38, 39, 40, 41, 42, 43, 44] rfl rfl
          refine lv_iload hx hb dX9_make_92 (lv_at hl 0 rfl) ?_
          obtain ⟨rfl, rfl, rfl, rfl⟩ := sj4 hm
          exact r_iret C0 hw dX9_make_94 ⟨rfl, ad, ([(q5, .inr (3, [.ref (ad 4), .ref (ad 1), .ref (ad 28), .ref (ad 35), .ref q6, .int (zk10.1 5), .int (zk10.1 6), .int (zk10.1 7), .int (zk10.1 8), .int (zk10.1 9), .int (zk10.1 10), .int (zk10.1 11)])), (q6, .inr (1, [.long (zd11.2.1 0)]))] : va_W), rfl, rfl⟩
      · have hm := Eq.trans (if_pos c4).symm hm
        refine lv_bipush (v := (-3)) hx hb dX9_make_23 (by decide) ?_
        obtain ⟨rfl, rfl, rfl, rfl⟩ := sj4 hm
        refine W.widen (k := 2) (n := 13) (Nat.le_of_ble_eq_true rfl) (Nat.le_of_ble_eq_true rfl) ?_
        exact r_iret C0 hw dX9_make_25 ⟨rfl, ad, ([] : va_W), rfl, (List.append_nil _).symm⟩
    · have hm := Eq.trans (if_pos c3).symm hm
      refine lv_bipush (v := (-2)) hx hb dX9_make_10 (by decide) ?_
      obtain ⟨rfl, rfl, rfl, rfl⟩ := sj4 hm
      refine W.widen (k := 2) (n := 13) (Nat.le_of_ble_eq_true rfl) (Nat.le_of_ble_eq_true rfl) ?_
      exact r_iret C0 hw dX9_make_12 ⟨rfl, ad, ([] : va_W), rfl, (List.append_nil _).symm⟩)

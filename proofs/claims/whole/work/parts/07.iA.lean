def zOS : OS := (fun _ => 0, fun _ => 0, fun _ _ => 0, fun _ _ => 0)
def wL (E : EV) (ad : Nat → Nat) (zx : OS) : va_W := [(ad 0, .inr (4, [.ref (ad 1), .ref (ad 2), .ref (ad 3), .ref (ad 4), .ref (ad 5), .ref (ad 6), .ref (ad 7), .ref (ad 8)])),
  (ad 1, .inl (E.2.1.2.1, 3001, .inl (zx.2.2.1 0))),
  (ad 2, .inl (E.2.1.2.1, 3001, .inl (zx.2.2.1 1))),
  (ad 3, .inl (E.2.1.2.2, 3001, .inr (.inl (zx.2.2.2 2)))),
  (ad 4, .inl (E.2.1.2.1, 3001, .inl (zx.2.2.1 3))),
  (ad 5, .inl (E.2.1.2.1, 3001, .inl (zx.2.2.1 4))),
  (ad 6, .inl (E.2.1.2.1, 3001, .inl (zx.2.2.1 5))),
  (ad 7, .inl (E.2.1.2.1, 3001, .inl (zx.2.2.1 6))),
  (ad 8, .inl (E.2.1.2.1, 3001, .inl (zx.2.2.1 7)))]
def iX0 : OS := zOS
theorem lkX0_init_9 : Cond.fieldLink RX0 9 (TX0 0).1 (TX0 0).2.1 (TX0 0).2.2.1 ∈ wsX0_init := by decide +kernel
theorem lkX0_init_15 : Cond.fieldLink RX0 15 (TX0 1).1 (TX0 1).2.1 (TX0 1).2.2.1 ∈ wsX0_init := by decide +kernel
theorem lkX0_init_18 : Cond.fieldLink RX0 18 (TX0 2).1 (TX0 2).2.1 (TX0 2).2.2.1 ∈ wsX0_init := by decide +kernel
theorem lkX0_init_21 : Cond.fieldLink RX0 21 (TX0 3).1 (TX0 3).2.1 (TX0 3).2.2.1 ∈ wsX0_init := by decide +kernel
theorem lkX0_init_25 : Cond.fieldLink RX0 25 (TX0 4).1 (TX0 4).2.1 (TX0 4).2.2.1 ∈ wsX0_init := by decide +kernel
theorem haX0_init_int : Cond.arrayClass .int ∈ wsX0_init := by decide +kernel
theorem hiX0_init_X0 : ∀ w ∈ u_ws RX0 TX0 5, w ∈ wsX0_init := by decide +kernel
set_option maxHeartbeats 4000000 in
set_option maxRecDepth 100000 in
theorem tX0_init (l : Launch) (E : EV) (h : Nat) : CT l yX0_init wsX0_init ({ frames := 1, cells := 3, slots := 803, locals := 20 } : Room) E [.ref h] [(h, .inr (0, [.null, .null, .null, .int 0, .int 0]))] (fun v w1 => v = none ∧ ∃ ad : Nat → Nat, ad 0 = h ∧ w1 = wC E ad iX0) 3 803 :=
  CT.of (mL := 1) (lvs := [(0, .ref h)]) (by decide +kernel) rfl (Nat.le_of_ble_eq_true rfl) rfl rfl rfl (fun p e s m below meth c A C0 hA hw ls hl => by
    have hx := C0.1
    have hb := C0.2.1
    refine lv_aload_n hx hb dX0_init_0 rfl (lv_at hl 0 rfl) ?_
    refine r_obj C0 (idx := 3) (by decide +kernel) (by decide +kernel) (by decide +kernel) hl.1 dX0_init_1 (Nat.le_of_ble_eq_true rfl) (Nat.le_of_ble_eq_true rfl) ?_
    refine lv_aload_n hx hb dX0_init_4 rfl (lv_at hl 0 rfl) ?_
    refine lv_sipush (v := 300) hx hb dX0_init_5 (by decide) ?_
    refine r_newI C0 hA hw haX0_init_int (N := 300) (by decide) (by decide) (by decide) (Nat.le_of_ble_eq_true rfl) (Nat.le_of_ble_eq_true rfl) dX0_init_8 (fun q1 H hw => ?_)
    refine W.cs (cells' := 1) (slots' := 300) rfl rfl ?_
    have hw : Wd E A s _ _ ([(h, .inr (0, [.null, .null, .null, .int 0, .int 0])), (q1, .inl (E.2.1.2.1, 300, .inl (fun _ => 0)))] : va_W) := hw
    refine r_putF C0 hA hw 0 rfl rfl hiX0_init_X0 tyX0 tyX0_ok nmX0 0 (by decide) lkX0_init_9 rfl rfl rfl rfl rfl (Nat.le_of_ble_eq_true rfl) dX0_init_10 () (fun _ => ([(h, .inr (0, [.ref q1, .null, .null, .int 0, .int 0])), (q1, .inl (E.2.1.2.1, 300, .inl (fun _ => 0)))] : va_W)) rfl (fun _ _ H locs hw => ?_)
    refine lv_aload_n hx hb dX0_init_13 rfl (lv_at hl 0 rfl) ?_
    refine lv_sipush (v := 203) hx hb dX0_init_14 (by decide) ?_
    refine r_newI C0 hA hw haX0_init_int (N := 203) (by decide) (by decide) (by decide) (Nat.le_of_ble_eq_true rfl) (Nat.le_of_ble_eq_true rfl) dX0_init_17 (fun q2 H hw => ?_)
    refine W.cs (cells' := 2) (slots' := 503) rfl rfl ?_
    have hw : Wd E A s _ _ ([(h, .inr (0, [.ref q1, .null, .null, .int 0, .int 0])), (q1, .inl (E.2.1.2.1, 300, .inl (fun _ => 0))), (q2, .inl (E.2.1.2.1, 203, .inl (fun _ => 0)))] : va_W) := hw
    refine r_putF C0 hA hw 0 rfl rfl hiX0_init_X0 tyX0 tyX0_ok nmX0 1 (by decide) lkX0_init_15 rfl rfl rfl rfl rfl (Nat.le_of_ble_eq_true rfl) dX0_init_19 () (fun _ => ([(h, .inr (0, [.ref q1, .ref q2, .null, .int 0, .int 0])), (q1, .inl (E.2.1.2.1, 300, .inl (fun _ => 0))), (q2, .inl (E.2.1.2.1, 203, .inl (fun _ => 0)))] : va_W)) rfl (fun _ _ H locs hw => ?_)
    refine lv_aload_n hx hb dX0_init_22 rfl (lv_at hl 0 rfl) ?_
    refine lv_sipush (v := 300) hx hb dX0_init_23 (by decide) ?_
    refine r_newI C0 hA hw haX0_init_int (N := 300) (by decide) (by decide) (by decide) (Nat.le_of_ble_eq_true rfl) (Nat.le_of_ble_eq_true rfl) dX0_init_26 (fun q3 H hw => ?_)
    refine W.cs (cells' := 3) (slots' := 803) rfl rfl ?_
    have hw : Wd E A s _ _ ([(h, .inr (0, [.ref q1, .ref q2, .null, .int 0, .int 0])), (q1, .inl (E.2.1.2.1, 300, .inl (fun _ => 0))), (q2, .inl (E.2.1.2.1, 203, .inl (fun _ => 0))), (q3, .inl (E.2.1.2.1, 300, .inl (fun _ => 0)))] : va_W) := hw
    refine r_putF C0 hA hw 0 rfl rfl hiX0_init_X0 tyX0 tyX0_ok nmX0 2 (by decide) lkX0_init_18 rfl rfl rfl rfl rfl (Nat.le_of_ble_eq_true rfl) dX0_init_28 () (fun _ => ([(h, .inr (0, [.ref q1, .ref q2, .ref q3, .int 0, .int 0])), (q1, .inl (E.2.1.2.1, 300, .inl (fun _ => 0))), (q2, .inl (E.2.1.2.1, 203, .inl (fun _ => 0))), (q3, .inl (E.2.1.2.1, 300, .inl (fun _ => 0)))] : va_W)) rfl (fun _ _ H locs hw => ?_)
    refine lv_aload_n hx hb dX0_init_31 rfl (lv_at hl 0 rfl) ?_
    refine lv_iconst (v := 0) hx hb dX0_init_32 (by decide) ?_
    refine r_put C0 hA hw 0 rfl rfl hiX0_init_X0 tyX0 tyX0_ok nmX0 3 (by decide) lkX0_init_21 rfl rfl rfl (Nat.le_of_ble_eq_true rfl) dX0_init_33 () (fun _ => ([(h, .inr (0, [.ref q1, .ref q2, .ref q3, .int 0, .int 0])), (q1, .inl (E.2.1.2.1, 300, .inl (fun _ => 0))), (q2, .inl (E.2.1.2.1, 203, .inl (fun _ => 0))), (q3, .inl (E.2.1.2.1, 300, .inl (fun _ => 0)))] : va_W)) rfl (fun _ _ H locs hw => ?_)
    refine lv_aload_n hx hb dX0_init_36 rfl (lv_at hl 0 rfl) ?_
    refine lv_iconst (v := 0) hx hb dX0_init_37 (by decide) ?_
    refine r_put C0 hA hw 0 rfl rfl hiX0_init_X0 tyX0 tyX0_ok nmX0 4 (by decide) lkX0_init_25 rfl rfl rfl (Nat.le_of_ble_eq_true rfl) dX0_init_38 () (fun _ => ([(h, .inr (0, [.ref q1, .ref q2, .ref q3, .int 0, .int 0])), (q1, .inl (E.2.1.2.1, 300, .inl (fun _ => 0))), (q2, .inl (E.2.1.2.1, 203, .inl (fun _ => 0))), (q3, .inl (E.2.1.2.1, 300, .inl (fun _ => 0)))] : va_W)) rfl (fun _ _ H locs hw => ?_)
    have hw := hw.sub (w' := wC E (fun k => ([h, q1, q2, q3] : List Nat).getD k 0) iX0) [0, 1, 2, 3] rfl rfl
    exact r_vret C0 hw dX0_init_41 ⟨rfl, (fun k => ([h, q1, q2, q3] : List Nat).getD k 0), rfl, rfl⟩)
def iX2 : OS := zOS
theorem lkX2_init_9 : Cond.fieldLink RX2 9 (TX2 0).1 (TX2 0).2.1 (TX2 0).2.2.1 ∈ wsX2_init := by decide +kernel
theorem lkX2_init_15 : Cond.fieldLink RX2 15 (TX2 1).1 (TX2 1).2.1 (TX2 1).2.2.1 ∈ wsX2_init := by decide +kernel
theorem lkX2_init_18 : Cond.fieldLink RX2 18 (TX2 2).1 (TX2 2).2.1 (TX2 2).2.2.1 ∈ wsX2_init := by decide +kernel
theorem lkX2_init_21 : Cond.fieldLink RX2 21 (TX2 3).1 (TX2 3).2.1 (TX2 3).2.2.1 ∈ wsX2_init := by decide +kernel
theorem lkX2_init_24 : Cond.fieldLink RX2 24 (TX2 4).1 (TX2 4).2.1 (TX2 4).2.2.1 ∈ wsX2_init := by decide +kernel
theorem lkX2_init_27 : Cond.fieldLink RX2 27 (TX2 5).1 (TX2 5).2.1 (TX2 5).2.2.1 ∈ wsX2_init := by decide +kernel
theorem lkX2_init_30 : Cond.fieldLink RX2 30 (TX2 6).1 (TX2 6).2.1 (TX2 6).2.2.1 ∈ wsX2_init := by decide +kernel
theorem lkX2_init_33 : Cond.fieldLink RX2 33 (TX2 7).1 (TX2 7).2.1 (TX2 7).2.2.1 ∈ wsX2_init := by decide +kernel
theorem lkX2_init_36 : Cond.fieldLink RX2 36 (TX2 8).1 (TX2 8).2.1 (TX2 8).2.2.1 ∈ wsX2_init := by decide +kernel
theorem lkX2_init_39 : Cond.fieldLink RX2 39 (TX2 9).1 (TX2 9).2.1 (TX2 9).2.2.1 ∈ wsX2_init := by decide +kernel
theorem lkX2_init_42 : Cond.fieldLink RX2 42 (TX2 10).1 (TX2 10).2.1 (TX2 10).2.2.1 ∈ wsX2_init := by decide +kernel
theorem lkX2_init_45 : Cond.fieldLink RX2 45 (TX2 11).1 (TX2 11).2.1 (TX2 11).2.2.1 ∈ wsX2_init := by decide +kernel
theorem lkX2_init_49 : Cond.fieldLink RX2 49 (TX2 12).1 (TX2 12).2.1 (TX2 12).2.2.1 ∈ wsX2_init := by decide +kernel
theorem lkX2_init_52 : Cond.fieldLink RX2 52 (TX2 13).1 (TX2 13).2.1 (TX2 13).2.2.1 ∈ wsX2_init := by decide +kernel
theorem lkX2_init_55 : Cond.fieldLink RX2 55 (TX2 14).1 (TX2 14).2.1 (TX2 14).2.2.1 ∈ wsX2_init := by decide +kernel
theorem lkX2_init_58 : Cond.fieldLink RX2 58 (TX2 15).1 (TX2 15).2.1 (TX2 15).2.2.1 ∈ wsX2_init := by decide +kernel
theorem haX2_init_int : Cond.arrayClass .int ∈ wsX2_init := by decide +kernel
theorem hiX2_init_X2 : ∀ w ∈ u_ws RX2 TX2 16, w ∈ wsX2_init := by decide +kernel
set_option maxHeartbeats 4000000 in
set_option maxRecDepth 100000 in
theorem tX2_init (l : Launch) (E : EV) (h : Nat) : CT l yX2_init wsX2_init ({ frames := 1, cells := 11, slots := 1208, locals := 20 } : Room) E [.ref h] [(h, .inr (2, [.null, .null, .null, .null, .null, .null, .null, .null, .null, .null, .null, .int 0, .int 0, .int 0, .int 0, .int 0]))] (fun v w1 => v = none ∧ ∃ ad : Nat → Nat, ad 0 = h ∧ w1 = wG E ad iX2) 11 1208 :=
  CT.of (mL := 1) (lvs := [(0, .ref h)]) (by decide +kernel) rfl (Nat.le_of_ble_eq_true rfl) rfl rfl rfl (fun p e s m below meth c A C0 hA hw ls hl => by
    have hx := C0.1
    have hb := C0.2.1
    refine lv_aload_n hx hb dX2_init_0 rfl (lv_at hl 0 rfl) ?_
    refine r_obj C0 (idx := 3) (by decide +kernel) (by decide +kernel) (by decide +kernel) hl.1 dX2_init_1 (Nat.le_of_ble_eq_true rfl) (Nat.le_of_ble_eq_true rfl) ?_
    refine lv_aload_n hx hb dX2_init_4 rfl (lv_at hl 0 rfl) ?_
    refine lv_bipush (v := 26) hx hb dX2_init_5 (by decide) ?_
    refine r_newI C0 hA hw haX2_init_int (N := 26) (by decide) (by decide) (by decide) (Nat.le_of_ble_eq_true rfl) (Nat.le_of_ble_eq_true rfl) dX2_init_7 (fun q1 H hw => ?_)
    refine W.cs (cells' := 1) (slots' := 26) rfl rfl ?_
    have hw : Wd E A s _ _ ([(h, .inr (2, [.null, .null, .null, .null, .null, .null, .null, .null, .null, .null, .null, .int 0, .int 0, .int 0, .int 0, .int 0])), (q1, .inl (E.2.1.2.1, 26, .inl (fun _ => 0)))] : va_W) := hw
    refine r_putF C0 hA hw 0 rfl rfl hiX2_init_X2 tyX2 tyX2_ok nmX2 0 (by decide) lkX2_init_9 rfl rfl rfl rfl rfl (Nat.le_of_ble_eq_true rfl) dX2_init_9 () (fun _ => ([(h, .inr (2, [.ref q1, .null, .null, .null, .null, .null, .null, .null, .null, .null, .null, .int 0, .int 0, .int 0, .int 0, .int 0])), (q1, .inl (E.2.1.2.1, 26, .inl (fun _ => 0)))] : va_W)) rfl (fun _ _ H locs hw => ?_)
    refine lv_aload_n hx hb dX2_init_12 rfl (lv_at hl 0 rfl) ?_
    refine lv_bipush (v := 26) hx hb dX2_init_13 (by decide) ?_
    refine r_newI C0 hA hw haX2_init_int (N := 26) (by decide) (by decide) (by decide) (Nat.le_of_ble_eq_true rfl) (Nat.le_of_ble_eq_true rfl) dX2_init_15 (fun q2 H hw => ?_)
    refine W.cs (cells' := 2) (slots' := 52) rfl rfl ?_
    have hw : Wd E A s _ _ ([(h, .inr (2, [.ref q1, .null, .null, .null, .null, .null, .null, .null, .null, .null, .null, .int 0, .int 0, .int 0, .int 0, .int 0])), (q1, .inl (E.2.1.2.1, 26, .inl (fun _ => 0))), (q2, .inl (E.2.1.2.1, 26, .inl (fun _ => 0)))] : va_W) := hw
    refine r_putF C0 hA hw 0 rfl rfl hiX2_init_X2 tyX2 tyX2_ok nmX2 1 (by decide) lkX2_init_15 rfl rfl rfl rfl rfl (Nat.le_of_ble_eq_true rfl) dX2_init_17 () (fun _ => ([(h, .inr (2, [.ref q1, .ref q2, .null, .null, .null, .null, .null, .null, .null, .null, .null, .int 0, .int 0, .int 0, .int 0, .int 0])), (q1, .inl (E.2.1.2.1, 26, .inl (fun _ => 0))), (q2, .inl (E.2.1.2.1, 26, .inl (fun _ => 0)))] : va_W)) rfl (fun _ _ H locs hw => ?_)
    refine lv_aload_n hx hb dX2_init_20 rfl (lv_at hl 0 rfl) ?_
    refine lv_bipush (v := 26) hx hb dX2_init_21 (by decide) ?_
    refine r_newI C0 hA hw haX2_init_int (N := 26) (by decide) (by decide) (by decide) (Nat.le_of_ble_eq_true rfl) (Nat.le_of_ble_eq_true rfl) dX2_init_23 (fun q3 H hw => ?_)
    refine W.cs (cells' := 3) (slots' := 78) rfl rfl ?_
    have hw : Wd E A s _ _ ([(h, .inr (2, [.ref q1, .ref q2, .null, .null, .null, .null, .null, .null, .null, .null, .null, .int 0, .int 0, .int 0, .int 0, .int 0])), (q1, .inl (E.2.1.2.1, 26, .inl (fun _ => 0))), (q2, .inl (E.2.1.2.1, 26, .inl (fun _ => 0))), (q3, .inl (E.2.1.2.1, 26, .inl (fun _ => 0)))] : va_W) := hw
    refine r_putF C0 hA hw 0 rfl rfl hiX2_init_X2 tyX2 tyX2_ok nmX2 2 (by decide) lkX2_init_18 rfl rfl rfl rfl rfl (Nat.le_of_ble_eq_true rfl) dX2_init_25 () (fun _ => ([(h, .inr (2, [.ref q1, .ref q2, .ref q3, .null, .null, .null, .null, .null, .null, .null, .null, .int 0, .int 0, .int 0, .int 0, .int 0])), (q1, .inl (E.2.1.2.1, 26, .inl (fun _ => 0))), (q2, .inl (E.2.1.2.1, 26, .inl (fun _ => 0))), (q3, .inl (E.2.1.2.1, 26, .inl (fun _ => 0)))] : va_W)) rfl (fun _ _ H locs hw => ?_)
    refine lv_aload_n hx hb dX2_init_28 rfl (lv_at hl 0 rfl) ?_
    refine lv_bipush (v := 26) hx hb dX2_init_29 (by decide) ?_
    refine r_newI C0 hA hw haX2_init_int (N := 26) (by decide) (by decide) (by decide) (Nat.le_of_ble_eq_true rfl) (Nat.le_of_ble_eq_true rfl) dX2_init_31 (fun q4 H hw => ?_)
    refine W.cs (cells' := 4) (slots' := 104) rfl rfl ?_
    have hw : Wd E A s _ _ ([(h, .inr (2, [.ref q1, .ref q2, .ref q3, .null, .null, .null, .null, .null, .null, .null, .null, .int 0, .int 0, .int 0, .int 0, .int 0])), (q1, .inl (E.2.1.2.1, 26, .inl (fun _ => 0))), (q2, .inl (E.2.1.2.1, 26, .inl (fun _ => 0))), (q3, .inl (E.2.1.2.1, 26, .inl (fun _ => 0))), (q4, .inl (E.2.1.2.1, 26, .inl (fun _ => 0)))] : va_W) := hw
    refine r_putF C0 hA hw 0 rfl rfl hiX2_init_X2 tyX2 tyX2_ok nmX2 3 (by decide) lkX2_init_21 rfl rfl rfl rfl rfl (Nat.le_of_ble_eq_true rfl) dX2_init_33 () (fun _ => ([(h, .inr (2, [.ref q1, .ref q2, .ref q3, .ref q4, .null, .null, .null, .null, .null, .null, .null, .int 0, .int 0, .int 0, .int 0, .int 0])), (q1, .inl (E.2.1.2.1, 26, .inl (fun _ => 0))), (q2, .inl (E.2.1.2.1, 26, .inl (fun _ => 0))), (q3, .inl (E.2.1.2.1, 26, .inl (fun _ => 0))), (q4, .inl (E.2.1.2.1, 26, .inl (fun _ => 0)))] : va_W)) rfl (fun _ _ H locs hw => ?_)
    refine lv_aload_n hx hb dX2_init_36 rfl (lv_at hl 0 rfl) ?_
    refine lv_bipush (v := 48) hx hb dX2_init_37 (by decide) ?_
    refine r_newI C0 hA hw haX2_init_int (N := 48) (by decide) (by decide) (by decide) (Nat.le_of_ble_eq_true rfl) (Nat.le_of_ble_eq_true rfl) dX2_init_39 (fun q5 H hw => ?_)
    refine W.cs (cells' := 5) (slots' := 152) rfl rfl ?_
    have hw : Wd E A s _ _ ([(h, .inr (2, [.ref q1, .ref q2, .ref q3, .ref q4, .null, .null, .null, .null, .null, .null, .null, .int 0, .int 0, .int 0, .int 0, .int 0])), (q1, .inl (E.2.1.2.1, 26, .inl (fun _ => 0))), (q2, .inl (E.2.1.2.1, 26, .inl (fun _ => 0))), (q3, .inl (E.2.1.2.1, 26, .inl (fun _ => 0))), (q4, .inl (E.2.1.2.1, 26, .inl (fun _ => 0))), (q5, .inl (E.2.1.2.1, 48, .inl (fun _ => 0)))] : va_W) := hw
    refine r_putF C0 hA hw 0 rfl rfl hiX2_init_X2 tyX2 tyX2_ok nmX2 4 (by decide) lkX2_init_24 rfl rfl rfl rfl rfl (Nat.le_of_ble_eq_true rfl) dX2_init_41 () (fun _ => ([(h, .inr (2, [.ref q1, .ref q2, .ref q3, .ref q4, .ref q5, .null, .null, .null, .null, .null, .null, .int 0, .int 0, .int 0, .int 0, .int 0])), (q1, .inl (E.2.1.2.1, 26, .inl (fun _ => 0))), (q2, .inl (E.2.1.2.1, 26, .inl (fun _ => 0))), (q3, .inl (E.2.1.2.1, 26, .inl (fun _ => 0))), (q4, .inl (E.2.1.2.1, 26, .inl (fun _ => 0))), (q5, .inl (E.2.1.2.1, 48, .inl (fun _ => 0)))] : va_W)) rfl (fun _ _ H locs hw => ?_)
    refine lv_aload_n hx hb dX2_init_44 rfl (lv_at hl 0 rfl) ?_
    refine lv_bipush (v := 48) hx hb dX2_init_45 (by decide) ?_
    refine r_newI C0 hA hw haX2_init_int (N := 48) (by decide) (by decide) (by decide) (Nat.le_of_ble_eq_true rfl) (Nat.le_of_ble_eq_true rfl) dX2_init_47 (fun q6 H hw => ?_)
    refine W.cs (cells' := 6) (slots' := 200) rfl rfl ?_
    have hw : Wd E A s _ _ ([(h, .inr (2, [.ref q1, .ref q2, .ref q3, .ref q4, .ref q5, .null, .null, .null, .null, .null, .null, .int 0, .int 0, .int 0, .int 0, .int 0])), (q1, .inl (E.2.1.2.1, 26, .inl (fun _ => 0))), (q2, .inl (E.2.1.2.1, 26, .inl (fun _ => 0))), (q3, .inl (E.2.1.2.1, 26, .inl (fun _ => 0))), (q4, .inl (E.2.1.2.1, 26, .inl (fun _ => 0))), (q5, .inl (E.2.1.2.1, 48, .inl (fun _ => 0))), (q6, .inl (E.2.1.2.1, 48, .inl (fun _ => 0)))] : va_W) := hw
    refine r_putF C0 hA hw 0 rfl rfl hiX2_init_X2 tyX2 tyX2_ok nmX2 5 (by decide) lkX2_init_27 rfl rfl rfl rfl rfl (Nat.le_of_ble_eq_true rfl) dX2_init_49 () (fun _ => ([(h, .inr (2, [.ref q1, .ref q2, .ref q3, .ref q4, .ref q5, .ref q6, .null, .null, .null, .null, .null, .int 0, .int 0, .int 0, .int 0, .int 0])), (q1, .inl (E.2.1.2.1, 26, .inl (fun _ => 0))), (q2, .inl (E.2.1.2.1, 26, .inl (fun _ => 0))), (q3, .inl (E.2.1.2.1, 26, .inl (fun _ => 0))), (q4, .inl (E.2.1.2.1, 26, .inl (fun _ => 0))), (q5, .inl (E.2.1.2.1, 48, .inl (fun _ => 0))), (q6, .inl (E.2.1.2.1, 48, .inl (fun _ => 0)))] : va_W)) rfl (fun _ _ H locs hw => ?_)
    refine lv_aload_n hx hb dX2_init_52 rfl (lv_at hl 0 rfl) ?_
    refine lv_bipush (v := 48) hx hb dX2_init_53 (by decide) ?_
    refine r_newI C0 hA hw haX2_init_int (N := 48) (by decide) (by decide) (by decide) (Nat.le_of_ble_eq_true rfl) (Nat.le_of_ble_eq_true rfl) dX2_init_55 (fun q7 H hw => ?_)
    refine W.cs (cells' := 7) (slots' := 248) rfl rfl ?_
    have hw : Wd E A s _ _ ([(h, .inr (2, [.ref q1, .ref q2, .ref q3, .ref q4, .ref q5, .ref q6, .null, .null, .null, .null, .null, .int 0, .int 0, .int 0, .int 0, .int 0])), (q1, .inl (E.2.1.2.1, 26, .inl (fun _ => 0))), (q2, .inl (E.2.1.2.1, 26, .inl (fun _ => 0))), (q3, .inl (E.2.1.2.1, 26, .inl (fun _ => 0))), (q4, .inl (E.2.1.2.1, 26, .inl (fun _ => 0))), (q5, .inl (E.2.1.2.1, 48, .inl (fun _ => 0))), (q6, .inl (E.2.1.2.1, 48, .inl (fun _ => 0))), (q7, .inl (E.2.1.2.1, 48, .inl (fun _ => 0)))] : va_W) := hw
    refine r_putF C0 hA hw 0 rfl rfl hiX2_init_X2 tyX2 tyX2_ok nmX2 6 (by decide) lkX2_init_30 rfl rfl rfl rfl rfl (Nat.le_of_ble_eq_true rfl) dX2_init_57 () (fun _ => ([(h, .inr (2, [.ref q1, .ref q2, .ref q3, .ref q4, .ref q5, .ref q6, .ref q7, .null, .null, .null, .null, .int 0, .int 0, .int 0, .int 0, .int 0])), (q1, .inl (E.2.1.2.1, 26, .inl (fun _ => 0))), (q2, .inl (E.2.1.2.1, 26, .inl (fun _ => 0))), (q3, .inl (E.2.1.2.1, 26, .inl (fun _ => 0))), (q4, .inl (E.2.1.2.1, 26, .inl (fun _ => 0))), (q5, .inl (E.2.1.2.1, 48, .inl (fun _ => 0))), (q6, .inl (E.2.1.2.1, 48, .inl (fun _ => 0))), (q7, .inl (E.2.1.2.1, 48, .inl (fun _ => 0)))] : va_W)) rfl (fun _ _ H locs hw => ?_)
    refine lv_aload_n hx hb dX2_init_60 rfl (lv_at hl 0 rfl) ?_
    refine lv_sipush (v := 240) hx hb dX2_init_61 (by decide) ?_
    refine r_newI C0 hA hw haX2_init_int (N := 240) (by decide) (by decide) (by decide) (Nat.le_of_ble_eq_true rfl) (Nat.le_of_ble_eq_true rfl) dX2_init_64 (fun q8 H hw => ?_)
    refine W.cs (cells' := 8) (slots' := 488) rfl rfl ?_
    have hw : Wd E A s _ _ ([(h, .inr (2, [.ref q1, .ref q2, .ref q3, .ref q4, .ref q5, .ref q6, .ref q7, .null, .null, .null, .null, .int 0, .int 0, .int 0, .int 0, .int 0])), (q1, .inl (E.2.1.2.1, 26, .inl (fun _ => 0))), (q2, .inl (E.2.1.2.1, 26, .inl (fun _ => 0))), (q3, .inl (E.2.1.2.1, 26, .inl (fun _ => 0))), (q4, .inl (E.2.1.2.1, 26, .inl (fun _ => 0))), (q5, .inl (E.2.1.2.1, 48, .inl (fun _ => 0))), (q6, .inl (E.2.1.2.1, 48, .inl (fun _ => 0))), (q7, .inl (E.2.1.2.1, 48, .inl (fun _ => 0))), (q8, .inl (E.2.1.2.1, 240, .inl (fun _ => 0)))] : va_W) := hw
    refine r_putF C0 hA hw 0 rfl rfl hiX2_init_X2 tyX2 tyX2_ok nmX2 7 (by decide) lkX2_init_33 rfl rfl rfl rfl rfl (Nat.le_of_ble_eq_true rfl) dX2_init_66 () (fun _ => ([(h, .inr (2, [.ref q1, .ref q2, .ref q3, .ref q4, .ref q5, .ref q6, .ref q7, .ref q8, .null, .null, .null, .int 0, .int 0, .int 0, .int 0, .int 0])), (q1, .inl (E.2.1.2.1, 26, .inl (fun _ => 0))), (q2, .inl (E.2.1.2.1, 26, .inl (fun _ => 0))), (q3, .inl (E.2.1.2.1, 26, .inl (fun _ => 0))), (q4, .inl (E.2.1.2.1, 26, .inl (fun _ => 0))), (q5, .inl (E.2.1.2.1, 48, .inl (fun _ => 0))), (q6, .inl (E.2.1.2.1, 48, .inl (fun _ => 0))), (q7, .inl (E.2.1.2.1, 48, .inl (fun _ => 0))), (q8, .inl (E.2.1.2.1, 240, .inl (fun _ => 0)))] : va_W)) rfl (fun _ _ H locs hw => ?_)
    refine lv_aload_n hx hb dX2_init_69 rfl (lv_at hl 0 rfl) ?_
    refine lv_sipush (v := 240) hx hb dX2_init_70 (by decide) ?_
    refine r_newI C0 hA hw haX2_init_int (N := 240) (by decide) (by decide) (by decide) (Nat.le_of_ble_eq_true rfl) (Nat.le_of_ble_eq_true rfl) dX2_init_73 (fun q9 H hw => ?_)
    refine W.cs (cells' := 9) (slots' := 728) rfl rfl ?_
    have hw : Wd E A s _ _ ([(h, .inr (2, [.ref q1, .ref q2, .ref q3, .ref q4, .ref q5, .ref q6, .ref q7, .ref q8, .null, .null, .null, .int 0, .int 0, .int 0, .int 0, .int 0])), (q1, .inl (E.2.1.2.1, 26, .inl (fun _ => 0))), (q2, .inl (E.2.1.2.1, 26, .inl (fun _ => 0))), (q3, .inl (E.2.1.2.1, 26, .inl (fun _ => 0))), (q4, .inl (E.2.1.2.1, 26, .inl (fun _ => 0))), (q5, .inl (E.2.1.2.1, 48, .inl (fun _ => 0))), (q6, .inl (E.2.1.2.1, 48, .inl (fun _ => 0))), (q7, .inl (E.2.1.2.1, 48, .inl (fun _ => 0))), (q8, .inl (E.2.1.2.1, 240, .inl (fun _ => 0))), (q9, .inl (E.2.1.2.1, 240, .inl (fun _ => 0)))] : va_W) := hw
    refine r_putF C0 hA hw 0 rfl rfl hiX2_init_X2 tyX2 tyX2_ok nmX2 8 (by decide) lkX2_init_36 rfl rfl rfl rfl rfl (Nat.le_of_ble_eq_true rfl) dX2_init_75 () (fun _ => ([(h, .inr (2, [.ref q1, .ref q2, .ref q3, .ref q4, .ref q5, .ref q6, .ref q7, .ref q8, .ref q9, .null, .null, .int 0, .int 0, .int 0, .int 0, .int 0])), (q1, .inl (E.2.1.2.1, 26, .inl (fun _ => 0))), (q2, .inl (E.2.1.2.1, 26, .inl (fun _ => 0))), (q3, .inl (E.2.1.2.1, 26, .inl (fun _ => 0))), (q4, .inl (E.2.1.2.1, 26, .inl (fun _ => 0))), (q5, .inl (E.2.1.2.1, 48, .inl (fun _ => 0))), (q6, .inl (E.2.1.2.1, 48, .inl (fun _ => 0))), (q7, .inl (E.2.1.2.1, 48, .inl (fun _ => 0))), (q8, .inl (E.2.1.2.1, 240, .inl (fun _ => 0))), (q9, .inl (E.2.1.2.1, 240, .inl (fun _ => 0)))] : va_W)) rfl (fun _ _ H locs hw => ?_)
    refine lv_aload_n hx hb dX2_init_78 rfl (lv_at hl 0 rfl) ?_
    refine lv_sipush (v := 240) hx hb dX2_init_79 (by decide) ?_
    refine r_newI C0 hA hw haX2_init_int (N := 240) (by decide) (by decide) (by decide) (Nat.le_of_ble_eq_true rfl) (Nat.le_of_ble_eq_true rfl) dX2_init_82 (fun q10 H hw => ?_)
    refine W.cs (cells' := 10) (slots' := 968) rfl rfl ?_
    have hw : Wd E A s _ _ ([(h, .inr (2, [.ref q1, .ref q2, .ref q3, .ref q4, .ref q5, .ref q6, .ref q7, .ref q8, .ref q9, .null, .null, .int 0, .int 0, .int 0, .int 0, .int 0])), (q1, .inl (E.2.1.2.1, 26, .inl (fun _ => 0))), (q2, .inl (E.2.1.2.1, 26, .inl (fun _ => 0))), (q3, .inl (E.2.1.2.1, 26, .inl (fun _ => 0))), (q4, .inl (E.2.1.2.1, 26, .inl (fun _ => 0))), (q5, .inl (E.2.1.2.1, 48, .inl (fun _ => 0))), (q6, .inl (E.2.1.2.1, 48, .inl (fun _ => 0))), (q7, .inl (E.2.1.2.1, 48, .inl (fun _ => 0))), (q8, .inl (E.2.1.2.1, 240, .inl (fun _ => 0))), (q9, .inl (E.2.1.2.1, 240, .inl (fun _ => 0))), (q10, .inl (E.2.1.2.1, 240, .inl (fun _ => 0)))] : va_W) := hw
    refine r_putF C0 hA hw 0 rfl rfl hiX2_init_X2 tyX2 tyX2_ok nmX2 9 (by decide) lkX2_init_39 rfl rfl rfl rfl rfl (Nat.le_of_ble_eq_true rfl) dX2_init_84 () (fun _ => ([(h, .inr (2, [.ref q1, .ref q2, .ref q3, .ref q4, .ref q5, .ref q6, .ref q7, .ref q8, .ref q9, .ref q10, .null, .int 0, .int 0, .int 0, .int 0, .int 0])), (q1, .inl (E.2.1.2.1, 26, .inl (fun _ => 0))), (q2, .inl (E.2.1.2.1, 26, .inl (fun _ => 0))), (q3, .inl (E.2.1.2.1, 26, .inl (fun _ => 0))), (q4, .inl (E.2.1.2.1, 26, .inl (fun _ => 0))), (q5, .inl (E.2.1.2.1, 48, .inl (fun _ => 0))), (q6, .inl (E.2.1.2.1, 48, .inl (fun _ => 0))), (q7, .inl (E.2.1.2.1, 48, .inl (fun _ => 0))), (q8, .inl (E.2.1.2.1, 240, .inl (fun _ => 0))), (q9, .inl (E.2.1.2.1, 240, .inl (fun _ => 0))), (q10, .inl (E.2.1.2.1, 240, .inl (fun _ => 0)))] : va_W)) rfl (fun _ _ H locs hw => ?_)
    refine lv_aload_n hx hb dX2_init_87 rfl (lv_at hl 0 rfl) ?_
    refine lv_sipush (v := 240) hx hb dX2_init_88 (by decide) ?_
    refine r_newI C0 hA hw haX2_init_int (N := 240) (by decide) (by decide) (by decide) (Nat.le_of_ble_eq_true rfl) (Nat.le_of_ble_eq_true rfl) dX2_init_91 (fun q11 H hw => ?_)
    refine W.cs (cells' := 11) (slots' := 1208) rfl rfl ?_
    have hw : Wd E A s _ _ ([(h, .inr (2, [.ref q1, .ref q2, .ref q3, .ref q4, .ref q5, .ref q6, .ref q7, .ref q8, .ref q9, .ref q10, .null, .int 0, .int 0, .int 0, .int 0, .int 0])), (q1, .inl (E.2.1.2.1, 26, .inl (fun _ => 0))), (q2, .inl (E.2.1.2.1, 26, .inl (fun _ => 0))), (q3, .inl (E.2.1.2.1, 26, .inl (fun _ => 0))), (q4, .inl (E.2.1.2.1, 26, .inl (fun _ => 0))), (q5, .inl (E.2.1.2.1, 48, .inl (fun _ => 0))), (q6, .inl (E.2.1.2.1, 48, .inl (fun _ => 0))), (q7, .inl (E.2.1.2.1, 48, .inl (fun _ => 0))), (q8, .inl (E.2.1.2.1, 240, .inl (fun _ => 0))), (q9, .inl (E.2.1.2.1, 240, .inl (fun _ => 0))), (q10, .inl (E.2.1.2.1, 240, .inl (fun _ => 0))), (q11, .inl (E.2.1.2.1, 240, .inl (fun _ => 0)))] : va_W) := hw
    refine r_putF C0 hA hw 0 rfl rfl hiX2_init_X2 tyX2 tyX2_ok nmX2 10 (by decide) lkX2_init_42 rfl rfl rfl rfl rfl (Nat.le_of_ble_eq_true rfl) dX2_init_93 () (fun _ => ([(h, .inr (2, [.ref q1, .ref q2, .ref q3, .ref q4, .ref q5, .ref q6, .ref q7, .ref q8, .ref q9, .ref q10, .ref q11, .int 0, .int 0, .int 0, .int 0, .int 0])), (q1, .inl (E.2.1.2.1, 26, .inl (fun _ => 0))), (q2, .inl (E.2.1.2.1, 26, .inl (fun _ => 0))), (q3, .inl (E.2.1.2.1, 26, .inl (fun _ => 0))), (q4, .inl (E.2.1.2.1, 26, .inl (fun _ => 0))), (q5, .inl (E.2.1.2.1, 48, .inl (fun _ => 0))), (q6, .inl (E.2.1.2.1, 48, .inl (fun _ => 0))), (q7, .inl (E.2.1.2.1, 48, .inl (fun _ => 0))), (q8, .inl (E.2.1.2.1, 240, .inl (fun _ => 0))), (q9, .inl (E.2.1.2.1, 240, .inl (fun _ => 0))), (q10, .inl (E.2.1.2.1, 240, .inl (fun _ => 0))), (q11, .inl (E.2.1.2.1, 240, .inl (fun _ => 0)))] : va_W)) rfl (fun _ _ H locs hw => ?_)
    refine lv_aload_n hx hb dX2_init_96 rfl (lv_at hl 0 rfl) ?_
    refine lv_iconst (v := 0) hx hb dX2_init_97 (by decide) ?_
    refine r_put C0 hA hw 0 rfl rfl hiX2_init_X2 tyX2 tyX2_ok nmX2 11 (by decide) lkX2_init_45 rfl rfl rfl (Nat.le_of_ble_eq_true rfl) dX2_init_98 () (fun _ => ([(h, .inr (2, [.ref q1, .ref q2, .ref q3, .ref q4, .ref q5, .ref q6, .ref q7, .ref q8, .ref q9, .ref q10, .ref q11, .int 0, .int 0, .int 0, .int 0, .int 0])), (q1, .inl (E.2.1.2.1, 26, .inl (fun _ => 0))), (q2, .inl (E.2.1.2.1, 26, .inl (fun _ => 0))), (q3, .inl (E.2.1.2.1, 26, .inl (fun _ => 0))), (q4, .inl (E.2.1.2.1, 26, .inl (fun _ => 0))), (q5, .inl (E.2.1.2.1, 48, .inl (fun _ => 0))), (q6, .inl (E.2.1.2.1, 48, .inl (fun _ => 0))), (q7, .inl (E.2.1.2.1, 48, .inl (fun _ => 0))), (q8, .inl (E.2.1.2.1, 240, .inl (fun _ => 0))), (q9, .inl (E.2.1.2.1, 240, .inl (fun _ => 0))), (q10, .inl (E.2.1.2.1, 240, .inl (fun _ => 0))), (q11, .inl (E.2.1.2.1, 240, .inl (fun _ => 0)))] : va_W)) rfl (fun _ _ H locs hw => ?_)
    refine lv_aload_n hx hb dX2_init_101 rfl (lv_at hl 0 rfl) ?_
    refine lv_iconst (v := 0) hx hb dX2_init_102 (by decide) ?_
    refine r_put C0 hA hw 0 rfl rfl hiX2_init_X2 tyX2 tyX2_ok nmX2 12 (by decide) lkX2_init_49 rfl rfl rfl (Nat.le_of_ble_eq_true rfl) dX2_init_103 () (fun _ => ([(h, .inr (2, [.ref q1, .ref q2, .ref q3, .ref q4, .ref q5, .ref q6, .ref q7, .ref q8, .ref q9, .ref q10, .ref q11, .int 0, .int 0, .int 0, .int 0, .int 0])), (q1, .inl (E.2.1.2.1, 26, .inl (fun _ => 0))), (q2, .inl (E.2.1.2.1, 26, .inl (fun _ => 0))), (q3, .inl (E.2.1.2.1, 26, .inl (fun _ => 0))), (q4, .inl (E.2.1.2.1, 26, .inl (fun _ => 0))), (q5, .inl (E.2.1.2.1, 48, .inl (fun _ => 0))), (q6, .inl (E.2.1.2.1, 48, .inl (fun _ => 0))), (q7, .inl (E.2.1.2.1, 48, .inl (fun _ => 0))), (q8, .inl (E.2.1.2.1, 240, .inl (fun _ => 0))), (q9, .inl (E.2.1.2.1, 240, .inl (fun _ => 0))), (q10, .inl (E.2.1.2.1, 240, .inl (fun _ => 0))), (q11, .inl (E.2.1.2.1, 240, .inl (fun _ => 0)))] : va_W)) rfl (fun _ _ H locs hw => ?_)
    refine lv_aload_n hx hb dX2_init_106 rfl (lv_at hl 0 rfl) ?_
    refine lv_iconst (v := 0) hx hb dX2_init_107 (by decide) ?_
    refine r_put C0 hA hw 0 rfl rfl hiX2_init_X2 tyX2 tyX2_ok nmX2 13 (by decide) lkX2_init_52 rfl rfl rfl (Nat.le_of_ble_eq_true rfl) dX2_init_108 () (fun _ => ([(h, .inr (2, [.ref q1, .ref q2, .ref q3, .ref q4, .ref q5, .ref q6, .ref q7, .ref q8, .ref q9, .ref q10, .ref q11, .int 0, .int 0, .int 0, .int 0, .int 0])), (q1, .inl (E.2.1.2.1, 26, .inl (fun _ => 0))), (q2, .inl (E.2.1.2.1, 26, .inl (fun _ => 0))), (q3, .inl (E.2.1.2.1, 26, .inl (fun _ => 0))), (q4, .inl (E.2.1.2.1, 26, .inl (fun _ => 0))), (q5, .inl (E.2.1.2.1, 48, .inl (fun _ => 0))), (q6, .inl (E.2.1.2.1, 48, .inl (fun _ => 0))), (q7, .inl (E.2.1.2.1, 48, .inl (fun _ => 0))), (q8, .inl (E.2.1.2.1, 240, .inl (fun _ => 0))), (q9, .inl (E.2.1.2.1, 240, .inl (fun _ => 0))), (q10, .inl (E.2.1.2.1, 240, .inl (fun _ => 0))), (q11, .inl (E.2.1.2.1, 240, .inl (fun _ => 0)))] : va_W)) rfl (fun _ _ H locs hw => ?_)
    refine lv_aload_n hx hb dX2_init_111 rfl (lv_at hl 0 rfl) ?_
    refine lv_iconst (v := 0) hx hb dX2_init_112 (by decide) ?_
    refine r_put C0 hA hw 0 rfl rfl hiX2_init_X2 tyX2 tyX2_ok nmX2 14 (by decide) lkX2_init_55 rfl rfl rfl (Nat.le_of_ble_eq_true rfl) dX2_init_113 () (fun _ => ([(h, .inr (2, [.ref q1, .ref q2, .ref q3, .ref q4, .ref q5, .ref q6, .ref q7, .ref q8, .ref q9, .ref q10, .ref q11, .int 0, .int 0, .int 0, .int 0, .int 0])), (q1, .inl (E.2.1.2.1, 26, .inl (fun _ => 0))), (q2, .inl (E.2.1.2.1, 26, .inl (fun _ => 0))), (q3, .inl (E.2.1.2.1, 26, .inl (fun _ => 0))), (q4, .inl (E.2.1.2.1, 26, .inl (fun _ => 0))), (q5, .inl (E.2.1.2.1, 48, .inl (fun _ => 0))), (q6, .inl (E.2.1.2.1, 48, .inl (fun _ => 0))), (q7, .inl (E.2.1.2.1, 48, .inl (fun _ => 0))), (q8, .inl (E.2.1.2.1, 240, .inl (fun _ => 0))), (q9, .inl (E.2.1.2.1, 240, .inl (fun _ => 0))), (q10, .inl (E.2.1.2.1, 240, .inl (fun _ => 0))), (q11, .inl (E.2.1.2.1, 240, .inl (fun _ => 0)))] : va_W)) rfl (fun _ _ H locs hw => ?_)
    refine lv_aload_n hx hb dX2_init_116 rfl (lv_at hl 0 rfl) ?_
    refine lv_iconst (v := 0) hx hb dX2_init_117 (by decide) ?_
    refine r_put C0 hA hw 0 rfl rfl hiX2_init_X2 tyX2 tyX2_ok nmX2 15 (by decide) lkX2_init_58 rfl rfl rfl (Nat.le_of_ble_eq_true rfl) dX2_init_118 () (fun _ => ([(h, .inr (2, [.ref q1, .ref q2, .ref q3, .ref q4, .ref q5, .ref q6, .ref q7, .ref q8, .ref q9, .ref q10, .ref q11, .int 0, .int 0, .int 0, .int 0, .int 0])), (q1, .inl (E.2.1.2.1, 26, .inl (fun _ => 0))), (q2, .inl (E.2.1.2.1, 26, .inl (fun _ => 0))), (q3, .inl (E.2.1.2.1, 26, .inl (fun _ => 0))), (q4, .inl (E.2.1.2.1, 26, .inl (fun _ => 0))), (q5, .inl (E.2.1.2.1, 48, .inl (fun _ => 0))), (q6, .inl (E.2.1.2.1, 48, .inl (fun _ => 0))), (q7, .inl (E.2.1.2.1, 48, .inl (fun _ => 0))), (q8, .inl (E.2.1.2.1, 240, .inl (fun _ => 0))), (q9, .inl (E.2.1.2.1, 240, .inl (fun _ => 0))), (q10, .inl (E.2.1.2.1, 240, .inl (fun _ => 0))), (q11, .inl (E.2.1.2.1, 240, .inl (fun _ => 0)))] : va_W)) rfl (fun _ _ H locs hw => ?_)
    have hw := hw.sub (w' := wG E (fun k => ([h, q1, q2, q3, q4, q5, q6, q7, q8, q9, q10, q11] : List Nat).getD k 0) iX2) [0, 1, 2, 3, 4, 5, 6, 7, 8, 9, 10, 11] rfl rfl
    exact r_vret C0 hw dX2_init_121 ⟨rfl, (fun k => ([h, q1, q2, q3, q4, q5, q6, q7, q8, q9, q10, q11] : List Nat).getD k 0), rfl, rfl⟩)
def iX4 : OS := zOS
theorem lkX4_init_11 : Cond.fieldLink RX4 11 (TX4 0).1 (TX4 0).2.1 (TX4 0).2.2.1 ∈ wsX4_init := by decide +kernel
theorem lkX4_init_15 : Cond.fieldLink RX4 15 (TX4 1).1 (TX4 1).2.1 (TX4 1).2.2.1 ∈ wsX4_init := by decide +kernel
theorem lkX4_init_18 : Cond.fieldLink RX4 18 (TX4 2).1 (TX4 2).2.1 (TX4 2).2.2.1 ∈ wsX4_init := by decide +kernel
theorem lkX4_init_22 : Cond.fieldLink RX4 22 (TX4 3).1 (TX4 3).2.1 (TX4 3).2.2.1 ∈ wsX4_init := by decide +kernel
theorem lkX4_init_25 : Cond.fieldLink RX4 25 (TX4 4).1 (TX4 4).2.1 (TX4 4).2.2.1 ∈ wsX4_init := by decide +kernel
theorem lkX4_init_28 : Cond.fieldLink RX4 28 (TX4 5).1 (TX4 5).2.1 (TX4 5).2.2.1 ∈ wsX4_init := by decide +kernel
theorem lkX4_init_31 : Cond.fieldLink RX4 31 (TX4 6).1 (TX4 6).2.1 (TX4 6).2.2.1 ∈ wsX4_init := by decide +kernel
theorem lkX4_init_34 : Cond.fieldLink RX4 34 (TX4 7).1 (TX4 7).2.1 (TX4 7).2.2.1 ∈ wsX4_init := by decide +kernel
theorem haX4_init_int : Cond.arrayClass .int ∈ wsX4_init := by decide +kernel
theorem hiX4_init_X4 : ∀ w ∈ u_ws RX4 TX4 8, w ∈ wsX4_init := by decide +kernel
theorem haX4_init_long : Cond.arrayClass .long ∈ wsX4_init := by decide +kernel
set_option maxHeartbeats 4000000 in
set_option maxRecDepth 100000 in
theorem tX4_init (l : Launch) (E : EV) (h : Nat) : CT l yX4_init wsX4_init ({ frames := 1, cells := 8, slots := 24008, locals := 20 } : Room) E [.ref h] [(h, .inr (4, [.null, .null, .null, .null, .null, .null, .null, .null]))] (fun v w1 => v = none ∧ ∃ ad : Nat → Nat, ad 0 = h ∧ w1 = wL E ad iX4) 8 24008 :=
  CT.of (mL := 1) (lvs := [(0, .ref h)]) (by decide +kernel) rfl (Nat.le_of_ble_eq_true rfl) rfl rfl rfl (fun p e s m below meth c A C0 hA hw ls hl => by
    have hx := C0.1
    have hb := C0.2.1
    refine lv_aload_n hx hb dX4_init_0 rfl (lv_at hl 0 rfl) ?_
    refine r_obj C0 (idx := 3) (by decide +kernel) (by decide +kernel) (by decide +kernel) hl.1 dX4_init_1 (Nat.le_of_ble_eq_true rfl) (Nat.le_of_ble_eq_true rfl) ?_
    refine lv_aload_n hx hb dX4_init_4 rfl (lv_at hl 0 rfl) ?_
    refine lv_sipush (v := 3001) hx hb dX4_init_5 (by decide) ?_
    refine r_newI C0 hA hw haX4_init_int (N := 3001) (by decide) (by decide) (by decide) (Nat.le_of_ble_eq_true rfl) (Nat.le_of_ble_eq_true rfl) dX4_init_8 (fun q1 H hw => ?_)
    refine W.cs (cells' := 1) (slots' := 3001) rfl rfl ?_
    have hw : Wd E A s _ _ ([(h, .inr (4, [.null, .null, .null, .null, .null, .null, .null, .null])), (q1, .inl (E.2.1.2.1, 3001, .inl (fun _ => 0)))] : va_W) := hw
    refine r_putF C0 hA hw 0 rfl rfl hiX4_init_X4 tyX4 tyX4_ok nmX4 0 (by decide) lkX4_init_11 rfl rfl rfl rfl rfl (Nat.le_of_ble_eq_true rfl) dX4_init_10 () (fun _ => ([(h, .inr (4, [.ref q1, .null, .null, .null, .null, .null, .null, .null])), (q1, .inl (E.2.1.2.1, 3001, .inl (fun _ => 0)))] : va_W)) rfl (fun _ _ H locs hw => ?_)
    refine lv_aload_n hx hb dX4_init_13 rfl (lv_at hl 0 rfl) ?_
    refine lv_sipush (v := 3001) hx hb dX4_init_14 (by decide) ?_
    refine r_newI C0 hA hw haX4_init_int (N := 3001) (by decide) (by decide) (by decide) (Nat.le_of_ble_eq_true rfl) (Nat.le_of_ble_eq_true rfl) dX4_init_17 (fun q2 H hw => ?_)
    refine W.cs (cells' := 2) (slots' := 6002) rfl rfl ?_
    have hw : Wd E A s _ _ ([(h, .inr (4, [.ref q1, .null, .null, .null, .null, .null, .null, .null])), (q1, .inl (E.2.1.2.1, 3001, .inl (fun _ => 0))), (q2, .inl (E.2.1.2.1, 3001, .inl (fun _ => 0)))] : va_W) := hw
    refine r_putF C0 hA hw 0 rfl rfl hiX4_init_X4 tyX4 tyX4_ok nmX4 1 (by decide) lkX4_init_15 rfl rfl rfl rfl rfl (Nat.le_of_ble_eq_true rfl) dX4_init_19 () (fun _ => ([(h, .inr (4, [.ref q1, .ref q2, .null, .null, .null, .null, .null, .null])), (q1, .inl (E.2.1.2.1, 3001, .inl (fun _ => 0))), (q2, .inl (E.2.1.2.1, 3001, .inl (fun _ => 0)))] : va_W)) rfl (fun _ _ H locs hw => ?_)
    refine lv_aload_n hx hb dX4_init_22 rfl (lv_at hl 0 rfl) ?_
    refine lv_sipush (v := 3001) hx hb dX4_init_23 (by decide) ?_
    refine r_newJ C0 hA hw haX4_init_long (N := 3001) (by decide) (by decide) (by decide) (Nat.le_of_ble_eq_true rfl) (Nat.le_of_ble_eq_true rfl) dX4_init_26 (fun q3 H hw => ?_)
    refine W.cs (cells' := 3) (slots' := 9003) rfl rfl ?_
    have hw : Wd E A s _ _ ([(h, .inr (4, [.ref q1, .ref q2, .null, .null, .null, .null, .null, .null])), (q1, .inl (E.2.1.2.1, 3001, .inl (fun _ => 0))), (q2, .inl (E.2.1.2.1, 3001, .inl (fun _ => 0))), (q3, .inl (E.2.1.2.2, 3001, .inr (.inl (fun _ => 0))))] : va_W) := hw
    refine r_putF C0 hA hw 0 rfl rfl hiX4_init_X4 tyX4 tyX4_ok nmX4 2 (by decide) lkX4_init_18 rfl rfl rfl rfl rfl (Nat.le_of_ble_eq_true rfl) dX4_init_28 () (fun _ => ([(h, .inr (4, [.ref q1, .ref q2, .ref q3, .null, .null, .null, .null, .null])), (q1, .inl (E.2.1.2.1, 3001, .inl (fun _ => 0))), (q2, .inl (E.2.1.2.1, 3001, .inl (fun _ => 0))), (q3, .inl (E.2.1.2.2, 3001, .inr (.inl (fun _ => 0))))] : va_W)) rfl (fun _ _ H locs hw => ?_)
    refine lv_aload_n hx hb dX4_init_31 rfl (lv_at hl 0 rfl) ?_
    refine lv_sipush (v := 3001) hx hb dX4_init_32 (by decide) ?_
    refine r_newI C0 hA hw haX4_init_int (N := 3001) (by decide) (by decide) (by decide) (Nat.le_of_ble_eq_true rfl) (Nat.le_of_ble_eq_true rfl) dX4_init_35 (fun q4 H hw => ?_)
    refine W.cs (cells' := 4) (slots' := 12004) rfl rfl ?_
    have hw : Wd E A s _ _ ([(h, .inr (4, [.ref q1, .ref q2, .ref q3, .null, .null, .null, .null, .null])), (q1, .inl (E.2.1.2.1, 3001, .inl (fun _ => 0))), (q2, .inl (E.2.1.2.1, 3001, .inl (fun _ => 0))), (q3, .inl (E.2.1.2.2, 3001, .inr (.inl (fun _ => 0)))), (q4, .inl (E.2.1.2.1, 3001, .inl (fun _ => 0)))] : va_W) := hw
    refine r_putF C0 hA hw 0 rfl rfl hiX4_init_X4 tyX4 tyX4_ok nmX4 3 (by decide) lkX4_init_22 rfl rfl rfl rfl rfl (Nat.le_of_ble_eq_true rfl) dX4_init_37 () (fun _ => ([(h, .inr (4, [.ref q1, .ref q2, .ref q3, .ref q4, .null, .null, .null, .null])), (q1, .inl (E.2.1.2.1, 3001, .inl (fun _ => 0))), (q2, .inl (E.2.1.2.1, 3001, .inl (fun _ => 0))), (q3, .inl (E.2.1.2.2, 3001, .inr (.inl (fun _ => 0)))), (q4, .inl (E.2.1.2.1, 3001, .inl (fun _ => 0)))] : va_W)) rfl (fun _ _ H locs hw => ?_)
    refine lv_aload_n hx hb dX4_init_40 rfl (lv_at hl 0 rfl) ?_
    refine lv_sipush (v := 3001) hx hb dX4_init_41 (by decide) ?_
    refine r_newI C0 hA hw haX4_init_int (N := 3001) (by decide) (by decide) (by decide) (Nat.le_of_ble_eq_true rfl) (Nat.le_of_ble_eq_true rfl) dX4_init_44 (fun q5 H hw => ?_)
    refine W.cs (cells' := 5) (slots' := 15005) rfl rfl ?_
    have hw : Wd E A s _ _ ([(h, .inr (4, [.ref q1, .ref q2, .ref q3, .ref q4, .null, .null, .null, .null])), (q1, .inl (E.2.1.2.1, 3001, .inl (fun _ => 0))), (q2, .inl (E.2.1.2.1, 3001, .inl (fun _ => 0))), (q3, .inl (E.2.1.2.2, 3001, .inr (.inl (fun _ => 0)))), (q4, .inl (E.2.1.2.1, 3001, .inl (fun _ => 0))), (q5, .inl (E.2.1.2.1, 3001, .inl (fun _ => 0)))] : va_W) := hw
    refine r_putF C0 hA hw 0 rfl rfl hiX4_init_X4 tyX4 tyX4_ok nmX4 4 (by decide) lkX4_init_25 rfl rfl rfl rfl rfl (Nat.le_of_ble_eq_true rfl) dX4_init_46 () (fun _ => ([(h, .inr (4, [.ref q1, .ref q2, .ref q3, .ref q4, .ref q5, .null, .null, .null])), (q1, .inl (E.2.1.2.1, 3001, .inl (fun _ => 0))), (q2, .inl (E.2.1.2.1, 3001, .inl (fun _ => 0))), (q3, .inl (E.2.1.2.2, 3001, .inr (.inl (fun _ => 0)))), (q4, .inl (E.2.1.2.1, 3001, .inl (fun _ => 0))), (q5, .inl (E.2.1.2.1, 3001, .inl (fun _ => 0)))] : va_W)) rfl (fun _ _ H locs hw => ?_)
    refine lv_aload_n hx hb dX4_init_49 rfl (lv_at hl 0 rfl) ?_
    refine lv_sipush (v := 3001) hx hb dX4_init_50 (by decide) ?_
    refine r_newI C0 hA hw haX4_init_int (N := 3001) (by decide) (by decide) (by decide) (Nat.le_of_ble_eq_true rfl) (Nat.le_of_ble_eq_true rfl) dX4_init_53 (fun q6 H hw => ?_)
    refine W.cs (cells' := 6) (slots' := 18006) rfl rfl ?_
    have hw : Wd E A s _ _ ([(h, .inr (4, [.ref q1, .ref q2, .ref q3, .ref q4, .ref q5, .null, .null, .null])), (q1, .inl (E.2.1.2.1, 3001, .inl (fun _ => 0))), (q2, .inl (E.2.1.2.1, 3001, .inl (fun _ => 0))), (q3, .inl (E.2.1.2.2, 3001, .inr (.inl (fun _ => 0)))), (q4, .inl (E.2.1.2.1, 3001, .inl (fun _ => 0))), (q5, .inl (E.2.1.2.1, 3001, .inl (fun _ => 0))), (q6, .inl (E.2.1.2.1, 3001, .inl (fun _ => 0)))] : va_W) := hw
    refine r_putF C0 hA hw 0 rfl rfl hiX4_init_X4 tyX4 tyX4_ok nmX4 5 (by decide) lkX4_init_28 rfl rfl rfl rfl rfl (Nat.le_of_ble_eq_true rfl) dX4_init_55 () (fun _ => ([(h, .inr (4, [.ref q1, .ref q2, .ref q3, .ref q4, .ref q5, .ref q6, .null, .null])), (q1, .inl (E.2.1.2.1, 3001, .inl (fun _ => 0))), (q2, .inl (E.2.1.2.1, 3001, .inl (fun _ => 0))), (q3, .inl (E.2.1.2.2, 3001, .inr (.inl (fun _ => 0)))), (q4, .inl (E.2.1.2.1, 3001, .inl (fun _ => 0))), (q5, .inl (E.2.1.2.1, 3001, .inl (fun _ => 0))), (q6, .inl (E.2.1.2.1, 3001, .inl (fun _ => 0)))] : va_W)) rfl (fun _ _ H locs hw => ?_)
    refine lv_aload_n hx hb dX4_init_58 rfl (lv_at hl 0 rfl) ?_
    refine lv_sipush (v := 3001) hx hb dX4_init_59 (by decide) ?_
    refine r_newI C0 hA hw haX4_init_int (N := 3001) (by decide) (by decide) (by decide) (Nat.le_of_ble_eq_true rfl) (Nat.le_of_ble_eq_true rfl) dX4_init_62 (fun q7 H hw => ?_)
    refine W.cs (cells' := 7) (slots' := 21007) rfl rfl ?_
    have hw : Wd E A s _ _ ([(h, .inr (4, [.ref q1, .ref q2, .ref q3, .ref q4, .ref q5, .ref q6, .null, .null])), (q1, .inl (E.2.1.2.1, 3001, .inl (fun _ => 0))), (q2, .inl (E.2.1.2.1, 3001, .inl (fun _ => 0))), (q3, .inl (E.2.1.2.2, 3001, .inr (.inl (fun _ => 0)))), (q4, .inl (E.2.1.2.1, 3001, .inl (fun _ => 0))), (q5, .inl (E.2.1.2.1, 3001, .inl (fun _ => 0))), (q6, .inl (E.2.1.2.1, 3001, .inl (fun _ => 0))), (q7, .inl (E.2.1.2.1, 3001, .inl (fun _ => 0)))] : va_W) := hw
    refine r_putF C0 hA hw 0 rfl rfl hiX4_init_X4 tyX4 tyX4_ok nmX4 6 (by decide) lkX4_init_31 rfl rfl rfl rfl rfl (Nat.le_of_ble_eq_true rfl) dX4_init_64 () (fun _ => ([(h, .inr (4, [.ref q1, .ref q2, .ref q3, .ref q4, .ref q5, .ref q6, .ref q7, .null])), (q1, .inl (E.2.1.2.1, 3001, .inl (fun _ => 0))), (q2, .inl (E.2.1.2.1, 3001, .inl (fun _ => 0))), (q3, .inl (E.2.1.2.2, 3001, .inr (.inl (fun _ => 0)))), (q4, .inl (E.2.1.2.1, 3001, .inl (fun _ => 0))), (q5, .inl (E.2.1.2.1, 3001, .inl (fun _ => 0))), (q6, .inl (E.2.1.2.1, 3001, .inl (fun _ => 0))), (q7, .inl (E.2.1.2.1, 3001, .inl (fun _ => 0)))] : va_W)) rfl (fun _ _ H locs hw => ?_)
    refine lv_aload_n hx hb dX4_init_67 rfl (lv_at hl 0 rfl) ?_
    refine lv_sipush (v := 3001) hx hb dX4_init_68 (by decide) ?_
    refine r_newI C0 hA hw haX4_init_int (N := 3001) (by decide) (by decide) (by decide) (Nat.le_of_ble_eq_true rfl) (Nat.le_of_ble_eq_true rfl) dX4_init_71 (fun q8 H hw => ?_)
    refine W.cs (cells' := 8) (slots' := 24008) rfl rfl ?_
    have hw : Wd E A s _ _ ([(h, .inr (4, [.ref q1, .ref q2, .ref q3, .ref q4, .ref q5, .ref q6, .ref q7, .null])), (q1, .inl (E.2.1.2.1, 3001, .inl (fun _ => 0))), (q2, .inl (E.2.1.2.1, 3001, .inl (fun _ => 0))), (q3, .inl (E.2.1.2.2, 3001, .inr (.inl (fun _ => 0)))), (q4, .inl (E.2.1.2.1, 3001, .inl (fun _ => 0))), (q5, .inl (E.2.1.2.1, 3001, .inl (fun _ => 0))), (q6, .inl (E.2.1.2.1, 3001, .inl (fun _ => 0))), (q7, .inl (E.2.1.2.1, 3001, .inl (fun _ => 0))), (q8, .inl (E.2.1.2.1, 3001, .inl (fun _ => 0)))] : va_W) := hw
    refine r_putF C0 hA hw 0 rfl rfl hiX4_init_X4 tyX4 tyX4_ok nmX4 7 (by decide) lkX4_init_34 rfl rfl rfl rfl rfl (Nat.le_of_ble_eq_true rfl) dX4_init_73 () (fun _ => ([(h, .inr (4, [.ref q1, .ref q2, .ref q3, .ref q4, .ref q5, .ref q6, .ref q7, .ref q8])), (q1, .inl (E.2.1.2.1, 3001, .inl (fun _ => 0))), (q2, .inl (E.2.1.2.1, 3001, .inl (fun _ => 0))), (q3, .inl (E.2.1.2.2, 3001, .inr (.inl (fun _ => 0)))), (q4, .inl (E.2.1.2.1, 3001, .inl (fun _ => 0))), (q5, .inl (E.2.1.2.1, 3001, .inl (fun _ => 0))), (q6, .inl (E.2.1.2.1, 3001, .inl (fun _ => 0))), (q7, .inl (E.2.1.2.1, 3001, .inl (fun _ => 0))), (q8, .inl (E.2.1.2.1, 3001, .inl (fun _ => 0)))] : va_W)) rfl (fun _ _ H locs hw => ?_)
    have hw := hw.sub (w' := wL E (fun k => ([h, q1, q2, q3, q4, q5, q6, q7, q8] : List Nat).getD k 0) iX4) [0, 1, 2, 3, 4, 5, 6, 7, 8] rfl rfl
    exact r_vret C0 hw dX4_init_76 ⟨rfl, (fun k => ([h, q1, q2, q3, q4, q5, q6, q7, q8] : List Nat).getD k 0), rfl, rfl⟩)
def iX6 : OS := zOS
theorem lkX6_init_9 : Cond.fieldLink RX6 9 (TX6 0).1 (TX6 0).2.1 (TX6 0).2.2.1 ∈ wsX6_init := by decide +kernel
theorem lkX6_init_15 : Cond.fieldLink RX6 15 (TX6 1).1 (TX6 1).2.1 (TX6 1).2.2.1 ∈ wsX6_init := by decide +kernel
theorem haX6_init_char : Cond.arrayClass .char ∈ wsX6_init := by decide +kernel
theorem hiX6_init_X6 : ∀ w ∈ u_ws RX6 TX6 2, w ∈ wsX6_init := by decide +kernel
set_option maxHeartbeats 4000000 in
set_option maxRecDepth 100000 in
theorem tX6_init (l : Launch) (E : EV) (h : Nat) : CT l yX6_init wsX6_init ({ frames := 1, cells := 1, slots := 1200, locals := 20 } : Room) E [.ref h] [(h, .inr (6, [.null, .int 0]))] (fun v w1 => v = none ∧ ∃ ad : Nat → Nat, ad 0 = h ∧ w1 = wS E ad iX6) 1 1200 :=
  CT.of (mL := 1) (lvs := [(0, .ref h)]) (by decide +kernel) rfl (Nat.le_of_ble_eq_true rfl) rfl rfl rfl (fun p e s m below meth c A C0 hA hw ls hl => by
    have hx := C0.1
    have hb := C0.2.1
    refine lv_aload_n hx hb dX6_init_0 rfl (lv_at hl 0 rfl) ?_
    refine r_obj C0 (idx := 3) (by decide +kernel) (by decide +kernel) (by decide +kernel) hl.1 dX6_init_1 (Nat.le_of_ble_eq_true rfl) (Nat.le_of_ble_eq_true rfl) ?_
    refine lv_aload_n hx hb dX6_init_4 rfl (lv_at hl 0 rfl) ?_
    refine lv_sipush (v := 1200) hx hb dX6_init_5 (by decide) ?_
    refine r_newC C0 hA hw haX6_init_char (N := 1200) (by decide) (by decide) (by decide) (Nat.le_of_ble_eq_true rfl) (Nat.le_of_ble_eq_true rfl) dX6_init_8 (fun q1 H hw => ?_)
    refine W.cs (cells' := 1) (slots' := 1200) rfl rfl ?_
    have hw : Wd E A s _ _ ([(h, .inr (6, [.null, .int 0])), (q1, .inl (E.2.1.1, 1200, .inl (fun _ => 0)))] : va_W) := hw
    refine r_putF C0 hA hw 0 rfl rfl hiX6_init_X6 tyX6 tyX6_ok nmX6 0 (by decide) lkX6_init_9 rfl rfl rfl rfl rfl (Nat.le_of_ble_eq_true rfl) dX6_init_10 () (fun _ => ([(h, .inr (6, [.ref q1, .int 0])), (q1, .inl (E.2.1.1, 1200, .inl (fun _ => 0)))] : va_W)) rfl (fun _ _ H locs hw => ?_)
    refine lv_aload_n hx hb dX6_init_13 rfl (lv_at hl 0 rfl) ?_
    refine lv_iconst (v := 0) hx hb dX6_init_14 (by decide) ?_
    refine r_put C0 hA hw 0 rfl rfl hiX6_init_X6 tyX6 tyX6_ok nmX6 1 (by decide) lkX6_init_15 rfl rfl rfl (Nat.le_of_ble_eq_true rfl) dX6_init_15 () (fun _ => ([(h, .inr (6, [.ref q1, .int 0])), (q1, .inl (E.2.1.1, 1200, .inl (fun _ => 0)))] : va_W)) rfl (fun _ _ H locs hw => ?_)
    have hw := hw.sub (w' := wS E (fun k => ([h, q1] : List Nat).getD k 0) iX6) [0, 1] rfl rfl
    exact r_vret C0 hw dX6_init_18 ⟨rfl, (fun k => ([h, q1] : List Nat).getD k 0), rfl, rfl⟩)
def iX7 : OS := sR (zOS) 0 (upd (upd (upd (upd (upd (upd (upd (upd (upd (upd (upd (upd (fun _ => 0) (0 : Int32).toNatClampNeg 0) (1 : Int32).toNatClampNeg 1) (2 : Int32).toNatClampNeg 2) (3 : Int32).toNatClampNeg 3) (4 : Int32).toNatClampNeg 4) (5 : Int32).toNatClampNeg 5) (6 : Int32).toNatClampNeg 6) (7 : Int32).toNatClampNeg 7) (8 : Int32).toNatClampNeg 8) (9 : Int32).toNatClampNeg 9) (10 : Int32).toNatClampNeg 10) (11 : Int32).toNatClampNeg 11)
theorem lkX7_init_9 : Cond.fieldLink RX7 9 (TX7 0).1 (TX7 0).2.1 (TX7 0).2.2.1 ∈ wsX7_init := by decide +kernel
theorem haX7_init_int : Cond.arrayClass .int ∈ wsX7_init := by decide +kernel
theorem hiX7_init_X7 : ∀ w ∈ u_ws RX7 TX7 1, w ∈ wsX7_init := by decide +kernel
set_option maxHeartbeats 4000000 in
set_option maxRecDepth 100000 in
theorem tX7_init (l : Launch) (E : EV) (h : Nat) : CT l yX7_init wsX7_init ({ frames := 1, cells := 1, slots := 12, locals := 20 } : Room) E [.ref h] [(h, .inr (7, [.null]))] (fun v w1 => v = none ∧ ∃ ad : Nat → Nat, ad 0 = h ∧ w1 = wW E ad iX7) 1 12 :=
  CT.of (mL := 1) (lvs := [(0, .ref h)]) (by decide +kernel) rfl (Nat.le_of_ble_eq_true rfl) rfl rfl rfl (fun p e s m below meth c A C0 hA hw ls hl => by
    have hx := C0.1
    have hb := C0.2.1
    refine lv_aload_n hx hb dX7_init_0 rfl (lv_at hl 0 rfl) ?_
    refine r_obj C0 (idx := 3) (by decide +kernel) (by decide +kernel) (by decide +kernel) hl.1 dX7_init_1 (Nat.le_of_ble_eq_true rfl) (Nat.le_of_ble_eq_true rfl) ?_
    refine lv_aload_n hx hb dX7_init_4 rfl (lv_at hl 0 rfl) ?_
    refine lv_bipush (v := 12) hx hb dX7_init_5 (by decide) ?_
    refine r_newI C0 hA hw haX7_init_int (N := 12) (by decide) (by decide) (by decide) (Nat.le_of_ble_eq_true rfl) (Nat.le_of_ble_eq_true rfl) dX7_init_7 (fun q1 H hw => ?_)
    refine W.cs (cells' := 1) (slots' := 12) rfl rfl ?_
    have hw : Wd E A s _ _ ([(h, .inr (7, [.null])), (q1, .inl (E.2.1.2.1, 12, .inl (fun _ => 0)))] : va_W) := hw
    refine lv_dup hx hb dX7_init_9 rfl ?_
    refine lv_iconst (v := 0) hx hb dX7_init_10 (by decide) ?_
    refine lv_iconst (v := 0) hx hb dX7_init_11 (by decide) ?_
    refine r_ist C0 hA hw 1 rfl (by unfold vp_in; decide) dX7_init_12 () (fun _ => ([(h, .inr (7, [.null])), (q1, .inl (E.2.1.2.1, 12, .inl (upd (fun _ => 0) (0 : Int32).toNatClampNeg 0)))] : va_W)) rfl (fun _ _ H locs hw => ?_)
    refine lv_dup hx hb dX7_init_13 rfl ?_
    refine lv_iconst (v := 1) hx hb dX7_init_14 (by decide) ?_
    refine lv_iconst (v := 1) hx hb dX7_init_15 (by decide) ?_
    refine r_ist C0 hA hw 1 rfl (by unfold vp_in; decide) dX7_init_16 () (fun _ => ([(h, .inr (7, [.null])), (q1, .inl (E.2.1.2.1, 12, .inl (upd (upd (fun _ => 0) (0 : Int32).toNatClampNeg 0) (1 : Int32).toNatClampNeg 1)))] : va_W)) rfl (fun _ _ H locs hw => ?_)
    refine lv_dup hx hb dX7_init_17 rfl ?_
    refine lv_iconst (v := 2) hx hb dX7_init_18 (by decide) ?_
    refine lv_iconst (v := 2) hx hb dX7_init_19 (by decide) ?_
    refine r_ist C0 hA hw 1 rfl (by unfold vp_in; decide) dX7_init_20 () (fun _ => ([(h, .inr (7, [.null])), (q1, .inl (E.2.1.2.1, 12, .inl (upd (upd (upd (fun _ => 0) (0 : Int32).toNatClampNeg 0) (1 : Int32).toNatClampNeg 1) (2 : Int32).toNatClampNeg 2)))] : va_W)) rfl (fun _ _ H locs hw => ?_)
    refine lv_dup hx hb dX7_init_21 rfl ?_
    refine lv_iconst (v := 3) hx hb dX7_init_22 (by decide) ?_
    refine lv_iconst (v := 3) hx hb dX7_init_23 (by decide) ?_
    refine r_ist C0 hA hw 1 rfl (by unfold vp_in; decide) dX7_init_24 () (fun _ => ([(h, .inr (7, [.null])), (q1, .inl (E.2.1.2.1, 12, .inl (upd (upd (upd (upd (fun _ => 0) (0 : Int32).toNatClampNeg 0) (1 : Int32).toNatClampNeg 1) (2 : Int32).toNatClampNeg 2) (3 : Int32).toNatClampNeg 3)))] : va_W)) rfl (fun _ _ H locs hw => ?_)
    refine lv_dup hx hb dX7_init_25 rfl ?_
    refine lv_iconst (v := 4) hx hb dX7_init_26 (by decide) ?_
    refine lv_iconst (v := 4) hx hb dX7_init_27 (by decide) ?_
    refine r_ist C0 hA hw 1 rfl (by unfold vp_in; decide) dX7_init_28 () (fun _ => ([(h, .inr (7, [.null])), (q1, .inl (E.2.1.2.1, 12, .inl (upd (upd (upd (upd (upd (fun _ => 0) (0 : Int32).toNatClampNeg 0) (1 : Int32).toNatClampNeg 1) (2 : Int32).toNatClampNeg 2) (3 : Int32).toNatClampNeg 3) (4 : Int32).toNatClampNeg 4)))] : va_W)) rfl (fun _ _ H locs hw => ?_)
    refine lv_dup hx hb dX7_init_29 rfl ?_
    refine lv_iconst (v := 5) hx hb dX7_init_30 (by decide) ?_
    refine lv_iconst (v := 5) hx hb dX7_init_31 (by decide) ?_
    refine r_ist C0 hA hw 1 rfl (by unfold vp_in; decide) dX7_init_32 () (fun _ => ([(h, .inr (7, [.null])), (q1, .inl (E.2.1.2.1, 12, .inl (upd (upd (upd (upd (upd (upd (fun _ => 0) (0 : Int32).toNatClampNeg 0) (1 : Int32).toNatClampNeg 1) (2 : Int32).toNatClampNeg 2) (3 : Int32).toNatClampNeg 3) (4 : Int32).toNatClampNeg 4) (5 : Int32).toNatClampNeg 5)))] : va_W)) rfl (fun _ _ H locs hw => ?_)
    refine lv_dup hx hb dX7_init_33 rfl ?_
    refine lv_bipush (v := 6) hx hb dX7_init_34 (by decide) ?_
    refine lv_bipush (v := 6) hx hb dX7_init_36 (by decide) ?_
    refine r_ist C0 hA hw 1 rfl (by unfold vp_in; decide) dX7_init_38 () (fun _ => ([(h, .inr (7, [.null])), (q1, .inl (E.2.1.2.1, 12, .inl (upd (upd (upd (upd (upd (upd (upd (fun _ => 0) (0 : Int32).toNatClampNeg 0) (1 : Int32).toNatClampNeg 1) (2 : Int32).toNatClampNeg 2) (3 : Int32).toNatClampNeg 3) (4 : Int32).toNatClampNeg 4) (5 : Int32).toNatClampNeg 5) (6 : Int32).toNatClampNeg 6)))] : va_W)) rfl (fun _ _ H locs hw => ?_)
    refine lv_dup hx hb dX7_init_39 rfl ?_
    refine lv_bipush (v := 7) hx hb dX7_init_40 (by decide) ?_
    refine lv_bipush (v := 7) hx hb dX7_init_42 (by decide) ?_
    refine r_ist C0 hA hw 1 rfl (by unfold vp_in; decide) dX7_init_44 () (fun _ => ([(h, .inr (7, [.null])), (q1, .inl (E.2.1.2.1, 12, .inl (upd (upd (upd (upd (upd (upd (upd (upd (fun _ => 0) (0 : Int32).toNatClampNeg 0) (1 : Int32).toNatClampNeg 1) (2 : Int32).toNatClampNeg 2) (3 : Int32).toNatClampNeg 3) (4 : Int32).toNatClampNeg 4) (5 : Int32).toNatClampNeg 5) (6 : Int32).toNatClampNeg 6) (7 : Int32).toNatClampNeg 7)))] : va_W)) rfl (fun _ _ H locs hw => ?_)
    refine lv_dup hx hb dX7_init_45 rfl ?_
    refine lv_bipush (v := 8) hx hb dX7_init_46 (by decide) ?_
    refine lv_bipush (v := 8) hx hb dX7_init_48 (by decide) ?_
    refine r_ist C0 hA hw 1 rfl (by unfold vp_in; decide) dX7_init_50 () (fun _ => ([(h, .inr (7, [.null])), (q1, .inl (E.2.1.2.1, 12, .inl (upd (upd (upd (upd (upd (upd (upd (upd (upd (fun _ => 0) (0 : Int32).toNatClampNeg 0) (1 : Int32).toNatClampNeg 1) (2 : Int32).toNatClampNeg 2) (3 : Int32).toNatClampNeg 3) (4 : Int32).toNatClampNeg 4) (5 : Int32).toNatClampNeg 5) (6 : Int32).toNatClampNeg 6) (7 : Int32).toNatClampNeg 7) (8 : Int32).toNatClampNeg 8)))] : va_W)) rfl (fun _ _ H locs hw => ?_)
    refine lv_dup hx hb dX7_init_51 rfl ?_
    refine lv_bipush (v := 9) hx hb dX7_init_52 (by decide) ?_
    refine lv_bipush (v := 9) hx hb dX7_init_54 (by decide) ?_
    refine r_ist C0 hA hw 1 rfl (by unfold vp_in; decide) dX7_init_56 () (fun _ => ([(h, .inr (7, [.null])), (q1, .inl (E.2.1.2.1, 12, .inl (upd (upd (upd (upd (upd (upd (upd (upd (upd (upd (fun _ => 0) (0 : Int32).toNatClampNeg 0) (1 : Int32).toNatClampNeg 1) (2 : Int32).toNatClampNeg 2) (3 : Int32).toNatClampNeg 3) (4 : Int32).toNatClampNeg 4) (5 : Int32).toNatClampNeg 5) (6 : Int32).toNatClampNeg 6) (7 : Int32).toNatClampNeg 7) (8 : Int32).toNatClampNeg 8) (9 : Int32).toNatClampNeg 9)))] : va_W)) rfl (fun _ _ H locs hw => ?_)
    refine lv_dup hx hb dX7_init_57 rfl ?_
    refine lv_bipush (v := 10) hx hb dX7_init_58 (by decide) ?_
    refine lv_bipush (v := 10) hx hb dX7_init_60 (by decide) ?_
    refine r_ist C0 hA hw 1 rfl (by unfold vp_in; decide) dX7_init_62 () (fun _ => ([(h, .inr (7, [.null])), (q1, .inl (E.2.1.2.1, 12, .inl (upd (upd (upd (upd (upd (upd (upd (upd (upd (upd (upd (fun _ => 0) (0 : Int32).toNatClampNeg 0) (1 : Int32).toNatClampNeg 1) (2 : Int32).toNatClampNeg 2) (3 : Int32).toNatClampNeg 3) (4 : Int32).toNatClampNeg 4) (5 : Int32).toNatClampNeg 5) (6 : Int32).toNatClampNeg 6) (7 : Int32).toNatClampNeg 7) (8 : Int32).toNatClampNeg 8) (9 : Int32).toNatClampNeg 9) (10 : Int32).toNatClampNeg 10)))] : va_W)) rfl (fun _ _ H locs hw => ?_)
    refine lv_dup hx hb dX7_init_63 rfl ?_
    refine lv_bipush (v := 11) hx hb dX7_init_64 (by decide) ?_
    refine lv_bipush (v := 11) hx hb dX7_init_66 (by decide) ?_
    refine r_ist C0 hA hw 1 rfl (by unfold vp_in; decide) dX7_init_68 () (fun _ => ([(h, .inr (7, [.null])), (q1, .inl (E.2.1.2.1, 12, .inl (upd (upd (upd (upd (upd (upd (upd (upd (upd (upd (upd (upd (fun _ => 0) (0 : Int32).toNatClampNeg 0) (1 : Int32).toNatClampNeg 1) (2 : Int32).toNatClampNeg 2) (3 : Int32).toNatClampNeg 3) (4 : Int32).toNatClampNeg 4) (5 : Int32).toNatClampNeg 5) (6 : Int32).toNatClampNeg 6) (7 : Int32).toNatClampNeg 7) (8 : Int32).toNatClampNeg 8) (9 : Int32).toNatClampNeg 9) (10 : Int32).toNatClampNeg 10) (11 : Int32).toNatClampNeg 11)))] : va_W)) rfl (fun _ _ H locs hw => ?_)
    refine r_putF C0 hA hw 0 rfl rfl hiX7_init_X7 tyX7 tyX7_ok nmX7 0 (by decide) lkX7_init_9 rfl rfl rfl rfl rfl (Nat.le_of_ble_eq_true rfl) dX7_init_69 () (fun _ => ([(h, .inr (7, [.ref q1])), (q1, .inl (E.2.1.2.1, 12, .inl (upd (upd (upd (upd (upd (upd (upd (upd (upd (upd (upd (upd (fun _ => 0) (0 : Int32).toNatClampNeg 0) (1 : Int32).toNatClampNeg 1) (2 : Int32).toNatClampNeg 2) (3 : Int32).toNatClampNeg 3) (4 : Int32).toNatClampNeg 4) (5 : Int32).toNatClampNeg 5) (6 : Int32).toNatClampNeg 6) (7 : Int32).toNatClampNeg 7) (8 : Int32).toNatClampNeg 8) (9 : Int32).toNatClampNeg 9) (10 : Int32).toNatClampNeg 10) (11 : Int32).toNatClampNeg 11)))] : va_W)) rfl (fun _ _ H locs hw => ?_)
    have hw := hw.sub (w' := wW E (fun k => ([h, q1] : List Nat).getD k 0) iX7) [0, 1] rfl rfl
    exact r_vret C0 hw dX7_init_72 ⟨rfl, (fun k => ([h, q1] : List Nat).getD k 0), rfl, rfl⟩)
def iX8 : OS := zOS
theorem lkX8_init_9 : Cond.fieldLink RX8 9 (TX8 0).1 (TX8 0).2.1 (TX8 0).2.2.1 ∈ wsX8_init := by decide +kernel
theorem lkX8_init_15 : Cond.fieldLink RX8 15 (TX8 1).1 (TX8 1).2.1 (TX8 1).2.2.1 ∈ wsX8_init := by decide +kernel
theorem lkX8_init_18 : Cond.fieldLink RX8 18 (TX8 2).1 (TX8 2).2.1 (TX8 2).2.2.1 ∈ wsX8_init := by decide +kernel
theorem lkX8_init_21 : Cond.fieldLink RX8 21 (TX8 3).1 (TX8 3).2.1 (TX8 3).2.2.1 ∈ wsX8_init := by decide +kernel
theorem lkX8_init_24 : Cond.fieldLink RX8 24 (TX8 4).1 (TX8 4).2.1 (TX8 4).2.2.1 ∈ wsX8_init := by decide +kernel
theorem lkX8_init_27 : Cond.fieldLink RX8 27 (TX8 5).1 (TX8 5).2.1 (TX8 5).2.2.1 ∈ wsX8_init := by decide +kernel
theorem lkX8_init_30 : Cond.fieldLink RX8 30 (TX8 6).1 (TX8 6).2.1 (TX8 6).2.2.1 ∈ wsX8_init := by decide +kernel
theorem haX8_init_int : Cond.arrayClass .int ∈ wsX8_init := by decide +kernel
theorem hiX8_init_X8 : ∀ w ∈ u_ws RX8 TX8 7, w ∈ wsX8_init := by decide +kernel
set_option maxHeartbeats 4000000 in
set_option maxRecDepth 100000 in
theorem tX8_init (l : Launch) (E : EV) (h : Nat) : CT l yX8_init wsX8_init ({ frames := 1, cells := 6, slots := 1536, locals := 20 } : Room) E [.ref h] [(h, .inr (8, [.null, .null, .null, .null, .null, .null, .int 0]))] (fun v w1 => v = none ∧ ∃ ad : Nat → Nat, ad 0 = h ∧ w1 = wU E ad iX8) 6 1536 :=
  CT.of (mL := 1) (lvs := [(0, .ref h)]) (by decide +kernel) rfl (Nat.le_of_ble_eq_true rfl) rfl rfl rfl (fun p e s m below meth c A C0 hA hw ls hl => by
    have hx := C0.1
    have hb := C0.2.1
    refine lv_aload_n hx hb dX8_init_0 rfl (lv_at hl 0 rfl) ?_
    refine r_obj C0 (idx := 3) (by decide +kernel) (by decide +kernel) (by decide +kernel) hl.1 dX8_init_1 (Nat.le_of_ble_eq_true rfl) (Nat.le_of_ble_eq_true rfl) ?_
    refine lv_aload_n hx hb dX8_init_4 rfl (lv_at hl 0 rfl) ?_
    refine lv_sipush (v := 256) hx hb dX8_init_5 (by decide) ?_
    refine r_newI C0 hA hw haX8_init_int (N := 256) (by decide) (by decide) (by decide) (Nat.le_of_ble_eq_true rfl) (Nat.le_of_ble_eq_true rfl) dX8_init_8 (fun q1 H hw => ?_)
    refine W.cs (cells' := 1) (slots' := 256) rfl rfl ?_
    have hw : Wd E A s _ _ ([(h, .inr (8, [.null, .null, .null, .null, .null, .null, .int 0])), (q1, .inl (E.2.1.2.1, 256, .inl (fun _ => 0)))] : va_W) := hw
    refine r_putF C0 hA hw 0 rfl rfl hiX8_init_X8 tyX8 tyX8_ok nmX8 0 (by decide) lkX8_init_9 rfl rfl rfl rfl rfl (Nat.le_of_ble_eq_true rfl) dX8_init_10 () (fun _ => ([(h, .inr (8, [.ref q1, .null, .null, .null, .null, .null, .int 0])), (q1, .inl (E.2.1.2.1, 256, .inl (fun _ => 0)))] : va_W)) rfl (fun _ _ H locs hw => ?_)
    refine lv_aload_n hx hb dX8_init_13 rfl (lv_at hl 0 rfl) ?_
    refine lv_sipush (v := 256) hx hb dX8_init_14 (by decide) ?_
    refine r_newI C0 hA hw haX8_init_int (N := 256) (by decide) (by decide) (by decide) (Nat.le_of_ble_eq_true rfl) (Nat.le_of_ble_eq_true rfl) dX8_init_17 (fun q2 H hw => ?_)
    refine W.cs (cells' := 2) (slots' := 512) rfl rfl ?_
    have hw : Wd E A s _ _ ([(h, .inr (8, [.ref q1, .null, .null, .null, .null, .null, .int 0])), (q1, .inl (E.2.1.2.1, 256, .inl (fun _ => 0))), (q2, .inl (E.2.1.2.1, 256, .inl (fun _ => 0)))] : va_W) := hw
    refine r_putF C0 hA hw 0 rfl rfl hiX8_init_X8 tyX8 tyX8_ok nmX8 1 (by decide) lkX8_init_15 rfl rfl rfl rfl rfl (Nat.le_of_ble_eq_true rfl) dX8_init_19 () (fun _ => ([(h, .inr (8, [.ref q1, .ref q2, .null, .null, .null, .null, .int 0])), (q1, .inl (E.2.1.2.1, 256, .inl (fun _ => 0))), (q2, .inl (E.2.1.2.1, 256, .inl (fun _ => 0)))] : va_W)) rfl (fun _ _ H locs hw => ?_)
    refine lv_aload_n hx hb dX8_init_22 rfl (lv_at hl 0 rfl) ?_
    refine lv_sipush (v := 256) hx hb dX8_init_23 (by decide) ?_
    refine r_newI C0 hA hw haX8_init_int (N := 256) (by decide) (by decide) (by decide) (Nat.le_of_ble_eq_true rfl) (Nat.le_of_ble_eq_true rfl) dX8_init_26 (fun q3 H hw => ?_)
    refine W.cs (cells' := 3) (slots' := 768) rfl rfl ?_
    have hw : Wd E A s _ _ ([(h, .inr (8, [.ref q1, .ref q2, .null, .null, .null, .null, .int 0])), (q1, .inl (E.2.1.2.1, 256, .inl (fun _ => 0))), (q2, .inl (E.2.1.2.1, 256, .inl (fun _ => 0))), (q3, .inl (E.2.1.2.1, 256, .inl (fun _ => 0)))] : va_W) := hw
    refine r_putF C0 hA hw 0 rfl rfl hiX8_init_X8 tyX8 tyX8_ok nmX8 2 (by decide) lkX8_init_18 rfl rfl rfl rfl rfl (Nat.le_of_ble_eq_true rfl) dX8_init_28 () (fun _ => ([(h, .inr (8, [.ref q1, .ref q2, .ref q3, .null, .null, .null, .int 0])), (q1, .inl (E.2.1.2.1, 256, .inl (fun _ => 0))), (q2, .inl (E.2.1.2.1, 256, .inl (fun _ => 0))), (q3, .inl (E.2.1.2.1, 256, .inl (fun _ => 0)))] : va_W)) rfl (fun _ _ H locs hw => ?_)
    refine lv_aload_n hx hb dX8_init_31 rfl (lv_at hl 0 rfl) ?_
    refine lv_sipush (v := 256) hx hb dX8_init_32 (by decide) ?_
    refine r_newI C0 hA hw haX8_init_int (N := 256) (by decide) (by decide) (by decide) (Nat.le_of_ble_eq_true rfl) (Nat.le_of_ble_eq_true rfl) dX8_init_35 (fun q4 H hw => ?_)
    refine W.cs (cells' := 4) (slots' := 1024) rfl rfl ?_
    have hw : Wd E A s _ _ ([(h, .inr (8, [.ref q1, .ref q2, .ref q3, .null, .null, .null, .int 0])), (q1, .inl (E.2.1.2.1, 256, .inl (fun _ => 0))), (q2, .inl (E.2.1.2.1, 256, .inl (fun _ => 0))), (q3, .inl (E.2.1.2.1, 256, .inl (fun _ => 0))), (q4, .inl (E.2.1.2.1, 256, .inl (fun _ => 0)))] : va_W) := hw
    refine r_putF C0 hA hw 0 rfl rfl hiX8_init_X8 tyX8 tyX8_ok nmX8 3 (by decide) lkX8_init_21 rfl rfl rfl rfl rfl (Nat.le_of_ble_eq_true rfl) dX8_init_37 () (fun _ => ([(h, .inr (8, [.ref q1, .ref q2, .ref q3, .ref q4, .null, .null, .int 0])), (q1, .inl (E.2.1.2.1, 256, .inl (fun _ => 0))), (q2, .inl (E.2.1.2.1, 256, .inl (fun _ => 0))), (q3, .inl (E.2.1.2.1, 256, .inl (fun _ => 0))), (q4, .inl (E.2.1.2.1, 256, .inl (fun _ => 0)))] : va_W)) rfl (fun _ _ H locs hw => ?_)
    refine lv_aload_n hx hb dX8_init_40 rfl (lv_at hl 0 rfl) ?_
    refine lv_sipush (v := 256) hx hb dX8_init_41 (by decide) ?_
    refine r_newI C0 hA hw haX8_init_int (N := 256) (by decide) (by decide) (by decide) (Nat.le_of_ble_eq_true rfl) (Nat.le_of_ble_eq_true rfl) dX8_init_44 (fun q5 H hw => ?_)
    refine W.cs (cells' := 5) (slots' := 1280) rfl rfl ?_
    have hw : Wd E A s _ _ ([(h, .inr (8, [.ref q1, .ref q2, .ref q3, .ref q4, .null, .null, .int 0])), (q1, .inl (E.2.1.2.1, 256, .inl (fun _ => 0))), (q2, .inl (E.2.1.2.1, 256, .inl (fun _ => 0))), (q3, .inl (E.2.1.2.1, 256, .inl (fun _ => 0))), (q4, .inl (E.2.1.2.1, 256, .inl (fun _ => 0))), (q5, .inl (E.2.1.2.1, 256, .inl (fun _ => 0)))] : va_W) := hw
    refine r_putF C0 hA hw 0 rfl rfl hiX8_init_X8 tyX8 tyX8_ok nmX8 4 (by decide) lkX8_init_24 rfl rfl rfl rfl rfl (Nat.le_of_ble_eq_true rfl) dX8_init_46 () (fun _ => ([(h, .inr (8, [.ref q1, .ref q2, .ref q3, .ref q4, .ref q5, .null, .int 0])), (q1, .inl (E.2.1.2.1, 256, .inl (fun _ => 0))), (q2, .inl (E.2.1.2.1, 256, .inl (fun _ => 0))), (q3, .inl (E.2.1.2.1, 256, .inl (fun _ => 0))), (q4, .inl (E.2.1.2.1, 256, .inl (fun _ => 0))), (q5, .inl (E.2.1.2.1, 256, .inl (fun _ => 0)))] : va_W)) rfl (fun _ _ H locs hw => ?_)
    refine lv_aload_n hx hb dX8_init_49 rfl (lv_at hl 0 rfl) ?_
    refine lv_sipush (v := 256) hx hb dX8_init_50 (by decide) ?_
    refine r_newI C0 hA hw haX8_init_int (N := 256) (by decide) (by decide) (by decide) (Nat.le_of_ble_eq_true rfl) (Nat.le_of_ble_eq_true rfl) dX8_init_53 (fun q6 H hw => ?_)
    refine W.cs (cells' := 6) (slots' := 1536) rfl rfl ?_
    have hw : Wd E A s _ _ ([(h, .inr (8, [.ref q1, .ref q2, .ref q3, .ref q4, .ref q5, .null, .int 0])), (q1, .inl (E.2.1.2.1, 256, .inl (fun _ => 0))), (q2, .inl (E.2.1.2.1, 256, .inl (fun _ => 0))), (q3, .inl (E.2.1.2.1, 256, .inl (fun _ => 0))), (q4, .inl (E.2.1.2.1, 256, .inl (fun _ => 0))), (q5, .inl (E.2.1.2.1, 256, .inl (fun _ => 0))), (q6, .inl (E.2.1.2.1, 256, .inl (fun _ => 0)))] : va_W) := hw
    refine r_putF C0 hA hw 0 rfl rfl hiX8_init_X8 tyX8 tyX8_ok nmX8 5 (by decide) lkX8_init_27 rfl rfl rfl rfl rfl (Nat.le_of_ble_eq_true rfl) dX8_init_55 () (fun _ => ([(h, .inr (8, [.ref q1, .ref q2, .ref q3, .ref q4, .ref q5, .ref q6, .int 0])), (q1, .inl (E.2.1.2.1, 256, .inl (fun _ => 0))), (q2, .inl (E.2.1.2.1, 256, .inl (fun _ => 0))), (q3, .inl (E.2.1.2.1, 256, .inl (fun _ => 0))), (q4, .inl (E.2.1.2.1, 256, .inl (fun _ => 0))), (q5, .inl (E.2.1.2.1, 256, .inl (fun _ => 0))), (q6, .inl (E.2.1.2.1, 256, .inl (fun _ => 0)))] : va_W)) rfl (fun _ _ H locs hw => ?_)
    refine lv_aload_n hx hb dX8_init_58 rfl (lv_at hl 0 rfl) ?_
    refine lv_iconst (v := 0) hx hb dX8_init_59 (by decide) ?_
    refine r_put C0 hA hw 0 rfl rfl hiX8_init_X8 tyX8 tyX8_ok nmX8 6 (by decide) lkX8_init_30 rfl rfl rfl (Nat.le_of_ble_eq_true rfl) dX8_init_60 () (fun _ => ([(h, .inr (8, [.ref q1, .ref q2, .ref q3, .ref q4, .ref q5, .ref q6, .int 0])), (q1, .inl (E.2.1.2.1, 256, .inl (fun _ => 0))), (q2, .inl (E.2.1.2.1, 256, .inl (fun _ => 0))), (q3, .inl (E.2.1.2.1, 256, .inl (fun _ => 0))), (q4, .inl (E.2.1.2.1, 256, .inl (fun _ => 0))), (q5, .inl (E.2.1.2.1, 256, .inl (fun _ => 0))), (q6, .inl (E.2.1.2.1, 256, .inl (fun _ => 0)))] : va_W)) rfl (fun _ _ H locs hw => ?_)
    have hw := hw.sub (w' := wU E (fun k => ([h, q1, q2, q3, q4, q5, q6] : List Nat).getD k 0) iX8) [0, 1, 2, 3, 4, 5, 6] rfl rfl
    exact r_vret C0 hw dX8_init_63 ⟨rfl, (fun k => ([h, q1, q2, q3, q4, q5, q6] : List Nat).getD k 0), rfl, rfl⟩)

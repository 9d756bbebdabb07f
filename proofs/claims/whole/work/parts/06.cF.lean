theorem lkX9_text_12 : Cond.fieldLink RX9 12 (TX9 0).1 (TX9 0).2.1 (TX9 0).2.2.1 ∈ wsX9_text := by decide +kernel
theorem hiX9_text_X9 : ∀ w ∈ u_ws RX9 TX9 9, w ∈ wsX9_text := by decide +kernel
def mX9_text_b0 (F : Nat)  (zt : OS) (zs : OS) (zg : OS) (zh : OS) (zu : OS) (zl : OS) (zc : OS) (zw : OS) (a1 : Int64) : Option (Int32 × OS) := b2 (mX6_append F zs a1) (fun r1 zs2 => some (r1, zs2))
def mX9_text (F : Nat) (zt : OS) (zs : OS) (zg : OS) (zh : OS) (zu : OS) (zl : OS) (zc : OS) (zw : OS) (a1 : Int64) : Option (Int32 × OS) := mX9_text_b0 F zt zs zg zh zu zl zc zw a1
set_option maxRecDepth 20000 in
theorem kX9_text_b0 {p : Program} {l : Launch} {e : Env} {s : State} {m : MethodId} {args : Array Value} {below : List Frame} {meth : Method} {c : Code} {A : Nat → Prop} {E : EV} {ad : Nat → Nat} (F : Nat) {zt : OS} {zg : OS} {zh : OS} {zu : OS} {zl : OS} {zc : OS} {zw : OS} {r : Int32} {zs' : OS} (C0 : Cx RX9 "text" cX9_text (some .int) 3 wsX9_text p s m args meth c) (hA : Ax E A s) : ∀ (zs : OS) (a1 : Int64) (H : Heap) (locs : List Loc) (ls : Array Slot), mX9_text_b0 F zt zs zg zh zu zl zc zw a1 = some (r, zs') → Wd E A s H locs (wX E ad zt zs zg zh zu zl zc zw) → lv_has ls 3 [(0, .ref (ad 0)), (1, .long a1)] → W p l e ({ frames := 3, cells := 0, slots := 0, locals := 67 } : Room) s m args below meth c H locs 0 0 (MQ below (QG E (Qd (some (.int r)) (wX E ad zt zs' zg zh zu zl zc zw)) A) args s 0 0 A) (F0 m 0 ls []) := by
  have hx := C0.1
  have hb := C0.2.1
  intro zs a1 H locs ls hm hw hl
  unfold mX9_text_b0 at hm
  refine lv_aload_n hx hb dX9_text_0 rfl (lv_at hl 0 rfl) ?_
  refine gX_0_0 C0 hA hw hiX9_text_X9 lkX9_text_12 dX9_text_1 ?_
  refine lv_lload_n hx hb dX9_text_4 rfl (lv_at hl 1 rfl) ?_
  obtain ⟨r1, zs2, h3, hm⟩ := b2_some hm
  refine r_backP (va_runV (As := [.long a1]) (rest := []) ⟨hx, hb, C0.2.2.2.1, C0.2.2.2.2.1, C0.2.2.2.2.2.1⟩ (tX6_append l E (fun k => ad (k + 2)) F zs a1 h3 H.size) (cwV 1 C0.2.2.2.2.2.1 gX9_text_X6_append rfl rfl rfl (by decide +kernel) ⟨Nat.le_of_ble_eq_true rfl, Nat.le_of_ble_eq_true rfl⟩) ⟨PG_blind, va_recv hA.2.2.1.1 hw.1 (ci := 6) (q0 := 2) rfl rfl, pg_at hA hw [2, 3] rfl (wcX_zs E ad zt zs zg zh zu zl zc zw)⟩ rfl rfl hl.1 rfl (lv_room (Nat.le_of_ble_eq_true rfl)) dX9_text_5 ⟨Nat.zero_le _, Nat.zero_le _⟩) hA hw [2, 3] [0, 1, 4, 5, 6, 7, 8, 9, 10, 11, 12, 13, 14, 15, 16, 17, 18, 19, 20, 21, 22, 23, 24, 25, 26, 27, 28, 29, 30, 31, 32, 33, 34, 35, 36, 37, 38, 39, 40, 41, 42, 43, 44, 45, 46, 47, 48, 49] (wcX_zs E ad zt zs zg zh zu zl zc zw) (wqX_zs E ad zt zs zg zh zu zl zc zw) rfl (by decide) (fun H locs hw => ?_)
  have hw := wjX_zs zs2 hw
  obtain ⟨rfl, rfl⟩ := sj2 hm
  exact r_iret C0 hw dX9_text_8 ⟨rfl, rfl⟩
theorem tX9_text (l : Launch) (E : EV) (ad : Nat → Nat) (F : Nat) (zt : OS) (zs : OS) (zg : OS) (zh : OS) (zu : OS) (zl : OS) (zc : OS) (zw : OS) (a1 : Int64) {r : Int32} {zs' : OS} (hm : mX9_text F zt zs zg zh zu zl zc zw a1 = some (r, zs')) : CT l yX9_text wsX9_text ({ frames := 3, cells := 0, slots := 0, locals := 67 } : Room) E [.ref (ad 0), .long a1] (wX E ad zt zs zg zh zu zl zc zw) (Qd (some (.int r)) (wX E ad zt zs' zg zh zu zl zc zw)) 0 0 :=
  CT.of (mL := 3) (lvs := [(0, .ref (ad 0)), (1, .long a1)]) (by decide +kernel) rfl (Nat.le_of_ble_eq_true rfl) rfl rfl rfl (fun p e s m below meth c A C0 hA hw ls hl => kX9_text_b0 (ad := ad) F C0 hA zs a1 _ _ _ hm hw (lv_sub hl [0, 1] rfl))
theorem lkX9_cut_12 : Cond.fieldLink RX9 12 (TX9 0).1 (TX9 0).2.1 (TX9 0).2.2.1 ∈ wsX9_cut := by decide +kernel
theorem hiX9_cut_X9 : ∀ w ∈ u_ws RX9 TX9 9, w ∈ wsX9_cut := by decide +kernel
def mX9_cut_b0  (zt : OS) (zs : OS) (zg : OS) (zh : OS) (zu : OS) (zl : OS) (zc : OS) (zw : OS) (a1 : Int32) : Option (Int32 × OS) := b2 (mX6_shorten zs a1) (fun r1 zs2 => some (r1, zs2))
def mX9_cut (zt : OS) (zs : OS) (zg : OS) (zh : OS) (zu : OS) (zl : OS) (zc : OS) (zw : OS) (a1 : Int32) : Option (Int32 × OS) := mX9_cut_b0 zt zs zg zh zu zl zc zw a1
set_option maxRecDepth 20000 in
theorem kX9_cut_b0 {p : Program} {l : Launch} {e : Env} {s : State} {m : MethodId} {args : Array Value} {below : List Frame} {meth : Method} {c : Code} {A : Nat → Prop} {E : EV} {ad : Nat → Nat} {zt : OS} {zg : OS} {zh : OS} {zu : OS} {zl : OS} {zc : OS} {zw : OS} {r : Int32} {zs' : OS} (C0 : Cx RX9 "cut" cX9_cut (some .int) 2 wsX9_cut p s m args meth c) (hA : Ax E A s) : ∀ (zs : OS) (a1 : Int32) (H : Heap) (locs : List Loc) (ls : Array Slot), mX9_cut_b0 zt zs zg zh zu zl zc zw a1 = some (r, zs') → Wd E A s H locs (wX E ad zt zs zg zh zu zl zc zw) → lv_has ls 2 [(0, .ref (ad 0)), (1, .int a1)] → W p l e ({ frames := 2, cells := 0, slots := 0, locals := 44 } : Room) s m args below meth c H locs 0 0 (MQ below (QG E (Qd (some (.int r)) (wX E ad zt zs' zg zh zu zl zc zw)) A) args s 0 0 A) (F0 m 0 ls []) := by
  have hx := C0.1
  have hb := C0.2.1
  intro zs a1 H locs ls hm hw hl
  unfold mX9_cut_b0 at hm
  refine lv_aload_n hx hb dX9_cut_0 rfl (lv_at hl 0 rfl) ?_
  refine gX_0_0 C0 hA hw hiX9_cut_X9 lkX9_cut_12 dX9_cut_1 ?_
  refine lv_iload_n hx hb dX9_cut_4 rfl (lv_at hl 1 rfl) ?_
  obtain ⟨r1, zs2, h3, hm⟩ := b2_some hm
  refine r_backP (va_runV (As := [.int a1]) (rest := []) ⟨hx, hb, C0.2.2.2.1, C0.2.2.2.2.1, C0.2.2.2.2.2.1⟩ (tX6_shorten l E (fun k => ad (k + 2)) zs a1 h3 H.size) (cwV 1 C0.2.2.2.2.2.1 gX9_cut_X6_shorten rfl rfl rfl (by decide +kernel) ⟨Nat.le_of_ble_eq_true rfl, Nat.le_of_ble_eq_true rfl⟩) ⟨PG_blind, va_recv hA.2.2.1.1 hw.1 (ci := 6) (q0 := 2) rfl rfl, pg_at hA hw [2, 3] rfl (wcX_zs E ad zt zs zg zh zu zl zc zw)⟩ rfl rfl hl.1 rfl (lv_room (Nat.le_of_ble_eq_true rfl)) dX9_cut_5 ⟨Nat.zero_le _, Nat.zero_le _⟩) hA hw [2, 3] [0, 1, 4, 5, 6, 7, 8, 9, 10, 11, 12, 13, 14, 15, 16, 17, 18, 19, 20, 21, 22, 23, 24, 25, 26, 27, 28, 29, 30, 31, 32, 33, 34, 35, 36, 37, 38, 39, 40, 41, 42, 43, 44, 45, 46, 47, 48, 49] (wcX_zs E ad zt zs zg zh zu zl zc zw) (wqX_zs E ad zt zs zg zh zu zl zc zw) rfl (by decide) (fun H locs hw => ?_)
  have hw := wjX_zs zs2 hw
  obtain ⟨rfl, rfl⟩ := sj2 hm
  exact r_iret C0 hw dX9_cut_8 ⟨rfl, rfl⟩
theorem tX9_cut (l : Launch) (E : EV) (ad : Nat → Nat) (zt : OS) (zs : OS) (zg : OS) (zh : OS) (zu : OS) (zl : OS) (zc : OS) (zw : OS) (a1 : Int32) {r : Int32} {zs' : OS} (hm : mX9_cut zt zs zg zh zu zl zc zw a1 = some (r, zs')) : CT l yX9_cut wsX9_cut ({ frames := 2, cells := 0, slots := 0, locals := 44 } : Room) E [.ref (ad 0), .int a1] (wX E ad zt zs zg zh zu zl zc zw) (Qd (some (.int r)) (wX E ad zt zs' zg zh zu zl zc zw)) 0 0 :=
  CT.of (mL := 2) (lvs := [(0, .ref (ad 0)), (1, .int a1)]) (by decide +kernel) rfl (Nat.le_of_ble_eq_true rfl) rfl rfl rfl (fun p e s m below meth c A C0 hA hw ls hl => kX9_cut_b0 (ad := ad) C0 hA zs a1 _ _ _ hm hw (lv_sub hl [0, 1] rfl))
theorem lkX9_rule_19 : Cond.fieldLink RX9 19 (TX9 1).1 (TX9 1).2.1 (TX9 1).2.2.1 ∈ wsX9_rule := by decide +kernel
theorem hiX9_rule_X9 : ∀ w ∈ u_ws RX9 TX9 9, w ∈ wsX9_rule := by decide +kernel
theorem hiX9_rule_X2 : ∀ w ∈ u_ws RX2 TX2 16, w ∈ wsX9_rule := by decide +kernel
def mX9_rule_b0  (zt : OS) (zs : OS) (zg : OS) (zh : OS) (zu : OS) (zl : OS) (zc : OS) (zw : OS) (a1 : Int32) (a2 : Int32) : Option (Int32) := b1 (mX9_isWithin a1 0 25) (fun r1 => (if (r1 : Int32) = 0 then some (-2) else b1 (mX9_isWithin a2 0 1) (fun r4 => (if (r4 : Int32) = 0 then some (-2) else b1 (mX2_hasRule zg a1) (fun r7 => (if (r7 : Int32) = 0 then some (-1) else (if (a2 : Int32) = 0 then gd a1 26 (some (zg.2.2.1 1 (a1 : Int32).toNatClampNeg)) else gd a1 26 (some (zg.2.2.1 2 (a1 : Int32).toNatClampNeg)))))))))
def mX9_rule (zt : OS) (zs : OS) (zg : OS) (zh : OS) (zu : OS) (zl : OS) (zc : OS) (zw : OS) (a1 : Int32) (a2 : Int32) : Option (Int32) := mX9_rule_b0 zt zs zg zh zu zl zc zw a1 a2
set_option maxRecDepth 20000 in
theorem kX9_rule_b0 {p : Program} {l : Launch} {e : Env} {s : State} {m : MethodId} {args : Array Value} {below : List Frame} {meth : Method} {c : Code} {A : Nat → Prop} {E : EV} {ad : Nat → Nat} {zt : OS} {zs : OS} {zg : OS} {zh : OS} {zu : OS} {zl : OS} {zc : OS} {zw : OS} {r : Int32} (C0 : Cx RX9 "rule" cX9_rule (some .int) 3 wsX9_rule p s m args meth c) (hA : Ax E A s) : ∀ (a1 : Int32) (a2 : Int32) (H : Heap) (locs : List Loc) (ls : Array Slot), mX9_rule_b0 zt zs zg zh zu zl zc zw a1 a2 = some r → Wd E A s H locs (wX E ad zt zs zg zh zu zl zc zw) → lv_has ls 3 [(0, .ref (ad 0)), (1, .int a1), (2, .int a2)] → W p l e ({ frames := 2, cells := 0, slots := 0, locals := 43 } : Room) s m args below meth c H locs 0 0 (MQ below (QG E (Qd (some (.int r)) (wX E ad zt zs zg zh zu zl zc zw)) A) args s 0 0 A) (F0 m 0 ls []) := by
  have hx := C0.1
  have hb := C0.2.1
  intro a1 a2 H locs ls hm hw hl
  unfold mX9_rule_b0 at hm
  refine lv_iload_n hx hb dX9_rule_0 rfl (lv_at hl 1 rfl) ?_
  refine lv_iconst (v := 0) hx hb dX9_rule_1 (by decide) ?_
  refine lv_bipush (v := 25) hx hb dX9_rule_2 (by decide) ?_
  obtain ⟨r1, h2, hm⟩ := b1_some hm
  refine r_backZ (va_runS (As := [.int a1, .int 0, .int 25]) (rest := []) ⟨hx, hb, C0.2.2.2.1, C0.2.2.2.2.1, C0.2.2.2.2.2.1⟩ (tX9_isWithin l E a1 0 25 h2 H.size) (va_cwS 3 C0.2.2.2.2.2.1 gX9_rule_X9_isWithin rfl rfl rfl (by decide +kernel) ⟨Nat.le_of_ble_eq_true rfl, Nat.le_of_ble_eq_true rfl⟩) ⟨PG_blind, pg_nil hA hw⟩ rfl rfl hl.1 rfl (lv_room (Nat.le_of_ble_eq_true rfl)) dX9_rule_4 ⟨Nat.zero_le _, Nat.zero_le _⟩) hA hw (fun H locs hw => ?_)
  refine lv_if_eq (tgt := 19) hx hb dX9_rule_7 (by decide) (fun c3 => ?_) (fun c3 => ?_)
  · have hm := Eq.trans (if_pos c3).symm hm
    refine lv_bipush (v := (-2)) hx hb dX9_rule_19 (by decide) ?_
    obtain rfl := sj1 hm
    exact r_iret C0 hw dX9_rule_21 ⟨rfl, rfl⟩
  · have hm := Eq.trans (if_neg c3).symm hm
    refine lv_iload_n hx hb dX9_rule_10 rfl (lv_at hl 2 rfl) ?_
    refine lv_iconst (v := 0) hx hb dX9_rule_11 (by decide) ?_
    refine lv_iconst (v := 1) hx hb dX9_rule_12 (by decide) ?_
    obtain ⟨r4, h5, hm⟩ := b1_some hm
    refine r_backZ (va_runS (As := [.int a2, .int 0, .int 1]) (rest := []) ⟨hx, hb, C0.2.2.2.1, C0.2.2.2.2.1, C0.2.2.2.2.2.1⟩ (tX9_isWithin l E a2 0 1 h5 H.size) (va_cwS 3 C0.2.2.2.2.2.1 gX9_rule_X9_isWithin rfl rfl rfl (by decide +kernel) ⟨Nat.le_of_ble_eq_true rfl, Nat.le_of_ble_eq_true rfl⟩) ⟨PG_blind, pg_nil hA hw⟩ rfl rfl hl.1 rfl (lv_room (Nat.le_of_ble_eq_true rfl)) dX9_rule_13 ⟨Nat.zero_le _, Nat.zero_le _⟩) hA hw (fun H locs hw => ?_)
    refine lv_if_ne (tgt := 22) hx hb dX9_rule_16 (by decide) (fun c6 => ?_) (fun c6 => ?_)
    · have hm := Eq.trans (if_neg c6).symm hm
      refine lv_aload_n hx hb dX9_rule_22 rfl (lv_at hl 0 rfl) ?_
      refine gX_0_1 C0 hA hw hiX9_rule_X9 lkX9_rule_19 dX9_rule_23 ?_
      refine lv_iload_n hx hb dX9_rule_26 rfl (lv_at hl 1 rfl) ?_
      obtain ⟨r7, h8, hm⟩ := b1_some hm
      refine r_backP (va_runV (As := [.int a1]) (rest := []) ⟨hx, hb, C0.2.2.2.1, C0.2.2.2.2.1, C0.2.2.2.2.2.1⟩ (tX2_hasRule l E (fun k => ad (k + 4)) zg a1 h8 H.size) (cwV 1 C0.2.2.2.2.2.1 gX9_rule_X2_hasRule rfl rfl rfl (by decide +kernel) ⟨Nat.le_of_ble_eq_true rfl, Nat.le_of_ble_eq_true rfl⟩) ⟨PG_blind, va_recv hA.2.2.1.1 hw.1 (ci := 2) (q0 := 4) rfl rfl, pg_at hA hw [4, 5, 6, 7, 8, 9, 10, 11, 12, 13, 14, 15] rfl (wcX_zg E ad zt zs zg zh zu zl zc zw)⟩ rfl rfl hl.1 rfl (lv_room (Nat.le_of_ble_eq_true rfl)) dX9_rule_27 ⟨Nat.zero_le _, Nat.zero_le _⟩) hA hw [4, 5, 6, 7, 8, 9, 10, 11, 12, 13, 14, 15] [0, 1, 2, 3, 16, 17, 18, 19, 20, 21, 22, 23, 24, 25, 26, 27, 28, 29, 30, 31, 32, 33, 34, 35, 36, 37, 38, 39, 40, 41, 42, 43, 44, 45, 46, 47, 48, 49] (wcX_zg E ad zt zs zg zh zu zl zc zw) (wqX_zg E ad zt zs zg zh zu zl zc zw) rfl (by decide) (fun H locs hw => ?_)
      have hw := wjX_zg zg hw
      refine lv_if_ne (tgt := 35) hx hb dX9_rule_30 (by decide) (fun c9 => ?_) (fun c9 => ?_)
      · have hm := Eq.trans (if_neg c9).symm hm
        refine lv_iload_n hx hb dX9_rule_35 rfl (lv_at hl 2 rfl) ?_
        refine lv_if_ne (tgt := 51) hx hb dX9_rule_36 (by decide) (fun c10 => ?_) (fun c10 => ?_)
        · have hm := Eq.trans (if_neg c10).symm hm
          refine lv_aload_n hx hb dX9_rule_51 rfl (lv_at hl 0 rfl) ?_
          refine gX_0_1 C0 hA hw hiX9_rule_X9 lkX9_rule_19 dX9_rule_52 ?_
          refine gnX_4_2 C0 hA hw hiX9_rule_X2 lnX9_102 dX9_rule_55 ?_
          refine lv_iload_n hx hb dX9_rule_58 rfl (lv_at hl 1 rfl) ?_
          obtain ⟨c11, hm⟩ := gd_some hm
          refine lX_7 C0 hA hw c11 dX9_rule_59 ?_
          obtain rfl := sj1 hm
          exact r_iret C0 hw dX9_rule_60 ⟨rfl, rfl⟩
        · have hm := Eq.trans (if_pos c10).symm hm
          refine lv_aload_n hx hb dX9_rule_39 rfl (lv_at hl 0 rfl) ?_
          refine gX_0_1 C0 hA hw hiX9_rule_X9 lkX9_rule_19 dX9_rule_40 ?_
          refine gnX_4_1 C0 hA hw hiX9_rule_X2 lnX9_99 dX9_rule_43 ?_
          refine lv_iload_n hx hb dX9_rule_46 rfl (lv_at hl 1 rfl) ?_
          obtain ⟨c12, hm⟩ := gd_some hm
          refine lX_6 C0 hA hw c12 dX9_rule_47 ?_
          refine lv_goto (tgt := 60) hx hb dX9_rule_48 (by decide) ?_
          obtain rfl := sj1 hm
          exact r_iret C0 hw dX9_rule_60 ⟨rfl, rfl⟩
      · have hm := Eq.trans (if_pos c9).symm hm
        refine lv_iconst (v := (-1)) hx hb dX9_rule_33 (by decide) ?_
        obtain rfl := sj1 hm
        exact r_iret C0 hw dX9_rule_34 ⟨rfl, rfl⟩
    · have hm := Eq.trans (if_pos c6).symm hm
      refine lv_bipush (v := (-2)) hx hb dX9_rule_19 (by decide) ?_
      obtain rfl := sj1 hm
      exact r_iret C0 hw dX9_rule_21 ⟨rfl, rfl⟩
theorem tX9_rule (l : Launch) (E : EV) (ad : Nat → Nat) (zt : OS) (zs : OS) (zg : OS) (zh : OS) (zu : OS) (zl : OS) (zc : OS) (zw : OS) (a1 : Int32) (a2 : Int32) {r : Int32} (hm : mX9_rule zt zs zg zh zu zl zc zw a1 a2 = some r) : CT l yX9_rule wsX9_rule ({ frames := 2, cells := 0, slots := 0, locals := 43 } : Room) E [.ref (ad 0), .int a1, .int a2] (wX E ad zt zs zg zh zu zl zc zw) (Qd (some (.int r)) (wX E ad zt zs zg zh zu zl zc zw)) 0 0 :=
  CT.of (mL := 3) (lvs := [(0, .ref (ad 0)), (1, .int a1), (2, .int a2)]) (by decide +kernel) rfl (Nat.le_of_ble_eq_true rfl) rfl rfl rfl (fun p e s m below meth c A C0 hA hw ls hl => kX9_rule_b0 (ad := ad) C0 hA a1 a2 _ _ _ hm hw (lv_sub hl [0, 1, 2] rfl))
theorem lkX9_want_26 : Cond.fieldLink RX9 26 (TX9 3).1 (TX9 3).2.1 (TX9 3).2.2.1 ∈ wsX9_want := by decide +kernel
theorem hiX9_want_X9 : ∀ w ∈ u_ws RX9 TX9 9, w ∈ wsX9_want := by decide +kernel
def mX9_want_b0  (zt : OS) (zs : OS) (zg : OS) (zh : OS) (zu : OS) (zl : OS) (zc : OS) (zw : OS) (a1 : Int32) (a2 : Int32) : Option (Int32 × OS) := b1 (mX9_isWithin a1 0 6) (fun r1 => (if (r1 : Int32) = 0 then some ((-2), zt) else gd a1 7 (gd a1 7 (b1 (mX9_isWithin a2 (stLo (a1 : Int32).toNatClampNeg) (stHi (a1 : Int32).toNatClampNeg)) (fun r6 => (if (r6 : Int32) = 0 then some ((-2), zt) else gd a1 7 (nm (zt.2.2.1 3 (a1 : Int32).toNatClampNeg : Int32) (fun v10 => gd a1 7 (nm (sA zt 3 a1 a2) (fun zt12 => some (v10, zt12)))))))))))
def mX9_want (zt : OS) (zs : OS) (zg : OS) (zh : OS) (zu : OS) (zl : OS) (zc : OS) (zw : OS) (a1 : Int32) (a2 : Int32) : Option (Int32 × OS) := mX9_want_b0 zt zs zg zh zu zl zc zw a1 a2
set_option maxRecDepth 20000 in
theorem kX9_want_b0 {p : Program} {l : Launch} {e : Env} {s : State} {m : MethodId} {args : Array Value} {below : List Frame} {meth : Method} {c : Code} {A : Nat → Prop} {E : EV} {ad : Nat → Nat} {zs : OS} {zg : OS} {zh : OS} {zu : OS} {zl : OS} {zc : OS} {zw : OS} {r : Int32} {zt' : OS} (C0 : Cx RX9 "want" cX9_want (some .int) 4 wsX9_want p s m args meth c) (hA : Ax E A s) : ∀ (zt : OS) (a1 : Int32) (a2 : Int32) (H : Heap) (locs : List Loc) (ls : Array Slot), mX9_want_b0 zt zs zg zh zu zl zc zw a1 a2 = some (r, zt') → Wd E A s H locs (wX E ad zt zs zg zh zu zl zc zw) → lv_has ls 4 [(0, .ref (ad 0)), (1, .int a1), (2, .int a2)] → W p l e ({ frames := 1, cells := 0, slots := 0, locals := 22 } : Room) s m args below meth c H locs 0 0 (MQ below (QG E (Qd (some (.int r)) (wX E ad zt' zs zg zh zu zl zc zw)) A) args s 0 0 A) (F0 m 0 ls []) := by
  have hx := C0.1
  have hb := C0.2.1
  intro zt a1 a2 H locs ls hm hw hl
  unfold mX9_want_b0 at hm
  refine lv_iload_n hx hb dX9_want_0 rfl (lv_at hl 1 rfl) ?_
  refine lv_iconst (v := 0) hx hb dX9_want_1 (by decide) ?_
  refine lv_bipush (v := 6) hx hb dX9_want_2 (by decide) ?_
  obtain ⟨r1, h2, hm⟩ := b1_some hm
  refine r_backZ (va_runS (As := [.int a1, .int 0, .int 6]) (rest := []) ⟨hx, hb, C0.2.2.2.1, C0.2.2.2.2.1, C0.2.2.2.2.2.1⟩ (tX9_isWithin l E a1 0 6 h2 H.size) (va_cwS 3 C0.2.2.2.2.2.1 gX9_want_X9_isWithin rfl rfl rfl (by decide +kernel) ⟨Nat.le_of_ble_eq_true rfl, Nat.le_of_ble_eq_true rfl⟩) ⟨PG_blind, pg_nil hA hw⟩ rfl rfl hl.1 rfl (lv_room (Nat.le_of_ble_eq_true rfl)) dX9_want_4 ⟨Nat.zero_le _, Nat.zero_le _⟩) hA hw (fun H locs hw => ?_)
  refine lv_if_ne (tgt := 13) hx hb dX9_want_7 (by decide) (fun c3 => ?_) (fun c3 => ?_)
  · have hm := Eq.trans (if_neg c3).symm hm
    refine lv_iload_n hx hb dX9_want_13 rfl (lv_at hl 2 rfl) ?_
    refine r_gets C0 hA hw (hA.2.2.1.2.2.2.1.1) (C0.2.2.2.2.2.1 (.fieldLink RX9 105 "GrammarTunes" "WANTED_LEAST" "[I") (by decide +kernel)) dX9_want_14 ?_
    refine lv_iload_n hx hb dX9_want_17 rfl (lv_at hl 1 rfl) ?_
    obtain ⟨c4, hm⟩ := gd_some hm
    refine r_tld C0 hA hw (hA.2.2.1.2.2.2.1.2) c4 dX9_want_18 ?_
    refine r_gets C0 hA hw (hA.2.2.1.2.2.2.2.1.1) (C0.2.2.2.2.2.1 (.fieldLink RX9 108 "GrammarTunes" "WANTED_GREATEST" "[I") (by decide +kernel)) dX9_want_19 ?_
    refine lv_iload_n hx hb dX9_want_22 rfl (lv_at hl 1 rfl) ?_
    obtain ⟨c5, hm⟩ := gd_some hm
    refine r_tld C0 hA hw (hA.2.2.1.2.2.2.2.1.2) c5 dX9_want_23 ?_
    obtain ⟨r6, h7, hm⟩ := b1_some hm
    refine r_backZ (va_runS (As := [.int a2, .int (stLo (a1 : Int32).toNatClampNeg), .int (stHi (a1 : Int32).toNatClampNeg)]) (rest := []) ⟨hx, hb, C0.2.2.2.1, C0.2.2.2.2.1, C0.2.2.2.2.2.1⟩ (tX9_isWithin l E a2 (stLo (a1 : Int32).toNatClampNeg) (stHi (a1 : Int32).toNatClampNeg) h7 H.size) (va_cwS 3 C0.2.2.2.2.2.1 gX9_want_X9_isWithin rfl rfl rfl (by decide +kernel) ⟨Nat.le_of_ble_eq_true rfl, Nat.le_of_ble_eq_true rfl⟩) ⟨PG_blind, pg_nil hA hw⟩ rfl rfl hl.1 rfl (lv_room (Nat.le_of_ble_eq_true rfl)) dX9_want_24 ⟨Nat.zero_le _, Nat.zero_le _⟩) hA hw (fun H locs hw => ?_)
    refine lv_if_ne (tgt := 33) hx hb dX9_want_27 (by decide) (fun c8 => ?_) (fun c8 => ?_)
    · have hm := Eq.trans (if_neg c8).symm hm
      refine lv_aload_n hx hb dX9_want_33 rfl (lv_at hl 0 rfl) ?_
      refine gX_0_3 C0 hA hw hiX9_want_X9 lkX9_want_26 dX9_want_34 ?_
      refine lv_iload_n hx hb dX9_want_37 rfl (lv_at hl 1 rfl) ?_
      obtain ⟨c9, hm⟩ := gd_some hm
      refine lX_1 C0 hA hw c9 dX9_want_38 ?_
      refine lv_topi (fun v10 ev10 => ?_)
      have hm := nm_at hm ev10
      refine lv_istore_n (lv' := [(3, .int v10), (0, .ref (ad 0)), (1, .int a1), (2, .int a2)]) hx hb dX9_want_39 rfl hl (by decide) rfl (fun ls hl => ?_)
      refine lv_aload_n hx hb dX9_want_40 rfl (lv_at hl 1 rfl) ?_
      refine gX_0_3 C0 hA hw hiX9_want_X9 lkX9_want_26 dX9_want_41 ?_
      refine lv_iload_n hx hb dX9_want_44 rfl (lv_at hl 2 rfl) ?_
      refine lv_iload_n hx hb dX9_want_45 rfl (lv_at hl 3 rfl) ?_
      obtain ⟨c11, hm⟩ := gd_some hm
      refine sX_1 C0 hA hw c11 dX9_want_46 (fun zt12 ezt12 H locs hw => ?_)
      have hm := nm_at hm ezt12
      refine lv_iload_n hx hb dX9_want_47 rfl (lv_at hl 0 rfl) ?_
      obtain ⟨rfl, rfl⟩ := sj2 hm
      exact r_iret C0 hw dX9_want_48 ⟨rfl, rfl⟩
    · have hm := Eq.trans (if_pos c8).symm hm
      refine lv_bipush (v := (-2)) hx hb dX9_want_30 (by decide) ?_
      obtain ⟨rfl, rfl⟩ := sj2 hm
      exact r_iret C0 hw dX9_want_32 ⟨rfl, rfl⟩
  · have hm := Eq.trans (if_pos c3).symm hm
    refine lv_bipush (v := (-2)) hx hb dX9_want_10 (by decide) ?_
    obtain ⟨rfl, rfl⟩ := sj2 hm
    exact r_iret C0 hw dX9_want_12 ⟨rfl, rfl⟩
theorem tX9_want (l : Launch) (E : EV) (ad : Nat → Nat) (zt : OS) (zs : OS) (zg : OS) (zh : OS) (zu : OS) (zl : OS) (zc : OS) (zw : OS) (a1 : Int32) (a2 : Int32) {r : Int32} {zt' : OS} (hm : mX9_want zt zs zg zh zu zl zc zw a1 a2 = some (r, zt')) : CT l yX9_want wsX9_want ({ frames := 1, cells := 0, slots := 0, locals := 22 } : Room) E [.ref (ad 0), .int a1, .int a2] (wX E ad zt zs zg zh zu zl zc zw) (Qd (some (.int r)) (wX E ad zt' zs zg zh zu zl zc zw)) 0 0 :=
  CT.of (mL := 4) (lvs := [(0, .ref (ad 0)), (1, .int a1), (2, .int a2)]) (by decide +kernel) rfl (Nat.le_of_ble_eq_true rfl) rfl rfl rfl (fun p e s m below meth c A C0 hA hw ls hl => kX9_want_b0 (ad := ad) C0 hA zt a1 a2 _ _ _ hm hw (lv_sub hl [0, 1, 2] rfl))
theorem lkX9_tries_44 : Cond.fieldLink RX9 44 (TX9 6).1 (TX9 6).2.1 (TX9 6).2.2.1 ∈ wsX9_tries := by decide +kernel
theorem hiX9_tries_X9 : ∀ w ∈ u_ws RX9 TX9 9, w ∈ wsX9_tries := by decide +kernel
def mX9_tries_b0  (zt : OS) (zs : OS) (zg : OS) (zh : OS) (zu : OS) (zl : OS) (zc : OS) (zw : OS) : Option (Int32) := some (zt.1 6)
def mX9_tries (zt : OS) (zs : OS) (zg : OS) (zh : OS) (zu : OS) (zl : OS) (zc : OS) (zw : OS)  : Option (Int32) := mX9_tries_b0 zt zs zg zh zu zl zc zw
set_option maxRecDepth 20000 in
theorem kX9_tries_b0 {p : Program} {l : Launch} {e : Env} {s : State} {m : MethodId} {args : Array Value} {below : List Frame} {meth : Method} {c : Code} {A : Nat → Prop} {E : EV} {ad : Nat → Nat} {zt : OS} {zs : OS} {zg : OS} {zh : OS} {zu : OS} {zl : OS} {zc : OS} {zw : OS} {r : Int32} (C0 : Cx RX9 "tries" cX9_tries (some .int) 1 wsX9_tries p s m args meth c) (hA : Ax E A s) : ∀  (H : Heap) (locs : List Loc) (ls : Array Slot), mX9_tries_b0 zt zs zg zh zu zl zc zw = some r → Wd E A s H locs (wX E ad zt zs zg zh zu zl zc zw) → lv_has ls 1 [(0, .ref (ad 0))] → W p l e ({ frames := 0, cells := 0, slots := 0, locals := 0 } : Room) s m args below meth c H locs 0 0 (MQ below (QG E (Qd (some (.int r)) (wX E ad zt zs zg zh zu zl zc zw)) A) args s 0 0 A) (F0 m 0 ls []) := by
  have hx := C0.1
  have hb := C0.2.1
  intro  H locs ls hm hw hl
  unfold mX9_tries_b0 at hm
  refine lv_aload_n hx hb dX9_tries_0 rfl (lv_at hl 0 rfl) ?_
  refine gX_0_6 C0 hA hw hiX9_tries_X9 lkX9_tries_44 dX9_tries_1 ?_
  obtain rfl := sj1 hm
  exact r_iret C0 hw dX9_tries_4 ⟨rfl, rfl⟩
theorem tX9_tries (l : Launch) (E : EV) (ad : Nat → Nat) (zt : OS) (zs : OS) (zg : OS) (zh : OS) (zu : OS) (zl : OS) (zc : OS) (zw : OS)  {r : Int32} (hm : mX9_tries zt zs zg zh zu zl zc zw = some r) : CT l yX9_tries wsX9_tries ({ frames := 0, cells := 0, slots := 0, locals := 0 } : Room) E [.ref (ad 0)] (wX E ad zt zs zg zh zu zl zc zw) (Qd (some (.int r)) (wX E ad zt zs zg zh zu zl zc zw)) 0 0 :=
  CT.of (mL := 1) (lvs := [(0, .ref (ad 0))]) (by decide +kernel) rfl (Nat.le_of_ble_eq_true rfl) rfl rfl rfl (fun p e s m below meth c A C0 hA hw ls hl => kX9_tries_b0 (ad := ad) C0 hA  _ _ _ hm hw (lv_sub hl [0] rfl))
theorem lkX9_item_33 : Cond.fieldLink RX9 33 (TX9 4).1 (TX9 4).2.1 (TX9 4).2.2.1 ∈ wsX9_item := by decide +kernel
theorem hiX9_item_X9 : ∀ w ∈ u_ws RX9 TX9 9, w ∈ wsX9_item := by decide +kernel
theorem hiX9_item_X8 : ∀ w ∈ u_ws RX8 TX8 7, w ∈ wsX9_item := by decide +kernel
def mX9_item_b0  (zt : OS) (zs : OS) (zg : OS) (zh : OS) (zu : OS) (zl : OS) (zc : OS) (zw : OS) (a1 : Int32) (a2 : Int32) : Option (Int32) := b1 (mX9_isWithin a2 0 3) (fun r1 => (if (r1 : Int32) = 0 then some (-2) else b1 (mX9_isWithin a1 0 ((zu.1 6) - 1)) (fun r4 => (if (r4 : Int32) = 0 then some (-1) else (if (a2 : Int32) = 0 then gd a1 256 (some (zu.2.2.1 0 (a1 : Int32).toNatClampNeg)) else if (a2 : Int32) = 1 then gd a1 256 (some (zu.2.2.1 1 (a1 : Int32).toNatClampNeg)) else if (a2 : Int32) = 2 then gd a1 256 (some (zu.2.2.1 2 (a1 : Int32).toNatClampNeg)) else gd a1 256 (some (zu.2.2.1 3 (a1 : Int32).toNatClampNeg)))))))
def mX9_item (zt : OS) (zs : OS) (zg : OS) (zh : OS) (zu : OS) (zl : OS) (zc : OS) (zw : OS) (a1 : Int32) (a2 : Int32) : Option (Int32) := mX9_item_b0 zt zs zg zh zu zl zc zw a1 a2
set_option maxRecDepth 20000 in
theorem kX9_item_b0 {p : Program} {l : Launch} {e : Env} {s : State} {m : MethodId} {args : Array Value} {below : List Frame} {meth : Method} {c : Code} {A : Nat → Prop} {E : EV} {ad : Nat → Nat} {zt : OS} {zs : OS} {zg : OS} {zh : OS} {zu : OS} {zl : OS} {zc : OS} {zw : OS} {r : Int32} (C0 : Cx RX9 "item" cX9_item (some .int) 3 wsX9_item p s m args meth c) (hA : Ax E A s) : ∀ (a1 : Int32) (a2 : Int32) (H : Heap) (locs : List Loc) (ls : Array Slot), mX9_item_b0 zt zs zg zh zu zl zc zw a1 a2 = some r → Wd E A s H locs (wX E ad zt zs zg zh zu zl zc zw) → lv_has ls 3 [(0, .ref (ad 0)), (1, .int a1), (2, .int a2)] → W p l e ({ frames := 1, cells := 0, slots := 0, locals := 22 } : Room) s m args below meth c H locs 0 0 (MQ below (QG E (Qd (some (.int r)) (wX E ad zt zs zg zh zu zl zc zw)) A) args s 0 0 A) (F0 m 0 ls []) := by
  have hx := C0.1
  have hb := C0.2.1
  intro a1 a2 H locs ls hm hw hl
  unfold mX9_item_b0 at hm
  refine lv_iload_n hx hb dX9_item_0 rfl (lv_at hl 2 rfl) ?_
  refine lv_iconst (v := 0) hx hb dX9_item_1 (by decide) ?_
  refine lv_iconst (v := 3) hx hb dX9_item_2 (by decide) ?_
  obtain ⟨r1, h2, hm⟩ := b1_some hm
  refine r_backZ (va_runS (As := [.int a2, .int 0, .int 3]) (rest := []) ⟨hx, hb, C0.2.2.2.1, C0.2.2.2.2.1, C0.2.2.2.2.2.1⟩ (tX9_isWithin l E a2 0 3 h2 H.size) (va_cwS 3 C0.2.2.2.2.2.1 gX9_item_X9_isWithin rfl rfl rfl (by decide +kernel) ⟨Nat.le_of_ble_eq_true rfl, Nat.le_of_ble_eq_true rfl⟩) ⟨PG_blind, pg_nil hA hw⟩ rfl rfl hl.1 rfl (lv_room (Nat.le_of_ble_eq_true rfl)) dX9_item_3 ⟨Nat.zero_le _, Nat.zero_le _⟩) hA hw (fun H locs hw => ?_)
  refine lv_if_ne (tgt := 12) hx hb dX9_item_6 (by decide) (fun c3 => ?_) (fun c3 => ?_)
  · have hm := Eq.trans (if_neg c3).symm hm
    refine lv_iload_n hx hb dX9_item_12 rfl (lv_at hl 1 rfl) ?_
    refine lv_iconst (v := 0) hx hb dX9_item_13 (by decide) ?_
    refine lv_aload_n hx hb dX9_item_14 rfl (lv_at hl 0 rfl) ?_
    refine gX_0_4 C0 hA hw hiX9_item_X9 lkX9_item_33 dX9_item_15 ?_
    refine gnX_28_6 C0 hA hw hiX9_item_X8 lnX9_130 dX9_item_18 ?_
    refine lv_iconst (v := 1) hx hb dX9_item_21 (by decide) ?_
    refine lv_isub hx hb dX9_item_22 ?_
    obtain ⟨r4, h5, hm⟩ := b1_some hm
    refine r_backZ (va_runS (As := [.int a1, .int 0, .int ((zu.1 6) - 1)]) (rest := []) ⟨hx, hb, C0.2.2.2.1, C0.2.2.2.2.1, C0.2.2.2.2.2.1⟩ (tX9_isWithin l E a1 0 ((zu.1 6) - 1) h5 H.size) (va_cwS 3 C0.2.2.2.2.2.1 gX9_item_X9_isWithin rfl rfl rfl (by decide +kernel) ⟨Nat.le_of_ble_eq_true rfl, Nat.le_of_ble_eq_true rfl⟩) ⟨PG_blind, pg_nil hA hw⟩ rfl rfl hl.1 rfl (lv_room (Nat.le_of_ble_eq_true rfl)) dX9_item_23 ⟨Nat.zero_le _, Nat.zero_le _⟩) hA hw (fun H locs hw => ?_)
    refine lv_if_ne (tgt := 31) hx hb dX9_item_26 (by decide) (fun c6 => ?_) (fun c6 => ?_)
    · have hm := Eq.trans (if_neg c6).symm hm
      refine lv_iload_n hx hb dX9_item_31 rfl (lv_at hl 2 rfl) ?_
      by_cases c7 : (a2 : Int32) = 0
      · have hm := Eq.trans (if_pos c7).symm hm
        refine lv_tableIn (tgt := 60) (off := 28) hx hb dX9_item_32 (by rw [c7]; decide) (by rw [c7]; decide) (by rw [c7]; decide) (by decide) ?_
        refine lv_aload_n hx hb dX9_item_60 rfl (lv_at hl 0 rfl) ?_
        refine gX_0_4 C0 hA hw hiX9_item_X9 lkX9_item_33 dX9_item_61 ?_
        refine gnX_28_0 C0 hA hw hiX9_item_X8 lnX9_133 dX9_item_64 ?_
        refine lv_iload_n hx hb dX9_item_67 rfl (lv_at hl 1 rfl) ?_
        obtain ⟨c8, hm⟩ := gd_some hm
        refine lX_29 C0 hA hw c8 dX9_item_68 ?_
        obtain rfl := sj1 hm
        exact r_iret C0 hw dX9_item_69 ⟨rfl, rfl⟩
      · have hm := Eq.trans (if_neg c7).symm hm
        by_cases c9 : (a2 : Int32) = 1
        · have hm := Eq.trans (if_pos c9).symm hm
          refine lv_tableIn (tgt := 70) (off := 38) hx hb dX9_item_32 (by rw [c9]; decide) (by rw [c9]; decide) (by rw [c9]; decide) (by decide) ?_
          refine lv_aload_n hx hb dX9_item_70 rfl (lv_at hl 0 rfl) ?_
          refine gX_0_4 C0 hA hw hiX9_item_X9 lkX9_item_33 dX9_item_71 ?_
          refine gnX_28_1 C0 hA hw hiX9_item_X8 lnX9_136 dX9_item_74 ?_
          refine lv_iload_n hx hb dX9_item_77 rfl (lv_at hl 1 rfl) ?_
          obtain ⟨c10, hm⟩ := gd_some hm
          refine lX_30 C0 hA hw c10 dX9_item_78 ?_
          obtain rfl := sj1 hm
          exact r_iret C0 hw dX9_item_79 ⟨rfl, rfl⟩
        · have hm := Eq.trans (if_neg c9).symm hm
          by_cases c11 : (a2 : Int32) = 2
          · have hm := Eq.trans (if_pos c11).symm hm
            refine lv_tableIn (tgt := 80) (off := 48) hx hb dX9_item_32 (by rw [c11]; decide) (by rw [c11]; decide) (by rw [c11]; decide) (by decide) ?_
            refine lv_aload_n hx hb dX9_item_80 rfl (lv_at hl 0 rfl) ?_
            refine gX_0_4 C0 hA hw hiX9_item_X9 lkX9_item_33 dX9_item_81 ?_
            refine gnX_28_2 C0 hA hw hiX9_item_X8 lnX9_139 dX9_item_84 ?_
            refine lv_iload_n hx hb dX9_item_87 rfl (lv_at hl 1 rfl) ?_
            obtain ⟨c12, hm⟩ := gd_some hm
            refine lX_31 C0 hA hw c12 dX9_item_88 ?_
            obtain rfl := sj1 hm
            exact r_iret C0 hw dX9_item_89 ⟨rfl, rfl⟩
          · have hm := Eq.trans (if_neg c11).symm hm
            refine lv_tableOut (tgt := 90) hx hb dX9_item_32 (by have q0 : (a2 : Int32).toInt ≠ 0 := i32_ne c7; have q1 : (a2 : Int32).toInt ≠ 1 := i32_ne c9; have q2 : (a2 : Int32).toInt ≠ 2 := i32_ne c11; omega) (by decide) ?_
            refine lv_aload_n hx hb dX9_item_90 rfl (lv_at hl 0 rfl) ?_
            refine gX_0_4 C0 hA hw hiX9_item_X9 lkX9_item_33 dX9_item_91 ?_
            refine gnX_28_3 C0 hA hw hiX9_item_X8 lnX9_142 dX9_item_94 ?_
            refine lv_iload_n hx hb dX9_item_97 rfl (lv_at hl 1 rfl) ?_
            obtain ⟨c13, hm⟩ := gd_some hm
            refine lX_32 C0 hA hw c13 dX9_item_98 ?_
            obtain rfl := sj1 hm
            exact r_iret C0 hw dX9_item_99 ⟨rfl, rfl⟩
    · have hm := Eq.trans (if_pos c6).symm hm
      refine lv_iconst (v := (-1)) hx hb dX9_item_29 (by decide) ?_
      obtain rfl := sj1 hm
      exact r_iret C0 hw dX9_item_30 ⟨rfl, rfl⟩
  · have hm := Eq.trans (if_pos c3).symm hm
    refine lv_bipush (v := (-2)) hx hb dX9_item_9 (by decide) ?_
    obtain rfl := sj1 hm
    exact r_iret C0 hw dX9_item_11 ⟨rfl, rfl⟩
theorem tX9_item (l : Launch) (E : EV) (ad : Nat → Nat) (zt : OS) (zs : OS) (zg : OS) (zh : OS) (zu : OS) (zl : OS) (zc : OS) (zw : OS) (a1 : Int32) (a2 : Int32) {r : Int32} (hm : mX9_item zt zs zg zh zu zl zc zw a1 a2 = some r) : CT l yX9_item wsX9_item ({ frames := 1, cells := 0, slots := 0, locals := 22 } : Room) E [.ref (ad 0), .int a1, .int a2] (wX E ad zt zs zg zh zu zl zc zw) (Qd (some (.int r)) (wX E ad zt zs zg zh zu zl zc zw)) 0 0 :=
  CT.of (mL := 3) (lvs := [(0, .ref (ad 0)), (1, .int a1), (2, .int a2)]) (by decide +kernel) rfl (Nat.le_of_ble_eq_true rfl) rfl rfl rfl (fun p e s m below meth c A C0 hA hw ls hl => kX9_item_b0 (ad := ad) C0 hA a1 a2 _ _ _ hm hw (lv_sub hl [0, 1, 2] rfl))
theorem lkX9_corpus_51 : Cond.fieldLink RX9 51 (TX9 7).1 (TX9 7).2.1 (TX9 7).2.2.1 ∈ wsX9_corpus := by decide +kernel
theorem hiX9_corpus_X9 : ∀ w ∈ u_ws RX9 TX9 9, w ∈ wsX9_corpus := by decide +kernel
def mX9_corpus_b0  (zt : OS) (zs : OS) (zg : OS) (zh : OS) (zu : OS) (zl : OS) (zc : OS) (zw : OS) (a1 : Int32) : Option (Int32 × OS) := b2 (mX0_add zc a1) (fun r1 zc2 => some (r1, zc2))
def mX9_corpus (zt : OS) (zs : OS) (zg : OS) (zh : OS) (zu : OS) (zl : OS) (zc : OS) (zw : OS) (a1 : Int32) : Option (Int32 × OS) := mX9_corpus_b0 zt zs zg zh zu zl zc zw a1
set_option maxRecDepth 20000 in
theorem kX9_corpus_b0 {p : Program} {l : Launch} {e : Env} {s : State} {m : MethodId} {args : Array Value} {below : List Frame} {meth : Method} {c : Code} {A : Nat → Prop} {E : EV} {ad : Nat → Nat} {zt : OS} {zs : OS} {zg : OS} {zh : OS} {zu : OS} {zl : OS} {zw : OS} {r : Int32} {zc' : OS} (C0 : Cx RX9 "corpus" cX9_corpus (some .int) 2 wsX9_corpus p s m args meth c) (hA : Ax E A s) : ∀ (zc : OS) (a1 : Int32) (H : Heap) (locs : List Loc) (ls : Array Slot), mX9_corpus_b0 zt zs zg zh zu zl zc zw a1 = some (r, zc') → Wd E A s H locs (wX E ad zt zs zg zh zu zl zc zw) → lv_has ls 2 [(0, .ref (ad 0)), (1, .int a1)] → W p l e ({ frames := 1, cells := 0, slots := 0, locals := 21 } : Room) s m args below meth c H locs 0 0 (MQ below (QG E (Qd (some (.int r)) (wX E ad zt zs zg zh zu zl zc' zw)) A) args s 0 0 A) (F0 m 0 ls []) := by
  have hx := C0.1
  have hb := C0.2.1
  intro zc a1 H locs ls hm hw hl
  unfold mX9_corpus_b0 at hm
  refine lv_aload_n hx hb dX9_corpus_0 rfl (lv_at hl 0 rfl) ?_
  refine gX_0_7 C0 hA hw hiX9_corpus_X9 lkX9_corpus_51 dX9_corpus_1 ?_
  refine lv_iload_n hx hb dX9_corpus_4 rfl (lv_at hl 1 rfl) ?_
  obtain ⟨r1, zc2, h3, hm⟩ := b2_some hm
  refine r_backP (va_runV (As := [.int a1]) (rest := []) ⟨hx, hb, C0.2.2.2.1, C0.2.2.2.2.1, C0.2.2.2.2.2.1⟩ (tX0_add l E (fun k => ad (k + 44)) zc a1 h3 H.size) (cwV 1 C0.2.2.2.2.2.1 gX9_corpus_X0_add rfl rfl rfl (by decide +kernel) ⟨Nat.le_of_ble_eq_true rfl, Nat.le_of_ble_eq_true rfl⟩) ⟨PG_blind, va_recv hA.2.2.1.1 hw.1 (ci := 0) (q0 := 44) rfl rfl, pg_at hA hw [44, 45, 46, 47] rfl (wcX_zc E ad zt zs zg zh zu zl zc zw)⟩ rfl rfl hl.1 rfl (lv_room (Nat.le_of_ble_eq_true rfl)) dX9_corpus_5 ⟨Nat.zero_le _, Nat.zero_le _⟩) hA hw [44, 45, 46, 47] [0, 1, 2, 3, 4, 5, 6, 7, 8, 9, 10, 11, 12, 13, 14, 15, 16, 17, 18, 19, 20, 21, 22, 23, 24, 25, 26, 27, 28, 29, 30, 31, 32, 33, 34, 35, 36, 37, 38, 39, 40, 41, 42, 43, 48, 49] (wcX_zc E ad zt zs zg zh zu zl zc zw) (wqX_zc E ad zt zs zg zh zu zl zc zw) rfl (by decide) (fun H locs hw => ?_)
  have hw := wjX_zc zc2 hw
  obtain ⟨rfl, rfl⟩ := sj2 hm
  exact r_iret C0 hw dX9_corpus_8 ⟨rfl, rfl⟩
theorem tX9_corpus (l : Launch) (E : EV) (ad : Nat → Nat) (zt : OS) (zs : OS) (zg : OS) (zh : OS) (zu : OS) (zl : OS) (zc : OS) (zw : OS) (a1 : Int32) {r : Int32} {zc' : OS} (hm : mX9_corpus zt zs zg zh zu zl zc zw a1 = some (r, zc')) : CT l yX9_corpus wsX9_corpus ({ frames := 1, cells := 0, slots := 0, locals := 21 } : Room) E [.ref (ad 0), .int a1] (wX E ad zt zs zg zh zu zl zc zw) (Qd (some (.int r)) (wX E ad zt zs zg zh zu zl zc' zw)) 0 0 :=
  CT.of (mL := 2) (lvs := [(0, .ref (ad 0)), (1, .int a1)]) (by decide +kernel) rfl (Nat.le_of_ble_eq_true rfl) rfl rfl rfl (fun p e s m below meth c A C0 hA hw ls hl => kX9_corpus_b0 (ad := ad) C0 hA zc a1 _ _ _ hm hw (lv_sub hl [0, 1] rfl))
theorem lkX9_forget_51 : Cond.fieldLink RX9 51 (TX9 7).1 (TX9 7).2.1 (TX9 7).2.2.1 ∈ wsX9_forget := by decide +kernel
theorem hiX9_forget_X9 : ∀ w ∈ u_ws RX9 TX9 9, w ∈ wsX9_forget := by decide +kernel
def mX9_forget_b0  (zt : OS) (zs : OS) (zg : OS) (zh : OS) (zu : OS) (zl : OS) (zc : OS) (zw : OS) : Option (Int32 × OS) := b2 (mX0_clear zc) (fun r1 zc2 => some (r1, zc2))
def mX9_forget (zt : OS) (zs : OS) (zg : OS) (zh : OS) (zu : OS) (zl : OS) (zc : OS) (zw : OS)  : Option (Int32 × OS) := mX9_forget_b0 zt zs zg zh zu zl zc zw
set_option maxRecDepth 20000 in
theorem kX9_forget_b0 {p : Program} {l : Launch} {e : Env} {s : State} {m : MethodId} {args : Array Value} {below : List Frame} {meth : Method} {c : Code} {A : Nat → Prop} {E : EV} {ad : Nat → Nat} {zt : OS} {zs : OS} {zg : OS} {zh : OS} {zu : OS} {zl : OS} {zw : OS} {r : Int32} {zc' : OS} (C0 : Cx RX9 "forget" cX9_forget (some .int) 1 wsX9_forget p s m args meth c) (hA : Ax E A s) : ∀ (zc : OS) (H : Heap) (locs : List Loc) (ls : Array Slot), mX9_forget_b0 zt zs zg zh zu zl zc zw = some (r, zc') → Wd E A s H locs (wX E ad zt zs zg zh zu zl zc zw) → lv_has ls 1 [(0, .ref (ad 0))] → W p l e ({ frames := 1, cells := 0, slots := 0, locals := 21 } : Room) s m args below meth c H locs 0 0 (MQ below (QG E (Qd (some (.int r)) (wX E ad zt zs zg zh zu zl zc' zw)) A) args s 0 0 A) (F0 m 0 ls []) := by
  have hx := C0.1
  have hb := C0.2.1
  intro zc H locs ls hm hw hl
  unfold mX9_forget_b0 at hm
  refine lv_aload_n hx hb dX9_forget_0 rfl (lv_at hl 0 rfl) ?_
  refine gX_0_7 C0 hA hw hiX9_forget_X9 lkX9_forget_51 dX9_forget_1 ?_
  obtain ⟨r1, zc2, h3, hm⟩ := b2_some hm
  refine r_backP (va_runV (As := []) (rest := []) ⟨hx, hb, C0.2.2.2.1, C0.2.2.2.2.1, C0.2.2.2.2.2.1⟩ (tX0_clear l E (fun k => ad (k + 44)) zc h3 H.size) (cwV 0 C0.2.2.2.2.2.1 gX9_forget_X0_clear rfl rfl rfl (by decide +kernel) ⟨Nat.le_of_ble_eq_true rfl, Nat.le_of_ble_eq_true rfl⟩) ⟨PG_blind, va_recv hA.2.2.1.1 hw.1 (ci := 0) (q0 := 44) rfl rfl, pg_at hA hw [44, 45, 46, 47] rfl (wcX_zc E ad zt zs zg zh zu zl zc zw)⟩ rfl rfl hl.1 rfl (lv_room (Nat.le_of_ble_eq_true rfl)) dX9_forget_4 ⟨Nat.zero_le _, Nat.zero_le _⟩) hA hw [44, 45, 46, 47] [0, 1, 2, 3, 4, 5, 6, 7, 8, 9, 10, 11, 12, 13, 14, 15, 16, 17, 18, 19, 20, 21, 22, 23, 24, 25, 26, 27, 28, 29, 30, 31, 32, 33, 34, 35, 36, 37, 38, 39, 40, 41, 42, 43, 48, 49] (wcX_zc E ad zt zs zg zh zu zl zc zw) (wqX_zc E ad zt zs zg zh zu zl zc zw) rfl (by decide) (fun H locs hw => ?_)
  have hw := wjX_zc zc2 hw
  obtain ⟨rfl, rfl⟩ := sj2 hm
  exact r_iret C0 hw dX9_forget_7 ⟨rfl, rfl⟩
theorem tX9_forget (l : Launch) (E : EV) (ad : Nat → Nat) (zt : OS) (zs : OS) (zg : OS) (zh : OS) (zu : OS) (zl : OS) (zc : OS) (zw : OS)  {r : Int32} {zc' : OS} (hm : mX9_forget zt zs zg zh zu zl zc zw = some (r, zc')) : CT l yX9_forget wsX9_forget ({ frames := 1, cells := 0, slots := 0, locals := 21 } : Room) E [.ref (ad 0)] (wX E ad zt zs zg zh zu zl zc zw) (Qd (some (.int r)) (wX E ad zt zs zg zh zu zl zc' zw)) 0 0 :=
  CT.of (mL := 1) (lvs := [(0, .ref (ad 0))]) (by decide +kernel) rfl (Nat.le_of_ble_eq_true rfl) rfl rfl rfl (fun p e s m below meth c A C0 hA hw ls hl => kX9_forget_b0 (ad := ad) C0 hA zc _ _ _ hm hw (lv_sub hl [0] rfl))
theorem lkX9_step_51 : Cond.fieldLink RX9 51 (TX9 7).1 (TX9 7).2.1 (TX9 7).2.2.1 ∈ wsX9_step := by decide +kernel
theorem hiX9_step_X9 : ∀ w ∈ u_ws RX9 TX9 9, w ∈ wsX9_step := by decide +kernel
theorem hiX9_step_X0 : ∀ w ∈ u_ws RX0 TX0 5, w ∈ wsX9_step := by decide +kernel
def mX9_step_b0  (zt : OS) (zs : OS) (zg : OS) (zh : OS) (zu : OS) (zl : OS) (zc : OS) (zw : OS) (a1 : Int32) : Option (Int32) := b1 (mX9_isWithin a1 0 ((zc.1 4) - 1)) (fun r1 => (if (r1 : Int32) = 0 then some 0 else gd a1 203 (some (zc.2.2.1 1 (a1 : Int32).toNatClampNeg))))
def mX9_step (zt : OS) (zs : OS) (zg : OS) (zh : OS) (zu : OS) (zl : OS) (zc : OS) (zw : OS) (a1 : Int32) : Option (Int32) := mX9_step_b0 zt zs zg zh zu zl zc zw a1
set_option maxRecDepth 20000 in
theorem kX9_step_b0 {p : Program} {l : Launch} {e : Env} {s : State} {m : MethodId} {args : Array Value} {below : List Frame} {meth : Method} {c : Code} {A : Nat → Prop} {E : EV} {ad : Nat → Nat} {zt : OS} {zs : OS} {zg : OS} {zh : OS} {zu : OS} {zl : OS} {zc : OS} {zw : OS} {r : Int32} (C0 : Cx RX9 "step" cX9_step (some .int) 2 wsX9_step p s m args meth c) (hA : Ax E A s) : ∀ (a1 : Int32) (H : Heap) (locs : List Loc) (ls : Array Slot), mX9_step_b0 zt zs zg zh zu zl zc zw a1 = some r → Wd E A s H locs (wX E ad zt zs zg zh zu zl zc zw) → lv_has ls 2 [(0, .ref (ad 0)), (1, .int a1)] → W p l e ({ frames := 1, cells := 0, slots := 0, locals := 22 } : Room) s m args below meth c H locs 0 0 (MQ below (QG E (Qd (some (.int r)) (wX E ad zt zs zg zh zu zl zc zw)) A) args s 0 0 A) (F0 m 0 ls []) := by
  have hx := C0.1
  have hb := C0.2.1
  intro a1 H locs ls hm hw hl
  unfold mX9_step_b0 at hm
  refine lv_iload_n hx hb dX9_step_0 rfl (lv_at hl 1 rfl) ?_
  refine lv_iconst (v := 0) hx hb dX9_step_1 (by decide) ?_
  refine lv_aload_n hx hb dX9_step_2 rfl (lv_at hl 0 rfl) ?_
  refine gX_0_7 C0 hA hw hiX9_step_X9 lkX9_step_51 dX9_step_3 ?_
  refine gnX_44_4 C0 hA hw hiX9_step_X0 lnX9_159 dX9_step_6 ?_
  refine lv_iconst (v := 1) hx hb dX9_step_9 (by decide) ?_
  refine lv_isub hx hb dX9_step_10 ?_
  obtain ⟨r1, h2, hm⟩ := b1_some hm
  refine r_backZ (va_runS (As := [.int a1, .int 0, .int ((zc.1 4) - 1)]) (rest := []) ⟨hx, hb, C0.2.2.2.1, C0.2.2.2.2.1, C0.2.2.2.2.2.1⟩ (tX9_isWithin l E a1 0 ((zc.1 4) - 1) h2 H.size) (va_cwS 3 C0.2.2.2.2.2.1 gX9_step_X9_isWithin rfl rfl rfl (by decide +kernel) ⟨Nat.le_of_ble_eq_true rfl, Nat.le_of_ble_eq_true rfl⟩) ⟨PG_blind, pg_nil hA hw⟩ rfl rfl hl.1 rfl (lv_room (Nat.le_of_ble_eq_true rfl)) dX9_step_11 ⟨Nat.zero_le _, Nat.zero_le _⟩) hA hw (fun H locs hw => ?_)
  refine lv_if_eq (tgt := 29) hx hb dX9_step_14 (by decide) (fun c3 => ?_) (fun c3 => ?_)
  · have hm := Eq.trans (if_pos c3).symm hm
    refine lv_iconst (v := 0) hx hb dX9_step_29 (by decide) ?_
    obtain rfl := sj1 hm
    exact r_iret C0 hw dX9_step_30 ⟨rfl, rfl⟩
  · have hm := Eq.trans (if_neg c3).symm hm
    refine lv_aload_n hx hb dX9_step_17 rfl (lv_at hl 0 rfl) ?_
    refine gX_0_7 C0 hA hw hiX9_step_X9 lkX9_step_51 dX9_step_18 ?_
    refine gnX_44_1 C0 hA hw hiX9_step_X0 lnX9_162 dX9_step_21 ?_
    refine lv_iload_n hx hb dX9_step_24 rfl (lv_at hl 1 rfl) ?_
    obtain ⟨c4, hm⟩ := gd_some hm
    refine lX_46 C0 hA hw c4 dX9_step_25 ?_
    refine lv_goto (tgt := 30) hx hb dX9_step_26 (by decide) ?_
    obtain rfl := sj1 hm
    exact r_iret C0 hw dX9_step_30 ⟨rfl, rfl⟩
theorem tX9_step (l : Launch) (E : EV) (ad : Nat → Nat) (zt : OS) (zs : OS) (zg : OS) (zh : OS) (zu : OS) (zl : OS) (zc : OS) (zw : OS) (a1 : Int32) {r : Int32} (hm : mX9_step zt zs zg zh zu zl zc zw a1 = some r) : CT l yX9_step wsX9_step ({ frames := 1, cells := 0, slots := 0, locals := 22 } : Room) E [.ref (ad 0), .int a1] (wX E ad zt zs zg zh zu zl zc zw) (Qd (some (.int r)) (wX E ad zt zs zg zh zu zl zc zw)) 0 0 :=
  CT.of (mL := 2) (lvs := [(0, .ref (ad 0)), (1, .int a1)]) (by decide +kernel) rfl (Nat.le_of_ble_eq_true rfl) rfl rfl rfl (fun p e s m below meth c A C0 hA hw ls hl => kX9_step_b0 (ad := ad) C0 hA a1 _ _ _ hm hw (lv_sub hl [0, 1] rfl))
theorem lkX9_steps_51 : Cond.fieldLink RX9 51 (TX9 7).1 (TX9 7).2.1 (TX9 7).2.2.1 ∈ wsX9_steps := by decide +kernel
theorem hiX9_steps_X9 : ∀ w ∈ u_ws RX9 TX9 9, w ∈ wsX9_steps := by decide +kernel
theorem hiX9_steps_X0 : ∀ w ∈ u_ws RX0 TX0 5, w ∈ wsX9_steps := by decide +kernel
def mX9_steps_b0  (zt : OS) (zs : OS) (zg : OS) (zh : OS) (zu : OS) (zl : OS) (zc : OS) (zw : OS) : Option (Int32) := some (zc.1 4)
def mX9_steps (zt : OS) (zs : OS) (zg : OS) (zh : OS) (zu : OS) (zl : OS) (zc : OS) (zw : OS)  : Option (Int32) := mX9_steps_b0 zt zs zg zh zu zl zc zw
set_option maxRecDepth 20000 in
theorem kX9_steps_b0 {p : Program} {l : Launch} {e : Env} {s : State} {m : MethodId} {args : Array Value} {below : List Frame} {meth : Method} {c : Code} {A : Nat → Prop} {E : EV} {ad : Nat → Nat} {zt : OS} {zs : OS} {zg : OS} {zh : OS} {zu : OS} {zl : OS} {zc : OS} {zw : OS} {r : Int32} (C0 : Cx RX9 "steps" cX9_steps (some .int) 1 wsX9_steps p s m args meth c) (hA : Ax E A s) : ∀  (H : Heap) (locs : List Loc) (ls : Array Slot), mX9_steps_b0 zt zs zg zh zu zl zc zw = some r → Wd E A s H locs (wX E ad zt zs zg zh zu zl zc zw) → lv_has ls 1 [(0, .ref (ad 0))] → W p l e ({ frames := 0, cells := 0, slots := 0, locals := 0 } : Room) s m args below meth c H locs 0 0 (MQ below (QG E (Qd (some (.int r)) (wX E ad zt zs zg zh zu zl zc zw)) A) args s 0 0 A) (F0 m 0 ls []) := by
  have hx := C0.1
  have hb := C0.2.1
  intro  H locs ls hm hw hl
  unfold mX9_steps_b0 at hm
  refine lv_aload_n hx hb dX9_steps_0 rfl (lv_at hl 0 rfl) ?_
  refine gX_0_7 C0 hA hw hiX9_steps_X9 lkX9_steps_51 dX9_steps_1 ?_
  refine gnX_44_4 C0 hA hw hiX9_steps_X0 lnX9_159 dX9_steps_4 ?_
  obtain rfl := sj1 hm
  exact r_iret C0 hw dX9_steps_7 ⟨rfl, rfl⟩
theorem tX9_steps (l : Launch) (E : EV) (ad : Nat → Nat) (zt : OS) (zs : OS) (zg : OS) (zh : OS) (zu : OS) (zl : OS) (zc : OS) (zw : OS)  {r : Int32} (hm : mX9_steps zt zs zg zh zu zl zc zw = some r) : CT l yX9_steps wsX9_steps ({ frames := 0, cells := 0, slots := 0, locals := 0 } : Room) E [.ref (ad 0)] (wX E ad zt zs zg zh zu zl zc zw) (Qd (some (.int r)) (wX E ad zt zs zg zh zu zl zc zw)) 0 0 :=
  CT.of (mL := 1) (lvs := [(0, .ref (ad 0))]) (by decide +kernel) rfl (Nat.le_of_ble_eq_true rfl) rfl rfl rfl (fun p e s m below meth c A C0 hA hw ls hl => kX9_steps_b0 (ad := ad) C0 hA  _ _ _ hm hw (lv_sub hl [0] rfl))
def mX9_stroke_b0  (zt : OS) (zs : OS) (zg : OS) (zh : OS) (zu : OS) (zl : OS) (zc : OS) (zw : OS) (a1 : Int32) (a2 : Int32) (a3 : Int32) (a4 : Int32) : Option (Int32) := b1 (mX9_isWithin a2 1 64) (fun r1 => (if (r1 : Int32) = 0 then some (-2) else b1 (mX9_isWithin a1 0 a2) (fun r4 => (if (r4 : Int32) = 0 then some (-2) else b1 (mX9_isWithin a3 0 (a2 - 1)) (fun r7 => (if (r7 : Int32) = 0 then some (-2) else b1 (mX9_isWithin a4 0 1000000) (fun r10 => (if (r10 : Int32) = 0 then some (-2) else nz a2 ((if a1 ≤ (((a4 + a3) * a1) - ((a4 + a3) * a1) / a2 * a2 : Int32) then some 0 else some 1))))))))))
def mX9_stroke (zt : OS) (zs : OS) (zg : OS) (zh : OS) (zu : OS) (zl : OS) (zc : OS) (zw : OS) (a1 : Int32) (a2 : Int32) (a3 : Int32) (a4 : Int32) : Option (Int32) := mX9_stroke_b0 zt zs zg zh zu zl zc zw a1 a2 a3 a4
set_option maxRecDepth 20000 in
theorem kX9_stroke_b0 {p : Program} {l : Launch} {e : Env} {s : State} {m : MethodId} {args : Array Value} {below : List Frame} {meth : Method} {c : Code} {A : Nat → Prop} {E : EV} {ad : Nat → Nat} {zt : OS} {zs : OS} {zg : OS} {zh : OS} {zu : OS} {zl : OS} {zc : OS} {zw : OS} {r : Int32} (C0 : Cx RX9 "stroke" cX9_stroke (some .int) 5 wsX9_stroke p s m args meth c) (hA : Ax E A s) : ∀ (a1 : Int32) (a2 : Int32) (a3 : Int32) (a4 : Int32) (H : Heap) (locs : List Loc) (ls : Array Slot), mX9_stroke_b0 zt zs zg zh zu zl zc zw a1 a2 a3 a4 = some r → Wd E A s H locs (wX E ad zt zs zg zh zu zl zc zw) → lv_has ls 5 [(1, .int a1), (2, .int a2), (3, .int a3), (4, .int a4)] → W p l e ({ frames := 1, cells := 0, slots := 0, locals := 22 } : Room) s m args below meth c H locs 0 0 (MQ below (QG E (Qd (some (.int r)) (wX E ad zt zs zg zh zu zl zc zw)) A) args s 0 0 A) (F0 m 0 ls []) := by
  have hx := C0.1
  have hb := C0.2.1
  intro a1 a2 a3 a4 H locs ls hm hw hl
  unfold mX9_stroke_b0 at hm
  refine lv_iload_n hx hb dX9_stroke_0 rfl (lv_at hl 1 rfl) ?_
  refine lv_iconst (v := 1) hx hb dX9_stroke_1 (by decide) ?_
  refine lv_bipush (v := 64) hx hb dX9_stroke_2 (by decide) ?_
  obtain ⟨r1, h2, hm⟩ := b1_some hm
  refine r_backZ (va_runS (As := [.int a2, .int 1, .int 64]) (rest := []) ⟨hx, hb, C0.2.2.2.1, C0.2.2.2.2.1, C0.2.2.2.2.2.1⟩ (tX9_isWithin l E a2 1 64 h2 H.size) (va_cwS 3 C0.2.2.2.2.2.1 gX9_stroke_X9_isWithin rfl rfl rfl (by decide +kernel) ⟨Nat.le_of_ble_eq_true rfl, Nat.le_of_ble_eq_true rfl⟩) ⟨PG_blind, pg_nil hA hw⟩ rfl rfl hl.1 rfl (lv_room (Nat.le_of_ble_eq_true rfl)) dX9_stroke_4 ⟨Nat.zero_le _, Nat.zero_le _⟩) hA hw (fun H locs hw => ?_)
  refine lv_if_eq (tgt := 19) hx hb dX9_stroke_7 (by decide) (fun c3 => ?_) (fun c3 => ?_)
  · have hm := Eq.trans (if_pos c3).symm hm
    refine lv_bipush (v := (-2)) hx hb dX9_stroke_19 (by decide) ?_
    obtain rfl := sj1 hm
    exact r_iret C0 hw dX9_stroke_21 ⟨rfl, rfl⟩
  · have hm := Eq.trans (if_neg c3).symm hm
    refine lv_iload_n hx hb dX9_stroke_10 rfl (lv_at hl 0 rfl) ?_
    refine lv_iconst (v := 0) hx hb dX9_stroke_11 (by decide) ?_
    refine lv_iload_n hx hb dX9_stroke_12 rfl (lv_at hl 1 rfl) ?_
    obtain ⟨r4, h5, hm⟩ := b1_some hm
    refine r_backZ (va_runS (As := [.int a1, .int 0, .int a2]) (rest := []) ⟨hx, hb, C0.2.2.2.1, C0.2.2.2.2.1, C0.2.2.2.2.2.1⟩ (tX9_isWithin l E a1 0 a2 h5 H.size) (va_cwS 3 C0.2.2.2.2.2.1 gX9_stroke_X9_isWithin rfl rfl rfl (by decide +kernel) ⟨Nat.le_of_ble_eq_true rfl, Nat.le_of_ble_eq_true rfl⟩) ⟨PG_blind, pg_nil hA hw⟩ rfl rfl hl.1 rfl (lv_room (Nat.le_of_ble_eq_true rfl)) dX9_stroke_13 ⟨Nat.zero_le _, Nat.zero_le _⟩) hA hw (fun H locs hw => ?_)
    refine lv_if_ne (tgt := 22) hx hb dX9_stroke_16 (by decide) (fun c6 => ?_) (fun c6 => ?_)
    · have hm := Eq.trans (if_neg c6).symm hm
      refine lv_iload_n hx hb dX9_stroke_22 rfl (lv_at hl 2 rfl) ?_
      refine lv_iconst (v := 0) hx hb dX9_stroke_23 (by decide) ?_
      refine lv_iload_n hx hb dX9_stroke_24 rfl (lv_at hl 1 rfl) ?_
      refine lv_iconst (v := 1) hx hb dX9_stroke_25 (by decide) ?_
      refine lv_isub hx hb dX9_stroke_26 ?_
      obtain ⟨r7, h8, hm⟩ := b1_some hm
      refine r_backZ (va_runS (As := [.int a3, .int 0, .int (a2 - 1)]) (rest := []) ⟨hx, hb, C0.2.2.2.1, C0.2.2.2.2.1, C0.2.2.2.2.2.1⟩ (tX9_isWithin l E a3 0 (a2 - 1) h8 H.size) (va_cwS 3 C0.2.2.2.2.2.1 gX9_stroke_X9_isWithin rfl rfl rfl (by decide +kernel) ⟨Nat.le_of_ble_eq_true rfl, Nat.le_of_ble_eq_true rfl⟩) ⟨PG_blind, pg_nil hA hw⟩ rfl rfl hl.1 rfl (lv_room (Nat.le_of_ble_eq_true rfl)) dX9_stroke_27 ⟨Nat.zero_le _, Nat.zero_le _⟩) hA hw (fun H locs hw => ?_)
      refine lv_if_eq (tgt := 44) hx hb dX9_stroke_30 (by decide) (fun c9 => ?_) (fun c9 => ?_)
      · have hm := Eq.trans (if_pos c9).symm hm
        refine lv_bipush (v := (-2)) hx hb dX9_stroke_44 (by decide) ?_
        obtain rfl := sj1 hm
        exact r_iret C0 hw dX9_stroke_46 ⟨rfl, rfl⟩
      · have hm := Eq.trans (if_neg c9).symm hm
        refine lv_iload hx hb dX9_stroke_33 (lv_at hl 3 rfl) ?_
        refine lv_iconst (v := 0) hx hb dX9_stroke_35 (by decide) ?_
        refine lv_ldc (v := 1000000) hx hb C0.2.2.2.2.1 (C0.2.2.2.2.2.1 (.constant RX9 165 1000000) (by decide +kernel)) dX9_stroke_36 ?_
        obtain ⟨r10, h11, hm⟩ := b1_some hm
        refine r_backZ (va_runS (As := [.int a4, .int 0, .int 1000000]) (rest := []) ⟨hx, hb, C0.2.2.2.1, C0.2.2.2.2.1, C0.2.2.2.2.2.1⟩ (tX9_isWithin l E a4 0 1000000 h11 H.size) (va_cwS 3 C0.2.2.2.2.2.1 gX9_stroke_X9_isWithin rfl rfl rfl (by decide +kernel) ⟨Nat.le_of_ble_eq_true rfl, Nat.le_of_ble_eq_true rfl⟩) ⟨PG_blind, pg_nil hA hw⟩ rfl rfl hl.1 rfl (lv_room (Nat.le_of_ble_eq_true rfl)) dX9_stroke_38 ⟨Nat.zero_le _, Nat.zero_le _⟩) hA hw (fun H locs hw => ?_)
        refine lv_if_ne (tgt := 47) hx hb dX9_stroke_41 (by decide) (fun c12 => ?_) (fun c12 => ?_)
        · have hm := Eq.trans (if_neg c12).symm hm
          refine lv_iload hx hb dX9_stroke_47 (lv_at hl 3 rfl) ?_
          refine lv_iload_n hx hb dX9_stroke_49 rfl (lv_at hl 2 rfl) ?_
          refine lv_iadd hx hb dX9_stroke_50 ?_
          refine lv_iload_n hx hb dX9_stroke_51 rfl (lv_at hl 0 rfl) ?_
          refine lv_imul hx hb dX9_stroke_52 ?_
          refine lv_iload_n hx hb dX9_stroke_53 rfl (lv_at hl 1 rfl) ?_
          obtain ⟨c13, hm⟩ := nz_some hm
          refine lv_irem hx hb dX9_stroke_54 c13 ?_
          refine lv_iload_n hx hb dX9_stroke_55 rfl (lv_at hl 0 rfl) ?_
          refine lv_icmp_ge (tgt := 63) hx hb dX9_stroke_56 (by decide) (fun c14 => ?_) (fun c14 => ?_)
          · have hm := Eq.trans (if_pos c14).symm hm
            refine lv_iconst (v := 0) hx hb dX9_stroke_63 (by decide) ?_
            obtain rfl := sj1 hm
            exact r_iret C0 hw dX9_stroke_64 ⟨rfl, rfl⟩
          · have hm := Eq.trans (if_neg c14).symm hm
            refine lv_iconst (v := 1) hx hb dX9_stroke_59 (by decide) ?_
            refine lv_goto (tgt := 64) hx hb dX9_stroke_60 (by decide) ?_
            obtain rfl := sj1 hm
            exact r_iret C0 hw dX9_stroke_64 ⟨rfl, rfl⟩
        · have hm := Eq.trans (if_pos c12).symm hm
          refine lv_bipush (v := (-2)) hx hb dX9_stroke_44 (by decide) ?_
          obtain rfl := sj1 hm
          exact r_iret C0 hw dX9_stroke_46 ⟨rfl, rfl⟩
    · have hm := Eq.trans (if_pos c6).symm hm
      refine lv_bipush (v := (-2)) hx hb dX9_stroke_19 (by decide) ?_
      obtain rfl := sj1 hm
      exact r_iret C0 hw dX9_stroke_21 ⟨rfl, rfl⟩
theorem tX9_stroke (l : Launch) (E : EV) (ad : Nat → Nat) (zt : OS) (zs : OS) (zg : OS) (zh : OS) (zu : OS) (zl : OS) (zc : OS) (zw : OS) (a1 : Int32) (a2 : Int32) (a3 : Int32) (a4 : Int32) {r : Int32} (hm : mX9_stroke zt zs zg zh zu zl zc zw a1 a2 a3 a4 = some r) : CT l yX9_stroke wsX9_stroke ({ frames := 1, cells := 0, slots := 0, locals := 22 } : Room) E [.ref (ad 0), .int a1, .int a2, .int a3, .int a4] (wX E ad zt zs zg zh zu zl zc zw) (Qd (some (.int r)) (wX E ad zt zs zg zh zu zl zc zw)) 0 0 :=
  CT.of (mL := 5) (lvs := [(0, .ref (ad 0)), (1, .int a1), (2, .int a2), (3, .int a3), (4, .int a4)]) (by decide +kernel) rfl (Nat.le_of_ble_eq_true rfl) rfl rfl rfl (fun p e s m below meth c A C0 hA hw ls hl => kX9_stroke_b0 (ad := ad) C0 hA a1 a2 a3 a4 _ _ _ hm hw (lv_sub hl [1, 2, 3, 4] rfl))
def mX9_turned_b50 (F : Nat)  : Nat → OS → OS → OS → OS → OS → OS → OS → OS → Int32 → Int64 → Int64 → Int64 → Int32 → Option (Int32)
  | 0, _, _, _, _, _, _, _, _, _, _, _, _, _ => none
  | n + 1, zt, zs, zg, zh, zu, zl, zc, zw, a5, a6, a8, a10, a12 => (if a5 ≤ (a12 : Int32) then some (-1) else (if (lg_cmp (((((a8 : Int64).toUInt64 >>> ((a12 : Int32).toInt64.toUInt64 &&& Int64.toUInt64 63)).toInt64) ||| (a8 <<< ((a5 - a12 : Int32).toInt64 &&& 63))) &&& a6) a10 : Int32) = 0 then some a12 else nm (a12 + 1 : Int32) (fun v3 => mX9_turned_b50 F n zt zs zg zh zu zl zc zw a5 a6 a8 a10 v3)))
def mX9_turned_b0 (F : Nat)  (zt : OS) (zs : OS) (zg : OS) (zh : OS) (zu : OS) (zl : OS) (zc : OS) (zw : OS) (a1 : Int64) (a3 : Int64) (a5 : Int32) : Option (Int32) := b1 (mX9_isWithin a5 1 64) (fun r1 => (if (r1 : Int32) = 0 then some (-2) else nm ((((-1) : Int64).toUInt64 >>> ((64 - a5 : Int32).toInt64.toUInt64 &&& Int64.toUInt64 63)).toInt64 : Int64) (fun v4 => nm (a1 &&& v4 : Int64) (fun v5 => nm (a3 &&& v4 : Int64) (fun v6 => (if (lg_cmp v5 v6 : Int32) = 0 then some 0 else nm (1 : Int32) (fun v8 => mX9_turned_b50 F F zt zs zg zh zu zl zc zw a5 v4 v5 v6 v8)))))))
def mX9_turned (F : Nat) (zt : OS) (zs : OS) (zg : OS) (zh : OS) (zu : OS) (zl : OS) (zc : OS) (zw : OS) (a1 : Int64) (a3 : Int64) (a5 : Int32) : Option (Int32) := mX9_turned_b0 F zt zs zg zh zu zl zc zw a1 a3 a5
set_option maxRecDepth 20000 in
theorem kX9_turned_b50 {p : Program} {l : Launch} {e : Env} {s : State} {m : MethodId} {args : Array Value} {below : List Frame} {meth : Method} {c : Code} {A : Nat → Prop} {E : EV} {ad : Nat → Nat} (F : Nat) {zt : OS} {zs : OS} {zg : OS} {zh : OS} {zu : OS} {zl : OS} {zc : OS} {zw : OS} {r : Int32} (C0 : Cx RX9 "turned" cX9_turned (some .int) 13 wsX9_turned p s m args meth c) (hA : Ax E A s) : ∀ (n : Nat) (a5 : Int32) (a6 : Int64) (a8 : Int64) (a10 : Int64) (a12 : Int32) (H : Heap) (locs : List Loc) (ls : Array Slot), mX9_turned_b50 F n zt zs zg zh zu zl zc zw a5 a6 a8 a10 a12 = some r → Wd E A s H locs (wX E ad zt zs zg zh zu zl zc zw) → lv_has ls 13 [(5, .int a5), (6, .long a6), (8, .long a8), (10, .long a10), (12, .int a12)] → W p l e ({ frames := 1, cells := 0, slots := 0, locals := 22 } : Room) s m args below meth c H locs 0 0 (MQ below (QG E (Qd (some (.int r)) (wX E ad zt zs zg zh zu zl zc zw)) A) args s 0 0 A) (F0 m 50 ls []) := by
  have hx := C0.1
  have hb := C0.2.1
  intro n
  induction n with
  | zero =>
    intro a5 a6 a8 a10 a12 H locs ls hm
    cases hm
  | succ n ih =>
    intro a5 a6 a8 a10 a12 H locs ls hm hw hl
    unfold mX9_turned_b50 at hm
    refine lv_iload hx hb dX9_turned_50 (lv_at hl 4 rfl) ?_
    refine lv_iload hx hb dX9_turned_52 (lv_at hl 0 rfl) ?_
    refine lv_icmp_ge (tgt := 89) hx hb dX9_turned_54 (by decide) (fun c1 => ?_) (fun c1 => ?_)
    · have hm := Eq.trans (if_pos c1).symm hm
      refine lv_iconst (v := (-1)) hx hb dX9_turned_89 (by decide) ?_
      obtain rfl := sj1 hm
      exact r_iret C0 hw dX9_turned_90 ⟨rfl, rfl⟩
    · have hm := Eq.trans (if_neg c1).symm hm
      refine lv_lload hx hb dX9_turned_57 (lv_at hl 2 rfl) ?_
      refine lv_iload hx hb dX9_turned_59 (lv_at hl 4 rfl) ?_
      refine lv_lushr hx hb dX9_turned_61 rfl ?_
      refine lv_lload hx hb dX9_turned_62 (lv_at hl 2 rfl) ?_
      refine lv_iload hx hb dX9_turned_64 (lv_at hl 0 rfl) ?_
      refine lv_iload hx hb dX9_turned_66 (lv_at hl 4 rfl) ?_
      refine lv_isub hx hb dX9_turned_68 ?_
      refine lv_lshl hx hb dX9_turned_69 rfl ?_
      refine lv_lor hx hb dX9_turned_70 ?_
      refine lv_lload hx hb dX9_turned_71 (lv_at hl 1 rfl) ?_
      refine lv_land hx hb dX9_turned_73 ?_
      refine lv_lload hx hb dX9_turned_74 (lv_at hl 3 rfl) ?_
      refine W.lcmp hx hb dX9_turned_76 ?_
      refine lv_if_ne (tgt := 83) hx hb dX9_turned_77 (by decide) (fun c2 => ?_) (fun c2 => ?_)
      · have hm := Eq.trans (if_neg c2).symm hm
        obtain ⟨v3, ev3⟩ : ∃ y : Int32, y = a12 + 1 := ⟨_, rfl⟩
        have hm := nm_at hm ev3
        refine lv_iinc (v := v3) (lv' := [(12, .int v3), (5, .int a5), (6, .long a6), (8, .long a8), (10, .long a10)]) hx hb dX9_turned_83 hl (k := 4) rfl (by rw [ev3]; rfl) (by decide) rfl (fun ls hl => ?_)
        refine lv_goto (tgt := 50) hx hb dX9_turned_86 (by decide) ?_
        exact ih a5 a6 a8 a10 v3 _ _ _ hm hw (lv_sub hl [1, 2, 3, 4, 0] rfl)
      · have hm := Eq.trans (if_pos c2).symm hm
        refine lv_iload hx hb dX9_turned_80 (lv_at hl 4 rfl) ?_
        obtain rfl := sj1 hm
        exact r_iret C0 hw dX9_turned_82 ⟨rfl, rfl⟩
set_option maxRecDepth 20000 in
theorem kX9_turned_b0 {p : Program} {l : Launch} {e : Env} {s : State} {m : MethodId} {args : Array Value} {below : List Frame} {meth : Method} {c : Code} {A : Nat → Prop} {E : EV} {ad : Nat → Nat} (F : Nat) {zt : OS} {zs : OS} {zg : OS} {zh : OS} {zu : OS} {zl : OS} {zc : OS} {zw : OS} {r : Int32} (C0 : Cx RX9 "turned" cX9_turned (some .int) 13 wsX9_turned p s m args meth c) (hA : Ax E A s) : ∀ (a1 : Int64) (a3 : Int64) (a5 : Int32) (H : Heap) (locs : List Loc) (ls : Array Slot), mX9_turned_b0 F zt zs zg zh zu zl zc zw a1 a3 a5 = some r → Wd E A s H locs (wX E ad zt zs zg zh zu zl zc zw) → lv_has ls 13 [(1, .long a1), (3, .long a3), (5, .int a5)] → W p l e ({ frames := 1, cells := 0, slots := 0, locals := 22 } : Room) s m args below meth c H locs 0 0 (MQ below (QG E (Qd (some (.int r)) (wX E ad zt zs zg zh zu zl zc zw)) A) args s 0 0 A) (F0 m 0 ls []) := by
  have hx := C0.1
  have hb := C0.2.1
  intro a1 a3 a5 H locs ls hm hw hl
  unfold mX9_turned_b0 at hm
  refine lv_iload hx hb dX9_turned_0 (lv_at hl 2 rfl) ?_
  refine lv_iconst (v := 1) hx hb dX9_turned_2 (by decide) ?_
  refine lv_bipush (v := 64) hx hb dX9_turned_3 (by decide) ?_
  obtain ⟨r1, h2, hm⟩ := b1_some hm
  refine r_backZ (va_runS (As := [.int a5, .int 1, .int 64]) (rest := []) ⟨hx, hb, C0.2.2.2.1, C0.2.2.2.2.1, C0.2.2.2.2.2.1⟩ (tX9_isWithin l E a5 1 64 h2 H.size) (va_cwS 3 C0.2.2.2.2.2.1 gX9_turned_X9_isWithin rfl rfl rfl (by decide +kernel) ⟨Nat.le_of_ble_eq_true rfl, Nat.le_of_ble_eq_true rfl⟩) ⟨PG_blind, pg_nil hA hw⟩ rfl rfl hl.1 rfl (lv_room (Nat.le_of_ble_eq_true rfl)) dX9_turned_5 ⟨Nat.zero_le _, Nat.zero_le _⟩) hA hw (fun H locs hw => ?_)
  refine lv_if_ne (tgt := 14) hx hb dX9_turned_8 (by decide) (fun c3 => ?_) (fun c3 => ?_)
  · have hm := Eq.trans (if_neg c3).symm hm
    refine lv_ldc2 (v := (-1)) hx hb C0.2.2.2.2.1 (C0.2.2.2.2.2.1 (.constantLong RX9 166 (-1)) (by decide +kernel)) dX9_turned_14 ?_
    refine lv_bipush (v := 64) hx hb dX9_turned_17 (by decide) ?_
    refine lv_iload hx hb dX9_turned_19 (lv_at hl 2 rfl) ?_
    refine lv_isub hx hb dX9_turned_21 ?_
    refine lv_lushr hx hb dX9_turned_22 rfl ?_
    refine lv_topl (fun v4 ev4 => ?_)
    have hm := nm_at hm ev4
    refine lv_lstore (lv' := [(6, .long v4), (1, .long a1), (3, .long a3), (5, .int a5)]) hx hb dX9_turned_23 hl (by decide) rfl (fun ls hl => ?_)
    refine lv_lload_n hx hb dX9_turned_25 rfl (lv_at hl 1 rfl) ?_
    refine lv_lload hx hb dX9_turned_26 (lv_at hl 0 rfl) ?_
    refine lv_land hx hb dX9_turned_28 ?_
    refine lv_topl (fun v5 ev5 => ?_)
    have hm := nm_at hm ev5
    refine lv_lstore (lv' := [(8, .long v5), (6, .long v4), (1, .long a1), (3, .long a3), (5, .int a5)]) hx hb dX9_turned_29 hl (by decide) rfl (fun ls hl => ?_)
    refine lv_lload_n hx hb dX9_turned_31 rfl (lv_at hl 3 rfl) ?_
    refine lv_lload hx hb dX9_turned_32 (lv_at hl 1 rfl) ?_
    refine lv_land hx hb dX9_turned_34 ?_
    refine lv_topl (fun v6 ev6 => ?_)
    have hm := nm_at hm ev6
    refine lv_lstore (lv' := [(10, .long v6), (8, .long v5), (6, .long v4), (1, .long a1), (3, .long a3), (5, .int a5)]) hx hb dX9_turned_35 hl (by decide) rfl (fun ls hl => ?_)
    refine lv_lload hx hb dX9_turned_37 (lv_at hl 1 rfl) ?_
    refine lv_lload hx hb dX9_turned_39 (lv_at hl 0 rfl) ?_
    refine W.lcmp hx hb dX9_turned_41 ?_
    refine lv_if_ne (tgt := 47) hx hb dX9_turned_42 (by decide) (fun c7 => ?_) (fun c7 => ?_)
    · have hm := Eq.trans (if_neg c7).symm hm
      refine lv_iconst (v := 1) hx hb dX9_turned_47 (by decide) ?_
      refine lv_topi (fun v8 ev8 => ?_)
      have hm := nm_at hm ev8
      refine lv_istore (lv' := [(12, .int v8), (10, .long v6), (8, .long v5), (6, .long v4), (1, .long a1), (3, .long a3), (5, .int a5)]) hx hb dX9_turned_48 hl (by decide) rfl (fun ls hl => ?_)
      exact kX9_turned_b50 F C0 hA F a5 v4 v5 v6 v8 _ _ _ hm hw (lv_sub hl [6, 3, 2, 1, 0] rfl)
    · have hm := Eq.trans (if_pos c7).symm hm
      refine lv_iconst (v := 0) hx hb dX9_turned_45 (by decide) ?_
      obtain rfl := sj1 hm
      exact r_iret C0 hw dX9_turned_46 ⟨rfl, rfl⟩
  · have hm := Eq.trans (if_pos c3).symm hm
    refine lv_bipush (v := (-2)) hx hb dX9_turned_11 (by decide) ?_
    obtain rfl := sj1 hm
    exact r_iret C0 hw dX9_turned_13 ⟨rfl, rfl⟩
theorem tX9_turned (l : Launch) (E : EV) (ad : Nat → Nat) (F : Nat) (zt : OS) (zs : OS) (zg : OS) (zh : OS) (zu : OS) (zl : OS) (zc : OS) (zw : OS) (a1 : Int64) (a3 : Int64) (a5 : Int32) {r : Int32} (hm : mX9_turned F zt zs zg zh zu zl zc zw a1 a3 a5 = some r) : CT l yX9_turned wsX9_turned ({ frames := 1, cells := 0, slots := 0, locals := 22 } : Room) E [.ref (ad 0), .long a1, .long a3, .int a5] (wX E ad zt zs zg zh zu zl zc zw) (Qd (some (.int r)) (wX E ad zt zs zg zh zu zl zc zw)) 0 0 :=
  CT.of (mL := 13) (lvs := [(0, .ref (ad 0)), (1, .long a1), (3, .long a3), (5, .int a5)]) (by decide +kernel) rfl (Nat.le_of_ble_eq_true rfl) rfl rfl rfl (fun p e s m below meth c A C0 hA hw ls hl => kX9_turned_b0 (ad := ad) F C0 hA a1 a3 a5 _ _ _ hm hw (lv_sub hl [1, 2, 3] rfl))
theorem lkX9_place_58 : Cond.fieldLink RX9 58 (TX9 8).1 (TX9 8).2.1 (TX9 8).2.2.1 ∈ wsX9_place := by decide +kernel
theorem hiX9_place_X9 : ∀ w ∈ u_ws RX9 TX9 9, w ∈ wsX9_place := by decide +kernel
def mX9_place_b0 (F : Nat)  (zt : OS) (zs : OS) (zg : OS) (zh : OS) (zu : OS) (zl : OS) (zc : OS) (zw : OS) (a1 : Int32) (a2 : Int32) : Option (Int32 × OS) := b1 (mX9_isWithin a1 0 11) (fun r1 => (if (r1 : Int32) = 0 then some ((-2), zw) else b1 (mX9_isWithin a2 0 11) (fun r4 => (if (r4 : Int32) = 0 then some ((-2), zw) else b1 (mX7_swapIn F zw a1 a2) (fun zw7 => some (1, zw7))))))
def mX9_place (F : Nat) (zt : OS) (zs : OS) (zg : OS) (zh : OS) (zu : OS) (zl : OS) (zc : OS) (zw : OS) (a1 : Int32) (a2 : Int32) : Option (Int32 × OS) := mX9_place_b0 F zt zs zg zh zu zl zc zw a1 a2
set_option maxRecDepth 20000 in
theorem kX9_place_b0 {p : Program} {l : Launch} {e : Env} {s : State} {m : MethodId} {args : Array Value} {below : List Frame} {meth : Method} {c : Code} {A : Nat → Prop} {E : EV} {ad : Nat → Nat} (F : Nat) {zt : OS} {zs : OS} {zg : OS} {zh : OS} {zu : OS} {zl : OS} {zc : OS} {r : Int32} {zw' : OS} (C0 : Cx RX9 "place" cX9_place (some .int) 3 wsX9_place p s m args meth c) (hA : Ax E A s) : ∀ (zw : OS) (a1 : Int32) (a2 : Int32) (H : Heap) (locs : List Loc) (ls : Array Slot), mX9_place_b0 F zt zs zg zh zu zl zc zw a1 a2 = some (r, zw') → Wd E A s H locs (wX E ad zt zs zg zh zu zl zc zw) → lv_has ls 3 [(0, .ref (ad 0)), (1, .int a1), (2, .int a2)] → W p l e ({ frames := 1, cells := 0, slots := 0, locals := 23 } : Room) s m args below meth c H locs 0 0 (MQ below (QG E (Qd (some (.int r)) (wX E ad zt zs zg zh zu zl zc zw')) A) args s 0 0 A) (F0 m 0 ls []) := by
  have hx := C0.1
  have hb := C0.2.1
  intro zw a1 a2 H locs ls hm hw hl
  unfold mX9_place_b0 at hm
  refine lv_iload_n hx hb dX9_place_0 rfl (lv_at hl 1 rfl) ?_
  refine lv_iconst (v := 0) hx hb dX9_place_1 (by decide) ?_
  refine lv_bipush (v := 11) hx hb dX9_place_2 (by decide) ?_
  obtain ⟨r1, h2, hm⟩ := b1_some hm
  refine r_backZ (va_runS (As := [.int a1, .int 0, .int 11]) (rest := []) ⟨hx, hb, C0.2.2.2.1, C0.2.2.2.2.1, C0.2.2.2.2.2.1⟩ (tX9_isWithin l E a1 0 11 h2 H.size) (va_cwS 3 C0.2.2.2.2.2.1 gX9_place_X9_isWithin rfl rfl rfl (by decide +kernel) ⟨Nat.le_of_ble_eq_true rfl, Nat.le_of_ble_eq_true rfl⟩) ⟨PG_blind, pg_nil hA hw⟩ rfl rfl hl.1 rfl (lv_room (Nat.le_of_ble_eq_true rfl)) dX9_place_4 ⟨Nat.zero_le _, Nat.zero_le _⟩) hA hw (fun H locs hw => ?_)
  refine lv_if_eq (tgt := 20) hx hb dX9_place_7 (by decide) (fun c3 => ?_) (fun c3 => ?_)
  · have hm := Eq.trans (if_pos c3).symm hm
    refine lv_bipush (v := (-2)) hx hb dX9_place_20 (by decide) ?_
    obtain ⟨rfl, rfl⟩ := sj2 hm
    exact r_iret C0 hw dX9_place_22 ⟨rfl, rfl⟩
  · have hm := Eq.trans (if_neg c3).symm hm
    refine lv_iload_n hx hb dX9_place_10 rfl (lv_at hl 2 rfl) ?_
    refine lv_iconst (v := 0) hx hb dX9_place_11 (by decide) ?_
    refine lv_bipush (v := 11) hx hb dX9_place_12 (by decide) ?_
    obtain ⟨r4, h5, hm⟩ := b1_some hm
    refine r_backZ (va_runS (As := [.int a2, .int 0, .int 11]) (rest := []) ⟨hx, hb, C0.2.2.2.1, C0.2.2.2.2.1, C0.2.2.2.2.2.1⟩ (tX9_isWithin l E a2 0 11 h5 H.size) (va_cwS 3 C0.2.2.2.2.2.1 gX9_place_X9_isWithin rfl rfl rfl (by decide +kernel) ⟨Nat.le_of_ble_eq_true rfl, Nat.le_of_ble_eq_true rfl⟩) ⟨PG_blind, pg_nil hA hw⟩ rfl rfl hl.1 rfl (lv_room (Nat.le_of_ble_eq_true rfl)) dX9_place_14 ⟨Nat.zero_le _, Nat.zero_le _⟩) hA hw (fun H locs hw => ?_)
    refine lv_if_ne (tgt := 23) hx hb dX9_place_17 (by decide) (fun c6 => ?_) (fun c6 => ?_)
    · have hm := Eq.trans (if_neg c6).symm hm
      refine lv_aload_n hx hb dX9_place_23 rfl (lv_at hl 0 rfl) ?_
      refine gX_0_8 C0 hA hw hiX9_place_X9 lkX9_place_58 dX9_place_24 ?_
      refine lv_iload_n hx hb dX9_place_27 rfl (lv_at hl 1 rfl) ?_
      refine lv_iload_n hx hb dX9_place_28 rfl (lv_at hl 2 rfl) ?_
      obtain ⟨zw7, h8, hm⟩ := b1_some hm
      refine r_backP (va_runV (As := [.int a1, .int a2]) (rest := []) ⟨hx, hb, C0.2.2.2.1, C0.2.2.2.2.1, C0.2.2.2.2.2.1⟩ (tX7_swapIn l E (fun k => ad (k + 48)) F zw a1 a2 h8 H.size) (cwV 2 C0.2.2.2.2.2.1 gX9_place_X7_swapIn rfl rfl rfl (by decide +kernel) ⟨Nat.le_of_ble_eq_true rfl, Nat.le_of_ble_eq_true rfl⟩) ⟨PG_blind, va_recv hA.2.2.1.1 hw.1 (ci := 7) (q0 := 48) rfl rfl, pg_at hA hw [48, 49] rfl (wcX_zw E ad zt zs zg zh zu zl zc zw)⟩ rfl rfl hl.1 rfl (lv_room (Nat.le_of_ble_eq_true rfl)) dX9_place_29 ⟨Nat.zero_le _, Nat.zero_le _⟩) hA hw [48, 49] [0, 1, 2, 3, 4, 5, 6, 7, 8, 9, 10, 11, 12, 13, 14, 15, 16, 17, 18, 19, 20, 21, 22, 23, 24, 25, 26, 27, 28, 29, 30, 31, 32, 33, 34, 35, 36, 37, 38, 39, 40, 41, 42, 43, 44, 45, 46, 47] (wcX_zw E ad zt zs zg zh zu zl zc zw) (wqX_zw E ad zt zs zg zh zu zl zc zw) rfl (by decide) (fun H locs hw => ?_)
      have hw := wjX_zw zw7 hw
      refine lv_iconst (v := 1) hx hb dX9_place_32 (by decide) ?_
      obtain ⟨rfl, rfl⟩ := sj2 hm
      exact r_iret C0 hw dX9_place_33 ⟨rfl, rfl⟩
    · have hm := Eq.trans (if_pos c6).symm hm
      refine lv_bipush (v := (-2)) hx hb dX9_place_20 (by decide) ?_
      obtain ⟨rfl, rfl⟩ := sj2 hm
      exact r_iret C0 hw dX9_place_22 ⟨rfl, rfl⟩
theorem tX9_place (l : Launch) (E : EV) (ad : Nat → Nat) (F : Nat) (zt : OS) (zs : OS) (zg : OS) (zh : OS) (zu : OS) (zl : OS) (zc : OS) (zw : OS) (a1 : Int32) (a2 : Int32) {r : Int32} {zw' : OS} (hm : mX9_place F zt zs zg zh zu zl zc zw a1 a2 = some (r, zw')) : CT l yX9_place wsX9_place ({ frames := 1, cells := 0, slots := 0, locals := 23 } : Room) E [.ref (ad 0), .int a1, .int a2] (wX E ad zt zs zg zh zu zl zc zw) (Qd (some (.int r)) (wX E ad zt zs zg zh zu zl zc zw')) 0 0 :=
  CT.of (mL := 3) (lvs := [(0, .ref (ad 0)), (1, .int a1), (2, .int a2)]) (by decide +kernel) rfl (Nat.le_of_ble_eq_true rfl) rfl rfl rfl (fun p e s m below meth c A C0 hA hw ls hl => kX9_place_b0 (ad := ad) F C0 hA zw a1 a2 _ _ _ hm hw (lv_sub hl [0, 1, 2] rfl))
theorem lkX9_form_58 : Cond.fieldLink RX9 58 (TX9 8).1 (TX9 8).2.1 (TX9 8).2.2.1 ∈ wsX9_form := by decide +kernel
theorem hiX9_form_X9 : ∀ w ∈ u_ws RX9 TX9 9, w ∈ wsX9_form := by decide +kernel
def mX9_form_b0  (zt : OS) (zs : OS) (zg : OS) (zh : OS) (zu : OS) (zl : OS) (zc : OS) (zw : OS) (a1 : Int32) (a2 : Int32) (a3 : Int32) : Option (Int32) := b1 (mX9_isWithin a1 0 3) (fun r1 => (if (r1 : Int32) = 0 then some (-2) else b1 (mX9_isWithin a2 0 11) (fun r4 => (if (r4 : Int32) = 0 then some (-2) else b1 (mX9_isWithin a3 0 11) (fun r7 => (if (r7 : Int32) = 0 then some (-2) else b1 (mX7_numberOf zw a1 a2 a3) (fun r10 => some r10)))))))
def mX9_form (zt : OS) (zs : OS) (zg : OS) (zh : OS) (zu : OS) (zl : OS) (zc : OS) (zw : OS) (a1 : Int32) (a2 : Int32) (a3 : Int32) : Option (Int32) := mX9_form_b0 zt zs zg zh zu zl zc zw a1 a2 a3
set_option maxRecDepth 20000 in
theorem kX9_form_b0 {p : Program} {l : Launch} {e : Env} {s : State} {m : MethodId} {args : Array Value} {below : List Frame} {meth : Method} {c : Code} {A : Nat → Prop} {E : EV} {ad : Nat → Nat} {zt : OS} {zs : OS} {zg : OS} {zh : OS} {zu : OS} {zl : OS} {zc : OS} {zw : OS} {r : Int32} (C0 : Cx RX9 "form" cX9_form (some .int) 4 wsX9_form p s m args meth c) (hA : Ax E A s) : ∀ (a1 : Int32) (a2 : Int32) (a3 : Int32) (H : Heap) (locs : List Loc) (ls : Array Slot), mX9_form_b0 zt zs zg zh zu zl zc zw a1 a2 a3 = some r → Wd E A s H locs (wX E ad zt zs zg zh zu zl zc zw) → lv_has ls 4 [(0, .ref (ad 0)), (1, .int a1), (2, .int a2), (3, .int a3)] → W p l e ({ frames := 2, cells := 0, slots := 0, locals := 49 } : Room) s m args below meth c H locs 0 0 (MQ below (QG E (Qd (some (.int r)) (wX E ad zt zs zg zh zu zl zc zw)) A) args s 0 0 A) (F0 m 0 ls []) := by
  have hx := C0.1
  have hb := C0.2.1
  intro a1 a2 a3 H locs ls hm hw hl
  unfold mX9_form_b0 at hm
  refine lv_iload_n hx hb dX9_form_0 rfl (lv_at hl 1 rfl) ?_
  refine lv_iconst (v := 0) hx hb dX9_form_1 (by decide) ?_
  refine lv_iconst (v := 3) hx hb dX9_form_2 (by decide) ?_
  obtain ⟨r1, h2, hm⟩ := b1_some hm
  refine r_backZ (va_runS (As := [.int a1, .int 0, .int 3]) (rest := []) ⟨hx, hb, C0.2.2.2.1, C0.2.2.2.2.1, C0.2.2.2.2.2.1⟩ (tX9_isWithin l E a1 0 3 h2 H.size) (va_cwS 3 C0.2.2.2.2.2.1 gX9_form_X9_isWithin rfl rfl rfl (by decide +kernel) ⟨Nat.le_of_ble_eq_true rfl, Nat.le_of_ble_eq_true rfl⟩) ⟨PG_blind, pg_nil hA hw⟩ rfl rfl hl.1 rfl (lv_room (Nat.le_of_ble_eq_true rfl)) dX9_form_3 ⟨Nat.zero_le _, Nat.zero_le _⟩) hA hw (fun H locs hw => ?_)
  refine lv_if_eq (tgt := 19) hx hb dX9_form_6 (by decide) (fun c3 => ?_) (fun c3 => ?_)
  · have hm := Eq.trans (if_pos c3).symm hm
    refine lv_bipush (v := (-2)) hx hb dX9_form_19 (by decide) ?_
    obtain rfl := sj1 hm
    exact r_iret C0 hw dX9_form_21 ⟨rfl, rfl⟩
  · have hm := Eq.trans (if_neg c3).symm hm
    refine lv_iload_n hx hb dX9_form_9 rfl (lv_at hl 2 rfl) ?_
    refine lv_iconst (v := 0) hx hb dX9_form_10 (by decide) ?_
    refine lv_bipush (v := 11) hx hb dX9_form_11 (by decide) ?_
    obtain ⟨r4, h5, hm⟩ := b1_some hm
    refine r_backZ (va_runS (As := [.int a2, .int 0, .int 11]) (rest := []) ⟨hx, hb, C0.2.2.2.1, C0.2.2.2.2.1, C0.2.2.2.2.2.1⟩ (tX9_isWithin l E a2 0 11 h5 H.size) (va_cwS 3 C0.2.2.2.2.2.1 gX9_form_X9_isWithin rfl rfl rfl (by decide +kernel) ⟨Nat.le_of_ble_eq_true rfl, Nat.le_of_ble_eq_true rfl⟩) ⟨PG_blind, pg_nil hA hw⟩ rfl rfl hl.1 rfl (lv_room (Nat.le_of_ble_eq_true rfl)) dX9_form_13 ⟨Nat.zero_le _, Nat.zero_le _⟩) hA hw (fun H locs hw => ?_)
    refine lv_if_ne (tgt := 22) hx hb dX9_form_16 (by decide) (fun c6 => ?_) (fun c6 => ?_)
    · have hm := Eq.trans (if_neg c6).symm hm
      refine lv_iload_n hx hb dX9_form_22 rfl (lv_at hl 3 rfl) ?_
      refine lv_iconst (v := 0) hx hb dX9_form_23 (by decide) ?_
      refine lv_bipush (v := 11) hx hb dX9_form_24 (by decide) ?_
      obtain ⟨r7, h8, hm⟩ := b1_some hm
      refine r_backZ (va_runS (As := [.int a3, .int 0, .int 11]) (rest := []) ⟨hx, hb, C0.2.2.2.1, C0.2.2.2.2.1, C0.2.2.2.2.2.1⟩ (tX9_isWithin l E a3 0 11 h8 H.size) (va_cwS 3 C0.2.2.2.2.2.1 gX9_form_X9_isWithin rfl rfl rfl (by decide +kernel) ⟨Nat.le_of_ble_eq_true rfl, Nat.le_of_ble_eq_true rfl⟩) ⟨PG_blind, pg_nil hA hw⟩ rfl rfl hl.1 rfl (lv_room (Nat.le_of_ble_eq_true rfl)) dX9_form_26 ⟨Nat.zero_le _, Nat.zero_le _⟩) hA hw (fun H locs hw => ?_)
      refine lv_if_ne (tgt := 35) hx hb dX9_form_29 (by decide) (fun c9 => ?_) (fun c9 => ?_)
      · have hm := Eq.trans (if_neg c9).symm hm
        refine lv_aload_n hx hb dX9_form_35 rfl (lv_at hl 0 rfl) ?_
        refine gX_0_8 C0 hA hw hiX9_form_X9 lkX9_form_58 dX9_form_36 ?_
        refine lv_iload_n hx hb dX9_form_39 rfl (lv_at hl 1 rfl) ?_
        refine lv_iload_n hx hb dX9_form_40 rfl (lv_at hl 2 rfl) ?_
        refine lv_iload_n hx hb dX9_form_41 rfl (lv_at hl 3 rfl) ?_
        obtain ⟨r10, h11, hm⟩ := b1_some hm
        refine r_backP (va_runV (As := [.int a1, .int a2, .int a3]) (rest := []) ⟨hx, hb, C0.2.2.2.1, C0.2.2.2.2.1, C0.2.2.2.2.2.1⟩ (tX7_numberOf l E (fun k => ad (k + 48)) zw a1 a2 a3 h11 H.size) (cwV 3 C0.2.2.2.2.2.1 gX9_form_X7_numberOf rfl rfl rfl (by decide +kernel) ⟨Nat.le_of_ble_eq_true rfl, Nat.le_of_ble_eq_true rfl⟩) ⟨PG_blind, va_recv hA.2.2.1.1 hw.1 (ci := 7) (q0 := 48) rfl rfl, pg_at hA hw [48, 49] rfl (wcX_zw E ad zt zs zg zh zu zl zc zw)⟩ rfl rfl hl.1 rfl (lv_room (Nat.le_of_ble_eq_true rfl)) dX9_form_42 ⟨Nat.zero_le _, Nat.zero_le _⟩) hA hw [48, 49] [0, 1, 2, 3, 4, 5, 6, 7, 8, 9, 10, 11, 12, 13, 14, 15, 16, 17, 18, 19, 20, 21, 22, 23, 24, 25, 26, 27, 28, 29, 30, 31, 32, 33, 34, 35, 36, 37, 38, 39, 40, 41, 42, 43, 44, 45, 46, 47] (wcX_zw E ad zt zs zg zh zu zl zc zw) (wqX_zw E ad zt zs zg zh zu zl zc zw) rfl (by decide) (fun H locs hw => ?_)
        have hw := wjX_zw zw hw
        obtain rfl := sj1 hm
        exact r_iret C0 hw dX9_form_45 ⟨rfl, rfl⟩
      · have hm := Eq.trans (if_pos c9).symm hm
        refine lv_bipush (v := (-2)) hx hb dX9_form_32 (by decide) ?_
        obtain rfl := sj1 hm
        exact r_iret C0 hw dX9_form_34 ⟨rfl, rfl⟩
    · have hm := Eq.trans (if_pos c6).symm hm
      refine lv_bipush (v := (-2)) hx hb dX9_form_19 (by decide) ?_
      obtain rfl := sj1 hm
      exact r_iret C0 hw dX9_form_21 ⟨rfl, rfl⟩
theorem tX9_form (l : Launch) (E : EV) (ad : Nat → Nat) (zt : OS) (zs : OS) (zg : OS) (zh : OS) (zu : OS) (zl : OS) (zc : OS) (zw : OS) (a1 : Int32) (a2 : Int32) (a3 : Int32) {r : Int32} (hm : mX9_form zt zs zg zh zu zl zc zw a1 a2 a3 = some r) : CT l yX9_form wsX9_form ({ frames := 2, cells := 0, slots := 0, locals := 49 } : Room) E [.ref (ad 0), .int a1, .int a2, .int a3] (wX E ad zt zs zg zh zu zl zc zw) (Qd (some (.int r)) (wX E ad zt zs zg zh zu zl zc zw)) 0 0 :=
  CT.of (mL := 4) (lvs := [(0, .ref (ad 0)), (1, .int a1), (2, .int a2), (3, .int a3)]) (by decide +kernel) rfl (Nat.le_of_ble_eq_true rfl) rfl rfl rfl (fun p e s m below meth c A C0 hA hw ls hl => kX9_form_b0 (ad := ad) C0 hA a1 a2 a3 _ _ _ hm hw (lv_sub hl [0, 1, 2, 3] rfl))
theorem lkX9_doubled_58 : Cond.fieldLink RX9 58 (TX9 8).1 (TX9 8).2.1 (TX9 8).2.2.1 ∈ wsX9_doubled := by decide +kernel
theorem hiX9_doubled_X9 : ∀ w ∈ u_ws RX9 TX9 9, w ∈ wsX9_doubled := by decide +kernel
def mX9_doubled_b0 (F : Nat)  (zt : OS) (zs : OS) (zg : OS) (zh : OS) (zu : OS) (zl : OS) (zc : OS) (zw : OS) : Option (Int32) := b1 (mX7_countDoubled F zw) (fun r1 => some r1)
def mX9_doubled (F : Nat) (zt : OS) (zs : OS) (zg : OS) (zh : OS) (zu : OS) (zl : OS) (zc : OS) (zw : OS)  : Option (Int32) := mX9_doubled_b0 F zt zs zg zh zu zl zc zw
set_option maxRecDepth 20000 in
theorem kX9_doubled_b0 {p : Program} {l : Launch} {e : Env} {s : State} {m : MethodId} {args : Array Value} {below : List Frame} {meth : Method} {c : Code} {A : Nat → Prop} {E : EV} {ad : Nat → Nat} (F : Nat) {zt : OS} {zs : OS} {zg : OS} {zh : OS} {zu : OS} {zl : OS} {zc : OS} {zw : OS} {r : Int32} (C0 : Cx RX9 "doubled" cX9_doubled (some .int) 1 wsX9_doubled p s m args meth c) (hA : Ax E A s) : ∀  (H : Heap) (locs : List Loc) (ls : Array Slot), mX9_doubled_b0 F zt zs zg zh zu zl zc zw = some r → Wd E A s H locs (wX E ad zt zs zg zh zu zl zc zw) → lv_has ls 1 [(0, .ref (ad 0))] → W p l e ({ frames := 5, cells := 0, slots := 0, locals := 116 } : Room) s m args below meth c H locs 0 0 (MQ below (QG E (Qd (some (.int r)) (wX E ad zt zs zg zh zu zl zc zw)) A) args s 0 0 A) (F0 m 0 ls []) := by
  have hx := C0.1
  have hb := C0.2.1
  intro  H locs ls hm hw hl
  unfold mX9_doubled_b0 at hm
  refine lv_aload_n hx hb dX9_doubled_0 rfl (lv_at hl 0 rfl) ?_
  refine gX_0_8 C0 hA hw hiX9_doubled_X9 lkX9_doubled_58 dX9_doubled_1 ?_
  obtain ⟨r1, h2, hm⟩ := b1_some hm
  refine r_backP (va_runV (As := []) (rest := []) ⟨hx, hb, C0.2.2.2.1, C0.2.2.2.2.1, C0.2.2.2.2.2.1⟩ (tX7_countDoubled l E (fun k => ad (k + 48)) F zw h2 H.size) (cwV 0 C0.2.2.2.2.2.1 gX9_doubled_X7_countDoubled rfl rfl rfl (by decide +kernel) ⟨Nat.le_of_ble_eq_true rfl, Nat.le_of_ble_eq_true rfl⟩) ⟨PG_blind, va_recv hA.2.2.1.1 hw.1 (ci := 7) (q0 := 48) rfl rfl, pg_at hA hw [48, 49] rfl (wcX_zw E ad zt zs zg zh zu zl zc zw)⟩ rfl rfl hl.1 rfl (lv_room (Nat.le_of_ble_eq_true rfl)) dX9_doubled_4 ⟨Nat.zero_le _, Nat.zero_le _⟩) hA hw [48, 49] [0, 1, 2, 3, 4, 5, 6, 7, 8, 9, 10, 11, 12, 13, 14, 15, 16, 17, 18, 19, 20, 21, 22, 23, 24, 25, 26, 27, 28, 29, 30, 31, 32, 33, 34, 35, 36, 37, 38, 39, 40, 41, 42, 43, 44, 45, 46, 47] (wcX_zw E ad zt zs zg zh zu zl zc zw) (wqX_zw E ad zt zs zg zh zu zl zc zw) rfl (by decide) (fun H locs hw => ?_)
  have hw := wjX_zw zw hw
  obtain rfl := sj1 hm
  exact r_iret C0 hw dX9_doubled_7 ⟨rfl, rfl⟩
theorem tX9_doubled (l : Launch) (E : EV) (ad : Nat → Nat) (F : Nat) (zt : OS) (zs : OS) (zg : OS) (zh : OS) (zu : OS) (zl : OS) (zc : OS) (zw : OS)  {r : Int32} (hm : mX9_doubled F zt zs zg zh zu zl zc zw = some r) : CT l yX9_doubled wsX9_doubled ({ frames := 5, cells := 0, slots := 0, locals := 116 } : Room) E [.ref (ad 0)] (wX E ad zt zs zg zh zu zl zc zw) (Qd (some (.int r)) (wX E ad zt zs zg zh zu zl zc zw)) 0 0 :=
  CT.of (mL := 1) (lvs := [(0, .ref (ad 0))]) (by decide +kernel) rfl (Nat.le_of_ble_eq_true rfl) rfl rfl rfl (fun p e s m below meth c A C0 hA hw ls hl => kX9_doubled_b0 (ad := ad) F C0 hA  _ _ _ hm hw (lv_sub hl [0] rfl))
theorem lkX9_told_12 : Cond.fieldLink RX9 12 (TX9 0).1 (TX9 0).2.1 (TX9 0).2.2.1 ∈ wsX9_told := by decide +kernel
theorem lkX9_told_19 : Cond.fieldLink RX9 19 (TX9 1).1 (TX9 1).2.1 (TX9 1).2.2.1 ∈ wsX9_told := by decide +kernel
theorem lkX9_told_33 : Cond.fieldLink RX9 33 (TX9 4).1 (TX9 4).2.1 (TX9 4).2.2.1 ∈ wsX9_told := by decide +kernel
theorem lkX9_told_51 : Cond.fieldLink RX9 51 (TX9 7).1 (TX9 7).2.1 (TX9 7).2.2.1 ∈ wsX9_told := by decide +kernel
theorem hiX9_told_X9 : ∀ w ∈ u_ws RX9 TX9 9, w ∈ wsX9_told := by decide +kernel
theorem hiX9_told_X6 : ∀ w ∈ u_ws RX6 TX6 2, w ∈ wsX9_told := by decide +kernel
theorem hiX9_told_X2 : ∀ w ∈ u_ws RX2 TX2 16, w ∈ wsX9_told := by decide +kernel
theorem hiX9_told_X8 : ∀ w ∈ u_ws RX8 TX8 7, w ∈ wsX9_told := by decide +kernel
theorem hiX9_told_X0 : ∀ w ∈ u_ws RX0 TX0 5, w ∈ wsX9_told := by decide +kernel
def mX9_told_b0  (zt : OS) (zs : OS) (zg : OS) (zh : OS) (zu : OS) (zl : OS) (zc : OS) (zw : OS) (a1 : Int32) : Option (Int32) := (if (a1 : Int32) = 0 then some (zs.1 1) else if (a1 : Int32) = 1 then some (zg.1 11) else if (a1 : Int32) = 2 then some (zu.1 6) else if (a1 : Int32) = 3 then some (zc.1 3) else if (a1 : Int32) = 4 then some (zg.1 12) else if (a1 : Int32) = 5 then some (zg.1 13) else some (-2))
def mX9_told (zt : OS) (zs : OS) (zg : OS) (zh : OS) (zu : OS) (zl : OS) (zc : OS) (zw : OS) (a1 : Int32) : Option (Int32) := mX9_told_b0 zt zs zg zh zu zl zc zw a1
set_option maxRecDepth 20000 in
theorem kX9_told_b0 {p : Program} {l : Launch} {e : Env} {s : State} {m : MethodId} {args : Array Value} {below : List Frame} {meth : Method} {c : Code} {A : Nat → Prop} {E : EV} {ad : Nat → Nat} {zt : OS} {zs : OS} {zg : OS} {zh : OS} {zu : OS} {zl : OS} {zc : OS} {zw : OS} {r : Int32} (C0 : Cx RX9 "told" cX9_told (some .int) 2 wsX9_told p s m args meth c) (hA : Ax E A s) : ∀ (a1 : Int32) (H : Heap) (locs : List Loc) (ls : Array Slot), mX9_told_b0 zt zs zg zh zu zl zc zw a1 = some r → Wd E A s H locs (wX E ad zt zs zg zh zu zl zc zw) → lv_has ls 2 [(0, .ref (ad 0)), (1, .int a1)] → W p l e ({ frames := 0, cells := 0, slots := 0, locals := 0 } : Room) s m args below meth c H locs 0 0 (MQ below (QG E (Qd (some (.int r)) (wX E ad zt zs zg zh zu zl zc zw)) A) args s 0 0 A) (F0 m 0 ls []) := by
  have hx := C0.1
  have hb := C0.2.1
  intro a1 H locs ls hm hw hl
  unfold mX9_told_b0 at hm
  refine lv_iload_n hx hb dX9_told_0 rfl (lv_at hl 1 rfl) ?_
  by_cases c1 : (a1 : Int32) = 0
  · have hm := Eq.trans (if_pos c1).symm hm
    refine lv_tableIn (tgt := 40) (off := 39) hx hb dX9_told_1 (by rw [c1]; decide) (by rw [c1]; decide) (by rw [c1]; decide) (by decide) ?_
    refine lv_aload_n hx hb dX9_told_40 rfl (lv_at hl 0 rfl) ?_
    refine gX_0_0 C0 hA hw hiX9_told_X9 lkX9_told_12 dX9_told_41 ?_
    refine gnX_2_1 C0 hA hw hiX9_told_X6 lnX9_179 dX9_told_44 ?_
    obtain rfl := sj1 hm
    exact r_iret C0 hw dX9_told_47 ⟨rfl, rfl⟩
  · have hm := Eq.trans (if_neg c1).symm hm
    by_cases c2 : (a1 : Int32) = 1
    · have hm := Eq.trans (if_pos c2).symm hm
      refine lv_tableIn (tgt := 48) (off := 47) hx hb dX9_told_1 (by rw [c2]; decide) (by rw [c2]; decide) (by rw [c2]; decide) (by decide) ?_
      refine lv_aload_n hx hb dX9_told_48 rfl (lv_at hl 0 rfl) ?_
      refine gX_0_1 C0 hA hw hiX9_told_X9 lkX9_told_19 dX9_told_49 ?_
      refine gnX_4_11 C0 hA hw hiX9_told_X2 lnX9_88 dX9_told_52 ?_
      obtain rfl := sj1 hm
      exact r_iret C0 hw dX9_told_55 ⟨rfl, rfl⟩
    · have hm := Eq.trans (if_neg c2).symm hm
      by_cases c3 : (a1 : Int32) = 2
      · have hm := Eq.trans (if_pos c3).symm hm
        refine lv_tableIn (tgt := 56) (off := 55) hx hb dX9_told_1 (by rw [c3]; decide) (by rw [c3]; decide) (by rw [c3]; decide) (by decide) ?_
        refine lv_aload_n hx hb dX9_told_56 rfl (lv_at hl 0 rfl) ?_
        refine gX_0_4 C0 hA hw hiX9_told_X9 lkX9_told_33 dX9_told_57 ?_
        refine gnX_28_6 C0 hA hw hiX9_told_X8 lnX9_130 dX9_told_60 ?_
        obtain rfl := sj1 hm
        exact r_iret C0 hw dX9_told_63 ⟨rfl, rfl⟩
      · have hm := Eq.trans (if_neg c3).symm hm
        by_cases c4 : (a1 : Int32) = 3
        · have hm := Eq.trans (if_pos c4).symm hm
          refine lv_tableIn (tgt := 64) (off := 63) hx hb dX9_told_1 (by rw [c4]; decide) (by rw [c4]; decide) (by rw [c4]; decide) (by decide) ?_
          refine lv_aload_n hx hb dX9_told_64 rfl (lv_at hl 0 rfl) ?_
          refine gX_0_7 C0 hA hw hiX9_told_X9 lkX9_told_51 dX9_told_65 ?_
          refine gnX_44_3 C0 hA hw hiX9_told_X0 lnX9_154 dX9_told_68 ?_
          obtain rfl := sj1 hm
          exact r_iret C0 hw dX9_told_71 ⟨rfl, rfl⟩
        · have hm := Eq.trans (if_neg c4).symm hm
          by_cases c5 : (a1 : Int32) = 4
          · have hm := Eq.trans (if_pos c5).symm hm
            refine lv_tableIn (tgt := 72) (off := 71) hx hb dX9_told_1 (by rw [c5]; decide) (by rw [c5]; decide) (by rw [c5]; decide) (by decide) ?_
            refine lv_aload_n hx hb dX9_told_72 rfl (lv_at hl 0 rfl) ?_
            refine gX_0_1 C0 hA hw hiX9_told_X9 lkX9_told_19 dX9_told_73 ?_
            refine gnX_4_12 C0 hA hw hiX9_told_X2 lnX9_181 dX9_told_76 ?_
            obtain rfl := sj1 hm
            exact r_iret C0 hw dX9_told_79 ⟨rfl, rfl⟩
          · have hm := Eq.trans (if_neg c5).symm hm
            by_cases c6 : (a1 : Int32) = 5
            · have hm := Eq.trans (if_pos c6).symm hm
              refine lv_tableIn (tgt := 80) (off := 79) hx hb dX9_told_1 (by rw [c6]; decide) (by rw [c6]; decide) (by rw [c6]; decide) (by decide) ?_
              refine lv_aload_n hx hb dX9_told_80 rfl (lv_at hl 0 rfl) ?_
              refine gX_0_1 C0 hA hw hiX9_told_X9 lkX9_told_19 dX9_told_81 ?_
              refine gnX_4_13 C0 hA hw hiX9_told_X2 lnX9_184 dX9_told_84 ?_
              obtain rfl := sj1 hm
              exact r_iret C0 hw dX9_told_87 ⟨rfl, rfl⟩
            · have hm := Eq.trans (if_neg c6).symm hm
              refine lv_tableOut (tgt := 88) hx hb dX9_told_1 (by have q0 : (a1 : Int32).toInt ≠ 0 := i32_ne c1; have q1 : (a1 : Int32).toInt ≠ 1 := i32_ne c2; have q2 : (a1 : Int32).toInt ≠ 2 := i32_ne c3; have q3 : (a1 : Int32).toInt ≠ 3 := i32_ne c4; have q4 : (a1 : Int32).toInt ≠ 4 := i32_ne c5; have q5 : (a1 : Int32).toInt ≠ 5 := i32_ne c6; omega) (by decide) ?_
              refine lv_bipush (v := (-2)) hx hb dX9_told_88 (by decide) ?_
              obtain rfl := sj1 hm
              exact r_iret C0 hw dX9_told_90 ⟨rfl, rfl⟩
theorem tX9_told (l : Launch) (E : EV) (ad : Nat → Nat) (zt : OS) (zs : OS) (zg : OS) (zh : OS) (zu : OS) (zl : OS) (zc : OS) (zw : OS) (a1 : Int32) {r : Int32} (hm : mX9_told zt zs zg zh zu zl zc zw a1 = some r) : CT l yX9_told wsX9_told ({ frames := 0, cells := 0, slots := 0, locals := 0 } : Room) E [.ref (ad 0), .int a1] (wX E ad zt zs zg zh zu zl zc zw) (Qd (some (.int r)) (wX E ad zt zs zg zh zu zl zc zw)) 0 0 :=
  CT.of (mL := 2) (lvs := [(0, .ref (ad 0)), (1, .int a1)]) (by decide +kernel) rfl (Nat.le_of_ble_eq_true rfl) rfl rfl rfl (fun p e s m below meth c A C0 hA hw ls hl => kX9_told_b0 (ad := ad) C0 hA a1 _ _ _ hm hw (lv_sub hl [0, 1] rfl))

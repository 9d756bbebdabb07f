theorem lkX5_here_9 : Cond.fieldLink RX5 9 (TX5 2).1 (TX5 2).2.1 (TX5 2).2.2.1 ∈ wsX5_here := by decide +kernel
theorem lkX5_here_18 : Cond.fieldLink RX5 18 (TX5 0).1 (TX5 0).2.1 (TX5 0).2.2.1 ∈ wsX5_here := by decide +kernel
theorem hiX5_here_X5 : ∀ w ∈ u_ws RX5 TX5 4, w ∈ wsX5_here := by decide +kernel
theorem hiX5_here_X6 : ∀ w ∈ u_ws RX6 TX6 2, w ∈ wsX5_here := by decide +kernel
def mX5_here_b0  (zr : OS) (zs : OS) (zg : OS) : Option (Int32) := (if (zr.1 2 : Int32) < 0 then some (-1) else (if (zs.1 1) ≤ (zr.1 2 : Int32) then some (-1) else gd (zr.1 2) 1200 (some (zs.2.2.1 0 (zr.1 2 : Int32).toNatClampNeg))))
def mX5_here (zr : OS) (zs : OS) (zg : OS)  : Option (Int32) := mX5_here_b0 zr zs zg
set_option maxRecDepth 20000 in
theorem kX5_here_b0 {p : Program} {l : Launch} {e : Env} {s : State} {m : MethodId} {args : Array Value} {below : List Frame} {meth : Method} {c : Code} {A : Nat → Prop} {E : EV} {ad : Nat → Nat} {zr : OS} {zs : OS} {zg : OS} {r : Int32} (C0 : Cx RX5 "here" cX5_here (some .int) 1 wsX5_here p s m args meth c) (hA : Ax E A s) : ∀  (H : Heap) (locs : List Loc) (ls : Array Slot), mX5_here_b0 zr zs zg = some r → Wd E A s H locs (wR E ad zr zs zg) → lv_has ls 1 [(0, .ref (ad 0))] → W p l e ({ frames := 0, cells := 0, slots := 0, locals := 0 } : Room) s m args below meth c H locs 0 0 (MQ below (QG E (Qd (some (.int r)) (wR E ad zr zs zg)) A) args s 0 0 A) (F0 m 0 ls []) := by
  have hx := C0.1
  have hb := C0.2.1
  intro  H locs ls hm hw hl
  unfold mX5_here_b0 at hm
  refine lv_aload_n hx hb dX5_here_0 rfl (lv_at hl 0 rfl) ?_
  refine gR_0_2 C0 hA hw hiX5_here_X5 lkX5_here_9 dX5_here_1 ?_
  refine lv_if_lt (tgt := 36) hx hb dX5_here_4 (by decide) (fun c1 => ?_) (fun c1 => ?_)
  · have hm := Eq.trans (if_pos c1).symm hm
    refine lv_iconst (v := (-1)) hx hb dX5_here_36 (by decide) ?_
    obtain rfl := sj1 hm
    exact r_iret C0 hw dX5_here_37 ⟨rfl, rfl⟩
  · have hm := Eq.trans (if_neg c1).symm hm
    refine lv_aload_n hx hb dX5_here_7 rfl (lv_at hl 0 rfl) ?_
    refine gR_0_2 C0 hA hw hiX5_here_X5 lkX5_here_9 dX5_here_8 ?_
    refine lv_aload_n hx hb dX5_here_11 rfl (lv_at hl 0 rfl) ?_
    refine gR_0_0 C0 hA hw hiX5_here_X5 lkX5_here_18 dX5_here_12 ?_
    refine gnR_1_1 C0 hA hw hiX5_here_X6 lnX5_51 dX5_here_15 ?_
    refine lv_icmp_ge (tgt := 36) hx hb dX5_here_18 (by decide) (fun c2 => ?_) (fun c2 => ?_)
    · have hm := Eq.trans (if_pos c2).symm hm
      refine lv_iconst (v := (-1)) hx hb dX5_here_36 (by decide) ?_
      obtain rfl := sj1 hm
      exact r_iret C0 hw dX5_here_37 ⟨rfl, rfl⟩
    · have hm := Eq.trans (if_neg c2).symm hm
      refine lv_aload_n hx hb dX5_here_21 rfl (lv_at hl 0 rfl) ?_
      refine gR_0_0 C0 hA hw hiX5_here_X5 lkX5_here_18 dX5_here_22 ?_
      refine gnR_1_0 C0 hA hw hiX5_here_X6 lnX5_54 dX5_here_25 ?_
      refine lv_aload_n hx hb dX5_here_28 rfl (lv_at hl 0 rfl) ?_
      refine gR_0_2 C0 hA hw hiX5_here_X5 lkX5_here_9 dX5_here_29 ?_
      obtain ⟨c3, hm⟩ := gd_some hm
      refine lR_2 C0 hA hw c3 dX5_here_32 ?_
      refine lv_goto (tgt := 37) hx hb dX5_here_33 (by decide) ?_
      obtain rfl := sj1 hm
      exact r_iret C0 hw dX5_here_37 ⟨rfl, rfl⟩
theorem tX5_here (l : Launch) (E : EV) (ad : Nat → Nat) (zr : OS) (zs : OS) (zg : OS)  {r : Int32} (hm : mX5_here zr zs zg = some r) : CT l yX5_here wsX5_here ({ frames := 0, cells := 0, slots := 0, locals := 0 } : Room) E [.ref (ad 0)] (wR E ad zr zs zg) (Qd (some (.int r)) (wR E ad zr zs zg)) 0 0 :=
  CT.of (mL := 1) (lvs := [(0, .ref (ad 0))]) (by decide +kernel) rfl (Nat.le_of_ble_eq_true rfl) rfl rfl rfl (fun p e s m below meth c A C0 hA hw ls hl => kX5_here_b0 (ad := ad) C0 hA  _ _ _ hm hw (lv_sub hl [0] rfl))
theorem lkX5_failAt_15 : Cond.fieldLink RX5 15 (TX5 3).1 (TX5 3).2.1 (TX5 3).2.2.1 ∈ wsX5_failAt := by decide +kernel
theorem hiX5_failAt_X5 : ∀ w ∈ u_ws RX5 TX5 4, w ∈ wsX5_failAt := by decide +kernel
def mX5_failAt_b0  (zr : OS) (zs : OS) (zg : OS) (a1 : Int32) : Option (Int32 × OS) := nm (sI zr 3 a1) (fun zr1 => some (0, zr1))
def mX5_failAt (zr : OS) (zs : OS) (zg : OS) (a1 : Int32) : Option (Int32 × OS) := mX5_failAt_b0 zr zs zg a1
set_option maxRecDepth 20000 in
theorem kX5_failAt_b0 {p : Program} {l : Launch} {e : Env} {s : State} {m : MethodId} {args : Array Value} {below : List Frame} {meth : Method} {c : Code} {A : Nat → Prop} {E : EV} {ad : Nat → Nat} {zs : OS} {zg : OS} {r : Int32} {zr' : OS} (C0 : Cx RX5 "failAt" cX5_failAt (some .boolean) 2 wsX5_failAt p s m args meth c) (hA : Ax E A s) : ∀ (zr : OS) (a1 : Int32) (H : Heap) (locs : List Loc) (ls : Array Slot), mX5_failAt_b0 zr zs zg a1 = some (r, zr') → Wd E A s H locs (wR E ad zr zs zg) → lv_has ls 2 [(0, .ref (ad 0)), (1, .int a1)] → W p l e ({ frames := 0, cells := 0, slots := 0, locals := 0 } : Room) s m args below meth c H locs 0 0 (MQ below (QG E (Qd (some (.int r)) (wR E ad zr' zs zg)) A) args s 0 0 A) (F0 m 0 ls []) := by
  have hx := C0.1
  have hb := C0.2.1
  intro zr a1 H locs ls hm hw hl
  unfold mX5_failAt_b0 at hm
  refine lv_aload_n hx hb dX5_failAt_0 rfl (lv_at hl 0 rfl) ?_
  refine lv_iload_n hx hb dX5_failAt_1 rfl (lv_at hl 1 rfl) ?_
  refine pR_0_3 C0 hA hw hiX5_failAt_X5 lkX5_failAt_15 dX5_failAt_2 (fun zr1 ezr1 H locs hw => ?_)
  have hm := nm_at hm ezr1
  refine lv_iconst (v := 0) hx hb dX5_failAt_5 (by decide) ?_
  obtain ⟨rfl, rfl⟩ := sj2 hm
  exact r_zret C0 hw dX5_failAt_6 rfl ⟨rfl, rfl⟩
theorem tX5_failAt (l : Launch) (E : EV) (ad : Nat → Nat) (zr : OS) (zs : OS) (zg : OS) (a1 : Int32) {r : Int32} {zr' : OS} (hm : mX5_failAt zr zs zg a1 = some (r, zr')) : CT l yX5_failAt wsX5_failAt ({ frames := 0, cells := 0, slots := 0, locals := 0 } : Room) E [.ref (ad 0), .int a1] (wR E ad zr zs zg) (Qd (some (.int r)) (wR E ad zr' zs zg)) 0 0 :=
  CT.of (mL := 2) (lvs := [(0, .ref (ad 0)), (1, .int a1)]) (by decide +kernel) rfl (Nat.le_of_ble_eq_true rfl) rfl rfl rfl (fun p e s m below meth c A C0 hA hw ls hl => kX5_failAt_b0 (ad := ad) C0 hA zr a1 _ _ _ hm hw (lv_sub hl [0, 1] rfl))
theorem lkX5_readHead_22 : Cond.fieldLink RX5 22 (TX5 1).1 (TX5 1).2.1 (TX5 1).2.2.1 ∈ wsX5_readHead := by decide +kernel
theorem lkX5_readHead_18 : Cond.fieldLink RX5 18 (TX5 0).1 (TX5 0).2.1 (TX5 0).2.2.1 ∈ wsX5_readHead := by decide +kernel
theorem lkX5_readHead_9 : Cond.fieldLink RX5 9 (TX5 2).1 (TX5 2).2.1 (TX5 2).2.2.1 ∈ wsX5_readHead := by decide +kernel
theorem hiX5_readHead_X5 : ∀ w ∈ u_ws RX5 TX5 4, w ∈ wsX5_readHead := by decide +kernel
def mX5_readHead_b0 (F : Nat)  (zr : OS) (zs : OS) (zg : OS) : Option (Int32 × OS × OS) := b1 (mX5_here zr zs zg) (fun r1 => nm (r1 - 65 : Int32) (fun v3 => b1 (mX2_canOpenRule zg v3) (fun r4 => (if (r4 : Int32) = 0 then b2 (mX5_failAt zr zs zg (zr.1 2)) (fun r19 zr20 => bz r19 (some (r19, zr20, zg))) else b1 (mX6_skipBlanks F zs ((zr.1 2) + 1)) (fun r7 => nm (sI zr 2 r7) (fun zr9 => b1 (mX5_here zr9 zs zg) (fun r10 => (if (r10 : Int32) = 61 then b1 (mX2_openRule zg v3) (fun zg13 => some (1, zr9, zg13)) else b2 (mX5_failAt zr9 zs zg (zr9.1 2)) (fun r15 zr16 => bz r15 (some (r15, zr16, zg)))))))))))
def mX5_readHead (F : Nat) (zr : OS) (zs : OS) (zg : OS)  : Option (Int32 × OS × OS) := mX5_readHead_b0 F zr zs zg
set_option maxRecDepth 20000 in
theorem kX5_readHead_b0 {p : Program} {l : Launch} {e : Env} {s : State} {m : MethodId} {args : Array Value} {below : List Frame} {meth : Method} {c : Code} {A : Nat → Prop} {E : EV} {ad : Nat → Nat} (F : Nat) {zs : OS} {r : Int32} {zr' : OS} {zg' : OS} (C0 : Cx RX5 "readHead" cX5_readHead (some .boolean) 2 wsX5_readHead p s m args meth c) (hA : Ax E A s) : ∀ (zr : OS) (zg : OS) (H : Heap) (locs : List Loc) (ls : Array Slot), mX5_readHead_b0 F zr zs zg = some (r, zr', zg') → Wd E A s H locs (wR E ad zr zs zg) → lv_has ls 2 [(0, .ref (ad 0))] → W p l e ({ frames := 3, cells := 0, slots := 0, locals := 64 } : Room) s m args below meth c H locs 0 0 (MQ below (QG E (Qd (some (.int r)) (wR E ad zr' zs zg')) A) args s 0 0 A) (F0 m 0 ls []) := by
  have hx := C0.1
  have hb := C0.2.1
  intro zr zg H locs ls hm hw hl
  unfold mX5_readHead_b0 at hm
  refine lv_aload_n hx hb dX5_readHead_0 rfl (lv_at hl 0 rfl) ?_
  obtain ⟨r1, h2, hm⟩ := b1_some hm
  refine r_backS (va_runV (As := []) (rest := []) ⟨hx, hb, C0.2.2.2.1, C0.2.2.2.2.1, C0.2.2.2.2.2.1⟩ (tX5_here l E ad zr zs zg h2 H.size) (cwV 0 C0.2.2.2.2.2.1 gX5_readHead_X5_here rfl rfl rfl (by decide +kernel) ⟨Nat.le_of_ble_eq_true rfl, Nat.le_of_ble_eq_true rfl⟩) ⟨PG_blind, va_recv hA.2.2.1.1 hw.1 (ci := 5) (q0 := 0) rfl rfl, pg_self hA hw⟩ rfl rfl hl.1 rfl (lv_room (Nat.le_of_ble_eq_true rfl)) dX5_readHead_1 ⟨Nat.zero_le _, Nat.zero_le _⟩) hA hw (fun H locs hw => ?_)
  refine lv_bipush (v := 65) hx hb dX5_readHead_4 (by decide) ?_
  refine lv_isub hx hb dX5_readHead_6 ?_
  refine lv_topi (fun v3 ev3 => ?_)
  have hm := nm_at hm ev3
  refine lv_istore_n (lv' := [(1, .int v3), (0, .ref (ad 0))]) hx hb dX5_readHead_7 rfl hl (by decide) rfl (fun ls hl => ?_)
  refine lv_aload_n hx hb dX5_readHead_8 rfl (lv_at hl 1 rfl) ?_
  refine gR_0_1 C0 hA hw hiX5_readHead_X5 lkX5_readHead_22 dX5_readHead_9 ?_
  refine lv_iload_n hx hb dX5_readHead_12 rfl (lv_at hl 0 rfl) ?_
  obtain ⟨r4, h5, hm⟩ := b1_some hm
  refine r_backP (va_runV (As := [.int v3]) (rest := []) ⟨hx, hb, C0.2.2.2.1, C0.2.2.2.2.1, C0.2.2.2.2.2.1⟩ (tX2_canOpenRule l E (fun k => ad (k + 3)) zg v3 h5 H.size) (cwV 1 C0.2.2.2.2.2.1 gX5_readHead_X2_canOpenRule rfl rfl rfl (by decide +kernel) ⟨Nat.le_of_ble_eq_true rfl, Nat.le_of_ble_eq_true rfl⟩) ⟨PG_blind, va_recv hA.2.2.1.1 hw.1 (ci := 2) (q0 := 3) rfl rfl, pg_at hA hw [3, 4, 5, 6, 7, 8, 9, 10, 11, 12, 13, 14] rfl (wcR_zg E ad zr zs zg)⟩ rfl rfl hl.1 rfl (lv_room (Nat.le_of_ble_eq_true rfl)) dX5_readHead_13 ⟨Nat.zero_le _, Nat.zero_le _⟩) hA hw [3, 4, 5, 6, 7, 8, 9, 10, 11, 12, 13, 14] [0, 1, 2] (wcR_zg E ad zr zs zg) (wqR_zg E ad zr zs zg) rfl (by decide) (fun H locs hw => ?_)
  have hw := wjR_zg zg hw
  refine lv_if_ne (tgt := 28) hx hb dX5_readHead_16 (by decide) (fun c6 => ?_) (fun c6 => ?_)
  · have hm := Eq.trans (if_neg c6).symm hm
    refine lv_aload_n hx hb dX5_readHead_28 rfl (lv_at hl 1 rfl) ?_
    refine lv_aload_n hx hb dX5_readHead_29 rfl (lv_at hl 1 rfl) ?_
    refine gR_0_0 C0 hA hw hiX5_readHead_X5 lkX5_readHead_18 dX5_readHead_30 ?_
    refine lv_aload_n hx hb dX5_readHead_33 rfl (lv_at hl 1 rfl) ?_
    refine gR_0_2 C0 hA hw hiX5_readHead_X5 lkX5_readHead_9 dX5_readHead_34 ?_
    refine lv_iconst (v := 1) hx hb dX5_readHead_37 (by decide) ?_
    refine lv_iadd hx hb dX5_readHead_38 ?_
    obtain ⟨r7, h8, hm⟩ := b1_some hm
    refine r_backP (va_runV (As := [.int ((zr.1 2) + 1)]) (rest := [.ref (ad 0)]) ⟨hx, hb, C0.2.2.2.1, C0.2.2.2.2.1, C0.2.2.2.2.2.1⟩ (tX6_skipBlanks l E (fun k => ad (k + 1)) F zs ((zr.1 2) + 1) h8 H.size) (cwV 1 C0.2.2.2.2.2.1 gX5_readHead_X6_skipBlanks rfl rfl rfl (by decide +kernel) ⟨Nat.le_of_ble_eq_true rfl, Nat.le_of_ble_eq_true rfl⟩) ⟨PG_blind, va_recv hA.2.2.1.1 hw.1 (ci := 6) (q0 := 1) rfl rfl, pg_at hA hw [1, 2] rfl (wcR_zs E ad zr zs zg)⟩ rfl rfl hl.1 rfl (lv_room (Nat.le_of_ble_eq_true rfl)) dX5_readHead_39 ⟨Nat.zero_le _, Nat.zero_le _⟩) hA hw [1, 2] [0, 3, 4, 5, 6, 7, 8, 9, 10, 11, 12, 13, 14] (wcR_zs E ad zr zs zg) (wqR_zs E ad zr zs zg) rfl (by decide) (fun H locs hw => ?_)
    have hw := wjR_zs zs hw
    refine pR_0_2 C0 hA hw hiX5_readHead_X5 lkX5_readHead_9 dX5_readHead_42 (fun zr9 ezr9 H locs hw => ?_)
    have hm := nm_at hm ezr9
    refine lv_aload_n hx hb dX5_readHead_45 rfl (lv_at hl 1 rfl) ?_
    obtain ⟨r10, h11, hm⟩ := b1_some hm
    refine r_backS (va_runV (As := []) (rest := []) ⟨hx, hb, C0.2.2.2.1, C0.2.2.2.2.1, C0.2.2.2.2.2.1⟩ (tX5_here l E ad zr9 zs zg h11 H.size) (cwV 0 C0.2.2.2.2.2.1 gX5_readHead_X5_here rfl rfl rfl (by decide +kernel) ⟨Nat.le_of_ble_eq_true rfl, Nat.le_of_ble_eq_true rfl⟩) ⟨PG_blind, va_recv hA.2.2.1.1 hw.1 (ci := 5) (q0 := 0) rfl rfl, pg_self hA hw⟩ rfl rfl hl.1 rfl (lv_room (Nat.le_of_ble_eq_true rfl)) dX5_readHead_46 ⟨Nat.zero_le _, Nat.zero_le _⟩) hA hw (fun H locs hw => ?_)
    refine lv_bipush (v := 61) hx hb dX5_readHead_49 (by decide) ?_
    refine lv_icmp_eq (tgt := 63) hx hb dX5_readHead_51 (by decide) (fun c12 => ?_) (fun c12 => ?_)
    · have hm := Eq.trans (if_pos c12).symm hm
      refine lv_aload_n hx hb dX5_readHead_63 rfl (lv_at hl 1 rfl) ?_
      refine gR_0_1 C0 hA hw hiX5_readHead_X5 lkX5_readHead_22 dX5_readHead_64 ?_
      refine lv_iload_n hx hb dX5_readHead_67 rfl (lv_at hl 0 rfl) ?_
      obtain ⟨zg13, h14, hm⟩ := b1_some hm
      refine r_backP (va_runV (As := [.int v3]) (rest := []) ⟨hx, hb, C0.2.2.2.1, C0.2.2.2.2.1, C0.2.2.2.2.2.1⟩ (tX2_openRule l E (fun k => ad (k + 3)) zg v3 h14 H.size) (cwV 1 C0.2.2.2.2.2.1 gX5_readHead_X2_openRule rfl rfl rfl (by decide +kernel) ⟨Nat.le_of_ble_eq_true rfl, Nat.le_of_ble_eq_true rfl⟩) ⟨PG_blind, va_recv hA.2.2.1.1 hw.1 (ci := 2) (q0 := 3) rfl rfl, pg_at hA hw [3, 4, 5, 6, 7, 8, 9, 10, 11, 12, 13, 14] rfl (wcR_zg E ad zr9 zs zg)⟩ rfl rfl hl.1 rfl (lv_room (Nat.le_of_ble_eq_true rfl)) dX5_readHead_68 ⟨Nat.zero_le _, Nat.zero_le _⟩) hA hw [3, 4, 5, 6, 7, 8, 9, 10, 11, 12, 13, 14] [0, 1, 2] (wcR_zg E ad zr9 zs zg) (wqR_zg E ad zr9 zs zg) rfl (by decide) (fun H locs hw => ?_)
      have hw := wjR_zg zg13 hw
      refine lv_iconst (v := 1) hx hb dX5_readHead_71 (by decide) ?_
      obtain ⟨rfl, rfl, rfl⟩ := sj3 hm
      exact r_zret C0 hw dX5_readHead_72 rfl ⟨rfl, rfl⟩
    · have hm := Eq.trans (if_neg c12).symm hm
      refine lv_aload_n hx hb dX5_readHead_54 rfl (lv_at hl 1 rfl) ?_
      refine lv_aload_n hx hb dX5_readHead_55 rfl (lv_at hl 1 rfl) ?_
      refine gR_0_2 C0 hA hw hiX5_readHead_X5 lkX5_readHead_9 dX5_readHead_56 ?_
      obtain ⟨r15, zr16, h17, hm⟩ := b2_some hm
      refine r_backS (va_runV (As := [.int (zr9.1 2)]) (rest := []) ⟨hx, hb, C0.2.2.2.1, C0.2.2.2.2.1, C0.2.2.2.2.2.1⟩ (tX5_failAt l E ad zr9 zs zg (zr9.1 2) h17 H.size) (cwV 1 C0.2.2.2.2.2.1 gX5_readHead_X5_failAt rfl rfl rfl (by decide +kernel) ⟨Nat.le_of_ble_eq_true rfl, Nat.le_of_ble_eq_true rfl⟩) ⟨PG_blind, va_recv hA.2.2.1.1 hw.1 (ci := 5) (q0 := 0) rfl rfl, pg_self hA hw⟩ rfl rfl hl.1 rfl (lv_room (Nat.le_of_ble_eq_true rfl)) dX5_readHead_59 ⟨Nat.zero_le _, Nat.zero_le _⟩) hA hw (fun H locs hw => ?_)
      obtain ⟨c18, hm⟩ := bz_some hm
      obtain ⟨rfl, rfl, rfl⟩ := sj3 hm
      exact r_zret C0 hw dX5_readHead_62 c18 ⟨rfl, rfl⟩
  · have hm := Eq.trans (if_pos c6).symm hm
    refine lv_aload_n hx hb dX5_readHead_19 rfl (lv_at hl 1 rfl) ?_
    refine lv_aload_n hx hb dX5_readHead_20 rfl (lv_at hl 1 rfl) ?_
    refine gR_0_2 C0 hA hw hiX5_readHead_X5 lkX5_readHead_9 dX5_readHead_21 ?_
    obtain ⟨r19, zr20, h21, hm⟩ := b2_some hm
    refine r_backS (va_runV (As := [.int (zr.1 2)]) (rest := []) ⟨hx, hb, C0.2.2.2.1, C0.2.2.2.2.1, C0.2.2.2.2.2.1⟩ (tX5_failAt l E ad zr zs zg (zr.1 2) h21 H.size) (cwV 1 C0.2.2.2.2.2.1 gX5_readHead_X5_failAt rfl rfl rfl (by decide +kernel) ⟨Nat.le_of_ble_eq_true rfl, Nat.le_of_ble_eq_true rfl⟩) ⟨PG_blind, va_recv hA.2.2.1.1 hw.1 (ci := 5) (q0 := 0) rfl rfl, pg_self hA hw⟩ rfl rfl hl.1 rfl (lv_room (Nat.le_of_ble_eq_true rfl)) dX5_readHead_24 ⟨Nat.zero_le _, Nat.zero_le _⟩) hA hw (fun H locs hw => ?_)
    obtain ⟨c22, hm⟩ := bz_some hm
    obtain ⟨rfl, rfl, rfl⟩ := sj3 hm
    exact r_zret C0 hw dX5_readHead_27 c22 ⟨rfl, rfl⟩
theorem tX5_readHead (l : Launch) (E : EV) (ad : Nat → Nat) (F : Nat) (zr : OS) (zs : OS) (zg : OS)  {r : Int32} {zr' : OS} {zg' : OS} (hm : mX5_readHead F zr zs zg = some (r, zr', zg')) : CT l yX5_readHead wsX5_readHead ({ frames := 3, cells := 0, slots := 0, locals := 64 } : Room) E [.ref (ad 0)] (wR E ad zr zs zg) (Qd (some (.int r)) (wR E ad zr' zs zg')) 0 0 :=
  CT.of (mL := 2) (lvs := [(0, .ref (ad 0))]) (by decide +kernel) rfl (Nat.le_of_ble_eq_true rfl) rfl rfl rfl (fun p e s m below meth c A C0 hA hw ls hl => kX5_readHead_b0 (ad := ad) F C0 hA zr zg _ _ _ hm hw (lv_sub hl [0] rfl))
theorem lkX5_readWeight_22 : Cond.fieldLink RX5 22 (TX5 1).1 (TX5 1).2.1 (TX5 1).2.2.1 ∈ wsX5_readWeight := by decide +kernel
theorem lkX5_readWeight_9 : Cond.fieldLink RX5 9 (TX5 2).1 (TX5 2).2.1 (TX5 2).2.2.1 ∈ wsX5_readWeight := by decide +kernel
theorem lkX5_readWeight_18 : Cond.fieldLink RX5 18 (TX5 0).1 (TX5 0).2.1 (TX5 0).2.2.1 ∈ wsX5_readWeight := by decide +kernel
theorem hiX5_readWeight_X5 : ∀ w ∈ u_ws RX5 TX5 4, w ∈ wsX5_readWeight := by decide +kernel
theorem hiX5_readWeight_X6 : ∀ w ∈ u_ws RX6 TX6 2, w ∈ wsX5_readWeight := by decide +kernel
def mX5_readWeight_b34 (F : Nat)  (zr : OS) (zs : OS) (zg : OS) (a1 : Int32) : Option (Int32 × OS × OS) := b2 (mX5_failAt zr zs zg a1) (fun r1 zr2 => bz r1 (some (r1, zr2, zg)))
def mX5_readWeight_b105 (F : Nat)  (zr : OS) (zs : OS) (zg : OS) (a2 : Int32) : Option (Int32 × OS × OS) := b1 (mX2_openAlternative zg a2) (fun zg1 => some (1, zr, zg1))
def mX5_readWeight_b42 (F : Nat)  : Nat → OS → OS → OS → Int32 → Int32 → Option (Int32 × OS × OS)
  | 0, _, _, _, _, _ => none
  | n + 1, zr, zs, zg, a1, a2 => (if (zs.1 1) ≤ (zr.1 2 : Int32) then mX5_readWeight_b105 F zr zs zg a2 else b1 (mX5_here zr zs zg) (fun r2 => b1 (mX9_isDigit r2) (fun r4 => (if (r4 : Int32) = 0 then mX5_readWeight_b105 F zr zs zg a2 else b1 (mX5_here zr zs zg) (fun r7 => nm (((a2 * 10) + r7) - 48 : Int32) (fun v9 => (if (v9 : Int32) ≤ 999 then nm (sI zr 2 ((zr.1 2) + 1)) (fun zr11 => mX5_readWeight_b42 F n zr11 zs zg a1 v9) else b2 (mX5_failAt zr zs zg a1) (fun r12 zr13 => bz r12 (some (r12, zr13, zg))))))))))
def mX5_readWeight_b0 (F : Nat)  (zr : OS) (zs : OS) (zg : OS) : Option (Int32 × OS × OS) := nm (zr.1 2 : Int32) (fun v1 => b1 (mX5_here zr zs zg) (fun r2 => b1 (mX9_isDigit r2) (fun r4 => (if (r4 : Int32) = 0 then mX5_readWeight_b34 F zr zs zg v1 else b1 (mX5_here zr zs zg) (fun r7 => (if (r7 : Int32) = 48 then mX5_readWeight_b34 F zr zs zg v1 else b1 (mX2_canOpenAlternative zg) (fun r10 => (if (r10 : Int32) = 0 then mX5_readWeight_b34 F zr zs zg v1 else nm (0 : Int32) (fun v13 => mX5_readWeight_b42 F F zr zs zg v1 v13)))))))))
def mX5_readWeight (F : Nat) (zr : OS) (zs : OS) (zg : OS)  : Option (Int32 × OS × OS) := mX5_readWeight_b0 F zr zs zg
set_option maxRecDepth 20000 in
theorem kX5_readWeight_b34 {p : Program} {l : Launch} {e : Env} {s : State} {m : MethodId} {args : Array Value} {below : List Frame} {meth : Method} {c : Code} {A : Nat → Prop} {E : EV} {ad : Nat → Nat} (F : Nat) {zs : OS} {r : Int32} {zr' : OS} {zg' : OS} (C0 : Cx RX5 "readWeight" cX5_readWeight (some .boolean) 3 wsX5_readWeight p s m args meth c) (hA : Ax E A s) : ∀ (zr : OS) (zg : OS) (a1 : Int32) (H : Heap) (locs : List Loc) (ls : Array Slot), mX5_readWeight_b34 F zr zs zg a1 = some (r, zr', zg') → Wd E A s H locs (wR E ad zr zs zg) → lv_has ls 3 [(0, .ref (ad 0)), (1, .int a1)] → W p l e ({ frames := 1, cells := 0, slots := 0, locals := 21 } : Room) s m args below meth c H locs 0 0 (MQ below (QG E (Qd (some (.int r)) (wR E ad zr' zs zg')) A) args s 0 0 A) (F0 m 34 ls []) := by
  have hx := C0.1
  have hb := C0.2.1
  intro zr zg a1 H locs ls hm hw hl
  unfold mX5_readWeight_b34 at hm
  refine lv_aload_n hx hb dX5_readWeight_34 rfl (lv_at hl 0 rfl) ?_
  refine lv_iload_n hx hb dX5_readWeight_35 rfl (lv_at hl 1 rfl) ?_
  obtain ⟨r1, zr2, h3, hm⟩ := b2_some hm
  refine r_backS (va_runV (As := [.int a1]) (rest := []) ⟨hx, hb, C0.2.2.2.1, C0.2.2.2.2.1, C0.2.2.2.2.2.1⟩ (tX5_failAt l E ad zr zs zg a1 h3 H.size) (cwV 1 C0.2.2.2.2.2.1 gX5_readWeight_X5_failAt rfl rfl rfl (by decide +kernel) ⟨Nat.le_of_ble_eq_true rfl, Nat.le_of_ble_eq_true rfl⟩) ⟨PG_blind, va_recv hA.2.2.1.1 hw.1 (ci := 5) (q0 := 0) rfl rfl, pg_self hA hw⟩ rfl rfl hl.1 rfl (lv_room (Nat.le_of_ble_eq_true rfl)) dX5_readWeight_36 ⟨Nat.zero_le _, Nat.zero_le _⟩) hA hw (fun H locs hw => ?_)
  obtain ⟨c4, hm⟩ := bz_some hm
  obtain ⟨rfl, rfl, rfl⟩ := sj3 hm
  exact r_zret C0 hw dX5_readWeight_39 c4 ⟨rfl, rfl⟩
set_option maxRecDepth 20000 in
theorem kX5_readWeight_b105 {p : Program} {l : Launch} {e : Env} {s : State} {m : MethodId} {args : Array Value} {below : List Frame} {meth : Method} {c : Code} {A : Nat → Prop} {E : EV} {ad : Nat → Nat} (F : Nat) {zs : OS} {r : Int32} {zr' : OS} {zg' : OS} (C0 : Cx RX5 "readWeight" cX5_readWeight (some .boolean) 3 wsX5_readWeight p s m args meth c) (hA : Ax E A s) : ∀ (zr : OS) (zg : OS) (a2 : Int32) (H : Heap) (locs : List Loc) (ls : Array Slot), mX5_readWeight_b105 F zr zs zg a2 = some (r, zr', zg') → Wd E A s H locs (wR E ad zr zs zg) → lv_has ls 3 [(0, .ref (ad 0)), (2, .int a2)] → W p l e ({ frames := 1, cells := 0, slots := 0, locals := 21 } : Room) s m args below meth c H locs 0 0 (MQ below (QG E (Qd (some (.int r)) (wR E ad zr' zs zg')) A) args s 0 0 A) (F0 m 105 ls []) := by
  have hx := C0.1
  have hb := C0.2.1
  intro zr zg a2 H locs ls hm hw hl
  unfold mX5_readWeight_b105 at hm
  refine lv_aload_n hx hb dX5_readWeight_105 rfl (lv_at hl 0 rfl) ?_
  refine gR_0_1 C0 hA hw hiX5_readWeight_X5 lkX5_readWeight_22 dX5_readWeight_106 ?_
  refine lv_iload_n hx hb dX5_readWeight_109 rfl (lv_at hl 1 rfl) ?_
  obtain ⟨zg1, h2, hm⟩ := b1_some hm
  refine r_backP (va_runV (As := [.int a2]) (rest := []) ⟨hx, hb, C0.2.2.2.1, C0.2.2.2.2.1, C0.2.2.2.2.2.1⟩ (tX2_openAlternative l E (fun k => ad (k + 3)) zg a2 h2 H.size) (cwV 1 C0.2.2.2.2.2.1 gX5_readWeight_X2_openAlternative rfl rfl rfl (by decide +kernel) ⟨Nat.le_of_ble_eq_true rfl, Nat.le_of_ble_eq_true rfl⟩) ⟨PG_blind, va_recv hA.2.2.1.1 hw.1 (ci := 2) (q0 := 3) rfl rfl, pg_at hA hw [3, 4, 5, 6, 7, 8, 9, 10, 11, 12, 13, 14] rfl (wcR_zg E ad zr zs zg)⟩ rfl rfl hl.1 rfl (lv_room (Nat.le_of_ble_eq_true rfl)) dX5_readWeight_110 ⟨Nat.zero_le _, Nat.zero_le _⟩) hA hw [3, 4, 5, 6, 7, 8, 9, 10, 11, 12, 13, 14] [0, 1, 2] (wcR_zg E ad zr zs zg) (wqR_zg E ad zr zs zg) rfl (by decide) (fun H locs hw => ?_)
  have hw := wjR_zg zg1 hw
  refine lv_iconst (v := 1) hx hb dX5_readWeight_113 (by decide) ?_
  obtain ⟨rfl, rfl, rfl⟩ := sj3 hm
  exact r_zret C0 hw dX5_readWeight_114 rfl ⟨rfl, rfl⟩
set_option maxRecDepth 20000 in
theorem kX5_readWeight_b42 {p : Program} {l : Launch} {e : Env} {s : State} {m : MethodId} {args : Array Value} {below : List Frame} {meth : Method} {c : Code} {A : Nat → Prop} {E : EV} {ad : Nat → Nat} (F : Nat) {zs : OS} {r : Int32} {zr' : OS} {zg' : OS} (C0 : Cx RX5 "readWeight" cX5_readWeight (some .boolean) 3 wsX5_readWeight p s m args meth c) (hA : Ax E A s) : ∀ (n : Nat) (zr : OS) (zg : OS) (a1 : Int32) (a2 : Int32) (H : Heap) (locs : List Loc) (ls : Array Slot), mX5_readWeight_b42 F n zr zs zg a1 a2 = some (r, zr', zg') → Wd E A s H locs (wR E ad zr zs zg) → lv_has ls 3 [(0, .ref (ad 0)), (1, .int a1), (2, .int a2)] → W p l e ({ frames := 1, cells := 0, slots := 0, locals := 21 } : Room) s m args below meth c H locs 0 0 (MQ below (QG E (Qd (some (.int r)) (wR E ad zr' zs zg')) A) args s 0 0 A) (F0 m 42 ls []) := by
  have hx := C0.1
  have hb := C0.2.1
  intro n
  induction n with
  | zero =>
    intro zr zg a1 a2 H locs ls hm
    cases hm
  | succ n ih =>
    intro zr zg a1 a2 H locs ls hm hw hl
    unfold mX5_readWeight_b42 at hm
    refine lv_aload_n hx hb dX5_readWeight_42 rfl (lv_at hl 0 rfl) ?_
    refine gR_0_2 C0 hA hw hiX5_readWeight_X5 lkX5_readWeight_9 dX5_readWeight_43 ?_
    refine lv_aload_n hx hb dX5_readWeight_46 rfl (lv_at hl 0 rfl) ?_
    refine gR_0_0 C0 hA hw hiX5_readWeight_X5 lkX5_readWeight_18 dX5_readWeight_47 ?_
    refine gnR_1_1 C0 hA hw hiX5_readWeight_X6 lnX5_51 dX5_readWeight_50 ?_
    refine lv_icmp_ge (tgt := 105) hx hb dX5_readWeight_53 (by decide) (fun c1 => ?_) (fun c1 => ?_)
    · have hm := Eq.trans (if_pos c1).symm hm
      exact kX5_readWeight_b105 F C0 hA zr zg a2 _ _ _ hm hw (lv_sub hl [0, 2] rfl)
    · have hm := Eq.trans (if_neg c1).symm hm
      refine lv_aload_n hx hb dX5_readWeight_56 rfl (lv_at hl 0 rfl) ?_
      obtain ⟨r2, h3, hm⟩ := b1_some hm
      refine r_backS (va_runV (As := []) (rest := []) ⟨hx, hb, C0.2.2.2.1, C0.2.2.2.2.1, C0.2.2.2.2.2.1⟩ (tX5_here l E ad zr zs zg h3 H.size) (cwV 0 C0.2.2.2.2.2.1 gX5_readWeight_X5_here rfl rfl rfl (by decide +kernel) ⟨Nat.le_of_ble_eq_true rfl, Nat.le_of_ble_eq_true rfl⟩) ⟨PG_blind, va_recv hA.2.2.1.1 hw.1 (ci := 5) (q0 := 0) rfl rfl, pg_self hA hw⟩ rfl rfl hl.1 rfl (lv_room (Nat.le_of_ble_eq_true rfl)) dX5_readWeight_57 ⟨Nat.zero_le _, Nat.zero_le _⟩) hA hw (fun H locs hw => ?_)
      obtain ⟨r4, h5, hm⟩ := b1_some hm
      refine r_backZ (va_runSN (As := [.int r2]) (rest := []) ⟨hx, hb, C0.2.2.2.1, C0.2.2.2.2.1, C0.2.2.2.2.2.1⟩ (tX9_isDigit l E r2 h5 H.size) ⟨va_cnB 1 C0.2.2.2.2.2.1 ggX5_readWeight_X9_isDigit rfl rfl rfl (hA.2.2.1.2.1 (.methodLinkNest RX5 75 yX9_isDigit "GrammarTunes") (by decide +kernel)) (C0.2.2.2.2.2.1 (.initialized RX9) (by decide +kernel)) (by decide +kernel) ⟨Nat.le_of_ble_eq_true rfl, Nat.le_of_ble_eq_true rfl⟩, C0.2.2.2.2.2.1 (.static yX9_isDigit) (by decide +kernel), trivial⟩ ⟨PG_blind, pg_nil hA hw⟩ rfl rfl hl.1 rfl (lv_room (Nat.le_of_ble_eq_true rfl)) dX5_readWeight_60 ⟨Nat.zero_le _, Nat.zero_le _⟩) hA hw (fun H locs hw => ?_)
      refine lv_if_eq (tgt := 105) hx hb dX5_readWeight_63 (by decide) (fun c6 => ?_) (fun c6 => ?_)
      · have hm := Eq.trans (if_pos c6).symm hm
        exact kX5_readWeight_b105 F C0 hA zr zg a2 _ _ _ hm hw (lv_sub hl [0, 2] rfl)
      · have hm := Eq.trans (if_neg c6).symm hm
        refine lv_iload_n hx hb dX5_readWeight_66 rfl (lv_at hl 2 rfl) ?_
        refine lv_bipush (v := 10) hx hb dX5_readWeight_67 (by decide) ?_
        refine lv_imul hx hb dX5_readWeight_69 ?_
        refine lv_aload_n hx hb dX5_readWeight_70 rfl (lv_at hl 0 rfl) ?_
        obtain ⟨r7, h8, hm⟩ := b1_some hm
        refine r_backS (va_runV (As := []) (rest := [.int (a2 * 10)]) ⟨hx, hb, C0.2.2.2.1, C0.2.2.2.2.1, C0.2.2.2.2.2.1⟩ (tX5_here l E ad zr zs zg h8 H.size) (cwV 0 C0.2.2.2.2.2.1 gX5_readWeight_X5_here rfl rfl rfl (by decide +kernel) ⟨Nat.le_of_ble_eq_true rfl, Nat.le_of_ble_eq_true rfl⟩) ⟨PG_blind, va_recv hA.2.2.1.1 hw.1 (ci := 5) (q0 := 0) rfl rfl, pg_self hA hw⟩ rfl rfl hl.1 rfl (lv_room (Nat.le_of_ble_eq_true rfl)) dX5_readWeight_71 ⟨Nat.zero_le _, Nat.zero_le _⟩) hA hw (fun H locs hw => ?_)
        refine lv_iadd hx hb dX5_readWeight_74 ?_
        refine lv_bipush (v := 48) hx hb dX5_readWeight_75 (by decide) ?_
        refine lv_isub hx hb dX5_readWeight_77 ?_
        refine lv_topi (fun v9 ev9 => ?_)
        have hm := nm_at hm ev9
        refine lv_istore_n (lv' := [(2, .int v9), (0, .ref (ad 0)), (1, .int a1)]) hx hb dX5_readWeight_78 rfl hl (by decide) rfl (fun ls hl => ?_)
        refine lv_iload_n hx hb dX5_readWeight_79 rfl (lv_at hl 0 rfl) ?_
        refine lv_sipush (v := 999) hx hb dX5_readWeight_80 (by decide) ?_
        refine lv_icmp_le (tgt := 92) hx hb dX5_readWeight_83 (by decide) (fun c10 => ?_) (fun c10 => ?_)
        · have hm := Eq.trans (if_pos c10).symm hm
          refine lv_aload_n hx hb dX5_readWeight_92 rfl (lv_at hl 1 rfl) ?_
          refine lv_dup hx hb dX5_readWeight_93 rfl ?_
          refine gR_0_2 C0 hA hw hiX5_readWeight_X5 lkX5_readWeight_9 dX5_readWeight_94 ?_
          refine lv_iconst (v := 1) hx hb dX5_readWeight_97 (by decide) ?_
          refine lv_iadd hx hb dX5_readWeight_98 ?_
          refine pR_0_2 C0 hA hw hiX5_readWeight_X5 lkX5_readWeight_9 dX5_readWeight_99 (fun zr11 ezr11 H locs hw => ?_)
          have hm := nm_at hm ezr11
          refine lv_goto (tgt := 42) hx hb dX5_readWeight_102 (by decide) ?_
          exact ih zr11 zg a1 v9 _ _ _ hm hw (lv_sub hl [1, 2, 0] rfl)
        · have hm := Eq.trans (if_neg c10).symm hm
          refine lv_aload_n hx hb dX5_readWeight_86 rfl (lv_at hl 1 rfl) ?_
          refine lv_iload_n hx hb dX5_readWeight_87 rfl (lv_at hl 2 rfl) ?_
          obtain ⟨r12, zr13, h14, hm⟩ := b2_some hm
          refine r_backS (va_runV (As := [.int a1]) (rest := []) ⟨hx, hb, C0.2.2.2.1, C0.2.2.2.2.1, C0.2.2.2.2.2.1⟩ (tX5_failAt l E ad zr zs zg a1 h14 H.size) (cwV 1 C0.2.2.2.2.2.1 gX5_readWeight_X5_failAt rfl rfl rfl (by decide +kernel) ⟨Nat.le_of_ble_eq_true rfl, Nat.le_of_ble_eq_true rfl⟩) ⟨PG_blind, va_recv hA.2.2.1.1 hw.1 (ci := 5) (q0 := 0) rfl rfl, pg_self hA hw⟩ rfl rfl hl.1 rfl (lv_room (Nat.le_of_ble_eq_true rfl)) dX5_readWeight_88 ⟨Nat.zero_le _, Nat.zero_le _⟩) hA hw (fun H locs hw => ?_)
          obtain ⟨c15, hm⟩ := bz_some hm
          obtain ⟨rfl, rfl, rfl⟩ := sj3 hm
          exact r_zret C0 hw dX5_readWeight_91 c15 ⟨rfl, rfl⟩
set_option maxRecDepth 20000 in
theorem kX5_readWeight_b0 {p : Program} {l : Launch} {e : Env} {s : State} {m : MethodId} {args : Array Value} {below : List Frame} {meth : Method} {c : Code} {A : Nat → Prop} {E : EV} {ad : Nat → Nat} (F : Nat) {zs : OS} {r : Int32} {zr' : OS} {zg' : OS} (C0 : Cx RX5 "readWeight" cX5_readWeight (some .boolean) 3 wsX5_readWeight p s m args meth c) (hA : Ax E A s) : ∀ (zr : OS) (zg : OS) (H : Heap) (locs : List Loc) (ls : Array Slot), mX5_readWeight_b0 F zr zs zg = some (r, zr', zg') → Wd E A s H locs (wR E ad zr zs zg) → lv_has ls 3 [(0, .ref (ad 0))] → W p l e ({ frames := 1, cells := 0, slots := 0, locals := 21 } : Room) s m args below meth c H locs 0 0 (MQ below (QG E (Qd (some (.int r)) (wR E ad zr' zs zg')) A) args s 0 0 A) (F0 m 0 ls []) := by
  have hx := C0.1
  have hb := C0.2.1
  intro zr zg H locs ls hm hw hl
  unfold mX5_readWeight_b0 at hm
  refine lv_aload_n hx hb dX5_readWeight_0 rfl (lv_at hl 0 rfl) ?_
  refine gR_0_2 C0 hA hw hiX5_readWeight_X5 lkX5_readWeight_9 dX5_readWeight_1 ?_
  refine lv_topi (fun v1 ev1 => ?_)
  have hm := nm_at hm ev1
  refine lv_istore_n (lv' := [(1, .int v1), (0, .ref (ad 0))]) hx hb dX5_readWeight_4 rfl hl (by decide) rfl (fun ls hl => ?_)
  refine lv_aload_n hx hb dX5_readWeight_5 rfl (lv_at hl 1 rfl) ?_
  obtain ⟨r2, h3, hm⟩ := b1_some hm
  refine r_backS (va_runV (As := []) (rest := []) ⟨hx, hb, C0.2.2.2.1, C0.2.2.2.2.1, C0.2.2.2.2.2.1⟩ (tX5_here l E ad zr zs zg h3 H.size) (cwV 0 C0.2.2.2.2.2.1 gX5_readWeight_X5_here rfl rfl rfl (by decide +kernel) ⟨Nat.le_of_ble_eq_true rfl, Nat.le_of_ble_eq_true rfl⟩) ⟨PG_blind, va_recv hA.2.2.1.1 hw.1 (ci := 5) (q0 := 0) rfl rfl, pg_self hA hw⟩ rfl rfl hl.1 rfl (lv_room (Nat.le_of_ble_eq_true rfl)) dX5_readWeight_6 ⟨Nat.zero_le _, Nat.zero_le _⟩) hA hw (fun H locs hw => ?_)
  obtain ⟨r4, h5, hm⟩ := b1_some hm
  refine r_backZ (va_runSN (As := [.int r2]) (rest := []) ⟨hx, hb, C0.2.2.2.1, C0.2.2.2.2.1, C0.2.2.2.2.2.1⟩ (tX9_isDigit l E r2 h5 H.size) ⟨va_cnB 1 C0.2.2.2.2.2.1 ggX5_readWeight_X9_isDigit rfl rfl rfl (hA.2.2.1.2.1 (.methodLinkNest RX5 75 yX9_isDigit "GrammarTunes") (by decide +kernel)) (C0.2.2.2.2.2.1 (.initialized RX9) (by decide +kernel)) (by decide +kernel) ⟨Nat.le_of_ble_eq_true rfl, Nat.le_of_ble_eq_true rfl⟩, C0.2.2.2.2.2.1 (.static yX9_isDigit) (by decide +kernel), trivial⟩ ⟨PG_blind, pg_nil hA hw⟩ rfl rfl hl.1 rfl (lv_room (Nat.le_of_ble_eq_true rfl)) dX5_readWeight_9 ⟨Nat.zero_le _, Nat.zero_le _⟩) hA hw (fun H locs hw => ?_)
  refine lv_if_eq (tgt := 34) hx hb dX5_readWeight_12 (by decide) (fun c6 => ?_) (fun c6 => ?_)
  · have hm := Eq.trans (if_pos c6).symm hm
    exact kX5_readWeight_b34 F C0 hA zr zg v1 _ _ _ hm hw (lv_sub hl [1, 0] rfl)
  · have hm := Eq.trans (if_neg c6).symm hm
    refine lv_aload_n hx hb dX5_readWeight_15 rfl (lv_at hl 1 rfl) ?_
    obtain ⟨r7, h8, hm⟩ := b1_some hm
    refine r_backS (va_runV (As := []) (rest := []) ⟨hx, hb, C0.2.2.2.1, C0.2.2.2.2.1, C0.2.2.2.2.2.1⟩ (tX5_here l E ad zr zs zg h8 H.size) (cwV 0 C0.2.2.2.2.2.1 gX5_readWeight_X5_here rfl rfl rfl (by decide +kernel) ⟨Nat.le_of_ble_eq_true rfl, Nat.le_of_ble_eq_true rfl⟩) ⟨PG_blind, va_recv hA.2.2.1.1 hw.1 (ci := 5) (q0 := 0) rfl rfl, pg_self hA hw⟩ rfl rfl hl.1 rfl (lv_room (Nat.le_of_ble_eq_true rfl)) dX5_readWeight_16 ⟨Nat.zero_le _, Nat.zero_le _⟩) hA hw (fun H locs hw => ?_)
    refine lv_bipush (v := 48) hx hb dX5_readWeight_19 (by decide) ?_
    refine lv_icmp_eq (tgt := 34) hx hb dX5_readWeight_21 (by decide) (fun c9 => ?_) (fun c9 => ?_)
    · have hm := Eq.trans (if_pos c9).symm hm
      exact kX5_readWeight_b34 F C0 hA zr zg v1 _ _ _ hm hw (lv_sub hl [1, 0] rfl)
    · have hm := Eq.trans (if_neg c9).symm hm
      refine lv_aload_n hx hb dX5_readWeight_24 rfl (lv_at hl 1 rfl) ?_
      refine gR_0_1 C0 hA hw hiX5_readWeight_X5 lkX5_readWeight_22 dX5_readWeight_25 ?_
      obtain ⟨r10, h11, hm⟩ := b1_some hm
      refine r_backP (va_runV (As := []) (rest := []) ⟨hx, hb, C0.2.2.2.1, C0.2.2.2.2.1, C0.2.2.2.2.2.1⟩ (tX2_canOpenAlternative l E (fun k => ad (k + 3)) zg h11 H.size) (cwV 0 C0.2.2.2.2.2.1 gX5_readWeight_X2_canOpenAlternative rfl rfl rfl (by decide +kernel) ⟨Nat.le_of_ble_eq_true rfl, Nat.le_of_ble_eq_true rfl⟩) ⟨PG_blind, va_recv hA.2.2.1.1 hw.1 (ci := 2) (q0 := 3) rfl rfl, pg_at hA hw [3, 4, 5, 6, 7, 8, 9, 10, 11, 12, 13, 14] rfl (wcR_zg E ad zr zs zg)⟩ rfl rfl hl.1 rfl (lv_room (Nat.le_of_ble_eq_true rfl)) dX5_readWeight_28 ⟨Nat.zero_le _, Nat.zero_le _⟩) hA hw [3, 4, 5, 6, 7, 8, 9, 10, 11, 12, 13, 14] [0, 1, 2] (wcR_zg E ad zr zs zg) (wqR_zg E ad zr zs zg) rfl (by decide) (fun H locs hw => ?_)
      have hw := wjR_zg zg hw
      refine lv_if_ne (tgt := 40) hx hb dX5_readWeight_31 (by decide) (fun c12 => ?_) (fun c12 => ?_)
      · have hm := Eq.trans (if_neg c12).symm hm
        refine lv_iconst (v := 0) hx hb dX5_readWeight_40 (by decide) ?_
        refine lv_topi (fun v13 ev13 => ?_)
        have hm := nm_at hm ev13
        refine lv_istore_n (lv' := [(2, .int v13), (1, .int v1), (0, .ref (ad 0))]) hx hb dX5_readWeight_41 rfl hl (by decide) rfl (fun ls hl => ?_)
        exact kX5_readWeight_b42 F C0 hA F zr zg v1 v13 _ _ _ hm hw (lv_sub hl [2, 1, 0] rfl)
      · have hm := Eq.trans (if_pos c12).symm hm
        exact kX5_readWeight_b34 F C0 hA zr zg v1 _ _ _ hm hw (lv_sub hl [1, 0] rfl)
theorem tX5_readWeight (l : Launch) (E : EV) (ad : Nat → Nat) (F : Nat) (zr : OS) (zs : OS) (zg : OS)  {r : Int32} {zr' : OS} {zg' : OS} (hm : mX5_readWeight F zr zs zg = some (r, zr', zg')) : CT l yX5_readWeight wsX5_readWeight ({ frames := 1, cells := 0, slots := 0, locals := 21 } : Room) E [.ref (ad 0)] (wR E ad zr zs zg) (Qd (some (.int r)) (wR E ad zr' zs zg')) 0 0 :=
  CT.of (mL := 3) (lvs := [(0, .ref (ad 0))]) (by decide +kernel) rfl (Nat.le_of_ble_eq_true rfl) rfl rfl rfl (fun p e s m below meth c A C0 hA hw ls hl => kX5_readWeight_b0 (ad := ad) F C0 hA zr zg _ _ _ hm hw (lv_sub hl [0] rfl))
theorem lkX5_isLetterOfRule_18 : Cond.fieldLink RX5 18 (TX5 0).1 (TX5 0).2.1 (TX5 0).2.2.1 ∈ wsX5_isLetterOfRule := by decide +kernel
theorem lkX5_isLetterOfRule_9 : Cond.fieldLink RX5 9 (TX5 2).1 (TX5 2).2.1 (TX5 2).2.2.1 ∈ wsX5_isLetterOfRule := by decide +kernel
theorem hiX5_isLetterOfRule_X5 : ∀ w ∈ u_ws RX5 TX5 4, w ∈ wsX5_isLetterOfRule := by decide +kernel
def mX5_isLetterOfRule_b0 (F : Nat)  (zr : OS) (zs : OS) (zg : OS) : Option (Int32) := b1 (mX5_here zr zs zg) (fun r1 => b1 (mX9_isLetter r1) (fun r3 => (if (r3 : Int32) = 0 then some 0 else b1 (mX6_skipBlanks F zs ((zr.1 2) + 1)) (fun r6 => b1 (mX6_at zs r6) (fun r8 => (if (r8 : Int32) = 61 then some 1 else some 0))))))
def mX5_isLetterOfRule (F : Nat) (zr : OS) (zs : OS) (zg : OS)  : Option (Int32) := mX5_isLetterOfRule_b0 F zr zs zg
set_option maxRecDepth 20000 in
theorem kX5_isLetterOfRule_b0 {p : Program} {l : Launch} {e : Env} {s : State} {m : MethodId} {args : Array Value} {below : List Frame} {meth : Method} {c : Code} {A : Nat → Prop} {E : EV} {ad : Nat → Nat} (F : Nat) {zr : OS} {zs : OS} {zg : OS} {r : Int32} (C0 : Cx RX5 "isLetterOfRule" cX5_isLetterOfRule (some .boolean) 1 wsX5_isLetterOfRule p s m args meth c) (hA : Ax E A s) : ∀  (H : Heap) (locs : List Loc) (ls : Array Slot), mX5_isLetterOfRule_b0 F zr zs zg = some r → Wd E A s H locs (wR E ad zr zs zg) → lv_has ls 1 [(0, .ref (ad 0))] → W p l e ({ frames := 2, cells := 0, slots := 0, locals := 43 } : Room) s m args below meth c H locs 0 0 (MQ below (QG E (Qd (some (.int r)) (wR E ad zr zs zg)) A) args s 0 0 A) (F0 m 0 ls []) := by
  have hx := C0.1
  have hb := C0.2.1
  intro  H locs ls hm hw hl
  unfold mX5_isLetterOfRule_b0 at hm
  refine lv_aload_n hx hb dX5_isLetterOfRule_0 rfl (lv_at hl 0 rfl) ?_
  obtain ⟨r1, h2, hm⟩ := b1_some hm
  refine r_backS (va_runV (As := []) (rest := []) ⟨hx, hb, C0.2.2.2.1, C0.2.2.2.2.1, C0.2.2.2.2.2.1⟩ (tX5_here l E ad zr zs zg h2 H.size) (cwV 0 C0.2.2.2.2.2.1 gX5_isLetterOfRule_X5_here rfl rfl rfl (by decide +kernel) ⟨Nat.le_of_ble_eq_true rfl, Nat.le_of_ble_eq_true rfl⟩) ⟨PG_blind, va_recv hA.2.2.1.1 hw.1 (ci := 5) (q0 := 0) rfl rfl, pg_self hA hw⟩ rfl rfl hl.1 rfl (lv_room (Nat.le_of_ble_eq_true rfl)) dX5_isLetterOfRule_1 ⟨Nat.zero_le _, Nat.zero_le _⟩) hA hw (fun H locs hw => ?_)
  obtain ⟨r3, h4, hm⟩ := b1_some hm
  refine r_backZ (va_runSN (As := [.int r1]) (rest := []) ⟨hx, hb, C0.2.2.2.1, C0.2.2.2.2.1, C0.2.2.2.2.2.1⟩ (tX9_isLetter l E r1 h4 H.size) ⟨va_cnB 1 C0.2.2.2.2.2.1 ggX5_isLetterOfRule_X9_isLetter rfl rfl rfl (hA.2.2.1.2.1 (.methodLinkNest RX5 93 yX9_isLetter "GrammarTunes") (by decide +kernel)) (C0.2.2.2.2.2.1 (.initialized RX9) (by decide +kernel)) (by decide +kernel) ⟨Nat.le_of_ble_eq_true rfl, Nat.le_of_ble_eq_true rfl⟩, C0.2.2.2.2.2.1 (.static yX9_isLetter) (by decide +kernel), trivial⟩ ⟨PG_blind, pg_nil hA hw⟩ rfl rfl hl.1 rfl (lv_room (Nat.le_of_ble_eq_true rfl)) dX5_isLetterOfRule_4 ⟨Nat.zero_le _, Nat.zero_le _⟩) hA hw (fun H locs hw => ?_)
  refine lv_if_eq (tgt := 39) hx hb dX5_isLetterOfRule_7 (by decide) (fun c5 => ?_) (fun c5 => ?_)
  · have hm := Eq.trans (if_pos c5).symm hm
    refine lv_iconst (v := 0) hx hb dX5_isLetterOfRule_39 (by decide) ?_
    obtain rfl := sj1 hm
    exact r_zret C0 hw dX5_isLetterOfRule_40 rfl ⟨rfl, rfl⟩
  · have hm := Eq.trans (if_neg c5).symm hm
    refine lv_aload_n hx hb dX5_isLetterOfRule_10 rfl (lv_at hl 0 rfl) ?_
    refine gR_0_0 C0 hA hw hiX5_isLetterOfRule_X5 lkX5_isLetterOfRule_18 dX5_isLetterOfRule_11 ?_
    refine lv_aload_n hx hb dX5_isLetterOfRule_14 rfl (lv_at hl 0 rfl) ?_
    refine gR_0_0 C0 hA hw hiX5_isLetterOfRule_X5 lkX5_isLetterOfRule_18 dX5_isLetterOfRule_15 ?_
    refine lv_aload_n hx hb dX5_isLetterOfRule_18 rfl (lv_at hl 0 rfl) ?_
    refine gR_0_2 C0 hA hw hiX5_isLetterOfRule_X5 lkX5_isLetterOfRule_9 dX5_isLetterOfRule_19 ?_
    refine lv_iconst (v := 1) hx hb dX5_isLetterOfRule_22 (by decide) ?_
    refine lv_iadd hx hb dX5_isLetterOfRule_23 ?_
    obtain ⟨r6, h7, hm⟩ := b1_some hm
    refine r_backP (va_runV (As := [.int ((zr.1 2) + 1)]) (rest := [.ref (ad 1)]) ⟨hx, hb, C0.2.2.2.1, C0.2.2.2.2.1, C0.2.2.2.2.2.1⟩ (tX6_skipBlanks l E (fun k => ad (k + 1)) F zs ((zr.1 2) + 1) h7 H.size) (cwV 1 C0.2.2.2.2.2.1 gX5_isLetterOfRule_X6_skipBlanks rfl rfl rfl (by decide +kernel) ⟨Nat.le_of_ble_eq_true rfl, Nat.le_of_ble_eq_true rfl⟩) ⟨PG_blind, va_recv hA.2.2.1.1 hw.1 (ci := 6) (q0 := 1) rfl rfl, pg_at hA hw [1, 2] rfl (wcR_zs E ad zr zs zg)⟩ rfl rfl hl.1 rfl (lv_room (Nat.le_of_ble_eq_true rfl)) dX5_isLetterOfRule_24 ⟨Nat.zero_le _, Nat.zero_le _⟩) hA hw [1, 2] [0, 3, 4, 5, 6, 7, 8, 9, 10, 11, 12, 13, 14] (wcR_zs E ad zr zs zg) (wqR_zs E ad zr zs zg) rfl (by decide) (fun H locs hw => ?_)
    have hw := wjR_zs zs hw
    obtain ⟨r8, h9, hm⟩ := b1_some hm
    refine r_backP (va_runV (As := [.int r6]) (rest := []) ⟨hx, hb, C0.2.2.2.1, C0.2.2.2.2.1, C0.2.2.2.2.2.1⟩ (tX6_at l E (fun k => ad (k + 1)) zs r6 h9 H.size) (cwV 1 C0.2.2.2.2.2.1 gX5_isLetterOfRule_X6_at rfl rfl rfl (by decide +kernel) ⟨Nat.le_of_ble_eq_true rfl, Nat.le_of_ble_eq_true rfl⟩) ⟨PG_blind, va_recv hA.2.2.1.1 hw.1 (ci := 6) (q0 := 1) rfl rfl, pg_at hA hw [1, 2] rfl (wcR_zs E ad zr zs zg)⟩ rfl rfl hl.1 rfl (lv_room (Nat.le_of_ble_eq_true rfl)) dX5_isLetterOfRule_27 ⟨Nat.zero_le _, Nat.zero_le _⟩) hA hw [1, 2] [0, 3, 4, 5, 6, 7, 8, 9, 10, 11, 12, 13, 14] (wcR_zs E ad zr zs zg) (wqR_zs E ad zr zs zg) rfl (by decide) (fun H locs hw => ?_)
    have hw := wjR_zs zs hw
    refine lv_bipush (v := 61) hx hb dX5_isLetterOfRule_30 (by decide) ?_
    refine lv_icmp_ne (tgt := 39) hx hb dX5_isLetterOfRule_32 (by decide) (fun c10 => ?_) (fun c10 => ?_)
    · have hm := Eq.trans (if_neg c10).symm hm
      refine lv_iconst (v := 0) hx hb dX5_isLetterOfRule_39 (by decide) ?_
      obtain rfl := sj1 hm
      exact r_zret C0 hw dX5_isLetterOfRule_40 rfl ⟨rfl, rfl⟩
    · have hm := Eq.trans (if_pos c10).symm hm
      refine lv_iconst (v := 1) hx hb dX5_isLetterOfRule_35 (by decide) ?_
      refine lv_goto (tgt := 40) hx hb dX5_isLetterOfRule_36 (by decide) ?_
      obtain rfl := sj1 hm
      exact r_zret C0 hw dX5_isLetterOfRule_40 rfl ⟨rfl, rfl⟩
theorem tX5_isLetterOfRule (l : Launch) (E : EV) (ad : Nat → Nat) (F : Nat) (zr : OS) (zs : OS) (zg : OS)  {r : Int32} (hm : mX5_isLetterOfRule F zr zs zg = some r) : CT l yX5_isLetterOfRule wsX5_isLetterOfRule ({ frames := 2, cells := 0, slots := 0, locals := 43 } : Room) E [.ref (ad 0)] (wR E ad zr zs zg) (Qd (some (.int r)) (wR E ad zr zs zg)) 0 0 :=
  CT.of (mL := 1) (lvs := [(0, .ref (ad 0))]) (by decide +kernel) rfl (Nat.le_of_ble_eq_true rfl) rfl rfl rfl (fun p e s m below meth c A C0 hA hw ls hl => kX5_isLetterOfRule_b0 (ad := ad) F C0 hA  _ _ _ hm hw (lv_sub hl [0] rfl))
theorem lkX5_readOctave_9 : Cond.fieldLink RX5 9 (TX5 2).1 (TX5 2).2.1 (TX5 2).2.2.1 ∈ wsX5_readOctave := by decide +kernel
theorem hiX5_readOctave_X5 : ∀ w ∈ u_ws RX5 TX5 4, w ∈ wsX5_readOctave := by decide +kernel
def mX5_readOctave_b52  (zr : OS) (zs : OS) (zg : OS) (a1 : Int32) (a2 : Int32) : Option (Int32 × OS) := (if (a1 : Int32) = 44 then some (-a2, zr) else some (a2, zr))
def mX5_readOctave_b19  (zr : OS) (zs : OS) (zg : OS) (a1 : Int32) : Option (Int32 × OS) := nm (sI zr 2 ((zr.1 2) + 1)) (fun zr1 => nm (1 : Int32) (fun v2 => b1 (mX5_here zr1 zs zg) (fun r3 => (if (r3 : Int32) = a1 then nm (sI zr1 2 ((zr1.1 2) + 1)) (fun zr6 => nm (v2 + 1 : Int32) (fun v7 => mX5_readOctave_b52 zr6 zs zg a1 v7)) else mX5_readOctave_b52 zr1 zs zg a1 v2))))
def mX5_readOctave_b0  (zr : OS) (zs : OS) (zg : OS) : Option (Int32 × OS) := b1 (mX5_here zr zs zg) (fun r1 => (if (r1 : Int32) = 39 then mX5_readOctave_b19 zr zs zg r1 else (if (r1 : Int32) = 44 then mX5_readOctave_b19 zr zs zg r1 else some (0, zr))))
def mX5_readOctave (zr : OS) (zs : OS) (zg : OS)  : Option (Int32 × OS) := mX5_readOctave_b0 zr zs zg
set_option maxRecDepth 20000 in
theorem kX5_readOctave_b52 {p : Program} {l : Launch} {e : Env} {s : State} {m : MethodId} {args : Array Value} {below : List Frame} {meth : Method} {c : Code} {A : Nat → Prop} {E : EV} {ad : Nat → Nat} {zs : OS} {zg : OS} {r : Int32} {zr' : OS} (C0 : Cx RX5 "readOctave" cX5_readOctave (some .int) 3 wsX5_readOctave p s m args meth c) (hA : Ax E A s) : ∀ (zr : OS) (a1 : Int32) (a2 : Int32) (H : Heap) (locs : List Loc) (ls : Array Slot), mX5_readOctave_b52 zr zs zg a1 a2 = some (r, zr') → Wd E A s H locs (wR E ad zr zs zg) → lv_has ls 3 [(1, .int a1), (2, .int a2)] → W p l e ({ frames := 1, cells := 0, slots := 0, locals := 20 } : Room) s m args below meth c H locs 0 0 (MQ below (QG E (Qd (some (.int r)) (wR E ad zr' zs zg)) A) args s 0 0 A) (F0 m 52 ls []) := by
  have hx := C0.1
  have hb := C0.2.1
  intro zr a1 a2 H locs ls hm hw hl
  unfold mX5_readOctave_b52 at hm
  refine lv_iload_n hx hb dX5_readOctave_52 rfl (lv_at hl 0 rfl) ?_
  refine lv_bipush (v := 44) hx hb dX5_readOctave_53 (by decide) ?_
  refine lv_icmp_ne (tgt := 63) hx hb dX5_readOctave_55 (by decide) (fun c1 => ?_) (fun c1 => ?_)
  · have hm := Eq.trans (if_neg c1).symm hm
    refine lv_iload_n hx hb dX5_readOctave_63 rfl (lv_at hl 1 rfl) ?_
    obtain ⟨rfl, rfl⟩ := sj2 hm
    exact r_iret C0 hw dX5_readOctave_64 ⟨rfl, rfl⟩
  · have hm := Eq.trans (if_pos c1).symm hm
    refine lv_iload_n hx hb dX5_readOctave_58 rfl (lv_at hl 1 rfl) ?_
    refine lv_ineg hx hb dX5_readOctave_59 ?_
    refine lv_goto (tgt := 64) hx hb dX5_readOctave_60 (by decide) ?_
    obtain ⟨rfl, rfl⟩ := sj2 hm
    exact r_iret C0 hw dX5_readOctave_64 ⟨rfl, rfl⟩
set_option maxRecDepth 20000 in
theorem kX5_readOctave_b19 {p : Program} {l : Launch} {e : Env} {s : State} {m : MethodId} {args : Array Value} {below : List Frame} {meth : Method} {c : Code} {A : Nat → Prop} {E : EV} {ad : Nat → Nat} {zs : OS} {zg : OS} {r : Int32} {zr' : OS} (C0 : Cx RX5 "readOctave" cX5_readOctave (some .int) 3 wsX5_readOctave p s m args meth c) (hA : Ax E A s) : ∀ (zr : OS) (a1 : Int32) (H : Heap) (locs : List Loc) (ls : Array Slot), mX5_readOctave_b19 zr zs zg a1 = some (r, zr') → Wd E A s H locs (wR E ad zr zs zg) → lv_has ls 3 [(0, .ref (ad 0)), (1, .int a1)] → W p l e ({ frames := 1, cells := 0, slots := 0, locals := 20 } : Room) s m args below meth c H locs 0 0 (MQ below (QG E (Qd (some (.int r)) (wR E ad zr' zs zg)) A) args s 0 0 A) (F0 m 19 ls []) := by
  have hx := C0.1
  have hb := C0.2.1
  intro zr a1 H locs ls hm hw hl
  unfold mX5_readOctave_b19 at hm
  refine lv_aload_n hx hb dX5_readOctave_19 rfl (lv_at hl 0 rfl) ?_
  refine lv_dup hx hb dX5_readOctave_20 rfl ?_
  refine gR_0_2 C0 hA hw hiX5_readOctave_X5 lkX5_readOctave_9 dX5_readOctave_21 ?_
  refine lv_iconst (v := 1) hx hb dX5_readOctave_24 (by decide) ?_
  refine lv_iadd hx hb dX5_readOctave_25 ?_
  refine pR_0_2 C0 hA hw hiX5_readOctave_X5 lkX5_readOctave_9 dX5_readOctave_26 (fun zr1 ezr1 H locs hw => ?_)
  have hm := nm_at hm ezr1
  refine lv_iconst (v := 1) hx hb dX5_readOctave_29 (by decide) ?_
  refine lv_topi (fun v2 ev2 => ?_)
  have hm := nm_at hm ev2
  refine lv_istore_n (lv' := [(2, .int v2), (0, .ref (ad 0)), (1, .int a1)]) hx hb dX5_readOctave_30 rfl hl (by decide) rfl (fun ls hl => ?_)
  refine lv_aload_n hx hb dX5_readOctave_31 rfl (lv_at hl 1 rfl) ?_
  obtain ⟨r3, h4, hm⟩ := b1_some hm
  refine r_backS (va_runV (As := []) (rest := []) ⟨hx, hb, C0.2.2.2.1, C0.2.2.2.2.1, C0.2.2.2.2.2.1⟩ (tX5_here l E ad zr1 zs zg h4 H.size) (cwV 0 C0.2.2.2.2.2.1 gX5_readOctave_X5_here rfl rfl rfl (by decide +kernel) ⟨Nat.le_of_ble_eq_true rfl, Nat.le_of_ble_eq_true rfl⟩) ⟨PG_blind, va_recv hA.2.2.1.1 hw.1 (ci := 5) (q0 := 0) rfl rfl, pg_self hA hw⟩ rfl rfl hl.1 rfl (lv_room (Nat.le_of_ble_eq_true rfl)) dX5_readOctave_32 ⟨Nat.zero_le _, Nat.zero_le _⟩) hA hw (fun H locs hw => ?_)
  refine lv_iload_n hx hb dX5_readOctave_35 rfl (lv_at hl 2 rfl) ?_
  refine lv_icmp_ne (tgt := 52) hx hb dX5_readOctave_36 (by decide) (fun c5 => ?_) (fun c5 => ?_)
  · have hm := Eq.trans (if_neg c5).symm hm
    exact kX5_readOctave_b52 C0 hA zr1 a1 v2 _ _ _ hm hw (lv_sub hl [2, 0] rfl)
  · have hm := Eq.trans (if_pos c5).symm hm
    refine lv_aload_n hx hb dX5_readOctave_39 rfl (lv_at hl 1 rfl) ?_
    refine lv_dup hx hb dX5_readOctave_40 rfl ?_
    refine gR_0_2 C0 hA hw hiX5_readOctave_X5 lkX5_readOctave_9 dX5_readOctave_41 ?_
    refine lv_iconst (v := 1) hx hb dX5_readOctave_44 (by decide) ?_
    refine lv_iadd hx hb dX5_readOctave_45 ?_
    refine pR_0_2 C0 hA hw hiX5_readOctave_X5 lkX5_readOctave_9 dX5_readOctave_46 (fun zr6 ezr6 H locs hw => ?_)
    have hm := nm_at hm ezr6
    obtain ⟨v7, ev7⟩ : ∃ y : Int32, y = v2 + 1 := ⟨_, rfl⟩
    have hm := nm_at hm ev7
    refine lv_iinc (v := v7) (lv' := [(2, .int v7), (0, .ref (ad 0)), (1, .int a1)]) hx hb dX5_readOctave_49 hl (k := 0) rfl (by rw [ev7]; rfl) (by decide) rfl (fun ls hl => ?_)
    exact kX5_readOctave_b52 C0 hA zr6 a1 v7 _ _ _ hm hw (lv_sub hl [2, 0] rfl)
set_option maxRecDepth 20000 in
theorem kX5_readOctave_b0 {p : Program} {l : Launch} {e : Env} {s : State} {m : MethodId} {args : Array Value} {below : List Frame} {meth : Method} {c : Code} {A : Nat → Prop} {E : EV} {ad : Nat → Nat} {zs : OS} {zg : OS} {r : Int32} {zr' : OS} (C0 : Cx RX5 "readOctave" cX5_readOctave (some .int) 3 wsX5_readOctave p s m args meth c) (hA : Ax E A s) : ∀ (zr : OS) (H : Heap) (locs : List Loc) (ls : Array Slot), mX5_readOctave_b0 zr zs zg = some (r, zr') → Wd E A s H locs (wR E ad zr zs zg) → lv_has ls 3 [(0, .ref (ad 0))] → W p l e ({ frames := 1, cells := 0, slots := 0, locals := 20 } : Room) s m args below meth c H locs 0 0 (MQ below (QG E (Qd (some (.int r)) (wR E ad zr' zs zg)) A) args s 0 0 A) (F0 m 0 ls []) := by
  have hx := C0.1
  have hb := C0.2.1
  intro zr H locs ls hm hw hl
  unfold mX5_readOctave_b0 at hm
  refine lv_aload_n hx hb dX5_readOctave_0 rfl (lv_at hl 0 rfl) ?_
  obtain ⟨r1, h2, hm⟩ := b1_some hm
  refine r_backS (va_runV (As := []) (rest := []) ⟨hx, hb, C0.2.2.2.1, C0.2.2.2.2.1, C0.2.2.2.2.2.1⟩ (tX5_here l E ad zr zs zg h2 H.size) (cwV 0 C0.2.2.2.2.2.1 gX5_readOctave_X5_here rfl rfl rfl (by decide +kernel) ⟨Nat.le_of_ble_eq_true rfl, Nat.le_of_ble_eq_true rfl⟩) ⟨PG_blind, va_recv hA.2.2.1.1 hw.1 (ci := 5) (q0 := 0) rfl rfl, pg_self hA hw⟩ rfl rfl hl.1 rfl (lv_room (Nat.le_of_ble_eq_true rfl)) dX5_readOctave_1 ⟨Nat.zero_le _, Nat.zero_le _⟩) hA hw (fun H locs hw => ?_)
  refine lv_istore_n (lv' := [(1, .int r1), (0, .ref (ad 0))]) hx hb dX5_readOctave_4 rfl hl (by decide) rfl (fun ls hl => ?_)
  refine lv_iload_n hx hb dX5_readOctave_5 rfl (lv_at hl 0 rfl) ?_
  refine lv_bipush (v := 39) hx hb dX5_readOctave_6 (by decide) ?_
  refine lv_icmp_eq (tgt := 19) hx hb dX5_readOctave_8 (by decide) (fun c3 => ?_) (fun c3 => ?_)
  · have hm := Eq.trans (if_pos c3).symm hm
    exact kX5_readOctave_b19 C0 hA zr r1 _ _ _ hm hw (lv_sub hl [1, 0] rfl)
  · have hm := Eq.trans (if_neg c3).symm hm
    refine lv_iload_n hx hb dX5_readOctave_11 rfl (lv_at hl 0 rfl) ?_
    refine lv_bipush (v := 44) hx hb dX5_readOctave_12 (by decide) ?_
    refine lv_icmp_eq (tgt := 19) hx hb dX5_readOctave_14 (by decide) (fun c4 => ?_) (fun c4 => ?_)
    · have hm := Eq.trans (if_pos c4).symm hm
      exact kX5_readOctave_b19 C0 hA zr r1 _ _ _ hm hw (lv_sub hl [1, 0] rfl)
    · have hm := Eq.trans (if_neg c4).symm hm
      refine lv_iconst (v := 0) hx hb dX5_readOctave_17 (by decide) ?_
      obtain ⟨rfl, rfl⟩ := sj2 hm
      exact r_iret C0 hw dX5_readOctave_18 ⟨rfl, rfl⟩
theorem tX5_readOctave (l : Launch) (E : EV) (ad : Nat → Nat) (zr : OS) (zs : OS) (zg : OS)  {r : Int32} {zr' : OS} (hm : mX5_readOctave zr zs zg = some (r, zr')) : CT l yX5_readOctave wsX5_readOctave ({ frames := 1, cells := 0, slots := 0, locals := 20 } : Room) E [.ref (ad 0)] (wR E ad zr zs zg) (Qd (some (.int r)) (wR E ad zr' zs zg)) 0 0 :=
  CT.of (mL := 3) (lvs := [(0, .ref (ad 0))]) (by decide +kernel) rfl (Nat.le_of_ble_eq_true rfl) rfl rfl rfl (fun p e s m below meth c A C0 hA hw ls hl => kX5_readOctave_b0 (ad := ad) C0 hA zr _ _ _ hm hw (lv_sub hl [0] rfl))
theorem lkX5_readLength_9 : Cond.fieldLink RX5 9 (TX5 2).1 (TX5 2).2.1 (TX5 2).2.2.1 ∈ wsX5_readLength := by decide +kernel
theorem lkX5_readLength_18 : Cond.fieldLink RX5 18 (TX5 0).1 (TX5 0).2.1 (TX5 0).2.2.1 ∈ wsX5_readLength := by decide +kernel
theorem hiX5_readLength_X5 : ∀ w ∈ u_ws RX5 TX5 4, w ∈ wsX5_readLength := by decide +kernel
theorem hiX5_readLength_X6 : ∀ w ∈ u_ws RX6 TX6 2, w ∈ wsX5_readLength := by decide +kernel
def mX5_readLength_b40 (F : Nat)  (zr : OS) (zs : OS) (zg : OS) : Option (Int32 × OS) := b2 (mX5_failAt zr zs zg (zr.1 2)) (fun r1 zr2 => some ((-1), zr2))
def mX5_readLength_b53 (F : Nat)  : Nat → OS → OS → OS → Int32 → Option (Int32 × OS)
  | 0, _, _, _, _ => none
  | n + 1, zr, zs, zg, a1 => (if (zs.1 1) ≤ (zr.1 2 : Int32) then some (a1, zr) else b1 (mX5_here zr zs zg) (fun r2 => b1 (mX9_isDigit r2) (fun r4 => (if (r4 : Int32) = 0 then some (a1, zr) else b1 (mX5_here zr zs zg) (fun r7 => nm (((a1 * 10) + r7) - 48 : Int32) (fun v9 => (if (v9 : Int32) ≤ 16 then nm (sI zr 2 ((zr.1 2) + 1)) (fun zr11 => mX5_readLength_b53 F n zr11 zs zg v9) else b2 (mX5_failAt zr zs zg (zr.1 2)) (fun r12 zr13 => some ((-1), zr13)))))))))
def mX5_readLength_b0 (F : Nat)  (zr : OS) (zs : OS) (zg : OS) : Option (Int32 × OS) := b1 (mX5_here zr zs zg) (fun r1 => (if (r1 : Int32) = 58 then nm (sI zr 2 ((zr.1 2) + 1)) (fun zr4 => b1 (mX5_here zr4 zs zg) (fun r5 => b1 (mX9_isDigit r5) (fun r7 => (if (r7 : Int32) = 0 then mX5_readLength_b40 F zr4 zs zg else b1 (mX5_here zr4 zs zg) (fun r10 => (if (r10 : Int32) = 48 then mX5_readLength_b40 F zr4 zs zg else nm (0 : Int32) (fun v13 => mX5_readLength_b53 F F zr4 zs zg v13))))))) else some (4, zr)))
def mX5_readLength (F : Nat) (zr : OS) (zs : OS) (zg : OS)  : Option (Int32 × OS) := mX5_readLength_b0 F zr zs zg
set_option maxRecDepth 20000 in
theorem kX5_readLength_b40 {p : Program} {l : Launch} {e : Env} {s : State} {m : MethodId} {args : Array Value} {below : List Frame} {meth : Method} {c : Code} {A : Nat → Prop} {E : EV} {ad : Nat → Nat} (F : Nat) {zs : OS} {zg : OS} {r : Int32} {zr' : OS} (C0 : Cx RX5 "readLength" cX5_readLength (some .int) 2 wsX5_readLength p s m args meth c) (hA : Ax E A s) : ∀ (zr : OS) (H : Heap) (locs : List Loc) (ls : Array Slot), mX5_readLength_b40 F zr zs zg = some (r, zr') → Wd E A s H locs (wR E ad zr zs zg) → lv_has ls 2 [(0, .ref (ad 0))] → W p l e ({ frames := 1, cells := 0, slots := 0, locals := 21 } : Room) s m args below meth c H locs 0 0 (MQ below (QG E (Qd (some (.int r)) (wR E ad zr' zs zg)) A) args s 0 0 A) (F0 m 40 ls []) := by
  have hx := C0.1
  have hb := C0.2.1
  intro zr H locs ls hm hw hl
  unfold mX5_readLength_b40 at hm
  refine lv_aload_n hx hb dX5_readLength_40 rfl (lv_at hl 0 rfl) ?_
  refine lv_aload_n hx hb dX5_readLength_41 rfl (lv_at hl 0 rfl) ?_
  refine gR_0_2 C0 hA hw hiX5_readLength_X5 lkX5_readLength_9 dX5_readLength_42 ?_
  obtain ⟨r1, zr2, h3, hm⟩ := b2_some hm
  refine r_backS (va_runV (As := [.int (zr.1 2)]) (rest := []) ⟨hx, hb, C0.2.2.2.1, C0.2.2.2.2.1, C0.2.2.2.2.2.1⟩ (tX5_failAt l E ad zr zs zg (zr.1 2) h3 H.size) (cwV 1 C0.2.2.2.2.2.1 gX5_readLength_X5_failAt rfl rfl rfl (by decide +kernel) ⟨Nat.le_of_ble_eq_true rfl, Nat.le_of_ble_eq_true rfl⟩) ⟨PG_blind, va_recv hA.2.2.1.1 hw.1 (ci := 5) (q0 := 0) rfl rfl, pg_self hA hw⟩ rfl rfl hl.1 rfl (lv_room (Nat.le_of_ble_eq_true rfl)) dX5_readLength_45 ⟨Nat.zero_le _, Nat.zero_le _⟩) hA hw (fun H locs hw => ?_)
  refine lv_pop hx hb dX5_readLength_48 rfl ?_
  refine lv_iconst (v := (-1)) hx hb dX5_readLength_49 (by decide) ?_
  obtain ⟨rfl, rfl⟩ := sj2 hm
  exact r_iret C0 hw dX5_readLength_50 ⟨rfl, rfl⟩
set_option maxRecDepth 20000 in
theorem kX5_readLength_b53 {p : Program} {l : Launch} {e : Env} {s : State} {m : MethodId} {args : Array Value} {below : List Frame} {meth : Method} {c : Code} {A : Nat → Prop} {E : EV} {ad : Nat → Nat} (F : Nat) {zs : OS} {zg : OS} {r : Int32} {zr' : OS} (C0 : Cx RX5 "readLength" cX5_readLength (some .int) 2 wsX5_readLength p s m args meth c) (hA : Ax E A s) : ∀ (n : Nat) (zr : OS) (a1 : Int32) (H : Heap) (locs : List Loc) (ls : Array Slot), mX5_readLength_b53 F n zr zs zg a1 = some (r, zr') → Wd E A s H locs (wR E ad zr zs zg) → lv_has ls 2 [(0, .ref (ad 0)), (1, .int a1)] → W p l e ({ frames := 1, cells := 0, slots := 0, locals := 21 } : Room) s m args below meth c H locs 0 0 (MQ below (QG E (Qd (some (.int r)) (wR E ad zr' zs zg)) A) args s 0 0 A) (F0 m 53 ls []) := by
  have hx := C0.1
  have hb := C0.2.1
  intro n
  induction n with
  | zero =>
    intro zr a1 H locs ls hm
    cases hm
  | succ n ih =>
    intro zr a1 H locs ls hm hw hl
    unfold mX5_readLength_b53 at hm
    refine lv_aload_n hx hb dX5_readLength_53 rfl (lv_at hl 0 rfl) ?_
    refine gR_0_2 C0 hA hw hiX5_readLength_X5 lkX5_readLength_9 dX5_readLength_54 ?_
    refine lv_aload_n hx hb dX5_readLength_57 rfl (lv_at hl 0 rfl) ?_
    refine gR_0_0 C0 hA hw hiX5_readLength_X5 lkX5_readLength_18 dX5_readLength_58 ?_
    refine gnR_1_1 C0 hA hw hiX5_readLength_X6 lnX5_51 dX5_readLength_61 ?_
    refine lv_icmp_ge (tgt := 120) hx hb dX5_readLength_64 (by decide) (fun c1 => ?_) (fun c1 => ?_)
    · have hm := Eq.trans (if_pos c1).symm hm
      refine lv_iload_n hx hb dX5_readLength_120 rfl (lv_at hl 1 rfl) ?_
      obtain ⟨rfl, rfl⟩ := sj2 hm
      exact r_iret C0 hw dX5_readLength_121 ⟨rfl, rfl⟩
    · have hm := Eq.trans (if_neg c1).symm hm
      refine lv_aload_n hx hb dX5_readLength_67 rfl (lv_at hl 0 rfl) ?_
      obtain ⟨r2, h3, hm⟩ := b1_some hm
      refine r_backS (va_runV (As := []) (rest := []) ⟨hx, hb, C0.2.2.2.1, C0.2.2.2.2.1, C0.2.2.2.2.2.1⟩ (tX5_here l E ad zr zs zg h3 H.size) (cwV 0 C0.2.2.2.2.2.1 gX5_readLength_X5_here rfl rfl rfl (by decide +kernel) ⟨Nat.le_of_ble_eq_true rfl, Nat.le_of_ble_eq_true rfl⟩) ⟨PG_blind, va_recv hA.2.2.1.1 hw.1 (ci := 5) (q0 := 0) rfl rfl, pg_self hA hw⟩ rfl rfl hl.1 rfl (lv_room (Nat.le_of_ble_eq_true rfl)) dX5_readLength_68 ⟨Nat.zero_le _, Nat.zero_le _⟩) hA hw (fun H locs hw => ?_)
      obtain ⟨r4, h5, hm⟩ := b1_some hm
      refine r_backZ (va_runSN (As := [.int r2]) (rest := []) ⟨hx, hb, C0.2.2.2.1, C0.2.2.2.2.1, C0.2.2.2.2.2.1⟩ (tX9_isDigit l E r2 h5 H.size) ⟨va_cnB 1 C0.2.2.2.2.2.1 ggX5_readLength_X9_isDigit rfl rfl rfl (hA.2.2.1.2.1 (.methodLinkNest RX5 75 yX9_isDigit "GrammarTunes") (by decide +kernel)) (C0.2.2.2.2.2.1 (.initialized RX9) (by decide +kernel)) (by decide +kernel) ⟨Nat.le_of_ble_eq_true rfl, Nat.le_of_ble_eq_true rfl⟩, C0.2.2.2.2.2.1 (.static yX9_isDigit) (by decide +kernel), trivial⟩ ⟨PG_blind, pg_nil hA hw⟩ rfl rfl hl.1 rfl (lv_room (Nat.le_of_ble_eq_true rfl)) dX5_readLength_71 ⟨Nat.zero_le _, Nat.zero_le _⟩) hA hw (fun H locs hw => ?_)
      refine lv_if_eq (tgt := 120) hx hb dX5_readLength_74 (by decide) (fun c6 => ?_) (fun c6 => ?_)
      · have hm := Eq.trans (if_pos c6).symm hm
        refine lv_iload_n hx hb dX5_readLength_120 rfl (lv_at hl 1 rfl) ?_
        obtain ⟨rfl, rfl⟩ := sj2 hm
        exact r_iret C0 hw dX5_readLength_121 ⟨rfl, rfl⟩
      · have hm := Eq.trans (if_neg c6).symm hm
        refine lv_iload_n hx hb dX5_readLength_77 rfl (lv_at hl 1 rfl) ?_
        refine lv_bipush (v := 10) hx hb dX5_readLength_78 (by decide) ?_
        refine lv_imul hx hb dX5_readLength_80 ?_
        refine lv_aload_n hx hb dX5_readLength_81 rfl (lv_at hl 0 rfl) ?_
        obtain ⟨r7, h8, hm⟩ := b1_some hm
        refine r_backS (va_runV (As := []) (rest := [.int (a1 * 10)]) ⟨hx, hb, C0.2.2.2.1, C0.2.2.2.2.1, C0.2.2.2.2.2.1⟩ (tX5_here l E ad zr zs zg h8 H.size) (cwV 0 C0.2.2.2.2.2.1 gX5_readLength_X5_here rfl rfl rfl (by decide +kernel) ⟨Nat.le_of_ble_eq_true rfl, Nat.le_of_ble_eq_true rfl⟩) ⟨PG_blind, va_recv hA.2.2.1.1 hw.1 (ci := 5) (q0 := 0) rfl rfl, pg_self hA hw⟩ rfl rfl hl.1 rfl (lv_room (Nat.le_of_ble_eq_true rfl)) dX5_readLength_82 ⟨Nat.zero_le _, Nat.zero_le _⟩) hA hw (fun H locs hw => ?_)
        refine lv_iadd hx hb dX5_readLength_85 ?_
        refine lv_bipush (v := 48) hx hb dX5_readLength_86 (by decide) ?_
        refine lv_isub hx hb dX5_readLength_88 ?_
        refine lv_topi (fun v9 ev9 => ?_)
        have hm := nm_at hm ev9
        refine lv_istore_n (lv' := [(1, .int v9), (0, .ref (ad 0))]) hx hb dX5_readLength_89 rfl hl (by decide) rfl (fun ls hl => ?_)
        refine lv_iload_n hx hb dX5_readLength_90 rfl (lv_at hl 0 rfl) ?_
        refine lv_bipush (v := 16) hx hb dX5_readLength_91 (by decide) ?_
        refine lv_icmp_le (tgt := 107) hx hb dX5_readLength_93 (by decide) (fun c10 => ?_) (fun c10 => ?_)
        · have hm := Eq.trans (if_pos c10).symm hm
          refine lv_aload_n hx hb dX5_readLength_107 rfl (lv_at hl 1 rfl) ?_
          refine lv_dup hx hb dX5_readLength_108 rfl ?_
          refine gR_0_2 C0 hA hw hiX5_readLength_X5 lkX5_readLength_9 dX5_readLength_109 ?_
          refine lv_iconst (v := 1) hx hb dX5_readLength_112 (by decide) ?_
          refine lv_iadd hx hb dX5_readLength_113 ?_
          refine pR_0_2 C0 hA hw hiX5_readLength_X5 lkX5_readLength_9 dX5_readLength_114 (fun zr11 ezr11 H locs hw => ?_)
          have hm := nm_at hm ezr11
          refine lv_goto (tgt := 53) hx hb dX5_readLength_117 (by decide) ?_
          exact ih zr11 v9 _ _ _ hm hw (lv_sub hl [1, 0] rfl)
        · have hm := Eq.trans (if_neg c10).symm hm
          refine lv_aload_n hx hb dX5_readLength_96 rfl (lv_at hl 1 rfl) ?_
          refine lv_aload_n hx hb dX5_readLength_97 rfl (lv_at hl 1 rfl) ?_
          refine gR_0_2 C0 hA hw hiX5_readLength_X5 lkX5_readLength_9 dX5_readLength_98 ?_
          obtain ⟨r12, zr13, h14, hm⟩ := b2_some hm
          refine r_backS (va_runV (As := [.int (zr.1 2)]) (rest := []) ⟨hx, hb, C0.2.2.2.1, C0.2.2.2.2.1, C0.2.2.2.2.2.1⟩ (tX5_failAt l E ad zr zs zg (zr.1 2) h14 H.size) (cwV 1 C0.2.2.2.2.2.1 gX5_readLength_X5_failAt rfl rfl rfl (by decide +kernel) ⟨Nat.le_of_ble_eq_true rfl, Nat.le_of_ble_eq_true rfl⟩) ⟨PG_blind, va_recv hA.2.2.1.1 hw.1 (ci := 5) (q0 := 0) rfl rfl, pg_self hA hw⟩ rfl rfl hl.1 rfl (lv_room (Nat.le_of_ble_eq_true rfl)) dX5_readLength_101 ⟨Nat.zero_le _, Nat.zero_le _⟩) hA hw (fun H locs hw => ?_)
          refine lv_pop hx hb dX5_readLength_104 rfl ?_
          refine lv_iconst (v := (-1)) hx hb dX5_readLength_105 (by decide) ?_
          obtain ⟨rfl, rfl⟩ := sj2 hm
          exact r_iret C0 hw dX5_readLength_106 ⟨rfl, rfl⟩
set_option maxRecDepth 20000 in
theorem kX5_readLength_b0 {p : Program} {l : Launch} {e : Env} {s : State} {m : MethodId} {args : Array Value} {below : List Frame} {meth : Method} {c : Code} {A : Nat → Prop} {E : EV} {ad : Nat → Nat} (F : Nat) {zs : OS} {zg : OS} {r : Int32} {zr' : OS} (C0 : Cx RX5 "readLength" cX5_readLength (some .int) 2 wsX5_readLength p s m args meth c) (hA : Ax E A s) : ∀ (zr : OS) (H : Heap) (locs : List Loc) (ls : Array Slot), mX5_readLength_b0 F zr zs zg = some (r, zr') → Wd E A s H locs (wR E ad zr zs zg) → lv_has ls 2 [(0, .ref (ad 0))] → W p l e ({ frames := 1, cells := 0, slots := 0, locals := 21 } : Room) s m args below meth c H locs 0 0 (MQ below (QG E (Qd (some (.int r)) (wR E ad zr' zs zg)) A) args s 0 0 A) (F0 m 0 ls []) := by
  have hx := C0.1
  have hb := C0.2.1
  intro zr H locs ls hm hw hl
  unfold mX5_readLength_b0 at hm
  refine lv_aload_n hx hb dX5_readLength_0 rfl (lv_at hl 0 rfl) ?_
  obtain ⟨r1, h2, hm⟩ := b1_some hm
  refine r_backS (va_runV (As := []) (rest := []) ⟨hx, hb, C0.2.2.2.1, C0.2.2.2.2.1, C0.2.2.2.2.2.1⟩ (tX5_here l E ad zr zs zg h2 H.size) (cwV 0 C0.2.2.2.2.2.1 gX5_readLength_X5_here rfl rfl rfl (by decide +kernel) ⟨Nat.le_of_ble_eq_true rfl, Nat.le_of_ble_eq_true rfl⟩) ⟨PG_blind, va_recv hA.2.2.1.1 hw.1 (ci := 5) (q0 := 0) rfl rfl, pg_self hA hw⟩ rfl rfl hl.1 rfl (lv_room (Nat.le_of_ble_eq_true rfl)) dX5_readLength_1 ⟨Nat.zero_le _, Nat.zero_le _⟩) hA hw (fun H locs hw => ?_)
  refine lv_bipush (v := 58) hx hb dX5_readLength_4 (by decide) ?_
  refine lv_icmp_eq (tgt := 11) hx hb dX5_readLength_6 (by decide) (fun c3 => ?_) (fun c3 => ?_)
  · have hm := Eq.trans (if_pos c3).symm hm
    refine lv_aload_n hx hb dX5_readLength_11 rfl (lv_at hl 0 rfl) ?_
    refine lv_dup hx hb dX5_readLength_12 rfl ?_
    refine gR_0_2 C0 hA hw hiX5_readLength_X5 lkX5_readLength_9 dX5_readLength_13 ?_
    refine lv_iconst (v := 1) hx hb dX5_readLength_16 (by decide) ?_
    refine lv_iadd hx hb dX5_readLength_17 ?_
    refine pR_0_2 C0 hA hw hiX5_readLength_X5 lkX5_readLength_9 dX5_readLength_18 (fun zr4 ezr4 H locs hw => ?_)
    have hm := nm_at hm ezr4
    refine lv_aload_n hx hb dX5_readLength_21 rfl (lv_at hl 0 rfl) ?_
    obtain ⟨r5, h6, hm⟩ := b1_some hm
    refine r_backS (va_runV (As := []) (rest := []) ⟨hx, hb, C0.2.2.2.1, C0.2.2.2.2.1, C0.2.2.2.2.2.1⟩ (tX5_here l E ad zr4 zs zg h6 H.size) (cwV 0 C0.2.2.2.2.2.1 gX5_readLength_X5_here rfl rfl rfl (by decide +kernel) ⟨Nat.le_of_ble_eq_true rfl, Nat.le_of_ble_eq_true rfl⟩) ⟨PG_blind, va_recv hA.2.2.1.1 hw.1 (ci := 5) (q0 := 0) rfl rfl, pg_self hA hw⟩ rfl rfl hl.1 rfl (lv_room (Nat.le_of_ble_eq_true rfl)) dX5_readLength_22 ⟨Nat.zero_le _, Nat.zero_le _⟩) hA hw (fun H locs hw => ?_)
    obtain ⟨r7, h8, hm⟩ := b1_some hm
    refine r_backZ (va_runSN (As := [.int r5]) (rest := []) ⟨hx, hb, C0.2.2.2.1, C0.2.2.2.2.1, C0.2.2.2.2.2.1⟩ (tX9_isDigit l E r5 h8 H.size) ⟨va_cnB 1 C0.2.2.2.2.2.1 ggX5_readLength_X9_isDigit rfl rfl rfl (hA.2.2.1.2.1 (.methodLinkNest RX5 75 yX9_isDigit "GrammarTunes") (by decide +kernel)) (C0.2.2.2.2.2.1 (.initialized RX9) (by decide +kernel)) (by decide +kernel) ⟨Nat.le_of_ble_eq_true rfl, Nat.le_of_ble_eq_true rfl⟩, C0.2.2.2.2.2.1 (.static yX9_isDigit) (by decide +kernel), trivial⟩ ⟨PG_blind, pg_nil hA hw⟩ rfl rfl hl.1 rfl (lv_room (Nat.le_of_ble_eq_true rfl)) dX5_readLength_25 ⟨Nat.zero_le _, Nat.zero_le _⟩) hA hw (fun H locs hw => ?_)
    refine lv_if_eq (tgt := 40) hx hb dX5_readLength_28 (by decide) (fun c9 => ?_) (fun c9 => ?_)
    · have hm := Eq.trans (if_pos c9).symm hm
      exact kX5_readLength_b40 F C0 hA zr4 _ _ _ hm hw (lv_sub hl [0] rfl)
    · have hm := Eq.trans (if_neg c9).symm hm
      refine lv_aload_n hx hb dX5_readLength_31 rfl (lv_at hl 0 rfl) ?_
      obtain ⟨r10, h11, hm⟩ := b1_some hm
      refine r_backS (va_runV (As := []) (rest := []) ⟨hx, hb, C0.2.2.2.1, C0.2.2.2.2.1, C0.2.2.2.2.2.1⟩ (tX5_here l E ad zr4 zs zg h11 H.size) (cwV 0 C0.2.2.2.2.2.1 gX5_readLength_X5_here rfl rfl rfl (by decide +kernel) ⟨Nat.le_of_ble_eq_true rfl, Nat.le_of_ble_eq_true rfl⟩) ⟨PG_blind, va_recv hA.2.2.1.1 hw.1 (ci := 5) (q0 := 0) rfl rfl, pg_self hA hw⟩ rfl rfl hl.1 rfl (lv_room (Nat.le_of_ble_eq_true rfl)) dX5_readLength_32 ⟨Nat.zero_le _, Nat.zero_le _⟩) hA hw (fun H locs hw => ?_)
      refine lv_bipush (v := 48) hx hb dX5_readLength_35 (by decide) ?_
      refine lv_icmp_ne (tgt := 51) hx hb dX5_readLength_37 (by decide) (fun c12 => ?_) (fun c12 => ?_)
      · have hm := Eq.trans (if_neg c12).symm hm
        refine lv_iconst (v := 0) hx hb dX5_readLength_51 (by decide) ?_
        refine lv_topi (fun v13 ev13 => ?_)
        have hm := nm_at hm ev13
        refine lv_istore_n (lv' := [(1, .int v13), (0, .ref (ad 0))]) hx hb dX5_readLength_52 rfl hl (by decide) rfl (fun ls hl => ?_)
        exact kX5_readLength_b53 F C0 hA F zr4 v13 _ _ _ hm hw (lv_sub hl [1, 0] rfl)
      · have hm := Eq.trans (if_pos c12).symm hm
        exact kX5_readLength_b40 F C0 hA zr4 _ _ _ hm hw (lv_sub hl [0] rfl)
  · have hm := Eq.trans (if_neg c3).symm hm
    refine lv_iconst (v := 4) hx hb dX5_readLength_9 (by decide) ?_
    obtain ⟨rfl, rfl⟩ := sj2 hm
    exact r_iret C0 hw dX5_readLength_10 ⟨rfl, rfl⟩
theorem tX5_readLength (l : Launch) (E : EV) (ad : Nat → Nat) (F : Nat) (zr : OS) (zs : OS) (zg : OS)  {r : Int32} {zr' : OS} (hm : mX5_readLength F zr zs zg = some (r, zr')) : CT l yX5_readLength wsX5_readLength ({ frames := 1, cells := 0, slots := 0, locals := 21 } : Room) E [.ref (ad 0)] (wR E ad zr zs zg) (Qd (some (.int r)) (wR E ad zr' zs zg)) 0 0 :=
  CT.of (mL := 2) (lvs := [(0, .ref (ad 0))]) (by decide +kernel) rfl (Nat.le_of_ble_eq_true rfl) rfl rfl rfl (fun p e s m below meth c A C0 hA hw ls hl => kX5_readLength_b0 (ad := ad) F C0 hA zr _ _ _ hm hw (lv_sub hl [0] rfl))
theorem lkX5_readSign_22 : Cond.fieldLink RX5 22 (TX5 1).1 (TX5 1).2.1 (TX5 1).2.2.1 ∈ wsX5_readSign := by decide +kernel
theorem lkX5_readSign_9 : Cond.fieldLink RX5 9 (TX5 2).1 (TX5 2).2.1 (TX5 2).2.2.1 ∈ wsX5_readSign := by decide +kernel
theorem hiX5_readSign_X5 : ∀ w ∈ u_ws RX5 TX5 4, w ∈ wsX5_readSign := by decide +kernel
def mX5_readSign_b116 (F : Nat)  (zr : OS) (zs : OS) (zg : OS) (a2 : Int32) (a3 : Int32) (t1 : Int32) : Option (Int32 × OS × OS) := b1 (mX2_addSound zg t1 a2 a3) (fun zg1 => some (1, zr, zg1))
def mX5_readSign_b85 (F : Nat)  (zr : OS) (zs : OS) (zg : OS) (a1 : Int32) (t0 : Int32) : Option (Int32 × OS × OS) := b2 (mX5_readLength F zr zs zg) (fun r1 zr2 => (if (r1 : Int32) = (-1) then some (0, zr2, zg) else (if (a1 : Int32) = 114 then mX5_readSign_b116 F zr2 zs zg t0 r1 (-1) else mX5_readSign_b116 F zr2 zs zg t0 r1 (a1 - 48))))
def mX5_readSign_b61 (F : Nat)  (zr : OS) (zs : OS) (zg : OS) (a1 : Int32) : Option (Int32 × OS × OS) := nm (sI zr 2 ((zr.1 2) + 1)) (fun zr1 => (if (a1 : Int32) = 114 then mX5_readSign_b85 F zr1 zs zg a1 0 else b2 (mX5_readOctave zr1 zs zg) (fun r3 zr4 => mX5_readSign_b85 F zr4 zs zg a1 r3)))
def mX5_readSign_b0 (F : Nat)  (zr : OS) (zs : OS) (zg : OS) : Option (Int32 × OS × OS) := b1 (mX5_here zr zs zg) (fun r1 => b1 (mX9_isLetter r1) (fun r3 => (if (r3 : Int32) = 0 then b1 (mX9_isDegree r1) (fun r6 => (if (r6 : Int32) = 0 then (if (r1 : Int32) = 114 then mX5_readSign_b61 F zr zs zg r1 else b2 (mX5_failAt zr zs zg (zr.1 2)) (fun r10 zr11 => bz r10 (some (r10, zr11, zg)))) else mX5_readSign_b61 F zr zs zg r1)) else b1 (mX2_addLetter zg (r1 - 65) (zr.1 2)) (fun zg14 => nm (sI zr 2 ((zr.1 2) + 1)) (fun zr16 => some (1, zr16, zg14))))))
def mX5_readSign (F : Nat) (zr : OS) (zs : OS) (zg : OS)  : Option (Int32 × OS × OS) := mX5_readSign_b0 F zr zs zg
set_option maxRecDepth 20000 in
theorem kX5_readSign_b116 {p : Program} {l : Launch} {e : Env} {s : State} {m : MethodId} {args : Array Value} {below : List Frame} {meth : Method} {c : Code} {A : Nat → Prop} {E : EV} {ad : Nat → Nat} (F : Nat) {zs : OS} {r : Int32} {zr' : OS} {zg' : OS} (C0 : Cx RX5 "readSign" cX5_readSign (some .boolean) 4 wsX5_readSign p s m args meth c) (hA : Ax E A s) : ∀ (zr : OS) (zg : OS) (a2 : Int32) (a3 : Int32) (t1 : Int32) (H : Heap) (locs : List Loc) (ls : Array Slot), mX5_readSign_b116 F zr zs zg a2 a3 t1 = some (r, zr', zg') → Wd E A s H locs (wR E ad zr zs zg) → lv_has ls 4 [(2, .int a2), (3, .int a3)] → W p l e ({ frames := 2, cells := 0, slots := 0, locals := 47 } : Room) s m args below meth c H locs 0 0 (MQ below (QG E (Qd (some (.int r)) (wR E ad zr' zs zg')) A) args s 0 0 A) (F0 m 116 ls [.int t1, .ref (ad 3)]) := by
  have hx := C0.1
  have hb := C0.2.1
  intro zr zg a2 a3 t1 H locs ls hm hw hl
  unfold mX5_readSign_b116 at hm
  refine lv_iload_n hx hb dX5_readSign_116 rfl (lv_at hl 0 rfl) ?_
  refine lv_iload_n hx hb dX5_readSign_117 rfl (lv_at hl 1 rfl) ?_
  obtain ⟨zg1, h2, hm⟩ := b1_some hm
  refine r_backP (va_runV (As := [.int t1, .int a2, .int a3]) (rest := []) ⟨hx, hb, C0.2.2.2.1, C0.2.2.2.2.1, C0.2.2.2.2.2.1⟩ (tX2_addSound l E (fun k => ad (k + 3)) zg t1 a2 a3 h2 H.size) (cwV 3 C0.2.2.2.2.2.1 gX5_readSign_X2_addSound rfl rfl rfl (by decide +kernel) ⟨Nat.le_of_ble_eq_true rfl, Nat.le_of_ble_eq_true rfl⟩) ⟨PG_blind, va_recv hA.2.2.1.1 hw.1 (ci := 2) (q0 := 3) rfl rfl, pg_at hA hw [3, 4, 5, 6, 7, 8, 9, 10, 11, 12, 13, 14] rfl (wcR_zg E ad zr zs zg)⟩ rfl rfl hl.1 rfl (lv_room (Nat.le_of_ble_eq_true rfl)) dX5_readSign_118 ⟨Nat.zero_le _, Nat.zero_le _⟩) hA hw [3, 4, 5, 6, 7, 8, 9, 10, 11, 12, 13, 14] [0, 1, 2] (wcR_zg E ad zr zs zg) (wqR_zg E ad zr zs zg) rfl (by decide) (fun H locs hw => ?_)
  have hw := wjR_zg zg1 hw
  refine lv_iconst (v := 1) hx hb dX5_readSign_121 (by decide) ?_
  obtain ⟨rfl, rfl, rfl⟩ := sj3 hm
  exact r_zret C0 hw dX5_readSign_122 rfl ⟨rfl, rfl⟩
set_option maxRecDepth 20000 in
theorem kX5_readSign_b85 {p : Program} {l : Launch} {e : Env} {s : State} {m : MethodId} {args : Array Value} {below : List Frame} {meth : Method} {c : Code} {A : Nat → Prop} {E : EV} {ad : Nat → Nat} (F : Nat) {zs : OS} {r : Int32} {zr' : OS} {zg' : OS} (C0 : Cx RX5 "readSign" cX5_readSign (some .boolean) 4 wsX5_readSign p s m args meth c) (hA : Ax E A s) : ∀ (zr : OS) (zg : OS) (a1 : Int32) (t0 : Int32) (H : Heap) (locs : List Loc) (ls : Array Slot), mX5_readSign_b85 F zr zs zg a1 t0 = some (r, zr', zg') → Wd E A s H locs (wR E ad zr zs zg) → lv_has ls 4 [(0, .ref (ad 0)), (1, .int a1)] → W p l e ({ frames := 2, cells := 0, slots := 0, locals := 47 } : Room) s m args below meth c H locs 0 0 (MQ below (QG E (Qd (some (.int r)) (wR E ad zr' zs zg')) A) args s 0 0 A) (F0 m 85 ls [.int t0]) := by
  have hx := C0.1
  have hb := C0.2.1
  intro zr zg a1 t0 H locs ls hm hw hl
  unfold mX5_readSign_b85 at hm
  refine lv_istore_n (lv' := [(2, .int t0), (0, .ref (ad 0)), (1, .int a1)]) hx hb dX5_readSign_85 rfl hl (by decide) rfl (fun ls hl => ?_)
  refine lv_aload_n hx hb dX5_readSign_86 rfl (lv_at hl 1 rfl) ?_
  obtain ⟨r1, zr2, h3, hm⟩ := b2_some hm
  refine r_backS (va_runV (As := []) (rest := []) ⟨hx, hb, C0.2.2.2.1, C0.2.2.2.2.1, C0.2.2.2.2.2.1⟩ (tX5_readLength l E ad F zr zs zg h3 H.size) (cwV 0 C0.2.2.2.2.2.1 gX5_readSign_X5_readLength rfl rfl rfl (by decide +kernel) ⟨Nat.le_of_ble_eq_true rfl, Nat.le_of_ble_eq_true rfl⟩) ⟨PG_blind, va_recv hA.2.2.1.1 hw.1 (ci := 5) (q0 := 0) rfl rfl, pg_self hA hw⟩ rfl rfl hl.1 rfl (lv_room (Nat.le_of_ble_eq_true rfl)) dX5_readSign_87 ⟨Nat.zero_le _, Nat.zero_le _⟩) hA hw (fun H locs hw => ?_)
  refine lv_istore_n (lv' := [(3, .int r1), (2, .int t0), (0, .ref (ad 0)), (1, .int a1)]) hx hb dX5_readSign_90 rfl hl (by decide) rfl (fun ls hl => ?_)
  refine lv_iload_n hx hb dX5_readSign_91 rfl (lv_at hl 0 rfl) ?_
  refine lv_iconst (v := (-1)) hx hb dX5_readSign_92 (by decide) ?_
  refine lv_icmp_ne (tgt := 98) hx hb dX5_readSign_93 (by decide) (fun c4 => ?_) (fun c4 => ?_)
  · have hm := Eq.trans (if_neg c4).symm hm
    refine lv_aload_n hx hb dX5_readSign_98 rfl (lv_at hl 2 rfl) ?_
    refine gR_0_1 C0 hA hw hiX5_readSign_X5 lkX5_readSign_22 dX5_readSign_99 ?_
    refine lv_iload_n hx hb dX5_readSign_102 rfl (lv_at hl 3 rfl) ?_
    refine lv_bipush (v := 114) hx hb dX5_readSign_103 (by decide) ?_
    refine lv_icmp_ne (tgt := 112) hx hb dX5_readSign_105 (by decide) (fun c5 => ?_) (fun c5 => ?_)
    · have hm := Eq.trans (if_neg c5).symm hm
      refine lv_iload_n hx hb dX5_readSign_112 rfl (lv_at hl 3 rfl) ?_
      refine lv_bipush (v := 48) hx hb dX5_readSign_113 (by decide) ?_
      refine lv_isub hx hb dX5_readSign_115 ?_
      exact kX5_readSign_b116 F C0 hA zr2 zg t0 r1 (a1 - 48) _ _ _ hm hw (lv_sub hl [1, 0] rfl)
    · have hm := Eq.trans (if_pos c5).symm hm
      refine lv_iconst (v := (-1)) hx hb dX5_readSign_108 (by decide) ?_
      refine lv_goto (tgt := 116) hx hb dX5_readSign_109 (by decide) ?_
      exact kX5_readSign_b116 F C0 hA zr2 zg t0 r1 (-1) _ _ _ hm hw (lv_sub hl [1, 0] rfl)
  · have hm := Eq.trans (if_pos c4).symm hm
    refine lv_iconst (v := 0) hx hb dX5_readSign_96 (by decide) ?_
    obtain ⟨rfl, rfl, rfl⟩ := sj3 hm
    exact r_zret C0 hw dX5_readSign_97 rfl ⟨rfl, rfl⟩
set_option maxRecDepth 20000 in
theorem kX5_readSign_b61 {p : Program} {l : Launch} {e : Env} {s : State} {m : MethodId} {args : Array Value} {below : List Frame} {meth : Method} {c : Code} {A : Nat → Prop} {E : EV} {ad : Nat → Nat} (F : Nat) {zs : OS} {r : Int32} {zr' : OS} {zg' : OS} (C0 : Cx RX5 "readSign" cX5_readSign (some .boolean) 4 wsX5_readSign p s m args meth c) (hA : Ax E A s) : ∀ (zr : OS) (zg : OS) (a1 : Int32) (H : Heap) (locs : List Loc) (ls : Array Slot), mX5_readSign_b61 F zr zs zg a1 = some (r, zr', zg') → Wd E A s H locs (wR E ad zr zs zg) → lv_has ls 4 [(0, .ref (ad 0)), (1, .int a1)] → W p l e ({ frames := 2, cells := 0, slots := 0, locals := 47 } : Room) s m args below meth c H locs 0 0 (MQ below (QG E (Qd (some (.int r)) (wR E ad zr' zs zg')) A) args s 0 0 A) (F0 m 61 ls []) := by
  have hx := C0.1
  have hb := C0.2.1
  intro zr zg a1 H locs ls hm hw hl
  unfold mX5_readSign_b61 at hm
  refine lv_aload_n hx hb dX5_readSign_61 rfl (lv_at hl 0 rfl) ?_
  refine lv_dup hx hb dX5_readSign_62 rfl ?_
  refine gR_0_2 C0 hA hw hiX5_readSign_X5 lkX5_readSign_9 dX5_readSign_63 ?_
  refine lv_iconst (v := 1) hx hb dX5_readSign_66 (by decide) ?_
  refine lv_iadd hx hb dX5_readSign_67 ?_
  refine pR_0_2 C0 hA hw hiX5_readSign_X5 lkX5_readSign_9 dX5_readSign_68 (fun zr1 ezr1 H locs hw => ?_)
  have hm := nm_at hm ezr1
  refine lv_iload_n hx hb dX5_readSign_71 rfl (lv_at hl 1 rfl) ?_
  refine lv_bipush (v := 114) hx hb dX5_readSign_72 (by decide) ?_
  refine lv_icmp_ne (tgt := 81) hx hb dX5_readSign_74 (by decide) (fun c2 => ?_) (fun c2 => ?_)
  · have hm := Eq.trans (if_neg c2).symm hm
    refine lv_aload_n hx hb dX5_readSign_81 rfl (lv_at hl 0 rfl) ?_
    obtain ⟨r3, zr4, h5, hm⟩ := b2_some hm
    refine r_backS (va_runV (As := []) (rest := []) ⟨hx, hb, C0.2.2.2.1, C0.2.2.2.2.1, C0.2.2.2.2.2.1⟩ (tX5_readOctave l E ad zr1 zs zg h5 H.size) (cwV 0 C0.2.2.2.2.2.1 gX5_readSign_X5_readOctave rfl rfl rfl (by decide +kernel) ⟨Nat.le_of_ble_eq_true rfl, Nat.le_of_ble_eq_true rfl⟩) ⟨PG_blind, va_recv hA.2.2.1.1 hw.1 (ci := 5) (q0 := 0) rfl rfl, pg_self hA hw⟩ rfl rfl hl.1 rfl (lv_room (Nat.le_of_ble_eq_true rfl)) dX5_readSign_82 ⟨Nat.zero_le _, Nat.zero_le _⟩) hA hw (fun H locs hw => ?_)
    exact kX5_readSign_b85 F C0 hA zr4 zg a1 r3 _ _ _ hm hw (lv_sub hl [0, 1] rfl)
  · have hm := Eq.trans (if_pos c2).symm hm
    refine lv_iconst (v := 0) hx hb dX5_readSign_77 (by decide) ?_
    refine lv_goto (tgt := 85) hx hb dX5_readSign_78 (by decide) ?_
    exact kX5_readSign_b85 F C0 hA zr1 zg a1 0 _ _ _ hm hw (lv_sub hl [0, 1] rfl)
set_option maxRecDepth 20000 in
theorem kX5_readSign_b0 {p : Program} {l : Launch} {e : Env} {s : State} {m : MethodId} {args : Array Value} {below : List Frame} {meth : Method} {c : Code} {A : Nat → Prop} {E : EV} {ad : Nat → Nat} (F : Nat) {zs : OS} {r : Int32} {zr' : OS} {zg' : OS} (C0 : Cx RX5 "readSign" cX5_readSign (some .boolean) 4 wsX5_readSign p s m args meth c) (hA : Ax E A s) : ∀ (zr : OS) (zg : OS) (H : Heap) (locs : List Loc) (ls : Array Slot), mX5_readSign_b0 F zr zs zg = some (r, zr', zg') → Wd E A s H locs (wR E ad zr zs zg) → lv_has ls 4 [(0, .ref (ad 0))] → W p l e ({ frames := 2, cells := 0, slots := 0, locals := 47 } : Room) s m args below meth c H locs 0 0 (MQ below (QG E (Qd (some (.int r)) (wR E ad zr' zs zg')) A) args s 0 0 A) (F0 m 0 ls []) := by
  have hx := C0.1
  have hb := C0.2.1
  intro zr zg H locs ls hm hw hl
  unfold mX5_readSign_b0 at hm
  refine lv_aload_n hx hb dX5_readSign_0 rfl (lv_at hl 0 rfl) ?_
  obtain ⟨r1, h2, hm⟩ := b1_some hm
  refine r_backS (va_runV (As := []) (rest := []) ⟨hx, hb, C0.2.2.2.1, C0.2.2.2.2.1, C0.2.2.2.2.2.1⟩ (tX5_here l E ad zr zs zg h2 H.size) (cwV 0 C0.2.2.2.2.2.1 gX5_readSign_X5_here rfl rfl rfl (by decide +kernel) ⟨Nat.le_of_ble_eq_true rfl, Nat.le_of_ble_eq_true rfl⟩) ⟨PG_blind, va_recv hA.2.2.1.1 hw.1 (ci := 5) (q0 := 0) rfl rfl, pg_self hA hw⟩ rfl rfl hl.1 rfl (lv_room (Nat.le_of_ble_eq_true rfl)) dX5_readSign_1 ⟨Nat.zero_le _, Nat.zero_le _⟩) hA hw (fun H locs hw => ?_)
  refine lv_istore_n (lv' := [(1, .int r1), (0, .ref (ad 0))]) hx hb dX5_readSign_4 rfl hl (by decide) rfl (fun ls hl => ?_)
  refine lv_iload_n hx hb dX5_readSign_5 rfl (lv_at hl 0 rfl) ?_
  obtain ⟨r3, h4, hm⟩ := b1_some hm
  refine r_backZ (va_runSN (As := [.int r1]) (rest := []) ⟨hx, hb, C0.2.2.2.1, C0.2.2.2.2.1, C0.2.2.2.2.2.1⟩ (tX9_isLetter l E r1 h4 H.size) ⟨va_cnB 1 C0.2.2.2.2.2.1 ggX5_readSign_X9_isLetter rfl rfl rfl (hA.2.2.1.2.1 (.methodLinkNest RX5 93 yX9_isLetter "GrammarTunes") (by decide +kernel)) (C0.2.2.2.2.2.1 (.initialized RX9) (by decide +kernel)) (by decide +kernel) ⟨Nat.le_of_ble_eq_true rfl, Nat.le_of_ble_eq_true rfl⟩, C0.2.2.2.2.2.1 (.static yX9_isLetter) (by decide +kernel), trivial⟩ ⟨PG_blind, pg_nil hA hw⟩ rfl rfl hl.1 rfl (lv_room (Nat.le_of_ble_eq_true rfl)) dX5_readSign_6 ⟨Nat.zero_le _, Nat.zero_le _⟩) hA hw (fun H locs hw => ?_)
  refine lv_if_eq (tgt := 39) hx hb dX5_readSign_9 (by decide) (fun c5 => ?_) (fun c5 => ?_)
  · have hm := Eq.trans (if_pos c5).symm hm
    refine lv_iload_n hx hb dX5_readSign_39 rfl (lv_at hl 0 rfl) ?_
    obtain ⟨r6, h7, hm⟩ := b1_some hm
    refine r_backZ (va_runSN (As := [.int r1]) (rest := []) ⟨hx, hb, C0.2.2.2.1, C0.2.2.2.2.1, C0.2.2.2.2.2.1⟩ (tX9_isDegree l E r1 h7 H.size) ⟨va_cnB 1 C0.2.2.2.2.2.1 ggX5_readSign_X9_isDegree rfl rfl rfl (hA.2.2.1.2.1 (.methodLinkNest RX5 102 yX9_isDegree "GrammarTunes") (by decide +kernel)) (C0.2.2.2.2.2.1 (.initialized RX9) (by decide +kernel)) (by decide +kernel) ⟨Nat.le_of_ble_eq_true rfl, Nat.le_of_ble_eq_true rfl⟩, C0.2.2.2.2.2.1 (.static yX9_isDegree) (by decide +kernel), trivial⟩ ⟨PG_blind, pg_nil hA hw⟩ rfl rfl hl.1 rfl (lv_room (Nat.le_of_ble_eq_true rfl)) dX5_readSign_40 ⟨Nat.zero_le _, Nat.zero_le _⟩) hA hw (fun H locs hw => ?_)
    refine lv_if_ne (tgt := 61) hx hb dX5_readSign_43 (by decide) (fun c8 => ?_) (fun c8 => ?_)
    · have hm := Eq.trans (if_neg c8).symm hm
      exact kX5_readSign_b61 F C0 hA zr zg r1 _ _ _ hm hw (lv_sub hl [1, 0] rfl)
    · have hm := Eq.trans (if_pos c8).symm hm
      refine lv_iload_n hx hb dX5_readSign_46 rfl (lv_at hl 0 rfl) ?_
      refine lv_bipush (v := 114) hx hb dX5_readSign_47 (by decide) ?_
      refine lv_icmp_eq (tgt := 61) hx hb dX5_readSign_49 (by decide) (fun c9 => ?_) (fun c9 => ?_)
      · have hm := Eq.trans (if_pos c9).symm hm
        exact kX5_readSign_b61 F C0 hA zr zg r1 _ _ _ hm hw (lv_sub hl [1, 0] rfl)
      · have hm := Eq.trans (if_neg c9).symm hm
        refine lv_aload_n hx hb dX5_readSign_52 rfl (lv_at hl 1 rfl) ?_
        refine lv_aload_n hx hb dX5_readSign_53 rfl (lv_at hl 1 rfl) ?_
        refine gR_0_2 C0 hA hw hiX5_readSign_X5 lkX5_readSign_9 dX5_readSign_54 ?_
        obtain ⟨r10, zr11, h12, hm⟩ := b2_some hm
        refine r_backS (va_runV (As := [.int (zr.1 2)]) (rest := []) ⟨hx, hb, C0.2.2.2.1, C0.2.2.2.2.1, C0.2.2.2.2.2.1⟩ (tX5_failAt l E ad zr zs zg (zr.1 2) h12 H.size) (cwV 1 C0.2.2.2.2.2.1 gX5_readSign_X5_failAt rfl rfl rfl (by decide +kernel) ⟨Nat.le_of_ble_eq_true rfl, Nat.le_of_ble_eq_true rfl⟩) ⟨PG_blind, va_recv hA.2.2.1.1 hw.1 (ci := 5) (q0 := 0) rfl rfl, pg_self hA hw⟩ rfl rfl hl.1 rfl (lv_room (Nat.le_of_ble_eq_true rfl)) dX5_readSign_57 ⟨Nat.zero_le _, Nat.zero_le _⟩) hA hw (fun H locs hw => ?_)
        obtain ⟨c13, hm⟩ := bz_some hm
        obtain ⟨rfl, rfl, rfl⟩ := sj3 hm
        exact r_zret C0 hw dX5_readSign_60 c13 ⟨rfl, rfl⟩
  · have hm := Eq.trans (if_neg c5).symm hm
    refine lv_aload_n hx hb dX5_readSign_12 rfl (lv_at hl 1 rfl) ?_
    refine gR_0_1 C0 hA hw hiX5_readSign_X5 lkX5_readSign_22 dX5_readSign_13 ?_
    refine lv_iload_n hx hb dX5_readSign_16 rfl (lv_at hl 0 rfl) ?_
    refine lv_bipush (v := 65) hx hb dX5_readSign_17 (by decide) ?_
    refine lv_isub hx hb dX5_readSign_19 ?_
    refine lv_aload_n hx hb dX5_readSign_20 rfl (lv_at hl 1 rfl) ?_
    refine gR_0_2 C0 hA hw hiX5_readSign_X5 lkX5_readSign_9 dX5_readSign_21 ?_
    obtain ⟨zg14, h15, hm⟩ := b1_some hm
    refine r_backP (va_runV (As := [.int (r1 - 65), .int (zr.1 2)]) (rest := []) ⟨hx, hb, C0.2.2.2.1, C0.2.2.2.2.1, C0.2.2.2.2.2.1⟩ (tX2_addLetter l E (fun k => ad (k + 3)) zg (r1 - 65) (zr.1 2) h15 H.size) (cwV 2 C0.2.2.2.2.2.1 gX5_readSign_X2_addLetter rfl rfl rfl (by decide +kernel) ⟨Nat.le_of_ble_eq_true rfl, Nat.le_of_ble_eq_true rfl⟩) ⟨PG_blind, va_recv hA.2.2.1.1 hw.1 (ci := 2) (q0 := 3) rfl rfl, pg_at hA hw [3, 4, 5, 6, 7, 8, 9, 10, 11, 12, 13, 14] rfl (wcR_zg E ad zr zs zg)⟩ rfl rfl hl.1 rfl (lv_room (Nat.le_of_ble_eq_true rfl)) dX5_readSign_24 ⟨Nat.zero_le _, Nat.zero_le _⟩) hA hw [3, 4, 5, 6, 7, 8, 9, 10, 11, 12, 13, 14] [0, 1, 2] (wcR_zg E ad zr zs zg) (wqR_zg E ad zr zs zg) rfl (by decide) (fun H locs hw => ?_)
    have hw := wjR_zg zg14 hw
    refine lv_aload_n hx hb dX5_readSign_27 rfl (lv_at hl 1 rfl) ?_
    refine lv_dup hx hb dX5_readSign_28 rfl ?_
    refine gR_0_2 C0 hA hw hiX5_readSign_X5 lkX5_readSign_9 dX5_readSign_29 ?_
    refine lv_iconst (v := 1) hx hb dX5_readSign_32 (by decide) ?_
    refine lv_iadd hx hb dX5_readSign_33 ?_
    refine pR_0_2 C0 hA hw hiX5_readSign_X5 lkX5_readSign_9 dX5_readSign_34 (fun zr16 ezr16 H locs hw => ?_)
    have hm := nm_at hm ezr16
    refine lv_iconst (v := 1) hx hb dX5_readSign_37 (by decide) ?_
    obtain ⟨rfl, rfl, rfl⟩ := sj3 hm
    exact r_zret C0 hw dX5_readSign_38 rfl ⟨rfl, rfl⟩
theorem tX5_readSign (l : Launch) (E : EV) (ad : Nat → Nat) (F : Nat) (zr : OS) (zs : OS) (zg : OS)  {r : Int32} {zr' : OS} {zg' : OS} (hm : mX5_readSign F zr zs zg = some (r, zr', zg')) : CT l yX5_readSign wsX5_readSign ({ frames := 2, cells := 0, slots := 0, locals := 47 } : Room) E [.ref (ad 0)] (wR E ad zr zs zg) (Qd (some (.int r)) (wR E ad zr' zs zg')) 0 0 :=
  CT.of (mL := 4) (lvs := [(0, .ref (ad 0))]) (by decide +kernel) rfl (Nat.le_of_ble_eq_true rfl) rfl rfl rfl (fun p e s m below meth c A C0 hA hw ls hl => kX5_readSign_b0 (ad := ad) F C0 hA zr zg _ _ _ hm hw (lv_sub hl [0] rfl))
theorem lkX5_readSigns_9 : Cond.fieldLink RX5 9 (TX5 2).1 (TX5 2).2.1 (TX5 2).2.2.1 ∈ wsX5_readSigns := by decide +kernel
theorem lkX5_readSigns_22 : Cond.fieldLink RX5 22 (TX5 1).1 (TX5 1).2.1 (TX5 1).2.2.1 ∈ wsX5_readSigns := by decide +kernel
theorem lkX5_readSigns_18 : Cond.fieldLink RX5 18 (TX5 0).1 (TX5 0).2.1 (TX5 0).2.2.1 ∈ wsX5_readSigns := by decide +kernel
theorem hiX5_readSigns_X5 : ∀ w ∈ u_ws RX5 TX5 4, w ∈ wsX5_readSigns := by decide +kernel
def mX5_readSigns_b40 (F : Nat)  (zr : OS) (zs : OS) (zg : OS) (a1 : Int32) : Option (Int32 × OS × OS) := (if 0 < (a1 : Int32) then some (1, zr, zg) else b2 (mX5_failAt zr zs zg (zr.1 2)) (fun r2 zr3 => (if (r2 : Int32) = 0 then some (0, zr3, zg) else some (1, zr3, zg))))
def mX5_readSigns_b74 (F : Nat) (K2 : OS → OS → OS → Int32 → Option (Int32 × OS × OS)) (zr : OS) (zs : OS) (zg : OS) (a1 : Int32) : Option (Int32 × OS × OS) := b1 (mX2_canAddSign zg) (fun r1 => (if (r1 : Int32) = 0 then b2 (mX5_failAt zr zs zg (zr.1 2)) (fun r10 zr11 => bz r10 (some (r10, zr11, zg))) else b3 (mX5_readSign F zr zs zg) (fun r4 zr5 zg6 => (if (r4 : Int32) = 0 then some (0, zr5, zg6) else nm (a1 + 1 : Int32) (fun v9 => K2 zr5 zs zg6 v9)))))
def mX5_readSigns_b2 (F : Nat)  : Nat → OS → OS → OS → Int32 → Option (Int32 × OS × OS)
  | 0, _, _, _, _ => none
  | n + 1, zr, zs, zg, a1 => (if 12 < (a1 : Int32) then b2 (mX5_failAt zr zs zg (zr.1 2)) (fun r2 zr3 => bz r2 (some (r2, zr3, zg))) else b1 (mX6_skipBlanks F zs (zr.1 2)) (fun r6 => nm (sI zr 2 r6) (fun zr8 => b1 (mX5_here zr8 zs zg) (fun r9 => (if (r9 : Int32) = (-1) then mX5_readSigns_b40 F zr8 zs zg a1 else b1 (mX5_here zr8 zs zg) (fun r12 => (if (r12 : Int32) = 124 then mX5_readSigns_b40 F zr8 zs zg a1 else (if (a1 : Int32) ≤ 0 then mX5_readSigns_b74 F (mX5_readSigns_b2 F n) zr8 zs zg a1 else b1 (mX5_isLetterOfRule F zr8 zs zg) (fun r16 => (if (r16 : Int32) = 0 then mX5_readSigns_b74 F (mX5_readSigns_b2 F n) zr8 zs zg a1 else some (1, zr8, zg)))))))))))
def mX5_readSigns_b0 (F : Nat)  (zr : OS) (zs : OS) (zg : OS) : Option (Int32 × OS × OS) := nm (0 : Int32) (fun v1 => mX5_readSigns_b2 F F zr zs zg v1)
def mX5_readSigns (F : Nat) (zr : OS) (zs : OS) (zg : OS)  : Option (Int32 × OS × OS) := mX5_readSigns_b0 F zr zs zg
set_option maxRecDepth 20000 in
theorem kX5_readSigns_b40 {p : Program} {l : Launch} {e : Env} {s : State} {m : MethodId} {args : Array Value} {below : List Frame} {meth : Method} {c : Code} {A : Nat → Prop} {E : EV} {ad : Nat → Nat} (F : Nat) {zs : OS} {r : Int32} {zr' : OS} {zg' : OS} (C0 : Cx RX5 "readSigns" cX5_readSigns (some .boolean) 2 wsX5_readSigns p s m args meth c) (hA : Ax E A s) : ∀ (zr : OS) (zg : OS) (a1 : Int32) (H : Heap) (locs : List Loc) (ls : Array Slot), mX5_readSigns_b40 F zr zs zg a1 = some (r, zr', zg') → Wd E A s H locs (wR E ad zr zs zg) → lv_has ls 2 [(0, .ref (ad 0)), (1, .int a1)] → W p l e ({ frames := 3, cells := 0, slots := 0, locals := 70 } : Room) s m args below meth c H locs 0 0 (MQ below (QG E (Qd (some (.int r)) (wR E ad zr' zs zg')) A) args s 0 0 A) (F0 m 40 ls []) := by
  have hx := C0.1
  have hb := C0.2.1
  intro zr zg a1 H locs ls hm hw hl
  unfold mX5_readSigns_b40 at hm
  refine lv_iload_n hx hb dX5_readSigns_40 rfl (lv_at hl 1 rfl) ?_
  refine lv_if_gt (tgt := 55) hx hb dX5_readSigns_41 (by decide) (fun c1 => ?_) (fun c1 => ?_)
  · have hm := Eq.trans (if_pos c1).symm hm
    refine lv_iconst (v := 1) hx hb dX5_readSigns_55 (by decide) ?_
    refine lv_goto (tgt := 60) hx hb dX5_readSigns_56 (by decide) ?_
    obtain ⟨rfl, rfl, rfl⟩ := sj3 hm
    exact r_zret C0 hw dX5_readSigns_60 rfl ⟨rfl, rfl⟩
  · have hm := Eq.trans (if_neg c1).symm hm
    refine lv_aload_n hx hb dX5_readSigns_44 rfl (lv_at hl 0 rfl) ?_
    refine lv_aload_n hx hb dX5_readSigns_45 rfl (lv_at hl 0 rfl) ?_
    refine gR_0_2 C0 hA hw hiX5_readSigns_X5 lkX5_readSigns_9 dX5_readSigns_46 ?_
    obtain ⟨r2, zr3, h4, hm⟩ := b2_some hm
    refine r_backS (va_runV (As := [.int (zr.1 2)]) (rest := []) ⟨hx, hb, C0.2.2.2.1, C0.2.2.2.2.1, C0.2.2.2.2.2.1⟩ (tX5_failAt l E ad zr zs zg (zr.1 2) h4 H.size) (cwV 1 C0.2.2.2.2.2.1 gX5_readSigns_X5_failAt rfl rfl rfl (by decide +kernel) ⟨Nat.le_of_ble_eq_true rfl, Nat.le_of_ble_eq_true rfl⟩) ⟨PG_blind, va_recv hA.2.2.1.1 hw.1 (ci := 5) (q0 := 0) rfl rfl, pg_self hA hw⟩ rfl rfl hl.1 rfl (lv_room (Nat.le_of_ble_eq_true rfl)) dX5_readSigns_49 ⟨Nat.zero_le _, Nat.zero_le _⟩) hA hw (fun H locs hw => ?_)
    refine lv_if_eq (tgt := 59) hx hb dX5_readSigns_52 (by decide) (fun c5 => ?_) (fun c5 => ?_)
    · have hm := Eq.trans (if_pos c5).symm hm
      refine lv_iconst (v := 0) hx hb dX5_readSigns_59 (by decide) ?_
      obtain ⟨rfl, rfl, rfl⟩ := sj3 hm
      exact r_zret C0 hw dX5_readSigns_60 rfl ⟨rfl, rfl⟩
    · have hm := Eq.trans (if_neg c5).symm hm
      refine lv_iconst (v := 1) hx hb dX5_readSigns_55 (by decide) ?_
      refine lv_goto (tgt := 60) hx hb dX5_readSigns_56 (by decide) ?_
      obtain ⟨rfl, rfl, rfl⟩ := sj3 hm
      exact r_zret C0 hw dX5_readSigns_60 rfl ⟨rfl, rfl⟩
set_option maxRecDepth 20000 in
theorem kX5_readSigns_b74 {p : Program} {l : Launch} {e : Env} {s : State} {m : MethodId} {args : Array Value} {below : List Frame} {meth : Method} {c : Code} {A : Nat → Prop} {E : EV} {ad : Nat → Nat} (F : Nat) {zs : OS} {r : Int32} {zr' : OS} {zg' : OS} (C0 : Cx RX5 "readSigns" cX5_readSigns (some .boolean) 2 wsX5_readSigns p s m args meth c) (hA : Ax E A s) (K2 : OS → OS → OS → Int32 → Option (Int32 × OS × OS)) (hK2 : ∀ (zr : OS) (zg : OS) (a1 : Int32) (H : Heap) (locs : List Loc) (ls : Array Slot), K2 zr zs zg a1 = some (r, zr', zg') → Wd E A s H locs (wR E ad zr zs zg) → lv_has ls 2 [(0, .ref (ad 0)), (1, .int a1)] → W p l e ({ frames := 3, cells := 0, slots := 0, locals := 70 } : Room) s m args below meth c H locs 0 0 (MQ below (QG E (Qd (some (.int r)) (wR E ad zr' zs zg')) A) args s 0 0 A) (F0 m 2 ls [])) : ∀ (zr : OS) (zg : OS) (a1 : Int32) (H : Heap) (locs : List Loc) (ls : Array Slot), mX5_readSigns_b74 F K2 zr zs zg a1 = some (r, zr', zg') → Wd E A s H locs (wR E ad zr zs zg) → lv_has ls 2 [(0, .ref (ad 0)), (1, .int a1)] → W p l e ({ frames := 3, cells := 0, slots := 0, locals := 70 } : Room) s m args below meth c H locs 0 0 (MQ below (QG E (Qd (some (.int r)) (wR E ad zr' zs zg')) A) args s 0 0 A) (F0 m 74 ls []) := by
  have hx := C0.1
  have hb := C0.2.1
  intro zr zg a1 H locs ls hm hw hl
  unfold mX5_readSigns_b74 at hm
  refine lv_aload_n hx hb dX5_readSigns_74 rfl (lv_at hl 0 rfl) ?_
  refine gR_0_1 C0 hA hw hiX5_readSigns_X5 lkX5_readSigns_22 dX5_readSigns_75 ?_
  obtain ⟨r1, h2, hm⟩ := b1_some hm
  refine r_backP (va_runV (As := []) (rest := []) ⟨hx, hb, C0.2.2.2.1, C0.2.2.2.2.1, C0.2.2.2.2.2.1⟩ (tX2_canAddSign l E (fun k => ad (k + 3)) zg h2 H.size) (cwV 0 C0.2.2.2.2.2.1 gX5_readSigns_X2_canAddSign rfl rfl rfl (by decide +kernel) ⟨Nat.le_of_ble_eq_true rfl, Nat.le_of_ble_eq_true rfl⟩) ⟨PG_blind, va_recv hA.2.2.1.1 hw.1 (ci := 2) (q0 := 3) rfl rfl, pg_at hA hw [3, 4, 5, 6, 7, 8, 9, 10, 11, 12, 13, 14] rfl (wcR_zg E ad zr zs zg)⟩ rfl rfl hl.1 rfl (lv_room (Nat.le_of_ble_eq_true rfl)) dX5_readSigns_78 ⟨Nat.zero_le _, Nat.zero_le _⟩) hA hw [3, 4, 5, 6, 7, 8, 9, 10, 11, 12, 13, 14] [0, 1, 2] (wcR_zg E ad zr zs zg) (wqR_zg E ad zr zs zg) rfl (by decide) (fun H locs hw => ?_)
  have hw := wjR_zg zg hw
  refine lv_if_ne (tgt := 93) hx hb dX5_readSigns_81 (by decide) (fun c3 => ?_) (fun c3 => ?_)
  · have hm := Eq.trans (if_neg c3).symm hm
    refine lv_aload_n hx hb dX5_readSigns_93 rfl (lv_at hl 0 rfl) ?_
    obtain ⟨r4, zr5, zg6, h7, hm⟩ := b3_some hm
    refine r_backS (va_runV (As := []) (rest := []) ⟨hx, hb, C0.2.2.2.1, C0.2.2.2.2.1, C0.2.2.2.2.2.1⟩ (tX5_readSign l E ad F zr zs zg h7 H.size) (cwV 0 C0.2.2.2.2.2.1 gX5_readSigns_X5_readSign rfl rfl rfl (by decide +kernel) ⟨Nat.le_of_ble_eq_true rfl, Nat.le_of_ble_eq_true rfl⟩) ⟨PG_blind, va_recv hA.2.2.1.1 hw.1 (ci := 5) (q0 := 0) rfl rfl, pg_self hA hw⟩ rfl rfl hl.1 rfl (lv_room (Nat.le_of_ble_eq_true rfl)) dX5_readSigns_94 ⟨Nat.zero_le _, Nat.zero_le _⟩) hA hw (fun H locs hw => ?_)
    refine lv_if_ne (tgt := 102) hx hb dX5_readSigns_97 (by decide) (fun c8 => ?_) (fun c8 => ?_)
    · have hm := Eq.trans (if_neg c8).symm hm
      obtain ⟨v9, ev9⟩ : ∃ y : Int32, y = a1 + 1 := ⟨_, rfl⟩
      have hm := nm_at hm ev9
      refine lv_iinc (v := v9) (lv' := [(1, .int v9), (0, .ref (ad 0))]) hx hb dX5_readSigns_102 hl (k := 1) rfl (by rw [ev9]; rfl) (by decide) rfl (fun ls hl => ?_)
      refine lv_goto (tgt := 2) hx hb dX5_readSigns_105 (by decide) ?_
      exact hK2 zr5 zg6 v9 _ _ _ hm hw (lv_sub hl [1, 0] rfl)
    · have hm := Eq.trans (if_pos c8).symm hm
      refine lv_iconst (v := 0) hx hb dX5_readSigns_100 (by decide) ?_
      obtain ⟨rfl, rfl, rfl⟩ := sj3 hm
      exact r_zret C0 hw dX5_readSigns_101 rfl ⟨rfl, rfl⟩
  · have hm := Eq.trans (if_pos c3).symm hm
    refine lv_aload_n hx hb dX5_readSigns_84 rfl (lv_at hl 0 rfl) ?_
    refine lv_aload_n hx hb dX5_readSigns_85 rfl (lv_at hl 0 rfl) ?_
    refine gR_0_2 C0 hA hw hiX5_readSigns_X5 lkX5_readSigns_9 dX5_readSigns_86 ?_
    obtain ⟨r10, zr11, h12, hm⟩ := b2_some hm
    refine r_backS (va_runV (As := [.int (zr.1 2)]) (rest := []) ⟨hx, hb, C0.2.2.2.1, C0.2.2.2.2.1, C0.2.2.2.2.2.1⟩ (tX5_failAt l E ad zr zs zg (zr.1 2) h12 H.size) (cwV 1 C0.2.2.2.2.2.1 gX5_readSigns_X5_failAt rfl rfl rfl (by decide +kernel) ⟨Nat.le_of_ble_eq_true rfl, Nat.le_of_ble_eq_true rfl⟩) ⟨PG_blind, va_recv hA.2.2.1.1 hw.1 (ci := 5) (q0 := 0) rfl rfl, pg_self hA hw⟩ rfl rfl hl.1 rfl (lv_room (Nat.le_of_ble_eq_true rfl)) dX5_readSigns_89 ⟨Nat.zero_le _, Nat.zero_le _⟩) hA hw (fun H locs hw => ?_)
    obtain ⟨c13, hm⟩ := bz_some hm
    obtain ⟨rfl, rfl, rfl⟩ := sj3 hm
    exact r_zret C0 hw dX5_readSigns_92 c13 ⟨rfl, rfl⟩
set_option maxRecDepth 20000 in
theorem kX5_readSigns_b2 {p : Program} {l : Launch} {e : Env} {s : State} {m : MethodId} {args : Array Value} {below : List Frame} {meth : Method} {c : Code} {A : Nat → Prop} {E : EV} {ad : Nat → Nat} (F : Nat) {zs : OS} {r : Int32} {zr' : OS} {zg' : OS} (C0 : Cx RX5 "readSigns" cX5_readSigns (some .boolean) 2 wsX5_readSigns p s m args meth c) (hA : Ax E A s) : ∀ (n : Nat) (zr : OS) (zg : OS) (a1 : Int32) (H : Heap) (locs : List Loc) (ls : Array Slot), mX5_readSigns_b2 F n zr zs zg a1 = some (r, zr', zg') → Wd E A s H locs (wR E ad zr zs zg) → lv_has ls 2 [(0, .ref (ad 0)), (1, .int a1)] → W p l e ({ frames := 3, cells := 0, slots := 0, locals := 70 } : Room) s m args below meth c H locs 0 0 (MQ below (QG E (Qd (some (.int r)) (wR E ad zr' zs zg')) A) args s 0 0 A) (F0 m 2 ls []) := by
  have hx := C0.1
  have hb := C0.2.1
  intro n
  induction n with
  | zero =>
    intro zr zg a1 H locs ls hm
    cases hm
  | succ n ih =>
    intro zr zg a1 H locs ls hm hw hl
    unfold mX5_readSigns_b2 at hm
    refine lv_iload_n hx hb dX5_readSigns_2 rfl (lv_at hl 1 rfl) ?_
    refine lv_bipush (v := 12) hx hb dX5_readSigns_3 (by decide) ?_
    refine lv_icmp_gt (tgt := 108) hx hb dX5_readSigns_5 (by decide) (fun c1 => ?_) (fun c1 => ?_)
    · have hm := Eq.trans (if_pos c1).symm hm
      refine lv_aload_n hx hb dX5_readSigns_108 rfl (lv_at hl 0 rfl) ?_
      refine lv_aload_n hx hb dX5_readSigns_109 rfl (lv_at hl 0 rfl) ?_
      refine gR_0_2 C0 hA hw hiX5_readSigns_X5 lkX5_readSigns_9 dX5_readSigns_110 ?_
      obtain ⟨r2, zr3, h4, hm⟩ := b2_some hm
      refine r_backS (va_runV (As := [.int (zr.1 2)]) (rest := []) ⟨hx, hb, C0.2.2.2.1, C0.2.2.2.2.1, C0.2.2.2.2.2.1⟩ (tX5_failAt l E ad zr zs zg (zr.1 2) h4 H.size) (cwV 1 C0.2.2.2.2.2.1 gX5_readSigns_X5_failAt rfl rfl rfl (by decide +kernel) ⟨Nat.le_of_ble_eq_true rfl, Nat.le_of_ble_eq_true rfl⟩) ⟨PG_blind, va_recv hA.2.2.1.1 hw.1 (ci := 5) (q0 := 0) rfl rfl, pg_self hA hw⟩ rfl rfl hl.1 rfl (lv_room (Nat.le_of_ble_eq_true rfl)) dX5_readSigns_113 ⟨Nat.zero_le _, Nat.zero_le _⟩) hA hw (fun H locs hw => ?_)
      obtain ⟨c5, hm⟩ := bz_some hm
      obtain ⟨rfl, rfl, rfl⟩ := sj3 hm
      exact r_zret C0 hw dX5_readSigns_116 c5 ⟨rfl, rfl⟩
    · have hm := Eq.trans (if_neg c1).symm hm
      refine lv_aload_n hx hb dX5_readSigns_8 rfl (lv_at hl 0 rfl) ?_
      refine lv_aload_n hx hb dX5_readSigns_9 rfl (lv_at hl 0 rfl) ?_
      refine gR_0_0 C0 hA hw hiX5_readSigns_X5 lkX5_readSigns_18 dX5_readSigns_10 ?_
      refine lv_aload_n hx hb dX5_readSigns_13 rfl (lv_at hl 0 rfl) ?_
      refine gR_0_2 C0 hA hw hiX5_readSigns_X5 lkX5_readSigns_9 dX5_readSigns_14 ?_
      obtain ⟨r6, h7, hm⟩ := b1_some hm
      refine r_backP (va_runV (As := [.int (zr.1 2)]) (rest := [.ref (ad 0)]) ⟨hx, hb, C0.2.2.2.1, C0.2.2.2.2.1, C0.2.2.2.2.2.1⟩ (tX6_skipBlanks l E (fun k => ad (k + 1)) F zs (zr.1 2) h7 H.size) (cwV 1 C0.2.2.2.2.2.1 gX5_readSigns_X6_skipBlanks rfl rfl rfl (by decide +kernel) ⟨Nat.le_of_ble_eq_true rfl, Nat.le_of_ble_eq_true rfl⟩) ⟨PG_blind, va_recv hA.2.2.1.1 hw.1 (ci := 6) (q0 := 1) rfl rfl, pg_at hA hw [1, 2] rfl (wcR_zs E ad zr zs zg)⟩ rfl rfl hl.1 rfl (lv_room (Nat.le_of_ble_eq_true rfl)) dX5_readSigns_17 ⟨Nat.zero_le _, Nat.zero_le _⟩) hA hw [1, 2] [0, 3, 4, 5, 6, 7, 8, 9, 10, 11, 12, 13, 14] (wcR_zs E ad zr zs zg) (wqR_zs E ad zr zs zg) rfl (by decide) (fun H locs hw => ?_)
      have hw := wjR_zs zs hw
      refine pR_0_2 C0 hA hw hiX5_readSigns_X5 lkX5_readSigns_9 dX5_readSigns_20 (fun zr8 ezr8 H locs hw => ?_)
      have hm := nm_at hm ezr8
      refine lv_aload_n hx hb dX5_readSigns_23 rfl (lv_at hl 0 rfl) ?_
      obtain ⟨r9, h10, hm⟩ := b1_some hm
      refine r_backS (va_runV (As := []) (rest := []) ⟨hx, hb, C0.2.2.2.1, C0.2.2.2.2.1, C0.2.2.2.2.2.1⟩ (tX5_here l E ad zr8 zs zg h10 H.size) (cwV 0 C0.2.2.2.2.2.1 gX5_readSigns_X5_here rfl rfl rfl (by decide +kernel) ⟨Nat.le_of_ble_eq_true rfl, Nat.le_of_ble_eq_true rfl⟩) ⟨PG_blind, va_recv hA.2.2.1.1 hw.1 (ci := 5) (q0 := 0) rfl rfl, pg_self hA hw⟩ rfl rfl hl.1 rfl (lv_room (Nat.le_of_ble_eq_true rfl)) dX5_readSigns_24 ⟨Nat.zero_le _, Nat.zero_le _⟩) hA hw (fun H locs hw => ?_)
      refine lv_iconst (v := (-1)) hx hb dX5_readSigns_27 (by decide) ?_
      refine lv_icmp_eq (tgt := 40) hx hb dX5_readSigns_28 (by decide) (fun c11 => ?_) (fun c11 => ?_)
      · have hm := Eq.trans (if_pos c11).symm hm
        exact kX5_readSigns_b40 F C0 hA zr8 zg a1 _ _ _ hm hw (lv_sub hl [0, 1] rfl)
      · have hm := Eq.trans (if_neg c11).symm hm
        refine lv_aload_n hx hb dX5_readSigns_31 rfl (lv_at hl 0 rfl) ?_
        obtain ⟨r12, h13, hm⟩ := b1_some hm
        refine r_backS (va_runV (As := []) (rest := []) ⟨hx, hb, C0.2.2.2.1, C0.2.2.2.2.1, C0.2.2.2.2.2.1⟩ (tX5_here l E ad zr8 zs zg h13 H.size) (cwV 0 C0.2.2.2.2.2.1 gX5_readSigns_X5_here rfl rfl rfl (by decide +kernel) ⟨Nat.le_of_ble_eq_true rfl, Nat.le_of_ble_eq_true rfl⟩) ⟨PG_blind, va_recv hA.2.2.1.1 hw.1 (ci := 5) (q0 := 0) rfl rfl, pg_self hA hw⟩ rfl rfl hl.1 rfl (lv_room (Nat.le_of_ble_eq_true rfl)) dX5_readSigns_32 ⟨Nat.zero_le _, Nat.zero_le _⟩) hA hw (fun H locs hw => ?_)
        refine lv_bipush (v := 124) hx hb dX5_readSigns_35 (by decide) ?_
        refine lv_icmp_ne (tgt := 61) hx hb dX5_readSigns_37 (by decide) (fun c14 => ?_) (fun c14 => ?_)
        · have hm := Eq.trans (if_neg c14).symm hm
          refine lv_iload_n hx hb dX5_readSigns_61 rfl (lv_at hl 1 rfl) ?_
          refine lv_if_le (tgt := 74) hx hb dX5_readSigns_62 (by decide) (fun c15 => ?_) (fun c15 => ?_)
          · have hm := Eq.trans (if_pos c15).symm hm
            exact kX5_readSigns_b74 F C0 hA _ ih zr8 zg a1 _ _ _ hm hw (lv_sub hl [0, 1] rfl)
          · have hm := Eq.trans (if_neg c15).symm hm
            refine lv_aload_n hx hb dX5_readSigns_65 rfl (lv_at hl 0 rfl) ?_
            obtain ⟨r16, h17, hm⟩ := b1_some hm
            refine r_backS (va_runV (As := []) (rest := []) ⟨hx, hb, C0.2.2.2.1, C0.2.2.2.2.1, C0.2.2.2.2.2.1⟩ (tX5_isLetterOfRule l E ad F zr8 zs zg h17 H.size) (cwV 0 C0.2.2.2.2.2.1 gX5_readSigns_X5_isLetterOfRule rfl rfl rfl (by decide +kernel) ⟨Nat.le_of_ble_eq_true rfl, Nat.le_of_ble_eq_true rfl⟩) ⟨PG_blind, va_recv hA.2.2.1.1 hw.1 (ci := 5) (q0 := 0) rfl rfl, pg_self hA hw⟩ rfl rfl hl.1 rfl (lv_room (Nat.le_of_ble_eq_true rfl)) dX5_readSigns_66 ⟨Nat.zero_le _, Nat.zero_le _⟩) hA hw (fun H locs hw => ?_)
            refine lv_if_eq (tgt := 74) hx hb dX5_readSigns_69 (by decide) (fun c18 => ?_) (fun c18 => ?_)
            · have hm := Eq.trans (if_pos c18).symm hm
              exact kX5_readSigns_b74 F C0 hA _ ih zr8 zg a1 _ _ _ hm hw (lv_sub hl [0, 1] rfl)
            · have hm := Eq.trans (if_neg c18).symm hm
              refine lv_iconst (v := 1) hx hb dX5_readSigns_72 (by decide) ?_
              obtain ⟨rfl, rfl, rfl⟩ := sj3 hm
              exact r_zret C0 hw dX5_readSigns_73 rfl ⟨rfl, rfl⟩
        · have hm := Eq.trans (if_pos c14).symm hm
          exact kX5_readSigns_b40 F C0 hA zr8 zg a1 _ _ _ hm hw (lv_sub hl [0, 1] rfl)
set_option maxRecDepth 20000 in
theorem kX5_readSigns_b0 {p : Program} {l : Launch} {e : Env} {s : State} {m : MethodId} {args : Array Value} {below : List Frame} {meth : Method} {c : Code} {A : Nat → Prop} {E : EV} {ad : Nat → Nat} (F : Nat) {zs : OS} {r : Int32} {zr' : OS} {zg' : OS} (C0 : Cx RX5 "readSigns" cX5_readSigns (some .boolean) 2 wsX5_readSigns p s m args meth c) (hA : Ax E A s) : ∀ (zr : OS) (zg : OS) (H : Heap) (locs : List Loc) (ls : Array Slot), mX5_readSigns_b0 F zr zs zg = some (r, zr', zg') → Wd E A s H locs (wR E ad zr zs zg) → lv_has ls 2 [(0, .ref (ad 0))] → W p l e ({ frames := 3, cells := 0, slots := 0, locals := 70 } : Room) s m args below meth c H locs 0 0 (MQ below (QG E (Qd (some (.int r)) (wR E ad zr' zs zg')) A) args s 0 0 A) (F0 m 0 ls []) := by
  have hx := C0.1
  have hb := C0.2.1
  intro zr zg H locs ls hm hw hl
  unfold mX5_readSigns_b0 at hm
  refine lv_iconst (v := 0) hx hb dX5_readSigns_0 (by decide) ?_
  refine lv_topi (fun v1 ev1 => ?_)
  have hm := nm_at hm ev1
  refine lv_istore_n (lv' := [(1, .int v1), (0, .ref (ad 0))]) hx hb dX5_readSigns_1 rfl hl (by decide) rfl (fun ls hl => ?_)
  exact kX5_readSigns_b2 F C0 hA F zr zg v1 _ _ _ hm hw (lv_sub hl [1, 0] rfl)
theorem tX5_readSigns (l : Launch) (E : EV) (ad : Nat → Nat) (F : Nat) (zr : OS) (zs : OS) (zg : OS)  {r : Int32} {zr' : OS} {zg' : OS} (hm : mX5_readSigns F zr zs zg = some (r, zr', zg')) : CT l yX5_readSigns wsX5_readSigns ({ frames := 3, cells := 0, slots := 0, locals := 70 } : Room) E [.ref (ad 0)] (wR E ad zr zs zg) (Qd (some (.int r)) (wR E ad zr' zs zg')) 0 0 :=
  CT.of (mL := 2) (lvs := [(0, .ref (ad 0))]) (by decide +kernel) rfl (Nat.le_of_ble_eq_true rfl) rfl rfl rfl (fun p e s m below meth c A C0 hA hw ls hl => kX5_readSigns_b0 (ad := ad) F C0 hA zr zg _ _ _ hm hw (lv_sub hl [0] rfl))
theorem lkX5_readAlternatives_9 : Cond.fieldLink RX5 9 (TX5 2).1 (TX5 2).2.1 (TX5 2).2.2.1 ∈ wsX5_readAlternatives := by decide +kernel
theorem lkX5_readAlternatives_18 : Cond.fieldLink RX5 18 (TX5 0).1 (TX5 0).2.1 (TX5 0).2.2.1 ∈ wsX5_readAlternatives := by decide +kernel
theorem hiX5_readAlternatives_X5 : ∀ w ∈ u_ws RX5 TX5 4, w ∈ wsX5_readAlternatives := by decide +kernel
def mX5_readAlternatives_b2 (F : Nat)  : Nat → OS → OS → OS → Int32 → Option (Int32 × OS × OS)
  | 0, _, _, _, _ => none
  | n + 1, zr, zs, zg, a1 => (if 48 < (a1 : Int32) then b2 (mX5_failAt zr zs zg (zr.1 2)) (fun r2 zr3 => bz r2 (some (r2, zr3, zg))) else b1 (mX6_skipBlanks F zs ((zr.1 2) + 1)) (fun r6 => nm (sI zr 2 r6) (fun zr8 => b3 (mX5_readWeight F zr8 zs zg) (fun r9 zr10 zg11 => (if (r9 : Int32) = 0 then some (0, zr10, zg11) else b3 (mX5_readSigns F zr10 zs zg11) (fun r14 zr15 zg16 => (if (r14 : Int32) = 0 then some (0, zr15, zg16) else b1 (mX5_here zr15 zs zg16) (fun r19 => (if (r19 : Int32) = 124 then nm (a1 + 1 : Int32) (fun v22 => mX5_readAlternatives_b2 F n zr15 zs zg16 v22) else some (1, zr15, zg16))))))))))
def mX5_readAlternatives_b0 (F : Nat)  (zr : OS) (zs : OS) (zg : OS) : Option (Int32 × OS × OS) := nm (0 : Int32) (fun v1 => mX5_readAlternatives_b2 F F zr zs zg v1)
def mX5_readAlternatives (F : Nat) (zr : OS) (zs : OS) (zg : OS)  : Option (Int32 × OS × OS) := mX5_readAlternatives_b0 F zr zs zg
set_option maxRecDepth 20000 in
theorem kX5_readAlternatives_b2 {p : Program} {l : Launch} {e : Env} {s : State} {m : MethodId} {args : Array Value} {below : List Frame} {meth : Method} {c : Code} {A : Nat → Prop} {E : EV} {ad : Nat → Nat} (F : Nat) {zs : OS} {r : Int32} {zr' : OS} {zg' : OS} (C0 : Cx RX5 "readAlternatives" cX5_readAlternatives (some .boolean) 2 wsX5_readAlternatives p s m args meth c) (hA : Ax E A s) : ∀ (n : Nat) (zr : OS) (zg : OS) (a1 : Int32) (H : Heap) (locs : List Loc) (ls : Array Slot), mX5_readAlternatives_b2 F n zr zs zg a1 = some (r, zr', zg') → Wd E A s H locs (wR E ad zr zs zg) → lv_has ls 2 [(0, .ref (ad 0)), (1, .int a1)] → W p l e ({ frames := 4, cells := 0, slots := 0, locals := 91 } : Room) s m args below meth c H locs 0 0 (MQ below (QG E (Qd (some (.int r)) (wR E ad zr' zs zg')) A) args s 0 0 A) (F0 m 2 ls []) := by
  have hx := C0.1
  have hb := C0.2.1
  intro n
  induction n with
  | zero =>
    intro zr zg a1 H locs ls hm
    cases hm
  | succ n ih =>
    intro zr zg a1 H locs ls hm hw hl
    unfold mX5_readAlternatives_b2 at hm
    refine lv_iload_n hx hb dX5_readAlternatives_2 rfl (lv_at hl 1 rfl) ?_
    refine lv_bipush (v := 48) hx hb dX5_readAlternatives_3 (by decide) ?_
    refine lv_icmp_gt (tgt := 58) hx hb dX5_readAlternatives_5 (by decide) (fun c1 => ?_) (fun c1 => ?_)
    · have hm := Eq.trans (if_pos c1).symm hm
      refine lv_aload_n hx hb dX5_readAlternatives_58 rfl (lv_at hl 0 rfl) ?_
      refine lv_aload_n hx hb dX5_readAlternatives_59 rfl (lv_at hl 0 rfl) ?_
      refine gR_0_2 C0 hA hw hiX5_readAlternatives_X5 lkX5_readAlternatives_9 dX5_readAlternatives_60 ?_
      obtain ⟨r2, zr3, h4, hm⟩ := b2_some hm
      refine r_backS (va_runV (As := [.int (zr.1 2)]) (rest := []) ⟨hx, hb, C0.2.2.2.1, C0.2.2.2.2.1, C0.2.2.2.2.2.1⟩ (tX5_failAt l E ad zr zs zg (zr.1 2) h4 H.size) (cwV 1 C0.2.2.2.2.2.1 gX5_readAlternatives_X5_failAt rfl rfl rfl (by decide +kernel) ⟨Nat.le_of_ble_eq_true rfl, Nat.le_of_ble_eq_true rfl⟩) ⟨PG_blind, va_recv hA.2.2.1.1 hw.1 (ci := 5) (q0 := 0) rfl rfl, pg_self hA hw⟩ rfl rfl hl.1 rfl (lv_room (Nat.le_of_ble_eq_true rfl)) dX5_readAlternatives_63 ⟨Nat.zero_le _, Nat.zero_le _⟩) hA hw (fun H locs hw => ?_)
      obtain ⟨c5, hm⟩ := bz_some hm
      obtain ⟨rfl, rfl, rfl⟩ := sj3 hm
      exact r_zret C0 hw dX5_readAlternatives_66 c5 ⟨rfl, rfl⟩
    · have hm := Eq.trans (if_neg c1).symm hm
      refine lv_aload_n hx hb dX5_readAlternatives_8 rfl (lv_at hl 0 rfl) ?_
      refine lv_aload_n hx hb dX5_readAlternatives_9 rfl (lv_at hl 0 rfl) ?_
      refine gR_0_0 C0 hA hw hiX5_readAlternatives_X5 lkX5_readAlternatives_18 dX5_readAlternatives_10 ?_
      refine lv_aload_n hx hb dX5_readAlternatives_13 rfl (lv_at hl 0 rfl) ?_
      refine gR_0_2 C0 hA hw hiX5_readAlternatives_X5 lkX5_readAlternatives_9 dX5_readAlternatives_14 ?_
      refine lv_iconst (v := 1) hx hb dX5_readAlternatives_17 (by decide) ?_
      refine lv_iadd hx hb dX5_readAlternatives_18 ?_
      obtain ⟨r6, h7, hm⟩ := b1_some hm
      refine r_backP (va_runV (As := [.int ((zr.1 2) + 1)]) (rest := [.ref (ad 0)]) ⟨hx, hb, C0.2.2.2.1, C0.2.2.2.2.1, C0.2.2.2.2.2.1⟩ (tX6_skipBlanks l E (fun k => ad (k + 1)) F zs ((zr.1 2) + 1) h7 H.size) (cwV 1 C0.2.2.2.2.2.1 gX5_readAlternatives_X6_skipBlanks rfl rfl rfl (by decide +kernel) ⟨Nat.le_of_ble_eq_true rfl, Nat.le_of_ble_eq_true rfl⟩) ⟨PG_blind, va_recv hA.2.2.1.1 hw.1 (ci := 6) (q0 := 1) rfl rfl, pg_at hA hw [1, 2] rfl (wcR_zs E ad zr zs zg)⟩ rfl rfl hl.1 rfl (lv_room (Nat.le_of_ble_eq_true rfl)) dX5_readAlternatives_19 ⟨Nat.zero_le _, Nat.zero_le _⟩) hA hw [1, 2] [0, 3, 4, 5, 6, 7, 8, 9, 10, 11, 12, 13, 14] (wcR_zs E ad zr zs zg) (wqR_zs E ad zr zs zg) rfl (by decide) (fun H locs hw => ?_)
      have hw := wjR_zs zs hw
      refine pR_0_2 C0 hA hw hiX5_readAlternatives_X5 lkX5_readAlternatives_9 dX5_readAlternatives_22 (fun zr8 ezr8 H locs hw => ?_)
      have hm := nm_at hm ezr8
      refine lv_aload_n hx hb dX5_readAlternatives_25 rfl (lv_at hl 0 rfl) ?_
      obtain ⟨r9, zr10, zg11, h12, hm⟩ := b3_some hm
      refine r_backS (va_runV (As := []) (rest := []) ⟨hx, hb, C0.2.2.2.1, C0.2.2.2.2.1, C0.2.2.2.2.2.1⟩ (tX5_readWeight l E ad F zr8 zs zg h12 H.size) (cwV 0 C0.2.2.2.2.2.1 gX5_readAlternatives_X5_readWeight rfl rfl rfl (by decide +kernel) ⟨Nat.le_of_ble_eq_true rfl, Nat.le_of_ble_eq_true rfl⟩) ⟨PG_blind, va_recv hA.2.2.1.1 hw.1 (ci := 5) (q0 := 0) rfl rfl, pg_self hA hw⟩ rfl rfl hl.1 rfl (lv_room (Nat.le_of_ble_eq_true rfl)) dX5_readAlternatives_26 ⟨Nat.zero_le _, Nat.zero_le _⟩) hA hw (fun H locs hw => ?_)
      refine lv_if_eq (tgt := 39) hx hb dX5_readAlternatives_29 (by decide) (fun c13 => ?_) (fun c13 => ?_)
      · have hm := Eq.trans (if_pos c13).symm hm
        refine lv_iconst (v := 0) hx hb dX5_readAlternatives_39 (by decide) ?_
        obtain ⟨rfl, rfl, rfl⟩ := sj3 hm
        exact r_zret C0 hw dX5_readAlternatives_40 rfl ⟨rfl, rfl⟩
      · have hm := Eq.trans (if_neg c13).symm hm
        refine lv_aload_n hx hb dX5_readAlternatives_32 rfl (lv_at hl 0 rfl) ?_
        obtain ⟨r14, zr15, zg16, h17, hm⟩ := b3_some hm
        refine r_backS (va_runV (As := []) (rest := []) ⟨hx, hb, C0.2.2.2.1, C0.2.2.2.2.1, C0.2.2.2.2.2.1⟩ (tX5_readSigns l E ad F zr10 zs zg11 h17 H.size) (cwV 0 C0.2.2.2.2.2.1 gX5_readAlternatives_X5_readSigns rfl rfl rfl (by decide +kernel) ⟨Nat.le_of_ble_eq_true rfl, Nat.le_of_ble_eq_true rfl⟩) ⟨PG_blind, va_recv hA.2.2.1.1 hw.1 (ci := 5) (q0 := 0) rfl rfl, pg_self hA hw⟩ rfl rfl hl.1 rfl (lv_room (Nat.le_of_ble_eq_true rfl)) dX5_readAlternatives_33 ⟨Nat.zero_le _, Nat.zero_le _⟩) hA hw (fun H locs hw => ?_)
        refine lv_if_ne (tgt := 41) hx hb dX5_readAlternatives_36 (by decide) (fun c18 => ?_) (fun c18 => ?_)
        · have hm := Eq.trans (if_neg c18).symm hm
          refine lv_aload_n hx hb dX5_readAlternatives_41 rfl (lv_at hl 0 rfl) ?_
          obtain ⟨r19, h20, hm⟩ := b1_some hm
          refine r_backS (va_runV (As := []) (rest := []) ⟨hx, hb, C0.2.2.2.1, C0.2.2.2.2.1, C0.2.2.2.2.2.1⟩ (tX5_here l E ad zr15 zs zg16 h20 H.size) (cwV 0 C0.2.2.2.2.2.1 gX5_readAlternatives_X5_here rfl rfl rfl (by decide +kernel) ⟨Nat.le_of_ble_eq_true rfl, Nat.le_of_ble_eq_true rfl⟩) ⟨PG_blind, va_recv hA.2.2.1.1 hw.1 (ci := 5) (q0 := 0) rfl rfl, pg_self hA hw⟩ rfl rfl hl.1 rfl (lv_room (Nat.le_of_ble_eq_true rfl)) dX5_readAlternatives_42 ⟨Nat.zero_le _, Nat.zero_le _⟩) hA hw (fun H locs hw => ?_)
          refine lv_bipush (v := 124) hx hb dX5_readAlternatives_45 (by decide) ?_
          refine lv_icmp_eq (tgt := 52) hx hb dX5_readAlternatives_47 (by decide) (fun c21 => ?_) (fun c21 => ?_)
          · have hm := Eq.trans (if_pos c21).symm hm
            obtain ⟨v22, ev22⟩ : ∃ y : Int32, y = a1 + 1 := ⟨_, rfl⟩
            have hm := nm_at hm ev22
            refine lv_iinc (v := v22) (lv' := [(1, .int v22), (0, .ref (ad 0))]) hx hb dX5_readAlternatives_52 hl (k := 1) rfl (by rw [ev22]; rfl) (by decide) rfl (fun ls hl => ?_)
            refine lv_goto (tgt := 2) hx hb dX5_readAlternatives_55 (by decide) ?_
            exact ih zr15 zg16 v22 _ _ _ hm hw (lv_sub hl [1, 0] rfl)
          · have hm := Eq.trans (if_neg c21).symm hm
            refine lv_iconst (v := 1) hx hb dX5_readAlternatives_50 (by decide) ?_
            obtain ⟨rfl, rfl, rfl⟩ := sj3 hm
            exact r_zret C0 hw dX5_readAlternatives_51 rfl ⟨rfl, rfl⟩
        · have hm := Eq.trans (if_pos c18).symm hm
          refine lv_iconst (v := 0) hx hb dX5_readAlternatives_39 (by decide) ?_
          obtain ⟨rfl, rfl, rfl⟩ := sj3 hm
          exact r_zret C0 hw dX5_readAlternatives_40 rfl ⟨rfl, rfl⟩
set_option maxRecDepth 20000 in
theorem kX5_readAlternatives_b0 {p : Program} {l : Launch} {e : Env} {s : State} {m : MethodId} {args : Array Value} {below : List Frame} {meth : Method} {c : Code} {A : Nat → Prop} {E : EV} {ad : Nat → Nat} (F : Nat) {zs : OS} {r : Int32} {zr' : OS} {zg' : OS} (C0 : Cx RX5 "readAlternatives" cX5_readAlternatives (some .boolean) 2 wsX5_readAlternatives p s m args meth c) (hA : Ax E A s) : ∀ (zr : OS) (zg : OS) (H : Heap) (locs : List Loc) (ls : Array Slot), mX5_readAlternatives_b0 F zr zs zg = some (r, zr', zg') → Wd E A s H locs (wR E ad zr zs zg) → lv_has ls 2 [(0, .ref (ad 0))] → W p l e ({ frames := 4, cells := 0, slots := 0, locals := 91 } : Room) s m args below meth c H locs 0 0 (MQ below (QG E (Qd (some (.int r)) (wR E ad zr' zs zg')) A) args s 0 0 A) (F0 m 0 ls []) := by
  have hx := C0.1
  have hb := C0.2.1
  intro zr zg H locs ls hm hw hl
  unfold mX5_readAlternatives_b0 at hm
  refine lv_iconst (v := 0) hx hb dX5_readAlternatives_0 (by decide) ?_
  refine lv_topi (fun v1 ev1 => ?_)
  have hm := nm_at hm ev1
  refine lv_istore_n (lv' := [(1, .int v1), (0, .ref (ad 0))]) hx hb dX5_readAlternatives_1 rfl hl (by decide) rfl (fun ls hl => ?_)
  exact kX5_readAlternatives_b2 F C0 hA F zr zg v1 _ _ _ hm hw (lv_sub hl [1, 0] rfl)
theorem tX5_readAlternatives (l : Launch) (E : EV) (ad : Nat → Nat) (F : Nat) (zr : OS) (zs : OS) (zg : OS)  {r : Int32} {zr' : OS} {zg' : OS} (hm : mX5_readAlternatives F zr zs zg = some (r, zr', zg')) : CT l yX5_readAlternatives wsX5_readAlternatives ({ frames := 4, cells := 0, slots := 0, locals := 91 } : Room) E [.ref (ad 0)] (wR E ad zr zs zg) (Qd (some (.int r)) (wR E ad zr' zs zg')) 0 0 :=
  CT.of (mL := 2) (lvs := [(0, .ref (ad 0))]) (by decide +kernel) rfl (Nat.le_of_ble_eq_true rfl) rfl rfl rfl (fun p e s m below meth c A C0 hA hw ls hl => kX5_readAlternatives_b0 (ad := ad) F C0 hA zr zg _ _ _ hm hw (lv_sub hl [0] rfl))
theorem lkX5_readAll_15 : Cond.fieldLink RX5 15 (TX5 3).1 (TX5 3).2.1 (TX5 3).2.2.1 ∈ wsX5_readAll := by decide +kernel
theorem lkX5_readAll_9 : Cond.fieldLink RX5 9 (TX5 2).1 (TX5 2).2.1 (TX5 2).2.2.1 ∈ wsX5_readAll := by decide +kernel
theorem lkX5_readAll_22 : Cond.fieldLink RX5 22 (TX5 1).1 (TX5 1).2.1 (TX5 1).2.2.1 ∈ wsX5_readAll := by decide +kernel
theorem lkX5_readAll_18 : Cond.fieldLink RX5 18 (TX5 0).1 (TX5 0).2.1 (TX5 0).2.2.1 ∈ wsX5_readAll := by decide +kernel
theorem hiX5_readAll_X5 : ∀ w ∈ u_ws RX5 TX5 4, w ∈ wsX5_readAll := by decide +kernel
def mX5_readAll_b47 (F : Nat) (K21 : OS → OS → OS → Int32 → Option (Int32 × OS × OS)) (zr : OS) (zs : OS) (zg : OS) (a1 : Int32) : Option (Int32 × OS × OS) := b3 (mX5_readHead F zr zs zg) (fun r1 zr2 zg3 => (if (r1 : Int32) = 0 then some (zr2.1 3, zr2, zg3) else b3 (mX5_readAlternatives F zr2 zs zg3) (fun r6 zr7 zg8 => (if (r6 : Int32) = 0 then some (zr7.1 3, zr7, zg8) else nm (a1 + 1 : Int32) (fun v11 => K21 zr7 zs zg8 v11)))))
def mX5_readAll_b21 (F : Nat)  : Nat → OS → OS → OS → Int32 → Option (Int32 × OS × OS)
  | 0, _, _, _, _ => none
  | n + 1, zr, zs, zg, a1 => (if 16 < (a1 : Int32) then some (zr.1 2, zr, zg) else (if (a1 : Int32) ≤ 0 then mX5_readAll_b47 F (mX5_readAll_b21 F n) zr zs zg a1 else b1 (mX5_here zr zs zg) (fun r3 => (if (r3 : Int32) = (-1) then b1 (mX2_firstUseWithoutRule F zg) (fun r6 => some (r6, zr, zg)) else mX5_readAll_b47 F (mX5_readAll_b21 F n) zr zs zg a1))))
def mX5_readAll_b0 (F : Nat)  (zr : OS) (zs : OS) (zg : OS) : Option (Int32 × OS × OS) := b1 (mX2_clear zg) (fun zg1 => b1 (mX6_skipBlanks F zs 0) (fun r3 => nm (sI zr 2 r3) (fun zr5 => nm (0 : Int32) (fun v6 => mX5_readAll_b21 F F zr5 zs zg1 v6))))
def mX5_readAll (F : Nat) (zr : OS) (zs : OS) (zg : OS)  : Option (Int32 × OS × OS) := mX5_readAll_b0 F zr zs zg
set_option maxRecDepth 20000 in
theorem kX5_readAll_b47 {p : Program} {l : Launch} {e : Env} {s : State} {m : MethodId} {args : Array Value} {below : List Frame} {meth : Method} {c : Code} {A : Nat → Prop} {E : EV} {ad : Nat → Nat} (F : Nat) {zs : OS} {r : Int32} {zr' : OS} {zg' : OS} (C0 : Cx RX5 "readAll" cX5_readAll (some .int) 2 wsX5_readAll p s m args meth c) (hA : Ax E A s) (K21 : OS → OS → OS → Int32 → Option (Int32 × OS × OS)) (hK21 : ∀ (zr : OS) (zg : OS) (a1 : Int32) (H : Heap) (locs : List Loc) (ls : Array Slot), K21 zr zs zg a1 = some (r, zr', zg') → Wd E A s H locs (wR E ad zr zs zg) → lv_has ls 2 [(0, .ref (ad 0)), (1, .int a1)] → W p l e ({ frames := 5, cells := 0, slots := 0, locals := 112 } : Room) s m args below meth c H locs 0 0 (MQ below (QG E (Qd (some (.int r)) (wR E ad zr' zs zg')) A) args s 0 0 A) (F0 m 21 ls [])) : ∀ (zr : OS) (zg : OS) (a1 : Int32) (H : Heap) (locs : List Loc) (ls : Array Slot), mX5_readAll_b47 F K21 zr zs zg a1 = some (r, zr', zg') → Wd E A s H locs (wR E ad zr zs zg) → lv_has ls 2 [(0, .ref (ad 0)), (1, .int a1)] → W p l e ({ frames := 5, cells := 0, slots := 0, locals := 112 } : Room) s m args below meth c H locs 0 0 (MQ below (QG E (Qd (some (.int r)) (wR E ad zr' zs zg')) A) args s 0 0 A) (F0 m 47 ls []) := by
  have hx := C0.1
  have hb := C0.2.1
  intro zr zg a1 H locs ls hm hw hl
  unfold mX5_readAll_b47 at hm
  refine lv_aload_n hx hb dX5_readAll_47 rfl (lv_at hl 0 rfl) ?_
  obtain ⟨r1, zr2, zg3, h4, hm⟩ := b3_some hm
  refine r_backS (va_runV (As := []) (rest := []) ⟨hx, hb, C0.2.2.2.1, C0.2.2.2.2.1, C0.2.2.2.2.2.1⟩ (tX5_readHead l E ad F zr zs zg h4 H.size) (cwV 0 C0.2.2.2.2.2.1 gX5_readAll_X5_readHead rfl rfl rfl (by decide +kernel) ⟨Nat.le_of_ble_eq_true rfl, Nat.le_of_ble_eq_true rfl⟩) ⟨PG_blind, va_recv hA.2.2.1.1 hw.1 (ci := 5) (q0 := 0) rfl rfl, pg_self hA hw⟩ rfl rfl hl.1 rfl (lv_room (Nat.le_of_ble_eq_true rfl)) dX5_readAll_48 ⟨Nat.zero_le _, Nat.zero_le _⟩) hA hw (fun H locs hw => ?_)
  refine lv_if_eq (tgt := 61) hx hb dX5_readAll_51 (by decide) (fun c5 => ?_) (fun c5 => ?_)
  · have hm := Eq.trans (if_pos c5).symm hm
    refine lv_aload_n hx hb dX5_readAll_61 rfl (lv_at hl 0 rfl) ?_
    refine gR_0_3 C0 hA hw hiX5_readAll_X5 lkX5_readAll_15 dX5_readAll_62 ?_
    obtain ⟨rfl, rfl, rfl⟩ := sj3 hm
    exact r_iret C0 hw dX5_readAll_65 ⟨rfl, rfl⟩
  · have hm := Eq.trans (if_neg c5).symm hm
    refine lv_aload_n hx hb dX5_readAll_54 rfl (lv_at hl 0 rfl) ?_
    obtain ⟨r6, zr7, zg8, h9, hm⟩ := b3_some hm
    refine r_backS (va_runV (As := []) (rest := []) ⟨hx, hb, C0.2.2.2.1, C0.2.2.2.2.1, C0.2.2.2.2.2.1⟩ (tX5_readAlternatives l E ad F zr2 zs zg3 h9 H.size) (cwV 0 C0.2.2.2.2.2.1 gX5_readAll_X5_readAlternatives rfl rfl rfl (by decide +kernel) ⟨Nat.le_of_ble_eq_true rfl, Nat.le_of_ble_eq_true rfl⟩) ⟨PG_blind, va_recv hA.2.2.1.1 hw.1 (ci := 5) (q0 := 0) rfl rfl, pg_self hA hw⟩ rfl rfl hl.1 rfl (lv_room (Nat.le_of_ble_eq_true rfl)) dX5_readAll_55 ⟨Nat.zero_le _, Nat.zero_le _⟩) hA hw (fun H locs hw => ?_)
    refine lv_if_ne (tgt := 66) hx hb dX5_readAll_58 (by decide) (fun c10 => ?_) (fun c10 => ?_)
    · have hm := Eq.trans (if_neg c10).symm hm
      obtain ⟨v11, ev11⟩ : ∃ y : Int32, y = a1 + 1 := ⟨_, rfl⟩
      have hm := nm_at hm ev11
      refine lv_iinc (v := v11) (lv' := [(1, .int v11), (0, .ref (ad 0))]) hx hb dX5_readAll_66 hl (k := 1) rfl (by rw [ev11]; rfl) (by decide) rfl (fun ls hl => ?_)
      refine lv_goto (tgt := 21) hx hb dX5_readAll_69 (by decide) ?_
      exact hK21 zr7 zg8 v11 _ _ _ hm hw (lv_sub hl [1, 0] rfl)
    · have hm := Eq.trans (if_pos c10).symm hm
      refine lv_aload_n hx hb dX5_readAll_61 rfl (lv_at hl 0 rfl) ?_
      refine gR_0_3 C0 hA hw hiX5_readAll_X5 lkX5_readAll_15 dX5_readAll_62 ?_
      obtain ⟨rfl, rfl, rfl⟩ := sj3 hm
      exact r_iret C0 hw dX5_readAll_65 ⟨rfl, rfl⟩
set_option maxRecDepth 20000 in
theorem kX5_readAll_b21 {p : Program} {l : Launch} {e : Env} {s : State} {m : MethodId} {args : Array Value} {below : List Frame} {meth : Method} {c : Code} {A : Nat → Prop} {E : EV} {ad : Nat → Nat} (F : Nat) {zs : OS} {r : Int32} {zr' : OS} {zg' : OS} (C0 : Cx RX5 "readAll" cX5_readAll (some .int) 2 wsX5_readAll p s m args meth c) (hA : Ax E A s) : ∀ (n : Nat) (zr : OS) (zg : OS) (a1 : Int32) (H : Heap) (locs : List Loc) (ls : Array Slot), mX5_readAll_b21 F n zr zs zg a1 = some (r, zr', zg') → Wd E A s H locs (wR E ad zr zs zg) → lv_has ls 2 [(0, .ref (ad 0)), (1, .int a1)] → W p l e ({ frames := 5, cells := 0, slots := 0, locals := 112 } : Room) s m args below meth c H locs 0 0 (MQ below (QG E (Qd (some (.int r)) (wR E ad zr' zs zg')) A) args s 0 0 A) (F0 m 21 ls []) := by
  have hx := C0.1
  have hb := C0.2.1
  intro n
  induction n with
  | zero =>
    intro zr zg a1 H locs ls hm
    cases hm
  | succ n ih =>
    intro zr zg a1 H locs ls hm hw hl
    unfold mX5_readAll_b21 at hm
    refine lv_iload_n hx hb dX5_readAll_21 rfl (lv_at hl 1 rfl) ?_
    refine lv_bipush (v := 16) hx hb dX5_readAll_22 (by decide) ?_
    refine lv_icmp_gt (tgt := 72) hx hb dX5_readAll_24 (by decide) (fun c1 => ?_) (fun c1 => ?_)
    · have hm := Eq.trans (if_pos c1).symm hm
      refine lv_aload_n hx hb dX5_readAll_72 rfl (lv_at hl 0 rfl) ?_
      refine gR_0_2 C0 hA hw hiX5_readAll_X5 lkX5_readAll_9 dX5_readAll_73 ?_
      obtain ⟨rfl, rfl, rfl⟩ := sj3 hm
      exact r_iret C0 hw dX5_readAll_76 ⟨rfl, rfl⟩
    · have hm := Eq.trans (if_neg c1).symm hm
      refine lv_iload_n hx hb dX5_readAll_27 rfl (lv_at hl 1 rfl) ?_
      refine lv_if_le (tgt := 47) hx hb dX5_readAll_28 (by decide) (fun c2 => ?_) (fun c2 => ?_)
      · have hm := Eq.trans (if_pos c2).symm hm
        exact kX5_readAll_b47 F C0 hA _ ih zr zg a1 _ _ _ hm hw (lv_sub hl [0, 1] rfl)
      · have hm := Eq.trans (if_neg c2).symm hm
        refine lv_aload_n hx hb dX5_readAll_31 rfl (lv_at hl 0 rfl) ?_
        obtain ⟨r3, h4, hm⟩ := b1_some hm
        refine r_backS (va_runV (As := []) (rest := []) ⟨hx, hb, C0.2.2.2.1, C0.2.2.2.2.1, C0.2.2.2.2.2.1⟩ (tX5_here l E ad zr zs zg h4 H.size) (cwV 0 C0.2.2.2.2.2.1 gX5_readAll_X5_here rfl rfl rfl (by decide +kernel) ⟨Nat.le_of_ble_eq_true rfl, Nat.le_of_ble_eq_true rfl⟩) ⟨PG_blind, va_recv hA.2.2.1.1 hw.1 (ci := 5) (q0 := 0) rfl rfl, pg_self hA hw⟩ rfl rfl hl.1 rfl (lv_room (Nat.le_of_ble_eq_true rfl)) dX5_readAll_32 ⟨Nat.zero_le _, Nat.zero_le _⟩) hA hw (fun H locs hw => ?_)
        refine lv_iconst (v := (-1)) hx hb dX5_readAll_35 (by decide) ?_
        refine lv_icmp_ne (tgt := 47) hx hb dX5_readAll_36 (by decide) (fun c5 => ?_) (fun c5 => ?_)
        · have hm := Eq.trans (if_neg c5).symm hm
          exact kX5_readAll_b47 F C0 hA _ ih zr zg a1 _ _ _ hm hw (lv_sub hl [0, 1] rfl)
        · have hm := Eq.trans (if_pos c5).symm hm
          refine lv_aload_n hx hb dX5_readAll_39 rfl (lv_at hl 0 rfl) ?_
          refine gR_0_1 C0 hA hw hiX5_readAll_X5 lkX5_readAll_22 dX5_readAll_40 ?_
          obtain ⟨r6, h7, hm⟩ := b1_some hm
          refine r_backP (va_runV (As := []) (rest := []) ⟨hx, hb, C0.2.2.2.1, C0.2.2.2.2.1, C0.2.2.2.2.2.1⟩ (tX2_firstUseWithoutRule l E (fun k => ad (k + 3)) F zg h7 H.size) (cwV 0 C0.2.2.2.2.2.1 gX5_readAll_X2_firstUseWithoutRule rfl rfl rfl (by decide +kernel) ⟨Nat.le_of_ble_eq_true rfl, Nat.le_of_ble_eq_true rfl⟩) ⟨PG_blind, va_recv hA.2.2.1.1 hw.1 (ci := 2) (q0 := 3) rfl rfl, pg_at hA hw [3, 4, 5, 6, 7, 8, 9, 10, 11, 12, 13, 14] rfl (wcR_zg E ad zr zs zg)⟩ rfl rfl hl.1 rfl (lv_room (Nat.le_of_ble_eq_true rfl)) dX5_readAll_43 ⟨Nat.zero_le _, Nat.zero_le _⟩) hA hw [3, 4, 5, 6, 7, 8, 9, 10, 11, 12, 13, 14] [0, 1, 2] (wcR_zg E ad zr zs zg) (wqR_zg E ad zr zs zg) rfl (by decide) (fun H locs hw => ?_)
          have hw := wjR_zg zg hw
          obtain ⟨rfl, rfl, rfl⟩ := sj3 hm
          exact r_iret C0 hw dX5_readAll_46 ⟨rfl, rfl⟩
set_option maxRecDepth 20000 in
theorem kX5_readAll_b0 {p : Program} {l : Launch} {e : Env} {s : State} {m : MethodId} {args : Array Value} {below : List Frame} {meth : Method} {c : Code} {A : Nat → Prop} {E : EV} {ad : Nat → Nat} (F : Nat) {zs : OS} {r : Int32} {zr' : OS} {zg' : OS} (C0 : Cx RX5 "readAll" cX5_readAll (some .int) 2 wsX5_readAll p s m args meth c) (hA : Ax E A s) : ∀ (zr : OS) (zg : OS) (H : Heap) (locs : List Loc) (ls : Array Slot), mX5_readAll_b0 F zr zs zg = some (r, zr', zg') → Wd E A s H locs (wR E ad zr zs zg) → lv_has ls 2 [(0, .ref (ad 0))] → W p l e ({ frames := 5, cells := 0, slots := 0, locals := 112 } : Room) s m args below meth c H locs 0 0 (MQ below (QG E (Qd (some (.int r)) (wR E ad zr' zs zg')) A) args s 0 0 A) (F0 m 0 ls []) := by
  have hx := C0.1
  have hb := C0.2.1
  intro zr zg H locs ls hm hw hl
  unfold mX5_readAll_b0 at hm
  refine lv_aload_n hx hb dX5_readAll_0 rfl (lv_at hl 0 rfl) ?_
  refine gR_0_1 C0 hA hw hiX5_readAll_X5 lkX5_readAll_22 dX5_readAll_1 ?_
  obtain ⟨zg1, h2, hm⟩ := b1_some hm
  refine r_backP (va_runV (As := []) (rest := []) ⟨hx, hb, C0.2.2.2.1, C0.2.2.2.2.1, C0.2.2.2.2.2.1⟩ (tX2_clear l E (fun k => ad (k + 3)) zg h2 H.size) (cwV 0 C0.2.2.2.2.2.1 gX5_readAll_X2_clear rfl rfl rfl (by decide +kernel) ⟨Nat.le_of_ble_eq_true rfl, Nat.le_of_ble_eq_true rfl⟩) ⟨PG_blind, va_recv hA.2.2.1.1 hw.1 (ci := 2) (q0 := 3) rfl rfl, pg_at hA hw [3, 4, 5, 6, 7, 8, 9, 10, 11, 12, 13, 14] rfl (wcR_zg E ad zr zs zg)⟩ rfl rfl hl.1 rfl (lv_room (Nat.le_of_ble_eq_true rfl)) dX5_readAll_4 ⟨Nat.zero_le _, Nat.zero_le _⟩) hA hw [3, 4, 5, 6, 7, 8, 9, 10, 11, 12, 13, 14] [0, 1, 2] (wcR_zg E ad zr zs zg) (wqR_zg E ad zr zs zg) rfl (by decide) (fun H locs hw => ?_)
  have hw := wjR_zg zg1 hw
  refine lv_aload_n hx hb dX5_readAll_7 rfl (lv_at hl 0 rfl) ?_
  refine lv_aload_n hx hb dX5_readAll_8 rfl (lv_at hl 0 rfl) ?_
  refine gR_0_0 C0 hA hw hiX5_readAll_X5 lkX5_readAll_18 dX5_readAll_9 ?_
  refine lv_iconst (v := 0) hx hb dX5_readAll_12 (by decide) ?_
  obtain ⟨r3, h4, hm⟩ := b1_some hm
  refine r_backP (va_runV (As := [.int 0]) (rest := [.ref (ad 0)]) ⟨hx, hb, C0.2.2.2.1, C0.2.2.2.2.1, C0.2.2.2.2.2.1⟩ (tX6_skipBlanks l E (fun k => ad (k + 1)) F zs 0 h4 H.size) (cwV 1 C0.2.2.2.2.2.1 gX5_readAll_X6_skipBlanks rfl rfl rfl (by decide +kernel) ⟨Nat.le_of_ble_eq_true rfl, Nat.le_of_ble_eq_true rfl⟩) ⟨PG_blind, va_recv hA.2.2.1.1 hw.1 (ci := 6) (q0 := 1) rfl rfl, pg_at hA hw [1, 2] rfl (wcR_zs E ad zr zs zg1)⟩ rfl rfl hl.1 rfl (lv_room (Nat.le_of_ble_eq_true rfl)) dX5_readAll_13 ⟨Nat.zero_le _, Nat.zero_le _⟩) hA hw [1, 2] [0, 3, 4, 5, 6, 7, 8, 9, 10, 11, 12, 13, 14] (wcR_zs E ad zr zs zg1) (wqR_zs E ad zr zs zg1) rfl (by decide) (fun H locs hw => ?_)
  have hw := wjR_zs zs hw
  refine pR_0_2 C0 hA hw hiX5_readAll_X5 lkX5_readAll_9 dX5_readAll_16 (fun zr5 ezr5 H locs hw => ?_)
  have hm := nm_at hm ezr5
  refine lv_iconst (v := 0) hx hb dX5_readAll_19 (by decide) ?_
  refine lv_topi (fun v6 ev6 => ?_)
  have hm := nm_at hm ev6
  refine lv_istore_n (lv' := [(1, .int v6), (0, .ref (ad 0))]) hx hb dX5_readAll_20 rfl hl (by decide) rfl (fun ls hl => ?_)
  exact kX5_readAll_b21 F C0 hA F zr5 zg1 v6 _ _ _ hm hw (lv_sub hl [1, 0] rfl)
theorem tX5_readAll (l : Launch) (E : EV) (ad : Nat → Nat) (F : Nat) (zr : OS) (zs : OS) (zg : OS)  {r : Int32} {zr' : OS} {zg' : OS} (hm : mX5_readAll F zr zs zg = some (r, zr', zg')) : CT l yX5_readAll wsX5_readAll ({ frames := 5, cells := 0, slots := 0, locals := 112 } : Room) E [.ref (ad 0)] (wR E ad zr zs zg) (Qd (some (.int r)) (wR E ad zr' zs zg')) 0 0 :=
  CT.of (mL := 2) (lvs := [(0, .ref (ad 0))]) (by decide +kernel) rfl (Nat.le_of_ble_eq_true rfl) rfl rfl rfl (fun p e s m below meth c A C0 hA hw ls hl => kX5_readAll_b0 (ad := ad) F C0 hA zr zg _ _ _ hm hw (lv_sub hl [0] rfl))

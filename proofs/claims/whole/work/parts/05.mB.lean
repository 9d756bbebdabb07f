theorem lkX10_readWeight_131 : Cond.fieldLink RX10 131 (TX10 17).1 (TX10 17).2.1 (TX10 17).2.2.1 ∈ wsX10_readWeight := by decide +kernel
theorem lkX10_readWeight_49 : Cond.fieldLink RX10 49 (TX10 14).1 (TX10 14).2.1 (TX10 14).2.2.1 ∈ wsX10_readWeight := by decide +kernel
theorem lkX10_readWeight_22 : Cond.fieldLink RX10 22 (TX10 5).1 (TX10 5).2.1 (TX10 5).2.2.1 ∈ wsX10_readWeight := by decide +kernel
theorem lkX10_readWeight_25 : Cond.fieldLink RX10 25 (TX10 6).1 (TX10 6).2.1 (TX10 6).2.2.1 ∈ wsX10_readWeight := by decide +kernel
theorem lkX10_readWeight_52 : Cond.fieldLink RX10 52 (TX10 15).1 (TX10 15).2.1 (TX10 15).2.2.1 ∈ wsX10_readWeight := by decide +kernel
theorem lkX10_readWeight_28 : Cond.fieldLink RX10 28 (TX10 7).1 (TX10 7).2.1 (TX10 7).2.2.1 ∈ wsX10_readWeight := by decide +kernel
theorem lkX10_readWeight_19 : Cond.fieldLink RX10 19 (TX10 4).1 (TX10 4).2.1 (TX10 4).2.2.1 ∈ wsX10_readWeight := by decide +kernel
theorem hiX10_readWeight_X10 : ∀ w ∈ u_ws RX10 TX10 53, w ∈ wsX10_readWeight := by decide +kernel
def mX10_readWeight_b106 (F : Nat)  (zx : OS) (a2 : Int32) : Option (OS) := b1 (mX10_fail zx a2) (fun zx1 => some zx1)
def mX10_readWeight_b70 (F : Nat)  (zx : OS) (a1 : Int32) (a2 : Int32) (a3 : Int32) : Option (OS) := (if (zx.1 17 : Int32) = a2 then mX10_readWeight_b106 F zx a2 else b1 (mX10_peek zx a2) (fun r2 => (if (r2 : Int32) = 48 then mX10_readWeight_b106 F zx a2 else (if 999 < (a3 : Int32) then mX10_readWeight_b106 F zx a2 else gd 1 2 ((if (zx.2.2.1 14 (1 : Int32).toNatClampNeg : Int32) = 48 then mX10_readWeight_b106 F zx a2 else gd 1 2 (nm (48 + (zx.2.2.1 14 (1 : Int32).toNatClampNeg) : Int32) (fun v9 => gd v9 96 (nm (sA zx 5 v9 a3) (fun zx11 => gd 1 2 (gd v9 96 (nm (sA zx11 6 v9 (zx11.2.2.1 15 (1 : Int32).toNatClampNeg)) (fun zx14 => gd v9 96 (nm (sA zx14 7 v9 0) (fun zx16 => gd 1 2 (gd 1 2 (nm (sA zx16 14 1 ((zx16.2.2.1 14 (1 : Int32).toNatClampNeg) + 1)) (fun zx19 => gd (26 + a1) 52 (gd (26 + a1) 52 (nm (sA zx19 4 (26 + a1) ((zx19.2.2.1 4 (26 + a1 : Int32).toNatClampNeg) + 1)) (fun zx22 => some zx22)))))))))))))))))))))
def mX10_readWeight_b19 (F : Nat)  : Nat → OS → Int32 → Int32 → Int32 → Option (OS)
  | 0, _, _, _, _ => none
  | n + 1, zx, a1, a2, a3 => b1 (mX10_peek zx (zx.1 17)) (fun r1 => b1 (mX10_isDigit r1) (fun r3 => (if (r3 : Int32) = 0 then mX10_readWeight_b70 F zx a1 a2 a3 else (if 1000 ≤ (a3 : Int32) then mX10_readWeight_b70 F zx a1 a2 a3 else b1 (mX10_peek zx (zx.1 17)) (fun r7 => nm (((10 * a3) + r7) - 48 : Int32) (fun v9 => nm (sI zx 17 ((zx.1 17) + 1)) (fun zx10 => mX10_readWeight_b19 F n zx10 a1 a2 v9)))))))
def mX10_readWeight_b0 (F : Nat)  (zx : OS) (a1 : Int32) : Option (OS) := b1 (mX10_blanks F zx (zx.1 17)) (fun r1 => nm (sI zx 17 r1) (fun zx3 => nm (zx3.1 17 : Int32) (fun v4 => nm (0 : Int32) (fun v5 => mX10_readWeight_b19 F F zx3 a1 v4 v5))))
def mX10_readWeight (F : Nat) (zx : OS) (a1 : Int32) : Option (OS) := mX10_readWeight_b0 F zx a1
set_option maxRecDepth 20000 in
theorem kX10_readWeight_b106 {p : Program} {l : Launch} {e : Env} {s : State} {m : MethodId} {args : Array Value} {below : List Frame} {meth : Method} {c : Code} {A : Nat → Prop} {E : EV} {ad : Nat → Nat} (F : Nat)  {zx' : OS} (C0 : Cx RX10 "readWeight" cX10_readWeight (none) 5 wsX10_readWeight p s m args meth c) (hA : Ax E A s) : ∀ (zx : OS) (a2 : Int32) (H : Heap) (locs : List Loc) (ls : Array Slot), mX10_readWeight_b106 F zx a2 = some zx' → Wd E A s H locs (wM E ad zx) → lv_has ls 5 [(0, .ref (ad 0)), (2, .int a2)] → W p l e ({ frames := 2, cells := 0, slots := 0, locals := 43 } : Room) s m args below meth c H locs 0 0 (MQ below (QG E (Qd none (wM E ad zx')) A) args s 0 0 A) (F0 m 106 ls []) := by
  have hx := C0.1
  have hb := C0.2.1
  intro zx a2 H locs ls hm hw hl
  unfold mX10_readWeight_b106 at hm
  refine lv_aload_n hx hb dX10_readWeight_106 rfl (lv_at hl 0 rfl) ?_
  refine lv_iload_n hx hb dX10_readWeight_107 rfl (lv_at hl 1 rfl) ?_
  obtain ⟨zx1, h2, hm⟩ := b1_some hm
  refine r_backS (va_runV (As := [.int a2]) (rest := []) ⟨hx, hb, C0.2.2.2.1, C0.2.2.2.2.1, C0.2.2.2.2.2.1⟩ (tX10_fail l E ad zx a2 h2 H.size) (cwV 1 C0.2.2.2.2.2.1 gX10_readWeight_X10_fail rfl rfl rfl (by decide +kernel) ⟨Nat.le_of_ble_eq_true rfl, Nat.le_of_ble_eq_true rfl⟩) ⟨PG_blind, va_recv hA.2.2.1.1 hw.1 (ci := 10) (q0 := 0) rfl rfl, pg_self hA hw⟩ rfl rfl hl.1 rfl (lv_room (Nat.le_of_ble_eq_true rfl)) dX10_readWeight_108 ⟨Nat.zero_le _, Nat.zero_le _⟩) hA hw (fun H locs hw => ?_)
  obtain rfl := sj1 hm
  exact r_vret C0 hw dX10_readWeight_111 ⟨rfl, rfl⟩
set_option maxRecDepth 20000 in
theorem kX10_readWeight_b70 {p : Program} {l : Launch} {e : Env} {s : State} {m : MethodId} {args : Array Value} {below : List Frame} {meth : Method} {c : Code} {A : Nat → Prop} {E : EV} {ad : Nat → Nat} (F : Nat)  {zx' : OS} (C0 : Cx RX10 "readWeight" cX10_readWeight (none) 5 wsX10_readWeight p s m args meth c) (hA : Ax E A s) : ∀ (zx : OS) (a1 : Int32) (a2 : Int32) (a3 : Int32) (H : Heap) (locs : List Loc) (ls : Array Slot), mX10_readWeight_b70 F zx a1 a2 a3 = some zx' → Wd E A s H locs (wM E ad zx) → lv_has ls 5 [(0, .ref (ad 0)), (1, .int a1), (2, .int a2), (3, .int a3)] → W p l e ({ frames := 2, cells := 0, slots := 0, locals := 43 } : Room) s m args below meth c H locs 0 0 (MQ below (QG E (Qd none (wM E ad zx')) A) args s 0 0 A) (F0 m 70 ls []) := by
  have hx := C0.1
  have hb := C0.2.1
  intro zx a1 a2 a3 H locs ls hm hw hl
  unfold mX10_readWeight_b70 at hm
  refine lv_aload_n hx hb dX10_readWeight_70 rfl (lv_at hl 0 rfl) ?_
  refine gM_0_17 C0 hA hw hiX10_readWeight_X10 lkX10_readWeight_131 dX10_readWeight_71 ?_
  refine lv_iload_n hx hb dX10_readWeight_74 rfl (lv_at hl 2 rfl) ?_
  refine lv_icmp_eq (tgt := 106) hx hb dX10_readWeight_75 (by decide) (fun c1 => ?_) (fun c1 => ?_)
  · have hm := Eq.trans (if_pos c1).symm hm
    exact kX10_readWeight_b106 F C0 hA zx a2 _ _ _ hm hw (lv_sub hl [0, 2] rfl)
  · have hm := Eq.trans (if_neg c1).symm hm
    refine lv_aload_n hx hb dX10_readWeight_78 rfl (lv_at hl 0 rfl) ?_
    refine lv_iload_n hx hb dX10_readWeight_79 rfl (lv_at hl 2 rfl) ?_
    obtain ⟨r2, h3, hm⟩ := b1_some hm
    refine r_backS (va_runV (As := [.int a2]) (rest := []) ⟨hx, hb, C0.2.2.2.1, C0.2.2.2.2.1, C0.2.2.2.2.2.1⟩ (tX10_peek l E ad zx a2 h3 H.size) (cwV 1 C0.2.2.2.2.2.1 gX10_readWeight_X10_peek rfl rfl rfl (by decide +kernel) ⟨Nat.le_of_ble_eq_true rfl, Nat.le_of_ble_eq_true rfl⟩) ⟨PG_blind, va_recv hA.2.2.1.1 hw.1 (ci := 10) (q0 := 0) rfl rfl, pg_self hA hw⟩ rfl rfl hl.1 rfl (lv_room (Nat.le_of_ble_eq_true rfl)) dX10_readWeight_80 ⟨Nat.zero_le _, Nat.zero_le _⟩) hA hw (fun H locs hw => ?_)
    refine lv_bipush (v := 48) hx hb dX10_readWeight_83 (by decide) ?_
    refine lv_icmp_eq (tgt := 106) hx hb dX10_readWeight_85 (by decide) (fun c4 => ?_) (fun c4 => ?_)
    · have hm := Eq.trans (if_pos c4).symm hm
      exact kX10_readWeight_b106 F C0 hA zx a2 _ _ _ hm hw (lv_sub hl [0, 2] rfl)
    · have hm := Eq.trans (if_neg c4).symm hm
      refine lv_iload_n hx hb dX10_readWeight_88 rfl (lv_at hl 3 rfl) ?_
      refine lv_sipush (v := 999) hx hb dX10_readWeight_89 (by decide) ?_
      refine lv_icmp_gt (tgt := 106) hx hb dX10_readWeight_92 (by decide) (fun c5 => ?_) (fun c5 => ?_)
      · have hm := Eq.trans (if_pos c5).symm hm
        exact kX10_readWeight_b106 F C0 hA zx a2 _ _ _ hm hw (lv_sub hl [0, 2] rfl)
      · have hm := Eq.trans (if_neg c5).symm hm
        refine lv_aload_n hx hb dX10_readWeight_95 rfl (lv_at hl 0 rfl) ?_
        refine gM_0_14 C0 hA hw hiX10_readWeight_X10 lkX10_readWeight_49 dX10_readWeight_96 ?_
        refine lv_iconst (v := 1) hx hb dX10_readWeight_99 (by decide) ?_
        obtain ⟨c6, hm⟩ := gd_some hm
        refine lM_14 C0 hA hw c6 dX10_readWeight_100 ?_
        refine lv_bipush (v := 48) hx hb dX10_readWeight_101 (by decide) ?_
        refine lv_icmp_ne (tgt := 112) hx hb dX10_readWeight_103 (by decide) (fun c7 => ?_) (fun c7 => ?_)
        · have hm := Eq.trans (if_neg c7).symm hm
          refine lv_bipush (v := 48) hx hb dX10_readWeight_112 (by decide) ?_
          refine lv_aload_n hx hb dX10_readWeight_114 rfl (lv_at hl 0 rfl) ?_
          refine gM_0_14 C0 hA hw hiX10_readWeight_X10 lkX10_readWeight_49 dX10_readWeight_115 ?_
          refine lv_iconst (v := 1) hx hb dX10_readWeight_118 (by decide) ?_
          obtain ⟨c8, hm⟩ := gd_some hm
          refine lM_14 C0 hA hw c8 dX10_readWeight_119 ?_
          refine lv_iadd hx hb dX10_readWeight_120 ?_
          refine lv_topi (fun v9 ev9 => ?_)
          have hm := nm_at hm ev9
          refine lv_istore (lv' := [(4, .int v9), (0, .ref (ad 0)), (1, .int a1), (2, .int a2), (3, .int a3)]) hx hb dX10_readWeight_121 hl (by decide) rfl (fun ls hl => ?_)
          refine lv_aload_n hx hb dX10_readWeight_123 rfl (lv_at hl 1 rfl) ?_
          refine gM_0_5 C0 hA hw hiX10_readWeight_X10 lkX10_readWeight_22 dX10_readWeight_124 ?_
          refine lv_iload hx hb dX10_readWeight_127 (lv_at hl 0 rfl) ?_
          refine lv_iload_n hx hb dX10_readWeight_129 rfl (lv_at hl 4 rfl) ?_
          obtain ⟨c10, hm⟩ := gd_some hm
          refine sM_5 C0 hA hw c10 dX10_readWeight_130 (fun zx11 ezx11 H locs hw => ?_)
          have hm := nm_at hm ezx11
          refine lv_aload_n hx hb dX10_readWeight_131 rfl (lv_at hl 1 rfl) ?_
          refine gM_0_6 C0 hA hw hiX10_readWeight_X10 lkX10_readWeight_25 dX10_readWeight_132 ?_
          refine lv_iload hx hb dX10_readWeight_135 (lv_at hl 0 rfl) ?_
          refine lv_aload_n hx hb dX10_readWeight_137 rfl (lv_at hl 1 rfl) ?_
          refine gM_0_15 C0 hA hw hiX10_readWeight_X10 lkX10_readWeight_52 dX10_readWeight_138 ?_
          refine lv_iconst (v := 1) hx hb dX10_readWeight_141 (by decide) ?_
          obtain ⟨c12, hm⟩ := gd_some hm
          refine lM_15 C0 hA hw c12 dX10_readWeight_142 ?_
          obtain ⟨c13, hm⟩ := gd_some hm
          refine sM_6 C0 hA hw c13 dX10_readWeight_143 (fun zx14 ezx14 H locs hw => ?_)
          have hm := nm_at hm ezx14
          refine lv_aload_n hx hb dX10_readWeight_144 rfl (lv_at hl 1 rfl) ?_
          refine gM_0_7 C0 hA hw hiX10_readWeight_X10 lkX10_readWeight_28 dX10_readWeight_145 ?_
          refine lv_iload hx hb dX10_readWeight_148 (lv_at hl 0 rfl) ?_
          refine lv_iconst (v := 0) hx hb dX10_readWeight_150 (by decide) ?_
          obtain ⟨c15, hm⟩ := gd_some hm
          refine sM_7 C0 hA hw c15 dX10_readWeight_151 (fun zx16 ezx16 H locs hw => ?_)
          have hm := nm_at hm ezx16
          refine lv_aload_n hx hb dX10_readWeight_152 rfl (lv_at hl 1 rfl) ?_
          refine gM_0_14 C0 hA hw hiX10_readWeight_X10 lkX10_readWeight_49 dX10_readWeight_153 ?_
          refine lv_iconst (v := 1) hx hb dX10_readWeight_156 (by decide) ?_
          refine lv_dup2_11 hx hb dX10_readWeight_157 rfl rfl ?_
          obtain ⟨c17, hm⟩ := gd_some hm
          refine lM_14 C0 hA hw c17 dX10_readWeight_158 ?_
          refine lv_iconst (v := 1) hx hb dX10_readWeight_159 (by decide) ?_
          refine lv_iadd hx hb dX10_readWeight_160 ?_
          obtain ⟨c18, hm⟩ := gd_some hm
          refine sM_14 C0 hA hw c18 dX10_readWeight_161 (fun zx19 ezx19 H locs hw => ?_)
          have hm := nm_at hm ezx19
          refine lv_aload_n hx hb dX10_readWeight_162 rfl (lv_at hl 1 rfl) ?_
          refine gM_0_4 C0 hA hw hiX10_readWeight_X10 lkX10_readWeight_19 dX10_readWeight_163 ?_
          refine lv_bipush (v := 26) hx hb dX10_readWeight_166 (by decide) ?_
          refine lv_iload_n hx hb dX10_readWeight_168 rfl (lv_at hl 2 rfl) ?_
          refine lv_iadd hx hb dX10_readWeight_169 ?_
          refine lv_dup2_11 hx hb dX10_readWeight_170 rfl rfl ?_
          obtain ⟨c20, hm⟩ := gd_some hm
          refine lM_4 C0 hA hw c20 dX10_readWeight_171 ?_
          refine lv_iconst (v := 1) hx hb dX10_readWeight_172 (by decide) ?_
          refine lv_iadd hx hb dX10_readWeight_173 ?_
          obtain ⟨c21, hm⟩ := gd_some hm
          refine sM_4 C0 hA hw c21 dX10_readWeight_174 (fun zx22 ezx22 H locs hw => ?_)
          have hm := nm_at hm ezx22
          obtain rfl := sj1 hm
          exact r_vret C0 hw dX10_readWeight_175 ⟨rfl, rfl⟩
        · have hm := Eq.trans (if_pos c7).symm hm
          exact kX10_readWeight_b106 F C0 hA zx a2 _ _ _ hm hw (lv_sub hl [0, 2] rfl)
set_option maxRecDepth 20000 in
theorem kX10_readWeight_b19 {p : Program} {l : Launch} {e : Env} {s : State} {m : MethodId} {args : Array Value} {below : List Frame} {meth : Method} {c : Code} {A : Nat → Prop} {E : EV} {ad : Nat → Nat} (F : Nat)  {zx' : OS} (C0 : Cx RX10 "readWeight" cX10_readWeight (none) 5 wsX10_readWeight p s m args meth c) (hA : Ax E A s) : ∀ (n : Nat) (zx : OS) (a1 : Int32) (a2 : Int32) (a3 : Int32) (H : Heap) (locs : List Loc) (ls : Array Slot), mX10_readWeight_b19 F n zx a1 a2 a3 = some zx' → Wd E A s H locs (wM E ad zx) → lv_has ls 5 [(0, .ref (ad 0)), (1, .int a1), (2, .int a2), (3, .int a3)] → W p l e ({ frames := 2, cells := 0, slots := 0, locals := 43 } : Room) s m args below meth c H locs 0 0 (MQ below (QG E (Qd none (wM E ad zx')) A) args s 0 0 A) (F0 m 19 ls []) := by
  have hx := C0.1
  have hb := C0.2.1
  intro n
  induction n with
  | zero =>
    intro zx a1 a2 a3 H locs ls hm
    cases hm
  | succ n ih =>
    intro zx a1 a2 a3 H locs ls hm hw hl
    unfold mX10_readWeight_b19 at hm
    refine lv_aload_n hx hb dX10_readWeight_19 rfl (lv_at hl 0 rfl) ?_
    refine lv_aload_n hx hb dX10_readWeight_20 rfl (lv_at hl 0 rfl) ?_
    refine gM_0_17 C0 hA hw hiX10_readWeight_X10 lkX10_readWeight_131 dX10_readWeight_21 ?_
    obtain ⟨r1, h2, hm⟩ := b1_some hm
    refine r_backS (va_runV (As := [.int (zx.1 17)]) (rest := []) ⟨hx, hb, C0.2.2.2.1, C0.2.2.2.2.1, C0.2.2.2.2.2.1⟩ (tX10_peek l E ad zx (zx.1 17) h2 H.size) (cwV 1 C0.2.2.2.2.2.1 gX10_readWeight_X10_peek rfl rfl rfl (by decide +kernel) ⟨Nat.le_of_ble_eq_true rfl, Nat.le_of_ble_eq_true rfl⟩) ⟨PG_blind, va_recv hA.2.2.1.1 hw.1 (ci := 10) (q0 := 0) rfl rfl, pg_self hA hw⟩ rfl rfl hl.1 rfl (lv_room (Nat.le_of_ble_eq_true rfl)) dX10_readWeight_24 ⟨Nat.zero_le _, Nat.zero_le _⟩) hA hw (fun H locs hw => ?_)
    obtain ⟨r3, h4, hm⟩ := b1_some hm
    refine r_backZ (va_runS (As := [.int r1]) (rest := []) ⟨hx, hb, C0.2.2.2.1, C0.2.2.2.2.1, C0.2.2.2.2.2.1⟩ (tX10_isDigit l E r1 h4 H.size) (va_cwS 1 C0.2.2.2.2.2.1 gX10_readWeight_X10_isDigit rfl rfl rfl (by decide +kernel) ⟨Nat.le_of_ble_eq_true rfl, Nat.le_of_ble_eq_true rfl⟩) ⟨PG_blind, pg_nil hA hw⟩ rfl rfl hl.1 rfl (lv_room (Nat.le_of_ble_eq_true rfl)) dX10_readWeight_27 ⟨Nat.zero_le _, Nat.zero_le _⟩) hA hw (fun H locs hw => ?_)
    refine lv_if_eq (tgt := 70) hx hb dX10_readWeight_30 (by decide) (fun c5 => ?_) (fun c5 => ?_)
    · have hm := Eq.trans (if_pos c5).symm hm
      exact kX10_readWeight_b70 F C0 hA zx a1 a2 a3 _ _ _ hm hw (lv_sub hl [0, 1, 2, 3] rfl)
    · have hm := Eq.trans (if_neg c5).symm hm
      refine lv_iload_n hx hb dX10_readWeight_33 rfl (lv_at hl 3 rfl) ?_
      refine lv_sipush (v := 1000) hx hb dX10_readWeight_34 (by decide) ?_
      refine lv_icmp_ge (tgt := 70) hx hb dX10_readWeight_37 (by decide) (fun c6 => ?_) (fun c6 => ?_)
      · have hm := Eq.trans (if_pos c6).symm hm
        exact kX10_readWeight_b70 F C0 hA zx a1 a2 a3 _ _ _ hm hw (lv_sub hl [0, 1, 2, 3] rfl)
      · have hm := Eq.trans (if_neg c6).symm hm
        refine lv_bipush (v := 10) hx hb dX10_readWeight_40 (by decide) ?_
        refine lv_iload_n hx hb dX10_readWeight_42 rfl (lv_at hl 3 rfl) ?_
        refine lv_imul hx hb dX10_readWeight_43 ?_
        refine lv_aload_n hx hb dX10_readWeight_44 rfl (lv_at hl 0 rfl) ?_
        refine lv_aload_n hx hb dX10_readWeight_45 rfl (lv_at hl 0 rfl) ?_
        refine gM_0_17 C0 hA hw hiX10_readWeight_X10 lkX10_readWeight_131 dX10_readWeight_46 ?_
        obtain ⟨r7, h8, hm⟩ := b1_some hm
        refine r_backS (va_runV (As := [.int (zx.1 17)]) (rest := [.int (10 * a3)]) ⟨hx, hb, C0.2.2.2.1, C0.2.2.2.2.1, C0.2.2.2.2.2.1⟩ (tX10_peek l E ad zx (zx.1 17) h8 H.size) (cwV 1 C0.2.2.2.2.2.1 gX10_readWeight_X10_peek rfl rfl rfl (by decide +kernel) ⟨Nat.le_of_ble_eq_true rfl, Nat.le_of_ble_eq_true rfl⟩) ⟨PG_blind, va_recv hA.2.2.1.1 hw.1 (ci := 10) (q0 := 0) rfl rfl, pg_self hA hw⟩ rfl rfl hl.1 rfl (lv_room (Nat.le_of_ble_eq_true rfl)) dX10_readWeight_49 ⟨Nat.zero_le _, Nat.zero_le _⟩) hA hw (fun H locs hw => ?_)
        refine lv_iadd hx hb dX10_readWeight_52 ?_
        refine lv_bipush (v := 48) hx hb dX10_readWeight_53 (by decide) ?_
        refine lv_isub hx hb dX10_readWeight_55 ?_
        refine lv_topi (fun v9 ev9 => ?_)
        have hm := nm_at hm ev9
        refine lv_istore_n (lv' := [(3, .int v9), (0, .ref (ad 0)), (1, .int a1), (2, .int a2)]) hx hb dX10_readWeight_56 rfl hl (by decide) rfl (fun ls hl => ?_)
        refine lv_aload_n hx hb dX10_readWeight_57 rfl (lv_at hl 1 rfl) ?_
        refine lv_dup hx hb dX10_readWeight_58 rfl ?_
        refine gM_0_17 C0 hA hw hiX10_readWeight_X10 lkX10_readWeight_131 dX10_readWeight_59 ?_
        refine lv_iconst (v := 1) hx hb dX10_readWeight_62 (by decide) ?_
        refine lv_iadd hx hb dX10_readWeight_63 ?_
        refine pM_0_17 C0 hA hw hiX10_readWeight_X10 lkX10_readWeight_131 dX10_readWeight_64 (fun zx10 ezx10 H locs hw => ?_)
        have hm := nm_at hm ezx10
        refine lv_goto (tgt := 19) hx hb dX10_readWeight_67 (by decide) ?_
        exact ih zx10 a1 a2 v9 _ _ _ hm hw (lv_sub hl [1, 2, 3, 0] rfl)
set_option maxRecDepth 20000 in
theorem kX10_readWeight_b0 {p : Program} {l : Launch} {e : Env} {s : State} {m : MethodId} {args : Array Value} {below : List Frame} {meth : Method} {c : Code} {A : Nat → Prop} {E : EV} {ad : Nat → Nat} (F : Nat)  {zx' : OS} (C0 : Cx RX10 "readWeight" cX10_readWeight (none) 5 wsX10_readWeight p s m args meth c) (hA : Ax E A s) : ∀ (zx : OS) (a1 : Int32) (H : Heap) (locs : List Loc) (ls : Array Slot), mX10_readWeight_b0 F zx a1 = some zx' → Wd E A s H locs (wM E ad zx) → lv_has ls 5 [(0, .ref (ad 0)), (1, .int a1)] → W p l e ({ frames := 2, cells := 0, slots := 0, locals := 43 } : Room) s m args below meth c H locs 0 0 (MQ below (QG E (Qd none (wM E ad zx')) A) args s 0 0 A) (F0 m 0 ls []) := by
  have hx := C0.1
  have hb := C0.2.1
  intro zx a1 H locs ls hm hw hl
  unfold mX10_readWeight_b0 at hm
  refine lv_aload_n hx hb dX10_readWeight_0 rfl (lv_at hl 0 rfl) ?_
  refine lv_aload_n hx hb dX10_readWeight_1 rfl (lv_at hl 0 rfl) ?_
  refine lv_aload_n hx hb dX10_readWeight_2 rfl (lv_at hl 0 rfl) ?_
  refine gM_0_17 C0 hA hw hiX10_readWeight_X10 lkX10_readWeight_131 dX10_readWeight_3 ?_
  obtain ⟨r1, h2, hm⟩ := b1_some hm
  refine r_backS (va_runV (As := [.int (zx.1 17)]) (rest := [.ref (ad 0)]) ⟨hx, hb, C0.2.2.2.1, C0.2.2.2.2.1, C0.2.2.2.2.2.1⟩ (tX10_blanks l E ad F zx (zx.1 17) h2 H.size) (cwV 1 C0.2.2.2.2.2.1 gX10_readWeight_X10_blanks rfl rfl rfl (by decide +kernel) ⟨Nat.le_of_ble_eq_true rfl, Nat.le_of_ble_eq_true rfl⟩) ⟨PG_blind, va_recv hA.2.2.1.1 hw.1 (ci := 10) (q0 := 0) rfl rfl, pg_self hA hw⟩ rfl rfl hl.1 rfl (lv_room (Nat.le_of_ble_eq_true rfl)) dX10_readWeight_6 ⟨Nat.zero_le _, Nat.zero_le _⟩) hA hw (fun H locs hw => ?_)
  refine pM_0_17 C0 hA hw hiX10_readWeight_X10 lkX10_readWeight_131 dX10_readWeight_9 (fun zx3 ezx3 H locs hw => ?_)
  have hm := nm_at hm ezx3
  refine lv_aload_n hx hb dX10_readWeight_12 rfl (lv_at hl 0 rfl) ?_
  refine gM_0_17 C0 hA hw hiX10_readWeight_X10 lkX10_readWeight_131 dX10_readWeight_13 ?_
  refine lv_topi (fun v4 ev4 => ?_)
  have hm := nm_at hm ev4
  refine lv_istore_n (lv' := [(2, .int v4), (0, .ref (ad 0)), (1, .int a1)]) hx hb dX10_readWeight_16 rfl hl (by decide) rfl (fun ls hl => ?_)
  refine lv_iconst (v := 0) hx hb dX10_readWeight_17 (by decide) ?_
  refine lv_topi (fun v5 ev5 => ?_)
  have hm := nm_at hm ev5
  refine lv_istore_n (lv' := [(3, .int v5), (2, .int v4), (0, .ref (ad 0)), (1, .int a1)]) hx hb dX10_readWeight_18 rfl hl (by decide) rfl (fun ls hl => ?_)
  exact kX10_readWeight_b19 F C0 hA F zx3 a1 v4 v5 _ _ _ hm hw (lv_sub hl [2, 3, 1, 0] rfl)
theorem tX10_readWeight (l : Launch) (E : EV) (ad : Nat → Nat) (F : Nat) (zx : OS) (a1 : Int32) {zx' : OS} (hm : mX10_readWeight F zx a1 = some zx') : CT l yX10_readWeight wsX10_readWeight ({ frames := 2, cells := 0, slots := 0, locals := 43 } : Room) E [.ref (ad 0), .int a1] (wM E ad zx) (Qd none (wM E ad zx')) 0 0 :=
  CT.of (mL := 5) (lvs := [(0, .ref (ad 0)), (1, .int a1)]) (by decide +kernel) rfl (Nat.le_of_ble_eq_true rfl) rfl rfl rfl (fun p e s m below meth c A C0 hA hw ls hl => kX10_readWeight_b0 (ad := ad) F C0 hA zx a1 _ _ _ hm hw (lv_sub hl [0, 1] rfl))
theorem lkX10_readSigns_131 : Cond.fieldLink RX10 131 (TX10 17).1 (TX10 17).2.1 (TX10 17).2.2.1 ∈ wsX10_readSigns := by decide +kernel
theorem lkX10_readSigns_28 : Cond.fieldLink RX10 28 (TX10 7).1 (TX10 7).2.1 (TX10 7).2.2.1 ∈ wsX10_readSigns := by decide +kernel
theorem lkX10_readSigns_52 : Cond.fieldLink RX10 52 (TX10 15).1 (TX10 15).2.1 (TX10 15).2.2.1 ∈ wsX10_readSigns := by decide +kernel
theorem lkX10_readSigns_124 : Cond.fieldLink RX10 124 (TX10 18).1 (TX10 18).2.1 (TX10 18).2.2.1 ∈ wsX10_readSigns := by decide +kernel
theorem lkX10_readSigns_49 : Cond.fieldLink RX10 49 (TX10 14).1 (TX10 14).2.1 (TX10 14).2.2.1 ∈ wsX10_readSigns := by decide +kernel
theorem hiX10_readSigns_X10 : ∀ w ∈ u_ws RX10 TX10 53, w ∈ wsX10_readSigns := by decide +kernel
def mX10_readSigns_b177 (F : Nat) (K10 : OS → Int32 → Option (Int32 × OS)) (zx : OS) (a1 : Int32) : Option (Int32 × OS) := b1 (mX10_fail zx (zx.1 17)) (fun zx1 => K10 zx1 a1)
def mX10_readSigns_b147 (F : Nat) (K10 : OS → Int32 → Option (Int32 × OS)) (zx : OS) (a1 : Int32) (a2 : Int32) (t0 : Int32) : Option (Int32 × OS) := (if (t0 : Int32) = 0 then mX10_readSigns_b177 F K10 zx a1 else gd a1 96 ((if (zx.2.2.1 7 (a1 : Int32).toNatClampNeg : Int32) = 12 then mX10_readSigns_b177 F K10 zx a1 else gd 1 2 ((if (zx.2.2.1 15 (1 : Int32).toNatClampNeg : Int32) = 240 then mX10_readSigns_b177 F K10 zx a1 else gd 1 2 (b1 (mX10_readSign F zx (241 + (zx.2.2.1 15 (1 : Int32).toNatClampNeg)) a2) (fun zx7 => gd a1 96 (gd a1 96 (nm (sA zx7 7 a1 ((zx7.2.2.1 7 (a1 : Int32).toNatClampNeg) + 1)) (fun zx11 => gd 1 2 (gd 1 2 (nm (sA zx11 15 1 ((zx11.2.2.1 15 (1 : Int32).toNatClampNeg) + 1)) (fun zx14 => K10 zx14 a1)))))))))))))
def mX10_readSigns_b136 (F : Nat) (K10 : OS → Int32 → Option (Int32 × OS)) (zx : OS) (a1 : Int32) (a2 : Int32) : Option (Int32 × OS) := (if (a2 : Int32) = 114 then mX10_readSigns_b147 F K10 zx a1 a2 1 else mX10_readSigns_b147 F K10 zx a1 a2 0)
def mX10_readSigns_b120 (F : Nat) (K10 : OS → Int32 → Option (Int32 × OS)) (zx : OS) (a1 : Int32) (a2 : Int32) (a3 : Int32) : Option (Int32 × OS) := (if (a3 : Int32) = 0 then (if (a2 : Int32) < 48 then mX10_readSigns_b136 F K10 zx a1 a2 else (if (a2 : Int32) ≤ 54 then mX10_readSigns_b147 F K10 zx a1 a2 1 else mX10_readSigns_b136 F K10 zx a1 a2)) else mX10_readSigns_b147 F K10 zx a1 a2 1)
def mX10_readSigns_b81 (F : Nat) (K10 : OS → Int32 → Option (Int32 × OS)) (zx : OS) (a1 : Int32) (a2 : Int32) : Option (Int32 × OS) := b1 (mX10_isLetter a2) (fun r1 => (if (r1 : Int32) = 0 then mX10_readSigns_b120 F K10 zx a1 a2 r1 else gd a1 96 ((if (zx.2.2.1 7 (a1 : Int32).toNatClampNeg : Int32) ≤ 0 then mX10_readSigns_b120 F K10 zx a1 a2 r1 else b1 (mX10_blanks F zx ((zx.1 17) + 1)) (fun r6 => b1 (mX10_peek zx r6) (fun r8 => (if (r8 : Int32) = 61 then some (1, zx) else mX10_readSigns_b120 F K10 zx a1 a2 r1)))))))
def mX10_readSigns_b54 (F : Nat) (K10 : OS → Int32 → Option (Int32 × OS)) (zx : OS) (a1 : Int32) (a2 : Int32) : Option (Int32 × OS) := (if (a2 : Int32) = 124 then gd a1 96 ((if (zx.2.2.1 7 (a1 : Int32).toNatClampNeg : Int32) ≤ 0 then mX10_readSigns_b81 F K10 zx a1 a2 else nm (sI zx 17 ((zx.1 17) + 1)) (fun zx4 => some (0, zx4)))) else mX10_readSigns_b81 F K10 zx a1 a2)
def mX10_readSigns_b10 (F : Nat)  : Nat → OS → Int32 → Option (Int32 × OS)
  | 0, _, _ => none
  | n + 1, zx, a1 => (if 0 ≤ (zx.1 18 : Int32) then some (2, zx) else b1 (mX10_blanks F zx (zx.1 17)) (fun r2 => nm (sI zx 17 r2) (fun zx4 => b1 (mX10_peek zx4 (zx4.1 17)) (fun r5 => (if (r5 : Int32) = (-1) then gd a1 96 ((if (zx4.2.2.1 7 (a1 : Int32).toNatClampNeg : Int32) ≤ 0 then mX10_readSigns_b54 F (mX10_readSigns_b10 F n) zx4 a1 r5 else some (2, zx4))) else mX10_readSigns_b54 F (mX10_readSigns_b10 F n) zx4 a1 r5)))))
def mX10_readSigns_b0 (F : Nat)  (zx : OS) : Option (Int32 × OS) := gd 1 2 (nm (47 + (zx.2.2.1 14 (1 : Int32).toNatClampNeg) : Int32) (fun v2 => mX10_readSigns_b10 F F zx v2))
def mX10_readSigns (F : Nat) (zx : OS)  : Option (Int32 × OS) := mX10_readSigns_b0 F zx
set_option maxRecDepth 20000 in
theorem kX10_readSigns_b177 {p : Program} {l : Launch} {e : Env} {s : State} {m : MethodId} {args : Array Value} {below : List Frame} {meth : Method} {c : Code} {A : Nat → Prop} {E : EV} {ad : Nat → Nat} (F : Nat)  {r : Int32} {zx' : OS} (C0 : Cx RX10 "readSigns" cX10_readSigns (some .int) 5 wsX10_readSigns p s m args meth c) (hA : Ax E A s) (K10 : OS → Int32 → Option (Int32 × OS)) (hK10 : ∀ (zx : OS) (a1 : Int32) (H : Heap) (locs : List Loc) (ls : Array Slot), K10 zx a1 = some (r, zx') → Wd E A s H locs (wM E ad zx) → lv_has ls 5 [(0, .ref (ad 0)), (1, .int a1)] → W p l e ({ frames := 3, cells := 0, slots := 0, locals := 68 } : Room) s m args below meth c H locs 0 0 (MQ below (QG E (Qd (some (.int r)) (wM E ad zx')) A) args s 0 0 A) (F0 m 10 ls [])) : ∀ (zx : OS) (a1 : Int32) (H : Heap) (locs : List Loc) (ls : Array Slot), mX10_readSigns_b177 F K10 zx a1 = some (r, zx') → Wd E A s H locs (wM E ad zx) → lv_has ls 5 [(0, .ref (ad 0)), (1, .int a1)] → W p l e ({ frames := 3, cells := 0, slots := 0, locals := 68 } : Room) s m args below meth c H locs 0 0 (MQ below (QG E (Qd (some (.int r)) (wM E ad zx')) A) args s 0 0 A) (F0 m 177 ls []) := by
  have hx := C0.1
  have hb := C0.2.1
  intro zx a1 H locs ls hm hw hl
  unfold mX10_readSigns_b177 at hm
  refine lv_aload_n hx hb dX10_readSigns_177 rfl (lv_at hl 0 rfl) ?_
  refine lv_aload_n hx hb dX10_readSigns_178 rfl (lv_at hl 0 rfl) ?_
  refine gM_0_17 C0 hA hw hiX10_readSigns_X10 lkX10_readSigns_131 dX10_readSigns_179 ?_
  obtain ⟨zx1, h2, hm⟩ := b1_some hm
  refine r_backS (va_runV (As := [.int (zx.1 17)]) (rest := []) ⟨hx, hb, C0.2.2.2.1, C0.2.2.2.2.1, C0.2.2.2.2.2.1⟩ (tX10_fail l E ad zx (zx.1 17) h2 H.size) (cwV 1 C0.2.2.2.2.2.1 gX10_readSigns_X10_fail rfl rfl rfl (by decide +kernel) ⟨Nat.le_of_ble_eq_true rfl, Nat.le_of_ble_eq_true rfl⟩) ⟨PG_blind, va_recv hA.2.2.1.1 hw.1 (ci := 10) (q0 := 0) rfl rfl, pg_self hA hw⟩ rfl rfl hl.1 rfl (lv_room (Nat.le_of_ble_eq_true rfl)) dX10_readSigns_182 ⟨Nat.zero_le _, Nat.zero_le _⟩) hA hw (fun H locs hw => ?_)
  refine lv_goto (tgt := 223) hx hb dX10_readSigns_185 (by decide) ?_
  refine lv_goto (tgt := 10) hx hb dX10_readSigns_223 (by decide) ?_
  exact hK10 zx1 a1 _ _ _ hm hw (lv_sub hl [0, 1] rfl)
set_option maxRecDepth 20000 in
theorem kX10_readSigns_b147 {p : Program} {l : Launch} {e : Env} {s : State} {m : MethodId} {args : Array Value} {below : List Frame} {meth : Method} {c : Code} {A : Nat → Prop} {E : EV} {ad : Nat → Nat} (F : Nat)  {r : Int32} {zx' : OS} (C0 : Cx RX10 "readSigns" cX10_readSigns (some .int) 5 wsX10_readSigns p s m args meth c) (hA : Ax E A s) (K10 : OS → Int32 → Option (Int32 × OS)) (hK10 : ∀ (zx : OS) (a1 : Int32) (H : Heap) (locs : List Loc) (ls : Array Slot), K10 zx a1 = some (r, zx') → Wd E A s H locs (wM E ad zx) → lv_has ls 5 [(0, .ref (ad 0)), (1, .int a1)] → W p l e ({ frames := 3, cells := 0, slots := 0, locals := 68 } : Room) s m args below meth c H locs 0 0 (MQ below (QG E (Qd (some (.int r)) (wM E ad zx')) A) args s 0 0 A) (F0 m 10 ls [])) : ∀ (zx : OS) (a1 : Int32) (a2 : Int32) (t0 : Int32) (H : Heap) (locs : List Loc) (ls : Array Slot), mX10_readSigns_b147 F K10 zx a1 a2 t0 = some (r, zx') → Wd E A s H locs (wM E ad zx) → lv_has ls 5 [(0, .ref (ad 0)), (1, .int a1), (2, .int a2)] → W p l e ({ frames := 3, cells := 0, slots := 0, locals := 68 } : Room) s m args below meth c H locs 0 0 (MQ below (QG E (Qd (some (.int r)) (wM E ad zx')) A) args s 0 0 A) (F0 m 147 ls [.int t0]) := by
  have hx := C0.1
  have hb := C0.2.1
  intro zx a1 a2 t0 H locs ls hm hw hl
  unfold mX10_readSigns_b147 at hm
  refine lv_istore (lv' := [(4, .int t0), (0, .ref (ad 0)), (1, .int a1), (2, .int a2)]) hx hb dX10_readSigns_147 hl (by decide) rfl (fun ls hl => ?_)
  refine lv_iload hx hb dX10_readSigns_149 (lv_at hl 0 rfl) ?_
  refine lv_if_eq (tgt := 177) hx hb dX10_readSigns_151 (by decide) (fun c1 => ?_) (fun c1 => ?_)
  · have hm := Eq.trans (if_pos c1).symm hm
    exact kX10_readSigns_b177 F C0 hA K10 hK10 zx a1 _ _ _ hm hw (lv_sub hl [1, 2] rfl)
  · have hm := Eq.trans (if_neg c1).symm hm
    refine lv_aload_n hx hb dX10_readSigns_154 rfl (lv_at hl 1 rfl) ?_
    refine gM_0_7 C0 hA hw hiX10_readSigns_X10 lkX10_readSigns_28 dX10_readSigns_155 ?_
    refine lv_iload_n hx hb dX10_readSigns_158 rfl (lv_at hl 2 rfl) ?_
    obtain ⟨c2, hm⟩ := gd_some hm
    refine lM_7 C0 hA hw c2 dX10_readSigns_159 ?_
    refine lv_bipush (v := 12) hx hb dX10_readSigns_160 (by decide) ?_
    refine lv_icmp_eq (tgt := 177) hx hb dX10_readSigns_162 (by decide) (fun c3 => ?_) (fun c3 => ?_)
    · have hm := Eq.trans (if_pos c3).symm hm
      exact kX10_readSigns_b177 F C0 hA K10 hK10 zx a1 _ _ _ hm hw (lv_sub hl [1, 2] rfl)
    · have hm := Eq.trans (if_neg c3).symm hm
      refine lv_aload_n hx hb dX10_readSigns_165 rfl (lv_at hl 1 rfl) ?_
      refine gM_0_15 C0 hA hw hiX10_readSigns_X10 lkX10_readSigns_52 dX10_readSigns_166 ?_
      refine lv_iconst (v := 1) hx hb dX10_readSigns_169 (by decide) ?_
      obtain ⟨c4, hm⟩ := gd_some hm
      refine lM_15 C0 hA hw c4 dX10_readSigns_170 ?_
      refine lv_sipush (v := 240) hx hb dX10_readSigns_171 (by decide) ?_
      refine lv_icmp_ne (tgt := 188) hx hb dX10_readSigns_174 (by decide) (fun c5 => ?_) (fun c5 => ?_)
      · have hm := Eq.trans (if_neg c5).symm hm
        refine lv_aload_n hx hb dX10_readSigns_188 rfl (lv_at hl 1 rfl) ?_
        refine lv_sipush (v := 241) hx hb dX10_readSigns_189 (by decide) ?_
        refine lv_aload_n hx hb dX10_readSigns_192 rfl (lv_at hl 1 rfl) ?_
        refine gM_0_15 C0 hA hw hiX10_readSigns_X10 lkX10_readSigns_52 dX10_readSigns_193 ?_
        refine lv_iconst (v := 1) hx hb dX10_readSigns_196 (by decide) ?_
        obtain ⟨c6, hm⟩ := gd_some hm
        refine lM_15 C0 hA hw c6 dX10_readSigns_197 ?_
        refine lv_iadd hx hb dX10_readSigns_198 ?_
        refine lv_iload_n hx hb dX10_readSigns_199 rfl (lv_at hl 3 rfl) ?_
        obtain ⟨zx7, h8, hm⟩ := b1_some hm
        refine r_backS (va_runV (As := [.int (241 + (zx.2.2.1 15 (1 : Int32).toNatClampNeg)), .int a2]) (rest := []) ⟨hx, hb, C0.2.2.2.1, C0.2.2.2.2.1, C0.2.2.2.2.2.1⟩ (tX10_readSign l E ad F zx (241 + (zx.2.2.1 15 (1 : Int32).toNatClampNeg)) a2 h8 H.size) (cwV 2 C0.2.2.2.2.2.1 gX10_readSigns_X10_readSign rfl rfl rfl (by decide +kernel) ⟨Nat.le_of_ble_eq_true rfl, Nat.le_of_ble_eq_true rfl⟩) ⟨PG_blind, va_recv hA.2.2.1.1 hw.1 (ci := 10) (q0 := 0) rfl rfl, pg_self hA hw⟩ rfl rfl hl.1 rfl (lv_room (Nat.le_of_ble_eq_true rfl)) dX10_readSigns_200 ⟨Nat.zero_le _, Nat.zero_le _⟩) hA hw (fun H locs hw => ?_)
        refine lv_aload_n hx hb dX10_readSigns_203 rfl (lv_at hl 1 rfl) ?_
        refine gM_0_7 C0 hA hw hiX10_readSigns_X10 lkX10_readSigns_28 dX10_readSigns_204 ?_
        refine lv_iload_n hx hb dX10_readSigns_207 rfl (lv_at hl 2 rfl) ?_
        refine lv_dup2_11 hx hb dX10_readSigns_208 rfl rfl ?_
        obtain ⟨c9, hm⟩ := gd_some hm
        refine lM_7 C0 hA hw c9 dX10_readSigns_209 ?_
        refine lv_iconst (v := 1) hx hb dX10_readSigns_210 (by decide) ?_
        refine lv_iadd hx hb dX10_readSigns_211 ?_
        obtain ⟨c10, hm⟩ := gd_some hm
        refine sM_7 C0 hA hw c10 dX10_readSigns_212 (fun zx11 ezx11 H locs hw => ?_)
        have hm := nm_at hm ezx11
        refine lv_aload_n hx hb dX10_readSigns_213 rfl (lv_at hl 1 rfl) ?_
        refine gM_0_15 C0 hA hw hiX10_readSigns_X10 lkX10_readSigns_52 dX10_readSigns_214 ?_
        refine lv_iconst (v := 1) hx hb dX10_readSigns_217 (by decide) ?_
        refine lv_dup2_11 hx hb dX10_readSigns_218 rfl rfl ?_
        obtain ⟨c12, hm⟩ := gd_some hm
        refine lM_15 C0 hA hw c12 dX10_readSigns_219 ?_
        refine lv_iconst (v := 1) hx hb dX10_readSigns_220 (by decide) ?_
        refine lv_iadd hx hb dX10_readSigns_221 ?_
        obtain ⟨c13, hm⟩ := gd_some hm
        refine sM_15 C0 hA hw c13 dX10_readSigns_222 (fun zx14 ezx14 H locs hw => ?_)
        have hm := nm_at hm ezx14
        refine lv_goto (tgt := 10) hx hb dX10_readSigns_223 (by decide) ?_
        exact hK10 zx14 a1 _ _ _ hm hw (lv_sub hl [1, 2] rfl)
      · have hm := Eq.trans (if_pos c5).symm hm
        exact kX10_readSigns_b177 F C0 hA K10 hK10 zx a1 _ _ _ hm hw (lv_sub hl [1, 2] rfl)
set_option maxRecDepth 20000 in
theorem kX10_readSigns_b136 {p : Program} {l : Launch} {e : Env} {s : State} {m : MethodId} {args : Array Value} {below : List Frame} {meth : Method} {c : Code} {A : Nat → Prop} {E : EV} {ad : Nat → Nat} (F : Nat)  {r : Int32} {zx' : OS} (C0 : Cx RX10 "readSigns" cX10_readSigns (some .int) 5 wsX10_readSigns p s m args meth c) (hA : Ax E A s) (K10 : OS → Int32 → Option (Int32 × OS)) (hK10 : ∀ (zx : OS) (a1 : Int32) (H : Heap) (locs : List Loc) (ls : Array Slot), K10 zx a1 = some (r, zx') → Wd E A s H locs (wM E ad zx) → lv_has ls 5 [(0, .ref (ad 0)), (1, .int a1)] → W p l e ({ frames := 3, cells := 0, slots := 0, locals := 68 } : Room) s m args below meth c H locs 0 0 (MQ below (QG E (Qd (some (.int r)) (wM E ad zx')) A) args s 0 0 A) (F0 m 10 ls [])) : ∀ (zx : OS) (a1 : Int32) (a2 : Int32) (H : Heap) (locs : List Loc) (ls : Array Slot), mX10_readSigns_b136 F K10 zx a1 a2 = some (r, zx') → Wd E A s H locs (wM E ad zx) → lv_has ls 5 [(0, .ref (ad 0)), (1, .int a1), (2, .int a2)] → W p l e ({ frames := 3, cells := 0, slots := 0, locals := 68 } : Room) s m args below meth c H locs 0 0 (MQ below (QG E (Qd (some (.int r)) (wM E ad zx')) A) args s 0 0 A) (F0 m 136 ls []) := by
  have hx := C0.1
  have hb := C0.2.1
  intro zx a1 a2 H locs ls hm hw hl
  unfold mX10_readSigns_b136 at hm
  refine lv_iload_n hx hb dX10_readSigns_136 rfl (lv_at hl 2 rfl) ?_
  refine lv_bipush (v := 114) hx hb dX10_readSigns_137 (by decide) ?_
  refine lv_icmp_ne (tgt := 146) hx hb dX10_readSigns_139 (by decide) (fun c1 => ?_) (fun c1 => ?_)
  · have hm := Eq.trans (if_neg c1).symm hm
    refine lv_iconst (v := 0) hx hb dX10_readSigns_146 (by decide) ?_
    exact kX10_readSigns_b147 F C0 hA K10 hK10 zx a1 a2 0 _ _ _ hm hw (lv_sub hl [0, 1, 2] rfl)
  · have hm := Eq.trans (if_pos c1).symm hm
    refine lv_iconst (v := 1) hx hb dX10_readSigns_142 (by decide) ?_
    refine lv_goto (tgt := 147) hx hb dX10_readSigns_143 (by decide) ?_
    exact kX10_readSigns_b147 F C0 hA K10 hK10 zx a1 a2 1 _ _ _ hm hw (lv_sub hl [0, 1, 2] rfl)
set_option maxRecDepth 20000 in
theorem kX10_readSigns_b120 {p : Program} {l : Launch} {e : Env} {s : State} {m : MethodId} {args : Array Value} {below : List Frame} {meth : Method} {c : Code} {A : Nat → Prop} {E : EV} {ad : Nat → Nat} (F : Nat)  {r : Int32} {zx' : OS} (C0 : Cx RX10 "readSigns" cX10_readSigns (some .int) 5 wsX10_readSigns p s m args meth c) (hA : Ax E A s) (K10 : OS → Int32 → Option (Int32 × OS)) (hK10 : ∀ (zx : OS) (a1 : Int32) (H : Heap) (locs : List Loc) (ls : Array Slot), K10 zx a1 = some (r, zx') → Wd E A s H locs (wM E ad zx) → lv_has ls 5 [(0, .ref (ad 0)), (1, .int a1)] → W p l e ({ frames := 3, cells := 0, slots := 0, locals := 68 } : Room) s m args below meth c H locs 0 0 (MQ below (QG E (Qd (some (.int r)) (wM E ad zx')) A) args s 0 0 A) (F0 m 10 ls [])) : ∀ (zx : OS) (a1 : Int32) (a2 : Int32) (a3 : Int32) (H : Heap) (locs : List Loc) (ls : Array Slot), mX10_readSigns_b120 F K10 zx a1 a2 a3 = some (r, zx') → Wd E A s H locs (wM E ad zx) → lv_has ls 5 [(0, .ref (ad 0)), (1, .int a1), (2, .int a2), (3, .int a3)] → W p l e ({ frames := 3, cells := 0, slots := 0, locals := 68 } : Room) s m args below meth c H locs 0 0 (MQ below (QG E (Qd (some (.int r)) (wM E ad zx')) A) args s 0 0 A) (F0 m 120 ls []) := by
  have hx := C0.1
  have hb := C0.2.1
  intro zx a1 a2 a3 H locs ls hm hw hl
  unfold mX10_readSigns_b120 at hm
  refine lv_iload_n hx hb dX10_readSigns_120 rfl (lv_at hl 3 rfl) ?_
  refine lv_if_ne (tgt := 142) hx hb dX10_readSigns_121 (by decide) (fun c1 => ?_) (fun c1 => ?_)
  · have hm := Eq.trans (if_neg c1).symm hm
    refine lv_iconst (v := 1) hx hb dX10_readSigns_142 (by decide) ?_
    refine lv_goto (tgt := 147) hx hb dX10_readSigns_143 (by decide) ?_
    exact kX10_readSigns_b147 F C0 hA K10 hK10 zx a1 a2 1 _ _ _ hm hw (lv_sub hl [0, 1, 2] rfl)
  · have hm := Eq.trans (if_pos c1).symm hm
    refine lv_iload_n hx hb dX10_readSigns_124 rfl (lv_at hl 2 rfl) ?_
    refine lv_bipush (v := 48) hx hb dX10_readSigns_125 (by decide) ?_
    refine lv_icmp_lt (tgt := 136) hx hb dX10_readSigns_127 (by decide) (fun c2 => ?_) (fun c2 => ?_)
    · have hm := Eq.trans (if_pos c2).symm hm
      exact kX10_readSigns_b136 F C0 hA K10 hK10 zx a1 a2 _ _ _ hm hw (lv_sub hl [0, 1, 2] rfl)
    · have hm := Eq.trans (if_neg c2).symm hm
      refine lv_iload_n hx hb dX10_readSigns_130 rfl (lv_at hl 2 rfl) ?_
      refine lv_bipush (v := 54) hx hb dX10_readSigns_131 (by decide) ?_
      refine lv_icmp_le (tgt := 142) hx hb dX10_readSigns_133 (by decide) (fun c3 => ?_) (fun c3 => ?_)
      · have hm := Eq.trans (if_pos c3).symm hm
        refine lv_iconst (v := 1) hx hb dX10_readSigns_142 (by decide) ?_
        refine lv_goto (tgt := 147) hx hb dX10_readSigns_143 (by decide) ?_
        exact kX10_readSigns_b147 F C0 hA K10 hK10 zx a1 a2 1 _ _ _ hm hw (lv_sub hl [0, 1, 2] rfl)
      · have hm := Eq.trans (if_neg c3).symm hm
        exact kX10_readSigns_b136 F C0 hA K10 hK10 zx a1 a2 _ _ _ hm hw (lv_sub hl [0, 1, 2] rfl)
set_option maxRecDepth 20000 in
theorem kX10_readSigns_b81 {p : Program} {l : Launch} {e : Env} {s : State} {m : MethodId} {args : Array Value} {below : List Frame} {meth : Method} {c : Code} {A : Nat → Prop} {E : EV} {ad : Nat → Nat} (F : Nat)  {r : Int32} {zx' : OS} (C0 : Cx RX10 "readSigns" cX10_readSigns (some .int) 5 wsX10_readSigns p s m args meth c) (hA : Ax E A s) (K10 : OS → Int32 → Option (Int32 × OS)) (hK10 : ∀ (zx : OS) (a1 : Int32) (H : Heap) (locs : List Loc) (ls : Array Slot), K10 zx a1 = some (r, zx') → Wd E A s H locs (wM E ad zx) → lv_has ls 5 [(0, .ref (ad 0)), (1, .int a1)] → W p l e ({ frames := 3, cells := 0, slots := 0, locals := 68 } : Room) s m args below meth c H locs 0 0 (MQ below (QG E (Qd (some (.int r)) (wM E ad zx')) A) args s 0 0 A) (F0 m 10 ls [])) : ∀ (zx : OS) (a1 : Int32) (a2 : Int32) (H : Heap) (locs : List Loc) (ls : Array Slot), mX10_readSigns_b81 F K10 zx a1 a2 = some (r, zx') → Wd E A s H locs (wM E ad zx) → lv_has ls 5 [(0, .ref (ad 0)), (1, .int a1), (2, .int a2)] → W p l e ({ frames := 3, cells := 0, slots := 0, locals := 68 } : Room) s m args below meth c H locs 0 0 (MQ below (QG E (Qd (some (.int r)) (wM E ad zx')) A) args s 0 0 A) (F0 m 81 ls []) := by
  have hx := C0.1
  have hb := C0.2.1
  intro zx a1 a2 H locs ls hm hw hl
  unfold mX10_readSigns_b81 at hm
  refine lv_iload_n hx hb dX10_readSigns_81 rfl (lv_at hl 2 rfl) ?_
  obtain ⟨r1, h2, hm⟩ := b1_some hm
  refine r_backZ (va_runS (As := [.int a2]) (rest := []) ⟨hx, hb, C0.2.2.2.1, C0.2.2.2.2.1, C0.2.2.2.2.2.1⟩ (tX10_isLetter l E a2 h2 H.size) (va_cwS 1 C0.2.2.2.2.2.1 gX10_readSigns_X10_isLetter rfl rfl rfl (by decide +kernel) ⟨Nat.le_of_ble_eq_true rfl, Nat.le_of_ble_eq_true rfl⟩) ⟨PG_blind, pg_nil hA hw⟩ rfl rfl hl.1 rfl (lv_room (Nat.le_of_ble_eq_true rfl)) dX10_readSigns_82 ⟨Nat.zero_le _, Nat.zero_le _⟩) hA hw (fun H locs hw => ?_)
  refine lv_istore_n (lv' := [(3, .int r1), (0, .ref (ad 0)), (1, .int a1), (2, .int a2)]) hx hb dX10_readSigns_85 rfl hl (by decide) rfl (fun ls hl => ?_)
  refine lv_iload_n hx hb dX10_readSigns_86 rfl (lv_at hl 0 rfl) ?_
  refine lv_if_eq (tgt := 120) hx hb dX10_readSigns_87 (by decide) (fun c3 => ?_) (fun c3 => ?_)
  · have hm := Eq.trans (if_pos c3).symm hm
    exact kX10_readSigns_b120 F C0 hA K10 hK10 zx a1 a2 r1 _ _ _ hm hw (lv_sub hl [1, 2, 3, 0] rfl)
  · have hm := Eq.trans (if_neg c3).symm hm
    refine lv_aload_n hx hb dX10_readSigns_90 rfl (lv_at hl 1 rfl) ?_
    refine gM_0_7 C0 hA hw hiX10_readSigns_X10 lkX10_readSigns_28 dX10_readSigns_91 ?_
    refine lv_iload_n hx hb dX10_readSigns_94 rfl (lv_at hl 2 rfl) ?_
    obtain ⟨c4, hm⟩ := gd_some hm
    refine lM_7 C0 hA hw c4 dX10_readSigns_95 ?_
    refine lv_if_le (tgt := 120) hx hb dX10_readSigns_96 (by decide) (fun c5 => ?_) (fun c5 => ?_)
    · have hm := Eq.trans (if_pos c5).symm hm
      exact kX10_readSigns_b120 F C0 hA K10 hK10 zx a1 a2 r1 _ _ _ hm hw (lv_sub hl [1, 2, 3, 0] rfl)
    · have hm := Eq.trans (if_neg c5).symm hm
      refine lv_aload_n hx hb dX10_readSigns_99 rfl (lv_at hl 1 rfl) ?_
      refine lv_aload_n hx hb dX10_readSigns_100 rfl (lv_at hl 1 rfl) ?_
      refine lv_aload_n hx hb dX10_readSigns_101 rfl (lv_at hl 1 rfl) ?_
      refine gM_0_17 C0 hA hw hiX10_readSigns_X10 lkX10_readSigns_131 dX10_readSigns_102 ?_
      refine lv_iconst (v := 1) hx hb dX10_readSigns_105 (by decide) ?_
      refine lv_iadd hx hb dX10_readSigns_106 ?_
      obtain ⟨r6, h7, hm⟩ := b1_some hm
      refine r_backS (va_runV (As := [.int ((zx.1 17) + 1)]) (rest := [.ref (ad 0)]) ⟨hx, hb, C0.2.2.2.1, C0.2.2.2.2.1, C0.2.2.2.2.2.1⟩ (tX10_blanks l E ad F zx ((zx.1 17) + 1) h7 H.size) (cwV 1 C0.2.2.2.2.2.1 gX10_readSigns_X10_blanks rfl rfl rfl (by decide +kernel) ⟨Nat.le_of_ble_eq_true rfl, Nat.le_of_ble_eq_true rfl⟩) ⟨PG_blind, va_recv hA.2.2.1.1 hw.1 (ci := 10) (q0 := 0) rfl rfl, pg_self hA hw⟩ rfl rfl hl.1 rfl (lv_room (Nat.le_of_ble_eq_true rfl)) dX10_readSigns_107 ⟨Nat.zero_le _, Nat.zero_le _⟩) hA hw (fun H locs hw => ?_)
      obtain ⟨r8, h9, hm⟩ := b1_some hm
      refine r_backS (va_runV (As := [.int r6]) (rest := []) ⟨hx, hb, C0.2.2.2.1, C0.2.2.2.2.1, C0.2.2.2.2.2.1⟩ (tX10_peek l E ad zx r6 h9 H.size) (cwV 1 C0.2.2.2.2.2.1 gX10_readSigns_X10_peek rfl rfl rfl (by decide +kernel) ⟨Nat.le_of_ble_eq_true rfl, Nat.le_of_ble_eq_true rfl⟩) ⟨PG_blind, va_recv hA.2.2.1.1 hw.1 (ci := 10) (q0 := 0) rfl rfl, pg_self hA hw⟩ rfl rfl hl.1 rfl (lv_room (Nat.le_of_ble_eq_true rfl)) dX10_readSigns_110 ⟨Nat.zero_le _, Nat.zero_le _⟩) hA hw (fun H locs hw => ?_)
      refine lv_bipush (v := 61) hx hb dX10_readSigns_113 (by decide) ?_
      refine lv_icmp_ne (tgt := 120) hx hb dX10_readSigns_115 (by decide) (fun c10 => ?_) (fun c10 => ?_)
      · have hm := Eq.trans (if_neg c10).symm hm
        exact kX10_readSigns_b120 F C0 hA K10 hK10 zx a1 a2 r1 _ _ _ hm hw (lv_sub hl [1, 2, 3, 0] rfl)
      · have hm := Eq.trans (if_pos c10).symm hm
        refine lv_iconst (v := 1) hx hb dX10_readSigns_118 (by decide) ?_
        obtain ⟨rfl, rfl⟩ := sj2 hm
        exact r_iret C0 hw dX10_readSigns_119 ⟨rfl, rfl⟩
set_option maxRecDepth 20000 in
theorem kX10_readSigns_b54 {p : Program} {l : Launch} {e : Env} {s : State} {m : MethodId} {args : Array Value} {below : List Frame} {meth : Method} {c : Code} {A : Nat → Prop} {E : EV} {ad : Nat → Nat} (F : Nat)  {r : Int32} {zx' : OS} (C0 : Cx RX10 "readSigns" cX10_readSigns (some .int) 5 wsX10_readSigns p s m args meth c) (hA : Ax E A s) (K10 : OS → Int32 → Option (Int32 × OS)) (hK10 : ∀ (zx : OS) (a1 : Int32) (H : Heap) (locs : List Loc) (ls : Array Slot), K10 zx a1 = some (r, zx') → Wd E A s H locs (wM E ad zx) → lv_has ls 5 [(0, .ref (ad 0)), (1, .int a1)] → W p l e ({ frames := 3, cells := 0, slots := 0, locals := 68 } : Room) s m args below meth c H locs 0 0 (MQ below (QG E (Qd (some (.int r)) (wM E ad zx')) A) args s 0 0 A) (F0 m 10 ls [])) : ∀ (zx : OS) (a1 : Int32) (a2 : Int32) (H : Heap) (locs : List Loc) (ls : Array Slot), mX10_readSigns_b54 F K10 zx a1 a2 = some (r, zx') → Wd E A s H locs (wM E ad zx) → lv_has ls 5 [(0, .ref (ad 0)), (1, .int a1), (2, .int a2)] → W p l e ({ frames := 3, cells := 0, slots := 0, locals := 68 } : Room) s m args below meth c H locs 0 0 (MQ below (QG E (Qd (some (.int r)) (wM E ad zx')) A) args s 0 0 A) (F0 m 54 ls []) := by
  have hx := C0.1
  have hb := C0.2.1
  intro zx a1 a2 H locs ls hm hw hl
  unfold mX10_readSigns_b54 at hm
  refine lv_iload_n hx hb dX10_readSigns_54 rfl (lv_at hl 2 rfl) ?_
  refine lv_bipush (v := 124) hx hb dX10_readSigns_55 (by decide) ?_
  refine lv_icmp_ne (tgt := 81) hx hb dX10_readSigns_57 (by decide) (fun c1 => ?_) (fun c1 => ?_)
  · have hm := Eq.trans (if_neg c1).symm hm
    exact kX10_readSigns_b81 F C0 hA K10 hK10 zx a1 a2 _ _ _ hm hw (lv_sub hl [0, 1, 2] rfl)
  · have hm := Eq.trans (if_pos c1).symm hm
    refine lv_aload_n hx hb dX10_readSigns_60 rfl (lv_at hl 0 rfl) ?_
    refine gM_0_7 C0 hA hw hiX10_readSigns_X10 lkX10_readSigns_28 dX10_readSigns_61 ?_
    refine lv_iload_n hx hb dX10_readSigns_64 rfl (lv_at hl 1 rfl) ?_
    obtain ⟨c2, hm⟩ := gd_some hm
    refine lM_7 C0 hA hw c2 dX10_readSigns_65 ?_
    refine lv_if_le (tgt := 81) hx hb dX10_readSigns_66 (by decide) (fun c3 => ?_) (fun c3 => ?_)
    · have hm := Eq.trans (if_pos c3).symm hm
      exact kX10_readSigns_b81 F C0 hA K10 hK10 zx a1 a2 _ _ _ hm hw (lv_sub hl [0, 1, 2] rfl)
    · have hm := Eq.trans (if_neg c3).symm hm
      refine lv_aload_n hx hb dX10_readSigns_69 rfl (lv_at hl 0 rfl) ?_
      refine lv_dup hx hb dX10_readSigns_70 rfl ?_
      refine gM_0_17 C0 hA hw hiX10_readSigns_X10 lkX10_readSigns_131 dX10_readSigns_71 ?_
      refine lv_iconst (v := 1) hx hb dX10_readSigns_74 (by decide) ?_
      refine lv_iadd hx hb dX10_readSigns_75 ?_
      refine pM_0_17 C0 hA hw hiX10_readSigns_X10 lkX10_readSigns_131 dX10_readSigns_76 (fun zx4 ezx4 H locs hw => ?_)
      have hm := nm_at hm ezx4
      refine lv_iconst (v := 0) hx hb dX10_readSigns_79 (by decide) ?_
      obtain ⟨rfl, rfl⟩ := sj2 hm
      exact r_iret C0 hw dX10_readSigns_80 ⟨rfl, rfl⟩
set_option maxRecDepth 20000 in
theorem kX10_readSigns_b10 {p : Program} {l : Launch} {e : Env} {s : State} {m : MethodId} {args : Array Value} {below : List Frame} {meth : Method} {c : Code} {A : Nat → Prop} {E : EV} {ad : Nat → Nat} (F : Nat)  {r : Int32} {zx' : OS} (C0 : Cx RX10 "readSigns" cX10_readSigns (some .int) 5 wsX10_readSigns p s m args meth c) (hA : Ax E A s) : ∀ (n : Nat) (zx : OS) (a1 : Int32) (H : Heap) (locs : List Loc) (ls : Array Slot), mX10_readSigns_b10 F n zx a1 = some (r, zx') → Wd E A s H locs (wM E ad zx) → lv_has ls 5 [(0, .ref (ad 0)), (1, .int a1)] → W p l e ({ frames := 3, cells := 0, slots := 0, locals := 68 } : Room) s m args below meth c H locs 0 0 (MQ below (QG E (Qd (some (.int r)) (wM E ad zx')) A) args s 0 0 A) (F0 m 10 ls []) := by
  have hx := C0.1
  have hb := C0.2.1
  intro n
  induction n with
  | zero =>
    intro zx a1 H locs ls hm
    cases hm
  | succ n ih =>
    intro zx a1 H locs ls hm hw hl
    unfold mX10_readSigns_b10 at hm
    refine lv_aload_n hx hb dX10_readSigns_10 rfl (lv_at hl 0 rfl) ?_
    refine gM_0_18 C0 hA hw hiX10_readSigns_X10 lkX10_readSigns_124 dX10_readSigns_11 ?_
    refine lv_if_ge (tgt := 226) hx hb dX10_readSigns_14 (by decide) (fun c1 => ?_) (fun c1 => ?_)
    · have hm := Eq.trans (if_pos c1).symm hm
      refine lv_iconst (v := 2) hx hb dX10_readSigns_226 (by decide) ?_
      obtain ⟨rfl, rfl⟩ := sj2 hm
      exact r_iret C0 hw dX10_readSigns_227 ⟨rfl, rfl⟩
    · have hm := Eq.trans (if_neg c1).symm hm
      refine lv_aload_n hx hb dX10_readSigns_17 rfl (lv_at hl 0 rfl) ?_
      refine lv_aload_n hx hb dX10_readSigns_18 rfl (lv_at hl 0 rfl) ?_
      refine lv_aload_n hx hb dX10_readSigns_19 rfl (lv_at hl 0 rfl) ?_
      refine gM_0_17 C0 hA hw hiX10_readSigns_X10 lkX10_readSigns_131 dX10_readSigns_20 ?_
      obtain ⟨r2, h3, hm⟩ := b1_some hm
      refine r_backS (va_runV (As := [.int (zx.1 17)]) (rest := [.ref (ad 0)]) ⟨hx, hb, C0.2.2.2.1, C0.2.2.2.2.1, C0.2.2.2.2.2.1⟩ (tX10_blanks l E ad F zx (zx.1 17) h3 H.size) (cwV 1 C0.2.2.2.2.2.1 gX10_readSigns_X10_blanks rfl rfl rfl (by decide +kernel) ⟨Nat.le_of_ble_eq_true rfl, Nat.le_of_ble_eq_true rfl⟩) ⟨PG_blind, va_recv hA.2.2.1.1 hw.1 (ci := 10) (q0 := 0) rfl rfl, pg_self hA hw⟩ rfl rfl hl.1 rfl (lv_room (Nat.le_of_ble_eq_true rfl)) dX10_readSigns_23 ⟨Nat.zero_le _, Nat.zero_le _⟩) hA hw (fun H locs hw => ?_)
      refine pM_0_17 C0 hA hw hiX10_readSigns_X10 lkX10_readSigns_131 dX10_readSigns_26 (fun zx4 ezx4 H locs hw => ?_)
      have hm := nm_at hm ezx4
      refine lv_aload_n hx hb dX10_readSigns_29 rfl (lv_at hl 0 rfl) ?_
      refine lv_aload_n hx hb dX10_readSigns_30 rfl (lv_at hl 0 rfl) ?_
      refine gM_0_17 C0 hA hw hiX10_readSigns_X10 lkX10_readSigns_131 dX10_readSigns_31 ?_
      obtain ⟨r5, h6, hm⟩ := b1_some hm
      refine r_backS (va_runV (As := [.int (zx4.1 17)]) (rest := []) ⟨hx, hb, C0.2.2.2.1, C0.2.2.2.2.1, C0.2.2.2.2.2.1⟩ (tX10_peek l E ad zx4 (zx4.1 17) h6 H.size) (cwV 1 C0.2.2.2.2.2.1 gX10_readSigns_X10_peek rfl rfl rfl (by decide +kernel) ⟨Nat.le_of_ble_eq_true rfl, Nat.le_of_ble_eq_true rfl⟩) ⟨PG_blind, va_recv hA.2.2.1.1 hw.1 (ci := 10) (q0 := 0) rfl rfl, pg_self hA hw⟩ rfl rfl hl.1 rfl (lv_room (Nat.le_of_ble_eq_true rfl)) dX10_readSigns_34 ⟨Nat.zero_le _, Nat.zero_le _⟩) hA hw (fun H locs hw => ?_)
      refine lv_istore_n (lv' := [(2, .int r5), (0, .ref (ad 0)), (1, .int a1)]) hx hb dX10_readSigns_37 rfl hl (by decide) rfl (fun ls hl => ?_)
      refine lv_iload_n hx hb dX10_readSigns_38 rfl (lv_at hl 0 rfl) ?_
      refine lv_iconst (v := (-1)) hx hb dX10_readSigns_39 (by decide) ?_
      refine lv_icmp_ne (tgt := 54) hx hb dX10_readSigns_40 (by decide) (fun c7 => ?_) (fun c7 => ?_)
      · have hm := Eq.trans (if_neg c7).symm hm
        exact kX10_readSigns_b54 F C0 hA _ ih zx4 a1 r5 _ _ _ hm hw (lv_sub hl [1, 2, 0] rfl)
      · have hm := Eq.trans (if_pos c7).symm hm
        refine lv_aload_n hx hb dX10_readSigns_43 rfl (lv_at hl 1 rfl) ?_
        refine gM_0_7 C0 hA hw hiX10_readSigns_X10 lkX10_readSigns_28 dX10_readSigns_44 ?_
        refine lv_iload_n hx hb dX10_readSigns_47 rfl (lv_at hl 2 rfl) ?_
        obtain ⟨c8, hm⟩ := gd_some hm
        refine lM_7 C0 hA hw c8 dX10_readSigns_48 ?_
        refine lv_if_le (tgt := 54) hx hb dX10_readSigns_49 (by decide) (fun c9 => ?_) (fun c9 => ?_)
        · have hm := Eq.trans (if_pos c9).symm hm
          exact kX10_readSigns_b54 F C0 hA _ ih zx4 a1 r5 _ _ _ hm hw (lv_sub hl [1, 2, 0] rfl)
        · have hm := Eq.trans (if_neg c9).symm hm
          refine lv_iconst (v := 2) hx hb dX10_readSigns_52 (by decide) ?_
          obtain ⟨rfl, rfl⟩ := sj2 hm
          exact r_iret C0 hw dX10_readSigns_53 ⟨rfl, rfl⟩
set_option maxRecDepth 20000 in
theorem kX10_readSigns_b0 {p : Program} {l : Launch} {e : Env} {s : State} {m : MethodId} {args : Array Value} {below : List Frame} {meth : Method} {c : Code} {A : Nat → Prop} {E : EV} {ad : Nat → Nat} (F : Nat)  {r : Int32} {zx' : OS} (C0 : Cx RX10 "readSigns" cX10_readSigns (some .int) 5 wsX10_readSigns p s m args meth c) (hA : Ax E A s) : ∀ (zx : OS) (H : Heap) (locs : List Loc) (ls : Array Slot), mX10_readSigns_b0 F zx = some (r, zx') → Wd E A s H locs (wM E ad zx) → lv_has ls 5 [(0, .ref (ad 0))] → W p l e ({ frames := 3, cells := 0, slots := 0, locals := 68 } : Room) s m args below meth c H locs 0 0 (MQ below (QG E (Qd (some (.int r)) (wM E ad zx')) A) args s 0 0 A) (F0 m 0 ls []) := by
  have hx := C0.1
  have hb := C0.2.1
  intro zx H locs ls hm hw hl
  unfold mX10_readSigns_b0 at hm
  refine lv_bipush (v := 47) hx hb dX10_readSigns_0 (by decide) ?_
  refine lv_aload_n hx hb dX10_readSigns_2 rfl (lv_at hl 0 rfl) ?_
  refine gM_0_14 C0 hA hw hiX10_readSigns_X10 lkX10_readSigns_49 dX10_readSigns_3 ?_
  refine lv_iconst (v := 1) hx hb dX10_readSigns_6 (by decide) ?_
  obtain ⟨c1, hm⟩ := gd_some hm
  refine lM_14 C0 hA hw c1 dX10_readSigns_7 ?_
  refine lv_iadd hx hb dX10_readSigns_8 ?_
  refine lv_topi (fun v2 ev2 => ?_)
  have hm := nm_at hm ev2
  refine lv_istore_n (lv' := [(1, .int v2), (0, .ref (ad 0))]) hx hb dX10_readSigns_9 rfl hl (by decide) rfl (fun ls hl => ?_)
  exact kX10_readSigns_b10 F C0 hA F zx v2 _ _ _ hm hw (lv_sub hl [1, 0] rfl)
theorem tX10_readSigns (l : Launch) (E : EV) (ad : Nat → Nat) (F : Nat) (zx : OS)  {r : Int32} {zx' : OS} (hm : mX10_readSigns F zx = some (r, zx')) : CT l yX10_readSigns wsX10_readSigns ({ frames := 3, cells := 0, slots := 0, locals := 68 } : Room) E [.ref (ad 0)] (wM E ad zx) (Qd (some (.int r)) (wM E ad zx')) 0 0 :=
  CT.of (mL := 5) (lvs := [(0, .ref (ad 0))]) (by decide +kernel) rfl (Nat.le_of_ble_eq_true rfl) rfl rfl rfl (fun p e s m below meth c A C0 hA hw ls hl => kX10_readSigns_b0 (ad := ad) F C0 hA zx _ _ _ hm hw (lv_sub hl [0] rfl))
theorem lkX10_readRule_124 : Cond.fieldLink RX10 124 (TX10 18).1 (TX10 18).2.1 (TX10 18).2.2.1 ∈ wsX10_readRule := by decide +kernel
theorem lkX10_readRule_46 : Cond.fieldLink RX10 46 (TX10 13).1 (TX10 13).2.1 (TX10 13).2.2.1 ∈ wsX10_readRule := by decide +kernel
theorem lkX10_readRule_16 : Cond.fieldLink RX10 16 (TX10 3).1 (TX10 3).2.1 (TX10 3).2.2.1 ∈ wsX10_readRule := by decide +kernel
theorem lkX10_readRule_49 : Cond.fieldLink RX10 49 (TX10 14).1 (TX10 14).2.1 (TX10 14).2.2.1 ∈ wsX10_readRule := by decide +kernel
theorem lkX10_readRule_131 : Cond.fieldLink RX10 131 (TX10 17).1 (TX10 17).2.1 (TX10 17).2.2.1 ∈ wsX10_readRule := by decide +kernel
theorem lkX10_readRule_19 : Cond.fieldLink RX10 19 (TX10 4).1 (TX10 4).2.1 (TX10 4).2.2.1 ∈ wsX10_readRule := by decide +kernel
theorem lkX10_readRule_55 : Cond.fieldLink RX10 55 (TX10 16).1 (TX10 16).2.1 (TX10 16).2.2.1 ∈ wsX10_readRule := by decide +kernel
theorem hiX10_readRule_X10 : ∀ w ∈ u_ws RX10 TX10 53, w ∈ wsX10_readRule := by decide +kernel
def mX10_readRule_b113 (F : Nat)  (zx : OS) (a1 : Int32) : Option (Int32 × OS) := b1 (mX10_fail zx a1) (fun zx1 => some (0, zx1))
def mX10_readRule_b208 (F : Nat)  (zx : OS) (a3 : Int32) : Option (Int32 × OS) := (if (a3 : Int32) = 1 then some (1, zx) else some (0, zx))
def mX10_readRule_b173 (F : Nat)  : Nat → OS → Int32 → Int32 → Option (Int32 × OS)
  | 0, _, _, _ => none
  | n + 1, zx, a2, a3 => (if (a3 : Int32) = 0 then (if 0 ≤ (zx.1 18 : Int32) then mX10_readRule_b208 F zx a3 else b1 (mX10_readWeight F zx a2) (fun zx3 => (if 0 ≤ (zx3.1 18 : Int32) then nm (2 : Int32) (fun v6 => mX10_readRule_b173 F n zx3 a2 v6) else b2 (mX10_readSigns F zx3) (fun r7 zx8 => mX10_readRule_b173 F n zx8 a2 r7)))) else mX10_readRule_b208 F zx a3)
def mX10_readRule_b146 (F : Nat)  (zx : OS) (a2 : Int32) : Option (Int32 × OS) := gd 1 2 (gd 1 2 (nm (sA zx 13 1 ((zx.2.2.1 13 (1 : Int32).toNatClampNeg) + 1)) (fun zx3 => gd 1 2 (gd (26 + a2) 52 (nm (sA zx3 3 (26 + a2) (zx3.2.2.1 14 (1 : Int32).toNatClampNeg)) (fun zx6 => nm (0 : Int32) (fun v7 => mX10_readRule_b173 F F zx6 a2 v7)))))))
def mX10_readRule_b0 (F : Nat)  (zx : OS) : Option (Int32 × OS) := b1 (mX10_blanks F zx (zx.1 17)) (fun r1 => nm (sI zx 17 r1) (fun zx3 => nm (zx3.1 17 : Int32) (fun v4 => b1 (mX10_peek zx3 (zx3.1 17)) (fun r5 => b1 (mX10_isLetter r5) (fun r7 => (if (r7 : Int32) = 0 then b1 (mX10_fail zx3 (zx3.1 17)) (fun zx30 => some (0, zx30)) else b1 (mX10_peek zx3 (zx3.1 17)) (fun r10 => nm (r10 - 65 : Int32) (fun v12 => b1 (mX10_blanks F zx3 ((zx3.1 17) + 1)) (fun r13 => nm (sI zx3 17 r13) (fun zx15 => b1 (mX10_peek zx15 (zx15.1 17)) (fun r16 => (if (r16 : Int32) = 61 then gd (26 + v12) 52 ((if 0 < (zx15.2.2.1 4 (26 + v12 : Int32).toNatClampNeg : Int32) then mX10_readRule_b113 F zx15 v4 else gd 1 2 ((if (zx15.2.2.1 13 (1 : Int32).toNatClampNeg : Int32) = 16 then mX10_readRule_b113 F zx15 v4 else nm (sI zx15 17 ((zx15.1 17) + 1)) (fun zx23 => gd 1 2 ((if (zx23.2.2.1 13 (1 : Int32).toNatClampNeg : Int32) = 0 then gd 1 2 (nm (sA zx23 16 1 v12) (fun zx27 => mX10_readRule_b146 F zx27 v12)) else mX10_readRule_b146 F zx23 v12))))))) else b1 (mX10_fail zx15 (zx15.1 17)) (fun zx28 => some (0, zx28))))))))))))))
def mX10_readRule (F : Nat) (zx : OS)  : Option (Int32 × OS) := mX10_readRule_b0 F zx
set_option maxRecDepth 20000 in
theorem kX10_readRule_b113 {p : Program} {l : Launch} {e : Env} {s : State} {m : MethodId} {args : Array Value} {below : List Frame} {meth : Method} {c : Code} {A : Nat → Prop} {E : EV} {ad : Nat → Nat} (F : Nat)  {r : Int32} {zx' : OS} (C0 : Cx RX10 "readRule" cX10_readRule (some .boolean) 4 wsX10_readRule p s m args meth c) (hA : Ax E A s) : ∀ (zx : OS) (a1 : Int32) (H : Heap) (locs : List Loc) (ls : Array Slot), mX10_readRule_b113 F zx a1 = some (r, zx') → Wd E A s H locs (wM E ad zx) → lv_has ls 4 [(0, .ref (ad 0)), (1, .int a1)] → W p l e ({ frames := 4, cells := 0, slots := 0, locals := 92 } : Room) s m args below meth c H locs 0 0 (MQ below (QG E (Qd (some (.int r)) (wM E ad zx')) A) args s 0 0 A) (F0 m 113 ls []) := by
  have hx := C0.1
  have hb := C0.2.1
  intro zx a1 H locs ls hm hw hl
  unfold mX10_readRule_b113 at hm
  refine lv_aload_n hx hb dX10_readRule_113 rfl (lv_at hl 0 rfl) ?_
  refine lv_iload_n hx hb dX10_readRule_114 rfl (lv_at hl 1 rfl) ?_
  obtain ⟨zx1, h2, hm⟩ := b1_some hm
  refine r_backS (va_runV (As := [.int a1]) (rest := []) ⟨hx, hb, C0.2.2.2.1, C0.2.2.2.2.1, C0.2.2.2.2.2.1⟩ (tX10_fail l E ad zx a1 h2 H.size) (cwV 1 C0.2.2.2.2.2.1 gX10_readRule_X10_fail rfl rfl rfl (by decide +kernel) ⟨Nat.le_of_ble_eq_true rfl, Nat.le_of_ble_eq_true rfl⟩) ⟨PG_blind, va_recv hA.2.2.1.1 hw.1 (ci := 10) (q0 := 0) rfl rfl, pg_self hA hw⟩ rfl rfl hl.1 rfl (lv_room (Nat.le_of_ble_eq_true rfl)) dX10_readRule_115 ⟨Nat.zero_le _, Nat.zero_le _⟩) hA hw (fun H locs hw => ?_)
  refine lv_iconst (v := 0) hx hb dX10_readRule_118 (by decide) ?_
  obtain ⟨rfl, rfl⟩ := sj2 hm
  exact r_zret C0 hw dX10_readRule_119 rfl ⟨rfl, rfl⟩
set_option maxRecDepth 20000 in
theorem kX10_readRule_b208 {p : Program} {l : Launch} {e : Env} {s : State} {m : MethodId} {args : Array Value} {below : List Frame} {meth : Method} {c : Code} {A : Nat → Prop} {E : EV} {ad : Nat → Nat} (F : Nat)  {r : Int32} {zx' : OS} (C0 : Cx RX10 "readRule" cX10_readRule (some .boolean) 4 wsX10_readRule p s m args meth c) (hA : Ax E A s) : ∀ (zx : OS) (a3 : Int32) (H : Heap) (locs : List Loc) (ls : Array Slot), mX10_readRule_b208 F zx a3 = some (r, zx') → Wd E A s H locs (wM E ad zx) → lv_has ls 4 [(3, .int a3)] → W p l e ({ frames := 4, cells := 0, slots := 0, locals := 92 } : Room) s m args below meth c H locs 0 0 (MQ below (QG E (Qd (some (.int r)) (wM E ad zx')) A) args s 0 0 A) (F0 m 208 ls []) := by
  have hx := C0.1
  have hb := C0.2.1
  intro zx a3 H locs ls hm hw hl
  unfold mX10_readRule_b208 at hm
  refine lv_iload_n hx hb dX10_readRule_208 rfl (lv_at hl 0 rfl) ?_
  refine lv_iconst (v := 1) hx hb dX10_readRule_209 (by decide) ?_
  refine lv_icmp_ne (tgt := 217) hx hb dX10_readRule_210 (by decide) (fun c1 => ?_) (fun c1 => ?_)
  · have hm := Eq.trans (if_neg c1).symm hm
    refine lv_iconst (v := 0) hx hb dX10_readRule_217 (by decide) ?_
    obtain ⟨rfl, rfl⟩ := sj2 hm
    exact r_zret C0 hw dX10_readRule_218 rfl ⟨rfl, rfl⟩
  · have hm := Eq.trans (if_pos c1).symm hm
    refine lv_iconst (v := 1) hx hb dX10_readRule_213 (by decide) ?_
    refine lv_goto (tgt := 218) hx hb dX10_readRule_214 (by decide) ?_
    obtain ⟨rfl, rfl⟩ := sj2 hm
    exact r_zret C0 hw dX10_readRule_218 rfl ⟨rfl, rfl⟩
set_option maxRecDepth 20000 in
theorem kX10_readRule_b173 {p : Program} {l : Launch} {e : Env} {s : State} {m : MethodId} {args : Array Value} {below : List Frame} {meth : Method} {c : Code} {A : Nat → Prop} {E : EV} {ad : Nat → Nat} (F : Nat)  {r : Int32} {zx' : OS} (C0 : Cx RX10 "readRule" cX10_readRule (some .boolean) 4 wsX10_readRule p s m args meth c) (hA : Ax E A s) : ∀ (n : Nat) (zx : OS) (a2 : Int32) (a3 : Int32) (H : Heap) (locs : List Loc) (ls : Array Slot), mX10_readRule_b173 F n zx a2 a3 = some (r, zx') → Wd E A s H locs (wM E ad zx) → lv_has ls 4 [(0, .ref (ad 0)), (2, .int a2), (3, .int a3)] → W p l e ({ frames := 4, cells := 0, slots := 0, locals := 92 } : Room) s m args below meth c H locs 0 0 (MQ below (QG E (Qd (some (.int r)) (wM E ad zx')) A) args s 0 0 A) (F0 m 173 ls []) := by
  have hx := C0.1
  have hb := C0.2.1
  intro n
  induction n with
  | zero =>
    intro zx a2 a3 H locs ls hm
    cases hm
  | succ n ih =>
    intro zx a2 a3 H locs ls hm hw hl
    unfold mX10_readRule_b173 at hm
    refine lv_iload_n hx hb dX10_readRule_173 rfl (lv_at hl 2 rfl) ?_
    refine lv_if_ne (tgt := 208) hx hb dX10_readRule_174 (by decide) (fun c1 => ?_) (fun c1 => ?_)
    · have hm := Eq.trans (if_neg c1).symm hm
      exact kX10_readRule_b208 F C0 hA zx a3 _ _ _ hm hw (lv_sub hl [2] rfl)
    · have hm := Eq.trans (if_pos c1).symm hm
      refine lv_aload_n hx hb dX10_readRule_177 rfl (lv_at hl 0 rfl) ?_
      refine gM_0_18 C0 hA hw hiX10_readRule_X10 lkX10_readRule_124 dX10_readRule_178 ?_
      refine lv_if_ge (tgt := 208) hx hb dX10_readRule_181 (by decide) (fun c2 => ?_) (fun c2 => ?_)
      · have hm := Eq.trans (if_pos c2).symm hm
        exact kX10_readRule_b208 F C0 hA zx a3 _ _ _ hm hw (lv_sub hl [2] rfl)
      · have hm := Eq.trans (if_neg c2).symm hm
        refine lv_aload_n hx hb dX10_readRule_184 rfl (lv_at hl 0 rfl) ?_
        refine lv_iload_n hx hb dX10_readRule_185 rfl (lv_at hl 1 rfl) ?_
        obtain ⟨zx3, h4, hm⟩ := b1_some hm
        refine r_backS (va_runV (As := [.int a2]) (rest := []) ⟨hx, hb, C0.2.2.2.1, C0.2.2.2.2.1, C0.2.2.2.2.2.1⟩ (tX10_readWeight l E ad F zx a2 h4 H.size) (cwV 1 C0.2.2.2.2.2.1 gX10_readRule_X10_readWeight rfl rfl rfl (by decide +kernel) ⟨Nat.le_of_ble_eq_true rfl, Nat.le_of_ble_eq_true rfl⟩) ⟨PG_blind, va_recv hA.2.2.1.1 hw.1 (ci := 10) (q0 := 0) rfl rfl, pg_self hA hw⟩ rfl rfl hl.1 rfl (lv_room (Nat.le_of_ble_eq_true rfl)) dX10_readRule_186 ⟨Nat.zero_le _, Nat.zero_le _⟩) hA hw (fun H locs hw => ?_)
        refine lv_aload_n hx hb dX10_readRule_189 rfl (lv_at hl 0 rfl) ?_
        refine gM_0_18 C0 hA hw hiX10_readRule_X10 lkX10_readRule_124 dX10_readRule_190 ?_
        refine lv_if_ge (tgt := 203) hx hb dX10_readRule_193 (by decide) (fun c5 => ?_) (fun c5 => ?_)
        · have hm := Eq.trans (if_pos c5).symm hm
          refine lv_iconst (v := 2) hx hb dX10_readRule_203 (by decide) ?_
          refine lv_topi (fun v6 ev6 => ?_)
          have hm := nm_at hm ev6
          refine lv_istore_n (lv' := [(3, .int v6), (0, .ref (ad 0)), (2, .int a2)]) hx hb dX10_readRule_204 rfl hl (by decide) rfl (fun ls hl => ?_)
          refine lv_goto (tgt := 173) hx hb dX10_readRule_205 (by decide) ?_
          exact ih zx3 a2 v6 _ _ _ hm hw (lv_sub hl [1, 2, 0] rfl)
        · have hm := Eq.trans (if_neg c5).symm hm
          refine lv_aload_n hx hb dX10_readRule_196 rfl (lv_at hl 0 rfl) ?_
          obtain ⟨r7, zx8, h9, hm⟩ := b2_some hm
          refine r_backS (va_runV (As := []) (rest := []) ⟨hx, hb, C0.2.2.2.1, C0.2.2.2.2.1, C0.2.2.2.2.2.1⟩ (tX10_readSigns l E ad F zx3 h9 H.size) (cwV 0 C0.2.2.2.2.2.1 gX10_readRule_X10_readSigns rfl rfl rfl (by decide +kernel) ⟨Nat.le_of_ble_eq_true rfl, Nat.le_of_ble_eq_true rfl⟩) ⟨PG_blind, va_recv hA.2.2.1.1 hw.1 (ci := 10) (q0 := 0) rfl rfl, pg_self hA hw⟩ rfl rfl hl.1 rfl (lv_room (Nat.le_of_ble_eq_true rfl)) dX10_readRule_197 ⟨Nat.zero_le _, Nat.zero_le _⟩) hA hw (fun H locs hw => ?_)
          refine lv_goto (tgt := 204) hx hb dX10_readRule_200 (by decide) ?_
          refine lv_istore_n (lv' := [(3, .int r7), (0, .ref (ad 0)), (2, .int a2)]) hx hb dX10_readRule_204 rfl hl (by decide) rfl (fun ls hl => ?_)
          refine lv_goto (tgt := 173) hx hb dX10_readRule_205 (by decide) ?_
          exact ih zx8 a2 r7 _ _ _ hm hw (lv_sub hl [1, 2, 0] rfl)
set_option maxRecDepth 20000 in
theorem kX10_readRule_b146 {p : Program} {l : Launch} {e : Env} {s : State} {m : MethodId} {args : Array Value} {below : List Frame} {meth : Method} {c : Code} {A : Nat → Prop} {E : EV} {ad : Nat → Nat} (F : Nat)  {r : Int32} {zx' : OS} (C0 : Cx RX10 "readRule" cX10_readRule (some .boolean) 4 wsX10_readRule p s m args meth c) (hA : Ax E A s) : ∀ (zx : OS) (a2 : Int32) (H : Heap) (locs : List Loc) (ls : Array Slot), mX10_readRule_b146 F zx a2 = some (r, zx') → Wd E A s H locs (wM E ad zx) → lv_has ls 4 [(0, .ref (ad 0)), (2, .int a2)] → W p l e ({ frames := 4, cells := 0, slots := 0, locals := 92 } : Room) s m args below meth c H locs 0 0 (MQ below (QG E (Qd (some (.int r)) (wM E ad zx')) A) args s 0 0 A) (F0 m 146 ls []) := by
  have hx := C0.1
  have hb := C0.2.1
  intro zx a2 H locs ls hm hw hl
  unfold mX10_readRule_b146 at hm
  refine lv_aload_n hx hb dX10_readRule_146 rfl (lv_at hl 0 rfl) ?_
  refine gM_0_13 C0 hA hw hiX10_readRule_X10 lkX10_readRule_46 dX10_readRule_147 ?_
  refine lv_iconst (v := 1) hx hb dX10_readRule_150 (by decide) ?_
  refine lv_dup2_11 hx hb dX10_readRule_151 rfl rfl ?_
  obtain ⟨c1, hm⟩ := gd_some hm
  refine lM_13 C0 hA hw c1 dX10_readRule_152 ?_
  refine lv_iconst (v := 1) hx hb dX10_readRule_153 (by decide) ?_
  refine lv_iadd hx hb dX10_readRule_154 ?_
  obtain ⟨c2, hm⟩ := gd_some hm
  refine sM_13 C0 hA hw c2 dX10_readRule_155 (fun zx3 ezx3 H locs hw => ?_)
  have hm := nm_at hm ezx3
  refine lv_aload_n hx hb dX10_readRule_156 rfl (lv_at hl 0 rfl) ?_
  refine gM_0_3 C0 hA hw hiX10_readRule_X10 lkX10_readRule_16 dX10_readRule_157 ?_
  refine lv_bipush (v := 26) hx hb dX10_readRule_160 (by decide) ?_
  refine lv_iload_n hx hb dX10_readRule_162 rfl (lv_at hl 1 rfl) ?_
  refine lv_iadd hx hb dX10_readRule_163 ?_
  refine lv_aload_n hx hb dX10_readRule_164 rfl (lv_at hl 0 rfl) ?_
  refine gM_0_14 C0 hA hw hiX10_readRule_X10 lkX10_readRule_49 dX10_readRule_165 ?_
  refine lv_iconst (v := 1) hx hb dX10_readRule_168 (by decide) ?_
  obtain ⟨c4, hm⟩ := gd_some hm
  refine lM_14 C0 hA hw c4 dX10_readRule_169 ?_
  obtain ⟨c5, hm⟩ := gd_some hm
  refine sM_3 C0 hA hw c5 dX10_readRule_170 (fun zx6 ezx6 H locs hw => ?_)
  have hm := nm_at hm ezx6
  refine lv_iconst (v := 0) hx hb dX10_readRule_171 (by decide) ?_
  refine lv_topi (fun v7 ev7 => ?_)
  have hm := nm_at hm ev7
  refine lv_istore_n (lv' := [(3, .int v7), (0, .ref (ad 0)), (2, .int a2)]) hx hb dX10_readRule_172 rfl hl (by decide) rfl (fun ls hl => ?_)
  exact kX10_readRule_b173 F C0 hA F zx6 a2 v7 _ _ _ hm hw (lv_sub hl [1, 2, 0] rfl)
set_option maxRecDepth 20000 in
theorem kX10_readRule_b0 {p : Program} {l : Launch} {e : Env} {s : State} {m : MethodId} {args : Array Value} {below : List Frame} {meth : Method} {c : Code} {A : Nat → Prop} {E : EV} {ad : Nat → Nat} (F : Nat)  {r : Int32} {zx' : OS} (C0 : Cx RX10 "readRule" cX10_readRule (some .boolean) 4 wsX10_readRule p s m args meth c) (hA : Ax E A s) : ∀ (zx : OS) (H : Heap) (locs : List Loc) (ls : Array Slot), mX10_readRule_b0 F zx = some (r, zx') → Wd E A s H locs (wM E ad zx) → lv_has ls 4 [(0, .ref (ad 0))] → W p l e ({ frames := 4, cells := 0, slots := 0, locals := 92 } : Room) s m args below meth c H locs 0 0 (MQ below (QG E (Qd (some (.int r)) (wM E ad zx')) A) args s 0 0 A) (F0 m 0 ls []) := by
  have hx := C0.1
  have hb := C0.2.1
  intro zx H locs ls hm hw hl
  unfold mX10_readRule_b0 at hm
  refine lv_aload_n hx hb dX10_readRule_0 rfl (lv_at hl 0 rfl) ?_
  refine lv_aload_n hx hb dX10_readRule_1 rfl (lv_at hl 0 rfl) ?_
  refine lv_aload_n hx hb dX10_readRule_2 rfl (lv_at hl 0 rfl) ?_
  refine gM_0_17 C0 hA hw hiX10_readRule_X10 lkX10_readRule_131 dX10_readRule_3 ?_
  obtain ⟨r1, h2, hm⟩ := b1_some hm
  refine r_backS (va_runV (As := [.int (zx.1 17)]) (rest := [.ref (ad 0)]) ⟨hx, hb, C0.2.2.2.1, C0.2.2.2.2.1, C0.2.2.2.2.2.1⟩ (tX10_blanks l E ad F zx (zx.1 17) h2 H.size) (cwV 1 C0.2.2.2.2.2.1 gX10_readRule_X10_blanks rfl rfl rfl (by decide +kernel) ⟨Nat.le_of_ble_eq_true rfl, Nat.le_of_ble_eq_true rfl⟩) ⟨PG_blind, va_recv hA.2.2.1.1 hw.1 (ci := 10) (q0 := 0) rfl rfl, pg_self hA hw⟩ rfl rfl hl.1 rfl (lv_room (Nat.le_of_ble_eq_true rfl)) dX10_readRule_6 ⟨Nat.zero_le _, Nat.zero_le _⟩) hA hw (fun H locs hw => ?_)
  refine pM_0_17 C0 hA hw hiX10_readRule_X10 lkX10_readRule_131 dX10_readRule_9 (fun zx3 ezx3 H locs hw => ?_)
  have hm := nm_at hm ezx3
  refine lv_aload_n hx hb dX10_readRule_12 rfl (lv_at hl 0 rfl) ?_
  refine gM_0_17 C0 hA hw hiX10_readRule_X10 lkX10_readRule_131 dX10_readRule_13 ?_
  refine lv_topi (fun v4 ev4 => ?_)
  have hm := nm_at hm ev4
  refine lv_istore_n (lv' := [(1, .int v4), (0, .ref (ad 0))]) hx hb dX10_readRule_16 rfl hl (by decide) rfl (fun ls hl => ?_)
  refine lv_aload_n hx hb dX10_readRule_17 rfl (lv_at hl 1 rfl) ?_
  refine lv_aload_n hx hb dX10_readRule_18 rfl (lv_at hl 1 rfl) ?_
  refine gM_0_17 C0 hA hw hiX10_readRule_X10 lkX10_readRule_131 dX10_readRule_19 ?_
  obtain ⟨r5, h6, hm⟩ := b1_some hm
  refine r_backS (va_runV (As := [.int (zx3.1 17)]) (rest := []) ⟨hx, hb, C0.2.2.2.1, C0.2.2.2.2.1, C0.2.2.2.2.2.1⟩ (tX10_peek l E ad zx3 (zx3.1 17) h6 H.size) (cwV 1 C0.2.2.2.2.2.1 gX10_readRule_X10_peek rfl rfl rfl (by decide +kernel) ⟨Nat.le_of_ble_eq_true rfl, Nat.le_of_ble_eq_true rfl⟩) ⟨PG_blind, va_recv hA.2.2.1.1 hw.1 (ci := 10) (q0 := 0) rfl rfl, pg_self hA hw⟩ rfl rfl hl.1 rfl (lv_room (Nat.le_of_ble_eq_true rfl)) dX10_readRule_22 ⟨Nat.zero_le _, Nat.zero_le _⟩) hA hw (fun H locs hw => ?_)
  obtain ⟨r7, h8, hm⟩ := b1_some hm
  refine r_backZ (va_runS (As := [.int r5]) (rest := []) ⟨hx, hb, C0.2.2.2.1, C0.2.2.2.2.1, C0.2.2.2.2.2.1⟩ (tX10_isLetter l E r5 h8 H.size) (va_cwS 1 C0.2.2.2.2.2.1 gX10_readRule_X10_isLetter rfl rfl rfl (by decide +kernel) ⟨Nat.le_of_ble_eq_true rfl, Nat.le_of_ble_eq_true rfl⟩) ⟨PG_blind, pg_nil hA hw⟩ rfl rfl hl.1 rfl (lv_room (Nat.le_of_ble_eq_true rfl)) dX10_readRule_25 ⟨Nat.zero_le _, Nat.zero_le _⟩) hA hw (fun H locs hw => ?_)
  refine lv_if_ne (tgt := 41) hx hb dX10_readRule_28 (by decide) (fun c9 => ?_) (fun c9 => ?_)
  · have hm := Eq.trans (if_neg c9).symm hm
    refine lv_aload_n hx hb dX10_readRule_41 rfl (lv_at hl 1 rfl) ?_
    refine lv_aload_n hx hb dX10_readRule_42 rfl (lv_at hl 1 rfl) ?_
    refine gM_0_17 C0 hA hw hiX10_readRule_X10 lkX10_readRule_131 dX10_readRule_43 ?_
    obtain ⟨r10, h11, hm⟩ := b1_some hm
    refine r_backS (va_runV (As := [.int (zx3.1 17)]) (rest := []) ⟨hx, hb, C0.2.2.2.1, C0.2.2.2.2.1, C0.2.2.2.2.2.1⟩ (tX10_peek l E ad zx3 (zx3.1 17) h11 H.size) (cwV 1 C0.2.2.2.2.2.1 gX10_readRule_X10_peek rfl rfl rfl (by decide +kernel) ⟨Nat.le_of_ble_eq_true rfl, Nat.le_of_ble_eq_true rfl⟩) ⟨PG_blind, va_recv hA.2.2.1.1 hw.1 (ci := 10) (q0 := 0) rfl rfl, pg_self hA hw⟩ rfl rfl hl.1 rfl (lv_room (Nat.le_of_ble_eq_true rfl)) dX10_readRule_46 ⟨Nat.zero_le _, Nat.zero_le _⟩) hA hw (fun H locs hw => ?_)
    refine lv_bipush (v := 65) hx hb dX10_readRule_49 (by decide) ?_
    refine lv_isub hx hb dX10_readRule_51 ?_
    refine lv_topi (fun v12 ev12 => ?_)
    have hm := nm_at hm ev12
    refine lv_istore_n (lv' := [(2, .int v12), (1, .int v4), (0, .ref (ad 0))]) hx hb dX10_readRule_52 rfl hl (by decide) rfl (fun ls hl => ?_)
    refine lv_aload_n hx hb dX10_readRule_53 rfl (lv_at hl 2 rfl) ?_
    refine lv_aload_n hx hb dX10_readRule_54 rfl (lv_at hl 2 rfl) ?_
    refine lv_aload_n hx hb dX10_readRule_55 rfl (lv_at hl 2 rfl) ?_
    refine gM_0_17 C0 hA hw hiX10_readRule_X10 lkX10_readRule_131 dX10_readRule_56 ?_
    refine lv_iconst (v := 1) hx hb dX10_readRule_59 (by decide) ?_
    refine lv_iadd hx hb dX10_readRule_60 ?_
    obtain ⟨r13, h14, hm⟩ := b1_some hm
    refine r_backS (va_runV (As := [.int ((zx3.1 17) + 1)]) (rest := [.ref (ad 0)]) ⟨hx, hb, C0.2.2.2.1, C0.2.2.2.2.1, C0.2.2.2.2.2.1⟩ (tX10_blanks l E ad F zx3 ((zx3.1 17) + 1) h14 H.size) (cwV 1 C0.2.2.2.2.2.1 gX10_readRule_X10_blanks rfl rfl rfl (by decide +kernel) ⟨Nat.le_of_ble_eq_true rfl, Nat.le_of_ble_eq_true rfl⟩) ⟨PG_blind, va_recv hA.2.2.1.1 hw.1 (ci := 10) (q0 := 0) rfl rfl, pg_self hA hw⟩ rfl rfl hl.1 rfl (lv_room (Nat.le_of_ble_eq_true rfl)) dX10_readRule_61 ⟨Nat.zero_le _, Nat.zero_le _⟩) hA hw (fun H locs hw => ?_)
    refine pM_0_17 C0 hA hw hiX10_readRule_X10 lkX10_readRule_131 dX10_readRule_64 (fun zx15 ezx15 H locs hw => ?_)
    have hm := nm_at hm ezx15
    refine lv_aload_n hx hb dX10_readRule_67 rfl (lv_at hl 2 rfl) ?_
    refine lv_aload_n hx hb dX10_readRule_68 rfl (lv_at hl 2 rfl) ?_
    refine gM_0_17 C0 hA hw hiX10_readRule_X10 lkX10_readRule_131 dX10_readRule_69 ?_
    obtain ⟨r16, h17, hm⟩ := b1_some hm
    refine r_backS (va_runV (As := [.int (zx15.1 17)]) (rest := []) ⟨hx, hb, C0.2.2.2.1, C0.2.2.2.2.1, C0.2.2.2.2.2.1⟩ (tX10_peek l E ad zx15 (zx15.1 17) h17 H.size) (cwV 1 C0.2.2.2.2.2.1 gX10_readRule_X10_peek rfl rfl rfl (by decide +kernel) ⟨Nat.le_of_ble_eq_true rfl, Nat.le_of_ble_eq_true rfl⟩) ⟨PG_blind, va_recv hA.2.2.1.1 hw.1 (ci := 10) (q0 := 0) rfl rfl, pg_self hA hw⟩ rfl rfl hl.1 rfl (lv_room (Nat.le_of_ble_eq_true rfl)) dX10_readRule_72 ⟨Nat.zero_le _, Nat.zero_le _⟩) hA hw (fun H locs hw => ?_)
    refine lv_bipush (v := 61) hx hb dX10_readRule_75 (by decide) ?_
    refine lv_icmp_eq (tgt := 90) hx hb dX10_readRule_77 (by decide) (fun c18 => ?_) (fun c18 => ?_)
    · have hm := Eq.trans (if_pos c18).symm hm
      refine lv_aload_n hx hb dX10_readRule_90 rfl (lv_at hl 2 rfl) ?_
      refine gM_0_4 C0 hA hw hiX10_readRule_X10 lkX10_readRule_19 dX10_readRule_91 ?_
      refine lv_bipush (v := 26) hx hb dX10_readRule_94 (by decide) ?_
      refine lv_iload_n hx hb dX10_readRule_96 rfl (lv_at hl 0 rfl) ?_
      refine lv_iadd hx hb dX10_readRule_97 ?_
      obtain ⟨c19, hm⟩ := gd_some hm
      refine lM_4 C0 hA hw c19 dX10_readRule_98 ?_
      refine lv_if_gt (tgt := 113) hx hb dX10_readRule_99 (by decide) (fun c20 => ?_) (fun c20 => ?_)
      · have hm := Eq.trans (if_pos c20).symm hm
        exact kX10_readRule_b113 F C0 hA zx15 v4 _ _ _ hm hw (lv_sub hl [2, 1] rfl)
      · have hm := Eq.trans (if_neg c20).symm hm
        refine lv_aload_n hx hb dX10_readRule_102 rfl (lv_at hl 2 rfl) ?_
        refine gM_0_13 C0 hA hw hiX10_readRule_X10 lkX10_readRule_46 dX10_readRule_103 ?_
        refine lv_iconst (v := 1) hx hb dX10_readRule_106 (by decide) ?_
        obtain ⟨c21, hm⟩ := gd_some hm
        refine lM_13 C0 hA hw c21 dX10_readRule_107 ?_
        refine lv_bipush (v := 16) hx hb dX10_readRule_108 (by decide) ?_
        refine lv_icmp_ne (tgt := 120) hx hb dX10_readRule_110 (by decide) (fun c22 => ?_) (fun c22 => ?_)
        · have hm := Eq.trans (if_neg c22).symm hm
          refine lv_aload_n hx hb dX10_readRule_120 rfl (lv_at hl 2 rfl) ?_
          refine lv_dup hx hb dX10_readRule_121 rfl ?_
          refine gM_0_17 C0 hA hw hiX10_readRule_X10 lkX10_readRule_131 dX10_readRule_122 ?_
          refine lv_iconst (v := 1) hx hb dX10_readRule_125 (by decide) ?_
          refine lv_iadd hx hb dX10_readRule_126 ?_
          refine pM_0_17 C0 hA hw hiX10_readRule_X10 lkX10_readRule_131 dX10_readRule_127 (fun zx23 ezx23 H locs hw => ?_)
          have hm := nm_at hm ezx23
          refine lv_aload_n hx hb dX10_readRule_130 rfl (lv_at hl 2 rfl) ?_
          refine gM_0_13 C0 hA hw hiX10_readRule_X10 lkX10_readRule_46 dX10_readRule_131 ?_
          refine lv_iconst (v := 1) hx hb dX10_readRule_134 (by decide) ?_
          obtain ⟨c24, hm⟩ := gd_some hm
          refine lM_13 C0 hA hw c24 dX10_readRule_135 ?_
          refine lv_if_ne (tgt := 146) hx hb dX10_readRule_136 (by decide) (fun c25 => ?_) (fun c25 => ?_)
          · have hm := Eq.trans (if_neg c25).symm hm
            exact kX10_readRule_b146 F C0 hA zx23 v12 _ _ _ hm hw (lv_sub hl [2, 0] rfl)
          · have hm := Eq.trans (if_pos c25).symm hm
            refine lv_aload_n hx hb dX10_readRule_139 rfl (lv_at hl 2 rfl) ?_
            refine gM_0_16 C0 hA hw hiX10_readRule_X10 lkX10_readRule_55 dX10_readRule_140 ?_
            refine lv_iconst (v := 1) hx hb dX10_readRule_143 (by decide) ?_
            refine lv_iload_n hx hb dX10_readRule_144 rfl (lv_at hl 0 rfl) ?_
            obtain ⟨c26, hm⟩ := gd_some hm
            refine sM_16 C0 hA hw c26 dX10_readRule_145 (fun zx27 ezx27 H locs hw => ?_)
            have hm := nm_at hm ezx27
            exact kX10_readRule_b146 F C0 hA zx27 v12 _ _ _ hm hw (lv_sub hl [2, 0] rfl)
        · have hm := Eq.trans (if_pos c22).symm hm
          exact kX10_readRule_b113 F C0 hA zx15 v4 _ _ _ hm hw (lv_sub hl [2, 1] rfl)
    · have hm := Eq.trans (if_neg c18).symm hm
      refine lv_aload_n hx hb dX10_readRule_80 rfl (lv_at hl 2 rfl) ?_
      refine lv_aload_n hx hb dX10_readRule_81 rfl (lv_at hl 2 rfl) ?_
      refine gM_0_17 C0 hA hw hiX10_readRule_X10 lkX10_readRule_131 dX10_readRule_82 ?_
      obtain ⟨zx28, h29, hm⟩ := b1_some hm
      refine r_backS (va_runV (As := [.int (zx15.1 17)]) (rest := []) ⟨hx, hb, C0.2.2.2.1, C0.2.2.2.2.1, C0.2.2.2.2.2.1⟩ (tX10_fail l E ad zx15 (zx15.1 17) h29 H.size) (cwV 1 C0.2.2.2.2.2.1 gX10_readRule_X10_fail rfl rfl rfl (by decide +kernel) ⟨Nat.le_of_ble_eq_true rfl, Nat.le_of_ble_eq_true rfl⟩) ⟨PG_blind, va_recv hA.2.2.1.1 hw.1 (ci := 10) (q0 := 0) rfl rfl, pg_self hA hw⟩ rfl rfl hl.1 rfl (lv_room (Nat.le_of_ble_eq_true rfl)) dX10_readRule_85 ⟨Nat.zero_le _, Nat.zero_le _⟩) hA hw (fun H locs hw => ?_)
      refine lv_iconst (v := 0) hx hb dX10_readRule_88 (by decide) ?_
      obtain ⟨rfl, rfl⟩ := sj2 hm
      exact r_zret C0 hw dX10_readRule_89 rfl ⟨rfl, rfl⟩
  · have hm := Eq.trans (if_pos c9).symm hm
    refine lv_aload_n hx hb dX10_readRule_31 rfl (lv_at hl 1 rfl) ?_
    refine lv_aload_n hx hb dX10_readRule_32 rfl (lv_at hl 1 rfl) ?_
    refine gM_0_17 C0 hA hw hiX10_readRule_X10 lkX10_readRule_131 dX10_readRule_33 ?_
    obtain ⟨zx30, h31, hm⟩ := b1_some hm
    refine r_backS (va_runV (As := [.int (zx3.1 17)]) (rest := []) ⟨hx, hb, C0.2.2.2.1, C0.2.2.2.2.1, C0.2.2.2.2.2.1⟩ (tX10_fail l E ad zx3 (zx3.1 17) h31 H.size) (cwV 1 C0.2.2.2.2.2.1 gX10_readRule_X10_fail rfl rfl rfl (by decide +kernel) ⟨Nat.le_of_ble_eq_true rfl, Nat.le_of_ble_eq_true rfl⟩) ⟨PG_blind, va_recv hA.2.2.1.1 hw.1 (ci := 10) (q0 := 0) rfl rfl, pg_self hA hw⟩ rfl rfl hl.1 rfl (lv_room (Nat.le_of_ble_eq_true rfl)) dX10_readRule_36 ⟨Nat.zero_le _, Nat.zero_le _⟩) hA hw (fun H locs hw => ?_)
    refine lv_iconst (v := 0) hx hb dX10_readRule_39 (by decide) ?_
    obtain ⟨rfl, rfl⟩ := sj2 hm
    exact r_zret C0 hw dX10_readRule_40 rfl ⟨rfl, rfl⟩
theorem tX10_readRule (l : Launch) (E : EV) (ad : Nat → Nat) (F : Nat) (zx : OS)  {r : Int32} {zx' : OS} (hm : mX10_readRule F zx = some (r, zx')) : CT l yX10_readRule wsX10_readRule ({ frames := 4, cells := 0, slots := 0, locals := 92 } : Room) E [.ref (ad 0)] (wM E ad zx) (Qd (some (.int r)) (wM E ad zx')) 0 0 :=
  CT.of (mL := 4) (lvs := [(0, .ref (ad 0))]) (by decide +kernel) rfl (Nat.le_of_ble_eq_true rfl) rfl rfl rfl (fun p e s m below meth c A C0 hA hw ls hl => kX10_readRule_b0 (ad := ad) F C0 hA zx _ _ _ hm hw (lv_sub hl [0] rfl))
theorem lkX10_read_52 : Cond.fieldLink RX10 52 (TX10 15).1 (TX10 15).2.1 (TX10 15).2.2.1 ∈ wsX10_read := by decide +kernel
theorem lkX10_read_46 : Cond.fieldLink RX10 46 (TX10 13).1 (TX10 13).2.1 (TX10 13).2.2.1 ∈ wsX10_read := by decide +kernel
theorem lkX10_read_49 : Cond.fieldLink RX10 49 (TX10 14).1 (TX10 14).2.1 (TX10 14).2.2.1 ∈ wsX10_read := by decide +kernel
theorem lkX10_read_55 : Cond.fieldLink RX10 55 (TX10 16).1 (TX10 16).2.1 (TX10 16).2.2.1 ∈ wsX10_read := by decide +kernel
theorem lkX10_read_31 : Cond.fieldLink RX10 31 (TX10 8).1 (TX10 8).2.1 (TX10 8).2.2.1 ∈ wsX10_read := by decide +kernel
theorem lkX10_read_34 : Cond.fieldLink RX10 34 (TX10 9).1 (TX10 9).2.1 (TX10 9).2.2.1 ∈ wsX10_read := by decide +kernel
theorem lkX10_read_37 : Cond.fieldLink RX10 37 (TX10 10).1 (TX10 10).2.1 (TX10 10).2.2.1 ∈ wsX10_read := by decide +kernel
theorem lkX10_read_40 : Cond.fieldLink RX10 40 (TX10 11).1 (TX10 11).2.1 (TX10 11).2.2.1 ∈ wsX10_read := by decide +kernel
theorem lkX10_read_22 : Cond.fieldLink RX10 22 (TX10 5).1 (TX10 5).2.1 (TX10 5).2.2.1 ∈ wsX10_read := by decide +kernel
theorem lkX10_read_25 : Cond.fieldLink RX10 25 (TX10 6).1 (TX10 6).2.1 (TX10 6).2.2.1 ∈ wsX10_read := by decide +kernel
theorem lkX10_read_28 : Cond.fieldLink RX10 28 (TX10 7).1 (TX10 7).2.1 (TX10 7).2.2.1 ∈ wsX10_read := by decide +kernel
theorem lkX10_read_16 : Cond.fieldLink RX10 16 (TX10 3).1 (TX10 3).2.1 (TX10 3).2.2.1 ∈ wsX10_read := by decide +kernel
theorem lkX10_read_19 : Cond.fieldLink RX10 19 (TX10 4).1 (TX10 4).2.1 (TX10 4).2.2.1 ∈ wsX10_read := by decide +kernel
theorem lkX10_read_124 : Cond.fieldLink RX10 124 (TX10 18).1 (TX10 18).2.1 (TX10 18).2.2.1 ∈ wsX10_read := by decide +kernel
theorem lkX10_read_43 : Cond.fieldLink RX10 43 (TX10 12).1 (TX10 12).2.1 (TX10 12).2.2.1 ∈ wsX10_read := by decide +kernel
theorem lkX10_read_131 : Cond.fieldLink RX10 131 (TX10 17).1 (TX10 17).2.1 (TX10 17).2.2.1 ∈ wsX10_read := by decide +kernel
theorem hiX10_read_X10 : ∀ w ∈ u_ws RX10 TX10 53, w ∈ wsX10_read := by decide +kernel
def mX10_read_b265 (F : Nat)  : Nat → OS → Int32 → Option (Int32 × OS)
  | 0, _, _ => none
  | n + 1, zx, a2 => gd 1 2 ((if (zx.2.2.1 15 (1 : Int32).toNatClampNeg) ≤ (a2 : Int32) then gd 1 2 (gd 0 2 (nm (sA zx 13 0 (zx.2.2.1 13 (1 : Int32).toNatClampNeg)) (fun zx5 => gd 1 2 (gd 0 2 (nm (sA zx5 14 0 (zx5.2.2.1 14 (1 : Int32).toNatClampNeg)) (fun zx8 => gd 1 2 (gd 0 2 (nm (sA zx8 15 0 (zx8.2.2.1 15 (1 : Int32).toNatClampNeg)) (fun zx11 => gd 1 2 (gd 0 2 (nm (sA zx11 16 0 (zx11.2.2.1 16 (1 : Int32).toNatClampNeg)) (fun zx14 => gd 0 2 (some (zx14.2.2.1 13 (0 : Int32).toNatClampNeg, zx14)))))))))))))) else gd (241 + a2) 482 (gd a2 482 (nm (sA zx 8 a2 (zx.2.2.1 8 (241 + a2 : Int32).toNatClampNeg)) (fun zx18 => gd (241 + a2) 482 (gd a2 482 (nm (sA zx18 9 a2 (zx18.2.2.1 9 (241 + a2 : Int32).toNatClampNeg)) (fun zx21 => gd (241 + a2) 482 (gd a2 482 (nm (sA zx21 10 a2 (zx21.2.2.1 10 (241 + a2 : Int32).toNatClampNeg)) (fun zx24 => gd (241 + a2) 482 (gd a2 482 (nm (sA zx24 11 a2 (zx24.2.2.1 11 (241 + a2 : Int32).toNatClampNeg)) (fun zx27 => nm (a2 + 1 : Int32) (fun v28 => mX10_read_b265 F n zx27 v28)))))))))))))))
def mX10_read_b202 (F : Nat)  : Nat → OS → Int32 → Option (Int32 × OS)
  | 0, _, _ => none
  | n + 1, zx, a2 => gd 1 2 ((if (zx.2.2.1 14 (1 : Int32).toNatClampNeg) ≤ (a2 : Int32) then nm (0 : Int32) (fun v3 => mX10_read_b265 F F zx v3) else gd (48 + a2) 96 (gd a2 96 (nm (sA zx 5 a2 (zx.2.2.1 5 (48 + a2 : Int32).toNatClampNeg)) (fun zx6 => gd (48 + a2) 96 (gd a2 96 (nm (sA zx6 6 a2 (zx6.2.2.1 6 (48 + a2 : Int32).toNatClampNeg)) (fun zx9 => gd (48 + a2) 96 (gd a2 96 (nm (sA zx9 7 a2 (zx9.2.2.1 7 (48 + a2 : Int32).toNatClampNeg)) (fun zx12 => nm (a2 + 1 : Int32) (fun v13 => mX10_read_b202 F n zx12 v13))))))))))))
def mX10_read_b158 (F : Nat)  : Nat → OS → Int32 → Option (Int32 × OS)
  | 0, _, _ => none
  | n + 1, zx, a2 => (if 26 ≤ (a2 : Int32) then nm (0 : Int32) (fun v2 => mX10_read_b202 F F zx v2) else gd (26 + a2) 52 (gd a2 52 (nm (sA zx 3 a2 (zx.2.2.1 3 (26 + a2 : Int32).toNatClampNeg)) (fun zx5 => gd (26 + a2) 52 (gd a2 52 (nm (sA zx5 4 a2 (zx5.2.2.1 4 (26 + a2 : Int32).toNatClampNeg)) (fun zx8 => nm (a2 + 1 : Int32) (fun v9 => mX10_read_b158 F n zx8 v9))))))))
def mX10_read_b141 (F : Nat)  (zx : OS) : Option (Int32 × OS) := (if (zx.1 18 : Int32) < 0 then nm (0 : Int32) (fun v2 => mX10_read_b158 F F zx v2) else some ((-10) - (zx.1 18), zx))
def mX10_read_b78 (F : Nat)  : Nat → OS → Int32 → Option (Int32 × OS)
  | 0, _, _ => none
  | n + 1, zx, a2 => gd 1 2 ((if (241 + (zx.2.2.1 15 (1 : Int32).toNatClampNeg)) ≤ (a2 : Int32) then mX10_read_b141 F zx else (if 0 ≤ (zx.1 18 : Int32) then mX10_read_b141 F zx else gd a2 482 ((if (zx.2.2.1 8 (a2 : Int32).toNatClampNeg : Int32) = 0 then gd a2 482 (gd (26 + (zx.2.2.1 9 (a2 : Int32).toNatClampNeg)) 52 ((if (zx.2.2.1 4 (26 + (zx.2.2.1 9 (a2 : Int32).toNatClampNeg) : Int32).toNatClampNeg : Int32) = 0 then gd a2 482 (b1 (mX10_fail zx (zx.2.2.1 12 (a2 : Int32).toNatClampNeg)) (fun zx12 => nm (a2 + 1 : Int32) (fun v14 => mX10_read_b78 F n zx12 v14))) else nm (a2 + 1 : Int32) (fun v10 => mX10_read_b78 F n zx v10)))) else nm (a2 + 1 : Int32) (fun v6 => mX10_read_b78 F n zx v6))))))
def mX10_read_b55 (F : Nat)  : Nat → OS → Int32 → Option (Int32 × OS)
  | 0, _, _ => none
  | n + 1, zx, a1 => (if (a1 : Int32) = 0 then nm (241 : Int32) (fun v2 => mX10_read_b78 F F zx v2) else (if 0 ≤ (zx.1 18 : Int32) then nm (241 : Int32) (fun v4 => mX10_read_b78 F F zx v4) else b2 (mX10_readRule F zx) (fun r5 zx6 => mX10_read_b55 F n zx6 r5)))
def mX10_read_b34 (F : Nat)  : Nat → OS → Int32 → Option (Int32 × OS)
  | 0, _, _ => none
  | n + 1, zx, a1 => (if 52 ≤ (a1 : Int32) then nm (1 : Int32) (fun v2 => mX10_read_b55 F F zx v2) else gd a1 52 (nm (sA zx 4 a1 0) (fun zx4 => nm (a1 + 1 : Int32) (fun v5 => mX10_read_b34 F n zx4 v5))))
def mX10_read_b0 (F : Nat)  (zx : OS) : Option (Int32 × OS) := nm (sI zx 18 (-1)) (fun zx1 => nm (sI zx1 17 0) (fun zx2 => gd 1 2 (nm (sA zx2 13 1 0) (fun zx4 => gd 1 2 (nm (sA zx4 14 1 0) (fun zx6 => gd 1 2 (nm (sA zx6 15 1 0) (fun zx8 => nm (26 : Int32) (fun v9 => mX10_read_b34 F F zx8 v9)))))))))
def mX10_read (F : Nat) (zx : OS)  : Option (Int32 × OS) := mX10_read_b0 F zx
set_option maxRecDepth 20000 in
theorem kX10_read_b265 {p : Program} {l : Launch} {e : Env} {s : State} {m : MethodId} {args : Array Value} {below : List Frame} {meth : Method} {c : Code} {A : Nat → Prop} {E : EV} {ad : Nat → Nat} (F : Nat)  {r : Int32} {zx' : OS} (C0 : Cx RX10 "read" cX10_read (some .int) 3 wsX10_read p s m args meth c) (hA : Ax E A s) : ∀ (n : Nat) (zx : OS) (a2 : Int32) (H : Heap) (locs : List Loc) (ls : Array Slot), mX10_read_b265 F n zx a2 = some (r, zx') → Wd E A s H locs (wM E ad zx) → lv_has ls 3 [(0, .ref (ad 0)), (2, .int a2)] → W p l e ({ frames := 5, cells := 0, slots := 0, locals := 115 } : Room) s m args below meth c H locs 0 0 (MQ below (QG E (Qd (some (.int r)) (wM E ad zx')) A) args s 0 0 A) (F0 m 265 ls []) := by
  have hx := C0.1
  have hb := C0.2.1
  intro n
  induction n with
  | zero =>
    intro zx a2 H locs ls hm
    cases hm
  | succ n ih =>
    intro zx a2 H locs ls hm hw hl
    unfold mX10_read_b265 at hm
    refine lv_iload_n hx hb dX10_read_265 rfl (lv_at hl 1 rfl) ?_
    refine lv_aload_n hx hb dX10_read_266 rfl (lv_at hl 0 rfl) ?_
    refine gM_0_15 C0 hA hw hiX10_read_X10 lkX10_read_52 dX10_read_267 ?_
    refine lv_iconst (v := 1) hx hb dX10_read_270 (by decide) ?_
    obtain ⟨c1, hm⟩ := gd_some hm
    refine lM_15 C0 hA hw c1 dX10_read_271 ?_
    refine lv_icmp_ge (tgt := 345) hx hb dX10_read_272 (by decide) (fun c2 => ?_) (fun c2 => ?_)
    · have hm := Eq.trans (if_pos c2).symm hm
      refine lv_aload_n hx hb dX10_read_345 rfl (lv_at hl 0 rfl) ?_
      refine gM_0_13 C0 hA hw hiX10_read_X10 lkX10_read_46 dX10_read_346 ?_
      refine lv_iconst (v := 0) hx hb dX10_read_349 (by decide) ?_
      refine lv_aload_n hx hb dX10_read_350 rfl (lv_at hl 0 rfl) ?_
      refine gM_0_13 C0 hA hw hiX10_read_X10 lkX10_read_46 dX10_read_351 ?_
      refine lv_iconst (v := 1) hx hb dX10_read_354 (by decide) ?_
      obtain ⟨c3, hm⟩ := gd_some hm
      refine lM_13 C0 hA hw c3 dX10_read_355 ?_
      obtain ⟨c4, hm⟩ := gd_some hm
      refine sM_13 C0 hA hw c4 dX10_read_356 (fun zx5 ezx5 H locs hw => ?_)
      have hm := nm_at hm ezx5
      refine lv_aload_n hx hb dX10_read_357 rfl (lv_at hl 0 rfl) ?_
      refine gM_0_14 C0 hA hw hiX10_read_X10 lkX10_read_49 dX10_read_358 ?_
      refine lv_iconst (v := 0) hx hb dX10_read_361 (by decide) ?_
      refine lv_aload_n hx hb dX10_read_362 rfl (lv_at hl 0 rfl) ?_
      refine gM_0_14 C0 hA hw hiX10_read_X10 lkX10_read_49 dX10_read_363 ?_
      refine lv_iconst (v := 1) hx hb dX10_read_366 (by decide) ?_
      obtain ⟨c6, hm⟩ := gd_some hm
      refine lM_14 C0 hA hw c6 dX10_read_367 ?_
      obtain ⟨c7, hm⟩ := gd_some hm
      refine sM_14 C0 hA hw c7 dX10_read_368 (fun zx8 ezx8 H locs hw => ?_)
      have hm := nm_at hm ezx8
      refine lv_aload_n hx hb dX10_read_369 rfl (lv_at hl 0 rfl) ?_
      refine gM_0_15 C0 hA hw hiX10_read_X10 lkX10_read_52 dX10_read_370 ?_
      refine lv_iconst (v := 0) hx hb dX10_read_373 (by decide) ?_
      refine lv_aload_n hx hb dX10_read_374 rfl (lv_at hl 0 rfl) ?_
      refine gM_0_15 C0 hA hw hiX10_read_X10 lkX10_read_52 dX10_read_375 ?_
      refine lv_iconst (v := 1) hx hb dX10_read_378 (by decide) ?_
      obtain ⟨c9, hm⟩ := gd_some hm
      refine lM_15 C0 hA hw c9 dX10_read_379 ?_
      obtain ⟨c10, hm⟩ := gd_some hm
      refine sM_15 C0 hA hw c10 dX10_read_380 (fun zx11 ezx11 H locs hw => ?_)
      have hm := nm_at hm ezx11
      refine lv_aload_n hx hb dX10_read_381 rfl (lv_at hl 0 rfl) ?_
      refine gM_0_16 C0 hA hw hiX10_read_X10 lkX10_read_55 dX10_read_382 ?_
      refine lv_iconst (v := 0) hx hb dX10_read_385 (by decide) ?_
      refine lv_aload_n hx hb dX10_read_386 rfl (lv_at hl 0 rfl) ?_
      refine gM_0_16 C0 hA hw hiX10_read_X10 lkX10_read_55 dX10_read_387 ?_
      refine lv_iconst (v := 1) hx hb dX10_read_390 (by decide) ?_
      obtain ⟨c12, hm⟩ := gd_some hm
      refine lM_16 C0 hA hw c12 dX10_read_391 ?_
      obtain ⟨c13, hm⟩ := gd_some hm
      refine sM_16 C0 hA hw c13 dX10_read_392 (fun zx14 ezx14 H locs hw => ?_)
      have hm := nm_at hm ezx14
      refine lv_aload_n hx hb dX10_read_393 rfl (lv_at hl 0 rfl) ?_
      refine gM_0_13 C0 hA hw hiX10_read_X10 lkX10_read_46 dX10_read_394 ?_
      refine lv_iconst (v := 0) hx hb dX10_read_397 (by decide) ?_
      obtain ⟨c15, hm⟩ := gd_some hm
      refine lM_13 C0 hA hw c15 dX10_read_398 ?_
      obtain ⟨rfl, rfl⟩ := sj2 hm
      exact r_iret C0 hw dX10_read_399 ⟨rfl, rfl⟩
    · have hm := Eq.trans (if_neg c2).symm hm
      refine lv_aload_n hx hb dX10_read_275 rfl (lv_at hl 0 rfl) ?_
      refine gM_0_8 C0 hA hw hiX10_read_X10 lkX10_read_31 dX10_read_276 ?_
      refine lv_iload_n hx hb dX10_read_279 rfl (lv_at hl 1 rfl) ?_
      refine lv_aload_n hx hb dX10_read_280 rfl (lv_at hl 0 rfl) ?_
      refine gM_0_8 C0 hA hw hiX10_read_X10 lkX10_read_31 dX10_read_281 ?_
      refine lv_sipush (v := 241) hx hb dX10_read_284 (by decide) ?_
      refine lv_iload_n hx hb dX10_read_287 rfl (lv_at hl 1 rfl) ?_
      refine lv_iadd hx hb dX10_read_288 ?_
      obtain ⟨c16, hm⟩ := gd_some hm
      refine lM_8 C0 hA hw c16 dX10_read_289 ?_
      obtain ⟨c17, hm⟩ := gd_some hm
      refine sM_8 C0 hA hw c17 dX10_read_290 (fun zx18 ezx18 H locs hw => ?_)
      have hm := nm_at hm ezx18
      refine lv_aload_n hx hb dX10_read_291 rfl (lv_at hl 0 rfl) ?_
      refine gM_0_9 C0 hA hw hiX10_read_X10 lkX10_read_34 dX10_read_292 ?_
      refine lv_iload_n hx hb dX10_read_295 rfl (lv_at hl 1 rfl) ?_
      refine lv_aload_n hx hb dX10_read_296 rfl (lv_at hl 0 rfl) ?_
      refine gM_0_9 C0 hA hw hiX10_read_X10 lkX10_read_34 dX10_read_297 ?_
      refine lv_sipush (v := 241) hx hb dX10_read_300 (by decide) ?_
      refine lv_iload_n hx hb dX10_read_303 rfl (lv_at hl 1 rfl) ?_
      refine lv_iadd hx hb dX10_read_304 ?_
      obtain ⟨c19, hm⟩ := gd_some hm
      refine lM_9 C0 hA hw c19 dX10_read_305 ?_
      obtain ⟨c20, hm⟩ := gd_some hm
      refine sM_9 C0 hA hw c20 dX10_read_306 (fun zx21 ezx21 H locs hw => ?_)
      have hm := nm_at hm ezx21
      refine lv_aload_n hx hb dX10_read_307 rfl (lv_at hl 0 rfl) ?_
      refine gM_0_10 C0 hA hw hiX10_read_X10 lkX10_read_37 dX10_read_308 ?_
      refine lv_iload_n hx hb dX10_read_311 rfl (lv_at hl 1 rfl) ?_
      refine lv_aload_n hx hb dX10_read_312 rfl (lv_at hl 0 rfl) ?_
      refine gM_0_10 C0 hA hw hiX10_read_X10 lkX10_read_37 dX10_read_313 ?_
      refine lv_sipush (v := 241) hx hb dX10_read_316 (by decide) ?_
      refine lv_iload_n hx hb dX10_read_319 rfl (lv_at hl 1 rfl) ?_
      refine lv_iadd hx hb dX10_read_320 ?_
      obtain ⟨c22, hm⟩ := gd_some hm
      refine lM_10 C0 hA hw c22 dX10_read_321 ?_
      obtain ⟨c23, hm⟩ := gd_some hm
      refine sM_10 C0 hA hw c23 dX10_read_322 (fun zx24 ezx24 H locs hw => ?_)
      have hm := nm_at hm ezx24
      refine lv_aload_n hx hb dX10_read_323 rfl (lv_at hl 0 rfl) ?_
      refine gM_0_11 C0 hA hw hiX10_read_X10 lkX10_read_40 dX10_read_324 ?_
      refine lv_iload_n hx hb dX10_read_327 rfl (lv_at hl 1 rfl) ?_
      refine lv_aload_n hx hb dX10_read_328 rfl (lv_at hl 0 rfl) ?_
      refine gM_0_11 C0 hA hw hiX10_read_X10 lkX10_read_40 dX10_read_329 ?_
      refine lv_sipush (v := 241) hx hb dX10_read_332 (by decide) ?_
      refine lv_iload_n hx hb dX10_read_335 rfl (lv_at hl 1 rfl) ?_
      refine lv_iadd hx hb dX10_read_336 ?_
      obtain ⟨c25, hm⟩ := gd_some hm
      refine lM_11 C0 hA hw c25 dX10_read_337 ?_
      obtain ⟨c26, hm⟩ := gd_some hm
      refine sM_11 C0 hA hw c26 dX10_read_338 (fun zx27 ezx27 H locs hw => ?_)
      have hm := nm_at hm ezx27
      obtain ⟨v28, ev28⟩ : ∃ y : Int32, y = a2 + 1 := ⟨_, rfl⟩
      have hm := nm_at hm ev28
      refine lv_iinc (v := v28) (lv' := [(2, .int v28), (0, .ref (ad 0))]) hx hb dX10_read_339 hl (k := 1) rfl (by rw [ev28]; rfl) (by decide) rfl (fun ls hl => ?_)
      refine lv_goto (tgt := 265) hx hb dX10_read_342 (by decide) ?_
      exact ih zx27 v28 _ _ _ hm hw (lv_sub hl [1, 0] rfl)
set_option maxRecDepth 20000 in
theorem kX10_read_b202 {p : Program} {l : Launch} {e : Env} {s : State} {m : MethodId} {args : Array Value} {below : List Frame} {meth : Method} {c : Code} {A : Nat → Prop} {E : EV} {ad : Nat → Nat} (F : Nat)  {r : Int32} {zx' : OS} (C0 : Cx RX10 "read" cX10_read (some .int) 3 wsX10_read p s m args meth c) (hA : Ax E A s) : ∀ (n : Nat) (zx : OS) (a2 : Int32) (H : Heap) (locs : List Loc) (ls : Array Slot), mX10_read_b202 F n zx a2 = some (r, zx') → Wd E A s H locs (wM E ad zx) → lv_has ls 3 [(0, .ref (ad 0)), (2, .int a2)] → W p l e ({ frames := 5, cells := 0, slots := 0, locals := 115 } : Room) s m args below meth c H locs 0 0 (MQ below (QG E (Qd (some (.int r)) (wM E ad zx')) A) args s 0 0 A) (F0 m 202 ls []) := by
  have hx := C0.1
  have hb := C0.2.1
  intro n
  induction n with
  | zero =>
    intro zx a2 H locs ls hm
    cases hm
  | succ n ih =>
    intro zx a2 H locs ls hm hw hl
    unfold mX10_read_b202 at hm
    refine lv_iload_n hx hb dX10_read_202 rfl (lv_at hl 1 rfl) ?_
    refine lv_aload_n hx hb dX10_read_203 rfl (lv_at hl 0 rfl) ?_
    refine gM_0_14 C0 hA hw hiX10_read_X10 lkX10_read_49 dX10_read_204 ?_
    refine lv_iconst (v := 1) hx hb dX10_read_207 (by decide) ?_
    obtain ⟨c1, hm⟩ := gd_some hm
    refine lM_14 C0 hA hw c1 dX10_read_208 ?_
    refine lv_icmp_ge (tgt := 263) hx hb dX10_read_209 (by decide) (fun c2 => ?_) (fun c2 => ?_)
    · have hm := Eq.trans (if_pos c2).symm hm
      refine lv_iconst (v := 0) hx hb dX10_read_263 (by decide) ?_
      refine lv_topi (fun v3 ev3 => ?_)
      have hm := nm_at hm ev3
      refine lv_istore_n (lv' := [(2, .int v3), (0, .ref (ad 0))]) hx hb dX10_read_264 rfl hl (by decide) rfl (fun ls hl => ?_)
      exact kX10_read_b265 F C0 hA F zx v3 _ _ _ hm hw (lv_sub hl [1, 0] rfl)
    · have hm := Eq.trans (if_neg c2).symm hm
      refine lv_aload_n hx hb dX10_read_212 rfl (lv_at hl 0 rfl) ?_
      refine gM_0_5 C0 hA hw hiX10_read_X10 lkX10_read_22 dX10_read_213 ?_
      refine lv_iload_n hx hb dX10_read_216 rfl (lv_at hl 1 rfl) ?_
      refine lv_aload_n hx hb dX10_read_217 rfl (lv_at hl 0 rfl) ?_
      refine gM_0_5 C0 hA hw hiX10_read_X10 lkX10_read_22 dX10_read_218 ?_
      refine lv_bipush (v := 48) hx hb dX10_read_221 (by decide) ?_
      refine lv_iload_n hx hb dX10_read_223 rfl (lv_at hl 1 rfl) ?_
      refine lv_iadd hx hb dX10_read_224 ?_
      obtain ⟨c4, hm⟩ := gd_some hm
      refine lM_5 C0 hA hw c4 dX10_read_225 ?_
      obtain ⟨c5, hm⟩ := gd_some hm
      refine sM_5 C0 hA hw c5 dX10_read_226 (fun zx6 ezx6 H locs hw => ?_)
      have hm := nm_at hm ezx6
      refine lv_aload_n hx hb dX10_read_227 rfl (lv_at hl 0 rfl) ?_
      refine gM_0_6 C0 hA hw hiX10_read_X10 lkX10_read_25 dX10_read_228 ?_
      refine lv_iload_n hx hb dX10_read_231 rfl (lv_at hl 1 rfl) ?_
      refine lv_aload_n hx hb dX10_read_232 rfl (lv_at hl 0 rfl) ?_
      refine gM_0_6 C0 hA hw hiX10_read_X10 lkX10_read_25 dX10_read_233 ?_
      refine lv_bipush (v := 48) hx hb dX10_read_236 (by decide) ?_
      refine lv_iload_n hx hb dX10_read_238 rfl (lv_at hl 1 rfl) ?_
      refine lv_iadd hx hb dX10_read_239 ?_
      obtain ⟨c7, hm⟩ := gd_some hm
      refine lM_6 C0 hA hw c7 dX10_read_240 ?_
      obtain ⟨c8, hm⟩ := gd_some hm
      refine sM_6 C0 hA hw c8 dX10_read_241 (fun zx9 ezx9 H locs hw => ?_)
      have hm := nm_at hm ezx9
      refine lv_aload_n hx hb dX10_read_242 rfl (lv_at hl 0 rfl) ?_
      refine gM_0_7 C0 hA hw hiX10_read_X10 lkX10_read_28 dX10_read_243 ?_
      refine lv_iload_n hx hb dX10_read_246 rfl (lv_at hl 1 rfl) ?_
      refine lv_aload_n hx hb dX10_read_247 rfl (lv_at hl 0 rfl) ?_
      refine gM_0_7 C0 hA hw hiX10_read_X10 lkX10_read_28 dX10_read_248 ?_
      refine lv_bipush (v := 48) hx hb dX10_read_251 (by decide) ?_
      refine lv_iload_n hx hb dX10_read_253 rfl (lv_at hl 1 rfl) ?_
      refine lv_iadd hx hb dX10_read_254 ?_
      obtain ⟨c10, hm⟩ := gd_some hm
      refine lM_7 C0 hA hw c10 dX10_read_255 ?_
      obtain ⟨c11, hm⟩ := gd_some hm
      refine sM_7 C0 hA hw c11 dX10_read_256 (fun zx12 ezx12 H locs hw => ?_)
      have hm := nm_at hm ezx12
      obtain ⟨v13, ev13⟩ : ∃ y : Int32, y = a2 + 1 := ⟨_, rfl⟩
      have hm := nm_at hm ev13
      refine lv_iinc (v := v13) (lv' := [(2, .int v13), (0, .ref (ad 0))]) hx hb dX10_read_257 hl (k := 1) rfl (by rw [ev13]; rfl) (by decide) rfl (fun ls hl => ?_)
      refine lv_goto (tgt := 202) hx hb dX10_read_260 (by decide) ?_
      exact ih zx12 v13 _ _ _ hm hw (lv_sub hl [1, 0] rfl)
set_option maxRecDepth 20000 in
theorem kX10_read_b158 {p : Program} {l : Launch} {e : Env} {s : State} {m : MethodId} {args : Array Value} {below : List Frame} {meth : Method} {c : Code} {A : Nat → Prop} {E : EV} {ad : Nat → Nat} (F : Nat)  {r : Int32} {zx' : OS} (C0 : Cx RX10 "read" cX10_read (some .int) 3 wsX10_read p s m args meth c) (hA : Ax E A s) : ∀ (n : Nat) (zx : OS) (a2 : Int32) (H : Heap) (locs : List Loc) (ls : Array Slot), mX10_read_b158 F n zx a2 = some (r, zx') → Wd E A s H locs (wM E ad zx) → lv_has ls 3 [(0, .ref (ad 0)), (2, .int a2)] → W p l e ({ frames := 5, cells := 0, slots := 0, locals := 115 } : Room) s m args below meth c H locs 0 0 (MQ below (QG E (Qd (some (.int r)) (wM E ad zx')) A) args s 0 0 A) (F0 m 158 ls []) := by
  have hx := C0.1
  have hb := C0.2.1
  intro n
  induction n with
  | zero =>
    intro zx a2 H locs ls hm
    cases hm
  | succ n ih =>
    intro zx a2 H locs ls hm hw hl
    unfold mX10_read_b158 at hm
    refine lv_iload_n hx hb dX10_read_158 rfl (lv_at hl 1 rfl) ?_
    refine lv_bipush (v := 26) hx hb dX10_read_159 (by decide) ?_
    refine lv_icmp_ge (tgt := 200) hx hb dX10_read_161 (by decide) (fun c1 => ?_) (fun c1 => ?_)
    · have hm := Eq.trans (if_pos c1).symm hm
      refine lv_iconst (v := 0) hx hb dX10_read_200 (by decide) ?_
      refine lv_topi (fun v2 ev2 => ?_)
      have hm := nm_at hm ev2
      refine lv_istore_n (lv' := [(2, .int v2), (0, .ref (ad 0))]) hx hb dX10_read_201 rfl hl (by decide) rfl (fun ls hl => ?_)
      exact kX10_read_b202 F C0 hA F zx v2 _ _ _ hm hw (lv_sub hl [1, 0] rfl)
    · have hm := Eq.trans (if_neg c1).symm hm
      refine lv_aload_n hx hb dX10_read_164 rfl (lv_at hl 0 rfl) ?_
      refine gM_0_3 C0 hA hw hiX10_read_X10 lkX10_read_16 dX10_read_165 ?_
      refine lv_iload_n hx hb dX10_read_168 rfl (lv_at hl 1 rfl) ?_
      refine lv_aload_n hx hb dX10_read_169 rfl (lv_at hl 0 rfl) ?_
      refine gM_0_3 C0 hA hw hiX10_read_X10 lkX10_read_16 dX10_read_170 ?_
      refine lv_bipush (v := 26) hx hb dX10_read_173 (by decide) ?_
      refine lv_iload_n hx hb dX10_read_175 rfl (lv_at hl 1 rfl) ?_
      refine lv_iadd hx hb dX10_read_176 ?_
      obtain ⟨c3, hm⟩ := gd_some hm
      refine lM_3 C0 hA hw c3 dX10_read_177 ?_
      obtain ⟨c4, hm⟩ := gd_some hm
      refine sM_3 C0 hA hw c4 dX10_read_178 (fun zx5 ezx5 H locs hw => ?_)
      have hm := nm_at hm ezx5
      refine lv_aload_n hx hb dX10_read_179 rfl (lv_at hl 0 rfl) ?_
      refine gM_0_4 C0 hA hw hiX10_read_X10 lkX10_read_19 dX10_read_180 ?_
      refine lv_iload_n hx hb dX10_read_183 rfl (lv_at hl 1 rfl) ?_
      refine lv_aload_n hx hb dX10_read_184 rfl (lv_at hl 0 rfl) ?_
      refine gM_0_4 C0 hA hw hiX10_read_X10 lkX10_read_19 dX10_read_185 ?_
      refine lv_bipush (v := 26) hx hb dX10_read_188 (by decide) ?_
      refine lv_iload_n hx hb dX10_read_190 rfl (lv_at hl 1 rfl) ?_
      refine lv_iadd hx hb dX10_read_191 ?_
      obtain ⟨c6, hm⟩ := gd_some hm
      refine lM_4 C0 hA hw c6 dX10_read_192 ?_
      obtain ⟨c7, hm⟩ := gd_some hm
      refine sM_4 C0 hA hw c7 dX10_read_193 (fun zx8 ezx8 H locs hw => ?_)
      have hm := nm_at hm ezx8
      obtain ⟨v9, ev9⟩ : ∃ y : Int32, y = a2 + 1 := ⟨_, rfl⟩
      have hm := nm_at hm ev9
      refine lv_iinc (v := v9) (lv' := [(2, .int v9), (0, .ref (ad 0))]) hx hb dX10_read_194 hl (k := 1) rfl (by rw [ev9]; rfl) (by decide) rfl (fun ls hl => ?_)
      refine lv_goto (tgt := 158) hx hb dX10_read_197 (by decide) ?_
      exact ih zx8 v9 _ _ _ hm hw (lv_sub hl [1, 0] rfl)
set_option maxRecDepth 20000 in
theorem kX10_read_b141 {p : Program} {l : Launch} {e : Env} {s : State} {m : MethodId} {args : Array Value} {below : List Frame} {meth : Method} {c : Code} {A : Nat → Prop} {E : EV} {ad : Nat → Nat} (F : Nat)  {r : Int32} {zx' : OS} (C0 : Cx RX10 "read" cX10_read (some .int) 3 wsX10_read p s m args meth c) (hA : Ax E A s) : ∀ (zx : OS) (H : Heap) (locs : List Loc) (ls : Array Slot), mX10_read_b141 F zx = some (r, zx') → Wd E A s H locs (wM E ad zx) → lv_has ls 3 [(0, .ref (ad 0))] → W p l e ({ frames := 5, cells := 0, slots := 0, locals := 115 } : Room) s m args below meth c H locs 0 0 (MQ below (QG E (Qd (some (.int r)) (wM E ad zx')) A) args s 0 0 A) (F0 m 141 ls []) := by
  have hx := C0.1
  have hb := C0.2.1
  intro zx H locs ls hm hw hl
  unfold mX10_read_b141 at hm
  refine lv_aload_n hx hb dX10_read_141 rfl (lv_at hl 0 rfl) ?_
  refine gM_0_18 C0 hA hw hiX10_read_X10 lkX10_read_124 dX10_read_142 ?_
  refine lv_if_lt (tgt := 156) hx hb dX10_read_145 (by decide) (fun c1 => ?_) (fun c1 => ?_)
  · have hm := Eq.trans (if_pos c1).symm hm
    refine lv_iconst (v := 0) hx hb dX10_read_156 (by decide) ?_
    refine lv_topi (fun v2 ev2 => ?_)
    have hm := nm_at hm ev2
    refine lv_istore_n (lv' := [(2, .int v2), (0, .ref (ad 0))]) hx hb dX10_read_157 rfl hl (by decide) rfl (fun ls hl => ?_)
    exact kX10_read_b158 F C0 hA F zx v2 _ _ _ hm hw (lv_sub hl [1, 0] rfl)
  · have hm := Eq.trans (if_neg c1).symm hm
    refine lv_bipush (v := (-10)) hx hb dX10_read_148 (by decide) ?_
    refine lv_aload_n hx hb dX10_read_150 rfl (lv_at hl 0 rfl) ?_
    refine gM_0_18 C0 hA hw hiX10_read_X10 lkX10_read_124 dX10_read_151 ?_
    refine lv_isub hx hb dX10_read_154 ?_
    obtain ⟨rfl, rfl⟩ := sj2 hm
    exact r_iret C0 hw dX10_read_155 ⟨rfl, rfl⟩
set_option maxRecDepth 20000 in
theorem kX10_read_b78 {p : Program} {l : Launch} {e : Env} {s : State} {m : MethodId} {args : Array Value} {below : List Frame} {meth : Method} {c : Code} {A : Nat → Prop} {E : EV} {ad : Nat → Nat} (F : Nat)  {r : Int32} {zx' : OS} (C0 : Cx RX10 "read" cX10_read (some .int) 3 wsX10_read p s m args meth c) (hA : Ax E A s) : ∀ (n : Nat) (zx : OS) (a2 : Int32) (H : Heap) (locs : List Loc) (ls : Array Slot), mX10_read_b78 F n zx a2 = some (r, zx') → Wd E A s H locs (wM E ad zx) → lv_has ls 3 [(0, .ref (ad 0)), (2, .int a2)] → W p l e ({ frames := 5, cells := 0, slots := 0, locals := 115 } : Room) s m args below meth c H locs 0 0 (MQ below (QG E (Qd (some (.int r)) (wM E ad zx')) A) args s 0 0 A) (F0 m 78 ls []) := by
  have hx := C0.1
  have hb := C0.2.1
  intro n
  induction n with
  | zero =>
    intro zx a2 H locs ls hm
    cases hm
  | succ n ih =>
    intro zx a2 H locs ls hm hw hl
    unfold mX10_read_b78 at hm
    refine lv_iload_n hx hb dX10_read_78 rfl (lv_at hl 1 rfl) ?_
    refine lv_sipush (v := 241) hx hb dX10_read_79 (by decide) ?_
    refine lv_aload_n hx hb dX10_read_82 rfl (lv_at hl 0 rfl) ?_
    refine gM_0_15 C0 hA hw hiX10_read_X10 lkX10_read_52 dX10_read_83 ?_
    refine lv_iconst (v := 1) hx hb dX10_read_86 (by decide) ?_
    obtain ⟨c1, hm⟩ := gd_some hm
    refine lM_15 C0 hA hw c1 dX10_read_87 ?_
    refine lv_iadd hx hb dX10_read_88 ?_
    refine lv_icmp_ge (tgt := 141) hx hb dX10_read_89 (by decide) (fun c2 => ?_) (fun c2 => ?_)
    · have hm := Eq.trans (if_pos c2).symm hm
      exact kX10_read_b141 F C0 hA zx _ _ _ hm hw (lv_sub hl [0] rfl)
    · have hm := Eq.trans (if_neg c2).symm hm
      refine lv_aload_n hx hb dX10_read_92 rfl (lv_at hl 0 rfl) ?_
      refine gM_0_18 C0 hA hw hiX10_read_X10 lkX10_read_124 dX10_read_93 ?_
      refine lv_if_ge (tgt := 141) hx hb dX10_read_96 (by decide) (fun c3 => ?_) (fun c3 => ?_)
      · have hm := Eq.trans (if_pos c3).symm hm
        exact kX10_read_b141 F C0 hA zx _ _ _ hm hw (lv_sub hl [0] rfl)
      · have hm := Eq.trans (if_neg c3).symm hm
        refine lv_aload_n hx hb dX10_read_99 rfl (lv_at hl 0 rfl) ?_
        refine gM_0_8 C0 hA hw hiX10_read_X10 lkX10_read_31 dX10_read_100 ?_
        refine lv_iload_n hx hb dX10_read_103 rfl (lv_at hl 1 rfl) ?_
        obtain ⟨c4, hm⟩ := gd_some hm
        refine lM_8 C0 hA hw c4 dX10_read_104 ?_
        refine lv_if_ne (tgt := 135) hx hb dX10_read_105 (by decide) (fun c5 => ?_) (fun c5 => ?_)
        · have hm := Eq.trans (if_neg c5).symm hm
          obtain ⟨v6, ev6⟩ : ∃ y : Int32, y = a2 + 1 := ⟨_, rfl⟩
          have hm := nm_at hm ev6
          refine lv_iinc (v := v6) (lv' := [(2, .int v6), (0, .ref (ad 0))]) hx hb dX10_read_135 hl (k := 1) rfl (by rw [ev6]; rfl) (by decide) rfl (fun ls hl => ?_)
          refine lv_goto (tgt := 78) hx hb dX10_read_138 (by decide) ?_
          exact ih zx v6 _ _ _ hm hw (lv_sub hl [1, 0] rfl)
        · have hm := Eq.trans (if_pos c5).symm hm
          refine lv_aload_n hx hb dX10_read_108 rfl (lv_at hl 0 rfl) ?_
          refine gM_0_4 C0 hA hw hiX10_read_X10 lkX10_read_19 dX10_read_109 ?_
          refine lv_bipush (v := 26) hx hb dX10_read_112 (by decide) ?_
          refine lv_aload_n hx hb dX10_read_114 rfl (lv_at hl 0 rfl) ?_
          refine gM_0_9 C0 hA hw hiX10_read_X10 lkX10_read_34 dX10_read_115 ?_
          refine lv_iload_n hx hb dX10_read_118 rfl (lv_at hl 1 rfl) ?_
          obtain ⟨c7, hm⟩ := gd_some hm
          refine lM_9 C0 hA hw c7 dX10_read_119 ?_
          refine lv_iadd hx hb dX10_read_120 ?_
          obtain ⟨c8, hm⟩ := gd_some hm
          refine lM_4 C0 hA hw c8 dX10_read_121 ?_
          refine lv_if_ne (tgt := 135) hx hb dX10_read_122 (by decide) (fun c9 => ?_) (fun c9 => ?_)
          · have hm := Eq.trans (if_neg c9).symm hm
            obtain ⟨v10, ev10⟩ : ∃ y : Int32, y = a2 + 1 := ⟨_, rfl⟩
            have hm := nm_at hm ev10
            refine lv_iinc (v := v10) (lv' := [(2, .int v10), (0, .ref (ad 0))]) hx hb dX10_read_135 hl (k := 1) rfl (by rw [ev10]; rfl) (by decide) rfl (fun ls hl => ?_)
            refine lv_goto (tgt := 78) hx hb dX10_read_138 (by decide) ?_
            exact ih zx v10 _ _ _ hm hw (lv_sub hl [1, 0] rfl)
          · have hm := Eq.trans (if_pos c9).symm hm
            refine lv_aload_n hx hb dX10_read_125 rfl (lv_at hl 0 rfl) ?_
            refine lv_aload_n hx hb dX10_read_126 rfl (lv_at hl 0 rfl) ?_
            refine gM_0_12 C0 hA hw hiX10_read_X10 lkX10_read_43 dX10_read_127 ?_
            refine lv_iload_n hx hb dX10_read_130 rfl (lv_at hl 1 rfl) ?_
            obtain ⟨c11, hm⟩ := gd_some hm
            refine lM_12 C0 hA hw c11 dX10_read_131 ?_
            obtain ⟨zx12, h13, hm⟩ := b1_some hm
            refine r_backS (va_runV (As := [.int (zx.2.2.1 12 (a2 : Int32).toNatClampNeg)]) (rest := []) ⟨hx, hb, C0.2.2.2.1, C0.2.2.2.2.1, C0.2.2.2.2.2.1⟩ (tX10_fail l E ad zx (zx.2.2.1 12 (a2 : Int32).toNatClampNeg) h13 H.size) (cwV 1 C0.2.2.2.2.2.1 gX10_read_X10_fail rfl rfl rfl (by decide +kernel) ⟨Nat.le_of_ble_eq_true rfl, Nat.le_of_ble_eq_true rfl⟩) ⟨PG_blind, va_recv hA.2.2.1.1 hw.1 (ci := 10) (q0 := 0) rfl rfl, pg_self hA hw⟩ rfl rfl hl.1 rfl (lv_room (Nat.le_of_ble_eq_true rfl)) dX10_read_132 ⟨Nat.zero_le _, Nat.zero_le _⟩) hA hw (fun H locs hw => ?_)
            obtain ⟨v14, ev14⟩ : ∃ y : Int32, y = a2 + 1 := ⟨_, rfl⟩
            have hm := nm_at hm ev14
            refine lv_iinc (v := v14) (lv' := [(2, .int v14), (0, .ref (ad 0))]) hx hb dX10_read_135 hl (k := 1) rfl (by rw [ev14]; rfl) (by decide) rfl (fun ls hl => ?_)
            refine lv_goto (tgt := 78) hx hb dX10_read_138 (by decide) ?_
            exact ih zx12 v14 _ _ _ hm hw (lv_sub hl [1, 0] rfl)
set_option maxRecDepth 20000 in
theorem kX10_read_b55 {p : Program} {l : Launch} {e : Env} {s : State} {m : MethodId} {args : Array Value} {below : List Frame} {meth : Method} {c : Code} {A : Nat → Prop} {E : EV} {ad : Nat → Nat} (F : Nat)  {r : Int32} {zx' : OS} (C0 : Cx RX10 "read" cX10_read (some .int) 3 wsX10_read p s m args meth c) (hA : Ax E A s) : ∀ (n : Nat) (zx : OS) (a1 : Int32) (H : Heap) (locs : List Loc) (ls : Array Slot), mX10_read_b55 F n zx a1 = some (r, zx') → Wd E A s H locs (wM E ad zx) → lv_has ls 3 [(0, .ref (ad 0)), (1, .int a1)] → W p l e ({ frames := 5, cells := 0, slots := 0, locals := 115 } : Room) s m args below meth c H locs 0 0 (MQ below (QG E (Qd (some (.int r)) (wM E ad zx')) A) args s 0 0 A) (F0 m 55 ls []) := by
  have hx := C0.1
  have hb := C0.2.1
  intro n
  induction n with
  | zero =>
    intro zx a1 H locs ls hm
    cases hm
  | succ n ih =>
    intro zx a1 H locs ls hm hw hl
    unfold mX10_read_b55 at hm
    refine lv_iload_n hx hb dX10_read_55 rfl (lv_at hl 1 rfl) ?_
    refine lv_if_eq (tgt := 74) hx hb dX10_read_56 (by decide) (fun c1 => ?_) (fun c1 => ?_)
    · have hm := Eq.trans (if_pos c1).symm hm
      refine lv_sipush (v := 241) hx hb dX10_read_74 (by decide) ?_
      refine lv_topi (fun v2 ev2 => ?_)
      have hm := nm_at hm ev2
      refine lv_istore_n (lv' := [(2, .int v2), (0, .ref (ad 0)), (1, .int a1)]) hx hb dX10_read_77 rfl hl (by decide) rfl (fun ls hl => ?_)
      exact kX10_read_b78 F C0 hA F zx v2 _ _ _ hm hw (lv_sub hl [1, 0] rfl)
    · have hm := Eq.trans (if_neg c1).symm hm
      refine lv_aload_n hx hb dX10_read_59 rfl (lv_at hl 0 rfl) ?_
      refine gM_0_18 C0 hA hw hiX10_read_X10 lkX10_read_124 dX10_read_60 ?_
      refine lv_if_ge (tgt := 74) hx hb dX10_read_63 (by decide) (fun c3 => ?_) (fun c3 => ?_)
      · have hm := Eq.trans (if_pos c3).symm hm
        refine lv_sipush (v := 241) hx hb dX10_read_74 (by decide) ?_
        refine lv_topi (fun v4 ev4 => ?_)
        have hm := nm_at hm ev4
        refine lv_istore_n (lv' := [(2, .int v4), (0, .ref (ad 0)), (1, .int a1)]) hx hb dX10_read_77 rfl hl (by decide) rfl (fun ls hl => ?_)
        exact kX10_read_b78 F C0 hA F zx v4 _ _ _ hm hw (lv_sub hl [1, 0] rfl)
      · have hm := Eq.trans (if_neg c3).symm hm
        refine lv_aload_n hx hb dX10_read_66 rfl (lv_at hl 0 rfl) ?_
        obtain ⟨r5, zx6, h7, hm⟩ := b2_some hm
        refine r_backS (va_runV (As := []) (rest := []) ⟨hx, hb, C0.2.2.2.1, C0.2.2.2.2.1, C0.2.2.2.2.2.1⟩ (tX10_readRule l E ad F zx h7 H.size) (cwV 0 C0.2.2.2.2.2.1 gX10_read_X10_readRule rfl rfl rfl (by decide +kernel) ⟨Nat.le_of_ble_eq_true rfl, Nat.le_of_ble_eq_true rfl⟩) ⟨PG_blind, va_recv hA.2.2.1.1 hw.1 (ci := 10) (q0 := 0) rfl rfl, pg_self hA hw⟩ rfl rfl hl.1 rfl (lv_room (Nat.le_of_ble_eq_true rfl)) dX10_read_67 ⟨Nat.zero_le _, Nat.zero_le _⟩) hA hw (fun H locs hw => ?_)
        refine lv_istore_n (lv' := [(1, .int r5), (0, .ref (ad 0))]) hx hb dX10_read_70 rfl hl (by decide) rfl (fun ls hl => ?_)
        refine lv_goto (tgt := 55) hx hb dX10_read_71 (by decide) ?_
        exact ih zx6 r5 _ _ _ hm hw (lv_sub hl [1, 0] rfl)
set_option maxRecDepth 20000 in
theorem kX10_read_b34 {p : Program} {l : Launch} {e : Env} {s : State} {m : MethodId} {args : Array Value} {below : List Frame} {meth : Method} {c : Code} {A : Nat → Prop} {E : EV} {ad : Nat → Nat} (F : Nat)  {r : Int32} {zx' : OS} (C0 : Cx RX10 "read" cX10_read (some .int) 3 wsX10_read p s m args meth c) (hA : Ax E A s) : ∀ (n : Nat) (zx : OS) (a1 : Int32) (H : Heap) (locs : List Loc) (ls : Array Slot), mX10_read_b34 F n zx a1 = some (r, zx') → Wd E A s H locs (wM E ad zx) → lv_has ls 3 [(0, .ref (ad 0)), (1, .int a1)] → W p l e ({ frames := 5, cells := 0, slots := 0, locals := 115 } : Room) s m args below meth c H locs 0 0 (MQ below (QG E (Qd (some (.int r)) (wM E ad zx')) A) args s 0 0 A) (F0 m 34 ls []) := by
  have hx := C0.1
  have hb := C0.2.1
  intro n
  induction n with
  | zero =>
    intro zx a1 H locs ls hm
    cases hm
  | succ n ih =>
    intro zx a1 H locs ls hm hw hl
    unfold mX10_read_b34 at hm
    refine lv_iload_n hx hb dX10_read_34 rfl (lv_at hl 1 rfl) ?_
    refine lv_bipush (v := 52) hx hb dX10_read_35 (by decide) ?_
    refine lv_icmp_ge (tgt := 53) hx hb dX10_read_37 (by decide) (fun c1 => ?_) (fun c1 => ?_)
    · have hm := Eq.trans (if_pos c1).symm hm
      refine lv_iconst (v := 1) hx hb dX10_read_53 (by decide) ?_
      refine lv_topi (fun v2 ev2 => ?_)
      have hm := nm_at hm ev2
      refine lv_istore_n (lv' := [(1, .int v2), (0, .ref (ad 0))]) hx hb dX10_read_54 rfl hl (by decide) rfl (fun ls hl => ?_)
      exact kX10_read_b55 F C0 hA F zx v2 _ _ _ hm hw (lv_sub hl [1, 0] rfl)
    · have hm := Eq.trans (if_neg c1).symm hm
      refine lv_aload_n hx hb dX10_read_40 rfl (lv_at hl 0 rfl) ?_
      refine gM_0_4 C0 hA hw hiX10_read_X10 lkX10_read_19 dX10_read_41 ?_
      refine lv_iload_n hx hb dX10_read_44 rfl (lv_at hl 1 rfl) ?_
      refine lv_iconst (v := 0) hx hb dX10_read_45 (by decide) ?_
      obtain ⟨c3, hm⟩ := gd_some hm
      refine sM_4 C0 hA hw c3 dX10_read_46 (fun zx4 ezx4 H locs hw => ?_)
      have hm := nm_at hm ezx4
      obtain ⟨v5, ev5⟩ : ∃ y : Int32, y = a1 + 1 := ⟨_, rfl⟩
      have hm := nm_at hm ev5
      refine lv_iinc (v := v5) (lv' := [(1, .int v5), (0, .ref (ad 0))]) hx hb dX10_read_47 hl (k := 1) rfl (by rw [ev5]; rfl) (by decide) rfl (fun ls hl => ?_)
      refine lv_goto (tgt := 34) hx hb dX10_read_50 (by decide) ?_
      exact ih zx4 v5 _ _ _ hm hw (lv_sub hl [1, 0] rfl)
set_option maxRecDepth 20000 in
theorem kX10_read_b0 {p : Program} {l : Launch} {e : Env} {s : State} {m : MethodId} {args : Array Value} {below : List Frame} {meth : Method} {c : Code} {A : Nat → Prop} {E : EV} {ad : Nat → Nat} (F : Nat)  {r : Int32} {zx' : OS} (C0 : Cx RX10 "read" cX10_read (some .int) 3 wsX10_read p s m args meth c) (hA : Ax E A s) : ∀ (zx : OS) (H : Heap) (locs : List Loc) (ls : Array Slot), mX10_read_b0 F zx = some (r, zx') → Wd E A s H locs (wM E ad zx) → lv_has ls 3 [(0, .ref (ad 0))] → W p l e ({ frames := 5, cells := 0, slots := 0, locals := 115 } : Room) s m args below meth c H locs 0 0 (MQ below (QG E (Qd (some (.int r)) (wM E ad zx')) A) args s 0 0 A) (F0 m 0 ls []) := by
  have hx := C0.1
  have hb := C0.2.1
  intro zx H locs ls hm hw hl
  unfold mX10_read_b0 at hm
  refine lv_aload_n hx hb dX10_read_0 rfl (lv_at hl 0 rfl) ?_
  refine lv_iconst (v := (-1)) hx hb dX10_read_1 (by decide) ?_
  refine pM_0_18 C0 hA hw hiX10_read_X10 lkX10_read_124 dX10_read_2 (fun zx1 ezx1 H locs hw => ?_)
  have hm := nm_at hm ezx1
  refine lv_aload_n hx hb dX10_read_5 rfl (lv_at hl 0 rfl) ?_
  refine lv_iconst (v := 0) hx hb dX10_read_6 (by decide) ?_
  refine pM_0_17 C0 hA hw hiX10_read_X10 lkX10_read_131 dX10_read_7 (fun zx2 ezx2 H locs hw => ?_)
  have hm := nm_at hm ezx2
  refine lv_aload_n hx hb dX10_read_10 rfl (lv_at hl 0 rfl) ?_
  refine gM_0_13 C0 hA hw hiX10_read_X10 lkX10_read_46 dX10_read_11 ?_
  refine lv_iconst (v := 1) hx hb dX10_read_14 (by decide) ?_
  refine lv_iconst (v := 0) hx hb dX10_read_15 (by decide) ?_
  obtain ⟨c3, hm⟩ := gd_some hm
  refine sM_13 C0 hA hw c3 dX10_read_16 (fun zx4 ezx4 H locs hw => ?_)
  have hm := nm_at hm ezx4
  refine lv_aload_n hx hb dX10_read_17 rfl (lv_at hl 0 rfl) ?_
  refine gM_0_14 C0 hA hw hiX10_read_X10 lkX10_read_49 dX10_read_18 ?_
  refine lv_iconst (v := 1) hx hb dX10_read_21 (by decide) ?_
  refine lv_iconst (v := 0) hx hb dX10_read_22 (by decide) ?_
  obtain ⟨c5, hm⟩ := gd_some hm
  refine sM_14 C0 hA hw c5 dX10_read_23 (fun zx6 ezx6 H locs hw => ?_)
  have hm := nm_at hm ezx6
  refine lv_aload_n hx hb dX10_read_24 rfl (lv_at hl 0 rfl) ?_
  refine gM_0_15 C0 hA hw hiX10_read_X10 lkX10_read_52 dX10_read_25 ?_
  refine lv_iconst (v := 1) hx hb dX10_read_28 (by decide) ?_
  refine lv_iconst (v := 0) hx hb dX10_read_29 (by decide) ?_
  obtain ⟨c7, hm⟩ := gd_some hm
  refine sM_15 C0 hA hw c7 dX10_read_30 (fun zx8 ezx8 H locs hw => ?_)
  have hm := nm_at hm ezx8
  refine lv_bipush (v := 26) hx hb dX10_read_31 (by decide) ?_
  refine lv_topi (fun v9 ev9 => ?_)
  have hm := nm_at hm ev9
  refine lv_istore_n (lv' := [(1, .int v9), (0, .ref (ad 0))]) hx hb dX10_read_33 rfl hl (by decide) rfl (fun ls hl => ?_)
  exact kX10_read_b34 F C0 hA F zx8 v9 _ _ _ hm hw (lv_sub hl [1, 0] rfl)
theorem tX10_read (l : Launch) (E : EV) (ad : Nat → Nat) (F : Nat) (zx : OS)  {r : Int32} {zx' : OS} (hm : mX10_read F zx = some (r, zx')) : CT l yX10_read wsX10_read ({ frames := 5, cells := 0, slots := 0, locals := 115 } : Room) E [.ref (ad 0)] (wM E ad zx) (Qd (some (.int r)) (wM E ad zx')) 0 0 :=
  CT.of (mL := 3) (lvs := [(0, .ref (ad 0))]) (by decide +kernel) rfl (Nat.le_of_ble_eq_true rfl) rfl rfl rfl (fun p e s m below meth c A C0 hA hw ls hl => kX10_read_b0 (ad := ad) F C0 hA zx _ _ _ hm hw (lv_sub hl [0] rfl))
theorem lkX10_rule_19 : Cond.fieldLink RX10 19 (TX10 4).1 (TX10 4).2.1 (TX10 4).2.2.1 ∈ wsX10_rule := by decide +kernel
theorem lkX10_rule_22 : Cond.fieldLink RX10 22 (TX10 5).1 (TX10 5).2.1 (TX10 5).2.2.1 ∈ wsX10_rule := by decide +kernel
theorem lkX10_rule_16 : Cond.fieldLink RX10 16 (TX10 3).1 (TX10 3).2.1 (TX10 3).2.2.1 ∈ wsX10_rule := by decide +kernel
theorem lkX10_rule_46 : Cond.fieldLink RX10 46 (TX10 13).1 (TX10 13).2.1 (TX10 13).2.2.1 ∈ wsX10_rule := by decide +kernel
theorem hiX10_rule_X10 : ∀ w ∈ u_ws RX10 TX10 53, w ∈ wsX10_rule := by decide +kernel
def mX10_rule_b47 (F : Nat)  : Nat → OS → Int32 → Int32 → Int32 → Int32 → Option (Int32)
  | 0, _, _, _, _, _ => none
  | n + 1, zx, a1, a2, a3, a4 => gd a1 52 ((if (zx.2.2.1 4 (a1 : Int32).toNatClampNeg) ≤ (a4 : Int32) then (if (a2 : Int32) = 0 then gd a1 52 (some (zx.2.2.1 4 (a1 : Int32).toNatClampNeg)) else some a3) else gd a1 52 (gd ((zx.2.2.1 3 (a1 : Int32).toNatClampNeg) + a4) 96 (nm (a3 + (zx.2.2.1 5 ((zx.2.2.1 3 (a1 : Int32).toNatClampNeg) + a4 : Int32).toNatClampNeg) : Int32) (fun v7 => nm (a4 + 1 : Int32) (fun v8 => mX10_rule_b47 F n zx a1 a2 v7 v8))))))
def mX10_rule_b0 (F : Nat)  (zx : OS) (a1 : Int32) (a2 : Int32) : Option (Int32) := (if (a1 : Int32) < 0 then some (-2) else (if 25 < (a1 : Int32) then some (-2) else (if (a2 : Int32) < 0 then some (-2) else (if (a2 : Int32) ≤ 1 then gd 0 2 ((if (zx.2.2.1 13 (0 : Int32).toNatClampNeg : Int32) = 0 then some (-1) else gd a1 52 ((if (zx.2.2.1 4 (a1 : Int32).toNatClampNeg : Int32) = 0 then some (-1) else nm (0 : Int32) (fun v9 => nm (0 : Int32) (fun v10 => mX10_rule_b47 F F zx a1 a2 v9 v10)))))) else some (-2)))))
def mX10_rule (F : Nat) (zx : OS) (a1 : Int32) (a2 : Int32) : Option (Int32) := mX10_rule_b0 F zx a1 a2
set_option maxRecDepth 20000 in
theorem kX10_rule_b47 {p : Program} {l : Launch} {e : Env} {s : State} {m : MethodId} {args : Array Value} {below : List Frame} {meth : Method} {c : Code} {A : Nat → Prop} {E : EV} {ad : Nat → Nat} (F : Nat) {zx : OS} {r : Int32} (C0 : Cx RX10 "rule" cX10_rule (some .int) 5 wsX10_rule p s m args meth c) (hA : Ax E A s) : ∀ (n : Nat) (a1 : Int32) (a2 : Int32) (a3 : Int32) (a4 : Int32) (H : Heap) (locs : List Loc) (ls : Array Slot), mX10_rule_b47 F n zx a1 a2 a3 a4 = some r → Wd E A s H locs (wM E ad zx) → lv_has ls 5 [(0, .ref (ad 0)), (1, .int a1), (2, .int a2), (3, .int a3), (4, .int a4)] → W p l e ({ frames := 0, cells := 0, slots := 0, locals := 0 } : Room) s m args below meth c H locs 0 0 (MQ below (QG E (Qd (some (.int r)) (wM E ad zx)) A) args s 0 0 A) (F0 m 47 ls []) := by
  have hx := C0.1
  have hb := C0.2.1
  intro n
  induction n with
  | zero =>
    intro a1 a2 a3 a4 H locs ls hm
    cases hm
  | succ n ih =>
    intro a1 a2 a3 a4 H locs ls hm hw hl
    unfold mX10_rule_b47 at hm
    refine lv_iload hx hb dX10_rule_47 (lv_at hl 4 rfl) ?_
    refine lv_aload_n hx hb dX10_rule_49 rfl (lv_at hl 0 rfl) ?_
    refine gM_0_4 C0 hA hw hiX10_rule_X10 lkX10_rule_19 dX10_rule_50 ?_
    refine lv_iload_n hx hb dX10_rule_53 rfl (lv_at hl 1 rfl) ?_
    obtain ⟨c1, hm⟩ := gd_some hm
    refine lM_4 C0 hA hw c1 dX10_rule_54 ?_
    refine lv_icmp_ge (tgt := 81) hx hb dX10_rule_55 (by decide) (fun c2 => ?_) (fun c2 => ?_)
    · have hm := Eq.trans (if_pos c2).symm hm
      refine lv_iload_n hx hb dX10_rule_81 rfl (lv_at hl 2 rfl) ?_
      refine lv_if_ne (tgt := 94) hx hb dX10_rule_82 (by decide) (fun c3 => ?_) (fun c3 => ?_)
      · have hm := Eq.trans (if_neg c3).symm hm
        refine lv_iload_n hx hb dX10_rule_94 rfl (lv_at hl 3 rfl) ?_
        obtain rfl := sj1 hm
        exact r_iret C0 hw dX10_rule_95 ⟨rfl, rfl⟩
      · have hm := Eq.trans (if_pos c3).symm hm
        refine lv_aload_n hx hb dX10_rule_85 rfl (lv_at hl 0 rfl) ?_
        refine gM_0_4 C0 hA hw hiX10_rule_X10 lkX10_rule_19 dX10_rule_86 ?_
        refine lv_iload_n hx hb dX10_rule_89 rfl (lv_at hl 1 rfl) ?_
        obtain ⟨c4, hm⟩ := gd_some hm
        refine lM_4 C0 hA hw c4 dX10_rule_90 ?_
        refine lv_goto (tgt := 95) hx hb dX10_rule_91 (by decide) ?_
        obtain rfl := sj1 hm
        exact r_iret C0 hw dX10_rule_95 ⟨rfl, rfl⟩
    · have hm := Eq.trans (if_neg c2).symm hm
      refine lv_iload_n hx hb dX10_rule_58 rfl (lv_at hl 3 rfl) ?_
      refine lv_aload_n hx hb dX10_rule_59 rfl (lv_at hl 0 rfl) ?_
      refine gM_0_5 C0 hA hw hiX10_rule_X10 lkX10_rule_22 dX10_rule_60 ?_
      refine lv_aload_n hx hb dX10_rule_63 rfl (lv_at hl 0 rfl) ?_
      refine gM_0_3 C0 hA hw hiX10_rule_X10 lkX10_rule_16 dX10_rule_64 ?_
      refine lv_iload_n hx hb dX10_rule_67 rfl (lv_at hl 1 rfl) ?_
      obtain ⟨c5, hm⟩ := gd_some hm
      refine lM_3 C0 hA hw c5 dX10_rule_68 ?_
      refine lv_iload hx hb dX10_rule_69 (lv_at hl 4 rfl) ?_
      refine lv_iadd hx hb dX10_rule_71 ?_
      obtain ⟨c6, hm⟩ := gd_some hm
      refine lM_5 C0 hA hw c6 dX10_rule_72 ?_
      refine lv_iadd hx hb dX10_rule_73 ?_
      refine lv_topi (fun v7 ev7 => ?_)
      have hm := nm_at hm ev7
      refine lv_istore_n (lv' := [(3, .int v7), (0, .ref (ad 0)), (1, .int a1), (2, .int a2), (4, .int a4)]) hx hb dX10_rule_74 rfl hl (by decide) rfl (fun ls hl => ?_)
      obtain ⟨v8, ev8⟩ : ∃ y : Int32, y = a4 + 1 := ⟨_, rfl⟩
      have hm := nm_at hm ev8
      refine lv_iinc (v := v8) (lv' := [(4, .int v8), (3, .int v7), (0, .ref (ad 0)), (1, .int a1), (2, .int a2)]) hx hb dX10_rule_75 hl (k := 4) rfl (by rw [ev8]; rfl) (by decide) rfl (fun ls hl => ?_)
      refine lv_goto (tgt := 47) hx hb dX10_rule_78 (by decide) ?_
      exact ih a1 a2 v7 v8 _ _ _ hm hw (lv_sub hl [2, 3, 4, 1, 0] rfl)
set_option maxRecDepth 20000 in
theorem kX10_rule_b0 {p : Program} {l : Launch} {e : Env} {s : State} {m : MethodId} {args : Array Value} {below : List Frame} {meth : Method} {c : Code} {A : Nat → Prop} {E : EV} {ad : Nat → Nat} (F : Nat) {zx : OS} {r : Int32} (C0 : Cx RX10 "rule" cX10_rule (some .int) 5 wsX10_rule p s m args meth c) (hA : Ax E A s) : ∀ (a1 : Int32) (a2 : Int32) (H : Heap) (locs : List Loc) (ls : Array Slot), mX10_rule_b0 F zx a1 a2 = some r → Wd E A s H locs (wM E ad zx) → lv_has ls 5 [(0, .ref (ad 0)), (1, .int a1), (2, .int a2)] → W p l e ({ frames := 0, cells := 0, slots := 0, locals := 0 } : Room) s m args below meth c H locs 0 0 (MQ below (QG E (Qd (some (.int r)) (wM E ad zx)) A) args s 0 0 A) (F0 m 0 ls []) := by
  have hx := C0.1
  have hb := C0.2.1
  intro a1 a2 H locs ls hm hw hl
  unfold mX10_rule_b0 at hm
  refine lv_iload_n hx hb dX10_rule_0 rfl (lv_at hl 1 rfl) ?_
  refine lv_if_lt (tgt := 19) hx hb dX10_rule_1 (by decide) (fun c1 => ?_) (fun c1 => ?_)
  · have hm := Eq.trans (if_pos c1).symm hm
    refine lv_bipush (v := (-2)) hx hb dX10_rule_19 (by decide) ?_
    obtain rfl := sj1 hm
    exact r_iret C0 hw dX10_rule_21 ⟨rfl, rfl⟩
  · have hm := Eq.trans (if_neg c1).symm hm
    refine lv_iload_n hx hb dX10_rule_4 rfl (lv_at hl 1 rfl) ?_
    refine lv_bipush (v := 25) hx hb dX10_rule_5 (by decide) ?_
    refine lv_icmp_gt (tgt := 19) hx hb dX10_rule_7 (by decide) (fun c2 => ?_) (fun c2 => ?_)
    · have hm := Eq.trans (if_pos c2).symm hm
      refine lv_bipush (v := (-2)) hx hb dX10_rule_19 (by decide) ?_
      obtain rfl := sj1 hm
      exact r_iret C0 hw dX10_rule_21 ⟨rfl, rfl⟩
    · have hm := Eq.trans (if_neg c2).symm hm
      refine lv_iload_n hx hb dX10_rule_10 rfl (lv_at hl 2 rfl) ?_
      refine lv_if_lt (tgt := 19) hx hb dX10_rule_11 (by decide) (fun c3 => ?_) (fun c3 => ?_)
      · have hm := Eq.trans (if_pos c3).symm hm
        refine lv_bipush (v := (-2)) hx hb dX10_rule_19 (by decide) ?_
        obtain rfl := sj1 hm
        exact r_iret C0 hw dX10_rule_21 ⟨rfl, rfl⟩
      · have hm := Eq.trans (if_neg c3).symm hm
        refine lv_iload_n hx hb dX10_rule_14 rfl (lv_at hl 2 rfl) ?_
        refine lv_iconst (v := 1) hx hb dX10_rule_15 (by decide) ?_
        refine lv_icmp_le (tgt := 22) hx hb dX10_rule_16 (by decide) (fun c4 => ?_) (fun c4 => ?_)
        · have hm := Eq.trans (if_pos c4).symm hm
          refine lv_aload_n hx hb dX10_rule_22 rfl (lv_at hl 0 rfl) ?_
          refine gM_0_13 C0 hA hw hiX10_rule_X10 lkX10_rule_46 dX10_rule_23 ?_
          refine lv_iconst (v := 0) hx hb dX10_rule_26 (by decide) ?_
          obtain ⟨c5, hm⟩ := gd_some hm
          refine lM_13 C0 hA hw c5 dX10_rule_27 ?_
          refine lv_if_eq (tgt := 40) hx hb dX10_rule_28 (by decide) (fun c6 => ?_) (fun c6 => ?_)
          · have hm := Eq.trans (if_pos c6).symm hm
            refine lv_iconst (v := (-1)) hx hb dX10_rule_40 (by decide) ?_
            obtain rfl := sj1 hm
            exact r_iret C0 hw dX10_rule_41 ⟨rfl, rfl⟩
          · have hm := Eq.trans (if_neg c6).symm hm
            refine lv_aload_n hx hb dX10_rule_31 rfl (lv_at hl 0 rfl) ?_
            refine gM_0_4 C0 hA hw hiX10_rule_X10 lkX10_rule_19 dX10_rule_32 ?_
            refine lv_iload_n hx hb dX10_rule_35 rfl (lv_at hl 1 rfl) ?_
            obtain ⟨c7, hm⟩ := gd_some hm
            refine lM_4 C0 hA hw c7 dX10_rule_36 ?_
            refine lv_if_ne (tgt := 42) hx hb dX10_rule_37 (by decide) (fun c8 => ?_) (fun c8 => ?_)
            · have hm := Eq.trans (if_neg c8).symm hm
              refine lv_iconst (v := 0) hx hb dX10_rule_42 (by decide) ?_
              refine lv_topi (fun v9 ev9 => ?_)
              have hm := nm_at hm ev9
              refine lv_istore_n (lv' := [(3, .int v9), (0, .ref (ad 0)), (1, .int a1), (2, .int a2)]) hx hb dX10_rule_43 rfl hl (by decide) rfl (fun ls hl => ?_)
              refine lv_iconst (v := 0) hx hb dX10_rule_44 (by decide) ?_
              refine lv_topi (fun v10 ev10 => ?_)
              have hm := nm_at hm ev10
              refine lv_istore (lv' := [(4, .int v10), (3, .int v9), (0, .ref (ad 0)), (1, .int a1), (2, .int a2)]) hx hb dX10_rule_45 hl (by decide) rfl (fun ls hl => ?_)
              exact kX10_rule_b47 F C0 hA F a1 a2 v9 v10 _ _ _ hm hw (lv_sub hl [2, 3, 4, 1, 0] rfl)
            · have hm := Eq.trans (if_pos c8).symm hm
              refine lv_iconst (v := (-1)) hx hb dX10_rule_40 (by decide) ?_
              obtain rfl := sj1 hm
              exact r_iret C0 hw dX10_rule_41 ⟨rfl, rfl⟩
        · have hm := Eq.trans (if_neg c4).symm hm
          refine lv_bipush (v := (-2)) hx hb dX10_rule_19 (by decide) ?_
          obtain rfl := sj1 hm
          exact r_iret C0 hw dX10_rule_21 ⟨rfl, rfl⟩
theorem tX10_rule (l : Launch) (E : EV) (ad : Nat → Nat) (F : Nat) (zx : OS) (a1 : Int32) (a2 : Int32) {r : Int32} (hm : mX10_rule F zx a1 a2 = some r) : CT l yX10_rule wsX10_rule ({ frames := 0, cells := 0, slots := 0, locals := 0 } : Room) E [.ref (ad 0), .int a1, .int a2] (wM E ad zx) (Qd (some (.int r)) (wM E ad zx)) 0 0 :=
  CT.of (mL := 5) (lvs := [(0, .ref (ad 0)), (1, .int a1), (2, .int a2)]) (by decide +kernel) rfl (Nat.le_of_ble_eq_true rfl) rfl rfl rfl (fun p e s m below meth c A C0 hA hw ls hl => kX10_rule_b0 (ad := ad) F C0 hA a1 a2 _ _ _ hm hw (lv_sub hl [0, 1, 2] rfl))
theorem lkX10_want_58 : Cond.fieldLink RX10 58 (TX10 19).1 (TX10 19).2.1 (TX10 19).2.2.1 ∈ wsX10_want := by decide +kernel
theorem hiX10_want_X10 : ∀ w ∈ u_ws RX10 TX10 53, w ∈ wsX10_want := by decide +kernel
def mX10_want_b66  (zx : OS) (a1 : Int32) (a2 : Int32) (a3 : Int32) (t0 : Int32) : Option (Int32 × OS) := (if (a2 : Int32) < a3 then some ((-2), zx) else (if (a2 : Int32) ≤ t0 then gd a1 7 (nm (zx.2.2.1 19 (a1 : Int32).toNatClampNeg : Int32) (fun v4 => gd a1 7 (nm (sA zx 19 a1 a2) (fun zx6 => some (v4, zx6))))) else some ((-2), zx)))
def mX10_want_b33  (zx : OS) (a1 : Int32) (a2 : Int32) (t0 : Int32) : Option (Int32 × OS) := (if 4 ≤ (a1 : Int32) then (if (a1 : Int32) = 4 then mX10_want_b66 zx a1 a2 t0 1 else (if (a1 : Int32) = 5 then mX10_want_b66 zx a1 a2 t0 6 else mX10_want_b66 zx a1 a2 t0 3000)) else mX10_want_b66 zx a1 a2 t0 127)
def mX10_want_b0  (zx : OS) (a1 : Int32) (a2 : Int32) : Option (Int32 × OS) := (if (a1 : Int32) < 0 then some ((-2), zx) else (if (a1 : Int32) ≤ 6 then (if (a1 : Int32) = 5 then mX10_want_b33 zx a1 a2 (-1) else (if (a1 : Int32) = 6 then mX10_want_b33 zx a1 a2 1 else mX10_want_b33 zx a1 a2 0)) else some ((-2), zx)))
def mX10_want (zx : OS) (a1 : Int32) (a2 : Int32) : Option (Int32 × OS) := mX10_want_b0 zx a1 a2
set_option maxRecDepth 20000 in
theorem kX10_want_b66 {p : Program} {l : Launch} {e : Env} {s : State} {m : MethodId} {args : Array Value} {below : List Frame} {meth : Method} {c : Code} {A : Nat → Prop} {E : EV} {ad : Nat → Nat}  {r : Int32} {zx' : OS} (C0 : Cx RX10 "want" cX10_want (some .int) 6 wsX10_want p s m args meth c) (hA : Ax E A s) : ∀ (zx : OS) (a1 : Int32) (a2 : Int32) (a3 : Int32) (t0 : Int32) (H : Heap) (locs : List Loc) (ls : Array Slot), mX10_want_b66 zx a1 a2 a3 t0 = some (r, zx') → Wd E A s H locs (wM E ad zx) → lv_has ls 6 [(0, .ref (ad 0)), (1, .int a1), (2, .int a2), (3, .int a3)] → W p l e ({ frames := 0, cells := 0, slots := 0, locals := 0 } : Room) s m args below meth c H locs 0 0 (MQ below (QG E (Qd (some (.int r)) (wM E ad zx')) A) args s 0 0 A) (F0 m 66 ls [.int t0]) := by
  have hx := C0.1
  have hb := C0.2.1
  intro zx a1 a2 a3 t0 H locs ls hm hw hl
  unfold mX10_want_b66 at hm
  refine lv_istore (lv' := [(4, .int t0), (0, .ref (ad 0)), (1, .int a1), (2, .int a2), (3, .int a3)]) hx hb dX10_want_66 hl (by decide) rfl (fun ls hl => ?_)
  refine lv_iload_n hx hb dX10_want_68 rfl (lv_at hl 3 rfl) ?_
  refine lv_iload_n hx hb dX10_want_69 rfl (lv_at hl 4 rfl) ?_
  refine lv_icmp_lt (tgt := 79) hx hb dX10_want_70 (by decide) (fun c1 => ?_) (fun c1 => ?_)
  · have hm := Eq.trans (if_pos c1).symm hm
    refine lv_bipush (v := (-2)) hx hb dX10_want_79 (by decide) ?_
    obtain ⟨rfl, rfl⟩ := sj2 hm
    exact r_iret C0 hw dX10_want_81 ⟨rfl, rfl⟩
  · have hm := Eq.trans (if_neg c1).symm hm
    refine lv_iload_n hx hb dX10_want_73 rfl (lv_at hl 3 rfl) ?_
    refine lv_iload hx hb dX10_want_74 (lv_at hl 0 rfl) ?_
    refine lv_icmp_le (tgt := 82) hx hb dX10_want_76 (by decide) (fun c2 => ?_) (fun c2 => ?_)
    · have hm := Eq.trans (if_pos c2).symm hm
      refine lv_aload_n hx hb dX10_want_82 rfl (lv_at hl 1 rfl) ?_
      refine gM_0_19 C0 hA hw hiX10_want_X10 lkX10_want_58 dX10_want_83 ?_
      refine lv_iload_n hx hb dX10_want_86 rfl (lv_at hl 2 rfl) ?_
      obtain ⟨c3, hm⟩ := gd_some hm
      refine lM_17 C0 hA hw c3 dX10_want_87 ?_
      refine lv_topi (fun v4 ev4 => ?_)
      have hm := nm_at hm ev4
      refine lv_istore (lv' := [(5, .int v4), (4, .int t0), (0, .ref (ad 0)), (1, .int a1), (2, .int a2), (3, .int a3)]) hx hb dX10_want_88 hl (by decide) rfl (fun ls hl => ?_)
      refine lv_aload_n hx hb dX10_want_90 rfl (lv_at hl 2 rfl) ?_
      refine gM_0_19 C0 hA hw hiX10_want_X10 lkX10_want_58 dX10_want_91 ?_
      refine lv_iload_n hx hb dX10_want_94 rfl (lv_at hl 3 rfl) ?_
      refine lv_iload_n hx hb dX10_want_95 rfl (lv_at hl 4 rfl) ?_
      obtain ⟨c5, hm⟩ := gd_some hm
      refine sM_17 C0 hA hw c5 dX10_want_96 (fun zx6 ezx6 H locs hw => ?_)
      have hm := nm_at hm ezx6
      refine lv_iload hx hb dX10_want_97 (lv_at hl 0 rfl) ?_
      obtain ⟨rfl, rfl⟩ := sj2 hm
      exact r_iret C0 hw dX10_want_99 ⟨rfl, rfl⟩
    · have hm := Eq.trans (if_neg c2).symm hm
      refine lv_bipush (v := (-2)) hx hb dX10_want_79 (by decide) ?_
      obtain ⟨rfl, rfl⟩ := sj2 hm
      exact r_iret C0 hw dX10_want_81 ⟨rfl, rfl⟩
set_option maxRecDepth 20000 in
theorem kX10_want_b33 {p : Program} {l : Launch} {e : Env} {s : State} {m : MethodId} {args : Array Value} {below : List Frame} {meth : Method} {c : Code} {A : Nat → Prop} {E : EV} {ad : Nat → Nat}  {r : Int32} {zx' : OS} (C0 : Cx RX10 "want" cX10_want (some .int) 6 wsX10_want p s m args meth c) (hA : Ax E A s) : ∀ (zx : OS) (a1 : Int32) (a2 : Int32) (t0 : Int32) (H : Heap) (locs : List Loc) (ls : Array Slot), mX10_want_b33 zx a1 a2 t0 = some (r, zx') → Wd E A s H locs (wM E ad zx) → lv_has ls 6 [(0, .ref (ad 0)), (1, .int a1), (2, .int a2)] → W p l e ({ frames := 0, cells := 0, slots := 0, locals := 0 } : Room) s m args below meth c H locs 0 0 (MQ below (QG E (Qd (some (.int r)) (wM E ad zx')) A) args s 0 0 A) (F0 m 33 ls [.int t0]) := by
  have hx := C0.1
  have hb := C0.2.1
  intro zx a1 a2 t0 H locs ls hm hw hl
  unfold mX10_want_b33 at hm
  refine lv_istore_n (lv' := [(3, .int t0), (0, .ref (ad 0)), (1, .int a1), (2, .int a2)]) hx hb dX10_want_33 rfl hl (by decide) rfl (fun ls hl => ?_)
  refine lv_iload_n hx hb dX10_want_34 rfl (lv_at hl 2 rfl) ?_
  refine lv_iconst (v := 4) hx hb dX10_want_35 (by decide) ?_
  refine lv_icmp_ge (tgt := 44) hx hb dX10_want_36 (by decide) (fun c1 => ?_) (fun c1 => ?_)
  · have hm := Eq.trans (if_pos c1).symm hm
    refine lv_iload_n hx hb dX10_want_44 rfl (lv_at hl 2 rfl) ?_
    refine lv_iconst (v := 4) hx hb dX10_want_45 (by decide) ?_
    refine lv_icmp_ne (tgt := 53) hx hb dX10_want_46 (by decide) (fun c2 => ?_) (fun c2 => ?_)
    · have hm := Eq.trans (if_neg c2).symm hm
      refine lv_iload_n hx hb dX10_want_53 rfl (lv_at hl 2 rfl) ?_
      refine lv_iconst (v := 5) hx hb dX10_want_54 (by decide) ?_
      refine lv_icmp_ne (tgt := 63) hx hb dX10_want_55 (by decide) (fun c3 => ?_) (fun c3 => ?_)
      · have hm := Eq.trans (if_neg c3).symm hm
        refine lv_sipush (v := 3000) hx hb dX10_want_63 (by decide) ?_
        exact kX10_want_b66 C0 hA zx a1 a2 t0 3000 _ _ _ hm hw (lv_sub hl [1, 2, 3, 0] rfl)
      · have hm := Eq.trans (if_pos c3).symm hm
        refine lv_bipush (v := 6) hx hb dX10_want_58 (by decide) ?_
        refine lv_goto (tgt := 66) hx hb dX10_want_60 (by decide) ?_
        exact kX10_want_b66 C0 hA zx a1 a2 t0 6 _ _ _ hm hw (lv_sub hl [1, 2, 3, 0] rfl)
    · have hm := Eq.trans (if_pos c2).symm hm
      refine lv_iconst (v := 1) hx hb dX10_want_49 (by decide) ?_
      refine lv_goto (tgt := 66) hx hb dX10_want_50 (by decide) ?_
      exact kX10_want_b66 C0 hA zx a1 a2 t0 1 _ _ _ hm hw (lv_sub hl [1, 2, 3, 0] rfl)
  · have hm := Eq.trans (if_neg c1).symm hm
    refine lv_bipush (v := 127) hx hb dX10_want_39 (by decide) ?_
    refine lv_goto (tgt := 66) hx hb dX10_want_41 (by decide) ?_
    exact kX10_want_b66 C0 hA zx a1 a2 t0 127 _ _ _ hm hw (lv_sub hl [1, 2, 3, 0] rfl)
set_option maxRecDepth 20000 in
theorem kX10_want_b0 {p : Program} {l : Launch} {e : Env} {s : State} {m : MethodId} {args : Array Value} {below : List Frame} {meth : Method} {c : Code} {A : Nat → Prop} {E : EV} {ad : Nat → Nat}  {r : Int32} {zx' : OS} (C0 : Cx RX10 "want" cX10_want (some .int) 6 wsX10_want p s m args meth c) (hA : Ax E A s) : ∀ (zx : OS) (a1 : Int32) (a2 : Int32) (H : Heap) (locs : List Loc) (ls : Array Slot), mX10_want_b0 zx a1 a2 = some (r, zx') → Wd E A s H locs (wM E ad zx) → lv_has ls 6 [(0, .ref (ad 0)), (1, .int a1), (2, .int a2)] → W p l e ({ frames := 0, cells := 0, slots := 0, locals := 0 } : Room) s m args below meth c H locs 0 0 (MQ below (QG E (Qd (some (.int r)) (wM E ad zx')) A) args s 0 0 A) (F0 m 0 ls []) := by
  have hx := C0.1
  have hb := C0.2.1
  intro zx a1 a2 H locs ls hm hw hl
  unfold mX10_want_b0 at hm
  refine lv_iload_n hx hb dX10_want_0 rfl (lv_at hl 1 rfl) ?_
  refine lv_if_lt (tgt := 10) hx hb dX10_want_1 (by decide) (fun c1 => ?_) (fun c1 => ?_)
  · have hm := Eq.trans (if_pos c1).symm hm
    refine lv_bipush (v := (-2)) hx hb dX10_want_10 (by decide) ?_
    obtain ⟨rfl, rfl⟩ := sj2 hm
    exact r_iret C0 hw dX10_want_12 ⟨rfl, rfl⟩
  · have hm := Eq.trans (if_neg c1).symm hm
    refine lv_iload_n hx hb dX10_want_4 rfl (lv_at hl 1 rfl) ?_
    refine lv_bipush (v := 6) hx hb dX10_want_5 (by decide) ?_
    refine lv_icmp_le (tgt := 13) hx hb dX10_want_7 (by decide) (fun c2 => ?_) (fun c2 => ?_)
    · have hm := Eq.trans (if_pos c2).symm hm
      refine lv_iload_n hx hb dX10_want_13 rfl (lv_at hl 1 rfl) ?_
      refine lv_iconst (v := 5) hx hb dX10_want_14 (by decide) ?_
      refine lv_icmp_ne (tgt := 22) hx hb dX10_want_15 (by decide) (fun c3 => ?_) (fun c3 => ?_)
      · have hm := Eq.trans (if_neg c3).symm hm
        refine lv_iload_n hx hb dX10_want_22 rfl (lv_at hl 1 rfl) ?_
        refine lv_bipush (v := 6) hx hb dX10_want_23 (by decide) ?_
        refine lv_icmp_ne (tgt := 32) hx hb dX10_want_25 (by decide) (fun c4 => ?_) (fun c4 => ?_)
        · have hm := Eq.trans (if_neg c4).symm hm
          refine lv_iconst (v := 0) hx hb dX10_want_32 (by decide) ?_
          exact kX10_want_b33 C0 hA zx a1 a2 0 _ _ _ hm hw (lv_sub hl [0, 1, 2] rfl)
        · have hm := Eq.trans (if_pos c4).symm hm
          refine lv_iconst (v := 1) hx hb dX10_want_28 (by decide) ?_
          refine lv_goto (tgt := 33) hx hb dX10_want_29 (by decide) ?_
          exact kX10_want_b33 C0 hA zx a1 a2 1 _ _ _ hm hw (lv_sub hl [0, 1, 2] rfl)
      · have hm := Eq.trans (if_pos c3).symm hm
        refine lv_iconst (v := (-1)) hx hb dX10_want_18 (by decide) ?_
        refine lv_goto (tgt := 33) hx hb dX10_want_19 (by decide) ?_
        exact kX10_want_b33 C0 hA zx a1 a2 (-1) _ _ _ hm hw (lv_sub hl [0, 1, 2] rfl)
    · have hm := Eq.trans (if_neg c2).symm hm
      refine lv_bipush (v := (-2)) hx hb dX10_want_10 (by decide) ?_
      obtain ⟨rfl, rfl⟩ := sj2 hm
      exact r_iret C0 hw dX10_want_12 ⟨rfl, rfl⟩
theorem tX10_want (l : Launch) (E : EV) (ad : Nat → Nat) (zx : OS) (a1 : Int32) (a2 : Int32) {r : Int32} {zx' : OS} (hm : mX10_want zx a1 a2 = some (r, zx')) : CT l yX10_want wsX10_want ({ frames := 0, cells := 0, slots := 0, locals := 0 } : Room) E [.ref (ad 0), .int a1, .int a2] (wM E ad zx) (Qd (some (.int r)) (wM E ad zx')) 0 0 :=
  CT.of (mL := 6) (lvs := [(0, .ref (ad 0)), (1, .int a1), (2, .int a2)]) (by decide +kernel) rfl (Nat.le_of_ble_eq_true rfl) rfl rfl rfl (fun p e s m below meth c A C0 hA hw ls hl => kX10_want_b0 (ad := ad) C0 hA zx a1 a2 _ _ _ hm hw (lv_sub hl [0, 1, 2] rfl))

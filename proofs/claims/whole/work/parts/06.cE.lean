theorem lkX3_openPlace_15 : Cond.fieldLink RX3 15 (TX3 7).1 (TX3 7).2.1 (TX3 7).2.2.1 ∈ wsX3_openPlace := by decide +kernel
theorem lkX3_openPlace_30 : Cond.fieldLink RX3 30 (TX3 0).1 (TX3 0).2.1 (TX3 0).2.2.1 ∈ wsX3_openPlace := by decide +kernel
theorem lkX3_openPlace_42 : Cond.fieldLink RX3 42 (TX3 3).1 (TX3 3).2.1 (TX3 3).2.2.1 ∈ wsX3_openPlace := by decide +kernel
theorem lkX3_openPlace_38 : Cond.fieldLink RX3 38 (TX3 2).1 (TX3 2).2.1 (TX3 2).2.2.1 ∈ wsX3_openPlace := by decide +kernel
theorem lkX3_openPlace_18 : Cond.fieldLink RX3 18 (TX3 8).1 (TX3 8).2.1 (TX3 8).2.2.1 ∈ wsX3_openPlace := by decide +kernel
theorem lkX3_openPlace_21 : Cond.fieldLink RX3 21 (TX3 9).1 (TX3 9).2.1 (TX3 9).2.2.1 ∈ wsX3_openPlace := by decide +kernel
theorem lkX3_openPlace_24 : Cond.fieldLink RX3 24 (TX3 10).1 (TX3 10).2.1 (TX3 10).2.2.1 ∈ wsX3_openPlace := by decide +kernel
theorem lkX3_openPlace_27 : Cond.fieldLink RX3 27 (TX3 11).1 (TX3 11).2.1 (TX3 11).2.2.1 ∈ wsX3_openPlace := by decide +kernel
theorem hiX3_openPlace_X3 : ∀ w ∈ u_ws RX3 TX3 12, w ∈ wsX3_openPlace := by decide +kernel
theorem hiX3_openPlace_X4 : ∀ w ∈ u_ws RX4 TX4 8, w ∈ wsX3_openPlace := by decide +kernel
theorem hiX3_openPlace_X2 : ∀ w ∈ u_ws RX2 TX2 16, w ∈ wsX3_openPlace := by decide +kernel
theorem hiX3_openPlace_X8 : ∀ w ∈ u_ws RX8 TX8 7, w ∈ wsX3_openPlace := by decide +kernel
def mX3_openPlace_b0  (zk : OS) (zd : OS) (zg : OS) (zu : OS) (zl : OS) (a1 : Int32) : Option (OS × OS) := (if 3001 ≤ (zk.1 7 : Int32) then some (zk, zl) else b1 (mX2_hasRule zg a1) (fun r2 => (if (r2 : Int32) = 0 then some (zk, zl) else gd (zk.1 7) 3001 (nm (sA zl 0 (zk.1 7) a1) (fun zl6 => gd a1 26 (gd (zk.1 7) 3001 (nm (sA zl6 1 (zk.1 7) (zg.2.2.1 2 (a1 : Int32).toNatClampNeg)) (fun zl9 => gd (zk.1 7) 3001 (nm (sB zl9 2 (zk.1 7) 0) (fun zl11 => gd (zk.1 7) 3001 (nm (sA zl11 3 (zk.1 7) (zu.1 6)) (fun zl13 => gd (zk.1 7) 3001 (nm (sA zl13 4 (zk.1 7) (zk.1 8)) (fun zl15 => gd (zk.1 7) 3001 (nm (sA zl15 5 (zk.1 7) (zk.1 9)) (fun zl17 => gd (zk.1 7) 3001 (nm (sA zl17 6 (zk.1 7) (zk.1 10)) (fun zl19 => gd (zk.1 7) 3001 (nm (sA zl19 7 (zk.1 7) (zk.1 11)) (fun zl21 => nm (sI zk 7 ((zk.1 7) + 1)) (fun zk22 => some (zk22, zl21))))))))))))))))))))))
def mX3_openPlace (zk : OS) (zd : OS) (zg : OS) (zu : OS) (zl : OS) (a1 : Int32) : Option (OS × OS) := mX3_openPlace_b0 zk zd zg zu zl a1
set_option maxRecDepth 20000 in
theorem kX3_openPlace_b0 {p : Program} {l : Launch} {e : Env} {s : State} {m : MethodId} {args : Array Value} {below : List Frame} {meth : Method} {c : Code} {A : Nat → Prop} {E : EV} {ad : Nat → Nat} {zd : OS} {zg : OS} {zu : OS} {zk' : OS} {zl' : OS} (C0 : Cx RX3 "openPlace" cX3_openPlace (none) 2 wsX3_openPlace p s m args meth c) (hA : Ax E A s) : ∀ (zk : OS) (zl : OS) (a1 : Int32) (H : Heap) (locs : List Loc) (ls : Array Slot), mX3_openPlace_b0 zk zd zg zu zl a1 = some (zk', zl') → Wd E A s H locs (wK E ad zk zd zg zu zl) → lv_has ls 2 [(0, .ref (ad 0)), (1, .int a1)] → W p l e ({ frames := 2, cells := 0, slots := 0, locals := 43 } : Room) s m args below meth c H locs 0 0 (MQ below (QG E (Qd none (wK E ad zk' zd zg zu zl')) A) args s 0 0 A) (F0 m 0 ls []) := by
  have hx := C0.1
  have hb := C0.2.1
  intro zk zl a1 H locs ls hm hw hl
  unfold mX3_openPlace_b0 at hm
  refine lv_aload_n hx hb dX3_openPlace_0 rfl (lv_at hl 0 rfl) ?_
  refine gK_0_7 C0 hA hw hiX3_openPlace_X3 lkX3_openPlace_15 dX3_openPlace_1 ?_
  refine lv_sipush (v := 3001) hx hb dX3_openPlace_4 (by decide) ?_
  refine lv_icmp_ge (tgt := 21) hx hb dX3_openPlace_7 (by decide) (fun c1 => ?_) (fun c1 => ?_)
  · have hm := Eq.trans (if_pos c1).symm hm
    obtain ⟨rfl, rfl⟩ := sj2 hm
    exact r_vret C0 hw dX3_openPlace_21 ⟨rfl, rfl⟩
  · have hm := Eq.trans (if_neg c1).symm hm
    refine lv_aload_n hx hb dX3_openPlace_10 rfl (lv_at hl 0 rfl) ?_
    refine gK_0_0 C0 hA hw hiX3_openPlace_X3 lkX3_openPlace_30 dX3_openPlace_11 ?_
    refine lv_iload_n hx hb dX3_openPlace_14 rfl (lv_at hl 1 rfl) ?_
    obtain ⟨r2, h3, hm⟩ := b1_some hm
    refine r_backP (va_runV (As := [.int a1]) (rest := []) ⟨hx, hb, C0.2.2.2.1, C0.2.2.2.2.1, C0.2.2.2.2.2.1⟩ (tX2_hasRule l E (fun k => ad (k + 3)) zg a1 h3 H.size) (cwV 1 C0.2.2.2.2.2.1 gX3_openPlace_X2_hasRule rfl rfl rfl (by decide +kernel) ⟨Nat.le_of_ble_eq_true rfl, Nat.le_of_ble_eq_true rfl⟩) ⟨PG_blind, va_recv hA.2.2.1.1 hw.1 (ci := 2) (q0 := 3) rfl rfl, pg_at hA hw [3, 4, 5, 6, 7, 8, 9, 10, 11, 12, 13, 14] rfl (wcK_zg E ad zk zd zg zu zl)⟩ rfl rfl hl.1 rfl (lv_room (Nat.le_of_ble_eq_true rfl)) dX3_openPlace_15 ⟨Nat.zero_le _, Nat.zero_le _⟩) hA hw [3, 4, 5, 6, 7, 8, 9, 10, 11, 12, 13, 14] [0, 1, 2, 15, 16, 17, 18, 19, 20, 21, 22, 23, 24, 25, 26, 27, 28, 29, 30] (wcK_zg E ad zk zd zg zu zl) (wqK_zg E ad zk zd zg zu zl) rfl (by decide) (fun H locs hw => ?_)
    have hw := wjK_zg zg hw
    refine lv_if_ne (tgt := 22) hx hb dX3_openPlace_18 (by decide) (fun c4 => ?_) (fun c4 => ?_)
    · have hm := Eq.trans (if_neg c4).symm hm
      refine lv_aload_n hx hb dX3_openPlace_22 rfl (lv_at hl 0 rfl) ?_
      refine gK_0_3 C0 hA hw hiX3_openPlace_X3 lkX3_openPlace_42 dX3_openPlace_23 ?_
      refine gnK_22_0 C0 hA hw hiX3_openPlace_X4 lnX3_86 dX3_openPlace_26 ?_
      refine lv_aload_n hx hb dX3_openPlace_29 rfl (lv_at hl 0 rfl) ?_
      refine gK_0_7 C0 hA hw hiX3_openPlace_X3 lkX3_openPlace_15 dX3_openPlace_30 ?_
      refine lv_iload_n hx hb dX3_openPlace_33 rfl (lv_at hl 1 rfl) ?_
      obtain ⟨c5, hm⟩ := gd_some hm
      refine sK_23 C0 hA hw c5 dX3_openPlace_34 (fun zl6 ezl6 H locs hw => ?_)
      have hm := nm_at hm ezl6
      refine lv_aload_n hx hb dX3_openPlace_35 rfl (lv_at hl 0 rfl) ?_
      refine gK_0_3 C0 hA hw hiX3_openPlace_X3 lkX3_openPlace_42 dX3_openPlace_36 ?_
      refine gnK_22_1 C0 hA hw hiX3_openPlace_X4 lnX3_67 dX3_openPlace_39 ?_
      refine lv_aload_n hx hb dX3_openPlace_42 rfl (lv_at hl 0 rfl) ?_
      refine gK_0_7 C0 hA hw hiX3_openPlace_X3 lkX3_openPlace_15 dX3_openPlace_43 ?_
      refine lv_aload_n hx hb dX3_openPlace_46 rfl (lv_at hl 0 rfl) ?_
      refine gK_0_0 C0 hA hw hiX3_openPlace_X3 lkX3_openPlace_30 dX3_openPlace_47 ?_
      refine gnK_3_2 C0 hA hw hiX3_openPlace_X2 lnX3_89 dX3_openPlace_50 ?_
      refine lv_iload_n hx hb dX3_openPlace_53 rfl (lv_at hl 1 rfl) ?_
      obtain ⟨c7, hm⟩ := gd_some hm
      refine lK_6 C0 hA hw c7 dX3_openPlace_54 ?_
      obtain ⟨c8, hm⟩ := gd_some hm
      refine sK_24 C0 hA hw c8 dX3_openPlace_55 (fun zl9 ezl9 H locs hw => ?_)
      have hm := nm_at hm ezl9
      refine lv_aload_n hx hb dX3_openPlace_56 rfl (lv_at hl 0 rfl) ?_
      refine gK_0_3 C0 hA hw hiX3_openPlace_X3 lkX3_openPlace_42 dX3_openPlace_57 ?_
      refine gnK_22_2 C0 hA hw hiX3_openPlace_X4 lnX3_92 dX3_openPlace_60 ?_
      refine lv_aload_n hx hb dX3_openPlace_63 rfl (lv_at hl 0 rfl) ?_
      refine gK_0_7 C0 hA hw hiX3_openPlace_X3 lkX3_openPlace_15 dX3_openPlace_64 ?_
      refine lv_lconst (v := 0) hx hb dX3_openPlace_67 (by decide) ?_
      obtain ⟨c10, hm⟩ := gd_some hm
      refine sK_25 C0 hA hw c10 dX3_openPlace_68 (fun zl11 ezl11 H locs hw => ?_)
      have hm := nm_at hm ezl11
      refine lv_aload_n hx hb dX3_openPlace_69 rfl (lv_at hl 0 rfl) ?_
      refine gK_0_3 C0 hA hw hiX3_openPlace_X3 lkX3_openPlace_42 dX3_openPlace_70 ?_
      refine gnK_22_3 C0 hA hw hiX3_openPlace_X4 lnX3_96 dX3_openPlace_73 ?_
      refine lv_aload_n hx hb dX3_openPlace_76 rfl (lv_at hl 0 rfl) ?_
      refine gK_0_7 C0 hA hw hiX3_openPlace_X3 lkX3_openPlace_15 dX3_openPlace_77 ?_
      refine lv_aload_n hx hb dX3_openPlace_80 rfl (lv_at hl 0 rfl) ?_
      refine gK_0_2 C0 hA hw hiX3_openPlace_X3 lkX3_openPlace_38 dX3_openPlace_81 ?_
      refine gnK_15_6 C0 hA hw hiX3_openPlace_X8 lnX3_79 dX3_openPlace_84 ?_
      obtain ⟨c12, hm⟩ := gd_some hm
      refine sK_26 C0 hA hw c12 dX3_openPlace_87 (fun zl13 ezl13 H locs hw => ?_)
      have hm := nm_at hm ezl13
      refine lv_aload_n hx hb dX3_openPlace_88 rfl (lv_at hl 0 rfl) ?_
      refine gK_0_3 C0 hA hw hiX3_openPlace_X3 lkX3_openPlace_42 dX3_openPlace_89 ?_
      refine gnK_22_4 C0 hA hw hiX3_openPlace_X4 lnX3_99 dX3_openPlace_92 ?_
      refine lv_aload_n hx hb dX3_openPlace_95 rfl (lv_at hl 0 rfl) ?_
      refine gK_0_7 C0 hA hw hiX3_openPlace_X3 lkX3_openPlace_15 dX3_openPlace_96 ?_
      refine lv_aload_n hx hb dX3_openPlace_99 rfl (lv_at hl 0 rfl) ?_
      refine gK_0_8 C0 hA hw hiX3_openPlace_X3 lkX3_openPlace_18 dX3_openPlace_100 ?_
      obtain ⟨c14, hm⟩ := gd_some hm
      refine sK_27 C0 hA hw c14 dX3_openPlace_103 (fun zl15 ezl15 H locs hw => ?_)
      have hm := nm_at hm ezl15
      refine lv_aload_n hx hb dX3_openPlace_104 rfl (lv_at hl 0 rfl) ?_
      refine gK_0_3 C0 hA hw hiX3_openPlace_X3 lkX3_openPlace_42 dX3_openPlace_105 ?_
      refine gnK_22_5 C0 hA hw hiX3_openPlace_X4 lnX3_101 dX3_openPlace_108 ?_
      refine lv_aload_n hx hb dX3_openPlace_111 rfl (lv_at hl 0 rfl) ?_
      refine gK_0_7 C0 hA hw hiX3_openPlace_X3 lkX3_openPlace_15 dX3_openPlace_112 ?_
      refine lv_aload_n hx hb dX3_openPlace_115 rfl (lv_at hl 0 rfl) ?_
      refine gK_0_9 C0 hA hw hiX3_openPlace_X3 lkX3_openPlace_21 dX3_openPlace_116 ?_
      obtain ⟨c16, hm⟩ := gd_some hm
      refine sK_28 C0 hA hw c16 dX3_openPlace_119 (fun zl17 ezl17 H locs hw => ?_)
      have hm := nm_at hm ezl17
      refine lv_aload_n hx hb dX3_openPlace_120 rfl (lv_at hl 0 rfl) ?_
      refine gK_0_3 C0 hA hw hiX3_openPlace_X3 lkX3_openPlace_42 dX3_openPlace_121 ?_
      refine gnK_22_6 C0 hA hw hiX3_openPlace_X4 lnX3_104 dX3_openPlace_124 ?_
      refine lv_aload_n hx hb dX3_openPlace_127 rfl (lv_at hl 0 rfl) ?_
      refine gK_0_7 C0 hA hw hiX3_openPlace_X3 lkX3_openPlace_15 dX3_openPlace_128 ?_
      refine lv_aload_n hx hb dX3_openPlace_131 rfl (lv_at hl 0 rfl) ?_
      refine gK_0_10 C0 hA hw hiX3_openPlace_X3 lkX3_openPlace_24 dX3_openPlace_132 ?_
      obtain ⟨c18, hm⟩ := gd_some hm
      refine sK_29 C0 hA hw c18 dX3_openPlace_135 (fun zl19 ezl19 H locs hw => ?_)
      have hm := nm_at hm ezl19
      refine lv_aload_n hx hb dX3_openPlace_136 rfl (lv_at hl 0 rfl) ?_
      refine gK_0_3 C0 hA hw hiX3_openPlace_X3 lkX3_openPlace_42 dX3_openPlace_137 ?_
      refine gnK_22_7 C0 hA hw hiX3_openPlace_X4 lnX3_107 dX3_openPlace_140 ?_
      refine lv_aload_n hx hb dX3_openPlace_143 rfl (lv_at hl 0 rfl) ?_
      refine gK_0_7 C0 hA hw hiX3_openPlace_X3 lkX3_openPlace_15 dX3_openPlace_144 ?_
      refine lv_aload_n hx hb dX3_openPlace_147 rfl (lv_at hl 0 rfl) ?_
      refine gK_0_11 C0 hA hw hiX3_openPlace_X3 lkX3_openPlace_27 dX3_openPlace_148 ?_
      obtain ⟨c20, hm⟩ := gd_some hm
      refine sK_30 C0 hA hw c20 dX3_openPlace_151 (fun zl21 ezl21 H locs hw => ?_)
      have hm := nm_at hm ezl21
      refine lv_aload_n hx hb dX3_openPlace_152 rfl (lv_at hl 0 rfl) ?_
      refine lv_dup hx hb dX3_openPlace_153 rfl ?_
      refine gK_0_7 C0 hA hw hiX3_openPlace_X3 lkX3_openPlace_15 dX3_openPlace_154 ?_
      refine lv_iconst (v := 1) hx hb dX3_openPlace_157 (by decide) ?_
      refine lv_iadd hx hb dX3_openPlace_158 ?_
      refine pK_0_7 C0 hA hw hiX3_openPlace_X3 lkX3_openPlace_15 dX3_openPlace_159 (fun zk22 ezk22 H locs hw => ?_)
      have hm := nm_at hm ezk22
      obtain ⟨rfl, rfl⟩ := sj2 hm
      exact r_vret C0 hw dX3_openPlace_162 ⟨rfl, rfl⟩
    · have hm := Eq.trans (if_pos c4).symm hm
      obtain ⟨rfl, rfl⟩ := sj2 hm
      exact r_vret C0 hw dX3_openPlace_21 ⟨rfl, rfl⟩
theorem tX3_openPlace (l : Launch) (E : EV) (ad : Nat → Nat) (zk : OS) (zd : OS) (zg : OS) (zu : OS) (zl : OS) (a1 : Int32) {zk' : OS} {zl' : OS} (hm : mX3_openPlace zk zd zg zu zl a1 = some (zk', zl')) : CT l yX3_openPlace wsX3_openPlace ({ frames := 2, cells := 0, slots := 0, locals := 43 } : Room) E [.ref (ad 0), .int a1] (wK E ad zk zd zg zu zl) (Qd none (wK E ad zk' zd zg zu zl')) 0 0 :=
  CT.of (mL := 2) (lvs := [(0, .ref (ad 0)), (1, .int a1)]) (by decide +kernel) rfl (Nat.le_of_ble_eq_true rfl) rfl rfl rfl (fun p e s m below meth c A C0 hA hw ls hl => kX3_openPlace_b0 (ad := ad) C0 hA zk zl a1 _ _ _ hm hw (lv_sub hl [0, 1] rfl))
theorem lkX3_choose_42 : Cond.fieldLink RX3 42 (TX3 3).1 (TX3 3).2.1 (TX3 3).2.2.1 ∈ wsX3_choose := by decide +kernel
theorem lkX3_choose_30 : Cond.fieldLink RX3 30 (TX3 0).1 (TX3 0).2.1 (TX3 0).2.2.1 ∈ wsX3_choose := by decide +kernel
theorem lkX3_choose_46 : Cond.fieldLink RX3 46 (TX3 4).1 (TX3 4).2.1 (TX3 4).2.2.1 ∈ wsX3_choose := by decide +kernel
theorem hiX3_choose_X3 : ∀ w ∈ u_ws RX3 TX3 12, w ∈ wsX3_choose := by decide +kernel
theorem hiX3_choose_X4 : ∀ w ∈ u_ws RX4 TX4 8, w ∈ wsX3_choose := by decide +kernel
theorem hiX3_choose_X2 : ∀ w ∈ u_ws RX2 TX2 16, w ∈ wsX3_choose := by decide +kernel
def mX3_choose_b115 (F : Nat)  (zk : OS) (zd : OS) (zg : OS) (zu : OS) (zl : OS) (a1 : Int32) (a3 : Int32) (a5 : Int32) : Option (Int32 × OS × OS) := gd a1 3001 (gd a1 3001 (nm (sB zl 2 a1 ((zl.2.2.2 2 (a1 : Int32).toNatClampNeg) ||| (1 <<< ((a5 : Int32).toInt64 &&& 63)))) (fun zl3 => gd a1 3001 (gd (a3 + a5) 48 (gd a1 3001 (nm (sA zl3 1 a1 ((zl3.2.2.1 1 (a1 : Int32).toNatClampNeg) - (zg.2.2.1 4 (a3 + a5 : Int32).toNatClampNeg))) (fun zl7 => some (a3 + a5, zd, zl7))))))))
def mX3_choose_b44 (F : Nat)  : Nat → OS → OS → OS → OS → OS → Int32 → Int32 → Int32 → Int32 → Int32 → Int32 → Option (Int32 × OS × OS)
  | 0, _, _, _, _, _, _, _, _, _, _, _ => none
  | n + 1, zk, zd, zg, zu, zl, a1, a2, a3, a4, a5, a6 => gd a2 26 ((if (zg.2.2.1 1 (a2 : Int32).toNatClampNeg) ≤ (a6 : Int32) then mX3_choose_b115 F zk zd zg zu zl a1 a3 a5 else gd a1 3001 ((if (lg_cmp ((((zl.2.2.2 2 (a1 : Int32).toNatClampNeg : Int64).toUInt64 >>> ((a6 : Int32).toInt64.toUInt64 &&& Int64.toUInt64 63)).toInt64) &&& 1) 0 : Int32) = 0 then gd (a3 + a6) 48 (nm (a4 - (zg.2.2.1 4 (a3 + a6 : Int32).toNatClampNeg) : Int32) (fun v6 => (if 0 ≤ (v6 : Int32) then nm (a6 + 1 : Int32) (fun v8 => mX3_choose_b44 F n zk zd zg zu zl a1 a2 a3 v6 a6 v8) else mX3_choose_b115 F zk zd zg zu zl a1 a3 a6))) else nm (a6 + 1 : Int32) (fun v9 => mX3_choose_b44 F n zk zd zg zu zl a1 a2 a3 a4 a5 v9)))))
def mX3_choose_b0 (F : Nat)  (zk : OS) (zd : OS) (zg : OS) (zu : OS) (zl : OS) (a1 : Int32) : Option (Int32 × OS × OS) := gd a1 3001 (nm (zl.2.2.1 0 (a1 : Int32).toNatClampNeg : Int32) (fun v2 => gd v2 26 (nm (zg.2.2.1 0 (v2 : Int32).toNatClampNeg : Int32) (fun v4 => gd a1 3001 (b2 (mX1_drawUnder F zd (zl.2.2.1 1 (a1 : Int32).toNatClampNeg)) (fun r6 zd7 => nm (0 : Int32) (fun v9 => nm (0 : Int32) (fun v10 => mX3_choose_b44 F F zk zd7 zg zu zl a1 v2 v4 r6 v9 v10))))))))
def mX3_choose (F : Nat) (zk : OS) (zd : OS) (zg : OS) (zu : OS) (zl : OS) (a1 : Int32) : Option (Int32 × OS × OS) := mX3_choose_b0 F zk zd zg zu zl a1
set_option maxRecDepth 20000 in
theorem kX3_choose_b115 {p : Program} {l : Launch} {e : Env} {s : State} {m : MethodId} {args : Array Value} {below : List Frame} {meth : Method} {c : Code} {A : Nat → Prop} {E : EV} {ad : Nat → Nat} (F : Nat) {zk : OS} {zg : OS} {zu : OS} {r : Int32} {zd' : OS} {zl' : OS} (C0 : Cx RX3 "choose" cX3_choose (some .int) 7 wsX3_choose p s m args meth c) (hA : Ax E A s) : ∀ (zd : OS) (zl : OS) (a1 : Int32) (a3 : Int32) (a5 : Int32) (H : Heap) (locs : List Loc) (ls : Array Slot), mX3_choose_b115 F zk zd zg zu zl a1 a3 a5 = some (r, zd', zl') → Wd E A s H locs (wK E ad zk zd zg zu zl) → lv_has ls 7 [(0, .ref (ad 0)), (1, .int a1), (3, .int a3), (5, .int a5)] → W p l e ({ frames := 2, cells := 0, slots := 0, locals := 50 } : Room) s m args below meth c H locs 0 0 (MQ below (QG E (Qd (some (.int r)) (wK E ad zk zd' zg zu zl')) A) args s 0 0 A) (F0 m 115 ls []) := by
  have hx := C0.1
  have hb := C0.2.1
  intro zd zl a1 a3 a5 H locs ls hm hw hl
  unfold mX3_choose_b115 at hm
  refine lv_aload_n hx hb dX3_choose_115 rfl (lv_at hl 0 rfl) ?_
  refine gK_0_3 C0 hA hw hiX3_choose_X3 lkX3_choose_42 dX3_choose_116 ?_
  refine gnK_22_2 C0 hA hw hiX3_choose_X4 lnX3_92 dX3_choose_119 ?_
  refine lv_iload_n hx hb dX3_choose_122 rfl (lv_at hl 1 rfl) ?_
  refine lv_dup2_11 hx hb dX3_choose_123 rfl rfl ?_
  obtain ⟨c1, hm⟩ := gd_some hm
  refine lK_25 C0 hA hw c1 dX3_choose_124 ?_
  refine lv_lconst (v := 1) hx hb dX3_choose_125 (by decide) ?_
  refine lv_iload hx hb dX3_choose_126 (lv_at hl 3 rfl) ?_
  refine lv_lshl hx hb dX3_choose_128 rfl ?_
  refine lv_lor hx hb dX3_choose_129 ?_
  obtain ⟨c2, hm⟩ := gd_some hm
  refine sK_25 C0 hA hw c2 dX3_choose_130 (fun zl3 ezl3 H locs hw => ?_)
  have hm := nm_at hm ezl3
  refine lv_aload_n hx hb dX3_choose_131 rfl (lv_at hl 0 rfl) ?_
  refine gK_0_3 C0 hA hw hiX3_choose_X3 lkX3_choose_42 dX3_choose_132 ?_
  refine gnK_22_1 C0 hA hw hiX3_choose_X4 lnX3_67 dX3_choose_135 ?_
  refine lv_iload_n hx hb dX3_choose_138 rfl (lv_at hl 1 rfl) ?_
  refine lv_dup2_11 hx hb dX3_choose_139 rfl rfl ?_
  obtain ⟨c4, hm⟩ := gd_some hm
  refine lK_24 C0 hA hw c4 dX3_choose_140 ?_
  refine lv_aload_n hx hb dX3_choose_141 rfl (lv_at hl 0 rfl) ?_
  refine gK_0_0 C0 hA hw hiX3_choose_X3 lkX3_choose_30 dX3_choose_142 ?_
  refine gnK_3_4 C0 hA hw hiX3_choose_X2 lnX3_131 dX3_choose_145 ?_
  refine lv_iload_n hx hb dX3_choose_148 rfl (lv_at hl 2 rfl) ?_
  refine lv_iload hx hb dX3_choose_149 (lv_at hl 3 rfl) ?_
  refine lv_iadd hx hb dX3_choose_151 ?_
  obtain ⟨c5, hm⟩ := gd_some hm
  refine lK_8 C0 hA hw c5 dX3_choose_152 ?_
  refine lv_isub hx hb dX3_choose_153 ?_
  obtain ⟨c6, hm⟩ := gd_some hm
  refine sK_24 C0 hA hw c6 dX3_choose_154 (fun zl7 ezl7 H locs hw => ?_)
  have hm := nm_at hm ezl7
  refine lv_iload_n hx hb dX3_choose_155 rfl (lv_at hl 2 rfl) ?_
  refine lv_iload hx hb dX3_choose_156 (lv_at hl 3 rfl) ?_
  refine lv_iadd hx hb dX3_choose_158 ?_
  obtain ⟨rfl, rfl, rfl⟩ := sj3 hm
  exact r_iret C0 hw dX3_choose_159 ⟨rfl, rfl⟩
set_option maxRecDepth 20000 in
theorem kX3_choose_b44 {p : Program} {l : Launch} {e : Env} {s : State} {m : MethodId} {args : Array Value} {below : List Frame} {meth : Method} {c : Code} {A : Nat → Prop} {E : EV} {ad : Nat → Nat} (F : Nat) {zk : OS} {zg : OS} {zu : OS} {r : Int32} {zd' : OS} {zl' : OS} (C0 : Cx RX3 "choose" cX3_choose (some .int) 7 wsX3_choose p s m args meth c) (hA : Ax E A s) : ∀ (n : Nat) (zd : OS) (zl : OS) (a1 : Int32) (a2 : Int32) (a3 : Int32) (a4 : Int32) (a5 : Int32) (a6 : Int32) (H : Heap) (locs : List Loc) (ls : Array Slot), mX3_choose_b44 F n zk zd zg zu zl a1 a2 a3 a4 a5 a6 = some (r, zd', zl') → Wd E A s H locs (wK E ad zk zd zg zu zl) → lv_has ls 7 [(0, .ref (ad 0)), (1, .int a1), (2, .int a2), (3, .int a3), (4, .int a4), (5, .int a5), (6, .int a6)] → W p l e ({ frames := 2, cells := 0, slots := 0, locals := 50 } : Room) s m args below meth c H locs 0 0 (MQ below (QG E (Qd (some (.int r)) (wK E ad zk zd' zg zu zl')) A) args s 0 0 A) (F0 m 44 ls []) := by
  have hx := C0.1
  have hb := C0.2.1
  intro n
  induction n with
  | zero =>
    intro zd zl a1 a2 a3 a4 a5 a6 H locs ls hm
    cases hm
  | succ n ih =>
    intro zd zl a1 a2 a3 a4 a5 a6 H locs ls hm hw hl
    unfold mX3_choose_b44 at hm
    refine lv_iload hx hb dX3_choose_44 (lv_at hl 6 rfl) ?_
    refine lv_aload_n hx hb dX3_choose_46 rfl (lv_at hl 0 rfl) ?_
    refine gK_0_0 C0 hA hw hiX3_choose_X3 lkX3_choose_30 dX3_choose_47 ?_
    refine gnK_3_1 C0 hA hw hiX3_choose_X2 lnX3_128 dX3_choose_50 ?_
    refine lv_iload_n hx hb dX3_choose_53 rfl (lv_at hl 2 rfl) ?_
    obtain ⟨c1, hm⟩ := gd_some hm
    refine lK_5 C0 hA hw c1 dX3_choose_54 ?_
    refine lv_icmp_ge (tgt := 115) hx hb dX3_choose_55 (by decide) (fun c2 => ?_) (fun c2 => ?_)
    · have hm := Eq.trans (if_pos c2).symm hm
      exact kX3_choose_b115 F C0 hA zd zl a1 a3 a5 _ _ _ hm hw (lv_sub hl [0, 1, 3, 5] rfl)
    · have hm := Eq.trans (if_neg c2).symm hm
      refine lv_aload_n hx hb dX3_choose_58 rfl (lv_at hl 0 rfl) ?_
      refine gK_0_3 C0 hA hw hiX3_choose_X3 lkX3_choose_42 dX3_choose_59 ?_
      refine gnK_22_2 C0 hA hw hiX3_choose_X4 lnX3_92 dX3_choose_62 ?_
      refine lv_iload_n hx hb dX3_choose_65 rfl (lv_at hl 1 rfl) ?_
      obtain ⟨c3, hm⟩ := gd_some hm
      refine lK_25 C0 hA hw c3 dX3_choose_66 ?_
      refine lv_iload hx hb dX3_choose_67 (lv_at hl 6 rfl) ?_
      refine lv_lushr hx hb dX3_choose_69 rfl ?_
      refine lv_lconst (v := 1) hx hb dX3_choose_70 (by decide) ?_
      refine lv_land hx hb dX3_choose_71 ?_
      refine lv_lconst (v := 0) hx hb dX3_choose_72 (by decide) ?_
      refine W.lcmp hx hb dX3_choose_73 ?_
      refine lv_if_eq (tgt := 80) hx hb dX3_choose_74 (by decide) (fun c4 => ?_) (fun c4 => ?_)
      · have hm := Eq.trans (if_pos c4).symm hm
        refine lv_iload hx hb dX3_choose_80 (lv_at hl 6 rfl) ?_
        refine lv_istore (lv' := [(5, .int a6), (0, .ref (ad 0)), (1, .int a1), (2, .int a2), (3, .int a3), (4, .int a4), (6, .int a6)]) hx hb dX3_choose_82 hl (by decide) rfl (fun ls hl => ?_)
        refine lv_iload hx hb dX3_choose_84 (lv_at hl 5 rfl) ?_
        refine lv_aload_n hx hb dX3_choose_86 rfl (lv_at hl 1 rfl) ?_
        refine gK_0_0 C0 hA hw hiX3_choose_X3 lkX3_choose_30 dX3_choose_87 ?_
        refine gnK_3_4 C0 hA hw hiX3_choose_X2 lnX3_131 dX3_choose_90 ?_
        refine lv_iload_n hx hb dX3_choose_93 rfl (lv_at hl 4 rfl) ?_
        refine lv_iload hx hb dX3_choose_94 (lv_at hl 6 rfl) ?_
        refine lv_iadd hx hb dX3_choose_96 ?_
        obtain ⟨c5, hm⟩ := gd_some hm
        refine lK_8 C0 hA hw c5 dX3_choose_97 ?_
        refine lv_isub hx hb dX3_choose_98 ?_
        refine lv_topi (fun v6 ev6 => ?_)
        have hm := nm_at hm ev6
        refine lv_istore (lv' := [(4, .int v6), (5, .int a6), (0, .ref (ad 0)), (1, .int a1), (2, .int a2), (3, .int a3), (6, .int a6)]) hx hb dX3_choose_99 hl (by decide) rfl (fun ls hl => ?_)
        refine lv_iload hx hb dX3_choose_101 (lv_at hl 0 rfl) ?_
        refine lv_if_ge (tgt := 109) hx hb dX3_choose_103 (by decide) (fun c7 => ?_) (fun c7 => ?_)
        · have hm := Eq.trans (if_pos c7).symm hm
          obtain ⟨v8, ev8⟩ : ∃ y : Int32, y = a6 + 1 := ⟨_, rfl⟩
          have hm := nm_at hm ev8
          refine lv_iinc (v := v8) (lv' := [(6, .int v8), (4, .int v6), (5, .int a6), (0, .ref (ad 0)), (1, .int a1), (2, .int a2), (3, .int a3)]) hx hb dX3_choose_109 hl (k := 6) rfl (by rw [ev8]; rfl) (by decide) rfl (fun ls hl => ?_)
          refine lv_goto (tgt := 44) hx hb dX3_choose_112 (by decide) ?_
          exact ih zd zl a1 a2 a3 v6 a6 v8 _ _ _ hm hw (lv_sub hl [3, 4, 5, 6, 1, 2, 0] rfl)
        · have hm := Eq.trans (if_neg c7).symm hm
          refine lv_goto (tgt := 115) hx hb dX3_choose_106 (by decide) ?_
          exact kX3_choose_b115 F C0 hA zd zl a1 a3 a6 _ _ _ hm hw (lv_sub hl [2, 3, 5, 1] rfl)
      · have hm := Eq.trans (if_neg c4).symm hm
        refine lv_goto (tgt := 109) hx hb dX3_choose_77 (by decide) ?_
        obtain ⟨v9, ev9⟩ : ∃ y : Int32, y = a6 + 1 := ⟨_, rfl⟩
        have hm := nm_at hm ev9
        refine lv_iinc (v := v9) (lv' := [(6, .int v9), (0, .ref (ad 0)), (1, .int a1), (2, .int a2), (3, .int a3), (4, .int a4), (5, .int a5)]) hx hb dX3_choose_109 hl (k := 6) rfl (by rw [ev9]; rfl) (by decide) rfl (fun ls hl => ?_)
        refine lv_goto (tgt := 44) hx hb dX3_choose_112 (by decide) ?_
        exact ih zd zl a1 a2 a3 a4 a5 v9 _ _ _ hm hw (lv_sub hl [1, 2, 3, 4, 5, 6, 0] rfl)
set_option maxRecDepth 20000 in
theorem kX3_choose_b0 {p : Program} {l : Launch} {e : Env} {s : State} {m : MethodId} {args : Array Value} {below : List Frame} {meth : Method} {c : Code} {A : Nat → Prop} {E : EV} {ad : Nat → Nat} (F : Nat) {zk : OS} {zg : OS} {zu : OS} {r : Int32} {zd' : OS} {zl' : OS} (C0 : Cx RX3 "choose" cX3_choose (some .int) 7 wsX3_choose p s m args meth c) (hA : Ax E A s) : ∀ (zd : OS) (zl : OS) (a1 : Int32) (H : Heap) (locs : List Loc) (ls : Array Slot), mX3_choose_b0 F zk zd zg zu zl a1 = some (r, zd', zl') → Wd E A s H locs (wK E ad zk zd zg zu zl) → lv_has ls 7 [(0, .ref (ad 0)), (1, .int a1)] → W p l e ({ frames := 2, cells := 0, slots := 0, locals := 50 } : Room) s m args below meth c H locs 0 0 (MQ below (QG E (Qd (some (.int r)) (wK E ad zk zd' zg zu zl')) A) args s 0 0 A) (F0 m 0 ls []) := by
  have hx := C0.1
  have hb := C0.2.1
  intro zd zl a1 H locs ls hm hw hl
  unfold mX3_choose_b0 at hm
  refine lv_aload_n hx hb dX3_choose_0 rfl (lv_at hl 0 rfl) ?_
  refine gK_0_3 C0 hA hw hiX3_choose_X3 lkX3_choose_42 dX3_choose_1 ?_
  refine gnK_22_0 C0 hA hw hiX3_choose_X4 lnX3_86 dX3_choose_4 ?_
  refine lv_iload_n hx hb dX3_choose_7 rfl (lv_at hl 1 rfl) ?_
  obtain ⟨c1, hm⟩ := gd_some hm
  refine lK_23 C0 hA hw c1 dX3_choose_8 ?_
  refine lv_topi (fun v2 ev2 => ?_)
  have hm := nm_at hm ev2
  refine lv_istore_n (lv' := [(2, .int v2), (0, .ref (ad 0)), (1, .int a1)]) hx hb dX3_choose_9 rfl hl (by decide) rfl (fun ls hl => ?_)
  refine lv_aload_n hx hb dX3_choose_10 rfl (lv_at hl 1 rfl) ?_
  refine gK_0_0 C0 hA hw hiX3_choose_X3 lkX3_choose_30 dX3_choose_11 ?_
  refine gnK_3_0 C0 hA hw hiX3_choose_X2 lnX3_120 dX3_choose_14 ?_
  refine lv_iload_n hx hb dX3_choose_17 rfl (lv_at hl 0 rfl) ?_
  obtain ⟨c3, hm⟩ := gd_some hm
  refine lK_4 C0 hA hw c3 dX3_choose_18 ?_
  refine lv_topi (fun v4 ev4 => ?_)
  have hm := nm_at hm ev4
  refine lv_istore_n (lv' := [(3, .int v4), (2, .int v2), (0, .ref (ad 0)), (1, .int a1)]) hx hb dX3_choose_19 rfl hl (by decide) rfl (fun ls hl => ?_)
  refine lv_aload_n hx hb dX3_choose_20 rfl (lv_at hl 2 rfl) ?_
  refine gK_0_4 C0 hA hw hiX3_choose_X3 lkX3_choose_46 dX3_choose_21 ?_
  refine lv_aload_n hx hb dX3_choose_24 rfl (lv_at hl 2 rfl) ?_
  refine gK_0_3 C0 hA hw hiX3_choose_X3 lkX3_choose_42 dX3_choose_25 ?_
  refine gnK_22_1 C0 hA hw hiX3_choose_X4 lnX3_67 dX3_choose_28 ?_
  refine lv_iload_n hx hb dX3_choose_31 rfl (lv_at hl 3 rfl) ?_
  obtain ⟨c5, hm⟩ := gd_some hm
  refine lK_24 C0 hA hw c5 dX3_choose_32 ?_
  obtain ⟨r6, zd7, h8, hm⟩ := b2_some hm
  refine r_backP (va_runV (As := [.int (zl.2.2.1 1 (a1 : Int32).toNatClampNeg)]) (rest := []) ⟨hx, hb, C0.2.2.2.1, C0.2.2.2.2.1, C0.2.2.2.2.2.1⟩ (tX1_drawUnder l E (fun k => ad (k + 2)) F zd (zl.2.2.1 1 (a1 : Int32).toNatClampNeg) h8 H.size) (cwV 1 C0.2.2.2.2.2.1 gX3_choose_X1_drawUnder rfl rfl rfl (by decide +kernel) ⟨Nat.le_of_ble_eq_true rfl, Nat.le_of_ble_eq_true rfl⟩) ⟨PG_blind, va_recv hA.2.2.1.1 hw.1 (ci := 1) (q0 := 2) rfl rfl, pg_at hA hw [2] rfl (wcK_zd E ad zk zd zg zu zl)⟩ rfl rfl hl.1 rfl (lv_room (Nat.le_of_ble_eq_true rfl)) dX3_choose_33 ⟨Nat.zero_le _, Nat.zero_le _⟩) hA hw [2] [0, 1, 3, 4, 5, 6, 7, 8, 9, 10, 11, 12, 13, 14, 15, 16, 17, 18, 19, 20, 21, 22, 23, 24, 25, 26, 27, 28, 29, 30] (wcK_zd E ad zk zd zg zu zl) (wqK_zd E ad zk zd zg zu zl) rfl (by decide) (fun H locs hw => ?_)
  have hw := wjK_zd zd7 hw
  refine lv_istore (lv' := [(4, .int r6), (3, .int v4), (2, .int v2), (0, .ref (ad 0)), (1, .int a1)]) hx hb dX3_choose_36 hl (by decide) rfl (fun ls hl => ?_)
  refine lv_iconst (v := 0) hx hb dX3_choose_38 (by decide) ?_
  refine lv_topi (fun v9 ev9 => ?_)
  have hm := nm_at hm ev9
  refine lv_istore (lv' := [(5, .int v9), (4, .int r6), (3, .int v4), (2, .int v2), (0, .ref (ad 0)), (1, .int a1)]) hx hb dX3_choose_39 hl (by decide) rfl (fun ls hl => ?_)
  refine lv_iconst (v := 0) hx hb dX3_choose_41 (by decide) ?_
  refine lv_topi (fun v10 ev10 => ?_)
  have hm := nm_at hm ev10
  refine lv_istore (lv' := [(6, .int v10), (5, .int v9), (4, .int r6), (3, .int v4), (2, .int v2), (0, .ref (ad 0)), (1, .int a1)]) hx hb dX3_choose_42 hl (by decide) rfl (fun ls hl => ?_)
  exact kX3_choose_b44 F C0 hA F zd7 zl a1 v2 v4 r6 v9 v10 _ _ _ hm hw (lv_sub hl [5, 6, 4, 3, 2, 1, 0] rfl)
theorem tX3_choose (l : Launch) (E : EV) (ad : Nat → Nat) (F : Nat) (zk : OS) (zd : OS) (zg : OS) (zu : OS) (zl : OS) (a1 : Int32) {r : Int32} {zd' : OS} {zl' : OS} (hm : mX3_choose F zk zd zg zu zl a1 = some (r, zd', zl')) : CT l yX3_choose wsX3_choose ({ frames := 2, cells := 0, slots := 0, locals := 50 } : Room) E [.ref (ad 0), .int a1] (wK E ad zk zd zg zu zl) (Qd (some (.int r)) (wK E ad zk zd' zg zu zl')) 0 0 :=
  CT.of (mL := 7) (lvs := [(0, .ref (ad 0)), (1, .int a1)]) (by decide +kernel) rfl (Nat.le_of_ble_eq_true rfl) rfl rfl rfl (fun p e s m below meth c A C0 hA hw ls hl => kX3_choose_b0 (ad := ad) F C0 hA zd zl a1 _ _ _ hm hw (lv_sub hl [0, 1] rfl))
theorem lkX3_takeAnother_9 : Cond.fieldLink RX3 9 (TX3 6).1 (TX3 6).2.1 (TX3 6).2.2.1 ∈ wsX3_takeAnother := by decide +kernel
theorem lkX3_takeAnother_38 : Cond.fieldLink RX3 38 (TX3 2).1 (TX3 2).2.1 (TX3 2).2.2.1 ∈ wsX3_takeAnother := by decide +kernel
theorem lkX3_takeAnother_42 : Cond.fieldLink RX3 42 (TX3 3).1 (TX3 3).2.1 (TX3 3).2.2.1 ∈ wsX3_takeAnother := by decide +kernel
theorem lkX3_takeAnother_30 : Cond.fieldLink RX3 30 (TX3 0).1 (TX3 0).2.1 (TX3 0).2.2.1 ∈ wsX3_takeAnother := by decide +kernel
theorem lkX3_takeAnother_21 : Cond.fieldLink RX3 21 (TX3 9).1 (TX3 9).2.1 (TX3 9).2.2.1 ∈ wsX3_takeAnother := by decide +kernel
theorem lkX3_takeAnother_24 : Cond.fieldLink RX3 24 (TX3 10).1 (TX3 10).2.1 (TX3 10).2.2.1 ∈ wsX3_takeAnother := by decide +kernel
theorem lkX3_takeAnother_27 : Cond.fieldLink RX3 27 (TX3 11).1 (TX3 11).2.1 (TX3 11).2.2.1 ∈ wsX3_takeAnother := by decide +kernel
theorem lkX3_takeAnother_18 : Cond.fieldLink RX3 18 (TX3 8).1 (TX3 8).2.1 (TX3 8).2.2.1 ∈ wsX3_takeAnother := by decide +kernel
theorem hiX3_takeAnother_X3 : ∀ w ∈ u_ws RX3 TX3 12, w ∈ wsX3_takeAnother := by decide +kernel
theorem hiX3_takeAnother_X4 : ∀ w ∈ u_ws RX4 TX4 8, w ∈ wsX3_takeAnother := by decide +kernel
theorem hiX3_takeAnother_X2 : ∀ w ∈ u_ws RX2 TX2 16, w ∈ wsX3_takeAnother := by decide +kernel
def mX3_takeAnother_b0 (F : Nat)  (zk : OS) (zd : OS) (zg : OS) (zu : OS) (zl : OS) (a1 : Int32) : Option (OS × OS × OS × OS) := b3 (mX3_choose F zk zd zg zu zl a1) (fun r1 zd2 zl3 => nm (sI zk 6 ((zk.1 6) + 1)) (fun zk5 => gd a1 3001 (b1 (mX8_shorten zu (zl3.2.2.1 3 (a1 : Int32).toNatClampNeg)) (fun zu7 => gd r1 48 (nm (sI zk5 9 (zg.2.2.1 5 (r1 : Int32).toNatClampNeg)) (fun zk10 => gd r1 48 (nm (sI zk10 10 (zg.2.2.1 6 (r1 : Int32).toNatClampNeg)) (fun zk12 => nm (sI zk12 11 a1) (fun zk13 => gd a1 3001 (nm (sI zk13 8 (((zl3.2.2.1 4 (a1 : Int32).toNatClampNeg) + (zk13.1 10)) - (zk13.1 9))) (fun zk15 => some (zk15, zd2, zu7, zl3))))))))))))
def mX3_takeAnother (F : Nat) (zk : OS) (zd : OS) (zg : OS) (zu : OS) (zl : OS) (a1 : Int32) : Option (OS × OS × OS × OS) := mX3_takeAnother_b0 F zk zd zg zu zl a1
set_option maxRecDepth 20000 in
theorem kX3_takeAnother_b0 {p : Program} {l : Launch} {e : Env} {s : State} {m : MethodId} {args : Array Value} {below : List Frame} {meth : Method} {c : Code} {A : Nat → Prop} {E : EV} {ad : Nat → Nat} (F : Nat) {zg : OS} {zk' : OS} {zd' : OS} {zu' : OS} {zl' : OS} (C0 : Cx RX3 "takeAnother" cX3_takeAnother (none) 3 wsX3_takeAnother p s m args meth c) (hA : Ax E A s) : ∀ (zk : OS) (zd : OS) (zu : OS) (zl : OS) (a1 : Int32) (H : Heap) (locs : List Loc) (ls : Array Slot), mX3_takeAnother_b0 F zk zd zg zu zl a1 = some (zk', zd', zu', zl') → Wd E A s H locs (wK E ad zk zd zg zu zl) → lv_has ls 3 [(0, .ref (ad 0)), (1, .int a1)] → W p l e ({ frames := 3, cells := 0, slots := 0, locals := 76 } : Room) s m args below meth c H locs 0 0 (MQ below (QG E (Qd none (wK E ad zk' zd' zg zu' zl')) A) args s 0 0 A) (F0 m 0 ls []) := by
  have hx := C0.1
  have hb := C0.2.1
  intro zk zd zu zl a1 H locs ls hm hw hl
  unfold mX3_takeAnother_b0 at hm
  refine lv_aload_n hx hb dX3_takeAnother_0 rfl (lv_at hl 0 rfl) ?_
  refine lv_iload_n hx hb dX3_takeAnother_1 rfl (lv_at hl 1 rfl) ?_
  obtain ⟨r1, zd2, zl3, h4, hm⟩ := b3_some hm
  refine r_backS (va_runV (As := [.int a1]) (rest := []) ⟨hx, hb, C0.2.2.2.1, C0.2.2.2.2.1, C0.2.2.2.2.2.1⟩ (tX3_choose l E ad F zk zd zg zu zl a1 h4 H.size) (cwV 1 C0.2.2.2.2.2.1 gX3_takeAnother_X3_choose rfl rfl rfl (by decide +kernel) ⟨Nat.le_of_ble_eq_true rfl, Nat.le_of_ble_eq_true rfl⟩) ⟨PG_blind, va_recv hA.2.2.1.1 hw.1 (ci := 3) (q0 := 0) rfl rfl, pg_self hA hw⟩ rfl rfl hl.1 rfl (lv_room (Nat.le_of_ble_eq_true rfl)) dX3_takeAnother_2 ⟨Nat.zero_le _, Nat.zero_le _⟩) hA hw (fun H locs hw => ?_)
  refine lv_istore_n (lv' := [(2, .int r1), (0, .ref (ad 0)), (1, .int a1)]) hx hb dX3_takeAnother_5 rfl hl (by decide) rfl (fun ls hl => ?_)
  refine lv_aload_n hx hb dX3_takeAnother_6 rfl (lv_at hl 1 rfl) ?_
  refine lv_dup hx hb dX3_takeAnother_7 rfl ?_
  refine gK_0_6 C0 hA hw hiX3_takeAnother_X3 lkX3_takeAnother_9 dX3_takeAnother_8 ?_
  refine lv_iconst (v := 1) hx hb dX3_takeAnother_11 (by decide) ?_
  refine lv_iadd hx hb dX3_takeAnother_12 ?_
  refine pK_0_6 C0 hA hw hiX3_takeAnother_X3 lkX3_takeAnother_9 dX3_takeAnother_13 (fun zk5 ezk5 H locs hw => ?_)
  have hm := nm_at hm ezk5
  refine lv_aload_n hx hb dX3_takeAnother_16 rfl (lv_at hl 1 rfl) ?_
  refine gK_0_2 C0 hA hw hiX3_takeAnother_X3 lkX3_takeAnother_38 dX3_takeAnother_17 ?_
  refine lv_aload_n hx hb dX3_takeAnother_20 rfl (lv_at hl 1 rfl) ?_
  refine gK_0_3 C0 hA hw hiX3_takeAnother_X3 lkX3_takeAnother_42 dX3_takeAnother_21 ?_
  refine gnK_22_3 C0 hA hw hiX3_takeAnother_X4 lnX3_96 dX3_takeAnother_24 ?_
  refine lv_iload_n hx hb dX3_takeAnother_27 rfl (lv_at hl 2 rfl) ?_
  obtain ⟨c6, hm⟩ := gd_some hm
  refine lK_26 C0 hA hw c6 dX3_takeAnother_28 ?_
  obtain ⟨zu7, h8, hm⟩ := b1_some hm
  refine r_backP (va_runV (As := [.int (zl3.2.2.1 3 (a1 : Int32).toNatClampNeg)]) (rest := []) ⟨hx, hb, C0.2.2.2.1, C0.2.2.2.2.1, C0.2.2.2.2.2.1⟩ (tX8_shorten l E (fun k => ad (k + 15)) zu (zl3.2.2.1 3 (a1 : Int32).toNatClampNeg) h8 H.size) (cwV 1 C0.2.2.2.2.2.1 gX3_takeAnother_X8_shorten rfl rfl rfl (by decide +kernel) ⟨Nat.le_of_ble_eq_true rfl, Nat.le_of_ble_eq_true rfl⟩) ⟨PG_blind, va_recv hA.2.2.1.1 hw.1 (ci := 8) (q0 := 15) rfl rfl, pg_at hA hw [15, 16, 17, 18, 19, 20, 21] rfl (wcK_zu E ad zk5 zd2 zg zu zl3)⟩ rfl rfl hl.1 rfl (lv_room (Nat.le_of_ble_eq_true rfl)) dX3_takeAnother_29 ⟨Nat.zero_le _, Nat.zero_le _⟩) hA hw [15, 16, 17, 18, 19, 20, 21] [0, 1, 2, 3, 4, 5, 6, 7, 8, 9, 10, 11, 12, 13, 14, 22, 23, 24, 25, 26, 27, 28, 29, 30] (wcK_zu E ad zk5 zd2 zg zu zl3) (wqK_zu E ad zk5 zd2 zg zu zl3) rfl (by decide) (fun H locs hw => ?_)
  have hw := wjK_zu zu7 hw
  refine lv_aload_n hx hb dX3_takeAnother_32 rfl (lv_at hl 1 rfl) ?_
  refine lv_aload_n hx hb dX3_takeAnother_33 rfl (lv_at hl 1 rfl) ?_
  refine gK_0_0 C0 hA hw hiX3_takeAnother_X3 lkX3_takeAnother_30 dX3_takeAnother_34 ?_
  refine gnK_3_5 C0 hA hw hiX3_takeAnother_X2 lnX3_114 dX3_takeAnother_37 ?_
  refine lv_iload_n hx hb dX3_takeAnother_40 rfl (lv_at hl 0 rfl) ?_
  obtain ⟨c9, hm⟩ := gd_some hm
  refine lK_9 C0 hA hw c9 dX3_takeAnother_41 ?_
  refine pK_0_9 C0 hA hw hiX3_takeAnother_X3 lkX3_takeAnother_21 dX3_takeAnother_42 (fun zk10 ezk10 H locs hw => ?_)
  have hm := nm_at hm ezk10
  refine lv_aload_n hx hb dX3_takeAnother_45 rfl (lv_at hl 1 rfl) ?_
  refine lv_aload_n hx hb dX3_takeAnother_46 rfl (lv_at hl 1 rfl) ?_
  refine gK_0_0 C0 hA hw hiX3_takeAnother_X3 lkX3_takeAnother_30 dX3_takeAnother_47 ?_
  refine gnK_3_6 C0 hA hw hiX3_takeAnother_X2 lnX3_117 dX3_takeAnother_50 ?_
  refine lv_iload_n hx hb dX3_takeAnother_53 rfl (lv_at hl 0 rfl) ?_
  obtain ⟨c11, hm⟩ := gd_some hm
  refine lK_10 C0 hA hw c11 dX3_takeAnother_54 ?_
  refine pK_0_10 C0 hA hw hiX3_takeAnother_X3 lkX3_takeAnother_24 dX3_takeAnother_55 (fun zk12 ezk12 H locs hw => ?_)
  have hm := nm_at hm ezk12
  refine lv_aload_n hx hb dX3_takeAnother_58 rfl (lv_at hl 1 rfl) ?_
  refine lv_iload_n hx hb dX3_takeAnother_59 rfl (lv_at hl 2 rfl) ?_
  refine pK_0_11 C0 hA hw hiX3_takeAnother_X3 lkX3_takeAnother_27 dX3_takeAnother_60 (fun zk13 ezk13 H locs hw => ?_)
  have hm := nm_at hm ezk13
  refine lv_aload_n hx hb dX3_takeAnother_63 rfl (lv_at hl 1 rfl) ?_
  refine lv_aload_n hx hb dX3_takeAnother_64 rfl (lv_at hl 1 rfl) ?_
  refine gK_0_3 C0 hA hw hiX3_takeAnother_X3 lkX3_takeAnother_42 dX3_takeAnother_65 ?_
  refine gnK_22_4 C0 hA hw hiX3_takeAnother_X4 lnX3_99 dX3_takeAnother_68 ?_
  refine lv_iload_n hx hb dX3_takeAnother_71 rfl (lv_at hl 2 rfl) ?_
  obtain ⟨c14, hm⟩ := gd_some hm
  refine lK_27 C0 hA hw c14 dX3_takeAnother_72 ?_
  refine lv_aload_n hx hb dX3_takeAnother_73 rfl (lv_at hl 1 rfl) ?_
  refine gK_0_10 C0 hA hw hiX3_takeAnother_X3 lkX3_takeAnother_24 dX3_takeAnother_74 ?_
  refine lv_iadd hx hb dX3_takeAnother_77 ?_
  refine lv_aload_n hx hb dX3_takeAnother_78 rfl (lv_at hl 1 rfl) ?_
  refine gK_0_9 C0 hA hw hiX3_takeAnother_X3 lkX3_takeAnother_21 dX3_takeAnother_79 ?_
  refine lv_isub hx hb dX3_takeAnother_82 ?_
  refine pK_0_8 C0 hA hw hiX3_takeAnother_X3 lkX3_takeAnother_18 dX3_takeAnother_83 (fun zk15 ezk15 H locs hw => ?_)
  have hm := nm_at hm ezk15
  obtain ⟨rfl, rfl, rfl, rfl⟩ := sj4 hm
  exact r_vret C0 hw dX3_takeAnother_86 ⟨rfl, rfl⟩
theorem tX3_takeAnother (l : Launch) (E : EV) (ad : Nat → Nat) (F : Nat) (zk : OS) (zd : OS) (zg : OS) (zu : OS) (zl : OS) (a1 : Int32) {zk' : OS} {zd' : OS} {zu' : OS} {zl' : OS} (hm : mX3_takeAnother F zk zd zg zu zl a1 = some (zk', zd', zu', zl')) : CT l yX3_takeAnother wsX3_takeAnother ({ frames := 3, cells := 0, slots := 0, locals := 76 } : Room) E [.ref (ad 0), .int a1] (wK E ad zk zd zg zu zl) (Qd none (wK E ad zk' zd' zg zu' zl')) 0 0 :=
  CT.of (mL := 3) (lvs := [(0, .ref (ad 0)), (1, .int a1)]) (by decide +kernel) rfl (Nat.le_of_ble_eq_true rfl) rfl rfl rfl (fun p e s m below meth c A C0 hA hw ls hl => kX3_takeAnother_b0 (ad := ad) F C0 hA zk zd zu zl a1 _ _ _ hm hw (lv_sub hl [0, 1] rfl))
theorem lkX3_takeFirst_21 : Cond.fieldLink RX3 21 (TX3 9).1 (TX3 9).2.1 (TX3 9).2.2.1 ∈ wsX3_takeFirst := by decide +kernel
theorem lkX3_takeFirst_18 : Cond.fieldLink RX3 18 (TX3 8).1 (TX3 8).2.1 (TX3 8).2.2.1 ∈ wsX3_takeFirst := by decide +kernel
theorem lkX3_takeFirst_24 : Cond.fieldLink RX3 24 (TX3 10).1 (TX3 10).2.1 (TX3 10).2.2.1 ∈ wsX3_takeFirst := by decide +kernel
theorem lkX3_takeFirst_27 : Cond.fieldLink RX3 27 (TX3 11).1 (TX3 11).2.1 (TX3 11).2.2.1 ∈ wsX3_takeFirst := by decide +kernel
theorem lkX3_takeFirst_42 : Cond.fieldLink RX3 42 (TX3 3).1 (TX3 3).2.1 (TX3 3).2.2.1 ∈ wsX3_takeFirst := by decide +kernel
theorem hiX3_takeFirst_X3 : ∀ w ∈ u_ws RX3 TX3 12, w ∈ wsX3_takeFirst := by decide +kernel
theorem hiX3_takeFirst_X4 : ∀ w ∈ u_ws RX4 TX4 8, w ∈ wsX3_takeFirst := by decide +kernel
def mX3_takeFirst_b0  (zk : OS) (zd : OS) (zg : OS) (zu : OS) (zl : OS) : Option (Int32 × OS) := nm (zk.1 9 : Int32) (fun v1 => nm (sI zk 9 ((zk.1 9) + 1)) (fun zk2 => nm (sI zk2 8 ((zk2.1 8) - 1)) (fun zk3 => (if (zk3.1 9 : Int32) < (zk3.1 10) then some (v1, zk3) else (if (zk3.1 11 : Int32) = (-1) then some (v1, zk3) else nm (zk3.1 11 : Int32) (fun v6 => gd v6 3001 (nm (sI zk3 9 (zl.2.2.1 5 (v6 : Int32).toNatClampNeg)) (fun zk8 => gd v6 3001 (nm (sI zk8 10 (zl.2.2.1 6 (v6 : Int32).toNatClampNeg)) (fun zk10 => gd v6 3001 (nm (sI zk10 11 (zl.2.2.1 7 (v6 : Int32).toNatClampNeg)) (fun zk12 => some (v1, zk12)))))))))))))
def mX3_takeFirst (zk : OS) (zd : OS) (zg : OS) (zu : OS) (zl : OS)  : Option (Int32 × OS) := mX3_takeFirst_b0 zk zd zg zu zl
set_option maxRecDepth 20000 in
theorem kX3_takeFirst_b0 {p : Program} {l : Launch} {e : Env} {s : State} {m : MethodId} {args : Array Value} {below : List Frame} {meth : Method} {c : Code} {A : Nat → Prop} {E : EV} {ad : Nat → Nat} {zd : OS} {zg : OS} {zu : OS} {zl : OS} {r : Int32} {zk' : OS} (C0 : Cx RX3 "takeFirst" cX3_takeFirst (some .int) 3 wsX3_takeFirst p s m args meth c) (hA : Ax E A s) : ∀ (zk : OS) (H : Heap) (locs : List Loc) (ls : Array Slot), mX3_takeFirst_b0 zk zd zg zu zl = some (r, zk') → Wd E A s H locs (wK E ad zk zd zg zu zl) → lv_has ls 3 [(0, .ref (ad 0))] → W p l e ({ frames := 0, cells := 0, slots := 0, locals := 0 } : Room) s m args below meth c H locs 0 0 (MQ below (QG E (Qd (some (.int r)) (wK E ad zk' zd zg zu zl)) A) args s 0 0 A) (F0 m 0 ls []) := by
  have hx := C0.1
  have hb := C0.2.1
  intro zk H locs ls hm hw hl
  unfold mX3_takeFirst_b0 at hm
  refine lv_aload_n hx hb dX3_takeFirst_0 rfl (lv_at hl 0 rfl) ?_
  refine gK_0_9 C0 hA hw hiX3_takeFirst_X3 lkX3_takeFirst_21 dX3_takeFirst_1 ?_
  refine lv_topi (fun v1 ev1 => ?_)
  have hm := nm_at hm ev1
  refine lv_istore_n (lv' := [(1, .int v1), (0, .ref (ad 0))]) hx hb dX3_takeFirst_4 rfl hl (by decide) rfl (fun ls hl => ?_)
  refine lv_aload_n hx hb dX3_takeFirst_5 rfl (lv_at hl 1 rfl) ?_
  refine lv_dup hx hb dX3_takeFirst_6 rfl ?_
  refine gK_0_9 C0 hA hw hiX3_takeFirst_X3 lkX3_takeFirst_21 dX3_takeFirst_7 ?_
  refine lv_iconst (v := 1) hx hb dX3_takeFirst_10 (by decide) ?_
  refine lv_iadd hx hb dX3_takeFirst_11 ?_
  refine pK_0_9 C0 hA hw hiX3_takeFirst_X3 lkX3_takeFirst_21 dX3_takeFirst_12 (fun zk2 ezk2 H locs hw => ?_)
  have hm := nm_at hm ezk2
  refine lv_aload_n hx hb dX3_takeFirst_15 rfl (lv_at hl 1 rfl) ?_
  refine lv_dup hx hb dX3_takeFirst_16 rfl ?_
  refine gK_0_8 C0 hA hw hiX3_takeFirst_X3 lkX3_takeFirst_18 dX3_takeFirst_17 ?_
  refine lv_iconst (v := 1) hx hb dX3_takeFirst_20 (by decide) ?_
  refine lv_isub hx hb dX3_takeFirst_21 ?_
  refine pK_0_8 C0 hA hw hiX3_takeFirst_X3 lkX3_takeFirst_18 dX3_takeFirst_22 (fun zk3 ezk3 H locs hw => ?_)
  have hm := nm_at hm ezk3
  refine lv_aload_n hx hb dX3_takeFirst_25 rfl (lv_at hl 1 rfl) ?_
  refine gK_0_9 C0 hA hw hiX3_takeFirst_X3 lkX3_takeFirst_21 dX3_takeFirst_26 ?_
  refine lv_aload_n hx hb dX3_takeFirst_29 rfl (lv_at hl 1 rfl) ?_
  refine gK_0_10 C0 hA hw hiX3_takeFirst_X3 lkX3_takeFirst_24 dX3_takeFirst_30 ?_
  refine lv_icmp_lt (tgt := 88) hx hb dX3_takeFirst_33 (by decide) (fun c4 => ?_) (fun c4 => ?_)
  · have hm := Eq.trans (if_pos c4).symm hm
    refine lv_iload_n hx hb dX3_takeFirst_88 rfl (lv_at hl 0 rfl) ?_
    obtain ⟨rfl, rfl⟩ := sj2 hm
    exact r_iret C0 hw dX3_takeFirst_89 ⟨rfl, rfl⟩
  · have hm := Eq.trans (if_neg c4).symm hm
    refine lv_aload_n hx hb dX3_takeFirst_36 rfl (lv_at hl 1 rfl) ?_
    refine gK_0_11 C0 hA hw hiX3_takeFirst_X3 lkX3_takeFirst_27 dX3_takeFirst_37 ?_
    refine lv_iconst (v := (-1)) hx hb dX3_takeFirst_40 (by decide) ?_
    refine lv_icmp_eq (tgt := 88) hx hb dX3_takeFirst_41 (by decide) (fun c5 => ?_) (fun c5 => ?_)
    · have hm := Eq.trans (if_pos c5).symm hm
      refine lv_iload_n hx hb dX3_takeFirst_88 rfl (lv_at hl 0 rfl) ?_
      obtain ⟨rfl, rfl⟩ := sj2 hm
      exact r_iret C0 hw dX3_takeFirst_89 ⟨rfl, rfl⟩
    · have hm := Eq.trans (if_neg c5).symm hm
      refine lv_aload_n hx hb dX3_takeFirst_44 rfl (lv_at hl 1 rfl) ?_
      refine gK_0_11 C0 hA hw hiX3_takeFirst_X3 lkX3_takeFirst_27 dX3_takeFirst_45 ?_
      refine lv_topi (fun v6 ev6 => ?_)
      have hm := nm_at hm ev6
      refine lv_istore_n (lv' := [(2, .int v6), (1, .int v1), (0, .ref (ad 0))]) hx hb dX3_takeFirst_48 rfl hl (by decide) rfl (fun ls hl => ?_)
      refine lv_aload_n hx hb dX3_takeFirst_49 rfl (lv_at hl 2 rfl) ?_
      refine lv_aload_n hx hb dX3_takeFirst_50 rfl (lv_at hl 2 rfl) ?_
      refine gK_0_3 C0 hA hw hiX3_takeFirst_X3 lkX3_takeFirst_42 dX3_takeFirst_51 ?_
      refine gnK_22_5 C0 hA hw hiX3_takeFirst_X4 lnX3_101 dX3_takeFirst_54 ?_
      refine lv_iload_n hx hb dX3_takeFirst_57 rfl (lv_at hl 0 rfl) ?_
      obtain ⟨c7, hm⟩ := gd_some hm
      refine lK_28 C0 hA hw c7 dX3_takeFirst_58 ?_
      refine pK_0_9 C0 hA hw hiX3_takeFirst_X3 lkX3_takeFirst_21 dX3_takeFirst_59 (fun zk8 ezk8 H locs hw => ?_)
      have hm := nm_at hm ezk8
      refine lv_aload_n hx hb dX3_takeFirst_62 rfl (lv_at hl 2 rfl) ?_
      refine lv_aload_n hx hb dX3_takeFirst_63 rfl (lv_at hl 2 rfl) ?_
      refine gK_0_3 C0 hA hw hiX3_takeFirst_X3 lkX3_takeFirst_42 dX3_takeFirst_64 ?_
      refine gnK_22_6 C0 hA hw hiX3_takeFirst_X4 lnX3_104 dX3_takeFirst_67 ?_
      refine lv_iload_n hx hb dX3_takeFirst_70 rfl (lv_at hl 0 rfl) ?_
      obtain ⟨c9, hm⟩ := gd_some hm
      refine lK_29 C0 hA hw c9 dX3_takeFirst_71 ?_
      refine pK_0_10 C0 hA hw hiX3_takeFirst_X3 lkX3_takeFirst_24 dX3_takeFirst_72 (fun zk10 ezk10 H locs hw => ?_)
      have hm := nm_at hm ezk10
      refine lv_aload_n hx hb dX3_takeFirst_75 rfl (lv_at hl 2 rfl) ?_
      refine lv_aload_n hx hb dX3_takeFirst_76 rfl (lv_at hl 2 rfl) ?_
      refine gK_0_3 C0 hA hw hiX3_takeFirst_X3 lkX3_takeFirst_42 dX3_takeFirst_77 ?_
      refine gnK_22_7 C0 hA hw hiX3_takeFirst_X4 lnX3_107 dX3_takeFirst_80 ?_
      refine lv_iload_n hx hb dX3_takeFirst_83 rfl (lv_at hl 0 rfl) ?_
      obtain ⟨c11, hm⟩ := gd_some hm
      refine lK_30 C0 hA hw c11 dX3_takeFirst_84 ?_
      refine pK_0_11 C0 hA hw hiX3_takeFirst_X3 lkX3_takeFirst_27 dX3_takeFirst_85 (fun zk12 ezk12 H locs hw => ?_)
      have hm := nm_at hm ezk12
      refine lv_iload_n hx hb dX3_takeFirst_88 rfl (lv_at hl 1 rfl) ?_
      obtain ⟨rfl, rfl⟩ := sj2 hm
      exact r_iret C0 hw dX3_takeFirst_89 ⟨rfl, rfl⟩
theorem tX3_takeFirst (l : Launch) (E : EV) (ad : Nat → Nat) (zk : OS) (zd : OS) (zg : OS) (zu : OS) (zl : OS)  {r : Int32} {zk' : OS} (hm : mX3_takeFirst zk zd zg zu zl = some (r, zk')) : CT l yX3_takeFirst wsX3_takeFirst ({ frames := 0, cells := 0, slots := 0, locals := 0 } : Room) E [.ref (ad 0)] (wK E ad zk zd zg zu zl) (Qd (some (.int r)) (wK E ad zk' zd zg zu zl)) 0 0 :=
  CT.of (mL := 3) (lvs := [(0, .ref (ad 0))]) (by decide +kernel) rfl (Nat.le_of_ble_eq_true rfl) rfl rfl rfl (fun p e s m below meth c A C0 hA hw ls hl => kX3_takeFirst_b0 (ad := ad) C0 hA zk _ _ _ hm hw (lv_sub hl [0] rfl))
theorem lkX3_pitchFits_38 : Cond.fieldLink RX3 38 (TX3 2).1 (TX3 2).2.1 (TX3 2).2.2.1 ∈ wsX3_pitchFits := by decide +kernel
theorem lkX3_pitchFits_34 : Cond.fieldLink RX3 34 (TX3 1).1 (TX3 1).2.1 (TX3 1).2.2.1 ∈ wsX3_pitchFits := by decide +kernel
theorem hiX3_pitchFits_X3 : ∀ w ∈ u_ws RX3 TX3 12, w ∈ wsX3_pitchFits := by decide +kernel
def mX3_pitchFits_b51  (zk : OS) (zd : OS) (zg : OS) (zu : OS) (zl : OS) (a1 : Int32) : Option (Int32) := b1 (mX8_alikeWith zu a1) (fun r1 => gd 3 7 ((if (zk.2.2.1 1 (3 : Int32).toNatClampNeg) < (r1 : Int32) then some 0 else some 1)))
def mX3_pitchFits_b0  (zk : OS) (zd : OS) (zg : OS) (zu : OS) (zl : OS) (a1 : Int32) : Option (Int32) := gd 0 7 (gd 1 7 (b1 (mX9_isWithin a1 (zk.2.2.1 1 (0 : Int32).toNatClampNeg) (zk.2.2.1 1 (1 : Int32).toNatClampNeg)) (fun r3 => (if (r3 : Int32) = 0 then some 0 else b1 (mX8_latestPitch zu) (fun r6 => (if (r6 : Int32) = (-1) then mX3_pitchFits_b51 zk zd zg zu zl a1 else gd 2 7 ((if (if 0 ≤ (a1 - r6) then (a1 - r6) else 0 - (a1 - r6) : Int32) ≤ (zk.2.2.1 1 (2 : Int32).toNatClampNeg) then mX3_pitchFits_b51 zk zd zg zu zl a1 else some 0))))))))
def mX3_pitchFits (zk : OS) (zd : OS) (zg : OS) (zu : OS) (zl : OS) (a1 : Int32) : Option (Int32) := mX3_pitchFits_b0 zk zd zg zu zl a1
set_option maxRecDepth 20000 in
theorem kX3_pitchFits_b51 {p : Program} {l : Launch} {e : Env} {s : State} {m : MethodId} {args : Array Value} {below : List Frame} {meth : Method} {c : Code} {A : Nat → Prop} {E : EV} {ad : Nat → Nat} {zk : OS} {zd : OS} {zg : OS} {zu : OS} {zl : OS} {r : Int32} (C0 : Cx RX3 "pitchFits" cX3_pitchFits (some .boolean) 3 wsX3_pitchFits p s m args meth c) (hA : Ax E A s) : ∀ (a1 : Int32) (H : Heap) (locs : List Loc) (ls : Array Slot), mX3_pitchFits_b51 zk zd zg zu zl a1 = some r → Wd E A s H locs (wK E ad zk zd zg zu zl) → lv_has ls 3 [(0, .ref (ad 0)), (1, .int a1)] → W p l e ({ frames := 2, cells := 0, slots := 0, locals := 42 } : Room) s m args below meth c H locs 0 0 (MQ below (QG E (Qd (some (.int r)) (wK E ad zk zd zg zu zl)) A) args s 0 0 A) (F0 m 51 ls []) := by
  have hx := C0.1
  have hb := C0.2.1
  intro a1 H locs ls hm hw hl
  unfold mX3_pitchFits_b51 at hm
  refine lv_aload_n hx hb dX3_pitchFits_51 rfl (lv_at hl 0 rfl) ?_
  refine gK_0_2 C0 hA hw hiX3_pitchFits_X3 lkX3_pitchFits_38 dX3_pitchFits_52 ?_
  refine lv_iload_n hx hb dX3_pitchFits_55 rfl (lv_at hl 1 rfl) ?_
  obtain ⟨r1, h2, hm⟩ := b1_some hm
  refine r_backP (va_runV (As := [.int a1]) (rest := []) ⟨hx, hb, C0.2.2.2.1, C0.2.2.2.2.1, C0.2.2.2.2.2.1⟩ (tX8_alikeWith l E (fun k => ad (k + 15)) zu a1 h2 H.size) (cwV 1 C0.2.2.2.2.2.1 gX3_pitchFits_X8_alikeWith rfl rfl rfl (by decide +kernel) ⟨Nat.le_of_ble_eq_true rfl, Nat.le_of_ble_eq_true rfl⟩) ⟨PG_blind, va_recv hA.2.2.1.1 hw.1 (ci := 8) (q0 := 15) rfl rfl, pg_at hA hw [15, 16, 17, 18, 19, 20, 21] rfl (wcK_zu E ad zk zd zg zu zl)⟩ rfl rfl hl.1 rfl (lv_room (Nat.le_of_ble_eq_true rfl)) dX3_pitchFits_56 ⟨Nat.zero_le _, Nat.zero_le _⟩) hA hw [15, 16, 17, 18, 19, 20, 21] [0, 1, 2, 3, 4, 5, 6, 7, 8, 9, 10, 11, 12, 13, 14, 22, 23, 24, 25, 26, 27, 28, 29, 30] (wcK_zu E ad zk zd zg zu zl) (wqK_zu E ad zk zd zg zu zl) rfl (by decide) (fun H locs hw => ?_)
  have hw := wjK_zu zu hw
  refine lv_aload_n hx hb dX3_pitchFits_59 rfl (lv_at hl 0 rfl) ?_
  refine gK_0_1 C0 hA hw hiX3_pitchFits_X3 lkX3_pitchFits_34 dX3_pitchFits_60 ?_
  refine lv_iconst (v := 3) hx hb dX3_pitchFits_63 (by decide) ?_
  obtain ⟨c3, hm⟩ := gd_some hm
  refine lK_1 C0 hA hw c3 dX3_pitchFits_64 ?_
  refine lv_icmp_gt (tgt := 72) hx hb dX3_pitchFits_65 (by decide) (fun c4 => ?_) (fun c4 => ?_)
  · have hm := Eq.trans (if_pos c4).symm hm
    refine lv_iconst (v := 0) hx hb dX3_pitchFits_72 (by decide) ?_
    obtain rfl := sj1 hm
    exact r_zret C0 hw dX3_pitchFits_73 rfl ⟨rfl, rfl⟩
  · have hm := Eq.trans (if_neg c4).symm hm
    refine lv_iconst (v := 1) hx hb dX3_pitchFits_68 (by decide) ?_
    refine lv_goto (tgt := 73) hx hb dX3_pitchFits_69 (by decide) ?_
    obtain rfl := sj1 hm
    exact r_zret C0 hw dX3_pitchFits_73 rfl ⟨rfl, rfl⟩
set_option maxRecDepth 20000 in
theorem kX3_pitchFits_b0 {p : Program} {l : Launch} {e : Env} {s : State} {m : MethodId} {args : Array Value} {below : List Frame} {meth : Method} {c : Code} {A : Nat → Prop} {E : EV} {ad : Nat → Nat} {zk : OS} {zd : OS} {zg : OS} {zu : OS} {zl : OS} {r : Int32} (C0 : Cx RX3 "pitchFits" cX3_pitchFits (some .boolean) 3 wsX3_pitchFits p s m args meth c) (hA : Ax E A s) : ∀ (a1 : Int32) (H : Heap) (locs : List Loc) (ls : Array Slot), mX3_pitchFits_b0 zk zd zg zu zl a1 = some r → Wd E A s H locs (wK E ad zk zd zg zu zl) → lv_has ls 3 [(0, .ref (ad 0)), (1, .int a1)] → W p l e ({ frames := 2, cells := 0, slots := 0, locals := 42 } : Room) s m args below meth c H locs 0 0 (MQ below (QG E (Qd (some (.int r)) (wK E ad zk zd zg zu zl)) A) args s 0 0 A) (F0 m 0 ls []) := by
  have hx := C0.1
  have hb := C0.2.1
  intro a1 H locs ls hm hw hl
  unfold mX3_pitchFits_b0 at hm
  refine lv_iload_n hx hb dX3_pitchFits_0 rfl (lv_at hl 1 rfl) ?_
  refine lv_aload_n hx hb dX3_pitchFits_1 rfl (lv_at hl 0 rfl) ?_
  refine gK_0_1 C0 hA hw hiX3_pitchFits_X3 lkX3_pitchFits_34 dX3_pitchFits_2 ?_
  refine lv_iconst (v := 0) hx hb dX3_pitchFits_5 (by decide) ?_
  obtain ⟨c1, hm⟩ := gd_some hm
  refine lK_1 C0 hA hw c1 dX3_pitchFits_6 ?_
  refine lv_aload_n hx hb dX3_pitchFits_7 rfl (lv_at hl 0 rfl) ?_
  refine gK_0_1 C0 hA hw hiX3_pitchFits_X3 lkX3_pitchFits_34 dX3_pitchFits_8 ?_
  refine lv_iconst (v := 1) hx hb dX3_pitchFits_11 (by decide) ?_
  obtain ⟨c2, hm⟩ := gd_some hm
  refine lK_1 C0 hA hw c2 dX3_pitchFits_12 ?_
  obtain ⟨r3, h4, hm⟩ := b1_some hm
  refine r_backZ (va_runSN (As := [.int a1, .int (zk.2.2.1 1 (0 : Int32).toNatClampNeg), .int (zk.2.2.1 1 (1 : Int32).toNatClampNeg)]) (rest := []) ⟨hx, hb, C0.2.2.2.1, C0.2.2.2.2.1, C0.2.2.2.2.2.1⟩ (tX9_isWithin l E a1 (zk.2.2.1 1 (0 : Int32).toNatClampNeg) (zk.2.2.1 1 (1 : Int32).toNatClampNeg) h4 H.size) ⟨va_cnB 3 C0.2.2.2.2.2.1 ggX3_pitchFits_X9_isWithin rfl rfl rfl (hA.2.2.1.2.1 (.methodLinkNest RX3 168 yX9_isWithin "GrammarTunes") (by decide +kernel)) (C0.2.2.2.2.2.1 (.initialized RX9) (by decide +kernel)) (by decide +kernel) ⟨Nat.le_of_ble_eq_true rfl, Nat.le_of_ble_eq_true rfl⟩, C0.2.2.2.2.2.1 (.static yX9_isWithin) (by decide +kernel), trivial⟩ ⟨PG_blind, pg_nil hA hw⟩ rfl rfl hl.1 rfl (lv_room (Nat.le_of_ble_eq_true rfl)) dX3_pitchFits_13 ⟨Nat.zero_le _, Nat.zero_le _⟩) hA hw (fun H locs hw => ?_)
  refine lv_if_ne (tgt := 21) hx hb dX3_pitchFits_16 (by decide) (fun c5 => ?_) (fun c5 => ?_)
  · have hm := Eq.trans (if_neg c5).symm hm
    refine lv_aload_n hx hb dX3_pitchFits_21 rfl (lv_at hl 0 rfl) ?_
    refine gK_0_2 C0 hA hw hiX3_pitchFits_X3 lkX3_pitchFits_38 dX3_pitchFits_22 ?_
    obtain ⟨r6, h7, hm⟩ := b1_some hm
    refine r_backP (va_runV (As := []) (rest := []) ⟨hx, hb, C0.2.2.2.1, C0.2.2.2.2.1, C0.2.2.2.2.2.1⟩ (tX8_latestPitch l E (fun k => ad (k + 15)) zu h7 H.size) (cwV 0 C0.2.2.2.2.2.1 gX3_pitchFits_X8_latestPitch rfl rfl rfl (by decide +kernel) ⟨Nat.le_of_ble_eq_true rfl, Nat.le_of_ble_eq_true rfl⟩) ⟨PG_blind, va_recv hA.2.2.1.1 hw.1 (ci := 8) (q0 := 15) rfl rfl, pg_at hA hw [15, 16, 17, 18, 19, 20, 21] rfl (wcK_zu E ad zk zd zg zu zl)⟩ rfl rfl hl.1 rfl (lv_room (Nat.le_of_ble_eq_true rfl)) dX3_pitchFits_25 ⟨Nat.zero_le _, Nat.zero_le _⟩) hA hw [15, 16, 17, 18, 19, 20, 21] [0, 1, 2, 3, 4, 5, 6, 7, 8, 9, 10, 11, 12, 13, 14, 22, 23, 24, 25, 26, 27, 28, 29, 30] (wcK_zu E ad zk zd zg zu zl) (wqK_zu E ad zk zd zg zu zl) rfl (by decide) (fun H locs hw => ?_)
    have hw := wjK_zu zu hw
    refine lv_istore_n (lv' := [(2, .int r6), (0, .ref (ad 0)), (1, .int a1)]) hx hb dX3_pitchFits_28 rfl hl (by decide) rfl (fun ls hl => ?_)
    refine lv_iload_n hx hb dX3_pitchFits_29 rfl (lv_at hl 0 rfl) ?_
    refine lv_iconst (v := (-1)) hx hb dX3_pitchFits_30 (by decide) ?_
    refine lv_icmp_eq (tgt := 51) hx hb dX3_pitchFits_31 (by decide) (fun c8 => ?_) (fun c8 => ?_)
    · have hm := Eq.trans (if_pos c8).symm hm
      exact kX3_pitchFits_b51 C0 hA a1 _ _ _ hm hw (lv_sub hl [1, 2] rfl)
    · have hm := Eq.trans (if_neg c8).symm hm
      refine lv_iload_n hx hb dX3_pitchFits_34 rfl (lv_at hl 2 rfl) ?_
      refine lv_iload_n hx hb dX3_pitchFits_35 rfl (lv_at hl 0 rfl) ?_
      refine lv_isub hx hb dX3_pitchFits_36 ?_
      refine va_mabs hx hb (C0.2.2.2.1.trans hl.1.symm) C0.2.2.2.2.1 (C0.2.2.2.2.2.1 (.methodLink RX3 175 Lib.Math.abs.name) (by decide +kernel)) (C0.2.2.2.2.2.1 (.static Lib.Math.abs.name) (by decide +kernel)) (C0.2.2.2.2.2.1 (.initialized "java/lang/Math") (by decide +kernel)) (C0.2.2.2.2.2.1 (.code Lib.Math.abs.name Lib.Math.abs.code 1 (some .int)) (by decide +kernel)) (Nat.le_of_ble_eq_true rfl) (Nat.le_of_ble_eq_true rfl) (Nat.zero_le _) (Nat.zero_le _) dX3_pitchFits_37 ?_
      refine lv_aload_n hx hb dX3_pitchFits_40 rfl (lv_at hl 1 rfl) ?_
      refine gK_0_1 C0 hA hw hiX3_pitchFits_X3 lkX3_pitchFits_34 dX3_pitchFits_41 ?_
      refine lv_iconst (v := 2) hx hb dX3_pitchFits_44 (by decide) ?_
      obtain ⟨c9, hm⟩ := gd_some hm
      refine lK_1 C0 hA hw c9 dX3_pitchFits_45 ?_
      refine lv_icmp_le (tgt := 51) hx hb dX3_pitchFits_46 (by decide) (fun c10 => ?_) (fun c10 => ?_)
      · have hm := Eq.trans (if_pos c10).symm hm
        exact kX3_pitchFits_b51 C0 hA a1 _ _ _ hm hw (lv_sub hl [1, 2] rfl)
      · have hm := Eq.trans (if_neg c10).symm hm
        refine lv_iconst (v := 0) hx hb dX3_pitchFits_49 (by decide) ?_
        obtain rfl := sj1 hm
        exact r_zret C0 hw dX3_pitchFits_50 rfl ⟨rfl, rfl⟩
  · have hm := Eq.trans (if_pos c5).symm hm
    refine lv_iconst (v := 0) hx hb dX3_pitchFits_19 (by decide) ?_
    obtain rfl := sj1 hm
    exact r_zret C0 hw dX3_pitchFits_20 rfl ⟨rfl, rfl⟩
theorem tX3_pitchFits (l : Launch) (E : EV) (ad : Nat → Nat) (zk : OS) (zd : OS) (zg : OS) (zu : OS) (zl : OS) (a1 : Int32) {r : Int32} (hm : mX3_pitchFits zk zd zg zu zl a1 = some r) : CT l yX3_pitchFits wsX3_pitchFits ({ frames := 2, cells := 0, slots := 0, locals := 42 } : Room) E [.ref (ad 0), .int a1] (wK E ad zk zd zg zu zl) (Qd (some (.int r)) (wK E ad zk zd zg zu zl)) 0 0 :=
  CT.of (mL := 3) (lvs := [(0, .ref (ad 0)), (1, .int a1)]) (by decide +kernel) rfl (Nat.le_of_ble_eq_true rfl) rfl rfl rfl (fun p e s m below meth c A C0 hA hw ls hl => kX3_pitchFits_b0 (ad := ad) C0 hA a1 _ _ _ hm hw (lv_sub hl [0, 1] rfl))
theorem lkX3_addIfItFits_38 : Cond.fieldLink RX3 38 (TX3 2).1 (TX3 2).2.1 (TX3 2).2.2.1 ∈ wsX3_addIfItFits := by decide +kernel
theorem lkX3_addIfItFits_30 : Cond.fieldLink RX3 30 (TX3 0).1 (TX3 0).2.1 (TX3 0).2.2.1 ∈ wsX3_addIfItFits := by decide +kernel
theorem lkX3_addIfItFits_50 : Cond.fieldLink RX3 50 (TX3 5).1 (TX3 5).2.1 (TX3 5).2.2.1 ∈ wsX3_addIfItFits := by decide +kernel
theorem lkX3_addIfItFits_34 : Cond.fieldLink RX3 34 (TX3 1).1 (TX3 1).2.1 (TX3 1).2.2.1 ∈ wsX3_addIfItFits := by decide +kernel
theorem hiX3_addIfItFits_X3 : ∀ w ∈ u_ws RX3 TX3 12, w ∈ wsX3_addIfItFits := by decide +kernel
theorem hiX3_addIfItFits_X2 : ∀ w ∈ u_ws RX2 TX2 16, w ∈ wsX3_addIfItFits := by decide +kernel
def mX3_addIfItFits_b99  (zk : OS) (zd : OS) (zg : OS) (zu : OS) (zl : OS) (a1 : Int32) (a2 : Int32) (a3 : Int32) : Option (Int32 × OS) := gd a1 240 (b1 (mX8_add zu a2 a3 (zg.2.2.1 10 (a1 : Int32).toNatClampNeg)) (fun zu2 => some (1, zu2)))
def mX3_addIfItFits_b84  (zk : OS) (zd : OS) (zg : OS) (zu : OS) (zl : OS) (a1 : Int32) (a2 : Int32) (a3 : Int32) : Option (Int32 × OS) := (if (a2 : Int32) = (-1) then mX3_addIfItFits_b99 zk zd zg zu zl a1 a2 a3 else b1 (mX3_pitchFits zk zd zg zu zl a3) (fun r2 => (if (r2 : Int32) = 0 then some (0, zu) else mX3_addIfItFits_b99 zk zd zg zu zl a1 a2 a3)))
def mX3_addIfItFits_b0  (zk : OS) (zd : OS) (zg : OS) (zu : OS) (zl : OS) (a1 : Int32) : Option (Int32 × OS) := gd a1 240 (nm (zg.2.2.1 8 (a1 : Int32).toNatClampNeg : Int32) (fun v2 => gd a1 240 (b1 (mX8_pitchOf v2 (zg.2.2.1 9 (a1 : Int32).toNatClampNeg)) (fun r4 => b1 (mX8_time zu) (fun r6 => gd a1 240 (nm (r6 + (zg.2.2.1 10 (a1 : Int32).toNatClampNeg) : Int32) (fun v9 => (if (v9 : Int32) ≤ (zk.1 5) then gd 4 7 ((if (zk.2.2.1 1 (4 : Int32).toNatClampNeg : Int32) = 0 then (if (r6 / 16 : Int32) = ((v9 - 1) / 16) then mX3_addIfItFits_b84 zk zd zg zu zl a1 v2 r4 else some (0, zu)) else mX3_addIfItFits_b84 zk zd zg zu zl a1 v2 r4)) else some (0, zu)))))))))
def mX3_addIfItFits (zk : OS) (zd : OS) (zg : OS) (zu : OS) (zl : OS) (a1 : Int32) : Option (Int32 × OS) := mX3_addIfItFits_b0 zk zd zg zu zl a1
set_option maxRecDepth 20000 in
theorem kX3_addIfItFits_b99 {p : Program} {l : Launch} {e : Env} {s : State} {m : MethodId} {args : Array Value} {below : List Frame} {meth : Method} {c : Code} {A : Nat → Prop} {E : EV} {ad : Nat → Nat} {zk : OS} {zd : OS} {zg : OS} {zl : OS} {r : Int32} {zu' : OS} (C0 : Cx RX3 "addIfItFits" cX3_addIfItFits (some .boolean) 6 wsX3_addIfItFits p s m args meth c) (hA : Ax E A s) : ∀ (zu : OS) (a1 : Int32) (a2 : Int32) (a3 : Int32) (H : Heap) (locs : List Loc) (ls : Array Slot), mX3_addIfItFits_b99 zk zd zg zu zl a1 a2 a3 = some (r, zu') → Wd E A s H locs (wK E ad zk zd zg zu zl) → lv_has ls 6 [(0, .ref (ad 0)), (1, .int a1), (2, .int a2), (3, .int a3)] → W p l e ({ frames := 3, cells := 0, slots := 0, locals := 68 } : Room) s m args below meth c H locs 0 0 (MQ below (QG E (Qd (some (.int r)) (wK E ad zk zd zg zu' zl)) A) args s 0 0 A) (F0 m 99 ls []) := by
  have hx := C0.1
  have hb := C0.2.1
  intro zu a1 a2 a3 H locs ls hm hw hl
  unfold mX3_addIfItFits_b99 at hm
  refine lv_aload_n hx hb dX3_addIfItFits_99 rfl (lv_at hl 0 rfl) ?_
  refine gK_0_2 C0 hA hw hiX3_addIfItFits_X3 lkX3_addIfItFits_38 dX3_addIfItFits_100 ?_
  refine lv_iload_n hx hb dX3_addIfItFits_103 rfl (lv_at hl 2 rfl) ?_
  refine lv_iload_n hx hb dX3_addIfItFits_104 rfl (lv_at hl 3 rfl) ?_
  refine lv_aload_n hx hb dX3_addIfItFits_105 rfl (lv_at hl 0 rfl) ?_
  refine gK_0_0 C0 hA hw hiX3_addIfItFits_X3 lkX3_addIfItFits_30 dX3_addIfItFits_106 ?_
  refine gnK_3_10 C0 hA hw hiX3_addIfItFits_X2 lnX3_158 dX3_addIfItFits_109 ?_
  refine lv_iload_n hx hb dX3_addIfItFits_112 rfl (lv_at hl 1 rfl) ?_
  obtain ⟨c1, hm⟩ := gd_some hm
  refine lK_14 C0 hA hw c1 dX3_addIfItFits_113 ?_
  obtain ⟨zu2, h3, hm⟩ := b1_some hm
  refine r_backP (va_runV (As := [.int a2, .int a3, .int (zg.2.2.1 10 (a1 : Int32).toNatClampNeg)]) (rest := []) ⟨hx, hb, C0.2.2.2.1, C0.2.2.2.2.1, C0.2.2.2.2.2.1⟩ (tX8_add l E (fun k => ad (k + 15)) zu a2 a3 (zg.2.2.1 10 (a1 : Int32).toNatClampNeg) h3 H.size) (cwV 3 C0.2.2.2.2.2.1 gX3_addIfItFits_X8_add rfl rfl rfl (by decide +kernel) ⟨Nat.le_of_ble_eq_true rfl, Nat.le_of_ble_eq_true rfl⟩) ⟨PG_blind, va_recv hA.2.2.1.1 hw.1 (ci := 8) (q0 := 15) rfl rfl, pg_at hA hw [15, 16, 17, 18, 19, 20, 21] rfl (wcK_zu E ad zk zd zg zu zl)⟩ rfl rfl hl.1 rfl (lv_room (Nat.le_of_ble_eq_true rfl)) dX3_addIfItFits_114 ⟨Nat.zero_le _, Nat.zero_le _⟩) hA hw [15, 16, 17, 18, 19, 20, 21] [0, 1, 2, 3, 4, 5, 6, 7, 8, 9, 10, 11, 12, 13, 14, 22, 23, 24, 25, 26, 27, 28, 29, 30] (wcK_zu E ad zk zd zg zu zl) (wqK_zu E ad zk zd zg zu zl) rfl (by decide) (fun H locs hw => ?_)
  have hw := wjK_zu zu2 hw
  refine lv_iconst (v := 1) hx hb dX3_addIfItFits_117 (by decide) ?_
  obtain ⟨rfl, rfl⟩ := sj2 hm
  exact r_zret C0 hw dX3_addIfItFits_118 rfl ⟨rfl, rfl⟩
set_option maxRecDepth 20000 in
theorem kX3_addIfItFits_b84 {p : Program} {l : Launch} {e : Env} {s : State} {m : MethodId} {args : Array Value} {below : List Frame} {meth : Method} {c : Code} {A : Nat → Prop} {E : EV} {ad : Nat → Nat} {zk : OS} {zd : OS} {zg : OS} {zl : OS} {r : Int32} {zu' : OS} (C0 : Cx RX3 "addIfItFits" cX3_addIfItFits (some .boolean) 6 wsX3_addIfItFits p s m args meth c) (hA : Ax E A s) : ∀ (zu : OS) (a1 : Int32) (a2 : Int32) (a3 : Int32) (H : Heap) (locs : List Loc) (ls : Array Slot), mX3_addIfItFits_b84 zk zd zg zu zl a1 a2 a3 = some (r, zu') → Wd E A s H locs (wK E ad zk zd zg zu zl) → lv_has ls 6 [(0, .ref (ad 0)), (1, .int a1), (2, .int a2), (3, .int a3)] → W p l e ({ frames := 3, cells := 0, slots := 0, locals := 68 } : Room) s m args below meth c H locs 0 0 (MQ below (QG E (Qd (some (.int r)) (wK E ad zk zd zg zu' zl)) A) args s 0 0 A) (F0 m 84 ls []) := by
  have hx := C0.1
  have hb := C0.2.1
  intro zu a1 a2 a3 H locs ls hm hw hl
  unfold mX3_addIfItFits_b84 at hm
  refine lv_iload_n hx hb dX3_addIfItFits_84 rfl (lv_at hl 2 rfl) ?_
  refine lv_iconst (v := (-1)) hx hb dX3_addIfItFits_85 (by decide) ?_
  refine lv_icmp_eq (tgt := 99) hx hb dX3_addIfItFits_86 (by decide) (fun c1 => ?_) (fun c1 => ?_)
  · have hm := Eq.trans (if_pos c1).symm hm
    exact kX3_addIfItFits_b99 C0 hA zu a1 a2 a3 _ _ _ hm hw (lv_sub hl [0, 1, 2, 3] rfl)
  · have hm := Eq.trans (if_neg c1).symm hm
    refine lv_aload_n hx hb dX3_addIfItFits_89 rfl (lv_at hl 0 rfl) ?_
    refine lv_iload_n hx hb dX3_addIfItFits_90 rfl (lv_at hl 3 rfl) ?_
    obtain ⟨r2, h3, hm⟩ := b1_some hm
    refine r_backS (va_runV (As := [.int a3]) (rest := []) ⟨hx, hb, C0.2.2.2.1, C0.2.2.2.2.1, C0.2.2.2.2.2.1⟩ (tX3_pitchFits l E ad zk zd zg zu zl a3 h3 H.size) (cwV 1 C0.2.2.2.2.2.1 gX3_addIfItFits_X3_pitchFits rfl rfl rfl (by decide +kernel) ⟨Nat.le_of_ble_eq_true rfl, Nat.le_of_ble_eq_true rfl⟩) ⟨PG_blind, va_recv hA.2.2.1.1 hw.1 (ci := 3) (q0 := 0) rfl rfl, pg_self hA hw⟩ rfl rfl hl.1 rfl (lv_room (Nat.le_of_ble_eq_true rfl)) dX3_addIfItFits_91 ⟨Nat.zero_le _, Nat.zero_le _⟩) hA hw (fun H locs hw => ?_)
    refine lv_if_ne (tgt := 99) hx hb dX3_addIfItFits_94 (by decide) (fun c4 => ?_) (fun c4 => ?_)
    · have hm := Eq.trans (if_neg c4).symm hm
      exact kX3_addIfItFits_b99 C0 hA zu a1 a2 a3 _ _ _ hm hw (lv_sub hl [0, 1, 2, 3] rfl)
    · have hm := Eq.trans (if_pos c4).symm hm
      refine lv_iconst (v := 0) hx hb dX3_addIfItFits_97 (by decide) ?_
      obtain ⟨rfl, rfl⟩ := sj2 hm
      exact r_zret C0 hw dX3_addIfItFits_98 rfl ⟨rfl, rfl⟩
set_option maxRecDepth 20000 in
theorem kX3_addIfItFits_b0 {p : Program} {l : Launch} {e : Env} {s : State} {m : MethodId} {args : Array Value} {below : List Frame} {meth : Method} {c : Code} {A : Nat → Prop} {E : EV} {ad : Nat → Nat} {zk : OS} {zd : OS} {zg : OS} {zl : OS} {r : Int32} {zu' : OS} (C0 : Cx RX3 "addIfItFits" cX3_addIfItFits (some .boolean) 6 wsX3_addIfItFits p s m args meth c) (hA : Ax E A s) : ∀ (zu : OS) (a1 : Int32) (H : Heap) (locs : List Loc) (ls : Array Slot), mX3_addIfItFits_b0 zk zd zg zu zl a1 = some (r, zu') → Wd E A s H locs (wK E ad zk zd zg zu zl) → lv_has ls 6 [(0, .ref (ad 0)), (1, .int a1)] → W p l e ({ frames := 3, cells := 0, slots := 0, locals := 68 } : Room) s m args below meth c H locs 0 0 (MQ below (QG E (Qd (some (.int r)) (wK E ad zk zd zg zu' zl)) A) args s 0 0 A) (F0 m 0 ls []) := by
  have hx := C0.1
  have hb := C0.2.1
  intro zu a1 H locs ls hm hw hl
  unfold mX3_addIfItFits_b0 at hm
  refine lv_aload_n hx hb dX3_addIfItFits_0 rfl (lv_at hl 0 rfl) ?_
  refine gK_0_0 C0 hA hw hiX3_addIfItFits_X3 lkX3_addIfItFits_30 dX3_addIfItFits_1 ?_
  refine gnK_3_8 C0 hA hw hiX3_addIfItFits_X2 lnX3_145 dX3_addIfItFits_4 ?_
  refine lv_iload_n hx hb dX3_addIfItFits_7 rfl (lv_at hl 1 rfl) ?_
  obtain ⟨c1, hm⟩ := gd_some hm
  refine lK_12 C0 hA hw c1 dX3_addIfItFits_8 ?_
  refine lv_topi (fun v2 ev2 => ?_)
  have hm := nm_at hm ev2
  refine lv_istore_n (lv' := [(2, .int v2), (0, .ref (ad 0)), (1, .int a1)]) hx hb dX3_addIfItFits_9 rfl hl (by decide) rfl (fun ls hl => ?_)
  refine lv_iload_n hx hb dX3_addIfItFits_10 rfl (lv_at hl 0 rfl) ?_
  refine lv_aload_n hx hb dX3_addIfItFits_11 rfl (lv_at hl 1 rfl) ?_
  refine gK_0_0 C0 hA hw hiX3_addIfItFits_X3 lkX3_addIfItFits_30 dX3_addIfItFits_12 ?_
  refine gnK_3_9 C0 hA hw hiX3_addIfItFits_X2 lnX3_148 dX3_addIfItFits_15 ?_
  refine lv_iload_n hx hb dX3_addIfItFits_18 rfl (lv_at hl 2 rfl) ?_
  obtain ⟨c3, hm⟩ := gd_some hm
  refine lK_13 C0 hA hw c3 dX3_addIfItFits_19 ?_
  obtain ⟨r4, h5, hm⟩ := b1_some hm
  refine r_backZ (va_runS (As := [.int v2, .int (zg.2.2.1 9 (a1 : Int32).toNatClampNeg)]) (rest := []) ⟨hx, hb, C0.2.2.2.1, C0.2.2.2.2.1, C0.2.2.2.2.2.1⟩ (tX8_pitchOf l E v2 (zg.2.2.1 9 (a1 : Int32).toNatClampNeg) h5 H.size) (va_cwS 2 C0.2.2.2.2.2.1 gX3_addIfItFits_X8_pitchOf rfl rfl rfl (by decide +kernel) ⟨Nat.le_of_ble_eq_true rfl, Nat.le_of_ble_eq_true rfl⟩) ⟨PG_blind, pg_nil hA hw⟩ rfl rfl hl.1 rfl (lv_room (Nat.le_of_ble_eq_true rfl)) dX3_addIfItFits_20 ⟨Nat.zero_le _, Nat.zero_le _⟩) hA hw (fun H locs hw => ?_)
  refine lv_istore_n (lv' := [(3, .int r4), (2, .int v2), (0, .ref (ad 0)), (1, .int a1)]) hx hb dX3_addIfItFits_23 rfl hl (by decide) rfl (fun ls hl => ?_)
  refine lv_aload_n hx hb dX3_addIfItFits_24 rfl (lv_at hl 2 rfl) ?_
  refine gK_0_2 C0 hA hw hiX3_addIfItFits_X3 lkX3_addIfItFits_38 dX3_addIfItFits_25 ?_
  obtain ⟨r6, h7, hm⟩ := b1_some hm
  refine r_backP (va_runV (As := []) (rest := []) ⟨hx, hb, C0.2.2.2.1, C0.2.2.2.2.1, C0.2.2.2.2.2.1⟩ (tX8_time l E (fun k => ad (k + 15)) zu h7 H.size) (cwV 0 C0.2.2.2.2.2.1 gX3_addIfItFits_X8_time rfl rfl rfl (by decide +kernel) ⟨Nat.le_of_ble_eq_true rfl, Nat.le_of_ble_eq_true rfl⟩) ⟨PG_blind, va_recv hA.2.2.1.1 hw.1 (ci := 8) (q0 := 15) rfl rfl, pg_at hA hw [15, 16, 17, 18, 19, 20, 21] rfl (wcK_zu E ad zk zd zg zu zl)⟩ rfl rfl hl.1 rfl (lv_room (Nat.le_of_ble_eq_true rfl)) dX3_addIfItFits_28 ⟨Nat.zero_le _, Nat.zero_le _⟩) hA hw [15, 16, 17, 18, 19, 20, 21] [0, 1, 2, 3, 4, 5, 6, 7, 8, 9, 10, 11, 12, 13, 14, 22, 23, 24, 25, 26, 27, 28, 29, 30] (wcK_zu E ad zk zd zg zu zl) (wqK_zu E ad zk zd zg zu zl) rfl (by decide) (fun H locs hw => ?_)
  have hw := wjK_zu zu hw
  refine lv_istore (lv' := [(4, .int r6), (3, .int r4), (2, .int v2), (0, .ref (ad 0)), (1, .int a1)]) hx hb dX3_addIfItFits_31 hl (by decide) rfl (fun ls hl => ?_)
  refine lv_iload hx hb dX3_addIfItFits_33 (lv_at hl 0 rfl) ?_
  refine lv_aload_n hx hb dX3_addIfItFits_35 rfl (lv_at hl 3 rfl) ?_
  refine gK_0_0 C0 hA hw hiX3_addIfItFits_X3 lkX3_addIfItFits_30 dX3_addIfItFits_36 ?_
  refine gnK_3_10 C0 hA hw hiX3_addIfItFits_X2 lnX3_158 dX3_addIfItFits_39 ?_
  refine lv_iload_n hx hb dX3_addIfItFits_42 rfl (lv_at hl 4 rfl) ?_
  obtain ⟨c8, hm⟩ := gd_some hm
  refine lK_14 C0 hA hw c8 dX3_addIfItFits_43 ?_
  refine lv_iadd hx hb dX3_addIfItFits_44 ?_
  refine lv_topi (fun v9 ev9 => ?_)
  have hm := nm_at hm ev9
  refine lv_istore (lv' := [(5, .int v9), (4, .int r6), (3, .int r4), (2, .int v2), (0, .ref (ad 0)), (1, .int a1)]) hx hb dX3_addIfItFits_45 hl (by decide) rfl (fun ls hl => ?_)
  refine lv_iload hx hb dX3_addIfItFits_47 (lv_at hl 0 rfl) ?_
  refine lv_aload_n hx hb dX3_addIfItFits_49 rfl (lv_at hl 4 rfl) ?_
  refine gK_0_5 C0 hA hw hiX3_addIfItFits_X3 lkX3_addIfItFits_50 dX3_addIfItFits_50 ?_
  refine lv_icmp_le (tgt := 58) hx hb dX3_addIfItFits_53 (by decide) (fun c10 => ?_) (fun c10 => ?_)
  · have hm := Eq.trans (if_pos c10).symm hm
    refine lv_aload_n hx hb dX3_addIfItFits_58 rfl (lv_at hl 4 rfl) ?_
    refine gK_0_1 C0 hA hw hiX3_addIfItFits_X3 lkX3_addIfItFits_34 dX3_addIfItFits_59 ?_
    refine lv_iconst (v := 4) hx hb dX3_addIfItFits_62 (by decide) ?_
    obtain ⟨c11, hm⟩ := gd_some hm
    refine lK_1 C0 hA hw c11 dX3_addIfItFits_63 ?_
    refine lv_if_ne (tgt := 84) hx hb dX3_addIfItFits_64 (by decide) (fun c12 => ?_) (fun c12 => ?_)
    · have hm := Eq.trans (if_neg c12).symm hm
      exact kX3_addIfItFits_b84 C0 hA zu a1 v2 r4 _ _ _ hm hw (lv_sub hl [4, 5, 3, 2] rfl)
    · have hm := Eq.trans (if_pos c12).symm hm
      refine lv_iload hx hb dX3_addIfItFits_67 (lv_at hl 1 rfl) ?_
      refine lv_bipush (v := 16) hx hb dX3_addIfItFits_69 (by decide) ?_
      refine lv_idiv hx hb dX3_addIfItFits_71 (by decide) ?_
      refine lv_iload hx hb dX3_addIfItFits_72 (lv_at hl 0 rfl) ?_
      refine lv_iconst (v := 1) hx hb dX3_addIfItFits_74 (by decide) ?_
      refine lv_isub hx hb dX3_addIfItFits_75 ?_
      refine lv_bipush (v := 16) hx hb dX3_addIfItFits_76 (by decide) ?_
      refine lv_idiv hx hb dX3_addIfItFits_78 (by decide) ?_
      refine lv_icmp_eq (tgt := 84) hx hb dX3_addIfItFits_79 (by decide) (fun c13 => ?_) (fun c13 => ?_)
      · have hm := Eq.trans (if_pos c13).symm hm
        exact kX3_addIfItFits_b84 C0 hA zu a1 v2 r4 _ _ _ hm hw (lv_sub hl [4, 5, 3, 2] rfl)
      · have hm := Eq.trans (if_neg c13).symm hm
        refine lv_iconst (v := 0) hx hb dX3_addIfItFits_82 (by decide) ?_
        obtain ⟨rfl, rfl⟩ := sj2 hm
        exact r_zret C0 hw dX3_addIfItFits_83 rfl ⟨rfl, rfl⟩
  · have hm := Eq.trans (if_neg c10).symm hm
    refine lv_iconst (v := 0) hx hb dX3_addIfItFits_56 (by decide) ?_
    obtain ⟨rfl, rfl⟩ := sj2 hm
    exact r_zret C0 hw dX3_addIfItFits_57 rfl ⟨rfl, rfl⟩
theorem tX3_addIfItFits (l : Launch) (E : EV) (ad : Nat → Nat) (zk : OS) (zd : OS) (zg : OS) (zu : OS) (zl : OS) (a1 : Int32) {r : Int32} {zu' : OS} (hm : mX3_addIfItFits zk zd zg zu zl a1 = some (r, zu')) : CT l yX3_addIfItFits wsX3_addIfItFits ({ frames := 3, cells := 0, slots := 0, locals := 68 } : Room) E [.ref (ad 0), .int a1] (wK E ad zk zd zg zu zl) (Qd (some (.int r)) (wK E ad zk zd zg zu' zl)) 0 0 :=
  CT.of (mL := 6) (lvs := [(0, .ref (ad 0)), (1, .int a1)]) (by decide +kernel) rfl (Nat.le_of_ble_eq_true rfl) rfl rfl rfl (fun p e s m below meth c A C0 hA hw ls hl => kX3_addIfItFits_b0 (ad := ad) C0 hA zu a1 _ _ _ hm hw (lv_sub hl [0, 1] rfl))
theorem lkX3_isWhole_21 : Cond.fieldLink RX3 21 (TX3 9).1 (TX3 9).2.1 (TX3 9).2.2.1 ∈ wsX3_isWhole := by decide +kernel
theorem lkX3_isWhole_24 : Cond.fieldLink RX3 24 (TX3 10).1 (TX3 10).2.1 (TX3 10).2.2.1 ∈ wsX3_isWhole := by decide +kernel
theorem lkX3_isWhole_38 : Cond.fieldLink RX3 38 (TX3 2).1 (TX3 2).2.1 (TX3 2).2.2.1 ∈ wsX3_isWhole := by decide +kernel
theorem lkX3_isWhole_50 : Cond.fieldLink RX3 50 (TX3 5).1 (TX3 5).2.1 (TX3 5).2.2.1 ∈ wsX3_isWhole := by decide +kernel
theorem lkX3_isWhole_34 : Cond.fieldLink RX3 34 (TX3 1).1 (TX3 1).2.1 (TX3 1).2.2.1 ∈ wsX3_isWhole := by decide +kernel
theorem hiX3_isWhole_X3 : ∀ w ∈ u_ws RX3 TX3 12, w ∈ wsX3_isWhole := by decide +kernel
def mX3_isWhole_b0  (zk : OS) (zd : OS) (zg : OS) (zu : OS) (zl : OS) : Option (Int32) := (if (zk.1 9 : Int32) < (zk.1 10) then some 0 else b1 (mX8_time zu) (fun r2 => (if (r2 : Int32) = (zk.1 5) then gd 5 7 ((if (zk.2.2.1 1 (5 : Int32).toNatClampNeg : Int32) = (-1) then some 1 else b1 (mX8_latestDegree zu) (fun r7 => gd 5 7 ((if (r7 : Int32) = (zk.2.2.1 1 (5 : Int32).toNatClampNeg) then some 1 else some 0))))) else some 0)))
def mX3_isWhole (zk : OS) (zd : OS) (zg : OS) (zu : OS) (zl : OS)  : Option (Int32) := mX3_isWhole_b0 zk zd zg zu zl
set_option maxRecDepth 20000 in
theorem kX3_isWhole_b0 {p : Program} {l : Launch} {e : Env} {s : State} {m : MethodId} {args : Array Value} {below : List Frame} {meth : Method} {c : Code} {A : Nat → Prop} {E : EV} {ad : Nat → Nat} {zk : OS} {zd : OS} {zg : OS} {zu : OS} {zl : OS} {r : Int32} (C0 : Cx RX3 "isWhole" cX3_isWhole (some .boolean) 1 wsX3_isWhole p s m args meth c) (hA : Ax E A s) : ∀  (H : Heap) (locs : List Loc) (ls : Array Slot), mX3_isWhole_b0 zk zd zg zu zl = some r → Wd E A s H locs (wK E ad zk zd zg zu zl) → lv_has ls 1 [(0, .ref (ad 0))] → W p l e ({ frames := 1, cells := 0, slots := 0, locals := 21 } : Room) s m args below meth c H locs 0 0 (MQ below (QG E (Qd (some (.int r)) (wK E ad zk zd zg zu zl)) A) args s 0 0 A) (F0 m 0 ls []) := by
  have hx := C0.1
  have hb := C0.2.1
  intro  H locs ls hm hw hl
  unfold mX3_isWhole_b0 at hm
  refine lv_aload_n hx hb dX3_isWhole_0 rfl (lv_at hl 0 rfl) ?_
  refine gK_0_9 C0 hA hw hiX3_isWhole_X3 lkX3_isWhole_21 dX3_isWhole_1 ?_
  refine lv_aload_n hx hb dX3_isWhole_4 rfl (lv_at hl 0 rfl) ?_
  refine gK_0_10 C0 hA hw hiX3_isWhole_X3 lkX3_isWhole_24 dX3_isWhole_5 ?_
  refine lv_icmp_lt (tgt := 25) hx hb dX3_isWhole_8 (by decide) (fun c1 => ?_) (fun c1 => ?_)
  · have hm := Eq.trans (if_pos c1).symm hm
    refine lv_iconst (v := 0) hx hb dX3_isWhole_25 (by decide) ?_
    obtain rfl := sj1 hm
    exact r_zret C0 hw dX3_isWhole_26 rfl ⟨rfl, rfl⟩
  · have hm := Eq.trans (if_neg c1).symm hm
    refine lv_aload_n hx hb dX3_isWhole_11 rfl (lv_at hl 0 rfl) ?_
    refine gK_0_2 C0 hA hw hiX3_isWhole_X3 lkX3_isWhole_38 dX3_isWhole_12 ?_
    obtain ⟨r2, h3, hm⟩ := b1_some hm
    refine r_backP (va_runV (As := []) (rest := []) ⟨hx, hb, C0.2.2.2.1, C0.2.2.2.2.1, C0.2.2.2.2.2.1⟩ (tX8_time l E (fun k => ad (k + 15)) zu h3 H.size) (cwV 0 C0.2.2.2.2.2.1 gX3_isWhole_X8_time rfl rfl rfl (by decide +kernel) ⟨Nat.le_of_ble_eq_true rfl, Nat.le_of_ble_eq_true rfl⟩) ⟨PG_blind, va_recv hA.2.2.1.1 hw.1 (ci := 8) (q0 := 15) rfl rfl, pg_at hA hw [15, 16, 17, 18, 19, 20, 21] rfl (wcK_zu E ad zk zd zg zu zl)⟩ rfl rfl hl.1 rfl (lv_room (Nat.le_of_ble_eq_true rfl)) dX3_isWhole_15 ⟨Nat.zero_le _, Nat.zero_le _⟩) hA hw [15, 16, 17, 18, 19, 20, 21] [0, 1, 2, 3, 4, 5, 6, 7, 8, 9, 10, 11, 12, 13, 14, 22, 23, 24, 25, 26, 27, 28, 29, 30] (wcK_zu E ad zk zd zg zu zl) (wqK_zu E ad zk zd zg zu zl) rfl (by decide) (fun H locs hw => ?_)
    have hw := wjK_zu zu hw
    refine lv_aload_n hx hb dX3_isWhole_18 rfl (lv_at hl 0 rfl) ?_
    refine gK_0_5 C0 hA hw hiX3_isWhole_X3 lkX3_isWhole_50 dX3_isWhole_19 ?_
    refine lv_icmp_eq (tgt := 27) hx hb dX3_isWhole_22 (by decide) (fun c4 => ?_) (fun c4 => ?_)
    · have hm := Eq.trans (if_pos c4).symm hm
      refine lv_aload_n hx hb dX3_isWhole_27 rfl (lv_at hl 0 rfl) ?_
      refine gK_0_1 C0 hA hw hiX3_isWhole_X3 lkX3_isWhole_34 dX3_isWhole_28 ?_
      refine lv_iconst (v := 5) hx hb dX3_isWhole_31 (by decide) ?_
      obtain ⟨c5, hm⟩ := gd_some hm
      refine lK_1 C0 hA hw c5 dX3_isWhole_32 ?_
      refine lv_iconst (v := (-1)) hx hb dX3_isWhole_33 (by decide) ?_
      refine lv_icmp_eq (tgt := 53) hx hb dX3_isWhole_34 (by decide) (fun c6 => ?_) (fun c6 => ?_)
      · have hm := Eq.trans (if_pos c6).symm hm
        refine lv_iconst (v := 1) hx hb dX3_isWhole_53 (by decide) ?_
        refine lv_goto (tgt := 58) hx hb dX3_isWhole_54 (by decide) ?_
        obtain rfl := sj1 hm
        exact r_zret C0 hw dX3_isWhole_58 rfl ⟨rfl, rfl⟩
      · have hm := Eq.trans (if_neg c6).symm hm
        refine lv_aload_n hx hb dX3_isWhole_37 rfl (lv_at hl 0 rfl) ?_
        refine gK_0_2 C0 hA hw hiX3_isWhole_X3 lkX3_isWhole_38 dX3_isWhole_38 ?_
        obtain ⟨r7, h8, hm⟩ := b1_some hm
        refine r_backP (va_runV (As := []) (rest := []) ⟨hx, hb, C0.2.2.2.1, C0.2.2.2.2.1, C0.2.2.2.2.2.1⟩ (tX8_latestDegree l E (fun k => ad (k + 15)) zu h8 H.size) (cwV 0 C0.2.2.2.2.2.1 gX3_isWhole_X8_latestDegree rfl rfl rfl (by decide +kernel) ⟨Nat.le_of_ble_eq_true rfl, Nat.le_of_ble_eq_true rfl⟩) ⟨PG_blind, va_recv hA.2.2.1.1 hw.1 (ci := 8) (q0 := 15) rfl rfl, pg_at hA hw [15, 16, 17, 18, 19, 20, 21] rfl (wcK_zu E ad zk zd zg zu zl)⟩ rfl rfl hl.1 rfl (lv_room (Nat.le_of_ble_eq_true rfl)) dX3_isWhole_41 ⟨Nat.zero_le _, Nat.zero_le _⟩) hA hw [15, 16, 17, 18, 19, 20, 21] [0, 1, 2, 3, 4, 5, 6, 7, 8, 9, 10, 11, 12, 13, 14, 22, 23, 24, 25, 26, 27, 28, 29, 30] (wcK_zu E ad zk zd zg zu zl) (wqK_zu E ad zk zd zg zu zl) rfl (by decide) (fun H locs hw => ?_)
        have hw := wjK_zu zu hw
        refine lv_aload_n hx hb dX3_isWhole_44 rfl (lv_at hl 0 rfl) ?_
        refine gK_0_1 C0 hA hw hiX3_isWhole_X3 lkX3_isWhole_34 dX3_isWhole_45 ?_
        refine lv_iconst (v := 5) hx hb dX3_isWhole_48 (by decide) ?_
        obtain ⟨c9, hm⟩ := gd_some hm
        refine lK_1 C0 hA hw c9 dX3_isWhole_49 ?_
        refine lv_icmp_ne (tgt := 57) hx hb dX3_isWhole_50 (by decide) (fun c10 => ?_) (fun c10 => ?_)
        · have hm := Eq.trans (if_neg c10).symm hm
          refine lv_iconst (v := 0) hx hb dX3_isWhole_57 (by decide) ?_
          obtain rfl := sj1 hm
          exact r_zret C0 hw dX3_isWhole_58 rfl ⟨rfl, rfl⟩
        · have hm := Eq.trans (if_pos c10).symm hm
          refine lv_iconst (v := 1) hx hb dX3_isWhole_53 (by decide) ?_
          refine lv_goto (tgt := 58) hx hb dX3_isWhole_54 (by decide) ?_
          obtain rfl := sj1 hm
          exact r_zret C0 hw dX3_isWhole_58 rfl ⟨rfl, rfl⟩
    · have hm := Eq.trans (if_neg c4).symm hm
      refine lv_iconst (v := 0) hx hb dX3_isWhole_25 (by decide) ?_
      obtain rfl := sj1 hm
      exact r_zret C0 hw dX3_isWhole_26 rfl ⟨rfl, rfl⟩
theorem tX3_isWhole (l : Launch) (E : EV) (ad : Nat → Nat) (zk : OS) (zd : OS) (zg : OS) (zu : OS) (zl : OS)  {r : Int32} (hm : mX3_isWhole zk zd zg zu zl = some r) : CT l yX3_isWhole wsX3_isWhole ({ frames := 1, cells := 0, slots := 0, locals := 21 } : Room) E [.ref (ad 0)] (wK E ad zk zd zg zu zl) (Qd (some (.int r)) (wK E ad zk zd zg zu zl)) 0 0 :=
  CT.of (mL := 1) (lvs := [(0, .ref (ad 0))]) (by decide +kernel) rfl (Nat.le_of_ble_eq_true rfl) rfl rfl rfl (fun p e s m below meth c A C0 hA hw ls hl => kX3_isWhole_b0 (ad := ad) C0 hA  _ _ _ hm hw (lv_sub hl [0] rfl))
theorem lkX3_goToLetter_21 : Cond.fieldLink RX3 21 (TX3 9).1 (TX3 9).2.1 (TX3 9).2.2.1 ∈ wsX3_goToLetter := by decide +kernel
theorem lkX3_goToLetter_24 : Cond.fieldLink RX3 24 (TX3 10).1 (TX3 10).2.1 (TX3 10).2.2.1 ∈ wsX3_goToLetter := by decide +kernel
theorem lkX3_goToLetter_30 : Cond.fieldLink RX3 30 (TX3 0).1 (TX3 0).2.1 (TX3 0).2.2.1 ∈ wsX3_goToLetter := by decide +kernel
theorem hiX3_goToLetter_X3 : ∀ w ∈ u_ws RX3 TX3 12, w ∈ wsX3_goToLetter := by decide +kernel
theorem hiX3_goToLetter_X2 : ∀ w ∈ u_ws RX2 TX2 16, w ∈ wsX3_goToLetter := by decide +kernel
def mX3_goToLetter_b65 (F : Nat)  (zk : OS) (zd : OS) (zg : OS) (zu : OS) (zl : OS) : Option (Int32 × OS × OS) := b1 (mX3_isWhole zk zd zg zu zl) (fun r1 => (if (r1 : Int32) = 0 then some ((-12), zk, zu) else some ((-11), zk, zu)))
def mX3_goToLetter_b2 (F : Nat)  : Nat → OS → OS → OS → OS → OS → Int32 → Option (Int32 × OS × OS)
  | 0, _, _, _, _, _, _ => none
  | n + 1, zk, zd, zg, zu, zl, a1 => (if 200 < (a1 : Int32) then mX3_goToLetter_b65 F zk zd zg zu zl else (if (zk.1 10) ≤ (zk.1 9 : Int32) then mX3_goToLetter_b65 F zk zd zg zu zl else b2 (mX3_takeFirst zk zd zg zu zl) (fun r3 zk4 => gd r3 240 ((if (zg.2.2.1 7 (r3 : Int32).toNatClampNeg : Int32) = (-1) then b2 (mX3_addIfItFits zk4 zd zg zu zl r3) (fun r8 zu9 => (if (r8 : Int32) = 0 then some ((-12), zk4, zu9) else nm (a1 + 1 : Int32) (fun v12 => mX3_goToLetter_b2 F n zk4 zd zg zu9 zl v12))) else gd r3 240 (some (zg.2.2.1 7 (r3 : Int32).toNatClampNeg, zk4, zu)))))))
def mX3_goToLetter_b0 (F : Nat)  (zk : OS) (zd : OS) (zg : OS) (zu : OS) (zl : OS) : Option (Int32 × OS × OS) := nm (0 : Int32) (fun v1 => mX3_goToLetter_b2 F F zk zd zg zu zl v1)
def mX3_goToLetter (F : Nat) (zk : OS) (zd : OS) (zg : OS) (zu : OS) (zl : OS)  : Option (Int32 × OS × OS) := mX3_goToLetter_b0 F zk zd zg zu zl
set_option maxRecDepth 20000 in
theorem kX3_goToLetter_b65 {p : Program} {l : Launch} {e : Env} {s : State} {m : MethodId} {args : Array Value} {below : List Frame} {meth : Method} {c : Code} {A : Nat → Prop} {E : EV} {ad : Nat → Nat} (F : Nat) {zd : OS} {zg : OS} {zl : OS} {r : Int32} {zk' : OS} {zu' : OS} (C0 : Cx RX3 "goToLetter" cX3_goToLetter (some .int) 3 wsX3_goToLetter p s m args meth c) (hA : Ax E A s) : ∀ (zk : OS) (zu : OS) (H : Heap) (locs : List Loc) (ls : Array Slot), mX3_goToLetter_b65 F zk zd zg zu zl = some (r, zk', zu') → Wd E A s H locs (wK E ad zk zd zg zu zl) → lv_has ls 3 [(0, .ref (ad 0))] → W p l e ({ frames := 4, cells := 0, slots := 0, locals := 93 } : Room) s m args below meth c H locs 0 0 (MQ below (QG E (Qd (some (.int r)) (wK E ad zk' zd zg zu' zl)) A) args s 0 0 A) (F0 m 65 ls []) := by
  have hx := C0.1
  have hb := C0.2.1
  intro zk zu H locs ls hm hw hl
  unfold mX3_goToLetter_b65 at hm
  refine lv_aload_n hx hb dX3_goToLetter_65 rfl (lv_at hl 0 rfl) ?_
  obtain ⟨r1, h2, hm⟩ := b1_some hm
  refine r_backS (va_runV (As := []) (rest := []) ⟨hx, hb, C0.2.2.2.1, C0.2.2.2.2.1, C0.2.2.2.2.2.1⟩ (tX3_isWhole l E ad zk zd zg zu zl h2 H.size) (cwV 0 C0.2.2.2.2.2.1 gX3_goToLetter_X3_isWhole rfl rfl rfl (by decide +kernel) ⟨Nat.le_of_ble_eq_true rfl, Nat.le_of_ble_eq_true rfl⟩) ⟨PG_blind, va_recv hA.2.2.1.1 hw.1 (ci := 3) (q0 := 0) rfl rfl, pg_self hA hw⟩ rfl rfl hl.1 rfl (lv_room (Nat.le_of_ble_eq_true rfl)) dX3_goToLetter_66 ⟨Nat.zero_le _, Nat.zero_le _⟩) hA hw (fun H locs hw => ?_)
  refine lv_if_eq (tgt := 77) hx hb dX3_goToLetter_69 (by decide) (fun c3 => ?_) (fun c3 => ?_)
  · have hm := Eq.trans (if_pos c3).symm hm
    refine lv_bipush (v := (-12)) hx hb dX3_goToLetter_77 (by decide) ?_
    obtain ⟨rfl, rfl, rfl⟩ := sj3 hm
    exact r_iret C0 hw dX3_goToLetter_79 ⟨rfl, rfl⟩
  · have hm := Eq.trans (if_neg c3).symm hm
    refine lv_bipush (v := (-11)) hx hb dX3_goToLetter_72 (by decide) ?_
    refine lv_goto (tgt := 79) hx hb dX3_goToLetter_74 (by decide) ?_
    obtain ⟨rfl, rfl, rfl⟩ := sj3 hm
    exact r_iret C0 hw dX3_goToLetter_79 ⟨rfl, rfl⟩
set_option maxRecDepth 20000 in
theorem kX3_goToLetter_b2 {p : Program} {l : Launch} {e : Env} {s : State} {m : MethodId} {args : Array Value} {below : List Frame} {meth : Method} {c : Code} {A : Nat → Prop} {E : EV} {ad : Nat → Nat} (F : Nat) {zd : OS} {zg : OS} {zl : OS} {r : Int32} {zk' : OS} {zu' : OS} (C0 : Cx RX3 "goToLetter" cX3_goToLetter (some .int) 3 wsX3_goToLetter p s m args meth c) (hA : Ax E A s) : ∀ (n : Nat) (zk : OS) (zu : OS) (a1 : Int32) (H : Heap) (locs : List Loc) (ls : Array Slot), mX3_goToLetter_b2 F n zk zd zg zu zl a1 = some (r, zk', zu') → Wd E A s H locs (wK E ad zk zd zg zu zl) → lv_has ls 3 [(0, .ref (ad 0)), (1, .int a1)] → W p l e ({ frames := 4, cells := 0, slots := 0, locals := 93 } : Room) s m args below meth c H locs 0 0 (MQ below (QG E (Qd (some (.int r)) (wK E ad zk' zd zg zu' zl)) A) args s 0 0 A) (F0 m 2 ls []) := by
  have hx := C0.1
  have hb := C0.2.1
  intro n
  induction n with
  | zero =>
    intro zk zu a1 H locs ls hm
    cases hm
  | succ n ih =>
    intro zk zu a1 H locs ls hm hw hl
    unfold mX3_goToLetter_b2 at hm
    refine lv_iload_n hx hb dX3_goToLetter_2 rfl (lv_at hl 1 rfl) ?_
    refine lv_sipush (v := 200) hx hb dX3_goToLetter_3 (by decide) ?_
    refine lv_icmp_gt (tgt := 65) hx hb dX3_goToLetter_6 (by decide) (fun c1 => ?_) (fun c1 => ?_)
    · have hm := Eq.trans (if_pos c1).symm hm
      exact kX3_goToLetter_b65 F C0 hA zk zu _ _ _ hm hw (lv_sub hl [0] rfl)
    · have hm := Eq.trans (if_neg c1).symm hm
      refine lv_aload_n hx hb dX3_goToLetter_9 rfl (lv_at hl 0 rfl) ?_
      refine gK_0_9 C0 hA hw hiX3_goToLetter_X3 lkX3_goToLetter_21 dX3_goToLetter_10 ?_
      refine lv_aload_n hx hb dX3_goToLetter_13 rfl (lv_at hl 0 rfl) ?_
      refine gK_0_10 C0 hA hw hiX3_goToLetter_X3 lkX3_goToLetter_24 dX3_goToLetter_14 ?_
      refine lv_icmp_ge (tgt := 65) hx hb dX3_goToLetter_17 (by decide) (fun c2 => ?_) (fun c2 => ?_)
      · have hm := Eq.trans (if_pos c2).symm hm
        exact kX3_goToLetter_b65 F C0 hA zk zu _ _ _ hm hw (lv_sub hl [0] rfl)
      · have hm := Eq.trans (if_neg c2).symm hm
        refine lv_aload_n hx hb dX3_goToLetter_20 rfl (lv_at hl 0 rfl) ?_
        obtain ⟨r3, zk4, h5, hm⟩ := b2_some hm
        refine r_backS (va_runV (As := []) (rest := []) ⟨hx, hb, C0.2.2.2.1, C0.2.2.2.2.1, C0.2.2.2.2.2.1⟩ (tX3_takeFirst l E ad zk zd zg zu zl h5 H.size) (cwV 0 C0.2.2.2.2.2.1 gX3_goToLetter_X3_takeFirst rfl rfl rfl (by decide +kernel) ⟨Nat.le_of_ble_eq_true rfl, Nat.le_of_ble_eq_true rfl⟩) ⟨PG_blind, va_recv hA.2.2.1.1 hw.1 (ci := 3) (q0 := 0) rfl rfl, pg_self hA hw⟩ rfl rfl hl.1 rfl (lv_room (Nat.le_of_ble_eq_true rfl)) dX3_goToLetter_21 ⟨Nat.zero_le _, Nat.zero_le _⟩) hA hw (fun H locs hw => ?_)
        refine lv_istore_n (lv' := [(2, .int r3), (0, .ref (ad 0)), (1, .int a1)]) hx hb dX3_goToLetter_24 rfl hl (by decide) rfl (fun ls hl => ?_)
        refine lv_aload_n hx hb dX3_goToLetter_25 rfl (lv_at hl 1 rfl) ?_
        refine gK_0_0 C0 hA hw hiX3_goToLetter_X3 lkX3_goToLetter_30 dX3_goToLetter_26 ?_
        refine gnK_3_7 C0 hA hw hiX3_goToLetter_X2 lnX3_137 dX3_goToLetter_29 ?_
        refine lv_iload_n hx hb dX3_goToLetter_32 rfl (lv_at hl 0 rfl) ?_
        obtain ⟨c6, hm⟩ := gd_some hm
        refine lK_11 C0 hA hw c6 dX3_goToLetter_33 ?_
        refine lv_iconst (v := (-1)) hx hb dX3_goToLetter_34 (by decide) ?_
        refine lv_icmp_eq (tgt := 48) hx hb dX3_goToLetter_35 (by decide) (fun c7 => ?_) (fun c7 => ?_)
        · have hm := Eq.trans (if_pos c7).symm hm
          refine lv_aload_n hx hb dX3_goToLetter_48 rfl (lv_at hl 1 rfl) ?_
          refine lv_iload_n hx hb dX3_goToLetter_49 rfl (lv_at hl 0 rfl) ?_
          obtain ⟨r8, zu9, h10, hm⟩ := b2_some hm
          refine r_backS (va_runV (As := [.int r3]) (rest := []) ⟨hx, hb, C0.2.2.2.1, C0.2.2.2.2.1, C0.2.2.2.2.2.1⟩ (tX3_addIfItFits l E ad zk4 zd zg zu zl r3 h10 H.size) (cwV 1 C0.2.2.2.2.2.1 gX3_goToLetter_X3_addIfItFits rfl rfl rfl (by decide +kernel) ⟨Nat.le_of_ble_eq_true rfl, Nat.le_of_ble_eq_true rfl⟩) ⟨PG_blind, va_recv hA.2.2.1.1 hw.1 (ci := 3) (q0 := 0) rfl rfl, pg_self hA hw⟩ rfl rfl hl.1 rfl (lv_room (Nat.le_of_ble_eq_true rfl)) dX3_goToLetter_50 ⟨Nat.zero_le _, Nat.zero_le _⟩) hA hw (fun H locs hw => ?_)
          refine lv_if_ne (tgt := 59) hx hb dX3_goToLetter_53 (by decide) (fun c11 => ?_) (fun c11 => ?_)
          · have hm := Eq.trans (if_neg c11).symm hm
            obtain ⟨v12, ev12⟩ : ∃ y : Int32, y = a1 + 1 := ⟨_, rfl⟩
            have hm := nm_at hm ev12
            refine lv_iinc (v := v12) (lv' := [(1, .int v12), (2, .int r3), (0, .ref (ad 0))]) hx hb dX3_goToLetter_59 hl (k := 2) rfl (by rw [ev12]; rfl) (by decide) rfl (fun ls hl => ?_)
            refine lv_goto (tgt := 2) hx hb dX3_goToLetter_62 (by decide) ?_
            exact ih zk4 zu9 v12 _ _ _ hm hw (lv_sub hl [2, 0] rfl)
          · have hm := Eq.trans (if_pos c11).symm hm
            refine lv_bipush (v := (-12)) hx hb dX3_goToLetter_56 (by decide) ?_
            obtain ⟨rfl, rfl, rfl⟩ := sj3 hm
            exact r_iret C0 hw dX3_goToLetter_58 ⟨rfl, rfl⟩
        · have hm := Eq.trans (if_neg c7).symm hm
          refine lv_aload_n hx hb dX3_goToLetter_38 rfl (lv_at hl 1 rfl) ?_
          refine gK_0_0 C0 hA hw hiX3_goToLetter_X3 lkX3_goToLetter_30 dX3_goToLetter_39 ?_
          refine gnK_3_7 C0 hA hw hiX3_goToLetter_X2 lnX3_137 dX3_goToLetter_42 ?_
          refine lv_iload_n hx hb dX3_goToLetter_45 rfl (lv_at hl 0 rfl) ?_
          obtain ⟨c13, hm⟩ := gd_some hm
          refine lK_11 C0 hA hw c13 dX3_goToLetter_46 ?_
          obtain ⟨rfl, rfl, rfl⟩ := sj3 hm
          exact r_iret C0 hw dX3_goToLetter_47 ⟨rfl, rfl⟩
set_option maxRecDepth 20000 in
theorem kX3_goToLetter_b0 {p : Program} {l : Launch} {e : Env} {s : State} {m : MethodId} {args : Array Value} {below : List Frame} {meth : Method} {c : Code} {A : Nat → Prop} {E : EV} {ad : Nat → Nat} (F : Nat) {zd : OS} {zg : OS} {zl : OS} {r : Int32} {zk' : OS} {zu' : OS} (C0 : Cx RX3 "goToLetter" cX3_goToLetter (some .int) 3 wsX3_goToLetter p s m args meth c) (hA : Ax E A s) : ∀ (zk : OS) (zu : OS) (H : Heap) (locs : List Loc) (ls : Array Slot), mX3_goToLetter_b0 F zk zd zg zu zl = some (r, zk', zu') → Wd E A s H locs (wK E ad zk zd zg zu zl) → lv_has ls 3 [(0, .ref (ad 0))] → W p l e ({ frames := 4, cells := 0, slots := 0, locals := 93 } : Room) s m args below meth c H locs 0 0 (MQ below (QG E (Qd (some (.int r)) (wK E ad zk' zd zg zu' zl)) A) args s 0 0 A) (F0 m 0 ls []) := by
  have hx := C0.1
  have hb := C0.2.1
  intro zk zu H locs ls hm hw hl
  unfold mX3_goToLetter_b0 at hm
  refine lv_iconst (v := 0) hx hb dX3_goToLetter_0 (by decide) ?_
  refine lv_topi (fun v1 ev1 => ?_)
  have hm := nm_at hm ev1
  refine lv_istore_n (lv' := [(1, .int v1), (0, .ref (ad 0))]) hx hb dX3_goToLetter_1 rfl hl (by decide) rfl (fun ls hl => ?_)
  exact kX3_goToLetter_b2 F C0 hA F zk zu v1 _ _ _ hm hw (lv_sub hl [1, 0] rfl)
theorem tX3_goToLetter (l : Launch) (E : EV) (ad : Nat → Nat) (F : Nat) (zk : OS) (zd : OS) (zg : OS) (zu : OS) (zl : OS)  {r : Int32} {zk' : OS} {zu' : OS} (hm : mX3_goToLetter F zk zd zg zu zl = some (r, zk', zu')) : CT l yX3_goToLetter wsX3_goToLetter ({ frames := 4, cells := 0, slots := 0, locals := 93 } : Room) E [.ref (ad 0)] (wK E ad zk zd zg zu zl) (Qd (some (.int r)) (wK E ad zk' zd zg zu' zl)) 0 0 :=
  CT.of (mL := 3) (lvs := [(0, .ref (ad 0))]) (by decide +kernel) rfl (Nat.le_of_ble_eq_true rfl) rfl rfl rfl (fun p e s m below meth c A C0 hA hw ls hl => kX3_goToLetter_b0 (ad := ad) F C0 hA zk zu _ _ _ hm hw (lv_sub hl [0] rfl))
theorem lkX3_unfold_15 : Cond.fieldLink RX3 15 (TX3 7).1 (TX3 7).2.1 (TX3 7).2.2.1 ∈ wsX3_unfold := by decide +kernel
theorem lkX3_unfold_38 : Cond.fieldLink RX3 38 (TX3 2).1 (TX3 2).2.1 (TX3 2).2.2.1 ∈ wsX3_unfold := by decide +kernel
theorem lkX3_unfold_42 : Cond.fieldLink RX3 42 (TX3 3).1 (TX3 3).2.1 (TX3 3).2.2.1 ∈ wsX3_unfold := by decide +kernel
theorem lkX3_unfold_9 : Cond.fieldLink RX3 9 (TX3 6).1 (TX3 6).2.1 (TX3 6).2.2.1 ∈ wsX3_unfold := by decide +kernel
theorem lkX3_unfold_34 : Cond.fieldLink RX3 34 (TX3 1).1 (TX3 1).2.1 (TX3 1).2.2.1 ∈ wsX3_unfold := by decide +kernel
theorem lkX3_unfold_18 : Cond.fieldLink RX3 18 (TX3 8).1 (TX3 8).2.1 (TX3 8).2.2.1 ∈ wsX3_unfold := by decide +kernel
theorem lkX3_unfold_30 : Cond.fieldLink RX3 30 (TX3 0).1 (TX3 0).2.1 (TX3 0).2.2.1 ∈ wsX3_unfold := by decide +kernel
theorem hiX3_unfold_X3 : ∀ w ∈ u_ws RX3 TX3 12, w ∈ wsX3_unfold := by decide +kernel
theorem hiX3_unfold_X8 : ∀ w ∈ u_ws RX8 TX8 7, w ∈ wsX3_unfold := by decide +kernel
theorem hiX3_unfold_X4 : ∀ w ∈ u_ws RX4 TX4 8, w ∈ wsX3_unfold := by decide +kernel
theorem hiX3_unfold_X2 : ∀ w ∈ u_ws RX2 TX2 16, w ∈ wsX3_unfold := by decide +kernel
def mX3_unfold_b143 (F : Nat)  (zk : OS) (zd : OS) (zg : OS) (zu : OS) (zl : OS) : Option (Int32 × OS × OS × OS × OS) := (if (zk.1 7 : Int32) = 0 then some ((-1), zk, zd, zu, zl) else some ((-5), zk, zd, zu, zl))
def mX3_unfold_b111 (F : Nat) (K21 : OS → OS → OS → OS → OS → Int32 → Option (Int32 × OS × OS × OS × OS)) (zk : OS) (zd : OS) (zg : OS) (zu : OS) (zl : OS) (a1 : Int32) (t0 : Int32) : Option (Int32 × OS × OS × OS × OS) := (if (t0 : Int32) = (-11) then some (zu.1 6, zk, zd, zu, zl) else (if (t0 : Int32) = (-12) then nm (a1 + 1 : Int32) (fun v3 => K21 zk zd zg zu zl v3) else b2 (mX3_openPlace zk zd zg zu zl t0) (fun zk4 zl5 => nm (a1 + 1 : Int32) (fun v7 => K21 zk4 zd zg zu zl5 v7))))
def mX3_unfold_b21 (F : Nat)  : Nat → OS → OS → OS → OS → OS → Int32 → Option (Int32 × OS × OS × OS × OS)
  | 0, _, _, _, _, _, _ => none
  | n + 1, zk, zd, zg, zu, zl, a1 => (if 6002 ≤ (a1 : Int32) then mX3_unfold_b143 F zk zd zg zu zl else (if (zk.1 7 : Int32) ≤ 0 then mX3_unfold_b143 F zk zd zg zu zl else gd ((zk.1 7) - 1) 3001 ((if (zl.2.2.1 1 ((zk.1 7) - 1 : Int32).toNatClampNeg : Int32) = 0 then nm (sI zk 7 ((zk.1 7) - 1)) (fun zk17 => nm (a1 + 1 : Int32) (fun v18 => mX3_unfold_b21 F n zk17 zd zg zu zl v18)) else gd 6 7 ((if (zk.1 6 : Int32) < (zk.2.2.1 1 (6 : Int32).toNatClampNeg) then b4 (mX3_takeAnother F zk zd zg zu zl ((zk.1 7) - 1)) (fun zk7 zd8 zu9 zl10 => (if (zk7.1 8 : Int32) ≤ 200 then b3 (mX3_goToLetter F zk7 zd8 zg zu9 zl10) (fun r13 zk14 zu15 => mX3_unfold_b111 F (mX3_unfold_b21 F n) zk14 zd8 zg zu15 zl10 a1 r13) else mX3_unfold_b111 F (mX3_unfold_b21 F n) zk7 zd8 zg zu9 zl10 a1 (-12))) else some ((-5), zk, zd, zu, zl)))))))
def mX3_unfold_b0 (F : Nat)  (zk : OS) (zd : OS) (zg : OS) (zu : OS) (zl : OS) : Option (Int32 × OS × OS × OS × OS) := b1 (mX8_shorten zu 0) (fun zu1 => b2 (mX3_openPlace zk zd zg zu1 zl (zg.1 14)) (fun zk3 zl4 => nm (0 : Int32) (fun v6 => mX3_unfold_b21 F F zk3 zd zg zu1 zl4 v6)))
def mX3_unfold (F : Nat) (zk : OS) (zd : OS) (zg : OS) (zu : OS) (zl : OS)  : Option (Int32 × OS × OS × OS × OS) := mX3_unfold_b0 F zk zd zg zu zl
set_option maxRecDepth 20000 in
theorem kX3_unfold_b143 {p : Program} {l : Launch} {e : Env} {s : State} {m : MethodId} {args : Array Value} {below : List Frame} {meth : Method} {c : Code} {A : Nat → Prop} {E : EV} {ad : Nat → Nat} (F : Nat) {zg : OS} {r : Int32} {zk' : OS} {zd' : OS} {zu' : OS} {zl' : OS} (C0 : Cx RX3 "unfold" cX3_unfold (some .int) 3 wsX3_unfold p s m args meth c) (hA : Ax E A s) : ∀ (zk : OS) (zd : OS) (zu : OS) (zl : OS) (H : Heap) (locs : List Loc) (ls : Array Slot), mX3_unfold_b143 F zk zd zg zu zl = some (r, zk', zd', zu', zl') → Wd E A s H locs (wK E ad zk zd zg zu zl) → lv_has ls 3 [(0, .ref (ad 0))] → W p l e ({ frames := 5, cells := 0, slots := 0, locals := 115 } : Room) s m args below meth c H locs 0 0 (MQ below (QG E (Qd (some (.int r)) (wK E ad zk' zd' zg zu' zl')) A) args s 0 0 A) (F0 m 143 ls []) := by
  have hx := C0.1
  have hb := C0.2.1
  intro zk zd zu zl H locs ls hm hw hl
  unfold mX3_unfold_b143 at hm
  refine lv_aload_n hx hb dX3_unfold_143 rfl (lv_at hl 0 rfl) ?_
  refine gK_0_7 C0 hA hw hiX3_unfold_X3 lkX3_unfold_15 dX3_unfold_144 ?_
  refine lv_if_ne (tgt := 154) hx hb dX3_unfold_147 (by decide) (fun c1 => ?_) (fun c1 => ?_)
  · have hm := Eq.trans (if_neg c1).symm hm
    refine lv_bipush (v := (-5)) hx hb dX3_unfold_154 (by decide) ?_
    obtain ⟨rfl, rfl, rfl, rfl, rfl⟩ := sj5 hm
    exact r_iret C0 hw dX3_unfold_156 ⟨rfl, rfl⟩
  · have hm := Eq.trans (if_pos c1).symm hm
    refine lv_iconst (v := (-1)) hx hb dX3_unfold_150 (by decide) ?_
    refine lv_goto (tgt := 156) hx hb dX3_unfold_151 (by decide) ?_
    obtain ⟨rfl, rfl, rfl, rfl, rfl⟩ := sj5 hm
    exact r_iret C0 hw dX3_unfold_156 ⟨rfl, rfl⟩
set_option maxRecDepth 20000 in
theorem kX3_unfold_b111 {p : Program} {l : Launch} {e : Env} {s : State} {m : MethodId} {args : Array Value} {below : List Frame} {meth : Method} {c : Code} {A : Nat → Prop} {E : EV} {ad : Nat → Nat} (F : Nat) {zg : OS} {r : Int32} {zk' : OS} {zd' : OS} {zu' : OS} {zl' : OS} (C0 : Cx RX3 "unfold" cX3_unfold (some .int) 3 wsX3_unfold p s m args meth c) (hA : Ax E A s) (K21 : OS → OS → OS → OS → OS → Int32 → Option (Int32 × OS × OS × OS × OS)) (hK21 : ∀ (zk : OS) (zd : OS) (zu : OS) (zl : OS) (a1 : Int32) (H : Heap) (locs : List Loc) (ls : Array Slot), K21 zk zd zg zu zl a1 = some (r, zk', zd', zu', zl') → Wd E A s H locs (wK E ad zk zd zg zu zl) → lv_has ls 3 [(0, .ref (ad 0)), (1, .int a1)] → W p l e ({ frames := 5, cells := 0, slots := 0, locals := 115 } : Room) s m args below meth c H locs 0 0 (MQ below (QG E (Qd (some (.int r)) (wK E ad zk' zd' zg zu' zl')) A) args s 0 0 A) (F0 m 21 ls [])) : ∀ (zk : OS) (zd : OS) (zu : OS) (zl : OS) (a1 : Int32) (t0 : Int32) (H : Heap) (locs : List Loc) (ls : Array Slot), mX3_unfold_b111 F K21 zk zd zg zu zl a1 t0 = some (r, zk', zd', zu', zl') → Wd E A s H locs (wK E ad zk zd zg zu zl) → lv_has ls 3 [(0, .ref (ad 0)), (1, .int a1)] → W p l e ({ frames := 5, cells := 0, slots := 0, locals := 115 } : Room) s m args below meth c H locs 0 0 (MQ below (QG E (Qd (some (.int r)) (wK E ad zk' zd' zg zu' zl')) A) args s 0 0 A) (F0 m 111 ls [.int t0]) := by
  have hx := C0.1
  have hb := C0.2.1
  intro zk zd zu zl a1 t0 H locs ls hm hw hl
  unfold mX3_unfold_b111 at hm
  refine lv_istore_n (lv' := [(2, .int t0), (0, .ref (ad 0)), (1, .int a1)]) hx hb dX3_unfold_111 rfl hl (by decide) rfl (fun ls hl => ?_)
  refine lv_iload_n hx hb dX3_unfold_112 rfl (lv_at hl 0 rfl) ?_
  refine lv_bipush (v := (-11)) hx hb dX3_unfold_113 (by decide) ?_
  refine lv_icmp_ne (tgt := 126) hx hb dX3_unfold_115 (by decide) (fun c1 => ?_) (fun c1 => ?_)
  · have hm := Eq.trans (if_neg c1).symm hm
    refine lv_iload_n hx hb dX3_unfold_126 rfl (lv_at hl 0 rfl) ?_
    refine lv_bipush (v := (-12)) hx hb dX3_unfold_127 (by decide) ?_
    refine lv_icmp_eq (tgt := 137) hx hb dX3_unfold_129 (by decide) (fun c2 => ?_) (fun c2 => ?_)
    · have hm := Eq.trans (if_pos c2).symm hm
      obtain ⟨v3, ev3⟩ : ∃ y : Int32, y = a1 + 1 := ⟨_, rfl⟩
      have hm := nm_at hm ev3
      refine lv_iinc (v := v3) (lv' := [(1, .int v3), (2, .int t0), (0, .ref (ad 0))]) hx hb dX3_unfold_137 hl (k := 2) rfl (by rw [ev3]; rfl) (by decide) rfl (fun ls hl => ?_)
      refine lv_goto (tgt := 21) hx hb dX3_unfold_140 (by decide) ?_
      exact hK21 zk zd zu zl v3 _ _ _ hm hw (lv_sub hl [2, 0] rfl)
    · have hm := Eq.trans (if_neg c2).symm hm
      refine lv_aload_n hx hb dX3_unfold_132 rfl (lv_at hl 1 rfl) ?_
      refine lv_iload_n hx hb dX3_unfold_133 rfl (lv_at hl 0 rfl) ?_
      obtain ⟨zk4, zl5, h6, hm⟩ := b2_some hm
      refine r_backS (va_runV (As := [.int t0]) (rest := []) ⟨hx, hb, C0.2.2.2.1, C0.2.2.2.2.1, C0.2.2.2.2.2.1⟩ (tX3_openPlace l E ad zk zd zg zu zl t0 h6 H.size) (cwV 1 C0.2.2.2.2.2.1 gX3_unfold_X3_openPlace rfl rfl rfl (by decide +kernel) ⟨Nat.le_of_ble_eq_true rfl, Nat.le_of_ble_eq_true rfl⟩) ⟨PG_blind, va_recv hA.2.2.1.1 hw.1 (ci := 3) (q0 := 0) rfl rfl, pg_self hA hw⟩ rfl rfl hl.1 rfl (lv_room (Nat.le_of_ble_eq_true rfl)) dX3_unfold_134 ⟨Nat.zero_le _, Nat.zero_le _⟩) hA hw (fun H locs hw => ?_)
      obtain ⟨v7, ev7⟩ : ∃ y : Int32, y = a1 + 1 := ⟨_, rfl⟩
      have hm := nm_at hm ev7
      refine lv_iinc (v := v7) (lv' := [(1, .int v7), (2, .int t0), (0, .ref (ad 0))]) hx hb dX3_unfold_137 hl (k := 2) rfl (by rw [ev7]; rfl) (by decide) rfl (fun ls hl => ?_)
      refine lv_goto (tgt := 21) hx hb dX3_unfold_140 (by decide) ?_
      exact hK21 zk4 zd zu zl5 v7 _ _ _ hm hw (lv_sub hl [2, 0] rfl)
  · have hm := Eq.trans (if_pos c1).symm hm
    refine lv_aload_n hx hb dX3_unfold_118 rfl (lv_at hl 1 rfl) ?_
    refine gK_0_2 C0 hA hw hiX3_unfold_X3 lkX3_unfold_38 dX3_unfold_119 ?_
    refine gnK_15_6 C0 hA hw hiX3_unfold_X8 lnX3_79 dX3_unfold_122 ?_
    obtain ⟨rfl, rfl, rfl, rfl, rfl⟩ := sj5 hm
    exact r_iret C0 hw dX3_unfold_125 ⟨rfl, rfl⟩
set_option maxRecDepth 20000 in
theorem kX3_unfold_b21 {p : Program} {l : Launch} {e : Env} {s : State} {m : MethodId} {args : Array Value} {below : List Frame} {meth : Method} {c : Code} {A : Nat → Prop} {E : EV} {ad : Nat → Nat} (F : Nat) {zg : OS} {r : Int32} {zk' : OS} {zd' : OS} {zu' : OS} {zl' : OS} (C0 : Cx RX3 "unfold" cX3_unfold (some .int) 3 wsX3_unfold p s m args meth c) (hA : Ax E A s) : ∀ (n : Nat) (zk : OS) (zd : OS) (zu : OS) (zl : OS) (a1 : Int32) (H : Heap) (locs : List Loc) (ls : Array Slot), mX3_unfold_b21 F n zk zd zg zu zl a1 = some (r, zk', zd', zu', zl') → Wd E A s H locs (wK E ad zk zd zg zu zl) → lv_has ls 3 [(0, .ref (ad 0)), (1, .int a1)] → W p l e ({ frames := 5, cells := 0, slots := 0, locals := 115 } : Room) s m args below meth c H locs 0 0 (MQ below (QG E (Qd (some (.int r)) (wK E ad zk' zd' zg zu' zl')) A) args s 0 0 A) (F0 m 21 ls []) := by
  have hx := C0.1
  have hb := C0.2.1
  intro n
  induction n with
  | zero =>
    intro zk zd zu zl a1 H locs ls hm
    cases hm
  | succ n ih =>
    intro zk zd zu zl a1 H locs ls hm hw hl
    unfold mX3_unfold_b21 at hm
    refine lv_iload_n hx hb dX3_unfold_21 rfl (lv_at hl 1 rfl) ?_
    refine lv_sipush (v := 6002) hx hb dX3_unfold_22 (by decide) ?_
    refine lv_icmp_ge (tgt := 143) hx hb dX3_unfold_25 (by decide) (fun c1 => ?_) (fun c1 => ?_)
    · have hm := Eq.trans (if_pos c1).symm hm
      exact kX3_unfold_b143 F C0 hA zk zd zu zl _ _ _ hm hw (lv_sub hl [0] rfl)
    · have hm := Eq.trans (if_neg c1).symm hm
      refine lv_aload_n hx hb dX3_unfold_28 rfl (lv_at hl 0 rfl) ?_
      refine gK_0_7 C0 hA hw hiX3_unfold_X3 lkX3_unfold_15 dX3_unfold_29 ?_
      refine lv_if_le (tgt := 143) hx hb dX3_unfold_32 (by decide) (fun c2 => ?_) (fun c2 => ?_)
      · have hm := Eq.trans (if_pos c2).symm hm
        exact kX3_unfold_b143 F C0 hA zk zd zu zl _ _ _ hm hw (lv_sub hl [0] rfl)
      · have hm := Eq.trans (if_neg c2).symm hm
        refine lv_aload_n hx hb dX3_unfold_35 rfl (lv_at hl 0 rfl) ?_
        refine gK_0_3 C0 hA hw hiX3_unfold_X3 lkX3_unfold_42 dX3_unfold_36 ?_
        refine gnK_22_1 C0 hA hw hiX3_unfold_X4 lnX3_67 dX3_unfold_39 ?_
        refine lv_aload_n hx hb dX3_unfold_42 rfl (lv_at hl 0 rfl) ?_
        refine gK_0_7 C0 hA hw hiX3_unfold_X3 lkX3_unfold_15 dX3_unfold_43 ?_
        refine lv_iconst (v := 1) hx hb dX3_unfold_46 (by decide) ?_
        refine lv_isub hx hb dX3_unfold_47 ?_
        obtain ⟨c3, hm⟩ := gd_some hm
        refine lK_24 C0 hA hw c3 dX3_unfold_48 ?_
        refine lv_if_ne (tgt := 65) hx hb dX3_unfold_49 (by decide) (fun c4 => ?_) (fun c4 => ?_)
        · have hm := Eq.trans (if_neg c4).symm hm
          refine lv_aload_n hx hb dX3_unfold_65 rfl (lv_at hl 0 rfl) ?_
          refine gK_0_6 C0 hA hw hiX3_unfold_X3 lkX3_unfold_9 dX3_unfold_66 ?_
          refine lv_aload_n hx hb dX3_unfold_69 rfl (lv_at hl 0 rfl) ?_
          refine gK_0_1 C0 hA hw hiX3_unfold_X3 lkX3_unfold_34 dX3_unfold_70 ?_
          refine lv_bipush (v := 6) hx hb dX3_unfold_73 (by decide) ?_
          obtain ⟨c5, hm⟩ := gd_some hm
          refine lK_1 C0 hA hw c5 dX3_unfold_75 ?_
          refine lv_icmp_lt (tgt := 82) hx hb dX3_unfold_76 (by decide) (fun c6 => ?_) (fun c6 => ?_)
          · have hm := Eq.trans (if_pos c6).symm hm
            refine lv_aload_n hx hb dX3_unfold_82 rfl (lv_at hl 0 rfl) ?_
            refine lv_aload_n hx hb dX3_unfold_83 rfl (lv_at hl 0 rfl) ?_
            refine gK_0_7 C0 hA hw hiX3_unfold_X3 lkX3_unfold_15 dX3_unfold_84 ?_
            refine lv_iconst (v := 1) hx hb dX3_unfold_87 (by decide) ?_
            refine lv_isub hx hb dX3_unfold_88 ?_
            obtain ⟨zk7, zd8, zu9, zl10, h11, hm⟩ := b4_some hm
            refine r_backS (va_runV (As := [.int ((zk.1 7) - 1)]) (rest := []) ⟨hx, hb, C0.2.2.2.1, C0.2.2.2.2.1, C0.2.2.2.2.2.1⟩ (tX3_takeAnother l E ad F zk zd zg zu zl ((zk.1 7) - 1) h11 H.size) (cwV 1 C0.2.2.2.2.2.1 gX3_unfold_X3_takeAnother rfl rfl rfl (by decide +kernel) ⟨Nat.le_of_ble_eq_true rfl, Nat.le_of_ble_eq_true rfl⟩) ⟨PG_blind, va_recv hA.2.2.1.1 hw.1 (ci := 3) (q0 := 0) rfl rfl, pg_self hA hw⟩ rfl rfl hl.1 rfl (lv_room (Nat.le_of_ble_eq_true rfl)) dX3_unfold_89 ⟨Nat.zero_le _, Nat.zero_le _⟩) hA hw (fun H locs hw => ?_)
            refine lv_aload_n hx hb dX3_unfold_92 rfl (lv_at hl 0 rfl) ?_
            refine gK_0_8 C0 hA hw hiX3_unfold_X3 lkX3_unfold_18 dX3_unfold_93 ?_
            refine lv_sipush (v := 200) hx hb dX3_unfold_96 (by decide) ?_
            refine lv_icmp_le (tgt := 107) hx hb dX3_unfold_99 (by decide) (fun c12 => ?_) (fun c12 => ?_)
            · have hm := Eq.trans (if_pos c12).symm hm
              refine lv_aload_n hx hb dX3_unfold_107 rfl (lv_at hl 0 rfl) ?_
              obtain ⟨r13, zk14, zu15, h16, hm⟩ := b3_some hm
              refine r_backS (va_runV (As := []) (rest := []) ⟨hx, hb, C0.2.2.2.1, C0.2.2.2.2.1, C0.2.2.2.2.2.1⟩ (tX3_goToLetter l E ad F zk7 zd8 zg zu9 zl10 h16 H.size) (cwV 0 C0.2.2.2.2.2.1 gX3_unfold_X3_goToLetter rfl rfl rfl (by decide +kernel) ⟨Nat.le_of_ble_eq_true rfl, Nat.le_of_ble_eq_true rfl⟩) ⟨PG_blind, va_recv hA.2.2.1.1 hw.1 (ci := 3) (q0 := 0) rfl rfl, pg_self hA hw⟩ rfl rfl hl.1 rfl (lv_room (Nat.le_of_ble_eq_true rfl)) dX3_unfold_108 ⟨Nat.zero_le _, Nat.zero_le _⟩) hA hw (fun H locs hw => ?_)
              exact kX3_unfold_b111 F C0 hA _ ih zk14 zd8 zu15 zl10 a1 r13 _ _ _ hm hw (lv_sub hl [0, 1] rfl)
            · have hm := Eq.trans (if_neg c12).symm hm
              refine lv_bipush (v := (-12)) hx hb dX3_unfold_102 (by decide) ?_
              refine lv_goto (tgt := 111) hx hb dX3_unfold_104 (by decide) ?_
              exact kX3_unfold_b111 F C0 hA _ ih zk7 zd8 zu9 zl10 a1 (-12) _ _ _ hm hw (lv_sub hl [0, 1] rfl)
          · have hm := Eq.trans (if_neg c6).symm hm
            refine lv_bipush (v := (-5)) hx hb dX3_unfold_79 (by decide) ?_
            obtain ⟨rfl, rfl, rfl, rfl, rfl⟩ := sj5 hm
            exact r_iret C0 hw dX3_unfold_81 ⟨rfl, rfl⟩
        · have hm := Eq.trans (if_pos c4).symm hm
          refine lv_aload_n hx hb dX3_unfold_52 rfl (lv_at hl 0 rfl) ?_
          refine lv_dup hx hb dX3_unfold_53 rfl ?_
          refine gK_0_7 C0 hA hw hiX3_unfold_X3 lkX3_unfold_15 dX3_unfold_54 ?_
          refine lv_iconst (v := 1) hx hb dX3_unfold_57 (by decide) ?_
          refine lv_isub hx hb dX3_unfold_58 ?_
          refine pK_0_7 C0 hA hw hiX3_unfold_X3 lkX3_unfold_15 dX3_unfold_59 (fun zk17 ezk17 H locs hw => ?_)
          have hm := nm_at hm ezk17
          refine lv_goto (tgt := 137) hx hb dX3_unfold_62 (by decide) ?_
          obtain ⟨v18, ev18⟩ : ∃ y : Int32, y = a1 + 1 := ⟨_, rfl⟩
          have hm := nm_at hm ev18
          refine lv_iinc (v := v18) (lv' := [(1, .int v18), (0, .ref (ad 0))]) hx hb dX3_unfold_137 hl (k := 1) rfl (by rw [ev18]; rfl) (by decide) rfl (fun ls hl => ?_)
          refine lv_goto (tgt := 21) hx hb dX3_unfold_140 (by decide) ?_
          exact ih zk17 zd zu zl v18 _ _ _ hm hw (lv_sub hl [1, 0] rfl)
set_option maxRecDepth 20000 in
theorem kX3_unfold_b0 {p : Program} {l : Launch} {e : Env} {s : State} {m : MethodId} {args : Array Value} {below : List Frame} {meth : Method} {c : Code} {A : Nat → Prop} {E : EV} {ad : Nat → Nat} (F : Nat) {zg : OS} {r : Int32} {zk' : OS} {zd' : OS} {zu' : OS} {zl' : OS} (C0 : Cx RX3 "unfold" cX3_unfold (some .int) 3 wsX3_unfold p s m args meth c) (hA : Ax E A s) : ∀ (zk : OS) (zd : OS) (zu : OS) (zl : OS) (H : Heap) (locs : List Loc) (ls : Array Slot), mX3_unfold_b0 F zk zd zg zu zl = some (r, zk', zd', zu', zl') → Wd E A s H locs (wK E ad zk zd zg zu zl) → lv_has ls 3 [(0, .ref (ad 0))] → W p l e ({ frames := 5, cells := 0, slots := 0, locals := 115 } : Room) s m args below meth c H locs 0 0 (MQ below (QG E (Qd (some (.int r)) (wK E ad zk' zd' zg zu' zl')) A) args s 0 0 A) (F0 m 0 ls []) := by
  have hx := C0.1
  have hb := C0.2.1
  intro zk zd zu zl H locs ls hm hw hl
  unfold mX3_unfold_b0 at hm
  refine lv_aload_n hx hb dX3_unfold_0 rfl (lv_at hl 0 rfl) ?_
  refine gK_0_2 C0 hA hw hiX3_unfold_X3 lkX3_unfold_38 dX3_unfold_1 ?_
  refine lv_iconst (v := 0) hx hb dX3_unfold_4 (by decide) ?_
  obtain ⟨zu1, h2, hm⟩ := b1_some hm
  refine r_backP (va_runV (As := [.int 0]) (rest := []) ⟨hx, hb, C0.2.2.2.1, C0.2.2.2.2.1, C0.2.2.2.2.2.1⟩ (tX8_shorten l E (fun k => ad (k + 15)) zu 0 h2 H.size) (cwV 1 C0.2.2.2.2.2.1 gX3_unfold_X8_shorten rfl rfl rfl (by decide +kernel) ⟨Nat.le_of_ble_eq_true rfl, Nat.le_of_ble_eq_true rfl⟩) ⟨PG_blind, va_recv hA.2.2.1.1 hw.1 (ci := 8) (q0 := 15) rfl rfl, pg_at hA hw [15, 16, 17, 18, 19, 20, 21] rfl (wcK_zu E ad zk zd zg zu zl)⟩ rfl rfl hl.1 rfl (lv_room (Nat.le_of_ble_eq_true rfl)) dX3_unfold_5 ⟨Nat.zero_le _, Nat.zero_le _⟩) hA hw [15, 16, 17, 18, 19, 20, 21] [0, 1, 2, 3, 4, 5, 6, 7, 8, 9, 10, 11, 12, 13, 14, 22, 23, 24, 25, 26, 27, 28, 29, 30] (wcK_zu E ad zk zd zg zu zl) (wqK_zu E ad zk zd zg zu zl) rfl (by decide) (fun H locs hw => ?_)
  have hw := wjK_zu zu1 hw
  refine lv_aload_n hx hb dX3_unfold_8 rfl (lv_at hl 0 rfl) ?_
  refine lv_aload_n hx hb dX3_unfold_9 rfl (lv_at hl 0 rfl) ?_
  refine gK_0_0 C0 hA hw hiX3_unfold_X3 lkX3_unfold_30 dX3_unfold_10 ?_
  refine gnK_3_14 C0 hA hw hiX3_unfold_X2 lnX3_59 dX3_unfold_13 ?_
  obtain ⟨zk3, zl4, h5, hm⟩ := b2_some hm
  refine r_backS (va_runV (As := [.int (zg.1 14)]) (rest := []) ⟨hx, hb, C0.2.2.2.1, C0.2.2.2.2.1, C0.2.2.2.2.2.1⟩ (tX3_openPlace l E ad zk zd zg zu1 zl (zg.1 14) h5 H.size) (cwV 1 C0.2.2.2.2.2.1 gX3_unfold_X3_openPlace rfl rfl rfl (by decide +kernel) ⟨Nat.le_of_ble_eq_true rfl, Nat.le_of_ble_eq_true rfl⟩) ⟨PG_blind, va_recv hA.2.2.1.1 hw.1 (ci := 3) (q0 := 0) rfl rfl, pg_self hA hw⟩ rfl rfl hl.1 rfl (lv_room (Nat.le_of_ble_eq_true rfl)) dX3_unfold_16 ⟨Nat.zero_le _, Nat.zero_le _⟩) hA hw (fun H locs hw => ?_)
  refine lv_iconst (v := 0) hx hb dX3_unfold_19 (by decide) ?_
  refine lv_topi (fun v6 ev6 => ?_)
  have hm := nm_at hm ev6
  refine lv_istore_n (lv' := [(1, .int v6), (0, .ref (ad 0))]) hx hb dX3_unfold_20 rfl hl (by decide) rfl (fun ls hl => ?_)
  exact kX3_unfold_b21 F C0 hA F zk3 zd zu1 zl4 v6 _ _ _ hm hw (lv_sub hl [1, 0] rfl)
theorem tX3_unfold (l : Launch) (E : EV) (ad : Nat → Nat) (F : Nat) (zk : OS) (zd : OS) (zg : OS) (zu : OS) (zl : OS)  {r : Int32} {zk' : OS} {zd' : OS} {zu' : OS} {zl' : OS} (hm : mX3_unfold F zk zd zg zu zl = some (r, zk', zd', zu', zl')) : CT l yX3_unfold wsX3_unfold ({ frames := 5, cells := 0, slots := 0, locals := 115 } : Room) E [.ref (ad 0)] (wK E ad zk zd zg zu zl) (Qd (some (.int r)) (wK E ad zk' zd' zg zu' zl')) 0 0 :=
  CT.of (mL := 3) (lvs := [(0, .ref (ad 0))]) (by decide +kernel) rfl (Nat.le_of_ble_eq_true rfl) rfl rfl rfl (fun p e s m below meth c A C0 hA hw ls hl => kX3_unfold_b0 (ad := ad) F C0 hA zk zd zu zl _ _ _ hm hw (lv_sub hl [0] rfl))

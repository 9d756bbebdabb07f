theorem lkX10_step_240 : Cond.fieldLink RX10 240 (TX10 51).1 (TX10 51).2.1 (TX10 51).2.2.1 ∈ wsX10_step := by decide +kernel
theorem lkX10_step_114 : Cond.fieldLink RX10 114 (TX10 50).1 (TX10 50).2.1 (TX10 50).2.2.1 ∈ wsX10_step := by decide +kernel
theorem hiX10_step_X10 : ∀ w ∈ u_ws RX10 TX10 53, w ∈ wsX10_step := by decide +kernel
def mX10_step_b0  (zx : OS) (a1 : Int32) : Option (Int32) := (if (a1 : Int32) < 0 then some 0 else (if (zx.1 51) ≤ (a1 : Int32) then some 0 else gd a1 210 (some (zx.2.2.1 50 (a1 : Int32).toNatClampNeg))))
def mX10_step (zx : OS) (a1 : Int32) : Option (Int32) := mX10_step_b0 zx a1
set_option maxRecDepth 20000 in
theorem kX10_step_b0 {p : Program} {l : Launch} {e : Env} {s : State} {m : MethodId} {args : Array Value} {below : List Frame} {meth : Method} {c : Code} {A : Nat → Prop} {E : EV} {ad : Nat → Nat} {zx : OS} {r : Int32} (C0 : Cx RX10 "step" cX10_step (some .int) 2 wsX10_step p s m args meth c) (hA : Ax E A s) : ∀ (a1 : Int32) (H : Heap) (locs : List Loc) (ls : Array Slot), mX10_step_b0 zx a1 = some r → Wd E A s H locs (wM E ad zx) → lv_has ls 2 [(0, .ref (ad 0)), (1, .int a1)] → W p l e ({ frames := 0, cells := 0, slots := 0, locals := 0 } : Room) s m args below meth c H locs 0 0 (MQ below (QG E (Qd (some (.int r)) (wM E ad zx)) A) args s 0 0 A) (F0 m 0 ls []) := by
  have hx := C0.1
  have hb := C0.2.1
  intro a1 H locs ls hm hw hl
  unfold mX10_step_b0 at hm
  refine lv_iload_n hx hb dX10_step_0 rfl (lv_at hl 1 rfl) ?_
  refine lv_if_lt (tgt := 21) hx hb dX10_step_1 (by decide) (fun c1 => ?_) (fun c1 => ?_)
  · have hm := Eq.trans (if_pos c1).symm hm
    refine lv_iconst (v := 0) hx hb dX10_step_21 (by decide) ?_
    obtain rfl := sj1 hm
    exact r_iret C0 hw dX10_step_22 ⟨rfl, rfl⟩
  · have hm := Eq.trans (if_neg c1).symm hm
    refine lv_iload_n hx hb dX10_step_4 rfl (lv_at hl 1 rfl) ?_
    refine lv_aload_n hx hb dX10_step_5 rfl (lv_at hl 0 rfl) ?_
    refine gM_0_51 C0 hA hw hiX10_step_X10 lkX10_step_240 dX10_step_6 ?_
    refine lv_icmp_ge (tgt := 21) hx hb dX10_step_9 (by decide) (fun c2 => ?_) (fun c2 => ?_)
    · have hm := Eq.trans (if_pos c2).symm hm
      refine lv_iconst (v := 0) hx hb dX10_step_21 (by decide) ?_
      obtain rfl := sj1 hm
      exact r_iret C0 hw dX10_step_22 ⟨rfl, rfl⟩
    · have hm := Eq.trans (if_neg c2).symm hm
      refine lv_aload_n hx hb dX10_step_12 rfl (lv_at hl 0 rfl) ?_
      refine gM_0_50 C0 hA hw hiX10_step_X10 lkX10_step_114 dX10_step_13 ?_
      refine lv_iload_n hx hb dX10_step_16 rfl (lv_at hl 1 rfl) ?_
      obtain ⟨c3, hm⟩ := gd_some hm
      refine lM_35 C0 hA hw c3 dX10_step_17 ?_
      refine lv_goto (tgt := 22) hx hb dX10_step_18 (by decide) ?_
      obtain rfl := sj1 hm
      exact r_iret C0 hw dX10_step_22 ⟨rfl, rfl⟩
theorem tX10_step (l : Launch) (E : EV) (ad : Nat → Nat) (zx : OS) (a1 : Int32) {r : Int32} (hm : mX10_step zx a1 = some r) : CT l yX10_step wsX10_step ({ frames := 0, cells := 0, slots := 0, locals := 0 } : Room) E [.ref (ad 0), .int a1] (wM E ad zx) (Qd (some (.int r)) (wM E ad zx)) 0 0 :=
  CT.of (mL := 2) (lvs := [(0, .ref (ad 0)), (1, .int a1)]) (by decide +kernel) rfl (Nat.le_of_ble_eq_true rfl) rfl rfl rfl (fun p e s m below meth c A C0 hA hw ls hl => kX10_step_b0 (ad := ad) C0 hA a1 _ _ _ hm hw (lv_sub hl [0, 1] rfl))
theorem lkX10_steps_240 : Cond.fieldLink RX10 240 (TX10 51).1 (TX10 51).2.1 (TX10 51).2.2.1 ∈ wsX10_steps := by decide +kernel
theorem hiX10_steps_X10 : ∀ w ∈ u_ws RX10 TX10 53, w ∈ wsX10_steps := by decide +kernel
def mX10_steps_b0  (zx : OS) : Option (Int32) := some (zx.1 51)
def mX10_steps (zx : OS)  : Option (Int32) := mX10_steps_b0 zx
set_option maxRecDepth 20000 in
theorem kX10_steps_b0 {p : Program} {l : Launch} {e : Env} {s : State} {m : MethodId} {args : Array Value} {below : List Frame} {meth : Method} {c : Code} {A : Nat → Prop} {E : EV} {ad : Nat → Nat} {zx : OS} {r : Int32} (C0 : Cx RX10 "steps" cX10_steps (some .int) 1 wsX10_steps p s m args meth c) (hA : Ax E A s) : ∀  (H : Heap) (locs : List Loc) (ls : Array Slot), mX10_steps_b0 zx = some r → Wd E A s H locs (wM E ad zx) → lv_has ls 1 [(0, .ref (ad 0))] → W p l e ({ frames := 0, cells := 0, slots := 0, locals := 0 } : Room) s m args below meth c H locs 0 0 (MQ below (QG E (Qd (some (.int r)) (wM E ad zx)) A) args s 0 0 A) (F0 m 0 ls []) := by
  have hx := C0.1
  have hb := C0.2.1
  intro  H locs ls hm hw hl
  unfold mX10_steps_b0 at hm
  refine lv_aload_n hx hb dX10_steps_0 rfl (lv_at hl 0 rfl) ?_
  refine gM_0_51 C0 hA hw hiX10_steps_X10 lkX10_steps_240 dX10_steps_1 ?_
  obtain rfl := sj1 hm
  exact r_iret C0 hw dX10_steps_4 ⟨rfl, rfl⟩
theorem tX10_steps (l : Launch) (E : EV) (ad : Nat → Nat) (zx : OS)  {r : Int32} (hm : mX10_steps zx = some r) : CT l yX10_steps wsX10_steps ({ frames := 0, cells := 0, slots := 0, locals := 0 } : Room) E [.ref (ad 0)] (wM E ad zx) (Qd (some (.int r)) (wM E ad zx)) 0 0 :=
  CT.of (mL := 1) (lvs := [(0, .ref (ad 0))]) (by decide +kernel) rfl (Nat.le_of_ble_eq_true rfl) rfl rfl rfl (fun p e s m below meth c A C0 hA hw ls hl => kX10_steps_b0 (ad := ad) C0 hA  _ _ _ hm hw (lv_sub hl [0] rfl))
def mX10_stroke_b0  (zx : OS) (a1 : Int32) (a2 : Int32) (a3 : Int32) (a4 : Int32) : Option (Int32) := (if (a2 : Int32) < 1 then some (-2) else (if 64 < (a2 : Int32) then some (-2) else (if (a1 : Int32) < 0 then some (-2) else (if a2 < (a1 : Int32) then some (-2) else (if (a3 : Int32) < 0 then some (-2) else (if a2 ≤ (a3 : Int32) then some (-2) else (if (a4 : Int32) < 0 then some (-2) else (if (a4 : Int32) ≤ 1000000 then nz a2 ((if a1 ≤ (((a4 + a3) * a1) - ((a4 + a3) * a1) / a2 * a2 : Int32) then some 0 else some 1)) else some (-2)))))))))
def mX10_stroke (zx : OS) (a1 : Int32) (a2 : Int32) (a3 : Int32) (a4 : Int32) : Option (Int32) := mX10_stroke_b0 zx a1 a2 a3 a4
set_option maxRecDepth 20000 in
theorem kX10_stroke_b0 {p : Program} {l : Launch} {e : Env} {s : State} {m : MethodId} {args : Array Value} {below : List Frame} {meth : Method} {c : Code} {A : Nat → Prop} {E : EV} {ad : Nat → Nat} {zx : OS} {r : Int32} (C0 : Cx RX10 "stroke" cX10_stroke (some .int) 5 wsX10_stroke p s m args meth c) (hA : Ax E A s) : ∀ (a1 : Int32) (a2 : Int32) (a3 : Int32) (a4 : Int32) (H : Heap) (locs : List Loc) (ls : Array Slot), mX10_stroke_b0 zx a1 a2 a3 a4 = some r → Wd E A s H locs (wM E ad zx) → lv_has ls 5 [(1, .int a1), (2, .int a2), (3, .int a3), (4, .int a4)] → W p l e ({ frames := 0, cells := 0, slots := 0, locals := 0 } : Room) s m args below meth c H locs 0 0 (MQ below (QG E (Qd (some (.int r)) (wM E ad zx)) A) args s 0 0 A) (F0 m 0 ls []) := by
  have hx := C0.1
  have hb := C0.2.1
  intro a1 a2 a3 a4 H locs ls hm hw hl
  unfold mX10_stroke_b0 at hm
  refine lv_iload_n hx hb dX10_stroke_0 rfl (lv_at hl 1 rfl) ?_
  refine lv_iconst (v := 1) hx hb dX10_stroke_1 (by decide) ?_
  refine lv_icmp_lt (tgt := 41) hx hb dX10_stroke_2 (by decide) (fun c1 => ?_) (fun c1 => ?_)
  · have hm := Eq.trans (if_pos c1).symm hm
    refine lv_bipush (v := (-2)) hx hb dX10_stroke_41 (by decide) ?_
    obtain rfl := sj1 hm
    exact r_iret C0 hw dX10_stroke_43 ⟨rfl, rfl⟩
  · have hm := Eq.trans (if_neg c1).symm hm
    refine lv_iload_n hx hb dX10_stroke_5 rfl (lv_at hl 1 rfl) ?_
    refine lv_bipush (v := 64) hx hb dX10_stroke_6 (by decide) ?_
    refine lv_icmp_gt (tgt := 41) hx hb dX10_stroke_8 (by decide) (fun c2 => ?_) (fun c2 => ?_)
    · have hm := Eq.trans (if_pos c2).symm hm
      refine lv_bipush (v := (-2)) hx hb dX10_stroke_41 (by decide) ?_
      obtain rfl := sj1 hm
      exact r_iret C0 hw dX10_stroke_43 ⟨rfl, rfl⟩
    · have hm := Eq.trans (if_neg c2).symm hm
      refine lv_iload_n hx hb dX10_stroke_11 rfl (lv_at hl 0 rfl) ?_
      refine lv_if_lt (tgt := 41) hx hb dX10_stroke_12 (by decide) (fun c3 => ?_) (fun c3 => ?_)
      · have hm := Eq.trans (if_pos c3).symm hm
        refine lv_bipush (v := (-2)) hx hb dX10_stroke_41 (by decide) ?_
        obtain rfl := sj1 hm
        exact r_iret C0 hw dX10_stroke_43 ⟨rfl, rfl⟩
      · have hm := Eq.trans (if_neg c3).symm hm
        refine lv_iload_n hx hb dX10_stroke_15 rfl (lv_at hl 0 rfl) ?_
        refine lv_iload_n hx hb dX10_stroke_16 rfl (lv_at hl 1 rfl) ?_
        refine lv_icmp_gt (tgt := 41) hx hb dX10_stroke_17 (by decide) (fun c4 => ?_) (fun c4 => ?_)
        · have hm := Eq.trans (if_pos c4).symm hm
          refine lv_bipush (v := (-2)) hx hb dX10_stroke_41 (by decide) ?_
          obtain rfl := sj1 hm
          exact r_iret C0 hw dX10_stroke_43 ⟨rfl, rfl⟩
        · have hm := Eq.trans (if_neg c4).symm hm
          refine lv_iload_n hx hb dX10_stroke_20 rfl (lv_at hl 2 rfl) ?_
          refine lv_if_lt (tgt := 41) hx hb dX10_stroke_21 (by decide) (fun c5 => ?_) (fun c5 => ?_)
          · have hm := Eq.trans (if_pos c5).symm hm
            refine lv_bipush (v := (-2)) hx hb dX10_stroke_41 (by decide) ?_
            obtain rfl := sj1 hm
            exact r_iret C0 hw dX10_stroke_43 ⟨rfl, rfl⟩
          · have hm := Eq.trans (if_neg c5).symm hm
            refine lv_iload_n hx hb dX10_stroke_24 rfl (lv_at hl 2 rfl) ?_
            refine lv_iload_n hx hb dX10_stroke_25 rfl (lv_at hl 1 rfl) ?_
            refine lv_icmp_ge (tgt := 41) hx hb dX10_stroke_26 (by decide) (fun c6 => ?_) (fun c6 => ?_)
            · have hm := Eq.trans (if_pos c6).symm hm
              refine lv_bipush (v := (-2)) hx hb dX10_stroke_41 (by decide) ?_
              obtain rfl := sj1 hm
              exact r_iret C0 hw dX10_stroke_43 ⟨rfl, rfl⟩
            · have hm := Eq.trans (if_neg c6).symm hm
              refine lv_iload hx hb dX10_stroke_29 (lv_at hl 3 rfl) ?_
              refine lv_if_lt (tgt := 41) hx hb dX10_stroke_31 (by decide) (fun c7 => ?_) (fun c7 => ?_)
              · have hm := Eq.trans (if_pos c7).symm hm
                refine lv_bipush (v := (-2)) hx hb dX10_stroke_41 (by decide) ?_
                obtain rfl := sj1 hm
                exact r_iret C0 hw dX10_stroke_43 ⟨rfl, rfl⟩
              · have hm := Eq.trans (if_neg c7).symm hm
                refine lv_iload hx hb dX10_stroke_34 (lv_at hl 3 rfl) ?_
                refine lv_ldc (v := 1000000) hx hb C0.2.2.2.2.1 (C0.2.2.2.2.2.1 (.constant RX10 246 1000000) (by decide +kernel)) dX10_stroke_36 ?_
                refine lv_icmp_le (tgt := 44) hx hb dX10_stroke_38 (by decide) (fun c8 => ?_) (fun c8 => ?_)
                · have hm := Eq.trans (if_pos c8).symm hm
                  refine lv_iload hx hb dX10_stroke_44 (lv_at hl 3 rfl) ?_
                  refine lv_iload_n hx hb dX10_stroke_46 rfl (lv_at hl 2 rfl) ?_
                  refine lv_iadd hx hb dX10_stroke_47 ?_
                  refine lv_iload_n hx hb dX10_stroke_48 rfl (lv_at hl 0 rfl) ?_
                  refine lv_imul hx hb dX10_stroke_49 ?_
                  refine lv_iload_n hx hb dX10_stroke_50 rfl (lv_at hl 1 rfl) ?_
                  obtain ⟨c9, hm⟩ := nz_some hm
                  refine lv_irem hx hb dX10_stroke_51 c9 ?_
                  refine lv_iload_n hx hb dX10_stroke_52 rfl (lv_at hl 0 rfl) ?_
                  refine lv_icmp_ge (tgt := 60) hx hb dX10_stroke_53 (by decide) (fun c10 => ?_) (fun c10 => ?_)
                  · have hm := Eq.trans (if_pos c10).symm hm
                    refine lv_iconst (v := 0) hx hb dX10_stroke_60 (by decide) ?_
                    obtain rfl := sj1 hm
                    exact r_iret C0 hw dX10_stroke_61 ⟨rfl, rfl⟩
                  · have hm := Eq.trans (if_neg c10).symm hm
                    refine lv_iconst (v := 1) hx hb dX10_stroke_56 (by decide) ?_
                    refine lv_goto (tgt := 61) hx hb dX10_stroke_57 (by decide) ?_
                    obtain rfl := sj1 hm
                    exact r_iret C0 hw dX10_stroke_61 ⟨rfl, rfl⟩
                · have hm := Eq.trans (if_neg c8).symm hm
                  refine lv_bipush (v := (-2)) hx hb dX10_stroke_41 (by decide) ?_
                  obtain rfl := sj1 hm
                  exact r_iret C0 hw dX10_stroke_43 ⟨rfl, rfl⟩
theorem tX10_stroke (l : Launch) (E : EV) (ad : Nat → Nat) (zx : OS) (a1 : Int32) (a2 : Int32) (a3 : Int32) (a4 : Int32) {r : Int32} (hm : mX10_stroke zx a1 a2 a3 a4 = some r) : CT l yX10_stroke wsX10_stroke ({ frames := 0, cells := 0, slots := 0, locals := 0 } : Room) E [.ref (ad 0), .int a1, .int a2, .int a3, .int a4] (wM E ad zx) (Qd (some (.int r)) (wM E ad zx)) 0 0 :=
  CT.of (mL := 5) (lvs := [(0, .ref (ad 0)), (1, .int a1), (2, .int a2), (3, .int a3), (4, .int a4)]) (by decide +kernel) rfl (Nat.le_of_ble_eq_true rfl) rfl rfl rfl (fun p e s m below meth c A C0 hA hw ls hl => kX10_stroke_b0 (ad := ad) C0 hA a1 a2 a3 a4 _ _ _ hm hw (lv_sub hl [1, 2, 3, 4] rfl))
def mX10_turned_b32 (F : Nat) (K19 : OS → Int64 → Int64 → Int32 → Int32 → Option (Int32)) : Nat → OS → Int64 → Int64 → Int32 → Int32 → Int32 → Int32 → Option (Int32)
  | 0, _, _, _, _, _, _, _ => none
  | n + 1, zx, a1, a3, a5, a6, a7, a8 => (if a5 ≤ (a8 : Int32) then (if (a7 : Int32) = 0 then nm (a6 + 1 : Int32) (fun v3 => K19 zx a1 a3 a5 v3) else some a6) else nz a5 ((if (lg_cmp ((a3 >>> ((a8 : Int32).toInt64 &&& 63)) &&& 1) ((a1 >>> (((a8 + a6) - (a8 + a6) / a5 * a5 : Int32).toInt64 &&& 63)) &&& 1) : Int32) = 0 then nm (a7 &&& 1 : Int32) (fun v8 => nm (a8 + 1 : Int32) (fun v9 => mX10_turned_b32 F K19 n zx a1 a3 a5 a6 v8 v9)) else nm (a7 &&& 0 : Int32) (fun v6 => nm (a8 + 1 : Int32) (fun v7 => mX10_turned_b32 F K19 n zx a1 a3 a5 a6 v6 v7)))))
def mX10_turned_b19 (F : Nat)  : Nat → OS → Int64 → Int64 → Int32 → Int32 → Option (Int32)
  | 0, _, _, _, _, _ => none
  | n + 1, zx, a1, a3, a5, a6 => (if a5 ≤ (a6 : Int32) then some (-1) else nm (1 : Int32) (fun v2 => nm (0 : Int32) (fun v3 => mX10_turned_b32 F (mX10_turned_b19 F n) F zx a1 a3 a5 a6 v2 v3)))
def mX10_turned_b0 (F : Nat)  (zx : OS) (a1 : Int64) (a3 : Int64) (a5 : Int32) : Option (Int32) := (if (a5 : Int32) < 1 then some (-2) else (if (a5 : Int32) ≤ 64 then nm (0 : Int32) (fun v3 => mX10_turned_b19 F F zx a1 a3 a5 v3) else some (-2)))
def mX10_turned (F : Nat) (zx : OS) (a1 : Int64) (a3 : Int64) (a5 : Int32) : Option (Int32) := mX10_turned_b0 F zx a1 a3 a5
set_option maxRecDepth 20000 in
theorem kX10_turned_b32 {p : Program} {l : Launch} {e : Env} {s : State} {m : MethodId} {args : Array Value} {below : List Frame} {meth : Method} {c : Code} {A : Nat → Prop} {E : EV} {ad : Nat → Nat} (F : Nat) {zx : OS} {r : Int32} (C0 : Cx RX10 "turned" cX10_turned (some .int) 9 wsX10_turned p s m args meth c) (hA : Ax E A s) (K19 : OS → Int64 → Int64 → Int32 → Int32 → Option (Int32)) (hK19 : ∀ (a1 : Int64) (a3 : Int64) (a5 : Int32) (a6 : Int32) (H : Heap) (locs : List Loc) (ls : Array Slot), K19 zx a1 a3 a5 a6 = some r → Wd E A s H locs (wM E ad zx) → lv_has ls 9 [(1, .long a1), (3, .long a3), (5, .int a5), (6, .int a6)] → W p l e ({ frames := 0, cells := 0, slots := 0, locals := 0 } : Room) s m args below meth c H locs 0 0 (MQ below (QG E (Qd (some (.int r)) (wM E ad zx)) A) args s 0 0 A) (F0 m 19 ls [])) : ∀ (n : Nat) (a1 : Int64) (a3 : Int64) (a5 : Int32) (a6 : Int32) (a7 : Int32) (a8 : Int32) (H : Heap) (locs : List Loc) (ls : Array Slot), mX10_turned_b32 F K19 n zx a1 a3 a5 a6 a7 a8 = some r → Wd E A s H locs (wM E ad zx) → lv_has ls 9 [(1, .long a1), (3, .long a3), (5, .int a5), (6, .int a6), (7, .int a7), (8, .int a8)] → W p l e ({ frames := 0, cells := 0, slots := 0, locals := 0 } : Room) s m args below meth c H locs 0 0 (MQ below (QG E (Qd (some (.int r)) (wM E ad zx)) A) args s 0 0 A) (F0 m 32 ls []) := by
  have hx := C0.1
  have hb := C0.2.1
  intro n
  induction n with
  | zero =>
    intro a1 a3 a5 a6 a7 a8 H locs ls hm
    cases hm
  | succ n ih =>
    intro a1 a3 a5 a6 a7 a8 H locs ls hm hw hl
    unfold mX10_turned_b32 at hm
    refine lv_iload hx hb dX10_turned_32 (lv_at hl 5 rfl) ?_
    refine lv_iload hx hb dX10_turned_34 (lv_at hl 2 rfl) ?_
    refine lv_icmp_ge (tgt := 77) hx hb dX10_turned_36 (by decide) (fun c1 => ?_) (fun c1 => ?_)
    · have hm := Eq.trans (if_pos c1).symm hm
      refine lv_iload hx hb dX10_turned_77 (lv_at hl 4 rfl) ?_
      refine lv_if_eq (tgt := 85) hx hb dX10_turned_79 (by decide) (fun c2 => ?_) (fun c2 => ?_)
      · have hm := Eq.trans (if_pos c2).symm hm
        obtain ⟨v3, ev3⟩ : ∃ y : Int32, y = a6 + 1 := ⟨_, rfl⟩
        have hm := nm_at hm ev3
        refine lv_iinc (v := v3) (lv' := [(6, .int v3), (1, .long a1), (3, .long a3), (5, .int a5), (7, .int a7), (8, .int a8)]) hx hb dX10_turned_85 hl (k := 3) rfl (by rw [ev3]; rfl) (by decide) rfl (fun ls hl => ?_)
        refine lv_goto (tgt := 19) hx hb dX10_turned_88 (by decide) ?_
        exact hK19 a1 a3 a5 v3 _ _ _ hm hw (lv_sub hl [1, 2, 3, 0] rfl)
      · have hm := Eq.trans (if_neg c2).symm hm
        refine lv_iload hx hb dX10_turned_82 (lv_at hl 3 rfl) ?_
        obtain rfl := sj1 hm
        exact r_iret C0 hw dX10_turned_84 ⟨rfl, rfl⟩
    · have hm := Eq.trans (if_neg c1).symm hm
      refine lv_iload hx hb dX10_turned_39 (lv_at hl 4 rfl) ?_
      refine lv_lload_n hx hb dX10_turned_41 rfl (lv_at hl 1 rfl) ?_
      refine lv_iload hx hb dX10_turned_42 (lv_at hl 5 rfl) ?_
      refine lv_lshr hx hb dX10_turned_44 rfl ?_
      refine lv_lconst (v := 1) hx hb dX10_turned_45 (by decide) ?_
      refine lv_land hx hb dX10_turned_46 ?_
      refine lv_lload_n hx hb dX10_turned_47 rfl (lv_at hl 0 rfl) ?_
      refine lv_iload hx hb dX10_turned_48 (lv_at hl 5 rfl) ?_
      refine lv_iload hx hb dX10_turned_50 (lv_at hl 3 rfl) ?_
      refine lv_iadd hx hb dX10_turned_52 ?_
      refine lv_iload hx hb dX10_turned_53 (lv_at hl 2 rfl) ?_
      obtain ⟨c4, hm⟩ := nz_some hm
      refine lv_irem hx hb dX10_turned_55 c4 ?_
      refine lv_lshr hx hb dX10_turned_56 rfl ?_
      refine lv_lconst (v := 1) hx hb dX10_turned_57 (by decide) ?_
      refine lv_land hx hb dX10_turned_58 ?_
      refine W.lcmp hx hb dX10_turned_59 ?_
      refine lv_if_ne (tgt := 67) hx hb dX10_turned_60 (by decide) (fun c5 => ?_) (fun c5 => ?_)
      · have hm := Eq.trans (if_neg c5).symm hm
        refine lv_iconst (v := 0) hx hb dX10_turned_67 (by decide) ?_
        refine lv_iand hx hb dX10_turned_68 ?_
        refine lv_topi (fun v6 ev6 => ?_)
        have hm := nm_at hm ev6
        refine lv_istore (lv' := [(7, .int v6), (1, .long a1), (3, .long a3), (5, .int a5), (6, .int a6), (8, .int a8)]) hx hb dX10_turned_69 hl (by decide) rfl (fun ls hl => ?_)
        obtain ⟨v7, ev7⟩ : ∃ y : Int32, y = a8 + 1 := ⟨_, rfl⟩
        have hm := nm_at hm ev7
        refine lv_iinc (v := v7) (lv' := [(8, .int v7), (7, .int v6), (1, .long a1), (3, .long a3), (5, .int a5), (6, .int a6)]) hx hb dX10_turned_71 hl (k := 5) rfl (by rw [ev7]; rfl) (by decide) rfl (fun ls hl => ?_)
        refine lv_goto (tgt := 32) hx hb dX10_turned_74 (by decide) ?_
        exact ih a1 a3 a5 a6 v6 v7 _ _ _ hm hw (lv_sub hl [2, 3, 4, 5, 1, 0] rfl)
      · have hm := Eq.trans (if_pos c5).symm hm
        refine lv_iconst (v := 1) hx hb dX10_turned_63 (by decide) ?_
        refine lv_goto (tgt := 68) hx hb dX10_turned_64 (by decide) ?_
        refine lv_iand hx hb dX10_turned_68 ?_
        refine lv_topi (fun v8 ev8 => ?_)
        have hm := nm_at hm ev8
        refine lv_istore (lv' := [(7, .int v8), (1, .long a1), (3, .long a3), (5, .int a5), (6, .int a6), (8, .int a8)]) hx hb dX10_turned_69 hl (by decide) rfl (fun ls hl => ?_)
        obtain ⟨v9, ev9⟩ : ∃ y : Int32, y = a8 + 1 := ⟨_, rfl⟩
        have hm := nm_at hm ev9
        refine lv_iinc (v := v9) (lv' := [(8, .int v9), (7, .int v8), (1, .long a1), (3, .long a3), (5, .int a5), (6, .int a6)]) hx hb dX10_turned_71 hl (k := 5) rfl (by rw [ev9]; rfl) (by decide) rfl (fun ls hl => ?_)
        refine lv_goto (tgt := 32) hx hb dX10_turned_74 (by decide) ?_
        exact ih a1 a3 a5 a6 v8 v9 _ _ _ hm hw (lv_sub hl [2, 3, 4, 5, 1, 0] rfl)
set_option maxRecDepth 20000 in
theorem kX10_turned_b19 {p : Program} {l : Launch} {e : Env} {s : State} {m : MethodId} {args : Array Value} {below : List Frame} {meth : Method} {c : Code} {A : Nat → Prop} {E : EV} {ad : Nat → Nat} (F : Nat) {zx : OS} {r : Int32} (C0 : Cx RX10 "turned" cX10_turned (some .int) 9 wsX10_turned p s m args meth c) (hA : Ax E A s) : ∀ (n : Nat) (a1 : Int64) (a3 : Int64) (a5 : Int32) (a6 : Int32) (H : Heap) (locs : List Loc) (ls : Array Slot), mX10_turned_b19 F n zx a1 a3 a5 a6 = some r → Wd E A s H locs (wM E ad zx) → lv_has ls 9 [(1, .long a1), (3, .long a3), (5, .int a5), (6, .int a6)] → W p l e ({ frames := 0, cells := 0, slots := 0, locals := 0 } : Room) s m args below meth c H locs 0 0 (MQ below (QG E (Qd (some (.int r)) (wM E ad zx)) A) args s 0 0 A) (F0 m 19 ls []) := by
  have hx := C0.1
  have hb := C0.2.1
  intro n
  induction n with
  | zero =>
    intro a1 a3 a5 a6 H locs ls hm
    cases hm
  | succ n ih =>
    intro a1 a3 a5 a6 H locs ls hm hw hl
    unfold mX10_turned_b19 at hm
    refine lv_iload hx hb dX10_turned_19 (lv_at hl 3 rfl) ?_
    refine lv_iload hx hb dX10_turned_21 (lv_at hl 2 rfl) ?_
    refine lv_icmp_ge (tgt := 91) hx hb dX10_turned_23 (by decide) (fun c1 => ?_) (fun c1 => ?_)
    · have hm := Eq.trans (if_pos c1).symm hm
      refine lv_iconst (v := (-1)) hx hb dX10_turned_91 (by decide) ?_
      obtain rfl := sj1 hm
      exact r_iret C0 hw dX10_turned_92 ⟨rfl, rfl⟩
    · have hm := Eq.trans (if_neg c1).symm hm
      refine lv_iconst (v := 1) hx hb dX10_turned_26 (by decide) ?_
      refine lv_topi (fun v2 ev2 => ?_)
      have hm := nm_at hm ev2
      refine lv_istore (lv' := [(7, .int v2), (1, .long a1), (3, .long a3), (5, .int a5), (6, .int a6)]) hx hb dX10_turned_27 hl (by decide) rfl (fun ls hl => ?_)
      refine lv_iconst (v := 0) hx hb dX10_turned_29 (by decide) ?_
      refine lv_topi (fun v3 ev3 => ?_)
      have hm := nm_at hm ev3
      refine lv_istore (lv' := [(8, .int v3), (7, .int v2), (1, .long a1), (3, .long a3), (5, .int a5), (6, .int a6)]) hx hb dX10_turned_30 hl (by decide) rfl (fun ls hl => ?_)
      exact kX10_turned_b32 F C0 hA _ ih F a1 a3 a5 a6 v2 v3 _ _ _ hm hw (lv_sub hl [2, 3, 4, 5, 1, 0] rfl)
set_option maxRecDepth 20000 in
theorem kX10_turned_b0 {p : Program} {l : Launch} {e : Env} {s : State} {m : MethodId} {args : Array Value} {below : List Frame} {meth : Method} {c : Code} {A : Nat → Prop} {E : EV} {ad : Nat → Nat} (F : Nat) {zx : OS} {r : Int32} (C0 : Cx RX10 "turned" cX10_turned (some .int) 9 wsX10_turned p s m args meth c) (hA : Ax E A s) : ∀ (a1 : Int64) (a3 : Int64) (a5 : Int32) (H : Heap) (locs : List Loc) (ls : Array Slot), mX10_turned_b0 F zx a1 a3 a5 = some r → Wd E A s H locs (wM E ad zx) → lv_has ls 9 [(1, .long a1), (3, .long a3), (5, .int a5)] → W p l e ({ frames := 0, cells := 0, slots := 0, locals := 0 } : Room) s m args below meth c H locs 0 0 (MQ below (QG E (Qd (some (.int r)) (wM E ad zx)) A) args s 0 0 A) (F0 m 0 ls []) := by
  have hx := C0.1
  have hb := C0.2.1
  intro a1 a3 a5 H locs ls hm hw hl
  unfold mX10_turned_b0 at hm
  refine lv_iload hx hb dX10_turned_0 (lv_at hl 2 rfl) ?_
  refine lv_iconst (v := 1) hx hb dX10_turned_2 (by decide) ?_
  refine lv_icmp_lt (tgt := 13) hx hb dX10_turned_3 (by decide) (fun c1 => ?_) (fun c1 => ?_)
  · have hm := Eq.trans (if_pos c1).symm hm
    refine lv_bipush (v := (-2)) hx hb dX10_turned_13 (by decide) ?_
    obtain rfl := sj1 hm
    exact r_iret C0 hw dX10_turned_15 ⟨rfl, rfl⟩
  · have hm := Eq.trans (if_neg c1).symm hm
    refine lv_iload hx hb dX10_turned_6 (lv_at hl 2 rfl) ?_
    refine lv_bipush (v := 64) hx hb dX10_turned_8 (by decide) ?_
    refine lv_icmp_le (tgt := 16) hx hb dX10_turned_10 (by decide) (fun c2 => ?_) (fun c2 => ?_)
    · have hm := Eq.trans (if_pos c2).symm hm
      refine lv_iconst (v := 0) hx hb dX10_turned_16 (by decide) ?_
      refine lv_topi (fun v3 ev3 => ?_)
      have hm := nm_at hm ev3
      refine lv_istore (lv' := [(6, .int v3), (1, .long a1), (3, .long a3), (5, .int a5)]) hx hb dX10_turned_17 hl (by decide) rfl (fun ls hl => ?_)
      exact kX10_turned_b19 F C0 hA F a1 a3 a5 v3 _ _ _ hm hw (lv_sub hl [1, 2, 3, 0] rfl)
    · have hm := Eq.trans (if_neg c2).symm hm
      refine lv_bipush (v := (-2)) hx hb dX10_turned_13 (by decide) ?_
      obtain rfl := sj1 hm
      exact r_iret C0 hw dX10_turned_15 ⟨rfl, rfl⟩
theorem tX10_turned (l : Launch) (E : EV) (ad : Nat → Nat) (F : Nat) (zx : OS) (a1 : Int64) (a3 : Int64) (a5 : Int32) {r : Int32} (hm : mX10_turned F zx a1 a3 a5 = some r) : CT l yX10_turned wsX10_turned ({ frames := 0, cells := 0, slots := 0, locals := 0 } : Room) E [.ref (ad 0), .long a1, .long a3, .int a5] (wM E ad zx) (Qd (some (.int r)) (wM E ad zx)) 0 0 :=
  CT.of (mL := 9) (lvs := [(0, .ref (ad 0)), (1, .long a1), (3, .long a3), (5, .int a5)]) (by decide +kernel) rfl (Nat.le_of_ble_eq_true rfl) rfl rfl rfl (fun p e s m below meth c A C0 hA hw ls hl => kX10_turned_b0 (ad := ad) F C0 hA a1 a3 a5 _ _ _ hm hw (lv_sub hl [1, 2, 3] rfl))
theorem lkX10_place_117 : Cond.fieldLink RX10 117 (TX10 52).1 (TX10 52).2.1 (TX10 52).2.2.1 ∈ wsX10_place := by decide +kernel
theorem hiX10_place_X10 : ∀ w ∈ u_ws RX10 TX10 53, w ∈ wsX10_place := by decide +kernel
def mX10_place_b33 (F : Nat)  : Nat → OS → Int32 → Int32 → Int32 → Int32 → Option (Int32 × OS)
  | 0, _, _, _, _, _ => none
  | n + 1, zx, a1, a2, a3, a4 => (if 12 ≤ (a4 : Int32) then gd a1 12 (nm (sA zx 52 a1 a2) (fun zx3 => some (1, zx3))) else gd a4 12 ((if (zx.2.2.1 52 (a4 : Int32).toNatClampNeg : Int32) = a2 then gd a4 12 (nm (sA zx 52 a4 a3) (fun zx11 => nm (a4 + 1 : Int32) (fun v12 => mX10_place_b33 F n zx11 a1 a2 a3 v12))) else gd a4 12 (gd a4 12 (nm (sA zx 52 a4 (zx.2.2.1 52 (a4 : Int32).toNatClampNeg)) (fun zx8 => nm (a4 + 1 : Int32) (fun v9 => mX10_place_b33 F n zx8 a1 a2 a3 v9)))))))
def mX10_place_b0 (F : Nat)  (zx : OS) (a1 : Int32) (a2 : Int32) : Option (Int32 × OS) := (if (a1 : Int32) < 0 then some ((-2), zx) else (if 11 < (a1 : Int32) then some ((-2), zx) else (if (a2 : Int32) < 0 then some ((-2), zx) else (if (a2 : Int32) ≤ 11 then gd a1 12 (nm (zx.2.2.1 52 (a1 : Int32).toNatClampNeg : Int32) (fun v6 => nm (0 : Int32) (fun v7 => mX10_place_b33 F F zx a1 a2 v6 v7))) else some ((-2), zx)))))
def mX10_place (F : Nat) (zx : OS) (a1 : Int32) (a2 : Int32) : Option (Int32 × OS) := mX10_place_b0 F zx a1 a2
set_option maxRecDepth 20000 in
theorem kX10_place_b33 {p : Program} {l : Launch} {e : Env} {s : State} {m : MethodId} {args : Array Value} {below : List Frame} {meth : Method} {c : Code} {A : Nat → Prop} {E : EV} {ad : Nat → Nat} (F : Nat)  {r : Int32} {zx' : OS} (C0 : Cx RX10 "place" cX10_place (some .int) 5 wsX10_place p s m args meth c) (hA : Ax E A s) : ∀ (n : Nat) (zx : OS) (a1 : Int32) (a2 : Int32) (a3 : Int32) (a4 : Int32) (H : Heap) (locs : List Loc) (ls : Array Slot), mX10_place_b33 F n zx a1 a2 a3 a4 = some (r, zx') → Wd E A s H locs (wM E ad zx) → lv_has ls 5 [(0, .ref (ad 0)), (1, .int a1), (2, .int a2), (3, .int a3), (4, .int a4)] → W p l e ({ frames := 0, cells := 0, slots := 0, locals := 0 } : Room) s m args below meth c H locs 0 0 (MQ below (QG E (Qd (some (.int r)) (wM E ad zx')) A) args s 0 0 A) (F0 m 33 ls []) := by
  have hx := C0.1
  have hb := C0.2.1
  intro n
  induction n with
  | zero =>
    intro zx a1 a2 a3 a4 H locs ls hm
    cases hm
  | succ n ih =>
    intro zx a1 a2 a3 a4 H locs ls hm hw hl
    unfold mX10_place_b33 at hm
    refine lv_iload hx hb dX10_place_33 (lv_at hl 4 rfl) ?_
    refine lv_bipush (v := 12) hx hb dX10_place_35 (by decide) ?_
    refine lv_icmp_ge (tgt := 75) hx hb dX10_place_37 (by decide) (fun c1 => ?_) (fun c1 => ?_)
    · have hm := Eq.trans (if_pos c1).symm hm
      refine lv_aload_n hx hb dX10_place_75 rfl (lv_at hl 0 rfl) ?_
      refine gM_0_52 C0 hA hw hiX10_place_X10 lkX10_place_117 dX10_place_76 ?_
      refine lv_iload_n hx hb dX10_place_79 rfl (lv_at hl 1 rfl) ?_
      refine lv_iload_n hx hb dX10_place_80 rfl (lv_at hl 2 rfl) ?_
      obtain ⟨c2, hm⟩ := gd_some hm
      refine sM_36 C0 hA hw c2 dX10_place_81 (fun zx3 ezx3 H locs hw => ?_)
      have hm := nm_at hm ezx3
      refine lv_iconst (v := 1) hx hb dX10_place_82 (by decide) ?_
      obtain ⟨rfl, rfl⟩ := sj2 hm
      exact r_iret C0 hw dX10_place_83 ⟨rfl, rfl⟩
    · have hm := Eq.trans (if_neg c1).symm hm
      refine lv_aload_n hx hb dX10_place_40 rfl (lv_at hl 0 rfl) ?_
      refine gM_0_52 C0 hA hw hiX10_place_X10 lkX10_place_117 dX10_place_41 ?_
      refine lv_iload hx hb dX10_place_44 (lv_at hl 4 rfl) ?_
      refine lv_aload_n hx hb dX10_place_46 rfl (lv_at hl 0 rfl) ?_
      refine gM_0_52 C0 hA hw hiX10_place_X10 lkX10_place_117 dX10_place_47 ?_
      refine lv_iload hx hb dX10_place_50 (lv_at hl 4 rfl) ?_
      obtain ⟨c4, hm⟩ := gd_some hm
      refine lM_36 C0 hA hw c4 dX10_place_52 ?_
      refine lv_iload_n hx hb dX10_place_53 rfl (lv_at hl 2 rfl) ?_
      refine lv_icmp_ne (tgt := 61) hx hb dX10_place_54 (by decide) (fun c5 => ?_) (fun c5 => ?_)
      · have hm := Eq.trans (if_neg c5).symm hm
        refine lv_aload_n hx hb dX10_place_61 rfl (lv_at hl 0 rfl) ?_
        refine gM_0_52 C0 hA hw hiX10_place_X10 lkX10_place_117 dX10_place_62 ?_
        refine lv_iload hx hb dX10_place_65 (lv_at hl 4 rfl) ?_
        obtain ⟨c6, hm⟩ := gd_some hm
        refine lM_36 C0 hA hw c6 dX10_place_67 ?_
        obtain ⟨c7, hm⟩ := gd_some hm
        refine sM_36 C0 hA hw c7 dX10_place_68 (fun zx8 ezx8 H locs hw => ?_)
        have hm := nm_at hm ezx8
        obtain ⟨v9, ev9⟩ : ∃ y : Int32, y = a4 + 1 := ⟨_, rfl⟩
        have hm := nm_at hm ev9
        refine lv_iinc (v := v9) (lv' := [(4, .int v9), (0, .ref (ad 0)), (1, .int a1), (2, .int a2), (3, .int a3)]) hx hb dX10_place_69 hl (k := 4) rfl (by rw [ev9]; rfl) (by decide) rfl (fun ls hl => ?_)
        refine lv_goto (tgt := 33) hx hb dX10_place_72 (by decide) ?_
        exact ih zx8 a1 a2 a3 v9 _ _ _ hm hw (lv_sub hl [1, 2, 3, 4, 0] rfl)
      · have hm := Eq.trans (if_pos c5).symm hm
        refine lv_iload_n hx hb dX10_place_57 rfl (lv_at hl 3 rfl) ?_
        refine lv_goto (tgt := 68) hx hb dX10_place_58 (by decide) ?_
        obtain ⟨c10, hm⟩ := gd_some hm
        refine sM_36 C0 hA hw c10 dX10_place_68 (fun zx11 ezx11 H locs hw => ?_)
        have hm := nm_at hm ezx11
        obtain ⟨v12, ev12⟩ : ∃ y : Int32, y = a4 + 1 := ⟨_, rfl⟩
        have hm := nm_at hm ev12
        refine lv_iinc (v := v12) (lv' := [(4, .int v12), (0, .ref (ad 0)), (1, .int a1), (2, .int a2), (3, .int a3)]) hx hb dX10_place_69 hl (k := 4) rfl (by rw [ev12]; rfl) (by decide) rfl (fun ls hl => ?_)
        refine lv_goto (tgt := 33) hx hb dX10_place_72 (by decide) ?_
        exact ih zx11 a1 a2 a3 v12 _ _ _ hm hw (lv_sub hl [1, 2, 3, 4, 0] rfl)
set_option maxRecDepth 20000 in
theorem kX10_place_b0 {p : Program} {l : Launch} {e : Env} {s : State} {m : MethodId} {args : Array Value} {below : List Frame} {meth : Method} {c : Code} {A : Nat → Prop} {E : EV} {ad : Nat → Nat} (F : Nat)  {r : Int32} {zx' : OS} (C0 : Cx RX10 "place" cX10_place (some .int) 5 wsX10_place p s m args meth c) (hA : Ax E A s) : ∀ (zx : OS) (a1 : Int32) (a2 : Int32) (H : Heap) (locs : List Loc) (ls : Array Slot), mX10_place_b0 F zx a1 a2 = some (r, zx') → Wd E A s H locs (wM E ad zx) → lv_has ls 5 [(0, .ref (ad 0)), (1, .int a1), (2, .int a2)] → W p l e ({ frames := 0, cells := 0, slots := 0, locals := 0 } : Room) s m args below meth c H locs 0 0 (MQ below (QG E (Qd (some (.int r)) (wM E ad zx')) A) args s 0 0 A) (F0 m 0 ls []) := by
  have hx := C0.1
  have hb := C0.2.1
  intro zx a1 a2 H locs ls hm hw hl
  unfold mX10_place_b0 at hm
  refine lv_iload_n hx hb dX10_place_0 rfl (lv_at hl 1 rfl) ?_
  refine lv_if_lt (tgt := 20) hx hb dX10_place_1 (by decide) (fun c1 => ?_) (fun c1 => ?_)
  · have hm := Eq.trans (if_pos c1).symm hm
    refine lv_bipush (v := (-2)) hx hb dX10_place_20 (by decide) ?_
    obtain ⟨rfl, rfl⟩ := sj2 hm
    exact r_iret C0 hw dX10_place_22 ⟨rfl, rfl⟩
  · have hm := Eq.trans (if_neg c1).symm hm
    refine lv_iload_n hx hb dX10_place_4 rfl (lv_at hl 1 rfl) ?_
    refine lv_bipush (v := 11) hx hb dX10_place_5 (by decide) ?_
    refine lv_icmp_gt (tgt := 20) hx hb dX10_place_7 (by decide) (fun c2 => ?_) (fun c2 => ?_)
    · have hm := Eq.trans (if_pos c2).symm hm
      refine lv_bipush (v := (-2)) hx hb dX10_place_20 (by decide) ?_
      obtain ⟨rfl, rfl⟩ := sj2 hm
      exact r_iret C0 hw dX10_place_22 ⟨rfl, rfl⟩
    · have hm := Eq.trans (if_neg c2).symm hm
      refine lv_iload_n hx hb dX10_place_10 rfl (lv_at hl 2 rfl) ?_
      refine lv_if_lt (tgt := 20) hx hb dX10_place_11 (by decide) (fun c3 => ?_) (fun c3 => ?_)
      · have hm := Eq.trans (if_pos c3).symm hm
        refine lv_bipush (v := (-2)) hx hb dX10_place_20 (by decide) ?_
        obtain ⟨rfl, rfl⟩ := sj2 hm
        exact r_iret C0 hw dX10_place_22 ⟨rfl, rfl⟩
      · have hm := Eq.trans (if_neg c3).symm hm
        refine lv_iload_n hx hb dX10_place_14 rfl (lv_at hl 2 rfl) ?_
        refine lv_bipush (v := 11) hx hb dX10_place_15 (by decide) ?_
        refine lv_icmp_le (tgt := 23) hx hb dX10_place_17 (by decide) (fun c4 => ?_) (fun c4 => ?_)
        · have hm := Eq.trans (if_pos c4).symm hm
          refine lv_aload_n hx hb dX10_place_23 rfl (lv_at hl 0 rfl) ?_
          refine gM_0_52 C0 hA hw hiX10_place_X10 lkX10_place_117 dX10_place_24 ?_
          refine lv_iload_n hx hb dX10_place_27 rfl (lv_at hl 1 rfl) ?_
          obtain ⟨c5, hm⟩ := gd_some hm
          refine lM_36 C0 hA hw c5 dX10_place_28 ?_
          refine lv_topi (fun v6 ev6 => ?_)
          have hm := nm_at hm ev6
          refine lv_istore_n (lv' := [(3, .int v6), (0, .ref (ad 0)), (1, .int a1), (2, .int a2)]) hx hb dX10_place_29 rfl hl (by decide) rfl (fun ls hl => ?_)
          refine lv_iconst (v := 0) hx hb dX10_place_30 (by decide) ?_
          refine lv_topi (fun v7 ev7 => ?_)
          have hm := nm_at hm ev7
          refine lv_istore (lv' := [(4, .int v7), (3, .int v6), (0, .ref (ad 0)), (1, .int a1), (2, .int a2)]) hx hb dX10_place_31 hl (by decide) rfl (fun ls hl => ?_)
          exact kX10_place_b33 F C0 hA F zx a1 a2 v6 v7 _ _ _ hm hw (lv_sub hl [2, 3, 4, 1, 0] rfl)
        · have hm := Eq.trans (if_neg c4).symm hm
          refine lv_bipush (v := (-2)) hx hb dX10_place_20 (by decide) ?_
          obtain ⟨rfl, rfl⟩ := sj2 hm
          exact r_iret C0 hw dX10_place_22 ⟨rfl, rfl⟩
theorem tX10_place (l : Launch) (E : EV) (ad : Nat → Nat) (F : Nat) (zx : OS) (a1 : Int32) (a2 : Int32) {r : Int32} {zx' : OS} (hm : mX10_place F zx a1 a2 = some (r, zx')) : CT l yX10_place wsX10_place ({ frames := 0, cells := 0, slots := 0, locals := 0 } : Room) E [.ref (ad 0), .int a1, .int a2] (wM E ad zx) (Qd (some (.int r)) (wM E ad zx')) 0 0 :=
  CT.of (mL := 5) (lvs := [(0, .ref (ad 0)), (1, .int a1), (2, .int a2)]) (by decide +kernel) rfl (Nat.le_of_ble_eq_true rfl) rfl rfl rfl (fun p e s m below meth c A C0 hA hw ls hl => kX10_place_b0 (ad := ad) F C0 hA zx a1 a2 _ _ _ hm hw (lv_sub hl [0, 1, 2] rfl))
theorem lkX10_formOf_117 : Cond.fieldLink RX10 117 (TX10 52).1 (TX10 52).2.1 (TX10 52).2.2.1 ∈ wsX10_formOf := by decide +kernel
theorem hiX10_formOf_X10 : ∀ w ∈ u_ws RX10 TX10 53, w ∈ wsX10_formOf := by decide +kernel
def mX10_formOf_b17  (zx : OS) (a1 : Int32) (a2 : Int32) (t1 : Int32) : Option (Int32) := gd t1 12 (nm (zx.2.2.1 52 (t1 : Int32).toNatClampNeg : Int32) (fun v2 => (if (a1 - a1 / 2 * 2 : Int32) = 1 then gd 0 12 (nm ((2 * (zx.2.2.1 52 (0 : Int32).toNatClampNeg)) - v2 : Int32) (fun v5 => some (((v5 + a2) + 24) - ((v5 + a2) + 24) / 12 * 12))) else some (((v2 + a2) + 24) - ((v2 + a2) + 24) / 12 * 12))))
def mX10_formOf_b0  (zx : OS) (a1 : Int32) (a2 : Int32) (a3 : Int32) : Option (Int32) := (if (a1 : Int32) ≤ 1 then mX10_formOf_b17 zx a1 a2 a3 else mX10_formOf_b17 zx a1 a2 (11 - a3))
def mX10_formOf (zx : OS) (a1 : Int32) (a2 : Int32) (a3 : Int32) : Option (Int32) := mX10_formOf_b0 zx a1 a2 a3
set_option maxRecDepth 20000 in
theorem kX10_formOf_b17 {p : Program} {l : Launch} {e : Env} {s : State} {m : MethodId} {args : Array Value} {below : List Frame} {meth : Method} {c : Code} {A : Nat → Prop} {E : EV} {ad : Nat → Nat} {zx : OS} {r : Int32} (C0 : Cx RX10 "formOf" cX10_formOf (some .int) 6 wsX10_formOf p s m args meth c) (hA : Ax E A s) : ∀ (a1 : Int32) (a2 : Int32) (t1 : Int32) (H : Heap) (locs : List Loc) (ls : Array Slot), mX10_formOf_b17 zx a1 a2 t1 = some r → Wd E A s H locs (wM E ad zx) → lv_has ls 6 [(0, .ref (ad 0)), (1, .int a1), (2, .int a2)] → W p l e ({ frames := 0, cells := 0, slots := 0, locals := 0 } : Room) s m args below meth c H locs 0 0 (MQ below (QG E (Qd (some (.int r)) (wM E ad zx)) A) args s 0 0 A) (F0 m 17 ls [.int t1, .ref (ad 36)]) := by
  have hx := C0.1
  have hb := C0.2.1
  intro a1 a2 t1 H locs ls hm hw hl
  unfold mX10_formOf_b17 at hm
  obtain ⟨c1, hm⟩ := gd_some hm
  refine lM_36 C0 hA hw c1 dX10_formOf_17 ?_
  refine lv_topi (fun v2 ev2 => ?_)
  have hm := nm_at hm ev2
  refine lv_istore (lv' := [(4, .int v2), (0, .ref (ad 0)), (1, .int a1), (2, .int a2)]) hx hb dX10_formOf_18 hl (by decide) rfl (fun ls hl => ?_)
  refine lv_iload_n hx hb dX10_formOf_20 rfl (lv_at hl 2 rfl) ?_
  refine lv_iconst (v := 2) hx hb dX10_formOf_21 (by decide) ?_
  refine lv_irem hx hb dX10_formOf_22 (by decide) ?_
  refine lv_iconst (v := 1) hx hb dX10_formOf_23 (by decide) ?_
  refine lv_icmp_ne (tgt := 41) hx hb dX10_formOf_24 (by decide) (fun c3 => ?_) (fun c3 => ?_)
  · have hm := Eq.trans (if_neg c3).symm hm
    refine lv_iload hx hb dX10_formOf_41 (lv_at hl 0 rfl) ?_
    refine lv_istore (lv' := [(5, .int v2), (4, .int v2), (0, .ref (ad 0)), (1, .int a1), (2, .int a2)]) hx hb dX10_formOf_43 hl (by decide) rfl (fun ls hl => ?_)
    refine lv_iload hx hb dX10_formOf_45 (lv_at hl 0 rfl) ?_
    refine lv_iload_n hx hb dX10_formOf_47 rfl (lv_at hl 4 rfl) ?_
    refine lv_iadd hx hb dX10_formOf_48 ?_
    refine lv_bipush (v := 24) hx hb dX10_formOf_49 (by decide) ?_
    refine lv_iadd hx hb dX10_formOf_51 ?_
    refine lv_bipush (v := 12) hx hb dX10_formOf_52 (by decide) ?_
    refine lv_irem hx hb dX10_formOf_54 (by decide) ?_
    obtain rfl := sj1 hm
    exact r_iret C0 hw dX10_formOf_55 ⟨rfl, rfl⟩
  · have hm := Eq.trans (if_pos c3).symm hm
    refine lv_iconst (v := 2) hx hb dX10_formOf_27 (by decide) ?_
    refine lv_aload_n hx hb dX10_formOf_28 rfl (lv_at hl 1 rfl) ?_
    refine gM_0_52 C0 hA hw hiX10_formOf_X10 lkX10_formOf_117 dX10_formOf_29 ?_
    refine lv_iconst (v := 0) hx hb dX10_formOf_32 (by decide) ?_
    obtain ⟨c4, hm⟩ := gd_some hm
    refine lM_36 C0 hA hw c4 dX10_formOf_33 ?_
    refine lv_imul hx hb dX10_formOf_34 ?_
    refine lv_iload hx hb dX10_formOf_35 (lv_at hl 0 rfl) ?_
    refine lv_isub hx hb dX10_formOf_37 ?_
    refine lv_goto (tgt := 43) hx hb dX10_formOf_38 (by decide) ?_
    refine lv_topi (fun v5 ev5 => ?_)
    have hm := nm_at hm ev5
    refine lv_istore (lv' := [(5, .int v5), (4, .int v2), (0, .ref (ad 0)), (1, .int a1), (2, .int a2)]) hx hb dX10_formOf_43 hl (by decide) rfl (fun ls hl => ?_)
    refine lv_iload hx hb dX10_formOf_45 (lv_at hl 0 rfl) ?_
    refine lv_iload_n hx hb dX10_formOf_47 rfl (lv_at hl 4 rfl) ?_
    refine lv_iadd hx hb dX10_formOf_48 ?_
    refine lv_bipush (v := 24) hx hb dX10_formOf_49 (by decide) ?_
    refine lv_iadd hx hb dX10_formOf_51 ?_
    refine lv_bipush (v := 12) hx hb dX10_formOf_52 (by decide) ?_
    refine lv_irem hx hb dX10_formOf_54 (by decide) ?_
    obtain rfl := sj1 hm
    exact r_iret C0 hw dX10_formOf_55 ⟨rfl, rfl⟩
set_option maxRecDepth 20000 in
theorem kX10_formOf_b0 {p : Program} {l : Launch} {e : Env} {s : State} {m : MethodId} {args : Array Value} {below : List Frame} {meth : Method} {c : Code} {A : Nat → Prop} {E : EV} {ad : Nat → Nat} {zx : OS} {r : Int32} (C0 : Cx RX10 "formOf" cX10_formOf (some .int) 6 wsX10_formOf p s m args meth c) (hA : Ax E A s) : ∀ (a1 : Int32) (a2 : Int32) (a3 : Int32) (H : Heap) (locs : List Loc) (ls : Array Slot), mX10_formOf_b0 zx a1 a2 a3 = some r → Wd E A s H locs (wM E ad zx) → lv_has ls 6 [(0, .ref (ad 0)), (1, .int a1), (2, .int a2), (3, .int a3)] → W p l e ({ frames := 0, cells := 0, slots := 0, locals := 0 } : Room) s m args below meth c H locs 0 0 (MQ below (QG E (Qd (some (.int r)) (wM E ad zx)) A) args s 0 0 A) (F0 m 0 ls []) := by
  have hx := C0.1
  have hb := C0.2.1
  intro a1 a2 a3 H locs ls hm hw hl
  unfold mX10_formOf_b0 at hm
  refine lv_aload_n hx hb dX10_formOf_0 rfl (lv_at hl 0 rfl) ?_
  refine gM_0_52 C0 hA hw hiX10_formOf_X10 lkX10_formOf_117 dX10_formOf_1 ?_
  refine lv_iload_n hx hb dX10_formOf_4 rfl (lv_at hl 1 rfl) ?_
  refine lv_iconst (v := 1) hx hb dX10_formOf_5 (by decide) ?_
  refine lv_icmp_le (tgt := 16) hx hb dX10_formOf_6 (by decide) (fun c1 => ?_) (fun c1 => ?_)
  · have hm := Eq.trans (if_pos c1).symm hm
    refine lv_iload_n hx hb dX10_formOf_16 rfl (lv_at hl 3 rfl) ?_
    exact kX10_formOf_b17 C0 hA a1 a2 a3 _ _ _ hm hw (lv_sub hl [0, 1, 2] rfl)
  · have hm := Eq.trans (if_neg c1).symm hm
    refine lv_bipush (v := 11) hx hb dX10_formOf_9 (by decide) ?_
    refine lv_iload_n hx hb dX10_formOf_11 rfl (lv_at hl 3 rfl) ?_
    refine lv_isub hx hb dX10_formOf_12 ?_
    refine lv_goto (tgt := 17) hx hb dX10_formOf_13 (by decide) ?_
    exact kX10_formOf_b17 C0 hA a1 a2 (11 - a3) _ _ _ hm hw (lv_sub hl [0, 1, 2] rfl)
theorem tX10_formOf (l : Launch) (E : EV) (ad : Nat → Nat) (zx : OS) (a1 : Int32) (a2 : Int32) (a3 : Int32) {r : Int32} (hm : mX10_formOf zx a1 a2 a3 = some r) : CT l yX10_formOf wsX10_formOf ({ frames := 0, cells := 0, slots := 0, locals := 0 } : Room) E [.ref (ad 0), .int a1, .int a2, .int a3] (wM E ad zx) (Qd (some (.int r)) (wM E ad zx)) 0 0 :=
  CT.of (mL := 6) (lvs := [(0, .ref (ad 0)), (1, .int a1), (2, .int a2), (3, .int a3)]) (by decide +kernel) rfl (Nat.le_of_ble_eq_true rfl) rfl rfl rfl (fun p e s m below meth c A C0 hA hw ls hl => kX10_formOf_b0 (ad := ad) C0 hA a1 a2 a3 _ _ _ hm hw (lv_sub hl [0, 1, 2, 3] rfl))
def mX10_form_b0  (zx : OS) (a1 : Int32) (a2 : Int32) (a3 : Int32) : Option (Int32) := (if (a1 : Int32) < 0 then some (-2) else (if 3 < (a1 : Int32) then some (-2) else (if (a2 : Int32) < 0 then some (-2) else (if 11 < (a2 : Int32) then some (-2) else (if (a3 : Int32) < 0 then some (-2) else (if (a3 : Int32) ≤ 11 then b1 (mX10_formOf zx a1 a2 a3) (fun r7 => some r7) else some (-2)))))))
def mX10_form (zx : OS) (a1 : Int32) (a2 : Int32) (a3 : Int32) : Option (Int32) := mX10_form_b0 zx a1 a2 a3
set_option maxRecDepth 20000 in
theorem kX10_form_b0 {p : Program} {l : Launch} {e : Env} {s : State} {m : MethodId} {args : Array Value} {below : List Frame} {meth : Method} {c : Code} {A : Nat → Prop} {E : EV} {ad : Nat → Nat} {zx : OS} {r : Int32} (C0 : Cx RX10 "form" cX10_form (some .int) 4 wsX10_form p s m args meth c) (hA : Ax E A s) : ∀ (a1 : Int32) (a2 : Int32) (a3 : Int32) (H : Heap) (locs : List Loc) (ls : Array Slot), mX10_form_b0 zx a1 a2 a3 = some r → Wd E A s H locs (wM E ad zx) → lv_has ls 4 [(0, .ref (ad 0)), (1, .int a1), (2, .int a2), (3, .int a3)] → W p l e ({ frames := 1, cells := 0, slots := 0, locals := 25 } : Room) s m args below meth c H locs 0 0 (MQ below (QG E (Qd (some (.int r)) (wM E ad zx)) A) args s 0 0 A) (F0 m 0 ls []) := by
  have hx := C0.1
  have hb := C0.2.1
  intro a1 a2 a3 H locs ls hm hw hl
  unfold mX10_form_b0 at hm
  refine lv_iload_n hx hb dX10_form_0 rfl (lv_at hl 1 rfl) ?_
  refine lv_if_lt (tgt := 29) hx hb dX10_form_1 (by decide) (fun c1 => ?_) (fun c1 => ?_)
  · have hm := Eq.trans (if_pos c1).symm hm
    refine lv_bipush (v := (-2)) hx hb dX10_form_29 (by decide) ?_
    obtain rfl := sj1 hm
    exact r_iret C0 hw dX10_form_31 ⟨rfl, rfl⟩
  · have hm := Eq.trans (if_neg c1).symm hm
    refine lv_iload_n hx hb dX10_form_4 rfl (lv_at hl 1 rfl) ?_
    refine lv_iconst (v := 3) hx hb dX10_form_5 (by decide) ?_
    refine lv_icmp_gt (tgt := 29) hx hb dX10_form_6 (by decide) (fun c2 => ?_) (fun c2 => ?_)
    · have hm := Eq.trans (if_pos c2).symm hm
      refine lv_bipush (v := (-2)) hx hb dX10_form_29 (by decide) ?_
      obtain rfl := sj1 hm
      exact r_iret C0 hw dX10_form_31 ⟨rfl, rfl⟩
    · have hm := Eq.trans (if_neg c2).symm hm
      refine lv_iload_n hx hb dX10_form_9 rfl (lv_at hl 2 rfl) ?_
      refine lv_if_lt (tgt := 29) hx hb dX10_form_10 (by decide) (fun c3 => ?_) (fun c3 => ?_)
      · have hm := Eq.trans (if_pos c3).symm hm
        refine lv_bipush (v := (-2)) hx hb dX10_form_29 (by decide) ?_
        obtain rfl := sj1 hm
        exact r_iret C0 hw dX10_form_31 ⟨rfl, rfl⟩
      · have hm := Eq.trans (if_neg c3).symm hm
        refine lv_iload_n hx hb dX10_form_13 rfl (lv_at hl 2 rfl) ?_
        refine lv_bipush (v := 11) hx hb dX10_form_14 (by decide) ?_
        refine lv_icmp_gt (tgt := 29) hx hb dX10_form_16 (by decide) (fun c4 => ?_) (fun c4 => ?_)
        · have hm := Eq.trans (if_pos c4).symm hm
          refine lv_bipush (v := (-2)) hx hb dX10_form_29 (by decide) ?_
          obtain rfl := sj1 hm
          exact r_iret C0 hw dX10_form_31 ⟨rfl, rfl⟩
        · have hm := Eq.trans (if_neg c4).symm hm
          refine lv_iload_n hx hb dX10_form_19 rfl (lv_at hl 3 rfl) ?_
          refine lv_if_lt (tgt := 29) hx hb dX10_form_20 (by decide) (fun c5 => ?_) (fun c5 => ?_)
          · have hm := Eq.trans (if_pos c5).symm hm
            refine lv_bipush (v := (-2)) hx hb dX10_form_29 (by decide) ?_
            obtain rfl := sj1 hm
            exact r_iret C0 hw dX10_form_31 ⟨rfl, rfl⟩
          · have hm := Eq.trans (if_neg c5).symm hm
            refine lv_iload_n hx hb dX10_form_23 rfl (lv_at hl 3 rfl) ?_
            refine lv_bipush (v := 11) hx hb dX10_form_24 (by decide) ?_
            refine lv_icmp_le (tgt := 32) hx hb dX10_form_26 (by decide) (fun c6 => ?_) (fun c6 => ?_)
            · have hm := Eq.trans (if_pos c6).symm hm
              refine lv_aload_n hx hb dX10_form_32 rfl (lv_at hl 0 rfl) ?_
              refine lv_iload_n hx hb dX10_form_33 rfl (lv_at hl 1 rfl) ?_
              refine lv_iload_n hx hb dX10_form_34 rfl (lv_at hl 2 rfl) ?_
              refine lv_iload_n hx hb dX10_form_35 rfl (lv_at hl 3 rfl) ?_
              obtain ⟨r7, h8, hm⟩ := b1_some hm
              refine r_backS (va_runV (As := [.int a1, .int a2, .int a3]) (rest := []) ⟨hx, hb, C0.2.2.2.1, C0.2.2.2.2.1, C0.2.2.2.2.2.1⟩ (tX10_formOf l E ad zx a1 a2 a3 h8 H.size) (cwV 3 C0.2.2.2.2.2.1 gX10_form_X10_formOf rfl rfl rfl (by decide +kernel) ⟨Nat.le_of_ble_eq_true rfl, Nat.le_of_ble_eq_true rfl⟩) ⟨PG_blind, va_recv hA.2.2.1.1 hw.1 (ci := 10) (q0 := 0) rfl rfl, pg_self hA hw⟩ rfl rfl hl.1 rfl (lv_room (Nat.le_of_ble_eq_true rfl)) dX10_form_36 ⟨Nat.zero_le _, Nat.zero_le _⟩) hA hw (fun H locs hw => ?_)
              obtain rfl := sj1 hm
              exact r_iret C0 hw dX10_form_39 ⟨rfl, rfl⟩
            · have hm := Eq.trans (if_neg c6).symm hm
              refine lv_bipush (v := (-2)) hx hb dX10_form_29 (by decide) ?_
              obtain rfl := sj1 hm
              exact r_iret C0 hw dX10_form_31 ⟨rfl, rfl⟩
theorem tX10_form (l : Launch) (E : EV) (ad : Nat → Nat) (zx : OS) (a1 : Int32) (a2 : Int32) (a3 : Int32) {r : Int32} (hm : mX10_form zx a1 a2 a3 = some r) : CT l yX10_form wsX10_form ({ frames := 1, cells := 0, slots := 0, locals := 25 } : Room) E [.ref (ad 0), .int a1, .int a2, .int a3] (wM E ad zx) (Qd (some (.int r)) (wM E ad zx)) 0 0 :=
  CT.of (mL := 4) (lvs := [(0, .ref (ad 0)), (1, .int a1), (2, .int a2), (3, .int a3)]) (by decide +kernel) rfl (Nat.le_of_ble_eq_true rfl) rfl rfl rfl (fun p e s m below meth c A C0 hA hw ls hl => kX10_form_b0 (ad := ad) C0 hA a1 a2 a3 _ _ _ hm hw (lv_sub hl [0, 1, 2, 3] rfl))
def mX10_doubled_b27 (F : Nat) (K15 : OS → Int32 → Int32 → Int32 → Int32 → Option (Int32)) : Nat → OS → Int32 → Int32 → Int32 → Int32 → Int32 → Int32 → Option (Int32)
  | 0, _, _, _, _, _, _, _ => none
  | n + 1, zx, a1, a2, a3, a4, a5, a6 => (if 12 ≤ (a6 : Int32) then nm (a3 ||| a5 : Int32) (fun v2 => nm (a4 + 1 : Int32) (fun v3 => K15 zx a1 a2 v2 v3)) else b1 (mX10_formOf zx (a2 / 12) (a2 - a2 / 12 * 12) a6) (fun r4 => b1 (mX10_formOf zx (a4 / 12) (a4 - a4 / 12 * 12) a6) (fun r6 => (if (r4 : Int32) = r6 then nm (a5 &&& 1 : Int32) (fun v11 => nm (a6 + 1 : Int32) (fun v12 => mX10_doubled_b27 F K15 n zx a1 a2 a3 a4 v11 v12)) else nm (a5 &&& 0 : Int32) (fun v9 => nm (a6 + 1 : Int32) (fun v10 => mX10_doubled_b27 F K15 n zx a1 a2 a3 a4 v9 v10))))))
def mX10_doubled_b15 (F : Nat) (K4 : OS → Int32 → Int32 → Option (Int32)) : Nat → OS → Int32 → Int32 → Int32 → Int32 → Option (Int32)
  | 0, _, _, _, _, _ => none
  | n + 1, zx, a1, a2, a3, a4 => (if a2 ≤ (a4 : Int32) then (if (a3 : Int32) = 0 then nm (a1 + 0 : Int32) (fun v3 => nm (a2 + 1 : Int32) (fun v4 => K4 zx v3 v4)) else nm (a1 + 1 : Int32) (fun v5 => nm (a2 + 1 : Int32) (fun v6 => K4 zx v5 v6))) else nm (1 : Int32) (fun v7 => nm (0 : Int32) (fun v8 => mX10_doubled_b27 F (mX10_doubled_b15 F K4 n) F zx a1 a2 a3 a4 v7 v8)))
def mX10_doubled_b4 (F : Nat)  : Nat → OS → Int32 → Int32 → Option (Int32)
  | 0, _, _, _ => none
  | n + 1, zx, a1, a2 => (if 48 ≤ (a2 : Int32) then some a1 else nm (0 : Int32) (fun v2 => nm (0 : Int32) (fun v3 => mX10_doubled_b15 F (mX10_doubled_b4 F n) F zx a1 a2 v2 v3)))
def mX10_doubled_b0 (F : Nat)  (zx : OS) : Option (Int32) := nm (0 : Int32) (fun v1 => nm (0 : Int32) (fun v2 => mX10_doubled_b4 F F zx v1 v2))
def mX10_doubled (F : Nat) (zx : OS)  : Option (Int32) := mX10_doubled_b0 F zx
set_option maxRecDepth 20000 in
theorem kX10_doubled_b27 {p : Program} {l : Launch} {e : Env} {s : State} {m : MethodId} {args : Array Value} {below : List Frame} {meth : Method} {c : Code} {A : Nat → Prop} {E : EV} {ad : Nat → Nat} (F : Nat) {zx : OS} {r : Int32} (C0 : Cx RX10 "doubled" cX10_doubled (some .int) 7 wsX10_doubled p s m args meth c) (hA : Ax E A s) (K15 : OS → Int32 → Int32 → Int32 → Int32 → Option (Int32)) (hK15 : ∀ (a1 : Int32) (a2 : Int32) (a3 : Int32) (a4 : Int32) (H : Heap) (locs : List Loc) (ls : Array Slot), K15 zx a1 a2 a3 a4 = some r → Wd E A s H locs (wM E ad zx) → lv_has ls 7 [(0, .ref (ad 0)), (1, .int a1), (2, .int a2), (3, .int a3), (4, .int a4)] → W p l e ({ frames := 1, cells := 0, slots := 0, locals := 25 } : Room) s m args below meth c H locs 0 0 (MQ below (QG E (Qd (some (.int r)) (wM E ad zx)) A) args s 0 0 A) (F0 m 15 ls [])) : ∀ (n : Nat) (a1 : Int32) (a2 : Int32) (a3 : Int32) (a4 : Int32) (a5 : Int32) (a6 : Int32) (H : Heap) (locs : List Loc) (ls : Array Slot), mX10_doubled_b27 F K15 n zx a1 a2 a3 a4 a5 a6 = some r → Wd E A s H locs (wM E ad zx) → lv_has ls 7 [(0, .ref (ad 0)), (1, .int a1), (2, .int a2), (3, .int a3), (4, .int a4), (5, .int a5), (6, .int a6)] → W p l e ({ frames := 1, cells := 0, slots := 0, locals := 25 } : Room) s m args below meth c H locs 0 0 (MQ below (QG E (Qd (some (.int r)) (wM E ad zx)) A) args s 0 0 A) (F0 m 27 ls []) := by
  have hx := C0.1
  have hb := C0.2.1
  intro n
  induction n with
  | zero =>
    intro a1 a2 a3 a4 a5 a6 H locs ls hm
    cases hm
  | succ n ih =>
    intro a1 a2 a3 a4 a5 a6 H locs ls hm hw hl
    unfold mX10_doubled_b27 at hm
    refine lv_iload hx hb dX10_doubled_27 (lv_at hl 6 rfl) ?_
    refine lv_bipush (v := 12) hx hb dX10_doubled_29 (by decide) ?_
    refine lv_icmp_ge (tgt := 83) hx hb dX10_doubled_31 (by decide) (fun c1 => ?_) (fun c1 => ?_)
    · have hm := Eq.trans (if_pos c1).symm hm
      refine lv_iload_n hx hb dX10_doubled_83 rfl (lv_at hl 3 rfl) ?_
      refine lv_iload hx hb dX10_doubled_84 (lv_at hl 5 rfl) ?_
      refine lv_ior hx hb dX10_doubled_86 ?_
      refine lv_topi (fun v2 ev2 => ?_)
      have hm := nm_at hm ev2
      refine lv_istore_n (lv' := [(3, .int v2), (0, .ref (ad 0)), (1, .int a1), (2, .int a2), (4, .int a4), (5, .int a5), (6, .int a6)]) hx hb dX10_doubled_87 rfl hl (by decide) rfl (fun ls hl => ?_)
      obtain ⟨v3, ev3⟩ : ∃ y : Int32, y = a4 + 1 := ⟨_, rfl⟩
      have hm := nm_at hm ev3
      refine lv_iinc (v := v3) (lv' := [(4, .int v3), (3, .int v2), (0, .ref (ad 0)), (1, .int a1), (2, .int a2), (5, .int a5), (6, .int a6)]) hx hb dX10_doubled_88 hl (k := 4) rfl (by rw [ev3]; rfl) (by decide) rfl (fun ls hl => ?_)
      refine lv_goto (tgt := 15) hx hb dX10_doubled_91 (by decide) ?_
      exact hK15 a1 a2 v2 v3 _ _ _ hm hw (lv_sub hl [2, 3, 4, 1, 0] rfl)
    · have hm := Eq.trans (if_neg c1).symm hm
      refine lv_iload hx hb dX10_doubled_34 (lv_at hl 5 rfl) ?_
      refine lv_aload_n hx hb dX10_doubled_36 rfl (lv_at hl 0 rfl) ?_
      refine lv_iload_n hx hb dX10_doubled_37 rfl (lv_at hl 2 rfl) ?_
      refine lv_bipush (v := 12) hx hb dX10_doubled_38 (by decide) ?_
      refine lv_idiv hx hb dX10_doubled_40 (by decide) ?_
      refine lv_iload_n hx hb dX10_doubled_41 rfl (lv_at hl 2 rfl) ?_
      refine lv_bipush (v := 12) hx hb dX10_doubled_42 (by decide) ?_
      refine lv_irem hx hb dX10_doubled_44 (by decide) ?_
      refine lv_iload hx hb dX10_doubled_45 (lv_at hl 6 rfl) ?_
      obtain ⟨r4, h5, hm⟩ := b1_some hm
      refine r_backS (va_runV (As := [.int (a2 / 12), .int (a2 - a2 / 12 * 12), .int a6]) (rest := [.int a5]) ⟨hx, hb, C0.2.2.2.1, C0.2.2.2.2.1, C0.2.2.2.2.2.1⟩ (tX10_formOf l E ad zx (a2 / 12) (a2 - a2 / 12 * 12) a6 h5 H.size) (cwV 3 C0.2.2.2.2.2.1 gX10_doubled_X10_formOf rfl rfl rfl (by decide +kernel) ⟨Nat.le_of_ble_eq_true rfl, Nat.le_of_ble_eq_true rfl⟩) ⟨PG_blind, va_recv hA.2.2.1.1 hw.1 (ci := 10) (q0 := 0) rfl rfl, pg_self hA hw⟩ rfl rfl hl.1 rfl (lv_room (Nat.le_of_ble_eq_true rfl)) dX10_doubled_47 ⟨Nat.zero_le _, Nat.zero_le _⟩) hA hw (fun H locs hw => ?_)
      refine lv_aload_n hx hb dX10_doubled_50 rfl (lv_at hl 0 rfl) ?_
      refine lv_iload hx hb dX10_doubled_51 (lv_at hl 4 rfl) ?_
      refine lv_bipush (v := 12) hx hb dX10_doubled_53 (by decide) ?_
      refine lv_idiv hx hb dX10_doubled_55 (by decide) ?_
      refine lv_iload hx hb dX10_doubled_56 (lv_at hl 4 rfl) ?_
      refine lv_bipush (v := 12) hx hb dX10_doubled_58 (by decide) ?_
      refine lv_irem hx hb dX10_doubled_60 (by decide) ?_
      refine lv_iload hx hb dX10_doubled_61 (lv_at hl 6 rfl) ?_
      obtain ⟨r6, h7, hm⟩ := b1_some hm
      refine r_backS (va_runV (As := [.int (a4 / 12), .int (a4 - a4 / 12 * 12), .int a6]) (rest := [.int r4, .int a5]) ⟨hx, hb, C0.2.2.2.1, C0.2.2.2.2.1, C0.2.2.2.2.2.1⟩ (tX10_formOf l E ad zx (a4 / 12) (a4 - a4 / 12 * 12) a6 h7 H.size) (cwV 3 C0.2.2.2.2.2.1 gX10_doubled_X10_formOf rfl rfl rfl (by decide +kernel) ⟨Nat.le_of_ble_eq_true rfl, Nat.le_of_ble_eq_true rfl⟩) ⟨PG_blind, va_recv hA.2.2.1.1 hw.1 (ci := 10) (q0 := 0) rfl rfl, pg_self hA hw⟩ rfl rfl hl.1 rfl (lv_room (Nat.le_of_ble_eq_true rfl)) dX10_doubled_63 ⟨Nat.zero_le _, Nat.zero_le _⟩) hA hw (fun H locs hw => ?_)
      refine lv_icmp_ne (tgt := 73) hx hb dX10_doubled_66 (by decide) (fun c8 => ?_) (fun c8 => ?_)
      · have hm := Eq.trans (if_neg c8).symm hm
        refine lv_iconst (v := 0) hx hb dX10_doubled_73 (by decide) ?_
        refine lv_iand hx hb dX10_doubled_74 ?_
        refine lv_topi (fun v9 ev9 => ?_)
        have hm := nm_at hm ev9
        refine lv_istore (lv' := [(5, .int v9), (0, .ref (ad 0)), (1, .int a1), (2, .int a2), (3, .int a3), (4, .int a4), (6, .int a6)]) hx hb dX10_doubled_75 hl (by decide) rfl (fun ls hl => ?_)
        obtain ⟨v10, ev10⟩ : ∃ y : Int32, y = a6 + 1 := ⟨_, rfl⟩
        have hm := nm_at hm ev10
        refine lv_iinc (v := v10) (lv' := [(6, .int v10), (5, .int v9), (0, .ref (ad 0)), (1, .int a1), (2, .int a2), (3, .int a3), (4, .int a4)]) hx hb dX10_doubled_77 hl (k := 6) rfl (by rw [ev10]; rfl) (by decide) rfl (fun ls hl => ?_)
        refine lv_goto (tgt := 27) hx hb dX10_doubled_80 (by decide) ?_
        exact ih a1 a2 a3 a4 v9 v10 _ _ _ hm hw (lv_sub hl [2, 3, 4, 5, 6, 1, 0] rfl)
      · have hm := Eq.trans (if_pos c8).symm hm
        refine lv_iconst (v := 1) hx hb dX10_doubled_69 (by decide) ?_
        refine lv_goto (tgt := 74) hx hb dX10_doubled_70 (by decide) ?_
        refine lv_iand hx hb dX10_doubled_74 ?_
        refine lv_topi (fun v11 ev11 => ?_)
        have hm := nm_at hm ev11
        refine lv_istore (lv' := [(5, .int v11), (0, .ref (ad 0)), (1, .int a1), (2, .int a2), (3, .int a3), (4, .int a4), (6, .int a6)]) hx hb dX10_doubled_75 hl (by decide) rfl (fun ls hl => ?_)
        obtain ⟨v12, ev12⟩ : ∃ y : Int32, y = a6 + 1 := ⟨_, rfl⟩
        have hm := nm_at hm ev12
        refine lv_iinc (v := v12) (lv' := [(6, .int v12), (5, .int v11), (0, .ref (ad 0)), (1, .int a1), (2, .int a2), (3, .int a3), (4, .int a4)]) hx hb dX10_doubled_77 hl (k := 6) rfl (by rw [ev12]; rfl) (by decide) rfl (fun ls hl => ?_)
        refine lv_goto (tgt := 27) hx hb dX10_doubled_80 (by decide) ?_
        exact ih a1 a2 a3 a4 v11 v12 _ _ _ hm hw (lv_sub hl [2, 3, 4, 5, 6, 1, 0] rfl)
set_option maxRecDepth 20000 in
theorem kX10_doubled_b15 {p : Program} {l : Launch} {e : Env} {s : State} {m : MethodId} {args : Array Value} {below : List Frame} {meth : Method} {c : Code} {A : Nat → Prop} {E : EV} {ad : Nat → Nat} (F : Nat) {zx : OS} {r : Int32} (C0 : Cx RX10 "doubled" cX10_doubled (some .int) 7 wsX10_doubled p s m args meth c) (hA : Ax E A s) (K4 : OS → Int32 → Int32 → Option (Int32)) (hK4 : ∀ (a1 : Int32) (a2 : Int32) (H : Heap) (locs : List Loc) (ls : Array Slot), K4 zx a1 a2 = some r → Wd E A s H locs (wM E ad zx) → lv_has ls 7 [(0, .ref (ad 0)), (1, .int a1), (2, .int a2)] → W p l e ({ frames := 1, cells := 0, slots := 0, locals := 25 } : Room) s m args below meth c H locs 0 0 (MQ below (QG E (Qd (some (.int r)) (wM E ad zx)) A) args s 0 0 A) (F0 m 4 ls [])) : ∀ (n : Nat) (a1 : Int32) (a2 : Int32) (a3 : Int32) (a4 : Int32) (H : Heap) (locs : List Loc) (ls : Array Slot), mX10_doubled_b15 F K4 n zx a1 a2 a3 a4 = some r → Wd E A s H locs (wM E ad zx) → lv_has ls 7 [(0, .ref (ad 0)), (1, .int a1), (2, .int a2), (3, .int a3), (4, .int a4)] → W p l e ({ frames := 1, cells := 0, slots := 0, locals := 25 } : Room) s m args below meth c H locs 0 0 (MQ below (QG E (Qd (some (.int r)) (wM E ad zx)) A) args s 0 0 A) (F0 m 15 ls []) := by
  have hx := C0.1
  have hb := C0.2.1
  intro n
  induction n with
  | zero =>
    intro a1 a2 a3 a4 H locs ls hm
    cases hm
  | succ n ih =>
    intro a1 a2 a3 a4 H locs ls hm hw hl
    unfold mX10_doubled_b15 at hm
    refine lv_iload hx hb dX10_doubled_15 (lv_at hl 4 rfl) ?_
    refine lv_iload_n hx hb dX10_doubled_17 rfl (lv_at hl 2 rfl) ?_
    refine lv_icmp_ge (tgt := 94) hx hb dX10_doubled_18 (by decide) (fun c1 => ?_) (fun c1 => ?_)
    · have hm := Eq.trans (if_pos c1).symm hm
      refine lv_iload_n hx hb dX10_doubled_94 rfl (lv_at hl 1 rfl) ?_
      refine lv_iload_n hx hb dX10_doubled_95 rfl (lv_at hl 3 rfl) ?_
      refine lv_if_eq (tgt := 103) hx hb dX10_doubled_96 (by decide) (fun c2 => ?_) (fun c2 => ?_)
      · have hm := Eq.trans (if_pos c2).symm hm
        refine lv_iconst (v := 0) hx hb dX10_doubled_103 (by decide) ?_
        refine lv_iadd hx hb dX10_doubled_104 ?_
        refine lv_topi (fun v3 ev3 => ?_)
        have hm := nm_at hm ev3
        refine lv_istore_n (lv' := [(1, .int v3), (0, .ref (ad 0)), (2, .int a2), (3, .int a3), (4, .int a4)]) hx hb dX10_doubled_105 rfl hl (by decide) rfl (fun ls hl => ?_)
        obtain ⟨v4, ev4⟩ : ∃ y : Int32, y = a2 + 1 := ⟨_, rfl⟩
        have hm := nm_at hm ev4
        refine lv_iinc (v := v4) (lv' := [(2, .int v4), (1, .int v3), (0, .ref (ad 0)), (3, .int a3), (4, .int a4)]) hx hb dX10_doubled_106 hl (k := 2) rfl (by rw [ev4]; rfl) (by decide) rfl (fun ls hl => ?_)
        refine lv_goto (tgt := 4) hx hb dX10_doubled_109 (by decide) ?_
        exact hK4 v3 v4 _ _ _ hm hw (lv_sub hl [2, 1, 0] rfl)
      · have hm := Eq.trans (if_neg c2).symm hm
        refine lv_iconst (v := 1) hx hb dX10_doubled_99 (by decide) ?_
        refine lv_goto (tgt := 104) hx hb dX10_doubled_100 (by decide) ?_
        refine lv_iadd hx hb dX10_doubled_104 ?_
        refine lv_topi (fun v5 ev5 => ?_)
        have hm := nm_at hm ev5
        refine lv_istore_n (lv' := [(1, .int v5), (0, .ref (ad 0)), (2, .int a2), (3, .int a3), (4, .int a4)]) hx hb dX10_doubled_105 rfl hl (by decide) rfl (fun ls hl => ?_)
        obtain ⟨v6, ev6⟩ : ∃ y : Int32, y = a2 + 1 := ⟨_, rfl⟩
        have hm := nm_at hm ev6
        refine lv_iinc (v := v6) (lv' := [(2, .int v6), (1, .int v5), (0, .ref (ad 0)), (3, .int a3), (4, .int a4)]) hx hb dX10_doubled_106 hl (k := 2) rfl (by rw [ev6]; rfl) (by decide) rfl (fun ls hl => ?_)
        refine lv_goto (tgt := 4) hx hb dX10_doubled_109 (by decide) ?_
        exact hK4 v5 v6 _ _ _ hm hw (lv_sub hl [2, 1, 0] rfl)
    · have hm := Eq.trans (if_neg c1).symm hm
      refine lv_iconst (v := 1) hx hb dX10_doubled_21 (by decide) ?_
      refine lv_topi (fun v7 ev7 => ?_)
      have hm := nm_at hm ev7
      refine lv_istore (lv' := [(5, .int v7), (0, .ref (ad 0)), (1, .int a1), (2, .int a2), (3, .int a3), (4, .int a4)]) hx hb dX10_doubled_22 hl (by decide) rfl (fun ls hl => ?_)
      refine lv_iconst (v := 0) hx hb dX10_doubled_24 (by decide) ?_
      refine lv_topi (fun v8 ev8 => ?_)
      have hm := nm_at hm ev8
      refine lv_istore (lv' := [(6, .int v8), (5, .int v7), (0, .ref (ad 0)), (1, .int a1), (2, .int a2), (3, .int a3), (4, .int a4)]) hx hb dX10_doubled_25 hl (by decide) rfl (fun ls hl => ?_)
      exact kX10_doubled_b27 F C0 hA _ ih F a1 a2 a3 a4 v7 v8 _ _ _ hm hw (lv_sub hl [2, 3, 4, 5, 6, 1, 0] rfl)
set_option maxRecDepth 20000 in
theorem kX10_doubled_b4 {p : Program} {l : Launch} {e : Env} {s : State} {m : MethodId} {args : Array Value} {below : List Frame} {meth : Method} {c : Code} {A : Nat → Prop} {E : EV} {ad : Nat → Nat} (F : Nat) {zx : OS} {r : Int32} (C0 : Cx RX10 "doubled" cX10_doubled (some .int) 7 wsX10_doubled p s m args meth c) (hA : Ax E A s) : ∀ (n : Nat) (a1 : Int32) (a2 : Int32) (H : Heap) (locs : List Loc) (ls : Array Slot), mX10_doubled_b4 F n zx a1 a2 = some r → Wd E A s H locs (wM E ad zx) → lv_has ls 7 [(0, .ref (ad 0)), (1, .int a1), (2, .int a2)] → W p l e ({ frames := 1, cells := 0, slots := 0, locals := 25 } : Room) s m args below meth c H locs 0 0 (MQ below (QG E (Qd (some (.int r)) (wM E ad zx)) A) args s 0 0 A) (F0 m 4 ls []) := by
  have hx := C0.1
  have hb := C0.2.1
  intro n
  induction n with
  | zero =>
    intro a1 a2 H locs ls hm
    cases hm
  | succ n ih =>
    intro a1 a2 H locs ls hm hw hl
    unfold mX10_doubled_b4 at hm
    refine lv_iload_n hx hb dX10_doubled_4 rfl (lv_at hl 2 rfl) ?_
    refine lv_bipush (v := 48) hx hb dX10_doubled_5 (by decide) ?_
    refine lv_icmp_ge (tgt := 112) hx hb dX10_doubled_7 (by decide) (fun c1 => ?_) (fun c1 => ?_)
    · have hm := Eq.trans (if_pos c1).symm hm
      refine lv_iload_n hx hb dX10_doubled_112 rfl (lv_at hl 1 rfl) ?_
      obtain rfl := sj1 hm
      exact r_iret C0 hw dX10_doubled_113 ⟨rfl, rfl⟩
    · have hm := Eq.trans (if_neg c1).symm hm
      refine lv_iconst (v := 0) hx hb dX10_doubled_10 (by decide) ?_
      refine lv_topi (fun v2 ev2 => ?_)
      have hm := nm_at hm ev2
      refine lv_istore_n (lv' := [(3, .int v2), (0, .ref (ad 0)), (1, .int a1), (2, .int a2)]) hx hb dX10_doubled_11 rfl hl (by decide) rfl (fun ls hl => ?_)
      refine lv_iconst (v := 0) hx hb dX10_doubled_12 (by decide) ?_
      refine lv_topi (fun v3 ev3 => ?_)
      have hm := nm_at hm ev3
      refine lv_istore (lv' := [(4, .int v3), (3, .int v2), (0, .ref (ad 0)), (1, .int a1), (2, .int a2)]) hx hb dX10_doubled_13 hl (by decide) rfl (fun ls hl => ?_)
      exact kX10_doubled_b15 F C0 hA _ ih F a1 a2 v2 v3 _ _ _ hm hw (lv_sub hl [2, 3, 4, 1, 0] rfl)
set_option maxRecDepth 20000 in
theorem kX10_doubled_b0 {p : Program} {l : Launch} {e : Env} {s : State} {m : MethodId} {args : Array Value} {below : List Frame} {meth : Method} {c : Code} {A : Nat → Prop} {E : EV} {ad : Nat → Nat} (F : Nat) {zx : OS} {r : Int32} (C0 : Cx RX10 "doubled" cX10_doubled (some .int) 7 wsX10_doubled p s m args meth c) (hA : Ax E A s) : ∀  (H : Heap) (locs : List Loc) (ls : Array Slot), mX10_doubled_b0 F zx = some r → Wd E A s H locs (wM E ad zx) → lv_has ls 7 [(0, .ref (ad 0))] → W p l e ({ frames := 1, cells := 0, slots := 0, locals := 25 } : Room) s m args below meth c H locs 0 0 (MQ below (QG E (Qd (some (.int r)) (wM E ad zx)) A) args s 0 0 A) (F0 m 0 ls []) := by
  have hx := C0.1
  have hb := C0.2.1
  intro  H locs ls hm hw hl
  unfold mX10_doubled_b0 at hm
  refine lv_iconst (v := 0) hx hb dX10_doubled_0 (by decide) ?_
  refine lv_topi (fun v1 ev1 => ?_)
  have hm := nm_at hm ev1
  refine lv_istore_n (lv' := [(1, .int v1), (0, .ref (ad 0))]) hx hb dX10_doubled_1 rfl hl (by decide) rfl (fun ls hl => ?_)
  refine lv_iconst (v := 0) hx hb dX10_doubled_2 (by decide) ?_
  refine lv_topi (fun v2 ev2 => ?_)
  have hm := nm_at hm ev2
  refine lv_istore_n (lv' := [(2, .int v2), (1, .int v1), (0, .ref (ad 0))]) hx hb dX10_doubled_3 rfl hl (by decide) rfl (fun ls hl => ?_)
  exact kX10_doubled_b4 F C0 hA F v1 v2 _ _ _ hm hw (lv_sub hl [2, 1, 0] rfl)
theorem tX10_doubled (l : Launch) (E : EV) (ad : Nat → Nat) (F : Nat) (zx : OS)  {r : Int32} (hm : mX10_doubled F zx = some r) : CT l yX10_doubled wsX10_doubled ({ frames := 1, cells := 0, slots := 0, locals := 25 } : Room) E [.ref (ad 0)] (wM E ad zx) (Qd (some (.int r)) (wM E ad zx)) 0 0 :=
  CT.of (mL := 7) (lvs := [(0, .ref (ad 0))]) (by decide +kernel) rfl (Nat.le_of_ble_eq_true rfl) rfl rfl rfl (fun p e s m below meth c A C0 hA hw ls hl => kX10_doubled_b0 (ad := ad) F C0 hA  _ _ _ hm hw (lv_sub hl [0] rfl))
theorem lkX10_told_52 : Cond.fieldLink RX10 52 (TX10 15).1 (TX10 15).2.1 (TX10 15).2.2.1 ∈ wsX10_told := by decide +kernel
theorem lkX10_told_49 : Cond.fieldLink RX10 49 (TX10 14).1 (TX10 14).2.1 (TX10 14).2.2.1 ∈ wsX10_told := by decide +kernel
theorem lkX10_told_237 : Cond.fieldLink RX10 237 (TX10 49).1 (TX10 49).2.1 (TX10 49).2.2.1 ∈ wsX10_told := by decide +kernel
theorem lkX10_told_218 : Cond.fieldLink RX10 218 (TX10 24).1 (TX10 24).2.1 (TX10 24).2.2.1 ∈ wsX10_told := by decide +kernel
theorem lkX10_told_46 : Cond.fieldLink RX10 46 (TX10 13).1 (TX10 13).2.1 (TX10 13).2.2.1 ∈ wsX10_told := by decide +kernel
theorem lkX10_told_120 : Cond.fieldLink RX10 120 (TX10 2).1 (TX10 2).2.1 (TX10 2).2.2.1 ∈ wsX10_told := by decide +kernel
theorem hiX10_told_X10 : ∀ w ∈ u_ws RX10 TX10 53, w ∈ wsX10_told := by decide +kernel
def mX10_told_b0  (zx : OS) (a1 : Int32) : Option (Int32) := (if (a1 : Int32) < 0 then some (-2) else (if (a1 : Int32) ≤ 5 then (if (a1 : Int32) = 0 then some (zx.1 2) else (if (a1 : Int32) = 1 then gd 0 2 (some (zx.2.2.1 13 (0 : Int32).toNatClampNeg)) else (if (a1 : Int32) = 2 then some (zx.1 24) else (if (a1 : Int32) = 3 then some (zx.1 49) else (if (a1 : Int32) = 4 then gd 0 2 (some (zx.2.2.1 14 (0 : Int32).toNatClampNeg)) else gd 0 2 (some (zx.2.2.1 15 (0 : Int32).toNatClampNeg))))))) else some (-2)))
def mX10_told (zx : OS) (a1 : Int32) : Option (Int32) := mX10_told_b0 zx a1
set_option maxRecDepth 20000 in
theorem kX10_told_b0 {p : Program} {l : Launch} {e : Env} {s : State} {m : MethodId} {args : Array Value} {below : List Frame} {meth : Method} {c : Code} {A : Nat → Prop} {E : EV} {ad : Nat → Nat} {zx : OS} {r : Int32} (C0 : Cx RX10 "told" cX10_told (some .int) 2 wsX10_told p s m args meth c) (hA : Ax E A s) : ∀ (a1 : Int32) (H : Heap) (locs : List Loc) (ls : Array Slot), mX10_told_b0 zx a1 = some r → Wd E A s H locs (wM E ad zx) → lv_has ls 2 [(0, .ref (ad 0)), (1, .int a1)] → W p l e ({ frames := 0, cells := 0, slots := 0, locals := 0 } : Room) s m args below meth c H locs 0 0 (MQ below (QG E (Qd (some (.int r)) (wM E ad zx)) A) args s 0 0 A) (F0 m 0 ls []) := by
  have hx := C0.1
  have hb := C0.2.1
  intro a1 H locs ls hm hw hl
  unfold mX10_told_b0 at hm
  refine lv_iload_n hx hb dX10_told_0 rfl (lv_at hl 1 rfl) ?_
  refine lv_if_lt (tgt := 9) hx hb dX10_told_1 (by decide) (fun c1 => ?_) (fun c1 => ?_)
  · have hm := Eq.trans (if_pos c1).symm hm
    refine lv_bipush (v := (-2)) hx hb dX10_told_9 (by decide) ?_
    obtain rfl := sj1 hm
    exact r_iret C0 hw dX10_told_11 ⟨rfl, rfl⟩
  · have hm := Eq.trans (if_neg c1).symm hm
    refine lv_iload_n hx hb dX10_told_4 rfl (lv_at hl 1 rfl) ?_
    refine lv_iconst (v := 5) hx hb dX10_told_5 (by decide) ?_
    refine lv_icmp_le (tgt := 12) hx hb dX10_told_6 (by decide) (fun c2 => ?_) (fun c2 => ?_)
    · have hm := Eq.trans (if_pos c2).symm hm
      refine lv_iload_n hx hb dX10_told_12 rfl (lv_at hl 1 rfl) ?_
      refine lv_if_ne (tgt := 23) hx hb dX10_told_13 (by decide) (fun c3 => ?_) (fun c3 => ?_)
      · have hm := Eq.trans (if_neg c3).symm hm
        refine lv_iload_n hx hb dX10_told_23 rfl (lv_at hl 1 rfl) ?_
        refine lv_iconst (v := 1) hx hb dX10_told_24 (by decide) ?_
        refine lv_icmp_ne (tgt := 37) hx hb dX10_told_25 (by decide) (fun c4 => ?_) (fun c4 => ?_)
        · have hm := Eq.trans (if_neg c4).symm hm
          refine lv_iload_n hx hb dX10_told_37 rfl (lv_at hl 1 rfl) ?_
          refine lv_iconst (v := 2) hx hb dX10_told_38 (by decide) ?_
          refine lv_icmp_ne (tgt := 49) hx hb dX10_told_39 (by decide) (fun c5 => ?_) (fun c5 => ?_)
          · have hm := Eq.trans (if_neg c5).symm hm
            refine lv_iload_n hx hb dX10_told_49 rfl (lv_at hl 1 rfl) ?_
            refine lv_iconst (v := 3) hx hb dX10_told_50 (by decide) ?_
            refine lv_icmp_ne (tgt := 61) hx hb dX10_told_51 (by decide) (fun c6 => ?_) (fun c6 => ?_)
            · have hm := Eq.trans (if_neg c6).symm hm
              refine lv_iload_n hx hb dX10_told_61 rfl (lv_at hl 1 rfl) ?_
              refine lv_iconst (v := 4) hx hb dX10_told_62 (by decide) ?_
              refine lv_icmp_ne (tgt := 75) hx hb dX10_told_63 (by decide) (fun c7 => ?_) (fun c7 => ?_)
              · have hm := Eq.trans (if_neg c7).symm hm
                refine lv_aload_n hx hb dX10_told_75 rfl (lv_at hl 0 rfl) ?_
                refine gM_0_15 C0 hA hw hiX10_told_X10 lkX10_told_52 dX10_told_76 ?_
                refine lv_iconst (v := 0) hx hb dX10_told_79 (by decide) ?_
                obtain ⟨c8, hm⟩ := gd_some hm
                refine lM_15 C0 hA hw c8 dX10_told_80 ?_
                obtain rfl := sj1 hm
                exact r_iret C0 hw dX10_told_81 ⟨rfl, rfl⟩
              · have hm := Eq.trans (if_pos c7).symm hm
                refine lv_aload_n hx hb dX10_told_66 rfl (lv_at hl 0 rfl) ?_
                refine gM_0_14 C0 hA hw hiX10_told_X10 lkX10_told_49 dX10_told_67 ?_
                refine lv_iconst (v := 0) hx hb dX10_told_70 (by decide) ?_
                obtain ⟨c9, hm⟩ := gd_some hm
                refine lM_14 C0 hA hw c9 dX10_told_71 ?_
                refine lv_goto (tgt := 81) hx hb dX10_told_72 (by decide) ?_
                obtain rfl := sj1 hm
                exact r_iret C0 hw dX10_told_81 ⟨rfl, rfl⟩
            · have hm := Eq.trans (if_pos c6).symm hm
              refine lv_aload_n hx hb dX10_told_54 rfl (lv_at hl 0 rfl) ?_
              refine gM_0_49 C0 hA hw hiX10_told_X10 lkX10_told_237 dX10_told_55 ?_
              refine lv_goto (tgt := 81) hx hb dX10_told_58 (by decide) ?_
              obtain rfl := sj1 hm
              exact r_iret C0 hw dX10_told_81 ⟨rfl, rfl⟩
          · have hm := Eq.trans (if_pos c5).symm hm
            refine lv_aload_n hx hb dX10_told_42 rfl (lv_at hl 0 rfl) ?_
            refine gM_0_24 C0 hA hw hiX10_told_X10 lkX10_told_218 dX10_told_43 ?_
            refine lv_goto (tgt := 81) hx hb dX10_told_46 (by decide) ?_
            obtain rfl := sj1 hm
            exact r_iret C0 hw dX10_told_81 ⟨rfl, rfl⟩
        · have hm := Eq.trans (if_pos c4).symm hm
          refine lv_aload_n hx hb dX10_told_28 rfl (lv_at hl 0 rfl) ?_
          refine gM_0_13 C0 hA hw hiX10_told_X10 lkX10_told_46 dX10_told_29 ?_
          refine lv_iconst (v := 0) hx hb dX10_told_32 (by decide) ?_
          obtain ⟨c10, hm⟩ := gd_some hm
          refine lM_13 C0 hA hw c10 dX10_told_33 ?_
          refine lv_goto (tgt := 81) hx hb dX10_told_34 (by decide) ?_
          obtain rfl := sj1 hm
          exact r_iret C0 hw dX10_told_81 ⟨rfl, rfl⟩
      · have hm := Eq.trans (if_pos c3).symm hm
        refine lv_aload_n hx hb dX10_told_16 rfl (lv_at hl 0 rfl) ?_
        refine gM_0_2 C0 hA hw hiX10_told_X10 lkX10_told_120 dX10_told_17 ?_
        refine lv_goto (tgt := 81) hx hb dX10_told_20 (by decide) ?_
        obtain rfl := sj1 hm
        exact r_iret C0 hw dX10_told_81 ⟨rfl, rfl⟩
    · have hm := Eq.trans (if_neg c2).symm hm
      refine lv_bipush (v := (-2)) hx hb dX10_told_9 (by decide) ?_
      obtain rfl := sj1 hm
      exact r_iret C0 hw dX10_told_11 ⟨rfl, rfl⟩
theorem tX10_told (l : Launch) (E : EV) (ad : Nat → Nat) (zx : OS) (a1 : Int32) {r : Int32} (hm : mX10_told zx a1 = some r) : CT l yX10_told wsX10_told ({ frames := 0, cells := 0, slots := 0, locals := 0 } : Room) E [.ref (ad 0), .int a1] (wM E ad zx) (Qd (some (.int r)) (wM E ad zx)) 0 0 :=
  CT.of (mL := 2) (lvs := [(0, .ref (ad 0)), (1, .int a1)]) (by decide +kernel) rfl (Nat.le_of_ble_eq_true rfl) rfl rfl rfl (fun p e s m below meth c A C0 hA hw ls hl => kX10_told_b0 (ad := ad) C0 hA a1 _ _ _ hm hw (lv_sub hl [0, 1] rfl))

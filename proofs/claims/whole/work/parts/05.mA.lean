theorem lkX10_cut_120 : Cond.fieldLink RX10 120 (TX10 2).1 (TX10 2).2.1 (TX10 2).2.2.1 ∈ wsX10_cut := by decide +kernel
theorem hiX10_cut_X10 : ∀ w ∈ u_ws RX10 TX10 53, w ∈ wsX10_cut := by decide +kernel
def mX10_cut_b0  (zx : OS) (a1 : Int32) : Option (Int32 × OS) := (if (a1 : Int32) < 0 then some ((-2), zx) else (if (a1 : Int32) ≤ (zx.1 2) then nm ((zx.1 2) - a1 : Int32) (fun v3 => nm (sI zx 2 a1) (fun zx4 => some (v3, zx4))) else some ((-2), zx)))
def mX10_cut (zx : OS) (a1 : Int32) : Option (Int32 × OS) := mX10_cut_b0 zx a1
set_option maxRecDepth 20000 in
theorem kX10_cut_b0 {p : Program} {l : Launch} {e : Env} {s : State} {m : MethodId} {args : Array Value} {below : List Frame} {meth : Method} {c : Code} {A : Nat → Prop} {E : EV} {ad : Nat → Nat}  {r : Int32} {zx' : OS} (C0 : Cx RX10 "cut" cX10_cut (some .int) 3 wsX10_cut p s m args meth c) (hA : Ax E A s) : ∀ (zx : OS) (a1 : Int32) (H : Heap) (locs : List Loc) (ls : Array Slot), mX10_cut_b0 zx a1 = some (r, zx') → Wd E A s H locs (wM E ad zx) → lv_has ls 3 [(0, .ref (ad 0)), (1, .int a1)] → W p l e ({ frames := 0, cells := 0, slots := 0, locals := 0 } : Room) s m args below meth c H locs 0 0 (MQ below (QG E (Qd (some (.int r)) (wM E ad zx')) A) args s 0 0 A) (F0 m 0 ls []) := by
  have hx := C0.1
  have hb := C0.2.1
  intro zx a1 H locs ls hm hw hl
  unfold mX10_cut_b0 at hm
  refine lv_iload_n hx hb dX10_cut_0 rfl (lv_at hl 1 rfl) ?_
  refine lv_if_lt (tgt := 12) hx hb dX10_cut_1 (by decide) (fun c1 => ?_) (fun c1 => ?_)
  · have hm := Eq.trans (if_pos c1).symm hm
    refine lv_bipush (v := (-2)) hx hb dX10_cut_12 (by decide) ?_
    obtain ⟨rfl, rfl⟩ := sj2 hm
    exact r_iret C0 hw dX10_cut_14 ⟨rfl, rfl⟩
  · have hm := Eq.trans (if_neg c1).symm hm
    refine lv_iload_n hx hb dX10_cut_4 rfl (lv_at hl 1 rfl) ?_
    refine lv_aload_n hx hb dX10_cut_5 rfl (lv_at hl 0 rfl) ?_
    refine gM_0_2 C0 hA hw hiX10_cut_X10 lkX10_cut_120 dX10_cut_6 ?_
    refine lv_icmp_le (tgt := 15) hx hb dX10_cut_9 (by decide) (fun c2 => ?_) (fun c2 => ?_)
    · have hm := Eq.trans (if_pos c2).symm hm
      refine lv_aload_n hx hb dX10_cut_15 rfl (lv_at hl 0 rfl) ?_
      refine gM_0_2 C0 hA hw hiX10_cut_X10 lkX10_cut_120 dX10_cut_16 ?_
      refine lv_iload_n hx hb dX10_cut_19 rfl (lv_at hl 1 rfl) ?_
      refine lv_isub hx hb dX10_cut_20 ?_
      refine lv_topi (fun v3 ev3 => ?_)
      have hm := nm_at hm ev3
      refine lv_istore_n (lv' := [(2, .int v3), (0, .ref (ad 0)), (1, .int a1)]) hx hb dX10_cut_21 rfl hl (by decide) rfl (fun ls hl => ?_)
      refine lv_aload_n hx hb dX10_cut_22 rfl (lv_at hl 1 rfl) ?_
      refine lv_iload_n hx hb dX10_cut_23 rfl (lv_at hl 2 rfl) ?_
      refine pM_0_2 C0 hA hw hiX10_cut_X10 lkX10_cut_120 dX10_cut_24 (fun zx4 ezx4 H locs hw => ?_)
      have hm := nm_at hm ezx4
      refine lv_iload_n hx hb dX10_cut_27 rfl (lv_at hl 0 rfl) ?_
      obtain ⟨rfl, rfl⟩ := sj2 hm
      exact r_iret C0 hw dX10_cut_28 ⟨rfl, rfl⟩
    · have hm := Eq.trans (if_neg c2).symm hm
      refine lv_bipush (v := (-2)) hx hb dX10_cut_12 (by decide) ?_
      obtain ⟨rfl, rfl⟩ := sj2 hm
      exact r_iret C0 hw dX10_cut_14 ⟨rfl, rfl⟩
theorem tX10_cut (l : Launch) (E : EV) (ad : Nat → Nat) (zx : OS) (a1 : Int32) {r : Int32} {zx' : OS} (hm : mX10_cut zx a1 = some (r, zx')) : CT l yX10_cut wsX10_cut ({ frames := 0, cells := 0, slots := 0, locals := 0 } : Room) E [.ref (ad 0), .int a1] (wM E ad zx) (Qd (some (.int r)) (wM E ad zx')) 0 0 :=
  CT.of (mL := 3) (lvs := [(0, .ref (ad 0)), (1, .int a1)]) (by decide +kernel) rfl (Nat.le_of_ble_eq_true rfl) rfl rfl rfl (fun p e s m below meth c A C0 hA hw ls hl => kX10_cut_b0 (ad := ad) C0 hA zx a1 _ _ _ hm hw (lv_sub hl [0, 1] rfl))
theorem lkX10_peek_120 : Cond.fieldLink RX10 120 (TX10 2).1 (TX10 2).2.1 (TX10 2).2.2.1 ∈ wsX10_peek := by decide +kernel
theorem lkX10_peek_13 : Cond.fieldLink RX10 13 (TX10 1).1 (TX10 1).2.1 (TX10 1).2.2.1 ∈ wsX10_peek := by decide +kernel
theorem hiX10_peek_X10 : ∀ w ∈ u_ws RX10 TX10 53, w ∈ wsX10_peek := by decide +kernel
def mX10_peek_b0  (zx : OS) (a1 : Int32) : Option (Int32) := (if (zx.1 2) ≤ (a1 : Int32) then some (-1) else gd a1 1200 (some (zx.2.2.1 1 (a1 : Int32).toNatClampNeg)))
def mX10_peek (zx : OS) (a1 : Int32) : Option (Int32) := mX10_peek_b0 zx a1
set_option maxRecDepth 20000 in
theorem kX10_peek_b0 {p : Program} {l : Launch} {e : Env} {s : State} {m : MethodId} {args : Array Value} {below : List Frame} {meth : Method} {c : Code} {A : Nat → Prop} {E : EV} {ad : Nat → Nat} {zx : OS} {r : Int32} (C0 : Cx RX10 "peek" cX10_peek (some .int) 2 wsX10_peek p s m args meth c) (hA : Ax E A s) : ∀ (a1 : Int32) (H : Heap) (locs : List Loc) (ls : Array Slot), mX10_peek_b0 zx a1 = some r → Wd E A s H locs (wM E ad zx) → lv_has ls 2 [(0, .ref (ad 0)), (1, .int a1)] → W p l e ({ frames := 0, cells := 0, slots := 0, locals := 0 } : Room) s m args below meth c H locs 0 0 (MQ below (QG E (Qd (some (.int r)) (wM E ad zx)) A) args s 0 0 A) (F0 m 0 ls []) := by
  have hx := C0.1
  have hb := C0.2.1
  intro a1 H locs ls hm hw hl
  unfold mX10_peek_b0 at hm
  refine lv_iload_n hx hb dX10_peek_0 rfl (lv_at hl 1 rfl) ?_
  refine lv_aload_n hx hb dX10_peek_1 rfl (lv_at hl 0 rfl) ?_
  refine gM_0_2 C0 hA hw hiX10_peek_X10 lkX10_peek_120 dX10_peek_2 ?_
  refine lv_icmp_ge (tgt := 17) hx hb dX10_peek_5 (by decide) (fun c1 => ?_) (fun c1 => ?_)
  · have hm := Eq.trans (if_pos c1).symm hm
    refine lv_iconst (v := (-1)) hx hb dX10_peek_17 (by decide) ?_
    obtain rfl := sj1 hm
    exact r_iret C0 hw dX10_peek_18 ⟨rfl, rfl⟩
  · have hm := Eq.trans (if_neg c1).symm hm
    refine lv_aload_n hx hb dX10_peek_8 rfl (lv_at hl 0 rfl) ?_
    refine gM_0_1 C0 hA hw hiX10_peek_X10 lkX10_peek_13 dX10_peek_9 ?_
    refine lv_iload_n hx hb dX10_peek_12 rfl (lv_at hl 1 rfl) ?_
    obtain ⟨c2, hm⟩ := gd_some hm
    refine lM_2 C0 hA hw c2 dX10_peek_13 ?_
    refine lv_goto (tgt := 18) hx hb dX10_peek_14 (by decide) ?_
    obtain rfl := sj1 hm
    exact r_iret C0 hw dX10_peek_18 ⟨rfl, rfl⟩
theorem tX10_peek (l : Launch) (E : EV) (ad : Nat → Nat) (zx : OS) (a1 : Int32) {r : Int32} (hm : mX10_peek zx a1 = some r) : CT l yX10_peek wsX10_peek ({ frames := 0, cells := 0, slots := 0, locals := 0 } : Room) E [.ref (ad 0), .int a1] (wM E ad zx) (Qd (some (.int r)) (wM E ad zx)) 0 0 :=
  CT.of (mL := 2) (lvs := [(0, .ref (ad 0)), (1, .int a1)]) (by decide +kernel) rfl (Nat.le_of_ble_eq_true rfl) rfl rfl rfl (fun p e s m below meth c A C0 hA hw ls hl => kX10_peek_b0 (ad := ad) C0 hA a1 _ _ _ hm hw (lv_sub hl [0, 1] rfl))
theorem lkX10_fail_124 : Cond.fieldLink RX10 124 (TX10 18).1 (TX10 18).2.1 (TX10 18).2.2.1 ∈ wsX10_fail := by decide +kernel
theorem hiX10_fail_X10 : ∀ w ∈ u_ws RX10 TX10 53, w ∈ wsX10_fail := by decide +kernel
def mX10_fail_b0  (zx : OS) (a1 : Int32) : Option (OS) := (if 0 ≤ (zx.1 18 : Int32) then nm (sI zx 18 (zx.1 18)) (fun zx2 => some zx2) else nm (sI zx 18 a1) (fun zx3 => some zx3))
def mX10_fail (zx : OS) (a1 : Int32) : Option (OS) := mX10_fail_b0 zx a1
set_option maxRecDepth 20000 in
theorem kX10_fail_b0 {p : Program} {l : Launch} {e : Env} {s : State} {m : MethodId} {args : Array Value} {below : List Frame} {meth : Method} {c : Code} {A : Nat → Prop} {E : EV} {ad : Nat → Nat}  {zx' : OS} (C0 : Cx RX10 "fail" cX10_fail (none) 2 wsX10_fail p s m args meth c) (hA : Ax E A s) : ∀ (zx : OS) (a1 : Int32) (H : Heap) (locs : List Loc) (ls : Array Slot), mX10_fail_b0 zx a1 = some zx' → Wd E A s H locs (wM E ad zx) → lv_has ls 2 [(0, .ref (ad 0)), (1, .int a1)] → W p l e ({ frames := 0, cells := 0, slots := 0, locals := 0 } : Room) s m args below meth c H locs 0 0 (MQ below (QG E (Qd none (wM E ad zx')) A) args s 0 0 A) (F0 m 0 ls []) := by
  have hx := C0.1
  have hb := C0.2.1
  intro zx a1 H locs ls hm hw hl
  unfold mX10_fail_b0 at hm
  refine lv_aload_n hx hb dX10_fail_0 rfl (lv_at hl 0 rfl) ?_
  refine lv_aload_n hx hb dX10_fail_1 rfl (lv_at hl 0 rfl) ?_
  refine gM_0_18 C0 hA hw hiX10_fail_X10 lkX10_fail_124 dX10_fail_2 ?_
  refine lv_if_ge (tgt := 12) hx hb dX10_fail_5 (by decide) (fun c1 => ?_) (fun c1 => ?_)
  · have hm := Eq.trans (if_pos c1).symm hm
    refine lv_aload_n hx hb dX10_fail_12 rfl (lv_at hl 0 rfl) ?_
    refine gM_0_18 C0 hA hw hiX10_fail_X10 lkX10_fail_124 dX10_fail_13 ?_
    refine pM_0_18 C0 hA hw hiX10_fail_X10 lkX10_fail_124 dX10_fail_16 (fun zx2 ezx2 H locs hw => ?_)
    have hm := nm_at hm ezx2
    obtain rfl := sj1 hm
    exact r_vret C0 hw dX10_fail_19 ⟨rfl, rfl⟩
  · have hm := Eq.trans (if_neg c1).symm hm
    refine lv_iload_n hx hb dX10_fail_8 rfl (lv_at hl 1 rfl) ?_
    refine lv_goto (tgt := 16) hx hb dX10_fail_9 (by decide) ?_
    refine pM_0_18 C0 hA hw hiX10_fail_X10 lkX10_fail_124 dX10_fail_16 (fun zx3 ezx3 H locs hw => ?_)
    have hm := nm_at hm ezx3
    obtain rfl := sj1 hm
    exact r_vret C0 hw dX10_fail_19 ⟨rfl, rfl⟩
theorem tX10_fail (l : Launch) (E : EV) (ad : Nat → Nat) (zx : OS) (a1 : Int32) {zx' : OS} (hm : mX10_fail zx a1 = some zx') : CT l yX10_fail wsX10_fail ({ frames := 0, cells := 0, slots := 0, locals := 0 } : Room) E [.ref (ad 0), .int a1] (wM E ad zx) (Qd none (wM E ad zx')) 0 0 :=
  CT.of (mL := 2) (lvs := [(0, .ref (ad 0)), (1, .int a1)]) (by decide +kernel) rfl (Nat.le_of_ble_eq_true rfl) rfl rfl rfl (fun p e s m below meth c A C0 hA hw ls hl => kX10_fail_b0 (ad := ad) C0 hA zx a1 _ _ _ hm hw (lv_sub hl [0, 1] rfl))
def mX10_blanks_b2 (F : Nat)  : Nat → OS → Int32 → Option (Int32)
  | 0, _, _ => none
  | n + 1, zx, a2 => b1 (mX10_peek zx a2) (fun r1 => (if (r1 : Int32) = 32 then nm (a2 + 1 : Int32) (fun v4 => mX10_blanks_b2 F n zx v4) else b1 (mX10_peek zx a2) (fun r5 => (if (r5 : Int32) = 10 then nm (a2 + 1 : Int32) (fun v8 => mX10_blanks_b2 F n zx v8) else some a2))))
def mX10_blanks_b0 (F : Nat)  (zx : OS) (a1 : Int32) : Option (Int32) := mX10_blanks_b2 F F zx a1
def mX10_blanks (F : Nat) (zx : OS) (a1 : Int32) : Option (Int32) := mX10_blanks_b0 F zx a1
set_option maxRecDepth 20000 in
theorem kX10_blanks_b2 {p : Program} {l : Launch} {e : Env} {s : State} {m : MethodId} {args : Array Value} {below : List Frame} {meth : Method} {c : Code} {A : Nat → Prop} {E : EV} {ad : Nat → Nat} (F : Nat) {zx : OS} {r : Int32} (C0 : Cx RX10 "blanks" cX10_blanks (some .int) 3 wsX10_blanks p s m args meth c) (hA : Ax E A s) : ∀ (n : Nat) (a2 : Int32) (H : Heap) (locs : List Loc) (ls : Array Slot), mX10_blanks_b2 F n zx a2 = some r → Wd E A s H locs (wM E ad zx) → lv_has ls 3 [(0, .ref (ad 0)), (2, .int a2)] → W p l e ({ frames := 1, cells := 0, slots := 0, locals := 21 } : Room) s m args below meth c H locs 0 0 (MQ below (QG E (Qd (some (.int r)) (wM E ad zx)) A) args s 0 0 A) (F0 m 2 ls []) := by
  have hx := C0.1
  have hb := C0.2.1
  intro n
  induction n with
  | zero =>
    intro a2 H locs ls hm
    cases hm
  | succ n ih =>
    intro a2 H locs ls hm hw hl
    unfold mX10_blanks_b2 at hm
    refine lv_aload_n hx hb dX10_blanks_2 rfl (lv_at hl 0 rfl) ?_
    refine lv_iload_n hx hb dX10_blanks_3 rfl (lv_at hl 1 rfl) ?_
    obtain ⟨r1, h2, hm⟩ := b1_some hm
    refine r_backS (va_runV (As := [.int a2]) (rest := []) ⟨hx, hb, C0.2.2.2.1, C0.2.2.2.2.1, C0.2.2.2.2.2.1⟩ (tX10_peek l E ad zx a2 h2 H.size) (cwV 1 C0.2.2.2.2.2.1 gX10_blanks_X10_peek rfl rfl rfl (by decide +kernel) ⟨Nat.le_of_ble_eq_true rfl, Nat.le_of_ble_eq_true rfl⟩) ⟨PG_blind, va_recv hA.2.2.1.1 hw.1 (ci := 10) (q0 := 0) rfl rfl, pg_self hA hw⟩ rfl rfl hl.1 rfl (lv_room (Nat.le_of_ble_eq_true rfl)) dX10_blanks_4 ⟨Nat.zero_le _, Nat.zero_le _⟩) hA hw (fun H locs hw => ?_)
    refine lv_bipush (v := 32) hx hb dX10_blanks_7 (by decide) ?_
    refine lv_icmp_eq (tgt := 22) hx hb dX10_blanks_9 (by decide) (fun c3 => ?_) (fun c3 => ?_)
    · have hm := Eq.trans (if_pos c3).symm hm
      obtain ⟨v4, ev4⟩ : ∃ y : Int32, y = a2 + 1 := ⟨_, rfl⟩
      have hm := nm_at hm ev4
      refine lv_iinc (v := v4) (lv' := [(2, .int v4), (0, .ref (ad 0))]) hx hb dX10_blanks_22 hl (k := 1) rfl (by rw [ev4]; rfl) (by decide) rfl (fun ls hl => ?_)
      refine lv_goto (tgt := 2) hx hb dX10_blanks_25 (by decide) ?_
      exact ih v4 _ _ _ hm hw (lv_sub hl [1, 0] rfl)
    · have hm := Eq.trans (if_neg c3).symm hm
      refine lv_aload_n hx hb dX10_blanks_12 rfl (lv_at hl 0 rfl) ?_
      refine lv_iload_n hx hb dX10_blanks_13 rfl (lv_at hl 1 rfl) ?_
      obtain ⟨r5, h6, hm⟩ := b1_some hm
      refine r_backS (va_runV (As := [.int a2]) (rest := []) ⟨hx, hb, C0.2.2.2.1, C0.2.2.2.2.1, C0.2.2.2.2.2.1⟩ (tX10_peek l E ad zx a2 h6 H.size) (cwV 1 C0.2.2.2.2.2.1 gX10_blanks_X10_peek rfl rfl rfl (by decide +kernel) ⟨Nat.le_of_ble_eq_true rfl, Nat.le_of_ble_eq_true rfl⟩) ⟨PG_blind, va_recv hA.2.2.1.1 hw.1 (ci := 10) (q0 := 0) rfl rfl, pg_self hA hw⟩ rfl rfl hl.1 rfl (lv_room (Nat.le_of_ble_eq_true rfl)) dX10_blanks_14 ⟨Nat.zero_le _, Nat.zero_le _⟩) hA hw (fun H locs hw => ?_)
      refine lv_bipush (v := 10) hx hb dX10_blanks_17 (by decide) ?_
      refine lv_icmp_ne (tgt := 28) hx hb dX10_blanks_19 (by decide) (fun c7 => ?_) (fun c7 => ?_)
      · have hm := Eq.trans (if_neg c7).symm hm
        refine lv_iload_n hx hb dX10_blanks_28 rfl (lv_at hl 1 rfl) ?_
        obtain rfl := sj1 hm
        exact r_iret C0 hw dX10_blanks_29 ⟨rfl, rfl⟩
      · have hm := Eq.trans (if_pos c7).symm hm
        obtain ⟨v8, ev8⟩ : ∃ y : Int32, y = a2 + 1 := ⟨_, rfl⟩
        have hm := nm_at hm ev8
        refine lv_iinc (v := v8) (lv' := [(2, .int v8), (0, .ref (ad 0))]) hx hb dX10_blanks_22 hl (k := 1) rfl (by rw [ev8]; rfl) (by decide) rfl (fun ls hl => ?_)
        refine lv_goto (tgt := 2) hx hb dX10_blanks_25 (by decide) ?_
        exact ih v8 _ _ _ hm hw (lv_sub hl [1, 0] rfl)
set_option maxRecDepth 20000 in
theorem kX10_blanks_b0 {p : Program} {l : Launch} {e : Env} {s : State} {m : MethodId} {args : Array Value} {below : List Frame} {meth : Method} {c : Code} {A : Nat → Prop} {E : EV} {ad : Nat → Nat} (F : Nat) {zx : OS} {r : Int32} (C0 : Cx RX10 "blanks" cX10_blanks (some .int) 3 wsX10_blanks p s m args meth c) (hA : Ax E A s) : ∀ (a1 : Int32) (H : Heap) (locs : List Loc) (ls : Array Slot), mX10_blanks_b0 F zx a1 = some r → Wd E A s H locs (wM E ad zx) → lv_has ls 3 [(0, .ref (ad 0)), (1, .int a1)] → W p l e ({ frames := 1, cells := 0, slots := 0, locals := 21 } : Room) s m args below meth c H locs 0 0 (MQ below (QG E (Qd (some (.int r)) (wM E ad zx)) A) args s 0 0 A) (F0 m 0 ls []) := by
  have hx := C0.1
  have hb := C0.2.1
  intro a1 H locs ls hm hw hl
  unfold mX10_blanks_b0 at hm
  refine lv_iload_n hx hb dX10_blanks_0 rfl (lv_at hl 1 rfl) ?_
  refine lv_istore_n (lv' := [(2, .int a1), (0, .ref (ad 0)), (1, .int a1)]) hx hb dX10_blanks_1 rfl hl (by decide) rfl (fun ls hl => ?_)
  exact kX10_blanks_b2 F C0 hA F a1 _ _ _ hm hw (lv_sub hl [1, 0] rfl)
theorem tX10_blanks (l : Launch) (E : EV) (ad : Nat → Nat) (F : Nat) (zx : OS) (a1 : Int32) {r : Int32} (hm : mX10_blanks F zx a1 = some r) : CT l yX10_blanks wsX10_blanks ({ frames := 1, cells := 0, slots := 0, locals := 21 } : Room) E [.ref (ad 0), .int a1] (wM E ad zx) (Qd (some (.int r)) (wM E ad zx)) 0 0 :=
  CT.of (mL := 3) (lvs := [(0, .ref (ad 0)), (1, .int a1)]) (by decide +kernel) rfl (Nat.le_of_ble_eq_true rfl) rfl rfl rfl (fun p e s m below meth c A C0 hA hw ls hl => kX10_blanks_b0 (ad := ad) F C0 hA a1 _ _ _ hm hw (lv_sub hl [0, 1] rfl))
def mX10_isDigit_b0  (a0 : Int32) : Option (Int32) := (if (a0 : Int32) < 48 then some 0 else (if 57 < (a0 : Int32) then some 0 else some 1))
def mX10_isDigit  (a0 : Int32) : Option (Int32) := mX10_isDigit_b0 a0
set_option maxRecDepth 20000 in
theorem kX10_isDigit_b0 {p : Program} {l : Launch} {e : Env} {s : State} {m : MethodId} {args : Array Value} {below : List Frame} {meth : Method} {c : Code} {A : Nat → Prop} {E : EV} {ad : Nat → Nat}  {r : Int32} (C0 : Cx RX10 "isDigit" cX10_isDigit (some .boolean) 1 wsX10_isDigit p s m args meth c) (hA : Ax E A s) : ∀ (a0 : Int32) (H : Heap) (locs : List Loc) (ls : Array Slot), mX10_isDigit_b0 a0 = some r → Wd E A s H locs ([] : va_W) → lv_has ls 1 [(0, .int a0)] → W p l e ({ frames := 0, cells := 0, slots := 0, locals := 0 } : Room) s m args below meth c H locs 0 0 (MQ below (QG E (Qd (some (.int r)) ([] : va_W)) A) args s 0 0 A) (F0 m 0 ls []) := by
  have hx := C0.1
  have hb := C0.2.1
  intro a0 H locs ls hm hw hl
  unfold mX10_isDigit_b0 at hm
  refine lv_iload_n hx hb dX10_isDigit_0 rfl (lv_at hl 0 rfl) ?_
  refine lv_bipush (v := 48) hx hb dX10_isDigit_1 (by decide) ?_
  refine lv_icmp_lt (tgt := 16) hx hb dX10_isDigit_3 (by decide) (fun c1 => ?_) (fun c1 => ?_)
  · have hm := Eq.trans (if_pos c1).symm hm
    refine lv_iconst (v := 0) hx hb dX10_isDigit_16 (by decide) ?_
    obtain rfl := sj1 hm
    exact r_zret C0 hw dX10_isDigit_17 rfl ⟨rfl, rfl⟩
  · have hm := Eq.trans (if_neg c1).symm hm
    refine lv_iload_n hx hb dX10_isDigit_6 rfl (lv_at hl 0 rfl) ?_
    refine lv_bipush (v := 57) hx hb dX10_isDigit_7 (by decide) ?_
    refine lv_icmp_gt (tgt := 16) hx hb dX10_isDigit_9 (by decide) (fun c2 => ?_) (fun c2 => ?_)
    · have hm := Eq.trans (if_pos c2).symm hm
      refine lv_iconst (v := 0) hx hb dX10_isDigit_16 (by decide) ?_
      obtain rfl := sj1 hm
      exact r_zret C0 hw dX10_isDigit_17 rfl ⟨rfl, rfl⟩
    · have hm := Eq.trans (if_neg c2).symm hm
      refine lv_iconst (v := 1) hx hb dX10_isDigit_12 (by decide) ?_
      refine lv_goto (tgt := 17) hx hb dX10_isDigit_13 (by decide) ?_
      obtain rfl := sj1 hm
      exact r_zret C0 hw dX10_isDigit_17 rfl ⟨rfl, rfl⟩
theorem tX10_isDigit (l : Launch) (E : EV)  (a0 : Int32) {r : Int32} (hm : mX10_isDigit a0 = some r) : CT l yX10_isDigit wsX10_isDigit ({ frames := 0, cells := 0, slots := 0, locals := 0 } : Room) E [.int a0] ([] : va_W) (Qd (some (.int r)) ([] : va_W)) 0 0 :=
  CT.of (mL := 1) (lvs := [(0, .int a0)]) (by decide +kernel) rfl (Nat.le_of_ble_eq_true rfl) rfl rfl rfl (fun p e s m below meth c A C0 hA hw ls hl => kX10_isDigit_b0 (ad := fun _ => 0) C0 hA a0 _ _ _ hm hw (lv_sub hl [0] rfl))
def mX10_isLetter_b0  (a0 : Int32) : Option (Int32) := (if (a0 : Int32) < 65 then some 0 else (if 90 < (a0 : Int32) then some 0 else some 1))
def mX10_isLetter  (a0 : Int32) : Option (Int32) := mX10_isLetter_b0 a0
set_option maxRecDepth 20000 in
theorem kX10_isLetter_b0 {p : Program} {l : Launch} {e : Env} {s : State} {m : MethodId} {args : Array Value} {below : List Frame} {meth : Method} {c : Code} {A : Nat → Prop} {E : EV} {ad : Nat → Nat}  {r : Int32} (C0 : Cx RX10 "isLetter" cX10_isLetter (some .boolean) 1 wsX10_isLetter p s m args meth c) (hA : Ax E A s) : ∀ (a0 : Int32) (H : Heap) (locs : List Loc) (ls : Array Slot), mX10_isLetter_b0 a0 = some r → Wd E A s H locs ([] : va_W) → lv_has ls 1 [(0, .int a0)] → W p l e ({ frames := 0, cells := 0, slots := 0, locals := 0 } : Room) s m args below meth c H locs 0 0 (MQ below (QG E (Qd (some (.int r)) ([] : va_W)) A) args s 0 0 A) (F0 m 0 ls []) := by
  have hx := C0.1
  have hb := C0.2.1
  intro a0 H locs ls hm hw hl
  unfold mX10_isLetter_b0 at hm
  refine lv_iload_n hx hb dX10_isLetter_0 rfl (lv_at hl 0 rfl) ?_
  refine lv_bipush (v := 65) hx hb dX10_isLetter_1 (by decide) ?_
  refine lv_icmp_lt (tgt := 16) hx hb dX10_isLetter_3 (by decide) (fun c1 => ?_) (fun c1 => ?_)
  · have hm := Eq.trans (if_pos c1).symm hm
    refine lv_iconst (v := 0) hx hb dX10_isLetter_16 (by decide) ?_
    obtain rfl := sj1 hm
    exact r_zret C0 hw dX10_isLetter_17 rfl ⟨rfl, rfl⟩
  · have hm := Eq.trans (if_neg c1).symm hm
    refine lv_iload_n hx hb dX10_isLetter_6 rfl (lv_at hl 0 rfl) ?_
    refine lv_bipush (v := 90) hx hb dX10_isLetter_7 (by decide) ?_
    refine lv_icmp_gt (tgt := 16) hx hb dX10_isLetter_9 (by decide) (fun c2 => ?_) (fun c2 => ?_)
    · have hm := Eq.trans (if_pos c2).symm hm
      refine lv_iconst (v := 0) hx hb dX10_isLetter_16 (by decide) ?_
      obtain rfl := sj1 hm
      exact r_zret C0 hw dX10_isLetter_17 rfl ⟨rfl, rfl⟩
    · have hm := Eq.trans (if_neg c2).symm hm
      refine lv_iconst (v := 1) hx hb dX10_isLetter_12 (by decide) ?_
      refine lv_goto (tgt := 17) hx hb dX10_isLetter_13 (by decide) ?_
      obtain rfl := sj1 hm
      exact r_zret C0 hw dX10_isLetter_17 rfl ⟨rfl, rfl⟩
theorem tX10_isLetter (l : Launch) (E : EV)  (a0 : Int32) {r : Int32} (hm : mX10_isLetter a0 = some r) : CT l yX10_isLetter wsX10_isLetter ({ frames := 0, cells := 0, slots := 0, locals := 0 } : Room) E [.int a0] ([] : va_W) (Qd (some (.int r)) ([] : va_W)) 0 0 :=
  CT.of (mL := 1) (lvs := [(0, .int a0)]) (by decide +kernel) rfl (Nat.le_of_ble_eq_true rfl) rfl rfl rfl (fun p e s m below meth c A C0 hA hw ls hl => kX10_isLetter_b0 (ad := fun _ => 0) C0 hA a0 _ _ _ hm hw (lv_sub hl [0] rfl))
theorem lkX10_text_120 : Cond.fieldLink RX10 120 (TX10 2).1 (TX10 2).2.1 (TX10 2).2.2.1 ∈ wsX10_text := by decide +kernel
theorem lkX10_text_13 : Cond.fieldLink RX10 13 (TX10 1).1 (TX10 1).2.1 (TX10 1).2.2.1 ∈ wsX10_text := by decide +kernel
theorem hiX10_text_X10 : ∀ w ∈ u_ws RX10 TX10 53, w ∈ wsX10_text := by decide +kernel
def mX10_text_b95 (F : Nat)  : Nat → OS → Int64 → Int32 → Option (Int32 × OS)
  | 0, _, _, _ => none
  | n + 1, zx, a1, a4 => (if 8 ≤ (a4 : Int32) then some (zx.1 2, zx) else nm (((a1 >>> ((56 - (8 * a4) : Int32).toInt64 &&& 63) : Int64).toInt32) &&& 255 : Int32) (fun v2 => (if (v2 : Int32) = 0 then nm (a4 + 1 : Int32) (fun v4 => mX10_text_b95 F n zx a1 v4) else gd (zx.1 2) 1200 (nm (sA zx 1 (zx.1 2) v2) (fun zx6 => nm (sI zx6 2 ((zx6.1 2) + 1)) (fun zx7 => nm (a4 + 1 : Int32) (fun v8 => mX10_text_b95 F n zx7 a1 v8)))))))
def mX10_text_b58 (F : Nat) (K5 : OS → Int64 → Int32 → Int32 → Option (Int32 × OS)) (zx : OS) (a1 : Int64) (a3 : Int32) (a4 : Int32) (a5 : Int32) : Option (Int32 × OS) := (if (a5 : Int32) = 0 then nm (a3 + 0 : Int32) (fun v2 => nm (a4 + 1 : Int32) (fun v3 => K5 zx a1 v2 v3)) else nm (a3 + 1 : Int32) (fun v4 => nm (a4 + 1 : Int32) (fun v5 => K5 zx a1 v4 v5)))
def mX10_text_b5 (F : Nat)  : Nat → OS → Int64 → Int32 → Int32 → Option (Int32 × OS)
  | 0, _, _, _, _ => none
  | n + 1, zx, a1, a3, a4 => (if 8 ≤ (a4 : Int32) then (if ((zx.1 2) + a3 : Int32) ≤ 1200 then nm (0 : Int32) (fun v3 => mX10_text_b95 F F zx a1 v3) else some ((-4), zx)) else nm (((a1 >>> ((56 - (8 * a4) : Int32).toInt64 &&& 63) : Int64).toInt32) &&& 255 : Int32) (fun v4 => (if 126 < (v4 : Int32) then some ((-2), zx) else (if 32 ≤ (v4 : Int32) then mX10_text_b58 F (mX10_text_b5 F n) zx a1 a3 a4 v4 else (if (v4 : Int32) = 0 then mX10_text_b58 F (mX10_text_b5 F n) zx a1 a3 a4 v4 else (if (v4 : Int32) = 10 then mX10_text_b58 F (mX10_text_b5 F n) zx a1 a3 a4 v4 else some ((-2), zx)))))))
def mX10_text_b0 (F : Nat)  (zx : OS) (a1 : Int64) : Option (Int32 × OS) := nm (0 : Int32) (fun v1 => nm (0 : Int32) (fun v2 => mX10_text_b5 F F zx a1 v1 v2))
def mX10_text (F : Nat) (zx : OS) (a1 : Int64) : Option (Int32 × OS) := mX10_text_b0 F zx a1
set_option maxRecDepth 20000 in
theorem kX10_text_b95 {p : Program} {l : Launch} {e : Env} {s : State} {m : MethodId} {args : Array Value} {below : List Frame} {meth : Method} {c : Code} {A : Nat → Prop} {E : EV} {ad : Nat → Nat} (F : Nat)  {r : Int32} {zx' : OS} (C0 : Cx RX10 "text" cX10_text (some .int) 6 wsX10_text p s m args meth c) (hA : Ax E A s) : ∀ (n : Nat) (zx : OS) (a1 : Int64) (a4 : Int32) (H : Heap) (locs : List Loc) (ls : Array Slot), mX10_text_b95 F n zx a1 a4 = some (r, zx') → Wd E A s H locs (wM E ad zx) → lv_has ls 6 [(0, .ref (ad 0)), (1, .long a1), (4, .int a4)] → W p l e ({ frames := 0, cells := 0, slots := 0, locals := 0 } : Room) s m args below meth c H locs 0 0 (MQ below (QG E (Qd (some (.int r)) (wM E ad zx')) A) args s 0 0 A) (F0 m 95 ls []) := by
  have hx := C0.1
  have hb := C0.2.1
  intro n
  induction n with
  | zero =>
    intro zx a1 a4 H locs ls hm
    cases hm
  | succ n ih =>
    intro zx a1 a4 H locs ls hm hw hl
    unfold mX10_text_b95 at hm
    refine lv_iload hx hb dX10_text_95 (lv_at hl 2 rfl) ?_
    refine lv_bipush (v := 8) hx hb dX10_text_97 (by decide) ?_
    refine lv_icmp_ge (tgt := 151) hx hb dX10_text_99 (by decide) (fun c1 => ?_) (fun c1 => ?_)
    · have hm := Eq.trans (if_pos c1).symm hm
      refine lv_aload_n hx hb dX10_text_151 rfl (lv_at hl 0 rfl) ?_
      refine gM_0_2 C0 hA hw hiX10_text_X10 lkX10_text_120 dX10_text_152 ?_
      obtain ⟨rfl, rfl⟩ := sj2 hm
      exact r_iret C0 hw dX10_text_155 ⟨rfl, rfl⟩
    · have hm := Eq.trans (if_neg c1).symm hm
      refine lv_lload_n hx hb dX10_text_102 rfl (lv_at hl 1 rfl) ?_
      refine lv_bipush (v := 56) hx hb dX10_text_103 (by decide) ?_
      refine lv_bipush (v := 8) hx hb dX10_text_105 (by decide) ?_
      refine lv_iload hx hb dX10_text_107 (lv_at hl 2 rfl) ?_
      refine lv_imul hx hb dX10_text_109 ?_
      refine lv_isub hx hb dX10_text_110 ?_
      refine lv_lshr hx hb dX10_text_111 rfl ?_
      refine lv_l2i hx hb dX10_text_112 rfl ?_
      refine lv_sipush (v := 255) hx hb dX10_text_113 (by decide) ?_
      refine lv_iand hx hb dX10_text_116 ?_
      refine lv_topi (fun v2 ev2 => ?_)
      have hm := nm_at hm ev2
      refine lv_istore (lv' := [(5, .int v2), (0, .ref (ad 0)), (1, .long a1), (4, .int a4)]) hx hb dX10_text_117 hl (by decide) rfl (fun ls hl => ?_)
      refine lv_iload hx hb dX10_text_119 (lv_at hl 0 rfl) ?_
      refine lv_if_eq (tgt := 145) hx hb dX10_text_121 (by decide) (fun c3 => ?_) (fun c3 => ?_)
      · have hm := Eq.trans (if_pos c3).symm hm
        obtain ⟨v4, ev4⟩ : ∃ y : Int32, y = a4 + 1 := ⟨_, rfl⟩
        have hm := nm_at hm ev4
        refine lv_iinc (v := v4) (lv' := [(4, .int v4), (5, .int v2), (0, .ref (ad 0)), (1, .long a1)]) hx hb dX10_text_145 hl (k := 3) rfl (by rw [ev4]; rfl) (by decide) rfl (fun ls hl => ?_)
        refine lv_goto (tgt := 95) hx hb dX10_text_148 (by decide) ?_
        exact ih zx a1 v4 _ _ _ hm hw (lv_sub hl [2, 3, 0] rfl)
      · have hm := Eq.trans (if_neg c3).symm hm
        refine lv_aload_n hx hb dX10_text_124 rfl (lv_at hl 1 rfl) ?_
        refine gM_0_1 C0 hA hw hiX10_text_X10 lkX10_text_13 dX10_text_125 ?_
        refine lv_aload_n hx hb dX10_text_128 rfl (lv_at hl 1 rfl) ?_
        refine gM_0_2 C0 hA hw hiX10_text_X10 lkX10_text_120 dX10_text_129 ?_
        refine lv_iload hx hb dX10_text_132 (lv_at hl 0 rfl) ?_
        obtain ⟨c5, hm⟩ := gd_some hm
        refine sM_2 C0 hA hw c5 dX10_text_134 (fun zx6 ezx6 H locs hw => ?_)
        have hm := nm_at hm ezx6
        refine lv_aload_n hx hb dX10_text_135 rfl (lv_at hl 1 rfl) ?_
        refine lv_dup hx hb dX10_text_136 rfl ?_
        refine gM_0_2 C0 hA hw hiX10_text_X10 lkX10_text_120 dX10_text_137 ?_
        refine lv_iconst (v := 1) hx hb dX10_text_140 (by decide) ?_
        refine lv_iadd hx hb dX10_text_141 ?_
        refine pM_0_2 C0 hA hw hiX10_text_X10 lkX10_text_120 dX10_text_142 (fun zx7 ezx7 H locs hw => ?_)
        have hm := nm_at hm ezx7
        obtain ⟨v8, ev8⟩ : ∃ y : Int32, y = a4 + 1 := ⟨_, rfl⟩
        have hm := nm_at hm ev8
        refine lv_iinc (v := v8) (lv' := [(4, .int v8), (5, .int v2), (0, .ref (ad 0)), (1, .long a1)]) hx hb dX10_text_145 hl (k := 3) rfl (by rw [ev8]; rfl) (by decide) rfl (fun ls hl => ?_)
        refine lv_goto (tgt := 95) hx hb dX10_text_148 (by decide) ?_
        exact ih zx7 a1 v8 _ _ _ hm hw (lv_sub hl [2, 3, 0] rfl)
set_option maxRecDepth 20000 in
theorem kX10_text_b58 {p : Program} {l : Launch} {e : Env} {s : State} {m : MethodId} {args : Array Value} {below : List Frame} {meth : Method} {c : Code} {A : Nat → Prop} {E : EV} {ad : Nat → Nat} (F : Nat)  {r : Int32} {zx' : OS} (C0 : Cx RX10 "text" cX10_text (some .int) 6 wsX10_text p s m args meth c) (hA : Ax E A s) (K5 : OS → Int64 → Int32 → Int32 → Option (Int32 × OS)) (hK5 : ∀ (zx : OS) (a1 : Int64) (a3 : Int32) (a4 : Int32) (H : Heap) (locs : List Loc) (ls : Array Slot), K5 zx a1 a3 a4 = some (r, zx') → Wd E A s H locs (wM E ad zx) → lv_has ls 6 [(0, .ref (ad 0)), (1, .long a1), (3, .int a3), (4, .int a4)] → W p l e ({ frames := 0, cells := 0, slots := 0, locals := 0 } : Room) s m args below meth c H locs 0 0 (MQ below (QG E (Qd (some (.int r)) (wM E ad zx')) A) args s 0 0 A) (F0 m 5 ls [])) : ∀ (zx : OS) (a1 : Int64) (a3 : Int32) (a4 : Int32) (a5 : Int32) (H : Heap) (locs : List Loc) (ls : Array Slot), mX10_text_b58 F K5 zx a1 a3 a4 a5 = some (r, zx') → Wd E A s H locs (wM E ad zx) → lv_has ls 6 [(0, .ref (ad 0)), (1, .long a1), (3, .int a3), (4, .int a4), (5, .int a5)] → W p l e ({ frames := 0, cells := 0, slots := 0, locals := 0 } : Room) s m args below meth c H locs 0 0 (MQ below (QG E (Qd (some (.int r)) (wM E ad zx')) A) args s 0 0 A) (F0 m 58 ls []) := by
  have hx := C0.1
  have hb := C0.2.1
  intro zx a1 a3 a4 a5 H locs ls hm hw hl
  unfold mX10_text_b58 at hm
  refine lv_iload_n hx hb dX10_text_58 rfl (lv_at hl 2 rfl) ?_
  refine lv_iload hx hb dX10_text_59 (lv_at hl 4 rfl) ?_
  refine lv_if_eq (tgt := 68) hx hb dX10_text_61 (by decide) (fun c1 => ?_) (fun c1 => ?_)
  · have hm := Eq.trans (if_pos c1).symm hm
    refine lv_iconst (v := 0) hx hb dX10_text_68 (by decide) ?_
    refine lv_iadd hx hb dX10_text_69 ?_
    refine lv_topi (fun v2 ev2 => ?_)
    have hm := nm_at hm ev2
    refine lv_istore_n (lv' := [(3, .int v2), (0, .ref (ad 0)), (1, .long a1), (4, .int a4), (5, .int a5)]) hx hb dX10_text_70 rfl hl (by decide) rfl (fun ls hl => ?_)
    obtain ⟨v3, ev3⟩ : ∃ y : Int32, y = a4 + 1 := ⟨_, rfl⟩
    have hm := nm_at hm ev3
    refine lv_iinc (v := v3) (lv' := [(4, .int v3), (3, .int v2), (0, .ref (ad 0)), (1, .long a1), (5, .int a5)]) hx hb dX10_text_71 hl (k := 3) rfl (by rw [ev3]; rfl) (by decide) rfl (fun ls hl => ?_)
    refine lv_goto (tgt := 5) hx hb dX10_text_74 (by decide) ?_
    exact hK5 zx a1 v2 v3 _ _ _ hm hw (lv_sub hl [2, 3, 1, 0] rfl)
  · have hm := Eq.trans (if_neg c1).symm hm
    refine lv_iconst (v := 1) hx hb dX10_text_64 (by decide) ?_
    refine lv_goto (tgt := 69) hx hb dX10_text_65 (by decide) ?_
    refine lv_iadd hx hb dX10_text_69 ?_
    refine lv_topi (fun v4 ev4 => ?_)
    have hm := nm_at hm ev4
    refine lv_istore_n (lv' := [(3, .int v4), (0, .ref (ad 0)), (1, .long a1), (4, .int a4), (5, .int a5)]) hx hb dX10_text_70 rfl hl (by decide) rfl (fun ls hl => ?_)
    obtain ⟨v5, ev5⟩ : ∃ y : Int32, y = a4 + 1 := ⟨_, rfl⟩
    have hm := nm_at hm ev5
    refine lv_iinc (v := v5) (lv' := [(4, .int v5), (3, .int v4), (0, .ref (ad 0)), (1, .long a1), (5, .int a5)]) hx hb dX10_text_71 hl (k := 3) rfl (by rw [ev5]; rfl) (by decide) rfl (fun ls hl => ?_)
    refine lv_goto (tgt := 5) hx hb dX10_text_74 (by decide) ?_
    exact hK5 zx a1 v4 v5 _ _ _ hm hw (lv_sub hl [2, 3, 1, 0] rfl)
set_option maxRecDepth 20000 in
theorem kX10_text_b5 {p : Program} {l : Launch} {e : Env} {s : State} {m : MethodId} {args : Array Value} {below : List Frame} {meth : Method} {c : Code} {A : Nat → Prop} {E : EV} {ad : Nat → Nat} (F : Nat)  {r : Int32} {zx' : OS} (C0 : Cx RX10 "text" cX10_text (some .int) 6 wsX10_text p s m args meth c) (hA : Ax E A s) : ∀ (n : Nat) (zx : OS) (a1 : Int64) (a3 : Int32) (a4 : Int32) (H : Heap) (locs : List Loc) (ls : Array Slot), mX10_text_b5 F n zx a1 a3 a4 = some (r, zx') → Wd E A s H locs (wM E ad zx) → lv_has ls 6 [(0, .ref (ad 0)), (1, .long a1), (3, .int a3), (4, .int a4)] → W p l e ({ frames := 0, cells := 0, slots := 0, locals := 0 } : Room) s m args below meth c H locs 0 0 (MQ below (QG E (Qd (some (.int r)) (wM E ad zx')) A) args s 0 0 A) (F0 m 5 ls []) := by
  have hx := C0.1
  have hb := C0.2.1
  intro n
  induction n with
  | zero =>
    intro zx a1 a3 a4 H locs ls hm
    cases hm
  | succ n ih =>
    intro zx a1 a3 a4 H locs ls hm hw hl
    unfold mX10_text_b5 at hm
    refine lv_iload hx hb dX10_text_5 (lv_at hl 3 rfl) ?_
    refine lv_bipush (v := 8) hx hb dX10_text_7 (by decide) ?_
    refine lv_icmp_ge (tgt := 77) hx hb dX10_text_9 (by decide) (fun c1 => ?_) (fun c1 => ?_)
    · have hm := Eq.trans (if_pos c1).symm hm
      refine lv_aload_n hx hb dX10_text_77 rfl (lv_at hl 0 rfl) ?_
      refine gM_0_2 C0 hA hw hiX10_text_X10 lkX10_text_120 dX10_text_78 ?_
      refine lv_iload_n hx hb dX10_text_81 rfl (lv_at hl 2 rfl) ?_
      refine lv_iadd hx hb dX10_text_82 ?_
      refine lv_sipush (v := 1200) hx hb dX10_text_83 (by decide) ?_
      refine lv_icmp_le (tgt := 92) hx hb dX10_text_86 (by decide) (fun c2 => ?_) (fun c2 => ?_)
      · have hm := Eq.trans (if_pos c2).symm hm
        refine lv_iconst (v := 0) hx hb dX10_text_92 (by decide) ?_
        refine lv_topi (fun v3 ev3 => ?_)
        have hm := nm_at hm ev3
        refine lv_istore (lv' := [(4, .int v3), (0, .ref (ad 0)), (1, .long a1), (3, .int a3)]) hx hb dX10_text_93 hl (by decide) rfl (fun ls hl => ?_)
        exact kX10_text_b95 F C0 hA F zx a1 v3 _ _ _ hm hw (lv_sub hl [1, 2, 0] rfl)
      · have hm := Eq.trans (if_neg c2).symm hm
        refine lv_bipush (v := (-4)) hx hb dX10_text_89 (by decide) ?_
        obtain ⟨rfl, rfl⟩ := sj2 hm
        exact r_iret C0 hw dX10_text_91 ⟨rfl, rfl⟩
    · have hm := Eq.trans (if_neg c1).symm hm
      refine lv_lload_n hx hb dX10_text_12 rfl (lv_at hl 1 rfl) ?_
      refine lv_bipush (v := 56) hx hb dX10_text_13 (by decide) ?_
      refine lv_bipush (v := 8) hx hb dX10_text_15 (by decide) ?_
      refine lv_iload hx hb dX10_text_17 (lv_at hl 3 rfl) ?_
      refine lv_imul hx hb dX10_text_19 ?_
      refine lv_isub hx hb dX10_text_20 ?_
      refine lv_lshr hx hb dX10_text_21 rfl ?_
      refine lv_l2i hx hb dX10_text_22 rfl ?_
      refine lv_sipush (v := 255) hx hb dX10_text_23 (by decide) ?_
      refine lv_iand hx hb dX10_text_26 ?_
      refine lv_topi (fun v4 ev4 => ?_)
      have hm := nm_at hm ev4
      refine lv_istore (lv' := [(5, .int v4), (0, .ref (ad 0)), (1, .long a1), (3, .int a3), (4, .int a4)]) hx hb dX10_text_27 hl (by decide) rfl (fun ls hl => ?_)
      refine lv_iload hx hb dX10_text_29 (lv_at hl 0 rfl) ?_
      refine lv_bipush (v := 126) hx hb dX10_text_31 (by decide) ?_
      refine lv_icmp_gt (tgt := 55) hx hb dX10_text_33 (by decide) (fun c5 => ?_) (fun c5 => ?_)
      · have hm := Eq.trans (if_pos c5).symm hm
        refine lv_bipush (v := (-2)) hx hb dX10_text_55 (by decide) ?_
        obtain ⟨rfl, rfl⟩ := sj2 hm
        exact r_iret C0 hw dX10_text_57 ⟨rfl, rfl⟩
      · have hm := Eq.trans (if_neg c5).symm hm
        refine lv_iload hx hb dX10_text_36 (lv_at hl 0 rfl) ?_
        refine lv_bipush (v := 32) hx hb dX10_text_38 (by decide) ?_
        refine lv_icmp_ge (tgt := 58) hx hb dX10_text_40 (by decide) (fun c6 => ?_) (fun c6 => ?_)
        · have hm := Eq.trans (if_pos c6).symm hm
          exact kX10_text_b58 F C0 hA _ ih zx a1 a3 a4 v4 _ _ _ hm hw (lv_sub hl [1, 2, 3, 4, 0] rfl)
        · have hm := Eq.trans (if_neg c6).symm hm
          refine lv_iload hx hb dX10_text_43 (lv_at hl 0 rfl) ?_
          refine lv_if_eq (tgt := 58) hx hb dX10_text_45 (by decide) (fun c7 => ?_) (fun c7 => ?_)
          · have hm := Eq.trans (if_pos c7).symm hm
            exact kX10_text_b58 F C0 hA _ ih zx a1 a3 a4 v4 _ _ _ hm hw (lv_sub hl [1, 2, 3, 4, 0] rfl)
          · have hm := Eq.trans (if_neg c7).symm hm
            refine lv_iload hx hb dX10_text_48 (lv_at hl 0 rfl) ?_
            refine lv_bipush (v := 10) hx hb dX10_text_50 (by decide) ?_
            refine lv_icmp_eq (tgt := 58) hx hb dX10_text_52 (by decide) (fun c8 => ?_) (fun c8 => ?_)
            · have hm := Eq.trans (if_pos c8).symm hm
              exact kX10_text_b58 F C0 hA _ ih zx a1 a3 a4 v4 _ _ _ hm hw (lv_sub hl [1, 2, 3, 4, 0] rfl)
            · have hm := Eq.trans (if_neg c8).symm hm
              refine lv_bipush (v := (-2)) hx hb dX10_text_55 (by decide) ?_
              obtain ⟨rfl, rfl⟩ := sj2 hm
              exact r_iret C0 hw dX10_text_57 ⟨rfl, rfl⟩
set_option maxRecDepth 20000 in
theorem kX10_text_b0 {p : Program} {l : Launch} {e : Env} {s : State} {m : MethodId} {args : Array Value} {below : List Frame} {meth : Method} {c : Code} {A : Nat → Prop} {E : EV} {ad : Nat → Nat} (F : Nat)  {r : Int32} {zx' : OS} (C0 : Cx RX10 "text" cX10_text (some .int) 6 wsX10_text p s m args meth c) (hA : Ax E A s) : ∀ (zx : OS) (a1 : Int64) (H : Heap) (locs : List Loc) (ls : Array Slot), mX10_text_b0 F zx a1 = some (r, zx') → Wd E A s H locs (wM E ad zx) → lv_has ls 6 [(0, .ref (ad 0)), (1, .long a1)] → W p l e ({ frames := 0, cells := 0, slots := 0, locals := 0 } : Room) s m args below meth c H locs 0 0 (MQ below (QG E (Qd (some (.int r)) (wM E ad zx')) A) args s 0 0 A) (F0 m 0 ls []) := by
  have hx := C0.1
  have hb := C0.2.1
  intro zx a1 H locs ls hm hw hl
  unfold mX10_text_b0 at hm
  refine lv_iconst (v := 0) hx hb dX10_text_0 (by decide) ?_
  refine lv_topi (fun v1 ev1 => ?_)
  have hm := nm_at hm ev1
  refine lv_istore_n (lv' := [(3, .int v1), (0, .ref (ad 0)), (1, .long a1)]) hx hb dX10_text_1 rfl hl (by decide) rfl (fun ls hl => ?_)
  refine lv_iconst (v := 0) hx hb dX10_text_2 (by decide) ?_
  refine lv_topi (fun v2 ev2 => ?_)
  have hm := nm_at hm ev2
  refine lv_istore (lv' := [(4, .int v2), (3, .int v1), (0, .ref (ad 0)), (1, .long a1)]) hx hb dX10_text_3 hl (by decide) rfl (fun ls hl => ?_)
  exact kX10_text_b5 F C0 hA F zx a1 v1 v2 _ _ _ hm hw (lv_sub hl [2, 3, 1, 0] rfl)
theorem tX10_text (l : Launch) (E : EV) (ad : Nat → Nat) (F : Nat) (zx : OS) (a1 : Int64) {r : Int32} {zx' : OS} (hm : mX10_text F zx a1 = some (r, zx')) : CT l yX10_text wsX10_text ({ frames := 0, cells := 0, slots := 0, locals := 0 } : Room) E [.ref (ad 0), .long a1] (wM E ad zx) (Qd (some (.int r)) (wM E ad zx')) 0 0 :=
  CT.of (mL := 6) (lvs := [(0, .ref (ad 0)), (1, .long a1)]) (by decide +kernel) rfl (Nat.le_of_ble_eq_true rfl) rfl rfl rfl (fun p e s m below meth c A C0 hA hw ls hl => kX10_text_b0 (ad := ad) F C0 hA zx a1 _ _ _ hm hw (lv_sub hl [0, 1] rfl))
theorem lkX10_readLength_131 : Cond.fieldLink RX10 131 (TX10 17).1 (TX10 17).2.1 (TX10 17).2.2.1 ∈ wsX10_readLength := by decide +kernel
theorem lkX10_readLength_40 : Cond.fieldLink RX10 40 (TX10 11).1 (TX10 11).2.1 (TX10 11).2.2.1 ∈ wsX10_readLength := by decide +kernel
theorem hiX10_readLength_X10 : ∀ w ∈ u_ws RX10 TX10 53, w ∈ wsX10_readLength := by decide +kernel
def mX10_readLength_b21  (zx : OS) : Option (OS) := b1 (mX10_fail zx (zx.1 17)) (fun zx1 => some zx1)
def mX10_readLength_b101  (zx : OS) (a1 : Int32) (a3 : Int32) : Option (OS) := b1 (mX10_peek zx (zx.1 17)) (fun r1 => b1 (mX10_isDigit r1) (fun r3 => (if (r3 : Int32) = 0 then gd a1 482 (nm (sA zx 11 a1 a3) (fun zx7 => some zx7)) else b1 (mX10_fail zx (zx.1 17)) (fun zx8 => gd a1 482 (nm (sA zx8 11 a1 a3) (fun zx11 => some zx11))))))
def mX10_readLength_b0  (zx : OS) (a1 : Int32) : Option (OS) := b1 (mX10_peek zx (zx.1 17)) (fun r1 => (if (r1 : Int32) < 49 then mX10_readLength_b21 zx else (if (r1 : Int32) ≤ 57 then nm (r1 - 48 : Int32) (fun v5 => nm (sI zx 17 ((zx.1 17) + 1)) (fun zx6 => (if (v5 : Int32) = 1 then b1 (mX10_peek zx6 (zx6.1 17)) (fun r8 => (if (r8 : Int32) < 48 then mX10_readLength_b101 zx6 a1 v5 else b1 (mX10_peek zx6 (zx6.1 17)) (fun r11 => (if 54 < (r11 : Int32) then mX10_readLength_b101 zx6 a1 v5 else b1 (mX10_peek zx6 (zx6.1 17)) (fun r14 => nm ((10 + r14) - 48 : Int32) (fun v16 => nm (sI zx6 17 ((zx6.1 17) + 1)) (fun zx17 => mX10_readLength_b101 zx17 a1 v16))))))) else mX10_readLength_b101 zx6 a1 v5))) else mX10_readLength_b21 zx)))
def mX10_readLength (zx : OS) (a1 : Int32) : Option (OS) := mX10_readLength_b0 zx a1
set_option maxRecDepth 20000 in
theorem kX10_readLength_b21 {p : Program} {l : Launch} {e : Env} {s : State} {m : MethodId} {args : Array Value} {below : List Frame} {meth : Method} {c : Code} {A : Nat → Prop} {E : EV} {ad : Nat → Nat}  {zx' : OS} (C0 : Cx RX10 "readLength" cX10_readLength (none) 4 wsX10_readLength p s m args meth c) (hA : Ax E A s) : ∀ (zx : OS) (H : Heap) (locs : List Loc) (ls : Array Slot), mX10_readLength_b21 zx = some zx' → Wd E A s H locs (wM E ad zx) → lv_has ls 4 [(0, .ref (ad 0))] → W p l e ({ frames := 1, cells := 0, slots := 0, locals := 21 } : Room) s m args below meth c H locs 0 0 (MQ below (QG E (Qd none (wM E ad zx')) A) args s 0 0 A) (F0 m 21 ls []) := by
  have hx := C0.1
  have hb := C0.2.1
  intro zx H locs ls hm hw hl
  unfold mX10_readLength_b21 at hm
  refine lv_aload_n hx hb dX10_readLength_21 rfl (lv_at hl 0 rfl) ?_
  refine lv_aload_n hx hb dX10_readLength_22 rfl (lv_at hl 0 rfl) ?_
  refine gM_0_17 C0 hA hw hiX10_readLength_X10 lkX10_readLength_131 dX10_readLength_23 ?_
  obtain ⟨zx1, h2, hm⟩ := b1_some hm
  refine r_backS (va_runV (As := [.int (zx.1 17)]) (rest := []) ⟨hx, hb, C0.2.2.2.1, C0.2.2.2.2.1, C0.2.2.2.2.2.1⟩ (tX10_fail l E ad zx (zx.1 17) h2 H.size) (cwV 1 C0.2.2.2.2.2.1 gX10_readLength_X10_fail rfl rfl rfl (by decide +kernel) ⟨Nat.le_of_ble_eq_true rfl, Nat.le_of_ble_eq_true rfl⟩) ⟨PG_blind, va_recv hA.2.2.1.1 hw.1 (ci := 10) (q0 := 0) rfl rfl, pg_self hA hw⟩ rfl rfl hl.1 rfl (lv_room (Nat.le_of_ble_eq_true rfl)) dX10_readLength_26 ⟨Nat.zero_le _, Nat.zero_le _⟩) hA hw (fun H locs hw => ?_)
  obtain rfl := sj1 hm
  exact r_vret C0 hw dX10_readLength_29 ⟨rfl, rfl⟩
set_option maxRecDepth 20000 in
theorem kX10_readLength_b101 {p : Program} {l : Launch} {e : Env} {s : State} {m : MethodId} {args : Array Value} {below : List Frame} {meth : Method} {c : Code} {A : Nat → Prop} {E : EV} {ad : Nat → Nat}  {zx' : OS} (C0 : Cx RX10 "readLength" cX10_readLength (none) 4 wsX10_readLength p s m args meth c) (hA : Ax E A s) : ∀ (zx : OS) (a1 : Int32) (a3 : Int32) (H : Heap) (locs : List Loc) (ls : Array Slot), mX10_readLength_b101 zx a1 a3 = some zx' → Wd E A s H locs (wM E ad zx) → lv_has ls 4 [(0, .ref (ad 0)), (1, .int a1), (3, .int a3)] → W p l e ({ frames := 1, cells := 0, slots := 0, locals := 21 } : Room) s m args below meth c H locs 0 0 (MQ below (QG E (Qd none (wM E ad zx')) A) args s 0 0 A) (F0 m 101 ls []) := by
  have hx := C0.1
  have hb := C0.2.1
  intro zx a1 a3 H locs ls hm hw hl
  unfold mX10_readLength_b101 at hm
  refine lv_aload_n hx hb dX10_readLength_101 rfl (lv_at hl 0 rfl) ?_
  refine lv_aload_n hx hb dX10_readLength_102 rfl (lv_at hl 0 rfl) ?_
  refine gM_0_17 C0 hA hw hiX10_readLength_X10 lkX10_readLength_131 dX10_readLength_103 ?_
  obtain ⟨r1, h2, hm⟩ := b1_some hm
  refine r_backS (va_runV (As := [.int (zx.1 17)]) (rest := []) ⟨hx, hb, C0.2.2.2.1, C0.2.2.2.2.1, C0.2.2.2.2.2.1⟩ (tX10_peek l E ad zx (zx.1 17) h2 H.size) (cwV 1 C0.2.2.2.2.2.1 gX10_readLength_X10_peek rfl rfl rfl (by decide +kernel) ⟨Nat.le_of_ble_eq_true rfl, Nat.le_of_ble_eq_true rfl⟩) ⟨PG_blind, va_recv hA.2.2.1.1 hw.1 (ci := 10) (q0 := 0) rfl rfl, pg_self hA hw⟩ rfl rfl hl.1 rfl (lv_room (Nat.le_of_ble_eq_true rfl)) dX10_readLength_106 ⟨Nat.zero_le _, Nat.zero_le _⟩) hA hw (fun H locs hw => ?_)
  obtain ⟨r3, h4, hm⟩ := b1_some hm
  refine r_backZ (va_runS (As := [.int r1]) (rest := []) ⟨hx, hb, C0.2.2.2.1, C0.2.2.2.2.1, C0.2.2.2.2.2.1⟩ (tX10_isDigit l E r1 h4 H.size) (va_cwS 1 C0.2.2.2.2.2.1 gX10_readLength_X10_isDigit rfl rfl rfl (by decide +kernel) ⟨Nat.le_of_ble_eq_true rfl, Nat.le_of_ble_eq_true rfl⟩) ⟨PG_blind, pg_nil hA hw⟩ rfl rfl hl.1 rfl (lv_room (Nat.le_of_ble_eq_true rfl)) dX10_readLength_109 ⟨Nat.zero_le _, Nat.zero_le _⟩) hA hw (fun H locs hw => ?_)
  refine lv_if_eq (tgt := 123) hx hb dX10_readLength_112 (by decide) (fun c5 => ?_) (fun c5 => ?_)
  · have hm := Eq.trans (if_pos c5).symm hm
    refine lv_aload_n hx hb dX10_readLength_123 rfl (lv_at hl 0 rfl) ?_
    refine gM_0_11 C0 hA hw hiX10_readLength_X10 lkX10_readLength_40 dX10_readLength_124 ?_
    refine lv_iload_n hx hb dX10_readLength_127 rfl (lv_at hl 1 rfl) ?_
    refine lv_iload_n hx hb dX10_readLength_128 rfl (lv_at hl 2 rfl) ?_
    obtain ⟨c6, hm⟩ := gd_some hm
    refine sM_11 C0 hA hw c6 dX10_readLength_129 (fun zx7 ezx7 H locs hw => ?_)
    have hm := nm_at hm ezx7
    obtain rfl := sj1 hm
    exact r_vret C0 hw dX10_readLength_130 ⟨rfl, rfl⟩
  · have hm := Eq.trans (if_neg c5).symm hm
    refine lv_aload_n hx hb dX10_readLength_115 rfl (lv_at hl 0 rfl) ?_
    refine lv_aload_n hx hb dX10_readLength_116 rfl (lv_at hl 0 rfl) ?_
    refine gM_0_17 C0 hA hw hiX10_readLength_X10 lkX10_readLength_131 dX10_readLength_117 ?_
    obtain ⟨zx8, h9, hm⟩ := b1_some hm
    refine r_backS (va_runV (As := [.int (zx.1 17)]) (rest := []) ⟨hx, hb, C0.2.2.2.1, C0.2.2.2.2.1, C0.2.2.2.2.2.1⟩ (tX10_fail l E ad zx (zx.1 17) h9 H.size) (cwV 1 C0.2.2.2.2.2.1 gX10_readLength_X10_fail rfl rfl rfl (by decide +kernel) ⟨Nat.le_of_ble_eq_true rfl, Nat.le_of_ble_eq_true rfl⟩) ⟨PG_blind, va_recv hA.2.2.1.1 hw.1 (ci := 10) (q0 := 0) rfl rfl, pg_self hA hw⟩ rfl rfl hl.1 rfl (lv_room (Nat.le_of_ble_eq_true rfl)) dX10_readLength_120 ⟨Nat.zero_le _, Nat.zero_le _⟩) hA hw (fun H locs hw => ?_)
    refine lv_aload_n hx hb dX10_readLength_123 rfl (lv_at hl 0 rfl) ?_
    refine gM_0_11 C0 hA hw hiX10_readLength_X10 lkX10_readLength_40 dX10_readLength_124 ?_
    refine lv_iload_n hx hb dX10_readLength_127 rfl (lv_at hl 1 rfl) ?_
    refine lv_iload_n hx hb dX10_readLength_128 rfl (lv_at hl 2 rfl) ?_
    obtain ⟨c10, hm⟩ := gd_some hm
    refine sM_11 C0 hA hw c10 dX10_readLength_129 (fun zx11 ezx11 H locs hw => ?_)
    have hm := nm_at hm ezx11
    obtain rfl := sj1 hm
    exact r_vret C0 hw dX10_readLength_130 ⟨rfl, rfl⟩
set_option maxRecDepth 20000 in
theorem kX10_readLength_b0 {p : Program} {l : Launch} {e : Env} {s : State} {m : MethodId} {args : Array Value} {below : List Frame} {meth : Method} {c : Code} {A : Nat → Prop} {E : EV} {ad : Nat → Nat}  {zx' : OS} (C0 : Cx RX10 "readLength" cX10_readLength (none) 4 wsX10_readLength p s m args meth c) (hA : Ax E A s) : ∀ (zx : OS) (a1 : Int32) (H : Heap) (locs : List Loc) (ls : Array Slot), mX10_readLength_b0 zx a1 = some zx' → Wd E A s H locs (wM E ad zx) → lv_has ls 4 [(0, .ref (ad 0)), (1, .int a1)] → W p l e ({ frames := 1, cells := 0, slots := 0, locals := 21 } : Room) s m args below meth c H locs 0 0 (MQ below (QG E (Qd none (wM E ad zx')) A) args s 0 0 A) (F0 m 0 ls []) := by
  have hx := C0.1
  have hb := C0.2.1
  intro zx a1 H locs ls hm hw hl
  unfold mX10_readLength_b0 at hm
  refine lv_aload_n hx hb dX10_readLength_0 rfl (lv_at hl 0 rfl) ?_
  refine lv_aload_n hx hb dX10_readLength_1 rfl (lv_at hl 0 rfl) ?_
  refine gM_0_17 C0 hA hw hiX10_readLength_X10 lkX10_readLength_131 dX10_readLength_2 ?_
  obtain ⟨r1, h2, hm⟩ := b1_some hm
  refine r_backS (va_runV (As := [.int (zx.1 17)]) (rest := []) ⟨hx, hb, C0.2.2.2.1, C0.2.2.2.2.1, C0.2.2.2.2.2.1⟩ (tX10_peek l E ad zx (zx.1 17) h2 H.size) (cwV 1 C0.2.2.2.2.2.1 gX10_readLength_X10_peek rfl rfl rfl (by decide +kernel) ⟨Nat.le_of_ble_eq_true rfl, Nat.le_of_ble_eq_true rfl⟩) ⟨PG_blind, va_recv hA.2.2.1.1 hw.1 (ci := 10) (q0 := 0) rfl rfl, pg_self hA hw⟩ rfl rfl hl.1 rfl (lv_room (Nat.le_of_ble_eq_true rfl)) dX10_readLength_5 ⟨Nat.zero_le _, Nat.zero_le _⟩) hA hw (fun H locs hw => ?_)
  refine lv_istore_n (lv' := [(2, .int r1), (0, .ref (ad 0)), (1, .int a1)]) hx hb dX10_readLength_8 rfl hl (by decide) rfl (fun ls hl => ?_)
  refine lv_iload_n hx hb dX10_readLength_9 rfl (lv_at hl 0 rfl) ?_
  refine lv_bipush (v := 49) hx hb dX10_readLength_10 (by decide) ?_
  refine lv_icmp_lt (tgt := 21) hx hb dX10_readLength_12 (by decide) (fun c3 => ?_) (fun c3 => ?_)
  · have hm := Eq.trans (if_pos c3).symm hm
    exact kX10_readLength_b21 C0 hA zx _ _ _ hm hw (lv_sub hl [1] rfl)
  · have hm := Eq.trans (if_neg c3).symm hm
    refine lv_iload_n hx hb dX10_readLength_15 rfl (lv_at hl 0 rfl) ?_
    refine lv_bipush (v := 57) hx hb dX10_readLength_16 (by decide) ?_
    refine lv_icmp_le (tgt := 30) hx hb dX10_readLength_18 (by decide) (fun c4 => ?_) (fun c4 => ?_)
    · have hm := Eq.trans (if_pos c4).symm hm
      refine lv_iload_n hx hb dX10_readLength_30 rfl (lv_at hl 0 rfl) ?_
      refine lv_bipush (v := 48) hx hb dX10_readLength_31 (by decide) ?_
      refine lv_isub hx hb dX10_readLength_33 ?_
      refine lv_topi (fun v5 ev5 => ?_)
      have hm := nm_at hm ev5
      refine lv_istore_n (lv' := [(3, .int v5), (2, .int r1), (0, .ref (ad 0)), (1, .int a1)]) hx hb dX10_readLength_34 rfl hl (by decide) rfl (fun ls hl => ?_)
      refine lv_aload_n hx hb dX10_readLength_35 rfl (lv_at hl 2 rfl) ?_
      refine lv_dup hx hb dX10_readLength_36 rfl ?_
      refine gM_0_17 C0 hA hw hiX10_readLength_X10 lkX10_readLength_131 dX10_readLength_37 ?_
      refine lv_iconst (v := 1) hx hb dX10_readLength_40 (by decide) ?_
      refine lv_iadd hx hb dX10_readLength_41 ?_
      refine pM_0_17 C0 hA hw hiX10_readLength_X10 lkX10_readLength_131 dX10_readLength_42 (fun zx6 ezx6 H locs hw => ?_)
      have hm := nm_at hm ezx6
      refine lv_iload_n hx hb dX10_readLength_45 rfl (lv_at hl 0 rfl) ?_
      refine lv_iconst (v := 1) hx hb dX10_readLength_46 (by decide) ?_
      refine lv_icmp_ne (tgt := 101) hx hb dX10_readLength_47 (by decide) (fun c7 => ?_) (fun c7 => ?_)
      · have hm := Eq.trans (if_neg c7).symm hm
        exact kX10_readLength_b101 C0 hA zx6 a1 v5 _ _ _ hm hw (lv_sub hl [2, 3, 0] rfl)
      · have hm := Eq.trans (if_pos c7).symm hm
        refine lv_aload_n hx hb dX10_readLength_50 rfl (lv_at hl 2 rfl) ?_
        refine lv_aload_n hx hb dX10_readLength_51 rfl (lv_at hl 2 rfl) ?_
        refine gM_0_17 C0 hA hw hiX10_readLength_X10 lkX10_readLength_131 dX10_readLength_52 ?_
        obtain ⟨r8, h9, hm⟩ := b1_some hm
        refine r_backS (va_runV (As := [.int (zx6.1 17)]) (rest := []) ⟨hx, hb, C0.2.2.2.1, C0.2.2.2.2.1, C0.2.2.2.2.2.1⟩ (tX10_peek l E ad zx6 (zx6.1 17) h9 H.size) (cwV 1 C0.2.2.2.2.2.1 gX10_readLength_X10_peek rfl rfl rfl (by decide +kernel) ⟨Nat.le_of_ble_eq_true rfl, Nat.le_of_ble_eq_true rfl⟩) ⟨PG_blind, va_recv hA.2.2.1.1 hw.1 (ci := 10) (q0 := 0) rfl rfl, pg_self hA hw⟩ rfl rfl hl.1 rfl (lv_room (Nat.le_of_ble_eq_true rfl)) dX10_readLength_55 ⟨Nat.zero_le _, Nat.zero_le _⟩) hA hw (fun H locs hw => ?_)
        refine lv_bipush (v := 48) hx hb dX10_readLength_58 (by decide) ?_
        refine lv_icmp_lt (tgt := 101) hx hb dX10_readLength_60 (by decide) (fun c10 => ?_) (fun c10 => ?_)
        · have hm := Eq.trans (if_pos c10).symm hm
          exact kX10_readLength_b101 C0 hA zx6 a1 v5 _ _ _ hm hw (lv_sub hl [2, 3, 0] rfl)
        · have hm := Eq.trans (if_neg c10).symm hm
          refine lv_aload_n hx hb dX10_readLength_63 rfl (lv_at hl 2 rfl) ?_
          refine lv_aload_n hx hb dX10_readLength_64 rfl (lv_at hl 2 rfl) ?_
          refine gM_0_17 C0 hA hw hiX10_readLength_X10 lkX10_readLength_131 dX10_readLength_65 ?_
          obtain ⟨r11, h12, hm⟩ := b1_some hm
          refine r_backS (va_runV (As := [.int (zx6.1 17)]) (rest := []) ⟨hx, hb, C0.2.2.2.1, C0.2.2.2.2.1, C0.2.2.2.2.2.1⟩ (tX10_peek l E ad zx6 (zx6.1 17) h12 H.size) (cwV 1 C0.2.2.2.2.2.1 gX10_readLength_X10_peek rfl rfl rfl (by decide +kernel) ⟨Nat.le_of_ble_eq_true rfl, Nat.le_of_ble_eq_true rfl⟩) ⟨PG_blind, va_recv hA.2.2.1.1 hw.1 (ci := 10) (q0 := 0) rfl rfl, pg_self hA hw⟩ rfl rfl hl.1 rfl (lv_room (Nat.le_of_ble_eq_true rfl)) dX10_readLength_68 ⟨Nat.zero_le _, Nat.zero_le _⟩) hA hw (fun H locs hw => ?_)
          refine lv_bipush (v := 54) hx hb dX10_readLength_71 (by decide) ?_
          refine lv_icmp_gt (tgt := 101) hx hb dX10_readLength_73 (by decide) (fun c13 => ?_) (fun c13 => ?_)
          · have hm := Eq.trans (if_pos c13).symm hm
            exact kX10_readLength_b101 C0 hA zx6 a1 v5 _ _ _ hm hw (lv_sub hl [2, 3, 0] rfl)
          · have hm := Eq.trans (if_neg c13).symm hm
            refine lv_bipush (v := 10) hx hb dX10_readLength_76 (by decide) ?_
            refine lv_aload_n hx hb dX10_readLength_78 rfl (lv_at hl 2 rfl) ?_
            refine lv_aload_n hx hb dX10_readLength_79 rfl (lv_at hl 2 rfl) ?_
            refine gM_0_17 C0 hA hw hiX10_readLength_X10 lkX10_readLength_131 dX10_readLength_80 ?_
            obtain ⟨r14, h15, hm⟩ := b1_some hm
            refine r_backS (va_runV (As := [.int (zx6.1 17)]) (rest := [.int 10]) ⟨hx, hb, C0.2.2.2.1, C0.2.2.2.2.1, C0.2.2.2.2.2.1⟩ (tX10_peek l E ad zx6 (zx6.1 17) h15 H.size) (cwV 1 C0.2.2.2.2.2.1 gX10_readLength_X10_peek rfl rfl rfl (by decide +kernel) ⟨Nat.le_of_ble_eq_true rfl, Nat.le_of_ble_eq_true rfl⟩) ⟨PG_blind, va_recv hA.2.2.1.1 hw.1 (ci := 10) (q0 := 0) rfl rfl, pg_self hA hw⟩ rfl rfl hl.1 rfl (lv_room (Nat.le_of_ble_eq_true rfl)) dX10_readLength_83 ⟨Nat.zero_le _, Nat.zero_le _⟩) hA hw (fun H locs hw => ?_)
            refine lv_iadd hx hb dX10_readLength_86 ?_
            refine lv_bipush (v := 48) hx hb dX10_readLength_87 (by decide) ?_
            refine lv_isub hx hb dX10_readLength_89 ?_
            refine lv_topi (fun v16 ev16 => ?_)
            have hm := nm_at hm ev16
            refine lv_istore_n (lv' := [(3, .int v16), (2, .int r1), (0, .ref (ad 0)), (1, .int a1)]) hx hb dX10_readLength_90 rfl hl (by decide) rfl (fun ls hl => ?_)
            refine lv_aload_n hx hb dX10_readLength_91 rfl (lv_at hl 2 rfl) ?_
            refine lv_dup hx hb dX10_readLength_92 rfl ?_
            refine gM_0_17 C0 hA hw hiX10_readLength_X10 lkX10_readLength_131 dX10_readLength_93 ?_
            refine lv_iconst (v := 1) hx hb dX10_readLength_96 (by decide) ?_
            refine lv_iadd hx hb dX10_readLength_97 ?_
            refine pM_0_17 C0 hA hw hiX10_readLength_X10 lkX10_readLength_131 dX10_readLength_98 (fun zx17 ezx17 H locs hw => ?_)
            have hm := nm_at hm ezx17
            exact kX10_readLength_b101 C0 hA zx17 a1 v16 _ _ _ hm hw (lv_sub hl [2, 3, 0] rfl)
    · have hm := Eq.trans (if_neg c4).symm hm
      exact kX10_readLength_b21 C0 hA zx _ _ _ hm hw (lv_sub hl [1] rfl)
theorem tX10_readLength (l : Launch) (E : EV) (ad : Nat → Nat) (zx : OS) (a1 : Int32) {zx' : OS} (hm : mX10_readLength zx a1 = some zx') : CT l yX10_readLength wsX10_readLength ({ frames := 1, cells := 0, slots := 0, locals := 21 } : Room) E [.ref (ad 0), .int a1] (wM E ad zx) (Qd none (wM E ad zx')) 0 0 :=
  CT.of (mL := 4) (lvs := [(0, .ref (ad 0)), (1, .int a1)]) (by decide +kernel) rfl (Nat.le_of_ble_eq_true rfl) rfl rfl rfl (fun p e s m below meth c A C0 hA hw ls hl => kX10_readLength_b0 (ad := ad) C0 hA zx a1 _ _ _ hm hw (lv_sub hl [0, 1] rfl))
theorem lkX10_readSign_131 : Cond.fieldLink RX10 131 (TX10 17).1 (TX10 17).2.1 (TX10 17).2.2.1 ∈ wsX10_readSign := by decide +kernel
theorem lkX10_readSign_37 : Cond.fieldLink RX10 37 (TX10 10).1 (TX10 10).2.1 (TX10 10).2.2.1 ∈ wsX10_readSign := by decide +kernel
theorem lkX10_readSign_34 : Cond.fieldLink RX10 34 (TX10 9).1 (TX10 9).2.1 (TX10 9).2.2.1 ∈ wsX10_readSign := by decide +kernel
theorem lkX10_readSign_43 : Cond.fieldLink RX10 43 (TX10 12).1 (TX10 12).2.1 (TX10 12).2.2.1 ∈ wsX10_readSign := by decide +kernel
theorem lkX10_readSign_40 : Cond.fieldLink RX10 40 (TX10 11).1 (TX10 11).2.1 (TX10 11).2.2.1 ∈ wsX10_readSign := by decide +kernel
theorem lkX10_readSign_31 : Cond.fieldLink RX10 31 (TX10 8).1 (TX10 8).2.1 (TX10 8).2.2.1 ∈ wsX10_readSign := by decide +kernel
theorem hiX10_readSign_X10 : ∀ w ∈ u_ws RX10 TX10 53, w ∈ wsX10_readSign := by decide +kernel
def mX10_readSign_b170 (F : Nat)  (zx : OS) (a1 : Int32) : Option (OS) := b1 (mX10_peek zx (zx.1 17)) (fun r1 => (if (r1 : Int32) = 58 then nm (sI zx 17 ((zx.1 17) + 1)) (fun zx4 => b1 (mX10_readLength zx4 a1) (fun zx5 => some zx5)) else some zx))
def mX10_readSign_b169 (F : Nat)  (zx : OS) (a1 : Int32) (t1 : Int32) (t2 : Int32) : Option (OS) := gd t1 482 (nm (sA zx 10 t1 t2) (fun zx2 => mX10_readSign_b170 F zx2 a1))
def mX10_readSign_b150 (F : Nat)  (zx : OS) (a1 : Int32) (a3 : Int32) (a4 : Int32) : Option (OS) := (if (a3 : Int32) = 44 then mX10_readSign_b169 F zx a1 a1 (-a4) else mX10_readSign_b169 F zx a1 a1 a4)
def mX10_readSign_b116 (F : Nat) (K104 : OS → Int32 → Int32 → Int32 → Option (OS)) (zx : OS) (a1 : Int32) (a3 : Int32) (a4 : Int32) : Option (OS) := b1 (mX10_peek zx (zx.1 17)) (fun r1 => (if (r1 : Int32) = a3 then (if 2 ≤ (a4 : Int32) then mX10_readSign_b150 F zx a1 a3 a4 else nm (a4 + 1 : Int32) (fun v5 => nm (sI zx 17 ((zx.1 17) + 1)) (fun zx6 => K104 zx6 a1 a3 v5))) else mX10_readSign_b150 F zx a1 a3 a4))
def mX10_readSign_b104 (F : Nat)  : Nat → OS → Int32 → Int32 → Int32 → Option (OS)
  | 0, _, _, _, _ => none
  | n + 1, zx, a1, a3, a4 => (if (a3 : Int32) = 39 then mX10_readSign_b116 F (mX10_readSign_b104 F n) zx a1 a3 a4 else (if (a3 : Int32) = 44 then mX10_readSign_b116 F (mX10_readSign_b104 F n) zx a1 a3 a4 else mX10_readSign_b150 F zx a1 a3 a4))
def mX10_readSign_b75 (F : Nat)  (zx : OS) (a1 : Int32) (a2 : Int32) (t1 : Int32) (t2 : Int32) : Option (OS) := gd t1 482 (nm (sA zx 8 t1 t2) (fun zx2 => gd a1 482 (nm (sA zx2 9 a1 (a2 - 48)) (fun zx4 => (if (a2 : Int32) = 114 then mX10_readSign_b170 F zx4 a1 else b1 (mX10_peek zx4 (zx4.1 17)) (fun r6 => nm (0 : Int32) (fun v8 => mX10_readSign_b104 F F zx4 a1 r6 v8)))))))
def mX10_readSign_b0 (F : Nat)  (zx : OS) (a1 : Int32) (a2 : Int32) : Option (OS) := gd a1 482 (nm (sA zx 12 a1 (zx.1 17)) (fun zx2 => gd a1 482 (nm (sA zx2 10 a1 0) (fun zx4 => gd a1 482 (nm (sA zx4 11 a1 4) (fun zx6 => nm (sI zx6 17 ((zx6.1 17) + 1)) (fun zx7 => b1 (mX10_isLetter a2) (fun r8 => (if (r8 : Int32) = 0 then (if (a2 : Int32) = 114 then mX10_readSign_b75 F zx7 a1 a2 a1 2 else mX10_readSign_b75 F zx7 a1 a2 a1 1) else gd a1 482 (nm (sA zx7 8 a1 0) (fun zx13 => gd a1 482 (nm (sA zx13 9 a1 (a2 - 65)) (fun zx15 => some zx15)))))))))))))
def mX10_readSign (F : Nat) (zx : OS) (a1 : Int32) (a2 : Int32) : Option (OS) := mX10_readSign_b0 F zx a1 a2
set_option maxRecDepth 20000 in
theorem kX10_readSign_b170 {p : Program} {l : Launch} {e : Env} {s : State} {m : MethodId} {args : Array Value} {below : List Frame} {meth : Method} {c : Code} {A : Nat → Prop} {E : EV} {ad : Nat → Nat} (F : Nat)  {zx' : OS} (C0 : Cx RX10 "readSign" cX10_readSign (none) 5 wsX10_readSign p s m args meth c) (hA : Ax E A s) : ∀ (zx : OS) (a1 : Int32) (H : Heap) (locs : List Loc) (ls : Array Slot), mX10_readSign_b170 F zx a1 = some zx' → Wd E A s H locs (wM E ad zx) → lv_has ls 5 [(0, .ref (ad 0)), (1, .int a1)] → W p l e ({ frames := 2, cells := 0, slots := 0, locals := 44 } : Room) s m args below meth c H locs 0 0 (MQ below (QG E (Qd none (wM E ad zx')) A) args s 0 0 A) (F0 m 170 ls []) := by
  have hx := C0.1
  have hb := C0.2.1
  intro zx a1 H locs ls hm hw hl
  unfold mX10_readSign_b170 at hm
  refine lv_aload_n hx hb dX10_readSign_170 rfl (lv_at hl 0 rfl) ?_
  refine lv_aload_n hx hb dX10_readSign_171 rfl (lv_at hl 0 rfl) ?_
  refine gM_0_17 C0 hA hw hiX10_readSign_X10 lkX10_readSign_131 dX10_readSign_172 ?_
  obtain ⟨r1, h2, hm⟩ := b1_some hm
  refine r_backS (va_runV (As := [.int (zx.1 17)]) (rest := []) ⟨hx, hb, C0.2.2.2.1, C0.2.2.2.2.1, C0.2.2.2.2.2.1⟩ (tX10_peek l E ad zx (zx.1 17) h2 H.size) (cwV 1 C0.2.2.2.2.2.1 gX10_readSign_X10_peek rfl rfl rfl (by decide +kernel) ⟨Nat.le_of_ble_eq_true rfl, Nat.le_of_ble_eq_true rfl⟩) ⟨PG_blind, va_recv hA.2.2.1.1 hw.1 (ci := 10) (q0 := 0) rfl rfl, pg_self hA hw⟩ rfl rfl hl.1 rfl (lv_room (Nat.le_of_ble_eq_true rfl)) dX10_readSign_175 ⟨Nat.zero_le _, Nat.zero_le _⟩) hA hw (fun H locs hw => ?_)
  refine lv_bipush (v := 58) hx hb dX10_readSign_178 (by decide) ?_
  refine lv_icmp_ne (tgt := 198) hx hb dX10_readSign_180 (by decide) (fun c3 => ?_) (fun c3 => ?_)
  · have hm := Eq.trans (if_neg c3).symm hm
    obtain rfl := sj1 hm
    exact r_vret C0 hw dX10_readSign_198 ⟨rfl, rfl⟩
  · have hm := Eq.trans (if_pos c3).symm hm
    refine lv_aload_n hx hb dX10_readSign_183 rfl (lv_at hl 0 rfl) ?_
    refine lv_dup hx hb dX10_readSign_184 rfl ?_
    refine gM_0_17 C0 hA hw hiX10_readSign_X10 lkX10_readSign_131 dX10_readSign_185 ?_
    refine lv_iconst (v := 1) hx hb dX10_readSign_188 (by decide) ?_
    refine lv_iadd hx hb dX10_readSign_189 ?_
    refine pM_0_17 C0 hA hw hiX10_readSign_X10 lkX10_readSign_131 dX10_readSign_190 (fun zx4 ezx4 H locs hw => ?_)
    have hm := nm_at hm ezx4
    refine lv_aload_n hx hb dX10_readSign_193 rfl (lv_at hl 0 rfl) ?_
    refine lv_iload_n hx hb dX10_readSign_194 rfl (lv_at hl 1 rfl) ?_
    obtain ⟨zx5, h6, hm⟩ := b1_some hm
    refine r_backS (va_runV (As := [.int a1]) (rest := []) ⟨hx, hb, C0.2.2.2.1, C0.2.2.2.2.1, C0.2.2.2.2.2.1⟩ (tX10_readLength l E ad zx4 a1 h6 H.size) (cwV 1 C0.2.2.2.2.2.1 gX10_readSign_X10_readLength rfl rfl rfl (by decide +kernel) ⟨Nat.le_of_ble_eq_true rfl, Nat.le_of_ble_eq_true rfl⟩) ⟨PG_blind, va_recv hA.2.2.1.1 hw.1 (ci := 10) (q0 := 0) rfl rfl, pg_self hA hw⟩ rfl rfl hl.1 rfl (lv_room (Nat.le_of_ble_eq_true rfl)) dX10_readSign_195 ⟨Nat.zero_le _, Nat.zero_le _⟩) hA hw (fun H locs hw => ?_)
    obtain rfl := sj1 hm
    exact r_vret C0 hw dX10_readSign_198 ⟨rfl, rfl⟩
set_option maxRecDepth 20000 in
theorem kX10_readSign_b169 {p : Program} {l : Launch} {e : Env} {s : State} {m : MethodId} {args : Array Value} {below : List Frame} {meth : Method} {c : Code} {A : Nat → Prop} {E : EV} {ad : Nat → Nat} (F : Nat)  {zx' : OS} (C0 : Cx RX10 "readSign" cX10_readSign (none) 5 wsX10_readSign p s m args meth c) (hA : Ax E A s) : ∀ (zx : OS) (a1 : Int32) (t1 : Int32) (t2 : Int32) (H : Heap) (locs : List Loc) (ls : Array Slot), mX10_readSign_b169 F zx a1 t1 t2 = some zx' → Wd E A s H locs (wM E ad zx) → lv_has ls 5 [(0, .ref (ad 0)), (1, .int a1)] → W p l e ({ frames := 2, cells := 0, slots := 0, locals := 44 } : Room) s m args below meth c H locs 0 0 (MQ below (QG E (Qd none (wM E ad zx')) A) args s 0 0 A) (F0 m 169 ls [.int t2, .int t1, .ref (ad 10)]) := by
  have hx := C0.1
  have hb := C0.2.1
  intro zx a1 t1 t2 H locs ls hm hw hl
  unfold mX10_readSign_b169 at hm
  obtain ⟨c1, hm⟩ := gd_some hm
  refine sM_10 C0 hA hw c1 dX10_readSign_169 (fun zx2 ezx2 H locs hw => ?_)
  have hm := nm_at hm ezx2
  exact kX10_readSign_b170 F C0 hA zx2 a1 _ _ _ hm hw (lv_sub hl [0, 1] rfl)
set_option maxRecDepth 20000 in
theorem kX10_readSign_b150 {p : Program} {l : Launch} {e : Env} {s : State} {m : MethodId} {args : Array Value} {below : List Frame} {meth : Method} {c : Code} {A : Nat → Prop} {E : EV} {ad : Nat → Nat} (F : Nat)  {zx' : OS} (C0 : Cx RX10 "readSign" cX10_readSign (none) 5 wsX10_readSign p s m args meth c) (hA : Ax E A s) : ∀ (zx : OS) (a1 : Int32) (a3 : Int32) (a4 : Int32) (H : Heap) (locs : List Loc) (ls : Array Slot), mX10_readSign_b150 F zx a1 a3 a4 = some zx' → Wd E A s H locs (wM E ad zx) → lv_has ls 5 [(0, .ref (ad 0)), (1, .int a1), (3, .int a3), (4, .int a4)] → W p l e ({ frames := 2, cells := 0, slots := 0, locals := 44 } : Room) s m args below meth c H locs 0 0 (MQ below (QG E (Qd none (wM E ad zx')) A) args s 0 0 A) (F0 m 150 ls []) := by
  have hx := C0.1
  have hb := C0.2.1
  intro zx a1 a3 a4 H locs ls hm hw hl
  unfold mX10_readSign_b150 at hm
  refine lv_aload_n hx hb dX10_readSign_150 rfl (lv_at hl 0 rfl) ?_
  refine gM_0_10 C0 hA hw hiX10_readSign_X10 lkX10_readSign_37 dX10_readSign_151 ?_
  refine lv_iload_n hx hb dX10_readSign_154 rfl (lv_at hl 1 rfl) ?_
  refine lv_iload_n hx hb dX10_readSign_155 rfl (lv_at hl 2 rfl) ?_
  refine lv_bipush (v := 44) hx hb dX10_readSign_156 (by decide) ?_
  refine lv_icmp_ne (tgt := 167) hx hb dX10_readSign_158 (by decide) (fun c1 => ?_) (fun c1 => ?_)
  · have hm := Eq.trans (if_neg c1).symm hm
    refine lv_iload hx hb dX10_readSign_167 (lv_at hl 3 rfl) ?_
    exact kX10_readSign_b169 F C0 hA zx a1 a1 a4 _ _ _ hm hw (lv_sub hl [0, 1] rfl)
  · have hm := Eq.trans (if_pos c1).symm hm
    refine lv_iload hx hb dX10_readSign_161 (lv_at hl 3 rfl) ?_
    refine lv_ineg hx hb dX10_readSign_163 ?_
    refine lv_goto (tgt := 169) hx hb dX10_readSign_164 (by decide) ?_
    exact kX10_readSign_b169 F C0 hA zx a1 a1 (-a4) _ _ _ hm hw (lv_sub hl [0, 1] rfl)
set_option maxRecDepth 20000 in
theorem kX10_readSign_b116 {p : Program} {l : Launch} {e : Env} {s : State} {m : MethodId} {args : Array Value} {below : List Frame} {meth : Method} {c : Code} {A : Nat → Prop} {E : EV} {ad : Nat → Nat} (F : Nat)  {zx' : OS} (C0 : Cx RX10 "readSign" cX10_readSign (none) 5 wsX10_readSign p s m args meth c) (hA : Ax E A s) (K104 : OS → Int32 → Int32 → Int32 → Option (OS)) (hK104 : ∀ (zx : OS) (a1 : Int32) (a3 : Int32) (a4 : Int32) (H : Heap) (locs : List Loc) (ls : Array Slot), K104 zx a1 a3 a4 = some zx' → Wd E A s H locs (wM E ad zx) → lv_has ls 5 [(0, .ref (ad 0)), (1, .int a1), (3, .int a3), (4, .int a4)] → W p l e ({ frames := 2, cells := 0, slots := 0, locals := 44 } : Room) s m args below meth c H locs 0 0 (MQ below (QG E (Qd none (wM E ad zx')) A) args s 0 0 A) (F0 m 104 ls [])) : ∀ (zx : OS) (a1 : Int32) (a3 : Int32) (a4 : Int32) (H : Heap) (locs : List Loc) (ls : Array Slot), mX10_readSign_b116 F K104 zx a1 a3 a4 = some zx' → Wd E A s H locs (wM E ad zx) → lv_has ls 5 [(0, .ref (ad 0)), (1, .int a1), (3, .int a3), (4, .int a4)] → W p l e ({ frames := 2, cells := 0, slots := 0, locals := 44 } : Room) s m args below meth c H locs 0 0 (MQ below (QG E (Qd none (wM E ad zx')) A) args s 0 0 A) (F0 m 116 ls []) := by
  have hx := C0.1
  have hb := C0.2.1
  intro zx a1 a3 a4 H locs ls hm hw hl
  unfold mX10_readSign_b116 at hm
  refine lv_aload_n hx hb dX10_readSign_116 rfl (lv_at hl 0 rfl) ?_
  refine lv_aload_n hx hb dX10_readSign_117 rfl (lv_at hl 0 rfl) ?_
  refine gM_0_17 C0 hA hw hiX10_readSign_X10 lkX10_readSign_131 dX10_readSign_118 ?_
  obtain ⟨r1, h2, hm⟩ := b1_some hm
  refine r_backS (va_runV (As := [.int (zx.1 17)]) (rest := []) ⟨hx, hb, C0.2.2.2.1, C0.2.2.2.2.1, C0.2.2.2.2.2.1⟩ (tX10_peek l E ad zx (zx.1 17) h2 H.size) (cwV 1 C0.2.2.2.2.2.1 gX10_readSign_X10_peek rfl rfl rfl (by decide +kernel) ⟨Nat.le_of_ble_eq_true rfl, Nat.le_of_ble_eq_true rfl⟩) ⟨PG_blind, va_recv hA.2.2.1.1 hw.1 (ci := 10) (q0 := 0) rfl rfl, pg_self hA hw⟩ rfl rfl hl.1 rfl (lv_room (Nat.le_of_ble_eq_true rfl)) dX10_readSign_121 ⟨Nat.zero_le _, Nat.zero_le _⟩) hA hw (fun H locs hw => ?_)
  refine lv_iload_n hx hb dX10_readSign_124 rfl (lv_at hl 2 rfl) ?_
  refine lv_icmp_ne (tgt := 150) hx hb dX10_readSign_125 (by decide) (fun c3 => ?_) (fun c3 => ?_)
  · have hm := Eq.trans (if_neg c3).symm hm
    exact kX10_readSign_b150 F C0 hA zx a1 a3 a4 _ _ _ hm hw (lv_sub hl [0, 1, 2, 3] rfl)
  · have hm := Eq.trans (if_pos c3).symm hm
    refine lv_iload hx hb dX10_readSign_128 (lv_at hl 3 rfl) ?_
    refine lv_iconst (v := 2) hx hb dX10_readSign_130 (by decide) ?_
    refine lv_icmp_ge (tgt := 150) hx hb dX10_readSign_131 (by decide) (fun c4 => ?_) (fun c4 => ?_)
    · have hm := Eq.trans (if_pos c4).symm hm
      exact kX10_readSign_b150 F C0 hA zx a1 a3 a4 _ _ _ hm hw (lv_sub hl [0, 1, 2, 3] rfl)
    · have hm := Eq.trans (if_neg c4).symm hm
      obtain ⟨v5, ev5⟩ : ∃ y : Int32, y = a4 + 1 := ⟨_, rfl⟩
      have hm := nm_at hm ev5
      refine lv_iinc (v := v5) (lv' := [(4, .int v5), (0, .ref (ad 0)), (1, .int a1), (3, .int a3)]) hx hb dX10_readSign_134 hl (k := 3) rfl (by rw [ev5]; rfl) (by decide) rfl (fun ls hl => ?_)
      refine lv_aload_n hx hb dX10_readSign_137 rfl (lv_at hl 1 rfl) ?_
      refine lv_dup hx hb dX10_readSign_138 rfl ?_
      refine gM_0_17 C0 hA hw hiX10_readSign_X10 lkX10_readSign_131 dX10_readSign_139 ?_
      refine lv_iconst (v := 1) hx hb dX10_readSign_142 (by decide) ?_
      refine lv_iadd hx hb dX10_readSign_143 ?_
      refine pM_0_17 C0 hA hw hiX10_readSign_X10 lkX10_readSign_131 dX10_readSign_144 (fun zx6 ezx6 H locs hw => ?_)
      have hm := nm_at hm ezx6
      refine lv_goto (tgt := 104) hx hb dX10_readSign_147 (by decide) ?_
      exact hK104 zx6 a1 a3 v5 _ _ _ hm hw (lv_sub hl [1, 2, 3, 0] rfl)
set_option maxRecDepth 20000 in
theorem kX10_readSign_b104 {p : Program} {l : Launch} {e : Env} {s : State} {m : MethodId} {args : Array Value} {below : List Frame} {meth : Method} {c : Code} {A : Nat → Prop} {E : EV} {ad : Nat → Nat} (F : Nat)  {zx' : OS} (C0 : Cx RX10 "readSign" cX10_readSign (none) 5 wsX10_readSign p s m args meth c) (hA : Ax E A s) : ∀ (n : Nat) (zx : OS) (a1 : Int32) (a3 : Int32) (a4 : Int32) (H : Heap) (locs : List Loc) (ls : Array Slot), mX10_readSign_b104 F n zx a1 a3 a4 = some zx' → Wd E A s H locs (wM E ad zx) → lv_has ls 5 [(0, .ref (ad 0)), (1, .int a1), (3, .int a3), (4, .int a4)] → W p l e ({ frames := 2, cells := 0, slots := 0, locals := 44 } : Room) s m args below meth c H locs 0 0 (MQ below (QG E (Qd none (wM E ad zx')) A) args s 0 0 A) (F0 m 104 ls []) := by
  have hx := C0.1
  have hb := C0.2.1
  intro n
  induction n with
  | zero =>
    intro zx a1 a3 a4 H locs ls hm
    cases hm
  | succ n ih =>
    intro zx a1 a3 a4 H locs ls hm hw hl
    unfold mX10_readSign_b104 at hm
    refine lv_iload_n hx hb dX10_readSign_104 rfl (lv_at hl 2 rfl) ?_
    refine lv_bipush (v := 39) hx hb dX10_readSign_105 (by decide) ?_
    refine lv_icmp_eq (tgt := 116) hx hb dX10_readSign_107 (by decide) (fun c1 => ?_) (fun c1 => ?_)
    · have hm := Eq.trans (if_pos c1).symm hm
      exact kX10_readSign_b116 F C0 hA _ ih zx a1 a3 a4 _ _ _ hm hw (lv_sub hl [0, 1, 2, 3] rfl)
    · have hm := Eq.trans (if_neg c1).symm hm
      refine lv_iload_n hx hb dX10_readSign_110 rfl (lv_at hl 2 rfl) ?_
      refine lv_bipush (v := 44) hx hb dX10_readSign_111 (by decide) ?_
      refine lv_icmp_ne (tgt := 150) hx hb dX10_readSign_113 (by decide) (fun c2 => ?_) (fun c2 => ?_)
      · have hm := Eq.trans (if_neg c2).symm hm
        exact kX10_readSign_b150 F C0 hA zx a1 a3 a4 _ _ _ hm hw (lv_sub hl [0, 1, 2, 3] rfl)
      · have hm := Eq.trans (if_pos c2).symm hm
        exact kX10_readSign_b116 F C0 hA _ ih zx a1 a3 a4 _ _ _ hm hw (lv_sub hl [0, 1, 2, 3] rfl)
set_option maxRecDepth 20000 in
theorem kX10_readSign_b75 {p : Program} {l : Launch} {e : Env} {s : State} {m : MethodId} {args : Array Value} {below : List Frame} {meth : Method} {c : Code} {A : Nat → Prop} {E : EV} {ad : Nat → Nat} (F : Nat)  {zx' : OS} (C0 : Cx RX10 "readSign" cX10_readSign (none) 5 wsX10_readSign p s m args meth c) (hA : Ax E A s) : ∀ (zx : OS) (a1 : Int32) (a2 : Int32) (t1 : Int32) (t2 : Int32) (H : Heap) (locs : List Loc) (ls : Array Slot), mX10_readSign_b75 F zx a1 a2 t1 t2 = some zx' → Wd E A s H locs (wM E ad zx) → lv_has ls 5 [(0, .ref (ad 0)), (1, .int a1), (2, .int a2)] → W p l e ({ frames := 2, cells := 0, slots := 0, locals := 44 } : Room) s m args below meth c H locs 0 0 (MQ below (QG E (Qd none (wM E ad zx')) A) args s 0 0 A) (F0 m 75 ls [.int t2, .int t1, .ref (ad 8)]) := by
  have hx := C0.1
  have hb := C0.2.1
  intro zx a1 a2 t1 t2 H locs ls hm hw hl
  unfold mX10_readSign_b75 at hm
  obtain ⟨c1, hm⟩ := gd_some hm
  refine sM_8 C0 hA hw c1 dX10_readSign_75 (fun zx2 ezx2 H locs hw => ?_)
  have hm := nm_at hm ezx2
  refine lv_aload_n hx hb dX10_readSign_76 rfl (lv_at hl 0 rfl) ?_
  refine gM_0_9 C0 hA hw hiX10_readSign_X10 lkX10_readSign_34 dX10_readSign_77 ?_
  refine lv_iload_n hx hb dX10_readSign_80 rfl (lv_at hl 1 rfl) ?_
  refine lv_iload_n hx hb dX10_readSign_81 rfl (lv_at hl 2 rfl) ?_
  refine lv_bipush (v := 48) hx hb dX10_readSign_82 (by decide) ?_
  refine lv_isub hx hb dX10_readSign_84 ?_
  obtain ⟨c3, hm⟩ := gd_some hm
  refine sM_9 C0 hA hw c3 dX10_readSign_85 (fun zx4 ezx4 H locs hw => ?_)
  have hm := nm_at hm ezx4
  refine lv_iload_n hx hb dX10_readSign_86 rfl (lv_at hl 2 rfl) ?_
  refine lv_bipush (v := 114) hx hb dX10_readSign_87 (by decide) ?_
  refine lv_icmp_eq (tgt := 170) hx hb dX10_readSign_89 (by decide) (fun c5 => ?_) (fun c5 => ?_)
  · have hm := Eq.trans (if_pos c5).symm hm
    exact kX10_readSign_b170 F C0 hA zx4 a1 _ _ _ hm hw (lv_sub hl [0, 1] rfl)
  · have hm := Eq.trans (if_neg c5).symm hm
    refine lv_aload_n hx hb dX10_readSign_92 rfl (lv_at hl 0 rfl) ?_
    refine lv_aload_n hx hb dX10_readSign_93 rfl (lv_at hl 0 rfl) ?_
    refine gM_0_17 C0 hA hw hiX10_readSign_X10 lkX10_readSign_131 dX10_readSign_94 ?_
    obtain ⟨r6, h7, hm⟩ := b1_some hm
    refine r_backS (va_runV (As := [.int (zx4.1 17)]) (rest := []) ⟨hx, hb, C0.2.2.2.1, C0.2.2.2.2.1, C0.2.2.2.2.2.1⟩ (tX10_peek l E ad zx4 (zx4.1 17) h7 H.size) (cwV 1 C0.2.2.2.2.2.1 gX10_readSign_X10_peek rfl rfl rfl (by decide +kernel) ⟨Nat.le_of_ble_eq_true rfl, Nat.le_of_ble_eq_true rfl⟩) ⟨PG_blind, va_recv hA.2.2.1.1 hw.1 (ci := 10) (q0 := 0) rfl rfl, pg_self hA hw⟩ rfl rfl hl.1 rfl (lv_room (Nat.le_of_ble_eq_true rfl)) dX10_readSign_97 ⟨Nat.zero_le _, Nat.zero_le _⟩) hA hw (fun H locs hw => ?_)
    refine lv_istore_n (lv' := [(3, .int r6), (0, .ref (ad 0)), (1, .int a1), (2, .int a2)]) hx hb dX10_readSign_100 rfl hl (by decide) rfl (fun ls hl => ?_)
    refine lv_iconst (v := 0) hx hb dX10_readSign_101 (by decide) ?_
    refine lv_topi (fun v8 ev8 => ?_)
    have hm := nm_at hm ev8
    refine lv_istore (lv' := [(4, .int v8), (3, .int r6), (0, .ref (ad 0)), (1, .int a1), (2, .int a2)]) hx hb dX10_readSign_102 hl (by decide) rfl (fun ls hl => ?_)
    exact kX10_readSign_b104 F C0 hA F zx4 a1 r6 v8 _ _ _ hm hw (lv_sub hl [2, 3, 1, 0] rfl)
set_option maxRecDepth 20000 in
theorem kX10_readSign_b0 {p : Program} {l : Launch} {e : Env} {s : State} {m : MethodId} {args : Array Value} {below : List Frame} {meth : Method} {c : Code} {A : Nat → Prop} {E : EV} {ad : Nat → Nat} (F : Nat)  {zx' : OS} (C0 : Cx RX10 "readSign" cX10_readSign (none) 5 wsX10_readSign p s m args meth c) (hA : Ax E A s) : ∀ (zx : OS) (a1 : Int32) (a2 : Int32) (H : Heap) (locs : List Loc) (ls : Array Slot), mX10_readSign_b0 F zx a1 a2 = some zx' → Wd E A s H locs (wM E ad zx) → lv_has ls 5 [(0, .ref (ad 0)), (1, .int a1), (2, .int a2)] → W p l e ({ frames := 2, cells := 0, slots := 0, locals := 44 } : Room) s m args below meth c H locs 0 0 (MQ below (QG E (Qd none (wM E ad zx')) A) args s 0 0 A) (F0 m 0 ls []) := by
  have hx := C0.1
  have hb := C0.2.1
  intro zx a1 a2 H locs ls hm hw hl
  unfold mX10_readSign_b0 at hm
  refine lv_aload_n hx hb dX10_readSign_0 rfl (lv_at hl 0 rfl) ?_
  refine gM_0_12 C0 hA hw hiX10_readSign_X10 lkX10_readSign_43 dX10_readSign_1 ?_
  refine lv_iload_n hx hb dX10_readSign_4 rfl (lv_at hl 1 rfl) ?_
  refine lv_aload_n hx hb dX10_readSign_5 rfl (lv_at hl 0 rfl) ?_
  refine gM_0_17 C0 hA hw hiX10_readSign_X10 lkX10_readSign_131 dX10_readSign_6 ?_
  obtain ⟨c1, hm⟩ := gd_some hm
  refine sM_12 C0 hA hw c1 dX10_readSign_9 (fun zx2 ezx2 H locs hw => ?_)
  have hm := nm_at hm ezx2
  refine lv_aload_n hx hb dX10_readSign_10 rfl (lv_at hl 0 rfl) ?_
  refine gM_0_10 C0 hA hw hiX10_readSign_X10 lkX10_readSign_37 dX10_readSign_11 ?_
  refine lv_iload_n hx hb dX10_readSign_14 rfl (lv_at hl 1 rfl) ?_
  refine lv_iconst (v := 0) hx hb dX10_readSign_15 (by decide) ?_
  obtain ⟨c3, hm⟩ := gd_some hm
  refine sM_10 C0 hA hw c3 dX10_readSign_16 (fun zx4 ezx4 H locs hw => ?_)
  have hm := nm_at hm ezx4
  refine lv_aload_n hx hb dX10_readSign_17 rfl (lv_at hl 0 rfl) ?_
  refine gM_0_11 C0 hA hw hiX10_readSign_X10 lkX10_readSign_40 dX10_readSign_18 ?_
  refine lv_iload_n hx hb dX10_readSign_21 rfl (lv_at hl 1 rfl) ?_
  refine lv_iconst (v := 4) hx hb dX10_readSign_22 (by decide) ?_
  obtain ⟨c5, hm⟩ := gd_some hm
  refine sM_11 C0 hA hw c5 dX10_readSign_23 (fun zx6 ezx6 H locs hw => ?_)
  have hm := nm_at hm ezx6
  refine lv_aload_n hx hb dX10_readSign_24 rfl (lv_at hl 0 rfl) ?_
  refine lv_dup hx hb dX10_readSign_25 rfl ?_
  refine gM_0_17 C0 hA hw hiX10_readSign_X10 lkX10_readSign_131 dX10_readSign_26 ?_
  refine lv_iconst (v := 1) hx hb dX10_readSign_29 (by decide) ?_
  refine lv_iadd hx hb dX10_readSign_30 ?_
  refine pM_0_17 C0 hA hw hiX10_readSign_X10 lkX10_readSign_131 dX10_readSign_31 (fun zx7 ezx7 H locs hw => ?_)
  have hm := nm_at hm ezx7
  refine lv_iload_n hx hb dX10_readSign_34 rfl (lv_at hl 2 rfl) ?_
  obtain ⟨r8, h9, hm⟩ := b1_some hm
  refine r_backZ (va_runS (As := [.int a2]) (rest := []) ⟨hx, hb, C0.2.2.2.1, C0.2.2.2.2.1, C0.2.2.2.2.2.1⟩ (tX10_isLetter l E a2 h9 H.size) (va_cwS 1 C0.2.2.2.2.2.1 gX10_readSign_X10_isLetter rfl rfl rfl (by decide +kernel) ⟨Nat.le_of_ble_eq_true rfl, Nat.le_of_ble_eq_true rfl⟩) ⟨PG_blind, pg_nil hA hw⟩ rfl rfl hl.1 rfl (lv_room (Nat.le_of_ble_eq_true rfl)) dX10_readSign_35 ⟨Nat.zero_le _, Nat.zero_le _⟩) hA hw (fun H locs hw => ?_)
  refine lv_if_eq (tgt := 59) hx hb dX10_readSign_38 (by decide) (fun c10 => ?_) (fun c10 => ?_)
  · have hm := Eq.trans (if_pos c10).symm hm
    refine lv_aload_n hx hb dX10_readSign_59 rfl (lv_at hl 0 rfl) ?_
    refine gM_0_8 C0 hA hw hiX10_readSign_X10 lkX10_readSign_31 dX10_readSign_60 ?_
    refine lv_iload_n hx hb dX10_readSign_63 rfl (lv_at hl 1 rfl) ?_
    refine lv_iload_n hx hb dX10_readSign_64 rfl (lv_at hl 2 rfl) ?_
    refine lv_bipush (v := 114) hx hb dX10_readSign_65 (by decide) ?_
    refine lv_icmp_ne (tgt := 74) hx hb dX10_readSign_67 (by decide) (fun c11 => ?_) (fun c11 => ?_)
    · have hm := Eq.trans (if_neg c11).symm hm
      refine lv_iconst (v := 1) hx hb dX10_readSign_74 (by decide) ?_
      exact kX10_readSign_b75 F C0 hA zx7 a1 a2 a1 1 _ _ _ hm hw (lv_sub hl [0, 1, 2] rfl)
    · have hm := Eq.trans (if_pos c11).symm hm
      refine lv_iconst (v := 2) hx hb dX10_readSign_70 (by decide) ?_
      refine lv_goto (tgt := 75) hx hb dX10_readSign_71 (by decide) ?_
      exact kX10_readSign_b75 F C0 hA zx7 a1 a2 a1 2 _ _ _ hm hw (lv_sub hl [0, 1, 2] rfl)
  · have hm := Eq.trans (if_neg c10).symm hm
    refine lv_aload_n hx hb dX10_readSign_41 rfl (lv_at hl 0 rfl) ?_
    refine gM_0_8 C0 hA hw hiX10_readSign_X10 lkX10_readSign_31 dX10_readSign_42 ?_
    refine lv_iload_n hx hb dX10_readSign_45 rfl (lv_at hl 1 rfl) ?_
    refine lv_iconst (v := 0) hx hb dX10_readSign_46 (by decide) ?_
    obtain ⟨c12, hm⟩ := gd_some hm
    refine sM_8 C0 hA hw c12 dX10_readSign_47 (fun zx13 ezx13 H locs hw => ?_)
    have hm := nm_at hm ezx13
    refine lv_aload_n hx hb dX10_readSign_48 rfl (lv_at hl 0 rfl) ?_
    refine gM_0_9 C0 hA hw hiX10_readSign_X10 lkX10_readSign_34 dX10_readSign_49 ?_
    refine lv_iload_n hx hb dX10_readSign_52 rfl (lv_at hl 1 rfl) ?_
    refine lv_iload_n hx hb dX10_readSign_53 rfl (lv_at hl 2 rfl) ?_
    refine lv_bipush (v := 65) hx hb dX10_readSign_54 (by decide) ?_
    refine lv_isub hx hb dX10_readSign_56 ?_
    obtain ⟨c14, hm⟩ := gd_some hm
    refine sM_9 C0 hA hw c14 dX10_readSign_57 (fun zx15 ezx15 H locs hw => ?_)
    have hm := nm_at hm ezx15
    obtain rfl := sj1 hm
    exact r_vret C0 hw dX10_readSign_58 ⟨rfl, rfl⟩
theorem tX10_readSign (l : Launch) (E : EV) (ad : Nat → Nat) (F : Nat) (zx : OS) (a1 : Int32) (a2 : Int32) {zx' : OS} (hm : mX10_readSign F zx a1 a2 = some zx') : CT l yX10_readSign wsX10_readSign ({ frames := 2, cells := 0, slots := 0, locals := 44 } : Room) E [.ref (ad 0), .int a1, .int a2] (wM E ad zx) (Qd none (wM E ad zx')) 0 0 :=
  CT.of (mL := 5) (lvs := [(0, .ref (ad 0)), (1, .int a1), (2, .int a2)]) (by decide +kernel) rfl (Nat.le_of_ble_eq_true rfl) rfl rfl rfl (fun p e s m below meth c A C0 hA hw ls hl => kX10_readSign_b0 (ad := ad) F C0 hA zx a1 a2 _ _ _ hm hw (lv_sub hl [0, 1, 2] rfl))

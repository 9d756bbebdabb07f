def mX9_isWithin_b0  (a0 : Int32) (a1 : Int32) (a2 : Int32) : Option (Int32) := (if (a0 : Int32) < a1 then some 0 else (if a2 < (a0 : Int32) then some 0 else some 1))
def mX9_isWithin  (a0 : Int32) (a1 : Int32) (a2 : Int32) : Option (Int32) := mX9_isWithin_b0 a0 a1 a2
set_option maxRecDepth 20000 in
theorem kX9_isWithin_b0 {p : Program} {l : Launch} {e : Env} {s : State} {m : MethodId} {args : Array Value} {below : List Frame} {meth : Method} {c : Code} {A : Nat → Prop} {E : EV} {ad : Nat → Nat}  {r : Int32} (C0 : Cx RX9 "isWithin" cX9_isWithin (some .boolean) 3 wsX9_isWithin p s m args meth c) (hA : Ax E A s) : ∀ (a0 : Int32) (a1 : Int32) (a2 : Int32) (H : Heap) (locs : List Loc) (ls : Array Slot), mX9_isWithin_b0 a0 a1 a2 = some r → Wd E A s H locs ([] : va_W) → lv_has ls 3 [(0, .int a0), (1, .int a1), (2, .int a2)] → W p l e ({ frames := 0, cells := 0, slots := 0, locals := 0 } : Room) s m args below meth c H locs 0 0 (MQ below (QG E (Qd (some (.int r)) ([] : va_W)) A) args s 0 0 A) (F0 m 0 ls []) := by
  have hx := C0.1
  have hb := C0.2.1
  intro a0 a1 a2 H locs ls hm hw hl
  unfold mX9_isWithin_b0 at hm
  refine lv_iload_n hx hb dX9_isWithin_0 rfl (lv_at hl 0 rfl) ?_
  refine lv_iload_n hx hb dX9_isWithin_1 rfl (lv_at hl 1 rfl) ?_
  refine lv_icmp_lt (tgt := 14) hx hb dX9_isWithin_2 (by decide) (fun c1 => ?_) (fun c1 => ?_)
  · have hm := Eq.trans (if_pos c1).symm hm
    refine lv_iconst (v := 0) hx hb dX9_isWithin_14 (by decide) ?_
    obtain rfl := sj1 hm
    exact r_zret C0 hw dX9_isWithin_15 rfl ⟨rfl, rfl⟩
  · have hm := Eq.trans (if_neg c1).symm hm
    refine lv_iload_n hx hb dX9_isWithin_5 rfl (lv_at hl 0 rfl) ?_
    refine lv_iload_n hx hb dX9_isWithin_6 rfl (lv_at hl 2 rfl) ?_
    refine lv_icmp_gt (tgt := 14) hx hb dX9_isWithin_7 (by decide) (fun c2 => ?_) (fun c2 => ?_)
    · have hm := Eq.trans (if_pos c2).symm hm
      refine lv_iconst (v := 0) hx hb dX9_isWithin_14 (by decide) ?_
      obtain rfl := sj1 hm
      exact r_zret C0 hw dX9_isWithin_15 rfl ⟨rfl, rfl⟩
    · have hm := Eq.trans (if_neg c2).symm hm
      refine lv_iconst (v := 1) hx hb dX9_isWithin_10 (by decide) ?_
      refine lv_goto (tgt := 15) hx hb dX9_isWithin_11 (by decide) ?_
      obtain rfl := sj1 hm
      exact r_zret C0 hw dX9_isWithin_15 rfl ⟨rfl, rfl⟩
theorem tX9_isWithin (l : Launch) (E : EV)  (a0 : Int32) (a1 : Int32) (a2 : Int32) {r : Int32} (hm : mX9_isWithin a0 a1 a2 = some r) : CT l yX9_isWithin wsX9_isWithin ({ frames := 0, cells := 0, slots := 0, locals := 0 } : Room) E [.int a0, .int a1, .int a2] ([] : va_W) (Qd (some (.int r)) ([] : va_W)) 0 0 :=
  CT.of (mL := 3) (lvs := [(0, .int a0), (1, .int a1), (2, .int a2)]) (by decide +kernel) rfl (Nat.le_of_ble_eq_true rfl) rfl rfl rfl (fun p e s m below meth c A C0 hA hw ls hl => kX9_isWithin_b0 (ad := fun _ => 0) C0 hA a0 a1 a2 _ _ _ hm hw (lv_sub hl [0, 1, 2] rfl))
def mX9_isLetter_b0  (a0 : Int32) : Option (Int32) := (if (a0 : Int32) < 65 then some 0 else (if 90 < (a0 : Int32) then some 0 else some 1))
def mX9_isLetter  (a0 : Int32) : Option (Int32) := mX9_isLetter_b0 a0
set_option maxRecDepth 20000 in
theorem kX9_isLetter_b0 {p : Program} {l : Launch} {e : Env} {s : State} {m : MethodId} {args : Array Value} {below : List Frame} {meth : Method} {c : Code} {A : Nat → Prop} {E : EV} {ad : Nat → Nat}  {r : Int32} (C0 : Cx RX9 "isLetter" cX9_isLetter (some .boolean) 1 wsX9_isLetter p s m args meth c) (hA : Ax E A s) : ∀ (a0 : Int32) (H : Heap) (locs : List Loc) (ls : Array Slot), mX9_isLetter_b0 a0 = some r → Wd E A s H locs ([] : va_W) → lv_has ls 1 [(0, .int a0)] → W p l e ({ frames := 0, cells := 0, slots := 0, locals := 0 } : Room) s m args below meth c H locs 0 0 (MQ below (QG E (Qd (some (.int r)) ([] : va_W)) A) args s 0 0 A) (F0 m 0 ls []) := by
  have hx := C0.1
  have hb := C0.2.1
  intro a0 H locs ls hm hw hl
  unfold mX9_isLetter_b0 at hm
  refine lv_iload_n hx hb dX9_isLetter_0 rfl (lv_at hl 0 rfl) ?_
  refine lv_bipush (v := 65) hx hb dX9_isLetter_1 (by decide) ?_
  refine lv_icmp_lt (tgt := 16) hx hb dX9_isLetter_3 (by decide) (fun c1 => ?_) (fun c1 => ?_)
  · have hm := Eq.trans (if_pos c1).symm hm
    refine lv_iconst (v := 0) hx hb dX9_isLetter_16 (by decide) ?_
    obtain rfl := sj1 hm
    exact r_zret C0 hw dX9_isLetter_17 rfl ⟨rfl, rfl⟩
  · have hm := Eq.trans (if_neg c1).symm hm
    refine lv_iload_n hx hb dX9_isLetter_6 rfl (lv_at hl 0 rfl) ?_
    refine lv_bipush (v := 90) hx hb dX9_isLetter_7 (by decide) ?_
    refine lv_icmp_gt (tgt := 16) hx hb dX9_isLetter_9 (by decide) (fun c2 => ?_) (fun c2 => ?_)
    · have hm := Eq.trans (if_pos c2).symm hm
      refine lv_iconst (v := 0) hx hb dX9_isLetter_16 (by decide) ?_
      obtain rfl := sj1 hm
      exact r_zret C0 hw dX9_isLetter_17 rfl ⟨rfl, rfl⟩
    · have hm := Eq.trans (if_neg c2).symm hm
      refine lv_iconst (v := 1) hx hb dX9_isLetter_12 (by decide) ?_
      refine lv_goto (tgt := 17) hx hb dX9_isLetter_13 (by decide) ?_
      obtain rfl := sj1 hm
      exact r_zret C0 hw dX9_isLetter_17 rfl ⟨rfl, rfl⟩
theorem tX9_isLetter (l : Launch) (E : EV)  (a0 : Int32) {r : Int32} (hm : mX9_isLetter a0 = some r) : CT l yX9_isLetter wsX9_isLetter ({ frames := 0, cells := 0, slots := 0, locals := 0 } : Room) E [.int a0] ([] : va_W) (Qd (some (.int r)) ([] : va_W)) 0 0 :=
  CT.of (mL := 1) (lvs := [(0, .int a0)]) (by decide +kernel) rfl (Nat.le_of_ble_eq_true rfl) rfl rfl rfl (fun p e s m below meth c A C0 hA hw ls hl => kX9_isLetter_b0 (ad := fun _ => 0) C0 hA a0 _ _ _ hm hw (lv_sub hl [0] rfl))
def mX9_isDigit_b0  (a0 : Int32) : Option (Int32) := (if (a0 : Int32) < 48 then some 0 else (if 57 < (a0 : Int32) then some 0 else some 1))
def mX9_isDigit  (a0 : Int32) : Option (Int32) := mX9_isDigit_b0 a0
set_option maxRecDepth 20000 in
theorem kX9_isDigit_b0 {p : Program} {l : Launch} {e : Env} {s : State} {m : MethodId} {args : Array Value} {below : List Frame} {meth : Method} {c : Code} {A : Nat → Prop} {E : EV} {ad : Nat → Nat}  {r : Int32} (C0 : Cx RX9 "isDigit" cX9_isDigit (some .boolean) 1 wsX9_isDigit p s m args meth c) (hA : Ax E A s) : ∀ (a0 : Int32) (H : Heap) (locs : List Loc) (ls : Array Slot), mX9_isDigit_b0 a0 = some r → Wd E A s H locs ([] : va_W) → lv_has ls 1 [(0, .int a0)] → W p l e ({ frames := 0, cells := 0, slots := 0, locals := 0 } : Room) s m args below meth c H locs 0 0 (MQ below (QG E (Qd (some (.int r)) ([] : va_W)) A) args s 0 0 A) (F0 m 0 ls []) := by
  have hx := C0.1
  have hb := C0.2.1
  intro a0 H locs ls hm hw hl
  unfold mX9_isDigit_b0 at hm
  refine lv_iload_n hx hb dX9_isDigit_0 rfl (lv_at hl 0 rfl) ?_
  refine lv_bipush (v := 48) hx hb dX9_isDigit_1 (by decide) ?_
  refine lv_icmp_lt (tgt := 16) hx hb dX9_isDigit_3 (by decide) (fun c1 => ?_) (fun c1 => ?_)
  · have hm := Eq.trans (if_pos c1).symm hm
    refine lv_iconst (v := 0) hx hb dX9_isDigit_16 (by decide) ?_
    obtain rfl := sj1 hm
    exact r_zret C0 hw dX9_isDigit_17 rfl ⟨rfl, rfl⟩
  · have hm := Eq.trans (if_neg c1).symm hm
    refine lv_iload_n hx hb dX9_isDigit_6 rfl (lv_at hl 0 rfl) ?_
    refine lv_bipush (v := 57) hx hb dX9_isDigit_7 (by decide) ?_
    refine lv_icmp_gt (tgt := 16) hx hb dX9_isDigit_9 (by decide) (fun c2 => ?_) (fun c2 => ?_)
    · have hm := Eq.trans (if_pos c2).symm hm
      refine lv_iconst (v := 0) hx hb dX9_isDigit_16 (by decide) ?_
      obtain rfl := sj1 hm
      exact r_zret C0 hw dX9_isDigit_17 rfl ⟨rfl, rfl⟩
    · have hm := Eq.trans (if_neg c2).symm hm
      refine lv_iconst (v := 1) hx hb dX9_isDigit_12 (by decide) ?_
      refine lv_goto (tgt := 17) hx hb dX9_isDigit_13 (by decide) ?_
      obtain rfl := sj1 hm
      exact r_zret C0 hw dX9_isDigit_17 rfl ⟨rfl, rfl⟩
theorem tX9_isDigit (l : Launch) (E : EV)  (a0 : Int32) {r : Int32} (hm : mX9_isDigit a0 = some r) : CT l yX9_isDigit wsX9_isDigit ({ frames := 0, cells := 0, slots := 0, locals := 0 } : Room) E [.int a0] ([] : va_W) (Qd (some (.int r)) ([] : va_W)) 0 0 :=
  CT.of (mL := 1) (lvs := [(0, .int a0)]) (by decide +kernel) rfl (Nat.le_of_ble_eq_true rfl) rfl rfl rfl (fun p e s m below meth c A C0 hA hw ls hl => kX9_isDigit_b0 (ad := fun _ => 0) C0 hA a0 _ _ _ hm hw (lv_sub hl [0] rfl))
def mX9_isDegree_b0  (a0 : Int32) : Option (Int32) := (if (a0 : Int32) < 48 then some 0 else (if 54 < (a0 : Int32) then some 0 else some 1))
def mX9_isDegree  (a0 : Int32) : Option (Int32) := mX9_isDegree_b0 a0
set_option maxRecDepth 20000 in
theorem kX9_isDegree_b0 {p : Program} {l : Launch} {e : Env} {s : State} {m : MethodId} {args : Array Value} {below : List Frame} {meth : Method} {c : Code} {A : Nat → Prop} {E : EV} {ad : Nat → Nat}  {r : Int32} (C0 : Cx RX9 "isDegree" cX9_isDegree (some .boolean) 1 wsX9_isDegree p s m args meth c) (hA : Ax E A s) : ∀ (a0 : Int32) (H : Heap) (locs : List Loc) (ls : Array Slot), mX9_isDegree_b0 a0 = some r → Wd E A s H locs ([] : va_W) → lv_has ls 1 [(0, .int a0)] → W p l e ({ frames := 0, cells := 0, slots := 0, locals := 0 } : Room) s m args below meth c H locs 0 0 (MQ below (QG E (Qd (some (.int r)) ([] : va_W)) A) args s 0 0 A) (F0 m 0 ls []) := by
  have hx := C0.1
  have hb := C0.2.1
  intro a0 H locs ls hm hw hl
  unfold mX9_isDegree_b0 at hm
  refine lv_iload_n hx hb dX9_isDegree_0 rfl (lv_at hl 0 rfl) ?_
  refine lv_bipush (v := 48) hx hb dX9_isDegree_1 (by decide) ?_
  refine lv_icmp_lt (tgt := 16) hx hb dX9_isDegree_3 (by decide) (fun c1 => ?_) (fun c1 => ?_)
  · have hm := Eq.trans (if_pos c1).symm hm
    refine lv_iconst (v := 0) hx hb dX9_isDegree_16 (by decide) ?_
    obtain rfl := sj1 hm
    exact r_zret C0 hw dX9_isDegree_17 rfl ⟨rfl, rfl⟩
  · have hm := Eq.trans (if_neg c1).symm hm
    refine lv_iload_n hx hb dX9_isDegree_6 rfl (lv_at hl 0 rfl) ?_
    refine lv_bipush (v := 54) hx hb dX9_isDegree_7 (by decide) ?_
    refine lv_icmp_gt (tgt := 16) hx hb dX9_isDegree_9 (by decide) (fun c2 => ?_) (fun c2 => ?_)
    · have hm := Eq.trans (if_pos c2).symm hm
      refine lv_iconst (v := 0) hx hb dX9_isDegree_16 (by decide) ?_
      obtain rfl := sj1 hm
      exact r_zret C0 hw dX9_isDegree_17 rfl ⟨rfl, rfl⟩
    · have hm := Eq.trans (if_neg c2).symm hm
      refine lv_iconst (v := 1) hx hb dX9_isDegree_12 (by decide) ?_
      refine lv_goto (tgt := 17) hx hb dX9_isDegree_13 (by decide) ?_
      obtain rfl := sj1 hm
      exact r_zret C0 hw dX9_isDegree_17 rfl ⟨rfl, rfl⟩
theorem tX9_isDegree (l : Launch) (E : EV)  (a0 : Int32) {r : Int32} (hm : mX9_isDegree a0 = some r) : CT l yX9_isDegree wsX9_isDegree ({ frames := 0, cells := 0, slots := 0, locals := 0 } : Room) E [.int a0] ([] : va_W) (Qd (some (.int r)) ([] : va_W)) 0 0 :=
  CT.of (mL := 1) (lvs := [(0, .int a0)]) (by decide +kernel) rfl (Nat.le_of_ble_eq_true rfl) rfl rfl rfl (fun p e s m below meth c A C0 hA hw ls hl => kX9_isDegree_b0 (ad := fun _ => 0) C0 hA a0 _ _ _ hm hw (lv_sub hl [0] rfl))
def mX9_isBlank_b0  (a0 : Int32) : Option (Int32) := (if (a0 : Int32) = 32 then some 1 else (if (a0 : Int32) = 10 then some 1 else some 0))
def mX9_isBlank  (a0 : Int32) : Option (Int32) := mX9_isBlank_b0 a0
set_option maxRecDepth 20000 in
theorem kX9_isBlank_b0 {p : Program} {l : Launch} {e : Env} {s : State} {m : MethodId} {args : Array Value} {below : List Frame} {meth : Method} {c : Code} {A : Nat → Prop} {E : EV} {ad : Nat → Nat}  {r : Int32} (C0 : Cx RX9 "isBlank" cX9_isBlank (some .boolean) 1 wsX9_isBlank p s m args meth c) (hA : Ax E A s) : ∀ (a0 : Int32) (H : Heap) (locs : List Loc) (ls : Array Slot), mX9_isBlank_b0 a0 = some r → Wd E A s H locs ([] : va_W) → lv_has ls 1 [(0, .int a0)] → W p l e ({ frames := 0, cells := 0, slots := 0, locals := 0 } : Room) s m args below meth c H locs 0 0 (MQ below (QG E (Qd (some (.int r)) ([] : va_W)) A) args s 0 0 A) (F0 m 0 ls []) := by
  have hx := C0.1
  have hb := C0.2.1
  intro a0 H locs ls hm hw hl
  unfold mX9_isBlank_b0 at hm
  refine lv_iload_n hx hb dX9_isBlank_0 rfl (lv_at hl 0 rfl) ?_
  refine lv_bipush (v := 32) hx hb dX9_isBlank_1 (by decide) ?_
  refine lv_icmp_eq (tgt := 12) hx hb dX9_isBlank_3 (by decide) (fun c1 => ?_) (fun c1 => ?_)
  · have hm := Eq.trans (if_pos c1).symm hm
    refine lv_iconst (v := 1) hx hb dX9_isBlank_12 (by decide) ?_
    refine lv_goto (tgt := 17) hx hb dX9_isBlank_13 (by decide) ?_
    obtain rfl := sj1 hm
    exact r_zret C0 hw dX9_isBlank_17 rfl ⟨rfl, rfl⟩
  · have hm := Eq.trans (if_neg c1).symm hm
    refine lv_iload_n hx hb dX9_isBlank_6 rfl (lv_at hl 0 rfl) ?_
    refine lv_bipush (v := 10) hx hb dX9_isBlank_7 (by decide) ?_
    refine lv_icmp_ne (tgt := 16) hx hb dX9_isBlank_9 (by decide) (fun c2 => ?_) (fun c2 => ?_)
    · have hm := Eq.trans (if_neg c2).symm hm
      refine lv_iconst (v := 0) hx hb dX9_isBlank_16 (by decide) ?_
      obtain rfl := sj1 hm
      exact r_zret C0 hw dX9_isBlank_17 rfl ⟨rfl, rfl⟩
    · have hm := Eq.trans (if_pos c2).symm hm
      refine lv_iconst (v := 1) hx hb dX9_isBlank_12 (by decide) ?_
      refine lv_goto (tgt := 17) hx hb dX9_isBlank_13 (by decide) ?_
      obtain rfl := sj1 hm
      exact r_zret C0 hw dX9_isBlank_17 rfl ⟨rfl, rfl⟩
theorem tX9_isBlank (l : Launch) (E : EV)  (a0 : Int32) {r : Int32} (hm : mX9_isBlank a0 = some r) : CT l yX9_isBlank wsX9_isBlank ({ frames := 0, cells := 0, slots := 0, locals := 0 } : Room) E [.int a0] ([] : va_W) (Qd (some (.int r)) ([] : va_W)) 0 0 :=
  CT.of (mL := 1) (lvs := [(0, .int a0)]) (by decide +kernel) rfl (Nat.le_of_ble_eq_true rfl) rfl rfl rfl (fun p e s m below meth c A C0 hA hw ls hl => kX9_isBlank_b0 (ad := fun _ => 0) C0 hA a0 _ _ _ hm hw (lv_sub hl [0] rfl))
def mJ9_floorMod_7cf53_b0  (a0 : Int32) (a1 : Int32) : Option (Int32) := nz a1 (nm (a0 - a0 / a1 * a1 : Int32) (fun v2 => (if 0 ≤ (a0 ^^^ a1 : Int32) then some v2 else (if (v2 : Int32) = 0 then some v2 else some (v2 + a1)))))
def mJ9_floorMod_7cf53  (a0 : Int32) (a1 : Int32) : Option (Int32) := mJ9_floorMod_7cf53_b0 a0 a1
set_option maxRecDepth 20000 in
theorem kJ9_floorMod_7cf53_b0 {p : Program} {l : Launch} {e : Env} {s : State} {m : MethodId} {args : Array Value} {below : List Frame} {meth : Method} {c : Code} {A : Nat → Prop} {E : EV} {ad : Nat → Nat}  {r : Int32} (C0 : Cx RJ9 "floorMod" cJ9_floorMod_7cf53 (some .int) 3 wsJ9_floorMod_7cf53 p s m args meth c) (hA : Ax E A s) : ∀ (a0 : Int32) (a1 : Int32) (H : Heap) (locs : List Loc) (ls : Array Slot), mJ9_floorMod_7cf53_b0 a0 a1 = some r → Wd E A s H locs ([] : va_W) → lv_has ls 3 [(0, .int a0), (1, .int a1)] → W p l e ({ frames := 0, cells := 0, slots := 0, locals := 0 } : Room) s m args below meth c H locs 0 0 (MQ below (QG E (Qd (some (.int r)) ([] : va_W)) A) args s 0 0 A) (F0 m 0 ls []) := by
  have hx := C0.1
  have hb := C0.2.1
  intro a0 a1 H locs ls hm hw hl
  unfold mJ9_floorMod_7cf53_b0 at hm
  refine lv_iload_n hx hb dJ9_floorMod_7cf53_0 rfl (lv_at hl 0 rfl) ?_
  refine lv_iload_n hx hb dJ9_floorMod_7cf53_1 rfl (lv_at hl 1 rfl) ?_
  obtain ⟨c1, hm⟩ := nz_some hm
  refine lv_irem hx hb dJ9_floorMod_7cf53_2 c1 ?_
  refine lv_topi (fun v2 ev2 => ?_)
  have hm := nm_at hm ev2
  refine lv_istore_n (lv' := [(2, .int v2), (0, .int a0), (1, .int a1)]) hx hb dJ9_floorMod_7cf53_3 rfl hl (by decide) rfl (fun ls hl => ?_)
  refine lv_iload_n hx hb dJ9_floorMod_7cf53_4 rfl (lv_at hl 1 rfl) ?_
  refine lv_iload_n hx hb dJ9_floorMod_7cf53_5 rfl (lv_at hl 2 rfl) ?_
  refine lv_ixor hx hb dJ9_floorMod_7cf53_6 ?_
  refine lv_if_ge (tgt := 18) hx hb dJ9_floorMod_7cf53_7 (by decide) (fun c3 => ?_) (fun c3 => ?_)
  · have hm := Eq.trans (if_pos c3).symm hm
    refine lv_iload_n hx hb dJ9_floorMod_7cf53_18 rfl (lv_at hl 0 rfl) ?_
    obtain rfl := sj1 hm
    exact r_iret C0 hw dJ9_floorMod_7cf53_19 ⟨rfl, rfl⟩
  · have hm := Eq.trans (if_neg c3).symm hm
    refine lv_iload_n hx hb dJ9_floorMod_7cf53_10 rfl (lv_at hl 0 rfl) ?_
    refine lv_if_eq (tgt := 18) hx hb dJ9_floorMod_7cf53_11 (by decide) (fun c4 => ?_) (fun c4 => ?_)
    · have hm := Eq.trans (if_pos c4).symm hm
      refine lv_iload_n hx hb dJ9_floorMod_7cf53_18 rfl (lv_at hl 0 rfl) ?_
      obtain rfl := sj1 hm
      exact r_iret C0 hw dJ9_floorMod_7cf53_19 ⟨rfl, rfl⟩
    · have hm := Eq.trans (if_neg c4).symm hm
      refine lv_iload_n hx hb dJ9_floorMod_7cf53_14 rfl (lv_at hl 0 rfl) ?_
      refine lv_iload_n hx hb dJ9_floorMod_7cf53_15 rfl (lv_at hl 2 rfl) ?_
      refine lv_iadd hx hb dJ9_floorMod_7cf53_16 ?_
      obtain rfl := sj1 hm
      exact r_iret C0 hw dJ9_floorMod_7cf53_17 ⟨rfl, rfl⟩
theorem tJ9_floorMod_7cf53 (l : Launch) (E : EV)  (a0 : Int32) (a1 : Int32) {r : Int32} (hm : mJ9_floorMod_7cf53 a0 a1 = some r) : CT l yJ9_floorMod_7cf53 wsJ9_floorMod_7cf53 ({ frames := 0, cells := 0, slots := 0, locals := 0 } : Room) E [.int a0, .int a1] ([] : va_W) (Qd (some (.int r)) ([] : va_W)) 0 0 :=
  CT.ofF (mL := 3) (lvs := [(0, .int a0), (1, .int a1)]) (by decide +kernel) rfl (Nat.le_of_ble_eq_true rfl) rfl rfl rfl (fun p e s m below meth c A C0 hA hw ls hl => kJ9_floorMod_7cf53_b0 (ad := fun _ => 0) C0 hA a0 a1 _ _ _ hm hw (lv_sub hl [0, 1] rfl))
theorem lkX1_draw_7 : Cond.fieldLink RX1 7 (TX1 0).1 (TX1 0).2.1 (TX1 0).2.2.1 ∈ wsX1_draw := by decide +kernel
theorem hiX1_draw_X1 : ∀ w ∈ u_ws RX1 TX1 1, w ∈ wsX1_draw := by decide +kernel
def mX1_draw_b0  (zx : OS) : Option (Int64 × OS) := nm (sL zx 0 ((zx.2.1 0) + (-7046029254386353131))) (fun zx1 => nm (zx1.2.1 0 : Int64) (fun v2 => nm ((v2 ^^^ (((v2 : Int64).toUInt64 >>> ((30 : Int32).toInt64.toUInt64 &&& Int64.toUInt64 63)).toInt64)) * (-4658895280553007687) : Int64) (fun v3 => nm ((v3 ^^^ (((v3 : Int64).toUInt64 >>> ((27 : Int32).toInt64.toUInt64 &&& Int64.toUInt64 63)).toInt64)) * (-7723592293110705685) : Int64) (fun v4 => some (((v4 ^^^ (((v4 : Int64).toUInt64 >>> ((31 : Int32).toInt64.toUInt64 &&& Int64.toUInt64 63)).toInt64) : Int64).toUInt64 >>> ((1 : Int32).toInt64.toUInt64 &&& Int64.toUInt64 63)).toInt64, zx1)))))
def mX1_draw (zx : OS)  : Option (Int64 × OS) := mX1_draw_b0 zx
set_option maxRecDepth 20000 in
theorem kX1_draw_b0 {p : Program} {l : Launch} {e : Env} {s : State} {m : MethodId} {args : Array Value} {below : List Frame} {meth : Method} {c : Code} {A : Nat → Prop} {E : EV} {ad : Nat → Nat}  {r : Int64} {zx' : OS} (C0 : Cx RX1 "draw" cX1_draw (some .long) 3 wsX1_draw p s m args meth c) (hA : Ax E A s) : ∀ (zx : OS) (H : Heap) (locs : List Loc) (ls : Array Slot), mX1_draw_b0 zx = some (r, zx') → Wd E A s H locs (wD E ad zx) → lv_has ls 3 [(0, .ref (ad 0))] → W p l e ({ frames := 0, cells := 0, slots := 0, locals := 0 } : Room) s m args below meth c H locs 0 0 (MQ below (QG E (Qd (some (.long r)) (wD E ad zx')) A) args s 0 0 A) (F0 m 0 ls []) := by
  have hx := C0.1
  have hb := C0.2.1
  intro zx H locs ls hm hw hl
  unfold mX1_draw_b0 at hm
  refine lv_aload_n hx hb dX1_draw_0 rfl (lv_at hl 0 rfl) ?_
  refine lv_dup hx hb dX1_draw_1 rfl ?_
  refine gD_0_0 C0 hA hw hiX1_draw_X1 lkX1_draw_7 dX1_draw_2 ?_
  refine lv_ldc2 (v := (-7046029254386353131)) hx hb C0.2.2.2.2.1 (C0.2.2.2.2.2.1 (.constantLong RX1 13 (-7046029254386353131)) (by decide +kernel)) dX1_draw_5 ?_
  refine lv_ladd hx hb dX1_draw_8 ?_
  refine pD_0_0 C0 hA hw hiX1_draw_X1 lkX1_draw_7 dX1_draw_9 (fun zx1 ezx1 H locs hw => ?_)
  have hm := nm_at hm ezx1
  refine lv_aload_n hx hb dX1_draw_12 rfl (lv_at hl 0 rfl) ?_
  refine gD_0_0 C0 hA hw hiX1_draw_X1 lkX1_draw_7 dX1_draw_13 ?_
  refine lv_topl (fun v2 ev2 => ?_)
  have hm := nm_at hm ev2
  refine lv_lstore_n (lv' := [(1, .long v2), (0, .ref (ad 0))]) hx hb dX1_draw_16 rfl hl (by decide) rfl (fun ls hl => ?_)
  refine lv_lload_n hx hb dX1_draw_17 rfl (lv_at hl 0 rfl) ?_
  refine lv_lload_n hx hb dX1_draw_18 rfl (lv_at hl 0 rfl) ?_
  refine lv_bipush (v := 30) hx hb dX1_draw_19 (by decide) ?_
  refine lv_lushr hx hb dX1_draw_21 rfl ?_
  refine lv_lxor hx hb dX1_draw_22 ?_
  refine lv_ldc2 (v := (-4658895280553007687)) hx hb C0.2.2.2.2.1 (C0.2.2.2.2.2.1 (.constantLong RX1 15 (-4658895280553007687)) (by decide +kernel)) dX1_draw_23 ?_
  refine lv_lmul hx hb dX1_draw_26 ?_
  refine lv_topl (fun v3 ev3 => ?_)
  have hm := nm_at hm ev3
  refine lv_lstore_n (lv' := [(1, .long v3), (0, .ref (ad 0))]) hx hb dX1_draw_27 rfl hl (by decide) rfl (fun ls hl => ?_)
  refine lv_lload_n hx hb dX1_draw_28 rfl (lv_at hl 0 rfl) ?_
  refine lv_lload_n hx hb dX1_draw_29 rfl (lv_at hl 0 rfl) ?_
  refine lv_bipush (v := 27) hx hb dX1_draw_30 (by decide) ?_
  refine lv_lushr hx hb dX1_draw_32 rfl ?_
  refine lv_lxor hx hb dX1_draw_33 ?_
  refine lv_ldc2 (v := (-7723592293110705685)) hx hb C0.2.2.2.2.1 (C0.2.2.2.2.2.1 (.constantLong RX1 17 (-7723592293110705685)) (by decide +kernel)) dX1_draw_34 ?_
  refine lv_lmul hx hb dX1_draw_37 ?_
  refine lv_topl (fun v4 ev4 => ?_)
  have hm := nm_at hm ev4
  refine lv_lstore_n (lv' := [(1, .long v4), (0, .ref (ad 0))]) hx hb dX1_draw_38 rfl hl (by decide) rfl (fun ls hl => ?_)
  refine lv_lload_n hx hb dX1_draw_39 rfl (lv_at hl 0 rfl) ?_
  refine lv_lload_n hx hb dX1_draw_40 rfl (lv_at hl 0 rfl) ?_
  refine lv_bipush (v := 31) hx hb dX1_draw_41 (by decide) ?_
  refine lv_lushr hx hb dX1_draw_43 rfl ?_
  refine lv_lxor hx hb dX1_draw_44 ?_
  refine lv_iconst (v := 1) hx hb dX1_draw_45 (by decide) ?_
  refine lv_lushr hx hb dX1_draw_46 rfl ?_
  obtain ⟨rfl, rfl⟩ := sj2 hm
  exact r_lret C0 hw dX1_draw_47 ⟨rfl, rfl⟩
theorem tX1_draw (l : Launch) (E : EV) (ad : Nat → Nat) (zx : OS)  {r : Int64} {zx' : OS} (hm : mX1_draw zx = some (r, zx')) : CT l yX1_draw wsX1_draw ({ frames := 0, cells := 0, slots := 0, locals := 0 } : Room) E [.ref (ad 0)] (wD E ad zx) (Qd (some (.long r)) (wD E ad zx')) 0 0 :=
  CT.of (mL := 3) (lvs := [(0, .ref (ad 0))]) (by decide +kernel) rfl (Nat.le_of_ble_eq_true rfl) rfl rfl rfl (fun p e s m below meth c A C0 hA hw ls hl => kX1_draw_b0 (ad := ad) C0 hA zx _ _ _ hm hw (lv_sub hl [0] rfl))
def mX1_drawUnder_b29 (F : Nat)  : Nat → OS → Int32 → Int64 → Int32 → Option (Int32 × OS)
  | 0, _, _, _, _ => none
  | n + 1, zx, a1, a4, a6 => (if 1000000 ≤ (a6 : Int32) then some (0, zx) else b2 (mX1_draw zx) (fun r2 zx3 => (if 0 < (lg_cmp r2 a4 : Int32) then nm (a6 + 1 : Int32) (fun v6 => mX1_drawUnder_b29 F n zx3 a1 a4 v6) else nzl ((a1 : Int32).toInt64) (some ((r2 - r2 / ((a1 : Int32).toInt64) * ((a1 : Int32).toInt64) : Int64).toInt32, zx3)))))
def mX1_drawUnder_b0 (F : Nat)  (zx : OS) (a1 : Int32) : Option (Int32 × OS) := (if 1 ≤ (a1 : Int32) then nzl ((a1 : Int32).toInt64) (nzl ((a1 : Int32).toInt64) (nm (((9223372036854775807 - 9223372036854775807 / ((a1 : Int32).toInt64) * ((a1 : Int32).toInt64)) + 1) - ((9223372036854775807 - 9223372036854775807 / ((a1 : Int32).toInt64) * ((a1 : Int32).toInt64)) + 1) / ((a1 : Int32).toInt64) * ((a1 : Int32).toInt64) : Int64) (fun v4 => nm (9223372036854775807 - v4 : Int64) (fun v5 => nm (0 : Int32) (fun v6 => mX1_drawUnder_b29 F F zx a1 v5 v6))))) else some (0, zx))
def mX1_drawUnder (F : Nat) (zx : OS) (a1 : Int32) : Option (Int32 × OS) := mX1_drawUnder_b0 F zx a1
set_option maxRecDepth 20000 in
theorem kX1_drawUnder_b29 {p : Program} {l : Launch} {e : Env} {s : State} {m : MethodId} {args : Array Value} {below : List Frame} {meth : Method} {c : Code} {A : Nat → Prop} {E : EV} {ad : Nat → Nat} (F : Nat)  {r : Int32} {zx' : OS} (C0 : Cx RX1 "drawUnder" cX1_drawUnder (some .int) 9 wsX1_drawUnder p s m args meth c) (hA : Ax E A s) : ∀ (n : Nat) (zx : OS) (a1 : Int32) (a4 : Int64) (a6 : Int32) (H : Heap) (locs : List Loc) (ls : Array Slot), mX1_drawUnder_b29 F n zx a1 a4 a6 = some (r, zx') → Wd E A s H locs (wD E ad zx) → lv_has ls 9 [(0, .ref (ad 0)), (1, .int a1), (4, .long a4), (6, .int a6)] → W p l e ({ frames := 1, cells := 0, slots := 0, locals := 22 } : Room) s m args below meth c H locs 0 0 (MQ below (QG E (Qd (some (.int r)) (wD E ad zx')) A) args s 0 0 A) (F0 m 29 ls []) := by
  have hx := C0.1
  have hb := C0.2.1
  intro n
  induction n with
  | zero =>
    intro zx a1 a4 a6 H locs ls hm
    cases hm
  | succ n ih =>
    intro zx a1 a4 a6 H locs ls hm hw hl
    unfold mX1_drawUnder_b29 at hm
    refine lv_iload hx hb dX1_drawUnder_29 (lv_at hl 3 rfl) ?_
    refine lv_ldc (v := 1000000) hx hb C0.2.2.2.2.1 (C0.2.2.2.2.2.1 (.constant RX1 21 1000000) (by decide +kernel)) dX1_drawUnder_31 ?_
    refine lv_icmp_ge (tgt := 63) hx hb dX1_drawUnder_33 (by decide) (fun c1 => ?_) (fun c1 => ?_)
    · have hm := Eq.trans (if_pos c1).symm hm
      refine lv_iconst (v := 0) hx hb dX1_drawUnder_63 (by decide) ?_
      obtain ⟨rfl, rfl⟩ := sj2 hm
      exact r_iret C0 hw dX1_drawUnder_64 ⟨rfl, rfl⟩
    · have hm := Eq.trans (if_neg c1).symm hm
      refine lv_aload_n hx hb dX1_drawUnder_36 rfl (lv_at hl 0 rfl) ?_
      obtain ⟨r2, zx3, h4, hm⟩ := b2_some hm
      refine r_backS (va_runV (As := []) (rest := []) ⟨hx, hb, C0.2.2.2.1, C0.2.2.2.2.1, C0.2.2.2.2.2.1⟩ (tX1_draw l E ad zx h4 H.size) (cwV 0 C0.2.2.2.2.2.1 gX1_drawUnder_X1_draw rfl rfl rfl (by decide +kernel) ⟨Nat.le_of_ble_eq_true rfl, Nat.le_of_ble_eq_true rfl⟩) ⟨PG_blind, va_recv hA.2.2.1.1 hw.1 (ci := 1) (q0 := 0) rfl rfl, pg_self hA hw⟩ rfl rfl hl.1 rfl (lv_room (Nat.le_of_ble_eq_true rfl)) dX1_drawUnder_37 ⟨Nat.zero_le _, Nat.zero_le _⟩) hA hw (fun H locs hw => ?_)
      refine lv_lstore (lv' := [(7, .long r2), (0, .ref (ad 0)), (1, .int a1), (4, .long a4), (6, .int a6)]) hx hb dX1_drawUnder_40 hl (by decide) rfl (fun ls hl => ?_)
      refine lv_lload hx hb dX1_drawUnder_42 (lv_at hl 0 rfl) ?_
      refine lv_lload hx hb dX1_drawUnder_44 (lv_at hl 3 rfl) ?_
      refine W.lcmp hx hb dX1_drawUnder_46 ?_
      refine lv_if_gt (tgt := 57) hx hb dX1_drawUnder_47 (by decide) (fun c5 => ?_) (fun c5 => ?_)
      · have hm := Eq.trans (if_pos c5).symm hm
        obtain ⟨v6, ev6⟩ : ∃ y : Int32, y = a6 + 1 := ⟨_, rfl⟩
        have hm := nm_at hm ev6
        refine lv_iinc (v := v6) (lv' := [(6, .int v6), (7, .long r2), (0, .ref (ad 0)), (1, .int a1), (4, .long a4)]) hx hb dX1_drawUnder_57 hl (k := 4) rfl (by rw [ev6]; rfl) (by decide) rfl (fun ls hl => ?_)
        refine lv_goto (tgt := 29) hx hb dX1_drawUnder_60 (by decide) ?_
        exact ih zx3 a1 a4 v6 _ _ _ hm hw (lv_sub hl [2, 3, 4, 0] rfl)
      · have hm := Eq.trans (if_neg c5).symm hm
        refine lv_lload hx hb dX1_drawUnder_50 (lv_at hl 0 rfl) ?_
        refine lv_iload_n hx hb dX1_drawUnder_52 rfl (lv_at hl 2 rfl) ?_
        refine lv_i2l hx hb dX1_drawUnder_53 rfl ?_
        obtain ⟨c7, hm⟩ := nzl_some hm
        refine lv_lrem hx hb dX1_drawUnder_54 c7 ?_
        refine lv_l2i hx hb dX1_drawUnder_55 rfl ?_
        obtain ⟨rfl, rfl⟩ := sj2 hm
        exact r_iret C0 hw dX1_drawUnder_56 ⟨rfl, rfl⟩
set_option maxRecDepth 20000 in
theorem kX1_drawUnder_b0 {p : Program} {l : Launch} {e : Env} {s : State} {m : MethodId} {args : Array Value} {below : List Frame} {meth : Method} {c : Code} {A : Nat → Prop} {E : EV} {ad : Nat → Nat} (F : Nat)  {r : Int32} {zx' : OS} (C0 : Cx RX1 "drawUnder" cX1_drawUnder (some .int) 9 wsX1_drawUnder p s m args meth c) (hA : Ax E A s) : ∀ (zx : OS) (a1 : Int32) (H : Heap) (locs : List Loc) (ls : Array Slot), mX1_drawUnder_b0 F zx a1 = some (r, zx') → Wd E A s H locs (wD E ad zx) → lv_has ls 9 [(0, .ref (ad 0)), (1, .int a1)] → W p l e ({ frames := 1, cells := 0, slots := 0, locals := 22 } : Room) s m args below meth c H locs 0 0 (MQ below (QG E (Qd (some (.int r)) (wD E ad zx')) A) args s 0 0 A) (F0 m 0 ls []) := by
  have hx := C0.1
  have hb := C0.2.1
  intro zx a1 H locs ls hm hw hl
  unfold mX1_drawUnder_b0 at hm
  refine lv_iload_n hx hb dX1_drawUnder_0 rfl (lv_at hl 1 rfl) ?_
  refine lv_iconst (v := 1) hx hb dX1_drawUnder_1 (by decide) ?_
  refine lv_icmp_ge (tgt := 7) hx hb dX1_drawUnder_2 (by decide) (fun c1 => ?_) (fun c1 => ?_)
  · have hm := Eq.trans (if_pos c1).symm hm
    refine lv_ldc2 (v := 9223372036854775807) hx hb C0.2.2.2.2.1 (C0.2.2.2.2.2.1 (.constantLong RX1 19 9223372036854775807) (by decide +kernel)) dX1_drawUnder_7 ?_
    refine lv_iload_n hx hb dX1_drawUnder_10 rfl (lv_at hl 1 rfl) ?_
    refine lv_i2l hx hb dX1_drawUnder_11 rfl ?_
    obtain ⟨c2, hm⟩ := nzl_some hm
    refine lv_lrem hx hb dX1_drawUnder_12 c2 ?_
    refine lv_lconst (v := 1) hx hb dX1_drawUnder_13 (by decide) ?_
    refine lv_ladd hx hb dX1_drawUnder_14 ?_
    refine lv_iload_n hx hb dX1_drawUnder_15 rfl (lv_at hl 1 rfl) ?_
    refine lv_i2l hx hb dX1_drawUnder_16 rfl ?_
    obtain ⟨c3, hm⟩ := nzl_some hm
    refine lv_lrem hx hb dX1_drawUnder_17 c3 ?_
    refine lv_topl (fun v4 ev4 => ?_)
    have hm := nm_at hm ev4
    refine lv_lstore_n (lv' := [(2, .long v4), (0, .ref (ad 0)), (1, .int a1)]) hx hb dX1_drawUnder_18 rfl hl (by decide) rfl (fun ls hl => ?_)
    refine lv_ldc2 (v := 9223372036854775807) hx hb C0.2.2.2.2.1 (C0.2.2.2.2.2.1 (.constantLong RX1 19 9223372036854775807) (by decide +kernel)) dX1_drawUnder_19 ?_
    refine lv_lload_n hx hb dX1_drawUnder_22 rfl (lv_at hl 0 rfl) ?_
    refine lv_lsub hx hb dX1_drawUnder_23 ?_
    refine lv_topl (fun v5 ev5 => ?_)
    have hm := nm_at hm ev5
    refine lv_lstore (lv' := [(4, .long v5), (2, .long v4), (0, .ref (ad 0)), (1, .int a1)]) hx hb dX1_drawUnder_24 hl (by decide) rfl (fun ls hl => ?_)
    refine lv_iconst (v := 0) hx hb dX1_drawUnder_26 (by decide) ?_
    refine lv_topi (fun v6 ev6 => ?_)
    have hm := nm_at hm ev6
    refine lv_istore (lv' := [(6, .int v6), (4, .long v5), (2, .long v4), (0, .ref (ad 0)), (1, .int a1)]) hx hb dX1_drawUnder_27 hl (by decide) rfl (fun ls hl => ?_)
    exact kX1_drawUnder_b29 F C0 hA F zx a1 v5 v6 _ _ _ hm hw (lv_sub hl [3, 4, 1, 0] rfl)
  · have hm := Eq.trans (if_neg c1).symm hm
    refine lv_iconst (v := 0) hx hb dX1_drawUnder_5 (by decide) ?_
    obtain ⟨rfl, rfl⟩ := sj2 hm
    exact r_iret C0 hw dX1_drawUnder_6 ⟨rfl, rfl⟩
theorem tX1_drawUnder (l : Launch) (E : EV) (ad : Nat → Nat) (F : Nat) (zx : OS) (a1 : Int32) {r : Int32} {zx' : OS} (hm : mX1_drawUnder F zx a1 = some (r, zx')) : CT l yX1_drawUnder wsX1_drawUnder ({ frames := 1, cells := 0, slots := 0, locals := 22 } : Room) E [.ref (ad 0), .int a1] (wD E ad zx) (Qd (some (.int r)) (wD E ad zx')) 0 0 :=
  CT.of (mL := 9) (lvs := [(0, .ref (ad 0)), (1, .int a1)]) (by decide +kernel) rfl (Nat.le_of_ble_eq_true rfl) rfl rfl rfl (fun p e s m below meth c A C0 hA hw ls hl => kX1_drawUnder_b0 (ad := ad) F C0 hA zx a1 _ _ _ hm hw (lv_sub hl [0, 1] rfl))
def mX6_byteOf_b0  (a0 : Int64) (a2 : Int32) : Option (Int32) := some (((((a0 : Int64).toUInt64 >>> ((a2 : Int32).toInt64.toUInt64 &&& Int64.toUInt64 63)).toInt64 : Int64).toInt32) &&& 255)
def mX6_byteOf  (a0 : Int64) (a2 : Int32) : Option (Int32) := mX6_byteOf_b0 a0 a2
set_option maxRecDepth 20000 in
theorem kX6_byteOf_b0 {p : Program} {l : Launch} {e : Env} {s : State} {m : MethodId} {args : Array Value} {below : List Frame} {meth : Method} {c : Code} {A : Nat → Prop} {E : EV} {ad : Nat → Nat}  {r : Int32} (C0 : Cx RX6 "byteOf" cX6_byteOf (some .int) 3 wsX6_byteOf p s m args meth c) (hA : Ax E A s) : ∀ (a0 : Int64) (a2 : Int32) (H : Heap) (locs : List Loc) (ls : Array Slot), mX6_byteOf_b0 a0 a2 = some r → Wd E A s H locs ([] : va_W) → lv_has ls 3 [(0, .long a0), (2, .int a2)] → W p l e ({ frames := 0, cells := 0, slots := 0, locals := 0 } : Room) s m args below meth c H locs 0 0 (MQ below (QG E (Qd (some (.int r)) ([] : va_W)) A) args s 0 0 A) (F0 m 0 ls []) := by
  have hx := C0.1
  have hb := C0.2.1
  intro a0 a2 H locs ls hm hw hl
  unfold mX6_byteOf_b0 at hm
  refine lv_lload_n hx hb dX6_byteOf_0 rfl (lv_at hl 0 rfl) ?_
  refine lv_iload_n hx hb dX6_byteOf_1 rfl (lv_at hl 1 rfl) ?_
  refine lv_lushr hx hb dX6_byteOf_2 rfl ?_
  refine lv_l2i hx hb dX6_byteOf_3 rfl ?_
  refine lv_sipush (v := 255) hx hb dX6_byteOf_4 (by decide) ?_
  refine lv_iand hx hb dX6_byteOf_7 ?_
  obtain rfl := sj1 hm
  exact r_iret C0 hw dX6_byteOf_8 ⟨rfl, rfl⟩
theorem tX6_byteOf (l : Launch) (E : EV)  (a0 : Int64) (a2 : Int32) {r : Int32} (hm : mX6_byteOf a0 a2 = some r) : CT l yX6_byteOf wsX6_byteOf ({ frames := 0, cells := 0, slots := 0, locals := 0 } : Room) E [.long a0, .int a2] ([] : va_W) (Qd (some (.int r)) ([] : va_W)) 0 0 :=
  CT.of (mL := 3) (lvs := [(0, .long a0), (2, .int a2)]) (by decide +kernel) rfl (Nat.le_of_ble_eq_true rfl) rfl rfl rfl (fun p e s m below meth c A C0 hA hw ls hl => kX6_byteOf_b0 (ad := fun _ => 0) C0 hA a0 a2 _ _ _ hm hw (lv_sub hl [0, 1] rfl))
def mX6_isAllowed_b0  (a0 : Int32) : Option (Int32) := (if (a0 : Int32) = 0 then some 1 else (if (a0 : Int32) = 10 then some 1 else b1 (mX9_isWithin a0 32 126) (fun r3 => (if (r3 : Int32) = 0 then some 0 else some 1))))
def mX6_isAllowed  (a0 : Int32) : Option (Int32) := mX6_isAllowed_b0 a0
set_option maxRecDepth 20000 in
theorem kX6_isAllowed_b0 {p : Program} {l : Launch} {e : Env} {s : State} {m : MethodId} {args : Array Value} {below : List Frame} {meth : Method} {c : Code} {A : Nat → Prop} {E : EV} {ad : Nat → Nat}  {r : Int32} (C0 : Cx RX6 "isAllowed" cX6_isAllowed (some .boolean) 1 wsX6_isAllowed p s m args meth c) (hA : Ax E A s) : ∀ (a0 : Int32) (H : Heap) (locs : List Loc) (ls : Array Slot), mX6_isAllowed_b0 a0 = some r → Wd E A s H locs ([] : va_W) → lv_has ls 1 [(0, .int a0)] → W p l e ({ frames := 1, cells := 0, slots := 0, locals := 22 } : Room) s m args below meth c H locs 0 0 (MQ below (QG E (Qd (some (.int r)) ([] : va_W)) A) args s 0 0 A) (F0 m 0 ls []) := by
  have hx := C0.1
  have hb := C0.2.1
  intro a0 H locs ls hm hw hl
  unfold mX6_isAllowed_b0 at hm
  refine lv_iload_n hx hb dX6_isAllowed_0 rfl (lv_at hl 0 rfl) ?_
  refine lv_if_eq (tgt := 21) hx hb dX6_isAllowed_1 (by decide) (fun c1 => ?_) (fun c1 => ?_)
  · have hm := Eq.trans (if_pos c1).symm hm
    refine lv_iconst (v := 1) hx hb dX6_isAllowed_21 (by decide) ?_
    refine lv_goto (tgt := 26) hx hb dX6_isAllowed_22 (by decide) ?_
    obtain rfl := sj1 hm
    exact r_zret C0 hw dX6_isAllowed_26 rfl ⟨rfl, rfl⟩
  · have hm := Eq.trans (if_neg c1).symm hm
    refine lv_iload_n hx hb dX6_isAllowed_4 rfl (lv_at hl 0 rfl) ?_
    refine lv_bipush (v := 10) hx hb dX6_isAllowed_5 (by decide) ?_
    refine lv_icmp_eq (tgt := 21) hx hb dX6_isAllowed_7 (by decide) (fun c2 => ?_) (fun c2 => ?_)
    · have hm := Eq.trans (if_pos c2).symm hm
      refine lv_iconst (v := 1) hx hb dX6_isAllowed_21 (by decide) ?_
      refine lv_goto (tgt := 26) hx hb dX6_isAllowed_22 (by decide) ?_
      obtain rfl := sj1 hm
      exact r_zret C0 hw dX6_isAllowed_26 rfl ⟨rfl, rfl⟩
    · have hm := Eq.trans (if_neg c2).symm hm
      refine lv_iload_n hx hb dX6_isAllowed_10 rfl (lv_at hl 0 rfl) ?_
      refine lv_bipush (v := 32) hx hb dX6_isAllowed_11 (by decide) ?_
      refine lv_bipush (v := 126) hx hb dX6_isAllowed_13 (by decide) ?_
      obtain ⟨r3, h4, hm⟩ := b1_some hm
      refine r_backZ (va_runSN (As := [.int a0, .int 32, .int 126]) (rest := []) ⟨hx, hb, C0.2.2.2.1, C0.2.2.2.2.1, C0.2.2.2.2.2.1⟩ (tX9_isWithin l E a0 32 126 h4 H.size) ⟨va_cnB 3 C0.2.2.2.2.2.1 ggX6_isAllowed_X9_isWithin rfl rfl rfl (hA.2.2.1.2.1 (.methodLinkNest RX6 27 yX9_isWithin "GrammarTunes") (by decide +kernel)) (C0.2.2.2.2.2.1 (.initialized RX9) (by decide +kernel)) (by decide +kernel) ⟨Nat.le_of_ble_eq_true rfl, Nat.le_of_ble_eq_true rfl⟩, C0.2.2.2.2.2.1 (.static yX9_isWithin) (by decide +kernel), trivial⟩ ⟨PG_blind, pg_nil hA hw⟩ rfl rfl hl.1 rfl (lv_room (Nat.le_of_ble_eq_true rfl)) dX6_isAllowed_15 ⟨Nat.zero_le _, Nat.zero_le _⟩) hA hw (fun H locs hw => ?_)
      refine lv_if_eq (tgt := 25) hx hb dX6_isAllowed_18 (by decide) (fun c5 => ?_) (fun c5 => ?_)
      · have hm := Eq.trans (if_pos c5).symm hm
        refine lv_iconst (v := 0) hx hb dX6_isAllowed_25 (by decide) ?_
        obtain rfl := sj1 hm
        exact r_zret C0 hw dX6_isAllowed_26 rfl ⟨rfl, rfl⟩
      · have hm := Eq.trans (if_neg c5).symm hm
        refine lv_iconst (v := 1) hx hb dX6_isAllowed_21 (by decide) ?_
        refine lv_goto (tgt := 26) hx hb dX6_isAllowed_22 (by decide) ?_
        obtain rfl := sj1 hm
        exact r_zret C0 hw dX6_isAllowed_26 rfl ⟨rfl, rfl⟩
theorem tX6_isAllowed (l : Launch) (E : EV)  (a0 : Int32) {r : Int32} (hm : mX6_isAllowed a0 = some r) : CT l yX6_isAllowed wsX6_isAllowed ({ frames := 1, cells := 0, slots := 0, locals := 22 } : Room) E [.int a0] ([] : va_W) (Qd (some (.int r)) ([] : va_W)) 0 0 :=
  CT.of (mL := 1) (lvs := [(0, .int a0)]) (by decide +kernel) rfl (Nat.le_of_ble_eq_true rfl) rfl rfl rfl (fun p e s m below meth c A C0 hA hw ls hl => kX6_isAllowed_b0 (ad := fun _ => 0) C0 hA a0 _ _ _ hm hw (lv_sub hl [0] rfl))
theorem lkX6_append_15 : Cond.fieldLink RX6 15 (TX6 1).1 (TX6 1).2.1 (TX6 1).2.2.1 ∈ wsX6_append := by decide +kernel
theorem lkX6_append_9 : Cond.fieldLink RX6 9 (TX6 0).1 (TX6 0).2.1 (TX6 0).2.2.1 ∈ wsX6_append := by decide +kernel
theorem hiX6_append_X6 : ∀ w ∈ u_ws RX6 TX6 2, w ∈ wsX6_append := by decide +kernel
def mX6_append_b68 (F : Nat)  : Nat → OS → Int64 → Int32 → Option (Int32 × OS)
  | 0, _, _, _ => none
  | n + 1, zx, a1, a4 => (if (a4 : Int32) < 0 then some (zx.1 1, zx) else b1 (mX6_byteOf a1 a4) (fun r2 => (if (r2 : Int32) = 0 then nm (a4 + (-8) : Int32) (fun v5 => mX6_append_b68 F n zx a1 v5) else gd (zx.1 1) 1200 (nm (sA zx 0 (zx.1 1) (vp_nar .char (((r2 : Int32).toUInt32 % 65536).toInt32))) (fun zx7 => nm (sI zx7 1 ((zx7.1 1) + 1)) (fun zx8 => nm (a4 + (-8) : Int32) (fun v9 => mX6_append_b68 F n zx8 a1 v9)))))))
def mX6_append_b6 (F : Nat)  : Nat → OS → Int64 → Int32 → Int32 → Option (Int32 × OS)
  | 0, _, _, _, _ => none
  | n + 1, zx, a1, a3, a4 => (if (a4 : Int32) < 0 then (if ((zx.1 1) + a3 : Int32) ≤ 1200 then nm (56 : Int32) (fun v3 => mX6_append_b68 F F zx a1 v3) else some ((-4), zx)) else b1 (mX6_byteOf a1 a4) (fun r4 => b1 (mX6_isAllowed r4) (fun r6 => (if (r6 : Int32) = 0 then some ((-2), zx) else (if (r4 : Int32) = 0 then nm (a3 + 0 : Int32) (fun v12 => nm (a4 + (-8) : Int32) (fun v13 => mX6_append_b6 F n zx a1 v12 v13)) else nm (a3 + 1 : Int32) (fun v10 => nm (a4 + (-8) : Int32) (fun v11 => mX6_append_b6 F n zx a1 v10 v11)))))))
def mX6_append_b0 (F : Nat)  (zx : OS) (a1 : Int64) : Option (Int32 × OS) := nm (0 : Int32) (fun v1 => nm (56 : Int32) (fun v2 => mX6_append_b6 F F zx a1 v1 v2))
def mX6_append (F : Nat) (zx : OS) (a1 : Int64) : Option (Int32 × OS) := mX6_append_b0 F zx a1
set_option maxRecDepth 20000 in
theorem kX6_append_b68 {p : Program} {l : Launch} {e : Env} {s : State} {m : MethodId} {args : Array Value} {below : List Frame} {meth : Method} {c : Code} {A : Nat → Prop} {E : EV} {ad : Nat → Nat} (F : Nat)  {r : Int32} {zx' : OS} (C0 : Cx RX6 "append" cX6_append (some .int) 6 wsX6_append p s m args meth c) (hA : Ax E A s) : ∀ (n : Nat) (zx : OS) (a1 : Int64) (a4 : Int32) (H : Heap) (locs : List Loc) (ls : Array Slot), mX6_append_b68 F n zx a1 a4 = some (r, zx') → Wd E A s H locs (wS E ad zx) → lv_has ls 6 [(0, .ref (ad 0)), (1, .long a1), (4, .int a4)] → W p l e ({ frames := 2, cells := 0, slots := 0, locals := 42 } : Room) s m args below meth c H locs 0 0 (MQ below (QG E (Qd (some (.int r)) (wS E ad zx')) A) args s 0 0 A) (F0 m 68 ls []) := by
  have hx := C0.1
  have hb := C0.2.1
  intro n
  induction n with
  | zero =>
    intro zx a1 a4 H locs ls hm
    cases hm
  | succ n ih =>
    intro zx a1 a4 H locs ls hm hw hl
    unfold mX6_append_b68 at hm
    refine lv_iload hx hb dX6_append_68 (lv_at hl 2 rfl) ?_
    refine lv_if_lt (tgt := 114) hx hb dX6_append_70 (by decide) (fun c1 => ?_) (fun c1 => ?_)
    · have hm := Eq.trans (if_pos c1).symm hm
      refine lv_aload_n hx hb dX6_append_114 rfl (lv_at hl 0 rfl) ?_
      refine gS_0_1 C0 hA hw hiX6_append_X6 lkX6_append_15 dX6_append_115 ?_
      obtain ⟨rfl, rfl⟩ := sj2 hm
      exact r_iret C0 hw dX6_append_118 ⟨rfl, rfl⟩
    · have hm := Eq.trans (if_neg c1).symm hm
      refine lv_lload_n hx hb dX6_append_73 rfl (lv_at hl 1 rfl) ?_
      refine lv_iload hx hb dX6_append_74 (lv_at hl 2 rfl) ?_
      obtain ⟨r2, h3, hm⟩ := b1_some hm
      refine r_backZ (va_runS (As := [.long a1, .int a4]) (rest := []) ⟨hx, hb, C0.2.2.2.1, C0.2.2.2.2.1, C0.2.2.2.2.2.1⟩ (tX6_byteOf l E a1 a4 h3 H.size) (va_cwS 2 C0.2.2.2.2.2.1 gX6_append_X6_byteOf rfl rfl rfl (by decide +kernel) ⟨Nat.le_of_ble_eq_true rfl, Nat.le_of_ble_eq_true rfl⟩) ⟨PG_blind, pg_nil hA hw⟩ rfl rfl hl.1 rfl (lv_room (Nat.le_of_ble_eq_true rfl)) dX6_append_76 ⟨Nat.zero_le _, Nat.zero_le _⟩) hA hw (fun H locs hw => ?_)
      refine lv_istore (lv' := [(5, .int r2), (0, .ref (ad 0)), (1, .long a1), (4, .int a4)]) hx hb dX6_append_79 hl (by decide) rfl (fun ls hl => ?_)
      refine lv_iload hx hb dX6_append_81 (lv_at hl 0 rfl) ?_
      refine lv_if_eq (tgt := 108) hx hb dX6_append_83 (by decide) (fun c4 => ?_) (fun c4 => ?_)
      · have hm := Eq.trans (if_pos c4).symm hm
        obtain ⟨v5, ev5⟩ : ∃ y : Int32, y = a4 + (-8) := ⟨_, rfl⟩
        have hm := nm_at hm ev5
        refine lv_iinc (v := v5) (lv' := [(4, .int v5), (5, .int r2), (0, .ref (ad 0)), (1, .long a1)]) hx hb dX6_append_108 hl (k := 3) rfl (by rw [ev5]; rfl) (by decide) rfl (fun ls hl => ?_)
        refine lv_goto (tgt := 68) hx hb dX6_append_111 (by decide) ?_
        exact ih zx a1 v5 _ _ _ hm hw (lv_sub hl [2, 3, 0] rfl)
      · have hm := Eq.trans (if_neg c4).symm hm
        refine lv_aload_n hx hb dX6_append_86 rfl (lv_at hl 1 rfl) ?_
        refine gS_0_0 C0 hA hw hiX6_append_X6 lkX6_append_9 dX6_append_87 ?_
        refine lv_aload_n hx hb dX6_append_90 rfl (lv_at hl 1 rfl) ?_
        refine gS_0_1 C0 hA hw hiX6_append_X6 lkX6_append_15 dX6_append_91 ?_
        refine lv_iload hx hb dX6_append_94 (lv_at hl 0 rfl) ?_
        refine lv_i2c hx hb dX6_append_96 rfl ?_
        obtain ⟨c6, hm⟩ := gd_some hm
        refine sS_1 C0 hA hw c6 dX6_append_97 (fun zx7 ezx7 H locs hw => ?_)
        have hm := nm_at hm ezx7
        refine lv_aload_n hx hb dX6_append_98 rfl (lv_at hl 1 rfl) ?_
        refine lv_dup hx hb dX6_append_99 rfl ?_
        refine gS_0_1 C0 hA hw hiX6_append_X6 lkX6_append_15 dX6_append_100 ?_
        refine lv_iconst (v := 1) hx hb dX6_append_103 (by decide) ?_
        refine lv_iadd hx hb dX6_append_104 ?_
        refine pS_0_1 C0 hA hw hiX6_append_X6 lkX6_append_15 dX6_append_105 (fun zx8 ezx8 H locs hw => ?_)
        have hm := nm_at hm ezx8
        obtain ⟨v9, ev9⟩ : ∃ y : Int32, y = a4 + (-8) := ⟨_, rfl⟩
        have hm := nm_at hm ev9
        refine lv_iinc (v := v9) (lv' := [(4, .int v9), (5, .int r2), (0, .ref (ad 0)), (1, .long a1)]) hx hb dX6_append_108 hl (k := 3) rfl (by rw [ev9]; rfl) (by decide) rfl (fun ls hl => ?_)
        refine lv_goto (tgt := 68) hx hb dX6_append_111 (by decide) ?_
        exact ih zx8 a1 v9 _ _ _ hm hw (lv_sub hl [2, 3, 0] rfl)
set_option maxRecDepth 20000 in
theorem kX6_append_b6 {p : Program} {l : Launch} {e : Env} {s : State} {m : MethodId} {args : Array Value} {below : List Frame} {meth : Method} {c : Code} {A : Nat → Prop} {E : EV} {ad : Nat → Nat} (F : Nat)  {r : Int32} {zx' : OS} (C0 : Cx RX6 "append" cX6_append (some .int) 6 wsX6_append p s m args meth c) (hA : Ax E A s) : ∀ (n : Nat) (zx : OS) (a1 : Int64) (a3 : Int32) (a4 : Int32) (H : Heap) (locs : List Loc) (ls : Array Slot), mX6_append_b6 F n zx a1 a3 a4 = some (r, zx') → Wd E A s H locs (wS E ad zx) → lv_has ls 6 [(0, .ref (ad 0)), (1, .long a1), (3, .int a3), (4, .int a4)] → W p l e ({ frames := 2, cells := 0, slots := 0, locals := 42 } : Room) s m args below meth c H locs 0 0 (MQ below (QG E (Qd (some (.int r)) (wS E ad zx')) A) args s 0 0 A) (F0 m 6 ls []) := by
  have hx := C0.1
  have hb := C0.2.1
  intro n
  induction n with
  | zero =>
    intro zx a1 a3 a4 H locs ls hm
    cases hm
  | succ n ih =>
    intro zx a1 a3 a4 H locs ls hm hw hl
    unfold mX6_append_b6 at hm
    refine lv_iload hx hb dX6_append_6 (lv_at hl 3 rfl) ?_
    refine lv_if_lt (tgt := 49) hx hb dX6_append_8 (by decide) (fun c1 => ?_) (fun c1 => ?_)
    · have hm := Eq.trans (if_pos c1).symm hm
      refine lv_aload_n hx hb dX6_append_49 rfl (lv_at hl 0 rfl) ?_
      refine gS_0_1 C0 hA hw hiX6_append_X6 lkX6_append_15 dX6_append_50 ?_
      refine lv_iload_n hx hb dX6_append_53 rfl (lv_at hl 2 rfl) ?_
      refine lv_iadd hx hb dX6_append_54 ?_
      refine lv_sipush (v := 1200) hx hb dX6_append_55 (by decide) ?_
      refine lv_icmp_le (tgt := 64) hx hb dX6_append_58 (by decide) (fun c2 => ?_) (fun c2 => ?_)
      · have hm := Eq.trans (if_pos c2).symm hm
        refine lv_bipush (v := 56) hx hb dX6_append_64 (by decide) ?_
        refine lv_topi (fun v3 ev3 => ?_)
        have hm := nm_at hm ev3
        refine lv_istore (lv' := [(4, .int v3), (0, .ref (ad 0)), (1, .long a1), (3, .int a3)]) hx hb dX6_append_66 hl (by decide) rfl (fun ls hl => ?_)
        exact kX6_append_b68 F C0 hA F zx a1 v3 _ _ _ hm hw (lv_sub hl [1, 2, 0] rfl)
      · have hm := Eq.trans (if_neg c2).symm hm
        refine lv_bipush (v := (-4)) hx hb dX6_append_61 (by decide) ?_
        obtain ⟨rfl, rfl⟩ := sj2 hm
        exact r_iret C0 hw dX6_append_63 ⟨rfl, rfl⟩
    · have hm := Eq.trans (if_neg c1).symm hm
      refine lv_lload_n hx hb dX6_append_11 rfl (lv_at hl 1 rfl) ?_
      refine lv_iload hx hb dX6_append_12 (lv_at hl 3 rfl) ?_
      obtain ⟨r4, h5, hm⟩ := b1_some hm
      refine r_backZ (va_runS (As := [.long a1, .int a4]) (rest := []) ⟨hx, hb, C0.2.2.2.1, C0.2.2.2.2.1, C0.2.2.2.2.2.1⟩ (tX6_byteOf l E a1 a4 h5 H.size) (va_cwS 2 C0.2.2.2.2.2.1 gX6_append_X6_byteOf rfl rfl rfl (by decide +kernel) ⟨Nat.le_of_ble_eq_true rfl, Nat.le_of_ble_eq_true rfl⟩) ⟨PG_blind, pg_nil hA hw⟩ rfl rfl hl.1 rfl (lv_room (Nat.le_of_ble_eq_true rfl)) dX6_append_14 ⟨Nat.zero_le _, Nat.zero_le _⟩) hA hw (fun H locs hw => ?_)
      refine lv_istore (lv' := [(5, .int r4), (0, .ref (ad 0)), (1, .long a1), (3, .int a3), (4, .int a4)]) hx hb dX6_append_17 hl (by decide) rfl (fun ls hl => ?_)
      refine lv_iload hx hb dX6_append_19 (lv_at hl 0 rfl) ?_
      obtain ⟨r6, h7, hm⟩ := b1_some hm
      refine r_backZ (va_runS (As := [.int r4]) (rest := []) ⟨hx, hb, C0.2.2.2.1, C0.2.2.2.2.1, C0.2.2.2.2.2.1⟩ (tX6_isAllowed l E r4 h7 H.size) (va_cwS 1 C0.2.2.2.2.2.1 gX6_append_X6_isAllowed rfl rfl rfl (by decide +kernel) ⟨Nat.le_of_ble_eq_true rfl, Nat.le_of_ble_eq_true rfl⟩) ⟨PG_blind, pg_nil hA hw⟩ rfl rfl hl.1 rfl (lv_room (Nat.le_of_ble_eq_true rfl)) dX6_append_21 ⟨Nat.zero_le _, Nat.zero_le _⟩) hA hw (fun H locs hw => ?_)
      refine lv_if_ne (tgt := 30) hx hb dX6_append_24 (by decide) (fun c8 => ?_) (fun c8 => ?_)
      · have hm := Eq.trans (if_neg c8).symm hm
        refine lv_iload_n hx hb dX6_append_30 rfl (lv_at hl 3 rfl) ?_
        refine lv_iload hx hb dX6_append_31 (lv_at hl 0 rfl) ?_
        refine lv_if_ne (tgt := 40) hx hb dX6_append_33 (by decide) (fun c9 => ?_) (fun c9 => ?_)
        · have hm := Eq.trans (if_neg c9).symm hm
          refine lv_iconst (v := 1) hx hb dX6_append_40 (by decide) ?_
          refine lv_iadd hx hb dX6_append_41 ?_
          refine lv_topi (fun v10 ev10 => ?_)
          have hm := nm_at hm ev10
          refine lv_istore_n (lv' := [(3, .int v10), (5, .int r4), (0, .ref (ad 0)), (1, .long a1), (4, .int a4)]) hx hb dX6_append_42 rfl hl (by decide) rfl (fun ls hl => ?_)
          obtain ⟨v11, ev11⟩ : ∃ y : Int32, y = a4 + (-8) := ⟨_, rfl⟩
          have hm := nm_at hm ev11
          refine lv_iinc (v := v11) (lv' := [(4, .int v11), (3, .int v10), (5, .int r4), (0, .ref (ad 0)), (1, .long a1)]) hx hb dX6_append_43 hl (k := 4) rfl (by rw [ev11]; rfl) (by decide) rfl (fun ls hl => ?_)
          refine lv_goto (tgt := 6) hx hb dX6_append_46 (by decide) ?_
          exact ih zx a1 v10 v11 _ _ _ hm hw (lv_sub hl [3, 4, 1, 0] rfl)
        · have hm := Eq.trans (if_pos c9).symm hm
          refine lv_iconst (v := 0) hx hb dX6_append_36 (by decide) ?_
          refine lv_goto (tgt := 41) hx hb dX6_append_37 (by decide) ?_
          refine lv_iadd hx hb dX6_append_41 ?_
          refine lv_topi (fun v12 ev12 => ?_)
          have hm := nm_at hm ev12
          refine lv_istore_n (lv' := [(3, .int v12), (5, .int r4), (0, .ref (ad 0)), (1, .long a1), (4, .int a4)]) hx hb dX6_append_42 rfl hl (by decide) rfl (fun ls hl => ?_)
          obtain ⟨v13, ev13⟩ : ∃ y : Int32, y = a4 + (-8) := ⟨_, rfl⟩
          have hm := nm_at hm ev13
          refine lv_iinc (v := v13) (lv' := [(4, .int v13), (3, .int v12), (5, .int r4), (0, .ref (ad 0)), (1, .long a1)]) hx hb dX6_append_43 hl (k := 4) rfl (by rw [ev13]; rfl) (by decide) rfl (fun ls hl => ?_)
          refine lv_goto (tgt := 6) hx hb dX6_append_46 (by decide) ?_
          exact ih zx a1 v12 v13 _ _ _ hm hw (lv_sub hl [3, 4, 1, 0] rfl)
      · have hm := Eq.trans (if_pos c8).symm hm
        refine lv_bipush (v := (-2)) hx hb dX6_append_27 (by decide) ?_
        obtain ⟨rfl, rfl⟩ := sj2 hm
        exact r_iret C0 hw dX6_append_29 ⟨rfl, rfl⟩
set_option maxRecDepth 20000 in
theorem kX6_append_b0 {p : Program} {l : Launch} {e : Env} {s : State} {m : MethodId} {args : Array Value} {below : List Frame} {meth : Method} {c : Code} {A : Nat → Prop} {E : EV} {ad : Nat → Nat} (F : Nat)  {r : Int32} {zx' : OS} (C0 : Cx RX6 "append" cX6_append (some .int) 6 wsX6_append p s m args meth c) (hA : Ax E A s) : ∀ (zx : OS) (a1 : Int64) (H : Heap) (locs : List Loc) (ls : Array Slot), mX6_append_b0 F zx a1 = some (r, zx') → Wd E A s H locs (wS E ad zx) → lv_has ls 6 [(0, .ref (ad 0)), (1, .long a1)] → W p l e ({ frames := 2, cells := 0, slots := 0, locals := 42 } : Room) s m args below meth c H locs 0 0 (MQ below (QG E (Qd (some (.int r)) (wS E ad zx')) A) args s 0 0 A) (F0 m 0 ls []) := by
  have hx := C0.1
  have hb := C0.2.1
  intro zx a1 H locs ls hm hw hl
  unfold mX6_append_b0 at hm
  refine lv_iconst (v := 0) hx hb dX6_append_0 (by decide) ?_
  refine lv_topi (fun v1 ev1 => ?_)
  have hm := nm_at hm ev1
  refine lv_istore_n (lv' := [(3, .int v1), (0, .ref (ad 0)), (1, .long a1)]) hx hb dX6_append_1 rfl hl (by decide) rfl (fun ls hl => ?_)
  refine lv_bipush (v := 56) hx hb dX6_append_2 (by decide) ?_
  refine lv_topi (fun v2 ev2 => ?_)
  have hm := nm_at hm ev2
  refine lv_istore (lv' := [(4, .int v2), (3, .int v1), (0, .ref (ad 0)), (1, .long a1)]) hx hb dX6_append_4 hl (by decide) rfl (fun ls hl => ?_)
  exact kX6_append_b6 F C0 hA F zx a1 v1 v2 _ _ _ hm hw (lv_sub hl [2, 3, 1, 0] rfl)
theorem tX6_append (l : Launch) (E : EV) (ad : Nat → Nat) (F : Nat) (zx : OS) (a1 : Int64) {r : Int32} {zx' : OS} (hm : mX6_append F zx a1 = some (r, zx')) : CT l yX6_append wsX6_append ({ frames := 2, cells := 0, slots := 0, locals := 42 } : Room) E [.ref (ad 0), .long a1] (wS E ad zx) (Qd (some (.int r)) (wS E ad zx')) 0 0 :=
  CT.of (mL := 6) (lvs := [(0, .ref (ad 0)), (1, .long a1)]) (by decide +kernel) rfl (Nat.le_of_ble_eq_true rfl) rfl rfl rfl (fun p e s m below meth c A C0 hA hw ls hl => kX6_append_b0 (ad := ad) F C0 hA zx a1 _ _ _ hm hw (lv_sub hl [0, 1] rfl))
theorem lkX6_shorten_15 : Cond.fieldLink RX6 15 (TX6 1).1 (TX6 1).2.1 (TX6 1).2.2.1 ∈ wsX6_shorten := by decide +kernel
theorem hiX6_shorten_X6 : ∀ w ∈ u_ws RX6 TX6 2, w ∈ wsX6_shorten := by decide +kernel
def mX6_shorten_b0  (zx : OS) (a1 : Int32) : Option (Int32 × OS) := b1 (mX9_isWithin a1 0 (zx.1 1)) (fun r1 => (if (r1 : Int32) = 0 then some ((-2), zx) else nm ((zx.1 1) - a1 : Int32) (fun v4 => nm (sI zx 1 a1) (fun zx5 => some (v4, zx5)))))
def mX6_shorten (zx : OS) (a1 : Int32) : Option (Int32 × OS) := mX6_shorten_b0 zx a1
set_option maxRecDepth 20000 in
theorem kX6_shorten_b0 {p : Program} {l : Launch} {e : Env} {s : State} {m : MethodId} {args : Array Value} {below : List Frame} {meth : Method} {c : Code} {A : Nat → Prop} {E : EV} {ad : Nat → Nat}  {r : Int32} {zx' : OS} (C0 : Cx RX6 "shorten" cX6_shorten (some .int) 3 wsX6_shorten p s m args meth c) (hA : Ax E A s) : ∀ (zx : OS) (a1 : Int32) (H : Heap) (locs : List Loc) (ls : Array Slot), mX6_shorten_b0 zx a1 = some (r, zx') → Wd E A s H locs (wS E ad zx) → lv_has ls 3 [(0, .ref (ad 0)), (1, .int a1)] → W p l e ({ frames := 1, cells := 0, slots := 0, locals := 22 } : Room) s m args below meth c H locs 0 0 (MQ below (QG E (Qd (some (.int r)) (wS E ad zx')) A) args s 0 0 A) (F0 m 0 ls []) := by
  have hx := C0.1
  have hb := C0.2.1
  intro zx a1 H locs ls hm hw hl
  unfold mX6_shorten_b0 at hm
  refine lv_iload_n hx hb dX6_shorten_0 rfl (lv_at hl 1 rfl) ?_
  refine lv_iconst (v := 0) hx hb dX6_shorten_1 (by decide) ?_
  refine lv_aload_n hx hb dX6_shorten_2 rfl (lv_at hl 0 rfl) ?_
  refine gS_0_1 C0 hA hw hiX6_shorten_X6 lkX6_shorten_15 dX6_shorten_3 ?_
  obtain ⟨r1, h2, hm⟩ := b1_some hm
  refine r_backZ (va_runSN (As := [.int a1, .int 0, .int (zx.1 1)]) (rest := []) ⟨hx, hb, C0.2.2.2.1, C0.2.2.2.2.1, C0.2.2.2.2.2.1⟩ (tX9_isWithin l E a1 0 (zx.1 1) h2 H.size) ⟨va_cnB 3 C0.2.2.2.2.2.1 ggX6_shorten_X9_isWithin rfl rfl rfl (hA.2.2.1.2.1 (.methodLinkNest RX6 27 yX9_isWithin "GrammarTunes") (by decide +kernel)) (C0.2.2.2.2.2.1 (.initialized RX9) (by decide +kernel)) (by decide +kernel) ⟨Nat.le_of_ble_eq_true rfl, Nat.le_of_ble_eq_true rfl⟩, C0.2.2.2.2.2.1 (.static yX9_isWithin) (by decide +kernel), trivial⟩ ⟨PG_blind, pg_nil hA hw⟩ rfl rfl hl.1 rfl (lv_room (Nat.le_of_ble_eq_true rfl)) dX6_shorten_6 ⟨Nat.zero_le _, Nat.zero_le _⟩) hA hw (fun H locs hw => ?_)
  refine lv_if_ne (tgt := 15) hx hb dX6_shorten_9 (by decide) (fun c3 => ?_) (fun c3 => ?_)
  · have hm := Eq.trans (if_neg c3).symm hm
    refine lv_aload_n hx hb dX6_shorten_15 rfl (lv_at hl 0 rfl) ?_
    refine gS_0_1 C0 hA hw hiX6_shorten_X6 lkX6_shorten_15 dX6_shorten_16 ?_
    refine lv_iload_n hx hb dX6_shorten_19 rfl (lv_at hl 1 rfl) ?_
    refine lv_isub hx hb dX6_shorten_20 ?_
    refine lv_topi (fun v4 ev4 => ?_)
    have hm := nm_at hm ev4
    refine lv_istore_n (lv' := [(2, .int v4), (0, .ref (ad 0)), (1, .int a1)]) hx hb dX6_shorten_21 rfl hl (by decide) rfl (fun ls hl => ?_)
    refine lv_aload_n hx hb dX6_shorten_22 rfl (lv_at hl 1 rfl) ?_
    refine lv_iload_n hx hb dX6_shorten_23 rfl (lv_at hl 2 rfl) ?_
    refine pS_0_1 C0 hA hw hiX6_shorten_X6 lkX6_shorten_15 dX6_shorten_24 (fun zx5 ezx5 H locs hw => ?_)
    have hm := nm_at hm ezx5
    refine lv_iload_n hx hb dX6_shorten_27 rfl (lv_at hl 0 rfl) ?_
    obtain ⟨rfl, rfl⟩ := sj2 hm
    exact r_iret C0 hw dX6_shorten_28 ⟨rfl, rfl⟩
  · have hm := Eq.trans (if_pos c3).symm hm
    refine lv_bipush (v := (-2)) hx hb dX6_shorten_12 (by decide) ?_
    obtain ⟨rfl, rfl⟩ := sj2 hm
    exact r_iret C0 hw dX6_shorten_14 ⟨rfl, rfl⟩
theorem tX6_shorten (l : Launch) (E : EV) (ad : Nat → Nat) (zx : OS) (a1 : Int32) {r : Int32} {zx' : OS} (hm : mX6_shorten zx a1 = some (r, zx')) : CT l yX6_shorten wsX6_shorten ({ frames := 1, cells := 0, slots := 0, locals := 22 } : Room) E [.ref (ad 0), .int a1] (wS E ad zx) (Qd (some (.int r)) (wS E ad zx')) 0 0 :=
  CT.of (mL := 3) (lvs := [(0, .ref (ad 0)), (1, .int a1)]) (by decide +kernel) rfl (Nat.le_of_ble_eq_true rfl) rfl rfl rfl (fun p e s m below meth c A C0 hA hw ls hl => kX6_shorten_b0 (ad := ad) C0 hA zx a1 _ _ _ hm hw (lv_sub hl [0, 1] rfl))
theorem lkX6_at_15 : Cond.fieldLink RX6 15 (TX6 1).1 (TX6 1).2.1 (TX6 1).2.2.1 ∈ wsX6_at := by decide +kernel
theorem lkX6_at_9 : Cond.fieldLink RX6 9 (TX6 0).1 (TX6 0).2.1 (TX6 0).2.2.1 ∈ wsX6_at := by decide +kernel
theorem hiX6_at_X6 : ∀ w ∈ u_ws RX6 TX6 2, w ∈ wsX6_at := by decide +kernel
def mX6_at_b0  (zx : OS) (a1 : Int32) : Option (Int32) := (if (a1 : Int32) < 0 then some (-1) else (if (zx.1 1) ≤ (a1 : Int32) then some (-1) else gd a1 1200 (some (zx.2.2.1 0 (a1 : Int32).toNatClampNeg))))
def mX6_at (zx : OS) (a1 : Int32) : Option (Int32) := mX6_at_b0 zx a1
set_option maxRecDepth 20000 in
theorem kX6_at_b0 {p : Program} {l : Launch} {e : Env} {s : State} {m : MethodId} {args : Array Value} {below : List Frame} {meth : Method} {c : Code} {A : Nat → Prop} {E : EV} {ad : Nat → Nat} {zx : OS} {r : Int32} (C0 : Cx RX6 "at" cX6_at (some .int) 2 wsX6_at p s m args meth c) (hA : Ax E A s) : ∀ (a1 : Int32) (H : Heap) (locs : List Loc) (ls : Array Slot), mX6_at_b0 zx a1 = some r → Wd E A s H locs (wS E ad zx) → lv_has ls 2 [(0, .ref (ad 0)), (1, .int a1)] → W p l e ({ frames := 0, cells := 0, slots := 0, locals := 0 } : Room) s m args below meth c H locs 0 0 (MQ below (QG E (Qd (some (.int r)) (wS E ad zx)) A) args s 0 0 A) (F0 m 0 ls []) := by
  have hx := C0.1
  have hb := C0.2.1
  intro a1 H locs ls hm hw hl
  unfold mX6_at_b0 at hm
  refine lv_iload_n hx hb dX6_at_0 rfl (lv_at hl 1 rfl) ?_
  refine lv_if_lt (tgt := 21) hx hb dX6_at_1 (by decide) (fun c1 => ?_) (fun c1 => ?_)
  · have hm := Eq.trans (if_pos c1).symm hm
    refine lv_iconst (v := (-1)) hx hb dX6_at_21 (by decide) ?_
    obtain rfl := sj1 hm
    exact r_iret C0 hw dX6_at_22 ⟨rfl, rfl⟩
  · have hm := Eq.trans (if_neg c1).symm hm
    refine lv_iload_n hx hb dX6_at_4 rfl (lv_at hl 1 rfl) ?_
    refine lv_aload_n hx hb dX6_at_5 rfl (lv_at hl 0 rfl) ?_
    refine gS_0_1 C0 hA hw hiX6_at_X6 lkX6_at_15 dX6_at_6 ?_
    refine lv_icmp_ge (tgt := 21) hx hb dX6_at_9 (by decide) (fun c2 => ?_) (fun c2 => ?_)
    · have hm := Eq.trans (if_pos c2).symm hm
      refine lv_iconst (v := (-1)) hx hb dX6_at_21 (by decide) ?_
      obtain rfl := sj1 hm
      exact r_iret C0 hw dX6_at_22 ⟨rfl, rfl⟩
    · have hm := Eq.trans (if_neg c2).symm hm
      refine lv_aload_n hx hb dX6_at_12 rfl (lv_at hl 0 rfl) ?_
      refine gS_0_0 C0 hA hw hiX6_at_X6 lkX6_at_9 dX6_at_13 ?_
      refine lv_iload_n hx hb dX6_at_16 rfl (lv_at hl 1 rfl) ?_
      obtain ⟨c3, hm⟩ := gd_some hm
      refine lS_1 C0 hA hw c3 dX6_at_17 ?_
      refine lv_goto (tgt := 22) hx hb dX6_at_18 (by decide) ?_
      obtain rfl := sj1 hm
      exact r_iret C0 hw dX6_at_22 ⟨rfl, rfl⟩
theorem tX6_at (l : Launch) (E : EV) (ad : Nat → Nat) (zx : OS) (a1 : Int32) {r : Int32} (hm : mX6_at zx a1 = some r) : CT l yX6_at wsX6_at ({ frames := 0, cells := 0, slots := 0, locals := 0 } : Room) E [.ref (ad 0), .int a1] (wS E ad zx) (Qd (some (.int r)) (wS E ad zx)) 0 0 :=
  CT.of (mL := 2) (lvs := [(0, .ref (ad 0)), (1, .int a1)]) (by decide +kernel) rfl (Nat.le_of_ble_eq_true rfl) rfl rfl rfl (fun p e s m below meth c A C0 hA hw ls hl => kX6_at_b0 (ad := ad) C0 hA a1 _ _ _ hm hw (lv_sub hl [0, 1] rfl))
theorem lkX6_skipBlanks_15 : Cond.fieldLink RX6 15 (TX6 1).1 (TX6 1).2.1 (TX6 1).2.2.1 ∈ wsX6_skipBlanks := by decide +kernel
theorem hiX6_skipBlanks_X6 : ∀ w ∈ u_ws RX6 TX6 2, w ∈ wsX6_skipBlanks := by decide +kernel
def mX6_skipBlanks_b2 (F : Nat)  : Nat → OS → Int32 → Option (Int32)
  | 0, _, _ => none
  | n + 1, zx, a2 => (if (zx.1 1) ≤ (a2 : Int32) then some a2 else b1 (mX6_at zx a2) (fun r2 => b1 (mX9_isBlank r2) (fun r4 => (if (r4 : Int32) = 0 then some a2 else nm (a2 + 1 : Int32) (fun v7 => mX6_skipBlanks_b2 F n zx v7)))))
def mX6_skipBlanks_b0 (F : Nat)  (zx : OS) (a1 : Int32) : Option (Int32) := mX6_skipBlanks_b2 F F zx a1
def mX6_skipBlanks (F : Nat) (zx : OS) (a1 : Int32) : Option (Int32) := mX6_skipBlanks_b0 F zx a1
set_option maxRecDepth 20000 in
theorem kX6_skipBlanks_b2 {p : Program} {l : Launch} {e : Env} {s : State} {m : MethodId} {args : Array Value} {below : List Frame} {meth : Method} {c : Code} {A : Nat → Prop} {E : EV} {ad : Nat → Nat} (F : Nat) {zx : OS} {r : Int32} (C0 : Cx RX6 "skipBlanks" cX6_skipBlanks (some .int) 3 wsX6_skipBlanks p s m args meth c) (hA : Ax E A s) : ∀ (n : Nat) (a2 : Int32) (H : Heap) (locs : List Loc) (ls : Array Slot), mX6_skipBlanks_b2 F n zx a2 = some r → Wd E A s H locs (wS E ad zx) → lv_has ls 3 [(0, .ref (ad 0)), (2, .int a2)] → W p l e ({ frames := 1, cells := 0, slots := 0, locals := 21 } : Room) s m args below meth c H locs 0 0 (MQ below (QG E (Qd (some (.int r)) (wS E ad zx)) A) args s 0 0 A) (F0 m 2 ls []) := by
  have hx := C0.1
  have hb := C0.2.1
  intro n
  induction n with
  | zero =>
    intro a2 H locs ls hm
    cases hm
  | succ n ih =>
    intro a2 H locs ls hm hw hl
    unfold mX6_skipBlanks_b2 at hm
    refine lv_iload_n hx hb dX6_skipBlanks_2 rfl (lv_at hl 1 rfl) ?_
    refine lv_aload_n hx hb dX6_skipBlanks_3 rfl (lv_at hl 0 rfl) ?_
    refine gS_0_1 C0 hA hw hiX6_skipBlanks_X6 lkX6_skipBlanks_15 dX6_skipBlanks_4 ?_
    refine lv_icmp_ge (tgt := 27) hx hb dX6_skipBlanks_7 (by decide) (fun c1 => ?_) (fun c1 => ?_)
    · have hm := Eq.trans (if_pos c1).symm hm
      refine lv_iload_n hx hb dX6_skipBlanks_27 rfl (lv_at hl 1 rfl) ?_
      obtain rfl := sj1 hm
      exact r_iret C0 hw dX6_skipBlanks_28 ⟨rfl, rfl⟩
    · have hm := Eq.trans (if_neg c1).symm hm
      refine lv_aload_n hx hb dX6_skipBlanks_10 rfl (lv_at hl 0 rfl) ?_
      refine lv_iload_n hx hb dX6_skipBlanks_11 rfl (lv_at hl 1 rfl) ?_
      obtain ⟨r2, h3, hm⟩ := b1_some hm
      refine r_backS (va_runV (As := [.int a2]) (rest := []) ⟨hx, hb, C0.2.2.2.1, C0.2.2.2.2.1, C0.2.2.2.2.2.1⟩ (tX6_at l E ad zx a2 h3 H.size) (cwV 1 C0.2.2.2.2.2.1 gX6_skipBlanks_X6_at rfl rfl rfl (by decide +kernel) ⟨Nat.le_of_ble_eq_true rfl, Nat.le_of_ble_eq_true rfl⟩) ⟨PG_blind, va_recv hA.2.2.1.1 hw.1 (ci := 6) (q0 := 0) rfl rfl, pg_self hA hw⟩ rfl rfl hl.1 rfl (lv_room (Nat.le_of_ble_eq_true rfl)) dX6_skipBlanks_12 ⟨Nat.zero_le _, Nat.zero_le _⟩) hA hw (fun H locs hw => ?_)
      obtain ⟨r4, h5, hm⟩ := b1_some hm
      refine r_backZ (va_runSN (As := [.int r2]) (rest := []) ⟨hx, hb, C0.2.2.2.1, C0.2.2.2.2.1, C0.2.2.2.2.2.1⟩ (tX9_isBlank l E r2 h5 H.size) ⟨va_cnB 1 C0.2.2.2.2.2.1 ggX6_skipBlanks_X9_isBlank rfl rfl rfl (hA.2.2.1.2.1 (.methodLinkNest RX6 35 yX9_isBlank "GrammarTunes") (by decide +kernel)) (C0.2.2.2.2.2.1 (.initialized RX9) (by decide +kernel)) (by decide +kernel) ⟨Nat.le_of_ble_eq_true rfl, Nat.le_of_ble_eq_true rfl⟩, C0.2.2.2.2.2.1 (.static yX9_isBlank) (by decide +kernel), trivial⟩ ⟨PG_blind, pg_nil hA hw⟩ rfl rfl hl.1 rfl (lv_room (Nat.le_of_ble_eq_true rfl)) dX6_skipBlanks_15 ⟨Nat.zero_le _, Nat.zero_le _⟩) hA hw (fun H locs hw => ?_)
      refine lv_if_eq (tgt := 27) hx hb dX6_skipBlanks_18 (by decide) (fun c6 => ?_) (fun c6 => ?_)
      · have hm := Eq.trans (if_pos c6).symm hm
        refine lv_iload_n hx hb dX6_skipBlanks_27 rfl (lv_at hl 1 rfl) ?_
        obtain rfl := sj1 hm
        exact r_iret C0 hw dX6_skipBlanks_28 ⟨rfl, rfl⟩
      · have hm := Eq.trans (if_neg c6).symm hm
        obtain ⟨v7, ev7⟩ : ∃ y : Int32, y = a2 + 1 := ⟨_, rfl⟩
        have hm := nm_at hm ev7
        refine lv_iinc (v := v7) (lv' := [(2, .int v7), (0, .ref (ad 0))]) hx hb dX6_skipBlanks_21 hl (k := 1) rfl (by rw [ev7]; rfl) (by decide) rfl (fun ls hl => ?_)
        refine lv_goto (tgt := 2) hx hb dX6_skipBlanks_24 (by decide) ?_
        exact ih v7 _ _ _ hm hw (lv_sub hl [1, 0] rfl)
set_option maxRecDepth 20000 in
theorem kX6_skipBlanks_b0 {p : Program} {l : Launch} {e : Env} {s : State} {m : MethodId} {args : Array Value} {below : List Frame} {meth : Method} {c : Code} {A : Nat → Prop} {E : EV} {ad : Nat → Nat} (F : Nat) {zx : OS} {r : Int32} (C0 : Cx RX6 "skipBlanks" cX6_skipBlanks (some .int) 3 wsX6_skipBlanks p s m args meth c) (hA : Ax E A s) : ∀ (a1 : Int32) (H : Heap) (locs : List Loc) (ls : Array Slot), mX6_skipBlanks_b0 F zx a1 = some r → Wd E A s H locs (wS E ad zx) → lv_has ls 3 [(0, .ref (ad 0)), (1, .int a1)] → W p l e ({ frames := 1, cells := 0, slots := 0, locals := 21 } : Room) s m args below meth c H locs 0 0 (MQ below (QG E (Qd (some (.int r)) (wS E ad zx)) A) args s 0 0 A) (F0 m 0 ls []) := by
  have hx := C0.1
  have hb := C0.2.1
  intro a1 H locs ls hm hw hl
  unfold mX6_skipBlanks_b0 at hm
  refine lv_iload_n hx hb dX6_skipBlanks_0 rfl (lv_at hl 1 rfl) ?_
  refine lv_istore_n (lv' := [(2, .int a1), (0, .ref (ad 0)), (1, .int a1)]) hx hb dX6_skipBlanks_1 rfl hl (by decide) rfl (fun ls hl => ?_)
  exact kX6_skipBlanks_b2 F C0 hA F a1 _ _ _ hm hw (lv_sub hl [1, 0] rfl)
theorem tX6_skipBlanks (l : Launch) (E : EV) (ad : Nat → Nat) (F : Nat) (zx : OS) (a1 : Int32) {r : Int32} (hm : mX6_skipBlanks F zx a1 = some r) : CT l yX6_skipBlanks wsX6_skipBlanks ({ frames := 1, cells := 0, slots := 0, locals := 21 } : Room) E [.ref (ad 0), .int a1] (wS E ad zx) (Qd (some (.int r)) (wS E ad zx)) 0 0 :=
  CT.of (mL := 3) (lvs := [(0, .ref (ad 0)), (1, .int a1)]) (by decide +kernel) rfl (Nat.le_of_ble_eq_true rfl) rfl rfl rfl (fun p e s m below meth c A C0 hA hw ls hl => kX6_skipBlanks_b0 (ad := ad) F C0 hA a1 _ _ _ hm hw (lv_sub hl [0, 1] rfl))
theorem lkX7_swapIn_9 : Cond.fieldLink RX7 9 (TX7 0).1 (TX7 0).2.1 (TX7 0).2.2.1 ∈ wsX7_swapIn := by decide +kernel
theorem hiX7_swapIn_X7 : ∀ w ∈ u_ws RX7 TX7 1, w ∈ wsX7_swapIn := by decide +kernel
def mX7_swapIn_b2 (F : Nat)  : Nat → OS → Int32 → Int32 → Int32 → Option (OS)
  | 0, _, _, _, _ => none
  | n + 1, zx, a1, a2, a3 => (if 12 ≤ (a3 : Int32) then some zx else gd a3 12 ((if (zx.2.2.1 0 (a3 : Int32).toNatClampNeg : Int32) = a2 then gd a1 12 (gd a3 12 (nm (sA zx 0 a3 (zx.2.2.1 0 (a1 : Int32).toNatClampNeg)) (fun zx7 => gd a1 12 (nm (sA zx7 0 a1 a2) (fun zx9 => some zx9))))) else nm (a3 + 1 : Int32) (fun v4 => mX7_swapIn_b2 F n zx a1 a2 v4))))
def mX7_swapIn_b0 (F : Nat)  (zx : OS) (a1 : Int32) (a2 : Int32) : Option (OS) := nm (0 : Int32) (fun v1 => mX7_swapIn_b2 F F zx a1 a2 v1)
def mX7_swapIn (F : Nat) (zx : OS) (a1 : Int32) (a2 : Int32) : Option (OS) := mX7_swapIn_b0 F zx a1 a2
set_option maxRecDepth 20000 in
theorem kX7_swapIn_b2 {p : Program} {l : Launch} {e : Env} {s : State} {m : MethodId} {args : Array Value} {below : List Frame} {meth : Method} {c : Code} {A : Nat → Prop} {E : EV} {ad : Nat → Nat} (F : Nat)  {zx' : OS} (C0 : Cx RX7 "swapIn" cX7_swapIn (none) 4 wsX7_swapIn p s m args meth c) (hA : Ax E A s) : ∀ (n : Nat) (zx : OS) (a1 : Int32) (a2 : Int32) (a3 : Int32) (H : Heap) (locs : List Loc) (ls : Array Slot), mX7_swapIn_b2 F n zx a1 a2 a3 = some zx' → Wd E A s H locs (wW E ad zx) → lv_has ls 4 [(0, .ref (ad 0)), (1, .int a1), (2, .int a2), (3, .int a3)] → W p l e ({ frames := 0, cells := 0, slots := 0, locals := 0 } : Room) s m args below meth c H locs 0 0 (MQ below (QG E (Qd none (wW E ad zx')) A) args s 0 0 A) (F0 m 2 ls []) := by
  have hx := C0.1
  have hb := C0.2.1
  intro n
  induction n with
  | zero =>
    intro zx a1 a2 a3 H locs ls hm
    cases hm
  | succ n ih =>
    intro zx a1 a2 a3 H locs ls hm hw hl
    unfold mX7_swapIn_b2 at hm
    refine lv_iload_n hx hb dX7_swapIn_2 rfl (lv_at hl 3 rfl) ?_
    refine lv_bipush (v := 12) hx hb dX7_swapIn_3 (by decide) ?_
    refine lv_icmp_ge (tgt := 44) hx hb dX7_swapIn_5 (by decide) (fun c1 => ?_) (fun c1 => ?_)
    · have hm := Eq.trans (if_pos c1).symm hm
      obtain rfl := sj1 hm
      exact r_vret C0 hw dX7_swapIn_44 ⟨rfl, rfl⟩
    · have hm := Eq.trans (if_neg c1).symm hm
      refine lv_aload_n hx hb dX7_swapIn_8 rfl (lv_at hl 0 rfl) ?_
      refine gW_0_0 C0 hA hw hiX7_swapIn_X7 lkX7_swapIn_9 dX7_swapIn_9 ?_
      refine lv_iload_n hx hb dX7_swapIn_12 rfl (lv_at hl 3 rfl) ?_
      obtain ⟨c2, hm⟩ := gd_some hm
      refine lW_1 C0 hA hw c2 dX7_swapIn_13 ?_
      refine lv_iload_n hx hb dX7_swapIn_14 rfl (lv_at hl 2 rfl) ?_
      refine lv_icmp_ne (tgt := 38) hx hb dX7_swapIn_15 (by decide) (fun c3 => ?_) (fun c3 => ?_)
      · have hm := Eq.trans (if_neg c3).symm hm
        obtain ⟨v4, ev4⟩ : ∃ y : Int32, y = a3 + 1 := ⟨_, rfl⟩
        have hm := nm_at hm ev4
        refine lv_iinc (v := v4) (lv' := [(3, .int v4), (0, .ref (ad 0)), (1, .int a1), (2, .int a2)]) hx hb dX7_swapIn_38 hl (k := 3) rfl (by rw [ev4]; rfl) (by decide) rfl (fun ls hl => ?_)
        refine lv_goto (tgt := 2) hx hb dX7_swapIn_41 (by decide) ?_
        exact ih zx a1 a2 v4 _ _ _ hm hw (lv_sub hl [1, 2, 3, 0] rfl)
      · have hm := Eq.trans (if_pos c3).symm hm
        refine lv_aload_n hx hb dX7_swapIn_18 rfl (lv_at hl 0 rfl) ?_
        refine gW_0_0 C0 hA hw hiX7_swapIn_X7 lkX7_swapIn_9 dX7_swapIn_19 ?_
        refine lv_iload_n hx hb dX7_swapIn_22 rfl (lv_at hl 3 rfl) ?_
        refine lv_aload_n hx hb dX7_swapIn_23 rfl (lv_at hl 0 rfl) ?_
        refine gW_0_0 C0 hA hw hiX7_swapIn_X7 lkX7_swapIn_9 dX7_swapIn_24 ?_
        refine lv_iload_n hx hb dX7_swapIn_27 rfl (lv_at hl 1 rfl) ?_
        obtain ⟨c5, hm⟩ := gd_some hm
        refine lW_1 C0 hA hw c5 dX7_swapIn_28 ?_
        obtain ⟨c6, hm⟩ := gd_some hm
        refine sW_1 C0 hA hw c6 dX7_swapIn_29 (fun zx7 ezx7 H locs hw => ?_)
        have hm := nm_at hm ezx7
        refine lv_aload_n hx hb dX7_swapIn_30 rfl (lv_at hl 0 rfl) ?_
        refine gW_0_0 C0 hA hw hiX7_swapIn_X7 lkX7_swapIn_9 dX7_swapIn_31 ?_
        refine lv_iload_n hx hb dX7_swapIn_34 rfl (lv_at hl 1 rfl) ?_
        refine lv_iload_n hx hb dX7_swapIn_35 rfl (lv_at hl 2 rfl) ?_
        obtain ⟨c8, hm⟩ := gd_some hm
        refine sW_1 C0 hA hw c8 dX7_swapIn_36 (fun zx9 ezx9 H locs hw => ?_)
        have hm := nm_at hm ezx9
        obtain rfl := sj1 hm
        exact r_vret C0 hw dX7_swapIn_37 ⟨rfl, rfl⟩
set_option maxRecDepth 20000 in
theorem kX7_swapIn_b0 {p : Program} {l : Launch} {e : Env} {s : State} {m : MethodId} {args : Array Value} {below : List Frame} {meth : Method} {c : Code} {A : Nat → Prop} {E : EV} {ad : Nat → Nat} (F : Nat)  {zx' : OS} (C0 : Cx RX7 "swapIn" cX7_swapIn (none) 4 wsX7_swapIn p s m args meth c) (hA : Ax E A s) : ∀ (zx : OS) (a1 : Int32) (a2 : Int32) (H : Heap) (locs : List Loc) (ls : Array Slot), mX7_swapIn_b0 F zx a1 a2 = some zx' → Wd E A s H locs (wW E ad zx) → lv_has ls 4 [(0, .ref (ad 0)), (1, .int a1), (2, .int a2)] → W p l e ({ frames := 0, cells := 0, slots := 0, locals := 0 } : Room) s m args below meth c H locs 0 0 (MQ below (QG E (Qd none (wW E ad zx')) A) args s 0 0 A) (F0 m 0 ls []) := by
  have hx := C0.1
  have hb := C0.2.1
  intro zx a1 a2 H locs ls hm hw hl
  unfold mX7_swapIn_b0 at hm
  refine lv_iconst (v := 0) hx hb dX7_swapIn_0 (by decide) ?_
  refine lv_topi (fun v1 ev1 => ?_)
  have hm := nm_at hm ev1
  refine lv_istore_n (lv' := [(3, .int v1), (0, .ref (ad 0)), (1, .int a1), (2, .int a2)]) hx hb dX7_swapIn_1 rfl hl (by decide) rfl (fun ls hl => ?_)
  exact kX7_swapIn_b2 F C0 hA F zx a1 a2 v1 _ _ _ hm hw (lv_sub hl [1, 2, 3, 0] rfl)
theorem tX7_swapIn (l : Launch) (E : EV) (ad : Nat → Nat) (F : Nat) (zx : OS) (a1 : Int32) (a2 : Int32) {zx' : OS} (hm : mX7_swapIn F zx a1 a2 = some zx') : CT l yX7_swapIn wsX7_swapIn ({ frames := 0, cells := 0, slots := 0, locals := 0 } : Room) E [.ref (ad 0), .int a1, .int a2] (wW E ad zx) (Qd none (wW E ad zx')) 0 0 :=
  CT.of (mL := 4) (lvs := [(0, .ref (ad 0)), (1, .int a1), (2, .int a2)]) (by decide +kernel) rfl (Nat.le_of_ble_eq_true rfl) rfl rfl rfl (fun p e s m below meth c A C0 hA hw ls hl => kX7_swapIn_b0 (ad := ad) F C0 hA zx a1 a2 _ _ _ hm hw (lv_sub hl [0, 1, 2] rfl))
theorem lkX7_numberOf_9 : Cond.fieldLink RX7 9 (TX7 0).1 (TX7 0).2.1 (TX7 0).2.2.1 ∈ wsX7_numberOf := by decide +kernel
theorem hiX7_numberOf_X7 : ∀ w ∈ u_ws RX7 TX7 1, w ∈ wsX7_numberOf := by decide +kernel
def mX7_numberOf_b75  (zx : OS) (a2 : Int32) (t0 : Int32) : Option (Int32) := b1 (mJ9_floorMod_7cf53 (t0 + a2) 12) (fun r1 => some r1)
def mX7_numberOf_b51  (zx : OS) (a2 : Int32) (a4 : Int32) (t1 : Int32) : Option (Int32) := gd t1 12 (nm (zx.2.2.1 0 (t1 : Int32).toNatClampNeg : Int32) (fun v2 => (if (a4 : Int32) = 0 then mX7_numberOf_b75 zx a2 v2 else gd 0 12 (mX7_numberOf_b75 zx a2 ((2 * (zx.2.2.1 0 (0 : Int32).toNatClampNeg)) - v2)))))
def mX7_numberOf_b32  (zx : OS) (a2 : Int32) (a3 : Int32) (a4 : Int32) (t0 : Int32) : Option (Int32) := (if (t0 : Int32) = 0 then mX7_numberOf_b51 zx a2 a4 a3 else mX7_numberOf_b51 zx a2 a4 (11 - a3))
def mX7_numberOf_b15  (zx : OS) (a1 : Int32) (a2 : Int32) (a3 : Int32) (t0 : Int32) : Option (Int32) := (if (a1 : Int32) = 2 then mX7_numberOf_b32 zx a2 a3 t0 1 else (if (a1 : Int32) = 3 then mX7_numberOf_b32 zx a2 a3 t0 1 else mX7_numberOf_b32 zx a2 a3 t0 0))
def mX7_numberOf_b0  (zx : OS) (a1 : Int32) (a2 : Int32) (a3 : Int32) : Option (Int32) := (if (a1 : Int32) = 1 then mX7_numberOf_b15 zx a1 a2 a3 1 else (if (a1 : Int32) = 3 then mX7_numberOf_b15 zx a1 a2 a3 1 else mX7_numberOf_b15 zx a1 a2 a3 0))
def mX7_numberOf (zx : OS) (a1 : Int32) (a2 : Int32) (a3 : Int32) : Option (Int32) := mX7_numberOf_b0 zx a1 a2 a3
set_option maxRecDepth 20000 in
theorem kX7_numberOf_b75 {p : Program} {l : Launch} {e : Env} {s : State} {m : MethodId} {args : Array Value} {below : List Frame} {meth : Method} {c : Code} {A : Nat → Prop} {E : EV} {ad : Nat → Nat} {zx : OS} {r : Int32} (C0 : Cx RX7 "numberOf" cX7_numberOf (some .int) 8 wsX7_numberOf p s m args meth c) (hA : Ax E A s) : ∀ (a2 : Int32) (t0 : Int32) (H : Heap) (locs : List Loc) (ls : Array Slot), mX7_numberOf_b75 zx a2 t0 = some r → Wd E A s H locs (wW E ad zx) → lv_has ls 8 [(2, .int a2)] → W p l e ({ frames := 1, cells := 0, slots := 0, locals := 22 } : Room) s m args below meth c H locs 0 0 (MQ below (QG E (Qd (some (.int r)) (wW E ad zx)) A) args s 0 0 A) (F0 m 75 ls [.int t0]) := by
  have hx := C0.1
  have hb := C0.2.1
  intro a2 t0 H locs ls hm hw hl
  unfold mX7_numberOf_b75 at hm
  refine lv_istore (lv' := [(7, .int t0), (2, .int a2)]) hx hb dX7_numberOf_75 hl (by decide) rfl (fun ls hl => ?_)
  refine lv_iload hx hb dX7_numberOf_77 (lv_at hl 0 rfl) ?_
  refine lv_iload_n hx hb dX7_numberOf_79 rfl (lv_at hl 1 rfl) ?_
  refine lv_iadd hx hb dX7_numberOf_80 ?_
  refine lv_bipush (v := 12) hx hb dX7_numberOf_81 (by decide) ?_
  obtain ⟨r1, h2, hm⟩ := b1_some hm
  refine r_backZ (va_runS (As := [.int (t0 + a2), .int 12]) (rest := []) ⟨hx, hb, C0.2.2.2.1, C0.2.2.2.2.1, C0.2.2.2.2.2.1⟩ (tJ9_floorMod_7cf53 l E (t0 + a2) 12 h2 H.size) (va_cwS 2 C0.2.2.2.2.2.1 gX7_numberOf_J9_floorMod_7cf53 rfl rfl rfl (by decide +kernel) ⟨Nat.le_of_ble_eq_true rfl, Nat.le_of_ble_eq_true rfl⟩) ⟨PG_blind, pg_nil hA hw⟩ rfl rfl hl.1 rfl (lv_room (Nat.le_of_ble_eq_true rfl)) dX7_numberOf_83 ⟨Nat.zero_le _, Nat.zero_le _⟩) hA hw (fun H locs hw => ?_)
  obtain rfl := sj1 hm
  exact r_iret C0 hw dX7_numberOf_86 ⟨rfl, rfl⟩
set_option maxRecDepth 20000 in
theorem kX7_numberOf_b51 {p : Program} {l : Launch} {e : Env} {s : State} {m : MethodId} {args : Array Value} {below : List Frame} {meth : Method} {c : Code} {A : Nat → Prop} {E : EV} {ad : Nat → Nat} {zx : OS} {r : Int32} (C0 : Cx RX7 "numberOf" cX7_numberOf (some .int) 8 wsX7_numberOf p s m args meth c) (hA : Ax E A s) : ∀ (a2 : Int32) (a4 : Int32) (t1 : Int32) (H : Heap) (locs : List Loc) (ls : Array Slot), mX7_numberOf_b51 zx a2 a4 t1 = some r → Wd E A s H locs (wW E ad zx) → lv_has ls 8 [(0, .ref (ad 0)), (2, .int a2), (4, .int a4)] → W p l e ({ frames := 1, cells := 0, slots := 0, locals := 22 } : Room) s m args below meth c H locs 0 0 (MQ below (QG E (Qd (some (.int r)) (wW E ad zx)) A) args s 0 0 A) (F0 m 51 ls [.int t1, .ref (ad 1)]) := by
  have hx := C0.1
  have hb := C0.2.1
  intro a2 a4 t1 H locs ls hm hw hl
  unfold mX7_numberOf_b51 at hm
  obtain ⟨c1, hm⟩ := gd_some hm
  refine lW_1 C0 hA hw c1 dX7_numberOf_51 ?_
  refine lv_topi (fun v2 ev2 => ?_)
  have hm := nm_at hm ev2
  refine lv_istore (lv' := [(6, .int v2), (0, .ref (ad 0)), (2, .int a2), (4, .int a4)]) hx hb dX7_numberOf_52 hl (by decide) rfl (fun ls hl => ?_)
  refine lv_iload hx hb dX7_numberOf_54 (lv_at hl 3 rfl) ?_
  refine lv_if_eq (tgt := 73) hx hb dX7_numberOf_56 (by decide) (fun c3 => ?_) (fun c3 => ?_)
  · have hm := Eq.trans (if_pos c3).symm hm
    refine lv_iload hx hb dX7_numberOf_73 (lv_at hl 0 rfl) ?_
    exact kX7_numberOf_b75 C0 hA a2 v2 _ _ _ hm hw (lv_sub hl [2] rfl)
  · have hm := Eq.trans (if_neg c3).symm hm
    refine lv_iconst (v := 2) hx hb dX7_numberOf_59 (by decide) ?_
    refine lv_aload_n hx hb dX7_numberOf_60 rfl (lv_at hl 1 rfl) ?_
    refine gW_0_0 C0 hA hw hiX7_numberOf_X7 lkX7_numberOf_9 dX7_numberOf_61 ?_
    refine lv_iconst (v := 0) hx hb dX7_numberOf_64 (by decide) ?_
    obtain ⟨c4, hm⟩ := gd_some hm
    refine lW_1 C0 hA hw c4 dX7_numberOf_65 ?_
    refine lv_imul hx hb dX7_numberOf_66 ?_
    refine lv_iload hx hb dX7_numberOf_67 (lv_at hl 0 rfl) ?_
    refine lv_isub hx hb dX7_numberOf_69 ?_
    refine lv_goto (tgt := 75) hx hb dX7_numberOf_70 (by decide) ?_
    exact kX7_numberOf_b75 C0 hA a2 ((2 * (zx.2.2.1 0 (0 : Int32).toNatClampNeg)) - v2) _ _ _ hm hw (lv_sub hl [2] rfl)
set_option maxRecDepth 20000 in
theorem kX7_numberOf_b32 {p : Program} {l : Launch} {e : Env} {s : State} {m : MethodId} {args : Array Value} {below : List Frame} {meth : Method} {c : Code} {A : Nat → Prop} {E : EV} {ad : Nat → Nat} {zx : OS} {r : Int32} (C0 : Cx RX7 "numberOf" cX7_numberOf (some .int) 8 wsX7_numberOf p s m args meth c) (hA : Ax E A s) : ∀ (a2 : Int32) (a3 : Int32) (a4 : Int32) (t0 : Int32) (H : Heap) (locs : List Loc) (ls : Array Slot), mX7_numberOf_b32 zx a2 a3 a4 t0 = some r → Wd E A s H locs (wW E ad zx) → lv_has ls 8 [(0, .ref (ad 0)), (2, .int a2), (3, .int a3), (4, .int a4)] → W p l e ({ frames := 1, cells := 0, slots := 0, locals := 22 } : Room) s m args below meth c H locs 0 0 (MQ below (QG E (Qd (some (.int r)) (wW E ad zx)) A) args s 0 0 A) (F0 m 32 ls [.int t0]) := by
  have hx := C0.1
  have hb := C0.2.1
  intro a2 a3 a4 t0 H locs ls hm hw hl
  unfold mX7_numberOf_b32 at hm
  refine lv_istore (lv' := [(5, .int t0), (0, .ref (ad 0)), (2, .int a2), (3, .int a3), (4, .int a4)]) hx hb dX7_numberOf_32 hl (by decide) rfl (fun ls hl => ?_)
  refine lv_aload_n hx hb dX7_numberOf_34 rfl (lv_at hl 1 rfl) ?_
  refine gW_0_0 C0 hA hw hiX7_numberOf_X7 lkX7_numberOf_9 dX7_numberOf_35 ?_
  refine lv_iload hx hb dX7_numberOf_38 (lv_at hl 0 rfl) ?_
  refine lv_if_eq (tgt := 50) hx hb dX7_numberOf_40 (by decide) (fun c1 => ?_) (fun c1 => ?_)
  · have hm := Eq.trans (if_pos c1).symm hm
    refine lv_iload_n hx hb dX7_numberOf_50 rfl (lv_at hl 3 rfl) ?_
    exact kX7_numberOf_b51 C0 hA a2 a4 a3 _ _ _ hm hw (lv_sub hl [1, 2, 4] rfl)
  · have hm := Eq.trans (if_neg c1).symm hm
    refine lv_bipush (v := 11) hx hb dX7_numberOf_43 (by decide) ?_
    refine lv_iload_n hx hb dX7_numberOf_45 rfl (lv_at hl 3 rfl) ?_
    refine lv_isub hx hb dX7_numberOf_46 ?_
    refine lv_goto (tgt := 51) hx hb dX7_numberOf_47 (by decide) ?_
    exact kX7_numberOf_b51 C0 hA a2 a4 (11 - a3) _ _ _ hm hw (lv_sub hl [1, 2, 4] rfl)
set_option maxRecDepth 20000 in
theorem kX7_numberOf_b15 {p : Program} {l : Launch} {e : Env} {s : State} {m : MethodId} {args : Array Value} {below : List Frame} {meth : Method} {c : Code} {A : Nat → Prop} {E : EV} {ad : Nat → Nat} {zx : OS} {r : Int32} (C0 : Cx RX7 "numberOf" cX7_numberOf (some .int) 8 wsX7_numberOf p s m args meth c) (hA : Ax E A s) : ∀ (a1 : Int32) (a2 : Int32) (a3 : Int32) (t0 : Int32) (H : Heap) (locs : List Loc) (ls : Array Slot), mX7_numberOf_b15 zx a1 a2 a3 t0 = some r → Wd E A s H locs (wW E ad zx) → lv_has ls 8 [(0, .ref (ad 0)), (1, .int a1), (2, .int a2), (3, .int a3)] → W p l e ({ frames := 1, cells := 0, slots := 0, locals := 22 } : Room) s m args below meth c H locs 0 0 (MQ below (QG E (Qd (some (.int r)) (wW E ad zx)) A) args s 0 0 A) (F0 m 15 ls [.int t0]) := by
  have hx := C0.1
  have hb := C0.2.1
  intro a1 a2 a3 t0 H locs ls hm hw hl
  unfold mX7_numberOf_b15 at hm
  refine lv_istore (lv' := [(4, .int t0), (0, .ref (ad 0)), (1, .int a1), (2, .int a2), (3, .int a3)]) hx hb dX7_numberOf_15 hl (by decide) rfl (fun ls hl => ?_)
  refine lv_iload_n hx hb dX7_numberOf_17 rfl (lv_at hl 2 rfl) ?_
  refine lv_iconst (v := 2) hx hb dX7_numberOf_18 (by decide) ?_
  refine lv_icmp_eq (tgt := 27) hx hb dX7_numberOf_19 (by decide) (fun c1 => ?_) (fun c1 => ?_)
  · have hm := Eq.trans (if_pos c1).symm hm
    refine lv_iconst (v := 1) hx hb dX7_numberOf_27 (by decide) ?_
    refine lv_goto (tgt := 32) hx hb dX7_numberOf_28 (by decide) ?_
    exact kX7_numberOf_b32 C0 hA a2 a3 t0 1 _ _ _ hm hw (lv_sub hl [1, 3, 4, 0] rfl)
  · have hm := Eq.trans (if_neg c1).symm hm
    refine lv_iload_n hx hb dX7_numberOf_22 rfl (lv_at hl 2 rfl) ?_
    refine lv_iconst (v := 3) hx hb dX7_numberOf_23 (by decide) ?_
    refine lv_icmp_ne (tgt := 31) hx hb dX7_numberOf_24 (by decide) (fun c2 => ?_) (fun c2 => ?_)
    · have hm := Eq.trans (if_neg c2).symm hm
      refine lv_iconst (v := 0) hx hb dX7_numberOf_31 (by decide) ?_
      exact kX7_numberOf_b32 C0 hA a2 a3 t0 0 _ _ _ hm hw (lv_sub hl [1, 3, 4, 0] rfl)
    · have hm := Eq.trans (if_pos c2).symm hm
      refine lv_iconst (v := 1) hx hb dX7_numberOf_27 (by decide) ?_
      refine lv_goto (tgt := 32) hx hb dX7_numberOf_28 (by decide) ?_
      exact kX7_numberOf_b32 C0 hA a2 a3 t0 1 _ _ _ hm hw (lv_sub hl [1, 3, 4, 0] rfl)
set_option maxRecDepth 20000 in
theorem kX7_numberOf_b0 {p : Program} {l : Launch} {e : Env} {s : State} {m : MethodId} {args : Array Value} {below : List Frame} {meth : Method} {c : Code} {A : Nat → Prop} {E : EV} {ad : Nat → Nat} {zx : OS} {r : Int32} (C0 : Cx RX7 "numberOf" cX7_numberOf (some .int) 8 wsX7_numberOf p s m args meth c) (hA : Ax E A s) : ∀ (a1 : Int32) (a2 : Int32) (a3 : Int32) (H : Heap) (locs : List Loc) (ls : Array Slot), mX7_numberOf_b0 zx a1 a2 a3 = some r → Wd E A s H locs (wW E ad zx) → lv_has ls 8 [(0, .ref (ad 0)), (1, .int a1), (2, .int a2), (3, .int a3)] → W p l e ({ frames := 1, cells := 0, slots := 0, locals := 22 } : Room) s m args below meth c H locs 0 0 (MQ below (QG E (Qd (some (.int r)) (wW E ad zx)) A) args s 0 0 A) (F0 m 0 ls []) := by
  have hx := C0.1
  have hb := C0.2.1
  intro a1 a2 a3 H locs ls hm hw hl
  unfold mX7_numberOf_b0 at hm
  refine lv_iload_n hx hb dX7_numberOf_0 rfl (lv_at hl 1 rfl) ?_
  refine lv_iconst (v := 1) hx hb dX7_numberOf_1 (by decide) ?_
  refine lv_icmp_eq (tgt := 10) hx hb dX7_numberOf_2 (by decide) (fun c1 => ?_) (fun c1 => ?_)
  · have hm := Eq.trans (if_pos c1).symm hm
    refine lv_iconst (v := 1) hx hb dX7_numberOf_10 (by decide) ?_
    refine lv_goto (tgt := 15) hx hb dX7_numberOf_11 (by decide) ?_
    exact kX7_numberOf_b15 C0 hA a1 a2 a3 1 _ _ _ hm hw (lv_sub hl [0, 1, 2, 3] rfl)
  · have hm := Eq.trans (if_neg c1).symm hm
    refine lv_iload_n hx hb dX7_numberOf_5 rfl (lv_at hl 1 rfl) ?_
    refine lv_iconst (v := 3) hx hb dX7_numberOf_6 (by decide) ?_
    refine lv_icmp_ne (tgt := 14) hx hb dX7_numberOf_7 (by decide) (fun c2 => ?_) (fun c2 => ?_)
    · have hm := Eq.trans (if_neg c2).symm hm
      refine lv_iconst (v := 0) hx hb dX7_numberOf_14 (by decide) ?_
      exact kX7_numberOf_b15 C0 hA a1 a2 a3 0 _ _ _ hm hw (lv_sub hl [0, 1, 2, 3] rfl)
    · have hm := Eq.trans (if_pos c2).symm hm
      refine lv_iconst (v := 1) hx hb dX7_numberOf_10 (by decide) ?_
      refine lv_goto (tgt := 15) hx hb dX7_numberOf_11 (by decide) ?_
      exact kX7_numberOf_b15 C0 hA a1 a2 a3 1 _ _ _ hm hw (lv_sub hl [0, 1, 2, 3] rfl)
theorem tX7_numberOf (l : Launch) (E : EV) (ad : Nat → Nat) (zx : OS) (a1 : Int32) (a2 : Int32) (a3 : Int32) {r : Int32} (hm : mX7_numberOf zx a1 a2 a3 = some r) : CT l yX7_numberOf wsX7_numberOf ({ frames := 1, cells := 0, slots := 0, locals := 22 } : Room) E [.ref (ad 0), .int a1, .int a2, .int a3] (wW E ad zx) (Qd (some (.int r)) (wW E ad zx)) 0 0 :=
  CT.of (mL := 8) (lvs := [(0, .ref (ad 0)), (1, .int a1), (2, .int a2), (3, .int a3)]) (by decide +kernel) rfl (Nat.le_of_ble_eq_true rfl) rfl rfl rfl (fun p e s m below meth c A C0 hA hw ls hl => kX7_numberOf_b0 (ad := ad) C0 hA a1 a2 a3 _ _ _ hm hw (lv_sub hl [0, 1, 2, 3] rfl))
def mX7_isSame_b2 (F : Nat)  : Nat → OS → Int32 → Int32 → Int32 → Option (Int32)
  | 0, _, _, _, _ => none
  | n + 1, zx, a1, a2, a3 => (if 12 ≤ (a3 : Int32) then some 1 else b1 (mX7_numberOf zx (a1 / 12) (a1 - a1 / 12 * 12) a3) (fun r2 => b1 (mX7_numberOf zx (a2 / 12) (a2 - a2 / 12 * 12) a3) (fun r4 => (if (r2 : Int32) = r4 then nm (a3 + 1 : Int32) (fun v7 => mX7_isSame_b2 F n zx a1 a2 v7) else some 0))))
def mX7_isSame_b0 (F : Nat)  (zx : OS) (a1 : Int32) (a2 : Int32) : Option (Int32) := nm (0 : Int32) (fun v1 => mX7_isSame_b2 F F zx a1 a2 v1)
def mX7_isSame (F : Nat) (zx : OS) (a1 : Int32) (a2 : Int32) : Option (Int32) := mX7_isSame_b0 F zx a1 a2
set_option maxRecDepth 20000 in
theorem kX7_isSame_b2 {p : Program} {l : Launch} {e : Env} {s : State} {m : MethodId} {args : Array Value} {below : List Frame} {meth : Method} {c : Code} {A : Nat → Prop} {E : EV} {ad : Nat → Nat} (F : Nat) {zx : OS} {r : Int32} (C0 : Cx RX7 "isSame" cX7_isSame (some .boolean) 4 wsX7_isSame p s m args meth c) (hA : Ax E A s) : ∀ (n : Nat) (a1 : Int32) (a2 : Int32) (a3 : Int32) (H : Heap) (locs : List Loc) (ls : Array Slot), mX7_isSame_b2 F n zx a1 a2 a3 = some r → Wd E A s H locs (wW E ad zx) → lv_has ls 4 [(0, .ref (ad 0)), (1, .int a1), (2, .int a2), (3, .int a3)] → W p l e ({ frames := 2, cells := 0, slots := 0, locals := 49 } : Room) s m args below meth c H locs 0 0 (MQ below (QG E (Qd (some (.int r)) (wW E ad zx)) A) args s 0 0 A) (F0 m 2 ls []) := by
  have hx := C0.1
  have hb := C0.2.1
  intro n
  induction n with
  | zero =>
    intro a1 a2 a3 H locs ls hm
    cases hm
  | succ n ih =>
    intro a1 a2 a3 H locs ls hm hw hl
    unfold mX7_isSame_b2 at hm
    refine lv_iload_n hx hb dX7_isSame_2 rfl (lv_at hl 3 rfl) ?_
    refine lv_bipush (v := 12) hx hb dX7_isSame_3 (by decide) ?_
    refine lv_icmp_ge (tgt := 45) hx hb dX7_isSame_5 (by decide) (fun c1 => ?_) (fun c1 => ?_)
    · have hm := Eq.trans (if_pos c1).symm hm
      refine lv_iconst (v := 1) hx hb dX7_isSame_45 (by decide) ?_
      obtain rfl := sj1 hm
      exact r_zret C0 hw dX7_isSame_46 rfl ⟨rfl, rfl⟩
    · have hm := Eq.trans (if_neg c1).symm hm
      refine lv_aload_n hx hb dX7_isSame_8 rfl (lv_at hl 0 rfl) ?_
      refine lv_iload_n hx hb dX7_isSame_9 rfl (lv_at hl 1 rfl) ?_
      refine lv_bipush (v := 12) hx hb dX7_isSame_10 (by decide) ?_
      refine lv_idiv hx hb dX7_isSame_12 (by decide) ?_
      refine lv_iload_n hx hb dX7_isSame_13 rfl (lv_at hl 1 rfl) ?_
      refine lv_bipush (v := 12) hx hb dX7_isSame_14 (by decide) ?_
      refine lv_irem hx hb dX7_isSame_16 (by decide) ?_
      refine lv_iload_n hx hb dX7_isSame_17 rfl (lv_at hl 3 rfl) ?_
      obtain ⟨r2, h3, hm⟩ := b1_some hm
      refine r_backS (va_runV (As := [.int (a1 / 12), .int (a1 - a1 / 12 * 12), .int a3]) (rest := []) ⟨hx, hb, C0.2.2.2.1, C0.2.2.2.2.1, C0.2.2.2.2.2.1⟩ (tX7_numberOf l E ad zx (a1 / 12) (a1 - a1 / 12 * 12) a3 h3 H.size) (cwV 3 C0.2.2.2.2.2.1 gX7_isSame_X7_numberOf rfl rfl rfl (by decide +kernel) ⟨Nat.le_of_ble_eq_true rfl, Nat.le_of_ble_eq_true rfl⟩) ⟨PG_blind, va_recv hA.2.2.1.1 hw.1 (ci := 7) (q0 := 0) rfl rfl, pg_self hA hw⟩ rfl rfl hl.1 rfl (lv_room (Nat.le_of_ble_eq_true rfl)) dX7_isSame_18 ⟨Nat.zero_le _, Nat.zero_le _⟩) hA hw (fun H locs hw => ?_)
      refine lv_aload_n hx hb dX7_isSame_21 rfl (lv_at hl 0 rfl) ?_
      refine lv_iload_n hx hb dX7_isSame_22 rfl (lv_at hl 2 rfl) ?_
      refine lv_bipush (v := 12) hx hb dX7_isSame_23 (by decide) ?_
      refine lv_idiv hx hb dX7_isSame_25 (by decide) ?_
      refine lv_iload_n hx hb dX7_isSame_26 rfl (lv_at hl 2 rfl) ?_
      refine lv_bipush (v := 12) hx hb dX7_isSame_27 (by decide) ?_
      refine lv_irem hx hb dX7_isSame_29 (by decide) ?_
      refine lv_iload_n hx hb dX7_isSame_30 rfl (lv_at hl 3 rfl) ?_
      obtain ⟨r4, h5, hm⟩ := b1_some hm
      refine r_backS (va_runV (As := [.int (a2 / 12), .int (a2 - a2 / 12 * 12), .int a3]) (rest := [.int r2]) ⟨hx, hb, C0.2.2.2.1, C0.2.2.2.2.1, C0.2.2.2.2.2.1⟩ (tX7_numberOf l E ad zx (a2 / 12) (a2 - a2 / 12 * 12) a3 h5 H.size) (cwV 3 C0.2.2.2.2.2.1 gX7_isSame_X7_numberOf rfl rfl rfl (by decide +kernel) ⟨Nat.le_of_ble_eq_true rfl, Nat.le_of_ble_eq_true rfl⟩) ⟨PG_blind, va_recv hA.2.2.1.1 hw.1 (ci := 7) (q0 := 0) rfl rfl, pg_self hA hw⟩ rfl rfl hl.1 rfl (lv_room (Nat.le_of_ble_eq_true rfl)) dX7_isSame_31 ⟨Nat.zero_le _, Nat.zero_le _⟩) hA hw (fun H locs hw => ?_)
      refine lv_icmp_eq (tgt := 39) hx hb dX7_isSame_34 (by decide) (fun c6 => ?_) (fun c6 => ?_)
      · have hm := Eq.trans (if_pos c6).symm hm
        obtain ⟨v7, ev7⟩ : ∃ y : Int32, y = a3 + 1 := ⟨_, rfl⟩
        have hm := nm_at hm ev7
        refine lv_iinc (v := v7) (lv' := [(3, .int v7), (0, .ref (ad 0)), (1, .int a1), (2, .int a2)]) hx hb dX7_isSame_39 hl (k := 3) rfl (by rw [ev7]; rfl) (by decide) rfl (fun ls hl => ?_)
        refine lv_goto (tgt := 2) hx hb dX7_isSame_42 (by decide) ?_
        exact ih a1 a2 v7 _ _ _ hm hw (lv_sub hl [1, 2, 3, 0] rfl)
      · have hm := Eq.trans (if_neg c6).symm hm
        refine lv_iconst (v := 0) hx hb dX7_isSame_37 (by decide) ?_
        obtain rfl := sj1 hm
        exact r_zret C0 hw dX7_isSame_38 rfl ⟨rfl, rfl⟩
set_option maxRecDepth 20000 in
theorem kX7_isSame_b0 {p : Program} {l : Launch} {e : Env} {s : State} {m : MethodId} {args : Array Value} {below : List Frame} {meth : Method} {c : Code} {A : Nat → Prop} {E : EV} {ad : Nat → Nat} (F : Nat) {zx : OS} {r : Int32} (C0 : Cx RX7 "isSame" cX7_isSame (some .boolean) 4 wsX7_isSame p s m args meth c) (hA : Ax E A s) : ∀ (a1 : Int32) (a2 : Int32) (H : Heap) (locs : List Loc) (ls : Array Slot), mX7_isSame_b0 F zx a1 a2 = some r → Wd E A s H locs (wW E ad zx) → lv_has ls 4 [(0, .ref (ad 0)), (1, .int a1), (2, .int a2)] → W p l e ({ frames := 2, cells := 0, slots := 0, locals := 49 } : Room) s m args below meth c H locs 0 0 (MQ below (QG E (Qd (some (.int r)) (wW E ad zx)) A) args s 0 0 A) (F0 m 0 ls []) := by
  have hx := C0.1
  have hb := C0.2.1
  intro a1 a2 H locs ls hm hw hl
  unfold mX7_isSame_b0 at hm
  refine lv_iconst (v := 0) hx hb dX7_isSame_0 (by decide) ?_
  refine lv_topi (fun v1 ev1 => ?_)
  have hm := nm_at hm ev1
  refine lv_istore_n (lv' := [(3, .int v1), (0, .ref (ad 0)), (1, .int a1), (2, .int a2)]) hx hb dX7_isSame_1 rfl hl (by decide) rfl (fun ls hl => ?_)
  exact kX7_isSame_b2 F C0 hA F a1 a2 v1 _ _ _ hm hw (lv_sub hl [1, 2, 3, 0] rfl)
theorem tX7_isSame (l : Launch) (E : EV) (ad : Nat → Nat) (F : Nat) (zx : OS) (a1 : Int32) (a2 : Int32) {r : Int32} (hm : mX7_isSame F zx a1 a2 = some r) : CT l yX7_isSame wsX7_isSame ({ frames := 2, cells := 0, slots := 0, locals := 49 } : Room) E [.ref (ad 0), .int a1, .int a2] (wW E ad zx) (Qd (some (.int r)) (wW E ad zx)) 0 0 :=
  CT.of (mL := 4) (lvs := [(0, .ref (ad 0)), (1, .int a1), (2, .int a2)]) (by decide +kernel) rfl (Nat.le_of_ble_eq_true rfl) rfl rfl rfl (fun p e s m below meth c A C0 hA hw ls hl => kX7_isSame_b0 (ad := ad) F C0 hA a1 a2 _ _ _ hm hw (lv_sub hl [0, 1, 2] rfl))
def mX7_isAsOneBefore_b2 (F : Nat)  : Nat → OS → Int32 → Int32 → Option (Int32)
  | 0, _, _, _ => none
  | n + 1, zx, a1, a2 => (if a1 ≤ (a2 : Int32) then some 0 else b1 (mX7_isSame F zx a1 a2) (fun r2 => (if (r2 : Int32) = 0 then nm (a2 + 1 : Int32) (fun v5 => mX7_isAsOneBefore_b2 F n zx a1 v5) else some 1)))
def mX7_isAsOneBefore_b0 (F : Nat)  (zx : OS) (a1 : Int32) : Option (Int32) := nm (0 : Int32) (fun v1 => mX7_isAsOneBefore_b2 F F zx a1 v1)
def mX7_isAsOneBefore (F : Nat) (zx : OS) (a1 : Int32) : Option (Int32) := mX7_isAsOneBefore_b0 F zx a1
set_option maxRecDepth 20000 in
theorem kX7_isAsOneBefore_b2 {p : Program} {l : Launch} {e : Env} {s : State} {m : MethodId} {args : Array Value} {below : List Frame} {meth : Method} {c : Code} {A : Nat → Prop} {E : EV} {ad : Nat → Nat} (F : Nat) {zx : OS} {r : Int32} (C0 : Cx RX7 "isAsOneBefore" cX7_isAsOneBefore (some .boolean) 3 wsX7_isAsOneBefore p s m args meth c) (hA : Ax E A s) : ∀ (n : Nat) (a1 : Int32) (a2 : Int32) (H : Heap) (locs : List Loc) (ls : Array Slot), mX7_isAsOneBefore_b2 F n zx a1 a2 = some r → Wd E A s H locs (wW E ad zx) → lv_has ls 3 [(0, .ref (ad 0)), (1, .int a1), (2, .int a2)] → W p l e ({ frames := 3, cells := 0, slots := 0, locals := 72 } : Room) s m args below meth c H locs 0 0 (MQ below (QG E (Qd (some (.int r)) (wW E ad zx)) A) args s 0 0 A) (F0 m 2 ls []) := by
  have hx := C0.1
  have hb := C0.2.1
  intro n
  induction n with
  | zero =>
    intro a1 a2 H locs ls hm
    cases hm
  | succ n ih =>
    intro a1 a2 H locs ls hm hw hl
    unfold mX7_isAsOneBefore_b2 at hm
    refine lv_iload_n hx hb dX7_isAsOneBefore_2 rfl (lv_at hl 2 rfl) ?_
    refine lv_iload_n hx hb dX7_isAsOneBefore_3 rfl (lv_at hl 1 rfl) ?_
    refine lv_icmp_ge (tgt := 24) hx hb dX7_isAsOneBefore_4 (by decide) (fun c1 => ?_) (fun c1 => ?_)
    · have hm := Eq.trans (if_pos c1).symm hm
      refine lv_iconst (v := 0) hx hb dX7_isAsOneBefore_24 (by decide) ?_
      obtain rfl := sj1 hm
      exact r_zret C0 hw dX7_isAsOneBefore_25 rfl ⟨rfl, rfl⟩
    · have hm := Eq.trans (if_neg c1).symm hm
      refine lv_aload_n hx hb dX7_isAsOneBefore_7 rfl (lv_at hl 0 rfl) ?_
      refine lv_iload_n hx hb dX7_isAsOneBefore_8 rfl (lv_at hl 1 rfl) ?_
      refine lv_iload_n hx hb dX7_isAsOneBefore_9 rfl (lv_at hl 2 rfl) ?_
      obtain ⟨r2, h3, hm⟩ := b1_some hm
      refine r_backS (va_runV (As := [.int a1, .int a2]) (rest := []) ⟨hx, hb, C0.2.2.2.1, C0.2.2.2.2.1, C0.2.2.2.2.2.1⟩ (tX7_isSame l E ad F zx a1 a2 h3 H.size) (cwV 2 C0.2.2.2.2.2.1 gX7_isAsOneBefore_X7_isSame rfl rfl rfl (by decide +kernel) ⟨Nat.le_of_ble_eq_true rfl, Nat.le_of_ble_eq_true rfl⟩) ⟨PG_blind, va_recv hA.2.2.1.1 hw.1 (ci := 7) (q0 := 0) rfl rfl, pg_self hA hw⟩ rfl rfl hl.1 rfl (lv_room (Nat.le_of_ble_eq_true rfl)) dX7_isAsOneBefore_10 ⟨Nat.zero_le _, Nat.zero_le _⟩) hA hw (fun H locs hw => ?_)
      refine lv_if_eq (tgt := 18) hx hb dX7_isAsOneBefore_13 (by decide) (fun c4 => ?_) (fun c4 => ?_)
      · have hm := Eq.trans (if_pos c4).symm hm
        obtain ⟨v5, ev5⟩ : ∃ y : Int32, y = a2 + 1 := ⟨_, rfl⟩
        have hm := nm_at hm ev5
        refine lv_iinc (v := v5) (lv' := [(2, .int v5), (0, .ref (ad 0)), (1, .int a1)]) hx hb dX7_isAsOneBefore_18 hl (k := 2) rfl (by rw [ev5]; rfl) (by decide) rfl (fun ls hl => ?_)
        refine lv_goto (tgt := 2) hx hb dX7_isAsOneBefore_21 (by decide) ?_
        exact ih a1 v5 _ _ _ hm hw (lv_sub hl [1, 2, 0] rfl)
      · have hm := Eq.trans (if_neg c4).symm hm
        refine lv_iconst (v := 1) hx hb dX7_isAsOneBefore_16 (by decide) ?_
        obtain rfl := sj1 hm
        exact r_zret C0 hw dX7_isAsOneBefore_17 rfl ⟨rfl, rfl⟩
set_option maxRecDepth 20000 in
theorem kX7_isAsOneBefore_b0 {p : Program} {l : Launch} {e : Env} {s : State} {m : MethodId} {args : Array Value} {below : List Frame} {meth : Method} {c : Code} {A : Nat → Prop} {E : EV} {ad : Nat → Nat} (F : Nat) {zx : OS} {r : Int32} (C0 : Cx RX7 "isAsOneBefore" cX7_isAsOneBefore (some .boolean) 3 wsX7_isAsOneBefore p s m args meth c) (hA : Ax E A s) : ∀ (a1 : Int32) (H : Heap) (locs : List Loc) (ls : Array Slot), mX7_isAsOneBefore_b0 F zx a1 = some r → Wd E A s H locs (wW E ad zx) → lv_has ls 3 [(0, .ref (ad 0)), (1, .int a1)] → W p l e ({ frames := 3, cells := 0, slots := 0, locals := 72 } : Room) s m args below meth c H locs 0 0 (MQ below (QG E (Qd (some (.int r)) (wW E ad zx)) A) args s 0 0 A) (F0 m 0 ls []) := by
  have hx := C0.1
  have hb := C0.2.1
  intro a1 H locs ls hm hw hl
  unfold mX7_isAsOneBefore_b0 at hm
  refine lv_iconst (v := 0) hx hb dX7_isAsOneBefore_0 (by decide) ?_
  refine lv_topi (fun v1 ev1 => ?_)
  have hm := nm_at hm ev1
  refine lv_istore_n (lv' := [(2, .int v1), (0, .ref (ad 0)), (1, .int a1)]) hx hb dX7_isAsOneBefore_1 rfl hl (by decide) rfl (fun ls hl => ?_)
  exact kX7_isAsOneBefore_b2 F C0 hA F a1 v1 _ _ _ hm hw (lv_sub hl [1, 2, 0] rfl)
theorem tX7_isAsOneBefore (l : Launch) (E : EV) (ad : Nat → Nat) (F : Nat) (zx : OS) (a1 : Int32) {r : Int32} (hm : mX7_isAsOneBefore F zx a1 = some r) : CT l yX7_isAsOneBefore wsX7_isAsOneBefore ({ frames := 3, cells := 0, slots := 0, locals := 72 } : Room) E [.ref (ad 0), .int a1] (wW E ad zx) (Qd (some (.int r)) (wW E ad zx)) 0 0 :=
  CT.of (mL := 3) (lvs := [(0, .ref (ad 0)), (1, .int a1)]) (by decide +kernel) rfl (Nat.le_of_ble_eq_true rfl) rfl rfl rfl (fun p e s m below meth c A C0 hA hw ls hl => kX7_isAsOneBefore_b0 (ad := ad) F C0 hA a1 _ _ _ hm hw (lv_sub hl [0, 1] rfl))
def mX7_countDoubled_b4 (F : Nat)  : Nat → OS → Int32 → Int32 → Option (Int32)
  | 0, _, _, _ => none
  | n + 1, zx, a1, a2 => (if 48 ≤ (a2 : Int32) then some a1 else b1 (mX7_isAsOneBefore F zx a2) (fun r2 => (if (r2 : Int32) = 0 then nm (a2 + 1 : Int32) (fun v5 => mX7_countDoubled_b4 F n zx a1 v5) else nm (a1 + 1 : Int32) (fun v6 => nm (a2 + 1 : Int32) (fun v7 => mX7_countDoubled_b4 F n zx v6 v7)))))
def mX7_countDoubled_b0 (F : Nat)  (zx : OS) : Option (Int32) := nm (0 : Int32) (fun v1 => nm (1 : Int32) (fun v2 => mX7_countDoubled_b4 F F zx v1 v2))
def mX7_countDoubled (F : Nat) (zx : OS)  : Option (Int32) := mX7_countDoubled_b0 F zx
set_option maxRecDepth 20000 in
theorem kX7_countDoubled_b4 {p : Program} {l : Launch} {e : Env} {s : State} {m : MethodId} {args : Array Value} {below : List Frame} {meth : Method} {c : Code} {A : Nat → Prop} {E : EV} {ad : Nat → Nat} (F : Nat) {zx : OS} {r : Int32} (C0 : Cx RX7 "countDoubled" cX7_countDoubled (some .int) 3 wsX7_countDoubled p s m args meth c) (hA : Ax E A s) : ∀ (n : Nat) (a1 : Int32) (a2 : Int32) (H : Heap) (locs : List Loc) (ls : Array Slot), mX7_countDoubled_b4 F n zx a1 a2 = some r → Wd E A s H locs (wW E ad zx) → lv_has ls 3 [(0, .ref (ad 0)), (1, .int a1), (2, .int a2)] → W p l e ({ frames := 4, cells := 0, slots := 0, locals := 94 } : Room) s m args below meth c H locs 0 0 (MQ below (QG E (Qd (some (.int r)) (wW E ad zx)) A) args s 0 0 A) (F0 m 4 ls []) := by
  have hx := C0.1
  have hb := C0.2.1
  intro n
  induction n with
  | zero =>
    intro a1 a2 H locs ls hm
    cases hm
  | succ n ih =>
    intro a1 a2 H locs ls hm hw hl
    unfold mX7_countDoubled_b4 at hm
    refine lv_iload_n hx hb dX7_countDoubled_4 rfl (lv_at hl 2 rfl) ?_
    refine lv_bipush (v := 48) hx hb dX7_countDoubled_5 (by decide) ?_
    refine lv_icmp_ge (tgt := 27) hx hb dX7_countDoubled_7 (by decide) (fun c1 => ?_) (fun c1 => ?_)
    · have hm := Eq.trans (if_pos c1).symm hm
      refine lv_iload_n hx hb dX7_countDoubled_27 rfl (lv_at hl 1 rfl) ?_
      obtain rfl := sj1 hm
      exact r_iret C0 hw dX7_countDoubled_28 ⟨rfl, rfl⟩
    · have hm := Eq.trans (if_neg c1).symm hm
      refine lv_aload_n hx hb dX7_countDoubled_10 rfl (lv_at hl 0 rfl) ?_
      refine lv_iload_n hx hb dX7_countDoubled_11 rfl (lv_at hl 2 rfl) ?_
      obtain ⟨r2, h3, hm⟩ := b1_some hm
      refine r_backS (va_runV (As := [.int a2]) (rest := []) ⟨hx, hb, C0.2.2.2.1, C0.2.2.2.2.1, C0.2.2.2.2.2.1⟩ (tX7_isAsOneBefore l E ad F zx a2 h3 H.size) (cwV 1 C0.2.2.2.2.2.1 gX7_countDoubled_X7_isAsOneBefore rfl rfl rfl (by decide +kernel) ⟨Nat.le_of_ble_eq_true rfl, Nat.le_of_ble_eq_true rfl⟩) ⟨PG_blind, va_recv hA.2.2.1.1 hw.1 (ci := 7) (q0 := 0) rfl rfl, pg_self hA hw⟩ rfl rfl hl.1 rfl (lv_room (Nat.le_of_ble_eq_true rfl)) dX7_countDoubled_12 ⟨Nat.zero_le _, Nat.zero_le _⟩) hA hw (fun H locs hw => ?_)
      refine lv_if_eq (tgt := 21) hx hb dX7_countDoubled_15 (by decide) (fun c4 => ?_) (fun c4 => ?_)
      · have hm := Eq.trans (if_pos c4).symm hm
        obtain ⟨v5, ev5⟩ : ∃ y : Int32, y = a2 + 1 := ⟨_, rfl⟩
        have hm := nm_at hm ev5
        refine lv_iinc (v := v5) (lv' := [(2, .int v5), (0, .ref (ad 0)), (1, .int a1)]) hx hb dX7_countDoubled_21 hl (k := 2) rfl (by rw [ev5]; rfl) (by decide) rfl (fun ls hl => ?_)
        refine lv_goto (tgt := 4) hx hb dX7_countDoubled_24 (by decide) ?_
        exact ih a1 v5 _ _ _ hm hw (lv_sub hl [1, 2, 0] rfl)
      · have hm := Eq.trans (if_neg c4).symm hm
        obtain ⟨v6, ev6⟩ : ∃ y : Int32, y = a1 + 1 := ⟨_, rfl⟩
        have hm := nm_at hm ev6
        refine lv_iinc (v := v6) (lv' := [(1, .int v6), (0, .ref (ad 0)), (2, .int a2)]) hx hb dX7_countDoubled_18 hl (k := 1) rfl (by rw [ev6]; rfl) (by decide) rfl (fun ls hl => ?_)
        obtain ⟨v7, ev7⟩ : ∃ y : Int32, y = a2 + 1 := ⟨_, rfl⟩
        have hm := nm_at hm ev7
        refine lv_iinc (v := v7) (lv' := [(2, .int v7), (1, .int v6), (0, .ref (ad 0))]) hx hb dX7_countDoubled_21 hl (k := 2) rfl (by rw [ev7]; rfl) (by decide) rfl (fun ls hl => ?_)
        refine lv_goto (tgt := 4) hx hb dX7_countDoubled_24 (by decide) ?_
        exact ih v6 v7 _ _ _ hm hw (lv_sub hl [2, 1, 0] rfl)
set_option maxRecDepth 20000 in
theorem kX7_countDoubled_b0 {p : Program} {l : Launch} {e : Env} {s : State} {m : MethodId} {args : Array Value} {below : List Frame} {meth : Method} {c : Code} {A : Nat → Prop} {E : EV} {ad : Nat → Nat} (F : Nat) {zx : OS} {r : Int32} (C0 : Cx RX7 "countDoubled" cX7_countDoubled (some .int) 3 wsX7_countDoubled p s m args meth c) (hA : Ax E A s) : ∀  (H : Heap) (locs : List Loc) (ls : Array Slot), mX7_countDoubled_b0 F zx = some r → Wd E A s H locs (wW E ad zx) → lv_has ls 3 [(0, .ref (ad 0))] → W p l e ({ frames := 4, cells := 0, slots := 0, locals := 94 } : Room) s m args below meth c H locs 0 0 (MQ below (QG E (Qd (some (.int r)) (wW E ad zx)) A) args s 0 0 A) (F0 m 0 ls []) := by
  have hx := C0.1
  have hb := C0.2.1
  intro  H locs ls hm hw hl
  unfold mX7_countDoubled_b0 at hm
  refine lv_iconst (v := 0) hx hb dX7_countDoubled_0 (by decide) ?_
  refine lv_topi (fun v1 ev1 => ?_)
  have hm := nm_at hm ev1
  refine lv_istore_n (lv' := [(1, .int v1), (0, .ref (ad 0))]) hx hb dX7_countDoubled_1 rfl hl (by decide) rfl (fun ls hl => ?_)
  refine lv_iconst (v := 1) hx hb dX7_countDoubled_2 (by decide) ?_
  refine lv_topi (fun v2 ev2 => ?_)
  have hm := nm_at hm ev2
  refine lv_istore_n (lv' := [(2, .int v2), (1, .int v1), (0, .ref (ad 0))]) hx hb dX7_countDoubled_3 rfl hl (by decide) rfl (fun ls hl => ?_)
  exact kX7_countDoubled_b4 F C0 hA F v1 v2 _ _ _ hm hw (lv_sub hl [2, 1, 0] rfl)
theorem tX7_countDoubled (l : Launch) (E : EV) (ad : Nat → Nat) (F : Nat) (zx : OS)  {r : Int32} (hm : mX7_countDoubled F zx = some r) : CT l yX7_countDoubled wsX7_countDoubled ({ frames := 4, cells := 0, slots := 0, locals := 94 } : Room) E [.ref (ad 0)] (wW E ad zx) (Qd (some (.int r)) (wW E ad zx)) 0 0 :=
  CT.of (mL := 3) (lvs := [(0, .ref (ad 0))]) (by decide +kernel) rfl (Nat.le_of_ble_eq_true rfl) rfl rfl rfl (fun p e s m below meth c A C0 hA hw ls hl => kX7_countDoubled_b0 (ad := ad) F C0 hA  _ _ _ hm hw (lv_sub hl [0] rfl))

theorem lkX10_sound_197 : Cond.fieldLink RX10 197 (TX10 33).1 (TX10 33).2.1 (TX10 33).2.2.1 ∈ wsX10_sound := by decide +kernel
theorem lkX10_sound_194 : Cond.fieldLink RX10 194 (TX10 32).1 (TX10 32).2.1 (TX10 32).2.2.1 ∈ wsX10_sound := by decide +kernel
theorem lkX10_sound_61 : Cond.fieldLink RX10 61 (TX10 20).1 (TX10 20).2.1 (TX10 20).2.2.1 ∈ wsX10_sound := by decide +kernel
theorem lkX10_sound_64 : Cond.fieldLink RX10 64 (TX10 21).1 (TX10 21).2.1 (TX10 21).2.2.1 ∈ wsX10_sound := by decide +kernel
theorem lkX10_sound_67 : Cond.fieldLink RX10 67 (TX10 22).1 (TX10 22).2.1 (TX10 22).2.2.1 ∈ wsX10_sound := by decide +kernel
theorem lkX10_sound_70 : Cond.fieldLink RX10 70 (TX10 23).1 (TX10 23).2.1 (TX10 23).2.2.1 ∈ wsX10_sound := by decide +kernel
theorem lkX10_sound_34 : Cond.fieldLink RX10 34 (TX10 9).1 (TX10 9).2.1 (TX10 9).2.2.1 ∈ wsX10_sound := by decide +kernel
theorem lkX10_sound_200 : Cond.fieldLink RX10 200 (TX10 34).1 (TX10 34).2.1 (TX10 34).2.2.1 ∈ wsX10_sound := by decide +kernel
theorem lkX10_sound_203 : Cond.fieldLink RX10 203 (TX10 35).1 (TX10 35).2.1 (TX10 35).2.2.1 ∈ wsX10_sound := by decide +kernel
theorem lkX10_sound_206 : Cond.fieldLink RX10 206 (TX10 36).1 (TX10 36).2.1 (TX10 36).2.2.1 ∈ wsX10_sound := by decide +kernel
theorem lkX10_sound_58 : Cond.fieldLink RX10 58 (TX10 19).1 (TX10 19).2.1 (TX10 19).2.2.1 ∈ wsX10_sound := by decide +kernel
theorem lkX10_sound_31 : Cond.fieldLink RX10 31 (TX10 8).1 (TX10 8).2.1 (TX10 8).2.2.1 ∈ wsX10_sound := by decide +kernel
theorem lkX10_sound_7 : Cond.fieldLink RX10 7 (TX10 0).1 (TX10 0).2.1 (TX10 0).2.2.1 ∈ wsX10_sound := by decide +kernel
theorem lkX10_sound_37 : Cond.fieldLink RX10 37 (TX10 10).1 (TX10 10).2.1 (TX10 10).2.2.1 ∈ wsX10_sound := by decide +kernel
theorem lkX10_sound_40 : Cond.fieldLink RX10 40 (TX10 11).1 (TX10 11).2.1 (TX10 11).2.2.1 ∈ wsX10_sound := by decide +kernel
theorem hiX10_sound_X10 : ∀ w ∈ u_ws RX10 TX10 53, w ∈ wsX10_sound := by decide +kernel
def mX10_sound_b290  (zx : OS) (a4 : Int32) (a5 : Int32) (t1 : Int32) (t2 : Int32) : Option (Int32 × OS) := gd t1 260 (nm (sA zx 23 t1 t2) (fun zx2 => nm (sI zx2 33 ((zx2.1 33) + 1)) (fun zx3 => nm (sI zx3 32 ((zx3.1 32) + a4)) (fun zx4 => bz a5 (some (a5, zx4))))))
def mX10_sound_b230  (zx : OS) (a1 : Int32) (a3 : Int32) (a4 : Int32) (a5 : Int32) (a6 : Int32) : Option (Int32 × OS) := (if (a5 : Int32) = 0 then bz a5 (some (a5, zx)) else gd (zx.1 33) 260 (nm (sA zx 20 (zx.1 33) a6) (fun zx4 => gd (zx4.1 33) 260 (nm (sA zx4 21 (zx4.1 33) a4) (fun zx6 => gd (zx6.1 33) 260 (nm (sA zx6 22 (zx6.1 33) a3) (fun zx8 => (if 0 ≤ (a6 : Int32) then gd a1 482 (mX10_sound_b290 zx8 a4 a5 (zx8.1 33) (zx8.2.2.1 9 (a1 : Int32).toNatClampNeg)) else mX10_sound_b290 zx8 a4 a5 (zx8.1 33) (-1)))))))))
def mX10_sound_b211  (zx : OS) (a1 : Int32) (a3 : Int32) (a4 : Int32) (a6 : Int32) (t0 : Int32) (t1 : Int32) : Option (Int32 × OS) := nm (t0 &&& t1 : Int32) (fun v1 => nm (sI zx 34 a6) (fun zx2 => gd a1 482 (nm (sI zx2 35 (zx2.2.2.1 9 (a1 : Int32).toNatClampNeg)) (fun zx4 => mX10_sound_b230 zx4 a1 a3 a4 v1 a6))))
def mX10_sound_b210  (zx : OS) (a1 : Int32) (a3 : Int32) (a4 : Int32) (a6 : Int32) (t0 : Int32) : Option (Int32 × OS) := mX10_sound_b211 zx a1 a3 a4 a6 t0 0
def mX10_sound_b155  (zx : OS) (a1 : Int32) (a3 : Int32) (a4 : Int32) (a5 : Int32) (a6 : Int32) (a7 : Int32) (t1 : Int32) : Option (Int32 × OS) := nm (sI zx 36 t1) (fun zx1 => gd 0 7 ((if (a6 : Int32) < (zx1.2.2.1 19 (0 : Int32).toNatClampNeg) then mX10_sound_b210 zx1 a1 a3 a4 a6 a5 else gd 1 7 ((if (zx1.2.2.1 19 (1 : Int32).toNatClampNeg) < (a6 : Int32) then mX10_sound_b210 zx1 a1 a3 a4 a6 a5 else gd 2 7 ((if (zx1.2.2.1 19 (2 : Int32).toNatClampNeg) < (a7 : Int32) then mX10_sound_b210 zx1 a1 a3 a4 a6 a5 else gd 3 7 ((if (zx1.2.2.1 19 (3 : Int32).toNatClampNeg) < (zx1.1 36 : Int32) then mX10_sound_b210 zx1 a1 a3 a4 a6 a5 else mX10_sound_b211 zx1 a1 a3 a4 a6 a5 1)))))))))
def mX10_sound_b133  (zx : OS) (a1 : Int32) (a3 : Int32) (a4 : Int32) (a5 : Int32) (a6 : Int32) (t0 : Int32) : Option (Int32 × OS) := (if (a6 : Int32) = (zx.1 34) then mX10_sound_b155 zx a1 a3 a4 a5 a6 t0 ((zx.1 36) + 1) else mX10_sound_b155 zx a1 a3 a4 a5 a6 t0 1)
def mX10_sound_b55  (zx : OS) (a1 : Int32) (a3 : Int32) (a4 : Int32) (t0 : Int32) : Option (Int32 × OS) := nm ((-1) : Int32) (fun v1 => gd a1 482 ((if (zx.2.2.1 8 (a1 : Int32).toNatClampNeg : Int32) = 1 then gd a1 482 (gd (zx.2.2.1 9 (a1 : Int32).toNatClampNeg) 7 (gd a1 482 (nm ((60 + (zx.2.2.1 0 (zx.2.2.1 9 (a1 : Int32).toNatClampNeg : Int32).toNatClampNeg)) + (12 * (zx.2.2.1 10 (a1 : Int32).toNatClampNeg)) : Int32) (fun v7 => (if 0 ≤ (zx.1 34 : Int32) then (if (v7 : Int32) ≤ (zx.1 34) then mX10_sound_b133 zx a1 a3 a4 t0 v7 ((zx.1 34) - v7) else mX10_sound_b133 zx a1 a3 a4 t0 v7 (v7 - (zx.1 34))) else mX10_sound_b133 zx a1 a3 a4 t0 v7 0))))) else mX10_sound_b230 zx a1 a3 a4 t0 v1)))
def mX10_sound_b54  (zx : OS) (a1 : Int32) (a3 : Int32) (a4 : Int32) : Option (Int32 × OS) := mX10_sound_b55 zx a1 a3 a4 0
def mX10_sound_b0  (zx : OS) (a1 : Int32) (a2 : Int32) : Option (Int32 × OS) := nm (zx.1 32 : Int32) (fun v1 => gd a1 482 (nm (zx.2.2.1 11 (a1 : Int32).toNatClampNeg : Int32) (fun v3 => (if (16 * a2) < (v1 + v3 : Int32) then mX10_sound_b54 zx a1 v1 v3 else gd 4 7 ((if (zx.2.2.1 19 (4 : Int32).toNatClampNeg : Int32) = 1 then mX10_sound_b55 zx a1 v1 v3 1 else (if (v1 / 16 : Int32) = (((v1 + v3) - 1) / 16) then mX10_sound_b55 zx a1 v1 v3 1 else mX10_sound_b54 zx a1 v1 v3)))))))
def mX10_sound (zx : OS) (a1 : Int32) (a2 : Int32) : Option (Int32 × OS) := mX10_sound_b0 zx a1 a2
set_option maxRecDepth 20000 in
theorem kX10_sound_b290 {p : Program} {l : Launch} {e : Env} {s : State} {m : MethodId} {args : Array Value} {below : List Frame} {meth : Method} {c : Code} {A : Nat → Prop} {E : EV} {ad : Nat → Nat}  {r : Int32} {zx' : OS} (C0 : Cx RX10 "sound" cX10_sound (some .boolean) 8 wsX10_sound p s m args meth c) (hA : Ax E A s) : ∀ (zx : OS) (a4 : Int32) (a5 : Int32) (t1 : Int32) (t2 : Int32) (H : Heap) (locs : List Loc) (ls : Array Slot), mX10_sound_b290 zx a4 a5 t1 t2 = some (r, zx') → Wd E A s H locs (wM E ad zx) → lv_has ls 8 [(0, .ref (ad 0)), (4, .int a4), (5, .int a5)] → W p l e ({ frames := 0, cells := 0, slots := 0, locals := 0 } : Room) s m args below meth c H locs 0 0 (MQ below (QG E (Qd (some (.int r)) (wM E ad zx')) A) args s 0 0 A) (F0 m 290 ls [.int t2, .int t1, .ref (ad 21)]) := by
  have hx := C0.1
  have hb := C0.2.1
  intro zx a4 a5 t1 t2 H locs ls hm hw hl
  unfold mX10_sound_b290 at hm
  obtain ⟨c1, hm⟩ := gd_some hm
  refine sM_21 C0 hA hw c1 dX10_sound_290 (fun zx2 ezx2 H locs hw => ?_)
  have hm := nm_at hm ezx2
  refine lv_aload_n hx hb dX10_sound_291 rfl (lv_at hl 0 rfl) ?_
  refine lv_dup hx hb dX10_sound_292 rfl ?_
  refine gM_0_33 C0 hA hw hiX10_sound_X10 lkX10_sound_197 dX10_sound_293 ?_
  refine lv_iconst (v := 1) hx hb dX10_sound_296 (by decide) ?_
  refine lv_iadd hx hb dX10_sound_297 ?_
  refine pM_0_33 C0 hA hw hiX10_sound_X10 lkX10_sound_197 dX10_sound_298 (fun zx3 ezx3 H locs hw => ?_)
  have hm := nm_at hm ezx3
  refine lv_aload_n hx hb dX10_sound_301 rfl (lv_at hl 0 rfl) ?_
  refine lv_dup hx hb dX10_sound_302 rfl ?_
  refine gM_0_32 C0 hA hw hiX10_sound_X10 lkX10_sound_194 dX10_sound_303 ?_
  refine lv_iload hx hb dX10_sound_306 (lv_at hl 1 rfl) ?_
  refine lv_iadd hx hb dX10_sound_308 ?_
  refine pM_0_32 C0 hA hw hiX10_sound_X10 lkX10_sound_194 dX10_sound_309 (fun zx4 ezx4 H locs hw => ?_)
  have hm := nm_at hm ezx4
  refine lv_iload hx hb dX10_sound_312 (lv_at hl 2 rfl) ?_
  obtain ⟨c5, hm⟩ := bz_some hm
  obtain ⟨rfl, rfl⟩ := sj2 hm
  exact r_zret C0 hw dX10_sound_314 c5 ⟨rfl, rfl⟩
set_option maxRecDepth 20000 in
theorem kX10_sound_b230 {p : Program} {l : Launch} {e : Env} {s : State} {m : MethodId} {args : Array Value} {below : List Frame} {meth : Method} {c : Code} {A : Nat → Prop} {E : EV} {ad : Nat → Nat}  {r : Int32} {zx' : OS} (C0 : Cx RX10 "sound" cX10_sound (some .boolean) 8 wsX10_sound p s m args meth c) (hA : Ax E A s) : ∀ (zx : OS) (a1 : Int32) (a3 : Int32) (a4 : Int32) (a5 : Int32) (a6 : Int32) (H : Heap) (locs : List Loc) (ls : Array Slot), mX10_sound_b230 zx a1 a3 a4 a5 a6 = some (r, zx') → Wd E A s H locs (wM E ad zx) → lv_has ls 8 [(0, .ref (ad 0)), (1, .int a1), (3, .int a3), (4, .int a4), (5, .int a5), (6, .int a6)] → W p l e ({ frames := 0, cells := 0, slots := 0, locals := 0 } : Room) s m args below meth c H locs 0 0 (MQ below (QG E (Qd (some (.int r)) (wM E ad zx')) A) args s 0 0 A) (F0 m 230 ls []) := by
  have hx := C0.1
  have hb := C0.2.1
  intro zx a1 a3 a4 a5 a6 H locs ls hm hw hl
  unfold mX10_sound_b230 at hm
  refine lv_iload hx hb dX10_sound_230 (lv_at hl 4 rfl) ?_
  refine lv_if_eq (tgt := 312) hx hb dX10_sound_232 (by decide) (fun c1 => ?_) (fun c1 => ?_)
  · have hm := Eq.trans (if_pos c1).symm hm
    refine lv_iload hx hb dX10_sound_312 (lv_at hl 4 rfl) ?_
    obtain ⟨c2, hm⟩ := bz_some hm
    obtain ⟨rfl, rfl⟩ := sj2 hm
    exact r_zret C0 hw dX10_sound_314 c2 ⟨rfl, rfl⟩
  · have hm := Eq.trans (if_neg c1).symm hm
    refine lv_aload_n hx hb dX10_sound_235 rfl (lv_at hl 0 rfl) ?_
    refine gM_0_20 C0 hA hw hiX10_sound_X10 lkX10_sound_61 dX10_sound_236 ?_
    refine lv_aload_n hx hb dX10_sound_239 rfl (lv_at hl 0 rfl) ?_
    refine gM_0_33 C0 hA hw hiX10_sound_X10 lkX10_sound_197 dX10_sound_240 ?_
    refine lv_iload hx hb dX10_sound_243 (lv_at hl 5 rfl) ?_
    obtain ⟨c3, hm⟩ := gd_some hm
    refine sM_18 C0 hA hw c3 dX10_sound_245 (fun zx4 ezx4 H locs hw => ?_)
    have hm := nm_at hm ezx4
    refine lv_aload_n hx hb dX10_sound_246 rfl (lv_at hl 0 rfl) ?_
    refine gM_0_21 C0 hA hw hiX10_sound_X10 lkX10_sound_64 dX10_sound_247 ?_
    refine lv_aload_n hx hb dX10_sound_250 rfl (lv_at hl 0 rfl) ?_
    refine gM_0_33 C0 hA hw hiX10_sound_X10 lkX10_sound_197 dX10_sound_251 ?_
    refine lv_iload hx hb dX10_sound_254 (lv_at hl 3 rfl) ?_
    obtain ⟨c5, hm⟩ := gd_some hm
    refine sM_19 C0 hA hw c5 dX10_sound_256 (fun zx6 ezx6 H locs hw => ?_)
    have hm := nm_at hm ezx6
    refine lv_aload_n hx hb dX10_sound_257 rfl (lv_at hl 0 rfl) ?_
    refine gM_0_22 C0 hA hw hiX10_sound_X10 lkX10_sound_67 dX10_sound_258 ?_
    refine lv_aload_n hx hb dX10_sound_261 rfl (lv_at hl 0 rfl) ?_
    refine gM_0_33 C0 hA hw hiX10_sound_X10 lkX10_sound_197 dX10_sound_262 ?_
    refine lv_iload_n hx hb dX10_sound_265 rfl (lv_at hl 2 rfl) ?_
    obtain ⟨c7, hm⟩ := gd_some hm
    refine sM_20 C0 hA hw c7 dX10_sound_266 (fun zx8 ezx8 H locs hw => ?_)
    have hm := nm_at hm ezx8
    refine lv_aload_n hx hb dX10_sound_267 rfl (lv_at hl 0 rfl) ?_
    refine gM_0_23 C0 hA hw hiX10_sound_X10 lkX10_sound_70 dX10_sound_268 ?_
    refine lv_aload_n hx hb dX10_sound_271 rfl (lv_at hl 0 rfl) ?_
    refine gM_0_33 C0 hA hw hiX10_sound_X10 lkX10_sound_197 dX10_sound_272 ?_
    refine lv_iload hx hb dX10_sound_275 (lv_at hl 5 rfl) ?_
    refine lv_if_ge (tgt := 284) hx hb dX10_sound_277 (by decide) (fun c9 => ?_) (fun c9 => ?_)
    · have hm := Eq.trans (if_pos c9).symm hm
      refine lv_aload_n hx hb dX10_sound_284 rfl (lv_at hl 0 rfl) ?_
      refine gM_0_9 C0 hA hw hiX10_sound_X10 lkX10_sound_34 dX10_sound_285 ?_
      refine lv_iload_n hx hb dX10_sound_288 rfl (lv_at hl 1 rfl) ?_
      obtain ⟨c10, hm⟩ := gd_some hm
      refine lM_9 C0 hA hw c10 dX10_sound_289 ?_
      exact kX10_sound_b290 C0 hA zx8 a4 a5 (zx8.1 33) (zx8.2.2.1 9 (a1 : Int32).toNatClampNeg) _ _ _ hm hw (lv_sub hl [0, 3, 4] rfl)
    · have hm := Eq.trans (if_neg c9).symm hm
      refine lv_iconst (v := (-1)) hx hb dX10_sound_280 (by decide) ?_
      refine lv_goto (tgt := 290) hx hb dX10_sound_281 (by decide) ?_
      exact kX10_sound_b290 C0 hA zx8 a4 a5 (zx8.1 33) (-1) _ _ _ hm hw (lv_sub hl [0, 3, 4] rfl)
set_option maxRecDepth 20000 in
theorem kX10_sound_b211 {p : Program} {l : Launch} {e : Env} {s : State} {m : MethodId} {args : Array Value} {below : List Frame} {meth : Method} {c : Code} {A : Nat → Prop} {E : EV} {ad : Nat → Nat}  {r : Int32} {zx' : OS} (C0 : Cx RX10 "sound" cX10_sound (some .boolean) 8 wsX10_sound p s m args meth c) (hA : Ax E A s) : ∀ (zx : OS) (a1 : Int32) (a3 : Int32) (a4 : Int32) (a6 : Int32) (t0 : Int32) (t1 : Int32) (H : Heap) (locs : List Loc) (ls : Array Slot), mX10_sound_b211 zx a1 a3 a4 a6 t0 t1 = some (r, zx') → Wd E A s H locs (wM E ad zx) → lv_has ls 8 [(0, .ref (ad 0)), (1, .int a1), (3, .int a3), (4, .int a4), (6, .int a6)] → W p l e ({ frames := 0, cells := 0, slots := 0, locals := 0 } : Room) s m args below meth c H locs 0 0 (MQ below (QG E (Qd (some (.int r)) (wM E ad zx')) A) args s 0 0 A) (F0 m 211 ls [.int t1, .int t0]) := by
  have hx := C0.1
  have hb := C0.2.1
  intro zx a1 a3 a4 a6 t0 t1 H locs ls hm hw hl
  unfold mX10_sound_b211 at hm
  refine lv_iand hx hb dX10_sound_211 ?_
  refine lv_topi (fun v1 ev1 => ?_)
  have hm := nm_at hm ev1
  refine lv_istore (lv' := [(5, .int v1), (0, .ref (ad 0)), (1, .int a1), (3, .int a3), (4, .int a4), (6, .int a6)]) hx hb dX10_sound_212 hl (by decide) rfl (fun ls hl => ?_)
  refine lv_aload_n hx hb dX10_sound_214 rfl (lv_at hl 1 rfl) ?_
  refine lv_iload hx hb dX10_sound_215 (lv_at hl 5 rfl) ?_
  refine pM_0_34 C0 hA hw hiX10_sound_X10 lkX10_sound_200 dX10_sound_217 (fun zx2 ezx2 H locs hw => ?_)
  have hm := nm_at hm ezx2
  refine lv_aload_n hx hb dX10_sound_220 rfl (lv_at hl 1 rfl) ?_
  refine lv_aload_n hx hb dX10_sound_221 rfl (lv_at hl 1 rfl) ?_
  refine gM_0_9 C0 hA hw hiX10_sound_X10 lkX10_sound_34 dX10_sound_222 ?_
  refine lv_iload_n hx hb dX10_sound_225 rfl (lv_at hl 2 rfl) ?_
  obtain ⟨c3, hm⟩ := gd_some hm
  refine lM_9 C0 hA hw c3 dX10_sound_226 ?_
  refine pM_0_35 C0 hA hw hiX10_sound_X10 lkX10_sound_203 dX10_sound_227 (fun zx4 ezx4 H locs hw => ?_)
  have hm := nm_at hm ezx4
  exact kX10_sound_b230 C0 hA zx4 a1 a3 a4 v1 a6 _ _ _ hm hw (lv_sub hl [1, 2, 3, 4, 0, 5] rfl)
set_option maxRecDepth 20000 in
theorem kX10_sound_b210 {p : Program} {l : Launch} {e : Env} {s : State} {m : MethodId} {args : Array Value} {below : List Frame} {meth : Method} {c : Code} {A : Nat → Prop} {E : EV} {ad : Nat → Nat}  {r : Int32} {zx' : OS} (C0 : Cx RX10 "sound" cX10_sound (some .boolean) 8 wsX10_sound p s m args meth c) (hA : Ax E A s) : ∀ (zx : OS) (a1 : Int32) (a3 : Int32) (a4 : Int32) (a6 : Int32) (t0 : Int32) (H : Heap) (locs : List Loc) (ls : Array Slot), mX10_sound_b210 zx a1 a3 a4 a6 t0 = some (r, zx') → Wd E A s H locs (wM E ad zx) → lv_has ls 8 [(0, .ref (ad 0)), (1, .int a1), (3, .int a3), (4, .int a4), (6, .int a6)] → W p l e ({ frames := 0, cells := 0, slots := 0, locals := 0 } : Room) s m args below meth c H locs 0 0 (MQ below (QG E (Qd (some (.int r)) (wM E ad zx')) A) args s 0 0 A) (F0 m 210 ls [.int t0]) := by
  have hx := C0.1
  have hb := C0.2.1
  intro zx a1 a3 a4 a6 t0 H locs ls hm hw hl
  unfold mX10_sound_b210 at hm
  refine lv_iconst (v := 0) hx hb dX10_sound_210 (by decide) ?_
  exact kX10_sound_b211 C0 hA zx a1 a3 a4 a6 t0 0 _ _ _ hm hw (lv_sub hl [0, 1, 2, 3, 4] rfl)
set_option maxRecDepth 20000 in
theorem kX10_sound_b155 {p : Program} {l : Launch} {e : Env} {s : State} {m : MethodId} {args : Array Value} {below : List Frame} {meth : Method} {c : Code} {A : Nat → Prop} {E : EV} {ad : Nat → Nat}  {r : Int32} {zx' : OS} (C0 : Cx RX10 "sound" cX10_sound (some .boolean) 8 wsX10_sound p s m args meth c) (hA : Ax E A s) : ∀ (zx : OS) (a1 : Int32) (a3 : Int32) (a4 : Int32) (a5 : Int32) (a6 : Int32) (a7 : Int32) (t1 : Int32) (H : Heap) (locs : List Loc) (ls : Array Slot), mX10_sound_b155 zx a1 a3 a4 a5 a6 a7 t1 = some (r, zx') → Wd E A s H locs (wM E ad zx) → lv_has ls 8 [(0, .ref (ad 0)), (1, .int a1), (3, .int a3), (4, .int a4), (5, .int a5), (6, .int a6), (7, .int a7)] → W p l e ({ frames := 0, cells := 0, slots := 0, locals := 0 } : Room) s m args below meth c H locs 0 0 (MQ below (QG E (Qd (some (.int r)) (wM E ad zx')) A) args s 0 0 A) (F0 m 155 ls [.int t1, .ref (ad 0)]) := by
  have hx := C0.1
  have hb := C0.2.1
  intro zx a1 a3 a4 a5 a6 a7 t1 H locs ls hm hw hl
  unfold mX10_sound_b155 at hm
  refine pM_0_36 C0 hA hw hiX10_sound_X10 lkX10_sound_206 dX10_sound_155 (fun zx1 ezx1 H locs hw => ?_)
  have hm := nm_at hm ezx1
  refine lv_iload hx hb dX10_sound_158 (lv_at hl 4 rfl) ?_
  refine lv_iload hx hb dX10_sound_160 (lv_at hl 5 rfl) ?_
  refine lv_aload_n hx hb dX10_sound_162 rfl (lv_at hl 0 rfl) ?_
  refine gM_0_19 C0 hA hw hiX10_sound_X10 lkX10_sound_58 dX10_sound_163 ?_
  refine lv_iconst (v := 0) hx hb dX10_sound_166 (by decide) ?_
  obtain ⟨c2, hm⟩ := gd_some hm
  refine lM_17 C0 hA hw c2 dX10_sound_167 ?_
  refine lv_icmp_lt (tgt := 210) hx hb dX10_sound_168 (by decide) (fun c3 => ?_) (fun c3 => ?_)
  · have hm := Eq.trans (if_pos c3).symm hm
    exact kX10_sound_b210 C0 hA zx1 a1 a3 a4 a6 a5 _ _ _ hm hw (lv_sub hl [0, 1, 2, 3, 5] rfl)
  · have hm := Eq.trans (if_neg c3).symm hm
    refine lv_iload hx hb dX10_sound_171 (lv_at hl 5 rfl) ?_
    refine lv_aload_n hx hb dX10_sound_173 rfl (lv_at hl 0 rfl) ?_
    refine gM_0_19 C0 hA hw hiX10_sound_X10 lkX10_sound_58 dX10_sound_174 ?_
    refine lv_iconst (v := 1) hx hb dX10_sound_177 (by decide) ?_
    obtain ⟨c4, hm⟩ := gd_some hm
    refine lM_17 C0 hA hw c4 dX10_sound_178 ?_
    refine lv_icmp_gt (tgt := 210) hx hb dX10_sound_179 (by decide) (fun c5 => ?_) (fun c5 => ?_)
    · have hm := Eq.trans (if_pos c5).symm hm
      exact kX10_sound_b210 C0 hA zx1 a1 a3 a4 a6 a5 _ _ _ hm hw (lv_sub hl [0, 1, 2, 3, 5] rfl)
    · have hm := Eq.trans (if_neg c5).symm hm
      refine lv_iload hx hb dX10_sound_182 (lv_at hl 6 rfl) ?_
      refine lv_aload_n hx hb dX10_sound_184 rfl (lv_at hl 0 rfl) ?_
      refine gM_0_19 C0 hA hw hiX10_sound_X10 lkX10_sound_58 dX10_sound_185 ?_
      refine lv_iconst (v := 2) hx hb dX10_sound_188 (by decide) ?_
      obtain ⟨c6, hm⟩ := gd_some hm
      refine lM_17 C0 hA hw c6 dX10_sound_189 ?_
      refine lv_icmp_gt (tgt := 210) hx hb dX10_sound_190 (by decide) (fun c7 => ?_) (fun c7 => ?_)
      · have hm := Eq.trans (if_pos c7).symm hm
        exact kX10_sound_b210 C0 hA zx1 a1 a3 a4 a6 a5 _ _ _ hm hw (lv_sub hl [0, 1, 2, 3, 5] rfl)
      · have hm := Eq.trans (if_neg c7).symm hm
        refine lv_aload_n hx hb dX10_sound_193 rfl (lv_at hl 0 rfl) ?_
        refine gM_0_36 C0 hA hw hiX10_sound_X10 lkX10_sound_206 dX10_sound_194 ?_
        refine lv_aload_n hx hb dX10_sound_197 rfl (lv_at hl 0 rfl) ?_
        refine gM_0_19 C0 hA hw hiX10_sound_X10 lkX10_sound_58 dX10_sound_198 ?_
        refine lv_iconst (v := 3) hx hb dX10_sound_201 (by decide) ?_
        obtain ⟨c8, hm⟩ := gd_some hm
        refine lM_17 C0 hA hw c8 dX10_sound_202 ?_
        refine lv_icmp_gt (tgt := 210) hx hb dX10_sound_203 (by decide) (fun c9 => ?_) (fun c9 => ?_)
        · have hm := Eq.trans (if_pos c9).symm hm
          exact kX10_sound_b210 C0 hA zx1 a1 a3 a4 a6 a5 _ _ _ hm hw (lv_sub hl [0, 1, 2, 3, 5] rfl)
        · have hm := Eq.trans (if_neg c9).symm hm
          refine lv_iconst (v := 1) hx hb dX10_sound_206 (by decide) ?_
          refine lv_goto (tgt := 211) hx hb dX10_sound_207 (by decide) ?_
          exact kX10_sound_b211 C0 hA zx1 a1 a3 a4 a6 a5 1 _ _ _ hm hw (lv_sub hl [0, 1, 2, 3, 5] rfl)
set_option maxRecDepth 20000 in
theorem kX10_sound_b133 {p : Program} {l : Launch} {e : Env} {s : State} {m : MethodId} {args : Array Value} {below : List Frame} {meth : Method} {c : Code} {A : Nat → Prop} {E : EV} {ad : Nat → Nat}  {r : Int32} {zx' : OS} (C0 : Cx RX10 "sound" cX10_sound (some .boolean) 8 wsX10_sound p s m args meth c) (hA : Ax E A s) : ∀ (zx : OS) (a1 : Int32) (a3 : Int32) (a4 : Int32) (a5 : Int32) (a6 : Int32) (t0 : Int32) (H : Heap) (locs : List Loc) (ls : Array Slot), mX10_sound_b133 zx a1 a3 a4 a5 a6 t0 = some (r, zx') → Wd E A s H locs (wM E ad zx) → lv_has ls 8 [(0, .ref (ad 0)), (1, .int a1), (3, .int a3), (4, .int a4), (5, .int a5), (6, .int a6)] → W p l e ({ frames := 0, cells := 0, slots := 0, locals := 0 } : Room) s m args below meth c H locs 0 0 (MQ below (QG E (Qd (some (.int r)) (wM E ad zx')) A) args s 0 0 A) (F0 m 133 ls [.int t0]) := by
  have hx := C0.1
  have hb := C0.2.1
  intro zx a1 a3 a4 a5 a6 t0 H locs ls hm hw hl
  unfold mX10_sound_b133 at hm
  refine lv_istore (lv' := [(7, .int t0), (0, .ref (ad 0)), (1, .int a1), (3, .int a3), (4, .int a4), (5, .int a5), (6, .int a6)]) hx hb dX10_sound_133 hl (by decide) rfl (fun ls hl => ?_)
  refine lv_aload_n hx hb dX10_sound_135 rfl (lv_at hl 1 rfl) ?_
  refine lv_iload hx hb dX10_sound_136 (lv_at hl 6 rfl) ?_
  refine lv_aload_n hx hb dX10_sound_138 rfl (lv_at hl 1 rfl) ?_
  refine gM_0_34 C0 hA hw hiX10_sound_X10 lkX10_sound_200 dX10_sound_139 ?_
  refine lv_icmp_ne (tgt := 154) hx hb dX10_sound_142 (by decide) (fun c1 => ?_) (fun c1 => ?_)
  · have hm := Eq.trans (if_neg c1).symm hm
    refine lv_iconst (v := 1) hx hb dX10_sound_154 (by decide) ?_
    exact kX10_sound_b155 C0 hA zx a1 a3 a4 a5 a6 t0 1 _ _ _ hm hw (lv_sub hl [1, 2, 3, 4, 5, 6, 0] rfl)
  · have hm := Eq.trans (if_pos c1).symm hm
    refine lv_aload_n hx hb dX10_sound_145 rfl (lv_at hl 1 rfl) ?_
    refine gM_0_36 C0 hA hw hiX10_sound_X10 lkX10_sound_206 dX10_sound_146 ?_
    refine lv_iconst (v := 1) hx hb dX10_sound_149 (by decide) ?_
    refine lv_iadd hx hb dX10_sound_150 ?_
    refine lv_goto (tgt := 155) hx hb dX10_sound_151 (by decide) ?_
    exact kX10_sound_b155 C0 hA zx a1 a3 a4 a5 a6 t0 ((zx.1 36) + 1) _ _ _ hm hw (lv_sub hl [1, 2, 3, 4, 5, 6, 0] rfl)
set_option maxRecDepth 20000 in
theorem kX10_sound_b55 {p : Program} {l : Launch} {e : Env} {s : State} {m : MethodId} {args : Array Value} {below : List Frame} {meth : Method} {c : Code} {A : Nat → Prop} {E : EV} {ad : Nat → Nat}  {r : Int32} {zx' : OS} (C0 : Cx RX10 "sound" cX10_sound (some .boolean) 8 wsX10_sound p s m args meth c) (hA : Ax E A s) : ∀ (zx : OS) (a1 : Int32) (a3 : Int32) (a4 : Int32) (t0 : Int32) (H : Heap) (locs : List Loc) (ls : Array Slot), mX10_sound_b55 zx a1 a3 a4 t0 = some (r, zx') → Wd E A s H locs (wM E ad zx) → lv_has ls 8 [(0, .ref (ad 0)), (1, .int a1), (3, .int a3), (4, .int a4)] → W p l e ({ frames := 0, cells := 0, slots := 0, locals := 0 } : Room) s m args below meth c H locs 0 0 (MQ below (QG E (Qd (some (.int r)) (wM E ad zx')) A) args s 0 0 A) (F0 m 55 ls [.int t0]) := by
  have hx := C0.1
  have hb := C0.2.1
  intro zx a1 a3 a4 t0 H locs ls hm hw hl
  unfold mX10_sound_b55 at hm
  refine lv_istore (lv' := [(5, .int t0), (0, .ref (ad 0)), (1, .int a1), (3, .int a3), (4, .int a4)]) hx hb dX10_sound_55 hl (by decide) rfl (fun ls hl => ?_)
  refine lv_iconst (v := (-1)) hx hb dX10_sound_57 (by decide) ?_
  refine lv_topi (fun v1 ev1 => ?_)
  have hm := nm_at hm ev1
  refine lv_istore (lv' := [(6, .int v1), (5, .int t0), (0, .ref (ad 0)), (1, .int a1), (3, .int a3), (4, .int a4)]) hx hb dX10_sound_58 hl (by decide) rfl (fun ls hl => ?_)
  refine lv_aload_n hx hb dX10_sound_60 rfl (lv_at hl 2 rfl) ?_
  refine gM_0_8 C0 hA hw hiX10_sound_X10 lkX10_sound_31 dX10_sound_61 ?_
  refine lv_iload_n hx hb dX10_sound_64 rfl (lv_at hl 3 rfl) ?_
  obtain ⟨c2, hm⟩ := gd_some hm
  refine lM_8 C0 hA hw c2 dX10_sound_65 ?_
  refine lv_iconst (v := 1) hx hb dX10_sound_66 (by decide) ?_
  refine lv_icmp_ne (tgt := 230) hx hb dX10_sound_67 (by decide) (fun c3 => ?_) (fun c3 => ?_)
  · have hm := Eq.trans (if_neg c3).symm hm
    exact kX10_sound_b230 C0 hA zx a1 a3 a4 t0 v1 _ _ _ hm hw (lv_sub hl [2, 3, 4, 5, 1, 0] rfl)
  · have hm := Eq.trans (if_pos c3).symm hm
    refine lv_bipush (v := 60) hx hb dX10_sound_70 (by decide) ?_
    refine lv_aload_n hx hb dX10_sound_72 rfl (lv_at hl 2 rfl) ?_
    refine gM_0_0 C0 hA hw hiX10_sound_X10 lkX10_sound_7 dX10_sound_73 ?_
    refine lv_aload_n hx hb dX10_sound_76 rfl (lv_at hl 2 rfl) ?_
    refine gM_0_9 C0 hA hw hiX10_sound_X10 lkX10_sound_34 dX10_sound_77 ?_
    refine lv_iload_n hx hb dX10_sound_80 rfl (lv_at hl 3 rfl) ?_
    obtain ⟨c4, hm⟩ := gd_some hm
    refine lM_9 C0 hA hw c4 dX10_sound_81 ?_
    obtain ⟨c5, hm⟩ := gd_some hm
    refine lM_1 C0 hA hw c5 dX10_sound_82 ?_
    refine lv_iadd hx hb dX10_sound_83 ?_
    refine lv_bipush (v := 12) hx hb dX10_sound_84 (by decide) ?_
    refine lv_aload_n hx hb dX10_sound_86 rfl (lv_at hl 2 rfl) ?_
    refine gM_0_10 C0 hA hw hiX10_sound_X10 lkX10_sound_37 dX10_sound_87 ?_
    refine lv_iload_n hx hb dX10_sound_90 rfl (lv_at hl 3 rfl) ?_
    obtain ⟨c6, hm⟩ := gd_some hm
    refine lM_10 C0 hA hw c6 dX10_sound_91 ?_
    refine lv_imul hx hb dX10_sound_92 ?_
    refine lv_iadd hx hb dX10_sound_93 ?_
    refine lv_topi (fun v7 ev7 => ?_)
    have hm := nm_at hm ev7
    refine lv_istore (lv' := [(6, .int v7), (5, .int t0), (0, .ref (ad 0)), (1, .int a1), (3, .int a3), (4, .int a4)]) hx hb dX10_sound_94 hl (by decide) rfl (fun ls hl => ?_)
    refine lv_aload_n hx hb dX10_sound_96 rfl (lv_at hl 2 rfl) ?_
    refine gM_0_34 C0 hA hw hiX10_sound_X10 lkX10_sound_200 dX10_sound_97 ?_
    refine lv_if_ge (tgt := 107) hx hb dX10_sound_100 (by decide) (fun c8 => ?_) (fun c8 => ?_)
    · have hm := Eq.trans (if_pos c8).symm hm
      refine lv_iload hx hb dX10_sound_107 (lv_at hl 0 rfl) ?_
      refine lv_aload_n hx hb dX10_sound_109 rfl (lv_at hl 2 rfl) ?_
      refine gM_0_34 C0 hA hw hiX10_sound_X10 lkX10_sound_200 dX10_sound_110 ?_
      refine lv_icmp_le (tgt := 126) hx hb dX10_sound_113 (by decide) (fun c9 => ?_) (fun c9 => ?_)
      · have hm := Eq.trans (if_pos c9).symm hm
        refine lv_aload_n hx hb dX10_sound_126 rfl (lv_at hl 2 rfl) ?_
        refine gM_0_34 C0 hA hw hiX10_sound_X10 lkX10_sound_200 dX10_sound_127 ?_
        refine lv_iload hx hb dX10_sound_130 (lv_at hl 0 rfl) ?_
        refine lv_isub hx hb dX10_sound_132 ?_
        exact kX10_sound_b133 C0 hA zx a1 a3 a4 t0 v7 ((zx.1 34) - v7) _ _ _ hm hw (lv_sub hl [2, 3, 4, 5, 1, 0] rfl)
      · have hm := Eq.trans (if_neg c9).symm hm
        refine lv_iload hx hb dX10_sound_116 (lv_at hl 0 rfl) ?_
        refine lv_aload_n hx hb dX10_sound_118 rfl (lv_at hl 2 rfl) ?_
        refine gM_0_34 C0 hA hw hiX10_sound_X10 lkX10_sound_200 dX10_sound_119 ?_
        refine lv_isub hx hb dX10_sound_122 ?_
        refine lv_goto (tgt := 133) hx hb dX10_sound_123 (by decide) ?_
        exact kX10_sound_b133 C0 hA zx a1 a3 a4 t0 v7 (v7 - (zx.1 34)) _ _ _ hm hw (lv_sub hl [2, 3, 4, 5, 1, 0] rfl)
    · have hm := Eq.trans (if_neg c8).symm hm
      refine lv_iconst (v := 0) hx hb dX10_sound_103 (by decide) ?_
      refine lv_goto (tgt := 133) hx hb dX10_sound_104 (by decide) ?_
      exact kX10_sound_b133 C0 hA zx a1 a3 a4 t0 v7 0 _ _ _ hm hw (lv_sub hl [2, 3, 4, 5, 1, 0] rfl)
set_option maxRecDepth 20000 in
theorem kX10_sound_b54 {p : Program} {l : Launch} {e : Env} {s : State} {m : MethodId} {args : Array Value} {below : List Frame} {meth : Method} {c : Code} {A : Nat → Prop} {E : EV} {ad : Nat → Nat}  {r : Int32} {zx' : OS} (C0 : Cx RX10 "sound" cX10_sound (some .boolean) 8 wsX10_sound p s m args meth c) (hA : Ax E A s) : ∀ (zx : OS) (a1 : Int32) (a3 : Int32) (a4 : Int32) (H : Heap) (locs : List Loc) (ls : Array Slot), mX10_sound_b54 zx a1 a3 a4 = some (r, zx') → Wd E A s H locs (wM E ad zx) → lv_has ls 8 [(0, .ref (ad 0)), (1, .int a1), (3, .int a3), (4, .int a4)] → W p l e ({ frames := 0, cells := 0, slots := 0, locals := 0 } : Room) s m args below meth c H locs 0 0 (MQ below (QG E (Qd (some (.int r)) (wM E ad zx')) A) args s 0 0 A) (F0 m 54 ls []) := by
  have hx := C0.1
  have hb := C0.2.1
  intro zx a1 a3 a4 H locs ls hm hw hl
  unfold mX10_sound_b54 at hm
  refine lv_iconst (v := 0) hx hb dX10_sound_54 (by decide) ?_
  exact kX10_sound_b55 C0 hA zx a1 a3 a4 0 _ _ _ hm hw (lv_sub hl [0, 1, 2, 3] rfl)
set_option maxRecDepth 20000 in
theorem kX10_sound_b0 {p : Program} {l : Launch} {e : Env} {s : State} {m : MethodId} {args : Array Value} {below : List Frame} {meth : Method} {c : Code} {A : Nat → Prop} {E : EV} {ad : Nat → Nat}  {r : Int32} {zx' : OS} (C0 : Cx RX10 "sound" cX10_sound (some .boolean) 8 wsX10_sound p s m args meth c) (hA : Ax E A s) : ∀ (zx : OS) (a1 : Int32) (a2 : Int32) (H : Heap) (locs : List Loc) (ls : Array Slot), mX10_sound_b0 zx a1 a2 = some (r, zx') → Wd E A s H locs (wM E ad zx) → lv_has ls 8 [(0, .ref (ad 0)), (1, .int a1), (2, .int a2)] → W p l e ({ frames := 0, cells := 0, slots := 0, locals := 0 } : Room) s m args below meth c H locs 0 0 (MQ below (QG E (Qd (some (.int r)) (wM E ad zx')) A) args s 0 0 A) (F0 m 0 ls []) := by
  have hx := C0.1
  have hb := C0.2.1
  intro zx a1 a2 H locs ls hm hw hl
  unfold mX10_sound_b0 at hm
  refine lv_aload_n hx hb dX10_sound_0 rfl (lv_at hl 0 rfl) ?_
  refine gM_0_32 C0 hA hw hiX10_sound_X10 lkX10_sound_194 dX10_sound_1 ?_
  refine lv_topi (fun v1 ev1 => ?_)
  have hm := nm_at hm ev1
  refine lv_istore_n (lv' := [(3, .int v1), (0, .ref (ad 0)), (1, .int a1), (2, .int a2)]) hx hb dX10_sound_4 rfl hl (by decide) rfl (fun ls hl => ?_)
  refine lv_aload_n hx hb dX10_sound_5 rfl (lv_at hl 1 rfl) ?_
  refine gM_0_11 C0 hA hw hiX10_sound_X10 lkX10_sound_40 dX10_sound_6 ?_
  refine lv_iload_n hx hb dX10_sound_9 rfl (lv_at hl 2 rfl) ?_
  obtain ⟨c2, hm⟩ := gd_some hm
  refine lM_11 C0 hA hw c2 dX10_sound_10 ?_
  refine lv_topi (fun v3 ev3 => ?_)
  have hm := nm_at hm ev3
  refine lv_istore (lv' := [(4, .int v3), (3, .int v1), (0, .ref (ad 0)), (1, .int a1), (2, .int a2)]) hx hb dX10_sound_11 hl (by decide) rfl (fun ls hl => ?_)
  refine lv_iload_n hx hb dX10_sound_13 rfl (lv_at hl 1 rfl) ?_
  refine lv_iload hx hb dX10_sound_14 (lv_at hl 0 rfl) ?_
  refine lv_iadd hx hb dX10_sound_16 ?_
  refine lv_bipush (v := 16) hx hb dX10_sound_17 (by decide) ?_
  refine lv_iload_n hx hb dX10_sound_19 rfl (lv_at hl 4 rfl) ?_
  refine lv_imul hx hb dX10_sound_20 ?_
  refine lv_icmp_gt (tgt := 54) hx hb dX10_sound_21 (by decide) (fun c4 => ?_) (fun c4 => ?_)
  · have hm := Eq.trans (if_pos c4).symm hm
    exact kX10_sound_b54 C0 hA zx a1 v1 v3 _ _ _ hm hw (lv_sub hl [2, 3, 1, 0] rfl)
  · have hm := Eq.trans (if_neg c4).symm hm
    refine lv_aload_n hx hb dX10_sound_24 rfl (lv_at hl 2 rfl) ?_
    refine gM_0_19 C0 hA hw hiX10_sound_X10 lkX10_sound_58 dX10_sound_25 ?_
    refine lv_iconst (v := 4) hx hb dX10_sound_28 (by decide) ?_
    obtain ⟨c5, hm⟩ := gd_some hm
    refine lM_17 C0 hA hw c5 dX10_sound_29 ?_
    refine lv_iconst (v := 1) hx hb dX10_sound_30 (by decide) ?_
    refine lv_icmp_eq (tgt := 50) hx hb dX10_sound_31 (by decide) (fun c6 => ?_) (fun c6 => ?_)
    · have hm := Eq.trans (if_pos c6).symm hm
      refine lv_iconst (v := 1) hx hb dX10_sound_50 (by decide) ?_
      refine lv_goto (tgt := 55) hx hb dX10_sound_51 (by decide) ?_
      exact kX10_sound_b55 C0 hA zx a1 v1 v3 1 _ _ _ hm hw (lv_sub hl [2, 3, 1, 0] rfl)
    · have hm := Eq.trans (if_neg c6).symm hm
      refine lv_iload_n hx hb dX10_sound_34 rfl (lv_at hl 1 rfl) ?_
      refine lv_bipush (v := 16) hx hb dX10_sound_35 (by decide) ?_
      refine lv_idiv hx hb dX10_sound_37 (by decide) ?_
      refine lv_iload_n hx hb dX10_sound_38 rfl (lv_at hl 1 rfl) ?_
      refine lv_iload hx hb dX10_sound_39 (lv_at hl 0 rfl) ?_
      refine lv_iadd hx hb dX10_sound_41 ?_
      refine lv_iconst (v := 1) hx hb dX10_sound_42 (by decide) ?_
      refine lv_isub hx hb dX10_sound_43 ?_
      refine lv_bipush (v := 16) hx hb dX10_sound_44 (by decide) ?_
      refine lv_idiv hx hb dX10_sound_46 (by decide) ?_
      refine lv_icmp_ne (tgt := 54) hx hb dX10_sound_47 (by decide) (fun c7 => ?_) (fun c7 => ?_)
      · have hm := Eq.trans (if_neg c7).symm hm
        exact kX10_sound_b54 C0 hA zx a1 v1 v3 _ _ _ hm hw (lv_sub hl [2, 3, 1, 0] rfl)
      · have hm := Eq.trans (if_pos c7).symm hm
        refine lv_iconst (v := 1) hx hb dX10_sound_50 (by decide) ?_
        refine lv_goto (tgt := 55) hx hb dX10_sound_51 (by decide) ?_
        exact kX10_sound_b55 C0 hA zx a1 v1 v3 1 _ _ _ hm hw (lv_sub hl [2, 3, 1, 0] rfl)
theorem tX10_sound (l : Launch) (E : EV) (ad : Nat → Nat) (zx : OS) (a1 : Int32) (a2 : Int32) {r : Int32} {zx' : OS} (hm : mX10_sound zx a1 a2 = some (r, zx')) : CT l yX10_sound wsX10_sound ({ frames := 0, cells := 0, slots := 0, locals := 0 } : Room) E [.ref (ad 0), .int a1, .int a2] (wM E ad zx) (Qd (some (.int r)) (wM E ad zx')) 0 0 :=
  CT.of (mL := 8) (lvs := [(0, .ref (ad 0)), (1, .int a1), (2, .int a2)]) (by decide +kernel) rfl (Nat.le_of_ble_eq_true rfl) rfl rfl rfl (fun p e s m below meth c A C0 hA hw ls hl => kX10_sound_b0 (ad := ad) C0 hA zx a1 a2 _ _ _ hm hw (lv_sub hl [0, 1, 2] rfl))
theorem lkX10_make_185 : Cond.fieldLink RX10 185 (TX10 47).1 (TX10 47).2.1 (TX10 47).2.2.1 ∈ wsX10_make := by decide +kernel
theorem lkX10_make_212 : Cond.fieldLink RX10 212 (TX10 25).1 (TX10 25).2.1 (TX10 25).2.2.1 ∈ wsX10_make := by decide +kernel
theorem lkX10_make_58 : Cond.fieldLink RX10 58 (TX10 19).1 (TX10 19).2.1 (TX10 19).2.2.1 ∈ wsX10_make := by decide +kernel
theorem lkX10_make_197 : Cond.fieldLink RX10 197 (TX10 33).1 (TX10 33).2.1 (TX10 33).2.2.1 ∈ wsX10_make := by decide +kernel
theorem lkX10_make_218 : Cond.fieldLink RX10 218 (TX10 24).1 (TX10 24).2.1 (TX10 24).2.2.1 ∈ wsX10_make := by decide +kernel
theorem lkX10_make_188 : Cond.fieldLink RX10 188 (TX10 30).1 (TX10 30).2.1 (TX10 30).2.2.1 ∈ wsX10_make := by decide +kernel
theorem lkX10_make_74 : Cond.fieldLink RX10 74 (TX10 27).1 (TX10 27).2.1 (TX10 27).2.2.1 ∈ wsX10_make := by decide +kernel
theorem lkX10_make_77 : Cond.fieldLink RX10 77 (TX10 28).1 (TX10 28).2.1 (TX10 28).2.2.1 ∈ wsX10_make := by decide +kernel
theorem lkX10_make_191 : Cond.fieldLink RX10 191 (TX10 31).1 (TX10 31).2.1 (TX10 31).2.2.1 ∈ wsX10_make := by decide +kernel
theorem lkX10_make_31 : Cond.fieldLink RX10 31 (TX10 8).1 (TX10 8).2.1 (TX10 8).2.2.1 ∈ wsX10_make := by decide +kernel
theorem lkX10_make_34 : Cond.fieldLink RX10 34 (TX10 9).1 (TX10 9).2.1 (TX10 9).2.2.1 ∈ wsX10_make := by decide +kernel
theorem lkX10_make_194 : Cond.fieldLink RX10 194 (TX10 32).1 (TX10 32).2.1 (TX10 32).2.2.1 ∈ wsX10_make := by decide +kernel
theorem lkX10_make_203 : Cond.fieldLink RX10 203 (TX10 35).1 (TX10 35).2.1 (TX10 35).2.2.1 ∈ wsX10_make := by decide +kernel
theorem lkX10_make_46 : Cond.fieldLink RX10 46 (TX10 13).1 (TX10 13).2.1 (TX10 13).2.2.1 ∈ wsX10_make := by decide +kernel
theorem lkX10_make_166 : Cond.fieldLink RX10 166 (TX10 26).1 (TX10 26).2.1 (TX10 26).2.2.1 ∈ wsX10_make := by decide +kernel
theorem lkX10_make_209 : Cond.fieldLink RX10 209 (TX10 29).1 (TX10 29).2.1 (TX10 29).2.2.1 ∈ wsX10_make := by decide +kernel
theorem lkX10_make_200 : Cond.fieldLink RX10 200 (TX10 34).1 (TX10 34).2.1 (TX10 34).2.2.1 ∈ wsX10_make := by decide +kernel
theorem lkX10_make_206 : Cond.fieldLink RX10 206 (TX10 36).1 (TX10 36).2.1 (TX10 36).2.2.1 ∈ wsX10_make := by decide +kernel
theorem lkX10_make_55 : Cond.fieldLink RX10 55 (TX10 16).1 (TX10 16).2.1 (TX10 16).2.2.1 ∈ wsX10_make := by decide +kernel
theorem hiX10_make_X10 : ∀ w ∈ u_ws RX10 TX10 53, w ∈ wsX10_make := by decide +kernel
def mX10_make_b267 (F : Nat) (K257 : OS → Int32 → Int32 → Int32 → Option (Int32 × OS)) (zx : OS) (a1 : Int32) : Option (Int32 × OS) := (if (zx.1 47 : Int32) = 0 then some ((-1), zx) else b1 (mX10_back zx) (fun zx2 => b1 (mX10_left F zx2) (fun r4 => (if (r4 : Int32) = 0 then nm (sI zx2 47 ((zx2.1 47) - 1)) (fun zx13 => nm (0 : Int32) (fun v14 => nm (0 : Int32) (fun v15 => K257 zx13 a1 v14 v15))) else gd 6 7 ((if (zx2.1 25 : Int32) = (zx2.2.2.1 19 (6 : Int32).toNatClampNeg) then some ((-5), zx2) else b2 (mX10_choose F zx2 r4) (fun r9 zx10 => nm (0 : Int32) (fun v12 => K257 zx10 a1 r9 v12))))))))
def mX10_make_b257 (F : Nat) (K116 : OS → Int32 → Option (Int32 × OS)) : Nat → OS → Int32 → Int32 → Int32 → Option (Int32 × OS)
  | 0, _, _, _, _ => none
  | n + 1, zx, a1, a4, a5 => (if (a5 : Int32) = 0 then (if (a4 : Int32) = 0 then mX10_make_b267 F (mX10_make_b257 F K116 n) zx a1 else K116 zx a1) else mX10_make_b267 F (mX10_make_b257 F K116 n) zx a1)
def mX10_make_b167 (F : Nat) (K116 : OS → Int32 → Option (Int32 × OS)) (zx : OS) (a1 : Int32) (a5 : Int32) (t0 : Int32) : Option (Int32 × OS) := (if (t0 : Int32) = 0 then mX10_make_b257 F K116 F zx a1 t0 a5 else nm (sI zx 24 (zx.1 33)) (fun zx2 => some (zx2.1 24, zx2)))
def mX10_make_b166 (F : Nat) (K116 : OS → Int32 → Option (Int32 × OS)) (zx : OS) (a1 : Int32) (a5 : Int32) : Option (Int32 × OS) := mX10_make_b167 F K116 zx a1 a5 0
def mX10_make_b116 (F : Nat)  : Nat → OS → Int32 → Option (Int32 × OS)
  | 0, _, _ => none
  | n + 1, zx, a1 => nm (1 : Int32) (fun v1 => nm (0 : Int32) (fun v2 => (if 0 ≤ (zx.1 30 : Int32) then gd (zx.1 30) 40000 (nm (zx.2.2.1 27 (zx.1 30 : Int32).toNatClampNeg : Int32) (fun v5 => gd (zx.1 30) 40000 (nm (sI zx 30 (zx.2.2.1 28 (zx.1 30 : Int32).toNatClampNeg)) (fun zx7 => nm (sI zx7 31 ((zx7.1 31) - 1)) (fun zx8 => gd v5 482 ((if (zx8.2.2.1 8 (v5 : Int32).toNatClampNeg : Int32) = 0 then gd v5 482 (b1 (mX10_keep zx8 (zx8.2.2.1 9 (v5 : Int32).toNatClampNeg)) (fun zx15 => nm (1 : Int32) (fun v17 => mX10_make_b257 F (mX10_make_b116 F n) F zx15 a1 v1 v17))) else b2 (mX10_sound zx8 v5 a1) (fun r11 zx12 => mX10_make_b257 F (mX10_make_b116 F n) F zx12 a1 r11 v2)))))))) else (if (zx.1 32 : Int32) = (16 * a1) then gd 5 7 ((if (zx.2.2.1 19 (5 : Int32).toNatClampNeg : Int32) < 0 then mX10_make_b167 F (mX10_make_b116 F n) zx a1 v2 1 else gd 5 7 ((if (zx.1 35 : Int32) = (zx.2.2.1 19 (5 : Int32).toNatClampNeg) then mX10_make_b167 F (mX10_make_b116 F n) zx a1 v2 1 else mX10_make_b166 F (mX10_make_b116 F n) zx a1 v2)))) else mX10_make_b166 F (mX10_make_b116 F n) zx a1 v2))))
def mX10_make_b0 (F : Nat)  (zx : OS) (a1 : Int32) (a2 : Int64) : Option (Int32 × OS) := (if (a1 : Int32) < 1 then some ((-2), zx) else (if (a1 : Int32) ≤ 16 then gd 0 2 ((if (zx.2.2.1 13 (0 : Int32).toNatClampNeg : Int32) = 0 then some ((-3), zx) else nm (sL zx 26 a2) (fun zx5 => nm (sI zx5 25 0) (fun zx6 => nm (sI zx6 24 0) (fun zx7 => nm (sI zx7 29 0) (fun zx8 => nm (sI zx8 30 (-1)) (fun zx9 => nm (sI zx9 31 0) (fun zx10 => nm (sI zx10 32 0) (fun zx11 => nm (sI zx11 33 0) (fun zx12 => nm (sI zx12 34 (-1)) (fun zx13 => nm (sI zx13 35 (-1)) (fun zx14 => nm (sI zx14 36 0) (fun zx15 => nm (sI zx15 47 0) (fun zx16 => gd 240 482 (nm (sA zx16 8 240 0) (fun zx18 => gd 0 2 (gd 240 482 (nm (sA zx18 9 240 (zx18.2.2.1 16 (0 : Int32).toNatClampNeg)) (fun zx21 => b1 (mX10_put zx21 240) (fun zx22 => mX10_make_b116 F F zx22 a1)))))))))))))))))))) else some ((-2), zx)))
def mX10_make (F : Nat) (zx : OS) (a1 : Int32) (a2 : Int64) : Option (Int32 × OS) := mX10_make_b0 F zx a1 a2
set_option maxRecDepth 20000 in
theorem kX10_make_b267 {p : Program} {l : Launch} {e : Env} {s : State} {m : MethodId} {args : Array Value} {below : List Frame} {meth : Method} {c : Code} {A : Nat → Prop} {E : EV} {ad : Nat → Nat} (F : Nat)  {r : Int32} {zx' : OS} (C0 : Cx RX10 "make" cX10_make (some .int) 7 wsX10_make p s m args meth c) (hA : Ax E A s) (K257 : OS → Int32 → Int32 → Int32 → Option (Int32 × OS)) (hK257 : ∀ (zx : OS) (a1 : Int32) (a4 : Int32) (a5 : Int32) (H : Heap) (locs : List Loc) (ls : Array Slot), K257 zx a1 a4 a5 = some (r, zx') → Wd E A s H locs (wM E ad zx) → lv_has ls 7 [(0, .ref (ad 0)), (1, .int a1), (4, .int a4), (5, .int a5)] → W p l e ({ frames := 3, cells := 0, slots := 0, locals := 73 } : Room) s m args below meth c H locs 0 0 (MQ below (QG E (Qd (some (.int r)) (wM E ad zx')) A) args s 0 0 A) (F0 m 257 ls [])) : ∀ (zx : OS) (a1 : Int32) (H : Heap) (locs : List Loc) (ls : Array Slot), mX10_make_b267 F K257 zx a1 = some (r, zx') → Wd E A s H locs (wM E ad zx) → lv_has ls 7 [(0, .ref (ad 0)), (1, .int a1)] → W p l e ({ frames := 3, cells := 0, slots := 0, locals := 73 } : Room) s m args below meth c H locs 0 0 (MQ below (QG E (Qd (some (.int r)) (wM E ad zx')) A) args s 0 0 A) (F0 m 267 ls []) := by
  have hx := C0.1
  have hb := C0.2.1
  intro zx a1 H locs ls hm hw hl
  unfold mX10_make_b267 at hm
  refine lv_aload_n hx hb dX10_make_267 rfl (lv_at hl 0 rfl) ?_
  refine gM_0_47 C0 hA hw hiX10_make_X10 lkX10_make_185 dX10_make_268 ?_
  refine lv_if_ne (tgt := 276) hx hb dX10_make_271 (by decide) (fun c1 => ?_) (fun c1 => ?_)
  · have hm := Eq.trans (if_neg c1).symm hm
    refine lv_aload_n hx hb dX10_make_276 rfl (lv_at hl 0 rfl) ?_
    obtain ⟨zx2, h3, hm⟩ := b1_some hm
    refine r_backS (va_runV (As := []) (rest := []) ⟨hx, hb, C0.2.2.2.1, C0.2.2.2.2.1, C0.2.2.2.2.2.1⟩ (tX10_back l E ad zx h3 H.size) (cwV 0 C0.2.2.2.2.2.1 gX10_make_X10_back rfl rfl rfl (by decide +kernel) ⟨Nat.le_of_ble_eq_true rfl, Nat.le_of_ble_eq_true rfl⟩) ⟨PG_blind, va_recv hA.2.2.1.1 hw.1 (ci := 10) (q0 := 0) rfl rfl, pg_self hA hw⟩ rfl rfl hl.1 rfl (lv_room (Nat.le_of_ble_eq_true rfl)) dX10_make_277 ⟨Nat.zero_le _, Nat.zero_le _⟩) hA hw (fun H locs hw => ?_)
    refine lv_aload_n hx hb dX10_make_280 rfl (lv_at hl 0 rfl) ?_
    obtain ⟨r4, h5, hm⟩ := b1_some hm
    refine r_backS (va_runV (As := []) (rest := []) ⟨hx, hb, C0.2.2.2.1, C0.2.2.2.2.1, C0.2.2.2.2.2.1⟩ (tX10_left l E ad F zx2 h5 H.size) (cwV 0 C0.2.2.2.2.2.1 gX10_make_X10_left rfl rfl rfl (by decide +kernel) ⟨Nat.le_of_ble_eq_true rfl, Nat.le_of_ble_eq_true rfl⟩) ⟨PG_blind, va_recv hA.2.2.1.1 hw.1 (ci := 10) (q0 := 0) rfl rfl, pg_self hA hw⟩ rfl rfl hl.1 rfl (lv_room (Nat.le_of_ble_eq_true rfl)) dX10_make_281 ⟨Nat.zero_le _, Nat.zero_le _⟩) hA hw (fun H locs hw => ?_)
    refine lv_istore (lv' := [(6, .int r4), (0, .ref (ad 0)), (1, .int a1)]) hx hb dX10_make_284 hl (by decide) rfl (fun ls hl => ?_)
    refine lv_iload hx hb dX10_make_286 (lv_at hl 0 rfl) ?_
    refine lv_if_ne (tgt := 307) hx hb dX10_make_288 (by decide) (fun c6 => ?_) (fun c6 => ?_)
    · have hm := Eq.trans (if_neg c6).symm hm
      refine lv_aload_n hx hb dX10_make_307 rfl (lv_at hl 1 rfl) ?_
      refine gM_0_25 C0 hA hw hiX10_make_X10 lkX10_make_212 dX10_make_308 ?_
      refine lv_aload_n hx hb dX10_make_311 rfl (lv_at hl 1 rfl) ?_
      refine gM_0_19 C0 hA hw hiX10_make_X10 lkX10_make_58 dX10_make_312 ?_
      refine lv_bipush (v := 6) hx hb dX10_make_315 (by decide) ?_
      obtain ⟨c7, hm⟩ := gd_some hm
      refine lM_17 C0 hA hw c7 dX10_make_317 ?_
      refine lv_icmp_ne (tgt := 324) hx hb dX10_make_318 (by decide) (fun c8 => ?_) (fun c8 => ?_)
      · have hm := Eq.trans (if_neg c8).symm hm
        refine lv_aload_n hx hb dX10_make_324 rfl (lv_at hl 1 rfl) ?_
        refine lv_iload hx hb dX10_make_325 (lv_at hl 0 rfl) ?_
        obtain ⟨r9, zx10, h11, hm⟩ := b2_some hm
        refine r_backS (va_runV (As := [.int r4]) (rest := []) ⟨hx, hb, C0.2.2.2.1, C0.2.2.2.2.1, C0.2.2.2.2.2.1⟩ (tX10_choose l E ad F zx2 r4 h11 H.size) (cwV 1 C0.2.2.2.2.2.1 gX10_make_X10_choose rfl rfl rfl (by decide +kernel) ⟨Nat.le_of_ble_eq_true rfl, Nat.le_of_ble_eq_true rfl⟩) ⟨PG_blind, va_recv hA.2.2.1.1 hw.1 (ci := 10) (q0 := 0) rfl rfl, pg_self hA hw⟩ rfl rfl hl.1 rfl (lv_room (Nat.le_of_ble_eq_true rfl)) dX10_make_327 ⟨Nat.zero_le _, Nat.zero_le _⟩) hA hw (fun H locs hw => ?_)
        refine lv_istore (lv' := [(4, .int r9), (6, .int r4), (0, .ref (ad 0)), (1, .int a1)]) hx hb dX10_make_330 hl (by decide) rfl (fun ls hl => ?_)
        refine lv_iconst (v := 0) hx hb dX10_make_332 (by decide) ?_
        refine lv_topi (fun v12 ev12 => ?_)
        have hm := nm_at hm ev12
        refine lv_istore (lv' := [(5, .int v12), (4, .int r9), (6, .int r4), (0, .ref (ad 0)), (1, .int a1)]) hx hb dX10_make_333 hl (by decide) rfl (fun ls hl => ?_)
        refine lv_goto (tgt := 257) hx hb dX10_make_335 (by decide) ?_
        exact hK257 zx10 a1 r9 v12 _ _ _ hm hw (lv_sub hl [3, 4, 1, 0] rfl)
      · have hm := Eq.trans (if_pos c8).symm hm
        refine lv_bipush (v := (-5)) hx hb dX10_make_321 (by decide) ?_
        obtain ⟨rfl, rfl⟩ := sj2 hm
        exact r_iret C0 hw dX10_make_323 ⟨rfl, rfl⟩
    · have hm := Eq.trans (if_pos c6).symm hm
      refine lv_aload_n hx hb dX10_make_291 rfl (lv_at hl 1 rfl) ?_
      refine lv_dup hx hb dX10_make_292 rfl ?_
      refine gM_0_47 C0 hA hw hiX10_make_X10 lkX10_make_185 dX10_make_293 ?_
      refine lv_iconst (v := 1) hx hb dX10_make_296 (by decide) ?_
      refine lv_isub hx hb dX10_make_297 ?_
      refine pM_0_47 C0 hA hw hiX10_make_X10 lkX10_make_185 dX10_make_298 (fun zx13 ezx13 H locs hw => ?_)
      have hm := nm_at hm ezx13
      refine lv_iconst (v := 0) hx hb dX10_make_301 (by decide) ?_
      refine lv_topi (fun v14 ev14 => ?_)
      have hm := nm_at hm ev14
      refine lv_istore (lv' := [(4, .int v14), (6, .int r4), (0, .ref (ad 0)), (1, .int a1)]) hx hb dX10_make_302 hl (by decide) rfl (fun ls hl => ?_)
      refine lv_goto (tgt := 332) hx hb dX10_make_304 (by decide) ?_
      refine lv_iconst (v := 0) hx hb dX10_make_332 (by decide) ?_
      refine lv_topi (fun v15 ev15 => ?_)
      have hm := nm_at hm ev15
      refine lv_istore (lv' := [(5, .int v15), (4, .int v14), (6, .int r4), (0, .ref (ad 0)), (1, .int a1)]) hx hb dX10_make_333 hl (by decide) rfl (fun ls hl => ?_)
      refine lv_goto (tgt := 257) hx hb dX10_make_335 (by decide) ?_
      exact hK257 zx13 a1 v14 v15 _ _ _ hm hw (lv_sub hl [3, 4, 1, 0] rfl)
  · have hm := Eq.trans (if_pos c1).symm hm
    refine lv_iconst (v := (-1)) hx hb dX10_make_274 (by decide) ?_
    obtain ⟨rfl, rfl⟩ := sj2 hm
    exact r_iret C0 hw dX10_make_275 ⟨rfl, rfl⟩
set_option maxRecDepth 20000 in
theorem kX10_make_b257 {p : Program} {l : Launch} {e : Env} {s : State} {m : MethodId} {args : Array Value} {below : List Frame} {meth : Method} {c : Code} {A : Nat → Prop} {E : EV} {ad : Nat → Nat} (F : Nat)  {r : Int32} {zx' : OS} (C0 : Cx RX10 "make" cX10_make (some .int) 7 wsX10_make p s m args meth c) (hA : Ax E A s) (K116 : OS → Int32 → Option (Int32 × OS)) (hK116 : ∀ (zx : OS) (a1 : Int32) (H : Heap) (locs : List Loc) (ls : Array Slot), K116 zx a1 = some (r, zx') → Wd E A s H locs (wM E ad zx) → lv_has ls 7 [(0, .ref (ad 0)), (1, .int a1)] → W p l e ({ frames := 3, cells := 0, slots := 0, locals := 73 } : Room) s m args below meth c H locs 0 0 (MQ below (QG E (Qd (some (.int r)) (wM E ad zx')) A) args s 0 0 A) (F0 m 116 ls [])) : ∀ (n : Nat) (zx : OS) (a1 : Int32) (a4 : Int32) (a5 : Int32) (H : Heap) (locs : List Loc) (ls : Array Slot), mX10_make_b257 F K116 n zx a1 a4 a5 = some (r, zx') → Wd E A s H locs (wM E ad zx) → lv_has ls 7 [(0, .ref (ad 0)), (1, .int a1), (4, .int a4), (5, .int a5)] → W p l e ({ frames := 3, cells := 0, slots := 0, locals := 73 } : Room) s m args below meth c H locs 0 0 (MQ below (QG E (Qd (some (.int r)) (wM E ad zx')) A) args s 0 0 A) (F0 m 257 ls []) := by
  have hx := C0.1
  have hb := C0.2.1
  intro n
  induction n with
  | zero =>
    intro zx a1 a4 a5 H locs ls hm
    cases hm
  | succ n ih =>
    intro zx a1 a4 a5 H locs ls hm hw hl
    unfold mX10_make_b257 at hm
    refine lv_iload hx hb dX10_make_257 (lv_at hl 3 rfl) ?_
    refine lv_if_ne (tgt := 267) hx hb dX10_make_259 (by decide) (fun c1 => ?_) (fun c1 => ?_)
    · have hm := Eq.trans (if_neg c1).symm hm
      exact kX10_make_b267 F C0 hA _ ih zx a1 _ _ _ hm hw (lv_sub hl [0, 1] rfl)
    · have hm := Eq.trans (if_pos c1).symm hm
      refine lv_iload hx hb dX10_make_262 (lv_at hl 2 rfl) ?_
      refine lv_if_ne (tgt := 338) hx hb dX10_make_264 (by decide) (fun c2 => ?_) (fun c2 => ?_)
      · have hm := Eq.trans (if_neg c2).symm hm
        refine lv_goto (tgt := 116) hx hb dX10_make_338 (by decide) ?_
        exact hK116 zx a1 _ _ _ hm hw (lv_sub hl [0, 1] rfl)
      · have hm := Eq.trans (if_pos c2).symm hm
        exact kX10_make_b267 F C0 hA _ ih zx a1 _ _ _ hm hw (lv_sub hl [0, 1] rfl)
set_option maxRecDepth 20000 in
theorem kX10_make_b167 {p : Program} {l : Launch} {e : Env} {s : State} {m : MethodId} {args : Array Value} {below : List Frame} {meth : Method} {c : Code} {A : Nat → Prop} {E : EV} {ad : Nat → Nat} (F : Nat)  {r : Int32} {zx' : OS} (C0 : Cx RX10 "make" cX10_make (some .int) 7 wsX10_make p s m args meth c) (hA : Ax E A s) (K116 : OS → Int32 → Option (Int32 × OS)) (hK116 : ∀ (zx : OS) (a1 : Int32) (H : Heap) (locs : List Loc) (ls : Array Slot), K116 zx a1 = some (r, zx') → Wd E A s H locs (wM E ad zx) → lv_has ls 7 [(0, .ref (ad 0)), (1, .int a1)] → W p l e ({ frames := 3, cells := 0, slots := 0, locals := 73 } : Room) s m args below meth c H locs 0 0 (MQ below (QG E (Qd (some (.int r)) (wM E ad zx')) A) args s 0 0 A) (F0 m 116 ls [])) : ∀ (zx : OS) (a1 : Int32) (a5 : Int32) (t0 : Int32) (H : Heap) (locs : List Loc) (ls : Array Slot), mX10_make_b167 F K116 zx a1 a5 t0 = some (r, zx') → Wd E A s H locs (wM E ad zx) → lv_has ls 7 [(0, .ref (ad 0)), (1, .int a1), (5, .int a5)] → W p l e ({ frames := 3, cells := 0, slots := 0, locals := 73 } : Room) s m args below meth c H locs 0 0 (MQ below (QG E (Qd (some (.int r)) (wM E ad zx')) A) args s 0 0 A) (F0 m 167 ls [.int t0]) := by
  have hx := C0.1
  have hb := C0.2.1
  intro zx a1 a5 t0 H locs ls hm hw hl
  unfold mX10_make_b167 at hm
  refine lv_istore (lv' := [(4, .int t0), (0, .ref (ad 0)), (1, .int a1), (5, .int a5)]) hx hb dX10_make_167 hl (by decide) rfl (fun ls hl => ?_)
  refine lv_iload hx hb dX10_make_169 (lv_at hl 0 rfl) ?_
  refine lv_if_eq (tgt := 257) hx hb dX10_make_171 (by decide) (fun c1 => ?_) (fun c1 => ?_)
  · have hm := Eq.trans (if_pos c1).symm hm
    exact kX10_make_b257 F C0 hA K116 hK116 F zx a1 t0 a5 _ _ _ hm hw (lv_sub hl [1, 2, 0, 3] rfl)
  · have hm := Eq.trans (if_neg c1).symm hm
    refine lv_aload_n hx hb dX10_make_174 rfl (lv_at hl 1 rfl) ?_
    refine lv_aload_n hx hb dX10_make_175 rfl (lv_at hl 1 rfl) ?_
    refine gM_0_33 C0 hA hw hiX10_make_X10 lkX10_make_197 dX10_make_176 ?_
    refine pM_0_24 C0 hA hw hiX10_make_X10 lkX10_make_218 dX10_make_179 (fun zx2 ezx2 H locs hw => ?_)
    have hm := nm_at hm ezx2
    refine lv_aload_n hx hb dX10_make_182 rfl (lv_at hl 1 rfl) ?_
    refine gM_0_24 C0 hA hw hiX10_make_X10 lkX10_make_218 dX10_make_183 ?_
    obtain ⟨rfl, rfl⟩ := sj2 hm
    exact r_iret C0 hw dX10_make_186 ⟨rfl, rfl⟩
set_option maxRecDepth 20000 in
theorem kX10_make_b166 {p : Program} {l : Launch} {e : Env} {s : State} {m : MethodId} {args : Array Value} {below : List Frame} {meth : Method} {c : Code} {A : Nat → Prop} {E : EV} {ad : Nat → Nat} (F : Nat)  {r : Int32} {zx' : OS} (C0 : Cx RX10 "make" cX10_make (some .int) 7 wsX10_make p s m args meth c) (hA : Ax E A s) (K116 : OS → Int32 → Option (Int32 × OS)) (hK116 : ∀ (zx : OS) (a1 : Int32) (H : Heap) (locs : List Loc) (ls : Array Slot), K116 zx a1 = some (r, zx') → Wd E A s H locs (wM E ad zx) → lv_has ls 7 [(0, .ref (ad 0)), (1, .int a1)] → W p l e ({ frames := 3, cells := 0, slots := 0, locals := 73 } : Room) s m args below meth c H locs 0 0 (MQ below (QG E (Qd (some (.int r)) (wM E ad zx')) A) args s 0 0 A) (F0 m 116 ls [])) : ∀ (zx : OS) (a1 : Int32) (a5 : Int32) (H : Heap) (locs : List Loc) (ls : Array Slot), mX10_make_b166 F K116 zx a1 a5 = some (r, zx') → Wd E A s H locs (wM E ad zx) → lv_has ls 7 [(0, .ref (ad 0)), (1, .int a1), (5, .int a5)] → W p l e ({ frames := 3, cells := 0, slots := 0, locals := 73 } : Room) s m args below meth c H locs 0 0 (MQ below (QG E (Qd (some (.int r)) (wM E ad zx')) A) args s 0 0 A) (F0 m 166 ls []) := by
  have hx := C0.1
  have hb := C0.2.1
  intro zx a1 a5 H locs ls hm hw hl
  unfold mX10_make_b166 at hm
  refine lv_iconst (v := 0) hx hb dX10_make_166 (by decide) ?_
  exact kX10_make_b167 F C0 hA K116 hK116 zx a1 a5 0 _ _ _ hm hw (lv_sub hl [0, 1, 2] rfl)
set_option maxRecDepth 20000 in
theorem kX10_make_b116 {p : Program} {l : Launch} {e : Env} {s : State} {m : MethodId} {args : Array Value} {below : List Frame} {meth : Method} {c : Code} {A : Nat → Prop} {E : EV} {ad : Nat → Nat} (F : Nat)  {r : Int32} {zx' : OS} (C0 : Cx RX10 "make" cX10_make (some .int) 7 wsX10_make p s m args meth c) (hA : Ax E A s) : ∀ (n : Nat) (zx : OS) (a1 : Int32) (H : Heap) (locs : List Loc) (ls : Array Slot), mX10_make_b116 F n zx a1 = some (r, zx') → Wd E A s H locs (wM E ad zx) → lv_has ls 7 [(0, .ref (ad 0)), (1, .int a1)] → W p l e ({ frames := 3, cells := 0, slots := 0, locals := 73 } : Room) s m args below meth c H locs 0 0 (MQ below (QG E (Qd (some (.int r)) (wM E ad zx')) A) args s 0 0 A) (F0 m 116 ls []) := by
  have hx := C0.1
  have hb := C0.2.1
  intro n
  induction n with
  | zero =>
    intro zx a1 H locs ls hm
    cases hm
  | succ n ih =>
    intro zx a1 H locs ls hm hw hl
    unfold mX10_make_b116 at hm
    refine lv_iconst (v := 1) hx hb dX10_make_116 (by decide) ?_
    refine lv_topi (fun v1 ev1 => ?_)
    have hm := nm_at hm ev1
    refine lv_istore (lv' := [(4, .int v1), (0, .ref (ad 0)), (1, .int a1)]) hx hb dX10_make_117 hl (by decide) rfl (fun ls hl => ?_)
    refine lv_iconst (v := 0) hx hb dX10_make_119 (by decide) ?_
    refine lv_topi (fun v2 ev2 => ?_)
    have hm := nm_at hm ev2
    refine lv_istore (lv' := [(5, .int v2), (4, .int v1), (0, .ref (ad 0)), (1, .int a1)]) hx hb dX10_make_120 hl (by decide) rfl (fun ls hl => ?_)
    refine lv_aload_n hx hb dX10_make_122 rfl (lv_at hl 2 rfl) ?_
    refine gM_0_30 C0 hA hw hiX10_make_X10 lkX10_make_188 dX10_make_123 ?_
    refine lv_if_ge (tgt := 187) hx hb dX10_make_126 (by decide) (fun c3 => ?_) (fun c3 => ?_)
    · have hm := Eq.trans (if_pos c3).symm hm
      refine lv_aload_n hx hb dX10_make_187 rfl (lv_at hl 2 rfl) ?_
      refine gM_0_27 C0 hA hw hiX10_make_X10 lkX10_make_74 dX10_make_188 ?_
      refine lv_aload_n hx hb dX10_make_191 rfl (lv_at hl 2 rfl) ?_
      refine gM_0_30 C0 hA hw hiX10_make_X10 lkX10_make_188 dX10_make_192 ?_
      obtain ⟨c4, hm⟩ := gd_some hm
      refine lM_22 C0 hA hw c4 dX10_make_195 ?_
      refine lv_topi (fun v5 ev5 => ?_)
      have hm := nm_at hm ev5
      refine lv_istore (lv' := [(6, .int v5), (5, .int v2), (4, .int v1), (0, .ref (ad 0)), (1, .int a1)]) hx hb dX10_make_196 hl (by decide) rfl (fun ls hl => ?_)
      refine lv_aload_n hx hb dX10_make_198 rfl (lv_at hl 3 rfl) ?_
      refine lv_aload_n hx hb dX10_make_199 rfl (lv_at hl 3 rfl) ?_
      refine gM_0_28 C0 hA hw hiX10_make_X10 lkX10_make_77 dX10_make_200 ?_
      refine lv_aload_n hx hb dX10_make_203 rfl (lv_at hl 3 rfl) ?_
      refine gM_0_30 C0 hA hw hiX10_make_X10 lkX10_make_188 dX10_make_204 ?_
      obtain ⟨c6, hm⟩ := gd_some hm
      refine lM_23 C0 hA hw c6 dX10_make_207 ?_
      refine pM_0_30 C0 hA hw hiX10_make_X10 lkX10_make_188 dX10_make_208 (fun zx7 ezx7 H locs hw => ?_)
      have hm := nm_at hm ezx7
      refine lv_aload_n hx hb dX10_make_211 rfl (lv_at hl 3 rfl) ?_
      refine lv_dup hx hb dX10_make_212 rfl ?_
      refine gM_0_31 C0 hA hw hiX10_make_X10 lkX10_make_191 dX10_make_213 ?_
      refine lv_iconst (v := 1) hx hb dX10_make_216 (by decide) ?_
      refine lv_isub hx hb dX10_make_217 ?_
      refine pM_0_31 C0 hA hw hiX10_make_X10 lkX10_make_191 dX10_make_218 (fun zx8 ezx8 H locs hw => ?_)
      have hm := nm_at hm ezx8
      refine lv_aload_n hx hb dX10_make_221 rfl (lv_at hl 3 rfl) ?_
      refine gM_0_8 C0 hA hw hiX10_make_X10 lkX10_make_31 dX10_make_222 ?_
      refine lv_iload hx hb dX10_make_225 (lv_at hl 0 rfl) ?_
      obtain ⟨c9, hm⟩ := gd_some hm
      refine lM_8 C0 hA hw c9 dX10_make_227 ?_
      refine lv_if_ne (tgt := 248) hx hb dX10_make_228 (by decide) (fun c10 => ?_) (fun c10 => ?_)
      · have hm := Eq.trans (if_neg c10).symm hm
        refine lv_aload_n hx hb dX10_make_248 rfl (lv_at hl 3 rfl) ?_
        refine lv_iload hx hb dX10_make_249 (lv_at hl 0 rfl) ?_
        refine lv_iload_n hx hb dX10_make_251 rfl (lv_at hl 4 rfl) ?_
        obtain ⟨r11, zx12, h13, hm⟩ := b2_some hm
        refine r_backS (va_runV (As := [.int v5, .int a1]) (rest := []) ⟨hx, hb, C0.2.2.2.1, C0.2.2.2.2.1, C0.2.2.2.2.2.1⟩ (tX10_sound l E ad zx8 v5 a1 h13 H.size) (cwV 2 C0.2.2.2.2.2.1 gX10_make_X10_sound rfl rfl rfl (by decide +kernel) ⟨Nat.le_of_ble_eq_true rfl, Nat.le_of_ble_eq_true rfl⟩) ⟨PG_blind, va_recv hA.2.2.1.1 hw.1 (ci := 10) (q0 := 0) rfl rfl, pg_self hA hw⟩ rfl rfl hl.1 rfl (lv_room (Nat.le_of_ble_eq_true rfl)) dX10_make_252 ⟨Nat.zero_le _, Nat.zero_le _⟩) hA hw (fun H locs hw => ?_)
        refine lv_istore (lv' := [(4, .int r11), (6, .int v5), (5, .int v2), (0, .ref (ad 0)), (1, .int a1)]) hx hb dX10_make_255 hl (by decide) rfl (fun ls hl => ?_)
        exact kX10_make_b257 F C0 hA _ ih F zx12 a1 r11 v2 _ _ _ hm hw (lv_sub hl [3, 4, 0, 2] rfl)
      · have hm := Eq.trans (if_pos c10).symm hm
        refine lv_aload_n hx hb dX10_make_231 rfl (lv_at hl 3 rfl) ?_
        refine lv_aload_n hx hb dX10_make_232 rfl (lv_at hl 3 rfl) ?_
        refine gM_0_9 C0 hA hw hiX10_make_X10 lkX10_make_34 dX10_make_233 ?_
        refine lv_iload hx hb dX10_make_236 (lv_at hl 0 rfl) ?_
        obtain ⟨c14, hm⟩ := gd_some hm
        refine lM_9 C0 hA hw c14 dX10_make_238 ?_
        obtain ⟨zx15, h16, hm⟩ := b1_some hm
        refine r_backS (va_runV (As := [.int (zx8.2.2.1 9 (v5 : Int32).toNatClampNeg)]) (rest := []) ⟨hx, hb, C0.2.2.2.1, C0.2.2.2.2.1, C0.2.2.2.2.2.1⟩ (tX10_keep l E ad zx8 (zx8.2.2.1 9 (v5 : Int32).toNatClampNeg) h16 H.size) (cwV 1 C0.2.2.2.2.2.1 gX10_make_X10_keep rfl rfl rfl (by decide +kernel) ⟨Nat.le_of_ble_eq_true rfl, Nat.le_of_ble_eq_true rfl⟩) ⟨PG_blind, va_recv hA.2.2.1.1 hw.1 (ci := 10) (q0 := 0) rfl rfl, pg_self hA hw⟩ rfl rfl hl.1 rfl (lv_room (Nat.le_of_ble_eq_true rfl)) dX10_make_239 ⟨Nat.zero_le _, Nat.zero_le _⟩) hA hw (fun H locs hw => ?_)
        refine lv_iconst (v := 1) hx hb dX10_make_242 (by decide) ?_
        refine lv_topi (fun v17 ev17 => ?_)
        have hm := nm_at hm ev17
        refine lv_istore (lv' := [(5, .int v17), (6, .int v5), (4, .int v1), (0, .ref (ad 0)), (1, .int a1)]) hx hb dX10_make_243 hl (by decide) rfl (fun ls hl => ?_)
        refine lv_goto (tgt := 257) hx hb dX10_make_245 (by decide) ?_
        exact kX10_make_b257 F C0 hA _ ih F zx15 a1 v1 v17 _ _ _ hm hw (lv_sub hl [3, 4, 2, 0] rfl)
    · have hm := Eq.trans (if_neg c3).symm hm
      refine lv_aload_n hx hb dX10_make_129 rfl (lv_at hl 2 rfl) ?_
      refine gM_0_32 C0 hA hw hiX10_make_X10 lkX10_make_194 dX10_make_130 ?_
      refine lv_bipush (v := 16) hx hb dX10_make_133 (by decide) ?_
      refine lv_iload_n hx hb dX10_make_135 rfl (lv_at hl 3 rfl) ?_
      refine lv_imul hx hb dX10_make_136 ?_
      refine lv_icmp_ne (tgt := 166) hx hb dX10_make_137 (by decide) (fun c18 => ?_) (fun c18 => ?_)
      · have hm := Eq.trans (if_neg c18).symm hm
        exact kX10_make_b166 F C0 hA _ ih zx a1 v2 _ _ _ hm hw (lv_sub hl [2, 3, 0] rfl)
      · have hm := Eq.trans (if_pos c18).symm hm
        refine lv_aload_n hx hb dX10_make_140 rfl (lv_at hl 2 rfl) ?_
        refine gM_0_19 C0 hA hw hiX10_make_X10 lkX10_make_58 dX10_make_141 ?_
        refine lv_iconst (v := 5) hx hb dX10_make_144 (by decide) ?_
        obtain ⟨c19, hm⟩ := gd_some hm
        refine lM_17 C0 hA hw c19 dX10_make_145 ?_
        refine lv_if_lt (tgt := 162) hx hb dX10_make_146 (by decide) (fun c20 => ?_) (fun c20 => ?_)
        · have hm := Eq.trans (if_pos c20).symm hm
          refine lv_iconst (v := 1) hx hb dX10_make_162 (by decide) ?_
          refine lv_goto (tgt := 167) hx hb dX10_make_163 (by decide) ?_
          exact kX10_make_b167 F C0 hA _ ih zx a1 v2 1 _ _ _ hm hw (lv_sub hl [2, 3, 0] rfl)
        · have hm := Eq.trans (if_neg c20).symm hm
          refine lv_aload_n hx hb dX10_make_149 rfl (lv_at hl 2 rfl) ?_
          refine gM_0_35 C0 hA hw hiX10_make_X10 lkX10_make_203 dX10_make_150 ?_
          refine lv_aload_n hx hb dX10_make_153 rfl (lv_at hl 2 rfl) ?_
          refine gM_0_19 C0 hA hw hiX10_make_X10 lkX10_make_58 dX10_make_154 ?_
          refine lv_iconst (v := 5) hx hb dX10_make_157 (by decide) ?_
          obtain ⟨c21, hm⟩ := gd_some hm
          refine lM_17 C0 hA hw c21 dX10_make_158 ?_
          refine lv_icmp_ne (tgt := 166) hx hb dX10_make_159 (by decide) (fun c22 => ?_) (fun c22 => ?_)
          · have hm := Eq.trans (if_neg c22).symm hm
            exact kX10_make_b166 F C0 hA _ ih zx a1 v2 _ _ _ hm hw (lv_sub hl [2, 3, 0] rfl)
          · have hm := Eq.trans (if_pos c22).symm hm
            refine lv_iconst (v := 1) hx hb dX10_make_162 (by decide) ?_
            refine lv_goto (tgt := 167) hx hb dX10_make_163 (by decide) ?_
            exact kX10_make_b167 F C0 hA _ ih zx a1 v2 1 _ _ _ hm hw (lv_sub hl [2, 3, 0] rfl)
set_option maxRecDepth 20000 in
theorem kX10_make_b0 {p : Program} {l : Launch} {e : Env} {s : State} {m : MethodId} {args : Array Value} {below : List Frame} {meth : Method} {c : Code} {A : Nat → Prop} {E : EV} {ad : Nat → Nat} (F : Nat)  {r : Int32} {zx' : OS} (C0 : Cx RX10 "make" cX10_make (some .int) 7 wsX10_make p s m args meth c) (hA : Ax E A s) : ∀ (zx : OS) (a1 : Int32) (a2 : Int64) (H : Heap) (locs : List Loc) (ls : Array Slot), mX10_make_b0 F zx a1 a2 = some (r, zx') → Wd E A s H locs (wM E ad zx) → lv_has ls 7 [(0, .ref (ad 0)), (1, .int a1), (2, .long a2)] → W p l e ({ frames := 3, cells := 0, slots := 0, locals := 73 } : Room) s m args below meth c H locs 0 0 (MQ below (QG E (Qd (some (.int r)) (wM E ad zx')) A) args s 0 0 A) (F0 m 0 ls []) := by
  have hx := C0.1
  have hb := C0.2.1
  intro zx a1 a2 H locs ls hm hw hl
  unfold mX10_make_b0 at hm
  refine lv_iload_n hx hb dX10_make_0 rfl (lv_at hl 1 rfl) ?_
  refine lv_iconst (v := 1) hx hb dX10_make_1 (by decide) ?_
  refine lv_icmp_lt (tgt := 11) hx hb dX10_make_2 (by decide) (fun c1 => ?_) (fun c1 => ?_)
  · have hm := Eq.trans (if_pos c1).symm hm
    refine lv_bipush (v := (-2)) hx hb dX10_make_11 (by decide) ?_
    obtain ⟨rfl, rfl⟩ := sj2 hm
    exact r_iret C0 hw dX10_make_13 ⟨rfl, rfl⟩
  · have hm := Eq.trans (if_neg c1).symm hm
    refine lv_iload_n hx hb dX10_make_5 rfl (lv_at hl 1 rfl) ?_
    refine lv_bipush (v := 16) hx hb dX10_make_6 (by decide) ?_
    refine lv_icmp_le (tgt := 14) hx hb dX10_make_8 (by decide) (fun c2 => ?_) (fun c2 => ?_)
    · have hm := Eq.trans (if_pos c2).symm hm
      refine lv_aload_n hx hb dX10_make_14 rfl (lv_at hl 0 rfl) ?_
      refine gM_0_13 C0 hA hw hiX10_make_X10 lkX10_make_46 dX10_make_15 ?_
      refine lv_iconst (v := 0) hx hb dX10_make_18 (by decide) ?_
      obtain ⟨c3, hm⟩ := gd_some hm
      refine lM_13 C0 hA hw c3 dX10_make_19 ?_
      refine lv_if_ne (tgt := 26) hx hb dX10_make_20 (by decide) (fun c4 => ?_) (fun c4 => ?_)
      · have hm := Eq.trans (if_neg c4).symm hm
        refine lv_aload_n hx hb dX10_make_26 rfl (lv_at hl 0 rfl) ?_
        refine lv_lload_n hx hb dX10_make_27 rfl (lv_at hl 2 rfl) ?_
        refine pM_0_26 C0 hA hw hiX10_make_X10 lkX10_make_166 dX10_make_28 (fun zx5 ezx5 H locs hw => ?_)
        have hm := nm_at hm ezx5
        refine lv_aload_n hx hb dX10_make_31 rfl (lv_at hl 0 rfl) ?_
        refine lv_iconst (v := 0) hx hb dX10_make_32 (by decide) ?_
        refine pM_0_25 C0 hA hw hiX10_make_X10 lkX10_make_212 dX10_make_33 (fun zx6 ezx6 H locs hw => ?_)
        have hm := nm_at hm ezx6
        refine lv_aload_n hx hb dX10_make_36 rfl (lv_at hl 0 rfl) ?_
        refine lv_iconst (v := 0) hx hb dX10_make_37 (by decide) ?_
        refine pM_0_24 C0 hA hw hiX10_make_X10 lkX10_make_218 dX10_make_38 (fun zx7 ezx7 H locs hw => ?_)
        have hm := nm_at hm ezx7
        refine lv_aload_n hx hb dX10_make_41 rfl (lv_at hl 0 rfl) ?_
        refine lv_iconst (v := 0) hx hb dX10_make_42 (by decide) ?_
        refine pM_0_29 C0 hA hw hiX10_make_X10 lkX10_make_209 dX10_make_43 (fun zx8 ezx8 H locs hw => ?_)
        have hm := nm_at hm ezx8
        refine lv_aload_n hx hb dX10_make_46 rfl (lv_at hl 0 rfl) ?_
        refine lv_iconst (v := (-1)) hx hb dX10_make_47 (by decide) ?_
        refine pM_0_30 C0 hA hw hiX10_make_X10 lkX10_make_188 dX10_make_48 (fun zx9 ezx9 H locs hw => ?_)
        have hm := nm_at hm ezx9
        refine lv_aload_n hx hb dX10_make_51 rfl (lv_at hl 0 rfl) ?_
        refine lv_iconst (v := 0) hx hb dX10_make_52 (by decide) ?_
        refine pM_0_31 C0 hA hw hiX10_make_X10 lkX10_make_191 dX10_make_53 (fun zx10 ezx10 H locs hw => ?_)
        have hm := nm_at hm ezx10
        refine lv_aload_n hx hb dX10_make_56 rfl (lv_at hl 0 rfl) ?_
        refine lv_iconst (v := 0) hx hb dX10_make_57 (by decide) ?_
        refine pM_0_32 C0 hA hw hiX10_make_X10 lkX10_make_194 dX10_make_58 (fun zx11 ezx11 H locs hw => ?_)
        have hm := nm_at hm ezx11
        refine lv_aload_n hx hb dX10_make_61 rfl (lv_at hl 0 rfl) ?_
        refine lv_iconst (v := 0) hx hb dX10_make_62 (by decide) ?_
        refine pM_0_33 C0 hA hw hiX10_make_X10 lkX10_make_197 dX10_make_63 (fun zx12 ezx12 H locs hw => ?_)
        have hm := nm_at hm ezx12
        refine lv_aload_n hx hb dX10_make_66 rfl (lv_at hl 0 rfl) ?_
        refine lv_iconst (v := (-1)) hx hb dX10_make_67 (by decide) ?_
        refine pM_0_34 C0 hA hw hiX10_make_X10 lkX10_make_200 dX10_make_68 (fun zx13 ezx13 H locs hw => ?_)
        have hm := nm_at hm ezx13
        refine lv_aload_n hx hb dX10_make_71 rfl (lv_at hl 0 rfl) ?_
        refine lv_iconst (v := (-1)) hx hb dX10_make_72 (by decide) ?_
        refine pM_0_35 C0 hA hw hiX10_make_X10 lkX10_make_203 dX10_make_73 (fun zx14 ezx14 H locs hw => ?_)
        have hm := nm_at hm ezx14
        refine lv_aload_n hx hb dX10_make_76 rfl (lv_at hl 0 rfl) ?_
        refine lv_iconst (v := 0) hx hb dX10_make_77 (by decide) ?_
        refine pM_0_36 C0 hA hw hiX10_make_X10 lkX10_make_206 dX10_make_78 (fun zx15 ezx15 H locs hw => ?_)
        have hm := nm_at hm ezx15
        refine lv_aload_n hx hb dX10_make_81 rfl (lv_at hl 0 rfl) ?_
        refine lv_iconst (v := 0) hx hb dX10_make_82 (by decide) ?_
        refine pM_0_47 C0 hA hw hiX10_make_X10 lkX10_make_185 dX10_make_83 (fun zx16 ezx16 H locs hw => ?_)
        have hm := nm_at hm ezx16
        refine lv_aload_n hx hb dX10_make_86 rfl (lv_at hl 0 rfl) ?_
        refine gM_0_8 C0 hA hw hiX10_make_X10 lkX10_make_31 dX10_make_87 ?_
        refine lv_sipush (v := 240) hx hb dX10_make_90 (by decide) ?_
        refine lv_iconst (v := 0) hx hb dX10_make_93 (by decide) ?_
        obtain ⟨c17, hm⟩ := gd_some hm
        refine sM_8 C0 hA hw c17 dX10_make_94 (fun zx18 ezx18 H locs hw => ?_)
        have hm := nm_at hm ezx18
        refine lv_aload_n hx hb dX10_make_95 rfl (lv_at hl 0 rfl) ?_
        refine gM_0_9 C0 hA hw hiX10_make_X10 lkX10_make_34 dX10_make_96 ?_
        refine lv_sipush (v := 240) hx hb dX10_make_99 (by decide) ?_
        refine lv_aload_n hx hb dX10_make_102 rfl (lv_at hl 0 rfl) ?_
        refine gM_0_16 C0 hA hw hiX10_make_X10 lkX10_make_55 dX10_make_103 ?_
        refine lv_iconst (v := 0) hx hb dX10_make_106 (by decide) ?_
        obtain ⟨c19, hm⟩ := gd_some hm
        refine lM_16 C0 hA hw c19 dX10_make_107 ?_
        obtain ⟨c20, hm⟩ := gd_some hm
        refine sM_9 C0 hA hw c20 dX10_make_108 (fun zx21 ezx21 H locs hw => ?_)
        have hm := nm_at hm ezx21
        refine lv_aload_n hx hb dX10_make_109 rfl (lv_at hl 0 rfl) ?_
        refine lv_sipush (v := 240) hx hb dX10_make_110 (by decide) ?_
        obtain ⟨zx22, h23, hm⟩ := b1_some hm
        refine r_backS (va_runV (As := [.int 240]) (rest := []) ⟨hx, hb, C0.2.2.2.1, C0.2.2.2.2.1, C0.2.2.2.2.2.1⟩ (tX10_put l E ad zx21 240 h23 H.size) (cwV 1 C0.2.2.2.2.2.1 gX10_make_X10_put rfl rfl rfl (by decide +kernel) ⟨Nat.le_of_ble_eq_true rfl, Nat.le_of_ble_eq_true rfl⟩) ⟨PG_blind, va_recv hA.2.2.1.1 hw.1 (ci := 10) (q0 := 0) rfl rfl, pg_self hA hw⟩ rfl rfl hl.1 rfl (lv_room (Nat.le_of_ble_eq_true rfl)) dX10_make_113 ⟨Nat.zero_le _, Nat.zero_le _⟩) hA hw (fun H locs hw => ?_)
        exact kX10_make_b116 F C0 hA F zx22 a1 _ _ _ hm hw (lv_sub hl [0, 1] rfl)
      · have hm := Eq.trans (if_pos c4).symm hm
        refine lv_bipush (v := (-3)) hx hb dX10_make_23 (by decide) ?_
        obtain ⟨rfl, rfl⟩ := sj2 hm
        exact r_iret C0 hw dX10_make_25 ⟨rfl, rfl⟩
    · have hm := Eq.trans (if_neg c2).symm hm
      refine lv_bipush (v := (-2)) hx hb dX10_make_11 (by decide) ?_
      obtain ⟨rfl, rfl⟩ := sj2 hm
      exact r_iret C0 hw dX10_make_13 ⟨rfl, rfl⟩
theorem tX10_make (l : Launch) (E : EV) (ad : Nat → Nat) (F : Nat) (zx : OS) (a1 : Int32) (a2 : Int64) {r : Int32} {zx' : OS} (hm : mX10_make F zx a1 a2 = some (r, zx')) : CT l yX10_make wsX10_make ({ frames := 3, cells := 0, slots := 0, locals := 73 } : Room) E [.ref (ad 0), .int a1, .long a2] (wM E ad zx) (Qd (some (.int r)) (wM E ad zx')) 0 0 :=
  CT.of (mL := 7) (lvs := [(0, .ref (ad 0)), (1, .int a1), (2, .long a2)]) (by decide +kernel) rfl (Nat.le_of_ble_eq_true rfl) rfl rfl rfl (fun p e s m below meth c A C0 hA hw ls hl => kX10_make_b0 (ad := ad) F C0 hA zx a1 a2 _ _ _ hm hw (lv_sub hl [0, 1, 2] rfl))
theorem lkX10_tries_212 : Cond.fieldLink RX10 212 (TX10 25).1 (TX10 25).2.1 (TX10 25).2.2.1 ∈ wsX10_tries := by decide +kernel
theorem hiX10_tries_X10 : ∀ w ∈ u_ws RX10 TX10 53, w ∈ wsX10_tries := by decide +kernel
def mX10_tries_b0  (zx : OS) : Option (Int32) := some (zx.1 25)
def mX10_tries (zx : OS)  : Option (Int32) := mX10_tries_b0 zx
set_option maxRecDepth 20000 in
theorem kX10_tries_b0 {p : Program} {l : Launch} {e : Env} {s : State} {m : MethodId} {args : Array Value} {below : List Frame} {meth : Method} {c : Code} {A : Nat → Prop} {E : EV} {ad : Nat → Nat} {zx : OS} {r : Int32} (C0 : Cx RX10 "tries" cX10_tries (some .int) 1 wsX10_tries p s m args meth c) (hA : Ax E A s) : ∀  (H : Heap) (locs : List Loc) (ls : Array Slot), mX10_tries_b0 zx = some r → Wd E A s H locs (wM E ad zx) → lv_has ls 1 [(0, .ref (ad 0))] → W p l e ({ frames := 0, cells := 0, slots := 0, locals := 0 } : Room) s m args below meth c H locs 0 0 (MQ below (QG E (Qd (some (.int r)) (wM E ad zx)) A) args s 0 0 A) (F0 m 0 ls []) := by
  have hx := C0.1
  have hb := C0.2.1
  intro  H locs ls hm hw hl
  unfold mX10_tries_b0 at hm
  refine lv_aload_n hx hb dX10_tries_0 rfl (lv_at hl 0 rfl) ?_
  refine gM_0_25 C0 hA hw hiX10_tries_X10 lkX10_tries_212 dX10_tries_1 ?_
  obtain rfl := sj1 hm
  exact r_iret C0 hw dX10_tries_4 ⟨rfl, rfl⟩
theorem tX10_tries (l : Launch) (E : EV) (ad : Nat → Nat) (zx : OS)  {r : Int32} (hm : mX10_tries zx = some r) : CT l yX10_tries wsX10_tries ({ frames := 0, cells := 0, slots := 0, locals := 0 } : Room) E [.ref (ad 0)] (wM E ad zx) (Qd (some (.int r)) (wM E ad zx)) 0 0 :=
  CT.of (mL := 1) (lvs := [(0, .ref (ad 0))]) (by decide +kernel) rfl (Nat.le_of_ble_eq_true rfl) rfl rfl rfl (fun p e s m below meth c A C0 hA hw ls hl => kX10_tries_b0 (ad := ad) C0 hA  _ _ _ hm hw (lv_sub hl [0] rfl))
theorem lkX10_item_218 : Cond.fieldLink RX10 218 (TX10 24).1 (TX10 24).2.1 (TX10 24).2.2.1 ∈ wsX10_item := by decide +kernel
theorem lkX10_item_70 : Cond.fieldLink RX10 70 (TX10 23).1 (TX10 23).2.1 (TX10 23).2.2.1 ∈ wsX10_item := by decide +kernel
theorem lkX10_item_67 : Cond.fieldLink RX10 67 (TX10 22).1 (TX10 22).2.1 (TX10 22).2.2.1 ∈ wsX10_item := by decide +kernel
theorem lkX10_item_64 : Cond.fieldLink RX10 64 (TX10 21).1 (TX10 21).2.1 (TX10 21).2.2.1 ∈ wsX10_item := by decide +kernel
theorem lkX10_item_61 : Cond.fieldLink RX10 61 (TX10 20).1 (TX10 20).2.1 (TX10 20).2.2.1 ∈ wsX10_item := by decide +kernel
theorem hiX10_item_X10 : ∀ w ∈ u_ws RX10 TX10 53, w ∈ wsX10_item := by decide +kernel
def mX10_item_b0  (zx : OS) (a1 : Int32) (a2 : Int32) : Option (Int32) := (if (a2 : Int32) < 0 then some (-2) else (if (a2 : Int32) ≤ 3 then (if (a1 : Int32) < 0 then some (-1) else (if (a1 : Int32) < (zx.1 24) then (if (a2 : Int32) = 0 then gd a1 260 (some (zx.2.2.1 20 (a1 : Int32).toNatClampNeg)) else (if (a2 : Int32) = 1 then gd a1 260 (some (zx.2.2.1 21 (a1 : Int32).toNatClampNeg)) else (if (a2 : Int32) = 2 then gd a1 260 (some (zx.2.2.1 22 (a1 : Int32).toNatClampNeg)) else gd a1 260 (some (zx.2.2.1 23 (a1 : Int32).toNatClampNeg))))) else some (-1))) else some (-2)))
def mX10_item (zx : OS) (a1 : Int32) (a2 : Int32) : Option (Int32) := mX10_item_b0 zx a1 a2
set_option maxRecDepth 20000 in
theorem kX10_item_b0 {p : Program} {l : Launch} {e : Env} {s : State} {m : MethodId} {args : Array Value} {below : List Frame} {meth : Method} {c : Code} {A : Nat → Prop} {E : EV} {ad : Nat → Nat} {zx : OS} {r : Int32} (C0 : Cx RX10 "item" cX10_item (some .int) 3 wsX10_item p s m args meth c) (hA : Ax E A s) : ∀ (a1 : Int32) (a2 : Int32) (H : Heap) (locs : List Loc) (ls : Array Slot), mX10_item_b0 zx a1 a2 = some r → Wd E A s H locs (wM E ad zx) → lv_has ls 3 [(0, .ref (ad 0)), (1, .int a1), (2, .int a2)] → W p l e ({ frames := 0, cells := 0, slots := 0, locals := 0 } : Room) s m args below meth c H locs 0 0 (MQ below (QG E (Qd (some (.int r)) (wM E ad zx)) A) args s 0 0 A) (F0 m 0 ls []) := by
  have hx := C0.1
  have hb := C0.2.1
  intro a1 a2 H locs ls hm hw hl
  unfold mX10_item_b0 at hm
  refine lv_iload_n hx hb dX10_item_0 rfl (lv_at hl 2 rfl) ?_
  refine lv_if_lt (tgt := 9) hx hb dX10_item_1 (by decide) (fun c1 => ?_) (fun c1 => ?_)
  · have hm := Eq.trans (if_pos c1).symm hm
    refine lv_bipush (v := (-2)) hx hb dX10_item_9 (by decide) ?_
    obtain rfl := sj1 hm
    exact r_iret C0 hw dX10_item_11 ⟨rfl, rfl⟩
  · have hm := Eq.trans (if_neg c1).symm hm
    refine lv_iload_n hx hb dX10_item_4 rfl (lv_at hl 2 rfl) ?_
    refine lv_iconst (v := 3) hx hb dX10_item_5 (by decide) ?_
    refine lv_icmp_le (tgt := 12) hx hb dX10_item_6 (by decide) (fun c2 => ?_) (fun c2 => ?_)
    · have hm := Eq.trans (if_pos c2).symm hm
      refine lv_iload_n hx hb dX10_item_12 rfl (lv_at hl 1 rfl) ?_
      refine lv_if_lt (tgt := 24) hx hb dX10_item_13 (by decide) (fun c3 => ?_) (fun c3 => ?_)
      · have hm := Eq.trans (if_pos c3).symm hm
        refine lv_iconst (v := (-1)) hx hb dX10_item_24 (by decide) ?_
        obtain rfl := sj1 hm
        exact r_iret C0 hw dX10_item_25 ⟨rfl, rfl⟩
      · have hm := Eq.trans (if_neg c3).symm hm
        refine lv_iload_n hx hb dX10_item_16 rfl (lv_at hl 1 rfl) ?_
        refine lv_aload_n hx hb dX10_item_17 rfl (lv_at hl 0 rfl) ?_
        refine gM_0_24 C0 hA hw hiX10_item_X10 lkX10_item_218 dX10_item_18 ?_
        refine lv_icmp_lt (tgt := 26) hx hb dX10_item_21 (by decide) (fun c4 => ?_) (fun c4 => ?_)
        · have hm := Eq.trans (if_pos c4).symm hm
          refine lv_iload_n hx hb dX10_item_26 rfl (lv_at hl 2 rfl) ?_
          refine lv_if_ne (tgt := 39) hx hb dX10_item_27 (by decide) (fun c5 => ?_) (fun c5 => ?_)
          · have hm := Eq.trans (if_neg c5).symm hm
            refine lv_iload_n hx hb dX10_item_39 rfl (lv_at hl 2 rfl) ?_
            refine lv_iconst (v := 1) hx hb dX10_item_40 (by decide) ?_
            refine lv_icmp_ne (tgt := 53) hx hb dX10_item_41 (by decide) (fun c6 => ?_) (fun c6 => ?_)
            · have hm := Eq.trans (if_neg c6).symm hm
              refine lv_iload_n hx hb dX10_item_53 rfl (lv_at hl 2 rfl) ?_
              refine lv_iconst (v := 2) hx hb dX10_item_54 (by decide) ?_
              refine lv_icmp_ne (tgt := 67) hx hb dX10_item_55 (by decide) (fun c7 => ?_) (fun c7 => ?_)
              · have hm := Eq.trans (if_neg c7).symm hm
                refine lv_aload_n hx hb dX10_item_67 rfl (lv_at hl 0 rfl) ?_
                refine gM_0_23 C0 hA hw hiX10_item_X10 lkX10_item_70 dX10_item_68 ?_
                refine lv_iload_n hx hb dX10_item_71 rfl (lv_at hl 1 rfl) ?_
                obtain ⟨c8, hm⟩ := gd_some hm
                refine lM_21 C0 hA hw c8 dX10_item_72 ?_
                obtain rfl := sj1 hm
                exact r_iret C0 hw dX10_item_73 ⟨rfl, rfl⟩
              · have hm := Eq.trans (if_pos c7).symm hm
                refine lv_aload_n hx hb dX10_item_58 rfl (lv_at hl 0 rfl) ?_
                refine gM_0_22 C0 hA hw hiX10_item_X10 lkX10_item_67 dX10_item_59 ?_
                refine lv_iload_n hx hb dX10_item_62 rfl (lv_at hl 1 rfl) ?_
                obtain ⟨c9, hm⟩ := gd_some hm
                refine lM_20 C0 hA hw c9 dX10_item_63 ?_
                refine lv_goto (tgt := 73) hx hb dX10_item_64 (by decide) ?_
                obtain rfl := sj1 hm
                exact r_iret C0 hw dX10_item_73 ⟨rfl, rfl⟩
            · have hm := Eq.trans (if_pos c6).symm hm
              refine lv_aload_n hx hb dX10_item_44 rfl (lv_at hl 0 rfl) ?_
              refine gM_0_21 C0 hA hw hiX10_item_X10 lkX10_item_64 dX10_item_45 ?_
              refine lv_iload_n hx hb dX10_item_48 rfl (lv_at hl 1 rfl) ?_
              obtain ⟨c10, hm⟩ := gd_some hm
              refine lM_19 C0 hA hw c10 dX10_item_49 ?_
              refine lv_goto (tgt := 73) hx hb dX10_item_50 (by decide) ?_
              obtain rfl := sj1 hm
              exact r_iret C0 hw dX10_item_73 ⟨rfl, rfl⟩
          · have hm := Eq.trans (if_pos c5).symm hm
            refine lv_aload_n hx hb dX10_item_30 rfl (lv_at hl 0 rfl) ?_
            refine gM_0_20 C0 hA hw hiX10_item_X10 lkX10_item_61 dX10_item_31 ?_
            refine lv_iload_n hx hb dX10_item_34 rfl (lv_at hl 1 rfl) ?_
            obtain ⟨c11, hm⟩ := gd_some hm
            refine lM_18 C0 hA hw c11 dX10_item_35 ?_
            refine lv_goto (tgt := 73) hx hb dX10_item_36 (by decide) ?_
            obtain rfl := sj1 hm
            exact r_iret C0 hw dX10_item_73 ⟨rfl, rfl⟩
        · have hm := Eq.trans (if_neg c4).symm hm
          refine lv_iconst (v := (-1)) hx hb dX10_item_24 (by decide) ?_
          obtain rfl := sj1 hm
          exact r_iret C0 hw dX10_item_25 ⟨rfl, rfl⟩
    · have hm := Eq.trans (if_neg c2).symm hm
      refine lv_bipush (v := (-2)) hx hb dX10_item_9 (by decide) ?_
      obtain rfl := sj1 hm
      exact r_iret C0 hw dX10_item_11 ⟨rfl, rfl⟩
theorem tX10_item (l : Launch) (E : EV) (ad : Nat → Nat) (zx : OS) (a1 : Int32) (a2 : Int32) {r : Int32} (hm : mX10_item zx a1 a2 = some r) : CT l yX10_item wsX10_item ({ frames := 0, cells := 0, slots := 0, locals := 0 } : Room) E [.ref (ad 0), .int a1, .int a2] (wM E ad zx) (Qd (some (.int r)) (wM E ad zx)) 0 0 :=
  CT.of (mL := 3) (lvs := [(0, .ref (ad 0)), (1, .int a1), (2, .int a2)]) (by decide +kernel) rfl (Nat.le_of_ble_eq_true rfl) rfl rfl rfl (fun p e s m below meth c A C0 hA hw ls hl => kX10_item_b0 (ad := ad) C0 hA a1 a2 _ _ _ hm hw (lv_sub hl [0, 1, 2] rfl))
theorem lkX10_corpus_237 : Cond.fieldLink RX10 237 (TX10 49).1 (TX10 49).2.1 (TX10 49).2.2.1 ∈ wsX10_corpus := by decide +kernel
theorem lkX10_corpus_111 : Cond.fieldLink RX10 111 (TX10 48).1 (TX10 48).2.1 (TX10 48).2.2.1 ∈ wsX10_corpus := by decide +kernel
theorem hiX10_corpus_X10 : ∀ w ∈ u_ws RX10 TX10 53, w ∈ wsX10_corpus := by decide +kernel
def mX10_corpus_b0  (zx : OS) (a1 : Int32) : Option (Int32 × OS) := (if (zx.1 49 : Int32) = 300 then some ((-4), zx) else gd (zx.1 49) 300 (nm (sA zx 48 (zx.1 49) a1) (fun zx3 => nm (sI zx3 49 ((zx3.1 49) + 1)) (fun zx4 => some (zx4.1 49, zx4)))))
def mX10_corpus (zx : OS) (a1 : Int32) : Option (Int32 × OS) := mX10_corpus_b0 zx a1
set_option maxRecDepth 20000 in
theorem kX10_corpus_b0 {p : Program} {l : Launch} {e : Env} {s : State} {m : MethodId} {args : Array Value} {below : List Frame} {meth : Method} {c : Code} {A : Nat → Prop} {E : EV} {ad : Nat → Nat}  {r : Int32} {zx' : OS} (C0 : Cx RX10 "corpus" cX10_corpus (some .int) 2 wsX10_corpus p s m args meth c) (hA : Ax E A s) : ∀ (zx : OS) (a1 : Int32) (H : Heap) (locs : List Loc) (ls : Array Slot), mX10_corpus_b0 zx a1 = some (r, zx') → Wd E A s H locs (wM E ad zx) → lv_has ls 2 [(0, .ref (ad 0)), (1, .int a1)] → W p l e ({ frames := 0, cells := 0, slots := 0, locals := 0 } : Room) s m args below meth c H locs 0 0 (MQ below (QG E (Qd (some (.int r)) (wM E ad zx')) A) args s 0 0 A) (F0 m 0 ls []) := by
  have hx := C0.1
  have hb := C0.2.1
  intro zx a1 H locs ls hm hw hl
  unfold mX10_corpus_b0 at hm
  refine lv_aload_n hx hb dX10_corpus_0 rfl (lv_at hl 0 rfl) ?_
  refine gM_0_49 C0 hA hw hiX10_corpus_X10 lkX10_corpus_237 dX10_corpus_1 ?_
  refine lv_sipush (v := 300) hx hb dX10_corpus_4 (by decide) ?_
  refine lv_icmp_ne (tgt := 13) hx hb dX10_corpus_7 (by decide) (fun c1 => ?_) (fun c1 => ?_)
  · have hm := Eq.trans (if_neg c1).symm hm
    refine lv_aload_n hx hb dX10_corpus_13 rfl (lv_at hl 0 rfl) ?_
    refine gM_0_48 C0 hA hw hiX10_corpus_X10 lkX10_corpus_111 dX10_corpus_14 ?_
    refine lv_aload_n hx hb dX10_corpus_17 rfl (lv_at hl 0 rfl) ?_
    refine gM_0_49 C0 hA hw hiX10_corpus_X10 lkX10_corpus_237 dX10_corpus_18 ?_
    refine lv_iload_n hx hb dX10_corpus_21 rfl (lv_at hl 1 rfl) ?_
    obtain ⟨c2, hm⟩ := gd_some hm
    refine sM_34 C0 hA hw c2 dX10_corpus_22 (fun zx3 ezx3 H locs hw => ?_)
    have hm := nm_at hm ezx3
    refine lv_aload_n hx hb dX10_corpus_23 rfl (lv_at hl 0 rfl) ?_
    refine lv_dup hx hb dX10_corpus_24 rfl ?_
    refine gM_0_49 C0 hA hw hiX10_corpus_X10 lkX10_corpus_237 dX10_corpus_25 ?_
    refine lv_iconst (v := 1) hx hb dX10_corpus_28 (by decide) ?_
    refine lv_iadd hx hb dX10_corpus_29 ?_
    refine pM_0_49 C0 hA hw hiX10_corpus_X10 lkX10_corpus_237 dX10_corpus_30 (fun zx4 ezx4 H locs hw => ?_)
    have hm := nm_at hm ezx4
    refine lv_aload_n hx hb dX10_corpus_33 rfl (lv_at hl 0 rfl) ?_
    refine gM_0_49 C0 hA hw hiX10_corpus_X10 lkX10_corpus_237 dX10_corpus_34 ?_
    obtain ⟨rfl, rfl⟩ := sj2 hm
    exact r_iret C0 hw dX10_corpus_37 ⟨rfl, rfl⟩
  · have hm := Eq.trans (if_pos c1).symm hm
    refine lv_bipush (v := (-4)) hx hb dX10_corpus_10 (by decide) ?_
    obtain ⟨rfl, rfl⟩ := sj2 hm
    exact r_iret C0 hw dX10_corpus_12 ⟨rfl, rfl⟩
theorem tX10_corpus (l : Launch) (E : EV) (ad : Nat → Nat) (zx : OS) (a1 : Int32) {r : Int32} {zx' : OS} (hm : mX10_corpus zx a1 = some (r, zx')) : CT l yX10_corpus wsX10_corpus ({ frames := 0, cells := 0, slots := 0, locals := 0 } : Room) E [.ref (ad 0), .int a1] (wM E ad zx) (Qd (some (.int r)) (wM E ad zx')) 0 0 :=
  CT.of (mL := 2) (lvs := [(0, .ref (ad 0)), (1, .int a1)]) (by decide +kernel) rfl (Nat.le_of_ble_eq_true rfl) rfl rfl rfl (fun p e s m below meth c A C0 hA hw ls hl => kX10_corpus_b0 (ad := ad) C0 hA zx a1 _ _ _ hm hw (lv_sub hl [0, 1] rfl))
theorem lkX10_forget_237 : Cond.fieldLink RX10 237 (TX10 49).1 (TX10 49).2.1 (TX10 49).2.2.1 ∈ wsX10_forget := by decide +kernel
theorem hiX10_forget_X10 : ∀ w ∈ u_ws RX10 TX10 53, w ∈ wsX10_forget := by decide +kernel
def mX10_forget_b0  (zx : OS) : Option (Int32 × OS) := nm (zx.1 49 : Int32) (fun v1 => nm (sI zx 49 0) (fun zx2 => some (v1, zx2)))
def mX10_forget (zx : OS)  : Option (Int32 × OS) := mX10_forget_b0 zx
set_option maxRecDepth 20000 in
theorem kX10_forget_b0 {p : Program} {l : Launch} {e : Env} {s : State} {m : MethodId} {args : Array Value} {below : List Frame} {meth : Method} {c : Code} {A : Nat → Prop} {E : EV} {ad : Nat → Nat}  {r : Int32} {zx' : OS} (C0 : Cx RX10 "forget" cX10_forget (some .int) 2 wsX10_forget p s m args meth c) (hA : Ax E A s) : ∀ (zx : OS) (H : Heap) (locs : List Loc) (ls : Array Slot), mX10_forget_b0 zx = some (r, zx') → Wd E A s H locs (wM E ad zx) → lv_has ls 2 [(0, .ref (ad 0))] → W p l e ({ frames := 0, cells := 0, slots := 0, locals := 0 } : Room) s m args below meth c H locs 0 0 (MQ below (QG E (Qd (some (.int r)) (wM E ad zx')) A) args s 0 0 A) (F0 m 0 ls []) := by
  have hx := C0.1
  have hb := C0.2.1
  intro zx H locs ls hm hw hl
  unfold mX10_forget_b0 at hm
  refine lv_aload_n hx hb dX10_forget_0 rfl (lv_at hl 0 rfl) ?_
  refine gM_0_49 C0 hA hw hiX10_forget_X10 lkX10_forget_237 dX10_forget_1 ?_
  refine lv_topi (fun v1 ev1 => ?_)
  have hm := nm_at hm ev1
  refine lv_istore_n (lv' := [(1, .int v1), (0, .ref (ad 0))]) hx hb dX10_forget_4 rfl hl (by decide) rfl (fun ls hl => ?_)
  refine lv_aload_n hx hb dX10_forget_5 rfl (lv_at hl 1 rfl) ?_
  refine lv_iconst (v := 0) hx hb dX10_forget_6 (by decide) ?_
  refine pM_0_49 C0 hA hw hiX10_forget_X10 lkX10_forget_237 dX10_forget_7 (fun zx2 ezx2 H locs hw => ?_)
  have hm := nm_at hm ezx2
  refine lv_iload_n hx hb dX10_forget_10 rfl (lv_at hl 0 rfl) ?_
  obtain ⟨rfl, rfl⟩ := sj2 hm
  exact r_iret C0 hw dX10_forget_11 ⟨rfl, rfl⟩
theorem tX10_forget (l : Launch) (E : EV) (ad : Nat → Nat) (zx : OS)  {r : Int32} {zx' : OS} (hm : mX10_forget zx = some (r, zx')) : CT l yX10_forget wsX10_forget ({ frames := 0, cells := 0, slots := 0, locals := 0 } : Room) E [.ref (ad 0)] (wM E ad zx) (Qd (some (.int r)) (wM E ad zx')) 0 0 :=
  CT.of (mL := 2) (lvs := [(0, .ref (ad 0))]) (by decide +kernel) rfl (Nat.le_of_ble_eq_true rfl) rfl rfl rfl (fun p e s m below meth c A C0 hA hw ls hl => kX10_forget_b0 (ad := ad) C0 hA zx _ _ _ hm hw (lv_sub hl [0] rfl))
theorem lkX10_isAhead_111 : Cond.fieldLink RX10 111 (TX10 48).1 (TX10 48).2.1 (TX10 48).2.2.1 ∈ wsX10_isAhead := by decide +kernel
theorem lkX10_isAhead_114 : Cond.fieldLink RX10 114 (TX10 50).1 (TX10 50).2.1 (TX10 50).2.2.1 ∈ wsX10_isAhead := by decide +kernel
theorem lkX10_isAhead_240 : Cond.fieldLink RX10 240 (TX10 51).1 (TX10 51).2.1 (TX10 51).2.2.1 ∈ wsX10_isAhead := by decide +kernel
theorem hiX10_isAhead_X10 : ∀ w ∈ u_ws RX10 TX10 53, w ∈ wsX10_isAhead := by decide +kernel
def mX10_isAhead_b14 (F : Nat)  : Nat → OS → Int32 → Int32 → Int32 → Int32 → Option (Int32)
  | 0, _, _, _, _, _ => none
  | n + 1, zx, a1, a2, a3, a4 => (if a2 < (a4 : Int32) then bz a3 (some a3) else (if (a3 : Int32) = 0 then bz a3 (some a3) else gd (a1 - a4) 300 (gd ((zx.1 51) - a4) 210 ((if (zx.2.2.1 48 (a1 - a4 : Int32).toNatClampNeg : Int32) = (zx.2.2.1 50 ((zx.1 51) - a4 : Int32).toNatClampNeg) then nm (1 : Int32) (fun v10 => nm (a4 + 1 : Int32) (fun v11 => mX10_isAhead_b14 F n zx a1 a2 v10 v11)) else nm (0 : Int32) (fun v8 => nm (a4 + 1 : Int32) (fun v9 => mX10_isAhead_b14 F n zx a1 a2 v8 v9)))))))
def mX10_isAhead_b0 (F : Nat)  (zx : OS) (a1 : Int32) (a2 : Int32) : Option (Int32) := (if (a1 : Int32) < a2 then nm (0 : Int32) (fun v2 => nm (1 : Int32) (fun v3 => mX10_isAhead_b14 F F zx a1 a2 v2 v3)) else nm (1 : Int32) (fun v4 => nm (1 : Int32) (fun v5 => mX10_isAhead_b14 F F zx a1 a2 v4 v5)))
def mX10_isAhead (F : Nat) (zx : OS) (a1 : Int32) (a2 : Int32) : Option (Int32) := mX10_isAhead_b0 F zx a1 a2
set_option maxRecDepth 20000 in
theorem kX10_isAhead_b14 {p : Program} {l : Launch} {e : Env} {s : State} {m : MethodId} {args : Array Value} {below : List Frame} {meth : Method} {c : Code} {A : Nat → Prop} {E : EV} {ad : Nat → Nat} (F : Nat) {zx : OS} {r : Int32} (C0 : Cx RX10 "isAhead" cX10_isAhead (some .boolean) 5 wsX10_isAhead p s m args meth c) (hA : Ax E A s) : ∀ (n : Nat) (a1 : Int32) (a2 : Int32) (a3 : Int32) (a4 : Int32) (H : Heap) (locs : List Loc) (ls : Array Slot), mX10_isAhead_b14 F n zx a1 a2 a3 a4 = some r → Wd E A s H locs (wM E ad zx) → lv_has ls 5 [(0, .ref (ad 0)), (1, .int a1), (2, .int a2), (3, .int a3), (4, .int a4)] → W p l e ({ frames := 0, cells := 0, slots := 0, locals := 0 } : Room) s m args below meth c H locs 0 0 (MQ below (QG E (Qd (some (.int r)) (wM E ad zx)) A) args s 0 0 A) (F0 m 14 ls []) := by
  have hx := C0.1
  have hb := C0.2.1
  intro n
  induction n with
  | zero =>
    intro a1 a2 a3 a4 H locs ls hm
    cases hm
  | succ n ih =>
    intro a1 a2 a3 a4 H locs ls hm hw hl
    unfold mX10_isAhead_b14 at hm
    refine lv_iload hx hb dX10_isAhead_14 (lv_at hl 4 rfl) ?_
    refine lv_iload_n hx hb dX10_isAhead_16 rfl (lv_at hl 2 rfl) ?_
    refine lv_icmp_gt (tgt := 60) hx hb dX10_isAhead_17 (by decide) (fun c1 => ?_) (fun c1 => ?_)
    · have hm := Eq.trans (if_pos c1).symm hm
      refine lv_iload_n hx hb dX10_isAhead_60 rfl (lv_at hl 3 rfl) ?_
      obtain ⟨c2, hm⟩ := bz_some hm
      obtain rfl := sj1 hm
      exact r_zret C0 hw dX10_isAhead_61 c2 ⟨rfl, rfl⟩
    · have hm := Eq.trans (if_neg c1).symm hm
      refine lv_iload_n hx hb dX10_isAhead_20 rfl (lv_at hl 3 rfl) ?_
      refine lv_if_eq (tgt := 60) hx hb dX10_isAhead_21 (by decide) (fun c3 => ?_) (fun c3 => ?_)
      · have hm := Eq.trans (if_pos c3).symm hm
        refine lv_iload_n hx hb dX10_isAhead_60 rfl (lv_at hl 3 rfl) ?_
        obtain ⟨c4, hm⟩ := bz_some hm
        obtain rfl := sj1 hm
        exact r_zret C0 hw dX10_isAhead_61 c4 ⟨rfl, rfl⟩
      · have hm := Eq.trans (if_neg c3).symm hm
        refine lv_aload_n hx hb dX10_isAhead_24 rfl (lv_at hl 0 rfl) ?_
        refine gM_0_48 C0 hA hw hiX10_isAhead_X10 lkX10_isAhead_111 dX10_isAhead_25 ?_
        refine lv_iload_n hx hb dX10_isAhead_28 rfl (lv_at hl 1 rfl) ?_
        refine lv_iload hx hb dX10_isAhead_29 (lv_at hl 4 rfl) ?_
        refine lv_isub hx hb dX10_isAhead_31 ?_
        obtain ⟨c5, hm⟩ := gd_some hm
        refine lM_34 C0 hA hw c5 dX10_isAhead_32 ?_
        refine lv_aload_n hx hb dX10_isAhead_33 rfl (lv_at hl 0 rfl) ?_
        refine gM_0_50 C0 hA hw hiX10_isAhead_X10 lkX10_isAhead_114 dX10_isAhead_34 ?_
        refine lv_aload_n hx hb dX10_isAhead_37 rfl (lv_at hl 0 rfl) ?_
        refine gM_0_51 C0 hA hw hiX10_isAhead_X10 lkX10_isAhead_240 dX10_isAhead_38 ?_
        refine lv_iload hx hb dX10_isAhead_41 (lv_at hl 4 rfl) ?_
        refine lv_isub hx hb dX10_isAhead_43 ?_
        obtain ⟨c6, hm⟩ := gd_some hm
        refine lM_35 C0 hA hw c6 dX10_isAhead_44 ?_
        refine lv_icmp_ne (tgt := 52) hx hb dX10_isAhead_45 (by decide) (fun c7 => ?_) (fun c7 => ?_)
        · have hm := Eq.trans (if_neg c7).symm hm
          refine lv_iconst (v := 0) hx hb dX10_isAhead_52 (by decide) ?_
          refine lv_topi (fun v8 ev8 => ?_)
          have hm := nm_at hm ev8
          refine lv_istore_n (lv' := [(3, .int v8), (0, .ref (ad 0)), (1, .int a1), (2, .int a2), (4, .int a4)]) hx hb dX10_isAhead_53 rfl hl (by decide) rfl (fun ls hl => ?_)
          obtain ⟨v9, ev9⟩ : ∃ y : Int32, y = a4 + 1 := ⟨_, rfl⟩
          have hm := nm_at hm ev9
          refine lv_iinc (v := v9) (lv' := [(4, .int v9), (3, .int v8), (0, .ref (ad 0)), (1, .int a1), (2, .int a2)]) hx hb dX10_isAhead_54 hl (k := 4) rfl (by rw [ev9]; rfl) (by decide) rfl (fun ls hl => ?_)
          refine lv_goto (tgt := 14) hx hb dX10_isAhead_57 (by decide) ?_
          exact ih a1 a2 v8 v9 _ _ _ hm hw (lv_sub hl [2, 3, 4, 1, 0] rfl)
        · have hm := Eq.trans (if_pos c7).symm hm
          refine lv_iconst (v := 1) hx hb dX10_isAhead_48 (by decide) ?_
          refine lv_goto (tgt := 53) hx hb dX10_isAhead_49 (by decide) ?_
          refine lv_topi (fun v10 ev10 => ?_)
          have hm := nm_at hm ev10
          refine lv_istore_n (lv' := [(3, .int v10), (0, .ref (ad 0)), (1, .int a1), (2, .int a2), (4, .int a4)]) hx hb dX10_isAhead_53 rfl hl (by decide) rfl (fun ls hl => ?_)
          obtain ⟨v11, ev11⟩ : ∃ y : Int32, y = a4 + 1 := ⟨_, rfl⟩
          have hm := nm_at hm ev11
          refine lv_iinc (v := v11) (lv' := [(4, .int v11), (3, .int v10), (0, .ref (ad 0)), (1, .int a1), (2, .int a2)]) hx hb dX10_isAhead_54 hl (k := 4) rfl (by rw [ev11]; rfl) (by decide) rfl (fun ls hl => ?_)
          refine lv_goto (tgt := 14) hx hb dX10_isAhead_57 (by decide) ?_
          exact ih a1 a2 v10 v11 _ _ _ hm hw (lv_sub hl [2, 3, 4, 1, 0] rfl)
set_option maxRecDepth 20000 in
theorem kX10_isAhead_b0 {p : Program} {l : Launch} {e : Env} {s : State} {m : MethodId} {args : Array Value} {below : List Frame} {meth : Method} {c : Code} {A : Nat → Prop} {E : EV} {ad : Nat → Nat} (F : Nat) {zx : OS} {r : Int32} (C0 : Cx RX10 "isAhead" cX10_isAhead (some .boolean) 5 wsX10_isAhead p s m args meth c) (hA : Ax E A s) : ∀ (a1 : Int32) (a2 : Int32) (H : Heap) (locs : List Loc) (ls : Array Slot), mX10_isAhead_b0 F zx a1 a2 = some r → Wd E A s H locs (wM E ad zx) → lv_has ls 5 [(0, .ref (ad 0)), (1, .int a1), (2, .int a2)] → W p l e ({ frames := 0, cells := 0, slots := 0, locals := 0 } : Room) s m args below meth c H locs 0 0 (MQ below (QG E (Qd (some (.int r)) (wM E ad zx)) A) args s 0 0 A) (F0 m 0 ls []) := by
  have hx := C0.1
  have hb := C0.2.1
  intro a1 a2 H locs ls hm hw hl
  unfold mX10_isAhead_b0 at hm
  refine lv_iload_n hx hb dX10_isAhead_0 rfl (lv_at hl 1 rfl) ?_
  refine lv_iload_n hx hb dX10_isAhead_1 rfl (lv_at hl 2 rfl) ?_
  refine lv_icmp_lt (tgt := 9) hx hb dX10_isAhead_2 (by decide) (fun c1 => ?_) (fun c1 => ?_)
  · have hm := Eq.trans (if_pos c1).symm hm
    refine lv_iconst (v := 0) hx hb dX10_isAhead_9 (by decide) ?_
    refine lv_topi (fun v2 ev2 => ?_)
    have hm := nm_at hm ev2
    refine lv_istore_n (lv' := [(3, .int v2), (0, .ref (ad 0)), (1, .int a1), (2, .int a2)]) hx hb dX10_isAhead_10 rfl hl (by decide) rfl (fun ls hl => ?_)
    refine lv_iconst (v := 1) hx hb dX10_isAhead_11 (by decide) ?_
    refine lv_topi (fun v3 ev3 => ?_)
    have hm := nm_at hm ev3
    refine lv_istore (lv' := [(4, .int v3), (3, .int v2), (0, .ref (ad 0)), (1, .int a1), (2, .int a2)]) hx hb dX10_isAhead_12 hl (by decide) rfl (fun ls hl => ?_)
    exact kX10_isAhead_b14 F C0 hA F a1 a2 v2 v3 _ _ _ hm hw (lv_sub hl [2, 3, 4, 1, 0] rfl)
  · have hm := Eq.trans (if_neg c1).symm hm
    refine lv_iconst (v := 1) hx hb dX10_isAhead_5 (by decide) ?_
    refine lv_goto (tgt := 10) hx hb dX10_isAhead_6 (by decide) ?_
    refine lv_topi (fun v4 ev4 => ?_)
    have hm := nm_at hm ev4
    refine lv_istore_n (lv' := [(3, .int v4), (0, .ref (ad 0)), (1, .int a1), (2, .int a2)]) hx hb dX10_isAhead_10 rfl hl (by decide) rfl (fun ls hl => ?_)
    refine lv_iconst (v := 1) hx hb dX10_isAhead_11 (by decide) ?_
    refine lv_topi (fun v5 ev5 => ?_)
    have hm := nm_at hm ev5
    refine lv_istore (lv' := [(4, .int v5), (3, .int v4), (0, .ref (ad 0)), (1, .int a1), (2, .int a2)]) hx hb dX10_isAhead_12 hl (by decide) rfl (fun ls hl => ?_)
    exact kX10_isAhead_b14 F C0 hA F a1 a2 v4 v5 _ _ _ hm hw (lv_sub hl [2, 3, 4, 1, 0] rfl)
theorem tX10_isAhead (l : Launch) (E : EV) (ad : Nat → Nat) (F : Nat) (zx : OS) (a1 : Int32) (a2 : Int32) {r : Int32} (hm : mX10_isAhead F zx a1 a2 = some r) : CT l yX10_isAhead wsX10_isAhead ({ frames := 0, cells := 0, slots := 0, locals := 0 } : Room) E [.ref (ad 0), .int a1, .int a2] (wM E ad zx) (Qd (some (.int r)) (wM E ad zx)) 0 0 :=
  CT.of (mL := 5) (lvs := [(0, .ref (ad 0)), (1, .int a1), (2, .int a2)]) (by decide +kernel) rfl (Nat.le_of_ble_eq_true rfl) rfl rfl rfl (fun p e s m below meth c A C0 hA hw ls hl => kX10_isAhead_b0 (ad := ad) F C0 hA a1 a2 _ _ _ hm hw (lv_sub hl [0, 1, 2] rfl))
theorem lkX10_walk_114 : Cond.fieldLink RX10 114 (TX10 50).1 (TX10 50).2.1 (TX10 50).2.2.1 ∈ wsX10_walk := by decide +kernel
theorem lkX10_walk_240 : Cond.fieldLink RX10 240 (TX10 51).1 (TX10 51).2.1 (TX10 51).2.2.1 ∈ wsX10_walk := by decide +kernel
theorem lkX10_walk_237 : Cond.fieldLink RX10 237 (TX10 49).1 (TX10 49).2.1 (TX10 49).2.2.1 ∈ wsX10_walk := by decide +kernel
theorem lkX10_walk_111 : Cond.fieldLink RX10 111 (TX10 48).1 (TX10 48).2.1 (TX10 48).2.2.1 ∈ wsX10_walk := by decide +kernel
theorem lkX10_walk_166 : Cond.fieldLink RX10 166 (TX10 26).1 (TX10 26).2.1 (TX10 26).2.2.1 ∈ wsX10_walk := by decide +kernel
theorem hiX10_walk_X10 : ∀ w ∈ u_ws RX10 TX10 53, w ∈ wsX10_walk := by decide +kernel
def mX10_walk_b204 (F : Nat) (K86 : OS → Int32 → Int32 → Int32 → Int32 → Option (Int32 × OS)) (zx : OS) (a1 : Int32) (a2 : Int32) (a3 : Int32) (a6 : Int32) (a8 : Int32) : Option (Int32 × OS) := gd (zx.1 51) 210 (nm (sA zx 50 (zx.1 51) a8) (fun zx2 => nm (sI zx2 51 ((zx2.1 51) + 1)) (fun zx3 => nm (a6 + 1 : Int32) (fun v4 => K86 zx3 a1 a2 a3 v4))))
def mX10_walk_b157 (F : Nat) (K86 : OS → Int32 → Int32 → Int32 → Int32 → Option (Int32 × OS)) : Nat → OS → Int32 → Int32 → Int32 → Int32 → Int32 → Int32 → Int32 → Option (Int32 × OS)
  | 0, _, _, _, _, _, _, _, _ => none
  | n + 1, zx, a1, a2, a3, a6, a8, a9, a10 => (if (zx.1 49) ≤ (a10 : Int32) then mX10_walk_b204 F K86 zx a1 a2 a3 a6 a8 else b1 (mX10_isAhead F zx a10 a1) (fun r2 => (if (r2 : Int32) = 0 then nm (a10 + 1 : Int32) (fun v5 => mX10_walk_b157 F K86 n zx a1 a2 a3 a6 a8 a9 v5) else (if (a9 : Int32) = 0 then gd a10 300 (nm (zx.2.2.1 48 (a10 : Int32).toNatClampNeg : Int32) (fun v10 => nm (a9 + (-1) : Int32) (fun v11 => nm (a10 + 1 : Int32) (fun v12 => mX10_walk_b157 F K86 n zx a1 a2 a3 a6 v10 v11 v12)))) else nm (a9 + (-1) : Int32) (fun v7 => nm (a10 + 1 : Int32) (fun v8 => mX10_walk_b157 F K86 n zx a1 a2 a3 a6 a8 v7 v8))))))
def mX10_walk_b98 (F : Nat) (K86 : OS → Int32 → Int32 → Int32 → Int32 → Option (Int32 × OS)) : Nat → OS → Int32 → Int32 → Int32 → Int32 → Int32 → Int32 → Option (Int32 × OS)
  | 0, _, _, _, _, _, _, _ => none
  | n + 1, zx, a1, a2, a3, a6, a7, a8 => (if (zx.1 49) ≤ (a8 : Int32) then gd a2 300 (nm (zx.2.2.1 48 (a2 : Int32).toNatClampNeg : Int32) (fun v3 => (if (a7 : Int32) ≤ 0 then mX10_walk_b204 F K86 zx a1 a2 a3 a6 v3 else b2 (mX10_drawBelow F zx a7) (fun r5 zx6 => nm (0 : Int32) (fun v8 => mX10_walk_b157 F K86 F zx6 a1 a2 a3 a6 v3 r5 v8))))) else b1 (mX10_isAhead F zx a8 a1) (fun r9 => (if (r9 : Int32) = 0 then nm (a7 + 0 : Int32) (fun v12 => nm (a8 + 1 : Int32) (fun v13 => mX10_walk_b98 F K86 n zx a1 a2 a3 a6 v12 v13)) else nm (a7 + 1 : Int32) (fun v14 => nm (a8 + 1 : Int32) (fun v15 => mX10_walk_b98 F K86 n zx a1 a2 a3 a6 v14 v15)))))
def mX10_walk_b86 (F : Nat)  : Nat → OS → Int32 → Int32 → Int32 → Int32 → Option (Int32 × OS)
  | 0, _, _, _, _, _ => none
  | n + 1, zx, a1, a2, a3, a6 => (if a3 ≤ (a6 : Int32) then some (zx.1 51, zx) else nm (0 : Int32) (fun v2 => nm (0 : Int32) (fun v3 => mX10_walk_b98 F (mX10_walk_b86 F n) F zx a1 a2 a3 a6 v2 v3)))
def mX10_walk_b50 (F : Nat)  : Nat → OS → Int32 → Int32 → Int32 → Int32 → Option (Int32 × OS)
  | 0, _, _, _, _, _ => none
  | n + 1, zx, a1, a2, a3, a6 => (if a1 ≤ (a6 : Int32) then nm (sI zx 51 a1) (fun zx2 => nm (0 : Int32) (fun v3 => mX10_walk_b86 F F zx2 a1 a2 a3 v3)) else gd (a2 + a6) 300 (gd a6 210 (nm (sA zx 50 a6 (zx.2.2.1 48 (a2 + a6 : Int32).toNatClampNeg)) (fun zx6 => nm (a6 + 1 : Int32) (fun v7 => mX10_walk_b50 F n zx6 a1 a2 a3 v7)))))
def mX10_walk_b0 (F : Nat)  (zx : OS) (a1 : Int32) (a2 : Int32) (a3 : Int32) (a4 : Int64) : Option (Int32 × OS) := (if (a1 : Int32) < 1 then some ((-2), zx) else (if 3 < (a1 : Int32) then some ((-2), zx) else (if (a3 : Int32) < 0 then some ((-2), zx) else (if (a3 : Int32) ≤ 200 then (if (a2 : Int32) < 0 then some ((-3), zx) else (if (a2 : Int32) ≤ ((zx.1 49) - a1) then nm (sL zx 26 a4) (fun zx7 => nm (0 : Int32) (fun v8 => mX10_walk_b50 F F zx7 a1 a2 a3 v8)) else some ((-3), zx))) else some ((-2), zx)))))
def mX10_walk (F : Nat) (zx : OS) (a1 : Int32) (a2 : Int32) (a3 : Int32) (a4 : Int64) : Option (Int32 × OS) := mX10_walk_b0 F zx a1 a2 a3 a4
set_option maxRecDepth 20000 in
theorem kX10_walk_b204 {p : Program} {l : Launch} {e : Env} {s : State} {m : MethodId} {args : Array Value} {below : List Frame} {meth : Method} {c : Code} {A : Nat → Prop} {E : EV} {ad : Nat → Nat} (F : Nat)  {r : Int32} {zx' : OS} (C0 : Cx RX10 "walk" cX10_walk (some .int) 11 wsX10_walk p s m args meth c) (hA : Ax E A s) (K86 : OS → Int32 → Int32 → Int32 → Int32 → Option (Int32 × OS)) (hK86 : ∀ (zx : OS) (a1 : Int32) (a2 : Int32) (a3 : Int32) (a6 : Int32) (H : Heap) (locs : List Loc) (ls : Array Slot), K86 zx a1 a2 a3 a6 = some (r, zx') → Wd E A s H locs (wM E ad zx) → lv_has ls 11 [(0, .ref (ad 0)), (1, .int a1), (2, .int a2), (3, .int a3), (6, .int a6)] → W p l e ({ frames := 2, cells := 0, slots := 0, locals := 47 } : Room) s m args below meth c H locs 0 0 (MQ below (QG E (Qd (some (.int r)) (wM E ad zx')) A) args s 0 0 A) (F0 m 86 ls [])) : ∀ (zx : OS) (a1 : Int32) (a2 : Int32) (a3 : Int32) (a6 : Int32) (a8 : Int32) (H : Heap) (locs : List Loc) (ls : Array Slot), mX10_walk_b204 F K86 zx a1 a2 a3 a6 a8 = some (r, zx') → Wd E A s H locs (wM E ad zx) → lv_has ls 11 [(0, .ref (ad 0)), (1, .int a1), (2, .int a2), (3, .int a3), (6, .int a6), (8, .int a8)] → W p l e ({ frames := 2, cells := 0, slots := 0, locals := 47 } : Room) s m args below meth c H locs 0 0 (MQ below (QG E (Qd (some (.int r)) (wM E ad zx')) A) args s 0 0 A) (F0 m 204 ls []) := by
  have hx := C0.1
  have hb := C0.2.1
  intro zx a1 a2 a3 a6 a8 H locs ls hm hw hl
  unfold mX10_walk_b204 at hm
  refine lv_aload_n hx hb dX10_walk_204 rfl (lv_at hl 0 rfl) ?_
  refine gM_0_50 C0 hA hw hiX10_walk_X10 lkX10_walk_114 dX10_walk_205 ?_
  refine lv_aload_n hx hb dX10_walk_208 rfl (lv_at hl 0 rfl) ?_
  refine gM_0_51 C0 hA hw hiX10_walk_X10 lkX10_walk_240 dX10_walk_209 ?_
  refine lv_iload hx hb dX10_walk_212 (lv_at hl 5 rfl) ?_
  obtain ⟨c1, hm⟩ := gd_some hm
  refine sM_35 C0 hA hw c1 dX10_walk_214 (fun zx2 ezx2 H locs hw => ?_)
  have hm := nm_at hm ezx2
  refine lv_aload_n hx hb dX10_walk_215 rfl (lv_at hl 0 rfl) ?_
  refine lv_dup hx hb dX10_walk_216 rfl ?_
  refine gM_0_51 C0 hA hw hiX10_walk_X10 lkX10_walk_240 dX10_walk_217 ?_
  refine lv_iconst (v := 1) hx hb dX10_walk_220 (by decide) ?_
  refine lv_iadd hx hb dX10_walk_221 ?_
  refine pM_0_51 C0 hA hw hiX10_walk_X10 lkX10_walk_240 dX10_walk_222 (fun zx3 ezx3 H locs hw => ?_)
  have hm := nm_at hm ezx3
  obtain ⟨v4, ev4⟩ : ∃ y : Int32, y = a6 + 1 := ⟨_, rfl⟩
  have hm := nm_at hm ev4
  refine lv_iinc (v := v4) (lv' := [(6, .int v4), (0, .ref (ad 0)), (1, .int a1), (2, .int a2), (3, .int a3), (8, .int a8)]) hx hb dX10_walk_225 hl (k := 4) rfl (by rw [ev4]; rfl) (by decide) rfl (fun ls hl => ?_)
  refine lv_goto (tgt := 86) hx hb dX10_walk_228 (by decide) ?_
  exact hK86 zx3 a1 a2 a3 v4 _ _ _ hm hw (lv_sub hl [1, 2, 3, 4, 0] rfl)
set_option maxRecDepth 20000 in
theorem kX10_walk_b157 {p : Program} {l : Launch} {e : Env} {s : State} {m : MethodId} {args : Array Value} {below : List Frame} {meth : Method} {c : Code} {A : Nat → Prop} {E : EV} {ad : Nat → Nat} (F : Nat)  {r : Int32} {zx' : OS} (C0 : Cx RX10 "walk" cX10_walk (some .int) 11 wsX10_walk p s m args meth c) (hA : Ax E A s) (K86 : OS → Int32 → Int32 → Int32 → Int32 → Option (Int32 × OS)) (hK86 : ∀ (zx : OS) (a1 : Int32) (a2 : Int32) (a3 : Int32) (a6 : Int32) (H : Heap) (locs : List Loc) (ls : Array Slot), K86 zx a1 a2 a3 a6 = some (r, zx') → Wd E A s H locs (wM E ad zx) → lv_has ls 11 [(0, .ref (ad 0)), (1, .int a1), (2, .int a2), (3, .int a3), (6, .int a6)] → W p l e ({ frames := 2, cells := 0, slots := 0, locals := 47 } : Room) s m args below meth c H locs 0 0 (MQ below (QG E (Qd (some (.int r)) (wM E ad zx')) A) args s 0 0 A) (F0 m 86 ls [])) : ∀ (n : Nat) (zx : OS) (a1 : Int32) (a2 : Int32) (a3 : Int32) (a6 : Int32) (a8 : Int32) (a9 : Int32) (a10 : Int32) (H : Heap) (locs : List Loc) (ls : Array Slot), mX10_walk_b157 F K86 n zx a1 a2 a3 a6 a8 a9 a10 = some (r, zx') → Wd E A s H locs (wM E ad zx) → lv_has ls 11 [(0, .ref (ad 0)), (1, .int a1), (2, .int a2), (3, .int a3), (6, .int a6), (8, .int a8), (9, .int a9), (10, .int a10)] → W p l e ({ frames := 2, cells := 0, slots := 0, locals := 47 } : Room) s m args below meth c H locs 0 0 (MQ below (QG E (Qd (some (.int r)) (wM E ad zx')) A) args s 0 0 A) (F0 m 157 ls []) := by
  have hx := C0.1
  have hb := C0.2.1
  intro n
  induction n with
  | zero =>
    intro zx a1 a2 a3 a6 a8 a9 a10 H locs ls hm
    cases hm
  | succ n ih =>
    intro zx a1 a2 a3 a6 a8 a9 a10 H locs ls hm hw hl
    unfold mX10_walk_b157 at hm
    refine lv_iload hx hb dX10_walk_157 (lv_at hl 7 rfl) ?_
    refine lv_aload_n hx hb dX10_walk_159 rfl (lv_at hl 0 rfl) ?_
    refine gM_0_49 C0 hA hw hiX10_walk_X10 lkX10_walk_237 dX10_walk_160 ?_
    refine lv_icmp_ge (tgt := 204) hx hb dX10_walk_163 (by decide) (fun c1 => ?_) (fun c1 => ?_)
    · have hm := Eq.trans (if_pos c1).symm hm
      exact kX10_walk_b204 F C0 hA K86 hK86 zx a1 a2 a3 a6 a8 _ _ _ hm hw (lv_sub hl [0, 1, 2, 3, 4, 5] rfl)
    · have hm := Eq.trans (if_neg c1).symm hm
      refine lv_aload_n hx hb dX10_walk_166 rfl (lv_at hl 0 rfl) ?_
      refine lv_iload hx hb dX10_walk_167 (lv_at hl 7 rfl) ?_
      refine lv_iload_n hx hb dX10_walk_169 rfl (lv_at hl 1 rfl) ?_
      obtain ⟨r2, h3, hm⟩ := b1_some hm
      refine r_backS (va_runV (As := [.int a10, .int a1]) (rest := []) ⟨hx, hb, C0.2.2.2.1, C0.2.2.2.2.1, C0.2.2.2.2.2.1⟩ (tX10_isAhead l E ad F zx a10 a1 h3 H.size) (cwV 2 C0.2.2.2.2.2.1 gX10_walk_X10_isAhead rfl rfl rfl (by decide +kernel) ⟨Nat.le_of_ble_eq_true rfl, Nat.le_of_ble_eq_true rfl⟩) ⟨PG_blind, va_recv hA.2.2.1.1 hw.1 (ci := 10) (q0 := 0) rfl rfl, pg_self hA hw⟩ rfl rfl hl.1 rfl (lv_room (Nat.le_of_ble_eq_true rfl)) dX10_walk_170 ⟨Nat.zero_le _, Nat.zero_le _⟩) hA hw (fun H locs hw => ?_)
      refine lv_if_eq (tgt := 198) hx hb dX10_walk_173 (by decide) (fun c4 => ?_) (fun c4 => ?_)
      · have hm := Eq.trans (if_pos c4).symm hm
        obtain ⟨v5, ev5⟩ : ∃ y : Int32, y = a10 + 1 := ⟨_, rfl⟩
        have hm := nm_at hm ev5
        refine lv_iinc (v := v5) (lv' := [(10, .int v5), (0, .ref (ad 0)), (1, .int a1), (2, .int a2), (3, .int a3), (6, .int a6), (8, .int a8), (9, .int a9)]) hx hb dX10_walk_198 hl (k := 7) rfl (by rw [ev5]; rfl) (by decide) rfl (fun ls hl => ?_)
        refine lv_goto (tgt := 157) hx hb dX10_walk_201 (by decide) ?_
        exact ih zx a1 a2 a3 a6 a8 a9 v5 _ _ _ hm hw (lv_sub hl [1, 2, 3, 4, 5, 6, 7, 0] rfl)
      · have hm := Eq.trans (if_neg c4).symm hm
        refine lv_iload hx hb dX10_walk_176 (lv_at hl 6 rfl) ?_
        refine lv_if_ne (tgt := 191) hx hb dX10_walk_178 (by decide) (fun c6 => ?_) (fun c6 => ?_)
        · have hm := Eq.trans (if_neg c6).symm hm
          refine lv_iload hx hb dX10_walk_191 (lv_at hl 5 rfl) ?_
          refine lv_istore (lv' := [(8, .int a8), (0, .ref (ad 0)), (1, .int a1), (2, .int a2), (3, .int a3), (6, .int a6), (9, .int a9), (10, .int a10)]) hx hb dX10_walk_193 hl (by decide) rfl (fun ls hl => ?_)
          obtain ⟨v7, ev7⟩ : ∃ y : Int32, y = a9 + (-1) := ⟨_, rfl⟩
          have hm := nm_at hm ev7
          refine lv_iinc (v := v7) (lv' := [(9, .int v7), (8, .int a8), (0, .ref (ad 0)), (1, .int a1), (2, .int a2), (3, .int a3), (6, .int a6), (10, .int a10)]) hx hb dX10_walk_195 hl (k := 6) rfl (by rw [ev7]; rfl) (by decide) rfl (fun ls hl => ?_)
          obtain ⟨v8, ev8⟩ : ∃ y : Int32, y = a10 + 1 := ⟨_, rfl⟩
          have hm := nm_at hm ev8
          refine lv_iinc (v := v8) (lv' := [(10, .int v8), (9, .int v7), (8, .int a8), (0, .ref (ad 0)), (1, .int a1), (2, .int a2), (3, .int a3), (6, .int a6)]) hx hb dX10_walk_198 hl (k := 7) rfl (by rw [ev8]; rfl) (by decide) rfl (fun ls hl => ?_)
          refine lv_goto (tgt := 157) hx hb dX10_walk_201 (by decide) ?_
          exact ih zx a1 a2 a3 a6 a8 v7 v8 _ _ _ hm hw (lv_sub hl [3, 4, 5, 6, 7, 2, 1, 0] rfl)
        · have hm := Eq.trans (if_pos c6).symm hm
          refine lv_aload_n hx hb dX10_walk_181 rfl (lv_at hl 0 rfl) ?_
          refine gM_0_48 C0 hA hw hiX10_walk_X10 lkX10_walk_111 dX10_walk_182 ?_
          refine lv_iload hx hb dX10_walk_185 (lv_at hl 7 rfl) ?_
          obtain ⟨c9, hm⟩ := gd_some hm
          refine lM_34 C0 hA hw c9 dX10_walk_187 ?_
          refine lv_goto (tgt := 193) hx hb dX10_walk_188 (by decide) ?_
          refine lv_topi (fun v10 ev10 => ?_)
          have hm := nm_at hm ev10
          refine lv_istore (lv' := [(8, .int v10), (0, .ref (ad 0)), (1, .int a1), (2, .int a2), (3, .int a3), (6, .int a6), (9, .int a9), (10, .int a10)]) hx hb dX10_walk_193 hl (by decide) rfl (fun ls hl => ?_)
          obtain ⟨v11, ev11⟩ : ∃ y : Int32, y = a9 + (-1) := ⟨_, rfl⟩
          have hm := nm_at hm ev11
          refine lv_iinc (v := v11) (lv' := [(9, .int v11), (8, .int v10), (0, .ref (ad 0)), (1, .int a1), (2, .int a2), (3, .int a3), (6, .int a6), (10, .int a10)]) hx hb dX10_walk_195 hl (k := 6) rfl (by rw [ev11]; rfl) (by decide) rfl (fun ls hl => ?_)
          obtain ⟨v12, ev12⟩ : ∃ y : Int32, y = a10 + 1 := ⟨_, rfl⟩
          have hm := nm_at hm ev12
          refine lv_iinc (v := v12) (lv' := [(10, .int v12), (9, .int v11), (8, .int v10), (0, .ref (ad 0)), (1, .int a1), (2, .int a2), (3, .int a3), (6, .int a6)]) hx hb dX10_walk_198 hl (k := 7) rfl (by rw [ev12]; rfl) (by decide) rfl (fun ls hl => ?_)
          refine lv_goto (tgt := 157) hx hb dX10_walk_201 (by decide) ?_
          exact ih zx a1 a2 a3 a6 v10 v11 v12 _ _ _ hm hw (lv_sub hl [3, 4, 5, 6, 7, 2, 1, 0] rfl)
set_option maxRecDepth 20000 in
theorem kX10_walk_b98 {p : Program} {l : Launch} {e : Env} {s : State} {m : MethodId} {args : Array Value} {below : List Frame} {meth : Method} {c : Code} {A : Nat → Prop} {E : EV} {ad : Nat → Nat} (F : Nat)  {r : Int32} {zx' : OS} (C0 : Cx RX10 "walk" cX10_walk (some .int) 11 wsX10_walk p s m args meth c) (hA : Ax E A s) (K86 : OS → Int32 → Int32 → Int32 → Int32 → Option (Int32 × OS)) (hK86 : ∀ (zx : OS) (a1 : Int32) (a2 : Int32) (a3 : Int32) (a6 : Int32) (H : Heap) (locs : List Loc) (ls : Array Slot), K86 zx a1 a2 a3 a6 = some (r, zx') → Wd E A s H locs (wM E ad zx) → lv_has ls 11 [(0, .ref (ad 0)), (1, .int a1), (2, .int a2), (3, .int a3), (6, .int a6)] → W p l e ({ frames := 2, cells := 0, slots := 0, locals := 47 } : Room) s m args below meth c H locs 0 0 (MQ below (QG E (Qd (some (.int r)) (wM E ad zx')) A) args s 0 0 A) (F0 m 86 ls [])) : ∀ (n : Nat) (zx : OS) (a1 : Int32) (a2 : Int32) (a3 : Int32) (a6 : Int32) (a7 : Int32) (a8 : Int32) (H : Heap) (locs : List Loc) (ls : Array Slot), mX10_walk_b98 F K86 n zx a1 a2 a3 a6 a7 a8 = some (r, zx') → Wd E A s H locs (wM E ad zx) → lv_has ls 11 [(0, .ref (ad 0)), (1, .int a1), (2, .int a2), (3, .int a3), (6, .int a6), (7, .int a7), (8, .int a8)] → W p l e ({ frames := 2, cells := 0, slots := 0, locals := 47 } : Room) s m args below meth c H locs 0 0 (MQ below (QG E (Qd (some (.int r)) (wM E ad zx')) A) args s 0 0 A) (F0 m 98 ls []) := by
  have hx := C0.1
  have hb := C0.2.1
  intro n
  induction n with
  | zero =>
    intro zx a1 a2 a3 a6 a7 a8 H locs ls hm
    cases hm
  | succ n ih =>
    intro zx a1 a2 a3 a6 a7 a8 H locs ls hm hw hl
    unfold mX10_walk_b98 at hm
    refine lv_iload hx hb dX10_walk_98 (lv_at hl 6 rfl) ?_
    refine lv_aload_n hx hb dX10_walk_100 rfl (lv_at hl 0 rfl) ?_
    refine gM_0_49 C0 hA hw hiX10_walk_X10 lkX10_walk_237 dX10_walk_101 ?_
    refine lv_icmp_ge (tgt := 133) hx hb dX10_walk_104 (by decide) (fun c1 => ?_) (fun c1 => ?_)
    · have hm := Eq.trans (if_pos c1).symm hm
      refine lv_aload_n hx hb dX10_walk_133 rfl (lv_at hl 0 rfl) ?_
      refine gM_0_48 C0 hA hw hiX10_walk_X10 lkX10_walk_111 dX10_walk_134 ?_
      refine lv_iload_n hx hb dX10_walk_137 rfl (lv_at hl 2 rfl) ?_
      obtain ⟨c2, hm⟩ := gd_some hm
      refine lM_34 C0 hA hw c2 dX10_walk_138 ?_
      refine lv_topi (fun v3 ev3 => ?_)
      have hm := nm_at hm ev3
      refine lv_istore (lv' := [(8, .int v3), (0, .ref (ad 0)), (1, .int a1), (2, .int a2), (3, .int a3), (6, .int a6), (7, .int a7)]) hx hb dX10_walk_139 hl (by decide) rfl (fun ls hl => ?_)
      refine lv_iload hx hb dX10_walk_141 (lv_at hl 6 rfl) ?_
      refine lv_if_le (tgt := 204) hx hb dX10_walk_143 (by decide) (fun c4 => ?_) (fun c4 => ?_)
      · have hm := Eq.trans (if_pos c4).symm hm
        exact kX10_walk_b204 F C0 hA K86 hK86 zx a1 a2 a3 a6 v3 _ _ _ hm hw (lv_sub hl [1, 2, 3, 4, 5, 0] rfl)
      · have hm := Eq.trans (if_neg c4).symm hm
        refine lv_aload_n hx hb dX10_walk_146 rfl (lv_at hl 1 rfl) ?_
        refine lv_iload hx hb dX10_walk_147 (lv_at hl 6 rfl) ?_
        obtain ⟨r5, zx6, h7, hm⟩ := b2_some hm
        refine r_backS (va_runV (As := [.int a7]) (rest := []) ⟨hx, hb, C0.2.2.2.1, C0.2.2.2.2.1, C0.2.2.2.2.2.1⟩ (tX10_drawBelow l E ad F zx a7 h7 H.size) (cwV 1 C0.2.2.2.2.2.1 gX10_walk_X10_drawBelow rfl rfl rfl (by decide +kernel) ⟨Nat.le_of_ble_eq_true rfl, Nat.le_of_ble_eq_true rfl⟩) ⟨PG_blind, va_recv hA.2.2.1.1 hw.1 (ci := 10) (q0 := 0) rfl rfl, pg_self hA hw⟩ rfl rfl hl.1 rfl (lv_room (Nat.le_of_ble_eq_true rfl)) dX10_walk_149 ⟨Nat.zero_le _, Nat.zero_le _⟩) hA hw (fun H locs hw => ?_)
        refine lv_istore (lv' := [(9, .int r5), (8, .int v3), (0, .ref (ad 0)), (1, .int a1), (2, .int a2), (3, .int a3), (6, .int a6), (7, .int a7)]) hx hb dX10_walk_152 hl (by decide) rfl (fun ls hl => ?_)
        refine lv_iconst (v := 0) hx hb dX10_walk_154 (by decide) ?_
        refine lv_topi (fun v8 ev8 => ?_)
        have hm := nm_at hm ev8
        refine lv_istore (lv' := [(10, .int v8), (9, .int r5), (8, .int v3), (0, .ref (ad 0)), (1, .int a1), (2, .int a2), (3, .int a3), (6, .int a6), (7, .int a7)]) hx hb dX10_walk_155 hl (by decide) rfl (fun ls hl => ?_)
        exact kX10_walk_b157 F C0 hA K86 hK86 F zx6 a1 a2 a3 a6 v3 r5 v8 _ _ _ hm hw (lv_sub hl [3, 4, 5, 6, 7, 2, 1, 0] rfl)
    · have hm := Eq.trans (if_neg c1).symm hm
      refine lv_iload hx hb dX10_walk_107 (lv_at hl 5 rfl) ?_
      refine lv_aload_n hx hb dX10_walk_109 rfl (lv_at hl 0 rfl) ?_
      refine lv_iload hx hb dX10_walk_110 (lv_at hl 6 rfl) ?_
      refine lv_iload_n hx hb dX10_walk_112 rfl (lv_at hl 1 rfl) ?_
      obtain ⟨r9, h10, hm⟩ := b1_some hm
      refine r_backS (va_runV (As := [.int a8, .int a1]) (rest := [.int a7]) ⟨hx, hb, C0.2.2.2.1, C0.2.2.2.2.1, C0.2.2.2.2.2.1⟩ (tX10_isAhead l E ad F zx a8 a1 h10 H.size) (cwV 2 C0.2.2.2.2.2.1 gX10_walk_X10_isAhead rfl rfl rfl (by decide +kernel) ⟨Nat.le_of_ble_eq_true rfl, Nat.le_of_ble_eq_true rfl⟩) ⟨PG_blind, va_recv hA.2.2.1.1 hw.1 (ci := 10) (q0 := 0) rfl rfl, pg_self hA hw⟩ rfl rfl hl.1 rfl (lv_room (Nat.le_of_ble_eq_true rfl)) dX10_walk_113 ⟨Nat.zero_le _, Nat.zero_le _⟩) hA hw (fun H locs hw => ?_)
      refine lv_if_eq (tgt := 123) hx hb dX10_walk_116 (by decide) (fun c11 => ?_) (fun c11 => ?_)
      · have hm := Eq.trans (if_pos c11).symm hm
        refine lv_iconst (v := 0) hx hb dX10_walk_123 (by decide) ?_
        refine lv_iadd hx hb dX10_walk_124 ?_
        refine lv_topi (fun v12 ev12 => ?_)
        have hm := nm_at hm ev12
        refine lv_istore (lv' := [(7, .int v12), (0, .ref (ad 0)), (1, .int a1), (2, .int a2), (3, .int a3), (6, .int a6), (8, .int a8)]) hx hb dX10_walk_125 hl (by decide) rfl (fun ls hl => ?_)
        obtain ⟨v13, ev13⟩ : ∃ y : Int32, y = a8 + 1 := ⟨_, rfl⟩
        have hm := nm_at hm ev13
        refine lv_iinc (v := v13) (lv' := [(8, .int v13), (7, .int v12), (0, .ref (ad 0)), (1, .int a1), (2, .int a2), (3, .int a3), (6, .int a6)]) hx hb dX10_walk_127 hl (k := 6) rfl (by rw [ev13]; rfl) (by decide) rfl (fun ls hl => ?_)
        refine lv_goto (tgt := 98) hx hb dX10_walk_130 (by decide) ?_
        exact ih zx a1 a2 a3 a6 v12 v13 _ _ _ hm hw (lv_sub hl [2, 3, 4, 5, 6, 1, 0] rfl)
      · have hm := Eq.trans (if_neg c11).symm hm
        refine lv_iconst (v := 1) hx hb dX10_walk_119 (by decide) ?_
        refine lv_goto (tgt := 124) hx hb dX10_walk_120 (by decide) ?_
        refine lv_iadd hx hb dX10_walk_124 ?_
        refine lv_topi (fun v14 ev14 => ?_)
        have hm := nm_at hm ev14
        refine lv_istore (lv' := [(7, .int v14), (0, .ref (ad 0)), (1, .int a1), (2, .int a2), (3, .int a3), (6, .int a6), (8, .int a8)]) hx hb dX10_walk_125 hl (by decide) rfl (fun ls hl => ?_)
        obtain ⟨v15, ev15⟩ : ∃ y : Int32, y = a8 + 1 := ⟨_, rfl⟩
        have hm := nm_at hm ev15
        refine lv_iinc (v := v15) (lv' := [(8, .int v15), (7, .int v14), (0, .ref (ad 0)), (1, .int a1), (2, .int a2), (3, .int a3), (6, .int a6)]) hx hb dX10_walk_127 hl (k := 6) rfl (by rw [ev15]; rfl) (by decide) rfl (fun ls hl => ?_)
        refine lv_goto (tgt := 98) hx hb dX10_walk_130 (by decide) ?_
        exact ih zx a1 a2 a3 a6 v14 v15 _ _ _ hm hw (lv_sub hl [2, 3, 4, 5, 6, 1, 0] rfl)
set_option maxRecDepth 20000 in
theorem kX10_walk_b86 {p : Program} {l : Launch} {e : Env} {s : State} {m : MethodId} {args : Array Value} {below : List Frame} {meth : Method} {c : Code} {A : Nat → Prop} {E : EV} {ad : Nat → Nat} (F : Nat)  {r : Int32} {zx' : OS} (C0 : Cx RX10 "walk" cX10_walk (some .int) 11 wsX10_walk p s m args meth c) (hA : Ax E A s) : ∀ (n : Nat) (zx : OS) (a1 : Int32) (a2 : Int32) (a3 : Int32) (a6 : Int32) (H : Heap) (locs : List Loc) (ls : Array Slot), mX10_walk_b86 F n zx a1 a2 a3 a6 = some (r, zx') → Wd E A s H locs (wM E ad zx) → lv_has ls 11 [(0, .ref (ad 0)), (1, .int a1), (2, .int a2), (3, .int a3), (6, .int a6)] → W p l e ({ frames := 2, cells := 0, slots := 0, locals := 47 } : Room) s m args below meth c H locs 0 0 (MQ below (QG E (Qd (some (.int r)) (wM E ad zx')) A) args s 0 0 A) (F0 m 86 ls []) := by
  have hx := C0.1
  have hb := C0.2.1
  intro n
  induction n with
  | zero =>
    intro zx a1 a2 a3 a6 H locs ls hm
    cases hm
  | succ n ih =>
    intro zx a1 a2 a3 a6 H locs ls hm hw hl
    unfold mX10_walk_b86 at hm
    refine lv_iload hx hb dX10_walk_86 (lv_at hl 4 rfl) ?_
    refine lv_iload_n hx hb dX10_walk_88 rfl (lv_at hl 3 rfl) ?_
    refine lv_icmp_ge (tgt := 231) hx hb dX10_walk_89 (by decide) (fun c1 => ?_) (fun c1 => ?_)
    · have hm := Eq.trans (if_pos c1).symm hm
      refine lv_aload_n hx hb dX10_walk_231 rfl (lv_at hl 0 rfl) ?_
      refine gM_0_51 C0 hA hw hiX10_walk_X10 lkX10_walk_240 dX10_walk_232 ?_
      obtain ⟨rfl, rfl⟩ := sj2 hm
      exact r_iret C0 hw dX10_walk_235 ⟨rfl, rfl⟩
    · have hm := Eq.trans (if_neg c1).symm hm
      refine lv_iconst (v := 0) hx hb dX10_walk_92 (by decide) ?_
      refine lv_topi (fun v2 ev2 => ?_)
      have hm := nm_at hm ev2
      refine lv_istore (lv' := [(7, .int v2), (0, .ref (ad 0)), (1, .int a1), (2, .int a2), (3, .int a3), (6, .int a6)]) hx hb dX10_walk_93 hl (by decide) rfl (fun ls hl => ?_)
      refine lv_iconst (v := 0) hx hb dX10_walk_95 (by decide) ?_
      refine lv_topi (fun v3 ev3 => ?_)
      have hm := nm_at hm ev3
      refine lv_istore (lv' := [(8, .int v3), (7, .int v2), (0, .ref (ad 0)), (1, .int a1), (2, .int a2), (3, .int a3), (6, .int a6)]) hx hb dX10_walk_96 hl (by decide) rfl (fun ls hl => ?_)
      exact kX10_walk_b98 F C0 hA _ ih F zx a1 a2 a3 a6 v2 v3 _ _ _ hm hw (lv_sub hl [2, 3, 4, 5, 6, 1, 0] rfl)
set_option maxRecDepth 20000 in
theorem kX10_walk_b50 {p : Program} {l : Launch} {e : Env} {s : State} {m : MethodId} {args : Array Value} {below : List Frame} {meth : Method} {c : Code} {A : Nat → Prop} {E : EV} {ad : Nat → Nat} (F : Nat)  {r : Int32} {zx' : OS} (C0 : Cx RX10 "walk" cX10_walk (some .int) 11 wsX10_walk p s m args meth c) (hA : Ax E A s) : ∀ (n : Nat) (zx : OS) (a1 : Int32) (a2 : Int32) (a3 : Int32) (a6 : Int32) (H : Heap) (locs : List Loc) (ls : Array Slot), mX10_walk_b50 F n zx a1 a2 a3 a6 = some (r, zx') → Wd E A s H locs (wM E ad zx) → lv_has ls 11 [(0, .ref (ad 0)), (1, .int a1), (2, .int a2), (3, .int a3), (6, .int a6)] → W p l e ({ frames := 2, cells := 0, slots := 0, locals := 47 } : Room) s m args below meth c H locs 0 0 (MQ below (QG E (Qd (some (.int r)) (wM E ad zx')) A) args s 0 0 A) (F0 m 50 ls []) := by
  have hx := C0.1
  have hb := C0.2.1
  intro n
  induction n with
  | zero =>
    intro zx a1 a2 a3 a6 H locs ls hm
    cases hm
  | succ n ih =>
    intro zx a1 a2 a3 a6 H locs ls hm hw hl
    unfold mX10_walk_b50 at hm
    refine lv_iload hx hb dX10_walk_50 (lv_at hl 4 rfl) ?_
    refine lv_iload_n hx hb dX10_walk_52 rfl (lv_at hl 1 rfl) ?_
    refine lv_icmp_ge (tgt := 78) hx hb dX10_walk_53 (by decide) (fun c1 => ?_) (fun c1 => ?_)
    · have hm := Eq.trans (if_pos c1).symm hm
      refine lv_aload_n hx hb dX10_walk_78 rfl (lv_at hl 0 rfl) ?_
      refine lv_iload_n hx hb dX10_walk_79 rfl (lv_at hl 1 rfl) ?_
      refine pM_0_51 C0 hA hw hiX10_walk_X10 lkX10_walk_240 dX10_walk_80 (fun zx2 ezx2 H locs hw => ?_)
      have hm := nm_at hm ezx2
      refine lv_iconst (v := 0) hx hb dX10_walk_83 (by decide) ?_
      refine lv_topi (fun v3 ev3 => ?_)
      have hm := nm_at hm ev3
      refine lv_istore (lv' := [(6, .int v3), (0, .ref (ad 0)), (1, .int a1), (2, .int a2), (3, .int a3)]) hx hb dX10_walk_84 hl (by decide) rfl (fun ls hl => ?_)
      exact kX10_walk_b86 F C0 hA F zx2 a1 a2 a3 v3 _ _ _ hm hw (lv_sub hl [1, 2, 3, 4, 0] rfl)
    · have hm := Eq.trans (if_neg c1).symm hm
      refine lv_aload_n hx hb dX10_walk_56 rfl (lv_at hl 0 rfl) ?_
      refine gM_0_50 C0 hA hw hiX10_walk_X10 lkX10_walk_114 dX10_walk_57 ?_
      refine lv_iload hx hb dX10_walk_60 (lv_at hl 4 rfl) ?_
      refine lv_aload_n hx hb dX10_walk_62 rfl (lv_at hl 0 rfl) ?_
      refine gM_0_48 C0 hA hw hiX10_walk_X10 lkX10_walk_111 dX10_walk_63 ?_
      refine lv_iload_n hx hb dX10_walk_66 rfl (lv_at hl 2 rfl) ?_
      refine lv_iload hx hb dX10_walk_67 (lv_at hl 4 rfl) ?_
      refine lv_iadd hx hb dX10_walk_69 ?_
      obtain ⟨c4, hm⟩ := gd_some hm
      refine lM_34 C0 hA hw c4 dX10_walk_70 ?_
      obtain ⟨c5, hm⟩ := gd_some hm
      refine sM_35 C0 hA hw c5 dX10_walk_71 (fun zx6 ezx6 H locs hw => ?_)
      have hm := nm_at hm ezx6
      obtain ⟨v7, ev7⟩ : ∃ y : Int32, y = a6 + 1 := ⟨_, rfl⟩
      have hm := nm_at hm ev7
      refine lv_iinc (v := v7) (lv' := [(6, .int v7), (0, .ref (ad 0)), (1, .int a1), (2, .int a2), (3, .int a3)]) hx hb dX10_walk_72 hl (k := 4) rfl (by rw [ev7]; rfl) (by decide) rfl (fun ls hl => ?_)
      refine lv_goto (tgt := 50) hx hb dX10_walk_75 (by decide) ?_
      exact ih zx6 a1 a2 a3 v7 _ _ _ hm hw (lv_sub hl [1, 2, 3, 4, 0] rfl)
set_option maxRecDepth 20000 in
theorem kX10_walk_b0 {p : Program} {l : Launch} {e : Env} {s : State} {m : MethodId} {args : Array Value} {below : List Frame} {meth : Method} {c : Code} {A : Nat → Prop} {E : EV} {ad : Nat → Nat} (F : Nat)  {r : Int32} {zx' : OS} (C0 : Cx RX10 "walk" cX10_walk (some .int) 11 wsX10_walk p s m args meth c) (hA : Ax E A s) : ∀ (zx : OS) (a1 : Int32) (a2 : Int32) (a3 : Int32) (a4 : Int64) (H : Heap) (locs : List Loc) (ls : Array Slot), mX10_walk_b0 F zx a1 a2 a3 a4 = some (r, zx') → Wd E A s H locs (wM E ad zx) → lv_has ls 11 [(0, .ref (ad 0)), (1, .int a1), (2, .int a2), (3, .int a3), (4, .long a4)] → W p l e ({ frames := 2, cells := 0, slots := 0, locals := 47 } : Room) s m args below meth c H locs 0 0 (MQ below (QG E (Qd (some (.int r)) (wM E ad zx')) A) args s 0 0 A) (F0 m 0 ls []) := by
  have hx := C0.1
  have hb := C0.2.1
  intro zx a1 a2 a3 a4 H locs ls hm hw hl
  unfold mX10_walk_b0 at hm
  refine lv_iload_n hx hb dX10_walk_0 rfl (lv_at hl 1 rfl) ?_
  refine lv_iconst (v := 1) hx hb dX10_walk_1 (by decide) ?_
  refine lv_icmp_lt (tgt := 21) hx hb dX10_walk_2 (by decide) (fun c1 => ?_) (fun c1 => ?_)
  · have hm := Eq.trans (if_pos c1).symm hm
    refine lv_bipush (v := (-2)) hx hb dX10_walk_21 (by decide) ?_
    obtain ⟨rfl, rfl⟩ := sj2 hm
    exact r_iret C0 hw dX10_walk_23 ⟨rfl, rfl⟩
  · have hm := Eq.trans (if_neg c1).symm hm
    refine lv_iload_n hx hb dX10_walk_5 rfl (lv_at hl 1 rfl) ?_
    refine lv_iconst (v := 3) hx hb dX10_walk_6 (by decide) ?_
    refine lv_icmp_gt (tgt := 21) hx hb dX10_walk_7 (by decide) (fun c2 => ?_) (fun c2 => ?_)
    · have hm := Eq.trans (if_pos c2).symm hm
      refine lv_bipush (v := (-2)) hx hb dX10_walk_21 (by decide) ?_
      obtain ⟨rfl, rfl⟩ := sj2 hm
      exact r_iret C0 hw dX10_walk_23 ⟨rfl, rfl⟩
    · have hm := Eq.trans (if_neg c2).symm hm
      refine lv_iload_n hx hb dX10_walk_10 rfl (lv_at hl 3 rfl) ?_
      refine lv_if_lt (tgt := 21) hx hb dX10_walk_11 (by decide) (fun c3 => ?_) (fun c3 => ?_)
      · have hm := Eq.trans (if_pos c3).symm hm
        refine lv_bipush (v := (-2)) hx hb dX10_walk_21 (by decide) ?_
        obtain ⟨rfl, rfl⟩ := sj2 hm
        exact r_iret C0 hw dX10_walk_23 ⟨rfl, rfl⟩
      · have hm := Eq.trans (if_neg c3).symm hm
        refine lv_iload_n hx hb dX10_walk_14 rfl (lv_at hl 3 rfl) ?_
        refine lv_sipush (v := 200) hx hb dX10_walk_15 (by decide) ?_
        refine lv_icmp_le (tgt := 24) hx hb dX10_walk_18 (by decide) (fun c4 => ?_) (fun c4 => ?_)
        · have hm := Eq.trans (if_pos c4).symm hm
          refine lv_iload_n hx hb dX10_walk_24 rfl (lv_at hl 2 rfl) ?_
          refine lv_if_lt (tgt := 38) hx hb dX10_walk_25 (by decide) (fun c5 => ?_) (fun c5 => ?_)
          · have hm := Eq.trans (if_pos c5).symm hm
            refine lv_bipush (v := (-3)) hx hb dX10_walk_38 (by decide) ?_
            obtain ⟨rfl, rfl⟩ := sj2 hm
            exact r_iret C0 hw dX10_walk_40 ⟨rfl, rfl⟩
          · have hm := Eq.trans (if_neg c5).symm hm
            refine lv_iload_n hx hb dX10_walk_28 rfl (lv_at hl 2 rfl) ?_
            refine lv_aload_n hx hb dX10_walk_29 rfl (lv_at hl 0 rfl) ?_
            refine gM_0_49 C0 hA hw hiX10_walk_X10 lkX10_walk_237 dX10_walk_30 ?_
            refine lv_iload_n hx hb dX10_walk_33 rfl (lv_at hl 1 rfl) ?_
            refine lv_isub hx hb dX10_walk_34 ?_
            refine lv_icmp_le (tgt := 41) hx hb dX10_walk_35 (by decide) (fun c6 => ?_) (fun c6 => ?_)
            · have hm := Eq.trans (if_pos c6).symm hm
              refine lv_aload_n hx hb dX10_walk_41 rfl (lv_at hl 0 rfl) ?_
              refine lv_lload hx hb dX10_walk_42 (lv_at hl 4 rfl) ?_
              refine pM_0_26 C0 hA hw hiX10_walk_X10 lkX10_walk_166 dX10_walk_44 (fun zx7 ezx7 H locs hw => ?_)
              have hm := nm_at hm ezx7
              refine lv_iconst (v := 0) hx hb dX10_walk_47 (by decide) ?_
              refine lv_topi (fun v8 ev8 => ?_)
              have hm := nm_at hm ev8
              refine lv_istore (lv' := [(6, .int v8), (0, .ref (ad 0)), (1, .int a1), (2, .int a2), (3, .int a3), (4, .long a4)]) hx hb dX10_walk_48 hl (by decide) rfl (fun ls hl => ?_)
              exact kX10_walk_b50 F C0 hA F zx7 a1 a2 a3 v8 _ _ _ hm hw (lv_sub hl [1, 2, 3, 4, 0] rfl)
            · have hm := Eq.trans (if_neg c6).symm hm
              refine lv_bipush (v := (-3)) hx hb dX10_walk_38 (by decide) ?_
              obtain ⟨rfl, rfl⟩ := sj2 hm
              exact r_iret C0 hw dX10_walk_40 ⟨rfl, rfl⟩
        · have hm := Eq.trans (if_neg c4).symm hm
          refine lv_bipush (v := (-2)) hx hb dX10_walk_21 (by decide) ?_
          obtain ⟨rfl, rfl⟩ := sj2 hm
          exact r_iret C0 hw dX10_walk_23 ⟨rfl, rfl⟩
theorem tX10_walk (l : Launch) (E : EV) (ad : Nat → Nat) (F : Nat) (zx : OS) (a1 : Int32) (a2 : Int32) (a3 : Int32) (a4 : Int64) {r : Int32} {zx' : OS} (hm : mX10_walk F zx a1 a2 a3 a4 = some (r, zx')) : CT l yX10_walk wsX10_walk ({ frames := 2, cells := 0, slots := 0, locals := 47 } : Room) E [.ref (ad 0), .int a1, .int a2, .int a3, .long a4] (wM E ad zx) (Qd (some (.int r)) (wM E ad zx')) 0 0 :=
  CT.of (mL := 11) (lvs := [(0, .ref (ad 0)), (1, .int a1), (2, .int a2), (3, .int a3), (4, .long a4)]) (by decide +kernel) rfl (Nat.le_of_ble_eq_true rfl) rfl rfl rfl (fun p e s m below meth c A C0 hA hw ls hl => kX10_walk_b0 (ad := ad) F C0 hA zx a1 a2 a3 a4 _ _ _ hm hw (lv_sub hl [0, 1, 2, 3, 4] rfl))

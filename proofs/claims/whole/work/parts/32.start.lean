theorem nw_of {w : Cond} (h : nw_ok w = true) {A : Array Value} {U : State} (hZ : w.before A U = true) : va_Nw w U := by
  cases w <;> first | exact va_Nw.of rfl hZ | (simp [nw_ok] at h)
theorem R_init : Rel iX9 iX6 iX2 iX2 iX8 iX4 iX0 iX7 iX10 := by
  refine ⟨⟨0, by omega, rfl, rfl, fun j h => absurd h (Nat.not_lt_zero j)⟩, by unfold RW; decide +kernel, ⟨0, by omega, rfl, rfl, fun j h => absurd h (Nat.not_lt_zero j)⟩, ⟨⟨0, by omega, rfl, rfl, fun j h => absurd h (Nat.not_lt_zero j)⟩, ⟨0, by omega, rfl, rfl, fun j h => absurd h (Nat.not_lt_zero j)⟩⟩, ⟨fun j => j, by decide +kernel, fun i j _ _ h => h, fun v h => ⟨v, h, rfl⟩⟩, ?_, rfl, by unfold RD; decide +kernel⟩
  exact ⟨0, 0, 0, fun _ => 0, fun _ => 0, fun _ => 0, fun _ => 0, fun _ => 0, by omega, by omega, by omega, rfl, rfl, rfl, rfl, rfl, rfl, fun q _ => ⟨Nat.zero_le _, rfl, rfl, rfl, fun h => absurd h (Nat.lt_irrefl 0)⟩, fun a h => absurd h (Nat.not_lt_zero a), fun s h => absurd h (Nat.not_lt_zero s), fun h => absurd h (Nat.lt_irrefl 0), fun _ q _ => rfl⟩
/-- an array's class, out of the tables' word -/
theorem arr_of {ty : FieldType} {args : Array Value} {s : State} (h : (Cond.arrayClass ty).before args s = true) (hty : ∀ cA, s.vm.findClass ("[" ++ ty.toString) = some cA → va_RA s cA ty) : ∃ cA, ArrOfT s cA ty ∧ va_RA s cA ty := by
  obtain ⟨cA, kA, comp, h1, h2, h3⟩ := Cond.arrayClass_spec h
  exact ⟨cA, fun n z => ⟨fun k h => (by cases h), kA, h2, comp, h3⟩, hty cA h1⟩
theorem len_small {t : Term} {args : Array Value} {s : State} {a : Addr} {cell : Cell} {v : Value} (ht : t.eval args s none [] s = some (.ref a)) (hc : s.arrayAt? a = some cell) (hv : (Term.length t).eval args s none [] s = some v) : cell.slots.size < 2 ^ 31 := by
  simp only [Term.eval, ht, hc, Option.bind_eq_bind, Option.bind_some] at hv
  by_cases hlt : cell.slots.size < 2147483648
  · exact hlt
  · simp [hlt] at hv
theorem st_of {C n : String} {args : Array Value} {s : State} {f : Nat → Int32} (hl : (Cond.laysStatic C n "[I").before args s = true) (hini : (Cond.initialized C).before args s = true) (harr : (Cond.arrayOf (.static C n "[I") .int).before args s = true) (hlen : (Cond.eq (.length (.static C n "[I")) (.int 7)).before args s = true) (hel : ∀ j, j < 7 → (Cond.eq (.elem (.static C n "[I") (.int (Int32.ofNat j))) (.int (f j))).before args s = true) : ∃ t, ST1 s.heap.size C n t f s s.heap ∧ va_X t 7 f s s.heap ∧ t < s.heap.size := by
  have hA : ∀ a : Nat, a < s.heap.size → ¬ s.heap.size ≤ a := fun a h => Nat.not_le.mpr h
  have hlen2 := va_eqt hlen
  obtain ⟨t, ht, hT⟩ := va_Tof (N := 7) (f := fun j => .int (f j)) (A := fun q => s.heap.size ≤ q) (by decide) harr hlen2 (fun j hj => va_eqt (hel j hj)) hA
  refine ⟨t, ⟨va_Zof hl hini ht hA, hT⟩, ?_⟩
  obtain ⟨cell, g1, g2, g3, g4, g5, g6, g7⟩ := hT
  obtain ⟨a, cell2, h1, h2, h3⟩ := Term.length_spec hlen2
  cases ht.symm.trans h1
  obtain ⟨k1, -, -, -⟩ := State.arrayAt?_spec h2
  cases g1.symm.trans k1
  have hsz : cell.slots.size < 2 ^ 31 := len_small h1 h2 hlen2
  have hs7 : cell.slots.size = 7 := (nI_eq (a := cell.slots.size) (b := 7) hsz (by omega)).mp g5
  exact ⟨⟨cell, g1, g2, g3, hs7, g6⟩, (Array.getElem?_eq_some_iff.mp g1).1⟩
set_option maxRecDepth 100000 in
set_option maxHeartbeats 8000000 in
theorem whole_start {p : Program} {e : Env} {s : State} {m : MethodId} {below : List Frame} {meth : Method} {c : Code} (l : Launch) {b L : Nat} {xs : Nat → Int32} (hL : L ≤ 3072) (C0 : lw_At p s m meth c b L xs) : W p l e room_1 s m #[Value.ref b] below meth c s.heap [] 0 0 (lw_Z below #[Value.ref b] s) (entryFrame m ([Value.ref b] : List Value).toArray 4) := by
  obtain ⟨hx, hb, hr, hml, hown, hts, hX, hbl, hlocks, hgv⟩ := C0
  obtain ⟨cX0, iX0_, kX0⟩ := u_known (C := RX0) (T := TX0) (N := 5) (n := 5) hts us_X0 (hts _ wx_inst_X0)
  obtain ⟨cX1, iX1_, kX1⟩ := u_known (C := RX1) (T := TX1) (N := 1) (n := 1) hts us_X1 (hts _ wx_inst_X1)
  obtain ⟨cX2, iX2_, kX2⟩ := u_known (C := RX2) (T := TX2) (N := 16) (n := 16) hts us_X2 (hts _ wx_inst_X2)
  obtain ⟨cX3, iX3_, kX3⟩ := u_known (C := RX3) (T := TX3) (N := 12) (n := 12) hts us_X3 (hts _ wx_inst_X3)
  obtain ⟨cX4, iX4_, kX4⟩ := u_known (C := RX4) (T := TX4) (N := 8) (n := 8) hts us_X4 (hts _ wx_inst_X4)
  obtain ⟨cX5, iX5_, kX5⟩ := u_known (C := RX5) (T := TX5) (N := 4) (n := 4) hts us_X5 (hts _ wx_inst_X5)
  obtain ⟨cX6, iX6_, kX6⟩ := u_known (C := RX6) (T := TX6) (N := 2) (n := 2) hts us_X6 (hts _ wx_inst_X6)
  obtain ⟨cX7, iX7_, kX7⟩ := u_known (C := RX7) (T := TX7) (N := 1) (n := 1) hts us_X7 (hts _ wx_inst_X7)
  obtain ⟨cX8, iX8_, kX8⟩ := u_known (C := RX8) (T := TX8) (N := 7) (n := 7) hts us_X8 (hts _ wx_inst_X8)
  obtain ⟨cX9, iX9_, kX9⟩ := u_known (C := RX9) (T := TX9) (N := 9) (n := 9) hts us_X9 (hts _ wx_inst_X9)
  obtain ⟨cX10, iX10_, kX10⟩ := u_known (C := RX10) (T := TX10) (N := 53) (n := 53) hts us_X10 (hts _ wx_inst_X10)
  obtain ⟨dC, dI, hKc⟩ : ∃ (dC : Nat → ClassId) (dI : Nat → Nat → Nat), ∀ (k : Nat) (q : vw_C), vwCl[k]? = some q → u_Kn s q.1 q.2.1 q.2.2 (dC k) (dI k) := by
    refine ⟨fun k => ([cX0, cX1, cX2, cX3, cX4, cX5, cX6, cX7, cX8, cX9, cX10] : List ClassId).getD k cX0, fun k => ([iX0_, iX1_, iX2_, iX3_, iX4_, iX5_, iX6_, iX7_, iX8_, iX9_, iX10_] : List (Nat → Nat)).getD k iX0_, ?_⟩
    intro k q hq
    match k, hq with
    | 0, hq => cases hq; exact kX0
    | 1, hq => cases hq; exact kX1
    | 2, hq => cases hq; exact kX2
    | 3, hq => cases hq; exact kX3
    | 4, hq => cases hq; exact kX4
    | 5, hq => cases hq; exact kX5
    | 6, hq => cases hq; exact kX6
    | 7, hq => cases hq; exact kX7
    | 8, hq => cases hq; exact kX8
    | 9, hq => cases hq; exact kX9
    | 10, hq => cases hq; exact kX10
    | k + 11, hq => simp [vwCl] at hq
  obtain ⟨cC, hC1, hC2⟩ := arr_of (hts _ wx_arr_char) (fun cA h => h)
  obtain ⟨cI, hI1, hI2⟩ := arr_of (hts _ wx_arr_int) (fun cA h => h)
  obtain ⟨cJ, hJ1, hJ2⟩ := arr_of (hts _ wx_arr_long) (fun cA h => h)
  have hs := flat_of_before _ hgv
  obtain ⟨t0, hZ0, hV0, hB0⟩ := st_of (C := "GrammarTunes") (n := "WANTED_AT_FIRST") (f := stW) (hts _ wx_ls0) (hts _ wx_ini_X9) (hs _ (by decide +kernel)) (hs _ (by decide +kernel)) (fun j hj => by rcases (show j = 0 ∨ j = 1 ∨ j = 2 ∨ j = 3 ∨ j = 4 ∨ j = 5 ∨ j = 6 by omega) with rfl | rfl | rfl | rfl | rfl | rfl | rfl <;> exact hs _ (by decide +kernel))
  obtain ⟨t1, hZ1, hV1, hB1⟩ := st_of (C := "GrammarTunes") (n := "WANTED_LEAST") (f := stLo) (hts _ wx_ls1) (hts _ wx_ini_X9) (hs _ (by decide +kernel)) (hs _ (by decide +kernel)) (fun j hj => by rcases (show j = 0 ∨ j = 1 ∨ j = 2 ∨ j = 3 ∨ j = 4 ∨ j = 5 ∨ j = 6 by omega) with rfl | rfl | rfl | rfl | rfl | rfl | rfl <;> exact hs _ (by decide +kernel))
  obtain ⟨t2, hZ2, hV2, hB2⟩ := st_of (C := "GrammarTunes") (n := "WANTED_GREATEST") (f := stHi) (hts _ wx_ls2) (hts _ wx_ini_X9) (hs _ (by decide +kernel)) (hs _ (by decide +kernel)) (fun j hj => by rcases (show j = 0 ∨ j = 1 ∨ j = 2 ∨ j = 3 ∨ j = 4 ∨ j = 5 ∨ j = 6 by omega) with rfl | rfl | rfl | rfl | rfl | rfl | rfl <;> exact hs _ (by decide +kernel))
  obtain ⟨t3, hZ3, hV3, hB3⟩ := st_of (C := "GrammarTunes$Tune") (n := "PITCH_OF_DEGREE") (f := stPi) (hts _ wx_ls3) (hts _ wx_ini_X8) (hs _ (by decide +kernel)) (hs _ (by decide +kernel)) (fun j hj => by rcases (show j = 0 ∨ j = 1 ∨ j = 2 ∨ j = 3 ∨ j = 4 ∨ j = 5 ∨ j = 6 by omega) with rfl | rfl | rfl | rfl | rfl | rfl | rfl <;> exact hs _ (by decide +kernel))
  obtain ⟨E, hE⟩ : ∃ E : EV, E = ((dC, dI), (cC, cI, cJ), s.heap.size, fun k => ([t0, t1, t2, t3] : List Nat).getD k 0) := ⟨_, rfl⟩
  have hK : Kx E s s.heap := by
    subst hE
    refine ⟨⟨hKc, fun k q hq => ?_⟩, fun w hw => nw_of (List.all_eq_true.mp nestWords_ok w hw) (hts w (in_nest w hw)), hZ0, hZ1, hZ2, hZ3, hV0, hB0⟩
    match k, hq with
    | 0, hq => cases hq; exact ⟨hC1, hC2⟩
    | 1, hq => cases hq; exact ⟨hI1, hI2⟩
    | 2, hq => cases hq; exact ⟨hJ1, hJ2⟩
    | k + 3, hq => simp [tysX] at hq
  have hE0 : E.2.2.1 = s.heap.size := by rw [hE]
  have C1 : Cx RL meth.name code ret 4 lw_tbl p s m #[Value.ref b] meth c := ⟨hx, hb, hr, hml, hown, hts, hlocks, rfl⟩
  have hA : Ax E (LA s) s := ⟨fun q h => h, fun q h => by rw [hE0]; exact h, hK, by rw [hE0]; exact Nat.le_refl _⟩
  have K0 : LC p s m meth c b L xs E := ⟨C1, hA, hX, hbl, hL⟩
  have hw : Wd E (LA s) s s.heap [] [] := ⟨fun k q h => by simp at h, ⟨fun i j p q h => by simp at h, fun k q h => by simp at h⟩, va_S.rf⟩
  have hl := lv_entry ([.ref b]) (n := 4) (Nat.le_of_ble_eq_true rfl)
  rw [lg_entry_eq]
  generalize (lg_sl ([.ref b]) ++ List.replicate (4 - (lg_sl ([.ref b])).length) Slot.unset).toArray = ls at hl ⊢
  have hl : lv_has ls 4 [(0, .ref b)] := hl
  -- the class
  refine r_new C1 hA hw (ci := 9) (fs := [.null, .null, .null, .null, .null, .null, .int 0, .null, .null]) us_X9 tyX9 tyX9_ok (C := RX9) (index := 7) wx_cl_X9 wx_inst_X9 wx_ini_X9 rfl (by decide) (Nat.le_of_ble_eq_true rfl) (Nat.le_of_ble_eq_true rfl) dL_law_0 (fun q1 H hw => ?_)
  refine W.cs (cells' := 1) (slots' := 9) rfl rfl ?_
  refine lv_dup hx hb dL_law_3 rfl ?_
  refine r_back (va_runI (As := []) (rest := [.ref q1]) ⟨hx, hb, hml, hown, hts⟩ (tX9_init l E q1 _) (cwI 0 hts gL_X9_init rfl rfl rfl (hts _ wx_ini_X9) (hts _ wx_ml_X9) (hts _ wx_im_X9) rfl (by decide +kernel) ⟨Nat.le_of_ble_eq_true rfl, Nat.le_of_ble_eq_true rfl⟩) ⟨PG_blind, pg_at hA hw [0] rfl rfl⟩ rfl rfl hl.1 rfl (lv_room (Nat.le_of_ble_eq_true rfl)) dL_law_4 ⟨Nat.le_of_ble_eq_true rfl, Nat.le_of_ble_eq_true rfl⟩) hA hw [0] [] (wr := []) rfl rfl rfl (by decide) (fun v w1 H locs hq hw => ?_)
  obtain ⟨rfl, ad, rfl, rfl⟩ := hq
  refine W.cs (cells' := 50) (slots' := 30046) rfl rfl ?_
  refine lv_astore_n (lv' := [(1, .ref (ad 0)), (0, .ref b)]) hx hb dL_law_7 rfl hl (by decide) rfl (fun ls hl => ?_)
  have hw : Wd E (LA s) s H locs (wX E ad iX9 iX6 iX2 iX2 iX8 iX4 iX0 iX7) := hw
  refine r_new C1 hA hw (ci := 10) (fs := [.null, .null, .int 0, .null, .null, .null, .null, .null, .null, .null, .null, .null, .null, .null, .null, .null, .null, .int 0, .int 0, .null, .null, .null, .null, .null, .int 0, .int 0, .long 0, .null, .null, .int 0, .int 0, .int 0, .int 0, .int 0, .int 0, .int 0, .int 0, .null, .null, .null, .null, .null, .null, .null, .null, .null, .null, .int 0, .null, .int 0, .null, .int 0, .null]) us_X10 tyX10 tyX10_ok (C := RX10) (index := 10) wx_cl_X10 wx_inst_X10 wx_ini_X10 rfl (by decide) (Nat.le_of_ble_eq_true rfl) (Nat.le_of_ble_eq_true rfl) dL_law_8 (fun q2 H hw => ?_)
  refine W.cs (cells' := 51) (slots' := 30099) rfl rfl ?_
  refine lv_dup hx hb dL_law_11 rfl ?_
  refine r_back (va_runI (As := []) (rest := [.ref q2]) ⟨hx, hb, hml, hown, hts⟩ (tX10_init l E q2 _) (cwI 0 hts gL_X10_init rfl rfl rfl (hts _ wx_ini_X10) (hts _ wx_ml_X10) (hts _ wx_im_X10) rfl (by decide +kernel) ⟨Nat.le_of_ble_eq_true rfl, Nat.le_of_ble_eq_true rfl⟩) ⟨PG_blind, pg_at hA hw [50] rfl rfl⟩ rfl rfl hl.1 rfl (lv_room (Nat.le_of_ble_eq_true rfl)) dL_law_12 ⟨Nat.le_of_ble_eq_true rfl, Nat.le_of_ble_eq_true rfl⟩) hA hw [50] [0, 1, 2, 3, 4, 5, 6, 7, 8, 9, 10, 11, 12, 13, 14, 15, 16, 17, 18, 19, 20, 21, 22, 23, 24, 25, 26, 27, 28, 29, 30, 31, 32, 33, 34, 35, 36, 37, 38, 39, 40, 41, 42, 43, 44, 45, 46, 47, 48, 49] (wr := wX E ad iX9 iX6 iX2 iX2 iX8 iX4 iX0 iX7) rfl rfl rfl (by decide) (fun v w1 H locs hq hw => ?_)
  obtain ⟨rfl, am, rfl, rfl⟩ := hq
  refine W.cs (cells' := 87) (slots' := 145705) rfl rfl ?_
  refine lv_astore_n (lv' := [(2, .ref (am 0)), (1, .ref (ad 0)), (0, .ref b)]) hx hb dL_law_15 rfl hl (by decide) rfl (fun ls hl => ?_)
  refine lv_iconst (v := 0) hx hb dL_law_16 (by decide) ?_
  refine lv_istore_n (lv' := [(3, .int (nI 0)), (2, .ref (am 0)), (1, .ref (ad 0)), (0, .ref b)]) hx hb dL_law_17 rfl hl (by decide) rfl (fun ls hl => ?_)
  refine W.widen (k := 90 + 2 * 0) (n := 150000 + 13 * 0) (Nat.le_of_ble_eq_true rfl) (Nat.le_of_ble_eq_true rfl) ?_
  exact law_loop K0 (L + 2) 0 0 ad iX9 iX6 iX2 iX2 iX8 iX4 iX0 iX7 iX10 _ _ _ rfl (by omega) (by omega) R_init hw (lv_sub hl [3, 2, 1, 0] rfl)

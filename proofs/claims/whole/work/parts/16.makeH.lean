theorem R_make {zt zs zg zh zu zl zc zw zx : OS} (h : Rel zt zs zg zh zu zl zc zw zx) (p0 : Int32) (p1 : Int64) : ∃ (F1 F2 : Nat) (r : Int32) (zt' : OS) (zu' : OS) (zl' : OS) (zx' : OS), mX9_make F1 zt zg zu zl p0 p1 = some (r, zt', zu', zl') ∧ mX10_make F2 zx p0 p1 = some (r, zx') ∧ Rel zt' zs zg zh zu' zl' zc zw zx' := by
  obtain ⟨m', hm'⟩ : ∃ m' : Nat, m' = 1300000 + dN := ⟨_, rfl⟩
  obtain ⟨F, hF⟩ : ∃ F : Nat, F = m' + 1 := ⟨_, rfl⟩
  refine ⟨F, F, ?_⟩
  unfold mX9_make mX10_make mX10_make_b0
  rw [iw]
  by_cases hp : ¬ (1 ≤ p0 ∧ p0 ≤ 16)
  · refine ⟨-2, zt, zu, zl, zx, ?_, ?_, h⟩
    · rw [if_neg hp, b1s, if_pos rfl]
    · by_cases c : p0 < 1
      · rw [if_pos c]
      · rw [if_neg c, if_neg (fun e => hp ⟨Int32.not_lt.mp c, e⟩)]
  have hp := Decidable.not_not.mp hp
  obtain ⟨bars, hbars, rfl⟩ := le_nI (n := 16) (x := p0) (by omega) (Int32.le_trans (show (0 : Int32) ≤ 1 by decide) hp.1) hp.2
  rw [if_pos hp, b1s, if_neg z01, if_neg (Int32.not_lt.mpr hp.1), if_pos hp.2, gds (show vp_in 0 2 from vp_in_nI (n := 0) (by omega) (by omega)), show (0 : Int32).toNatClampNeg = 0 from by decide]
  have hh := h
  obtain ⟨hT, hW, hU, hC, hR, hRG, hL, hD⟩ := hh
  obtain ⟨R, A, S, fa, al, wt, fs, sc, hR16, hA, hS, g1, g2, g3, g4, g5, g6, g7, g8, g9, g10, g11⟩ := hRG
  rw [g1, g2]
  by_cases hR0 : R = 0
  · subst hR0
    exact ⟨-3, zt, zu, zl, zx, by rw [if_pos (show nI 0 = 0 from rfl)], by rw [if_pos (show nI 0 = 0 from rfl)], h⟩
  rw [if_neg (nI_ne0 (by omega) (by omega)), if_neg (nI_ne0 (by omega) (by omega))]
  obtain ⟨q, hq, hal, e14, e16⟩ := g10 (by omega)
  -- the reference's state before its first cell
  obtain ⟨z0, hz0⟩ : ∃ z0, z0 = sA (sA (sI (sI (sI (sI (sI (sI (sI (sI (sI (sI (sI (sL zx 26 p1) 25 0) 24 0) 29 0) 30 (-1)) 31 0) 32 0) 33 0) 34 (-1)) 35 (-1)) 36 0) 47 0) 8 240 0) 9 240 (nI q) := ⟨_, rfl⟩
  have a0 : ∀ k, k ≠ 8 → k ≠ 9 → z0.2.2.1 k = zx.2.2.1 k := by
    intro k h8 h9
    rw [hz0]
    show va_up (va_up zx.2.2.1 8 _) 9 _ k = _
    rw [va_up_ne _ _ h9, va_up_ne _ _ h8]
  have a8 : z0.2.2.1 8 = upd (zx.2.2.1 8) 240 0 := by rw [hz0]; rfl
  have a9 : z0.2.2.1 9 = upd (zx.2.2.1 9) 240 (nI q) := by rw [hz0]; rfl
  obtain ⟨g, hg⟩ : ∃ g : GT, g = (fa, al, wt, fs, sc, S) := ⟨_, rfl⟩
  have hG : GF g zg z0 := by
    rw [hg]
    refine ⟨hS, fun q hq h0 => ?_, fun s hs => ?_⟩
    · obtain ⟨b1, b2, b3, b4, b5⟩ := g7 q hq
      obtain ⟨b6, b7, b8⟩ := b5 h0
      refine ⟨hq, h0, ?_, b2, ?_, b4, b6, ?_, fun i hi => ?_⟩
      · exact Nat.le_trans b8 hA
      · rw [a0 4 (by decide) (by decide)]; exact b3
      · rw [a0 3 (by decide) (by decide)]; exact b7
      · have hlt : fa q + i < A := Nat.lt_of_lt_of_le (Nat.add_lt_add_left hi _) b8
        have := g8 (fa q + i) hlt
        unfold AF
        rw [a0 5 (by decide) (by decide), a0 6 (by decide) (by decide), a0 7 (by decide) (by decide)]
        exact this
    · have := g9 s hs
      have hs2 : s < S := hs
      unfold RS at this ⊢
      rw [a8, a9, a0 10 (by decide) (by decide), a0 11 (by decide) (by decide), pk_un (show s ≠ 240 by omega), pk_un (show s ≠ 240 by omega)]
      exact this
  have hw : ∀ j, j < 7 → zt.2.2.1 3 j = z0.2.2.1 19 j ∧ stLo j ≤ z0.2.2.1 19 j ∧ z0.2.2.1 19 j ≤ stHi j := by
    intro j hj
    rw [a0 19 (by decide) (by decide)]
    exact hW j hj
  have hRD : RD z0 := by
    intro j hj
    rw [a0 0 (by decide) (by decide)]
    exact hD j hj
  obtain ⟨M, hM2, hM⟩ : ∃ M, M ≤ 3000 ∧ zt.2.2.1 3 6 = nI M := by
    have := hw 6 (by omega)
    rw [← this.1] at this
    exact le_nI (by omega) (Int32.le_trans (show (0 : Int32) ≤ stLo 6 by decide) this.2.1) this.2.2
  -- the reference's first cell and first LETTER
  obtain ⟨z1, p1', p2, p3, p4, p5, p6, p7⟩ := put_M z0 (c := 0) (by rw [hz0]; rfl) (by omega) 240
  obtain ⟨z2, hz2⟩ : ∃ y, y = sI (sI z1 30 (-1)) 31 0 := ⟨_, rfl⟩
  have hF2 : Fr [29, 30, 31] [27, 28] z0 z2 := by rw [hz2]; exact Fr_I (Fr_I p7 (by decide) _) (by decide) _
  have hB2 : Bs z0 z2 := Bs_F (Bs_r z0) hF2 (by decide) (by decide)
  have e27 : z2.2.2.1 27 0 = 240 := by rw [hz2]; show z1.2.2.1 27 0 = _; rw [p5, pk_us]
  have h8 : z2.2.2.1 8 240 = 0 := by rw [hF2.2.2.1 8 (by decide), a8, pk_us]
  have h9 : z2.2.2.1 9 240 = nI q := by rw [hF2.2.2.1 9 (by decide), a9, pk_us]
  have eM : mX10_make_b116 F F z1 (nI bars) = b1 (mX10_keep z2 (nI q)) (fun zx15 => mX10_make_b257 F (mX10_make_b116 F m') F zx15 (nI bars) 1 1) := by
    have : mX10_make_b116 F F z1 (nI bars) = mX10_make_b116 F (m' + 1) z1 (nI bars) := by rw [← hF]
    rw [this, mX10_make_b116]
    simp only [nms]
    have v0 : vp_in (nI 0) 40000 := vp_in_nI (by omega) (by omega)
    have v240 : vp_in 240 482 := vp_in_nI (n := 240) (by omega) (by omega)
    rw [p3, if_pos (nI_pos' (by omega)), gds v0, gds v0, nI_clamp (by omega), p5, pk_us, p6, pk_us, gds v240, gds v240, show (240 : Int32).toNatClampNeg = 240 from by decide]
    rw [show z0.1 30 = -1 from by rw [hz0]; rfl, show (sI z1 30 (-1)).1 31 = 1 from by show z1.1 31 = 1; rw [p4, hz0]; rfl, show (1 : Int32) - 1 = 0 from by decide, ← hz2, h8, if_pos rfl, h9]
  -- both at the first place
  obtain ⟨zu1, hzu1⟩ : ∃ y, y = sI zu 6 0 := ⟨_, rfl⟩
  obtain ⟨zd1, hzd1⟩ : ∃ y, y = sL zOS 0 p1 := ⟨_, rfl⟩
  obtain ⟨zk1, hzk1⟩ : ∃ y, y = iX3 (nI bars * 16) zt := ⟨_, rfl⟩
  have hTP : ∀ m, m ≤ 0 → TP zu1 m := by
    intro m hm
    have : m = 0 := by omega
    subst this
    exact ⟨0, 0, Nat.le_refl 0, by omega, rfl, Nat.le_refl 0, rfl, Or.inl rfl⟩
  have hTn : Tn zu1 z2 0 := ⟨by omega, fun j hj => absurd hj (Nat.not_lt_zero j), hTP⟩
  have u6 : zu1.1 6 = nI 0 := by rw [hzu1]; rfl
  have hCm : Cm g z0 (zt.2.2.1 3) bars zk1 zd1 zu1 zl z2 0 0 0 (fun _ => 0) (fun _ => 0) (fun _ => []) := by
    refine ⟨by rw [hzk1]; rfl, ?_, by rw [hzk1]; rfl, ?_, ?_, ?_, by rw [hzk1]; rfl, ?_, hB2, u6, hTn, fun d hd => absurd hd (Nat.not_lt_zero d), fun d d' _ hd => absurd hd (Nat.not_lt_zero d')⟩
    · rw [hF2.1 47 (by decide), hz0]; rfl
    · rw [hF2.1 25 (by decide), hz0]; rfl
    · rw [hF2.2.1, hz0, hzd1]; rfl
    · rw [hzk1, ← (m16 bars (by omega)).2]; rfl
    · rw [hF2.1 24 (by decide), hz0]; rfl
  have hRn : Rn g zk1 zu1 z2 0 0 1 (fun _ => 0) (fun _ => 0) (fun _ => []) [] := by
    refine ⟨by rw [hzk1]; rfl, by rw [hz2]; rfl, fun s hs => absurd hs (by simp), Or.inl ⟨by rw [hzk1]; rfl, by rw [hzk1]; exact Int32.le_refl 0, rfl⟩, by rw [hz2]; rfl, by rw [hz2]; exact p2, by omega, ⟨?_, u6, ?_, ?_, ?_, ?_⟩, fun d hd => absurd hd (Nat.not_lt_zero d)⟩
    · rw [hF2.1 33 (by decide), hz0]; rfl
    · rw [hF2.1 32 (by decide), hz0]; rfl
    · rw [hF2.1 34 (by decide), hz0]; rfl
    · rw [hF2.1 35 (by decide), hz0]; rfl
    · rw [hF2.1 36 (by decide), hz0]; rfl
  have hLF : LF g zg z2 q := (GF_B hG hB2).2.1 q hq (by rw [hg]; exact hal)
  obtain ⟨zk3, zl3, z3, ns3, cs3, Ls3, o1, o2, o3⟩ := opn_b hCm hRn (by simp) hLF (by omega)
  obtain ⟨r, zk4, zd4, zu4, zl4, z4, w1, w2, w3⟩ := rnd_b hG hw hRD (by omega) hM hM2 hF (by omega) (by omega) (2 * M + 1) zk3 zd1 zu1 zl3 z3 1 0 0 0 m' m' F ns3 cs3 Ls3 o3 (by omega) (by omega) (by omega) (by omega) (by omega) (by omega) (by omega)
  obtain ⟨x1, x2, x3, n, hn, x4, x5⟩ := w3
  -- what the class does around it
  have eU : mX8_shorten zu 0 = some zu1 := by
    obtain ⟨n, hn, e, -⟩ := hU
    unfold mX8_shorten mX8_shorten_b0
    rw [iw, e, if_pos ⟨Int32.le_refl 0, nI_pos' (by omega)⟩, b1s, if_neg z01, nms, hzu1]
  have eX : mX3_unfold F zk1 zd1 zg zu zl = some (r, zk4, zd4, zu4, zl4) := by
    unfold mX3_unfold mX3_unfold_b0
    rw [eU, b1s, e14, o1, b2s, nms]
    exact w1
  have eI : mX1_init zOS p1 = some zd1 := by rw [hzd1]; rfl
  have eM2 : mX10_make_b116 F F z1 (nI bars) = some (r, z4) := by
    rw [eM, o2, b1s, b257_b F _ hF z3 (nI bars) 1 1 (Or.inl z01)]
    exact w2
  have eR : (nm (sL zx 26 p1) (fun zx5 => nm (sI zx5 25 0) (fun zx6 => nm (sI zx6 24 0) (fun zx7 => nm (sI zx7 29 0) (fun zx8 => nm (sI zx8 30 (-1)) (fun zx9 => nm (sI zx9 31 0) (fun zx10 => nm (sI zx10 32 0) (fun zx11 => nm (sI zx11 33 0) (fun zx12 => nm (sI zx12 34 (-1)) (fun zx13 => nm (sI zx13 35 (-1)) (fun zx14 => nm (sI zx14 36 0) (fun zx15 => nm (sI zx15 47 0) (fun zx16 => gd 240 482 (nm (sA zx16 8 240 0) (fun zx18 => gd 0 2 (gd 240 482 (nm (sA zx18 9 240 (zx18.2.2.1 16 0)) (fun zx21 => b1 (mX10_put zx21 240) (fun zx22 => mX10_make_b116 F F zx22 (nI bars)))))))))))))))))))) = some (r, z4) := by
    simp only [nms]
    rw [gds (show vp_in 240 482 from vp_in_nI (n := 240) (by omega) (by omega)), gds (show vp_in 0 2 from vp_in_nI (n := 0) (by omega) (by omega)), gds (show vp_in 240 482 from vp_in_nI (n := 240) (by omega) (by omega))]
    rw [show ∀ y : OS, (sA y 8 240 0).2.2.1 16 0 = y.2.2.1 16 0 from fun _ => rfl, show (sI (sI (sI (sI (sI (sI (sI (sI (sI (sI (sI (sL zx 26 p1) 25 0) 24 0) 29 0) 30 (-1)) 31 0) 32 0) 33 0) 34 (-1)) 35 (-1)) 36 0) 47 0).2.2.1 16 0 = nI q from e16, ← hz0, p1', b1s]
    exact eM2
  -- what it leaves
  have b1' : ∀ k, k ∉ bsI → z4.1 k = z0.1 k := x2.1
  have b2' : ∀ k, k ∉ bsR → k ≠ 8 → k ≠ 9 → z4.2.2.1 k = zx.2.2.1 k := fun k hk h8 h9 => (x2.2 k hk).trans (a0 k h8 h9)
  have hRel : ∀ zu5 : OS, RU zu5 z4 → Rel (sI (sR zt 3 (zk4.2.2.1 1)) 6 (zk4.1 6)) zs zg zh zu5 zl4 zc zw z4 := by
    intro zu5 hU5
    refine ⟨?_, ?_, hU5, ?_, ?_, ?_, x3, ?_⟩
    · unfold RT at hT ⊢
      rw [b1' 2 (by decide), b2' 1 (by decide) (by decide) (by decide), show z0.1 2 = zx.1 2 from by rw [hz0]; rfl]
      exact hT
    · intro j hj
      show zk4.2.2.1 1 j = _ ∧ _
      rw [x1, b2' 19 (by decide) (by decide) (by decide)]
      exact hW j hj
    · unfold RC at hC ⊢
      rw [b1' 49 (by decide), b1' 51 (by decide), b2' 48 (by decide) (by decide) (by decide), b2' 50 (by decide) (by decide) (by decide), show z0.1 49 = zx.1 49 from by rw [hz0]; rfl, show z0.1 51 = zx.1 51 from by rw [hz0]; rfl]
      exact hC
    · unfold RR at hR ⊢
      rw [b2' 52 (by decide) (by decide) (by decide)]
      exact hR
    · refine ⟨R, A, S, fa, al, wt, fs, sc, hR16, hA, hS, g1, ?_, g3, ?_, g5, ?_, ?_, ?_, ?_, ?_, g11⟩
      · rw [b2' 13 (by decide) (by decide) (by decide)]; exact g2
      · rw [b2' 14 (by decide) (by decide) (by decide)]; exact g4
      · rw [b2' 15 (by decide) (by decide) (by decide)]; exact g6
      · intro q hq
        rw [b2' 4 (by decide) (by decide) (by decide), b2' 3 (by decide) (by decide) (by decide)]
        exact g7 q hq
      · intro a ha
        rw [b2' 5 (by decide) (by decide) (by decide), b2' 6 (by decide) (by decide) (by decide), b2' 7 (by decide) (by decide) (by decide)]
        exact g8 a ha
      · intro s hs
        have := g9 s hs
        unfold RS at this ⊢
        rw [x2.2 8 (by decide), x2.2 9 (by decide), a8, a9, b2' 10 (by decide) (by decide) (by decide), b2' 11 (by decide) (by decide) (by decide), pk_un (show s ≠ 240 by omega), pk_un (show s ≠ 240 by omega)]
        exact this
      · intro h0
        rw [b2' 16 (by decide) (by decide) (by decide)]
        exact g10 h0
    · intro j hj
      rw [b2' 0 (by decide) (by decide) (by decide)]
      exact hD j hj
  have hmk : b1 (mX1_init zOS p1) (fun zd7 => b5 (mX3_unfold F (iX3 (nI bars * 16) zt) zd7 zg zu zl) (fun r9 zk10 zd11 zu12 zl13 => nm (sI (sR zt 3 (zk10.2.2.1 1)) 6 (zk10.1 6)) (fun zt15 => (if 0 ≤ (r9 : Int32) then some (r9, zt15, zu12, zl13) else b1 (mX8_shorten zu12 0) (fun zu17 => some (r9, zt15, zu17, zl13)))))) = (if 0 ≤ r then some (r, sI (sR zt 3 (zk4.2.2.1 1)) 6 (zk4.1 6), zu4, zl4) else b1 (mX8_shorten zu4 0) (fun zu17 => some (r, sI (sR zt 3 (zk4.2.2.1 1)) 6 (zk4.1 6), zu17, zl4))) := by
    rw [eI, b1s, ← hzk1, eX, b5_s, nms]
  rw [hmk]
  rcases x5 with ⟨hr, x6⟩ | ⟨hr, x6, x7⟩
  · have hn0 : ¬ 0 ≤ r := by
      rcases hr with rfl | rfl
      · decide
      · decide
    have eS : mX8_shorten zu4 0 = some (sI zu4 6 0) := by
      unfold mX8_shorten mX8_shorten_b0
      rw [iw, x4, if_pos ⟨Int32.le_refl 0, nI_pos' (by omega)⟩, b1s, if_neg z01]
      rfl
    rw [if_neg hn0, eS, b1s]
    exact ⟨r, _, _, _, z4, rfl, eR, hRel _ ⟨0, by omega, rfl, x6, fun j hj => absurd hj (Nat.not_lt_zero j)⟩⟩
  · rw [if_pos (by rw [hr]; exact nI_pos' (by omega))]
    exact ⟨r, _, _, _, z4, rfl, eR, hRel _ ⟨n, hn, x4, x6, x7.2.1⟩⟩

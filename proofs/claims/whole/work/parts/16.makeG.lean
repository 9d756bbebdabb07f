/-! make, seventh: all rounds, and the call -/
theorem b4_s {α β δ ε γ : Type} (a : α) (b : β) (c : δ) (d : ε) (k : α → β → δ → ε → Option γ) : b4 (some (a, b, c, d)) k = k a b c d := rfl
theorem b5_s {α β δ ε ζ γ : Type} (a : α) (b : β) (c : δ) (d : ε) (e : ζ) (k : α → β → δ → ε → ζ → Option γ) : b5 (some (a, b, c, d, e)) k = k a b c d e := rfl
theorem rnd_b {g : GT} {zg z0 : OS} {wk : Nat → Int32} {bars M : Nat} (hG : GF g zg z0) (hw : ∀ j, j < 7 → wk j = z0.2.2.1 19 j ∧ stLo j ≤ z0.2.2.1 19 j ∧ z0.2.2.1 19 j ≤ stHi j) (hRD : RD z0) (hb : bars < 17) (hM : wk 6 = nI M) (hM2 : M ≤ 3000) {F m' : Nat} (hF : F = m' + 1) (hm' : 6100 < m') (hN : dN < F) : ∀ (P : Nat) (zk zd zu zl z : OS) (D T N i n m f : Nat) (ns cs : Nat → Nat) (Ls : Nat → List Nat), Cm g z0 wk bars zk zd zu zl z D T N ns cs Ls → T ≤ M → D ≤ T + 1 → 2 * (M - T) + D ≤ P → i + P ≤ 6001 → P < f → 202 * (P + 1) ≤ n → P < m → ∃ r zk' zd' zu' zl' z', mX3_unfold_b21 F f zk zd zg zu zl (nI i) = some (r, zk', zd', zu', zl') ∧ mX10_make_b267 F (mX10_make_b257 F (mX10_make_b116 F n) m) z (nI bars) = some (r, z') ∧ Out z0 wk r zk' zu' z' := by
  have v6 : vp_in 6 7 := vp_in_nI (n := 6) (by omega) (by omega)
  have c6c : (6 : Int32).toNatClampNeg = 6 := by decide
  have hg := hG.1
  intro P
  induction P with
  | zero =>
    intro zk zd zu zl z D T N i n m f ns cs Ls hC hT hD hP hi hf hn hm
    obtain ⟨f, rfl⟩ : ∃ g, f = g + 1 := ⟨f - 1, by omega⟩
    have hD0 : D = 0 := by omega
    subst hD0
    obtain ⟨c1, c2, c3, c4, c5, c6, c7, c8, c9, c10, c11, c12, c13⟩ := hC
    refine ⟨-1, zk, zd, zu, zl, z, ?_, ?_, c7, c9, c3.trans c4.symm, N, c11.1, c10, Or.inl ⟨Or.inl rfl, c8⟩⟩
    · rw [mX3_unfold_b21, if_neg (show ¬ (6002 : Int32) ≤ nI i from nI_ge (b := 6002) (by omega) (by omega)), c1, if_pos (by decide)]
      unfold mX3_unfold_b143
      rw [c1, if_pos (by decide)]
    · unfold mX10_make_b267
      rw [c2, if_pos (by decide)]
  | succ P ih =>
    intro zk zd zu zl z D T N i n m f ns cs Ls hC hT hD hP hi hf hn hm
    obtain ⟨f, rfl⟩ : ∃ g, f = g + 1 := ⟨f - 1, by omega⟩
    have hC0 := hC
    obtain ⟨c1, c2, c3, c4, c5, c6, c7, c8, c9, c10, c11, c12, c13⟩ := hC
    by_cases hD0 : D = 0
    · subst hD0
      refine ⟨-1, zk, zd, zu, zl, z, ?_, ?_, c7, c9, c3.trans c4.symm, N, c11.1, c10, Or.inl ⟨Or.inl rfl, c8⟩⟩
      · rw [mX3_unfold_b21, if_neg (show ¬ (6002 : Int32) ≤ nI i from nI_ge (b := 6002) (by omega) (by omega)), c1, if_pos (by decide)]
        unfold mX3_unfold_b143
        rw [c1, if_pos (by decide)]
      · unfold mX10_make_b267
        rw [c2, if_pos (by decide)]
    obtain ⟨d, rfl⟩ : ∃ d, D = d + 1 := ⟨D - 1, by omega⟩
    have hPd := c12 d (by omega)
    obtain ⟨q, p1, p2, p3, p4, p5, p6, p7, p8, p9, p10, p11, p12, p13, p14, p15, p16, p17, p18, p19, p20, p21⟩ := hPd
    obtain ⟨x, hx⟩ : ∃ x, x = z.2.2.2 46 d := ⟨_, rfl⟩
    rw [← hx] at p5 p6
    -- the reference goes back
    obtain ⟨z2, hz2⟩ : ∃ y, y = sI (sI (sI (sI (sI (sI (sI (sI z 30 (z.2.2.1 38 d)) 31 (z.2.2.1 39 d)) 32 (z.2.2.1 40 d)) 33 (z.2.2.1 41 d)) 34 (z.2.2.1 42 d)) 35 (z.2.2.1 43 d)) 36 (z.2.2.1 44 d)) 29 (z.2.2.1 45 d) := ⟨_, rfl⟩
    have hF2 : Fr [29, 30, 31, 32, 33, 34, 35, 36] [] z z2 := by
      rw [hz2]
      exact Fr_I (Fr_I (Fr_I (Fr_I (Fr_I (Fr_I (Fr_I (Fr_I (Fr_r _ _ z) (by decide) _) (by decide) _) (by decide) _) (by decide) _) (by decide) _) (by decide) _) (by decide) _) (by decide) _
    have hB2 : Bs z0 z2 := Bs_F c9 hF2 (by decide) (by decide)
    have hLF := (GF_B hG hB2).2.1 q p1 p2
    have e30 : z2.1 30 = z.2.2.1 38 d := by rw [hz2]; rfl
    have e31 : z2.1 31 = nI (Ls d).length := by rw [hz2]; exact p11
    have e32 : z2.1 32 = cT zu (ns d) := by rw [hz2]; exact p18
    have e33 : z2.1 33 = nI (ns d) := by rw [hz2]; exact p8
    have e34 : z2.1 34 = cP zu (ns d) := by rw [hz2]; exact p19
    have e35 : z2.1 35 = cD zu (ns d) := by rw [hz2]; exact p20
    have e36 : z2.1 36 = cR zu (ns d) := by rw [hz2]; exact p21
    have e29 : z2.1 29 = nI (cs d) := by rw [hz2]; exact p16
    have e47 : z2.1 47 = nI (d + 1) := (hF2.1 47 (by decide)).trans c2
    have eL : mX10_left F z2 = some (nI (lft g q x)) := by
      rw [left_M F (by omega) hLF (by omega) e47 (by rw [hF2.2.2.1 37 (by simp)]; exact p4), hF2.2.2.2, ← hx]
    have hlt := lft_lt hLF x
    have eM : ∀ K : OS → Int32 → Int32 → Int32 → Option (Int32 × OS), mX10_make_b267 F K z (nI bars) = (if nI (lft g q x) = 0 then K (sI z2 47 (nI d)) (nI bars) 0 0 else (if nI T = nI M then some ((-5), z2) else b2 (mX10_choose F z2 (nI (lft g q x))) (fun r9 zx10 => K zx10 (nI bars) r9 0))) := by
      intro K
      unfold mX10_make_b267
      rw [c2, if_neg (nI_ne0 (by omega) (by omega)), back_M (by omega) c2, b1s, ← hz2, eL, b1s]
      simp only [nms]
      rw [e47, nI_pred, gds v6, c6c, hF2.1 25 (by decide), c4, hF2.2.2.1 19 (by simp), c9.2 19 (by decide), ← (hw 6 (by omega)).1, hM]
    have eX : mX3_unfold_b21 F (f + 1) zk zd zg zu zl (nI i) = (if nI (lft g q x) = 0 then mX3_unfold_b21 F f (sI zk 7 (nI d)) zd zg zu zl (nI (i + 1)) else (if nI T < nI M then b4 (mX3_takeAnother F zk zd zg zu zl (nI d)) (fun zk7 zd8 zu9 zl10 => (if (zk7.1 8 : Int32) ≤ 200 then b3 (mX3_goToLetter F zk7 zd8 zg zu9 zl10) (fun r13 zk14 zu15 => mX3_unfold_b111 F (mX3_unfold_b21 F f) zk14 zd8 zg zu15 zl10 (nI i) r13) else mX3_unfold_b111 F (mX3_unfold_b21 F f) zk7 zd8 zg zu9 zl10 (nI i) (-12))) else some ((-5), zk, zd, zu, zl))) := by
      rw [mX3_unfold_b21, if_neg (show ¬ (6002 : Int32) ≤ nI i from nI_ge (b := 6002) (by omega) (by omega)), c1, if_neg (nI_nle (by omega) (by omega)), nI_pred, gds (vp_in_nI (show d < 3001 by omega) (by omega)), nI_clamp (by omega), p6]
      simp only [nms]
      rw [gds v6, c6c, c7, hM, c3, nI_1]
    rw [eX, eM]
    by_cases h0 : lft g q x = 0
    · -- nothing is left there
      rw [h0, if_pos (show nI 0 = 0 from rfl), if_pos (show nI 0 = 0 from rfl)]
      obtain ⟨m, rfl⟩ : ∃ g, m = g + 1 := ⟨m - 1, by omega⟩
      rw [b257_b F _ rfl (sI z2 47 (nI d)) (nI bars) 0 0 (Or.inr rfl)]
      refine ih (sI zk 7 (nI d)) zd zu zl (sI z2 47 (nI d)) d T N (i + 1) n m f ns cs Ls ⟨rfl, rfl, c3, ?_, ?_, c6, c7, ?_, Bs_I hB2 (by decide) _, c10, ?_, ?_, fun a b h1 h2 => c13 a b h1 (by omega)⟩ hT (by omega) (by omega) (by omega) (by omega) (by omega) (by omega)
      · show z2.1 25 = _
        rw [hF2.1 25 (by decide), c4]
      · show _ = z2.2.1 26
        rw [hF2.2.1, c5]
      · show z2.1 24 = 0
        rw [hF2.1 24 (by decide), c8]
      · refine ⟨c11.1, fun j hj => ?_, c11.2.2⟩
        show _ = z2.2.2.1 20 j ∧ _ = z2.2.2.1 21 j ∧ _ = z2.2.2.1 22 j ∧ _ = z2.2.2.1 23 j
        rw [hF2.2.2.1 20 (by simp), hF2.2.2.1 21 (by simp), hF2.2.2.1 22 (by simp), hF2.2.2.1 23 (by simp)]
        exact c11.2.1 j hj
      · intro d' hd'
        have hp := c12 d' (by omega)
        have hn' : ns d' ≤ N := by
          obtain ⟨q', -, -, -, -, -, -, -, -, hn', -⟩ := hp
          exact hn'
        refine PR_fr hp (fun i _ => rfl) rfl (fun i _ _ => ?_) ?_ (fun j _ => ?_) (by have := c11.1; omega) (fun i _ j _ => rfl) (c11.2.2 _ hn') hn' (fun k _ => rfl) rfl rfl
        · show z2.2.2.1 i d' = _
          rw [hF2.2.2.1 i (by simp)]
        · show z2.2.2.2 46 d' = _
          rw [hF2.2.2.2]
        · show z2.2.2.1 27 j = _ ∧ z2.2.2.1 28 j = _
          rw [hF2.2.2.1 27 (by simp), hF2.2.2.1 28 (by simp)]
          exact ⟨rfl, rfl⟩
    · rw [if_neg (nI_ne0 (by omega) (by omega)), if_neg (nI_ne0 (by omega) (by omega))]
      by_cases hTM : T = M
      · -- one TRY too many
        subst hTM
        rw [if_neg (nI_nlt (Nat.le_refl T) (by omega)), if_pos rfl]
        exact ⟨-5, zk, zd, zu, zl, z2, rfl, rfl, c7, hB2, by rw [c3, hF2.1 25 (by decide), c4], N, c11.1, c10, Or.inl ⟨Or.inr rfl, by rw [hF2.1 24 (by decide), c8]⟩⟩
      · rw [if_pos (nI_lt (by omega) (by omega)), if_neg (fun e => hTM ((nI_eq (by omega) (by omega)).mp e))]
        have eTX := take_X F (by omega) hN (zk := zk) (zd := zd) (T := T) hLF hg (show d < 3001 by omega) p3 p5 p6 (by omega) c3 p7 p9 c11.1 c10 p10 p12
        obtain ⟨z3, w0, w1, w2, w3, w4, w5, w6, w7, w8, w9⟩ := choose_M F (by omega) hN hLF hg (show d < 3002 by omega) e47 (by rw [hF2.2.2.1 37 (by simp)]; exact p4) (x := x) (by rw [hF2.2.2.2, hx]) (by omega) (T := T) (by rw [hF2.1 25 (by decide), c4]) e29 (by omega) e31 p12 (by rw [hF2.2.2.1 27 (by simp), hF2.2.2.1 28 (by simp), e30]; exact p15)
        have est : z2.2.1 26 = zd.2.1 0 := by rw [hF2.2.1, c5]
        rw [est] at w0 w2 w3 w4 w5 w6
        obtain ⟨k, hk⟩ : ∃ k, k = chs g q x (zd.2.1 0) := ⟨_, rfl⟩
        have hck := (chs_ok hLF (show 0 < lft g q x by omega) (zd.2.1 0)).1
        rw [← hk] at w0 w3 w4 w5 w6 eTX hck
        obtain ⟨f1, f2, f3, f4, f5, f6, f7, f8, f9, f10, f11⟩ := hLF.2.2.2.2.2.2.2.2 k hck
        obtain ⟨a, ha⟩ : ∃ a, a = gFa g q + k := ⟨_, rfl⟩
        rw [← ha] at w0 w4 w5 w6 eTX f1 f2 f3 f4 f5 f6 f7 f8 f9 f10 f11
        obtain ⟨zk1, hzk1⟩ : ∃ y, y = sI (sI (sI (sI (sI zk 6 (nI (T + 1))) 9 (nI (gFs g a))) 10 (nI (gFs g a + gSc g a))) 11 (nI d)) 8 (nI ((Ls d).length + gSc g a)) := ⟨_, rfl⟩
        obtain ⟨zl1, hzl1⟩ : ∃ y, y = sA (sB zl 2 (nI d) (trd x k)) 1 (nI d) (nI (lft g q (trd x k))) := ⟨_, rfl⟩
        obtain ⟨zd1, hzd1⟩ : ∃ y, y = sL zd 0 (blw (lft g q x) (zd.2.1 0)).2 := ⟨_, rfl⟩
        rw [← hzk1, ← hzl1, ← hzd1] at eTX
        rw [eTX, b4_s, w0, b2s]
        have hB3 : Bs z0 z3 := ⟨fun y hy => (w8 y (fun e => hy ((by decide : ∀ k, k ∈ [25, 29, 30, 31] → k ∈ bsI) y e))).trans (hB2.1 y hy), fun y hy => (w9 y (fun e => hy ((by decide : ∀ k, k ∈ [27, 28] → k ∈ bsR) y e))).trans (hB2.2 y hy)⟩
        have hns : ns d ≤ N := p9
        have hcl : (nI d).toNatClampNeg = d := nI_clamp (by omega)
        have hT3 : Tn (sI zu 6 (nI (ns d))) z3 (ns d) := by
          refine ⟨by have := c11.1; omega, fun j hj => ?_, fun m' hm' => c11.2.2 m' (by omega)⟩
          rw [w9 20 (by decide), w9 21 (by decide), w9 22 (by decide), w9 23 (by decide), hF2.2.2.1 20 (by simp), hF2.2.2.1 21 (by simp), hF2.2.2.1 22 (by simp), hF2.2.2.1 23 (by simp)]
          exact c11.2.1 j (by omega)
        have hC3 : Cm g z0 wk bars zk1 zd1 (sI zu 6 (nI (ns d))) zl1 z3 (d + 1) (T + 1) (ns d) ns cs Ls := by
          refine ⟨by rw [hzk1]; exact c1, by rw [w8 47 (by decide)]; exact e47, by rw [hzk1]; rfl, w1, by rw [hzd1, w2]; rfl, by rw [hzk1]; exact c6, by rw [hzk1]; exact c7, by rw [w8 24 (by decide), hF2.1 24 (by decide), c8], hB3, rfl, hT3, ?_, c13⟩
          intro d' hd'
          have hp := c12 d' hd'
          have hmo := c13 d' d (by omega) (by omega)
          by_cases e : d' = d
          · subst e
            refine ⟨q, p1, p2, ?_, ?_, ?_, ?_, ?_, ?_, Nat.le_refl _, ?_, ?_, p12, p13, ?_, ?_, ?_, p17, ?_, ?_, ?_, ?_⟩
            · rw [hzl1]; exact p3
            · rw [w9 37 (by decide), hF2.2.2.1 37 (by simp)]; exact p4
            · rw [hzl1, w3]
              show vp_updL (zl.2.2.2 2) (nI d').toNatClampNeg (trd x k) d' = vp_updL (z2.2.2.2 46) d' (trd x k) d'
              rw [hcl, updL_s, updL_s]
            · rw [hzl1, w3, updL_s]
              show upd (zl.2.2.1 1) (nI d').toNatClampNeg (nI (lft g q (trd x k))) d' = _
              rw [hcl, pk_us]
            · rw [hzl1]; exact p7
            · rw [w9 41 (by decide), hF2.2.2.1 41 (by simp)]; exact p8
            · rw [hzl1]; exact p10
            · rw [w9 39 (by decide), hF2.2.2.1 39 (by simp)]; exact p11
            · rw [hzl1]; exact p14
            · rw [w9 38 (by decide), hF2.2.2.1 38 (by simp)]
              refine Cel_fr (Nat.le_refl _) (fun j hj => ?_) _ _ p15
              have := w7 j hj
              rw [hF2.2.2.1 27 (by simp), hF2.2.2.1 28 (by simp)] at this
              exact this
            · rw [w9 45 (by decide), hF2.2.2.1 45 (by simp)]; exact p16
            · rw [w9 40 (by decide), hF2.2.2.1 40 (by simp)]; exact p18
            · rw [w9 42 (by decide), hF2.2.2.1 42 (by simp)]; exact p19
            · rw [w9 43 (by decide), hF2.2.2.1 43 (by simp)]; exact p20
            · rw [w9 44 (by decide), hF2.2.2.1 44 (by simp)]; exact p21
          · refine PR_fr hp ?_ ?_ (fun i h1 h2 => ?_) ?_ (fun j hj => ?_) (by have := c11.1; omega) (fun i _ j _ => rfl) (c11.2.2 _ (by omega)) hmo.1 (fun k _ => rfl) rfl rfl
            · intro i hi
              rw [hzl1]
              by_cases e1 : i = 1
              · subst e1
                show upd (zl.2.2.1 1) (nI d).toNatClampNeg _ d' = _
                rw [hcl, pk_un e]
              · show va_up zl.2.2.1 1 _ i d' = _
                rw [va_up_ne _ _ e1]
            · rw [hzl1]
              show vp_updL (zl.2.2.2 2) (nI d).toNatClampNeg _ d' = _
              rw [hcl, updL_n e]
            · rw [w9 i (by simp; omega), hF2.2.2.1 i (by simp)]
            · rw [w3, updL_n e, hF2.2.2.2]
            · have := w7 j (by omega)
              rw [hF2.2.2.1 27 (by simp), hF2.2.2.1 28 (by simp)] at this
              exact this
        have ek8 : zk1.1 8 = nI ((Ls d).length + gSc g a) := by rw [hzk1]; rfl
        rw [ek8]
        unfold g200
        by_cases hlen : 200 < (Ls d).length + gSc g a
        · -- too many are yet to come
          rw [if_neg (show ¬ nI ((Ls d).length + gSc g a) ≤ 200 from nI_ge (a := 200) hlen (by omega)), if_pos hlen]
          obtain ⟨m, rfl⟩ : ∃ g, m = g + 1 := ⟨m - 1, by omega⟩
          rw [b257_b F _ rfl z3 (nI bars) 0 0 (Or.inr rfl)]
          rw [show mX3_unfold_b111 F (mX3_unfold_b21 F f) zk1 zd1 zg (sI zu 6 (nI (ns d))) zl1 (nI i) (-12) = mX3_unfold_b21 F f zk1 zd1 zg (sI zu 6 (nI (ns d))) zl1 (nI i + 1) from rfl, nI_1]
          exact ih zk1 zd1 _ zl1 z3 (d + 1) (T + 1) (ns d) (i + 1) n m f ns cs Ls hC3 (by omega) (by omega) (by omega) (by omega) (by omega) (by omega) (by omega)
        · rw [if_pos (show nI ((Ls d).length + gSc g a) ≤ 200 from nI_le (b := 200) (by omega) (by omega)), if_neg hlen]
          obtain ⟨m, rfl⟩ : ∃ g, m = g + 1 := ⟨m - 1, by omega⟩
          rw [b257_g F _ rfl]
          have hlL : (List.range' (gFs g a) (gSc g a) ++ Ls d).length = (Ls d).length + gSc g a := by
            rw [List.length_append, List.length_range']; omega
          have hR3 : Rn g zk1 (sI zu 6 (nI (ns d))) z3 (d + 1) (ns d) (cs d + gSc g a) ns cs Ls (List.range' (gFs g a) (gSc g a) ++ Ls d) := by
            refine ⟨by rw [hlL]; exact ek8, by rw [hlL]; exact w5, ?_, ?_, w6, w4, by omega, ⟨?_, rfl, ?_, ?_, ?_, ?_⟩, fun d' hd' => ⟨(c13 d' d (by omega) (by omega)).1, by have := (c13 d' d (by omega) (by omega)).2; omega⟩⟩
            · intro s hs
              rcases List.mem_append.mp hs with h | h
              · have := List.mem_range'_1.mp h
                omega
              · exact p13 s h
            · refine Or.inr ⟨gFs g a, gSc g a - 1, d, by rw [hzk1]; rfl, ?_, by rw [hzk1]; rfl, by omega, by omega, ?_⟩
              · rw [show gFs g a + (gSc g a - 1) + 1 = gFs g a + gSc g a by omega, hzk1]; rfl
              · rw [show gSc g a - 1 + 1 = gSc g a by omega]
            · rw [w8 33 (by decide)]; exact e33
            · rw [w8 32 (by decide)]; exact e32
            · rw [w8 34 (by decide)]; exact e34
            · rw [w8 35 (by decide)]; exact e35
            · rw [w8 36 (by decide)]; exact e36
          obtain ⟨r, zk2, zu2, y1, y2⟩ := go_b hG hw hRD hb (show d + 1 < 3001 by omega) hF (List.range' (gFs g a) (gSc g a) ++ Ls d) 0 n F zk1 (sI zu 6 (nI (ns d))) z3 (ns d) (cs d + gSc g a) hC3 hR3 (by omega) (by omega) (by omega)
          rw [show mX3_goToLetter F zk1 zd1 zg (sI zu 6 (nI (ns d))) zl1 = mX3_goToLetter_b2 F F zk1 zd1 zg (sI zu 6 (nI (ns d))) zl1 (nI 0) from rfl, y1, b3s]
          rcases y2 with ⟨e, z', y3, y4⟩ | ⟨zk'', zl'', z', n', D', N', ns', cs', Ls', y3, y4, y5, y6, y7⟩
          · subst e
            exact ⟨_, zk2, zd1, zu2, zl1, z', rfl, y3, y4⟩
          · rw [y3, y4, nI_1]
            exact ih zk'' zd1 zu2 zl'' z' D' (T + 1) N' (i + 1) n' m' f ns' cs' Ls' y7 (by omega) (by omega) (by omega) (by omega) (by omega) (by omega) (by omega)

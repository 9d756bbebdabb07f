/-! make, sixth: from a choice to the next LETTER, on both sides -/
theorem Bs_B {a b : OS} (h : Bs a b) (k : Nat) (i : Int32) (v : Int64) : Bs a (sB b k i v) := h
theorem Cm_fr {g : GT} {z0 : OS} {wk : Nat → Int32} {bars : Nat} {zk zk' zd zu zu' zl z z' : OS} {D T N N' : Nat} {ns cs : Nat → Nat} {Ls : Nat → List Nat} (h : Cm g z0 wk bars zk zd zu zl z D T N ns cs Ls) (k5 : zk'.1 5 = zk.1 5) (k6 : zk'.1 6 = zk.1 6) (k7 : zk'.1 7 = zk.1 7) (kw : zk'.2.2.1 = zk.2.2.1) (z47 : z'.1 47 = z.1 47) (z25 : z'.1 25 = z.1 25) (z24 : z'.1 24 = z.1 24) (z26 : z'.2.1 = z.2.1) (zB : Bs z0 z') (zA : ∀ i, 37 ≤ i → i ≤ 45 → z'.2.2.1 i = z.2.2.1 i) (zC : z'.2.2.1 27 = z.2.2.1 27 ∧ z'.2.2.1 28 = z.2.2.1 28) (zT : z'.2.2.2 = z.2.2.2) (hN : N ≤ N') (u6 : zu'.1 6 = nI N') (uT : Tn zu' z' N') (uA : ∀ i, i < 6 → ∀ j, j < N → zu'.2.2.1 i j = zu.2.2.1 i j) : Cm g z0 wk bars zk' zd zu' zl z' D T N' ns cs Ls := by
  obtain ⟨c1, c2, c3, c4, c5, c6, c7, c8, c9, c10, c11, c12, c13⟩ := h
  refine ⟨by rw [k7, c1], by rw [z47, c2], by rw [k6, c3], by rw [z25, c4], by rw [z26, c5], by rw [k5, c6], by rw [kw, c7], by rw [z24, c8], zB, u6, uT, fun d hd => ?_, c13⟩
  have hd2 := c12 d hd
  have hns : ns d ≤ N := by
    obtain ⟨q, -, -, -, -, -, -, -, -, hn, -⟩ := hd2
    exact hn
  exact PR_fr hd2 (fun i _ => rfl) rfl (fun i h1 h2 => by rw [zA i h1 h2]) (by rw [zT]) (fun j _ => ⟨by rw [zC.1], by rw [zC.2]⟩) (by have := c11.1; omega) (fun i hi j hj => uA i hi j (by omega)) (c11.2.2 _ hns) (by omega) (fun k _ => rfl) rfl rfl
theorem opn_b {g : GT} {zg z0 : OS} {wk : Nat → Int32} {bars : Nat} {zk zd zu zl z : OS} {D T N c q : Nat} {ns cs : Nat → Nat} {Ls : Nat → List Nat} {L : List Nat} (h : Cm g z0 wk bars zk zd zu zl z D T N ns cs Ls) (hR : Rn g zk zu z D N c ns cs Ls L) (hL : L.length ≤ 200) (hF : LF g zg z q) (hD : D < 3001) : ∃ zk' zl' z' ns' cs' Ls', mX3_openPlace zk zd zg zu zl (nI q) = some (zk', zl') ∧ mX10_keep z (nI q) = some z' ∧ Cm g z0 wk bars zk' zd zu zl' z' (D + 1) T N ns' cs' Ls' := by
  obtain ⟨c1, c2, c3, c4, c5, c6, c7, c8, c9, c10, c11, c12, c13⟩ := h
  obtain ⟨r1, r2, r3, r4, r5, r6, r7, ⟨s33, s6, s32, s34, s35, s36⟩, r9⟩ := hR
  have hcl : (nI D).toNatClampNeg = D := nI_clamp (by omega)
  refine ⟨_, _, _, fun k => if k = D then N else ns k, fun k => if k = D then c else cs k, fun k => if k = D then L else Ls k, open_X hF hD c1, keep_M (by omega) c2, rfl, rfl, c3, c4, c5, c6, c7, c8, ?_, c10, c11, ?_, ?_⟩
  · exact Bs_I (Bs_B (Bs_A (Bs_A (Bs_A (Bs_A (Bs_A (Bs_A (Bs_A (Bs_A (Bs_A c9 (by decide) _ _) (by decide) _ _) (by decide) _ _) (by decide) _ _) (by decide) _ _) (by decide) _ _) (by decide) _ _) (by decide) _ _) (by decide) _ _) _ _ _) (by decide) _
  · intro d hd
    by_cases e : d = D
    · subst e
      refine ⟨q, hF.1, hF.2.1, ?_, ?_, ?_, ?_, ?_, ?_, ?_, ?_, ?_, ?_, ?_, ?_, ?_, ?_, ?_, ?_, ?_, ?_, ?_⟩
      · show upd (zl.2.2.1 0) (nI d).toNatClampNeg (nI q) d = _
        rw [hcl, pk_us]
      · show upd (z.2.2.1 37) (nI d).toNatClampNeg (nI q) d = _
        rw [hcl, pk_us]
      · show vp_updL (zl.2.2.2 2) (nI d).toNatClampNeg 0 d = vp_updL (z.2.2.2 46) (nI d).toNatClampNeg 0 d
        rw [hcl, updL_s, updL_s]
      · show upd (zl.2.2.1 1) (nI d).toNatClampNeg (nI (lft g q 0)) d = nI (lft g q (vp_updL (z.2.2.2 46) (nI d).toNatClampNeg 0 d))
        rw [hcl, pk_us, updL_s]
      · show upd (zl.2.2.1 3) (nI d).toNatClampNeg (zu.1 6) d = nI (if d = d then N else ns d)
        rw [hcl, pk_us, if_pos rfl, c10]
      · show upd (z.2.2.1 41) (nI d).toNatClampNeg (z.1 33) d = nI (if d = d then N else ns d)
        rw [hcl, pk_us, if_pos rfl, s33]
      · show (if d = d then N else ns d) ≤ N
        rw [if_pos rfl]
        exact Nat.le_refl N
      · show upd (zl.2.2.1 4) (nI d).toNatClampNeg (zk.1 8) d = nI (if d = d then L else Ls d).length
        rw [hcl, pk_us, if_pos rfl, r1]
      · show upd (z.2.2.1 39) (nI d).toNatClampNeg (z.1 31) d = nI (if d = d then L else Ls d).length
        rw [hcl, pk_us, if_pos rfl, r2]
      · show (if d = d then L else Ls d).length ≤ 200
        rw [if_pos rfl]
        exact hL
      · show ∀ s, s ∈ (if d = d then L else Ls d) → s < gS g
        rw [if_pos rfl]
        exact r3
      · show Rep (gS g) (fun k => if k = d then L else Ls k) d (upd (zl.2.2.1 5) (nI d).toNatClampNeg (zk.1 9) d) (upd (zl.2.2.1 6) (nI d).toNatClampNeg (zk.1 10) d) (upd (zl.2.2.1 7) (nI d).toNatClampNeg (zk.1 11) d) (if d = d then L else Ls d)
        rw [hcl, pk_us, pk_us, pk_us, if_pos rfl]
        exact Rep_fr (Nat.le_refl d) (fun k hk => if_neg (by omega)) r4
      · show Cel (z.2.2.1 27) (z.2.2.1 28) (if d = d then c else cs d) (if d = d then L else Ls d) (upd (z.2.2.1 38) (nI d).toNatClampNeg (z.1 30) d)
        rw [hcl, pk_us, if_pos rfl, if_pos rfl]
        exact r5
      · show upd (z.2.2.1 45) (nI d).toNatClampNeg (z.1 29) d = nI (if d = d then c else cs d)
        rw [hcl, pk_us, if_pos rfl, r6]
      · show (if d = d then c else cs d) ≤ 1 + 12 * d
        rw [if_pos rfl]
        exact r7
      · show upd (z.2.2.1 40) (nI d).toNatClampNeg (z.1 32) d = cT zu (if d = d then N else ns d)
        rw [hcl, pk_us, if_pos rfl, s32]
      · show upd (z.2.2.1 42) (nI d).toNatClampNeg (z.1 34) d = cP zu (if d = d then N else ns d)
        rw [hcl, pk_us, if_pos rfl, s34]
      · show upd (z.2.2.1 43) (nI d).toNatClampNeg (z.1 35) d = cD zu (if d = d then N else ns d)
        rw [hcl, pk_us, if_pos rfl, s35]
      · show upd (z.2.2.1 44) (nI d).toNatClampNeg (z.1 36) d = cR zu (if d = d then N else ns d)
        rw [hcl, pk_us, if_pos rfl, s36]
    · have hn := r9 d (by omega)
      refine PR_fr (c12 d (by omega)) ?_ ?_ ?_ ?_ (fun j _ => ⟨rfl, rfl⟩) (by have := c11.1; omega) (fun i _ j _ => rfl) (c11.2.2 _ hn.1) hn.1 (fun k hk => if_neg (by omega)) (if_neg e) (if_neg e)
      · intro i hi
        rcases (show i = 0 ∨ i = 1 ∨ i = 2 ∨ i = 3 ∨ i = 4 ∨ i = 5 ∨ i = 6 ∨ i = 7 by omega) with rfl | rfl | rfl | rfl | rfl | rfl | rfl | rfl
        · show upd (zl.2.2.1 0) (nI D).toNatClampNeg _ d = _
          rw [hcl, pk_un e]
        · show upd (zl.2.2.1 1) (nI D).toNatClampNeg _ d = _
          rw [hcl, pk_un e]
        · rfl
        · show upd (zl.2.2.1 3) (nI D).toNatClampNeg _ d = _
          rw [hcl, pk_un e]
        · show upd (zl.2.2.1 4) (nI D).toNatClampNeg _ d = _
          rw [hcl, pk_un e]
        · show upd (zl.2.2.1 5) (nI D).toNatClampNeg _ d = _
          rw [hcl, pk_un e]
        · show upd (zl.2.2.1 6) (nI D).toNatClampNeg _ d = _
          rw [hcl, pk_un e]
        · show upd (zl.2.2.1 7) (nI D).toNatClampNeg _ d = _
          rw [hcl, pk_un e]
      · show vp_updL (zl.2.2.2 2) (nI D).toNatClampNeg 0 d = _
        rw [hcl, updL_n e]
      · intro i h1 h2
        rcases (show i = 37 ∨ i = 38 ∨ i = 39 ∨ i = 40 ∨ i = 41 ∨ i = 42 ∨ i = 43 ∨ i = 44 ∨ i = 45 by omega) with rfl | rfl | rfl | rfl | rfl | rfl | rfl | rfl | rfl
        · show upd (z.2.2.1 37) (nI D).toNatClampNeg _ d = _
          rw [hcl, pk_un e]
        · show upd (z.2.2.1 38) (nI D).toNatClampNeg _ d = _
          rw [hcl, pk_un e]
        · show upd (z.2.2.1 39) (nI D).toNatClampNeg _ d = _
          rw [hcl, pk_un e]
        · show upd (z.2.2.1 40) (nI D).toNatClampNeg _ d = _
          rw [hcl, pk_un e]
        · show upd (z.2.2.1 41) (nI D).toNatClampNeg _ d = _
          rw [hcl, pk_un e]
        · show upd (z.2.2.1 42) (nI D).toNatClampNeg _ d = _
          rw [hcl, pk_un e]
        · show upd (z.2.2.1 43) (nI D).toNatClampNeg _ d = _
          rw [hcl, pk_un e]
        · show upd (z.2.2.1 44) (nI D).toNatClampNeg _ d = _
          rw [hcl, pk_un e]
        · show upd (z.2.2.1 45) (nI D).toNatClampNeg _ d = _
          rw [hcl, pk_un e]
      · show vp_updL (z.2.2.2 46) (nI D).toNatClampNeg 0 d = _
        rw [hcl, updL_n e]
  · intro d d' h1 h2
    show (if d = D then N else ns d) ≤ (if d' = D then N else ns d') ∧ (if d = D then c else cs d) ≤ (if d' = D then c else cs d')
    by_cases e' : d' = D
    · subst e'
      rw [if_pos rfl, if_pos rfl]
      by_cases e : d = d'
      · subst e
        rw [if_pos rfl, if_pos rfl]
        exact ⟨Nat.le_refl _, Nat.le_refl _⟩
      · rw [if_neg e, if_neg e]
        exact r9 d (by omega)
    · rw [if_neg e', if_neg e', if_neg (by omega), if_neg (by omega)]
      exact c13 d d' h1 (by omega)
theorem b257_b (F : Nat) (K : OS → Int32 → Option (Int32 × OS)) {k m : Nat} (hk : k = m + 1) (z : OS) (a1 a4 a5 : Int32) (h : ¬ a5 = 0 ∨ a4 = 0) : mX10_make_b257 F K k z a1 a4 a5 = mX10_make_b267 F (mX10_make_b257 F K m) z a1 := by
  subst hk
  rw [mX10_make_b257]
  by_cases c : a5 = 0
  · rw [if_pos c]
    rcases h with h | h
    · exact absurd c h
    · rw [if_pos h]
  · rw [if_neg c]
theorem b257_g (F : Nat) (K : OS → Int32 → Option (Int32 × OS)) {k m : Nat} (hk : k = m + 1) (z : OS) (a1 : Int32) : mX10_make_b257 F K k z a1 1 0 = K z a1 := by
  subst hk
  rw [mX10_make_b257, if_pos rfl, if_neg z01]
theorem go_b {g : GT} {zg z0 : OS} {wk : Nat → Int32} {bars : Nat} {zd zl : OS} {D T : Nat} {ns cs : Nat → Nat} {Ls : Nat → List Nat} (hG : GF g zg z0) (hw : ∀ j, j < 7 → wk j = z0.2.2.1 19 j ∧ stLo j ≤ z0.2.2.1 19 j ∧ z0.2.2.1 19 j ≤ stHi j) (hRD : RD z0) (hb : bars < 17) (hD : D < 3001) {F m' : Nat} (hF : F = m' + 1) : ∀ (L : List Nat) (j n f2 : Nat) (zk zu z : OS) (N c : Nat), Cm g z0 wk bars zk zd zu zl z D T N ns cs Ls → Rn g zk zu z D N c ns cs Ls L → L.length + j ≤ 200 → L.length < f2 → L.length < n → ∃ r zk' zu', mX3_goToLetter_b2 F f2 zk zd zg zu zl (nI j) = some (r, zk', zu') ∧ ((r = -11 ∧ ∃ z', mX10_make_b116 F n z (nI bars) = some (zu'.1 6, z') ∧ Out z0 wk (zu'.1 6) zk' zu' z') ∨ (∃ zk'' zl'' z' n' D' N' ns' cs' Ls', (∀ (K : OS → OS → OS → OS → OS → Int32 → Option (Int32 × OS × OS × OS × OS)) (i : Int32), mX3_unfold_b111 F K zk' zd zg zu' zl i r = K zk'' zd zg zu' zl'' (i + 1)) ∧ mX10_make_b116 F n z (nI bars) = mX10_make_b267 F (mX10_make_b257 F (mX10_make_b116 F n') m') z' (nI bars) ∧ n ≤ n' + L.length + 1 ∧ D' ≤ D + 1 ∧ Cm g z0 wk bars zk'' zd zu' zl'' z' D' T N' ns' cs' Ls')) := by
  have v5 : vp_in 5 7 := vp_in_nI (n := 5) (by omega) (by omega)
  intro L
  induction L with
  | nil =>
    intro j n f2 zk zu z N c hC hR hj hf hn
    obtain ⟨f2, rfl⟩ : ∃ g, f2 = g + 1 := ⟨f2 - 1, by omega⟩
    obtain ⟨n, rfl⟩ : ∃ g, n = g + 1 := ⟨n - 1, by omega⟩
    have hC2 := hC
    obtain ⟨c1, c2, c3, c4, c5, c6, c7, c8, c9, c10, c11, c12, c13⟩ := hC2
    obtain ⟨r1, r2, r3, r4, r5, r6, r7, ⟨s33, s6, s32, s34, s35, s36⟩, r9⟩ := hR
    have hef : zk.1 10 ≤ zk.1 9 := by
      rcases r4 with ⟨-, e, -⟩ | ⟨a, m, p, -, -, -, -, -, e⟩
      · exact e
      · rw [List.range'_succ] at e; cases e
    have h30 : z.1 30 = -1 := r5
    have hTP := c11.2.2 N (Nat.le_refl N)
    have w5 : wk 5 = z.2.2.1 19 5 := by rw [c9.2 19 (by decide)]; exact (hw 5 (by omega)).1
    have w5b := hw 5 (by omega)
    rw [← w5b.1] at w5b
    -- what both ask for at the end
    have key : ∃ ok : Bool, mX3_isWhole zk zd zg zu zl = some (if ok then 1 else 0) ∧ mX10_make_b116 F (n + 1) z (nI bars) = mX10_make_b167 F (mX10_make_b116 F n) z (nI bars) 0 (if ok then 1 else 0) := by
      unfold mX3_isWhole mX3_isWhole_b0
      rw [if_neg (Int32.not_lt.mpr hef), time_X zu c11.1 c10, b1s, c6, gds v5, c7, (lp_X zu c11.1 c10 hTP).2, b1s, gds v5, show (5 : Int32).toNatClampNeg = 5 from by decide]
      rw [mX10_make_b116]
      simp only [nms]
      rw [h30, if_neg (show ¬ (0 : Int32) ≤ -1 by decide), s32, (m16 bars hb).1, gds v5, gds v5, show (5 : Int32).toNatClampNeg = 5 from by decide, ← w5, s35]
      unfold mX10_make_b166
      by_cases e1 : cT zu N = nI (16 * bars)
      · rw [if_pos e1, if_pos e1]
        by_cases e2 : wk 5 = -1
        · rw [if_pos e2, if_pos (show wk 5 < 0 from by rw [e2]; decide)]
          exact ⟨true, rfl, rfl⟩
        · have e3 : ¬ wk 5 < 0 := by
            intro q
            apply e2
            have b1 := Int32.le_iff_toInt_le.mp w5b.2.1
            have b2 := Int32.lt_iff_toInt_lt.mp q
            have t0 : (0 : Int32).toInt = 0 := by decide
            have t1 : (stLo 5).toInt = -1 := by decide
            have t2 : (-1 : Int32).toInt = -1 := by decide
            apply Int32.toInt_inj.mp
            rw [t2]
            omega
          rw [if_neg e2, if_neg e3]
          by_cases e4 : cD zu N = wk 5
          · rw [if_pos e4, if_pos e4]
            exact ⟨true, rfl, rfl⟩
          · rw [if_neg e4, if_neg e4]
            exact ⟨false, rfl, rfl⟩
      · rw [if_neg e1, if_neg e1]
        exact ⟨false, rfl, rfl⟩
    obtain ⟨ok, k1, k2⟩ := key
    have kX : mX3_goToLetter_b2 F (f2 + 1) zk zd zg zu zl (nI j) = some (if ok then -11 else -12, zk, zu) := by
      rw [mX3_goToLetter_b2, if_neg (show ¬ (200 : Int32) < nI j from nI_nlt (a := 200) (by simp at hj; omega) (by omega)), if_pos hef]
      unfold mX3_goToLetter_b65
      rw [k1, b1s]
      cases ok
      · rfl
      · rfl
    refine ⟨_, zk, zu, kX, ?_⟩
    cases ok with
    | true =>
      refine Or.inl ⟨rfl, sI z 24 (z.1 33), ?_, c7, Bs_I c9 (by decide) _, ?_, N, c11.1, c10, Or.inr ⟨c10, s33, c11⟩⟩
      · rw [k2]
        unfold mX10_make_b167
        rw [if_neg (by decide), nms, c10, ← s33]
        rfl
      · rw [c3]; exact c4.symm
    | false =>
      refine Or.inr ⟨zk, zl, z, n, D, N, ns, cs, Ls, fun K i => rfl, ?_, by simp, by omega, hC⟩
      rw [k2]
      unfold mX10_make_b167
      exact b257_b F _ hF z (nI bars) 0 0 (Or.inr rfl)
  | cons s L ih =>
    intro j n f2 zk zu z N c hC hR hj hf hn
    obtain ⟨f2, rfl⟩ : ∃ g, f2 = g + 1 := ⟨f2 - 1, by omega⟩
    obtain ⟨n, rfl⟩ : ∃ g, n = g + 1 := ⟨n - 1, by omega⟩
    rw [List.length_cons] at hj hf hn
    have hC2 := hC
    obtain ⟨c1, c2, c3, c4, c5, c6, c7, c8, c9, c10, c11, c12, c13⟩ := hC2
    obtain ⟨r1, r2, r3, r4, ⟨jc, hjc, r5, r5b, r5c⟩, r6, r7, hCu, r9⟩ := hR
    have hg := hG.1
    have hs : s < gS g := r3 s (List.mem_cons_self ..)
    obtain ⟨t1, zk1, t2, t3, t4, t5⟩ := take1_X (zd := zd) (zg := zg) (zu := zu) (zl := zl) hg (by omega) r1 r4 (fun p hp => by
      obtain ⟨q, -, -, -, -, -, -, -, -, -, -, -, -, -, h, -⟩ := c12 p hp
      exact h)
    obtain ⟨z1, hz1⟩ : ∃ y, y = sI (sI z 30 (z.2.2.1 28 jc)) 31 (nI L.length) := ⟨_, rfl⟩
    have hF1 : Fr [30, 31] [] z z1 := by rw [hz1]; exact Fr_I (Fr_I (Fr_r _ _ z) (by decide) _) (by decide) _
    have hB1 : Bs z0 z1 := Bs_F c9 hF1 (by decide) (by decide)
    have hT1 : Tn zu z1 N := by rw [hz1]; exact c11
    have hCu1 : Cu zu z1 N := by rw [hz1]; exact hCu
    have hC1 : Cm g z0 wk bars zk1 zd zu zl z1 D T N ns cs Ls := Cm_fr hC (t5.1 5 (by decide)) (t5.1 6 (by decide)) (t5.1 7 (by decide)) (funext fun k => t5.2.2.1 k (by simp)) (hF1.1 47 (by decide)) (hF1.1 25 (by decide)) (hF1.1 24 (by decide)) hF1.2.1 hB1 (fun i _ _ => hF1.2.2.1 i (by simp)) ⟨hF1.2.2.1 27 (by simp), hF1.2.2.1 28 (by simp)⟩ hF1.2.2.2 (Nat.le_refl N) c10 hT1 (fun i _ j _ => rfl)
    have hR1 : Rn g zk1 zu z1 D N c ns cs Ls L := ⟨t3, by rw [hz1]; rfl, fun s hs => r3 s (List.mem_cons_of_mem _ hs), t4, by rw [hz1]; exact r5c, by rw [hz1]; exact r6, r7, hCu1, r9⟩
    have eX : mX3_goToLetter_b2 F (f2 + 1) zk zd zg zu zl (nI j) = (if (zg.2.2.1 7 s : Int32) = (-1) then b2 (mX3_addIfItFits zk1 zd zg zu zl (nI s)) (fun r8 zu9 => (if (r8 : Int32) = 0 then some ((-12), zk1, zu9) else nm (nI j + 1 : Int32) (fun v12 => mX3_goToLetter_b2 F f2 zk1 zd zg zu9 zl v12))) else some (zg.2.2.1 7 s, zk1, zu)) := by
      rw [mX3_goToLetter_b2, if_neg (show ¬ (200 : Int32) < nI j from nI_nlt (a := 200) (by omega) (by omega)), if_neg t1, t2, b2s, gds (vp_in_nI (by omega) (by omega)), nI_clamp (by omega), gds (vp_in_nI (by omega) (by omega))]
    have eM : mX10_make_b116 F (n + 1) z (nI bars) = (if (z1.2.2.1 8 s : Int32) = 0 then b1 (mX10_keep z1 (z1.2.2.1 9 s)) (fun zx15 => mX10_make_b257 F (mX10_make_b116 F n) F zx15 (nI bars) 1 1) else b2 (mX10_sound z1 (nI s) (nI bars)) (fun r11 zx12 => mX10_make_b257 F (mX10_make_b116 F n) F zx12 (nI bars) r11 0)) := by
      rw [mX10_make_b116]
      simp only [nms]
      rw [r5, if_pos (nI_pos' (by omega)), gds (vp_in_nI (by omega) (by omega)), gds (vp_in_nI (by omega) (by omega)), nI_clamp (show jc < 2 ^ 31 by omega), r5b, gds (vp_in_nI (by omega) (by omega)), gds (vp_in_nI (by omega) (by omega)), nI_clamp (show s < 2 ^ 31 by omega), show (sI z 30 (z.2.2.1 28 jc)).1 31 = z.1 31 from rfl, r2, List.length_cons, nI_pred, ← hz1]
    have hGz := GF_B hG hB1
    have hRS := hGz.2.2 s hs
    by_cases hlet : zg.2.2.1 7 s = -1
    · -- a NOTE or a REST
      have hk8 : ¬ z1.2.2.1 8 s = 0 := by
        rcases hRS with ⟨q, hq, -, e, -⟩ | ⟨d, ln, o, -, -, -, -, -, -, -, -, -, k8, -⟩ | ⟨ln, -, -, -, -, -, k8, -⟩
        · rw [hlet] at e
          exact absurd e.symm (nI_m1 (by omega))
        · rw [k8]; decide
        · rw [k8]; decide
      obtain ⟨r, zu2, z2, q1, q2, q3, q4⟩ := snd_b (zd := zd) (zl := zl) (zk := zk1) (by omega) hRS hlet hb (by rw [t5.1 5 (by decide), c6]) (fun j hj => by
        rw [t5.2.2.1 1 (by simp), c7, hB1.2 19 (by decide)]
        exact hw j hj) (fun j hj => by rw [hB1.2 0 (by decide)]; exact hRD j hj) hT1 hCu1
      have hB2 : Bs z0 z2 := Bs_F hB1 q3 (by decide) (by decide)
      rw [if_pos hlet, q1, b2s] at eX
      rw [if_neg hk8, q2, b2s] at eM
      rcases q4 with ⟨e0, eu, hT2⟩ | ⟨e1, hT2, hCu2, hu2⟩
      · subst e0
        subst eu
        rw [if_pos rfl] at eX
        rw [b257_b F _ hF z2 (nI bars) 0 0 (Or.inr rfl)] at eM
        refine ⟨_, _, _, eX, Or.inr ⟨zk1, zl, z2, n, D, N, ns, cs, Ls, fun K i => rfl, eM, by omega, by omega, ?_⟩⟩
        exact Cm_fr hC1 rfl rfl rfl rfl (q3.1 47 (by decide)) (q3.1 25 (by decide)) (q3.1 24 (by decide)) q3.2.1 hB2 (fun i h1 h2 => q3.2.2.1 i (by simp; omega)) ⟨q3.2.2.1 27 (by decide), q3.2.2.1 28 (by decide)⟩ q3.2.2.2 (Nat.le_refl N) c10 hT2 (fun i _ j _ => rfl)
      · subst e1
        rw [if_neg z01, nms, nI_1] at eX
        rw [b257_g F _ hF] at eM
        have hC3 : Cm g z0 wk bars zk1 zd zu2 zl z2 D T (N + 1) ns cs Ls := Cm_fr hC1 rfl rfl rfl rfl (q3.1 47 (by decide)) (q3.1 25 (by decide)) (q3.1 24 (by decide)) q3.2.1 hB2 (fun i h1 h2 => q3.2.2.1 i (by simp; omega)) ⟨q3.2.2.1 27 (by decide), q3.2.2.1 28 (by decide)⟩ q3.2.2.2 (by omega) hCu2.2.1 hT2 hu2
        obtain ⟨y1, y2, y3, y4, y5, y6, y7, -, y9⟩ := hR1
        have hR3 : Rn g zk1 zu2 z2 D (N + 1) c ns cs Ls L := ⟨y1, by rw [q3.1 31 (by decide)]; exact y2, y3, y4, by rw [q3.2.2.1 27 (by decide), q3.2.2.1 28 (by decide), q3.1 30 (by decide)]; exact y5, by rw [q3.1 29 (by decide)]; exact y6, y7, hCu2, fun d hd => ⟨by have := y9 d hd; omega, (y9 d hd).2⟩⟩
        obtain ⟨r', zk', zu', w1, w2⟩ := ih (j + 1) n f2 zk1 zu2 z2 (N + 1) c hC3 hR3 (by omega) (by omega) (by omega)
        refine ⟨r', zk', zu', by rw [eX, w1], ?_⟩
        rw [eM]
        rcases w2 with w2 | ⟨zk'', zl'', z', n', D', N', ns', cs', Ls', x1, x2, x3, x4, x5⟩
        · exact Or.inl w2
        · exact Or.inr ⟨zk'', zl'', z', n', D', N', ns', cs', Ls', x1, x2, by rw [List.length_cons]; omega, x4, x5⟩
    · -- a LETTER
      rcases hRS with ⟨q, hq, hal, g7, k8, k9⟩ | ⟨d, ln, o, -, -, -, -, -, e, -⟩ | ⟨ln, -, -, e, -⟩
      · obtain ⟨zk2, zl2, z2, ns2, cs2, Ls2, o1, o2, o3⟩ := opn_b (zg := zg) hC1 hR1 (by omega) (hGz.2.1 q hq hal) hD
        rw [if_neg hlet, g7] at eX
        rw [if_pos k8, k9, o2, b1s, b257_b F _ hF z2 (nI bars) 1 1 (Or.inl z01)] at eM
        refine ⟨_, _, _, eX, Or.inr ⟨zk2, zl2, z2, n, D + 1, N, ns2, cs2, Ls2, fun K i => ?_, eM, by omega, by omega, o3⟩⟩
        unfold mX3_unfold_b111
        have n1 : ∀ v : Int32, v < 0 → ¬ nI q = v := fun v hv e => nI_pos (n := q) (by omega) (by rw [e]; exact hv)
        rw [if_neg (n1 (-11) (by decide)), if_neg (n1 (-12) (by decide)), o1, b2s, nms]
      · exact absurd e hlet
      · exact absurd e hlet

def W50 (zx : OS) (g : Nat → Int32) (v : Int32) (t : Int64) : OS := sL (sI (sR zx 50 g) 51 v) 26 t
theorem W50_eta (zx : OS) : W50 zx (zx.2.2.1 50) (zx.1 51) (zx.2.1 26) = zx := by
  unfold W50 sL sI sR
  simp only [up_eta]
theorem W50_a (zx : OS) (t0 : Int64) (f g : Nat → Int32) (u v : Int32) (t : Int64) : W50 (sI (sR (sL zx 26 t0) 50 f) 51 u) g v t = W50 zx g v t := by
  unfold W50 sL sI sR
  simp only [bx_uu]
theorem W50_b (zx : OS) (f g : Nat → Int32) (u v : Int32) (t : Int64) : W50 (sI (sR zx 50 f) 51 u) g v t = W50 zx g v t := by
  unfold W50 sL sI sR
  simp only [bx_uu]
theorem b56_X (F : Nat) (K : OS → OS → Int32 → Int32 → Int32 → Int32 → Option (Int32 × OS × OS)) (zx zd : OS) (a1 a2 a3 a5 : Int32) {t0 w : Nat} (ht : t0 < 300) (hw : w < 203) (e4 : zx.1 4 = nI w) : mX0_wander_b56 F K zx zd a1 a2 a3 a5 (nI t0) = K (sI (sA zx 1 (nI w) (zx.2.2.1 0 t0)) 4 (nI (w + 1))) zd a1 a2 a3 (a5 + 1) := by
  unfold mX0_wander_b56
  rw [gds (vp_in_nI ht (by omega)), e4, gds (vp_in_nI hw (by omega)), nI_clamp (by omega)]
  simp only [nms]
  rw [show (sA zx 1 (nI w) (zx.2.2.1 0 t0)).1 4 = nI w from e4, nI_1]
theorem b204_M (F : Nat) (K : OS → Int32 → Int32 → Int32 → Int32 → Option (Int32 × OS)) (zx : OS) (a1 a2 a3 a6 v : Int32) {w : Nat} (hw : w < 210) (e : zx.1 51 = nI w) : mX10_walk_b204 F K zx a1 a2 a3 a6 v = K (sI (sA zx 50 (nI w) v) 51 (nI (w + 1))) a1 a2 a3 (a6 + 1) := by
  unfold mX10_walk_b204
  rw [e, gds (vp_in_nI hw (by omega))]
  simp only [nms]
  rw [show (sA zx 50 (nI w) v).1 51 = nI w from e, nI_1]
theorem walk_loop (F : Nat) (hF : 310 + dN < F) {k n pl more : Nat} (hk1 : 1 ≤ k) (hk : k ≤ 3) (hn : n ≤ 300) (hpl : pl + k ≤ n) (hmo : more ≤ 200) : ∀ (d i f1 f2 : Nat) (zc zd zx : OS) (w : Nat), i + d = more → d < f1 → d < f2 → k ≤ w → w + d ≤ 203 → zc.1 3 = nI n → zx.1 49 = nI n → (∀ j, j < n → zc.2.2.1 0 j = zx.2.2.1 48 j) → zc.1 4 = nI w → zx.1 51 = nI w → (∀ j, j < w → zc.2.2.1 1 j = zx.2.2.1 50 j) → zd.2.1 0 = zx.2.1 26 → ∃ (w' : Nat) (zc' zd' : OS) (g : Nat → Int32) (t : Int64), w' ≤ 203 ∧ mX0_wander_b22 F f1 zc zd (nI k) (nI pl) (nI more) (nI i) = some (nI w', zc', zd') ∧ mX10_walk_b86 F f2 zx (nI k) (nI pl) (nI more) (nI i) = some (nI w', W50 zx g (nI w') t) ∧ zc'.1 3 = nI n ∧ (∀ j, j < n → zc'.2.2.1 0 j = zx.2.2.1 48 j) ∧ zc'.1 4 = nI w' ∧ ∀ j, j < w' → zc'.2.2.1 1 j = g j := by
  intro d
  induction d with
  | zero =>
    intro i f1 f2 zc zd zx w h1 h2 h3 hkw hw e3 e49 hc e4 e51 hp hs
    obtain ⟨f1, rfl⟩ : ∃ g, f1 = g + 1 := ⟨f1 - 1, by omega⟩
    obtain ⟨f2, rfl⟩ : ∃ g, f2 = g + 1 := ⟨f2 - 1, by omega⟩
    refine ⟨w, zc, zd, zx.2.2.1 50, zx.2.1 26, by omega, ?_, ?_, e3, hc, e4, hp⟩
    · rw [mX0_wander_b22, if_pos (nI_le (by omega) (by omega)), e4]
    · rw [mX10_walk_b86, if_pos (nI_le (by omega) (by omega)), ← e51, W50_eta]
  | succ d ih =>
    intro i f1 f2 zc zd zx w h1 h2 h3 hkw hw e3 e49 hc e4 e51 hp hs
    obtain ⟨f1, rfl⟩ : ∃ g, f1 = g + 1 := ⟨f1 - 1, by omega⟩
    obtain ⟨f2, rfl⟩ : ∃ g, f2 = g + 1 := ⟨f2 - 1, by omega⟩
    -- the places ahead of which the latest stand, on both sides
    have hPP : ∀ x, x < n → ahd (zc.2.2.1 0) (zc.2.2.1 1) w k x = ahd (zx.2.2.1 48) (zx.2.2.1 50) w k x := by
      intro x hx
      unfold ahd
      by_cases c : k ≤ x
      · rw [eqA_congr (c := zc.2.2.1 0) (c' := zx.2.2.1 48) (p := zc.2.2.1 1) (p' := zx.2.2.1 50) (w := w) (q := x) k 1 (fun y h1 h2 => ⟨hc _ (by omega), hp _ (by omega)⟩)]
      · simp [c]
    obtain ⟨P, hP⟩ : ∃ P : Nat → Bool, P = fun x => ahd (zx.2.2.1 48) (zx.2.2.1 50) w k x := ⟨_, rfl⟩
    obtain ⟨P', hP'⟩ : ∃ P : Nat → Bool, P = fun x => ahd (zc.2.2.1 0) (zc.2.2.1 1) w k x := ⟨_, rfl⟩
    have hskip := cA_skip P k (fun q hq => by rw [hP]; unfold ahd; simp; omega) k 0 (n - k) (by omega)
    rw [show k + (n - k) = n by omega] at hskip
    have hcong := cA_congr (P := P') (Q := P) (n - k) k (fun x h1 h2 => by rw [hP, hP']; exact hPP x (by omega))
    have hle := cA_le P' (n - k) k
    obtain ⟨gf, q1, -, q3⟩ := find_X F (by omega) P' (zc.2.2.1 0) (zc.2.2.1 1) (w := w) (k := k) (n := n) hk hn hkw (by omega) (fun x => by rw [hP']) (n - k) k 0 F zc (by omega) (Nat.le_refl k) (by omega) (by omega) rfl rfl e4 e3
    have cm := cnt_M F (by omega) P (mX10_walk_b86 F f2) zx (w := w) (k := k) (n := n) (nI pl) (nI more) (nI i) hk1 hk hn hkw (by omega) (fun x _ => by rw [hP]) e51 e49 n 0 0 F (by omega) (by omega)
    rw [Nat.zero_add] at q1 cm
    rw [hskip.1, ← hcong.1, show nI 0 = (0 : Int32) from rfl] at cm
    have hX0 : mX0_findFollowers F zc (nI k) = some (nI (cA P' (n - k) k), sR zc 2 gf) := q1
    rw [mX0_wander_b22, mX10_walk_b86, if_neg (nI_ge (by omega) (by omega)), if_neg (nI_ge (by omega) (by omega)), hX0, b2s, nms, nms, cm, gds (vp_in_nI (show pl < 300 by omega) (by omega)), nms, nI_clamp (by omega)]
    by_cases z : cA P' (n - k) k = 0
    · rw [z, if_pos (show nI 0 = 0 from rfl), if_pos (show nI 0 ≤ 0 from by decide)]
      rw [b56_X F _ (sR zc 2 gf) zd _ _ _ _ (t0 := pl) (w := w) (by omega) (by omega) e4, b204_M F _ zx _ _ _ _ _ (w := w) (by omega) e51, nI_1]
      obtain ⟨w', zc', zd', g, t, r1, r2, r3, r4, r5, r6, r7⟩ := ih (i + 1) f1 f2 (sI (sA (sR zc 2 gf) 1 (nI w) (zc.2.2.1 0 pl)) 4 (nI (w + 1))) zd (sI (sA zx 50 (nI w) (zx.2.2.1 48 pl)) 51 (nI (w + 1))) (w + 1) (by omega) (by omega) (by omega) (by omega) (by omega) e3 e49 hc rfl rfl (fun j hj => by
        show upd (zc.2.2.1 1) (nI w).toNatClampNeg (zc.2.2.1 0 pl) j = upd (zx.2.2.1 50) (nI w).toNatClampNeg (zx.2.2.1 48 pl) j
        rw [nI_clamp (by omega), hc pl (by omega)]
        by_cases c : j = w
        · rw [c, pk_us, pk_us]
        · rw [pk_un c, pk_un c]; exact hp j (by omega)) hs
      refine ⟨w', zc', zd', g, t, r1, r2, ?_, r4, r5, r6, r7⟩
      rw [r3]
      unfold sA
      rw [W50_b]
    · have hm1 : 1 ≤ cA P' (n - k) k := by omega
      have hm2 : cA P' (n - k) k < 2 ^ 31 := by omega
      obtain ⟨r, hr, er⟩ := blw_lt hm1 hm2 (zx.2.1 26)
      have hpos := nA_lt P' (n - k) k r hr
      have hfr : gf r = nI (nA P' (n - k) k r) := by
        have := q3 r hr
        rw [Nat.zero_add] at this
        exact this
      rw [if_neg (nI_ne0 (by omega) hm2), if_neg (nI_nle (by omega) hm2), under_X F _ (by omega) hm1 hm2, b2s, below_M F _ (by omega) hm1 hm2, b2s, hs, er, gds (vp_in_nI (show r < 300 by omega) (by omega)), nms, nI_clamp (by omega)]
      rw [show (sR zc 2 gf).2.2.1 2 r = nI (nA P' (n - k) k r) from hfr]
      rw [b56_X F _ (sR zc 2 gf) _ _ _ _ _ (t0 := nA P' (n - k) k r) (w := w) (by omega) (by omega) e4]
      have sm := sel_M F (by omega) P (mX10_walk_b86 F f2) (sL zx 26 (blw (cA P' (n - k) k) (zx.2.1 26)).2) (w := w) (k := k) (n := n) (nI pl) (nI more) (nI i) hk1 hk hn hkw (by omega) (fun x _ => by rw [hP]; rfl) e51 e49 n 0 r F (zx.2.2.1 48 pl) (by omega) (by omega) (by rw [hskip.1, ← hcong.1]; exact hr)
      rw [show nI 0 = (0 : Int32) from rfl, hskip.2, ← hcong.2] at sm
      rw [sm]
      rw [b204_M F _ (sL zx 26 (blw (cA P' (n - k) k) (zx.2.1 26)).2) _ _ _ _ _ (w := w) (by omega) e51, nI_1]
      obtain ⟨w', zc', zd', g, t, r1, r2, r3, r4, r5, r6, r7⟩ := ih (i + 1) f1 f2 (sI (sA (sR zc 2 gf) 1 (nI w) (zc.2.2.1 0 (nA P' (n - k) k r))) 4 (nI (w + 1))) (sL zd 0 (blw (cA P' (n - k) k) (zx.2.1 26)).2) (sI (sA (sL zx 26 (blw (cA P' (n - k) k) (zx.2.1 26)).2) 50 (nI w) (zx.2.2.1 48 (nA P' (n - k) k r))) 51 (nI (w + 1))) (w + 1) (by omega) (by omega) (by omega) (by omega) (by omega) e3 e49 hc rfl rfl (fun j hj => by
        show upd (zc.2.2.1 1) (nI w).toNatClampNeg (zc.2.2.1 0 (nA P' (n - k) k r)) j = upd (zx.2.2.1 50) (nI w).toNatClampNeg (zx.2.2.1 48 (nA P' (n - k) k r)) j
        rw [nI_clamp (by omega), hc _ (by omega)]
        by_cases c : j = w
        · rw [c, pk_us, pk_us]
        · rw [pk_un c, pk_un c]; exact hp j (by omega)) (by rw [sLg]; exact (show (sL zx 26 (blw (cA P' (n - k) k) (zx.2.1 26)).2).2.1 26 = (blw (cA P' (n - k) k) (zx.2.1 26)).2 from sLg _ _ _).symm)
      refine ⟨w', zc', zd', g, t, r1, r2, ?_, r4, r5, r6, r7⟩
      refine r3.trans ?_
      unfold sA
      rw [W50_a]

/-! make, fourth: a NOTE or REST fits on both sides or on none -/
theorem pit : ∀ d : Nat, d < 7 → ∀ i : Nat, i < 5 → stPi d + 12 * Int32.ofInt ((i : Int) - 2) = nI (([60, 62, 64, 65, 67, 69, 71] : List Nat).getD d 0 + 12 * i - 24) ∧ 36 ≤ ([60, 62, 64, 65, 67, 69, 71] : List Nat).getD d 0 + 12 * i - 24 ∧ ([60, 62, 64, 65, 67, 69, 71] : List Nat).getD d 0 + 12 * i - 24 ≤ 95 := by decide +kernel
theorem pit2 {d : Nat} {o : Int} (hd : d < 7) (h1 : -2 ≤ o) (h2 : o ≤ 2) : ∃ p, 36 ≤ p ∧ p ≤ 95 ∧ stPi d + 12 * Int32.ofInt o = nI p := by
  obtain ⟨i, hi, rfl⟩ : ∃ i : Nat, i < 5 ∧ o = (i : Int) - 2 := ⟨(o + 2).toNat, by omega, by omega⟩
  have := pit d hd i hi
  exact ⟨_, this.2.1, this.2.2, this.1⟩
theorem far_e {a b : Nat} (ha : a < 1000) (hb : b < 1000) : (if 0 ≤ nI b - nI a then nI b - nI a else 0 - (nI b - nI a) : Int32) = farP (nI a) (nI b) := by
  unfold farP
  rw [if_pos (nI_pos' (n := a) (by omega))]
  by_cases c : b ≤ a
  · rw [if_pos (nI_le c (by omega))]
    by_cases e : b = a
    · subst e; rw [Int32.sub_self]; rfl
    · rw [if_neg (nI_subn (by omega) (by omega)), Int32.zero_sub, Int32.neg_sub]
  · rw [if_neg (nI_ge (by omega) (by omega)), nI_sub (by omega), if_pos (nI_pos' (by omega))]
theorem pitchOf_X {d : Nat} (hd : d < 7) (o : Int32) : mX8_pitchOf (nI d) o = some (stPi d + 12 * o) := by
  unfold mX8_pitchOf mX8_pitchOf_b0
  rw [iw, if_pos ⟨nI_pos' (by omega), nI_le (b := 6) (by omega) (by omega)⟩, b1s, if_neg z01, gds (vp_in_nI hd (by omega)), nI_clamp (by omega)]
theorem pitchOf_R (o : Int32) : mX8_pitchOf (-1) o = some (-1) := by
  unfold mX8_pitchOf mX8_pitchOf_b0
  rw [iw, if_neg (by decide), b1s, if_pos rfl]
theorem fits_X {zk zd zg zu zl : OS} {n p : Nat} {w : Nat → Int32} (hw : ∀ j, j < 7 → zk.2.2.1 1 j = w j) (hw2 : 0 ≤ w 2) (hn : n ≤ 256) (h : zu.1 6 = nI n) (ht : TP zu n) (hp : p < 1000) : mX3_pitchFits zk zd zg zu zl (nI p) = some (if pcd w (nI p) (farP (cP zu n) (nI p)) (if nI p = cP zu n then cR zu n + 1 else 1) then 1 else 0) := by
  have v0 : ∀ k, k < 7 → vp_in (nI k) 7 := fun k hk => vp_in_nI hk (by omega)
  have hal : (if nI p = cP zu n then cR zu n + 1 else 1 : Int32) = (if cP zu n = nI p then cR zu n + 1 else 1) := by
    by_cases c : cP zu n = nI p
    · rw [if_pos c, if_pos c.symm]
    · rw [if_neg c, if_neg (fun e => c e.symm)]
  obtain ⟨al, hal2⟩ : ∃ al : Int32, al = (if nI p = cP zu n then cR zu n + 1 else 1) := ⟨_, rfl⟩
  have hb51 : mX3_pitchFits_b51 zk zd zg zu zl (nI p) = some (if w 3 < al then 0 else 1) := by
    unfold mX3_pitchFits_b51
    rw [al_X zu hn h ht hp, b1s, ← hal, ← hal2, gds (show vp_in 3 7 from v0 3 (by omega)), show (3 : Int32).toNatClampNeg = 3 from by decide, hw 3 (by omega)]
    by_cases c : w 3 < al
    · rw [if_pos c, if_pos c]
    · rw [if_neg c, if_neg c]
  rw [← hal2]
  unfold mX3_pitchFits mX3_pitchFits_b0
  rw [gds (show vp_in 0 7 from v0 0 (by omega)), gds (show vp_in 1 7 from v0 1 (by omega)), iw, show (0 : Int32).toNatClampNeg = 0 from by decide, show (1 : Int32).toNatClampNeg = 1 from by decide, show (2 : Int32).toNatClampNeg = 2 from by decide, hw 0 (by omega), hw 1 (by omega), hw 2 (by omega), b1s, (lp_X zu hn h ht).1, b1s, gds (show vp_in 2 7 from v0 2 (by omega)), hb51]
  by_cases c0 : w 0 ≤ nI p ∧ nI p ≤ w 1
  · rw [if_pos c0, if_neg z01]
    have key : ∀ fr : Int32, (if fr ≤ w 2 then some (if w 3 < al then 0 else 1) else some (0 : Int32)) = some (if pcd w (nI p) fr al = true then 1 else 0) := by
      intro fr
      by_cases c1 : fr ≤ w 2
      · rw [if_pos c1]
        by_cases c2 : w 3 < al
        · rw [if_pos c2, if_neg (fun q => Int32.not_le.mpr c2 ((pcd_t _ _ _ _).mp q).2.2.2)]
        · rw [if_neg c2, if_pos ((pcd_t _ _ _ _).mpr ⟨c0.1, c0.2, c1, Int32.not_lt.mp c2⟩)]
      · rw [if_neg c1, if_neg (fun q => c1 ((pcd_t _ _ _ _).mp q).2.2.1)]
    obtain ⟨t, a, -, -, -, -, -, h6⟩ := ht
    rcases h6 with h6 | ⟨k, p', dg, hk, hk2, q1, q2, q3, -⟩
    · have e : cP zu n = -1 := by unfold cP; rw [if_pos h6]
      have ef : farP (cP zu n) (nI p) = 0 := by rw [e]; exact if_neg (by decide)
      rw [if_pos e, ef]
      have := key 0
      rw [if_pos hw2] at this
      exact this
    · have e : cP zu n = nI p' := by unfold cP; rw [if_neg (by rw [hk2]; exact nI_m1 (by omega)), hk2, nI_clamp (by omega), q3]
      rw [e, if_neg (nI_m1 (by omega)), far_e (by omega) hp]
      exact key _
  · rw [if_neg c0, if_pos rfl, if_neg (fun q => c0 ⟨((pcd_t _ _ _ _).mp q).1, ((pcd_t _ _ _ _).mp q).2.1⟩)]
theorem add_time {zk zd zg zu zl : OS} {s n : Nat} {dg o l p full : Int32} {w : Nat → Int32} (hw : ∀ j, j < 7 → zk.2.2.1 1 j = w j) (hs : s < 240) (hn : n ≤ 256) (h : zu.1 6 = nI n) (h8 : zg.2.2.1 8 s = dg) (h9 : zg.2.2.1 9 s = o) (h10 : zg.2.2.1 10 s = l) (hp : mX8_pitchOf dg o = some p) (hf : zk.1 5 = full) : mX3_addIfItFits zk zd zg zu zl (nI s) = if tcd w (cT zu n) l full then mX3_addIfItFits_b84 zk zd zg zu zl (nI s) dg p else some (0, zu) := by
  have v4 : vp_in 4 7 := vp_in_nI (n := 4) (by omega) (by omega)
  unfold mX3_addIfItFits mX3_addIfItFits_b0
  rw [gds (vp_in_nI hs (by omega)), nI_clamp (by omega), nms, gds (vp_in_nI hs (by omega)), h8, h9, hp, b1s, time_X zu hn h, b1s, gds (vp_in_nI hs (by omega)), h10, nms, hf, gds v4, show (4 : Int32).toNatClampNeg = 4 from by decide, hw 4 (by omega)]
  by_cases c : cT zu n + l ≤ full
  · rw [if_pos c]
    by_cases c2 : w 4 = 0
    · rw [if_pos c2]
      by_cases c3 : cT zu n / 16 = ((cT zu n + l) - 1) / 16
      · rw [if_pos c3, if_pos ((tcd_t _ _ _ _).mpr ⟨c, Or.inr c3⟩)]
      · rw [if_neg c3, if_neg (fun q => ((tcd_t _ _ _ _).mp q).2.elim (fun q => q c2) c3)]
    · rw [if_neg c2, if_pos ((tcd_t _ _ _ _).mpr ⟨c, Or.inl c2⟩)]
  · rw [if_neg c, if_neg (fun q => c ((tcd_t _ _ _ _).mp q).1)]
theorem xN_a (z : OS) {n : Nat} (hn : n < 2 ^ 31) (v l b dg t : Int32) : (∀ j, j < n → (xN z n v l b dg t).2.2.1 20 j = z.2.2.1 20 j ∧ (xN z n v l b dg t).2.2.1 21 j = z.2.2.1 21 j ∧ (xN z n v l b dg t).2.2.1 22 j = z.2.2.1 22 j ∧ (xN z n v l b dg t).2.2.1 23 j = z.2.2.1 23 j) ∧ (xN z n v l b dg t).2.2.1 20 n = v ∧ (xN z n v l b dg t).2.2.1 21 n = l ∧ (xN z n v l b dg t).2.2.1 22 n = b ∧ (xN z n v l b dg t).2.2.1 23 n = dg := by
  have h0 : (xN z n v l b dg t).2.2.1 20 = upd (z.2.2.1 20) (nI n).toNatClampNeg v := rfl
  have h1 : (xN z n v l b dg t).2.2.1 21 = upd (z.2.2.1 21) (nI n).toNatClampNeg l := rfl
  have h2 : (xN z n v l b dg t).2.2.1 22 = upd (z.2.2.1 22) (nI n).toNatClampNeg b := rfl
  have h3 : (xN z n v l b dg t).2.2.1 23 = upd (z.2.2.1 23) (nI n).toNatClampNeg dg := rfl
  rw [nI_clamp hn] at h0 h1 h2 h3
  refine ⟨fun j hj => ⟨by rw [h0, pk_un (by omega)], by rw [h1, pk_un (by omega)], by rw [h2, pk_un (by omega)], by rw [h3, pk_un (by omega)]⟩, by rw [h0, pk_us], by rw [h1, pk_us], by rw [h2, pk_us], by rw [h3, pk_us]⟩
theorem xN_F (z : OS) (n : Nat) (v l b dg t : Int32) : Fr [32, 33, 34, 35, 36] [20, 21, 22, 23] z (xN z n v l b dg t) :=
  Fr_I (Fr_I (Fr_A (Fr_A (Fr_A (Fr_A (Fr_r _ _ z) (by decide) _ _) (by decide) _ _) (by decide) _ _) (by decide) _ _) (by decide) _) (by decide) _
/-- one item more on both sides -/
theorem one_more {zu z z1 : OS} {n t ln a : Nat} {v dg e : Int32} (hT : Tn zu z n) (hz : z1.2.2.1 = z.2.2.1) (ht : cT zu n = nI t) (hnt : n ≤ t) (hl1 : 1 ≤ ln) (htl : t + ln ≤ 256) (ha : a ≤ n + 1) (h33 : z1.1 33 = nI n) (h32 : z1.1 32 = nI t) (he : e = -1 ∨ ∃ k p d, k < n + 1 ∧ e = nI k ∧ 36 ≤ p ∧ p ≤ 95 ∧ (uN zu n dg v (nI ln) (cT zu n) (nI a) e).2.2.1 0 k = nI p ∧ d < 7 ∧ (uN zu n dg v (nI ln) (cT zu n) (nI a) e).2.2.1 3 k = nI d) (h34 : z1.1 34 = cP (uN zu n dg v (nI ln) (cT zu n) (nI a) e) (n + 1)) (h35 : z1.1 35 = cD (uN zu n dg v (nI ln) (cT zu n) (nI a) e) (n + 1)) (h36 : z1.1 36 = nI a) : Tn (uN zu n dg v (nI ln) (cT zu n) (nI a) e) (xN z1 n v (nI ln) (nI t) dg (nI t + nI ln)) (n + 1) ∧ Cu (uN zu n dg v (nI ln) (cT zu n) (nI a) e) (xN z1 n v (nI ln) (nI t) dg (nI t + nI ln)) (n + 1) := by
  obtain ⟨u0, u1, u2, u3, u4, u5, u6⟩ := uN_a zu (show n < 2 ^ 31 by omega) dg v (nI ln) (cT zu n) (nI a) e
  obtain ⟨x0, x1, x2, x3, x4⟩ := xN_a z1 (show n < 2 ^ 31 by omega) v (nI ln) (nI t) dg (nI t + nI ln)
  have x5 : (xN z1 n v (nI ln) (nI t) dg (nI t + nI ln)).1 34 = z1.1 34 := rfl
  have x6 : (xN z1 n v (nI ln) (nI t) dg (nI t + nI ln)).1 35 = z1.1 35 := rfl
  have x7 : (xN z1 n v (nI ln) (nI t) dg (nI t + nI ln)).1 36 = z1.1 36 := rfl
  have x8 : (xN z1 n v (nI ln) (nI t) dg (nI t + nI ln)).1 33 = nI (n + 1) := rfl
  have x9 : (xN z1 n v (nI ln) (nI t) dg (nI t + nI ln)).1 32 = nI t + nI ln := rfl
  have u7 : (uN zu n dg v (nI ln) (cT zu n) (nI a) e).1 6 = nI (n + 1) := rfl
  obtain ⟨zu', hzu'⟩ : ∃ y, y = uN zu n dg v (nI ln) (cT zu n) (nI a) e := ⟨_, rfl⟩
  obtain ⟨z', hz'⟩ : ∃ y, y = xN z1 n v (nI ln) (nI t) dg (nI t + nI ln) := ⟨_, rfl⟩
  rw [← hzu'] at u0 u1 u2 u3 u4 u5 u6 u7 he h34 h35 ⊢
  rw [← hz'] at x0 x1 x2 x3 x4 x5 x6 x7 x8 x9 ⊢
  have s1 : cT zu' (n + 1) = nI (t + ln) := by
    unfold cT
    rw [if_neg (by omega), Nat.add_sub_cancel, u3, u2, ht, nI_add]
  have s2 : cN zu' (n + 1) = e := by
    unfold cN
    rw [if_neg (by omega), Nat.add_sub_cancel, u5]
  have s3 : cR zu' (n + 1) = nI a := by
    unfold cR
    rw [if_neg (by omega), Nat.add_sub_cancel, u6]
  refine ⟨⟨by omega, fun j hj => ?_, fun m hm => ?_⟩, x8, u7, by rw [s1, x9, nI_add], by rw [x5, h34], by rw [x6, h35], by rw [x7, h36, s3]⟩
  · by_cases c : j = n
    · subst c
      rw [u1, u2, u3, u4, x1, x2, x3, x4, ht]
      exact ⟨rfl, rfl, rfl, rfl⟩
    · have h1 := x0 j (by omega)
      have h2 := hT.2.1 j (by omega)
      rw [u0 0 (by omega) j (by omega), u0 1 (by omega) j (by omega), u0 2 (by omega) j (by omega), u0 3 (by omega) j (by omega), h1.1, h1.2.1, h1.2.2.1, h1.2.2.2, hz]
      exact h2
  · by_cases c : m = n + 1
    · subst c
      refine ⟨t + ln, a, by omega, htl, s1, ha, s3, ?_⟩
      rw [s2]
      exact he
    · exact (c_fr (by have := hT.1; omega) (fun i hi j hj => u0 i hi j (by omega)) (hT.2.2 m (by omega))).2.2.2.2.2
theorem snd_b {al : Nat → Nat} {zg zk zd zu zl z : OS} {s n bars : Nat} (hs : s < 240) (hRS : RS al zg z s) (hnl : zg.2.2.1 7 s = -1) (hb : bars < 17) (hfull : zk.1 5 = nI (16 * bars)) (hw : ∀ j, j < 7 → zk.2.2.1 1 j = z.2.2.1 19 j ∧ stLo j ≤ z.2.2.1 19 j ∧ z.2.2.1 19 j ≤ stHi j) (hd : RD z) (hT : Tn zu z n) (hC : Cu zu z n) : ∃ r zu' z', mX3_addIfItFits zk zd zg zu zl (nI s) = some (r, zu') ∧ mX10_sound z (nI s) (nI bars) = some (r, z') ∧ Fr [32, 33, 34, 35, 36] [20, 21, 22, 23] z z' ∧ ((r = 0 ∧ zu' = zu ∧ Tn zu z' n) ∨ (r = 1 ∧ Tn zu' z' (n + 1) ∧ Cu zu' z' (n + 1) ∧ ∀ i, i < 6 → ∀ j, j < n → zu'.2.2.1 i j = zu.2.2.1 i j)) := by
  obtain ⟨c33, c6, c32, c34, c35, c36⟩ := hC
  have hn := hT.1
  have hTP := hT.2.2 n (Nat.le_refl n)
  obtain ⟨t, a, ht1, ht2, ht3, ha1, ha2, ha3⟩ := hTP
  have hTP := hT.2.2 n (Nat.le_refl n)
  have hw1 : ∀ j, j < 7 → zk.2.2.1 1 j = z.2.2.1 19 j := fun j hj => (hw j hj).1
  have tle : ∀ ln : Nat, ln ≤ 16 → tcd (z.2.2.1 19) (cT zu n) (nI ln) (nI (16 * bars)) = true → t + ln ≤ 256 := by
    intro ln hln q
    have := ((tcd_t _ _ _ _).mp q).1
    rw [ht3, nI_add] at this
    have := (nI_leI (by omega) (by omega)).mp this
    omega
  rcases hRS with ⟨q, hq, -, e, -⟩ | ⟨d, ln, o, hd7, hl1, hl2, ho1, ho2, -, g8, g9, g10, k8, k9, k10, k11⟩ | ⟨ln, hl1, hl2, -, g8, g10, k8, k11⟩
  · rw [hnl] at e
    exact absurd e.symm (nI_m1 (by omega))
  · -- a NOTE
    obtain ⟨p, hp1, hp2, hp⟩ := pit2 hd7 ho1 ho2
    have hpM : (60 + z.2.2.1 0 d) + 12 * Int32.ofInt o = nI p := by rw [hd d hd7, hp]
    have hX := add_time (zd := zd) (zl := zl) hw1 hs hn c6 g8 g9 g10 (by rw [pitchOf_X hd7, hp]) hfull
    have hM := sound_e z (s := s) (bars := bars) (by omega) hb k11 (hw 4 (by omega)).2
    rw [b55_N z (by omega) hd7 k8 k9 k10 hpM, b155_e z (by omega), c32] at hM
    obtain ⟨run, hrun⟩ : ∃ run : Int32, run = (if nI p = cP zu n then cR zu n + 1 else 1) := ⟨_, rfl⟩
    have hrun2 : ∃ a', a' ≤ n + 1 ∧ run = nI a' := by
      rw [hrun]
      by_cases c : nI p = cP zu n
      · rw [if_pos c, ha2, nI_1]; exact ⟨a + 1, by omega, rfl⟩
      · rw [if_neg c]; exact ⟨1, by omega, rfl⟩
    obtain ⟨a', ha', hra⟩ := hrun2
    rw [c34, c36, ← hrun] at hM
    have hF3 : Fr [32, 33, 34, 35, 36] [20, 21, 22, 23] z (sI (sI (sI z 36 run) 34 (nI p)) 35 (z.2.2.1 9 s)) := Fr_I (Fr_I (Fr_I (Fr_r _ _ z) (by decide) _) (by decide) _) (by decide) _
    by_cases c : tcd (z.2.2.1 19) (cT zu n) (nI ln) (nI (16 * bars)) = true
    · rw [if_pos c] at hX hM
      unfold mX3_addIfItFits_b84 at hX
      rw [if_neg (nI_m1 (by omega)), fits_X hw1 (hw 2 (by omega)).2.1 hn c6 hTP (by omega), b1s, ← hrun] at hX
      by_cases c2 : pcd (z.2.2.1 19) (nI p) (farP (cP zu n) (nI p)) run = true
      · have htl := tle ln hl2 c
        rw [if_pos c2, if_neg z01] at hX
        unfold mX3_addIfItFits_b99 at hX
        rw [gds (vp_in_nI hs (by omega)), nI_clamp (by omega), g10, add_N zu (by omega) c6 hTP hd7 (by omega), b1s, show (if cP zu n = nI p then cR zu n + 1 else 1 : Int32) = nI a' from by rw [← hra, hrun]; by_cases e : cP zu n = nI p; (· rw [if_pos e, if_pos e.symm]); (· rw [if_neg e, if_neg (fun y => e y.symm)])] at hX
        rw [if_pos c2, show (1 : Int32) &&& 1 = 1 from by decide, b230_1 _ (by omega) (by omega) (show (sI (sI (sI z 36 run) 34 (nI p)) 35 (z.2.2.1 9 s)).1 33 = nI n from c33), if_pos (nI_pos' (by omega)), show (sI (sI (sI z 36 run) 34 (nI p)) 35 (z.2.2.1 9 s)).1 32 = cT zu n from c32, show (sI (sI (sI z 36 run) 34 (nI p)) 35 (z.2.2.1 9 s)).2.2.1 9 s = nI d from k9, ht3] at hM
        obtain ⟨u0, u1, u2, u3, u4, u5, u6⟩ := uN_a zu (show n < 2 ^ 31 by omega) (nI d) (nI p) (nI ln) (cT zu n) (nI a') (nI n)
        have eN : cN (uN zu n (nI d) (nI p) (nI ln) (cT zu n) (nI a') (nI n)) (n + 1) = nI n := by
          unfold cN
          rw [if_neg (by omega), Nat.add_sub_cancel, u5]
        have om := one_more (z1 := sI (sI (sI z 36 run) 34 (nI p)) 35 (z.2.2.1 9 s)) (e := nI n) (v := nI p) (dg := nI d) hT rfl ht3 ht1 hl1 htl ha' c33 (c32.trans ht3) (Or.inr ⟨n, p, d, by omega, rfl, hp1, hp2, u1, hd7, u4⟩) (by
          unfold cP
          rw [eN, if_neg (nI_m1 (by omega)), nI_clamp (by omega), u1]
          rfl) (by
          unfold cD
          rw [eN, if_neg (nI_m1 (by omega)), nI_clamp (by omega), u4]
          exact k9) hra
        exact ⟨1, _, _, hX, hM, Fr_t hF3 (xN_F _ _ _ _ _ _ _), Or.inr ⟨rfl, om.1, om.2, u0⟩⟩
      · rw [if_neg c2, if_pos rfl] at hX
        rw [if_neg c2, show (1 : Int32) &&& 0 = 0 from by decide, b230_0] at hM
        exact ⟨0, zu, _, hX, hM, hF3, Or.inl ⟨rfl, rfl, hT⟩⟩
    · rw [if_neg c] at hX hM
      rw [Int32.zero_and, b230_0] at hM
      exact ⟨0, zu, _, hX, hM, hF3, Or.inl ⟨rfl, rfl, hT⟩⟩
  · -- a REST
    have hX := add_time (zd := zd) (zl := zl) hw1 hs hn c6 g8 rfl g10 (pitchOf_R _) hfull
    have hM := sound_e z (s := s) (bars := bars) (by omega) hb k11 (hw 4 (by omega)).2
    rw [b55_R z (by omega) k8, c32] at hM
    by_cases c : tcd (z.2.2.1 19) (cT zu n) (nI ln) (nI (16 * bars)) = true
    · have htl := tle ln hl2 c
      rw [if_pos c] at hX hM
      unfold mX3_addIfItFits_b84 mX3_addIfItFits_b99 at hX
      rw [if_pos rfl, gds (vp_in_nI hs (by omega)), nI_clamp (by omega), g10, add_R zu (by omega) c6, b1s, ha2] at hX
      rw [b230_1 z (by omega) (by omega) c33, if_neg (by decide), c32, ht3] at hM
      obtain ⟨u0, u1, u2, u3, u4, u5, u6⟩ := uN_a zu (show n < 2 ^ 31 by omega) (-1) (-1) (nI ln) (cT zu n) (nI a) (cN zu n)
      have eN : cN (uN zu n (-1) (-1) (nI ln) (cT zu n) (nI a) (cN zu n)) (n + 1) = cN zu n := by
        unfold cN
        rw [if_neg (by omega), Nat.add_sub_cancel]
        exact u5
      have ePD : cP (uN zu n (-1) (-1) (nI ln) (cT zu n) (nI a) (cN zu n)) (n + 1) = cP zu n ∧ cD (uN zu n (-1) (-1) (nI ln) (cT zu n) (nI a) (cN zu n)) (n + 1) = cD zu n := by
        unfold cP cD
        rw [eN]
        rcases ha3 with h6 | ⟨k, p, dg, hk, hk2, -⟩
        · rw [if_pos h6, if_pos h6, if_pos h6, if_pos h6]; exact ⟨rfl, rfl⟩
        · have : ¬ cN zu n = -1 := by rw [hk2]; exact nI_m1 (by omega)
          rw [if_neg this, if_neg this, if_neg this, if_neg this, show (cN zu n).toNatClampNeg = k from by rw [hk2, nI_clamp (by omega)], u0 0 (by omega) k hk, u0 3 (by omega) k hk]
          exact ⟨rfl, rfl⟩
      have om := one_more (z1 := z) (e := cN zu n) (v := -1) (dg := -1) (a := a) hT rfl ht3 ht1 hl1 htl (by omega) c33 (c32.trans ht3) (by
        rcases ha3 with h6 | ⟨k, p, dg, hk, hk2, q1, q2, q3, q4, q5⟩
        · exact Or.inl h6
        · exact Or.inr ⟨k, p, dg, by omega, hk2, q1, q2, by rw [u0 0 (by omega) k hk]; exact q3, q4, by rw [u0 3 (by omega) k hk]; exact q5⟩) (by rw [ePD.1]; exact c34) (by rw [ePD.2]; exact c35) (c36.trans ha2)
      exact ⟨1, _, _, hX, hM, xN_F _ _ _ _ _ _ _, Or.inr ⟨rfl, om.1, om.2, u0⟩⟩
    · rw [if_neg c] at hX hM
      rw [b230_0] at hM
      exact ⟨0, zu, z, hX, hM, Fr_r _ _ z, Or.inl ⟨rfl, rfl, hT⟩⟩

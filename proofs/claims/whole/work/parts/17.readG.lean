theorem SG_fr {zh zh' z z' : OS} {S k k' : Nat} {pl : Nat → Nat} (h : SG zh z S k pl) (hk : k ≤ k') (h13 : zh'.1 13 = zh.1 13) (h1 : ∀ i, i = 3 ∨ (7 ≤ i ∧ i ≤ 10) → zh'.2.2.1 i = zh.2.2.1 i) (h2 : ∀ i, 8 ≤ i → i ≤ 12 → z'.2.2.1 i = z.2.2.1 i) : SG zh' z' S k' pl := by
  obtain ⟨s1, s2, s3, s4, s5, s6⟩ := h
  refine ⟨h13.trans s1, s2, fun s hs => RSu_fr (s3 s hs) (fun i a b => by rw [h1 i (Or.inr ⟨a, b⟩)]) (fun i a b => by rw [h2 i a b]) rfl, s4, fun s hs => by have := s5 s hs; omega, fun q hq => ?_⟩
  have := s6 q hq
  unfold FU at this ⊢
  rw [h1 3 (Or.inl rfl), h1 7 (Or.inr ⟨by omega, by omega⟩)]
  exact this
theorem upN_id {f : Nat → Nat} {k v : Nat} (h : f k = v) : upN f k v = f := funext fun j => by
  unfold upN
  by_cases c : j = k
  · rw [if_pos c, c, h]
  · rw [if_neg c]
theorem Lw_S {z0 z z' : OS} {S : Nat} (hL : Lw z0 z) (h : Fr [17, 18] [8, 9, 10, 11, 12] z z') (h2 : ∀ i j, 8 ≤ i → i ≤ 12 → j ≠ 241 + S → z'.2.2.1 i j = z.2.2.1 i j) : Lw z0 z' := by
  refine ⟨fun i a b => (h.1 i (by simp; omega)).trans (hL.1 i a b), h.2.1.trans hL.2.1, fun i j hij => ?_, h.2.2.2.trans hL.2.2.2⟩
  rw [← hL.2.2.1 i j hij]
  by_cases c : 8 ≤ i ∧ i ≤ 12
  · refine h2 i j c.1 c.2 ?_
    rcases hij with hij | hij
    · omega
    · unfold loB at hij
      rw [if_neg (by omega), if_neg (by omega), if_pos (by omega)] at hij
      omega
  · rw [h.2.2.1 i (by simp; omega)]
theorem sgn_f {ch : Nat → Int32} {n : Nat} {zs z zr zh : OS} {F k : Nat} (ht : Tx ch n zs z) (hk : k ≤ n) (hr : zr.1 2 = nI k) (hS : ¬ isS (pkc ch n k) = true) : mX5_readSign F zr zs zh = some (0, sI zr 3 (nI k), zh) := by
  have hn := ht.1
  have h1 : ¬ (65 ≤ pkc ch n k ∧ pkc ch n k ≤ 90) := fun e => hS ((isS_t _).mpr (Or.inl e))
  have h2 : ¬ (48 ≤ pkc ch n k ∧ pkc ch n k ≤ 54) := fun e => hS ((isS_t _).mpr (Or.inr (Or.inl e)))
  have h3 : ¬ pkc ch n k = 114 := fun e => hS ((isS_t _).mpr (Or.inr (Or.inr e)))
  unfold mX5_readSign mX5_readSign_b0
  rw [here_X ht (by omega) hr, b1s, (ltr _).1, b1s, if_neg h1, if_pos rfl, dgr, b1s, if_neg h2, if_pos rfl, if_neg h3, hr]
  rfl
theorem ilr_X {ch : Nat → Int32} {n : Nat} {zs z zr zh : OS} {F k : Nat} (ht : Tx ch n zs z) (hF : 1300 < F) (hk : k ≤ n) (hr : zr.1 2 = nI k) : mX5_isLetterOfRule F zr zs zh = some (if isE ch n k = true then 1 else 0) := by
  have hn := ht.1
  unfold mX5_isLetterOfRule mX5_isLetterOfRule_b0
  rw [here_X ht (by omega) hr, b1s, (ltr _).1, b1s, hr, nI_1]
  by_cases c1 : 65 ≤ pkc ch n k ∧ pkc ch n k ≤ 90
  · have hkn : k < n := pkc_in (fun e => by rw [e] at c1; exact absurd c1 (by decide))
    have hk1 := skc_ok (ch := ch) (n := n) (k := k + 1) (by omega)
    rw [if_pos c1, if_neg z01, skip_X ht (by omega) (by omega), b1s, at_X ht (by omega), b1s]
    by_cases c2 : pkc ch n (skc ch n (k + 1)) = 61
    · rw [if_pos c2, if_pos ((isE_t _ _ _).mpr ⟨c1, c2⟩)]
    · rw [if_neg c2, if_neg (fun e => c2 ((isE_t _ _ _).mp e).2)]
  · rw [if_neg c1, if_pos rfl, if_neg (fun e => c1 ((isE_t _ _ _).mp e).1)]
theorem cas_X {zh : OS} {A i S : Nat} (hi : i ≤ 12) (hiS : i ≤ S) (hS : S ≤ 240) (hA : A + 1 ≤ 48) (h13 : zh.1 13 = nI S) (h12 : zh.1 12 = nI (A + 1)) (h5 : zh.2.2.1 5 A = nI (S - i)) : mX2_canAddSign zh = some (if i = 12 ∨ S = 240 then 0 else 1) := by
  unfold mX2_canAddSign mX2_canAddSign_b0
  rw [h13, h12, if_neg (nI_nle (by omega) (by omega)), nI_pred, gds (vp_in_nI (by omega) (by omega)), nI_clamp (by omega), h5, nI_sub (by omega), show S - (S - i) = i by omega]
  by_cases c1 : S = 240
  · rw [if_pos (show (240 : Int32) ≤ nI S from by rw [c1]; decide), if_pos (Or.inr c1)]
  · rw [if_neg (show ¬ (240 : Int32) ≤ nI S from nI_ge (b := 240) (by omega) (by omega))]
    by_cases c2 : i = 12
    · rw [if_pos (show (12 : Int32) ≤ nI i from by rw [c2]; decide), if_pos (Or.inl c2)]
    · rw [if_neg (show ¬ (12 : Int32) ≤ nI i from nI_ge (b := 12) (by omega) (by omega)), if_neg (fun e => e.elim c2 c1)]
/-- one turn of the class's loop -/
theorem sgX_step {ch : Nat → Int32} {n : Nat} {zs z zr zh : OS} {F f p k A i S : Nat} (ht : Tx ch n zs z) (hF : 1300 < F) (hp : p ≤ n) (hpk : skc ch n p = k) (hr : zr.1 2 = nI p) (hi : i ≤ 12) (hiS : i ≤ S) (hS : S ≤ 240) (hA : A + 1 ≤ 48) (h13 : zh.1 13 = nI S) (h12 : zh.1 12 = nI (A + 1)) (h5 : zh.2.2.1 5 A = nI (S - i)) : mX5_readSigns_b2 F (f + 1) zr zs zh (nI i) = (if pkc ch n k = -1 ∨ pkc ch n k = 124 then (if 0 < i then some (1, sI zr 2 (nI k), zh) else some (0, sI (sI zr 2 (nI k)) 3 (nI k), zh)) else if isE ch n k = true ∧ 0 < i then some (1, sI zr 2 (nI k), zh) else if i = 12 ∨ S = 240 then some (0, sI (sI zr 2 (nI k)) 3 (nI k), zh) else b3 (mX5_readSign F (sI zr 2 (nI k)) zs zh) (fun r21 zr22 zg23 => if (r21 : Int32) = 0 then some (0, zr22, zg23) else mX5_readSigns_b2 F f zr22 zs zg23 (nI (i + 1)))) := by
  have hn := ht.1
  have hks := skc_ok (ch := ch) hp
  rw [hpk] at hks
  obtain ⟨zr4, hzr4⟩ : ∃ y, y = sI zr 2 (nI k) := ⟨_, rfl⟩
  have r2 : zr4.1 2 = nI k := by rw [hzr4]; rfl
  have i0 : (0 < nI i) ↔ 0 < i := nI_ltI (a := 0) (by omega) (by omega)
  have e74 : mX5_readSigns_b74 F (mX5_readSigns_b2 F f) zr4 zs zh (nI i) = (if i = 12 ∨ S = 240 then some (0, sI zr4 3 (nI k), zh) else b3 (mX5_readSign F zr4 zs zh) (fun r21 zr22 zg23 => if (r21 : Int32) = 0 then some (0, zr22, zg23) else mX5_readSigns_b2 F f zr22 zs zg23 (nI (i + 1)))) := by
    unfold mX5_readSigns_b74
    rw [cas_X hi hiS hS hA h13 h12 h5, b1s, r2]
    by_cases c5 : i = 12 ∨ S = 240
    · rw [if_pos c5, if_pos rfl, if_pos c5]
      rfl
    · rw [if_neg c5, if_neg z01, if_neg c5]
      simp only [nms, nI_1]
  rw [mX5_readSigns_b2, if_neg (show ¬ (12 : Int32) < nI i from nI_nlt (a := 12) (by omega) (by omega)), hr, skip_X ht (by omega) hp, hpk, b1s, nms, ← hzr4, here_X ht (by omega) r2, b1s, b1s, ilr_X ht hF (by omega) r2, b1s, e74]
  have e40 : mX5_readSigns_b40 F zr4 zs zh (nI i) = (if 0 < i then some (1, zr4, zh) else some (0, sI zr4 3 (nI k), zh)) := by
    unfold mX5_readSigns_b40
    rw [r2]
    by_cases c : 0 < i
    · rw [if_pos (i0.mpr c), if_pos c]
    · rw [if_neg (fun e => c (i0.mp e)), if_neg c]
      rfl
  rw [e40]
  by_cases c1 : pkc ch n k = -1
  · rw [if_pos c1, if_pos (Or.inl c1)]
  rw [if_neg c1]
  by_cases c2 : pkc ch n k = 124
  · rw [if_pos c2, if_pos (Or.inr c2)]
  rw [if_neg c2, if_neg (c := pkc ch n k = -1 ∨ pkc ch n k = 124) (fun e => e.elim c1 c2)]
  by_cases c4 : 0 < i
  · rw [if_neg (show ¬ nI i ≤ 0 from fun e => absurd (i0.mpr c4) (Int32.not_lt.mpr e))]
    by_cases c3 : isE ch n k = true
    · rw [if_pos c3, if_neg z01, if_pos ⟨c3, c4⟩]
    · rw [if_neg c3, if_pos rfl, if_neg (c := isE ch n k = true ∧ 0 < i) (fun e => c3 e.1)]
  · rw [if_pos (show nI i ≤ 0 from Int32.not_lt.mp (fun e => c4 (i0.mp e))), if_neg (c := isE ch n k = true ∧ 0 < i) (fun e => c4 e.2)]
theorem sgl_b {ch : Nat → Int32} {n : Nat} {zs z0 : OS} {F R A S0 : Nat} {fa al wt fs sc : Nat → Nat} (ht0 : Tx ch n zs z0) (hF : 1300 < F) (hfs : fs A = S0) : ∀ (d S p k0 f1 f2 : Nat) (zr zh z : OS) (pl : Nat → Nat), S0 + 12 - S < d → S0 ≤ S → S ≤ S0 + 12 → d ≤ f1 → d + 3 < f2 → Lw z0 z → k0 ≤ p → p ≤ n → zr.1 2 = nI p → z.1 17 = nI p → z.1 18 = -1 → AGr zh z R (A + 1) S fa al wt fs (upN sc A (S - S0)) → SG zh z S p pl → ∃ (v : Int32) (zr' zh' : OS) (e : Int32) (z' : OS), mX5_readSigns_b2 F f1 zr zs zh (nI (S - S0)) = some (v, zr', zh') ∧ mX10_readSigns_b10 F f2 z (nI (48 + A)) = some (e, z') ∧ Lw z0 z' ∧ ((v = 0 ∧ e = 2 ∧ ∃ p, p ≤ n ∧ zr'.1 3 = nI p ∧ z'.1 18 = nI p) ∨ (v = 1 ∧ z'.1 18 = -1 ∧ ∃ (k' S' : Nat) (pl' : Nat → Nat), k0 ≤ k' ∧ k' ≤ n ∧ zr'.1 2 = nI k' ∧ S0 < S' ∧ SG zh' z' S' k' pl' ∧ AGr zh' z' R (A + 1) S' fa al wt fs (upN sc A (S' - S0)) ∧ Fr [13] [3, 6, 7, 8, 9, 10] zh zh' ∧ Fr [17] [7, 8, 9, 10, 11, 12, 15] z z' ∧ ((pkc ch n k' = -1 ∧ e = 2 ∧ z'.1 17 = nI k') ∨ (pkc ch n k' = 124 ∧ e = 0 ∧ z'.1 17 = nI (k' + 1)) ∨ ((65 ≤ pkc ch n k' ∧ pkc ch n k' ≤ 90) ∧ pkc ch n (skc ch n (k' + 1)) = 61 ∧ e = 1 ∧ z'.1 17 = nI k')))) := by
  have hn := ht0.1
  intro d
  induction d with
  | zero => intro S p k0 f1 f2 zr zh z pl h; omega
  | succ d ih =>
    intro S p k0 f1 f2 zr zh z pl hd hS0 hS12 hf1 hf2 hL hk0 hp hr h17 h18 h hG
    obtain ⟨f1, rfl⟩ : ∃ g, f1 = g + 1 := ⟨f1 - 1, by omega⟩
    obtain ⟨f2, rfl⟩ : ∃ g, f2 = g + 3 := ⟨f2 - 3, by omega⟩
    have ht := Tx_L ht0 hL
    have hAG := h
    obtain ⟨g1, g2, g3, g4, g5, g6, g7, g8, g9, g10⟩ := h
    obtain ⟨m1, m2, m3, m4, m5, m6, m7, m8, m9, m10⟩ := g10 A (by omega)
    rw [upN_s] at m3 m4 m9 m10
    rw [hfs] at m7
    obtain ⟨k, hk⟩ : ∃ k, k = skc ch n p := ⟨_, rfl⟩
    have hks := skc_ok (ch := ch) hp
    rw [← hk] at hks
    have eX := sgX_step (f := f1) (zr := zr) (zh := zh) ht hF hp hk.symm hr (show S - S0 ≤ 12 by omega) (by omega) g3 g2 hG.1 g6 (by rw [show S - (S - S0) = S0 by omega]; exact m7)
    have eM := sgM_step (f := f2 + 2) (a := 48 + A) ht hF hp hk.symm h17 h18 (by omega) (show S - S0 ≤ 12 by omega) g3 m10 g8
    have L4 : Lw z0 (sI z 17 (nI k)) := Lw_I hL (Or.inl rfl) _
    have F4 : Fr [17] [7, 8, 9, 10, 11, 12, 15] z (sI z 17 (nI k)) := Fr_I (Fr_r _ _ z) (by decide) _
    -- an end of the SIGNS
    have fin : ∀ (e : Int32) (z' : OS), 0 < S - S0 → mX5_readSigns_b2 F (f1 + 1) zr zs zh (nI (S - S0)) = some (1, sI zr 2 (nI k), zh) → mX10_readSigns_b10 F (f2 + 3) z (nI (48 + A)) = some (e, z') → Lw z0 z' → Fr [17] [7, 8, 9, 10, 11, 12, 15] z z' → z'.2.2.1 = z.2.2.1 → ((pkc ch n k = -1 ∧ e = 2 ∧ z'.1 17 = nI k) ∨ (pkc ch n k = 124 ∧ e = 0 ∧ z'.1 17 = nI (k + 1)) ∨ ((65 ≤ pkc ch n k ∧ pkc ch n k ≤ 90) ∧ pkc ch n (skc ch n (k + 1)) = 61 ∧ e = 1 ∧ z'.1 17 = nI k)) → ∃ (v : Int32) (zr' zh' : OS) (e : Int32) (z' : OS), mX5_readSigns_b2 F (f1 + 1) zr zs zh (nI (S - S0)) = some (v, zr', zh') ∧ mX10_readSigns_b10 F (f2 + 3) z (nI (48 + A)) = some (e, z') ∧ Lw z0 z' ∧ ((v = 0 ∧ e = 2 ∧ ∃ p, p ≤ n ∧ zr'.1 3 = nI p ∧ z'.1 18 = nI p) ∨ (v = 1 ∧ z'.1 18 = -1 ∧ ∃ (k' S' : Nat) (pl' : Nat → Nat), k0 ≤ k' ∧ k' ≤ n ∧ zr'.1 2 = nI k' ∧ S0 < S' ∧ SG zh' z' S' k' pl' ∧ AGr zh' z' R (A + 1) S' fa al wt fs (upN sc A (S' - S0)) ∧ Fr [13] [3, 6, 7, 8, 9, 10] zh zh' ∧ Fr [17] [7, 8, 9, 10, 11, 12, 15] z z' ∧ ((pkc ch n k' = -1 ∧ e = 2 ∧ z'.1 17 = nI k') ∨ (pkc ch n k' = 124 ∧ e = 0 ∧ z'.1 17 = nI (k' + 1)) ∨ ((65 ≤ pkc ch n k' ∧ pkc ch n k' ≤ 90) ∧ pkc ch n (skc ch n (k' + 1)) = 61 ∧ e = 1 ∧ z'.1 17 = nI k')))) := by
      intro e z' hi e1 e2 hL' hF' hz' hc
      refine ⟨1, _, zh, e, z', e1, e2, hL', Or.inr ⟨rfl, (hF'.1 18 (by decide)).trans h18, k, S, pl, by omega, by omega, rfl, by omega, SG_fr hG (by omega) rfl (fun _ _ => rfl) (fun i _ _ => by rw [hz']), ?_, Fr_r _ _ zh, hF', hc⟩⟩
      unfold AGr at hAG ⊢
      rw [hz']
      exact hAG
    -- a FAULT at this place
    have flt : mX5_readSigns_b2 F (f1 + 1) zr zs zh (nI (S - S0)) = some (0, sI (sI zr 2 (nI k)) 3 (nI k), zh) → mX10_readSigns_b10 F (f2 + 3) z (nI (48 + A)) = mX10_readSigns_b10 F (f2 + 2) (sI (sI z 17 (nI k)) 18 (nI k)) (nI (48 + A)) → ∃ (v : Int32) (zr' zh' : OS) (e : Int32) (z' : OS), mX5_readSigns_b2 F (f1 + 1) zr zs zh (nI (S - S0)) = some (v, zr', zh') ∧ mX10_readSigns_b10 F (f2 + 3) z (nI (48 + A)) = some (e, z') ∧ Lw z0 z' ∧ ((v = 0 ∧ e = 2 ∧ ∃ p, p ≤ n ∧ zr'.1 3 = nI p ∧ z'.1 18 = nI p) ∨ (v = 1 ∧ z'.1 18 = -1 ∧ ∃ (k' S' : Nat) (pl' : Nat → Nat), k0 ≤ k' ∧ k' ≤ n ∧ zr'.1 2 = nI k' ∧ S0 < S' ∧ SG zh' z' S' k' pl' ∧ AGr zh' z' R (A + 1) S' fa al wt fs (upN sc A (S' - S0)) ∧ Fr [13] [3, 6, 7, 8, 9, 10] zh zh' ∧ Fr [17] [7, 8, 9, 10, 11, 12, 15] z z' ∧ ((pkc ch n k' = -1 ∧ e = 2 ∧ z'.1 17 = nI k') ∨ (pkc ch n k' = 124 ∧ e = 0 ∧ z'.1 17 = nI (k' + 1)) ∨ ((65 ≤ pkc ch n k' ∧ pkc ch n k' ≤ 90) ∧ pkc ch n (skc ch n (k' + 1)) = 61 ∧ e = 1 ∧ z'.1 17 = nI k')))) := by
      intro e1 e2
      refine ⟨0, _, _, 2, sI (sI z 17 (nI k)) 18 (nI k), e1, by rw [e2, sgM_end F (f2 + 1) (p := k) (by omega) rfl], Lw_I L4 (Or.inr rfl) _, Or.inl ⟨rfl, rfl, k, by omega, rfl, rfl⟩⟩
    by_cases cA : pkc ch n k = -1 ∨ pkc ch n k = 124
    · rw [if_pos cA] at eX
      have nE : ¬ isE ch n k = true := fun e => by
        have := ((isE_t _ _ _).mp e).1
        rcases cA with c | c <;> (rw [c] at this; exact absurd this (by decide))
      have nS : ¬ isS (pkc ch n k) = true := by
        rcases cA with c | c <;> (rw [c]; decide)
      by_cases ci : 0 < S - S0
      · rw [if_pos ci] at eX
        rcases cA with c | c
        · rw [if_pos ⟨c, ci⟩] at eM
          exact fin 2 _ ci eX eM L4 F4 rfl (Or.inl ⟨c, rfl, rfl⟩)
        · rw [if_neg (fun e => by rw [c] at e; exact absurd e.1 (by decide)), if_pos ⟨c, ci⟩] at eM
          exact fin 0 _ ci eX eM (Lw_I L4 (Or.inl rfl) _) (Fr_I F4 (by decide) _) rfl (Or.inr (Or.inl ⟨c, rfl, rfl⟩))
      · rw [if_neg ci] at eX
        rw [if_neg (fun e => ci e.2), if_neg (fun e => ci e.2), if_neg (fun e => ci e.2), if_pos (Or.inl nS)] at eM
        exact flt eX eM
    have nA1 : ¬ pkc ch n k = -1 := fun e => cA (Or.inl e)
    have nA2 : ¬ pkc ch n k = 124 := fun e => cA (Or.inr e)
    rw [if_neg cA] at eX
    rw [if_neg (fun e => nA1 e.1), if_neg (fun e => nA2 e.1)] at eM
    have hkn : k < n := pkc_in nA1
    by_cases cE : isE ch n k = true ∧ 0 < S - S0
    · -- the next RULE
      rw [if_pos cE] at eX eM
      have := (isE_t _ _ _).mp cE.1
      exact fin 1 _ cE.2 eX eM L4 F4 rfl (Or.inr (Or.inr ⟨this.1, this.2, rfl, rfl⟩))
    rw [if_neg cE] at eX eM
    by_cases cF : S - S0 = 12 ∨ S = 240
    · rw [if_pos cF] at eX
      rw [if_pos (Or.inr cF)] at eM
      exact flt eX eM
    rw [if_neg cF] at eX
    by_cases cS : ¬ isS (pkc ch n k) = true
    · -- no SIGN
      rw [if_pos (Or.inl cS)] at eM
      refine flt ?_ eM
      rw [eX, sgn_f ht (zr := sI zr 2 (nI k)) (by omega) rfl cS, b3s, if_pos rfl]
    have cS := Decidable.not_not.mp cS
    rw [if_neg (fun e => e.elim (fun e => e cS) cF)] at eM
    have hSl : S < 240 := by omega
    have hSG4 : SG zh (sI z 17 (nI k)) S k pl := SG_fr hG (by omega) rfl (fun _ _ => rfl) (fun _ _ _ => rfl)
    obtain ⟨v, zr5, zh5, z5, w1, w2, w3, w4, w5⟩ := sgn_b (F := F) (zr := sI zr 2 (nI k)) (A := A) (show Tx ch n zs (sI z 17 (nI k)) from ht) (by omega) hkn rfl rfl h18 hSG4 hSl (by omega) g6 ((isS_t _).mp cS)
    have L5 : Lw z0 z5 := Lw_S L4 w3 w4
    have a7 : z5.2.2.1 7 = z.2.2.1 7 := w3.2.2.1 7 (by decide)
    have a15 : z5.2.2.1 15 = z.2.2.1 15 := w3.2.2.1 15 (by decide)
    unfold sgN at eM
    rw [w2, b1s, a7, a15, m10, g8, nI_1, nI_1] at eM
    obtain ⟨z6, hz6⟩ : ∃ y, y = sA (sA z5 7 (nI (48 + A)) (nI (S - S0 + 1))) 15 1 (nI (S + 1)) := ⟨_, rfl⟩
    have L6 : Lw z0 z6 := by
      rw [hz6]
      exact Lw_A (i := 1) (Lw_A L5 (by omega) (show loB 7 ≤ 48 + A from by show 48 ≤ 48 + A; omega) (by omega) _) (by omega) (by decide) (by omega) _
    rw [← hz6] at eM
    rw [w1, b3s] at eX
    rcases w5 with ⟨v0, q, q1, q2, q3⟩ | ⟨v0, x18, k5, x1, x2, x3, x4, x5, x6, x7⟩
    · subst v0
      rw [if_pos rfl] at eX
      refine ⟨0, _, _, 2, z6, eX, by rw [eM, sgM_end F (f2 + 1) (p := q) (by omega) (by rw [hz6]; exact q3)], L6, Or.inl ⟨rfl, rfl, q, q1, q2, by rw [hz6]; exact q3⟩⟩
    · subst v0
      rw [if_neg z01] at eX
      have b7 : z6.2.2.1 7 = upd (z.2.2.1 7) (48 + A) (nI (S - S0 + 1)) := by
        rw [hz6]
        show upd (z5.2.2.1 7) (nI (48 + A)).toNatClampNeg _ = _
        rw [nI_clamp (by omega), a7]
      have b15 : z6.2.2.1 15 = upd (z.2.2.1 15) 1 (nI (S + 1)) := by
        rw [hz6]
        show upd (z5.2.2.1 15) 1 _ = _
        rw [a15]
      have bo : ∀ i, i ∉ [7, 8, 9, 10, 11, 12, 15] → z6.2.2.1 i = z.2.2.1 i := by
        intro i hi
        rw [hz6]
        show va_up (va_up z5.2.2.1 7 _) 15 _ i = _
        rw [va_up_ne _ _ (fun e => hi (by rw [e]; decide)), va_up_ne _ _ (fun e => hi (by rw [e]; decide)), w3.2.2.1 i (fun e => hi ((by decide : ∀ i, i ∈ [8, 9, 10, 11, 12] → i ∈ [7, 8, 9, 10, 11, 12, 15]) i e))]
        rfl
      have F6 : Fr [17] [7, 8, 9, 10, 11, 12, 15] z z6 := by
        refine ⟨fun i hi => ?_, ?_, bo, ?_⟩
        · have hi : i ≠ 17 := by simpa using hi
          rw [hz6]
          show z5.1 i = _
          by_cases c : i = 18
          · subst c; rw [x18, h18]
          · rw [w3.1 i (by simp; omega)]
            exact va_up_ne _ _ hi
        · rw [hz6]; exact w3.2.1
        · rw [hz6]; exact w3.2.2.2
      have hAG6 : AGr zh5 z6 R (A + 1) (S + 1) fa al wt fs (upN sc A (S + 1 - S0)) := by
        have uo : ∀ i, i ∉ [3, 6, 7, 8, 9, 10] → zh5.2.2.1 i = zh.2.2.1 i := x7.2.2.1
        refine ⟨g1, g2, by omega, by rw [x7.1 11 (by decide)]; exact g4, by rw [bo 13 (by decide)]; exact g5, by rw [x7.1 12 (by decide)]; exact g6, by rw [bo 14 (by decide)]; exact g7, by rw [b15, pk_us], fun q hq => ?_, fun a ha => ?_⟩
        · rw [uo 1 (by decide), uo 2 (by decide), uo 0 (by decide), bo 4 (by decide), bo 3 (by decide)]
          exact g9 q hq
        · obtain ⟨r1, r2, r3, r4, r5, r6, r7, r8, r9, r10⟩ := g10 a ha
          rw [uo 4 (by decide), uo 5 (by decide), bo 5 (by decide), bo 6 (by decide), x6, b7]
          by_cases c : a = A
          · subst c
            rw [upN_s, pk_us, pk_us]
            refine ⟨r1, r2, by omega, by omega, r5, r6, r7, r8, ?_, ?_⟩
            · rw [hfs, show S0 + (S + 1 - S0) = S + 1 by omega]
            · rw [show S - S0 + 1 = S + 1 - S0 by omega]
          · rw [upN_n _ c] at r3 r4 r9 r10
            rw [upN_n _ c, pk_un c, pk_un (by omega)]
            exact ⟨r1, r2, r3, by omega, r5, r6, r7, r8, r9, r10⟩
      have hSG6 : SG zh5 z6 (S + 1) k5 (plU pl S k) := SG_fr x5 (Nat.le_refl _) rfl (fun _ _ => rfl) (fun i h1 h2 => by
        rw [hz6]
        show va_up (va_up z5.2.2.1 7 _) 15 _ i = _
        rw [va_up_ne _ _ (by omega), va_up_ne _ _ (by omega)])
      obtain ⟨v, zr7, zh7, e, z7, o1, o2, o3, o4⟩ := ih (S + 1) k5 k0 f1 (f2 + 2) zr5 zh5 z6 (plU pl S k) (by omega) (by omega) (by omega) (by omega) (by omega) L6 (by omega) x2 x3 (by rw [hz6]; exact x4) (by rw [hz6]; exact x18) hAG6 hSG6
      rw [show S + 1 - S0 = S - S0 + 1 by omega] at o1
      refine ⟨v, zr7, zh7, e, z7, by rw [eX, o1], by rw [eM, o2], o3, ?_⟩
      rcases o4 with o4 | ⟨p0, p1, k', S', pl', p2, p3, p4, p5, p6, p7, p8, p9, p10⟩
      · exact Or.inl o4
      · exact Or.inr ⟨p0, p1, k', S', pl', p2, p3, p4, p5, p6, p7, Fr_t x7 p8, Fr_t F6 p9, p10⟩
theorem sgs_b {ch : Nat → Int32} {n : Nat} {zs z0 z zr zh : OS} {F R A S k : Nat} {fa al wt fs sc pl : Nat → Nat} (ht0 : Tx ch n zs z0) (hL : Lw z0 z) (hF : 1300 < F) (hk : k ≤ n) (hr : zr.1 2 = nI k) (h17 : z.1 17 = nI k) (h18 : z.1 18 = -1) (h : AGr zh z R (A + 1) S fa al wt fs sc) (hsc : sc A = 0) (hfs : fs A = S) (hG : SG zh z S k pl) : ∃ (v : Int32) (zr' zh' : OS) (e : Int32) (z' : OS), mX5_readSigns F zr zs zh = some (v, zr', zh') ∧ mX10_readSigns F z = some (e, z') ∧ Lw z0 z' ∧ ((v = 0 ∧ e = 2 ∧ ∃ p, p ≤ n ∧ zr'.1 3 = nI p ∧ z'.1 18 = nI p) ∨ (v = 1 ∧ z'.1 18 = -1 ∧ ∃ (k' S' : Nat) (pl' : Nat → Nat), k ≤ k' ∧ k' ≤ n ∧ zr'.1 2 = nI k' ∧ S < S' ∧ SG zh' z' S' k' pl' ∧ AGr zh' z' R (A + 1) S' fa al wt fs (upN sc A (S' - S)) ∧ Fr [13] [3, 6, 7, 8, 9, 10] zh zh' ∧ Fr [17] [7, 8, 9, 10, 11, 12, 15] z z' ∧ ((pkc ch n k' = -1 ∧ e = 2 ∧ z'.1 17 = nI k') ∨ (pkc ch n k' = 124 ∧ e = 0 ∧ z'.1 17 = nI (k' + 1)) ∨ ((65 ≤ pkc ch n k' ∧ pkc ch n k' ≤ 90) ∧ pkc ch n (skc ch n (k' + 1)) = 61 ∧ e = 1 ∧ z'.1 17 = nI k')))) := by
  have e0 : S - S = 0 := Nat.sub_self S
  obtain ⟨v, zr', zh', e, z', o1, o2, o3⟩ := sgl_b (R := R) (A := A) (S0 := S) (sc := sc) ht0 hF hfs 13 S k k F F zr zh z pl (by omega) (by omega) (by omega) (by omega) (by omega) hL (Nat.le_refl k) hk hr h17 h18 (by rw [e0, upN_id hsc]; exact h) hG
  rw [e0] at o1
  refine ⟨v, zr', zh', e, z', o1, ?_, o3⟩
  unfold mX10_readSigns mX10_readSigns_b0
  rw [gds v12, k1, h.2.2.2.2.2.2.1, nms, show (47 : Int32) + nI (A + 1) = nI (48 + A) from by rw [show (47 : Int32) = nI 47 from rfl, nI_add, show 47 + (A + 1) = 48 + A by omega]]
  exact o2

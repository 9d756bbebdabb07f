/-! read, ninth: all RULES on both sides -/
theorem all_b {ch : Nat → Int32} {n : Nat} {zs z0 : OS} {F : Nat} (ht0 : Tx ch n zs z0) (hF : 1300 < F) : ∀ (d R A S p k f1 f2 : Nat) (zr zh z : OS) (a1 : Int32) (fa al wt fs sc pl : Nat → Nat), 16 - R < d → R ≤ 16 → d < f1 → d + 1 < f2 → Lw z0 z → p ≤ n → skc ch n p = k → zr.1 2 = nI k → z.1 17 = nI p → z.1 18 = -1 → AGr zh z R A S fa al wt fs sc → SG zh z S k pl → (∀ a, a < A → 1 ≤ sc a) → (0 < R → ∃ q, q < 26 ∧ 0 < al q ∧ zh.1 14 = nI q ∧ z.2.2.1 16 1 = nI q) → ((R = 0 ∧ a1 = 1 ∧ ∀ q, q < 26 → al q = 0) ∨ (0 < R ∧ ((pkc ch n k = -1 ∧ a1 = 0) ∨ ((65 ≤ pkc ch n k ∧ pkc ch n k ≤ 90) ∧ pkc ch n (skc ch n (k + 1)) = 61 ∧ a1 = 1)))) → ∃ (v : Int32) (zr' zh' : OS), mX5_readAll_b21 F f1 zr zs zh (nI R) = some (v, zr', zh') ∧ ((∃ (p' : Nat) (z' : OS), p' ≤ n ∧ v = nI p' ∧ mX10_read_b55 F f2 z a1 = some ((-10) - nI p', z') ∧ Lw z0 z') ∨ (v = -1 ∧ ∃ (z' : OS) (R' A' S' k' : Nat) (fa' al' wt' fs' sc' pl' : Nat → Nat), mX10_read_b55 F f2 z a1 = mX10_read_b158 F F z' 0 ∧ Lw z0 z' ∧ 0 < R' ∧ AGr zh' z' R' A' S' fa' al' wt' fs' sc' ∧ SG zh' z' S' k' pl' ∧ (∀ a, a < A' → 1 ≤ sc' a) ∧ (∃ q, q < 26 ∧ 0 < al' q ∧ zh'.1 14 = nI q ∧ z'.2.2.1 16 1 = nI q) ∧ ∀ s, s < S' → ¬ noR zh' al' s)) := by
  have hn := ht0.1
  intro d
  induction d with
  | zero => intro R A S p k f1 f2 zr zh z a1 fa al wt fs sc pl h; omega
  | succ d ih =>
    intro R A S p k f1 f2 zr zh z a1 fa al wt fs sc pl hd hR hf1 hf2 hL hp hpk hr h17 h18 h hG hsc hst hmode
    obtain ⟨f1, rfl⟩ : ∃ g, f1 = g + 1 := ⟨f1 - 1, by omega⟩
    obtain ⟨f2, rfl⟩ : ∃ g, f2 = g + 2 := ⟨f2 - 2, by omega⟩
    have ht := Tx_L ht0 hL
    have hk := skc_ok (ch := ch) hp
    rw [hpk] at hk
    have n16 : ¬ (16 : Int32) < nI R := nI_nlt (a := 16) (by omega) (by omega)
    by_cases cE : 0 < R ∧ pkc ch n k = -1 ∧ a1 = 0
    · -- the text's end
      obtain ⟨c1, c2, c3⟩ := cE
      subst c3
      have eX : mX5_readAll_b21 F (f1 + 1) zr zs zh (nI R) = b1 (mX2_firstUseWithoutRule F zh) (fun r6 => some (r6, zr, zh)) := by
        rw [mX5_readAll_b21, if_neg n16, if_neg (nI_nle c1 (by omega)), here_X ht (by omega) hr, b1s, c2, if_pos rfl]
      have eM : mX10_read_b55 F (f2 + 2) z 0 = mX10_read_b78 F F z (nI (241 + 0)) := by
        rw [mX10_read_b55, if_pos rfl]
        rfl
      have fu := fu_X (F := F) (by omega) (show k ≤ 1200 by omega) h hG
      have hS := hG.2.1
      rcases scan_M F (show k ≤ 1200 by omega) h hG h18 S 0 F (by omega) (by omega) (fun s' hs' => absurd hs' (Nat.not_lt_zero s')) with ⟨s0, s1, s2, s3, s4⟩ | ⟨s1, s2⟩
      · have hpl := hG.2.2.2.2.1 s0 s1
        refine ⟨nI (pl s0), zr, zh, by rw [eX, fu.2 s0 s1 s2 s3, b1s], Or.inl ⟨pl s0, _, by omega, rfl, by rw [eM, s4], Lw_I hL (Or.inr rfl) _⟩⟩
      · exact ⟨-1, zr, zh, by rw [eX, fu.1 s1, b1s], Or.inr ⟨rfl, z, R, A, S, k, fa, al, wt, fs, sc, pl, by rw [eM, s2], hL, c1, h, hG, hsc, hst c1, s1⟩⟩
    -- one more RULE
    have ha1 : a1 = 1 := by
      rcases hmode with ⟨-, e, -⟩ | ⟨e0, ⟨e1, e2⟩ | ⟨-, -, e⟩⟩
      · exact e
      · exact absurd ⟨e0, e1, e2⟩ cE
      · exact e
    subst ha1
    have hf : (R = 0 ∧ ∀ q, q < 26 → al q = 0) ∨ ((65 ≤ pkc ch n k ∧ pkc ch n k ≤ 90) ∧ pkc ch n (skc ch n (k + 1)) = 61) := by
      rcases hmode with ⟨e0, -, e⟩ | ⟨e0, ⟨e1, e2⟩ | ⟨e1, e2, -⟩⟩
      · exact Or.inl ⟨e0, e⟩
      · exact absurd e2 (by decide)
      · exact Or.inr ⟨e1, e2⟩
    have eX : mX5_readAll_b21 F (f1 + 1) zr zs zh (nI R) = mX5_readAll_b47 F (mX5_readAll_b21 F f1) zr zs zh (nI R) := by
      rw [mX5_readAll_b21, if_neg n16]
      by_cases c0 : R = 0
      · rw [if_pos (by rw [c0]; decide)]
      · rw [if_neg (nI_nle (by omega) (by omega)), here_X ht (by omega) hr, b1s, if_neg]
        intro e
        rcases hf with ⟨f0, -⟩ | ⟨f0, -⟩
        · exact c0 f0
        · rw [e] at f0
          exact absurd f0 (by decide)
    have eM : mX10_read_b55 F (f2 + 2) z 1 = b2 (mX10_readRule F z) (fun r5 zx6 => mX10_read_b55 F (f2 + 1) zx6 r5) := by
      rw [mX10_read_b55, if_neg z01, h18, if_neg (by decide)]
    -- a failing of the reference
    have rF : ∀ (z' : OS) (pl : Nat), pl ≤ n → z'.1 18 = nI pl → mX10_read_b55 F (f2 + 1) z' 0 = some ((-10) - nI pl, z') := by
      intro z' pl h1 h2
      obtain ⟨f, hf⟩ : ∃ f, F = f + 1 := ⟨F - 1, by omega⟩
      rw [mX10_read_b55, if_pos rfl, nms]
      have : mX10_read_b78 F F z' 241 = mX10_read_b78 F (f + 1) z' 241 := by rw [← hf]
      rw [this, b78_F F f (by omega) h2]
    obtain ⟨v, zr1, zh1, z1, w1, w2, w3⟩ := hd_b ht0 hL hF hp hpk h17 h18 hr h hf
    unfold mX5_readAll_b47 at eX
    rw [w1, b3s] at eX
    rcases w3 with ⟨v0, e1, q, q1, q2, q3⟩ | ⟨v0, x18, hR16, ql, e, u1, u2, u3, u4, u5, u6, u7, u8, u9, u10, u11, u12, u13⟩
    · subst v0
      rw [if_pos rfl, q2] at eX
      rw [e1, b2s] at eM
      exact ⟨nI q, zr1, zh1, eX, Or.inl ⟨q, z1, q1, rfl, by rw [eM, rF z1 q q1 q3], w2⟩⟩
    · subst v0
      rw [if_neg z01] at eX
      have hG1 : SG zh1 z1 S (e + 1) pl := SG_fr hG (by omega) (u10.1 13 (by decide)) (fun i hi => u10.2.2.1 i (by simp; omega)) (fun i a b => u11.2.2.1 i (by simp; omega))
      have hA := h.2.1
      obtain ⟨v, zr2, zh2, r, z2, y1, y2, y3, y4⟩ := alt_b (ql := ql) ht0 hF (48 - A) A S e F F zr1 zh1 z1 al wt fs sc pl (by omega) (by omega) (by omega) w2 u5 u6 u7 x18 u8 u9 hG1
      rw [show mX5_readAlternatives F zr1 zs zh1 = mX5_readAlternatives_b2 F F zr1 zs zh1 (nI (al ql)) from by rw [u2]; rfl, y1, b3s] at eX
      rw [u3, y2, b2s] at eM
      rcases y4 with ⟨v0, r0, q, q1, q2, q3⟩ | ⟨v0, m18, k2, A2, S2, al2, wt2, fs2, sc2, pl2, m1, m2, m3, m4, m5, m6, m7, m8, m9, m10, m11, m12, m13⟩
      · subst v0
        subst r0
        rw [if_pos rfl, q2] at eX
        exact ⟨nI q, zr2, zh2, eX, Or.inl ⟨q, z2, q1, rfl, by rw [eM, rF z2 q q1 q3], y3⟩⟩
      · subst v0
        rw [if_neg z01, nms, nI_1] at eX
        have hsk : skc ch n k2 = k2 := by
          apply skc_id
          rcases m13 with ⟨c, -⟩ | ⟨c, -⟩
          · rw [c]; decide
          · rintro (c' | c')
            · rw [c'] at c; exact absurd c (by decide)
            · rw [c'] at c; exact absurd c (by decide)
        have hd2 : 16 - (R + 1) < d ∧ R + 1 ≤ 16 ∧ d < f1 ∧ d + 1 < f2 + 1 ∧ 0 < R + 1 := by
          clear hst
          exact ⟨by omega, by omega, by omega, by omega, by omega⟩
        have hst2 : 0 < R + 1 → ∃ q, q < 26 ∧ 0 < al2 q ∧ zh2.1 14 = nI q ∧ z2.2.2.1 16 1 = nI q := by
          intro _
          rw [m11, m12]
          by_cases c0 : R = 0
          · exact ⟨ql, u1, m8, (u12 c0).1, (u12 c0).2⟩
          · obtain ⟨q, q1, q2, q3, q4⟩ := hst (by omega)
            have hne : q ≠ ql := fun e => by rw [e, u2] at q2; omega
            exact ⟨q, q1, by rw [m7 q hne]; exact q2, by rw [(u13 c0).1]; exact q3, by rw [(u13 c0).2]; exact q4⟩
        obtain ⟨v, zr3, zh3, o1, o2⟩ := ih (R + 1) A2 S2 k2 k2 f1 (f2 + 1) zr2 zh2 z2 r (upN fa ql A) al2 wt2 fs2 sc2 pl2 hd2.1 hd2.2.1 hd2.2.2.1 hd2.2.2.2.1 y3 m1 hsk m2 m3 m18 m5 m6 (fun a ha => by
          by_cases c : a < A
          · rw [m9 a c]; exact hsc a c
          · exact m10 a (Nat.le_of_not_lt c) ha) hst2 (Or.inr ⟨hd2.2.2.2.2, m13⟩)
        rw [← eX] at o1
        rw [← eM] at o2
        exact ⟨v, zr3, zh3, o1, o2⟩

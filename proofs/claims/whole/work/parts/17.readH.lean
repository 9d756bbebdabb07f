/-! read, seventh: the ALTERNATIVES of a RULE on both sides -/
theorem alt_b {ch : Nat → Int32} {n : Nat} {zs z0 : OS} {F R ql : Nat} {fa : Nat → Nat} (ht0 : Tx ch n zs z0) (hF : 1300 < F) : ∀ (d A S e f1 f2 : Nat) (zr zh z : OS) (al wt fs sc pl : Nat → Nat), A + d = 48 → d < f1 → d + 1 < f2 → Lw z0 z → e < n → zr.1 2 = nI e → z.1 17 = nI (e + 1) → z.1 18 = -1 → AGr zh z R A S fa al wt fs sc → OPr zh z A ql fa al → SG zh z S (e + 1) pl → ∃ (v : Int32) (zr' zh' : OS) (r : Int32) (z' : OS), mX5_readAlternatives_b2 F f1 zr zs zh (nI (al ql)) = some (v, zr', zh') ∧ mX10_readRule_b173 F f2 z (nI ql) 0 = some (r, z') ∧ Lw z0 z' ∧ ((v = 0 ∧ r = 0 ∧ ∃ p, p ≤ n ∧ zr'.1 3 = nI p ∧ z'.1 18 = nI p) ∨ (v = 1 ∧ z'.1 18 = -1 ∧ ∃ (k' A' S' : Nat) (al' wt' fs' sc' pl' : Nat → Nat), k' ≤ n ∧ zr'.1 2 = nI k' ∧ z'.1 17 = nI k' ∧ A < A' ∧ AGr zh' z' R A' S' fa al' wt' fs' sc' ∧ SG zh' z' S' k' pl' ∧ (∀ q, q ≠ ql → al' q = al q) ∧ 0 < al' ql ∧ (∀ a, a < A → sc' a = sc a) ∧ (∀ a, A ≤ a → a < A' → 1 ≤ sc' a) ∧ zh'.1 14 = zh.1 14 ∧ z'.2.2.1 16 1 = z.2.2.1 16 1 ∧ ((pkc ch n k' = -1 ∧ r = 0) ∨ ((65 ≤ pkc ch n k' ∧ pkc ch n k' ≤ 90) ∧ pkc ch n (skc ch n (k' + 1)) = 61 ∧ r = 1)))) := by
  have hn := ht0.1
  intro d
  induction d with
  | zero =>
    intro A S e f1 f2 zr zh z al wt fs sc pl hA hf1 hf2 hL he hr h17 h18 h ho hG
    obtain ⟨f1, rfl⟩ : ∃ g, f1 = g + 1 := ⟨f1 - 1, by omega⟩
    obtain ⟨f2, rfl⟩ : ∃ g, f2 = g + 2 := ⟨f2 - 2, by omega⟩
    have hal := (h.2.2.2.2.2.2.2.2.1 ql ho.1).1
    obtain ⟨k, hk⟩ : ∃ k, k = skc ch n (e + 1) := ⟨_, rfl⟩
    obtain ⟨v, zr1, zh1, z1, w1, w2, w3, w4⟩ := wgt_b (zr := sI zr 2 (nI k)) ht0 hL hF (show e + 1 ≤ n by omega) hk.symm h17 h18 rfl h ho hG.1
    rcases w4 with ⟨v0, v1, v2⟩ | ⟨-, -, hlt, -⟩
    · subst v0
      have hks := skc_ok (ch := ch) (n := n) (k := e + 1) (by omega)
      rw [← hk] at hks
      refine ⟨0, zr1, zh1, 0, z1, ?_, ?_, w3, Or.inl ⟨rfl, rfl, k, by omega, v1, v2⟩⟩
      · rw [mX5_readAlternatives_b2, if_neg (show ¬ (48 : Int32) < nI (al ql) from nI_nlt (a := 48) (by omega) (by omega)), hr, nI_1, skip_X (Tx_L ht0 hL) (by omega) (by omega), ← hk, b1s, nms, w1, b3s, if_pos rfl]
      · rw [mX10_readRule_b173, if_pos rfl, h18, if_neg (by decide), w2, b1s, v2, if_pos (nI_pos' (by omega)), nms, mX10_readRule_b173, if_neg (by decide)]
        rfl
    · omega
  | succ d ih =>
    intro A S e f1 f2 zr zh z al wt fs sc pl hA hf1 hf2 hL he hr h17 h18 h ho hG
    obtain ⟨f1, rfl⟩ : ∃ g, f1 = g + 1 := ⟨f1 - 1, by omega⟩
    obtain ⟨f2, rfl⟩ : ∃ g, f2 = g + 2 := ⟨f2 - 2, by omega⟩
    have hal := (h.2.2.2.2.2.2.2.2.1 ql ho.1).1
    obtain ⟨k, hk⟩ : ∃ k, k = skc ch n (e + 1) := ⟨_, rfl⟩
    have hks := skc_ok (ch := ch) (n := n) (k := e + 1) (by omega)
    rw [← hk] at hks
    obtain ⟨v, zr1, zh1, z1, w1, w2, w3, w4⟩ := wgt_b (zr := sI zr 2 (nI k)) ht0 hL hF (show e + 1 ≤ n by omega) hk.symm h17 h18 rfl h ho hG.1
    have eX : mX5_readAlternatives_b2 F (f1 + 1) zr zs zh (nI (al ql)) = (if (v : Int32) = 0 then some (0, zr1, zh1) else b3 (mX5_readSigns F zr1 zs zh1) (fun r14 zr15 zg16 => (if (r14 : Int32) = 0 then some (0, zr15, zg16) else b1 (mX5_here zr15 zs zg16) (fun r19 => (if (r19 : Int32) = 124 then nm (nI (al ql) + 1 : Int32) (fun v22 => mX5_readAlternatives_b2 F f1 zr15 zs zg16 v22) else some (1, zr15, zg16)))))) := by
      rw [mX5_readAlternatives_b2, if_neg (show ¬ (48 : Int32) < nI (al ql) from nI_nlt (a := 48) (by omega) (by omega)), hr, nI_1, skip_X (Tx_L ht0 hL) (by omega) (by omega), ← hk, b1s, nms, w1, b3s]
    have eM : mX10_readRule_b173 F (f2 + 2) z (nI ql) 0 = (if 0 ≤ (z1.1 18 : Int32) then some (0, z1) else b2 (mX10_readSigns F z1) (fun r7 zx8 => mX10_readRule_b173 F (f2 + 1) zx8 (nI ql) r7)) := by
      rw [mX10_readRule_b173, if_pos rfl, h18, if_neg (by decide), w2, b1s]
      by_cases c : 0 ≤ z1.1 18
      · rw [if_pos c, if_pos c, nms, mX10_readRule_b173, if_neg (by decide)]
        rfl
      · rw [if_neg c, if_neg c]
    rcases w4 with ⟨v0, v1, v2⟩ | ⟨v0, v18, hlt, w, k1, u1, u2, u3, u4, u5, u6, u7, u8⟩
    · subst v0
      refine ⟨0, zr1, zh1, 0, z1, by rw [eX, if_pos rfl], by rw [eM, v2, if_pos (nI_pos' (by omega))], w3, Or.inl ⟨rfl, rfl, k, by omega, v1, v2⟩⟩
    · subst v0
      rw [if_neg z01] at eX
      rw [v18, if_neg (by decide)] at eM
      have hG1 : SG zh1 z1 S k1 pl := SG_fr hG (by omega) (u5.1 13 (by decide)) (fun i hi => u5.2.2.1 i (by simp; omega)) (fun i a b => u6.2.2.1 i (by simp; omega))
      obtain ⟨v, zr2, zh2, ee, z2, x1, x2, x3, x4⟩ := sgs_b ht0 w3 hF u2 u3 u4 v18 u7 (upN_s sc A 0) (upN_s fs A S) hG1
      rw [x1, b3s] at eX
      rw [x2, b2s] at eM
      rcases x4 with ⟨v0, e0, p, p1, p2, p3⟩ | ⟨v0, y18, k2, S2, pl2, y1, y2, y3, y4, y5, y6, y7, y8, y9⟩
      · subst v0
        subst e0
        refine ⟨0, zr2, zh2, 0, z2, by rw [eX, if_pos rfl], ?_, x3, Or.inl ⟨rfl, rfl, p, p1, p2, p3⟩⟩
        rw [eM, mX10_readRule_b173, if_neg (by decide)]
        rfl
      · subst v0
        have t2 := Tx_L ht0 x3
        rw [if_neg z01, here_X t2 (by omega) y3, b1s] at eX
        have hsc2 : ∀ a, a < A → upN (upN sc A 0) A (S2 - S) a = sc a := fun a ha => by rw [upN_n _ (by omega), upN_n _ (by omega)]
        have e14 : zh2.1 14 = zh.1 14 := (y7.1 14 (by decide)).trans (u5.1 14 (by decide))
        have e16 : z2.2.2.1 16 1 = z.2.2.1 16 1 := by rw [y8.2.2.1 16 (by decide), u6.2.2.1 16 (by decide)]
        rcases y9 with ⟨c1, c2, c3⟩ | ⟨c1, c2, c3⟩ | ⟨c1, c1b, c2, c3⟩
        · -- the text's end
          subst c2
          refine ⟨1, zr2, zh2, 0, z2, by rw [eX, c1, if_neg (by decide)], ?_, x3, Or.inr ⟨rfl, y18, k2, A + 1, S2, _, _, _, _, pl2, y2, y3, c3, by omega, y6, y5, fun q hq => upN_n _ hq, by rw [upN_s]; omega, hsc2, fun a h1 h2 => ?_, e14, e16, Or.inl ⟨c1, rfl⟩⟩⟩
          · rw [eM, mX10_readRule_b173, if_neg (by decide)]
            rfl
          · rw [show a = A by omega, upN_s]; omega
        · -- one more ALTERNATIVE
          subst c2
          have hk2 : k2 < n := pkc_in (by rw [c1]; decide)
          have ho2 : OPr zh2 z2 (A + 1) ql fa (upN al ql (al ql + 1)) := by
            obtain ⟨o1, o2, o3, o4, o5⟩ := u8
            exact ⟨o1, (y7.1 15 (by decide)).trans o2, by rw [y7.2.2.1 0 (by decide)]; exact o3, by rw [y8.2.2.1 3 (by decide)]; exact o4, o5⟩
          obtain ⟨v, zr3, zh3, r, z3, m1, m2, m3, m4⟩ := ih (A + 1) S2 k2 f1 (f2 + 1) zr2 zh2 z2 _ _ _ _ pl2 (by omega) (by omega) (by omega) x3 hk2 y3 c3 y18 y6 ho2 (SG_fr y5 (by omega) rfl (fun _ _ => rfl) (fun _ _ _ => rfl))
          rw [upN_s] at m1
          refine ⟨v, zr3, zh3, r, z3, by rw [eX, c1, if_pos rfl, nms, nI_1, m1], by rw [eM, m2], m3, ?_⟩
          rcases m4 with m4 | ⟨n1, n2, k3, A3, S3, al3, wt3, fs3, sc3, pl3, n3, n4, n5, n6, n7, n8, n9, n10, n11, n12, n13, n14, n15⟩
          · exact Or.inl m4
          · refine Or.inr ⟨n1, n2, k3, A3, S3, al3, wt3, fs3, sc3, pl3, n3, n4, n5, by omega, n7, n8, fun q hq => by rw [n9 q hq, upN_n _ hq], n10, fun a ha => by rw [n11 a (by omega), hsc2 a ha], fun a h1 h2 => ?_, n13.trans e14, n14.trans e16, n15⟩
            by_cases c : a = A
            · subst c
              rw [n11 a (by omega), upN_s]
              omega
            · exact n12 a (by omega) h2
        · -- the next RULE
          subst c2
          refine ⟨1, zr2, zh2, 1, z2, ?_, ?_, x3, Or.inr ⟨rfl, y18, k2, A + 1, S2, _, _, _, _, pl2, y2, y3, c3, by omega, y6, y5, fun q hq => upN_n _ hq, by rw [upN_s]; omega, hsc2, fun a h1 h2 => ?_, e14, e16, Or.inr ⟨c1, c1b, rfl⟩⟩⟩
          · rw [eX, if_neg (fun e => by rw [e] at c1; exact absurd c1 (by decide))]
          · rw [eM, mX10_readRule_b173, if_neg z01]
            rfl
          · rw [show a = A by omega, upN_s]; omega

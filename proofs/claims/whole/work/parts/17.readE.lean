/-! read, fifth: the head of a RULE on both sides -/
theorem ok_nI {ch : Nat → Int32} {n : Nat} {zs z : OS} (h : Tx ch n zs z) (k : Nat) : pkc ch n k = -1 ∨ ∃ j, j ≤ 126 ∧ pkc ch n k = nI j := by
  by_cases c : k < n
  · rw [pkc_lt c]
    rcases (h.2.2.2 k c).2.2 with e | ⟨e1, e2⟩
    · exact Or.inr ⟨10, by omega, e⟩
    · obtain ⟨j, -, j2, ej⟩ := chN (a := 32) (b := 126) (by omega) (by omega) e1 e2
      exact Or.inr ⟨j, j2, ej⟩
  · exact Or.inl (pkc_ge (by omega))
theorem can_X {ch : Nat → Int32} {n : Nat} {zs z zh : OS} {R A S k : Nat} {fa al wt fs sc : Nat → Nat} (ht : Tx ch n zs z) (h : AGr zh z R A S fa al wt fs sc) : (¬ (65 ≤ pkc ch n k ∧ pkc ch n k ≤ 90) ∧ mX2_canOpenRule zh (pkc ch n k - 65) = some 0) ∨ ∃ q, q < 26 ∧ (65 ≤ pkc ch n k ∧ pkc ch n k ≤ 90) ∧ pkc ch n k - 65 = nI q ∧ mX2_canOpenRule zh (nI q) = some (if al q = 0 ∧ R < 16 then 1 else 0) := by
  obtain ⟨g1, g2, g3, g4, g5, g6, g7, g8, g9, g10⟩ := h
  by_cases c : 65 ≤ pkc ch n k ∧ pkc ch n k ≤ 90
  · right
    obtain ⟨j, j1, j2, ej⟩ := chN (a := 65) (b := 90) (by omega) (by omega) c.1 c.2
    obtain ⟨q1, q2, -⟩ := g9 (j - 65) (by omega)
    refine ⟨j - 65, by omega, c, by rw [ej]; exact nI_sub (b := 65) j1, ?_⟩
    unfold mX2_canOpenRule mX2_canOpenRule_b0
    rw [iw, if_pos ⟨nI_pos' (by omega), nI_le (b := 25) (by omega) (by omega)⟩, b1s, if_neg z01, has_rule zh (by omega) (by omega) q2, b1s, g4]
    by_cases c1 : al (j - 65) = 0
    · rw [if_pos c1, if_pos rfl]
      by_cases c2 : R < 16
      · rw [if_neg (show ¬ (16 : Int32) ≤ nI R from nI_ge (b := 16) c2 (by omega)), if_pos ⟨c1, c2⟩]
      · rw [if_pos (show (16 : Int32) ≤ nI R from nI_le (a := 16) (by omega) (by omega)), if_neg (fun e => c2 e.2)]
    · rw [if_neg c1, if_neg z01, if_neg (fun e => c1 e.1)]
  · left
    refine ⟨c, ?_⟩
    have hn : ¬ (0 ≤ pkc ch n k - 65 ∧ pkc ch n k - 65 ≤ 25) := by
      rcases ok_nI ht k with e | ⟨j, j1, ej⟩
      · rw [e]; decide
      · rw [ej] at c ⊢
        intro hh
        apply c
        by_cases c1 : j < 65
        · exact absurd hh.1 (nI_subn (b := 65) c1 (by omega))
        · rw [show nI j - 65 = nI (j - 65) from nI_sub (b := 65) (by omega)] at hh
          have := (nI_leI (b := 25) (by omega) (by omega)).mp hh.2
          exact ⟨nI_le (a := 65) (by omega) (by omega), nI_le (b := 90) (by omega) (by omega)⟩
    unfold mX2_canOpenRule mX2_canOpenRule_b0
    rw [iw, if_neg hn, b1s, if_pos rfl]
theorem hd_b {ch : Nat → Int32} {n : Nat} {zs z0 z zr zh : OS} {F R A S p k : Nat} {fa al wt fs sc : Nat → Nat} (ht0 : Tx ch n zs z0) (hL : Lw z0 z) (hF : 1300 < F) (hp : p ≤ n) (hpk : skc ch n p = k) (h17 : z.1 17 = nI p) (h18 : z.1 18 = -1) (hr : zr.1 2 = nI k) (h : AGr zh z R A S fa al wt fs sc) (hf : (R = 0 ∧ ∀ q, q < 26 → al q = 0) ∨ ((65 ≤ pkc ch n k ∧ pkc ch n k ≤ 90) ∧ pkc ch n (skc ch n (k + 1)) = 61)) : ∃ (v : Int32) (zr' zh' z' : OS), mX5_readHead F zr zs zh = some (v, zr', zh') ∧ Lw z0 z' ∧ ((v = 0 ∧ mX10_readRule F z = some (0, z') ∧ ∃ pl, pl ≤ n ∧ zr'.1 3 = nI pl ∧ z'.1 18 = nI pl) ∨ (v = 1 ∧ z'.1 18 = -1 ∧ R < 16 ∧ ∃ ql e, ql < 26 ∧ al ql = 0 ∧ mX10_readRule F z = mX10_readRule_b173 F F z' (nI ql) 0 ∧ k < e ∧ e < n ∧ zr'.1 2 = nI e ∧ z'.1 17 = nI (e + 1) ∧ AGr zh' z' (R + 1) A S (upN fa ql A) al wt fs sc ∧ OPr zh' z' A ql (upN fa ql A) al ∧ Fr [11, 14, 15] [0] zh zh' ∧ Fr [17] [3, 13, 16] z z' ∧ (R = 0 → zh'.1 14 = nI ql ∧ z'.2.2.1 16 1 = nI ql) ∧ (¬ R = 0 → zh'.1 14 = zh.1 14 ∧ z'.2.2.1 16 1 = z.2.2.1 16 1))) := by
  have hn := ht0.1
  have ht := Tx_L ht0 hL
  have hk := skc_ok (ch := ch) hp
  rw [hpk] at hk
  have hAG := h
  obtain ⟨g1, g2, g3, g4, g5, g6, g7, g8, g9, g10⟩ := h
  obtain ⟨z1, hz1⟩ : ∃ y, y = sI z 17 (nI k) := ⟨_, rfl⟩
  have t1 : Tx ch n zs z1 := by rw [hz1]; exact ht
  have L1 : Lw z0 z1 := by rw [hz1]; exact Lw_I hL (Or.inl rfl) _
  have x17 : z1.1 17 = nI k := by rw [hz1]; rfl
  have x18 : z1.1 18 = -1 := by rw [hz1]; exact h18
  -- the class fails at its first look
  have xF : ∀ v3 : Int32, pkc ch n k - 65 = v3 → mX2_canOpenRule zh v3 = some 0 → mX5_readHead F zr zs zh = some (0, sI zr 3 (nI k), zh) := by
    intro v3 e1 e2
    unfold mX5_readHead mX5_readHead_b0
    rw [here_X ht (by omega) hr, b1s, nms, e1, e2, b1s, if_pos rfl, hr]
    rfl
  have eM : mX10_readRule F z = (if (if 65 ≤ pkc ch n k ∧ pkc ch n k ≤ 90 then (1 : Int32) else 0) = 0 then b1 (mX10_fail z1 (nI k)) (fun zx30 => some (0, zx30)) else nm (pkc ch n k - 65 : Int32) (fun v12 => b1 (mX10_blanks F z1 (nI k + 1)) (fun r13 => nm (sI z1 17 r13) (fun zx15 => b1 (mX10_peek zx15 (zx15.1 17)) (fun r16 => (if (r16 : Int32) = 61 then gd (26 + v12) 52 ((if 0 < (zx15.2.2.1 4 (26 + v12 : Int32).toNatClampNeg : Int32) then mX10_readRule_b113 F zx15 (nI k) else gd 1 2 ((if (zx15.2.2.1 13 (1 : Int32).toNatClampNeg : Int32) = 16 then mX10_readRule_b113 F zx15 (nI k) else nm (sI zx15 17 ((zx15.1 17) + 1)) (fun zx23 => gd 1 2 ((if (zx23.2.2.1 13 (1 : Int32).toNatClampNeg : Int32) = 0 then gd 1 2 (nm (sA zx23 16 1 v12) (fun zx27 => mX10_readRule_b146 F zx27 v12)) else mX10_readRule_b146 F zx23 v12))))))) else b1 (mX10_fail zx15 (zx15.1 17)) (fun zx28 => some (0, zx28)))))))) := by
    unfold mX10_readRule mX10_readRule_b0
    rw [h17, blanks_M ht (by omega) hp, hpk, b1s]
    simp only [nms]
    rw [← hz1, x17, peek_M t1 (by omega), b1s, (ltr _).2, b1s, b1s]
  rcases can_X (k := k) ht hAG with ⟨c1, c2⟩ | ⟨q, hq, c1, c2, c3⟩
  · -- no LETTER
    refine ⟨0, _, _, sI z1 18 (nI k), xF _ rfl c2, Lw_I L1 (Or.inr rfl) _, Or.inl ⟨rfl, ?_, k, by omega, rfl, rfl⟩⟩
    rw [eM, if_neg c1, if_pos rfl, fail_M x18, b1s]
  have hkn : k < n := pkc_in (fun e => by rw [e] at c1; exact absurd c1 (by decide))
  obtain ⟨e, he⟩ : ∃ e, e = skc ch n (k + 1) := ⟨_, rfl⟩
  have hek := skc_ok (ch := ch) (n := n) (k := k + 1) (by omega)
  rw [← he] at hek hf
  obtain ⟨z2, hz2⟩ : ∃ y, y = sI z1 17 (nI e) := ⟨_, rfl⟩
  have t2 : Tx ch n zs z2 := by rw [hz2]; exact t1
  have L2 : Lw z0 z2 := by rw [hz2]; exact Lw_I L1 (Or.inl rfl) _
  have y17 : z2.1 17 = nI e := by rw [hz2]; rfl
  have y18 : z2.1 18 = -1 := by rw [hz2]; exact x18
  have e2z : z2.2.2.1 = z.2.2.1 := by rw [hz2, hz1]; rfl
  obtain ⟨q1, q2, q3, q4, q5⟩ := g9 q hq
  have hq52 := vp_in_nI (show 26 + q < 52 by omega) (show (52 : Nat) < 2 ^ 31 by omega)
  have hcq : (nI (26 + q)).toNatClampNeg = 26 + q := nI_clamp (by omega)
  have eM2 : mX10_readRule F z = (if pkc ch n e = 61 then ((if 0 < nI (al q) then some (0, sI z2 18 (nI k)) else ((if nI R = 16 then some (0, sI z2 18 (nI k)) else ((if nI R = 0 then mX10_readRule_b146 F (sA (sI z2 17 (nI (e + 1))) 16 1 (nI q)) (nI q) else mX10_readRule_b146 F (sI z2 17 (nI (e + 1))) (nI q))))))) else some (0, sI z2 18 (nI e))) := by
    have e113 : mX10_readRule_b113 F z2 (nI k) = some (0, sI z2 18 (nI k)) := by
      unfold mX10_readRule_b113
      rw [fail_M y18, b1s]
    rw [eM, if_pos c1, if_neg z01]
    simp only [nms]
    rw [c2, nI_1, blanks_M t1 (by omega) (by omega), ← he, b1s, ← hz2, y17, peek_M t2 (by omega), b1s, show (26 : Int32) + nI q = nI (26 + q) from nI_add 26 q, gds hq52, hcq, gds v12, gds v12, gds v12, k1, e2z, q3, g5, e113, nI_1, fail_M y18, b1s]
    rw [show (sI z2 17 (nI (e + 1))).2.2.1 13 1 = nI R from by show z2.2.2.1 13 1 = _; rw [e2z]; exact g5]
  by_cases c4 : ¬ (al q = 0 ∧ R < 16)
  · -- a second RULE of the LETTER, or a 17th
    rw [if_neg c4] at c3
    rcases hf with ⟨f1, f2⟩ | ⟨-, f2⟩
    · exact absurd ⟨f2 q hq, by omega⟩ c4
    · refine ⟨0, _, _, sI z2 18 (nI k), xF _ c2 c3, Lw_I L2 (Or.inr rfl) _, Or.inl ⟨rfl, ?_, k, by omega, rfl, rfl⟩⟩
      rw [eM2, if_pos f2]
      by_cases c5 : al q = 0
      · have hR : R = 16 := by
          by_cases c6 : R < 16
          · exact absurd ⟨c5, c6⟩ c4
          · omega
        rw [if_neg (by rw [c5]; decide), if_pos (by rw [hR]; rfl)]
      · rw [if_pos (show (0 : Int32) < nI (al q) from nI_lt (a := 0) (by omega) (by omega))]
  have c4 := Decidable.not_not.mp c4
  rw [if_pos c4] at c3
  have eX : mX5_readHead F zr zs zh = (if pkc ch n e = 61 then b1 (mX2_openRule zh (nI q)) (fun zg13 => some (1, sI zr 2 (nI e), zg13)) else some (0, sI (sI zr 2 (nI e)) 3 (nI e), zh)) := by
    unfold mX5_readHead mX5_readHead_b0
    rw [here_X ht (by omega) hr, b1s, nms, c2, c3, b1s, if_neg z01, hr, nI_1, skip_X ht (by omega) (by omega), ← he, b1s, nms, here_X (zr := sI zr 2 (nI e)) ht (by omega) rfl, b1s]
    rfl
  by_cases c5 : ¬ pkc ch n e = 61
  · refine ⟨0, _, _, sI z2 18 (nI e), by rw [eX, if_neg c5], Lw_I L2 (Or.inr rfl) _, Or.inl ⟨rfl, by rw [eM2, if_neg c5], e, by omega, rfl, rfl⟩⟩
  have c5 := Decidable.not_not.mp c5
  have hen : e < n := pkc_in (by rw [c5]; decide)
  -- the RULE is opened
  obtain ⟨zy, hzy⟩ : ∃ y, y = (if R = 0 then sA (sI z2 17 (nI (e + 1))) 16 1 (nI q) else sI z2 17 (nI (e + 1))) := ⟨_, rfl⟩
  have zyI : zy.1 = (sI z2 17 (nI (e + 1))).1 := by rw [hzy]; split <;> rfl
  have zyR : ∀ i, i ≠ 16 → zy.2.2.1 i = z.2.2.1 i := by
    intro i hi
    rw [hzy]
    split
    · show va_up z2.2.2.1 16 _ i = _
      rw [va_up_ne _ _ hi, e2z]
    · show z2.2.2.1 i = _
      rw [e2z]
  have zyL : Lw z0 zy := by
    rw [hzy]
    split
    · exact Lw_A (i := 1) (Lw_I L2 (Or.inl rfl) _) (by omega) (by decide) (by omega) _
    · exact Lw_I L2 (Or.inl rfl) _
  obtain ⟨z3, hz3⟩ : ∃ y, y = sA (sA zy 13 1 (nI (R + 1))) 3 (nI (26 + q)) (nI A) := ⟨_, rfl⟩
  have e146 : mX10_readRule_b146 F zy (nI q) = mX10_readRule_b173 F F z3 (nI q) 0 := by
    unfold mX10_readRule_b146
    simp only [nms]
    rw [gds v12, gds v12, k1, zyR 13 (by decide), g5, nI_1, gds v12, show (26 : Int32) + nI q = nI (26 + q) from nI_add 26 q, gds hq52, show (sA zy 13 1 (nI (R + 1))).2.2.1 14 1 = nI A from by show zy.2.2.1 14 1 = _; rw [zyR 14 (by decide)]; exact g7, ← hz3]
  have eM3 : mX10_readRule F z = mX10_readRule_b173 F F z3 (nI q) 0 := by
    rw [eM2, if_pos c5, if_neg (by rw [c4.1]; decide), if_neg (fun e : nI R = 16 => absurd ((nI_eq (b := 16) (by omega) (by omega)).mp e) (by omega)), ← e146, hzy]
    by_cases c6 : R = 0
    · rw [if_pos (by rw [c6]; rfl), if_pos c6]
    · rw [if_neg (fun e : nI R = 0 => c6 ((nI_eq (b := 0) (by omega) (by omega)).mp e)), if_neg c6]
  obtain ⟨zh1, hzh1⟩ : ∃ y, y = (if R = 0 then sI zh 14 (nI q) else zh) := ⟨_, rfl⟩
  have hF1 : Fr [11, 14, 15] [0] zh zh1 := by
    rw [hzh1]
    split
    · exact Fr_I (Fr_r _ _ zh) (by decide) _
    · exact Fr_r _ _ zh
  obtain ⟨zh2, hzh2⟩ : ∃ y, y = sI (sA (sI zh1 15 (nI q)) 0 (nI q) (nI A)) 11 (nI (R + 1)) := ⟨_, rfl⟩
  have hF2 : Fr [11, 14, 15] [0] zh zh2 := by
    rw [hzh2]
    exact Fr_I (Fr_A (Fr_I hF1 (by decide) _) (by decide) _ _) (by decide) _
  have eO : mX2_openRule zh (nI q) = some zh2 := by
    have e12 : mX2_openRule_b12 zh1 (nI q) = some zh2 := by
      unfold mX2_openRule_b12
      simp only [nms]
      rw [gds (vp_in_nI hq (by omega)), show (sI zh1 15 (nI q)).1 12 = nI A from (hF1.1 12 (by decide)).trans g6, show (sA (sI zh1 15 (nI q)) 0 (nI q) (nI A)).1 11 = nI R from by
        show zh1.1 11 = _
        rw [hzh1]
        split
        · exact g4
        · exact g4, nI_1, hzh2]
    unfold mX2_openRule mX2_openRule_b0
    rw [g4]
    by_cases c6 : R = 0
    · rw [if_pos c6] at hzh1
      rw [if_pos (by rw [c6]; rfl), nms, ← hzh1, e12]
    · rw [if_neg c6] at hzh1
      rw [if_neg (fun e : nI R = 0 => c6 ((nI_eq (b := 0) (by omega) (by omega)).mp e)), ← hzh1, e12]
  have w3 : z3.2.2.1 3 = upd (z.2.2.1 3) (26 + q) (nI A) := by
    rw [hz3]
    show upd (zy.2.2.1 3) (nI (26 + q)).toNatClampNeg _ = _
    rw [hcq, zyR 3 (by decide)]
  have w13 : z3.2.2.1 13 = upd (z.2.2.1 13) 1 (nI (R + 1)) := by
    rw [hz3]
    show upd (zy.2.2.1 13) 1 _ = _
    rw [zyR 13 (by decide)]
  have wo : ∀ i, i ≠ 3 → i ≠ 13 → i ≠ 16 → z3.2.2.1 i = z.2.2.1 i := by
    intro i h1 h2 h3
    rw [hz3]
    show va_up (va_up zy.2.2.1 13 _) 3 _ i = _
    rw [va_up_ne _ _ h1, va_up_ne _ _ h2, zyR i h3]
  have u0 : zh2.2.2.1 0 = upd (zh.2.2.1 0) q (nI A) := by
    rw [hzh2]
    show upd (zh1.2.2.1 0) (nI q).toNatClampNeg _ = _
    rw [nI_clamp (by omega), show zh1.2.2.1 0 = zh.2.2.1 0 from by rw [hzh1]; split <;> rfl]
  have uo : ∀ i, i ≠ 0 → zh2.2.2.1 i = zh.2.2.1 i := fun i hi => hF2.2.2.1 i (by simpa using hi)
  refine ⟨1, sI zr 2 (nI e), zh2, z3, by rw [eX, if_pos c5, eO, b1s], ?_, Or.inr ⟨rfl, ?_, c4.2, q, e, hq, c4.1, eM3, by omega, hen, rfl, ?_, ?_, ?_, hF2, ?_, fun h0 => ?_, fun h0 => ?_⟩⟩
  · rw [hz3]
    exact Lw_A (Lw_A (i := 1) zyL (by omega) (by decide) (by omega) _) (by omega) (show loB 3 ≤ 26 + q from by show 26 ≤ 26 + q; omega) (by omega) _
  · rw [hz3]
    show zy.1 18 = _
    rw [zyI]
    exact y18
  · rw [hz3]
    show zy.1 17 = _
    rw [zyI]
    rfl
  · refine ⟨by omega, g2, g3, by rw [hzh2]; rfl, by rw [w13, pk_us], (hF2.1 12 (by decide)).trans g6, by rw [wo 14 (by decide) (by decide) (by decide)]; exact g7, by rw [wo 15 (by decide) (by decide) (by decide)]; exact g8, fun q' hq' => ?_, fun a ha => ?_⟩
    · obtain ⟨b1, b2, b3, b4, b5⟩ := g9 q' hq'
      rw [uo 1 (by decide), uo 2 (by decide), wo 4 (by decide) (by decide) (by decide), u0, w3]
      by_cases c6 : q' = q
      · subst c6
        rw [upN_s]
        refine ⟨b1, b2, b3, ?_, fun h0 => by omega⟩
        rw [b4, c4.1]
        rfl
      · rw [upN_n _ c6, pk_un c6, pk_un (by omega)]
        exact ⟨b1, b2, b3, b4, b5⟩
    · rw [uo 4 (by decide), uo 5 (by decide), uo 6 (by decide), wo 5 (by decide) (by decide) (by decide), wo 6 (by decide) (by decide) (by decide), wo 7 (by decide) (by decide) (by decide)]
      exact g10 a ha
  · refine ⟨hq, by rw [hzh2]; rfl, by rw [u0, pk_us, upN_s], by rw [w3, pk_us, upN_s], by rw [upN_s]; have := c4.1; omega⟩
  · refine ⟨fun i hi => ?_, ?_, fun i hi => wo i (fun e => hi (by rw [e]; decide)) (fun e => hi (by rw [e]; decide)) (fun e => hi (by rw [e]; decide)), ?_⟩
    · rw [hz3]
      show zy.1 i = _
      rw [zyI]
      have hi : i ≠ 17 := by simpa using hi
      rw [hz2, hz1]
      show va_up (va_up (va_up z.1 17 _) 17 _) 17 _ i = _
      rw [va_up_ne _ _ hi, va_up_ne _ _ hi, va_up_ne _ _ hi]
    · rw [hz3]
      show zy.2.1 = _
      rw [hzy]
      split <;> (rw [hz2, hz1]; rfl)
    · rw [hz3]
      show zy.2.2.2 = _
      rw [hzy]
      split <;> (rw [hz2, hz1]; rfl)
  · rw [if_pos h0] at hzh1 hzy
    refine ⟨by rw [hzh2, hzh1]; rfl, ?_⟩
    rw [hz3, hzy]
    rfl
  · rw [if_neg h0] at hzh1 hzy
    refine ⟨by rw [hzh2, hzh1]; rfl, ?_⟩
    rw [hz3, hzy]
    show z2.2.2.1 16 1 = _
    rw [e2z]

/-! read, tenth: the RULES become those of the reference, and the call -/
theorem cp1 (F : Nat) : ∀ (d i f : Nat) (z : OS), i + d = 26 → d < f → ∃ z', mX10_read_b158 F f z (nI i) = mX10_read_b202 F F z' 0 ∧ Fr [] [3, 4] z z' ∧ (∀ j, j < i ∨ 26 ≤ j → z'.2.2.1 3 j = z.2.2.1 3 j ∧ z'.2.2.1 4 j = z.2.2.1 4 j) ∧ ∀ j, i ≤ j → j < 26 → z'.2.2.1 3 j = z.2.2.1 3 (26 + j) ∧ z'.2.2.1 4 j = z.2.2.1 4 (26 + j) := by
  intro d
  induction d with
  | zero =>
    intro i f z hi hf
    obtain ⟨f, rfl⟩ : ∃ g, f = g + 1 := ⟨f - 1, by omega⟩
    refine ⟨z, ?_, Fr_r _ _ z, fun j _ => ⟨rfl, rfl⟩, fun j h1 h2 => by omega⟩
    rw [mX10_read_b158, if_pos (show (26 : Int32) ≤ nI i from nI_le (a := 26) (by omega) (by omega))]
    rfl
  | succ d ih =>
    intro i f z hi hf
    obtain ⟨f, rfl⟩ : ∃ g, f = g + 1 := ⟨f - 1, by omega⟩
    have hc1 : (nI i).toNatClampNeg = i := nI_clamp (by omega)
    have hc2 : (nI (26 + i)).toNatClampNeg = 26 + i := nI_clamp (by omega)
    obtain ⟨y, hy⟩ : ∃ y, y = sA (sA z 3 (nI i) (z.2.2.1 3 (26 + i))) 4 (nI i) (z.2.2.1 4 (26 + i)) := ⟨_, rfl⟩
    have e0 : mX10_read_b158 F (f + 1) z (nI i) = mX10_read_b158 F f y (nI (i + 1)) := by
      rw [mX10_read_b158, if_neg (show ¬ (26 : Int32) ≤ nI i from nI_ge (b := 26) (by omega) (by omega)), show (26 : Int32) + nI i = nI (26 + i) from nI_add 26 i]
      simp only [nms, gds (vp_in_nI (show 26 + i < 52 by omega) (show (52 : Nat) < 2 ^ 31 by omega)), gds (vp_in_nI (show i < 52 by omega) (show (52 : Nat) < 2 ^ 31 by omega)), hc2, nI_1]
      rw [hy]
      rfl
    have y3 : y.2.2.1 3 = upd (z.2.2.1 3) i (z.2.2.1 3 (26 + i)) := by
      rw [hy]; show upd (z.2.2.1 3) (nI i).toNatClampNeg _ = _; rw [hc1]
    have y4 : y.2.2.1 4 = upd (z.2.2.1 4) i (z.2.2.1 4 (26 + i)) := by
      rw [hy]; show upd (z.2.2.1 4) (nI i).toNatClampNeg _ = _; rw [hc1]
    obtain ⟨z', q1, q2, q3, q4⟩ := ih (i + 1) f y (by omega) (by omega)
    refine ⟨z', by rw [e0, q1], Fr_t (by rw [hy]; exact Fr_A (Fr_A (Fr_r _ _ z) (by decide) _ _) (by decide) _ _) q2, fun j hj => ?_, fun j h1 h2 => ?_⟩
    · have := q3 j (by omega)
      rw [this.1, this.2, y3, y4, pk_un (by omega), pk_un (by omega)]
      exact ⟨rfl, rfl⟩
    · by_cases c : j = i
      · subst c
        have := q3 j (by omega)
        rw [this.1, this.2, y3, y4, pk_us, pk_us]
        exact ⟨rfl, rfl⟩
      · have := q4 j (by omega) h2
        rw [this.1, this.2, y3, y4, pk_un (by omega), pk_un (by omega)]
        exact ⟨rfl, rfl⟩
theorem cp2 (F : Nat) {A : Nat} (hA : A ≤ 48) : ∀ (d i f : Nat) (z : OS), i + d = A → d < f → z.2.2.1 14 1 = nI A → ∃ z', mX10_read_b202 F f z (nI i) = mX10_read_b265 F F z' 0 ∧ Fr [] [5, 6, 7] z z' ∧ (∀ j, j < i ∨ 48 ≤ j → z'.2.2.1 5 j = z.2.2.1 5 j ∧ z'.2.2.1 6 j = z.2.2.1 6 j ∧ z'.2.2.1 7 j = z.2.2.1 7 j) ∧ ∀ j, i ≤ j → j < A → z'.2.2.1 5 j = z.2.2.1 5 (48 + j) ∧ z'.2.2.1 6 j = z.2.2.1 6 (48 + j) ∧ z'.2.2.1 7 j = z.2.2.1 7 (48 + j) := by
  intro d
  induction d with
  | zero =>
    intro i f z hi hf h14
    obtain ⟨f, rfl⟩ : ∃ g, f = g + 1 := ⟨f - 1, by omega⟩
    refine ⟨z, ?_, Fr_r _ _ z, fun j _ => ⟨rfl, rfl, rfl⟩, fun j h1 h2 => by omega⟩
    rw [mX10_read_b202, gds v12, k1, h14, if_pos (nI_le (by omega) (by omega))]
    rfl
  | succ d ih =>
    intro i f z hi hf h14
    obtain ⟨f, rfl⟩ : ∃ g, f = g + 1 := ⟨f - 1, by omega⟩
    have hc1 : (nI i).toNatClampNeg = i := nI_clamp (by omega)
    have hc2 : (nI (48 + i)).toNatClampNeg = 48 + i := nI_clamp (by omega)
    obtain ⟨y, hy⟩ : ∃ y, y = sA (sA (sA z 5 (nI i) (z.2.2.1 5 (48 + i))) 6 (nI i) (z.2.2.1 6 (48 + i))) 7 (nI i) (z.2.2.1 7 (48 + i)) := ⟨_, rfl⟩
    have e0 : mX10_read_b202 F (f + 1) z (nI i) = mX10_read_b202 F f y (nI (i + 1)) := by
      rw [mX10_read_b202, gds v12, k1, h14, if_neg (nI_ge (by omega) (by omega)), show (48 : Int32) + nI i = nI (48 + i) from nI_add 48 i]
      simp only [nms, gds (vp_in_nI (show 48 + i < 96 by omega) (show (96 : Nat) < 2 ^ 31 by omega)), gds (vp_in_nI (show i < 96 by omega) (show (96 : Nat) < 2 ^ 31 by omega)), hc2, nI_1]
      rw [hy]
      rfl
    have y5 : y.2.2.1 5 = upd (z.2.2.1 5) i (z.2.2.1 5 (48 + i)) := by
      rw [hy]; show upd (z.2.2.1 5) (nI i).toNatClampNeg _ = _; rw [hc1]
    have y6 : y.2.2.1 6 = upd (z.2.2.1 6) i (z.2.2.1 6 (48 + i)) := by
      rw [hy]; show upd (z.2.2.1 6) (nI i).toNatClampNeg _ = _; rw [hc1]
    have y7 : y.2.2.1 7 = upd (z.2.2.1 7) i (z.2.2.1 7 (48 + i)) := by
      rw [hy]; show upd (z.2.2.1 7) (nI i).toNatClampNeg _ = _; rw [hc1]
    obtain ⟨z', q1, q2, q3, q4⟩ := ih (i + 1) f y (by omega) (by omega) (by rw [hy]; exact h14)
    refine ⟨z', by rw [e0, q1], Fr_t (by rw [hy]; exact Fr_A (Fr_A (Fr_A (Fr_r _ _ z) (by decide) _ _) (by decide) _ _) (by decide) _ _) q2, fun j hj => ?_, fun j h1 h2 => ?_⟩
    · have := q3 j (by omega)
      rw [this.1, this.2.1, this.2.2, y5, y6, y7, pk_un (by omega), pk_un (by omega), pk_un (by omega)]
      exact ⟨rfl, rfl, rfl⟩
    · by_cases c : j = i
      · subst c
        have := q3 j (by omega)
        rw [this.1, this.2.1, this.2.2, y5, y6, y7, pk_us, pk_us, pk_us]
        exact ⟨rfl, rfl, rfl⟩
      · have := q4 j (by omega) h2
        rw [this.1, this.2.1, this.2.2, y5, y6, y7, pk_un (by omega), pk_un (by omega), pk_un (by omega)]
        exact ⟨rfl, rfl, rfl⟩
theorem cp3 (F : Nat) {S : Nat} (hS : S ≤ 240) : ∀ (d i f : Nat) (z : OS), i + d = S → d < f → z.2.2.1 15 1 = nI S → ∃ z', mX10_read_b265 F f z (nI i) = some (z.2.2.1 13 1, z') ∧ Fr [] [8, 9, 10, 11, 13, 14, 15, 16] z z' ∧ (∀ j, i ≤ j → j < S → z'.2.2.1 8 j = z.2.2.1 8 (241 + j) ∧ z'.2.2.1 9 j = z.2.2.1 9 (241 + j) ∧ z'.2.2.1 10 j = z.2.2.1 10 (241 + j) ∧ z'.2.2.1 11 j = z.2.2.1 11 (241 + j)) ∧ (∀ j, j < i → z'.2.2.1 8 j = z.2.2.1 8 j ∧ z'.2.2.1 9 j = z.2.2.1 9 j ∧ z'.2.2.1 10 j = z.2.2.1 10 j ∧ z'.2.2.1 11 j = z.2.2.1 11 j) ∧ z'.2.2.1 13 0 = z.2.2.1 13 1 ∧ z'.2.2.1 14 0 = z.2.2.1 14 1 ∧ z'.2.2.1 15 0 = z.2.2.1 15 1 ∧ z'.2.2.1 16 0 = z.2.2.1 16 1 := by
  have v02 : vp_in 0 2 := vp_in_nI (n := 0) (by omega) (by omega)
  have k0 : (0 : Int32).toNatClampNeg = 0 := by decide
  intro d
  induction d with
  | zero =>
    intro i f z hi hf h15
    obtain ⟨f, rfl⟩ : ∃ g, f = g + 1 := ⟨f - 1, by omega⟩
    refine ⟨sA (sA (sA (sA z 13 0 (z.2.2.1 13 1)) 14 0 (z.2.2.1 14 1)) 15 0 (z.2.2.1 15 1)) 16 0 (z.2.2.1 16 1), ?_, Fr_A (Fr_A (Fr_A (Fr_A (Fr_r _ _ z) (by decide) _ _) (by decide) _ _) (by decide) _ _) (by decide) _ _, fun j h1 h2 => by omega, fun j _ => ⟨rfl, rfl, rfl, rfl⟩, rfl, rfl, rfl, rfl⟩
    rw [mX10_read_b265, gds v12, k1, if_pos (show z.2.2.1 15 1 ≤ nI i from by rw [h15]; exact nI_le (by omega) (by omega))]
    simp only [nms, gds v12, gds v02, k0]
    rfl
  | succ d ih =>
    intro i f z hi hf h15
    obtain ⟨f, rfl⟩ : ∃ g, f = g + 1 := ⟨f - 1, by omega⟩
    have hc1 : (nI i).toNatClampNeg = i := nI_clamp (by omega)
    have hc2 : (nI (241 + i)).toNatClampNeg = 241 + i := nI_clamp (by omega)
    obtain ⟨y, hy⟩ : ∃ y, y = sA (sA (sA (sA z 8 (nI i) (z.2.2.1 8 (241 + i))) 9 (nI i) (z.2.2.1 9 (241 + i))) 10 (nI i) (z.2.2.1 10 (241 + i))) 11 (nI i) (z.2.2.1 11 (241 + i)) := ⟨_, rfl⟩
    have e0 : mX10_read_b265 F (f + 1) z (nI i) = mX10_read_b265 F f y (nI (i + 1)) := by
      rw [mX10_read_b265, gds v12, k1, h15, if_neg (nI_ge (by omega) (by omega)), show (241 : Int32) + nI i = nI (241 + i) from nI_add 241 i]
      simp only [nms, gds (vp_in_nI (show 241 + i < 482 by omega) (show (482 : Nat) < 2 ^ 31 by omega)), gds (vp_in_nI (show i < 482 by omega) (show (482 : Nat) < 2 ^ 31 by omega)), hc2, nI_1]
      rw [hy]
      rfl
    have y8 : y.2.2.1 8 = upd (z.2.2.1 8) i (z.2.2.1 8 (241 + i)) := by
      rw [hy]; show upd (z.2.2.1 8) (nI i).toNatClampNeg _ = _; rw [hc1]
    have y9 : y.2.2.1 9 = upd (z.2.2.1 9) i (z.2.2.1 9 (241 + i)) := by
      rw [hy]; show upd (z.2.2.1 9) (nI i).toNatClampNeg _ = _; rw [hc1]
    have y10 : y.2.2.1 10 = upd (z.2.2.1 10) i (z.2.2.1 10 (241 + i)) := by
      rw [hy]; show upd (z.2.2.1 10) (nI i).toNatClampNeg _ = _; rw [hc1]
    have y11 : y.2.2.1 11 = upd (z.2.2.1 11) i (z.2.2.1 11 (241 + i)) := by
      rw [hy]; show upd (z.2.2.1 11) (nI i).toNatClampNeg _ = _; rw [hc1]
    have yo : ∀ k, k = 13 ∨ k = 14 ∨ k = 15 ∨ k = 16 → y.2.2.1 k = z.2.2.1 k := by
      intro k hk
      rw [hy]
      rcases hk with rfl | rfl | rfl | rfl <;> rfl
    obtain ⟨z', q1, q2, q3, q4, q5, q6, q7, q8⟩ := ih (i + 1) f y (by omega) (by omega) (by rw [yo 15 (by omega)]; exact h15)
    rw [yo 13 (by omega)] at q1 q5
    rw [yo 14 (by omega)] at q6
    rw [yo 15 (by omega)] at q7
    rw [yo 16 (by omega)] at q8
    refine ⟨z', by rw [e0, q1], Fr_t (by rw [hy]; exact Fr_A (Fr_A (Fr_A (Fr_A (Fr_r _ _ z) (by decide) _ _) (by decide) _ _) (by decide) _ _) (by decide) _ _) q2, fun j h1 h2 => ?_, fun j hj => ?_, q5, q6, q7, q8⟩
    · by_cases c : j = i
      · subst c
        have := q4 j (by omega)
        rw [this.1, this.2.1, this.2.2.1, this.2.2.2, y8, y9, y10, y11, pk_us, pk_us, pk_us, pk_us]
        exact ⟨rfl, rfl, rfl, rfl⟩
      · have := q3 j (by omega) h2
        rw [this.1, this.2.1, this.2.2.1, this.2.2.2, y8, y9, y10, y11, pk_un (by omega), pk_un (by omega), pk_un (by omega), pk_un (by omega)]
        exact ⟨rfl, rfl, rfl, rfl⟩
    · have := q4 j (by omega)
      rw [this.1, this.2.1, this.2.2.1, this.2.2.2, y8, y9, y10, y11, pk_un (by omega), pk_un (by omega), pk_un (by omega), pk_un (by omega)]
      exact ⟨rfl, rfl, rfl, rfl⟩
theorem cp0 (F : Nat) : ∀ (d i f : Nat) (z : OS), i + d = 52 → d < f → 26 ≤ i → ∃ z', mX10_read_b34 F f z (nI i) = mX10_read_b55 F F z' 1 ∧ Fr [] [4] z z' ∧ (∀ j, j < i → z'.2.2.1 4 j = z.2.2.1 4 j) ∧ ∀ j, i ≤ j → j < 52 → z'.2.2.1 4 j = 0 := by
  intro d
  induction d with
  | zero =>
    intro i f z hi hf h26
    obtain ⟨f, rfl⟩ : ∃ g, f = g + 1 := ⟨f - 1, by omega⟩
    refine ⟨z, ?_, Fr_r _ _ z, fun j _ => rfl, fun j h1 h2 => by omega⟩
    rw [mX10_read_b34, if_pos (show (52 : Int32) ≤ nI i from nI_le (a := 52) (by omega) (by omega))]
    rfl
  | succ d ih =>
    intro i f z hi hf h26
    obtain ⟨f, rfl⟩ : ∃ g, f = g + 1 := ⟨f - 1, by omega⟩
    have y4 : (sA z 4 (nI i) 0).2.2.1 4 = upd (z.2.2.1 4) i 0 := by
      show upd (z.2.2.1 4) (nI i).toNatClampNeg _ = _; rw [nI_clamp (by omega)]
    have e0 : mX10_read_b34 F (f + 1) z (nI i) = mX10_read_b34 F f (sA z 4 (nI i) 0) (nI (i + 1)) := by
      rw [mX10_read_b34, if_neg (show ¬ (52 : Int32) ≤ nI i from nI_ge (b := 52) (by omega) (by omega)), gds (vp_in_nI (by omega) (by omega)), nms, nms, nI_1]
    obtain ⟨z', q1, q2, q3, q4⟩ := ih (i + 1) f (sA z 4 (nI i) 0) (by omega) (by omega) (by omega)
    refine ⟨z', by rw [e0, q1], Fr_t (Fr_A (Fr_r _ _ z) (by decide) _ _) q2, fun j hj => by rw [q3 j (by omega), y4, pk_un (by omega)], fun j h1 h2 => ?_⟩
    by_cases c : j = i
    · subst c; rw [q3 j (by omega), y4, pk_us]
    · exact q4 j (by omega) h2
/-- all but RULES, out of what reading leaves -/
theorem Rel_of {zt zs zg zg' zh zh' zu zl zc zw zx z : OS} (h : Rel zt zs zg zh zu zl zc zw zx) (h1 : ∀ k, k ≠ 17 → k ≠ 18 → z.1 k = zx.1 k) (h2 : ∀ k j, ¬ (3 ≤ k ∧ k ≤ 16) → z.2.2.1 k j = zx.2.2.1 k j) (hG : RG zg' z) : Rel zt zs zg' zh' zu zl zc zw z := by
  obtain ⟨hT, hW, hU, hC, hR, -, hL, hD⟩ := h
  have e : ∀ k, ¬ (3 ≤ k ∧ k ≤ 16) → z.2.2.1 k = zx.2.2.1 k := fun k hk => funext fun j => h2 k j hk
  refine ⟨?_, ?_, ?_, ?_, ?_, hG, ?_, ?_⟩
  · unfold RT at hT ⊢
    rw [h1 2 (by decide) (by decide), e 1 (by omega)]
    exact hT
  · unfold RW at hW ⊢
    rw [e 19 (by omega)]
    exact hW
  · unfold RU at hU ⊢
    rw [h1 24 (by decide) (by decide), e 20 (by omega), e 21 (by omega), e 22 (by omega), e 23 (by omega)]
    exact hU
  · unfold RC at hC ⊢
    rw [h1 49 (by decide) (by decide), h1 51 (by decide) (by decide), e 48 (by omega), e 50 (by omega)]
    exact hC
  · unfold RR at hR ⊢
    rw [e 52 (by omega)]
    exact hR
  · rw [h1 25 (by decide) (by decide)]
    exact hL
  · unfold RD at hD ⊢
    rw [e 0 (by omega)]
    exact hD
/-- the elder RULES stay -/
theorem RG_L {zg zx z : OS} (h : RG zg zx) (hL : Lw zx z) : RG zg z := by
  obtain ⟨R, A, S, fa, al, wt, fs, sc, hR16, hA, hS, g1, g2, g3, g4, g5, g6, g7, g8, g9, g10, g11⟩ := h
  have e : ∀ k j, j < loB k → z.2.2.1 k j = zx.2.2.1 k j := fun k j hj => hL.2.2.1 k j (Or.inr hj)
  refine ⟨R, A, S, fa, al, wt, fs, sc, hR16, hA, hS, g1, by rw [e 13 0 (by decide)]; exact g2, g3, by rw [e 14 0 (by decide)]; exact g4, g5, by rw [e 15 0 (by decide)]; exact g6, fun q hq => ?_, fun a ha => ?_, fun s hs => ?_, fun h0 => ?_, g11⟩
  · rw [e 4 q hq, e 3 q hq]
    exact g7 q hq
  · rw [e 5 a (show a < 48 by omega), e 6 a (show a < 48 by omega), e 7 a (show a < 48 by omega)]
    exact g8 a ha
  · have := g9 s hs
    unfold RS at this ⊢
    rw [e 8 s (show s < 241 by omega), e 9 s (show s < 241 by omega), e 10 s (show s < 241 by omega), e 11 s (show s < 241 by omega)]
    exact this
  · rw [e 16 0 (by decide)]
    exact g10 h0
theorem R_read {zt zs zg zh zu zl zc zw zx : OS} (h : Rel zt zs zg zh zu zl zc zw zx)  : ∃ (F1 F2 : Nat) (r : Int32) (zg' : OS) (zh' : OS) (zx' : OS), mX9_read F1 zs zg zh  = some (r, zg', zh') ∧ mX10_read F2 zx  = some (r, zx') ∧ Rel zt zs zg' zh' zu zl zc zw zx' := by
  obtain ⟨F, hF⟩ : ∃ F : Nat, F = 2000 := ⟨_, rfl⟩
  refine ⟨F, F, ?_⟩
  have hRel := h
  obtain ⟨⟨n, hn, t1, t2, t3⟩, -, -, -, -, hRG, -, -⟩ := h
  have ht0 : Tx (zx.2.2.1 1) n zs zx := ⟨hn, t1, t2, fun j hj => ⟨(t3 j hj).1, rfl, (t3 j hj).2⟩⟩
  obtain ⟨ch, hch⟩ : ∃ ch, ch = zx.2.2.1 1 := ⟨_, rfl⟩
  rw [← hch] at ht0
  obtain ⟨k, hk⟩ : ∃ k, k = skc ch n 0 := ⟨_, rfl⟩
  have hks := skc_ok (ch := ch) (n := n) (k := 0) (by omega)
  rw [← hk] at hks
  -- both begin
  obtain ⟨zh1, hzh1⟩ : ∃ y, y = sR (sR (sR (sI (sI (sI zh 11 0) 12 0) 13 0) 1 (fillF 26 (zh.2.2.1 1) 0)) 2 (fillF 26 (zh.2.2.1 2) 0)) 3 (fillF 26 (zh.2.2.1 3) (-1)) := ⟨_, rfl⟩
  obtain ⟨z1, hz1⟩ : ∃ y, y = sA (sA (sA (sI (sI zx 18 (-1)) 17 0) 13 1 0) 14 1 0) 15 1 0 := ⟨_, rfl⟩
  obtain ⟨z2, a1, a2, a3, a4⟩ := cp0 F 26 26 F z1 (by omega) (by omega) (by omega)
  have eX : mX5_readAll F iX5 zs zh = mX5_readAll_b21 F F (sI iX5 2 (nI k)) zs zh1 (nI 0) := by
    unfold mX5_readAll mX5_readAll_b0
    rw [show mX2_clear zh = some zh1 from by rw [hzh1]; rfl, b1s, show (0 : Int32) = nI 0 from rfl, skip_X ht0 (by omega) (by omega), ← hk, b1s]
    rfl
  have eM : mX10_read F zx = mX10_read_b55 F F z2 1 := by
    rw [← a1]
    unfold mX10_read mX10_read_b0
    simp only [nms, gds v12]
    rw [hz1]
    rfl
  have L1 : Lw zx z1 := by
    rw [hz1]
    exact Lw_A (i := 1) (Lw_A (i := 1) (Lw_A (i := 1) (Lw_I (Lw_I (Lw_r zx) (Or.inr rfl) _) (Or.inl rfl) _) (by omega) (by decide) (by omega) _) (by omega) (by decide) (by omega) _) (by omega) (by decide) (by omega) _
  have L2 : Lw zx z2 := by
    refine ⟨fun i h1 h2 => (a2.1 i (by simp)).trans (L1.1 i h1 h2), a2.2.1.trans L1.2.1, fun i j hij => ?_, a2.2.2.2.trans L1.2.2.2⟩
    rw [← L1.2.2.1 i j hij]
    by_cases c : i = 4
    · subst c
      have : j < 26 := by
        rcases hij with hij | hij
        · omega
        · exact hij
      rw [a3 j this]
    · rw [a2.2.2.1 i (by simpa using c)]
  have hAG : AGr zh1 z2 0 0 0 (fun _ => 0) (fun _ => 0) (fun _ => 0) (fun _ => 0) (fun _ => 0) := by
    refine ⟨by omega, by omega, by omega, by rw [hzh1]; rfl, by rw [a2.2.2.1 13 (by decide), hz1]; rfl, by rw [hzh1]; rfl, by rw [a2.2.2.1 14 (by decide), hz1]; rfl, by rw [a2.2.2.1 15 (by decide), hz1]; rfl, fun q hq => ⟨Nat.le_refl 0, ?_, ?_, ?_, fun h0 => absurd h0 (Nat.lt_irrefl 0)⟩, fun a ha => absurd ha (Nat.not_lt_zero a)⟩
    · rw [hzh1]
      show fillF 26 _ 0 q = _
      exact if_pos hq
    · exact a4 (26 + q) (by omega) (by omega)
    · rw [hzh1]
      show fillF 26 _ 0 q = _
      exact if_pos hq
  have hSG : SG zh1 z2 0 k (fun _ => 0) := by
    refine ⟨by rw [hzh1]; rfl, by omega, fun s hs => absurd hs (Nat.not_lt_zero s), fun s s' _ hs => absurd hs (Nat.not_lt_zero s'), fun s hs => absurd hs (Nat.not_lt_zero s), fun q hq => Or.inl ⟨?_, fun s hs => absurd hs (Nat.not_lt_zero s)⟩⟩
    rw [hzh1]
    show fillF 26 _ (-1) q = _
    exact if_pos hq
  obtain ⟨v, zr', zh2, w1, w2⟩ := all_b ht0 (F := F) (by omega) 17 0 0 0 0 k F F (sI iX5 2 (nI k)) zh1 z2 1 _ _ _ _ _ _ (by omega) (by omega) (by omega) (by omega) L2 (by omega) hk.symm rfl (by rw [a2.1 17 (by simp), hz1]; rfl) (by rw [a2.1 18 (by simp), hz1]; rfl) hAG hSG (fun a ha => absurd ha (Nat.not_lt_zero a)) (fun h0 => absurd h0 (Nat.lt_irrefl 0)) (Or.inl ⟨rfl, rfl, fun _ _ => rfl⟩)
  unfold mX9_read
  rw [eX, w1, b3s, eM]
  rcases w2 with ⟨p, z', p1, p2, p3, p4⟩ | ⟨p2, z', R, A, S, k', fa, al, wt, fs, sc, pl, p3, p4, q1, q2, q3, q4, ⟨q0, u1, u2, u3, u4⟩, q6⟩
  · -- a FAULT
    rw [p2, if_neg (nI_m1 (by omega)), p3]
    exact ⟨_, _, _, z', rfl, rfl, Rel_of hRel p4.1 (fun i j hij => p4.2.2.1 i j (Or.inl hij)) (RG_L hRG p4)⟩
  · -- new RULES
    rw [p2, if_pos rfl, p3]
    obtain ⟨g1, g2, g3, g4, g5, g6, g7, g8, g9, g10⟩ := q2
    obtain ⟨s1, s2, s3, s4, s5, s6⟩ := q3
    obtain ⟨y1, b1, b2, b3, b4⟩ := cp1 F 26 0 F z' (by omega) (by omega)
    obtain ⟨y2, c1, c2, c3, c4⟩ := cp2 F g2 A 0 F y1 (by omega) (by omega) (by rw [b2.2.2.1 14 (by decide)]; exact g7)
    obtain ⟨y3, d1, d2, d3, d4, d5, d6, d7, d8⟩ := cp3 F s2 S 0 F y2 (by omega) (by omega) (by rw [c2.2.2.1 15 (by decide), b2.2.2.1 15 (by decide)]; exact g8)
    have e13 : y2.2.2.1 13 1 = nI R := by rw [c2.2.2.1 13 (by decide), b2.2.2.1 13 (by decide)]; exact g5
    have e14 : y2.2.2.1 14 1 = nI A := by rw [c2.2.2.1 14 (by decide), b2.2.2.1 14 (by decide)]; exact g7
    have e15 : y2.2.2.1 15 1 = nI S := by rw [c2.2.2.1 15 (by decide), b2.2.2.1 15 (by decide)]; exact g8
    have e16 : y2.2.2.1 16 1 = z'.2.2.1 16 1 := by rw [c2.2.2.1 16 (by decide), b2.2.2.1 16 (by decide)]
    have up : ∀ i j, 8 ≤ i → i ≤ 12 → y2.2.2.1 i j = z'.2.2.1 i j := fun i j h1 h2 => by rw [c2.2.2.1 i (by simp; omega), b2.2.2.1 i (by simp; omega)]
    refine ⟨zh2.1 11, zh2, zg, y3, rfl, ?_, ?_⟩
    · rw [show (0 : Int32) = nI 0 from rfl, b1, show (0 : Int32) = nI 0 from rfl, c1, show (0 : Int32) = nI 0 from rfl, d1, e13, g4]
    · refine Rel_of hRel (fun i h1 h2 => ?_) (fun i j hij => ?_) ?_
      · rw [d2.1 i (by simp), c2.1 i (by simp), b2.1 i (by simp)]
        exact p4.1 i h1 h2
      · rw [d2.2.2.1 i (by simp; omega), c2.2.2.1 i (by simp; omega), b2.2.2.1 i (by simp; omega)]
        exact p4.2.2.1 i j (Or.inl hij)
      · refine ⟨R, A, S, fa, al, wt, fs, sc, g1, g2, s2, g4, by rw [d5, e13], g6, by rw [d6, e14], s1, by rw [d7, e15], fun q hq => ?_, fun a ha => ?_, fun s hs => ?_, fun _ => ⟨q0, u1, u2, u3, by rw [d8, e16, u4]⟩, fun h0 => by omega⟩
        · obtain ⟨m1, m2, m3, m4, m5⟩ := g9 q hq
          have := b4 q (by omega) hq
          rw [d2.2.2.1 4 (by decide), d2.2.2.1 3 (by decide), c2.2.2.1 4 (by decide), c2.2.2.1 3 (by decide), this.1, this.2]
          exact ⟨by omega, m2, m3, m4, m5⟩
        · obtain ⟨m1, m2, m3, m4, m5, m6, m7, m8, m9, m10⟩ := g10 a ha
          have := c4 a (by omega) ha
          rw [d2.2.2.1 5 (by decide), d2.2.2.1 6 (by decide), d2.2.2.1 7 (by decide), this.1, this.2.1, this.2.2, b2.2.2.1 5 (by decide), b2.2.2.1 6 (by decide), b2.2.2.1 7 (by decide)]
          exact ⟨m1, m2, q4 a ha, m3, m4, m5, m6, m7, m8, m9, m10⟩
        · have e := d3 s (by omega) hs
          rw [up 8 _ (by omega) (by omega), up 9 _ (by omega) (by omega), up 10 _ (by omega) (by omega), up 11 _ (by omega) (by omega)] at e
          rcases s3 s hs with ⟨q, m1, m2, m3, m4, m5⟩ | ⟨d, t, o, m1, m2, m3, m4, m5, m6, m7, m8, m9, m10, m11, m12, m13⟩ | ⟨t, m1, m2, m3, m4, m5, m6, m7⟩
          · refine Or.inl ⟨q, m1, ?_, m2, by rw [e.1, m3], by rw [e.2.1, m4]⟩
            by_cases c : al q = 0
            · exact absurd ⟨q, m1, m2, c⟩ (q6 s hs)
            · omega
          · exact Or.inr (Or.inl ⟨d, t, o, m1, m2, m3, m4, m5, m6, m7, m8, m9, by rw [e.1, m10], by rw [e.2.1, m11], by rw [e.2.2.1, m12], by rw [e.2.2.2, m13]⟩)
          · exact Or.inr (Or.inr ⟨t, m1, m2, m3, m4, m5, by rw [e.1, m6], by rw [e.2.2.2, m7]⟩)

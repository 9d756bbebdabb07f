/-! read, fourth: a WEIGHT on both sides -/
def AGr (zh z : OS) (R A S : Nat) (fa al wt fs sc : Nat → Nat) : Prop := R ≤ 16 ∧ A ≤ 48 ∧ S ≤ 240 ∧ zh.1 11 = nI R ∧ z.2.2.1 13 1 = nI R ∧ zh.1 12 = nI A ∧ z.2.2.1 14 1 = nI A ∧ z.2.2.1 15 1 = nI S ∧
  (∀ q, q < 26 → al q ≤ A ∧ zh.2.2.1 1 q = nI (al q) ∧ z.2.2.1 4 (26 + q) = nI (al q) ∧ zh.2.2.1 2 q = nI (sumW wt (fa q) (al q)) ∧ (0 < al q → zh.2.2.1 0 q = nI (fa q) ∧ z.2.2.1 3 (26 + q) = nI (fa q) ∧ fa q + al q ≤ A)) ∧
  (∀ a, a < A → 1 ≤ wt a ∧ wt a ≤ 999 ∧ sc a ≤ 12 ∧ fs a + sc a ≤ S ∧ zh.2.2.1 4 a = nI (wt a) ∧ z.2.2.1 5 (48 + a) = nI (wt a) ∧ zh.2.2.1 5 a = nI (fs a) ∧ z.2.2.1 6 (48 + a) = nI (fs a) ∧ zh.2.2.1 6 a = nI (fs a + sc a) ∧ z.2.2.1 7 (48 + a) = nI (sc a))
def upN (f : Nat → Nat) (k v : Nat) : Nat → Nat := fun j => if j = k then v else f j
theorem upN_s (f : Nat → Nat) (k v : Nat) : upN f k v k = v := if_pos rfl
theorem upN_n (f : Nat → Nat) {k v j : Nat} (h : j ≠ k) : upN f k v j = f j := if_neg h
theorem sumW_c {wt wt' : Nat → Nat} {a : Nat} : ∀ n, (∀ i, i < n → wt' (a + i) = wt (a + i)) → sumW wt' a n = sumW wt a n := by
  intro n
  induction n with
  | zero => intro _; rfl
  | succ n ih =>
    intro h
    show sumW wt' a n + wt' (a + n) = sumW wt a n + wt (a + n)
    rw [ih (fun i hi => h i (by omega)), h n (by omega)]
/-- the rule that is open -/
def OPr (zh z : OS) (A ql : Nat) (fa al : Nat → Nat) : Prop := ql < 26 ∧ zh.1 15 = nI ql ∧ zh.2.2.1 0 ql = nI (fa ql) ∧ z.2.2.1 3 (26 + ql) = nI (fa ql) ∧ fa ql + al ql = A
theorem wl_b {ch : Nat → Int32} {n : Nat} {zs z0 : OS} (h : Tx ch n zs z0) (F : Nat) (zh : OS) (a1 : Int32) (k0 : Nat) (hk0 : k0 < 2 ^ 31) : ∀ (d k v f1 f2 : Nat) (zr z : OS), Tx ch n zs z → k + d = n → d < f1 → d + 1 < f2 → v ≤ 999 → zr.1 2 = nI k → z.1 17 = nI k → ∃ (k' v' : Nat) (zr' z' : OS), k ≤ k' ∧ k' ≤ n ∧ zr'.1 2 = nI k' ∧ z'.1 17 = nI k' ∧ v' ≤ 9999 ∧ v ≤ v' ∧ ((k < k' ∧ ∃ j, 48 ≤ j ∧ j ≤ 57 ∧ pkc ch n k = nI j ∧ v * 10 + (j - 48) ≤ v') ∨ (k' = k ∧ v' = v ∧ ¬ (48 ≤ pkc ch n k ∧ pkc ch n k ≤ 57))) ∧ Fr [17] [] z z' ∧ mX10_readWeight_b19 F f2 z a1 (nI k0) (nI v) = mX10_readWeight_b70 F z' a1 (nI k0) (nI v') ∧ ((v' ≤ 999 ∧ mX5_readWeight_b42 F f1 zr zs zh (nI k0) (nI v) = mX5_readWeight_b105 F zr' zs zh (nI v')) ∨ (999 < v' ∧ ∃ zr'', zr''.1 3 = nI k0 ∧ mX5_readWeight_b42 F f1 zr zs zh (nI k0) (nI v) = some (0, zr'', zh))) := by
  have hn := h.1
  intro d
  induction d with
  | zero =>
    intro k v f1 f2 zr z ht hk hf1 hf2 hv hr hz
    obtain ⟨f1, rfl⟩ : ∃ g, f1 = g + 1 := ⟨f1 - 1, by omega⟩
    obtain ⟨f2, rfl⟩ : ∃ g, f2 = g + 1 := ⟨f2 - 1, by omega⟩
    have e : pkc ch n k = -1 := pkc_ge (by omega)
    refine ⟨k, v, zr, z, Nat.le_refl k, by omega, hr, hz, by omega, Nat.le_refl v, Or.inr ⟨rfl, rfl, by rw [e]; decide⟩, Fr_r _ _ z, ?_, Or.inl ⟨hv, ?_⟩⟩
    · rw [mX10_readWeight_b19, hz, peek_M ht (by omega), b1s, (dig _).2, b1s, e, if_pos (by decide)]
    · rw [mX5_readWeight_b42, ht.2.1, hr, if_pos (nI_le (by omega) (by omega))]
  | succ d ih =>
    intro k v f1 f2 zr z ht hk hf1 hf2 hv hr hz
    obtain ⟨f1, rfl⟩ : ∃ g, f1 = g + 1 := ⟨f1 - 1, by omega⟩
    obtain ⟨f2, rfl⟩ : ∃ g, f2 = g + 1 := ⟨f2 - 1, by omega⟩
    have eX : mX5_readWeight_b42 F (f1 + 1) zr zs zh (nI k0) (nI v) = (if (if 48 ≤ pkc ch n k ∧ pkc ch n k ≤ 57 then (1 : Int32) else 0) = 0 then mX5_readWeight_b105 F zr zs zh (nI v) else (if ((nI v * 10) + pkc ch n k) - 48 ≤ 999 then mX5_readWeight_b42 F f1 (sI zr 2 (nI (k + 1))) zs zh (nI k0) (((nI v * 10) + pkc ch n k) - 48) else some (0, sI zr 3 (nI k0), zh))) := by
      rw [mX5_readWeight_b42, ht.2.1, hr, if_neg (nI_ge (by omega) (by omega)), here_X ht (by omega) hr, b1s, (dig _).1, b1s, b1s, nms, nms, nI_1]
      rfl
    have eM : mX10_readWeight_b19 F (f2 + 1) z a1 (nI k0) (nI v) = (if (if 48 ≤ pkc ch n k ∧ pkc ch n k ≤ 57 then (1 : Int32) else 0) = 0 then mX10_readWeight_b70 F z a1 (nI k0) (nI v) else mX10_readWeight_b19 F f2 (sI z 17 (nI (k + 1))) a1 (nI k0) (((10 * nI v) + pkc ch n k) - 48)) := by
      rw [mX10_readWeight_b19, hz, peek_M ht (by omega), b1s, (dig _).2, b1s, b1s, nms, nms, nI_1, if_neg (show ¬ (1000 : Int32) ≤ nI v from nI_ge (b := 1000) (by omega) (by omega))]
    rw [eX, eM]
    by_cases c : 48 ≤ pkc ch n k ∧ pkc ch n k ≤ 57
    · obtain ⟨j, j1, j2, ej⟩ := chN (a := 48) (b := 57) (by omega) (by omega) c.1 c.2
      have e10 : nI v * 10 = nI (v * 10) ∧ 10 * nI v = nI (v * 10) := by
        have : ∀ v : Nat, v < 1000 → nI v * 10 = nI (v * 10) ∧ 10 * nI v = nI (v * 10) := by decide +kernel
        exact this v (by omega)
      have ev : (nI (v * 10) + nI j) - 48 = nI (v * 10 + (j - 48)) := by
        rw [nI_add, show (48 : Int32) = nI 48 from rfl, nI_sub (by omega), show v * 10 + j - 48 = v * 10 + (j - 48) by omega]
      rw [if_pos c, if_neg z01, if_neg z01, ej, e10.1, e10.2, ev]
      by_cases c2 : v * 10 + (j - 48) ≤ 999
      · rw [if_pos (show nI (v * 10 + (j - 48)) ≤ 999 from nI_le (b := 999) c2 (by omega))]
        obtain ⟨k', v', zr', z', q1, q2, q3, q4, q5, q6, q7, q8, q9, q10⟩ := ih (k + 1) (v * 10 + (j - 48)) f1 f2 (sI zr 2 (nI (k + 1))) (sI z 17 (nI (k + 1))) ht (by omega) (by omega) (by omega) c2 rfl rfl
        exact ⟨k', v', zr', z', by omega, q2, q3, q4, q5, by omega, Or.inl ⟨by omega, j, j1, j2, rfl, q6⟩, Fr_t (Fr_I (Fr_r _ _ z) (by decide) _) q8, q9, q10⟩
      · rw [if_neg (show ¬ nI (v * 10 + (j - 48)) ≤ 999 from nI_ge (a := 999) (by omega) (by omega))]
        obtain ⟨f2, rfl⟩ : ∃ g, f2 = g + 1 := ⟨f2 - 1, by omega⟩
        have eM2 : mX10_readWeight_b19 F (f2 + 1) (sI z 17 (nI (k + 1))) a1 (nI k0) (nI (v * 10 + (j - 48))) = mX10_readWeight_b70 F (sI z 17 (nI (k + 1))) a1 (nI k0) (nI (v * 10 + (j - 48))) := by
          rw [mX10_readWeight_b19, show (sI z 17 (nI (k + 1))).1 17 = nI (k + 1) from rfl, peek_M (show Tx ch n zs (sI z 17 (nI (k + 1))) from ht) (by omega), b1s, (dig _).2, b1s, if_pos (show (1000 : Int32) ≤ nI (v * 10 + (j - 48)) from nI_le (a := 1000) (by omega) (by omega))]
          split <;> rfl
        exact ⟨k + 1, v * 10 + (j - 48), sI zr 2 (nI (k + 1)), sI z 17 (nI (k + 1)), by omega, by omega, rfl, rfl, by omega, by omega, Or.inl ⟨by omega, j, j1, j2, rfl, by omega⟩, Fr_I (Fr_r _ _ z) (by decide) _, eM2, Or.inr ⟨by omega, _, rfl, rfl⟩⟩
    · rw [if_neg c, if_pos rfl, if_pos rfl]
      exact ⟨k, v, zr, z, Nat.le_refl k, by omega, hr, hz, by omega, Nat.le_refl v, Or.inr ⟨rfl, rfl, c⟩, Fr_r _ _ z, rfl, Or.inl ⟨hv, rfl⟩⟩
theorem v12 : vp_in 1 2 := vp_in_nI (n := 1) (by omega) (by omega)
theorem k1 : (1 : Int32).toNatClampNeg = 1 := by decide
theorem oA_X {zh z : OS} {R A S ql w : Nat} {fa al wt fs sc : Nat → Nat} (h : AGr zh z R A S fa al wt fs sc) (hA : A < 48) (ho : OPr zh z A ql fa al) (hS : zh.1 13 = nI S) : ∃ zh', mX2_openAlternative zh (nI w) = some zh' ∧ Fr [12] [1, 2, 4, 5, 6] zh zh' ∧ zh'.1 12 = nI (A + 1) ∧ zh'.2.2.1 1 = upd (zh.2.2.1 1) ql (nI (al ql + 1)) ∧ zh'.2.2.1 2 = upd (zh.2.2.1 2) ql (nI (sumW wt (fa ql) (al ql) + w)) ∧ zh'.2.2.1 4 = upd (zh.2.2.1 4) A (nI w) ∧ zh'.2.2.1 5 = upd (zh.2.2.1 5) A (nI S) ∧ zh'.2.2.1 6 = upd (zh.2.2.1 6) A (nI S) := by
  obtain ⟨g1, g2, g3, g4, g5, g6, g7, g8, g9, g10⟩ := h
  obtain ⟨o1, o2, o3, o4, o5⟩ := ho
  obtain ⟨q1, q2, q3, q4, -⟩ := g9 ql o1
  have hv := vp_in_nI hA (show (48 : Nat) < 2 ^ 31 by omega)
  have hq := vp_in_nI o1 (show (26 : Nat) < 2 ^ 31 by omega)
  have hcA : (nI A).toNatClampNeg = A := nI_clamp (by omega)
  have hcq : (nI ql).toNatClampNeg = ql := nI_clamp (by omega)
  obtain ⟨y3, hy3⟩ : ∃ y, y = sI (sA (sA (sA zh 4 (nI A) (nI w)) 5 (nI A) (nI S)) 6 (nI A) (nI S)) 12 (nI (A + 1)) := ⟨_, rfl⟩
  have e15 : y3.1 15 = nI ql := by rw [hy3]; exact o2
  have e1 : y3.2.2.1 1 = zh.2.2.1 1 := by rw [hy3]; rfl
  have e2 : y3.2.2.1 2 = zh.2.2.1 2 := by rw [hy3]; rfl
  refine ⟨sA (sA y3 1 (nI ql) (nI (al ql + 1))) 2 (nI ql) (nI (sumW wt (fa ql) (al ql) + w)), ?_, ?_, ?_, ?_, ?_, ?_, ?_, ?_⟩
  · unfold mX2_openAlternative mX2_openAlternative_b0
    simp only [nms]
    rw [g6, gds hv, show (sA zh 4 (nI A) (nI w)).1 12 = nI A from g6, gds hv, show (sA zh 4 (nI A) (nI w)).1 13 = nI S from hS, show (sA (sA zh 4 (nI A) (nI w)) 5 (nI A) (nI S)).1 12 = nI A from g6, gds hv, show (sA (sA zh 4 (nI A) (nI w)) 5 (nI A) (nI S)).1 13 = nI S from hS, show (sA (sA (sA zh 4 (nI A) (nI w)) 5 (nI A) (nI S)) 6 (nI A) (nI S)).1 12 = nI A from g6, nI_1, ← hy3, e15, gds hq, gds hq, hcq, e1, q2, nI_1]
    rw [show (sA y3 1 (nI ql) (nI (al ql + 1))).1 15 = nI ql from e15, gds hq, gds hq, hcq, show (sA y3 1 (nI ql) (nI (al ql + 1))).2.2.1 2 = zh.2.2.1 2 from e2, q4, nI_add]
  · rw [hy3]
    exact Fr_A (Fr_A (Fr_I (Fr_A (Fr_A (Fr_A (Fr_r _ _ zh) (by decide) _ _) (by decide) _ _) (by decide) _ _) (by decide) _) (by decide) _ _) (by decide) _ _
  · rw [hy3]; rfl
  · show upd (y3.2.2.1 1) (nI ql).toNatClampNeg _ = _
    rw [hcq, e1]
  · show upd (y3.2.2.1 2) (nI ql).toNatClampNeg _ = _
    rw [hcq, e2]
  · rw [hy3]
    show upd (zh.2.2.1 4) (nI A).toNatClampNeg _ = _
    rw [hcA]
  · rw [hy3]
    show upd (zh.2.2.1 5) (nI A).toNatClampNeg _ = _
    rw [hcA]
  · rw [hy3]
    show upd (zh.2.2.1 6) (nI A).toNatClampNeg _ = _
    rw [hcA]
theorem b70_M {zh z : OS} {ch : Nat → Int32} {n F R A S ql w k0 k : Nat} {zs : OS} {fa al wt fs sc : Nat → Nat} (ht : Tx ch n zs z) (h : AGr zh z R A S fa al wt fs sc) (hA : A < 48) (ho : OPr zh z A ql fa al) (hk : k0 < k) (hkn : k ≤ n) (h17 : z.1 17 = nI k) (hc : ¬ pkc ch n k0 = 48) (hw : w ≤ 999) : ∃ z', mX10_readWeight_b70 F z (nI ql) (nI k0) (nI w) = some z' ∧ Fr [] [4, 5, 6, 7, 14] z z' ∧ z'.2.2.1 14 = upd (z.2.2.1 14) 1 (nI (A + 1)) ∧ z'.2.2.1 4 = upd (z.2.2.1 4) (26 + ql) (nI (al ql + 1)) ∧ z'.2.2.1 5 = upd (z.2.2.1 5) (48 + A) (nI w) ∧ z'.2.2.1 6 = upd (z.2.2.1 6) (48 + A) (nI S) ∧ z'.2.2.1 7 = upd (z.2.2.1 7) (48 + A) (nI 0) := by
  have hn := ht.1
  obtain ⟨g1, g2, g3, g4, g5, g6, g7, g8, g9, g10⟩ := h
  obtain ⟨o1, o2, o3, o4, o5⟩ := ho
  obtain ⟨q1, q2, q3, q4, -⟩ := g9 ql o1
  have hv := vp_in_nI (show 48 + A < 96 by omega) (show (96 : Nat) < 2 ^ 31 by omega)
  have hq := vp_in_nI (show 26 + ql < 52 by omega) (show (52 : Nat) < 2 ^ 31 by omega)
  have hcA : (nI (48 + A)).toNatClampNeg = 48 + A := nI_clamp (by omega)
  have hcq : (nI (26 + ql)).toNatClampNeg = 26 + ql := nI_clamp (by omega)
  obtain ⟨y, hy⟩ : ∃ y, y = sA (sA (sA (sA z 5 (nI (48 + A)) (nI w)) 6 (nI (48 + A)) (nI S)) 7 (nI (48 + A)) (nI 0)) 14 1 (nI (A + 1)) := ⟨_, rfl⟩
  have e4 : y.2.2.1 4 = z.2.2.1 4 := by rw [hy]; rfl
  refine ⟨sA y 4 (nI (26 + ql)) (nI (al ql + 1)), ?_, ?_, ?_, ?_, ?_, ?_, ?_⟩
  · unfold mX10_readWeight_b70
    simp only [nms]
    rw [h17, if_neg (fun e => absurd ((nI_eq (by omega) (by omega)).mp e) (by omega)), peek_M ht (by omega), b1s, if_neg hc, if_neg (show ¬ (999 : Int32) < nI w from nI_nlt (a := 999) hw (by omega))]
    simp only [gds v12]
    rw [k1, g7, if_neg (show ¬ nI A = 48 from fun e => absurd ((nI_eq (b := 48) (by omega) (by omega)).mp e) (by omega)), show (48 : Int32) + nI A = nI (48 + A) from nI_add 48 A, gds hv, gds hv, gds hv]
    rw [show (sA z 5 (nI (48 + A)) (nI w)).2.2.1 15 1 = nI S from g8]
    rw [show (sA (sA (sA z 5 (nI (48 + A)) (nI w)) 6 (nI (48 + A)) (nI S)) 7 (nI (48 + A)) 0).2.2.1 14 1 = nI A from g7, nI_1, show (0 : Int32) = nI 0 from rfl, ← hy, show (26 : Int32) + nI ql = nI (26 + ql) from nI_add 26 ql, gds hq, gds hq, hcq, e4, q3, nI_1]
  · rw [hy]
    exact Fr_A (Fr_A (Fr_A (Fr_A (Fr_A (Fr_r _ _ z) (by decide) _ _) (by decide) _ _) (by decide) _ _) (by decide) _ _) (by decide) _ _
  · rw [hy]; rfl
  · show upd (y.2.2.1 4) (nI (26 + ql)).toNatClampNeg _ = _
    rw [hcq, e4]
  · rw [hy]
    show upd (z.2.2.1 5) (nI (48 + A)).toNatClampNeg _ = _
    rw [hcA]
  · rw [hy]
    show upd (z.2.2.1 6) (nI (48 + A)).toNatClampNeg _ = _
    rw [hcA]
  · rw [hy]
    show upd (z.2.2.1 7) (nI (48 + A)).toNatClampNeg _ = _
    rw [hcA]
/-- one ALTERNATIVE more -/
theorem AGr_new {zh zh' z z' : OS} {R A S ql w : Nat} {fa al wt fs sc : Nat → Nat} (h : AGr zh z R A S fa al wt fs sc) (hA : A < 48) (ho : OPr zh z A ql fa al) (hw1 : 1 ≤ w) (hw : w ≤ 999) (x0 : Fr [12] [1, 2, 4, 5, 6] zh zh') (x12 : zh'.1 12 = nI (A + 1)) (x1 : zh'.2.2.1 1 = upd (zh.2.2.1 1) ql (nI (al ql + 1))) (x2 : zh'.2.2.1 2 = upd (zh.2.2.1 2) ql (nI (sumW wt (fa ql) (al ql) + w))) (x4 : zh'.2.2.1 4 = upd (zh.2.2.1 4) A (nI w)) (x5 : zh'.2.2.1 5 = upd (zh.2.2.1 5) A (nI S)) (x6 : zh'.2.2.1 6 = upd (zh.2.2.1 6) A (nI S)) (y0 : Fr [17] [4, 5, 6, 7, 14] z z') (y14 : z'.2.2.1 14 = upd (z.2.2.1 14) 1 (nI (A + 1))) (y4 : z'.2.2.1 4 = upd (z.2.2.1 4) (26 + ql) (nI (al ql + 1))) (y5 : z'.2.2.1 5 = upd (z.2.2.1 5) (48 + A) (nI w)) (y6 : z'.2.2.1 6 = upd (z.2.2.1 6) (48 + A) (nI S)) (y7 : z'.2.2.1 7 = upd (z.2.2.1 7) (48 + A) (nI 0)) : AGr zh' z' R (A + 1) S fa (upN al ql (al ql + 1)) (upN wt A w) (upN fs A S) (upN sc A 0) ∧ OPr zh' z' (A + 1) ql fa (upN al ql (al ql + 1)) := by
  obtain ⟨g1, g2, g3, g4, g5, g6, g7, g8, g9, g10⟩ := h
  obtain ⟨o1, o2, o3, o4, o5⟩ := ho
  refine ⟨⟨g1, by omega, g3, by rw [x0.1 11 (by decide)]; exact g4, by rw [y0.2.2.1 13 (by decide)]; exact g5, x12, by rw [y14, pk_us], by rw [y0.2.2.1 15 (by decide)]; exact g8, fun q hq => ?_, fun a ha => ?_⟩, o1, by rw [x0.1 15 (by decide)]; exact o2, by rw [x0.2.2.1 0 (by decide)]; exact o3, by rw [y0.2.2.1 3 (by decide)]; exact o4, by rw [upN_s]; omega⟩
  · obtain ⟨q1, q2, q3, q4, q5⟩ := g9 q hq
    rw [x1, x2, y4, x0.2.2.1 0 (by decide), y0.2.2.1 3 (by decide)]
    by_cases c : q = ql
    · subst c
      rw [upN_s, pk_us, pk_us, pk_us]
      refine ⟨by omega, rfl, rfl, ?_, fun _ => ⟨o3, o4, by omega⟩⟩
      show _ = nI (sumW (upN wt A w) (fa q) (al q) + upN wt A w (fa q + al q))
      rw [sumW_c (wt := wt) (al q) (fun i hi => upN_n wt (by omega)), o5, upN_s]
    · rw [upN_n _ c, pk_un c, pk_un c, pk_un (by omega)]
      refine ⟨by omega, q2, q3, ?_, fun h0 => ?_⟩
      · by_cases c0 : al q = 0
        · rw [q4, c0]; rfl
        · have := (q5 (by omega)).2.2
          rw [sumW_c (wt := wt) (al q) (fun i hi => upN_n wt (by omega))]
          exact q4
      · have := q5 h0
        exact ⟨this.1, this.2.1, by omega⟩
  · rw [x4, x5, x6, y5, y6, y7]
    by_cases c : a = A
    · subst c
      rw [upN_s, upN_s, upN_s, pk_us, pk_us, pk_us, pk_us, pk_us, pk_us]
      exact ⟨hw1, hw, by omega, by omega, rfl, rfl, rfl, rfl, rfl, rfl⟩
    · rw [upN_n _ c, upN_n _ c, upN_n _ c, pk_un c, pk_un c, pk_un c, pk_un (by omega), pk_un (by omega), pk_un (by omega)]
      exact g10 a (by omega)
theorem wgt_b {ch : Nat → Int32} {n : Nat} {zs z0 z zr zh : OS} {F R A S ql p k : Nat} {fa al wt fs sc : Nat → Nat} (ht0 : Tx ch n zs z0) (hL : Lw z0 z) (hF : 1300 < F) (hp : p ≤ n) (hpk : skc ch n p = k) (h17 : z.1 17 = nI p) (h18 : z.1 18 = -1) (hr : zr.1 2 = nI k) (h : AGr zh z R A S fa al wt fs sc) (ho : OPr zh z A ql fa al) (hS : zh.1 13 = nI S) : ∃ (v : Int32) (zr' zh' z' : OS), mX5_readWeight F zr zs zh = some (v, zr', zh') ∧ mX10_readWeight F z (nI ql) = some z' ∧ Lw z0 z' ∧ ((v = 0 ∧ zr'.1 3 = nI k ∧ z'.1 18 = nI k) ∨ (v = 1 ∧ z'.1 18 = -1 ∧ A < 48 ∧ ∃ w k', k < k' ∧ k' ≤ n ∧ zr'.1 2 = nI k' ∧ z'.1 17 = nI k' ∧ Fr [12] [1, 2, 4, 5, 6] zh zh' ∧ Fr [17] [4, 5, 6, 7, 14] z z' ∧ AGr zh' z' R (A + 1) S fa (upN al ql (al ql + 1)) (upN wt A w) (upN fs A S) (upN sc A 0) ∧ OPr zh' z' (A + 1) ql fa (upN al ql (al ql + 1)))) := by
  have hn := ht0.1
  have ht := Tx_L ht0 hL
  have hk := skc_ok (ch := ch) hp
  rw [hpk] at hk
  obtain ⟨z1, hz1⟩ : ∃ y, y = sI z 17 (nI k) := ⟨_, rfl⟩
  have t1 : Tx ch n zs z1 := by rw [hz1]; exact ht
  have L1 : Lw z0 z1 := by rw [hz1]; exact Lw_I hL (Or.inl rfl) _
  have x17 : z1.1 17 = nI k := by rw [hz1]; rfl
  have x18 : z1.1 18 = -1 := by rw [hz1]; exact h18
  have eM : mX10_readWeight F z (nI ql) = mX10_readWeight_b19 F F z1 (nI ql) (nI k) (nI 0) := by
    unfold mX10_readWeight mX10_readWeight_b0
    rw [h17, blanks_M ht (by omega) hp, hpk, b1s]
    simp only [nms]
    rw [← hz1, x17]
    rfl
  obtain ⟨k', v', zr', z2, q1, q2, q3, q4, q5, q6, q7, q8, q9, q10⟩ := wl_b ht0 F zh (nI ql) k (by omega) (n - k) k 0 F F zr z1 t1 (by omega) (by omega) (by omega) (by omega) hr x17
  have L2 : Lw z0 z2 := ⟨fun i h1 h2 => (q8.1 i (by simp; exact h1)).trans (L1.1 i h1 h2), q8.2.1.trans L1.2.1, fun i j hij => by rw [q8.2.2.1 i (by simp)]; exact L1.2.2.1 i j hij, q8.2.2.2.trans L1.2.2.2⟩
  have t2 := Tx_L ht0 L2
  have y18 : z2.1 18 = -1 := (q8.1 18 (by decide)).trans x18
  have g7 : z2.2.2.1 14 1 = nI A := by rw [q8.2.2.1 14 (by simp), hz1]; exact h.2.2.2.2.2.2.1
  -- the reference fails
  have e106 : mX10_readWeight_b106 F z2 (nI k) = some (sI z2 18 (nI k)) := by
    unfold mX10_readWeight_b106
    rw [fail_M y18, b1s]
  have refF : (k' = k ∨ pkc ch n k = 48 ∨ 999 < v' ∨ A = 48) → mX10_readWeight F z (nI ql) = some (sI z2 18 (nI k)) := by
    intro hh
    rw [eM, q9]
    unfold mX10_readWeight_b70
    rw [q4, peek_M t2 (by omega), b1s, gds v12, k1, g7, e106]
    by_cases c1 : nI k' = nI k
    · rw [if_pos c1]
    rw [if_neg c1]
    by_cases c2 : pkc ch n k = 48
    · rw [if_pos c2]
    rw [if_neg c2]
    by_cases c3 : (999 : Int32) < nI v'
    · rw [if_pos c3]
    rw [if_neg c3]
    rcases hh with e | e | e | e
    · exact absurd (by rw [e]) c1
    · exact absurd e c2
    · exact absurd (nI_lt (a := 999) e (by omega)) c3
    · rw [if_pos (by rw [e]; rfl)]
  have LF : Lw z0 (sI z2 18 (nI k)) := Lw_I L2 (Or.inr rfl) _
  -- the class's first look
  have eX : mX5_readWeight F zr zs zh = (if (if 48 ≤ pkc ch n k ∧ pkc ch n k ≤ 57 then (1 : Int32) else 0) = 0 then some (0, sI zr 3 (nI k), zh) else (if pkc ch n k = 48 then some (0, sI zr 3 (nI k), zh) else (if (48 : Int32) ≤ nI A then some (0, sI zr 3 (nI k), zh) else mX5_readWeight_b42 F F zr zs zh (nI k) (nI 0)))) := by
    have e34 : mX5_readWeight_b34 F zr zs zh (nI k) = some (0, sI zr 3 (nI k), zh) := rfl
    unfold mX5_readWeight mX5_readWeight_b0
    rw [nms, hr, here_X ht (by omega) hr, b1s, (dig _).1, b1s, b1s, e34]
    unfold mX2_canOpenAlternative mX2_canOpenAlternative_b0
    rw [h.2.2.2.2.2.1]
    by_cases c : (48 : Int32) ≤ nI A
    · rw [if_pos c, b1s, if_pos rfl, if_pos c]
    · rw [if_neg c, b1s, if_neg z01, if_neg c]
      rfl
  by_cases c1 : ¬ (48 ≤ pkc ch n k ∧ pkc ch n k ≤ 57)
  · rw [eX, if_neg c1, if_pos rfl]
    have hkk : k' = k := by
      rcases q7 with ⟨-, j, j1, j2, ej, -⟩ | e
      · exfalso
        apply c1
        rw [ej]
        exact ⟨nI_le (a := 48) j1 (by omega), nI_le (b := 57) j2 (by omega)⟩
      · exact e.1
    exact ⟨0, _, _, _, rfl, refF (Or.inl hkk), LF, Or.inl ⟨rfl, rfl, rfl⟩⟩
  have c1 := Decidable.not_not.mp c1
  rw [eX, if_pos c1, if_neg z01]
  by_cases c2 : pkc ch n k = 48
  · rw [if_pos c2]
    exact ⟨0, _, _, _, rfl, refF (Or.inr (Or.inl c2)), LF, Or.inl ⟨rfl, rfl, rfl⟩⟩
  rw [if_neg c2]
  by_cases c3 : A = 48
  · rw [if_pos (show (48 : Int32) ≤ nI A from by rw [c3]; decide)]
    exact ⟨0, _, _, _, rfl, refF (Or.inr (Or.inr (Or.inr c3))), LF, Or.inl ⟨rfl, rfl, rfl⟩⟩
  have hA48 := h.2.1
  rw [if_neg (show ¬ (48 : Int32) ≤ nI A from nI_ge (b := 48) (by omega) (by omega))]
  obtain ⟨hkk, j, j1, j2, ej, jv⟩ : k < k' ∧ ∃ j, 48 ≤ j ∧ j ≤ 57 ∧ pkc ch n k = nI j ∧ 0 * 10 + (j - 48) ≤ v' := by
    rcases q7 with e | ⟨-, -, e⟩
    · exact e
    · exact absurd c1 e
  have hj : j ≠ 48 := fun e => c2 (by rw [ej, e]; rfl)
  rcases q10 with ⟨v1, e1⟩ | ⟨v1, zr2, e2, e1⟩
  · -- a WEIGHT
    have hAG2 : AGr zh z2 R A S fa al wt fs sc := by
      obtain ⟨g1, g2, g3, g4, g5, g6, g7, g8, g9, g10⟩ := h
      have e : ∀ i, z2.2.2.1 i = z.2.2.1 i := fun i => by rw [q8.2.2.1 i (by simp), hz1]; rfl
      unfold AGr
      rw [e 13, e 14, e 15, e 4, e 3, e 5, e 6, e 7]
      exact ⟨g1, g2, g3, g4, g5, g6, g7, g8, g9, g10⟩
    have hOP2 : OPr zh z2 A ql fa al := by
      obtain ⟨o1, o2, o3, o4, o5⟩ := ho
      exact ⟨o1, o2, o3, by rw [q8.2.2.1 3 (by simp), hz1]; exact o4, o5⟩
    obtain ⟨zh', x, x0, x12, x1, x2, x4, x5, x6⟩ := oA_X (w := v') h (by omega) ho hS
    obtain ⟨z', y, y0, y14, y4, y5, y6, y7⟩ := b70_M (F := F) (w := v') t2 hAG2 (by omega) hOP2 hkk q2 q4 c2 v1
    have yF : Fr [17] [4, 5, 6, 7, 14] z z' := ⟨fun i hi => (y0.1 i (by simp)).trans ((q8.1 i (by simpa using hi)).trans (by rw [hz1]; exact va_up_ne _ _ (by simpa using hi))), y0.2.1.trans (q8.2.1.trans (by rw [hz1]; rfl)), fun i hi => (y0.2.2.1 i hi).trans ((q8.2.2.1 i (by simp)).trans (by rw [hz1]; rfl)), y0.2.2.2.trans (q8.2.2.2.trans (by rw [hz1]; rfl))⟩
    have e2z : ∀ i, z2.2.2.1 i = z.2.2.1 i := fun i => by rw [q8.2.2.1 i (by simp), hz1]; rfl
    rw [e2z] at y14 y4 y5 y6 y7
    have hql := ho.1
    have L' : Lw z0 z' := by
      refine ⟨fun i h1 h2 => (y0.1 i (by simp)).trans (L2.1 i h1 h2), y0.2.1.trans L2.2.1, fun i j' hij => ?_, y0.2.2.2.trans L2.2.2.2⟩
      rw [← L2.2.2.1 i j' hij, e2z]
      by_cases m : i ∈ [4, 5, 6, 7, 14]
      · rcases (show i = 4 ∨ i = 5 ∨ i = 6 ∨ i = 7 ∨ i = 14 by simpa using m) with rfl | rfl | rfl | rfl | rfl
        · have : j' < 26 := by
            rcases hij with hij | hij
            · omega
            · exact hij
          rw [y4, pk_un (by omega)]
        · have : j' < 48 := by
            rcases hij with hij | hij
            · omega
            · exact hij
          rw [y5, pk_un (by omega)]
        · have : j' < 48 := by
            rcases hij with hij | hij
            · omega
            · exact hij
          rw [y6, pk_un (by omega)]
        · have : j' < 48 := by
            rcases hij with hij | hij
            · omega
            · exact hij
          rw [y7, pk_un (by omega)]
        · have : j' < 1 := by
            rcases hij with hij | hij
            · omega
            · exact hij
          rw [y14, pk_un (by omega)]
      · rw [y0.2.2.1 i m, e2z]
    have new := AGr_new h (by omega) ho (show 1 ≤ v' by omega) v1 x0 x12 x1 x2 x4 x5 x6 yF y14 y4 y5 y6 y7
    refine ⟨1, zr', zh', z', ?_, by rw [eM, q9, y], L', Or.inr ⟨rfl, (y0.1 18 (by simp)).trans y18, by omega, v', k', hkk, q2, q3, (y0.1 17 (by simp)).trans q4, x0, yF, new.1, new.2⟩⟩
    rw [e1]
    unfold mX5_readWeight_b105
    rw [x, b1s]
  · exact ⟨0, zr2, zh, _, e1, refF (Or.inr (Or.inr (Or.inl v1))), LF, Or.inl ⟨rfl, e2, rfl⟩⟩

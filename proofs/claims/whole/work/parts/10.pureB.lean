theorem R_item {zt zs zg zh zu zl zc zw zx : OS} (h : Rel zt zs zg zh zu zl zc zw zx) (p0 : Int32) (p1 : Int32) : ∃ (F1 F2 : Nat) (r : Int32), mX9_item zt zs zg zh zu zl zc zw p0 p1 = some r ∧ mX10_item zx p0 p1 = some r ∧ Rel zt zs zg zh zu zl zc zw zx := by
  obtain ⟨u, hu, u1, u2, hj⟩ := h.2.2.1
  unfold mX9_item mX9_item_b0 mX10_item mX10_item_b0
  rw [iw, iw, u1, u2]
  by_cases c : 0 ≤ p1 ∧ p1 ≤ 3
  · rw [if_pos c, b1s, if_neg z01, if_neg (Int32.not_lt.mpr c.1), if_pos c.2]
    by_cases d : 0 ≤ p0 ∧ p0 ≤ nI u - 1
    · rw [if_pos d, b1s, if_neg z01]
      obtain ⟨j, hj2, rfl⟩ := (nI_pr (by omega) p0).mp d
      rw [if_neg (nI_pos (by omega)), if_pos (nI_lt hj2 (by omega))]
      simp only [gds (vp_in_nI (show j < 256 by omega) (by omega)), gds (vp_in_nI (show j < 260 by omega) (by omega)), nI_clamp (show j < 2 ^ 31 by omega)]
      obtain ⟨k1, k2, k3, k4⟩ := hj j hj2
      rw [k1, k2, k3, k4]
      by_cases q0 : p1 = 0
      · simp only [if_pos q0]; exact ⟨0, 0, _, rfl, rfl, h⟩
      · simp only [if_neg q0]
        by_cases q1 : p1 = 1
        · simp only [if_pos q1]; exact ⟨0, 0, _, rfl, rfl, h⟩
        · simp only [if_neg q1]
          by_cases q2 : p1 = 2
          · simp only [if_pos q2]; exact ⟨0, 0, _, rfl, rfl, h⟩
          · simp only [if_neg q2]; exact ⟨0, 0, _, rfl, rfl, h⟩
    · rw [if_neg d, b1s, if_pos rfl]
      refine ⟨0, 0, -1, rfl, ?_, h⟩
      by_cases c1 : p0 < 0
      · rw [if_pos c1]
      · rw [if_neg c1]
        by_cases c2 : p0 < nI u
        · exfalso
          obtain ⟨j, hj2, rfl⟩ := lt_nI (n := u) (by omega) (Int32.not_lt.mp c1) c2
          exact d ((nI_pr (by omega) _).mpr ⟨j, hj2, rfl⟩)
        · rw [if_neg c2]
  · rw [if_neg c, b1s, if_pos rfl]
    refine ⟨0, 0, -2, rfl, ?_, h⟩
    by_cases c1 : p1 < 0
    · rw [if_pos c1]
    · rw [if_neg c1, if_neg (fun z => c ⟨Int32.not_lt.mp c1, z⟩)]
theorem R_stroke {zt zs zg zh zu zl zc zw zx : OS} (h : Rel zt zs zg zh zu zl zc zw zx) (p0 : Int32) (p1 : Int32) (p2 : Int32) (p3 : Int32) : ∃ (F1 F2 : Nat) (r : Int32), mX9_stroke zt zs zg zh zu zl zc zw p0 p1 p2 p3 = some r ∧ mX10_stroke zx p0 p1 p2 p3 = some r ∧ Rel zt zs zg zh zu zl zc zw zx := by
  unfold mX9_stroke mX9_stroke_b0 mX10_stroke mX10_stroke_b0
  rw [iw, iw, iw, iw]
  by_cases c : 1 ≤ p1 ∧ p1 ≤ 64
  · rw [if_pos c, b1s, if_neg z01, if_neg (Int32.not_lt.mpr c.1), if_neg (Int32.not_lt.mpr c.2)]
    have hz : ¬ p1 = 0 := fun z => by rw [z] at c; exact absurd c.1 (by decide)
    obtain ⟨t, ht, rfl⟩ := le_nI (n := 64) (x := p1) (by omega) (Int32.le_trans (by decide) c.1) c.2
    by_cases d : 0 ≤ p0 ∧ p0 ≤ nI t
    · rw [if_pos d, b1s, if_neg z01, if_neg (Int32.not_lt.mpr d.1), if_neg (Int32.not_lt.mpr d.2)]
      by_cases f : 0 ≤ p2 ∧ p2 ≤ nI t - 1
      · rw [if_pos f, b1s, if_neg z01, if_neg (Int32.not_lt.mpr f.1)]
        obtain ⟨j, hj, rfl⟩ := (nI_pr (by omega) p2).mp f
        rw [if_neg (nI_ge hj (by omega))]
        by_cases g : 0 ≤ p3 ∧ p3 ≤ 1000000
        · rw [if_pos g, b1s, if_neg z01, if_neg (Int32.not_lt.mpr g.1), if_pos g.2, nzs hz]
          split
          · exact ⟨0, 0, 0, rfl, rfl, h⟩
          · exact ⟨0, 0, 1, rfl, rfl, h⟩
        · rw [if_neg g, b1s, if_pos rfl]
          refine ⟨0, 0, -2, rfl, ?_, h⟩
          by_cases c1 : p3 < 0
          · rw [if_pos c1]
          · rw [if_neg c1, if_neg (fun z => g ⟨Int32.not_lt.mp c1, z⟩)]
      · rw [if_neg f, b1s, if_pos rfl]
        refine ⟨0, 0, -2, rfl, ?_, h⟩
        by_cases c1 : p2 < 0
        · rw [if_pos c1]
        · rw [if_neg c1]
          by_cases c2 : nI t ≤ p2
          · rw [if_pos c2]
          · exfalso
            obtain ⟨j, hj2, rfl⟩ := lt_nI (n := t) (by omega) (Int32.not_lt.mp c1) (Int32.not_le.mp c2)
            exact f ((nI_pr (by omega) _).mpr ⟨j, hj2, rfl⟩)
    · rw [if_neg d, b1s, if_pos rfl]
      refine ⟨0, 0, -2, rfl, ?_, h⟩
      by_cases c1 : p0 < 0
      · rw [if_pos c1]
      · rw [if_neg c1, if_pos (Int32.not_le.mp (fun z => d ⟨Int32.not_lt.mp c1, z⟩))]
  · rw [if_neg c, b1s, if_pos rfl]
    refine ⟨0, 0, -2, rfl, ?_, h⟩
    by_cases c1 : p1 < 1
    · rw [if_pos c1]
    · rw [if_neg c1, if_pos (Int32.not_le.mp (fun z => c ⟨Int32.not_lt.mp c1, z⟩))]
theorem want_b66 (zx : OS) {j : Nat} (hj : j < 7) (v lo hi : Int32) : mX10_want_b66 zx (nI j) v lo hi = if lo ≤ v ∧ v ≤ hi then some (zx.2.2.1 19 j, sA zx 19 (nI j) v) else some (-2, zx) := by
  unfold mX10_want_b66
  rw [gds (vp_in_nI hj (by omega)), nms, gds (vp_in_nI hj (by omega)), nI_clamp (by omega), nms]
  by_cases c1 : v < lo
  · rw [if_pos c1, if_neg (fun z => Int32.not_le.mpr c1 z.1)]
  · rw [if_neg c1]
    by_cases c2 : v ≤ hi
    · rw [if_pos c2, if_pos ⟨Int32.not_lt.mp c1, c2⟩]
    · rw [if_neg c2, if_neg (fun z => c2 z.2)]
theorem want_M (zx : OS) {j : Nat} (hj : j < 7) (v : Int32) : mX10_want zx (nI j) v = if stLo j ≤ v ∧ v ≤ stHi j then some (zx.2.2.1 19 j, sA zx 19 (nI j) v) else some (-2, zx) := by
  rcases (show j = 0 ∨ j = 1 ∨ j = 2 ∨ j = 3 ∨ j = 4 ∨ j = 5 ∨ j = 6 by omega) with rfl | rfl | rfl | rfl | rfl | rfl | rfl
  · exact want_b66 zx (by omega) v 0 127
  · exact want_b66 zx (by omega) v 0 127
  · exact want_b66 zx (by omega) v 0 127
  · exact want_b66 zx (by omega) v 0 127
  · exact want_b66 zx (by omega) v 0 1
  · exact want_b66 zx (by omega) v (-1) 6
  · exact want_b66 zx (by omega) v 1 3000
theorem R_want {zt zs zg zh zu zl zc zw zx : OS} (h : Rel zt zs zg zh zu zl zc zw zx) (p0 : Int32) (p1 : Int32) : ∃ (F1 F2 : Nat) (r : Int32) (zt' : OS) (zx' : OS), mX9_want zt zs zg zh zu zl zc zw p0 p1 = some (r, zt') ∧ mX10_want zx p0 p1 = some (r, zx') ∧ Rel zt' zs zg zh zu zl zc zw zx' := by
  have hh := h
  obtain ⟨hX, hW, hU, hC, hR, hG, hT⟩ := h
  by_cases c : 0 ≤ p0 ∧ p0 ≤ 6
  · obtain ⟨j, hj, rfl⟩ := le_nI (n := 6) (by omega) c.1 c.2
    have hv : vp_in (nI j) 7 := vp_in_nI (by omega) (by omega)
    rw [want_M zx (by omega)]
    unfold mX9_want mX9_want_b0
    rw [iw, if_pos c, b1s, if_neg z01, gds hv, gds hv, iw, nI_clamp (by omega)]
    by_cases d : stLo j ≤ p1 ∧ p1 ≤ stHi j
    · rw [if_pos d, if_pos d, b1s, if_neg z01, gds hv, nms, gds hv, nms]
      refine ⟨0, 0, zx.2.2.1 19 j, sA zt 3 (nI j) p1, sA zx 19 (nI j) p1, by rw [(hW j (by omega)).1], rfl, hX, ?_, hU, hC, hR, hG, hT⟩
      intro i hi
      show upd (zt.2.2.1 3) (nI j).toNatClampNeg p1 i = upd (zx.2.2.1 19) (nI j).toNatClampNeg p1 i ∧ stLo i ≤ upd (zx.2.2.1 19) (nI j).toNatClampNeg p1 i ∧ upd (zx.2.2.1 19) (nI j).toNatClampNeg p1 i ≤ stHi i
      rw [nI_clamp (by omega)]
      by_cases e : i = j
      · subst e; rw [pk_us, pk_us]; exact ⟨rfl, d⟩
      · rw [pk_un e, pk_un e]; exact hW i hi
    · rw [if_neg d, if_neg d, b1s, if_pos rfl]
      exact ⟨0, 0, -2, _, _, rfl, rfl, hh⟩
  · unfold mX9_want mX9_want_b0 mX10_want mX10_want_b0
    rw [iw, if_neg c, b1s, if_pos rfl]
    refine ⟨0, 0, -2, zt, zx, rfl, ?_, hh⟩
    by_cases c1 : p0 < 0
    · rw [if_pos c1]
    · rw [if_neg c1, if_neg (fun z => c ⟨Int32.not_lt.mp c1, z⟩)]
theorem sumW_le (wt : Nat → Nat) (a : Nat) : ∀ n, (∀ i, i < n → wt (a + i) ≤ 999) → sumW wt a n ≤ 999 * n := by
  intro n
  induction n with
  | zero => intro _; exact Nat.le_refl 0
  | succ n ih =>
    intro h
    have h1 := ih (fun i hi => h i (by omega))
    have h2 := h n (by omega)
    show sumW wt a n + wt (a + n) ≤ _
    omega
theorem rule_loop (F : Nat) (zx : OS) (q A : Nat) (fa al : Nat) (wt : Nat → Nat) (p1 : Int32) (hq : q < 26) (hA : A ≤ 48) (h4 : zx.2.2.1 4 q = nI al) (h3 : zx.2.2.1 3 q = nI fa) (hfa : fa + al ≤ A) (hw : ∀ a, a < A → zx.2.2.1 5 a = nI (wt a)) : ∀ (n i : Nat), i ≤ al → al < i + n → mX10_rule_b47 F n zx (nI q) p1 (nI (sumW wt fa i)) (nI i) = some (if p1 = 0 then nI al else nI (sumW wt fa al)) := by
  intro n
  induction n with
  | zero => intro i h1 h2; omega
  | succ n ih =>
    intro i h1 h2
    unfold mX10_rule_b47
    have hv : vp_in (nI q) 52 := vp_in_nI (by omega) (by omega)
    rw [gds hv, gds hv, gds hv, nI_clamp (by omega), h4, h3]
    by_cases c : i = al
    · subst c
      rw [if_pos (nI_le (Nat.le_refl i) (by omega))]
      by_cases d : p1 = 0
      · rw [if_pos d, if_pos d]
      · rw [if_neg d, if_neg d]
    · rw [if_neg (nI_ge (by omega) (by omega)), nI_add, gds (vp_in_nI (by omega) (by omega)), nms, nms, nI_clamp (by omega), hw (fa + i) (by omega), nI_add, nI_1]
      exact ih (i + 1) (by omega) (by omega)
theorem has_rule (zg : OS) {q al : Nat} (hq : q < 26) (hal : al < 2 ^ 31) (h : zg.2.2.1 1 q = nI al) : mX2_hasRule zg (nI q) = some (if al = 0 then 0 else 1) := by
  unfold mX2_hasRule mX2_hasRule_b0
  rw [iw, if_pos (show 0 ≤ nI q ∧ nI q ≤ 25 from ⟨nI_pos' (by omega), le_litB (y := 25) (b := 25) rfl (by omega) (by omega)⟩), b1s, if_neg z01, gds (vp_in_nI hq (by omega)), nI_clamp (by omega), h]
  by_cases c : al = 0
  · subst c; rw [if_pos (by decide), if_pos rfl]
  · rw [if_neg (nI_nle (by omega) hal), if_neg c]
theorem R_rule {zt zs zg zh zu zl zc zw zx : OS} (h : Rel zt zs zg zh zu zl zc zw zx) (p0 : Int32) (p1 : Int32) : ∃ (F1 F2 : Nat) (r : Int32), mX9_rule zt zs zg zh zu zl zc zw p0 p1 = some r ∧ mX10_rule F2 zx p0 p1 = some r ∧ Rel zt zs zg zh zu zl zc zw zx := by
  obtain ⟨R, A, S, fa, al, wt, fs, sc, hR, hA, hS, g1, g2, g3, g4, g5, g6, hl, ha, hs, hst, hr0⟩ := h.2.2.2.2.2.1
  have v0 : vp_in 0 2 := by unfold vp_in; decide
  have c0 : (0 : Int32).toNatClampNeg = 0 := by decide
  unfold mX9_rule mX9_rule_b0 mX10_rule mX10_rule_b0
  refine ⟨0, 50, ?_⟩
  rw [iw, iw, gds v0, c0, g2]
  by_cases c : 0 ≤ p0 ∧ p0 ≤ 25
  · obtain ⟨q, hq, rfl⟩ := le_nI (n := 25) (by omega) c.1 c.2
    obtain ⟨l1, l2, l3, l4, l5⟩ := hl q (by omega)
    rw [if_pos c, b1s, if_neg z01, if_neg (Int32.not_lt.mpr c.1), if_neg (Int32.not_lt.mpr c.2)]
    by_cases d : 0 ≤ p1 ∧ p1 ≤ 1
    · rw [if_pos d, b1s, if_neg z01, if_neg (Int32.not_lt.mpr d.1), if_pos d.2, has_rule zg (by omega) (by omega) l2, b1s]
      have hv : vp_in (nI q) 52 := vp_in_nI (by omega) (by omega)
      have hv2 : vp_in (nI q) 26 := vp_in_nI (by omega) (by omega)
      by_cases z : al q = 0
      · rw [if_pos z, if_pos rfl]
        refine ⟨-1, rfl, ?_, h⟩
        by_cases y : nI R = 0
        · rw [if_pos y]
        · rw [if_neg y, gds hv, nI_clamp (by omega), l3, z, if_pos (by decide)]
      · rw [if_neg z, if_neg z01]
        have hR0 : ¬ nI R = 0 := fun y => by
          have : R = 0 := (nI_eq (b := 0) (by omega) (by omega)).mp y
          exact z (hr0 this q (by omega))
        obtain ⟨m1, m2, m3⟩ := l5 (by omega)
        rw [if_neg hR0, gds hv, nI_clamp (by omega), l3, if_neg (nI_ne0 (by omega) (by omega)), nms, nms]
        refine ⟨if p1 = 0 then nI (al q) else nI (sumW wt (fa q) (al q)), ?_, ?_, h⟩
        · rw [gds hv2, gds hv2, l2, l4]
          by_cases y : p1 = 0
          · rw [if_pos y, if_pos y]
          · rw [if_neg y, if_neg y]
        · exact rule_loop _ zx q A (fa q) (al q) wt p1 (by omega) hA l3 m2 m3 (fun a h => (ha a h).2.2.2.2.2.2.1) 50 0 (by omega) (by omega)
    · rw [if_neg d, b1s, if_pos rfl]
      refine ⟨-2, rfl, ?_, h⟩
      by_cases c1 : p1 < 0
      · rw [if_pos c1]
      · rw [if_neg c1, if_neg (fun z => d ⟨Int32.not_lt.mp c1, z⟩)]
  · rw [if_neg c, b1s, if_pos rfl]
    refine ⟨-2, rfl, ?_, h⟩
    by_cases c1 : p0 < 0
    · rw [if_pos c1]
    · rw [if_neg c1, if_pos (Int32.not_le.mp (fun z => c ⟨Int32.not_lt.mp c1, z⟩))]

theorem b50_M (F : Nat) {k n pl more : Nat} (hk : k ≤ 3) (hn : n ≤ 300) (hpl : pl + k ≤ n) : ∀ (d i f : Nat) (zx : OS), i + d = k → d < f → ∃ g : Nat → Int32, mX10_walk_b50 F f zx (nI k) (nI pl) (nI more) (nI i) = mX10_walk_b86 F F (sI (sR zx 50 g) 51 (nI k)) (nI k) (nI pl) (nI more) (nI 0) ∧ (∀ j, j < i → g j = zx.2.2.1 50 j) ∧ ∀ j, i ≤ j → j < k → g j = zx.2.2.1 48 (pl + j) := by
  intro d
  induction d with
  | zero =>
    intro i f zx h1 h2
    obtain ⟨f, rfl⟩ : ∃ g, f = g + 1 := ⟨f - 1, by omega⟩
    refine ⟨zx.2.2.1 50, ?_, fun _ _ => rfl, fun j h3 h4 => by omega⟩
    rw [mX10_walk_b50, if_pos (nI_le (by omega) (by omega)), sR_eta, nms, nms]
    rfl
  | succ d ih =>
    intro i f zx h1 h2
    obtain ⟨f, rfl⟩ : ∃ g, f = g + 1 := ⟨f - 1, by omega⟩
    rw [mX10_walk_b50, if_neg (nI_ge (by omega) (by omega)), nI_add, gds (vp_in_nI (show pl + i < 300 by omega) (by omega)), gds (vp_in_nI (show i < 210 by omega) (by omega)), nms, nms, nI_1, nI_clamp (by omega)]
    obtain ⟨g, q1, q2, q3⟩ := ih (i + 1) f (sA zx 50 (nI i) (zx.2.2.1 48 (pl + i))) (by omega) (by omega)
    refine ⟨g, ?_, ?_, ?_⟩
    · rw [q1]
      unfold sA
      rw [sRR]
    · intro j hj
      rw [q2 j (by omega)]
      show upd (zx.2.2.1 50) (nI i).toNatClampNeg (zx.2.2.1 48 (pl + i)) j = _
      rw [nI_clamp (by omega), pk_un (by omega)]
    · intro j h3 h4
      by_cases c : j = i
      · subst c
        rw [q2 j (by omega)]
        show upd (zx.2.2.1 50) (nI j).toNatClampNeg (zx.2.2.1 48 (pl + j)) j = _
        rw [nI_clamp (by omega), pk_us]
      · rw [q3 j (by omega) h4]
        rfl
theorem cpys {α : Type} {sp dp n : Int32} {n0 n1 : Nat} (k : Option α) (h : ¬ (sp < 0 ∨ dp < 0 ∨ n < 0 ∨ n0 < sp.toNatClampNeg + n.toNatClampNeg ∨ n1 < dp.toNatClampNeg + n.toNatClampNeg)) : cpy sp dp n n0 n1 k = k := if_neg h
theorem W50_c (zx : OS) (t0 : Int64) (f g : Nat → Int32) (u v : Int32) (t : Int64) : W50 (sI (sR (sL zx 26 t0) 50 f) 51 u) g v t = W50 zx g v t := W50_a zx t0 f g u v t
theorem R_walk {zt zs zg zh zu zl zc zw zx : OS} (h : Rel zt zs zg zh zu zl zc zw zx) (p0 : Int32) (p1 : Int32) (p2 : Int32) (p3 : Int64) : ∃ (F1 F2 : Nat) (r : Int32) (zc' : OS) (zx' : OS), mX9_walk F1 zc p0 p1 p2 p3 = some (r, zc') ∧ mX10_walk F2 zx p0 p1 p2 p3 = some (r, zx') ∧ Rel zt zs zg zh zu zl zc' zw zx' := by
  have hh := h
  obtain ⟨hX, hW, hU, ⟨⟨n, hn, e3, e49, hc⟩, hC2⟩, hR, hG, hT⟩ := h
  obtain ⟨F, hF⟩ : ∃ F : Nat, 310 + dN < F := ⟨311 + dN, by omega⟩
  refine ⟨F, F, ?_⟩
  unfold mX9_walk mX10_walk mX10_walk_b0
  rw [iw, iw, iw]
  by_cases c : 1 ≤ p0 ∧ p0 ≤ 3
  · rw [if_pos c, b1s, if_neg z01, if_neg (Int32.not_lt.mpr c.1), if_neg (Int32.not_lt.mpr c.2)]
    obtain ⟨k, hk, rfl⟩ := le_nI (n := 3) (x := p0) (by omega) (Int32.le_trans (by decide) c.1) c.2
    have hk1 : 1 ≤ k := (nI_leI (a := 1) (by omega) (by omega)).mp c.1
    by_cases d : 0 ≤ p2 ∧ p2 ≤ 200
    · rw [if_pos d, b1s, if_neg z01, if_neg (Int32.not_lt.mpr d.1), if_pos d.2]
      obtain ⟨mo, hmo, rfl⟩ := le_nI (n := 200) (by omega) d.1 d.2
      rw [e3, e49]
      by_cases e : 0 ≤ p1 ∧ p1 ≤ nI n - nI k
      · rw [if_pos e, b1s, if_neg z01, if_neg (Int32.not_lt.mpr e.1), if_pos e.2]
        obtain ⟨pl, hpl0, rfl⟩ := nI_of (x := p1) (Int32.not_lt.mpr e.1)
        have hpl : pl + k ≤ n := by
          have h2 := Int32.le_iff_toInt_le.mp e.2
          rw [pk_sub_toInt (by omega) (by omega), nI_toInt hpl0] at h2
          omega
        rw [show mX1_init zOS p3 = some (sL zOS 0 p3) from rfl, b1s]
        unfold mX0_wander mX0_wander_b0
        rw [cpys _ (by
          rw [nI_clamp (by omega), nI_clamp (by omega), show (0 : Int32).toNatClampNeg = 0 from by decide]
          intro z
          rcases z with z | z | z | z | z
          · exact absurd z (nI_pos (by omega))
          · exact absurd z (by decide)
          · exact absurd z (nI_pos (by omega))
          · omega
          · omega)]
        simp only [nms]
        rw [nI_clamp (show pl < 2 ^ 31 by omega), nI_clamp (show k < 2 ^ 31 by omega), show (0 : Int32).toNatClampNeg = 0 from by decide]
        obtain ⟨g0, q1, -, q3⟩ := b50_M F (n := n) (pl := pl) (more := mo) hk hn hpl k 0 F (sL zx 26 p3) (by omega) (by omega)
        obtain ⟨w', zc', zd', g, t, r1, r2, r3, r4, r5, r6, r7⟩ := walk_loop F hF hk1 hk hn hpl hmo mo 0 F F (sI (sR zc 1 (va_cpy (zc.2.2.1 0) (zc.2.2.1 1) pl 0 k)) 4 (nI k)) (sL zOS 0 p3) (sI (sR (sL zx 26 p3) 50 g0) 51 (nI k)) k (by omega) (by omega) (by omega) (Nat.le_refl k) (by omega) e3 e49 hc rfl rfl (fun j hj => by
          show va_cpy (zc.2.2.1 0) (zc.2.2.1 1) pl 0 k j = g0 j
          rw [pk_cpy_in (by omega) (by omega), q3 j (by omega) hj, Nat.sub_zero]
          exact hc (pl + j) (by omega)) (by rw [sLg]; exact (show (sL zx 26 p3).2.1 26 = p3 from sLg _ _ _).symm)
        rw [show nI 0 = (0 : Int32) from rfl] at q1 r2 r3
        rw [q1, r2, r3, b3s, W50_c]
        exact ⟨nI w', zc', _, rfl, rfl, hX, hW, hU, ⟨⟨n, hn, r4, e49, r5⟩, ⟨w', r1, r6, rfl, r7⟩⟩, hR, hG, hT⟩
      · rw [if_neg e, b1s, if_pos rfl]
        refine ⟨-3, zc, zx, rfl, ?_, hh⟩
        by_cases c1 : p1 < 0
        · rw [if_pos c1]
        · rw [if_neg c1, if_neg (fun z => e ⟨Int32.not_lt.mp c1, z⟩)]
    · rw [if_neg d, b1s, if_pos rfl]
      refine ⟨-2, zc, zx, rfl, ?_, hh⟩
      by_cases c1 : p2 < 0
      · rw [if_pos c1]
      · rw [if_neg c1, if_neg (fun z => d ⟨Int32.not_lt.mp c1, z⟩)]
  · rw [if_neg c, b1s, if_pos rfl]
    refine ⟨-2, zc, zx, rfl, ?_, hh⟩
    by_cases c1 : p0 < 1
    · rw [if_pos c1]
    · rw [if_neg c1, if_pos (Int32.not_le.mp (fun z => c ⟨Int32.not_lt.mp c1, z⟩))]

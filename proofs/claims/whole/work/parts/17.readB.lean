/-! read, second: octave, length, a SIGN, on both sides -/
theorem oct_b {ch : Nat → Int32} {n : Nat} {zs z : OS} (h : Tx ch n zs z) {zr zg : OS} {k si F : Nat} (hF : 4 < F) (hk : k ≤ n) (hr : zr.1 2 = nI k) (hz : z.1 17 = nI k) (hsi : si < 482) : ∃ (o : Int) (k' : Nat) (zr' z' : OS), -2 ≤ o ∧ o ≤ 2 ∧ k ≤ k' ∧ k' ≤ n ∧ mX5_readOctave zr zs zg = some (Int32.ofInt o, zr') ∧ zr'.1 2 = nI k' ∧ mX10_readSign_b104 F F z (nI si) (pkc ch n k) 0 = mX10_readSign_b170 F z' (nI si) ∧ z'.1 17 = nI k' ∧ z'.2.2.1 10 = upd (z.2.2.1 10) si (Int32.ofInt o) ∧ Fr [17] [10] z z' := by
  have hn := h.1
  -- the end of the reference's loop
  have e150 : ∀ (y : OS) (a3 a4 : Int32) (o : Int), Int32.ofInt o = (if a3 = 44 then -a4 else a4) → ∃ z', mX10_readSign_b150 F y (nI si) a3 a4 = mX10_readSign_b170 F z' (nI si) ∧ z'.1 17 = y.1 17 ∧ z'.2.2.1 10 = upd (y.2.2.1 10) si (Int32.ofInt o) ∧ Fr [17] [10] y z' := by
    intro y a3 a4 o ho
    refine ⟨sA y 10 (nI si) (Int32.ofInt o), ?_, rfl, ?_, Fr_A (Fr_r _ _ y) (by decide) _ _⟩
    · unfold mX10_readSign_b150 mX10_readSign_b169
      by_cases c : a3 = 44
      · rw [if_pos c] at ho
        rw [if_pos c, gds (vp_in_nI hsi (by omega)), nms, ho]
      · rw [if_neg c] at ho
        rw [if_neg c, gds (vp_in_nI hsi (by omega)), nms, ho]
    · show upd (y.2.2.1 10) (nI si).toNatClampNeg _ = _
      rw [nI_clamp (by omega)]
  have e104 : ∀ f y a4, mX10_readSign_b104 F (f + 1) y (nI si) (pkc ch n k) a4 = if pkc ch n k = 39 ∨ pkc ch n k = 44 then mX10_readSign_b116 F (mX10_readSign_b104 F f) y (nI si) (pkc ch n k) a4 else mX10_readSign_b150 F y (nI si) (pkc ch n k) a4 := by
    intro f y a4
    rw [mX10_readSign_b104]
    by_cases c : pkc ch n k = 39
    · rw [if_pos c, if_pos (Or.inl c)]
    · rw [if_neg c]
      by_cases c2 : pkc ch n k = 44
      · rw [if_pos c2, if_pos (Or.inr c2)]
      · rw [if_neg c2, if_neg (fun e => e.elim c c2)]
  obtain ⟨f, hf⟩ : ∃ f, F = f + 4 := ⟨F - 4, by omega⟩
  have e0 : mX10_readSign_b104 F F z (nI si) (pkc ch n k) 0 = mX10_readSign_b104 F (f + 4) z (nI si) (pkc ch n k) 0 := by rw [← hf]
  rw [e0]
  have hX0 : mX5_readOctave zr zs zg = if pkc ch n k = 39 ∨ pkc ch n k = 44 then mX5_readOctave_b19 zr zs zg (pkc ch n k) else some (0, zr) := by
    unfold mX5_readOctave mX5_readOctave_b0
    rw [here_X h (by omega) hr, b1s]
    by_cases c : pkc ch n k = 39
    · rw [if_pos c, if_pos (Or.inl c)]
    · rw [if_neg c]
      by_cases c2 : pkc ch n k = 44
      · rw [if_pos c2, if_pos (Or.inr c2)]
      · rw [if_neg c2, if_neg (fun e => e.elim c c2)]
  rw [hX0, e104]
  by_cases c : pkc ch n k = 39 ∨ pkc ch n k = 44
  · rw [if_pos c, if_pos c]
    have hk1 : k < n := pkc_in (by rcases c with c | c <;> rw [c] <;> decide)
    -- the first mark, on both sides
    have hb1 : mX10_readSign_b116 F (mX10_readSign_b104 F (f + 3)) z (nI si) (pkc ch n k) 0 = mX10_readSign_b116 F (mX10_readSign_b104 F (f + 2)) (sI z 17 (nI (k + 1))) (nI si) (pkc ch n k) 1 := by
      unfold mX10_readSign_b116
      rw [hz, peek_M h (by omega), b1s, if_pos rfl, if_neg (by decide), nms, nms, nI_1, show (0 : Int32) + 1 = 1 from by decide, e104, if_pos c]
      rfl
    rw [hb1]
    have h1 : Tx ch n zs (sI z 17 (nI (k + 1))) := h
    unfold mX5_readOctave_b19 mX10_readSign_b116
    simp only [nms]
    rw [hr, nI_1, here_X (zr := sI zr 2 (nI (k + 1))) h (by omega) rfl, b1s, show (sI z 17 (nI (k + 1))).1 17 = nI (k + 1) from rfl, peek_M h1 (by omega), b1s]
    unfold mX5_readOctave_b52
    by_cases c2 : pkc ch n (k + 1) = pkc ch n k
    · have hk2 : k + 1 < n := pkc_in (by rw [c2]; rcases c with c | c <;> rw [c] <;> decide)
      rw [if_pos c2, if_pos c2, if_neg (show ¬ (2 : Int32) ≤ 1 by decide), show (sI zr 2 (nI (k + 1))).1 2 = nI (k + 1) from rfl, nI_1, show (1 : Int32) + 1 = 2 from by decide]
      -- the third time the reference stops
      have hb2 : mX10_readSign_b104 F (f + 2) (sI (sI z 17 (nI (k + 1))) 17 (nI (k + 1 + 1))) (nI si) (pkc ch n k) 2 = mX10_readSign_b150 F (sI (sI z 17 (nI (k + 1))) 17 (nI (k + 1 + 1))) (nI si) (pkc ch n k) 2 := by
        rw [e104, if_pos c]
        unfold mX10_readSign_b116
        rw [show (sI (sI z 17 (nI (k + 1))) 17 (nI (k + 1 + 1))).1 17 = nI (k + 2) from rfl, peek_M (show Tx ch n zs (sI (sI z 17 (nI (k + 1))) 17 (nI (k + 1 + 1))) from h) (by omega), b1s]
        by_cases c3 : pkc ch n (k + 2) = pkc ch n k
        · rw [if_pos c3, if_pos (by decide)]
        · rw [if_neg c3]
      rw [hb2]
      rcases c with c | c
      · obtain ⟨z', q1, q2, q3, q4⟩ := e150 (sI (sI z 17 (nI (k + 1))) 17 (nI (k + 1 + 1))) (pkc ch n k) 2 2 (by rw [c, if_neg (by decide)]; rfl)
        refine ⟨2, k + 2, sI (sI zr 2 (nI (k + 1))) 2 (nI (k + 1 + 1)), z', by omega, by omega, by omega, by omega, ?_, ?_, q1, q2, q3, Fr_t (Fr_I (Fr_I (Fr_r _ _ z) (by decide) _) (by decide) _) q4⟩
        · rw [c, if_neg (by decide)]; rfl
        · rfl
      · obtain ⟨z', q1, q2, q3, q4⟩ := e150 (sI (sI z 17 (nI (k + 1))) 17 (nI (k + 1 + 1))) (pkc ch n k) 2 (-2) (by rw [c, if_pos rfl]; rfl)
        refine ⟨-2, k + 2, sI (sI zr 2 (nI (k + 1))) 2 (nI (k + 1 + 1)), z', by omega, by omega, by omega, by omega, ?_, ?_, q1, q2, q3, Fr_t (Fr_I (Fr_I (Fr_r _ _ z) (by decide) _) (by decide) _) q4⟩
        · rw [c, if_pos rfl]; rfl
        · rfl
    · rw [if_neg c2, if_neg c2]
      rcases c with c | c
      · obtain ⟨z', q1, q2, q3, q4⟩ := e150 (sI z 17 (nI (k + 1))) (pkc ch n k) 1 1 (by rw [c, if_neg (by decide)]; rfl)
        refine ⟨1, k + 1, sI zr 2 (nI (k + 1)), z', by omega, by omega, by omega, by omega, ?_, ?_, q1, q2, q3, Fr_t (Fr_I (Fr_r _ _ z) (by decide) _) q4⟩
        · rw [c, if_neg (by decide)]; rfl
        · rfl
      · obtain ⟨z', q1, q2, q3, q4⟩ := e150 (sI z 17 (nI (k + 1))) (pkc ch n k) 1 (-1) (by rw [c, if_pos rfl]; rfl)
        refine ⟨-1, k + 1, sI zr 2 (nI (k + 1)), z', by omega, by omega, by omega, by omega, ?_, ?_, q1, q2, q3, Fr_t (Fr_I (Fr_r _ _ z) (by decide) _) q4⟩
        · rw [c, if_pos rfl]; rfl
        · rfl
  · rw [if_neg c, if_neg c]
    obtain ⟨z', q1, q2, q3, q4⟩ := e150 z (pkc ch n k) 0 0 (by split <;> rfl)
    exact ⟨0, k, zr, z', by omega, by omega, by omega, by omega, rfl, hr, q1, by rw [q2, hz], q3, q4⟩
theorem len_b {ch : Nat → Int32} {n : Nat} {zs z : OS} (h : Tx ch n zs z) {zr zg : OS} {k si F : Nat} (hF : 4 < F) (hk : k ≤ n) (hr : zr.1 2 = nI k) (hz : z.1 17 = nI k) (h18 : z.1 18 = -1) (hsi : si < 482) (h4 : z.2.2.1 11 si = nI 4) : ∃ (v : Int32) (zr' z' : OS), mX5_readLength F zr zs zg = some (v, zr') ∧ mX10_readSign_b170 F z (nI si) = some z' ∧ Fr [17, 18] [11] z z' ∧ (∀ j, j ≠ si → z'.2.2.1 11 j = z.2.2.1 11 j) ∧ ((v = -1 ∧ ∃ p, p ≤ n ∧ zr'.1 3 = nI p ∧ z'.1 18 = nI p) ∨ ∃ l k', 1 ≤ l ∧ l ≤ 16 ∧ v = nI l ∧ k ≤ k' ∧ k' ≤ n ∧ zr'.1 2 = nI k' ∧ z'.1 17 = nI k' ∧ z'.1 18 = -1 ∧ z'.2.2.1 11 si = nI l) := by
  have hn := h.1
  have e58 : mX10_readSign_b170 F z (nI si) = if pkc ch n k = 58 then b1 (mX10_readLength (sI z 17 (nI (k + 1))) (nI si)) (fun zx5 => some zx5) else some z := by
    unfold mX10_readSign_b170
    rw [hz, peek_M h (by omega), b1s, nI_1]
    rfl
  have x58 : mX5_readLength F zr zs zg = if pkc ch n k = 58 then (b1 (mX5_here (sI zr 2 (nI (k + 1))) zs zg) (fun r5 => b1 (mX9_isDigit r5) (fun r7 => (if (r7 : Int32) = 0 then mX5_readLength_b40 F (sI zr 2 (nI (k + 1))) zs zg else b1 (mX5_here (sI zr 2 (nI (k + 1))) zs zg) (fun r10 => (if (r10 : Int32) = 48 then mX5_readLength_b40 F (sI zr 2 (nI (k + 1))) zs zg else mX5_readLength_b53 F F (sI zr 2 (nI (k + 1))) zs zg 0)))))) else some (4, zr) := by
    unfold mX5_readLength mX5_readLength_b0
    rw [here_X h (by omega) hr, b1s, hr, nI_1]
    rfl
  rw [e58, x58]
  by_cases c : ¬ pkc ch n k = 58
  · rw [if_neg c, if_neg c]
    exact ⟨4, zr, z, rfl, rfl, Fr_r _ _ z, fun _ _ => rfl, Or.inr ⟨4, k, by omega, by omega, rfl, by omega, hk, hr, hz, h18, h4⟩⟩
  have c := Decidable.not_not.mp c
  rw [if_pos c, if_pos c]
  have hk1 : k < n := pkc_in (by rw [c]; decide)
  obtain ⟨z1, hz1⟩ : ∃ y, y = sI z 17 (nI (k + 1)) := ⟨_, rfl⟩
  obtain ⟨zr1, hzr1⟩ : ∃ y, y = sI zr 2 (nI (k + 1)) := ⟨_, rfl⟩
  rw [← hz1, ← hzr1]
  have t1 : Tx ch n zs z1 := by rw [hz1]; exact h
  have a17 : z1.1 17 = nI (k + 1) := by rw [hz1]; rfl
  have a18 : z1.1 18 = -1 := by rw [hz1]; exact h18
  have r2 : zr1.1 2 = nI (k + 1) := by rw [hzr1]; rfl
  have f1 : Fr [17, 18] [11] z z1 := by rw [hz1]; exact Fr_I (Fr_r _ _ z) (by decide) _
  have g1 : z1.2.2.1 = z.2.2.1 := by rw [hz1]; rfl
  -- a failing on both sides
  rw [here_X t1 (by omega) r2, b1s, (dig _).1, b1s, b1s]
  unfold mX10_readLength mX10_readLength_b0
  rw [a17, peek_M t1 (by omega), b1s]
  by_cases d1 : ¬ (49 ≤ pkc ch n (k + 1) ∧ pkc ch n (k + 1) ≤ 57)
  · -- no digit, or 0
    have eX : (if (if 48 ≤ pkc ch n (k + 1) ∧ pkc ch n (k + 1) ≤ 57 then (1 : Int32) else 0) = 0 then mX5_readLength_b40 F zr1 zs zg else (if pkc ch n (k + 1) = 48 then mX5_readLength_b40 F zr1 zs zg else mX5_readLength_b53 F F zr1 zs zg 0)) = some (-1, sI zr1 3 (nI (k + 1))) := by
      have e40 : mX5_readLength_b40 F zr1 zs zg = some (-1, sI zr1 3 (nI (k + 1))) := by
        unfold mX5_readLength_b40 mX5_failAt mX5_failAt_b0
        rw [r2]
        rfl
      by_cases c1 : 48 ≤ pkc ch n (k + 1) ∧ pkc ch n (k + 1) ≤ 57
      · rw [if_pos c1, if_neg z01]
        have : pkc ch n (k + 1) = 48 := by
          obtain ⟨j, j1, j2, j3⟩ := chN (a := 48) (b := 57) (by omega) (by omega) c1.1 c1.2
          by_cases e : j = 48
          · rw [j3, e]; rfl
          · exfalso
            apply d1
            rw [j3]
            exact ⟨nI_le (a := 49) (by omega) (by omega), nI_le (b := 57) j2 (by omega)⟩
        rw [if_pos this, e40]
      · rw [if_neg c1, if_pos rfl, e40]
    have eM : (if pkc ch n (k + 1) < 49 then mX10_readLength_b21 z1 else (if pkc ch n (k + 1) ≤ 57 then nm (pkc ch n (k + 1) - 48 : Int32) (fun v5 => nm (sI z1 17 (nI (k + 1) + 1)) (fun zx6 => (if (v5 : Int32) = 1 then b1 (mX10_peek zx6 (zx6.1 17)) (fun r8 => (if (r8 : Int32) < 48 then mX10_readLength_b101 zx6 (nI si) v5 else b1 (mX10_peek zx6 (zx6.1 17)) (fun r11 => (if 54 < (r11 : Int32) then mX10_readLength_b101 zx6 (nI si) v5 else b1 (mX10_peek zx6 (zx6.1 17)) (fun r14 => nm ((10 + r14) - 48 : Int32) (fun v16 => nm (sI zx6 17 ((zx6.1 17) + 1)) (fun zx17 => mX10_readLength_b101 zx17 (nI si) v16))))))) else mX10_readLength_b101 zx6 (nI si) v5))) else mX10_readLength_b21 z1)) = some (sI z1 18 (nI (k + 1))) := by
      have e21 : mX10_readLength_b21 z1 = some (sI z1 18 (nI (k + 1))) := by
        unfold mX10_readLength_b21
        rw [fail_M a18, a17]
        rfl
      by_cases c1 : pkc ch n (k + 1) < 49
      · rw [if_pos c1, e21]
      · rw [if_neg c1, if_neg (fun e => d1 ⟨Int32.not_lt.mp c1, e⟩), e21]
    rw [eX, eM, b1s]
    exact ⟨-1, _, _, rfl, rfl, Fr_I f1 (by decide) _, fun j _ => by show z1.2.2.1 11 j = _; rw [g1], Or.inl ⟨rfl, k + 1, by omega, rfl, rfl⟩⟩
  -- a digit 1 .. 9
  have d1 := Decidable.not_not.mp d1
  obtain ⟨j1, hj1, hj2, ej⟩ := chN (a := 49) (b := 57) (by omega) (by omega) d1.1 d1.2
  have hk2 : k + 1 < n := pkc_in (by rw [ej]; exact nI_m1 (by omega))
  have m48 : ∀ j, 48 ≤ j → nI j - 48 = nI (j - 48) := fun j hj => nI_sub (b := 48) hj
  obtain ⟨f, hf⟩ : ∃ f, F = f + 4 := ⟨F - 4, by omega⟩
  have e0 : mX5_readLength_b53 F F zr1 zs zg 0 = mX5_readLength_b53 F (f + 4) zr1 zs zg (nI 0) := by rw [← hf]; rfl
  -- one turn of the class's loop
  have turn : ∀ (f k v : Nat) (y : OS), k ≤ n → y.1 2 = nI k → v ≤ 16 → mX5_readLength_b53 F (f + 1) y zs zg (nI v) = if 48 ≤ pkc ch n k ∧ pkc ch n k ≤ 57 then (if ((nI v * 10) + pkc ch n k) - 48 ≤ 16 then mX5_readLength_b53 F f (sI y 2 (nI (k + 1))) zs zg (((nI v * 10) + pkc ch n k) - 48) else some (-1, sI y 3 (nI k))) else some (nI v, y) := by
    intro f k v y hk hy hv
    rw [mX5_readLength_b53, t1.2.1, hy]
    by_cases c : k < n
    · rw [if_neg (nI_ge c (by omega)), here_X t1 (by omega) hy, b1s, (dig _).1, b1s, b1s, nms, nms, nI_1]
      by_cases c1 : 48 ≤ pkc ch n k ∧ pkc ch n k ≤ 57
      · rw [if_pos c1, if_pos c1, if_neg z01]
        by_cases c2 : ((nI v * 10) + pkc ch n k) - 48 ≤ 16
        · rw [if_pos c2, if_pos c2]
        · rw [if_neg c2, if_neg c2]
          rfl
      · rw [if_neg c1, if_neg c1, if_pos rfl]
    · rw [if_pos (nI_le (by omega) (by omega)), pkc_ge (by omega), if_neg (by decide)]
  have val : ∀ v j : Nat, v ≤ 16 → 48 ≤ j → j ≤ 57 → ((nI v * 10) + nI j) - 48 = nI (v * 10 + (j - 48)) := by
    intro v j hv h1 h2
    have e : nI v * 10 = nI (v * 10) := by
      have : ∀ v : Nat, v < 17 → nI v * 10 = nI (v * 10) := by decide +kernel
      exact this v (by omega)
    rw [e, nI_add, show (48 : Int32) = nI 48 from rfl, nI_sub (by omega), show v * 10 + j - 48 = v * 10 + (j - 48) by omega]
  have eX : (if (if 48 ≤ pkc ch n (k + 1) ∧ pkc ch n (k + 1) ≤ 57 then (1 : Int32) else 0) = 0 then mX5_readLength_b40 F zr1 zs zg else (if pkc ch n (k + 1) = 48 then mX5_readLength_b40 F zr1 zs zg else mX5_readLength_b53 F F zr1 zs zg 0)) = mX5_readLength_b53 F (f + 3) (sI zr1 2 (nI (k + 2))) zs zg (nI (j1 - 48)) := by
    have c48 : 48 ≤ pkc ch n (k + 1) ∧ pkc ch n (k + 1) ≤ 57 := by
      rw [ej]; exact ⟨nI_le (a := 48) (by omega) (by omega), nI_le (b := 57) hj2 (by omega)⟩
    have c49 : ¬ pkc ch n (k + 1) = 48 := by
      rw [ej]; exact fun e => absurd ((nI_eq (b := 48) (by omega) (by omega)).mp e) (by omega)
    rw [if_pos c48, if_neg z01, if_neg c49, e0, turn (f + 3) (k + 1) 0 zr1 (by omega) r2 (by omega), if_pos c48, ej, val 0 j1 (by omega) (by omega) hj2, if_pos (show nI (0 * 10 + (j1 - 48)) ≤ 16 from nI_le (b := 16) (by omega) (by omega))]
    rw [show 0 * 10 + (j1 - 48) = j1 - 48 by omega]
  rw [eX]
  -- the reference's end
  have e101 : ∀ (y : OS) (k v : Nat), Tx ch n zs y → k ≤ n → y.1 17 = nI k → y.1 18 = -1 → ∃ z', mX10_readLength_b101 y (nI si) (nI v) = some z' ∧ Fr [17, 18] [11] y z' ∧ z'.2.2.1 11 = upd (y.2.2.1 11) si (nI v) ∧ z'.1 17 = nI k ∧ z'.1 18 = (if 48 ≤ pkc ch n k ∧ pkc ch n k ≤ 57 then nI k else -1) := by
    intro y k v hy hk h17 h18
    unfold mX10_readLength_b101
    rw [h17, peek_M hy (by omega), b1s, (dig _).2, b1s]
    by_cases c1 : 48 ≤ pkc ch n k ∧ pkc ch n k ≤ 57
    · rw [if_pos c1, if_neg z01, fail_M h18, b1s, gds (vp_in_nI hsi (by omega)), if_pos c1]
      refine ⟨_, rfl, Fr_A (Fr_I (Fr_r _ _ y) (by decide) _) (by decide) _ _, ?_, h17, rfl⟩
      show upd (y.2.2.1 11) (nI si).toNatClampNeg _ = _
      rw [nI_clamp (by omega)]
    · rw [if_neg c1, if_pos rfl, gds (vp_in_nI hsi (by omega)), if_neg c1]
      refine ⟨_, rfl, Fr_A (Fr_r _ _ y) (by decide) _ _, ?_, h17, h18⟩
      show upd (y.2.2.1 11) (nI si).toNatClampNeg _ = _
      rw [nI_clamp (by omega)]
  obtain ⟨z2, hz2⟩ : ∃ y, y = sI z1 17 (nI (k + 2)) := ⟨_, rfl⟩
  obtain ⟨zr2, hzr2⟩ : ∃ y, y = sI zr1 2 (nI (k + 2)) := ⟨_, rfl⟩
  have t2 : Tx ch n zs z2 := by rw [hz2]; exact t1
  have b17 : z2.1 17 = nI (k + 2) := by rw [hz2]; rfl
  have b18 : z2.1 18 = -1 := by rw [hz2]; exact a18
  have s2 : zr2.1 2 = nI (k + 2) := by rw [hzr2]; rfl
  have f2 : Fr [17, 18] [11] z z2 := by rw [hz2]; exact Fr_I f1 (by decide) _
  have g2 : z2.2.2.1 = z.2.2.1 := by rw [hz2]; exact g1
  rw [← hzr2]
  have eM : (if pkc ch n (k + 1) < 49 then mX10_readLength_b21 z1 else (if pkc ch n (k + 1) ≤ 57 then nm (pkc ch n (k + 1) - 48 : Int32) (fun v5 => nm (sI z1 17 (nI (k + 1) + 1)) (fun zx6 => (if (v5 : Int32) = 1 then b1 (mX10_peek zx6 (zx6.1 17)) (fun r8 => (if (r8 : Int32) < 48 then mX10_readLength_b101 zx6 (nI si) v5 else b1 (mX10_peek zx6 (zx6.1 17)) (fun r11 => (if 54 < (r11 : Int32) then mX10_readLength_b101 zx6 (nI si) v5 else b1 (mX10_peek zx6 (zx6.1 17)) (fun r14 => nm ((10 + r14) - 48 : Int32) (fun v16 => nm (sI zx6 17 ((zx6.1 17) + 1)) (fun zx17 => mX10_readLength_b101 zx17 (nI si) v16))))))) else mX10_readLength_b101 zx6 (nI si) v5))) else mX10_readLength_b21 z1)) = if nI (j1 - 48) = 1 ∧ 48 ≤ pkc ch n (k + 2) ∧ pkc ch n (k + 2) ≤ 54 then mX10_readLength_b101 (sI z2 17 (nI (k + 3))) (nI si) ((10 + pkc ch n (k + 2)) - 48) else mX10_readLength_b101 z2 (nI si) (nI (j1 - 48)) := by
    rw [if_neg (Int32.not_lt.mpr d1.1), if_pos d1.2, ej, m48 j1 (by omega), nms, nms, nI_1, ← hz2]
    by_cases c1 : nI (j1 - 48) = 1
    · rw [if_pos c1, b17, peek_M t2 (by omega), b1s, b1s, b1s, nI_1]
      by_cases c2 : pkc ch n (k + 2) < 48
      · rw [if_pos c2, if_neg (fun e => Int32.not_le.mpr c2 e.2.1)]
      · rw [if_neg c2]
        by_cases c3 : 54 < pkc ch n (k + 2)
        · rw [if_pos c3, if_neg (fun e => Int32.not_le.mpr c3 e.2.2)]
        · rw [if_neg c3, if_pos ⟨c1, Int32.not_lt.mp c2, Int32.not_lt.mp c3⟩]
          rfl
    · rw [if_neg c1, if_neg (fun e => c1 e.1)]
  rw [eM, turn (f + 2) (k + 2) (j1 - 48) zr2 (by omega) s2 (by omega)]
  by_cases c2 : 48 ≤ pkc ch n (k + 2) ∧ pkc ch n (k + 2) ≤ 57
  · -- a second digit
    obtain ⟨j2, hj3, hj4, ej2⟩ := chN (a := 48) (b := 57) (by omega) (by omega) c2.1 c2.2
    have hk3 : k + 2 < n := pkc_in (by rw [ej2]; exact nI_m1 (by omega))
    rw [if_pos c2, ej2, val _ _ (by omega) hj3 hj4]
    by_cases c3 : j1 = 49 ∧ j2 ≤ 54
    · obtain ⟨c3, c4⟩ := c3
      subst c3
      rw [if_pos (show nI ((49 - 48) * 10 + (j2 - 48)) ≤ 16 from nI_le (b := 16) (by omega) (by omega)), if_pos ⟨rfl, nI_le (a := 48) hj3 (by omega), nI_le (b := 54) c4 (by omega)⟩]
      have ev : (10 + nI j2) - 48 = nI ((49 - 48) * 10 + (j2 - 48)) := by
        rw [show (10 : Int32) = nI 10 from rfl, nI_add, show (48 : Int32) = nI 48 from rfl, nI_sub (by omega), show 10 + j2 - 48 = (49 - 48) * 10 + (j2 - 48) by omega]
      rw [ev, turn (f + 1) (k + 3) ((49 - 48) * 10 + (j2 - 48)) (sI zr2 2 (nI (k + 2 + 1))) (by omega) rfl (by omega)]
      obtain ⟨z', q1, q2, q3, q4, q5⟩ := e101 (sI z2 17 (nI (k + 3))) (k + 3) ((49 - 48) * 10 + (j2 - 48)) t2 (by omega) rfl b18
      have f3 : Fr [17, 18] [11] z (sI z2 17 (nI (k + 3))) := Fr_I f2 (by decide) _
      have g3 : ∀ j, j ≠ si → z'.2.2.1 11 j = z.2.2.1 11 j := by
        intro j hj
        rw [q3, pk_un hj]
        show z2.2.2.1 11 j = _
        rw [g2]
      rw [q1, b1s]
      by_cases c5 : 48 ≤ pkc ch n (k + 3) ∧ pkc ch n (k + 3) ≤ 57
      · obtain ⟨j3, hj5, hj6, ej3⟩ := chN (a := 48) (b := 57) (by omega) (by omega) c5.1 c5.2
        have hk4 : k + 3 < n := pkc_in (by rw [ej3]; exact nI_m1 (by omega))
        rw [if_pos c5] at q5
        rw [if_pos c5, ej3, val _ _ (by omega) hj5 hj6, if_neg (show ¬ nI (((49 - 48) * 10 + (j2 - 48)) * 10 + (j3 - 48)) ≤ 16 from nI_ge (a := 16) (by omega) (by omega))]
        exact ⟨-1, _, z', rfl, rfl, Fr_t f3 q2, g3, Or.inl ⟨rfl, k + 3, by omega, rfl, q5⟩⟩
      · rw [if_neg c5] at q5
        rw [if_neg c5]
        exact ⟨_, _, z', rfl, rfl, Fr_t f3 q2, g3, Or.inr ⟨(49 - 48) * 10 + (j2 - 48), k + 3, by omega, by omega, rfl, by omega, by omega, rfl, q4, q5, by rw [q3, pk_us]⟩⟩
    · -- too long
      have n16 : ¬ nI ((j1 - 48) * 10 + (j2 - 48)) ≤ 16 := nI_ge (a := 16) (by omega) (by omega)
      rw [if_neg n16, if_neg (fun e : nI (j1 - 48) = 1 ∧ 48 ≤ nI j2 ∧ nI j2 ≤ 54 => c3 ⟨by have := (nI_eq (b := 1) (by omega) (by omega)).mp e.1; omega, by have := (nI_leI (b := 54) (by omega) (by omega)).mp e.2.2; omega⟩)]
      obtain ⟨z', q1, q2, q3, q4, q5⟩ := e101 z2 (k + 2) (j1 - 48) t2 (by omega) b17 b18
      rw [if_pos c2] at q5
      rw [q1, b1s]
      exact ⟨-1, _, z', rfl, rfl, Fr_t f2 q2, fun j hj => by rw [q3, pk_un hj, g2], Or.inl ⟨rfl, k + 2, by omega, rfl, q5⟩⟩
  · -- one digit
    rw [if_neg c2, if_neg (fun e => c2 ⟨e.2.1, Int32.le_trans e.2.2 (by decide)⟩)]
    obtain ⟨z', q1, q2, q3, q4, q5⟩ := e101 z2 (k + 2) (j1 - 48) t2 (by omega) b17 b18
    rw [if_neg c2] at q5
    rw [q1, b1s]
    exact ⟨_, _, z', rfl, rfl, Fr_t f2 q2, fun j hj => by rw [q3, pk_un hj, g2], Or.inr ⟨j1 - 48, k + 2, by omega, by omega, rfl, by omega, by omega, s2, q4, q5, by rw [q3, pk_us]⟩⟩

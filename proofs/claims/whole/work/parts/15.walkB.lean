theorem beh_X1 (F : Nat) (hF : 5 < F) (zc : OS) {w k q : Nat} (hk : k ≤ 3) (hkq : k ≤ q) (hq : q < 300) (hkw : k ≤ w) (hw : w ≤ 203) (ew : zc.1 4 = nI w) : mX0_isBehindLatest F zc (nI q) (nI k) = some (if ahd (zc.2.2.1 0) (zc.2.2.1 1) w k q then 1 else 0) := by
  unfold mX0_isBehindLatest mX0_isBehindLatest_b0
  rw [nms]
  have h := beh_X F zc hk hkq hq hkw hw ew k 1 F (by omega) (by omega) (by omega)
  rw [show nI 1 = (1 : Int32) from rfl] at h
  rw [h]
  unfold ahd
  simp [hkq]
theorem find_X (F : Nat) (hF : 5 < F) (P : Nat → Bool) (c p : Nat → Int32) {w k n : Nat} (hk : k ≤ 3) (hn : n ≤ 300) (hkw : k ≤ w) (hw : w ≤ 203) (hP : ∀ x, ahd c p w k x = P x) : ∀ (d q m f : Nat) (zx : OS), q + d = n → k ≤ q → m + cA P d q ≤ 300 → d < f → zx.2.2.1 0 = c → zx.2.2.1 1 = p → zx.1 4 = nI w → zx.1 3 = nI n → ∃ g : Nat → Int32, mX0_findFollowers_b4 F f zx (nI k) (nI m) (nI q) = some (nI (m + cA P d q), sR zx 2 g) ∧ (∀ j, j < m → g j = zx.2.2.1 2 j) ∧ ∀ j, j < cA P d q → g (m + j) = nI (nA P d q j) := by
  intro d
  induction d with
  | zero =>
    intro q m f zx h1 h2 h3 h4 e0 e1 e4 e3
    obtain ⟨f, rfl⟩ : ∃ g, f = g + 1 := ⟨f - 1, by omega⟩
    refine ⟨zx.2.2.1 2, ?_, fun _ _ => rfl, fun j hj => by simp [cA] at hj⟩
    unfold mX0_findFollowers_b4
    rw [e3, if_pos (nI_le (by omega) (by omega)), sR_eta]
    rfl
  | succ d ih =>
    intro q m f zx h1 h2 h3 h4 e0 e1 e4 e3
    obtain ⟨f, rfl⟩ : ∃ g, f = g + 1 := ⟨f - 1, by omega⟩
    unfold mX0_findFollowers_b4
    rw [e3, if_neg (nI_ge (by omega) (by omega)), beh_X1 F hF zx hk h2 (by omega) hkw hw e4, b1s, e0, e1, hP q]
    simp only [nms, nI_1]
    simp only [cA] at h3
    by_cases a : P q = true
    · rw [if_pos a] at h3
      rw [if_pos a, if_neg z01, gds (vp_in_nI (by omega) (by omega))]
      obtain ⟨g, q1, q2, q3⟩ := ih (q + 1) (m + 1) f (sA zx 2 (nI m) (nI q)) (by omega) (by omega) (by omega) (by omega) e0 e1 e4 e3
      refine ⟨g, ?_, ?_, ?_⟩
      · rw [q1]
        simp only [cA, if_pos a]
        rw [show m + 1 + cA P d (q + 1) = m + (1 + cA P d (q + 1)) by omega]
        unfold sA
        rw [sRR]
      · intro j hj
        rw [q2 j (by omega)]
        show upd (zx.2.2.1 2) (nI m).toNatClampNeg (nI q) j = _
        rw [nI_clamp (by omega), pk_un (by omega)]
      · intro j hj
        simp only [cA, if_pos a] at hj
        simp only [nA, if_pos a]
        by_cases z : j = 0
        · rw [if_pos z, z, Nat.add_zero, q2 m (by omega)]
          show upd (zx.2.2.1 2) (nI m).toNatClampNeg (nI q) m = _
          rw [nI_clamp (by omega), pk_us]
        · rw [if_neg z, ← q3 (j - 1) (by omega), show m + 1 + (j - 1) = m + j by omega]
    · rw [if_neg a] at h3
      rw [if_neg a, if_pos rfl]
      obtain ⟨g, q1, q2, q3⟩ := ih (q + 1) m f zx (by omega) (by omega) (by omega) (by omega) e0 e1 e4 e3
      refine ⟨g, ?_, q2, ?_⟩
      · rw [q1]
        simp only [cA, if_neg a, Nat.zero_add]
      · intro j hj
        simp only [cA, if_neg a, Nat.zero_add] at hj
        simp only [nA, if_neg a]
        exact q3 j hj
theorem cnt_M (F : Nat) (hF : 5 < F) (P : Nat → Bool) (K : OS → Int32 → Int32 → Int32 → Int32 → Option (Int32 × OS)) (zx : OS) {w k n : Nat} (a2 a3 a6 : Int32) (hk1 : 1 ≤ k) (hk : k ≤ 3) (hn : n ≤ 300) (hkw : k ≤ w) (hw : w ≤ 203) (hP : ∀ x, x < n → ahd (zx.2.2.1 48) (zx.2.2.1 50) w k x = P x) (e51 : zx.1 51 = nI w) (e49 : zx.1 49 = nI n) : ∀ (d q m f : Nat), q + d = n → d < f → mX10_walk_b98 F K f zx (nI k) a2 a3 a6 (nI m) (nI q) = gd a2 300 (nm (zx.2.2.1 48 (a2 : Int32).toNatClampNeg : Int32) (fun v3 => (if (nI (m + cA P d q) : Int32) ≤ 0 then mX10_walk_b204 F K zx (nI k) a2 a3 a6 v3 else b2 (mX10_drawBelow F zx (nI (m + cA P d q))) (fun r5 zx6 => nm (0 : Int32) (fun v8 => mX10_walk_b157 F K F zx6 (nI k) a2 a3 a6 v3 r5 v8))))) := by
  intro d
  induction d with
  | zero =>
    intro q m f h1 h2
    obtain ⟨f, rfl⟩ : ∃ g, f = g + 1 := ⟨f - 1, by omega⟩
    rw [mX10_walk_b98, e49, if_pos (nI_le (by omega) (by omega))]
    rfl
  | succ d ih =>
    intro q m f h1 h2
    obtain ⟨f, rfl⟩ : ∃ g, f = g + 1 := ⟨f - 1, by omega⟩
    rw [mX10_walk_b98, e49, if_neg (nI_ge (by omega) (by omega)), ahd_M F hF zx hk1 hk (by omega) hkw hw e51, b1s, hP q (by omega), nms, nms, nms, nms, nI_1, nI_1, show nI m + 0 = nI (m + 0) from nI_add m 0]
    by_cases a : P q = true
    · rw [if_pos a, if_neg z01, ih (q + 1) (m + 1) f (by omega) (by omega)]
      simp only [cA, if_pos a]
      rw [show m + 1 + cA P d (q + 1) = m + (1 + cA P d (q + 1)) by omega]
    · rw [if_neg a, if_pos rfl, ih (q + 1) (m + 0) f (by omega) (by omega)]
      simp only [cA, if_neg a, Nat.zero_add, Nat.add_zero]
theorem ng_ne {t : Nat} (h1 : 1 ≤ t) (h2 : t < 2 ^ 31) : ¬ (-nI t) = 0 := by
  intro z
  have := congrArg Int32.toInt z
  rw [sb_negT h2] at this
  have e0 : (0 : Int32).toInt = 0 := by decide
  omega
theorem ng_1 {t : Nat} : -nI t + (-1) = -nI (t + 1) := by
  rw [← nI_1, Int32.neg_add, Int32.sub_eq_add_neg]
theorem sel_M2 (F : Nat) (hF : 5 < F) (P : Nat → Bool) (K : OS → Int32 → Int32 → Int32 → Int32 → Option (Int32 × OS)) (zx : OS) {w k n : Nat} (a2 a3 a6 v : Int32) (hk1 : 1 ≤ k) (hk : k ≤ 3) (hn : n ≤ 300) (hkw : k ≤ w) (hw : w ≤ 203) (hP : ∀ x, x < n → ahd (zx.2.2.1 48) (zx.2.2.1 50) w k x = P x) (e51 : zx.1 51 = nI w) (e49 : zx.1 49 = nI n) : ∀ (d q t f : Nat), q + d = n → d < f → 1 ≤ t → t + d ≤ 1000 → mX10_walk_b157 F K f zx (nI k) a2 a3 a6 v (-nI t) (nI q) = mX10_walk_b204 F K zx (nI k) a2 a3 a6 v := by
  intro d
  induction d with
  | zero =>
    intro q t f h1 h2 h3 h4
    obtain ⟨f, rfl⟩ : ∃ g, f = g + 1 := ⟨f - 1, by omega⟩
    rw [mX10_walk_b157, e49, if_pos (nI_le (by omega) (by omega))]
  | succ d ih =>
    intro q t f h1 h2 h3 h4
    obtain ⟨f, rfl⟩ : ∃ g, f = g + 1 := ⟨f - 1, by omega⟩
    rw [mX10_walk_b157, e49, if_neg (nI_ge (by omega) (by omega)), ahd_M F hF zx hk1 hk (by omega) hkw hw e51, b1s, hP q (by omega), if_neg (ng_ne h3 (by omega)), nms, nms, nms, nI_1, ng_1]
    by_cases a : P q = true
    · rw [if_pos a, if_neg z01]
      exact ih (q + 1) (t + 1) f (by omega) (by omega) (by omega) (by omega)
    · rw [if_neg a, if_pos rfl]
      exact ih (q + 1) t f (by omega) (by omega) h3 (by omega)
theorem sel_M (F : Nat) (hF : 5 < F) (P : Nat → Bool) (K : OS → Int32 → Int32 → Int32 → Int32 → Option (Int32 × OS)) (zx : OS) {w k n : Nat} (a2 a3 a6 : Int32) (hk1 : 1 ≤ k) (hk : k ≤ 3) (hn : n ≤ 300) (hkw : k ≤ w) (hw : w ≤ 203) (hP : ∀ x, x < n → ahd (zx.2.2.1 48) (zx.2.2.1 50) w k x = P x) (e51 : zx.1 51 = nI w) (e49 : zx.1 49 = nI n) : ∀ (d q j f : Nat) (v : Int32), q + d = n → d < f → j < cA P d q → mX10_walk_b157 F K f zx (nI k) a2 a3 a6 v (nI j) (nI q) = mX10_walk_b204 F K zx (nI k) a2 a3 a6 (zx.2.2.1 48 (nA P d q j)) := by
  intro d
  induction d with
  | zero => intro q j f v h1 h2 h3; simp [cA] at h3
  | succ d ih =>
    intro q j f v h1 h2 h3
    obtain ⟨f, rfl⟩ : ∃ g, f = g + 1 := ⟨f - 1, by omega⟩
    rw [mX10_walk_b157, e49, if_neg (nI_ge (by omega) (by omega)), ahd_M F hF zx hk1 hk (by omega) hkw hw e51, b1s, hP q (by omega)]
    simp only [nms, nI_1]
    simp only [cA] at h3
    have hle := cA_le P d (q + 1)
    by_cases a : P q = true
    · rw [if_pos a] at h3
      rw [if_pos a, if_neg z01]
      simp only [nA, if_pos a]
      by_cases z : j = 0
      · subst z
        rw [if_pos rfl, if_pos (show nI 0 = 0 from rfl), gds (vp_in_nI (by omega) (by omega)), nI_clamp (by omega), show nI 0 + (-1) = -nI 1 from rfl]
        exact sel_M2 F hF P K zx a2 a3 a6 _ hk1 hk hn hkw hw hP e51 e49 d (q + 1) 1 f (by omega) (by omega) (by omega) (by omega)
      · rw [if_neg z, if_neg (nI_ne0 (by omega) (by omega)), show nI j + (-1) = nI (j - 1) from sb_m1 (by omega)]
        exact ih (q + 1) (j - 1) f v (by omega) (by omega) (by omega)
    · rw [if_neg a] at h3
      rw [if_neg a, if_pos rfl]
      simp only [nA, if_neg a]
      exact ih (q + 1) j f v (by omega) (by omega) (by omega)

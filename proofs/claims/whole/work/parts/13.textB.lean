theorem ok_c {w : Nat} (hw : w < 256) (h0 : ¬ w = 0) (h : (decide (w = 0) || decide (w = 10) || (decide (32 ≤ w) && decide (w ≤ 126))) = true) : okc (nI w) := by
  simp only [Bool.or_eq_true, Bool.and_eq_true, decide_eq_true_eq] at h
  rcases h with (h | h) | h
  · exact absurd h h0
  · exact Or.inl (by rw [h]; rfl)
  · exact Or.inr ⟨le_litA (y := 32) (a := 32) rfl h.1 (by omega), le_litB (y := 126) (b := 126) rfl h.2 (by omega)⟩
theorem app_loop (F : Nat) (row : Int64) : ∀ (d k f1 f2 : Nat) (zs zx : OS) (n : Nat), k + d = 8 → d < f1 → d < f2 → okTx row d k = true → n + cntB row d k ≤ 1200 → zs.1 1 = nI n → zx.1 2 = nI n → (∀ j, j < n → zs.2.2.1 0 j = zx.2.2.1 1 j ∧ okc (zx.2.2.1 1 j)) → ∃ (n' : Nat) (f : Nat → Int32) (zs' : OS), n' ≤ 1200 ∧ mX6_append_b68 F f1 zs row (shB k) = some (nI n', zs') ∧ mX10_text_b95 F f2 zx row (nI k) = some (nI n', sI (sR zx 1 f) 2 (nI n')) ∧ zs'.1 1 = nI n' ∧ ∀ j, j < n' → zs'.2.2.1 0 j = f j ∧ okc (f j) := by
  intro d
  induction d with
  | zero =>
    intro k f1 f2 zs zx n h1 h2 h3 _ hn e1 e2 hj
    obtain ⟨f1, rfl⟩ : ∃ q, f1 = q + 1 := ⟨f1 - 1, by omega⟩
    obtain ⟨f2, rfl⟩ : ∃ q, f2 = q + 1 := ⟨f2 - 1, by omega⟩
    have hk : k = 8 := by omega
    subst hk
    have hn' : n ≤ 1200 := by simp only [cntB] at hn; omega
    refine ⟨n, zx.2.2.1 1, zs, hn', ?_, ?_, e1, hj⟩
    · unfold mX6_append_b68
      rw [shB_8, if_pos (by decide), e1]
    · unfold mX10_text_b95
      rw [if_pos (le_litA (y := 8) (a := 8) rfl (by omega) (by omega)), e2, sR_eta, ← e2, sI_eta]
  | succ d ih =>
    intro k f1 f2 zs zx n h1 h2 h3 ho hn e1 e2 hj
    obtain ⟨f1, rfl⟩ : ∃ q, f1 = q + 1 := ⟨f1 - 1, by omega⟩
    obtain ⟨f2, rfl⟩ : ∃ q, f2 = q + 1 := ⟨f2 - 1, by omega⟩
    obtain ⟨w, hw, ew⟩ := byt_lt row k
    have eq0 : nI w = (0 : Int32) ↔ w = 0 := nI_eq (b := 0) (by omega) (by omega)
    have eq1 : nI w = (10 : Int32) ↔ w = 10 := nI_eq (b := 10) (by omega) (by omega)
    have le1 : (32 : Int32) ≤ nI w ↔ 32 ≤ w := nI_leI (a := 32) (by omega) (by omega)
    have le2 : nI w ≤ (126 : Int32) ↔ w ≤ 126 := nI_leI (b := 126) (by omega) (by omega)
    simp only [okTx, ew, eq0, eq1, le1, le2, Bool.and_eq_true] at ho
    simp only [cntB, ew, eq0] at hn
    unfold mX6_append_b68 mX10_text_b95
    rw [if_neg (shB_n (by omega)), if_neg (ge_lit (y := 8) (b := 8) rfl (by omega) (by omega)), byt_M row k (by omega)]
    simp only [nms]
    rw [shB_s (by omega), shB_k (show k < 8 by omega), byt_X, b1s, ew, nI_1]
    by_cases z : w = 0
    · rw [if_pos (eq0.mpr z), if_pos (eq0.mpr z)]
      rw [if_pos z] at hn
      exact ih (k + 1) f1 f2 zs zx n (by omega) (by omega) (by omega) ho.2 (by omega) e1 e2 hj
    · rw [if_neg z] at hn
      rw [if_neg (fun q => z (eq0.mp q)), if_neg (fun q => z (eq0.mp q)), e1, e2, gds (vp_in_nI (by omega) (by omega)), gds (vp_in_nI (by omega) (by omega)), nar_c hw]
      have g1 : (sA zs 0 (nI n) (nI w)).1 1 = nI n := e1
      have g2 : (sA zx 1 (nI n) (nI w)).1 2 = nI n := e2
      rw [g1, g2, nI_1]
      obtain ⟨n', f, zs', q1, q2, q3, q4, q5⟩ := ih (k + 1) f1 f2 (sI (sA zs 0 (nI n) (nI w)) 1 (nI (n + 1))) (sI (sA zx 1 (nI n) (nI w)) 2 (nI (n + 1))) (n + 1) (by omega) (by omega) (by omega) ho.2 (by omega) rfl rfl (fun j hj2 => by
        show upd (zs.2.2.1 0) (nI n).toNatClampNeg (nI w) j = upd (zx.2.2.1 1) (nI n).toNatClampNeg (nI w) j ∧ okc (upd (zx.2.2.1 1) (nI n).toNatClampNeg (nI w) j)
        rw [nI_clamp (by omega)]
        by_cases c : j = n
        · subst c
          rw [pk_us, pk_us]
          exact ⟨rfl, ok_c hw z (by simpa using ho.1)⟩
        · rw [pk_un c, pk_un c]
          exact hj j (by omega))
      refine ⟨n', f, zs', q1, q2, ?_, q4, q5⟩
      rw [q3]
      unfold sA
      rw [sRI, sRR, sII]
theorem cntB_le (x : Int64) : ∀ d k, cntB x d k ≤ d := by
  intro d
  induction d with
  | zero => intro k; exact Nat.le_refl 0
  | succ d ih =>
    intro k
    have := ih (k + 1)
    simp only [cntB]
    split <;> omega
theorem text_X (zt zs zg zh zu zl zc zw : OS) (p0 : Int64) (F : Nat) : mX9_text F zt zs zg zh zu zl zc zw p0 = b2 (mX6_append_b6 F F zs p0 (nI 0) (shB 0)) (fun r1 zs2 => some (r1, zs2)) := rfl
theorem text_M (zx : OS) (p0 : Int64) (F : Nat) : mX10_text F zx p0 = mX10_text_b5 F F zx p0 (nI 0) (nI 0) := rfl
theorem text_56 (F f : Nat) (zs : OS) (p0 : Int64) : mX6_append_b68 F f zs p0 56 = mX6_append_b68 F f zs p0 (shB 0) := rfl
theorem text_0 (F f : Nat) (zx : OS) (p0 : Int64) : mX10_text_b95 F f zx p0 0 = mX10_text_b95 F f zx p0 (nI 0) := rfl
theorem R_text {zt zs zg zh zu zl zc zw zx : OS} (h : Rel zt zs zg zh zu zl zc zw zx) (p0 : Int64) : ∃ (F1 F2 : Nat) (r : Int32) (zs' : OS) (zx' : OS), mX9_text F1 zt zs zg zh zu zl zc zw p0 = some (r, zs') ∧ mX10_text F2 zx p0 = some (r, zx') ∧ Rel zt zs' zg zh zu zl zc zw zx' := by
  have hh := h
  obtain ⟨⟨n, hn, e1, e2, hj⟩, hW, hU, hC, hR, hG, hT⟩ := h
  obtain ⟨F, hF⟩ : ∃ F : Nat, 8 < F := ⟨9, by omega⟩
  obtain ⟨d8, hd8⟩ : ∃ d : Nat, d = 8 := ⟨8, rfl⟩
  refine ⟨F, F, ?_⟩
  rw [text_X, text_M, first_X F zs p0 d8 0 F 0 (by omega) (by omega), first_M F zx p0 d8 0 F 0 (by omega) (by omega), e1, e2, nI_add, Nat.zero_add, text_56, text_0]
  have hc8 := cntB_le p0 d8 0
  have AL := fun o m => app_loop F p0 d8 0 F F zs zx n (by omega) (by omega) (by omega) o m e1 e2 hj
  generalize cntB p0 d8 0 = m8 at hc8 AL ⊢
  generalize okTx p0 d8 0 = o8 at AL ⊢
  by_cases o : o8 = true
  · rw [if_pos o, if_pos o]
    by_cases m : n + m8 ≤ 1200
    · rw [if_pos (le_litB (y := 1200) (b := 1200) rfl m (by omega)), if_pos (le_litB (y := 1200) (b := 1200) rfl m (by omega))]
      obtain ⟨n', f, zs', q1, q2, q3, q4, q5⟩ := AL o m
      rw [q2, q3]
      exact ⟨nI n', zs', _, rfl, rfl, ⟨n', q1, q4, rfl, q5⟩, hW, hU, hC, hR, hG, hT⟩
    · have m2 : ¬ nI (n + m8) ≤ (1200 : Int32) := fun z => m ((nI_leI (b := 1200) (by omega) (by omega)).mp z)
      rw [if_neg m2, if_neg m2]
      exact ⟨-4, zs, zx, rfl, rfl, hh⟩
  · rw [if_neg o, if_neg o]
    exact ⟨-2, zs, zx, rfl, rfl, hh⟩

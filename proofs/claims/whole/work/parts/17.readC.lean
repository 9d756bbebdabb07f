/-! read, third: one SIGN more on both sides -/
def RSu (zh z : OS) (pl : Nat → Nat) (s : Nat) : Prop :=
  (∃ q, q < 26 ∧ zh.2.2.1 7 s = nI q ∧ z.2.2.1 8 (241 + s) = 0 ∧ z.2.2.1 9 (241 + s) = nI q ∧ z.2.2.1 12 (241 + s) = nI (pl s)) ∨
  (∃ (d t : Nat) (o : Int), d < 7 ∧ 1 ≤ t ∧ t ≤ 16 ∧ -2 ≤ o ∧ o ≤ 2 ∧ zh.2.2.1 7 s = -1 ∧ zh.2.2.1 8 s = nI d ∧ zh.2.2.1 9 s = Int32.ofInt o ∧ zh.2.2.1 10 s = nI t ∧ z.2.2.1 8 (241 + s) = 1 ∧ z.2.2.1 9 (241 + s) = nI d ∧ z.2.2.1 10 (241 + s) = Int32.ofInt o ∧ z.2.2.1 11 (241 + s) = nI t) ∨
  (∃ t : Nat, 1 ≤ t ∧ t ≤ 16 ∧ zh.2.2.1 7 s = -1 ∧ zh.2.2.1 8 s = -1 ∧ zh.2.2.1 10 s = nI t ∧ z.2.2.1 8 (241 + s) = 2 ∧ z.2.2.1 11 (241 + s) = nI t)
def FU (zh : OS) (pl : Nat → Nat) (S q : Nat) : Prop := (zh.2.2.1 3 q = -1 ∧ ∀ s, s < S → ¬ zh.2.2.1 7 s = nI q) ∨ ∃ s, s < S ∧ zh.2.2.1 7 s = nI q ∧ zh.2.2.1 3 q = nI (pl s) ∧ ∀ s', s' < s → ¬ zh.2.2.1 7 s' = nI q
def SG (zh z : OS) (S k : Nat) (pl : Nat → Nat) : Prop := zh.1 13 = nI S ∧ S ≤ 240 ∧ (∀ s, s < S → RSu zh z pl s) ∧ (∀ s s', s < s' → s' < S → pl s < pl s') ∧ (∀ s, s < S → pl s < k) ∧ ∀ q, q < 26 → FU zh pl S q
theorem RSu_fr {zh zh' z z' : OS} {pl pl' : Nat → Nat} {s : Nat} (h : RSu zh z pl s) (h1 : ∀ i, 7 ≤ i → i ≤ 10 → zh'.2.2.1 i s = zh.2.2.1 i s) (h2 : ∀ i, 8 ≤ i → i ≤ 12 → z'.2.2.1 i (241 + s) = z.2.2.1 i (241 + s)) (h3 : pl' s = pl s) : RSu zh' z' pl' s := by
  unfold RSu at h ⊢
  rw [h1 7 (by omega) (by omega), h1 8 (by omega) (by omega), h1 9 (by omega) (by omega), h1 10 (by omega) (by omega), h2 8 (by omega) (by omega), h2 9 (by omega) (by omega), h2 10 (by omega) (by omega), h2 11 (by omega) (by omega), h2 12 (by omega) (by omega), h3]
  exact h
def hS (zh : OS) (S A : Nat) (a1 a2 a3 a4 : Int32) : OS := sA (sI (sA (sA (sA (sA zh 7 (nI S) a1) 8 (nI S) a2) 9 (nI S) a3) 10 (nI S) a4) 13 (nI (S + 1))) 6 (nI A) (nI (S + 1))
theorem addS_X {zh : OS} {S A : Nat} (hS1 : S < 240) (hA : A < 48) (h13 : zh.1 13 = nI S) (h12 : zh.1 12 = nI (A + 1)) (a1 a2 a3 a4 : Int32) : mX2_addSign zh a1 a2 a3 a4 = some (hS zh S A a1 a2 a3 a4) := by
  have hv := vp_in_nI hS1 (show (240 : Nat) < 2 ^ 31 by omega)
  unfold mX2_addSign mX2_addSign_b0
  simp only [nms]
  rw [h13, gds hv, show (sA zh 7 (nI S) a1).1 13 = nI S from h13, gds hv, show (sA (sA zh 7 (nI S) a1) 8 (nI S) a2).1 13 = nI S from h13, gds hv, show (sA (sA (sA zh 7 (nI S) a1) 8 (nI S) a2) 9 (nI S) a3).1 13 = nI S from h13, gds hv, show (sA (sA (sA (sA zh 7 (nI S) a1) 8 (nI S) a2) 9 (nI S) a3) 10 (nI S) a4).1 13 = nI S from h13, nI_1]
  rw [show (sI (sA (sA (sA (sA zh 7 (nI S) a1) 8 (nI S) a2) 9 (nI S) a3) 10 (nI S) a4) 13 (nI (S + 1))).1 12 = nI (A + 1) from h12, nI_pred, gds (vp_in_nI hA (by omega))]
  rfl
theorem hS_a {zh : OS} {S A : Nat} (hS1 : S < 240) (hA : A < 48) (a1 a2 a3 a4 : Int32) : (hS zh S A a1 a2 a3 a4).2.2.1 7 = upd (zh.2.2.1 7) S a1 ∧ (hS zh S A a1 a2 a3 a4).2.2.1 8 = upd (zh.2.2.1 8) S a2 ∧ (hS zh S A a1 a2 a3 a4).2.2.1 9 = upd (zh.2.2.1 9) S a3 ∧ (hS zh S A a1 a2 a3 a4).2.2.1 10 = upd (zh.2.2.1 10) S a4 ∧ (hS zh S A a1 a2 a3 a4).2.2.1 6 = upd (zh.2.2.1 6) A (nI (S + 1)) ∧ (hS zh S A a1 a2 a3 a4).2.2.1 3 = zh.2.2.1 3 ∧ (hS zh S A a1 a2 a3 a4).1 13 = nI (S + 1) ∧ Fr [13] [3, 6, 7, 8, 9, 10] zh (hS zh S A a1 a2 a3 a4) := by
  have h1 : (hS zh S A a1 a2 a3 a4).2.2.1 7 = upd (zh.2.2.1 7) (nI S).toNatClampNeg a1 := rfl
  have h2 : (hS zh S A a1 a2 a3 a4).2.2.1 8 = upd (zh.2.2.1 8) (nI S).toNatClampNeg a2 := rfl
  have h3 : (hS zh S A a1 a2 a3 a4).2.2.1 9 = upd (zh.2.2.1 9) (nI S).toNatClampNeg a3 := rfl
  have h4 : (hS zh S A a1 a2 a3 a4).2.2.1 10 = upd (zh.2.2.1 10) (nI S).toNatClampNeg a4 := rfl
  have h5 : (hS zh S A a1 a2 a3 a4).2.2.1 6 = upd (zh.2.2.1 6) (nI A).toNatClampNeg (nI (S + 1)) := rfl
  rw [nI_clamp (by omega)] at h1 h2 h3 h4 h5
  exact ⟨h1, h2, h3, h4, h5, rfl, rfl, Fr_A (Fr_I (Fr_A (Fr_A (Fr_A (Fr_A (Fr_r _ _ zh) (by decide) _ _) (by decide) _ _) (by decide) _ _) (by decide) _ _) (by decide) _) (by decide) _ _⟩
def plU (pl : Nat → Nat) (S k : Nat) : Nat → Nat := fun s => if s = S then k else pl s
/-- the new SIGN's relation, out of its numbers -/
theorem SG_new {zh zh' z z' : OS} {S k k' : Nat} {pl : Nat → Nat} {a1 a2 a3 a4 : Int32} (h : SG zh z S k pl) (hS1 : S < 240) (hk : k < k') (hk2 : k < 2 ^ 31) (h13 : zh'.1 13 = nI (S + 1)) (h7 : zh'.2.2.1 7 = upd (zh.2.2.1 7) S a1) (h8 : zh'.2.2.1 8 = upd (zh.2.2.1 8) S a2) (h9 : zh'.2.2.1 9 = upd (zh.2.2.1 9) S a3) (h10 : zh'.2.2.1 10 = upd (zh.2.2.1 10) S a4) (hz : ∀ i j, 8 ≤ i → i ≤ 12 → j ≠ 241 + S → z'.2.2.1 i j = z.2.2.1 i j) (hn : RSu zh' z' (plU pl S k) S) (h3 : (a1 = -1 ∧ zh'.2.2.1 3 = zh.2.2.1 3) ∨ ∃ q, q < 26 ∧ a1 = nI q ∧ zh'.2.2.1 3 = (if zh.2.2.1 3 q = -1 then upd (zh.2.2.1 3) q (nI k) else zh.2.2.1 3)) : SG zh' z' (S + 1) k' (plU pl S k) := by
  obtain ⟨s1, s2, s3, s4, s5, s6⟩ := h
  have plo : ∀ s, s < S → plU pl S k s = pl s := fun s hs => if_neg (by omega)
  have plS : plU pl S k S = k := if_pos rfl
  have e7 : ∀ s, s < S → zh'.2.2.1 7 s = zh.2.2.1 7 s := fun s hs => by rw [h7, pk_un (by omega)]
  have e7S : zh'.2.2.1 7 S = a1 := by rw [h7, pk_us]
  refine ⟨h13, by omega, fun s hs => ?_, fun s s' h1 h2 => ?_, fun s hs => ?_, fun q hq => ?_⟩
  · by_cases c : s = S
    · subst c; exact hn
    · refine RSu_fr (s3 s (by omega)) (fun i h1 h2 => ?_) (fun i h1 h2 => hz i _ h1 h2 (by omega)) (plo s (by omega))
      rcases (show i = 7 ∨ i = 8 ∨ i = 9 ∨ i = 10 by omega) with rfl | rfl | rfl | rfl
      · rw [h7, pk_un c]
      · rw [h8, pk_un c]
      · rw [h9, pk_un c]
      · rw [h10, pk_un c]
  · by_cases c : s' = S
    · subst c
      rw [plo s (by omega), plS]
      exact s5 s (by omega)
    · rw [plo s (by omega), plo s' (by omega)]
      exact s4 s s' h1 (by omega)
  · by_cases c : s = S
    · subst c; rw [plS]; exact hk
    · rw [plo s (by omega)]
      have := s5 s (by omega)
      omega
  · -- where a LETTER is first used
    have keep : (zh'.2.2.1 3 q = zh.2.2.1 3 q) → (zh.2.2.1 3 q = -1 → ¬ a1 = nI q) → FU zh' (plU pl S k) (S + 1) q := by
      intro e1 e2
      rcases s6 q hq with ⟨f1, f2⟩ | ⟨s, f1, f2, f3, f4⟩
      · refine Or.inl ⟨e1.trans f1, fun s hs => ?_⟩
        by_cases c : s = S
        · subst c; rw [e7S]; exact e2 f1
        · rw [e7 s (by omega)]; exact f2 s (by omega)
      · exact Or.inr ⟨s, by omega, by rw [e7 s f1]; exact f2, by rw [e1, f3, plo s f1], fun s' hs' => by rw [e7 s' (by omega)]; exact f4 s' hs'⟩
    rcases h3 with ⟨ha, e⟩ | ⟨q', hq', ha, e⟩
    · refine keep (by rw [e]) (fun _ => ?_)
      rw [ha]
      exact fun e => nI_m1 (show q < 2 ^ 31 by omega) e.symm
    · by_cases c : zh.2.2.1 3 q' = -1
      · rw [if_pos c] at e
        by_cases cq : q = q'
        · subst cq
          rcases s6 q hq with ⟨f1, f2⟩ | ⟨s, f1, f2, f3, f4⟩
          · exact Or.inr ⟨S, by omega, by rw [e7S]; exact ha, by rw [e, pk_us, plS], fun s' hs' => by rw [e7 s' hs']; exact f2 s' hs'⟩
          · rw [c] at f3
            have := s5 s f1
            exact absurd f3.symm (nI_m1 (by omega))
        · refine keep (by rw [e, pk_un cq]) (fun _ ea => ?_)
          rw [ha] at ea
          exact cq ((nI_eq (by omega) (by omega)).mp ea).symm
      · rw [if_neg c] at e
        refine keep (by rw [e]) (fun f1 ea => ?_)
        rw [ha] at ea
        have := (nI_eq (by omega) (by omega)).mp ea
        subst this
        exact c f1
theorem sgn_b {ch : Nat → Int32} {n : Nat} {zs z : OS} (h : Tx ch n zs z) {zr zh : OS} {k S A F : Nat} {pl : Nat → Nat} (hF : 4 < F) (hk : k < n) (hr : zr.1 2 = nI k) (hz : z.1 17 = nI k) (h18 : z.1 18 = -1) (hG : SG zh z S k pl) (hS1 : S < 240) (hA : A < 48) (h12 : zh.1 12 = nI (A + 1)) (hc : (65 ≤ pkc ch n k ∧ pkc ch n k ≤ 90) ∨ (48 ≤ pkc ch n k ∧ pkc ch n k ≤ 54) ∨ pkc ch n k = 114) : ∃ (v : Int32) (zr' zh' z' : OS), mX5_readSign F zr zs zh = some (v, zr', zh') ∧ mX10_readSign F z (nI (241 + S)) (pkc ch n k) = some z' ∧ Fr [17, 18] [8, 9, 10, 11, 12] z z' ∧ (∀ i j, 8 ≤ i → i ≤ 12 → j ≠ 241 + S → z'.2.2.1 i j = z.2.2.1 i j) ∧ ((v = 0 ∧ ∃ p, p ≤ n ∧ zr'.1 3 = nI p ∧ z'.1 18 = nI p) ∨ (v = 1 ∧ z'.1 18 = -1 ∧ ∃ k', k < k' ∧ k' ≤ n ∧ zr'.1 2 = nI k' ∧ z'.1 17 = nI k' ∧ SG zh' z' (S + 1) k' (plU pl S k) ∧ zh'.2.2.1 6 = upd (zh.2.2.1 6) A (nI (S + 1)) ∧ Fr [13] [3, 6, 7, 8, 9, 10] zh zh')) := by
  have hn := h.1
  have hsi : 241 + S < 482 := by omega
  have hv := vp_in_nI hsi (show (482 : Nat) < 2 ^ 31 by omega)
  have hcl : (nI (241 + S)).toNatClampNeg = 241 + S := nI_clamp (by omega)
  -- the reference's first writes
  obtain ⟨z1, hz1⟩ : ∃ y, y = sI (sA (sA (sA z 12 (nI (241 + S)) (nI k)) 10 (nI (241 + S)) 0) 11 (nI (241 + S)) 4) 17 (nI (k + 1)) := ⟨_, rfl⟩
  have f1 : Fr [17, 18] [8, 9, 10, 11, 12] z z1 := by
    rw [hz1]
    exact Fr_I (Fr_A (Fr_A (Fr_A (Fr_r _ _ z) (by decide) _ _) (by decide) _ _) (by decide) _ _) (by decide) _
  have a12 : z1.2.2.1 12 = upd (z.2.2.1 12) (241 + S) (nI k) := by
    rw [hz1]; show upd (z.2.2.1 12) (nI (241 + S)).toNatClampNeg (nI k) = _; rw [hcl]
  have a10 : z1.2.2.1 10 = upd (z.2.2.1 10) (241 + S) 0 := by
    rw [hz1]; show upd (z.2.2.1 10) (nI (241 + S)).toNatClampNeg 0 = _; rw [hcl]
  have a11 : z1.2.2.1 11 = upd (z.2.2.1 11) (241 + S) 4 := by
    rw [hz1]; show upd (z.2.2.1 11) (nI (241 + S)).toNatClampNeg 4 = _; rw [hcl]
  have a8 : z1.2.2.1 8 = z.2.2.1 8 := by rw [hz1]; rfl
  have a9 : z1.2.2.1 9 = z.2.2.1 9 := by rw [hz1]; rfl
  have t1 : Tx ch n zs z1 := by rw [hz1]; exact h
  have b17 : z1.1 17 = nI (k + 1) := by rw [hz1]; rfl
  have b18 : z1.1 18 = -1 := by rw [hz1]; exact h18
  have eM : mX10_readSign F z (nI (241 + S)) (pkc ch n k) = (if (if 65 ≤ pkc ch n k ∧ pkc ch n k ≤ 90 then (1 : Int32) else 0) = 0 then (if pkc ch n k = 114 then mX10_readSign_b75 F z1 (nI (241 + S)) (pkc ch n k) (nI (241 + S)) 2 else mX10_readSign_b75 F z1 (nI (241 + S)) (pkc ch n k) (nI (241 + S)) 1) else some (sA (sA z1 8 (nI (241 + S)) 0) 9 (nI (241 + S)) (pkc ch n k - 65))) := by
    unfold mX10_readSign mX10_readSign_b0
    simp only [nms, gds hv]
    rw [hz, (ltr _).2, b1s, hz1, show (sA (sA (sA z 12 (nI (241 + S)) (nI k)) 10 (nI (241 + S)) 0) 11 (nI (241 + S)) 4).1 17 = nI k from hz, nI_1]
  have eX : mX5_readSign F zr zs zh = (if (if 65 ≤ pkc ch n k ∧ pkc ch n k ≤ 90 then (1 : Int32) else 0) = 0 then (if (if 48 ≤ pkc ch n k ∧ pkc ch n k ≤ 54 then (1 : Int32) else 0) = 0 then (if pkc ch n k = 114 then mX5_readSign_b61 F zr zs zh (pkc ch n k) else b2 (mX5_failAt zr zs zh (nI k)) (fun r10 zr11 => bz r10 (some (r10, zr11, zh)))) else mX5_readSign_b61 F zr zs zh (pkc ch n k)) else b1 (mX2_addLetter zh (pkc ch n k - 65) (nI k)) (fun zg14 => some (1, sI zr 2 (nI (k + 1)), zg14))) := by
    unfold mX5_readSign mX5_readSign_b0
    rw [here_X h (by omega) hr, b1s, (ltr _).1, b1s, dgr, b1s, hr, nI_1]
    rfl
  rw [eM, eX]
  by_cases cl : 65 ≤ pkc ch n k ∧ pkc ch n k ≤ 90
  · -- a LETTER
    rw [if_pos cl, if_neg z01, if_neg z01]
    obtain ⟨j, j1, j2, ej⟩ := chN (a := 65) (b := 90) (by omega) (by omega) cl.1 cl.2
    have eq : pkc ch n k - 65 = nI (j - 65) := by rw [ej]; exact nI_sub (b := 65) j1
    rw [eq]
    obtain ⟨q, hq⟩ : ∃ q, q = j - 65 := ⟨_, rfl⟩
    rw [← hq]
    have hq26 : q < 26 := by omega
    obtain ⟨z2, hz2⟩ : ∃ y, y = sA (sA z1 8 (nI (241 + S)) 0) 9 (nI (241 + S)) (nI q) := ⟨_, rfl⟩
    rw [← hz2]
    have c8 : z2.2.2.1 8 = upd (z.2.2.1 8) (241 + S) 0 := by
      rw [hz2]; show upd (z1.2.2.1 8) (nI (241 + S)).toNatClampNeg 0 = _; rw [hcl, a8]
    have c9 : z2.2.2.1 9 = upd (z.2.2.1 9) (241 + S) (nI q) := by
      rw [hz2]; show upd (z1.2.2.1 9) (nI (241 + S)).toNatClampNeg (nI q) = _; rw [hcl, a9]
    have c10 : z2.2.2.1 10 = z1.2.2.1 10 := by rw [hz2]; rfl
    have c11 : z2.2.2.1 11 = z1.2.2.1 11 := by rw [hz2]; rfl
    have c12 : z2.2.2.1 12 = z1.2.2.1 12 := by rw [hz2]; rfl
    have hfr : ∀ i j, 8 ≤ i → i ≤ 12 → j ≠ 241 + S → z2.2.2.1 i j = z.2.2.1 i j := by
      intro i j h1 h2 h3
      rcases (show i = 8 ∨ i = 9 ∨ i = 10 ∨ i = 11 ∨ i = 12 by omega) with rfl | rfl | rfl | rfl | rfl
      · rw [c8, pk_un h3]
      · rw [c9, pk_un h3]
      · rw [c10, a10, pk_un h3]
      · rw [c11, a11, pk_un h3]
      · rw [c12, a12, pk_un h3]
    have f2 : Fr [17, 18] [8, 9, 10, 11, 12] z z2 := by rw [hz2]; exact Fr_A (Fr_A f1 (by decide) _ _) (by decide) _ _
    -- the class
    obtain ⟨zh1, hzh1⟩ : ∃ y, y = (if zh.2.2.1 3 q = -1 then sA zh 3 (nI q) (nI k) else zh) := ⟨_, rfl⟩
    have eL : mX2_addLetter zh (nI q) (nI k) = some (hS zh1 S A (nI q) (-1) 0 0) := by
      unfold mX2_addLetter mX2_addLetter_b0 mX2_addLetter_b17
      rw [gds (vp_in_nI hq26 (by omega)), nI_clamp (by omega)]
      by_cases c : zh.2.2.1 3 q = -1
      · rw [if_pos c] at hzh1
        rw [if_pos c, gds (vp_in_nI hq26 (by omega)), nms, addS_X hS1 hA (show (sA zh 3 (nI q) (nI k)).1 13 = nI S from hG.1) h12, b1s, hzh1]
      · rw [if_neg c] at hzh1
        rw [if_neg c, addS_X hS1 hA hG.1 h12, b1s, hzh1]
    have g1 : zh1.2.2.1 7 = zh.2.2.1 7 ∧ zh1.2.2.1 8 = zh.2.2.1 8 ∧ zh1.2.2.1 9 = zh.2.2.1 9 ∧ zh1.2.2.1 10 = zh.2.2.1 10 ∧ zh1.2.2.1 6 = zh.2.2.1 6 ∧ Fr [13] [3, 6, 7, 8, 9, 10] zh zh1 ∧ zh1.2.2.1 3 = (if zh.2.2.1 3 q = -1 then upd (zh.2.2.1 3) q (nI k) else zh.2.2.1 3) := by
      by_cases c : zh.2.2.1 3 q = -1
      · rw [if_pos c] at hzh1
        rw [hzh1, if_pos c]
        refine ⟨rfl, rfl, rfl, rfl, rfl, Fr_A (Fr_r _ _ zh) (by decide) _ _, ?_⟩
        show upd (zh.2.2.1 3) (nI q).toNatClampNeg (nI k) = _
        rw [nI_clamp (by omega)]
      · rw [if_neg c] at hzh1
        rw [hzh1, if_neg c]
        exact ⟨rfl, rfl, rfl, rfl, rfl, Fr_r _ _ zh, rfl⟩
    obtain ⟨d7, d8, d9, d10, d6, d3, d13, dF⟩ := hS_a (zh := zh1) hS1 hA (nI q) (-1) 0 0
    rw [eL, b1s]
    refine ⟨1, _, _, z2, rfl, rfl, f2, hfr, Or.inr ⟨rfl, ?_, k + 1, by omega, by omega, rfl, ?_, ?_, by rw [d6, g1.2.2.2.2.1], Fr_t g1.2.2.2.2.2.1 dF⟩⟩
    · rw [hz2]; exact b18
    · rw [hz2]; exact b17
    · refine SG_new hG hS1 (by omega) (by omega) d13 (by rw [d7, g1.1]) (by rw [d8, g1.2.1]) (by rw [d9, g1.2.2.1]) (by rw [d10, g1.2.2.2.1]) hfr ?_ (Or.inr ⟨q, hq26, rfl, by rw [d3, g1.2.2.2.2.2.2]⟩)
      refine Or.inl ⟨q, hq26, by rw [d7, pk_us], by rw [c8, pk_us], by rw [c9, pk_us], ?_⟩
      rw [c12, a12, pk_us, plU, if_pos rfl]
  rw [if_neg cl, if_pos rfl, if_pos rfl]
  -- what follows a NOTE's octave, or an r
  have tail : ∀ (zr2 z2 : OS) (k2 : Nat) (t0 kd wh dgX : Int32), Tx ch n zs z2 → k < k2 → k2 ≤ n → zr2.1 2 = nI k2 → z2.1 17 = nI k2 → z2.1 18 = -1 → z2.2.2.1 11 (241 + S) = nI 4 → Fr [17, 18] [8, 9, 10, 11, 12] z z2 → (∀ i j, 8 ≤ i → i ≤ 12 → j ≠ 241 + S → z2.2.2.1 i j = z.2.2.1 i j) → z2.2.2.1 8 (241 + S) = kd → z2.2.2.1 9 (241 + S) = wh → ((dgX = -1 ∧ kd = 2 ∧ pkc ch n k = 114) ∨ ∃ (d : Nat) (o : Int), d < 7 ∧ -2 ≤ o ∧ o ≤ 2 ∧ dgX = nI d ∧ kd = 1 ∧ wh = nI d ∧ t0 = Int32.ofInt o ∧ z2.2.2.1 10 (241 + S) = Int32.ofInt o ∧ ¬ pkc ch n k = 114 ∧ pkc ch n k - 48 = nI d) → ∃ (v : Int32) (zr' zh' z' : OS), mX5_readSign_b85 F zr2 zs zh (pkc ch n k) t0 = some (v, zr', zh') ∧ mX10_readSign_b170 F z2 (nI (241 + S)) = some z' ∧ Fr [17, 18] [8, 9, 10, 11, 12] z z' ∧ (∀ i j, 8 ≤ i → i ≤ 12 → j ≠ 241 + S → z'.2.2.1 i j = z.2.2.1 i j) ∧ ((v = 0 ∧ ∃ p, p ≤ n ∧ zr'.1 3 = nI p ∧ z'.1 18 = nI p) ∨ (v = 1 ∧ z'.1 18 = -1 ∧ ∃ k', k < k' ∧ k' ≤ n ∧ zr'.1 2 = nI k' ∧ z'.1 17 = nI k' ∧ SG zh' z' (S + 1) k' (plU pl S k) ∧ zh'.2.2.1 6 = upd (zh.2.2.1 6) A (nI (S + 1)) ∧ Fr [13] [3, 6, 7, 8, 9, 10] zh zh')) := by
    intro zr2 z2 k2 t0 kd wh dgX t2 hk2 hk3 r2 x17 x18 x11 xF xfr x8 x9 xk
    obtain ⟨v, zr', z', q1, q2, q3, q4, q5⟩ := len_b (zg := zh) t2 hF hk3 r2 x17 x18 hsi x11
    have yF : Fr [17, 18] [8, 9, 10, 11, 12] z2 z' := ⟨q3.1, q3.2.1, fun i hi => q3.2.2.1 i (fun e => hi ((by decide : ∀ i, i ∈ [11] → i ∈ [8, 9, 10, 11, 12]) i e)), q3.2.2.2⟩
    have yfr : ∀ i j, 8 ≤ i → i ≤ 12 → j ≠ 241 + S → z'.2.2.1 i j = z.2.2.1 i j := by
      intro i j h1 h2 h3
      rw [← xfr i j h1 h2 h3]
      by_cases c : i = 11
      · subst c; exact q4 j h3
      · rw [q3.2.2.1 i (by simp; omega)]
    unfold mX5_readSign_b85
    rw [q1, b2s]
    rcases q5 with ⟨e, p, p1, p2, p3⟩ | ⟨l, k', l1, l2, ev, l3, l4, l5, l6, l7, l8⟩
    · subst e
      rw [if_pos rfl]
      exact ⟨0, _, _, z', rfl, q2, Fr_t xF yF, yfr, Or.inl ⟨rfl, p, p1, p2, p3⟩⟩
    · subst ev
      rw [if_neg (nI_m1 (by omega))]
      have e116 : ∀ t1 : Int32, mX5_readSign_b116 F zr' zs zh t0 (nI l) t1 = some (1, zr', hS zh S A (-1) t1 t0 (nI l)) := by
        intro t1
        unfold mX5_readSign_b116 mX2_addSound mX2_addSound_b0
        rw [addS_X hS1 hA hG.1 h12, b1s, b1s]
      rw [e116, e116]
      have ec : (if pkc ch n k = 114 then some ((1 : Int32), zr', hS zh S A (-1) (-1) t0 (nI l)) else some (1, zr', hS zh S A (-1) (pkc ch n k - 48) t0 (nI l))) = some (1, zr', hS zh S A (-1) dgX t0 (nI l)) := by
        rcases xk with ⟨e1, -, e2⟩ | ⟨d, o, -, -, -, e1, -, -, -, -, e2, e3⟩
        · rw [if_pos e2, e1]
        · rw [if_neg e2, e3, e1]
      rw [ec]
      obtain ⟨d7, d8, d9, d10, d6, d3, d13, dF⟩ := hS_a (zh := zh) hS1 hA (-1) dgX t0 (nI l)
      refine ⟨1, _, _, z', rfl, q2, Fr_t xF yF, yfr, Or.inr ⟨rfl, l7, k', by omega, l4, l5, l6, ?_, d6, dF⟩⟩
      refine SG_new hG hS1 (by omega) (by omega) d13 d7 d8 d9 d10 yfr ?_ (Or.inl ⟨rfl, d3⟩)
      have w8 : z'.2.2.1 8 (241 + S) = kd := by rw [q3.2.2.1 8 (by decide)]; exact x8
      have w9 : z'.2.2.1 9 (241 + S) = wh := by rw [q3.2.2.1 9 (by decide)]; exact x9
      rcases xk with ⟨e1, e2, -⟩ | ⟨d, o, o1, o2, o3, e1, e2, e3, e4, e5, -, -⟩
      · exact Or.inr (Or.inr ⟨l, l1, l2, by rw [d7, pk_us], by rw [d8, pk_us, e1], by rw [d10, pk_us], by rw [w8, e2], l8⟩)
      · exact Or.inr (Or.inl ⟨d, l, o, o1, l1, l2, o2, o3, by rw [d7, pk_us], by rw [d8, pk_us, e1], by rw [d9, pk_us, e4], by rw [d10, pk_us], by rw [w8, e2], by rw [w9, e3], by rw [q3.2.2.1 10 (by decide)]; exact e5, l8⟩)
  -- the reference's kind and number
  have pre : ∀ kd : Int32, ∃ z2, (∀ a2, mX10_readSign_b75 F z1 (nI (241 + S)) (pkc ch n k) (nI (241 + S)) kd = a2 ↔ (if pkc ch n k = 114 then mX10_readSign_b170 F z2 (nI (241 + S)) else mX10_readSign_b104 F F z2 (nI (241 + S)) (pkc ch n (k + 1)) 0) = a2) ∧ Tx ch n zs z2 ∧ z2.1 17 = nI (k + 1) ∧ z2.1 18 = -1 ∧ z2.2.2.1 11 (241 + S) = nI 4 ∧ z2.2.2.1 10 = z1.2.2.1 10 ∧ Fr [17, 18] [8, 9, 10, 11, 12] z z2 ∧ (∀ i j, 8 ≤ i → i ≤ 12 → j ≠ 241 + S → z2.2.2.1 i j = z.2.2.1 i j) ∧ z2.2.2.1 8 (241 + S) = kd ∧ z2.2.2.1 9 (241 + S) = pkc ch n k - 48 := by
    intro kd
    obtain ⟨z2, hz2⟩ : ∃ y, y = sA (sA z1 8 (nI (241 + S)) kd) 9 (nI (241 + S)) (pkc ch n k - 48) := ⟨_, rfl⟩
    have c8 : z2.2.2.1 8 = upd (z.2.2.1 8) (241 + S) kd := by
      rw [hz2]; show upd (z1.2.2.1 8) (nI (241 + S)).toNatClampNeg kd = _; rw [hcl, a8]
    have c9 : z2.2.2.1 9 = upd (z.2.2.1 9) (241 + S) (pkc ch n k - 48) := by
      rw [hz2]; show upd (z1.2.2.1 9) (nI (241 + S)).toNatClampNeg _ = _; rw [hcl, a9]
    have c10 : z2.2.2.1 10 = z1.2.2.1 10 := by rw [hz2]; rfl
    have c11 : z2.2.2.1 11 = z1.2.2.1 11 := by rw [hz2]; rfl
    have c12 : z2.2.2.1 12 = z1.2.2.1 12 := by rw [hz2]; rfl
    have t2 : Tx ch n zs z2 := by rw [hz2]; exact t1
    have x17 : z2.1 17 = nI (k + 1) := by rw [hz2]; exact b17
    refine ⟨z2, fun a2 => ?_, t2, x17, by rw [hz2]; exact b18, by rw [c11, a11, pk_us]; rfl, c10, by rw [hz2]; exact Fr_A (Fr_A f1 (by decide) _ _) (by decide) _ _, ?_, by rw [c8, pk_us], by rw [c9, pk_us]⟩
    · have : mX10_readSign_b75 F z1 (nI (241 + S)) (pkc ch n k) (nI (241 + S)) kd = (if pkc ch n k = 114 then mX10_readSign_b170 F z2 (nI (241 + S)) else mX10_readSign_b104 F F z2 (nI (241 + S)) (pkc ch n (k + 1)) 0) := by
        unfold mX10_readSign_b75
        simp only [nms, gds hv]
        rw [← hz2, x17, peek_M t2 (by omega), b1s]
      rw [this]
    · intro i j h1 h2 h3
      rcases (show i = 8 ∨ i = 9 ∨ i = 10 ∨ i = 11 ∨ i = 12 by omega) with rfl | rfl | rfl | rfl | rfl
      · rw [c8, pk_un h3]
      · rw [c9, pk_un h3]
      · rw [c10, a10, pk_un h3]
      · rw [c11, a11, pk_un h3]
      · rw [c12, a12, pk_un h3]
  have e61 : mX5_readSign_b61 F zr zs zh (pkc ch n k) = (if pkc ch n k = 114 then mX5_readSign_b85 F (sI zr 2 (nI (k + 1))) zs zh (pkc ch n k) 0 else b2 (mX5_readOctave (sI zr 2 (nI (k + 1))) zs zh) (fun r3 zr4 => mX5_readSign_b85 F zr4 zs zh (pkc ch n k) r3)) := by
    unfold mX5_readSign_b61
    rw [hr, nI_1]
    rfl
  by_cases cr : pkc ch n k = 114
  · -- a REST
    have nd : ¬ (48 ≤ pkc ch n k ∧ pkc ch n k ≤ 54) := by rw [cr]; decide
    obtain ⟨z2, y1, y2, y3, y4, y5, y6, y7, y8, y9, y10⟩ := pre 2
    obtain ⟨v, zr', zh', z', w1, w2, w3⟩ := tail (sI zr 2 (nI (k + 1))) z2 (k + 1) 0 2 (pkc ch n k - 48) (-1) y2 (by omega) (by omega) rfl y3 y4 y5 y7 y8 y9 y10 (Or.inl ⟨rfl, rfl, cr⟩)
    rw [if_neg nd, if_pos rfl, if_pos cr, if_pos cr, e61, if_pos cr]
    exact ⟨v, zr', zh', z', w1, (y1 _).mpr (by rw [if_pos cr]; exact w2), w3⟩
  · -- a NOTE
    have hd : 48 ≤ pkc ch n k ∧ pkc ch n k ≤ 54 := by
      rcases hc with hc | hc | hc
      · exact absurd hc cl
      · exact hc
      · exact absurd hc cr
    obtain ⟨j, j1, j2, ej⟩ := chN (a := 48) (b := 54) (by omega) (by omega) hd.1 hd.2
    have eq : pkc ch n k - 48 = nI (j - 48) := by rw [ej]; exact nI_sub (b := 48) j1
    obtain ⟨z2, y1, y2, y3, y4, y5, y6, y7, y8, y9, y10⟩ := pre 1
    obtain ⟨o, k2, zr2, z3, o1, o2, o3, o4, o5, o6, o7, o8, o9, o10⟩ := oct_b (zr := sI zr 2 (nI (k + 1))) (zg := zh) (si := 241 + S) y2 hF (show k + 1 ≤ n by omega) rfl y3 hsi
    have fr3 : Fr [17, 18] [8, 9, 10, 11, 12] z2 z3 := ⟨fun i hi => o10.1 i (fun e => hi ((by decide : ∀ i, i ∈ [17] → i ∈ [17, 18]) i e)), o10.2.1, fun i hi => o10.2.2.1 i (fun e => hi ((by decide : ∀ i, i ∈ [10] → i ∈ [8, 9, 10, 11, 12]) i e)), o10.2.2.2⟩
    have t3 : Tx ch n zs z3 := by
      refine ⟨y2.1, y2.2.1, by rw [o10.1 2 (by decide)]; exact y2.2.2.1, fun i hi => ?_⟩
      rw [o10.2.2.1 1 (by decide)]
      exact y2.2.2.2 i hi
    obtain ⟨v, zr', zh', z', w1, w2, w3⟩ := tail zr2 z3 k2 (Int32.ofInt o) 1 (pkc ch n k - 48) (nI (j - 48)) t3 (by omega) o4 o6 o8 (by rw [o10.1 18 (by decide)]; exact y4) (by rw [o10.2.2.1 11 (by decide)]; exact y5) (Fr_t y7 fr3) (fun i j h1 h2 h3 => by
      by_cases c : i = 10
      · subst c; rw [o9, pk_un h3]; exact y8 10 j h1 h2 h3
      · rw [o10.2.2.1 i (by simp; omega)]; exact y8 i j h1 h2 h3) (by rw [o10.2.2.1 8 (by decide)]; exact y9) (by rw [o10.2.2.1 9 (by decide)]; exact y10) (Or.inr ⟨j - 48, o, by omega, o1, o2, rfl, rfl, eq, rfl, by rw [o9, pk_us], cr, eq⟩)
    rw [if_pos hd, if_neg z01, if_neg cr, e61, if_neg cr, o5, b2s]
    exact ⟨v, zr', zh', z', w1, (y1 _).mpr (by rw [if_neg cr, o7]; exact w2), w3⟩

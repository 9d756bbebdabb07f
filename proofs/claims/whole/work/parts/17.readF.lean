/-! read, sixth: the SIGNS of an ALTERNATIVE on both sides -/
def isS (c : Int32) : Bool := decide ((65 ≤ c ∧ c ≤ 90) ∨ (48 ≤ c ∧ c ≤ 54) ∨ c = 114)
theorem isS_t (c : Int32) : isS c = true ↔ (65 ≤ c ∧ c ≤ 90) ∨ (48 ≤ c ∧ c ≤ 54) ∨ c = 114 := decide_eq_true_iff
/-- a LETTER with = behind it -/
def isE (ch : Nat → Int32) (n k : Nat) : Bool := decide ((65 ≤ pkc ch n k ∧ pkc ch n k ≤ 90) ∧ pkc ch n (skc ch n (k + 1)) = 61)
theorem isE_t (ch : Nat → Int32) (n k : Nat) : isE ch n k = true ↔ (65 ≤ pkc ch n k ∧ pkc ch n k ≤ 90) ∧ pkc ch n (skc ch n (k + 1)) = 61 := decide_eq_true_iff
def sgN (F f : Nat) (z4 : OS) (a S : Nat) (c : Int32) : Option (Int32 × OS) := b1 (mX10_readSign F z4 (nI (241 + S)) c) (fun zx7 => mX10_readSigns_b10 F f (sA (sA zx7 7 (nI a) (zx7.2.2.1 7 a + 1)) 15 1 (zx7.2.2.1 15 1 + 1)) (nI a))
theorem sgM_step {ch : Nat → Int32} {n : Nat} {zs z : OS} {F f p k a i S : Nat} (ht : Tx ch n zs z) (hF : 1300 < F) (hp : p ≤ n) (hpk : skc ch n p = k) (h17 : z.1 17 = nI p) (h18 : z.1 18 = -1) (ha : a < 96) (hi : i ≤ 12) (hS : S ≤ 240) (h7 : z.2.2.1 7 a = nI i) (h15 : z.2.2.1 15 1 = nI S) : mX10_readSigns_b10 F (f + 1) z (nI a) = (if pkc ch n k = -1 ∧ 0 < i then some (2, sI z 17 (nI k)) else if pkc ch n k = 124 ∧ 0 < i then some (0, sI (sI z 17 (nI k)) 17 (nI (k + 1))) else if isE ch n k = true ∧ 0 < i then some (1, sI z 17 (nI k)) else if ¬ isS (pkc ch n k) = true ∨ i = 12 ∨ S = 240 then mX10_readSigns_b10 F f (sI (sI z 17 (nI k)) 18 (nI k)) (nI a) else sgN F f (sI z 17 (nI k)) a S (pkc ch n k)) := by
  have hn := ht.1
  have hks := skc_ok (ch := ch) hp
  rw [hpk] at hks
  have hv := vp_in_nI ha (show (96 : Nat) < 2 ^ 31 by omega)
  obtain ⟨z4, hz4⟩ : ∃ y, y = sI z 17 (nI k) := ⟨_, rfl⟩
  have t4 : Tx ch n zs z4 := by rw [hz4]; exact ht
  have b17 : z4.1 17 = nI k := by rw [hz4]; rfl
  have b18 : z4.1 18 = -1 := by rw [hz4]; exact h18
  have b7 : z4.2.2.1 7 a = nI i := by rw [hz4]; exact h7
  have b15 : z4.2.2.1 15 1 = nI S := by rw [hz4]; exact h15
  rw [← hz4]
  have e177 : mX10_readSigns_b177 F (mX10_readSigns_b10 F f) z4 (nI a) = mX10_readSigns_b10 F f (sI z4 18 (nI k)) (nI a) := by
    unfold mX10_readSigns_b177
    rw [b17, fail_M b18, b1s]
  have i0 : (nI i ≤ 0) ↔ ¬ 0 < i := by
    constructor
    · intro h hi
      exact nI_nle hi (by omega) h
    · intro h
      rw [show i = 0 by omega]
      decide
  -- a sign or a failing
  have e147 : ∀ t0 : Bool, mX10_readSigns_b147 F (mX10_readSigns_b10 F f) z4 (nI a) (pkc ch n k) (if t0 = true then 1 else 0) = if ¬ t0 = true ∨ i = 12 ∨ S = 240 then mX10_readSigns_b10 F f (sI z4 18 (nI k)) (nI a) else sgN F f z4 a S (pkc ch n k) := by
    intro t0
    unfold mX10_readSigns_b147
    rw [e177, gds hv, nI_clamp (by omega), b7, gds v12, k1, b15, gds v12, show (241 : Int32) + nI S = nI (241 + S) from nI_add 241 S]
    cases t0 with
    | false => rw [if_pos (by decide), if_pos (Or.inl (by decide))]
    | true =>
      rw [if_neg (by decide)]
      by_cases c1 : i = 12
      · rw [if_pos (by rw [c1]; rfl), if_pos (Or.inr (Or.inl c1))]
      · rw [if_neg (fun e : nI i = 12 => c1 ((nI_eq (b := 12) (by omega) (by omega)).mp e))]
        by_cases c2 : S = 240
        · rw [if_pos (by rw [c2]; rfl), if_pos (Or.inr (Or.inr c2))]
        · rw [if_neg (fun e : nI S = 240 => c2 ((nI_eq (b := 240) (by omega) (by omega)).mp e)), if_neg (fun e => e.elim (fun e => e rfl) (fun e => e.elim c1 c2))]
          unfold sgN
          simp only [nms, gds hv, gds v12, k1, nI_clamp (show a < 2 ^ 31 by omega)]
          rfl
  have e120 : mX10_readSigns_b120 F (mX10_readSigns_b10 F f) z4 (nI a) (pkc ch n k) (if 65 ≤ pkc ch n k ∧ pkc ch n k ≤ 90 then 1 else 0) = mX10_readSigns_b147 F (mX10_readSigns_b10 F f) z4 (nI a) (pkc ch n k) (if isS (pkc ch n k) = true then 1 else 0) := by
    unfold mX10_readSigns_b120 mX10_readSigns_b136
    by_cases c1 : 65 ≤ pkc ch n k ∧ pkc ch n k ≤ 90
    · rw [if_pos c1, if_neg z01, if_pos ((isS_t _).mpr (Or.inl c1))]
    · rw [if_neg c1, if_pos rfl]
      by_cases c2 : pkc ch n k < 48
      · rw [if_pos c2]
        by_cases c3 : pkc ch n k = 114
        · rw [if_pos c3, if_pos ((isS_t _).mpr (Or.inr (Or.inr c3)))]
        · rw [if_neg c3, if_neg (fun e => ((isS_t _).mp e).elim c1 (fun e => e.elim (fun e => Int32.not_le.mpr c2 e.1) c3))]
      · rw [if_neg c2]
        by_cases c4 : pkc ch n k ≤ 54
        · rw [if_pos c4, if_pos ((isS_t _).mpr (Or.inr (Or.inl ⟨Int32.not_lt.mp c2, c4⟩)))]
        · rw [if_neg c4]
          by_cases c3 : pkc ch n k = 114
          · rw [if_pos c3, if_pos ((isS_t _).mpr (Or.inr (Or.inr c3)))]
          · rw [if_neg c3, if_neg (fun e => ((isS_t _).mp e).elim c1 (fun e => e.elim (fun e => c4 e.2) c3))]
  have e81 : mX10_readSigns_b81 F (mX10_readSigns_b10 F f) z4 (nI a) (pkc ch n k) = if isE ch n k = true ∧ 0 < i then some (1, z4) else mX10_readSigns_b147 F (mX10_readSigns_b10 F f) z4 (nI a) (pkc ch n k) (if isS (pkc ch n k) = true then 1 else 0) := by
    unfold mX10_readSigns_b81
    rw [(ltr _).2, b1s, e120, gds hv, nI_clamp (by omega), b7, b17]
    by_cases c1 : 65 ≤ pkc ch n k ∧ pkc ch n k ≤ 90
    · have hkn : k < n := pkc_in (fun e => by rw [e] at c1; exact absurd c1 (by decide))
      have hk1 := skc_ok (ch := ch) (n := n) (k := k + 1) (by omega)
      rw [if_pos c1, if_neg z01]
      by_cases c2 : 0 < i
      · rw [if_neg (fun e => (i0.mp e) c2), nI_1, blanks_M t4 (by omega) (by omega), b1s, peek_M t4 (by omega), b1s]
        by_cases c3 : pkc ch n (skc ch n (k + 1)) = 61
        · rw [if_pos c3, if_pos ⟨(isE_t _ _ _).mpr ⟨c1, c3⟩, c2⟩]
        · rw [if_neg c3, if_neg (c := isE ch n k = true ∧ 0 < i) (fun e => c3 ((isE_t _ _ _).mp e.1).2)]
      · rw [if_pos (i0.mpr c2), if_neg (c := isE ch n k = true ∧ 0 < i) (fun e => c2 e.2)]
    · rw [if_neg c1, if_pos rfl, if_neg (c := isE ch n k = true ∧ 0 < i) (fun e => c1 ((isE_t _ _ _).mp e.1).1)]
  have e54 : mX10_readSigns_b54 F (mX10_readSigns_b10 F f) z4 (nI a) (pkc ch n k) = if pkc ch n k = 124 ∧ 0 < i then some (0, sI z4 17 (nI (k + 1))) else mX10_readSigns_b81 F (mX10_readSigns_b10 F f) z4 (nI a) (pkc ch n k) := by
    unfold mX10_readSigns_b54
    rw [gds hv, nI_clamp (by omega), b7, b17, nI_1]
    by_cases c1 : pkc ch n k = 124
    · rw [if_pos c1]
      by_cases c2 : 0 < i
      · rw [if_neg (fun e => (i0.mp e) c2), if_pos ⟨c1, c2⟩]
        rfl
      · rw [if_pos (i0.mpr c2), if_neg (fun e => c2 e.2)]
    · rw [if_neg c1, if_neg (fun e => c1 e.1)]
  rw [mX10_readSigns_b10, h18, if_neg (by decide), h17, blanks_M ht (by omega) hp, hpk, b1s, nms, ← hz4, b17, peek_M t4 (by omega), b1s, gds hv, nI_clamp (by omega), b7, e54, e81, e147]
  by_cases c1 : pkc ch n k = -1
  · rw [if_pos c1]
    by_cases c2 : 0 < i
    · rw [if_neg (fun e => (i0.mp e) c2), if_pos ⟨c1, c2⟩]
    · rw [if_pos (i0.mpr c2)]
      rw [if_neg (c := pkc ch n k = -1 ∧ 0 < i) (fun e => c2 e.2)]
  · rw [if_neg c1]
    rw [if_neg (c := pkc ch n k = -1 ∧ 0 < i) (fun e => c1 e.1)]
theorem sgM_end (F f : Nat) {z : OS} {p : Nat} (hp : p < 2 ^ 31) (h : z.1 18 = nI p) (a : Int32) : mX10_readSigns_b10 F (f + 1) z a = some (2, z) := by
  rw [mX10_readSigns_b10, h, if_pos (nI_pos' hp)]

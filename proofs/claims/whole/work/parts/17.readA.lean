/-! read, first: the text on both sides -/
def pkc (ch : Nat → Int32) (n k : Nat) : Int32 := if k < n then ch k else -1
def skB (ch : Nat → Int32) (n : Nat) : Nat → Nat → Nat
  | 0, k => k
  | d + 1, k => if pkc ch n k = 32 ∨ pkc ch n k = 10 then skB ch n d (k + 1) else k
def skc (ch : Nat → Int32) (n k : Nat) : Nat := skB ch n (n - k) k
def Tx (ch : Nat → Int32) (n : Nat) (zs z : OS) : Prop := n ≤ 1200 ∧ zs.1 1 = nI n ∧ z.1 2 = nI n ∧ ∀ j, j < n → zs.2.2.1 0 j = ch j ∧ z.2.2.1 1 j = ch j ∧ okc (ch j)
theorem pkc_ge {ch : Nat → Int32} {n k : Nat} (h : n ≤ k) : pkc ch n k = -1 := if_neg (by omega)
theorem pkc_lt {ch : Nat → Int32} {n k : Nat} (h : k < n) : pkc ch n k = ch k := if_pos h
theorem at_X {ch : Nat → Int32} {n : Nat} {zs z : OS} (h : Tx ch n zs z) {k : Nat} (hk : k < 2 ^ 31) : mX6_at zs (nI k) = some (pkc ch n k) := by
  obtain ⟨hn, h1, h2, h3⟩ := h
  unfold mX6_at mX6_at_b0
  rw [if_neg (nI_pos hk), h1]
  by_cases c : k < n
  · rw [if_neg (nI_ge c (by omega)), gds (vp_in_nI (show k < 1200 by omega) (by omega)), nI_clamp hk, (h3 k c).1, pkc_lt c]
  · rw [if_pos (nI_le (by omega) hk), pkc_ge (by omega)]
theorem here_X {ch : Nat → Int32} {n : Nat} {zs z : OS} (h : Tx ch n zs z) {zr zg : OS} {k : Nat} (hk : k < 2 ^ 31) (h2 : zr.1 2 = nI k) : mX5_here zr zs zg = some (pkc ch n k) := by
  have := at_X h hk
  unfold mX6_at mX6_at_b0 at this
  unfold mX5_here mX5_here_b0
  rw [h2]
  exact this
theorem peek_M {ch : Nat → Int32} {n : Nat} {zs z : OS} (h : Tx ch n zs z) {k : Nat} (hk : k < 2 ^ 31) : mX10_peek z (nI k) = some (pkc ch n k) := by
  obtain ⟨hn, h1, h2, h3⟩ := h
  unfold mX10_peek mX10_peek_b0
  rw [h2]
  by_cases c : k < n
  · rw [if_neg (nI_ge c (by omega)), gds (vp_in_nI (show k < 1200 by omega) (by omega)), nI_clamp hk, (h3 k c).2.1, pkc_lt c]
  · rw [if_pos (nI_le (by omega) hk), pkc_ge (by omega)]
theorem blk (c : Int32) : mX9_isBlank c = some (if c = 32 ∨ c = 10 then 1 else 0) := by
  unfold mX9_isBlank mX9_isBlank_b0
  by_cases h : c = 32
  · rw [if_pos h, if_pos (Or.inl h)]
  · rw [if_neg h]
    by_cases h2 : c = 10
    · rw [if_pos h2, if_pos (Or.inr h2)]
    · rw [if_neg h2, if_neg (fun e => e.elim h h2)]
theorem skip_l {ch : Nat → Int32} {n : Nat} {zs z : OS} (h : Tx ch n zs z) (F : Nat) : ∀ (d k f : Nat), k + d = n → d < f → mX6_skipBlanks_b2 F f zs (nI k) = some (nI (skB ch n d k)) := by
  intro d
  induction d with
  | zero =>
    intro k f hk hf
    obtain ⟨f, rfl⟩ : ∃ g, f = g + 1 := ⟨f - 1, by omega⟩
    rw [mX6_skipBlanks_b2, h.2.1, if_pos (nI_le (by omega) (by have := h.1; omega))]
    rfl
  | succ d ih =>
    intro k f hk hf
    have hn := h.1
    obtain ⟨f, rfl⟩ : ∃ g, f = g + 1 := ⟨f - 1, by omega⟩
    rw [mX6_skipBlanks_b2, h.2.1, if_neg (nI_ge (by omega) (by omega)), at_X h (by omega), b1s, blk, b1s]
    unfold skB
    by_cases c : pkc ch n k = 32 ∨ pkc ch n k = 10
    · rw [if_pos c, if_pos c, if_neg z01, nms, nI_1, ih (k + 1) f (by omega) (by omega)]
    · rw [if_neg c, if_neg c, if_pos rfl]
theorem skip_X {ch : Nat → Int32} {n : Nat} {zs z : OS} (h : Tx ch n zs z) {F k : Nat} (hF : 1200 < F) (hk : k ≤ n) : mX6_skipBlanks F zs (nI k) = some (nI (skc ch n k)) :=
  skip_l h F (n - k) k F (by omega) (by have := h.1; omega)
theorem blanks_l {ch : Nat → Int32} {n : Nat} {zs z : OS} (h : Tx ch n zs z) (F : Nat) : ∀ (d k f : Nat), k + d = n → d < f → mX10_blanks_b2 F f z (nI k) = some (nI (skB ch n d k)) := by
  intro d
  induction d with
  | zero =>
    intro k f hk hf
    have hn := h.1
    obtain ⟨f, rfl⟩ : ∃ g, f = g + 1 := ⟨f - 1, by omega⟩
    rw [mX10_blanks_b2, peek_M h (by omega), b1s, b1s, pkc_ge (by omega), if_neg (by decide), if_neg (by decide)]
    rfl
  | succ d ih =>
    intro k f hk hf
    have hn := h.1
    obtain ⟨f, rfl⟩ : ∃ g, f = g + 1 := ⟨f - 1, by omega⟩
    rw [mX10_blanks_b2, peek_M h (by omega), b1s, b1s]
    unfold skB
    by_cases c : pkc ch n k = 32
    · rw [if_pos c, if_pos (Or.inl c), nms, nI_1, ih (k + 1) f (by omega) (by omega)]
    · rw [if_neg c]
      by_cases c2 : pkc ch n k = 10
      · rw [if_pos c2, if_pos (Or.inr c2), nms, nI_1, ih (k + 1) f (by omega) (by omega)]
      · rw [if_neg c2, if_neg (fun e => e.elim c c2)]
theorem blanks_M {ch : Nat → Int32} {n : Nat} {zs z : OS} (h : Tx ch n zs z) {F k : Nat} (hF : 1200 < F) (hk : k ≤ n) : mX10_blanks F z (nI k) = some (nI (skc ch n k)) :=
  blanks_l h F (n - k) k F (by omega) (by have := h.1; omega)
theorem skB_ok (ch : Nat → Int32) (n : Nat) : ∀ d k, k + d = n → k ≤ skB ch n d k ∧ skB ch n d k ≤ n ∧ ¬ (pkc ch n (skB ch n d k) = 32 ∨ pkc ch n (skB ch n d k) = 10) := by
  intro d
  induction d with
  | zero =>
    intro k hk
    refine ⟨Nat.le_refl k, by unfold skB; omega, ?_⟩
    unfold skB
    rw [pkc_ge (by omega)]
    decide
  | succ d ih =>
    intro k hk
    unfold skB
    by_cases c : pkc ch n k = 32 ∨ pkc ch n k = 10
    · rw [if_pos c]
      have := ih (k + 1) (by omega)
      exact ⟨by omega, this.2.1, this.2.2⟩
    · rw [if_neg c]
      exact ⟨Nat.le_refl k, by omega, c⟩
theorem skc_ok {ch : Nat → Int32} {n k : Nat} (hk : k ≤ n) : k ≤ skc ch n k ∧ skc ch n k ≤ n ∧ ¬ (pkc ch n (skc ch n k) = 32 ∨ pkc ch n (skc ch n k) = 10) := skB_ok ch n (n - k) k (by omega)
theorem skc_id {ch : Nat → Int32} {n k : Nat} (h : ¬ (pkc ch n k = 32 ∨ pkc ch n k = 10)) : skc ch n k = k := by
  unfold skc
  cases hd : n - k with
  | zero => rfl
  | succ d => unfold skB; rw [if_neg h]
theorem dig (c : Int32) : mX9_isDigit c = some (if 48 ≤ c ∧ c ≤ 57 then 1 else 0) ∧ mX10_isDigit c = some (if 48 ≤ c ∧ c ≤ 57 then 1 else 0) := by
  unfold mX9_isDigit mX9_isDigit_b0 mX10_isDigit mX10_isDigit_b0
  by_cases h1 : c < 48
  · rw [if_pos h1, if_neg (fun z => Int32.not_le.mpr h1 z.1)]; exact ⟨rfl, rfl⟩
  · rw [if_neg h1]
    by_cases h2 : 57 < c
    · rw [if_pos h2, if_neg (fun z => Int32.not_le.mpr h2 z.2)]; exact ⟨rfl, rfl⟩
    · rw [if_neg h2, if_pos ⟨Int32.not_lt.mp h1, Int32.not_lt.mp h2⟩]; exact ⟨rfl, rfl⟩
theorem ltr (c : Int32) : mX9_isLetter c = some (if 65 ≤ c ∧ c ≤ 90 then 1 else 0) ∧ mX10_isLetter c = some (if 65 ≤ c ∧ c ≤ 90 then 1 else 0) := by
  unfold mX9_isLetter mX9_isLetter_b0 mX10_isLetter mX10_isLetter_b0
  by_cases h1 : c < 65
  · rw [if_pos h1, if_neg (fun z => Int32.not_le.mpr h1 z.1)]; exact ⟨rfl, rfl⟩
  · rw [if_neg h1]
    by_cases h2 : 90 < c
    · rw [if_pos h2, if_neg (fun z => Int32.not_le.mpr h2 z.2)]; exact ⟨rfl, rfl⟩
    · rw [if_neg h2, if_pos ⟨Int32.not_lt.mp h1, Int32.not_lt.mp h2⟩]; exact ⟨rfl, rfl⟩
theorem dgr (c : Int32) : mX9_isDegree c = some (if 48 ≤ c ∧ c ≤ 54 then 1 else 0) := by
  unfold mX9_isDegree mX9_isDegree_b0
  by_cases h1 : c < 48
  · rw [if_pos h1, if_neg (fun z => Int32.not_le.mpr h1 z.1)]
  · rw [if_neg h1]
    by_cases h2 : 54 < c
    · rw [if_pos h2, if_neg (fun z => Int32.not_le.mpr h2 z.2)]
    · rw [if_neg h2, if_pos ⟨Int32.not_lt.mp h1, Int32.not_lt.mp h2⟩]
/-- a character between two bounds, as a number -/
theorem chN {c : Int32} {a b : Nat} (hb : b < 1000) (ha : a < 1000) (h1 : nI a ≤ c) (h2 : c ≤ nI b) : ∃ k, a ≤ k ∧ k ≤ b ∧ c = nI k := by
  obtain ⟨k, hk, rfl⟩ := le_nI (n := b) (by omega) (Int32.le_trans (nI_pos' (n := a) (by omega)) h1) h2
  exact ⟨k, (nI_leI (by omega) (by omega)).mp h1, hk, rfl⟩
theorem pkc_in {ch : Nat → Int32} {n k : Nat} (h : ¬ pkc ch n k = -1) : k < n := by
  by_cases c : k < n
  · exact c
  · exact absurd (pkc_ge (by omega)) h
/-- the reference's fault: the first one stays -/
theorem fail_M {z : OS} (h : z.1 18 = -1) (v : Int32) : mX10_fail z v = some (sI z 18 v) := by
  unfold mX10_fail mX10_fail_b0
  rw [h, if_neg (by decide)]
  rfl
theorem fail_S {z : OS} {k : Nat} (h : z.1 18 = nI k) (hk : k < 2 ^ 31) (v : Int32) : mX10_fail z v = some z := by
  unfold mX10_fail mX10_fail_b0
  rw [h, if_pos (nI_pos' hk), nms, ← h, sI_eta]
def loB (k : Nat) : Nat := if k < 5 then 26 else if k < 8 then 48 else if k < 13 then 241 else 1
/-- what reading leaves as it was: all but its own place and fault, and the upper halves -/
def Lw (z0 z : OS) : Prop := (∀ k, k ≠ 17 → k ≠ 18 → z.1 k = z0.1 k) ∧ z.2.1 = z0.2.1 ∧ (∀ k j, (¬ (3 ≤ k ∧ k ≤ 16) ∨ j < loB k) → z.2.2.1 k j = z0.2.2.1 k j) ∧ z.2.2.2 = z0.2.2.2
theorem Lw_r (z : OS) : Lw z z := ⟨fun _ _ _ => rfl, rfl, fun _ _ _ => rfl, rfl⟩
theorem Lw_I {z0 z : OS} (h : Lw z0 z) {k : Nat} (hk : k = 17 ∨ k = 18) (v : Int32) : Lw z0 (sI z k v) := by
  refine ⟨fun j h1 h2 => ?_, h.2.1, h.2.2.1, h.2.2.2⟩
  show va_up z.1 k v j = _
  rw [va_up_ne _ _ (by omega)]
  exact h.1 j h1 h2
theorem Lw_A {z0 z : OS} (h : Lw z0 z) {k i : Nat} (hk : 3 ≤ k ∧ k ≤ 16) (hi : loB k ≤ i) (hi2 : i < 2 ^ 31) (v : Int32) : Lw z0 (sA z k (nI i) v) := by
  refine ⟨h.1, h.2.1, fun k' j hj => ?_, h.2.2.2⟩
  by_cases c : k' = k
  · subst c
    show va_up z.2.2.1 k' (upd (z.2.2.1 k') (nI i).toNatClampNeg v) k' j = _
    rw [va_up_self, nI_clamp hi2]
    rcases hj with hj | hj
    · exact absurd hk hj
    · rw [pk_un (by omega)]
      exact h.2.2.1 k' j (Or.inr hj)
  · show va_up z.2.2.1 k (upd (z.2.2.1 k) (nI i).toNatClampNeg v) k' j = _
    rw [va_up_ne _ _ c]
    exact h.2.2.1 k' j hj
theorem Tx_L {ch : Nat → Int32} {n : Nat} {zs z0 z : OS} (h : Tx ch n zs z0) (hL : Lw z0 z) : Tx ch n zs z := by
  refine ⟨h.1, h.2.1, by rw [hL.1 2 (by decide) (by decide)]; exact h.2.2.1, fun j hj => ?_⟩
  rw [hL.2.2.1 1 j (Or.inl (by omega))]
  exact h.2.2.2 j hj

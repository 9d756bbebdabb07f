/-! the relation between the class's numbers and the reference's, and the easy calls -/
theorem iw (a l g : Int32) : mX9_isWithin a l g = some (if l ≤ a ∧ a ≤ g then 1 else 0) := by
  unfold mX9_isWithin mX9_isWithin_b0
  by_cases h1 : a < l
  · rw [if_pos h1, if_neg (fun z => Int32.not_le.mpr h1 z.1)]
  · rw [if_neg h1]
    by_cases h2 : g < a
    · rw [if_pos h2, if_neg (fun z => Int32.not_le.mpr h2 z.2)]
    · rw [if_neg h2, if_pos ⟨Int32.not_lt.mp h1, Int32.not_lt.mp h2⟩]
theorem b1s {α γ : Type} (a : α) (k : α → Option γ) : b1 (some a) k = k a := rfl
theorem b2s {α β γ : Type} (a : α) (b : β) (k : α → β → Option γ) : b2 (some (a, b)) k = k a b := rfl
theorem b3s {α β δ γ : Type} (a : α) (b : β) (c : δ) (k : α → β → δ → Option γ) : b3 (some (a, b, c)) k = k a b c := rfl
theorem nms {α β : Type} (e : α) (k : α → β) : nm e k = k e := rfl
theorem gds {α : Type} {i : Int32} {n : Nat} (h : vp_in i n) (k : Option α) : gd i n k = k := if_neg h
theorem nzs {α : Type} {y : Int32} (h : ¬ y = 0) (k : Option α) : nz y k = k := if_neg h
theorem nzls {α : Type} {y : Int64} (h : ¬ y = 0) (k : Option α) : nzl y k = k := if_neg h
theorem z01 : ¬ (1 : Int32) = 0 := by decide
/-- texts -/
def okc (c : Int32) : Prop := c = 10 ∨ (32 ≤ c ∧ c ≤ 126)
def RT (zs zx : OS) : Prop := ∃ n, n ≤ 1200 ∧ zs.1 1 = nI n ∧ zx.1 2 = nI n ∧ ∀ j, j < n → zs.2.2.1 0 j = zx.2.2.1 1 j ∧ okc (zx.2.2.1 1 j)
def RW (zt zx : OS) : Prop := ∀ j, j < 7 → zt.2.2.1 3 j = zx.2.2.1 19 j ∧ stLo j ≤ zx.2.2.1 19 j ∧ zx.2.2.1 19 j ≤ stHi j
def RU (zu zx : OS) : Prop := ∃ n, n ≤ 256 ∧ zu.1 6 = nI n ∧ zx.1 24 = nI n ∧ ∀ j, j < n → zu.2.2.1 0 j = zx.2.2.1 20 j ∧ zu.2.2.1 1 j = zx.2.2.1 21 j ∧ zu.2.2.1 2 j = zx.2.2.1 22 j ∧ zu.2.2.1 3 j = zx.2.2.1 23 j
def RC (zc zx : OS) : Prop := (∃ n, n ≤ 300 ∧ zc.1 3 = nI n ∧ zx.1 49 = nI n ∧ ∀ j, j < n → zc.2.2.1 0 j = zx.2.2.1 48 j) ∧ (∃ n, n ≤ 203 ∧ zc.1 4 = nI n ∧ zx.1 51 = nI n ∧ ∀ j, j < n → zc.2.2.1 1 j = zx.2.2.1 50 j)
def RR (zw zx : OS) : Prop := ∃ f : Nat → Nat, (∀ j, j < 12 → f j < 12 ∧ zw.2.2.1 0 j = nI (f j) ∧ zx.2.2.1 52 j = nI (f j)) ∧ (∀ i j, i < 12 → j < 12 → f i = f j → i = j) ∧ ∀ v, v < 12 → ∃ k, k < 12 ∧ f k = v
def sumW (wt : Nat → Nat) (a : Nat) : Nat → Nat
  | 0 => 0
  | n + 1 => sumW wt a n + wt (a + n)
/-- a sign: a letter, a note or a rest -/
def RS (al : Nat → Nat) (zg zx : OS) (s : Nat) : Prop :=
  (∃ q, q < 26 ∧ 0 < al q ∧ zg.2.2.1 7 s = nI q ∧ zx.2.2.1 8 s = 0 ∧ zx.2.2.1 9 s = nI q) ∨
  (∃ (d t : Nat) (o : Int), d < 7 ∧ 1 ≤ t ∧ t ≤ 16 ∧ -2 ≤ o ∧ o ≤ 2 ∧ zg.2.2.1 7 s = -1 ∧ zg.2.2.1 8 s = nI d ∧ zg.2.2.1 9 s = Int32.ofInt o ∧ zg.2.2.1 10 s = nI t ∧ zx.2.2.1 8 s = 1 ∧ zx.2.2.1 9 s = nI d ∧ zx.2.2.1 10 s = Int32.ofInt o ∧ zx.2.2.1 11 s = nI t) ∨
  (∃ t : Nat, 1 ≤ t ∧ t ≤ 16 ∧ zg.2.2.1 7 s = -1 ∧ zg.2.2.1 8 s = -1 ∧ zg.2.2.1 10 s = nI t ∧ zx.2.2.1 8 s = 2 ∧ zx.2.2.1 11 s = nI t)
def RG (zg zx : OS) : Prop := ∃ (R A S : Nat) (fa al wt fs sc : Nat → Nat), R ≤ 16 ∧ A ≤ 48 ∧ S ≤ 240 ∧ zg.1 11 = nI R ∧ zx.2.2.1 13 0 = nI R ∧ zg.1 12 = nI A ∧ zx.2.2.1 14 0 = nI A ∧ zg.1 13 = nI S ∧ zx.2.2.1 15 0 = nI S ∧
  (∀ q, q < 26 → al q ≤ 48 ∧ zg.2.2.1 1 q = nI (al q) ∧ zx.2.2.1 4 q = nI (al q) ∧ zg.2.2.1 2 q = nI (sumW wt (fa q) (al q)) ∧ (0 < al q → zg.2.2.1 0 q = nI (fa q) ∧ zx.2.2.1 3 q = nI (fa q) ∧ fa q + al q ≤ A)) ∧
  (∀ a, a < A → 1 ≤ wt a ∧ wt a ≤ 999 ∧ 1 ≤ sc a ∧ sc a ≤ 12 ∧ fs a + sc a ≤ S ∧ zg.2.2.1 4 a = nI (wt a) ∧ zx.2.2.1 5 a = nI (wt a) ∧ zg.2.2.1 5 a = nI (fs a) ∧ zx.2.2.1 6 a = nI (fs a) ∧ zg.2.2.1 6 a = nI (fs a + sc a) ∧ zx.2.2.1 7 a = nI (sc a)) ∧
  (∀ s, s < S → RS al zg zx s) ∧
  (0 < R → ∃ q, q < 26 ∧ 0 < al q ∧ zg.1 14 = nI q ∧ zx.2.2.1 16 0 = nI q) ∧ (R = 0 → ∀ q, q < 26 → al q = 0)
def RD (zx : OS) : Prop := ∀ j, j < 7 → 60 + zx.2.2.1 0 j = stPi j
def Rel (zt zs zg zh zu zl zc zw zx : OS) : Prop := RT zs zx ∧ RW zt zx ∧ RU zu zx ∧ RC zc zx ∧ RR zw zx ∧ RG zg zx ∧ zt.1 6 = zx.1 25 ∧ RD zx
theorem le_nI {x : Int32} {n : Nat} (hn : n < 2 ^ 31) (h0 : 0 ≤ x) (h : x ≤ nI n) : ∃ j, j ≤ n ∧ x = nI j := by
  obtain ⟨j, hj, rfl⟩ := nI_of (Int32.not_lt.mpr h0)
  exact ⟨j, (nI_leI hj hn).mp h, rfl⟩
theorem lt_nI {x : Int32} {n : Nat} (hn : n < 2 ^ 31) (h0 : 0 ≤ x) (h : x < nI n) : ∃ j, j < n ∧ x = nI j := by
  obtain ⟨j, hj, rfl⟩ := nI_of (Int32.not_lt.mpr h0)
  exact ⟨j, (nI_ltI hj hn).mp h, rfl⟩
theorem nI_pr {n : Nat} (hn : n < 2 ^ 31) (x : Int32) : (0 ≤ x ∧ x ≤ nI n - 1) ↔ ∃ j, j < n ∧ x = nI j := by
  cases n with
  | zero =>
    constructor
    · rintro ⟨h0, h1⟩
      have e : nI 0 - 1 = -1 := by decide
      rw [e] at h1
      have := Int32.le_iff_toInt_le.mp h0
      have := Int32.le_iff_toInt_le.mp h1
      have e0 : (0 : Int32).toInt = 0 := by decide
      have e1 : (-1 : Int32).toInt = -1 := by decide
      omega
    · rintro ⟨j, hj, -⟩
      omega
  | succ n =>
    rw [nI_pred]
    constructor
    · rintro ⟨h0, h1⟩
      obtain ⟨j, hj, rfl⟩ := le_nI (by omega) h0 h1
      exact ⟨j, by omega, rfl⟩
    · rintro ⟨j, hj, rfl⟩
      exact ⟨nI_pos' (by omega), nI_le (by omega) (by omega)⟩
theorem ge_lit {y : Int32} {b t : Nat} (hy : y = nI b) (h : t < b) (hb : b < 2 ^ 31) : ¬ y ≤ nI t := by rw [hy]; exact nI_ge h hb
theorem le_litA {y : Int32} {a t : Nat} (hy : y = nI a) (h : a ≤ t) (hb : t < 2 ^ 31) : y ≤ nI t := by rw [hy]; exact nI_le h hb
theorem le_litB {y : Int32} {b t : Nat} (hy : y = nI b) (h : t ≤ b) (hb : b < 2 ^ 31) : nI t ≤ y := by rw [hy]; exact nI_le h hb
theorem R_cut {zt zs zg zh zu zl zc zw zx : OS} (h : Rel zt zs zg zh zu zl zc zw zx) (p0 : Int32) : ∃ (F1 F2 : Nat) (r : Int32) (zs' : OS) (zx' : OS), mX9_cut zt zs zg zh zu zl zc zw p0 = some (r, zs') ∧ mX10_cut zx p0 = some (r, zx') ∧ Rel zt zs' zg zh zu zl zc zw zx' := by
  obtain ⟨⟨n, hn, e1, e2, hj⟩, hW, hU, hC, hR, hG, hT⟩ := h
  unfold mX9_cut mX9_cut_b0 mX6_shorten mX6_shorten_b0 mX10_cut mX10_cut_b0
  rw [iw, e1, e2]
  by_cases c : 0 ≤ p0 ∧ p0 ≤ nI n
  · refine ⟨0, 0, nI n - p0, sI zs 1 p0, sI zx 2 p0, ?_, ?_, ?_, hW, hU, hC, hR, hG, hT⟩
    · rw [if_pos c, b1s, if_neg z01]
      rfl
    · rw [if_neg (Int32.not_lt.mpr c.1), if_pos c.2]
      rfl
    · obtain ⟨j, hj2, rfl⟩ := le_nI (by omega) c.1 c.2
      exact ⟨j, by omega, rfl, rfl, fun i hi => hj i (by omega)⟩
  · refine ⟨0, 0, -2, zs, zx, ?_, ?_, ⟨n, hn, e1, e2, hj⟩, hW, hU, hC, hR, hG, hT⟩
    · rw [if_neg c, b1s, if_pos rfl]
      rfl
    · by_cases c1 : p0 < 0
      · rw [if_pos c1]
      · rw [if_neg c1, if_neg (fun z => c ⟨Int32.not_lt.mp c1, z⟩)]
theorem R_tries {zt zs zg zh zu zl zc zw zx : OS} (h : Rel zt zs zg zh zu zl zc zw zx)  : ∃ (F1 F2 : Nat) (r : Int32), mX9_tries zt zs zg zh zu zl zc zw  = some r ∧ mX10_tries zx  = some r ∧ Rel zt zs zg zh zu zl zc zw zx :=
  ⟨0, 0, zx.1 25, congrArg some h.2.2.2.2.2.2.1, rfl, h⟩
theorem R_steps {zt zs zg zh zu zl zc zw zx : OS} (h : Rel zt zs zg zh zu zl zc zw zx)  : ∃ (F1 F2 : Nat) (r : Int32), mX9_steps zt zs zg zh zu zl zc zw  = some r ∧ mX10_steps zx  = some r ∧ Rel zt zs zg zh zu zl zc zw zx := by
  obtain ⟨n, hn, e1, e2, -⟩ := h.2.2.2.1.2
  exact ⟨0, 0, nI n, congrArg some e1, congrArg some e2, h⟩
theorem R_told {zt zs zg zh zu zl zc zw zx : OS} (h : Rel zt zs zg zh zu zl zc zw zx) (p0 : Int32) : ∃ (F1 F2 : Nat) (r : Int32), mX9_told zt zs zg zh zu zl zc zw p0 = some r ∧ mX10_told zx p0 = some r ∧ Rel zt zs zg zh zu zl zc zw zx := by
  have hh := h
  obtain ⟨⟨n, hn, e1, e2, -⟩, hW, ⟨u, hu, u1, u2, -⟩, ⟨⟨q, hq, q1, q2, -⟩, -⟩, hR, ⟨R, A, S, fa, al, wt, fs, sc, -, -, -, g1, g2, g3, g4, g5, g6, -⟩, hT⟩ := h
  have v0 : vp_in 0 2 := by unfold vp_in; decide
  have c0 : (0 : Int32).toNatClampNeg = 0 := by decide
  unfold mX9_told mX9_told_b0 mX10_told mX10_told_b0
  rw [gds v0, gds v0, gds v0, c0, e1, e2, u1, u2, q1, q2, g1, g2, g3, g4, g5, g6]
  by_cases h0 : p0 = 0
  · subst h0; exact ⟨0, 0, _, rfl, rfl, hh⟩
  by_cases h1 : p0 = 1
  · subst h1; exact ⟨0, 0, _, rfl, rfl, hh⟩
  by_cases h2 : p0 = 2
  · subst h2; exact ⟨0, 0, _, rfl, rfl, hh⟩
  by_cases h3 : p0 = 3
  · subst h3; exact ⟨0, 0, _, rfl, rfl, hh⟩
  by_cases h4 : p0 = 4
  · subst h4; exact ⟨0, 0, _, rfl, rfl, hh⟩
  by_cases h5 : p0 = 5
  · subst h5; exact ⟨0, 0, _, rfl, rfl, hh⟩
  refine ⟨0, 0, -2, by rw [if_neg h0, if_neg h1, if_neg h2, if_neg h3, if_neg h4, if_neg h5], ?_, hh⟩
  by_cases c1 : p0 < 0
  · rw [if_pos c1]
  · rw [if_neg c1]
    by_cases c2 : p0 ≤ 5
    · exfalso
      obtain ⟨j, hj, rfl⟩ := le_nI (n := 5) (by omega) (Int32.not_lt.mp c1) c2
      rcases (show j = 0 ∨ j = 1 ∨ j = 2 ∨ j = 3 ∨ j = 4 ∨ j = 5 by omega) with rfl | rfl | rfl | rfl | rfl | rfl
      · exact h0 rfl
      · exact h1 rfl
      · exact h2 rfl
      · exact h3 rfl
      · exact h4 rfl
      · exact h5 rfl
    · rw [if_neg c2]
theorem R_corpus {zt zs zg zh zu zl zc zw zx : OS} (h : Rel zt zs zg zh zu zl zc zw zx) (p0 : Int32) : ∃ (F1 F2 : Nat) (r : Int32) (zc' : OS) (zx' : OS), mX9_corpus zt zs zg zh zu zl zc zw p0 = some (r, zc') ∧ mX10_corpus zx p0 = some (r, zx') ∧ Rel zt zs zg zh zu zl zc' zw zx' := by
  obtain ⟨hX, hW, hU, ⟨⟨n, hn, e1, e2, hj⟩, hC2⟩, hR, hG, hT⟩ := h
  unfold mX9_corpus mX9_corpus_b0 mX0_add mX0_add_b0 mX10_corpus mX10_corpus_b0
  rw [e1, e2]
  by_cases c : n = 300
  · subst c
    refine ⟨0, 0, -4, zc, zx, ?_, ?_, hX, hW, hU, ⟨⟨300, hn, e1, e2, hj⟩, hC2⟩, hR, hG, hT⟩
    · rw [if_neg (by decide)]
      rfl
    · rw [if_pos (by decide)]
  · have hlt : n < 300 := by omega
    refine ⟨0, 0, nI (n + 1), sI (sA zc 0 (nI n) p0) 3 (nI (n + 1)), sI (sA zx 48 (nI n) p0) 49 (nI (n + 1)), ?_, ?_, hX, hW, hU, ⟨⟨n + 1, by omega, rfl, rfl, ?_⟩, hC2⟩, hR, hG, hT⟩
    · rw [if_pos (show nI n < 300 from nI_lt (b := 300) hlt (by omega)), gds (vp_in_nI hlt (by omega))]
      show some _ = _
      simp only [nms]
      rw [show (sA zc 0 (nI n) p0).1 3 = nI n from e1, nI_1]
      rfl
    · rw [if_neg (fun z : nI n = 300 => c ((nI_eq (b := 300) (by omega) (by omega)).mp z)), gds (vp_in_nI hlt (by omega))]
      simp only [nms]
      rw [show (sA zx 48 (nI n) p0).1 49 = nI n from e2, nI_1]
      rfl
    · intro j hj2
      show upd (zc.2.2.1 0) (nI n).toNatClampNeg p0 j = upd (zx.2.2.1 48) (nI n).toNatClampNeg p0 j
      rw [nI_clamp (by omega)]
      by_cases e : j = n
      · subst e; rw [pk_us, pk_us]
      · rw [pk_un e, pk_un e]; exact hj j (by omega)
theorem R_forget {zt zs zg zh zu zl zc zw zx : OS} (h : Rel zt zs zg zh zu zl zc zw zx)  : ∃ (F1 F2 : Nat) (r : Int32) (zc' : OS) (zx' : OS), mX9_forget zt zs zg zh zu zl zc zw  = some (r, zc') ∧ mX10_forget zx  = some (r, zx') ∧ Rel zt zs zg zh zu zl zc' zw zx' := by
  obtain ⟨hX, hW, hU, ⟨⟨n, hn, e1, e2, hj⟩, hC2⟩, hR, hG, hT⟩ := h
  refine ⟨0, 0, nI n, sI zc 3 0, sI zx 49 0, ?_, ?_, hX, hW, hU, ⟨⟨0, by omega, rfl, rfl, fun j hj => absurd hj (Nat.not_lt_zero j)⟩, hC2⟩, hR, hG, hT⟩
  · rw [← e1]; rfl
  · rw [← e2]; rfl
theorem R_step {zt zs zg zh zu zl zc zw zx : OS} (h : Rel zt zs zg zh zu zl zc zw zx) (p0 : Int32) : ∃ (F1 F2 : Nat) (r : Int32), mX9_step zt zs zg zh zu zl zc zw p0 = some r ∧ mX10_step zx p0 = some r ∧ Rel zt zs zg zh zu zl zc zw zx := by
  obtain ⟨n, hn, e1, e2, hj⟩ := h.2.2.2.1.2
  unfold mX9_step mX9_step_b0 mX10_step mX10_step_b0
  rw [iw, e1, e2]
  by_cases c : 0 ≤ p0 ∧ p0 ≤ nI n - 1
  · rw [if_pos c]
    obtain ⟨j, hj2, rfl⟩ := (nI_pr (by omega) p0).mp c
    refine ⟨0, 0, zx.2.2.1 50 j, ?_, ?_, h⟩
    · rw [b1s, if_neg z01, gds (vp_in_nI (by omega) (by omega)), nI_clamp (by omega), hj j hj2]
    · rw [if_neg (nI_pos (by omega)), if_neg (nI_ge hj2 (by omega)), gds (vp_in_nI (by omega) (by omega)), nI_clamp (by omega)]
  · rw [if_neg c]
    refine ⟨0, 0, 0, ?_, ?_, h⟩
    · rw [b1s, if_pos rfl]
    · by_cases c1 : p0 < 0
      · rw [if_pos c1]
      · rw [if_neg c1]
        by_cases c2 : nI n ≤ p0
        · rw [if_pos c2]
        · exfalso
          obtain ⟨j, hj2, rfl⟩ := lt_nI (n := n) (by omega) (Int32.not_lt.mp c1) (Int32.not_le.mp c2)
          exact c ((nI_pr (by omega) _).mpr ⟨j, hj2, rfl⟩)

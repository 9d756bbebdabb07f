/-! read, eighth: LETTERS without a RULE, and all RULES, on both sides -/
def fuI (zh : OS) (al : Nat → Nat) (i : Nat) (a : Int32) : Prop := (a = -1 ∧ ∀ q, q < i → al q = 0 → zh.2.2.1 3 q = -1) ∨ ∃ m, m < 2000 ∧ a = nI m ∧ (∃ q, q < i ∧ al q = 0 ∧ zh.2.2.1 3 q = nI m) ∧ ∀ q m', q < i → al q = 0 → m' < 2000 → zh.2.2.1 3 q = nI m' → m ≤ m'
theorem fu_l (F : Nat) {zh : OS} {al : Nat → Nat} (hal : ∀ q, q < 26 → zh.2.2.1 1 q = nI (al q) ∧ al q ≤ 48) (hu : ∀ q, q < 26 → zh.2.2.1 3 q = -1 ∨ ∃ m, m < 2000 ∧ zh.2.2.1 3 q = nI m) : ∀ (d i f : Nat) (a : Int32), i + d = 26 → d < f → fuI zh al i a → ∃ r, mX2_firstUseWithoutRule_b4 F f zh a (nI i) = some r ∧ fuI zh al 26 r := by
  intro d
  induction d with
  | zero =>
    intro i f a hi hf hI
    obtain ⟨f, rfl⟩ : ∃ g, f = g + 1 := ⟨f - 1, by omega⟩
    refine ⟨a, ?_, by rw [show i = 26 by omega] at hI; exact hI⟩
    rw [mX2_firstUseWithoutRule_b4, if_pos (show (26 : Int32) ≤ nI i from nI_le (a := 26) (by omega) (by omega))]
  | succ d ih =>
    intro i f a hi hf hI
    obtain ⟨f, rfl⟩ : ∃ g, f = g + 1 := ⟨f - 1, by omega⟩
    have hi26 : i < 26 := by omega
    obtain ⟨h1, h2⟩ := hal i hi26
    rw [mX2_firstUseWithoutRule_b4, if_neg (show ¬ (26 : Int32) ≤ nI i from nI_ge (b := 26) hi26 (by omega)), gds (vp_in_nI hi26 (by omega)), nI_clamp (by omega), nI_1, has_rule zh hi26 (by omega) h1]
    simp only [nms, b1s]
    -- nothing new at i
    have same : (al i = 0 → zh.2.2.1 3 i = -1) → fuI zh al (i + 1) a := by
      intro hs
      rcases hI with ⟨e, g⟩ | ⟨m, m1, e, ⟨q, q1, q2, q3⟩, g⟩
      · refine Or.inl ⟨e, fun q hq h0 => ?_⟩
        by_cases c : q = i
        · subst c; exact hs h0
        · exact g q (by omega) h0
      · refine Or.inr ⟨m, m1, e, ⟨q, by omega, q2, q3⟩, fun q m' hq h0 hm' h3 => ?_⟩
        by_cases c : q = i
        · subst c
          rw [hs h0] at h3
          exact absurd h3.symm (nI_m1 (by omega))
        · exact g q m' (by omega) h0 hm' h3
    rcases hu i hi26 with e | ⟨m, m1, e⟩
    · rw [if_pos e]
      exact ih (i + 1) f a (by omega) (by omega) (same (fun _ => e))
    · rw [if_neg (by rw [e]; exact nI_m1 (by omega))]
      by_cases c : al i = 0
      · rw [if_pos c, if_pos rfl, e]
        rcases hI with ⟨e2, g⟩ | ⟨m2, m3, e2, ⟨q, q1, q2, q3⟩, g⟩
        · rw [if_pos e2]
          refine ih (i + 1) f (nI m) (by omega) (by omega) (Or.inr ⟨m, m1, rfl, ⟨i, by omega, c, e⟩, fun q m' hq h0 hm' h3 => ?_⟩)
          by_cases c2 : q = i
          · subst c2
            rw [e] at h3
            have := (nI_eq (by omega) (by omega)).mp h3
            omega
          · rw [g q (by omega) h0] at h3
            exact absurd h3.symm (nI_m1 (by omega))
        · rw [e2, if_neg (nI_m1 (by omega))]
          by_cases c3 : m2 ≤ m
          · rw [if_pos (nI_le c3 (by omega))]
            refine ih (i + 1) f (nI m2) (by omega) (by omega) (Or.inr ⟨m2, m3, rfl, ⟨q, by omega, q2, q3⟩, fun q m' hq h0 hm' h3 => ?_⟩)
            by_cases c2 : q = i
            · subst c2
              rw [e] at h3
              have := (nI_eq (by omega) (by omega)).mp h3
              omega
            · exact g q m' (by omega) h0 hm' h3
          · rw [if_neg (nI_ge (by omega) (by omega))]
            refine ih (i + 1) f (nI m) (by omega) (by omega) (Or.inr ⟨m, m1, rfl, ⟨i, by omega, c, e⟩, fun q m' hq h0 hm' h3 => ?_⟩)
            by_cases c2 : q = i
            · subst c2
              rw [e] at h3
              have := (nI_eq (by omega) (by omega)).mp h3
              omega
            · have := g q m' (by omega) h0 hm' h3
              omega
      · rw [if_neg c, if_neg z01]
        exact ih (i + 1) f a (by omega) (by omega) (same (fun h0 => absurd h0 c))
/-- a SIGN that is a LETTER without a RULE -/
def noR (zh : OS) (al : Nat → Nat) (s : Nat) : Prop := ∃ q, q < 26 ∧ zh.2.2.1 7 s = nI q ∧ al q = 0
theorem fu_X {F : Nat} (hF : 30 < F) {zh z : OS} {R A S k : Nat} {fa al wt fs sc pl : Nat → Nat} (hk : k ≤ 1200) (h : AGr zh z R A S fa al wt fs sc) (hG : SG zh z S k pl) : ((∀ s, s < S → ¬ noR zh al s) → mX2_firstUseWithoutRule F zh = some (-1)) ∧ ∀ s0, s0 < S → noR zh al s0 → (∀ s, s < s0 → ¬ noR zh al s) → mX2_firstUseWithoutRule F zh = some (nI (pl s0)) := by
  obtain ⟨s1, s2, s3, s4, s5, s6⟩ := hG
  have hal : ∀ q, q < 26 → zh.2.2.1 1 q = nI (al q) ∧ al q ≤ 48 := fun q hq => by
    have := h.2.2.2.2.2.2.2.2.1 q hq
    exact ⟨this.2.1, by have := h.2.1; omega⟩
  have hu : ∀ q, q < 26 → zh.2.2.1 3 q = -1 ∨ ∃ m, m < 2000 ∧ zh.2.2.1 3 q = nI m := by
    intro q hq
    rcases s6 q hq with ⟨e, -⟩ | ⟨s, e1, -, e2, -⟩
    · exact Or.inl e
    · exact Or.inr ⟨pl s, by have := s5 s e1; omega, e2⟩
  obtain ⟨r, r1, r2⟩ := fu_l F hal hu 26 0 F (-1) (by omega) (by omega) (Or.inl ⟨rfl, fun q hq => absurd hq (Nat.not_lt_zero q)⟩)
  have e0 : mX2_firstUseWithoutRule F zh = some r := r1
  rw [e0]
  constructor
  · intro hno
    rcases r2 with ⟨e, -⟩ | ⟨m, m1, -, ⟨q, q1, q2, q3⟩, -⟩
    · rw [e]
    · exfalso
      rcases s6 q q1 with ⟨e, -⟩ | ⟨s, e1, e2, e3, -⟩
      · rw [e] at q3
        exact nI_m1 (show m < 2 ^ 31 by omega) q3.symm
      · exact hno s e1 ⟨q, q1, e2, q2⟩
  · intro s0 h0 ⟨q0, c1, c2, c3⟩ hfirst
    -- the LETTER's first use is this SIGN
    have hfu : zh.2.2.1 3 q0 = nI (pl s0) := by
      rcases s6 q0 c1 with ⟨-, e⟩ | ⟨s, e1, e2, e3, e4⟩
      · exact absurd c2 (e s0 h0)
      · by_cases c : s < s0
        · exact absurd ⟨q0, c1, e2, c3⟩ (hfirst s c)
        · by_cases c' : s = s0
          · subst c'; exact e3
          · exact absurd c2 (e4 s0 (by omega))
    rcases r2 with ⟨e, g⟩ | ⟨m, m1, e, ⟨q, q1, q2, q3⟩, g⟩
    · have := g q0 c1 c3
      rw [hfu] at this
      exact absurd this (nI_m1 (by have := s5 s0 h0; omega))
    · have hle := g q0 (pl s0) c1 c3 (by have := s5 s0 h0; omega) hfu
      rcases s6 q q1 with ⟨e', -⟩ | ⟨s, e1, e2, e3, -⟩
      · rw [e'] at q3
        exact absurd q3.symm (nI_m1 (by omega))
      · rw [e3] at q3
        have hm := (nI_eq (by have := s5 s e1; omega) (by omega)).mp q3
        have hs : s0 ≤ s := by
          by_cases c : s < s0
          · exact absurd ⟨q, q1, e2, q2⟩ (hfirst s c)
          · omega
        have : pl s0 ≤ pl s := by
          by_cases c : s = s0
          · subst c; exact Nat.le_refl _
          · exact Nat.le_of_lt (s4 s0 s (by omega) e1)
        rw [e, show m = pl s0 by omega]
theorem b141_F (F : Nat) {z : OS} {p : Nat} (hp : p < 2 ^ 31) (h : z.1 18 = nI p) : mX10_read_b141 F z = some ((-10) - nI p, z) := by
  unfold mX10_read_b141
  rw [h, if_neg (nI_pos hp)]
theorem b78_F (F f : Nat) {z : OS} {p : Nat} (hp : p < 2 ^ 31) (h : z.1 18 = nI p) (a2 : Int32) : mX10_read_b78 F (f + 1) z a2 = some ((-10) - nI p, z) := by
  rw [mX10_read_b78, gds v12, b141_F F hp h, h, if_pos (nI_pos' hp)]
  split <;> rfl
theorem scan_M (F : Nat) {zh z : OS} {R A S k : Nat} {fa al wt fs sc pl : Nat → Nat} (hk : k ≤ 1200) (h : AGr zh z R A S fa al wt fs sc) (hG : SG zh z S k pl) (h18 : z.1 18 = -1) : ∀ (d s f : Nat), s + d = S → d + 1 < f → (∀ s', s' < s → ¬ noR zh al s') → (∃ s0, s0 < S ∧ noR zh al s0 ∧ (∀ s', s' < s0 → ¬ noR zh al s') ∧ mX10_read_b78 F f z (nI (241 + s)) = some ((-10) - nI (pl s0), sI z 18 (nI (pl s0)))) ∨ ((∀ s', s' < S → ¬ noR zh al s') ∧ mX10_read_b78 F f z (nI (241 + s)) = mX10_read_b158 F F z 0) := by
  have hS := hG.2.1
  have g8 := h.2.2.2.2.2.2.2.1
  intro d
  induction d with
  | zero =>
    intro s f hs hf hno
    obtain ⟨f, rfl⟩ : ∃ g, f = g + 1 := ⟨f - 1, by omega⟩
    right
    refine ⟨fun s' hs' => hno s' (by omega), ?_⟩
    rw [mX10_read_b78, gds v12, k1, g8, show (241 : Int32) + nI S = nI (241 + S) from nI_add 241 S, if_pos (nI_le (by omega) (by omega))]
    unfold mX10_read_b141
    rw [h18, if_pos (by decide)]
    rfl
  | succ d ih =>
    intro s f hs hf hno
    obtain ⟨f, rfl⟩ : ∃ g, f = g + 1 := ⟨f - 1, by omega⟩
    have hv := vp_in_nI (show 241 + s < 482 by omega) (show (482 : Nat) < 2 ^ 31 by omega)
    have hcl : (nI (241 + s)).toNatClampNeg = 241 + s := nI_clamp (by omega)
    have e0 : mX10_read_b78 F (f + 1) z (nI (241 + s)) = (if (z.2.2.1 8 (241 + s) : Int32) = 0 then gd (26 + (z.2.2.1 9 (241 + s))) 52 ((if (z.2.2.1 4 (26 + (z.2.2.1 9 (241 + s)) : Int32).toNatClampNeg : Int32) = 0 then b1 (mX10_fail z (z.2.2.1 12 (241 + s))) (fun zx12 => mX10_read_b78 F f zx12 (nI (241 + (s + 1)))) else mX10_read_b78 F f z (nI (241 + (s + 1))))) else mX10_read_b78 F f z (nI (241 + (s + 1)))) := by
      rw [mX10_read_b78, gds v12, k1, g8, show (241 : Int32) + nI S = nI (241 + S) from nI_add 241 S, if_neg (nI_ge (by omega) (by omega)), h18, if_neg (by decide)]
      simp only [gds hv, hcl]
      have nms2 : ∀ (β : Type) (k : Int32 → β), nm (nI (241 + s) + 1) k = k (nI (241 + (s + 1))) := fun β k => by rw [nI_1]; rfl
      simp only [nms2]
    have next : ¬ noR zh al s → mX10_read_b78 F (f + 1) z (nI (241 + s)) = mX10_read_b78 F f z (nI (241 + (s + 1))) → _ := fun hn e => by
      have := ih (s + 1) f (by omega) (by omega) (fun s' hs' => by
        by_cases c : s' = s
        · subst c; exact hn
        · exact hno s' (by omega))
      rw [← e] at this
      exact this
    rcases hG.2.2.1 s (by omega) with ⟨q, q1, q2, q3, q4, q5⟩ | ⟨d', t, o, -, -, -, -, -, q2, -, -, -, q3, -⟩ | ⟨t, -, -, q2, -, -, q3, -⟩
    · have gq := h.2.2.2.2.2.2.2.2.1 q q1
      rw [q3, if_pos rfl, q4, show (26 : Int32) + nI q = nI (26 + q) from nI_add 26 q, gds (vp_in_nI (by omega) (by omega)), nI_clamp (by omega), gq.2.2.1, q5] at e0
      by_cases c : al q = 0
      · left
        refine ⟨s, by omega, ⟨q, q1, q2, c⟩, hno, ?_⟩
        obtain ⟨f, rfl⟩ : ∃ g, f = g + 1 := ⟨f - 1, by omega⟩
        rw [e0, if_pos (by rw [c]; rfl), fail_M h18, b1s, b78_F F f (p := pl s) (by have := hG.2.2.2.2.1 s (by omega); omega) rfl]
      · rw [if_neg (fun e : nI (al q) = 0 => c ((nI_eq (b := 0) (by have := h.2.1; omega) (by omega)).mp e))] at e0
        refine next ?_ e0
        rintro ⟨q', b1, b2, b3⟩
        rw [q2] at b2
        have := (nI_eq (by omega) (by omega)).mp b2
        subst this
        exact c b3
    · rw [q3, if_neg (by decide)] at e0
      refine next ?_ e0
      rintro ⟨q', b1, b2, b3⟩
      rw [q2] at b2
      exact nI_m1 (show q' < 2 ^ 31 by omega) b2.symm
    · rw [q3, if_neg (by decide)] at e0
      refine next ?_ e0
      rintro ⟨q', b1, b2, b3⟩
      rw [q2] at b2
      exact nI_m1 (show q' < 2 ^ 31 by omega) b2.symm

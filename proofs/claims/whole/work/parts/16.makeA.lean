/-! make, first: sums of what was not tried, and the choice -/
theorem nI_sub {a b : Nat} (h : b ≤ a) : nI a - nI b = nI (a - b) := by
  have e : nI a = nI (a - b) + nI b := by rw [nI_add, Nat.sub_add_cancel h]
  rw [e, Int32.add_sub_cancel]
theorem nI_subI {a b : Nat} (ha : a < 2 ^ 30) (hb : b < 2 ^ 30) : (nI a - nI b).toInt = (a : Int) - b := by
  rw [Int32.toInt_sub, nI_toInt (by omega), nI_toInt (by omega)]
  exact Int.bmod_eq_of_le (by omega) (by omega)
theorem nI_subn {a b : Nat} (h : a < b) (hb : b < 2 ^ 30) : ¬ 0 ≤ nI a - nI b := by
  rw [Int32.le_iff_toInt_le, nI_subI (by omega) hb]
  have e0 : (0 : Int32).toInt = 0 := by decide
  omega
theorem bt0 (y : Int64) : lg_cmp (y &&& 1) 0 = 0 ↔ gb y 0 = false := by
  rw [lg0]
  constructor
  · intro h
    have e : gb (y &&& 1) 0 = gb 0 0 := by rw [h]
    rw [gb_and, gb_1 0 (by omega)] at e
    have e2 : gb 0 0 = false := by decide +kernel
    rw [e2] at e
    simpa using e
  · intro h
    refine gb_ext fun i hi => ?_
    rw [gb_and, gb_1 i hi]
    have e2 : gb 0 i = false := by unfold gb; simp
    rw [e2]
    by_cases c : i = 0
    · subst c; rw [h]; rfl
    · simp [c]
theorem btX (x : Int64) {i : Nat} (hi : i < 64) : lg_cmp (((x.toUInt64 >>> ((nI i).toInt64.toUInt64 &&& Int64.toUInt64 63)).toInt64) &&& 1) 0 = 0 ↔ gb x i = false := by
  rw [bt0, gb_shr x 0 hi, Nat.add_zero]
theorem btM (x : Int64) {i : Nat} (hi : i < 64) : lg_cmp ((x >>> ((nI i).toInt64 &&& 63)) &&& 1) 0 = 0 ↔ gb x i = false := by
  rw [bt0, gb_sar x hi (by omega), Nat.add_zero]
def trd (x : Int64) (k : Nat) : Int64 := x ||| (1 <<< ((nI k).toInt64 &&& 63))
theorem gb_trd (x : Int64) {k j : Nat} (hk : k < 64) (hj : j < 64) : gb (trd x k) j = (gb x j || decide (j = k)) := by
  unfold trd
  rw [gb_or, gb_shl 1 hk hj, gb_1 (j - k) (by omega)]
  by_cases c : k ≤ j
  · have : decide (j - k = 0) = decide (j = k) := by
      by_cases e : j = k
      · subst e; simp
      · have : ¬ j - k = 0 := by omega
        simp [e, this]
    rw [this]; simp [c]
  · have : ¬ j = k := by omega
    simp [c, this]
def usm (wt : Nat → Nat) (a : Nat) (x : Int64) : Nat → Nat → Nat
  | 0, _ => 0
  | d + 1, i => (if gb x i = false then wt (a + i) else 0) + usm wt a x d (i + 1)
def pkI (wt : Nat → Nat) (a : Nat) (x : Int64) : Nat → Nat → Nat → Nat
  | 0, i, _ => i
  | d + 1, i, r => if gb x i = false then (if r < wt (a + i) then i else pkI wt a x d (i + 1) (r - wt (a + i))) else pkI wt a x d (i + 1) r
theorem pkI_ok (wt : Nat → Nat) (a : Nat) (x : Int64) : ∀ d i r, r < usm wt a x d i → i ≤ pkI wt a x d i r ∧ pkI wt a x d i r < i + d ∧ gb x (pkI wt a x d i r) = false := by
  intro d
  induction d with
  | zero => intro i r h; exact absurd h (Nat.not_lt_zero r)
  | succ d ih =>
    intro i r h
    unfold usm at h
    unfold pkI
    by_cases c : gb x i = false
    · rw [if_pos c] at h
      rw [if_pos c]
      by_cases c2 : r < wt (a + i)
      · rw [if_pos c2]; exact ⟨Nat.le_refl i, by omega, c⟩
      · rw [if_neg c2]
        have := ih (i + 1) (r - wt (a + i)) (by omega)
        exact ⟨by omega, by omega, this.2.2⟩
    · rw [if_neg c] at h
      rw [if_neg c]
      have := ih (i + 1) r (by omega)
      exact ⟨by omega, by omega, this.2.2⟩
theorem usm_up (wt : Nat → Nat) (a : Nat) (x : Int64) {k : Nat} : ∀ d i, i + d ≤ 64 → k < i → usm wt a (trd x k) d i = usm wt a x d i := by
  intro d
  induction d with
  | zero => intro i _ _; rfl
  | succ d ih =>
    intro i h hk
    unfold usm
    rw [ih (i + 1) (by omega) (by omega), gb_trd x (by omega) (by omega)]
    have : ¬ i = k := by omega
    simp [this]
theorem usm_trd (wt : Nat → Nat) (a : Nat) (x : Int64) {k : Nat} (hk : gb x k = false) : ∀ d i, i + d ≤ 64 → i ≤ k → k < i + d → usm wt a (trd x k) d i + wt (a + k) = usm wt a x d i := by
  intro d
  induction d with
  | zero => intro i _ h1 h2; omega
  | succ d ih =>
    intro i h h1 h2
    unfold usm
    rw [gb_trd x (by omega) (by omega)]
    by_cases c : i = k
    · subst c
      rw [usm_up wt a x d (i + 1) (by omega) (by omega), hk]
      simp
      omega
    · have e := ih (i + 1) (by omega) (by omega) (by omega)
      simp [c]
      omega
theorem usm_le (wt : Nat → Nat) (a : Nat) (x : Int64) : ∀ d i, (∀ j, i ≤ j → j < i + d → wt (a + j) ≤ 999) → usm wt a x d i ≤ 999 * d := by
  intro d
  induction d with
  | zero => intro i _; exact Nat.le_refl 0
  | succ d ih =>
    intro i h
    unfold usm
    have e := ih (i + 1) (fun j h1 h2 => h j (by omega) (by omega))
    have e2 := h i (by omega) (by omega)
    split <;> omega
theorem usm_0 (wt : Nat → Nat) (a : Nat) : ∀ d i, i + d ≤ 64 → sumW wt a i + usm wt a 0 d i = sumW wt a (i + d) := by
  intro d
  induction d with
  | zero => intro i _; rfl
  | succ d ih =>
    intro i h
    unfold usm
    have e2 : gb 0 i = false := by unfold gb; simp
    rw [if_pos e2]
    have := ih (i + 1) (by omega)
    rw [show i + 1 + d = i + (d + 1) by omega] at this
    rw [← this, show sumW wt a (i + 1) = sumW wt a i + wt (a + i) from rfl]
    omega
theorem m_chX (F : Nat) (zk zd zg zu zl : OS) {d q fa al : Nat} {x : Int64} {wt : Nat → Nat} (hd : d < 3001) (hq : q < 26) (hal : fa + al ≤ 48) (hx : zl.2.2.2 2 d = x) (h1 : zg.2.2.1 1 q = nI al) (hw : ∀ j, j < al → wt (fa + j) ≤ 999 ∧ zg.2.2.1 4 (fa + j) = nI (wt (fa + j))) : ∀ (n i f r : Nat) (c5 : Int32), i + n = al → n < f → r < usm wt fa x n i → r < 50000 → mX3_choose_b44 F f zk zd zg zu zl (nI d) (nI q) (nI fa) (nI r) c5 (nI i) = mX3_choose_b115 F zk zd zg zu zl (nI d) (nI fa) (nI (pkI wt fa x n i r)) := by
  intro n
  induction n with
  | zero => intro i f r c5 _ _ h; exact absurd h (Nat.not_lt_zero r)
  | succ n ih =>
    intro i f r c5 hi hf hr hr2
    obtain ⟨f, rfl⟩ : ∃ g, f = g + 1 := ⟨f - 1, by omega⟩
    unfold usm at hr
    unfold pkI
    rw [mX3_choose_b44, gds (vp_in_nI hq (by omega)), nI_clamp (by omega), h1, if_neg (nI_ge (show i < al by omega) (by omega)), gds (vp_in_nI hd (by omega)), nI_clamp (by omega), hx]
    by_cases c : gb x i = false
    · rw [if_pos c] at hr
      have hwi := hw i (by omega)
      rw [if_pos ((btX x (by omega)).mpr c), if_pos c, nI_add, gds (vp_in_nI (show fa + i < 48 by omega) (by omega)), nI_clamp (by omega), hwi.2, nms]
      by_cases c2 : r < wt (fa + i)
      · rw [if_pos c2, if_neg (nI_subn c2 (by omega))]
      · rw [if_neg c2, nI_sub (by omega), if_pos (nI_pos' (by omega)), nms, nI_1]
        exact ih (i + 1) f (r - wt (fa + i)) (nI i) (by omega) (by omega) (by omega) (by omega)
    · rw [if_neg c] at hr
      rw [if_neg (fun z => c ((btX x (by omega)).mp z)), if_neg c, nms, nI_1]
      exact ih (i + 1) f r c5 (by omega) (by omega) (by omega) hr2
theorem m_left (F : Nat) (z : OS) {d q fa al : Nat} {x : Int64} {wt : Nat → Nat} (hd : d < 3002) (hq : q < 26) (hal : fa + al ≤ 48) (hx : z.2.2.2 46 d = x) (hD : z.1 47 = nI (d + 1)) (h3 : z.2.2.1 3 q = nI fa) (h4 : z.2.2.1 4 q = nI al) (hw : ∀ j, j < al → wt (fa + j) ≤ 999 ∧ z.2.2.1 5 (fa + j) = nI (wt (fa + j))) : ∀ (n i f s : Nat), i + n = al → n < f → mX10_left_b16 F f z (nI q) (nI s) (nI i) = some (nI (s + usm wt fa x n i)) := by
  intro n
  induction n with
  | zero =>
    intro i f s hi hf
    obtain ⟨f, rfl⟩ : ∃ g, f = g + 1 := ⟨f - 1, by omega⟩
    rw [mX10_left_b16, gds (vp_in_nI (show q < 52 by omega) (by omega)), nI_clamp (by omega), h4, if_pos (nI_le (by omega) (by omega))]
    rfl
  | succ n ih =>
    intro i f s hi hf
    obtain ⟨f, rfl⟩ : ∃ g, f = g + 1 := ⟨f - 1, by omega⟩
    unfold usm
    rw [mX10_left_b16, gds (vp_in_nI (show q < 52 by omega) (by omega)), nI_clamp (by omega), h4, if_neg (nI_ge (show i < al by omega) (by omega)), hD, nI_pred, gds (vp_in_nI hd (by omega)), nI_clamp (by omega), hx]
    by_cases c : gb x i = false
    · have hwi := hw i (by omega)
      rw [if_pos ((btM x (by omega)).mpr c), if_pos c, gds (vp_in_nI (show q < 52 by omega) (by omega)), h3, nI_add, gds (vp_in_nI (show fa + i < 96 by omega) (by omega)), nI_clamp (by omega), hwi.2, nms, nms, nI_1, nI_add, ih (i + 1) f _ (by omega) (by omega), Nat.add_assoc]
    · rw [if_neg (fun z => c ((btM x (by omega)).mp z)), if_neg c, nms, nms, nI_1, show nI s + 0 = nI s from by rw [Int32.add_zero], ih (i + 1) f s (by omega) (by omega), Nat.zero_add]
theorem m_chM (F : Nat) (z : OS) {d q fa al : Nat} {x : Int64} {wt : Nat → Nat} (hd : d < 3002) (hq : q < 26) (hal : fa + al ≤ 48) (hx : z.2.2.2 46 d = x) (hD : z.1 47 = nI (d + 1)) (h3 : z.2.2.1 3 q = nI fa) (h4 : z.2.2.1 4 q = nI al) (hw : ∀ j, j < al → wt (fa + j) ≤ 999 ∧ z.2.2.1 5 (fa + j) = nI (wt (fa + j))) : ∀ (n i f r : Nat), i + n = al → n + 1 < f → r < usm wt fa x n i → r < 50000 → mX10_choose_b34 F f z (nI q) (nI r) (-1) (nI i) = mX10_choose_b107 F z (nI q) (nI (pkI wt fa x n i r)) := by
  intro n
  induction n with
  | zero => intro i f r _ _ h; exact absurd h (Nat.not_lt_zero r)
  | succ n ih =>
    intro i f r hi hf hr hr2
    obtain ⟨f, rfl⟩ : ∃ g, f = g + 1 := ⟨f - 1, by omega⟩
    unfold usm at hr
    unfold pkI
    rw [mX10_choose_b34, gds (vp_in_nI (show q < 52 by omega) (by omega)), nI_clamp (by omega), h4, if_neg (nI_ge (show i < al by omega) (by omega)), if_neg (by decide), hD, nI_pred, gds (vp_in_nI hd (by omega)), nI_clamp (by omega), hx]
    by_cases c : gb x i = false
    · rw [if_pos c] at hr
      have hwi := hw i (by omega)
      rw [if_pos ((btM x (by omega)).mpr c), if_pos c, gds (vp_in_nI (show q < 52 by omega) (by omega)), h3, nI_add, gds (vp_in_nI (show fa + i < 96 by omega) (by omega)), nI_clamp (by omega), hwi.2, nms]
      by_cases c2 : r < wt (fa + i)
      · rw [if_pos c2, if_neg (nI_subn c2 (by omega)), nms, nI_1]
        obtain ⟨f, rfl⟩ : ∃ g, f = g + 1 := ⟨f - 1, by omega⟩
        rw [mX10_choose_b34, gds (vp_in_nI (show q < 52 by omega) (by omega)), nI_clamp (by omega), h4, if_pos (nI_pos' (show i < 2 ^ 31 by omega))]
        split <;> rfl
      · rw [if_neg c2, nI_sub (by omega), if_pos (nI_pos' (by omega)), nms, nI_1]
        exact ih (i + 1) f (r - wt (fa + i)) (by omega) (by omega) (by omega) (by omega)
    · rw [if_neg c] at hr
      rw [if_neg (fun z => c ((btM x (by omega)).mp z)), if_neg c, nms, nI_1]
      exact ih (i + 1) f r (by omega) (by omega) (by omega) hr2

/-! chains -/
theorem nn_of_63 {x : Int64} (h : gb x 63 = false) : ¬ x < 0 := by
  intro z
  have z1 := Int64.lt_iff_toInt_lt.mp z
  have e0 : (0 : Int64).toInt = 0 := by decide
  rw [e0] at z1
  have hm : x.toBitVec.msb = false := by
    rw [BitVec.msb_eq_getLsbD_last]
    exact h
  have := BitVec.toInt_eq_toNat_of_msb hm
  have e2 : x.toInt = x.toBitVec.toInt := rfl
  omega
theorem dv_nn (s : Int64) : ∃ k : Nat, k < 2 ^ 63 ∧ dv s = lN k := by
  apply pk_lOf
  apply nn_of_63
  unfold dv
  rw [show (1 : Int32) = nI 1 from rfl, gb_shr _ 63 (by omega)]
  exact gb_big _ (by omega)
theorem rmd_nI (s : Int64) {n : Nat} (h1 : 1 ≤ n) (h2 : n < 2 ^ 31) : ∃ r, r < n ∧ rmd (dv s) (nI n) = nI r := by
  obtain ⟨k, hk, e⟩ := dv_nn s
  refine ⟨k % n, Nat.mod_lt _ (by omega), ?_⟩
  unfold rmd
  rw [e, nI_l h2, pk_lRem hk (by omega) (by omega), lN_i]
theorem bel_lt {n : Nat} (h1 : 1 ≤ n) (h2 : n < 2 ^ 31) : ∀ (m : Nat) (s : Int64), tkn (nI n) m s → ∃ r, r < n ∧ (bel (nI n) m s).1 = nI r := by
  intro m
  induction m with
  | zero => intro s h; exact absurd h id
  | succ m ih =>
    intro s h
    by_cases c : 0 < (lg_cmp (dv (s + dg)) (lim (nI n)) : Int32)
    · obtain ⟨r, hr, e⟩ := ih (s + dg) (h c)
      exact ⟨r, hr, by rw [bel, if_pos c]; exact e⟩
    · obtain ⟨r, hr, e⟩ := rmd_nI (s + dg) h1 h2
      exact ⟨r, hr, by rw [bel, if_neg c]; exact e⟩
theorem blw_lt {n : Nat} (h1 : 1 ≤ n) (h2 : n < 2 ^ 31) (s : Int64) : ∃ r, r < n ∧ (blw n s).1 = nI r := by
  rw [← blw_e]
  exact bel_lt h1 h2 dN s (acc n h1 h2 s)
/-- the k latest of the walk p (w long) stand ahead of place q of c -/
def eqA (c p : Nat → Int32) (w q : Nat) : Nat → Nat → Bool
  | 0, _ => true
  | d + 1, i => decide (c (q - i) = p (w - i)) && eqA c p w q d (i + 1)
def ahd (c p : Nat → Int32) (w k q : Nat) : Bool := decide (k ≤ q) && eqA c p w q k 1
def cA (P : Nat → Bool) : Nat → Nat → Nat
  | 0, _ => 0
  | d + 1, q => (if P q then 1 else 0) + cA P d (q + 1)
def nA (P : Nat → Bool) : Nat → Nat → Nat → Nat
  | 0, _, _ => 0
  | d + 1, q, j => if P q then (if j = 0 then q else nA P d (q + 1) (j - 1)) else nA P d (q + 1) j
theorem cA_le (P : Nat → Bool) : ∀ d q, cA P d q ≤ d := by
  intro d
  induction d with
  | zero => intro q; exact Nat.le_refl 0
  | succ d ih =>
    intro q
    have := ih (q + 1)
    simp only [cA]
    split <;> omega
theorem nA_lt (P : Nat → Bool) : ∀ d q j, j < cA P d q → q ≤ nA P d q j ∧ nA P d q j < q + d := by
  intro d
  induction d with
  | zero => intro q j h; simp [cA] at h
  | succ d ih =>
    intro q j h
    simp only [cA] at h
    simp only [nA]
    by_cases c : P q = true
    · rw [if_pos c] at h
      rw [if_pos c]
      by_cases z : j = 0
      · rw [if_pos z]; omega
      · rw [if_neg z]
        have := ih (q + 1) (j - 1) (by omega)
        omega
    · rw [if_neg c] at h
      rw [if_neg c]
      have := ih (q + 1) j (by omega)
      omega
theorem cA_skip (P : Nat → Bool) (k : Nat) (hP : ∀ q, q < k → P q = false) : ∀ d q m, q + d = k → cA P (d + m) q = cA P m k ∧ ∀ j, nA P (d + m) q j = nA P m k j := by
  intro d
  induction d with
  | zero => intro q m h; rw [show q = k by omega, Nat.zero_add]; exact ⟨rfl, fun _ => rfl⟩
  | succ d ih =>
    intro q m h
    have e : P q = false := hP q (by omega)
    rw [show d + 1 + m = (d + m) + 1 by omega]
    simp only [cA, nA, e]
    have := ih (q + 1) m (by omega)
    simp [this.1, this.2]
theorem cA_congr {P Q : Nat → Bool} : ∀ d q, (∀ x, q ≤ x → x < q + d → P x = Q x) → cA P d q = cA Q d q ∧ ∀ j, nA P d q j = nA Q d q j := by
  intro d
  induction d with
  | zero => intro q _; exact ⟨rfl, fun _ => rfl⟩
  | succ d ih =>
    intro q h
    have e := h q (by omega) (by omega)
    have := ih (q + 1) (fun x h1 h2 => h x (by omega) (by omega))
    simp only [cA, nA, e, this.1, this.2]
    simp
theorem eqA_congr {c c' p p' : Nat → Int32} {w q : Nat} : ∀ d i, (∀ x, i ≤ x → x < i + d → c (q - x) = c' (q - x) ∧ p (w - x) = p' (w - x)) → eqA c p w q d i = eqA c' p' w q d i := by
  intro d
  induction d with
  | zero => intro i _; rfl
  | succ d ih =>
    intro i h
    have e := h i (by omega) (by omega)
    simp only [eqA, e.1, e.2, ih (i + 1) (fun x h1 h2 => h x (by omega) (by omega))]
theorem beh_X (F : Nat) (zc : OS) {w k q : Nat} (hk : k ≤ 3) (hkq : k ≤ q) (hq : q < 300) (hkw : k ≤ w) (hw : w ≤ 203) (ew : zc.1 4 = nI w) : ∀ (d i f : Nat), i + d = k + 1 → 1 ≤ i → d < f → mX0_isBehindLatest_b2 F f zc (nI q) (nI k) (nI i) = some (if eqA (zc.2.2.1 0) (zc.2.2.1 1) w q d i then 1 else 0) := by
  intro d
  induction d with
  | zero =>
    intro i f h1 h2 h3
    obtain ⟨f, rfl⟩ : ∃ g, f = g + 1 := ⟨f - 1, by omega⟩
    unfold mX0_isBehindLatest_b2
    rw [if_pos (nI_lt (by omega) (by omega))]
    rfl
  | succ d ih =>
    intro i f h1 h2 h3
    obtain ⟨f, rfl⟩ : ∃ g, f = g + 1 := ⟨f - 1, by omega⟩
    unfold mX0_isBehindLatest_b2
    rw [if_neg (nI_nlt (by omega) (by omega)), ew, pk_sub (show i ≤ q by omega), pk_sub (show i ≤ w by omega), gds (vp_in_nI (by omega) (by omega)), gds (vp_in_nI (by omega) (by omega)), nI_clamp (by omega), nI_clamp (by omega), nms, nI_1, ih (i + 1) f (by omega) (by omega) (by omega)]
    by_cases c : zc.2.2.1 0 (q - i) = zc.2.2.1 1 (w - i)
    · rw [if_pos c]; simp [eqA, c]
    · rw [if_neg c]; simp [eqA, c]
theorem bz01 {v : Nat} (h : v < 2) (α : Type) (k : Option α) : bz (nI v) k = k := by
  unfold bz
  rcases (show v = 0 ∨ v = 1 by omega) with rfl | rfl
  · rw [if_pos (show nI 0 = 0 ∨ nI 0 = 1 from Or.inl rfl)]
  · rw [if_pos (show nI 1 = 0 ∨ nI 1 = 1 from Or.inr rfl)]
theorem ahd_M0 (F : Nat) (zx : OS) {w k q : Nat} (hk : k ≤ 3) (hkq : k ≤ q) (hq : q < 300) (hkw : k ≤ w) (hw : w ≤ 203) (ew : zx.1 51 = nI w) : ∀ (d i f v : Nat), i + d = k + 1 → 1 ≤ i → d + 1 < f → v < 2 → mX10_isAhead_b14 F f zx (nI q) (nI k) (nI v) (nI i) = some (if v = 1 ∧ eqA (zx.2.2.1 48) (zx.2.2.1 50) w q d i = true then 1 else 0) := by
  intro d
  induction d with
  | zero =>
    intro i f v h1 h2 h3 hv
    obtain ⟨f, rfl⟩ : ∃ g, f = g + 1 := ⟨f - 1, by omega⟩
    unfold mX10_isAhead_b14
    rw [if_pos (nI_lt (by omega) (by omega)), bz01 hv]
    rcases (show v = 0 ∨ v = 1 by omega) with rfl | rfl <;> rfl
  | succ d ih =>
    intro i f v h1 h2 h3 hv
    obtain ⟨f, rfl⟩ : ∃ g, f = g + 1 := ⟨f - 1, by omega⟩
    unfold mX10_isAhead_b14
    rw [if_neg (nI_nlt (by omega) (by omega)), bz01 hv]
    rcases (show v = 0 ∨ v = 1 by omega) with rfl | rfl
    · rw [if_pos (show nI 0 = 0 from rfl)]; rfl
    · rw [if_neg (by decide), ew, pk_sub (show i ≤ q by omega), pk_sub (show i ≤ w by omega), gds (vp_in_nI (by omega) (by omega)), gds (vp_in_nI (by omega) (by omega)), nI_clamp (by omega), nI_clamp (by omega)]
      simp only [nms, nI_1]
      have i1 := ih (i + 1) f 1 (by omega) (by omega) (by omega) (by omega)
      have i0 := ih (i + 1) f 0 (by omega) (by omega) (by omega) (by omega)
      rw [show nI 1 = (1 : Int32) from rfl] at i1
      rw [show nI 0 = (0 : Int32) from rfl] at i0
      rw [i1, i0]
      by_cases c : zx.2.2.1 48 (q - i) = zx.2.2.1 50 (w - i)
      · rw [if_pos c]; simp [eqA, c]
      · rw [if_neg c]; simp [eqA, c]
theorem ahd_M (F : Nat) (hF : 5 < F) (zx : OS) {w k q : Nat} (hk1 : 1 ≤ k) (hk : k ≤ 3) (hq : q < 300) (hkw : k ≤ w) (hw : w ≤ 203) (ew : zx.1 51 = nI w) : mX10_isAhead F zx (nI q) (nI k) = some (if ahd (zx.2.2.1 48) (zx.2.2.1 50) w k q then 1 else 0) := by
  unfold mX10_isAhead mX10_isAhead_b0
  by_cases c : q < k
  · rw [if_pos (nI_lt c (by omega)), nms, nms]
    obtain ⟨f, rfl⟩ : ∃ g, F = g + 1 := ⟨F - 1, by omega⟩
    unfold mX10_isAhead_b14
    rw [if_neg (show ¬ nI k < 1 from fun z => absurd ((nI_ltI (b := 1) (by omega) (by omega)).mp z) (by omega)), if_pos rfl]
    have e : ahd (zx.2.2.1 48) (zx.2.2.1 50) w k q = false := by unfold ahd; simp; omega
    rw [e]
    rfl
  · rw [if_neg (nI_nlt (by omega) (by omega)), nms, nms, show (1 : Int32) = nI 1 from rfl, ahd_M0 F zx hk (by omega) hq hkw hw ew k 1 F 1 (by omega) (by omega) (by omega) (by omega)]
    have e : ahd (zx.2.2.1 48) (zx.2.2.1 50) w k q = eqA (zx.2.2.1 48) (zx.2.2.1 50) w q k 1 := by
      unfold ahd
      simp [show k ≤ q by omega]
    rw [e]
    simp
    rfl

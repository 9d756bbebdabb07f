/-! draws -/
def dg : Int64 := -7046029254386353131
/-- the number that a draw makes out of the new state -/
def dv (s : Int64) : Int64 :=
  let v3 := (s ^^^ (((s : Int64).toUInt64 >>> ((30 : Int32).toInt64.toUInt64 &&& Int64.toUInt64 63)).toInt64)) * (-4658895280553007687)
  let v4 := (v3 ^^^ (((v3 : Int64).toUInt64 >>> ((27 : Int32).toInt64.toUInt64 &&& Int64.toUInt64 63)).toInt64)) * (-7723592293110705685)
  ((v4 ^^^ (((v4 : Int64).toUInt64 >>> ((31 : Int32).toInt64.toUInt64 &&& Int64.toUInt64 63)).toInt64) : Int64).toUInt64 >>> ((1 : Int32).toInt64.toUInt64 &&& Int64.toUInt64 63)).toInt64
def ov (n : Int32) : Int64 := ((9223372036854775807 - 9223372036854775807 / n.toInt64 * n.toInt64) + 1) - ((9223372036854775807 - 9223372036854775807 / n.toInt64 * n.toInt64) + 1) / n.toInt64 * n.toInt64
def lim (n : Int32) : Int64 := 9223372036854775807 - ov n
theorem draw_X (zd : OS) : mX1_draw zd = some (dv (zd.2.1 0 + dg), sL zd 0 (zd.2.1 0 + dg)) := rfl
theorem draw_M (zx : OS) : mX10_draw zx = some (dv (zx.2.1 26 + dg), sL zx 26 (zx.2.1 26 + dg)) := rfl
def rmd (v : Int64) (n : Int32) : Int32 := (v - v / n.toInt64 * n.toInt64).toInt32
def bel (n : Int32) : Nat → Int64 → Int32 × Int64
  | 0, s => (0, s)
  | m + 1, s => if 0 < (lg_cmp (dv (s + dg)) (lim n) : Int32) then bel n m (s + dg) else (rmd (dv (s + dg)) n, s + dg)
/-- within m draws one is taken -/
def tkn (n : Int32) : Nat → Int64 → Prop
  | 0, _ => False
  | m + 1, s => 0 < (lg_cmp (dv (s + dg)) (lim n) : Int32) → tkn n m (s + dg)
theorem sLL (σ : OS) (k : Nat) (a b : Int64) : sL (sL σ k a) k b = sL σ k b := by
  unfold sL
  simp only [bx_uu]
theorem sLg (σ : OS) (k : Nat) (a : Int64) : (sL σ k a).2.1 k = a := va_up_self _ _ _
theorem under_loop (F : Nat) (n : Int32) (hn : ¬ n.toInt64 = 0) : ∀ (m : Nat) (f i : Nat) (zd : OS), tkn n m (zd.2.1 0) → m < f → i + m ≤ 1000000 → mX1_drawUnder_b29 F f zd n (lim n) (nI i) = some ((bel n m (zd.2.1 0)).1, sL zd 0 (bel n m (zd.2.1 0)).2) := by
  intro m
  induction m with
  | zero => intro f i zd h; exact absurd h id
  | succ m ih =>
    intro f i zd h h1 h2
    obtain ⟨f, rfl⟩ : ∃ q, f = q + 1 := ⟨f - 1, by omega⟩
    unfold mX1_drawUnder_b29
    rw [if_neg (ge_lit (y := 1000000) (b := 1000000) rfl (by omega) (by omega)), draw_X, b2s]
    by_cases c : 0 < (lg_cmp (dv (zd.2.1 0 + dg)) (lim n) : Int32)
    · rw [if_pos c, nms, nI_1]
      have h3 := ih f (i + 1) (sL zd 0 (zd.2.1 0 + dg)) (by rw [sLg]; exact h c) (by omega) (by omega)
      rw [h3, sLg, sLL]
      simp only [bel, if_pos c]
    · rw [if_neg c, nzls hn]
      simp only [bel, if_neg c]
      rfl
theorem below_loop (F : Nat) (n : Int32) (hn : ¬ n.toInt64 = 0) : ∀ (m : Nat) (f : Nat) (zx : OS) (s : Int64), tkn n (m + 1) s → zx.2.1 26 = s + dg → m < f → mX10_drawBelow_b18 F f zx n (ov n) (dv (s + dg)) = some ((bel n (m + 1) s).1, sL zx 26 (bel n (m + 1) s).2) := by
  intro m
  induction m with
  | zero =>
    intro f zx s h e h1
    obtain ⟨f, rfl⟩ : ∃ q, f = q + 1 := ⟨f - 1, by omega⟩
    unfold mX10_drawBelow_b18
    rw [show (9223372036854775807 - ov n) = lim n from rfl]
    have c : ¬ 0 < (lg_cmp (dv (s + dg)) (lim n) : Int32) := fun c => h c
    rw [if_pos (Int32.not_lt.mp c), nzls hn]
    simp only [bel, if_neg c]
    rw [← e]
    congr 2
    unfold sL
    rw [show va_up zx.2.1 26 (zx.2.1 26) = zx.2.1 from funext fun j => by
      by_cases q : j = 26
      · subst q; exact va_up_self _ _ _
      · exact va_up_ne _ _ q]
  | succ m ih =>
    intro f zx s h e h1
    obtain ⟨f, rfl⟩ : ∃ q, f = q + 1 := ⟨f - 1, by omega⟩
    unfold mX10_drawBelow_b18
    rw [show (9223372036854775807 - ov n) = lim n from rfl]
    by_cases c : 0 < (lg_cmp (dv (s + dg)) (lim n) : Int32)
    · rw [if_neg (Int32.not_le.mpr c), draw_M, b2s, e]
      have h3 := ih f (sL zx 26 (s + dg + dg)) (s + dg) (h c) (sLg _ _ _) (by omega)
      rw [h3, sLL]
      conv => rhs; rw [bel]
      rw [if_pos c]
    · rw [if_pos (Int32.not_lt.mp c), nzls hn]
      have e2 : bel n (m + 1 + 1) s = (rmd (dv (s + dg)) n, s + dg) := by rw [bel]; rw [if_neg c]
      rw [e2]
      dsimp only
      rw [← e]
      congr 2
      unfold sL
      rw [show va_up zx.2.1 26 (zx.2.1 26) = zx.2.1 from funext fun j => by
        by_cases q : j = 26
        · subst q; exact va_up_self _ _ _
        · exact va_up_ne _ _ q]
/-- a long as a number below 2^64 -/
def uu (x : Int64) : Nat := x.toUInt64.toNat
theorem uu_lt (x : Int64) : uu x < 2 ^ 64 := UInt64.toNat_lt _
theorem uu_mul (a b : Int64) : uu (a * b) = uu a * uu b % 2 ^ 64 := UInt64.toNat_mul a.toUInt64 b.toUInt64
theorem uu_add (a b : Int64) : uu (a + b) = (uu a + uu b) % 2 ^ 64 := UInt64.toNat_add a.toUInt64 b.toUInt64
theorem uu_xor (a b : Int64) : uu (a ^^^ b) = uu a ^^^ uu b := UInt64.toNat_xor a.toUInt64 b.toUInt64
theorem uu_shr (a : Int64) (b : UInt64) : uu ((a.toUInt64 >>> b).toInt64) = uu a >>> (b.toNat % 64) := UInt64.toNat_shiftRight a.toUInt64 b
theorem uu_30 (a : Int64) : uu ((a.toUInt64 >>> ((30 : Int32).toInt64.toUInt64 &&& Int64.toUInt64 63)).toInt64) = uu a >>> 30 := by
  rw [uu_shr, show ((30 : Int32).toInt64.toUInt64 &&& Int64.toUInt64 63).toNat % 64 = 30 by decide]
theorem uu_27 (a : Int64) : uu ((a.toUInt64 >>> ((27 : Int32).toInt64.toUInt64 &&& Int64.toUInt64 63)).toInt64) = uu a >>> 27 := by
  rw [uu_shr, show ((27 : Int32).toInt64.toUInt64 &&& Int64.toUInt64 63).toNat % 64 = 27 by decide]
theorem uu_31 (a : Int64) : uu ((a.toUInt64 >>> ((31 : Int32).toInt64.toUInt64 &&& Int64.toUInt64 63)).toInt64) = uu a >>> 31 := by
  rw [uu_shr, show ((31 : Int32).toInt64.toUInt64 &&& Int64.toUInt64 63).toNat % 64 = 31 by decide]
theorem uu_1 (a : Int64) : uu ((a.toUInt64 >>> ((1 : Int32).toInt64.toUInt64 &&& Int64.toUInt64 63)).toInt64) = uu a >>> 1 := by
  rw [uu_shr, show ((1 : Int32).toInt64.toUInt64 &&& Int64.toUInt64 63).toNat % 64 = 1 by decide]
theorem uu_dv (t : Int64) : uu (dv t) = (sm_M (uu t) % 2 ^ 64 ^^^ (sm_M (uu t) % 2 ^ 64) >>> 31) >>> 1 := by
  unfold dv
  dsimp only
  rw [uu_1, uu_xor, uu_31]
  have e : ∀ v3 : Int64, uu ((v3 ^^^ ((v3.toUInt64 >>> ((27 : Int32).toInt64.toUInt64 &&& Int64.toUInt64 63)).toInt64)) * (-7723592293110705685)) = (10723151780598845931 * sm_C (uu v3)) % 2 ^ 64 := by
    intro v3
    rw [uu_mul, uu_xor, uu_27, show uu (-7723592293110705685) = 10723151780598845931 by decide, Nat.mul_comm]
    rfl
  have e2 : uu ((t ^^^ ((t.toUInt64 >>> ((30 : Int32).toInt64.toUInt64 &&& Int64.toUInt64 63)).toInt64)) * (-4658895280553007687)) = sm_B (sm_A (uu t)) := by
    rw [uu_mul, uu_xor, uu_30, show uu (-4658895280553007687) = 13787848793156543929 by decide, Nat.mul_comm]
    rfl
  rw [e, e2]
  rfl
/-- the mixed number of a draw that is refused -/
theorem win {z : Nat} (hz : z < 2 ^ 64) (h : 2 ^ 63 - 2 ^ 31 ≤ (z ^^^ z >>> 31) >>> 1) : 2 ^ 64 - 2 ^ 33 ≤ z ∧ z < 2 ^ 64 - 2 ^ 33 + 2 ^ 32 := by
  have hy : z ^^^ z >>> 31 < 2 ^ 64 := x2_lt hz
  rw [Nat.shiftRight_eq_div_pow (z ^^^ z >>> 31) 1] at h
  have e : (z ^^^ z >>> 31) >>> 33 = z >>> 33 := by
    rw [Nat.shiftRight_xor_distrib, ← Nat.shiftRight_add, shr_0 (a := z) (k := 31 + 33) (Nat.lt_of_lt_of_le hz (by decide)), Nat.xor_zero]
  rw [Nat.shiftRight_eq_div_pow (z ^^^ z >>> 31) 33, Nat.shiftRight_eq_div_pow z 33] at e
  have h1 : 2 ^ 64 - 2 ^ 33 ≤ z := by omega
  have b1 : (z ^^^ z >>> 31).testBit 32 = true := by
    rw [Nat.testBit_eq_decide_div_mod_eq]
    apply decide_eq_true
    omega
  have b2 : z.testBit 63 = true := by
    rw [Nat.testBit_eq_decide_div_mod_eq]
    apply decide_eq_true
    omega
  rw [Nat.testBit_xor, Nat.testBit_shiftRight, b2] at b1
  have b3 : z.testBit 32 = false := by
    cases q : z.testBit 32
    · rfl
    · rw [q] at b1; exact absurd b1 (by decide)
  rw [Nat.testBit_eq_decide_div_mod_eq] at b3
  have b4 := of_decide_eq_false b3
  exact ⟨h1, by omega⟩
theorem lN_big {k : Nat} (h : k < 2 ^ 63) : (lN k).toInt = (k : Int) := lg_ofNat_toInt h
theorem lim_e {n : Nat} (h1 : 1 ≤ n) (h2 : n < 2 ^ 31) : ∃ o, o < 2 ^ 31 ∧ lim (nI n) = lN (2 ^ 63 - 1 - o) := by
  refine ⟨((2 ^ 63 - 1) % n + 1) % n, Nat.lt_trans (Nat.mod_lt _ (by omega)) h2, ?_⟩
  have hm := Nat.mod_lt (2 ^ 63 - 1) (show 0 < n by omega)
  have hm2 := Nat.mod_lt ((2 ^ 63 - 1) % n + 1) (show 0 < n by omega)
  unfold lim ov
  rw [nI_l h2, show (9223372036854775807 : Int64) = lN (2 ^ 63 - 1) from rfl, pk_lRem (by omega) (by omega) (by omega), lN_1, pk_lRem (by omega) (by omega) (by omega), lN_sub (by omega)]
theorem bad_z {n : Nat} (h1 : 1 ≤ n) (h2 : n < 2 ^ 31) (t : Int64) (h : 0 < (lg_cmp (dv t) (lim (nI n)) : Int32)) : 2 ^ 64 - 2 ^ 33 ≤ sm_M (uu t) % 2 ^ 64 ∧ sm_M (uu t) % 2 ^ 64 < 2 ^ 64 - 2 ^ 33 + 2 ^ 32 := by
  obtain ⟨o, ho, e⟩ := lim_e h1 h2
  rw [e, lg_cmp_gt, Int64.lt_iff_toInt_lt, lN_big (by omega)] at h
  have h3 := uu_dv t
  apply win (m64_lt _)
  rw [← h3]
  have h4 : (dv t).toInt ≤ (uu (dv t) : Int) := by
    have e1 : (dv t).toInt = (dv t).toBitVec.toInt := rfl
    have e2 : uu (dv t) = (dv t).toBitVec.toNat := rfl
    rw [e1, e2, BitVec.toInt_eq_toNat_cond]
    split <;> omega
  omega
theorem okR_all : okR 18446744065119617024 18446744069414584320 := tk_4095
/-- of two draws, eleven apart, one is taken, where the first state is among the last 2^46 -/
theorem acc2 {n : Nat} (h1 : 1 ≤ n) (h2 : n < 2 ^ 31) (t t' : Int64) (ht : 2 ^ 64 - 2 ^ 46 ≤ uu t) (ht' : uu t' = (uu t + 11 * 11400714819323198485) % 2 ^ 64) (hb : 0 < (lg_cmp (dv t) (lim (nI n)) : Int32)) : ¬ 0 < (lg_cmp (dv t') (lim (nI n)) : Int32) := by
  intro hb'
  obtain ⟨a1, a2⟩ := bad_z h1 h2 t hb
  obtain ⟨a3, _⟩ := bad_z h1 h2 t' hb'
  have h3 := okR_all (sm_M (uu t) % 2 ^ 64) (by omega) (by omega)
  unfold okB at h3
  rw [back_r, back_p (uu_lt t), back_x (uu_lt t)] at h3
  have h4 := h3 (smA_top (uu_lt t) ht)
  have e : sm_N (uu t) = uu t' := by
    rw [ht']
    unfold sm_N
    omega
  rw [e] at h4
  omega
def seqS (g : Int64 → Int64) : Nat → Int64 → Int64
  | 0, s => s
  | k + 1, s => seqS g k (g s)
theorem seqS_0 (g : Int64 → Int64) (s : Int64) : seqS g 0 s = s := rfl
theorem seqS_1 (g : Int64 → Int64) (k : Nat) (s : Int64) : seqS g (k + 1) s = seqS g k (g s) := rfl
def nd (s : Int64) : Int64 := s + dg
def ad (s : Int64) (k : Nat) : Int64 := seqS nd k s
theorem ad_0 (s : Int64) : ad s 0 = s := by unfold ad; exact seqS_0 nd s
theorem ad_s (s : Int64) (k : Nat) : ad s (k + 1) = ad (s + dg) k := by unfold ad; exact seqS_1 nd k s
theorem ad_uu : ∀ (k : Nat) (s : Int64), uu (ad s k) = (uu s + k * 11400714819323198485) % 2 ^ 64 := by
  intro k
  induction k with
  | zero => intro s; rw [ad_0, Nat.zero_mul, Nat.add_zero, Nat.mod_eq_of_lt (uu_lt s)]
  | succ k ih =>
    intro s
    rw [ad_s, ih, uu_add, show uu dg = 11400714819323198485 by decide, Nat.mod_add_mod, Nat.succ_mul, Nat.add_assoc, Nat.add_comm (11400714819323198485) (k * 11400714819323198485)]
theorem tkn_of (n : Int32) : ∀ (m k : Nat) (s : Int64), k < m → ¬ 0 < (lg_cmp (dv (ad (s + dg) k)) (lim n) : Int32) → tkn n m s := by
  intro m
  induction m with
  | zero => intro k s h; exact absurd h (Nat.not_lt_zero _)
  | succ m ih =>
    intro k s h h1 c
    cases k with
    | zero =>
      rw [ad_0] at h1
      exact absurd c h1
    | succ k =>
      rw [ad_s] at h1
      exact ih k (s + dg) (by omega) h1
/-- that many draws in a row are never all refused -/
theorem dN_ex : ∃ d : Nat, d = 635640 := ⟨_, rfl⟩
noncomputable def dN : Nat := Classical.choose dN_ex
theorem dN_e : dN = 635640 := Classical.choose_spec dN_ex
theorem acc (n : Nat) (h1 : 1 ≤ n) (h2 : n < 2 ^ 31) (s : Int64) : tkn (nI n) dN s := by
  obtain ⟨k, hk, h3⟩ := ex_end (uu (s + dg)) (uu_lt _)
  have e := ad_uu k (s + dg)
  have e2 := ad_uu (k + 11) (s + dg)
  by_cases c : 0 < (lg_cmp (dv (ad (s + dg) k)) (lim (nI n)) : Int32)
  · refine tkn_of _ dN (k + 11) s (by have := dN_e; omega) (acc2 h1 h2 _ _ ?_ ?_ c)
    · rw [e]; omega
    · rw [e, e2, Nat.mod_add_mod, Nat.add_mul, Nat.add_assoc]
  · exact tkn_of _ dN k s (by have := dN_e; omega) c
theorem bel_ex (n : Nat) (s : Int64) : ∃ q : Int32 × Int64, bel (nI n) dN s = q := ⟨_, rfl⟩
noncomputable def blw (n : Nat) (s : Int64) : Int32 × Int64 := Classical.choose (bel_ex n s)
theorem blw_e (n : Nat) (s : Int64) : bel (nI n) dN s = blw n s := Classical.choose_spec (bel_ex n s)
theorem n64 {n : Nat} (h1 : 1 ≤ n) (h2 : n < 2 ^ 31) : ¬ (nI n).toInt64 = 0 := by
  rw [nI_l h2]
  intro z
  have : n = 0 := (lN_eq (b := 0) h2 (by omega)).mp z
  omega
theorem under_X (F n : Nat) (hF : dN < F) (h1 : 1 ≤ n) (h2 : n < 2 ^ 31) (zd : OS) : mX1_drawUnder F zd (nI n) = some ((blw n (zd.2.1 0)).1, sL zd 0 (blw n (zd.2.1 0)).2) := by
  unfold mX1_drawUnder mX1_drawUnder_b0
  rw [if_pos (le_litA (y := 1) (a := 1) rfl h1 h2), nzls (n64 h1 h2), nzls (n64 h1 h2)]
  have h := under_loop F (nI n) (n64 h1 h2) dN F 0 zd (acc n h1 h2 _) hF (by have := dN_e; omega)
  rw [blw_e] at h
  exact h
theorem below_M (F n : Nat) (hF : dN < F) (h1 : 1 ≤ n) (h2 : n < 2 ^ 31) (zx : OS) : mX10_drawBelow F zx (nI n) = some ((blw n (zx.2.1 26)).1, sL zx 26 (blw n (zx.2.1 26)).2) := by
  unfold mX10_drawBelow mX10_drawBelow_b0
  rw [nzls (n64 h1 h2), nzls (n64 h1 h2), nms, draw_M, b2s]
  have h := below_loop F (nI n) (n64 h1 h2) (dN - 1) F (sL zx 26 (zx.2.1 26 + dg)) (zx.2.1 26) (by rw [show dN - 1 + 1 = dN by have := dN_e; omega]; exact acc n h1 h2 _) (sLg _ _ _) (by omega)
  rw [show dN - 1 + 1 = dN by have := dN_e; omega, blw_e, sLL] at h
  exact h
noncomputable def nx (n : Nat) (s : Int64) : Int64 := (blw n s).2
theorem nx_e (n : Nat) (s : Int64) : nx n s = (blw n s).2 := rfl
theorem belX_loop (F n : Nat) (hF : dN < F) (h1 : 1 ≤ n) (h2 : n < 2 ^ 31) (k : Nat) (hk : k ≤ 1000) : ∀ (d f i : Nat) (zd : OS), i + d = k → d < f → mX9_below_b33 F f zd (nI n) (nI k) (nI i) = some (blw n (seqS (nx n) d (zd.2.1 0))).1 := by
  intro d
  induction d with
  | zero =>
    intro f i zd h3 h4
    obtain ⟨f, rfl⟩ : ∃ q, f = q + 1 := ⟨f - 1, by omega⟩
    unfold mX9_below_b33
    rw [if_pos (nI_le (by omega) (by omega)), under_X F n hF h1 h2, b2s, seqS_0]
  | succ d ih =>
    intro f i zd h3 h4
    obtain ⟨f, rfl⟩ : ∃ q, f = q + 1 := ⟨f - 1, by omega⟩
    unfold mX9_below_b33
    rw [if_neg (nI_ge (by omega) (by omega)), under_X F n hF h1 h2, b2s, nms, nI_1, ih f (i + 1) _ (by omega) (by omega), sLg, seqS_1, nx_e]
theorem belM_loop (F n : Nat) (hF : dN < F) (h1 : 1 ≤ n) (h2 : n < 2 ^ 31) (k : Nat) (hk : k ≤ 1000) : ∀ (d f i : Nat) (zx : OS) (s : Int64), i + d = k → d < f → zx.2.1 26 = (blw n s).2 → ∃ t, mX10_below_b36 F f zx (nI n) (nI k) (blw n s).1 (nI i) = some ((blw n (seqS (nx n) d s)).1, sL zx 26 t) := by
  intro d
  induction d with
  | zero =>
    intro f i zx s h3 h4 h5
    obtain ⟨f, rfl⟩ : ∃ q, f = q + 1 := ⟨f - 1, by omega⟩
    refine ⟨zx.2.1 26, ?_⟩
    unfold mX10_below_b36
    rw [if_pos (nI_le (by omega) (by omega)), seqS_0]
    congr 2
    unfold sL
    rw [show va_up zx.2.1 26 (zx.2.1 26) = zx.2.1 from funext fun j => by
      by_cases q : j = 26
      · subst q; exact va_up_self _ _ _
      · exact va_up_ne _ _ q]
  | succ d ih =>
    intro f i zx s h3 h4 h5
    obtain ⟨f, rfl⟩ : ∃ q, f = q + 1 := ⟨f - 1, by omega⟩
    unfold mX10_below_b36
    rw [if_neg (nI_ge (by omega) (by omega)), below_M F n hF h1 h2, b2s, nms, nI_1, h5]
    obtain ⟨t, ht⟩ := ih f (i + 1) (sL zx 26 (blw n (blw n s).2).2) (blw n s).2 (by omega) (by omega) (sLg _ _ _)
    exact ⟨t, by rw [ht, sLL, seqS_1, nx_e]⟩
theorem R_below {zt zs zg zh zu zl zc zw zx : OS} (h : Rel zt zs zg zh zu zl zc zw zx) (p0 : Int64) (p1 : Int32) (p2 : Int32) : ∃ (F1 F2 : Nat) (r : Int32) (zx' : OS), mX9_below F1  p0 p1 p2 = some r ∧ mX10_below F2 zx p0 p1 p2 = some (r, zx') ∧ Rel zt zs zg zh zu zl zc zw zx' := by
  refine ⟨1100 + dN, 1100 + dN, ?_⟩
  unfold mX9_below mX10_below mX10_below_b0
  rw [iw]
  by_cases c : p1 < 1
  · rw [if_pos c, if_pos c]
    exact ⟨-2, zx, rfl, rfl, h⟩
  · rw [if_neg c, if_neg c]
    by_cases d : 0 ≤ p2 ∧ p2 ≤ 1000
    · rw [if_pos d, b1s, if_neg z01, if_neg (Int32.not_lt.mpr d.1), if_pos d.2]
      obtain ⟨k, hk, rfl⟩ := le_nI (n := 1000) (by omega) d.1 d.2
      obtain ⟨n, hn, rfl⟩ := nI_of (x := p1) (fun z => c (Int32.lt_trans z (by decide)))
      have h1 : 1 ≤ n := Nat.not_lt.mp (fun z => c (by rw [show n = 0 by omega]; decide))
      obtain ⟨t, ht⟩ := belM_loop (1100 + dN) n (by have := dN_e; omega) h1 hn k (by omega) k (1100 + dN) 0 (sL (sL zx 26 p0) 26 (blw n p0).2) p0 (by omega) (by omega) (sLg _ _ _)
      refine ⟨(blw n (seqS (nx n) k p0)).1, sL (sL (sL zx 26 p0) 26 (blw n p0).2) 26 t, ?_, ?_, h⟩
      · show b1 (some (sL zOS 0 p0)) _ = _
        rw [b1s, nms, show (0 : Int32) = nI 0 from rfl, belX_loop (1100 + dN) n (by have := dN_e; omega) h1 hn k (by omega) k (1100 + dN) 0 _ (by omega) (by omega), sLg]
      · rw [nms, below_M (1100 + dN) n (by have := dN_e; omega) h1 hn, b2s, nms, sLg]
        exact ht
    · rw [if_neg d, b1s, if_pos rfl]
      refine ⟨-2, zx, rfl, ?_, h⟩
      by_cases c1 : p2 < 0
      · rw [if_pos c1]
      · rw [if_neg c1, if_neg (fun z => d ⟨Int32.not_lt.mp c1, z⟩)]

/-! draws -/
def dg : Int64 := -7046029254386353131
/-- the number that a draw makes out of the new state -/
def dv (s : Int64) : Int64 :=
  let v3 := (s ^^^ (((s : Int64).toUInt64 >>> ((30 : Int32).toInt64.toUInt64 &&& Int64.toUInt64 63)).toInt64)) * (-4658895280553007687)
  let v4 := (v3 ^^^ (((v3 : Int64).toUInt64 >>> ((27 : Int32).toInt64.toUInt64 &&& Int64.toUInt64 63)).toInt64)) * (-7723592293110705685)
  ((v4 ^^^ (((v4 : Int64).toUInt64 >>> ((31 : Int32).toInt64.toUInt64 &&& Int64.toUInt64 63)).toInt64) : Int64).toUInt64 >>> ((1 : Int32).toInt64.toUInt64 &&& Int64.toUInt64 63)).toInt64
def ov (n : Int32) : Int64 := ((9223372036854775807 - 9223372036854775807 / n.toInt64 * n.toInt64) + 1) - ((9223372036854775807 - 9223372036854775807 / n.toInt64 * n.toInt64) + 1) / n.toInt64 * n.toInt64
def lim (n : Int32) : Int64 := 9223372036854775807 - ov n
theorem draw_X (zd : OS) : mX1_draw zd = some (dv (zd.2.1 0 + dg), sL zd 0 (zd.2.1 0 + dg)) := rfl
theorem draw_M (zx : OS) : mX10_draw zx = some (dv (zx.2.1 26 + dg), sL zx 26 (zx.2.1 26 + dg)) := rfl
def rmd (v : Int64) (n : Int32) : Int32 := (v - v / n.toInt64 * n.toInt64).toInt32
def bel (n : Int32) : Nat → Int64 → Int32 × Int64
  | 0, s => (0, s)
  | m + 1, s => if 0 < (lg_cmp (dv (s + dg)) (lim n) : Int32) then bel n m (s + dg) else (rmd (dv (s + dg)) n, s + dg)
/-- within m draws one is taken -/
def tkn (n : Int32) : Nat → Int64 → Prop
  | 0, _ => False
  | m + 1, s => 0 < (lg_cmp (dv (s + dg)) (lim n) : Int32) → tkn n m (s + dg)
theorem sLL (σ : OS) (k : Nat) (a b : Int64) : sL (sL σ k a) k b = sL σ k b := by
  unfold sL
  simp only [bx_uu]
theorem sLg (σ : OS) (k : Nat) (a : Int64) : (sL σ k a).2.1 k = a := va_up_self _ _ _
theorem under_loop (F : Nat) (n : Int32) (hn : ¬ n.toInt64 = 0) : ∀ (m : Nat) (f i : Nat) (zd : OS), tkn n m (zd.2.1 0) → m < f → i + m ≤ 1000000 → mX1_drawUnder_b29 F f zd n (lim n) (nI i) = some ((bel n m (zd.2.1 0)).1, sL zd 0 (bel n m (zd.2.1 0)).2) := by
  intro m
  induction m with
  | zero => intro f i zd h; exact absurd h id
  | succ m ih =>
    intro f i zd h h1 h2
    obtain ⟨f, rfl⟩ : ∃ q, f = q + 1 := ⟨f - 1, by omega⟩
    unfold mX1_drawUnder_b29
    rw [if_neg (ge_lit (y := 1000000) (b := 1000000) rfl (by omega) (by omega)), draw_X, b2s]
    by_cases c : 0 < (lg_cmp (dv (zd.2.1 0 + dg)) (lim n) : Int32)
    · rw [if_pos c, nms, nI_1]
      have h3 := ih f (i + 1) (sL zd 0 (zd.2.1 0 + dg)) (by rw [sLg]; exact h c) (by omega) (by omega)
      rw [h3, sLg, sLL]
      simp only [bel, if_pos c]
    · rw [if_neg c, nzls hn]
      simp only [bel, if_neg c]
      rfl
theorem below_loop (F : Nat) (n : Int32) (hn : ¬ n.toInt64 = 0) : ∀ (m : Nat) (f : Nat) (zx : OS) (s : Int64), tkn n (m + 1) s → zx.2.1 26 = s + dg → m < f → mX10_drawBelow_b18 F f zx n (ov n) (dv (s + dg)) = some ((bel n (m + 1) s).1, sL zx 26 (bel n (m + 1) s).2) := by
  intro m
  induction m with
  | zero =>
    intro f zx s h e h1
    obtain ⟨f, rfl⟩ : ∃ q, f = q + 1 := ⟨f - 1, by omega⟩
    unfold mX10_drawBelow_b18
    rw [show (9223372036854775807 - ov n) = lim n from rfl]
    have c : ¬ 0 < (lg_cmp (dv (s + dg)) (lim n) : Int32) := fun c => h c
    rw [if_pos (Int32.not_lt.mp c), nzls hn]
    simp only [bel, if_neg c]
    rw [← e]
    congr 2
    unfold sL
    rw [show va_up zx.2.1 26 (zx.2.1 26) = zx.2.1 from funext fun j => by
      by_cases q : j = 26
      · subst q; exact va_up_self _ _ _
      · exact va_up_ne _ _ q]
  | succ m ih =>
    intro f zx s h e h1
    obtain ⟨f, rfl⟩ : ∃ q, f = q + 1 := ⟨f - 1, by omega⟩
    unfold mX10_drawBelow_b18
    rw [show (9223372036854775807 - ov n) = lim n from rfl]
    by_cases c : 0 < (lg_cmp (dv (s + dg)) (lim n) : Int32)
    · rw [if_neg (Int32.not_le.mpr c), draw_M, b2s, e]
      have h3 := ih f (sL zx 26 (s + dg + dg)) (s + dg) (h c) (sLg _ _ _) (by omega)
      rw [h3, sLL]
      conv => rhs; rw [bel]
      rw [if_pos c]
    · rw [if_pos (Int32.not_lt.mp c), nzls hn]
      have e2 : bel n (m + 1 + 1) s = (rmd (dv (s + dg)) n, s + dg) := by rw [bel]; rw [if_neg c]
      rw [e2]
      dsimp only
      rw [← e]
      congr 2
      unfold sL
      rw [show va_up zx.2.1 26 (zx.2.1 26) = zx.2.1 from funext fun j => by
        by_cases q : j = 26
        · subst q; exact va_up_self _ _ _
        · exact va_up_ne _ _ q]
/-- of twelve draws in a row one at least is taken, whatever the state -/
theorem acc (n : Nat) (h1 : 1 ≤ n) (h2 : n < 2 ^ 31) (s : Int64) : tkn (nI n) 12 s := sorry
theorem bel_ex (n : Nat) (s : Int64) : ∃ q : Int32 × Int64, bel (nI n) 12 s = q := ⟨_, rfl⟩
noncomputable def blw (n : Nat) (s : Int64) : Int32 × Int64 := Classical.choose (bel_ex n s)
theorem blw_e (n : Nat) (s : Int64) : bel (nI n) 12 s = blw n s := Classical.choose_spec (bel_ex n s)
theorem n64 {n : Nat} (h1 : 1 ≤ n) (h2 : n < 2 ^ 31) : ¬ (nI n).toInt64 = 0 := by
  rw [nI_l h2]
  intro z
  have : n = 0 := (lN_eq (b := 0) h2 (by omega)).mp z
  omega
theorem under_X (F n : Nat) (hF : 12 < F) (h1 : 1 ≤ n) (h2 : n < 2 ^ 31) (zd : OS) : mX1_drawUnder F zd (nI n) = some ((blw n (zd.2.1 0)).1, sL zd 0 (blw n (zd.2.1 0)).2) := by
  unfold mX1_drawUnder mX1_drawUnder_b0
  rw [if_pos (le_litA (y := 1) (a := 1) rfl h1 h2), nzls (n64 h1 h2), nzls (n64 h1 h2)]
  have h := under_loop F (nI n) (n64 h1 h2) 12 F 0 zd (acc n h1 h2 _) hF (by omega)
  rw [blw_e] at h
  exact h
theorem below_M (F n : Nat) (hF : 12 < F) (h1 : 1 ≤ n) (h2 : n < 2 ^ 31) (zx : OS) : mX10_drawBelow F zx (nI n) = some ((blw n (zx.2.1 26)).1, sL zx 26 (blw n (zx.2.1 26)).2) := by
  unfold mX10_drawBelow mX10_drawBelow_b0
  rw [nzls (n64 h1 h2), nzls (n64 h1 h2), nms, draw_M, b2s]
  have h := below_loop F (nI n) (n64 h1 h2) 11 F (sL zx 26 (zx.2.1 26 + dg)) (zx.2.1 26) (acc n h1 h2 _) (sLg _ _ _) (by omega)
  rw [show 11 + 1 = 12 from rfl, blw_e, sLL] at h
  exact h
noncomputable def nx (n : Nat) (s : Int64) : Int64 := (blw n s).2
def seqS (g : Int64 → Int64) : Nat → Int64 → Int64
  | 0, s => s
  | k + 1, s => seqS g k (g s)
theorem seqS_0 (g : Int64 → Int64) (s : Int64) : seqS g 0 s = s := rfl
theorem seqS_1 (g : Int64 → Int64) (k : Nat) (s : Int64) : seqS g (k + 1) s = seqS g k (g s) := rfl
theorem nx_e (n : Nat) (s : Int64) : nx n s = (blw n s).2 := rfl
theorem belX_loop (F n : Nat) (hF : 12 < F) (h1 : 1 ≤ n) (h2 : n < 2 ^ 31) (k : Nat) (hk : k ≤ 1000) : ∀ (d f i : Nat) (zd : OS), i + d = k → d < f → mX9_below_b33 F f zd (nI n) (nI k) (nI i) = some (blw n (seqS (nx n) d (zd.2.1 0))).1 := by
  intro d
  induction d with
  | zero =>
    intro f i zd h3 h4
    obtain ⟨f, rfl⟩ : ∃ q, f = q + 1 := ⟨f - 1, by omega⟩
    unfold mX9_below_b33
    rw [if_pos (nI_le (by omega) (by omega)), under_X F n hF h1 h2, b2s, seqS_0]
  | succ d ih =>
    intro f i zd h3 h4
    obtain ⟨f, rfl⟩ : ∃ q, f = q + 1 := ⟨f - 1, by omega⟩
    unfold mX9_below_b33
    rw [if_neg (nI_ge (by omega) (by omega)), under_X F n hF h1 h2, b2s, nms, nI_1, ih f (i + 1) _ (by omega) (by omega), sLg, seqS_1, nx_e]
theorem belM_loop (F n : Nat) (hF : 12 < F) (h1 : 1 ≤ n) (h2 : n < 2 ^ 31) (k : Nat) (hk : k ≤ 1000) : ∀ (d f i : Nat) (zx : OS) (s : Int64), i + d = k → d < f → zx.2.1 26 = (blw n s).2 → ∃ t, mX10_below_b36 F f zx (nI n) (nI k) (blw n s).1 (nI i) = some ((blw n (seqS (nx n) d s)).1, sL zx 26 t) := by
  intro d
  induction d with
  | zero =>
    intro f i zx s h3 h4 h5
    obtain ⟨f, rfl⟩ : ∃ q, f = q + 1 := ⟨f - 1, by omega⟩
    refine ⟨zx.2.1 26, ?_⟩
    unfold mX10_below_b36
    rw [if_pos (nI_le (by omega) (by omega)), seqS_0]
    congr 2
    unfold sL
    rw [show va_up zx.2.1 26 (zx.2.1 26) = zx.2.1 from funext fun j => by
      by_cases q : j = 26
      · subst q; exact va_up_self _ _ _
      · exact va_up_ne _ _ q]
  | succ d ih =>
    intro f i zx s h3 h4 h5
    obtain ⟨f, rfl⟩ : ∃ q, f = q + 1 := ⟨f - 1, by omega⟩
    unfold mX10_below_b36
    rw [if_neg (nI_ge (by omega) (by omega)), below_M F n hF h1 h2, b2s, nms, nI_1, h5]
    obtain ⟨t, ht⟩ := ih f (i + 1) (sL zx 26 (blw n (blw n s).2).2) (blw n s).2 (by omega) (by omega) (sLg _ _ _)
    exact ⟨t, by rw [ht, sLL, seqS_1, nx_e]⟩
theorem R_below {zt zs zg zh zu zl zc zw zx : OS} (h : Rel zt zs zg zh zu zl zc zw zx) (p0 : Int64) (p1 : Int32) (p2 : Int32) : ∃ (F1 F2 : Nat) (r : Int32) (zx' : OS), mX9_below F1  p0 p1 p2 = some r ∧ mX10_below F2 zx p0 p1 p2 = some (r, zx') ∧ Rel zt zs zg zh zu zl zc zw zx' := by
  refine ⟨1100, 1100, ?_⟩
  unfold mX9_below mX10_below mX10_below_b0
  rw [iw]
  by_cases c : p1 < 1
  · rw [if_pos c, if_pos c]
    exact ⟨-2, zx, rfl, rfl, h⟩
  · rw [if_neg c, if_neg c]
    by_cases d : 0 ≤ p2 ∧ p2 ≤ 1000
    · rw [if_pos d, b1s, if_neg z01, if_neg (Int32.not_lt.mpr d.1), if_pos d.2]
      obtain ⟨k, hk, rfl⟩ := le_nI (n := 1000) (by omega) d.1 d.2
      obtain ⟨n, hn, rfl⟩ := nI_of (x := p1) (fun z => c (Int32.lt_trans z (by decide)))
      have h1 : 1 ≤ n := Nat.not_lt.mp (fun z => c (by rw [show n = 0 by omega]; decide))
      obtain ⟨t, ht⟩ := belM_loop 1100 n (by omega) h1 hn k (by omega) k 1100 0 (sL (sL zx 26 p0) 26 (blw n p0).2) p0 (by omega) (by omega) (sLg _ _ _)
      refine ⟨(blw n (seqS (nx n) k p0)).1, sL (sL (sL zx 26 p0) 26 (blw n p0).2) 26 t, ?_, ?_, h⟩
      · show b1 (some (sL zOS 0 p0)) _ = _
        rw [b1s, nms, show (0 : Int32) = nI 0 from rfl, belX_loop 1100 n (by omega) h1 hn k (by omega) k 1100 0 _ (by omega) (by omega), sLg]
      · rw [nms, below_M 1100 n (by omega) h1 hn, b2s, nms, sLg]
        exact ht
    · rw [if_neg d, b1s, if_pos rfl]
      refine ⟨-2, zx, rfl, ?_, h⟩
      by_cases c1 : p2 < 0
      · rw [if_pos c1]
      · rw [if_neg c1, if_neg (fun z => d ⟨Int32.not_lt.mp c1, z⟩)]

/-! make, second: frames, the list yet to come, a choice on both sides -/
def Fr (I R : List Nat) (z z' : OS) : Prop := (∀ k, k ∉ I → z'.1 k = z.1 k) ∧ z'.2.1 = z.2.1 ∧ (∀ k, k ∉ R → z'.2.2.1 k = z.2.2.1 k) ∧ z'.2.2.2 = z.2.2.2
theorem Fr_r (I R : List Nat) (z : OS) : Fr I R z z := ⟨fun _ _ => rfl, rfl, fun _ _ => rfl, rfl⟩
theorem Fr_t {I R : List Nat} {a b c : OS} (h : Fr I R a b) (g : Fr I R b c) : Fr I R a c := ⟨fun k hk => (g.1 k hk).trans (h.1 k hk), g.2.1.trans h.2.1, fun k hk => (g.2.2.1 k hk).trans (h.2.2.1 k hk), g.2.2.2.trans h.2.2.2⟩
theorem Fr_I {I R : List Nat} {a b : OS} (h : Fr I R a b) {k : Nat} (hk : k ∈ I) (v : Int32) : Fr I R a (sI b k v) := ⟨fun j hj => (va_up_ne _ _ (fun e => hj (by rw [e]; exact hk))).trans (h.1 j hj), h.2.1, h.2.2.1, h.2.2.2⟩
theorem Fr_A {I R : List Nat} {a b : OS} (h : Fr I R a b) {k : Nat} (hk : k ∈ R) (i v : Int32) : Fr I R a (sA b k i v) := ⟨h.1, h.2.1, fun j hj => (va_up_ne _ _ (fun e => hj (by rw [e]; exact hk))).trans (h.2.2.1 j hj), h.2.2.2⟩
def bsI : List Nat := [24, 25, 29, 30, 31, 32, 33, 34, 35, 36, 47]
def bsR : List Nat := [20, 21, 22, 23, 27, 28, 37, 38, 39, 40, 41, 42, 43, 44, 45]
def Bs (z0 z : OS) : Prop := (∀ k, k ∉ bsI → z.1 k = z0.1 k) ∧ ∀ k, k ∉ bsR → z.2.2.1 k = z0.2.2.1 k
theorem Bs_r (z : OS) : Bs z z := ⟨fun _ _ => rfl, fun _ _ => rfl⟩
theorem Bs_I {a b : OS} (h : Bs a b) {k : Nat} (hk : k ∈ bsI) (v : Int32) : Bs a (sI b k v) := ⟨fun j hj => (va_up_ne _ _ (fun e => hj (by rw [e]; exact hk))).trans (h.1 j hj), h.2⟩
theorem Bs_A {a b : OS} (h : Bs a b) {k : Nat} (hk : k ∈ bsR) (i v : Int32) : Bs a (sA b k i v) := ⟨h.1, fun j hj => (va_up_ne _ _ (fun e => hj (by rw [e]; exact hk))).trans (h.2 j hj)⟩
theorem Bs_F {I R : List Nat} {a b c : OS} (h : Bs a b) (g : Fr I R b c) (hI : ∀ k, k ∈ I → k ∈ bsI) (hR : ∀ k, k ∈ R → k ∈ bsR) : Bs a c := ⟨fun k hk => (g.1 k (fun e => hk (hI k e))).trans (h.1 k hk), fun k hk => (g.2.2.1 k (fun e => hk (hR k e))).trans (h.2 k hk)⟩
theorem updL_s {f : Nat → Int64} {k : Nat} {x : Int64} : vp_updL f k x k = x := if_pos rfl
theorem updL_n {f : Nat → Int64} {k j : Nat} {x : Int64} (h : j ≠ k) : vp_updL f k x j = f j := if_neg h
/-- the reference's list, from a cell on, of cells below c -/
def Cel (sg nx : Nat → Int32) (c : Nat) : List Nat → Int32 → Prop
  | [], h => h = -1
  | s :: L, h => ∃ j, j < c ∧ h = nI j ∧ sg j = nI s ∧ Cel sg nx c L (nx j)
theorem Cel_fr {sg nx sg' nx' : Nat → Int32} {c c' : Nat} (hc : c ≤ c') (he : ∀ j, j < c → sg' j = sg j ∧ nx' j = nx j) : ∀ (L : List Nat) (h : Int32), Cel sg nx c L h → Cel sg' nx' c' L h := by
  intro L
  induction L with
  | nil => intro h g; exact g
  | cons s L ih =>
    rintro h ⟨j, hj, e1, e2, g⟩
    refine ⟨j, by omega, e1, (he j hj).1.trans e2, ?_⟩
    rw [(he j hj).2]
    exact ih _ g
theorem Cel_push {sg nx : Nat → Int32} {c : Nat} {L : List Nat} {h : Int32} (s : Nat) (g : Cel sg nx c L h) : Cel (upd sg c (nI s)) (upd nx c h) (c + 1) (s :: L) (nI c) := by
  refine ⟨c, Nat.lt_succ_self c, rfl, pk_us, ?_⟩
  rw [pk_us]
  exact Cel_fr (Nat.le_succ c) (fun j hj => ⟨pk_un (by omega), pk_un (by omega)⟩) L h g
theorem put_M (z : OS) {c : Nat} (hc : z.1 29 = nI c) (h : c < 40000) (s : Int32) : ∃ z', mX10_put z s = some z' ∧ z'.1 29 = nI (c + 1) ∧ z'.1 30 = nI c ∧ z'.1 31 = z.1 31 + 1 ∧ z'.2.2.1 27 = upd (z.2.2.1 27) c s ∧ z'.2.2.1 28 = upd (z.2.2.1 28) c (z.1 30) ∧ Fr [29, 30, 31] [27, 28] z z' := by
  refine ⟨sI (sI (sI (sA (sA z 27 (nI c) s) 28 (nI c) (z.1 30)) 30 (nI c)) 29 (nI (c + 1))) 31 (z.1 31 + 1), ?_, rfl, rfl, rfl, ?_, ?_, ?_⟩
  · unfold mX10_put mX10_put_b0
    simp only [nms]
    rw [hc, gds (vp_in_nI h (by omega)), show (sA z 27 (nI c) s).1 29 = nI c from hc, gds (vp_in_nI h (by omega))]
    rw [show (sA z 27 (nI c) s).1 30 = z.1 30 from rfl, show (sA (sA z 27 (nI c) s) 28 (nI c) (z.1 30)).1 29 = nI c from hc]
    rw [show (sI (sA (sA z 27 (nI c) s) 28 (nI c) (z.1 30)) 30 (nI c)).1 29 = nI c from hc, nI_1]
    rfl
  · show upd (z.2.2.1 27) (nI c).toNatClampNeg s = _
    rw [nI_clamp (by omega)]
  · show upd (z.2.2.1 28) (nI c).toNatClampNeg (z.1 30) = _
    rw [nI_clamp (by omega)]
  · exact Fr_I (Fr_I (Fr_I (Fr_A (Fr_A (Fr_r _ _ z) (by decide) _ _) (by decide) _ _) (by decide) _) (by decide) _) (by decide) _
def g200 (n : Nat) : Int32 := if 200 < n then 0 else 1
theorem puts_M (F : Nat) {a fs : Nat} (ha : a < 96) (hfs : fs < 1000) : ∀ (m f : Nat) (z : OS) (c : Nat) (L : List Nat), m < f → z.2.2.1 6 a = nI fs → c + m ≤ 40000 → z.1 29 = nI c → z.1 31 = nI L.length → Cel (z.2.2.1 27) (z.2.2.1 28) c L (z.1 30) → L.length + m < 1000 → ∃ z', mX10_choose_b147 F f z (nI a) (nI m - 1) = some (g200 (L.length + m), z') ∧ z'.1 29 = nI (c + m) ∧ z'.1 31 = nI (L.length + m) ∧ Cel (z'.2.2.1 27) (z'.2.2.1 28) (c + m) (List.range' fs m ++ L) (z'.1 30) ∧ (∀ j, j < c → z'.2.2.1 27 j = z.2.2.1 27 j ∧ z'.2.2.1 28 j = z.2.2.1 28 j) ∧ Fr [29, 30, 31] [27, 28] z z' := by
  intro m
  induction m with
  | zero =>
    intro f z c L hf h6 hc e29 e31 hC hL
    obtain ⟨f, rfl⟩ : ∃ g, f = g + 1 := ⟨f - 1, by omega⟩
    refine ⟨z, ?_, e29, e31, hC, fun j _ => ⟨rfl, rfl⟩, Fr_r _ _ z⟩
    rw [mX10_choose_b147, if_pos (by decide), e31]
    by_cases g : 200 < L.length
    · rw [if_pos (show (200 : Int32) < nI L.length from nI_lt (a := 200) g (by omega))]
      exact congrArg some (congrArg (·, z) (if_pos g).symm)
    · rw [if_neg (show ¬ (200 : Int32) < nI L.length from nI_nlt (b := L.length) (a := 200) (by omega) (by omega))]
      exact congrArg some (congrArg (·, z) (if_neg g).symm)
  | succ m ih =>
    intro f z c L hf h6 hc e29 e31 hC hL
    obtain ⟨f, rfl⟩ : ∃ g, f = g + 1 := ⟨f - 1, by omega⟩
    obtain ⟨z1, p0, p1, p2, p3, p4, p5, p6⟩ := put_M z e29 (by omega) (nI (fs + m))
    obtain ⟨z2, q0, q1, q2, q3, q4, q5⟩ := ih f z1 (c + 1) ((fs + m) :: L) (by omega) (by rw [p6.2.2.1 6 (by decide)]; exact h6) (by omega) p1 (by rw [p3, e31, nI_1]; rfl) (by rw [p4, p5, p2]; exact Cel_push _ hC) (by simp; omega)
    refine ⟨z2, ?_, ?_, ?_, ?_, ?_, Fr_t p6 q5⟩
    · rw [mX10_choose_b147, nI_pred, if_neg (nI_pos (by omega)), gds (vp_in_nI ha (by omega)), nI_clamp (by omega), h6, nI_add, p0, b1s, nms, ← Int32.sub_eq_add_neg, q0]
      rw [show ((fs + m) :: L).length + m = L.length + (m + 1) by simp; omega]
    · rw [q1, show c + 1 + m = c + (m + 1) by omega]
    · rw [q2]; simp only [List.length_cons]; rw [show L.length + 1 + m = L.length + (m + 1) by omega]
    · rw [show c + (m + 1) = c + 1 + m by omega, List.range'_concat]
      simpa using q3
    · intro j hj
      have := q4 j (by omega)
      rw [p4, p5, pk_un (by omega), pk_un (by omega)] at this
      exact this
abbrev GT : Type := (Nat → Nat) × (Nat → Nat) × (Nat → Nat) × (Nat → Nat) × (Nat → Nat) × Nat
def gFa (g : GT) : Nat → Nat := g.1
def gAl (g : GT) : Nat → Nat := g.2.1
def gWt (g : GT) : Nat → Nat := g.2.2.1
def gFs (g : GT) : Nat → Nat := g.2.2.2.1
def gSc (g : GT) : Nat → Nat := g.2.2.2.2.1
def gS (g : GT) : Nat := g.2.2.2.2.2
def AF (g : GT) (zg z : OS) (a : Nat) : Prop := 1 ≤ gWt g a ∧ gWt g a ≤ 999 ∧ 1 ≤ gSc g a ∧ gSc g a ≤ 12 ∧ gFs g a + gSc g a ≤ gS g ∧ zg.2.2.1 4 a = nI (gWt g a) ∧ z.2.2.1 5 a = nI (gWt g a) ∧ zg.2.2.1 5 a = nI (gFs g a) ∧ z.2.2.1 6 a = nI (gFs g a) ∧ zg.2.2.1 6 a = nI (gFs g a + gSc g a) ∧ z.2.2.1 7 a = nI (gSc g a)
def LF (g : GT) (zg z : OS) (q : Nat) : Prop := q < 26 ∧ 0 < gAl g q ∧ gFa g q + gAl g q ≤ 48 ∧ zg.2.2.1 1 q = nI (gAl g q) ∧ z.2.2.1 4 q = nI (gAl g q) ∧ zg.2.2.1 2 q = nI (sumW (gWt g) (gFa g q) (gAl g q)) ∧ zg.2.2.1 0 q = nI (gFa g q) ∧ z.2.2.1 3 q = nI (gFa g q) ∧ ∀ i, i < gAl g q → AF g zg z (gFa g q + i)
def GF (g : GT) (zg z : OS) : Prop := gS g ≤ 240 ∧ (∀ q, q < 26 → 0 < gAl g q → LF g zg z q) ∧ ∀ s, s < gS g → RS (gAl g) zg z s
theorem GF_B {g : GT} {zg z0 z : OS} (h : GF g zg z0) (hB : Bs z0 z) : GF g zg z := by
  refine ⟨h.1, fun q hq h0 => ?_, fun s hs => ?_⟩
  · obtain ⟨a1, a2, a3, a4, a5, a6, a7, a8, a9⟩ := h.2.1 q hq h0
    refine ⟨a1, a2, a3, a4, by rw [hB.2 4 (by decide)]; exact a5, a6, a7, by rw [hB.2 3 (by decide)]; exact a8, fun i hi => ?_⟩
    have := a9 i hi
    unfold AF at this ⊢
    rw [hB.2 5 (by decide), hB.2 6 (by decide), hB.2 7 (by decide)]
    exact this
  · have := h.2.2 s hs
    unfold RS at this ⊢
    rw [hB.2 8 (by decide), hB.2 9 (by decide), hB.2 10 (by decide), hB.2 11 (by decide)]
    exact this
/-- what is left at a place -/
def lft (g : GT) (q : Nat) (x : Int64) : Nat := usm (gWt g) (gFa g q) x (gAl g q) 0
theorem lft_lt {g : GT} {zg z : OS} {q : Nat} (h : LF g zg z q) (x : Int64) : lft g q x < 48000 := by
  obtain ⟨a1, a2, a3, a4, a5, a6, a7, a8, a9⟩ := h
  have := usm_le (gWt g) (gFa g q) x (gAl g q) 0 (fun j _ hj => (a9 j (by omega)).2.1)
  unfold lft
  omega
noncomputable def chs (g : GT) (q : Nat) (x : Int64) (st : Int64) : Nat := pkI (gWt g) (gFa g q) x (gAl g q) 0 (blw (lft g q x) st).1.toNatClampNeg
theorem chs_ok {g : GT} {zg z : OS} {q : Nat} (h : LF g zg z q) {x : Int64} (h0 : 0 < lft g q x) (st : Int64) : chs g q x st < gAl g q ∧ gb x (chs g q x st) = false ∧ lft g q (trd x (chs g q x st)) + gWt g (gFa g q + chs g q x st) = lft g q x ∧ ∃ r, r < lft g q x ∧ (blw (lft g q x) st).1 = nI r ∧ chs g q x st = pkI (gWt g) (gFa g q) x (gAl g q) 0 r := by
  have hl := lft_lt h x
  obtain ⟨a1, a2, a3, a4, a5, a6, a7, a8, a9⟩ := h
  obtain ⟨r, hr, er⟩ := blw_lt (show 1 ≤ lft g q x by omega) (by omega) st
  have e : chs g q x st = pkI (gWt g) (gFa g q) x (gAl g q) 0 r := by unfold chs; rw [er, nI_clamp (by omega)]
  have p := pkI_ok (gWt g) (gFa g q) x (gAl g q) 0 r hr
  rw [← e] at p
  exact ⟨by omega, p.2.2, usm_trd (gWt g) (gFa g q) x p.2.2 (gAl g q) 0 (by omega) (by omega) (by omega), r, hr, er, e⟩
theorem left_M (F : Nat) (hF : 60 < F) {g : GT} {zg z : OS} {q d : Nat} (h : LF g zg z q) (hd : d < 3002) (hD : z.1 47 = nI (d + 1)) (h37 : z.2.2.1 37 d = nI q) : mX10_left F z = some (nI (lft g q (z.2.2.2 46 d))) := by
  obtain ⟨a1, a2, a3, a4, a5, a6, a7, a8, a9⟩ := h
  unfold mX10_left mX10_left_b0
  rw [hD, nI_pred, gds (vp_in_nI hd (by omega)), nI_clamp (by omega), h37]
  simp only [nms]
  have e := m_left F z hd a1 a3 rfl hD a8 a5 (fun j hj => ⟨(a9 j hj).2.1, (a9 j hj).2.2.2.2.2.2.1⟩) (gAl g q) 0 F 0 (by omega) (by omega)
  rw [Nat.zero_add] at e
  exact e
theorem choose_M (F : Nat) (hF : 60 < F) (hN : dN < F) {g : GT} {zg z : OS} {q d T c : Nat} {x : Int64} {L : List Nat} (h : LF g zg z q) (hg : gS g ≤ 240) (hd : d < 3002) (hD : z.1 47 = nI (d + 1)) (h37 : z.2.2.1 37 d = nI q) (hx : z.2.2.2 46 d = x) (h0 : 0 < lft g q x) (hT : z.1 25 = nI T) (hc : z.1 29 = nI c) (hc2 : c ≤ 39000) (h31 : z.1 31 = nI L.length) (hL : L.length ≤ 200) (hC : Cel (z.2.2.1 27) (z.2.2.1 28) c L (z.1 30)) : ∃ z', mX10_choose F z (nI (lft g q x)) = some (g200 (L.length + gSc g (gFa g q + chs g q x (z.2.1 26))), z') ∧ z'.1 25 = nI (T + 1) ∧ z'.2.1 26 = (blw (lft g q x) (z.2.1 26)).2 ∧ z'.2.2.2 46 = vp_updL (z.2.2.2 46) d (trd x (chs g q x (z.2.1 26))) ∧ z'.1 29 = nI (c + gSc g (gFa g q + chs g q x (z.2.1 26))) ∧ z'.1 31 = nI (L.length + gSc g (gFa g q + chs g q x (z.2.1 26))) ∧ Cel (z'.2.2.1 27) (z'.2.2.1 28) (c + gSc g (gFa g q + chs g q x (z.2.1 26))) (List.range' (gFs g (gFa g q + chs g q x (z.2.1 26))) (gSc g (gFa g q + chs g q x (z.2.1 26))) ++ L) (z'.1 30) ∧ (∀ j, j < c → z'.2.2.1 27 j = z.2.2.1 27 j ∧ z'.2.2.1 28 j = z.2.2.1 28 j) ∧ (∀ k, k ∉ [25, 29, 30, 31] → z'.1 k = z.1 k) ∧ (∀ k, k ∉ [27, 28] → z'.2.2.1 k = z.2.2.1 k) := by
  have hl := lft_lt h x
  obtain ⟨c1, c2, c3, r, hr, er, ek⟩ := chs_ok h h0 (z.2.1 26)
  obtain ⟨k, hk⟩ : ∃ k, k = chs g q x (z.2.1 26) := ⟨_, rfl⟩
  rw [← hk] at c1 c2 c3 ek ⊢
  obtain ⟨a1, a2, a3, a4, a5, a6, a7, a8, a9⟩ := h
  obtain ⟨f1, f2, f3, f4, f5, f6, f7, f8, f9, f10, f11⟩ := a9 k c1
  obtain ⟨s', hs'⟩ : ∃ s', s' = (blw (lft g q x) (z.2.1 26)).2 := ⟨_, rfl⟩
  obtain ⟨z1, hz1⟩ : ∃ z1, z1 = sB (sI (sL z 26 s') 25 (nI (T + 1))) 46 (nI d) (trd x k) := ⟨_, rfl⟩
  obtain ⟨m, hm⟩ : ∃ m, gSc g (gFa g q + k) = m := ⟨_, rfl⟩
  rw [hm] at f3 f4 f5 f11 ⊢
  obtain ⟨z2, q0, q1, q2, q3, q4, q5⟩ := puts_M F (a := gFa g q + k) (fs := gFs g (gFa g q + k)) (by omega) (by omega) m F z1 c L (by omega) (by rw [hz1]; exact f9) (by omega) (by rw [hz1]; exact hc) (by rw [hz1]; exact h31) (by rw [hz1]; exact hC) (by omega)
  refine ⟨z2, ?_, ?_, ?_, ?_, q1, q2, q3, ?_, ?_, ?_⟩
  · unfold mX10_choose mX10_choose_b0
    rw [hD, nI_pred, gds (vp_in_nI hd (by omega)), nI_clamp (by omega), h37, nms, below_M F _ hN (by omega) (by omega), b2s, er, ← hs']
    simp only [nms]
    rw [show (sL z 26 s').1 25 = nI T from hT, nI_1]
    have e := m_chM F (sI (sL z 26 s') 25 (nI (T + 1))) (d := d) (q := q) (fa := gFa g q) (al := gAl g q) (x := x) (wt := gWt g) hd a1 a3 hx hD a8 a5 (fun j hj => ⟨(a9 j hj).2.1, (a9 j hj).2.2.2.2.2.2.1⟩) (gAl g q) 0 F r (by omega) (by omega) hr (by omega)
    rw [show nI 0 = 0 from rfl] at e
    rw [e, ← ek]
    unfold mX10_choose_b107
    rw [show (sI (sL z 26 s') 25 (nI (T + 1))).1 47 = nI (d + 1) from hD, nI_pred, gds (vp_in_nI hd (by omega)), gds (vp_in_nI hd (by omega)), nI_clamp (by omega), show (sI (sL z 26 s') 25 (nI (T + 1))).2.2.2 46 d = x from hx]
    simp only [nms]
    rw [show (x ||| 1 <<< ((nI k).toInt64 &&& 63)) = trd x k from rfl, ← hz1, gds (vp_in_nI (show q < 52 by omega) (by omega)), nI_clamp (by omega), show z1.2.2.1 3 q = nI (gFa g q) from by rw [hz1]; exact a8, nI_add, gds (vp_in_nI (show gFa g q + k < 96 by omega) (by omega)), nI_clamp (by omega), show z1.2.2.1 7 (gFa g q + k) = nI m from by rw [hz1]; exact f11, q0]
  · rw [q5.1 25 (by decide), hz1]; rfl
  · rw [q5.2.1, hz1, ← hs']; rfl
  · rw [q5.2.2.2, hz1]
    show vp_updL (z.2.2.2 46) (nI d).toNatClampNeg (trd x k) = _
    rw [nI_clamp (by omega)]
  · intro j hj
    have := q4 j hj
    rw [hz1] at this
    exact this
  · intro j hj
    rw [q5.1 j (fun e => hj (List.mem_cons_of_mem _ e)), hz1]
    exact va_up_ne _ _ (fun e => hj (e ▸ List.mem_cons_self ..))
  · intro j hj
    rw [q5.2.2.1 j hj, hz1]
    rfl
theorem take_X (F : Nat) (hF : 60 < F) (hN : dN < F) {g : GT} {zg z zk zd zu zl : OS} {q d T n N l : Nat} {x : Int64} (h : LF g zg z q) (hg : gS g ≤ 240) (hd : d < 3001) (h0l : zl.2.2.1 0 d = nI q) (hx : zl.2.2.2 2 d = x) (h1l : zl.2.2.1 1 d = nI (lft g q x)) (h0 : 0 < lft g q x) (hT : zk.1 6 = nI T) (h3 : zl.2.2.1 3 d = nI n) (hn : n ≤ N) (hN2 : N ≤ 256) (hu : zu.1 6 = nI N) (h4 : zl.2.2.1 4 d = nI l) (hl : l ≤ 200) : mX3_takeAnother F zk zd zg zu zl (nI d) = some (sI (sI (sI (sI (sI zk 6 (nI (T + 1))) 9 (nI (gFs g (gFa g q + chs g q x (zd.2.1 0))))) 10 (nI (gFs g (gFa g q + chs g q x (zd.2.1 0)) + gSc g (gFa g q + chs g q x (zd.2.1 0))))) 11 (nI d)) 8 (nI (l + gSc g (gFa g q + chs g q x (zd.2.1 0)))), sL zd 0 (blw (lft g q x) (zd.2.1 0)).2, sI zu 6 (nI n), sA (sB zl 2 (nI d) (trd x (chs g q x (zd.2.1 0)))) 1 (nI d) (nI (lft g q (trd x (chs g q x (zd.2.1 0)))))) := by
  have hlt := lft_lt h x
  obtain ⟨c1, c2, c3, r, hr, er, ek⟩ := chs_ok h h0 (zd.2.1 0)
  obtain ⟨k, hk⟩ : ∃ k, k = chs g q x (zd.2.1 0) := ⟨_, rfl⟩
  rw [← hk] at c1 c2 c3 ek ⊢
  obtain ⟨a1, a2, a3, a4, a5, a6, a7, a8, a9⟩ := h
  obtain ⟨f1, f2, f3, f4, f5, f6, f7, f8, f9, f10, f11⟩ := a9 k c1
  obtain ⟨s', hs'⟩ : ∃ s', s' = (blw (lft g q x) (zd.2.1 0)).2 := ⟨_, rfl⟩
  have e1 : mX3_choose F zk zd zg zu zl (nI d) = some (nI (gFa g q + k), sL zd 0 s', sA (sB zl 2 (nI d) (trd x k)) 1 (nI d) (nI (lft g q (trd x k)))) := by
    unfold mX3_choose mX3_choose_b0
    rw [gds (vp_in_nI hd (by omega)), nI_clamp (by omega), h0l]
    simp only [nms]
    rw [gds (vp_in_nI a1 (by omega)), nI_clamp (by omega), a7, gds (vp_in_nI hd (by omega)), h1l, under_X F _ hN (by omega) (by omega), b2s, er, ← hs']
    have e := m_chX F zk (sL zd 0 s') zg zu zl (d := d) (q := q) (fa := gFa g q) (al := gAl g q) (x := x) (wt := gWt g) hd a1 a3 hx a4 (fun j hj => ⟨(a9 j hj).2.1, (a9 j hj).2.2.2.2.2.1⟩) (gAl g q) 0 F r 0 (by omega) (by omega) hr (by omega)
    rw [show nI 0 = 0 from rfl] at e
    rw [e, ← ek]
    unfold mX3_choose_b115
    rw [gds (vp_in_nI hd (by omega)), gds (vp_in_nI hd (by omega)), nI_clamp (by omega), hx]
    simp only [nms]
    rw [show (x ||| 1 <<< ((nI k).toInt64 &&& 63)) = trd x k from rfl, gds (vp_in_nI hd (by omega)), nI_add, gds (vp_in_nI (show gFa g q + k < 48 by omega) (by omega)), gds (vp_in_nI hd (by omega)), nI_clamp (by omega), f6, show (sB zl 2 (nI d) (trd x k)).2.2.1 1 d = nI (lft g q x) from h1l, nI_sub (by omega), show lft g q x - gWt g (gFa g q + k) = lft g q (trd x k) by omega]
  unfold mX3_takeAnother mX3_takeAnother_b0
  rw [e1, b3s]
  simp only [nms]
  rw [hT, nI_1, gds (vp_in_nI hd (by omega)), nI_clamp (show d < 2 ^ 31 by omega), show (sA (sB zl 2 (nI d) (trd x k)) 1 (nI d) (nI (lft g q (trd x k)))).2.2.1 3 d = nI n from h3]
  have e2 : mX8_shorten zu (nI n) = some (sI zu 6 (nI n)) := by
    unfold mX8_shorten mX8_shorten_b0
    rw [iw, hu, if_pos ⟨nI_pos' (by omega), nI_le hn (by omega)⟩, b1s, if_neg z01]
    rfl
  rw [e2, b1s, gds (vp_in_nI (show gFa g q + k < 48 by omega) (by omega)), gds (vp_in_nI (show gFa g q + k < 48 by omega) (by omega)), nI_clamp (show gFa g q + k < 2 ^ 31 by omega), f8, f10, gds (vp_in_nI hd (by omega)), show (sA (sB zl 2 (nI d) (trd x k)) 1 (nI d) (nI (lft g q (trd x k)))).2.2.1 4 d = nI l from h4]
  rw [show ∀ y : OS, (sI (sI (sI y 9 (nI (gFs g (gFa g q + k)))) 10 (nI (gFs g (gFa g q + k) + gSc g (gFa g q + k)))) 11 (nI d)).1 10 = nI (gFs g (gFa g q + k) + gSc g (gFa g q + k)) from fun _ => rfl]
  rw [show ∀ y : OS, (sI (sI (sI y 9 (nI (gFs g (gFa g q + k)))) 10 (nI (gFs g (gFa g q + k) + gSc g (gFa g q + k)))) 11 (nI d)).1 9 = nI (gFs g (gFa g q + k)) from fun _ => rfl]
  rw [nI_add, nI_sub (by omega), show l + (gFs g (gFa g q + k) + gSc g (gFa g q + k)) - gFs g (gFa g q + k) = l + gSc g (gFa g q + k) by omega]
  rw [hs']

/-! make, third: NOTES and RESTS on both sides -/
def cT (zu : OS) (m : Nat) : Int32 := if m = 0 then 0 else zu.2.2.1 2 (m - 1) + zu.2.2.1 1 (m - 1)
def cN (zu : OS) (m : Nat) : Int32 := if m = 0 then -1 else zu.2.2.1 4 (m - 1)
def cR (zu : OS) (m : Nat) : Int32 := if m = 0 then 0 else zu.2.2.1 5 (m - 1)
def cP (zu : OS) (m : Nat) : Int32 := if cN zu m = -1 then -1 else zu.2.2.1 0 (cN zu m).toNatClampNeg
def cD (zu : OS) (m : Nat) : Int32 := if cN zu m = -1 then -1 else zu.2.2.1 3 (cN zu m).toNatClampNeg
def TP (zu : OS) (m : Nat) : Prop := ∃ t a, m ≤ t ∧ t ≤ 256 ∧ cT zu m = nI t ∧ a ≤ m ∧ cR zu m = nI a ∧ (cN zu m = -1 ∨ ∃ k p dg, k < m ∧ cN zu m = nI k ∧ 36 ≤ p ∧ p ≤ 95 ∧ zu.2.2.1 0 k = nI p ∧ dg < 7 ∧ zu.2.2.1 3 k = nI dg)
theorem nI_m1 {n : Nat} (h : n < 2 ^ 31) : ¬ nI n = -1 := by
  intro e
  have := nI_pos' h
  rw [e] at this
  exact absurd this (by decide)
theorem c_fr {zu zu' : OS} {m : Nat} (hm : m ≤ 256) (h : ∀ i, i < 6 → ∀ j, j < m → zu'.2.2.1 i j = zu.2.2.1 i j) (ht : TP zu m) : cT zu' m = cT zu m ∧ cN zu' m = cN zu m ∧ cR zu' m = cR zu m ∧ cP zu' m = cP zu m ∧ cD zu' m = cD zu m ∧ TP zu' m := by
  have e1 : cT zu' m = cT zu m := by
    unfold cT
    by_cases c : m = 0
    · rw [if_pos c, if_pos c]
    · rw [if_neg c, if_neg c, h 2 (by omega) _ (by omega), h 1 (by omega) _ (by omega)]
  have e2 : cN zu' m = cN zu m := by
    unfold cN
    by_cases c : m = 0
    · rw [if_pos c, if_pos c]
    · rw [if_neg c, if_neg c, h 4 (by omega) _ (by omega)]
  have e3 : cR zu' m = cR zu m := by
    unfold cR
    by_cases c : m = 0
    · rw [if_pos c, if_pos c]
    · rw [if_neg c, if_neg c, h 5 (by omega) _ (by omega)]
  obtain ⟨t, a, h1, h2, h3, h4, h5, h6⟩ := ht
  have e4 : cP zu' m = cP zu m ∧ cD zu' m = cD zu m := by
    unfold cP cD
    rw [e2]
    rcases h6 with h6 | ⟨k, p, dg, hk, hk2, -⟩
    · rw [if_pos h6, if_pos h6, if_pos h6, if_pos h6]; exact ⟨rfl, rfl⟩
    · have : ¬ cN zu m = -1 := by rw [hk2]; exact nI_m1 (by omega)
      rw [if_neg this, if_neg this, if_neg this, if_neg this, hk2, nI_clamp (by omega), h 0 (by omega) k hk, h 3 (by omega) k hk]
      exact ⟨rfl, rfl⟩
  refine ⟨e1, e2, e3, e4.1, e4.2, t, a, h1, h2, e1.trans h3, h4, e3.trans h5, ?_⟩
  rcases h6 with h6 | ⟨k, p, dg, hk, hk2, p1, p2, p3, d1, d2⟩
  · exact Or.inl (e2.trans h6)
  · exact Or.inr ⟨k, p, dg, hk, e2.trans hk2, p1, p2, by rw [h 0 (by omega) k hk]; exact p3, d1, by rw [h 3 (by omega) k hk]; exact d2⟩
theorem time_X (zu : OS) {m : Nat} (hm : m ≤ 256) (h : zu.1 6 = nI m) : mX8_time zu = some (cT zu m) := by
  unfold mX8_time mX8_time_b0 cT
  rw [h]
  by_cases c : m = 0
  · subst c; rfl
  · obtain ⟨m, rfl⟩ : ∃ g, m = g + 1 := ⟨m - 1, by omega⟩
    rw [if_neg (nI_ne0 (by omega) (by omega)), if_neg c, nI_pred, gds (vp_in_nI (by omega) (by omega)), gds (vp_in_nI (by omega) (by omega)), nI_clamp (by omega)]
    rfl
theorem lp_X (zu : OS) {m : Nat} (hm : m ≤ 256) (h : zu.1 6 = nI m) (ht : TP zu m) : mX8_latestPitch zu = some (cP zu m) ∧ mX8_latestDegree zu = some (cD zu m) := by
  obtain ⟨t, a, -, -, -, -, -, h6⟩ := ht
  have e : mX8_latestPitch zu = mX8_latestPitch_b22 zu (cN zu m) ∧ mX8_latestDegree zu = mX8_latestDegree_b22 zu (cN zu m) := by
    unfold mX8_latestPitch mX8_latestPitch_b0 mX8_latestDegree mX8_latestDegree_b0 cN
    rw [h]
    by_cases c : m = 0
    · subst c; exact ⟨rfl, rfl⟩
    · obtain ⟨m, rfl⟩ : ∃ g, m = g + 1 := ⟨m - 1, by omega⟩
      rw [if_neg (nI_ne0 (by omega) (by omega)), if_neg (nI_ne0 (by omega) (by omega)), if_neg c, nI_pred, gds (vp_in_nI (by omega) (by omega)), gds (vp_in_nI (by omega) (by omega)), nI_clamp (by omega)]
      exact ⟨rfl, rfl⟩
  rw [e.1, e.2]
  unfold mX8_latestPitch_b22 mX8_latestDegree_b22 cP cD
  rcases h6 with h6 | ⟨k, p, dg, hk, hk2, -⟩
  · rw [if_pos h6, if_pos h6, if_pos h6, if_pos h6]; exact ⟨rfl, rfl⟩
  · have : ¬ cN zu m = -1 := by rw [hk2]; exact nI_m1 (by omega)
    rw [if_neg this, if_neg this, if_neg this, if_neg this, hk2, gds (vp_in_nI (by omega) (by omega)), gds (vp_in_nI (by omega) (by omega))]
    exact ⟨rfl, rfl⟩
theorem al_X (zu : OS) {m p : Nat} (hm : m ≤ 256) (h : zu.1 6 = nI m) (ht : TP zu m) (hp : p < 1000) : mX8_alikeWith zu (nI p) = some (if cP zu m = nI p then cR zu m + 1 else 1) := by
  unfold mX8_alikeWith mX8_alikeWith_b0
  rw [(lp_X zu hm h ht).1, b1s]
  by_cases c : cP zu m = nI p
  · rw [if_pos c, if_pos c, h]
    by_cases c0 : m = 0
    · subst c0
      exact absurd c.symm (nI_m1 (n := p) (by omega))
    · obtain ⟨m, rfl⟩ : ∃ g, m = g + 1 := ⟨m - 1, by omega⟩
      rw [nI_pred, gds (vp_in_nI (by omega) (by omega)), nI_clamp (by omega)]
      unfold cR
      rw [if_neg c0]
      rfl
  · rw [if_neg c, if_neg c]
def uN (zu : OS) (n : Nat) (dg p l b a e : Int32) : OS := sI (sA (sA (sA (sA (sA (sA zu 2 (nI n) b) 5 (nI n) a) 4 (nI n) e) 0 (nI n) p) 1 (nI n) l) 3 (nI n) dg) 6 (nI (n + 1))
theorem uN_a (zu : OS) {n : Nat} (hn : n < 2 ^ 31) (dg p l b a e : Int32) : (∀ i, i < 6 → ∀ j, j < n → (uN zu n dg p l b a e).2.2.1 i j = zu.2.2.1 i j) ∧ (uN zu n dg p l b a e).2.2.1 0 n = p ∧ (uN zu n dg p l b a e).2.2.1 1 n = l ∧ (uN zu n dg p l b a e).2.2.1 2 n = b ∧ (uN zu n dg p l b a e).2.2.1 3 n = dg ∧ (uN zu n dg p l b a e).2.2.1 4 n = e ∧ (uN zu n dg p l b a e).2.2.1 5 n = a := by
  have h0 : (uN zu n dg p l b a e).2.2.1 0 = upd (zu.2.2.1 0) (nI n).toNatClampNeg p := rfl
  have h1 : (uN zu n dg p l b a e).2.2.1 1 = upd (zu.2.2.1 1) (nI n).toNatClampNeg l := rfl
  have h2 : (uN zu n dg p l b a e).2.2.1 2 = upd (zu.2.2.1 2) (nI n).toNatClampNeg b := rfl
  have h3 : (uN zu n dg p l b a e).2.2.1 3 = upd (zu.2.2.1 3) (nI n).toNatClampNeg dg := rfl
  have h4 : (uN zu n dg p l b a e).2.2.1 4 = upd (zu.2.2.1 4) (nI n).toNatClampNeg e := rfl
  have h5 : (uN zu n dg p l b a e).2.2.1 5 = upd (zu.2.2.1 5) (nI n).toNatClampNeg a := rfl
  rw [nI_clamp hn] at h0 h1 h2 h3 h4 h5
  refine ⟨fun i hi j hj => ?_, by rw [h0, pk_us], by rw [h1, pk_us], by rw [h2, pk_us], by rw [h3, pk_us], by rw [h4, pk_us], by rw [h5, pk_us]⟩
  rcases (show i = 0 ∨ i = 1 ∨ i = 2 ∨ i = 3 ∨ i = 4 ∨ i = 5 by omega) with rfl | rfl | rfl | rfl | rfl | rfl
  · rw [h0, pk_un (by omega)]
  · rw [h1, pk_un (by omega)]
  · rw [h2, pk_un (by omega)]
  · rw [h3, pk_un (by omega)]
  · rw [h4, pk_un (by omega)]
  · rw [h5, pk_un (by omega)]
theorem add_b130 (zu : OS) {n : Nat} (hn : n < 256) (h : zu.1 6 = nI n) (dg p l e : Int32) : mX8_add_b130 zu dg p l (nI n) e = some (sI (sA (sA (sA (sA zu 4 (nI n) e) 0 (nI n) p) 1 (nI n) l) 3 (nI n) dg) 6 (nI (n + 1))) := by
  unfold mX8_add_b130
  simp only [nms]
  rw [gds (vp_in_nI hn (by omega)), show (sA zu 4 (nI n) e).1 6 = nI n from h, gds (vp_in_nI hn (by omega)), show (sA (sA zu 4 (nI n) e) 0 (nI n) p).1 6 = nI n from h, gds (vp_in_nI hn (by omega)), show (sA (sA (sA zu 4 (nI n) e) 0 (nI n) p) 1 (nI n) l).1 6 = nI n from h, gds (vp_in_nI hn (by omega)), show (sA (sA (sA (sA zu 4 (nI n) e) 0 (nI n) p) 1 (nI n) l) 3 (nI n) dg).1 6 = nI n from h, nI_1]
theorem add_b21 (zu : OS) {n : Nat} (hn : n < 256) (h : zu.1 6 = nI n) (dg p l t : Int32) : mX8_add_b21 zu dg p l t = mX8_add_b69 zu dg p l t (cN zu n) (cR zu n) := by
  unfold mX8_add_b21 mX8_add_b45 cN cR
  rw [h]
  by_cases c : n = 0
  · subst c; rfl
  · obtain ⟨n, rfl⟩ : ∃ g, n = g + 1 := ⟨n - 1, by omega⟩
    rw [if_neg (nI_ne0 (by omega) (by omega)), if_neg (nI_ne0 (by omega) (by omega)), nI_pred, gds (vp_in_nI (by omega) (by omega)), gds (vp_in_nI (by omega) (by omega)), nI_clamp (by omega), if_neg c, if_neg c]
    rfl
theorem add_R (zu : OS) {n : Nat} (hn : n < 256) (h : zu.1 6 = nI n) (p l : Int32) : mX8_add zu (-1) p l = some (uN zu n (-1) p l (cT zu n) (cR zu n) (cN zu n)) := by
  unfold mX8_add mX8_add_b0
  rw [if_pos (by rw [h]; exact nI_lt (b := 256) hn (by omega)), if_pos rfl, add_b21 zu hn h]
  unfold mX8_add_b69
  rw [time_X zu (by omega) h, b1s, h, gds (vp_in_nI hn (by omega)), nms, if_neg z01]
  unfold mX8_add_b107
  rw [show (sA zu 2 (nI n) (cT zu n)).1 6 = nI n from h, gds (vp_in_nI hn (by omega)), nms, if_neg z01, show (sA (sA zu 2 (nI n) (cT zu n)) 5 (nI n) (cR zu n)).1 6 = nI n from h, add_b130 (sA (sA zu 2 (nI n) (cT zu n)) 5 (nI n) (cR zu n)) hn h]
  rfl
theorem add_N (zu : OS) {n d p : Nat} (hn : n < 256) (h : zu.1 6 = nI n) (ht : TP zu n) (hd : d < 7) (hp : p < 1000) (l : Int32) : mX8_add zu (nI d) (nI p) l = some (uN zu n (nI d) (nI p) l (cT zu n) (if cP zu n = nI p then cR zu n + 1 else 1) (nI n)) := by
  unfold mX8_add mX8_add_b0
  rw [if_pos (by rw [h]; exact nI_lt (b := 256) hn (by omega)), if_neg (nI_m1 (by omega)), add_b21 zu hn h]
  unfold mX8_add_b69
  obtain ⟨z1, hz1⟩ : ∃ z1, z1 = sA zu 2 (nI n) (cT zu n) := ⟨_, rfl⟩
  have g1 : z1.1 6 = nI n := by rw [hz1]; exact h
  have g2 : ∀ i, i < 6 → ∀ j, j < n → z1.2.2.1 i j = zu.2.2.1 i j := by
    intro i hi j hj
    rw [hz1]
    by_cases c : i = 2
    · subst c
      show upd (zu.2.2.1 2) (nI n).toNatClampNeg _ j = _
      rw [nI_clamp (by omega), pk_un (by omega)]
    · show va_up zu.2.2.1 2 _ i j = _
      rw [va_up_ne _ _ c]
  obtain ⟨-, -, e3, e4, -, e6⟩ := c_fr (by omega) g2 ht
  rw [time_X zu (by omega) h, b1s, h, gds (vp_in_nI hn (by omega)), nms, if_pos rfl, ← hz1, al_X z1 (by omega) g1 e6 hp, b1s, e3, e4]
  unfold mX8_add_b107
  rw [g1, gds (vp_in_nI hn (by omega)), nms, if_pos rfl]
  have g3 : ∀ v, (sA z1 5 (nI n) v).1 6 = nI n := fun v => g1
  rw [g3, add_b130 _ hn (g3 _), hz1]
  rfl
def Tn (zu z : OS) (n : Nat) : Prop := n ≤ 256 ∧ (∀ j, j < n → zu.2.2.1 0 j = z.2.2.1 20 j ∧ zu.2.2.1 1 j = z.2.2.1 21 j ∧ zu.2.2.1 2 j = z.2.2.1 22 j ∧ zu.2.2.1 3 j = z.2.2.1 23 j) ∧ ∀ m, m ≤ n → TP zu m
def Cu (zu z : OS) (n : Nat) : Prop := z.1 33 = nI n ∧ zu.1 6 = nI n ∧ z.1 32 = cT zu n ∧ z.1 34 = cP zu n ∧ z.1 35 = cD zu n ∧ z.1 36 = cR zu n
/-- the end of the reference's sound() -/
theorem b230_0 (z : OS) (s a3 a4 a6 : Int32) : mX10_sound_b230 z s a3 a4 0 a6 = some (0, z) := rfl
def xN (z : OS) (n : Nat) (v l b dg t : Int32) : OS := sI (sI (sA (sA (sA (sA z 20 (nI n) v) 21 (nI n) l) 22 (nI n) b) 23 (nI n) dg) 33 (nI (n + 1))) 32 t
theorem b230_1 (z : OS) {s n : Nat} (hs : s < 482) (hn : n < 256) (h : z.1 33 = nI n) (b l v : Int32) : mX10_sound_b230 z (nI s) b l 1 v = some (1, xN z n v l b (if 0 ≤ v then z.2.2.1 9 s else -1) (z.1 32 + l)) := by
  unfold mX10_sound_b230
  rw [if_neg z01, h, gds (vp_in_nI (show n < 260 by omega) (by omega)), nms, show (sA z 20 (nI n) v).1 33 = nI n from h, gds (vp_in_nI (show n < 260 by omega) (by omega)), nms, show (sA (sA z 20 (nI n) v) 21 (nI n) l).1 33 = nI n from h, gds (vp_in_nI (show n < 260 by omega) (by omega)), nms, show (sA (sA (sA z 20 (nI n) v) 21 (nI n) l) 22 (nI n) b).1 33 = nI n from h]
  have e : ∀ t2, mX10_sound_b290 (sA (sA (sA z 20 (nI n) v) 21 (nI n) l) 22 (nI n) b) l 1 (nI n) t2 = some (1, xN z n v l b t2 (z.1 32 + l)) := by
    intro t2
    unfold mX10_sound_b290
    rw [gds (vp_in_nI (show n < 260 by omega) (by omega))]
    simp only [nms]
    rw [show (sA (sA (sA (sA z 20 (nI n) v) 21 (nI n) l) 22 (nI n) b) 23 (nI n) t2).1 33 = nI n from h, nI_1]
    rfl
  by_cases c : 0 ≤ v
  · rw [if_pos c, if_pos c, gds (vp_in_nI hs (by omega)), nI_clamp (by omega), e]
    rfl
  · rw [if_neg c, if_neg c, e]
def pcd (w : Nat → Int32) (p far run : Int32) : Bool := decide (w 0 ≤ p ∧ p ≤ w 1 ∧ far ≤ w 2 ∧ run ≤ w 3)
theorem pcd_t (w : Nat → Int32) (p far run : Int32) : pcd w p far run = true ↔ w 0 ≤ p ∧ p ≤ w 1 ∧ far ≤ w 2 ∧ run ≤ w 3 := decide_eq_true_iff
theorem b155_e (z : OS) {s : Nat} (hs : s < 482) (b l f v far run : Int32) : mX10_sound_b155 z (nI s) b l f v far run = mX10_sound_b230 (sI (sI (sI z 36 run) 34 v) 35 (z.2.2.1 9 s)) (nI s) b l (f &&& (if pcd (z.2.2.1 19) v far run then 1 else 0)) v := by
  have v0 : ∀ k, k < 7 → vp_in (nI k) 7 := fun k hk => vp_in_nI hk (by omega)
  have e : ∀ c : Int32, mX10_sound_b211 (sI z 36 run) (nI s) b l v f c = mX10_sound_b230 (sI (sI (sI z 36 run) 34 v) 35 (z.2.2.1 9 s)) (nI s) b l (f &&& c) v := by
    intro c
    unfold mX10_sound_b211
    simp only [nms]
    rw [gds (vp_in_nI hs (by omega)), nI_clamp (by omega)]
    rfl
  unfold mX10_sound_b155 mX10_sound_b210
  simp only [nms]
  rw [gds (show vp_in 0 7 from v0 0 (by omega)), gds (show vp_in 1 7 from v0 1 (by omega)), gds (show vp_in 2 7 from v0 2 (by omega)), gds (show vp_in 3 7 from v0 3 (by omega)), e, e]
  rw [show (sI z 36 run).2.2.1 19 = z.2.2.1 19 from rfl, show (sI z 36 run).1 36 = run from rfl, show (0 : Int32).toNatClampNeg = 0 from by decide, show (1 : Int32).toNatClampNeg = 1 from by decide, show (2 : Int32).toNatClampNeg = 2 from by decide, show (3 : Int32).toNatClampNeg = 3 from by decide]
  by_cases c0 : v < z.2.2.1 19 0
  · rw [if_pos c0, if_neg (fun q => Int32.not_le.mpr c0 ((pcd_t _ _ _ _).mp q).1)]
  rw [if_neg c0]
  by_cases c1 : z.2.2.1 19 1 < v
  · rw [if_pos c1, if_neg (fun q => Int32.not_le.mpr c1 ((pcd_t _ _ _ _).mp q).2.1)]
  rw [if_neg c1]
  by_cases c2 : z.2.2.1 19 2 < far
  · rw [if_pos c2, if_neg (fun q => Int32.not_le.mpr c2 ((pcd_t _ _ _ _).mp q).2.2.1)]
  rw [if_neg c2]
  by_cases c3 : z.2.2.1 19 3 < run
  · rw [if_pos c3, if_neg (fun q => Int32.not_le.mpr c3 ((pcd_t _ _ _ _).mp q).2.2.2)]
  rw [if_neg c3, if_pos ((pcd_t _ _ _ _).mpr ⟨Int32.not_lt.mp c0, Int32.not_lt.mp c1, Int32.not_lt.mp c2, Int32.not_lt.mp c3⟩)]
/-- how far a PITCH is from the latest one -/
def farP (lp p : Int32) : Int32 := if 0 ≤ lp then (if p ≤ lp then lp - p else p - lp) else 0
theorem b55_N (z : OS) {s d : Nat} {o p : Int32} (hs : s < 482) (hd : d < 7) (h8 : z.2.2.1 8 s = 1) (h9 : z.2.2.1 9 s = nI d) (h10 : z.2.2.1 10 s = o) (hp : (60 + z.2.2.1 0 d) + 12 * o = p) (b l f : Int32) : mX10_sound_b55 z (nI s) b l f = mX10_sound_b155 z (nI s) b l f p (farP (z.1 34) p) (if p = z.1 34 then z.1 36 + 1 else 1) := by
  unfold mX10_sound_b55
  simp only [nms]
  rw [gds (vp_in_nI hs (by omega)), nI_clamp (by omega), h8, if_pos rfl, gds (vp_in_nI hs (by omega)), h9, gds (vp_in_nI hd (by omega)), gds (vp_in_nI hs (by omega)), nI_clamp (by omega), h10, hp]
  unfold mX10_sound_b133 farP
  by_cases c : 0 ≤ z.1 34
  · rw [if_pos c, if_pos c]
    by_cases c2 : p ≤ z.1 34
    · rw [if_pos c2, if_pos c2]
      split <;> rfl
    · rw [if_neg c2, if_neg c2]
      split <;> rfl
  · rw [if_neg c, if_neg c]
    split <;> rfl
theorem b55_R (z : OS) {s : Nat} (hs : s < 482) (h8 : z.2.2.1 8 s = 2) (b l f : Int32) : mX10_sound_b55 z (nI s) b l f = mX10_sound_b230 z (nI s) b l f (-1) := by
  unfold mX10_sound_b55
  simp only [nms]
  rw [gds (vp_in_nI hs (by omega)), nI_clamp (by omega), h8, if_neg (by decide)]
/-- does the time fit -/
def tcd (w : Nat → Int32) (b l full : Int32) : Bool := decide (b + l ≤ full ∧ (¬ w 4 = 0 ∨ b / 16 = ((b + l) - 1) / 16))
theorem tcd_t (w : Nat → Int32) (b l full : Int32) : tcd w b l full = true ↔ b + l ≤ full ∧ (¬ w 4 = 0 ∨ b / 16 = ((b + l) - 1) / 16) := decide_eq_true_iff
theorem m16 : ∀ b, b < 17 → (16 : Int32) * nI b = nI (16 * b) ∧ nI b * 16 = nI (16 * b) := by decide +kernel
theorem w4_01 {x : Int32} (h0 : 0 ≤ x) (h1 : x ≤ 1) : x = 0 ∨ x = 1 := by
  obtain ⟨j, hj, rfl⟩ := le_nI (n := 1) (by omega) h0 h1
  rcases (show j = 0 ∨ j = 1 by omega) with rfl | rfl
  · exact Or.inl rfl
  · exact Or.inr rfl
theorem sound_e (z : OS) {s bars : Nat} {l : Int32} (hs : s < 482) (hb : bars < 17) (h11 : z.2.2.1 11 s = l) (h4 : 0 ≤ z.2.2.1 19 4 ∧ z.2.2.1 19 4 ≤ 1) : mX10_sound z (nI s) (nI bars) = mX10_sound_b55 z (nI s) (z.1 32) l (if tcd (z.2.2.1 19) (z.1 32) l (nI (16 * bars)) then 1 else 0) := by
  have v4 : vp_in 4 7 := vp_in_nI (n := 4) (by omega) (by omega)
  unfold mX10_sound mX10_sound_b0 mX10_sound_b54
  simp only [nms]
  rw [gds (vp_in_nI hs (by omega)), nI_clamp (by omega), h11, (m16 bars hb).1, gds v4, show (4 : Int32).toNatClampNeg = 4 from by decide]
  by_cases c : nI (16 * bars) < z.1 32 + l
  · rw [if_pos c, if_neg (fun q => Int32.not_le.mpr c ((tcd_t _ _ _ _).mp q).1)]
  rw [if_neg c]
  rcases w4_01 h4.1 h4.2 with e | e
  · rw [if_neg (by rw [e]; decide)]
    by_cases c2 : z.1 32 / 16 = ((z.1 32 + l) - 1) / 16
    · rw [if_pos c2, if_pos ((tcd_t _ _ _ _).mpr ⟨Int32.not_lt.mp c, Or.inr c2⟩)]
    · rw [if_neg c2, if_neg (fun q => ((tcd_t _ _ _ _).mp q).2.elim (fun q => q e) c2)]
  · rw [if_pos e, if_pos ((tcd_t _ _ _ _).mpr ⟨Int32.not_lt.mp c, Or.inl (by rw [e]; decide)⟩)]

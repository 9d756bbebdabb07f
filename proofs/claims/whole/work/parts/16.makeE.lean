/-! make, fifth: the places with a LETTER on both sides -/
def Rep (S : Nat) (Ls : Nat → List Nat) (d : Nat) (f e o : Int32) (L : List Nat) : Prop := (o = -1 ∧ e ≤ f ∧ L = []) ∨ ∃ a m p, f = nI a ∧ e = nI (a + m + 1) ∧ o = nI p ∧ a + m + 1 ≤ S ∧ p < d ∧ L = List.range' a (m + 1) ++ Ls p
theorem Rep_fr {S : Nat} {Ls Ls' : Nat → List Nat} {d d' : Nat} (hd : d ≤ d') (hL : ∀ k, k < d → Ls' k = Ls k) {f e o : Int32} {L : List Nat} (h : Rep S Ls d f e o L) : Rep S Ls' d' f e o L := by
  rcases h with h | ⟨a, m, p, h1, h2, h3, h4, h5, h6⟩
  · exact Or.inl h
  · exact Or.inr ⟨a, m, p, h1, h2, h3, h4, by omega, by rw [hL p h5]; exact h6⟩
def PR (g : GT) (zl z zu : OS) (N : Nat) (ns cs : Nat → Nat) (Ls : Nat → List Nat) (d : Nat) : Prop := ∃ q, q < 26 ∧ 0 < gAl g q ∧ zl.2.2.1 0 d = nI q ∧ z.2.2.1 37 d = nI q ∧ zl.2.2.2 2 d = z.2.2.2 46 d ∧ zl.2.2.1 1 d = nI (lft g q (z.2.2.2 46 d)) ∧ zl.2.2.1 3 d = nI (ns d) ∧ z.2.2.1 41 d = nI (ns d) ∧ ns d ≤ N ∧ zl.2.2.1 4 d = nI (Ls d).length ∧ z.2.2.1 39 d = nI (Ls d).length ∧ (Ls d).length ≤ 200 ∧ (∀ s, s ∈ Ls d → s < gS g) ∧ Rep (gS g) Ls d (zl.2.2.1 5 d) (zl.2.2.1 6 d) (zl.2.2.1 7 d) (Ls d) ∧ Cel (z.2.2.1 27) (z.2.2.1 28) (cs d) (Ls d) (z.2.2.1 38 d) ∧ z.2.2.1 45 d = nI (cs d) ∧ cs d ≤ 1 + 12 * d ∧ z.2.2.1 40 d = cT zu (ns d) ∧ z.2.2.1 42 d = cP zu (ns d) ∧ z.2.2.1 43 d = cD zu (ns d) ∧ z.2.2.1 44 d = cR zu (ns d)
theorem PR_fr {g : GT} {zl zl' z z' zu zu' : OS} {N N' : Nat} {ns ns' cs cs' : Nat → Nat} {Ls Ls' : Nat → List Nat} {d : Nat} (h : PR g zl z zu N ns cs Ls d) (hzl : ∀ i, i < 8 → zl'.2.2.1 i d = zl.2.2.1 i d) (hzl2 : zl'.2.2.2 2 d = zl.2.2.2 2 d) (hz : ∀ i, 37 ≤ i → i ≤ 45 → z'.2.2.1 i d = z.2.2.1 i d) (hz46 : z'.2.2.2 46 d = z.2.2.2 46 d) (hc : ∀ j, j < cs d → z'.2.2.1 27 j = z.2.2.1 27 j ∧ z'.2.2.1 28 j = z.2.2.1 28 j) (hn : ns d ≤ 256) (hu : ∀ i, i < 6 → ∀ j, j < ns d → zu'.2.2.1 i j = zu.2.2.1 i j) (ht : TP zu (ns d)) (hN : ns d ≤ N') (hLs : ∀ k, k ≤ d → Ls' k = Ls k) (hns : ns' d = ns d) (hcs : cs' d = cs d) : PR g zl' z' zu' N' ns' cs' Ls' d := by
  obtain ⟨q, a1, a2, a3, a4, a5, a6, a7, a8, a9, a10, a11, a12, a13, a14, a15, a16, a17, a18, a19, a20, a21⟩ := h
  obtain ⟨e1, e2, e3, e4, e5, -⟩ := c_fr hn hu ht
  unfold PR
  rw [hns, hcs, hLs d (Nat.le_refl d), hzl 0 (by omega), hzl 1 (by omega), hzl 3 (by omega), hzl 4 (by omega), hzl 5 (by omega), hzl 6 (by omega), hzl 7 (by omega), hzl2, hz46, hz 37 (by omega) (by omega), hz 38 (by omega) (by omega), hz 39 (by omega) (by omega), hz 40 (by omega) (by omega), hz 41 (by omega) (by omega), hz 42 (by omega) (by omega), hz 43 (by omega) (by omega), hz 44 (by omega) (by omega), hz 45 (by omega) (by omega), e1, e3, e4, e5]
  exact ⟨q, a1, a2, a3, a4, a5, a6, a7, a8, hN, a10, a11, a12, a13, Rep_fr (Nat.le_refl d) (fun k hk => hLs k (by omega)) a14, Cel_fr (Nat.le_refl _) hc _ _ a15, a16, a17, a18, a19, a20, a21⟩
def Mo (ns cs : Nat → Nat) (D : Nat) : Prop := ∀ d d', d ≤ d' → d' < D → ns d ≤ ns d' ∧ cs d ≤ cs d'
def Cm (g : GT) (z0 : OS) (wk : Nat → Int32) (bars : Nat) (zk zd zu zl z : OS) (D T N : Nat) (ns cs : Nat → Nat) (Ls : Nat → List Nat) : Prop := zk.1 7 = nI D ∧ z.1 47 = nI D ∧ zk.1 6 = nI T ∧ z.1 25 = nI T ∧ zd.2.1 0 = z.2.1 26 ∧ zk.1 5 = nI (16 * bars) ∧ zk.2.2.1 1 = wk ∧ z.1 24 = 0 ∧ Bs z0 z ∧ zu.1 6 = nI N ∧ Tn zu z N ∧ (∀ d, d < D → PR g zl z zu N ns cs Ls d) ∧ Mo ns cs D
/-- while NOTES and RESTS are taken -/
def Rn (g : GT) (zk zu z : OS) (D N c : Nat) (ns cs : Nat → Nat) (Ls : Nat → List Nat) (L : List Nat) : Prop := zk.1 8 = nI L.length ∧ z.1 31 = nI L.length ∧ (∀ s, s ∈ L → s < gS g) ∧ Rep (gS g) Ls D (zk.1 9) (zk.1 10) (zk.1 11) L ∧ Cel (z.2.2.1 27) (z.2.2.1 28) c L (z.1 30) ∧ z.1 29 = nI c ∧ c ≤ 1 + 12 * D ∧ Cu zu z N ∧ ∀ d, d < D → ns d ≤ N ∧ cs d ≤ c
/-- what a making leaves -/
def Out (z0 : OS) (wk : Nat → Int32) (r : Int32) (zk zu z : OS) : Prop := zk.2.2.1 1 = wk ∧ Bs z0 z ∧ zk.1 6 = z.1 25 ∧ ∃ n, n ≤ 256 ∧ zu.1 6 = nI n ∧ (((r = -1 ∨ r = -5) ∧ z.1 24 = 0) ∨ (r = nI n ∧ z.1 24 = nI n ∧ Tn zu z n))
theorem take1_X {g : GT} {zk zd zg zu zl : OS} {D s : Nat} {Ls : Nat → List Nat} {L : List Nat} (hg : gS g ≤ 240) (hD : D ≤ 3001) (h8 : zk.1 8 = nI (s :: L).length) (hR : Rep (gS g) Ls D (zk.1 9) (zk.1 10) (zk.1 11) (s :: L)) (hP : ∀ p, p < D → Rep (gS g) Ls p (zl.2.2.1 5 p) (zl.2.2.1 6 p) (zl.2.2.1 7 p) (Ls p)) : ¬ zk.1 10 ≤ zk.1 9 ∧ ∃ zk', mX3_takeFirst zk zd zg zu zl = some (nI s, zk') ∧ zk'.1 8 = nI L.length ∧ Rep (gS g) Ls D (zk'.1 9) (zk'.1 10) (zk'.1 11) L ∧ Fr [8, 9, 10, 11] [] zk zk' := by
  rcases hR with ⟨-, -, e⟩ | ⟨a, m, p, e1, e2, e3, hS, hp, e4⟩
  · cases e
  · rw [List.range'_succ, List.cons_append] at e4
    injection e4 with e5 e6
    subst e5
    have hn : ¬ zk.1 10 ≤ zk.1 9 := by
      rw [e1, e2]
      exact nI_ge (by omega) (by omega)
    refine ⟨hn, ?_⟩
    have e8 : zk.1 8 - 1 = nI L.length := by rw [h8, List.length_cons, nI_pred]
    unfold mX3_takeFirst mX3_takeFirst_b0
    simp only [nms]
    rw [e1, nI_1]
    rw [show (sI zk 9 (nI (s + 1))).1 8 = zk.1 8 from rfl, e8]
    rw [show (sI (sI zk 9 (nI (s + 1))) 8 (nI L.length)).1 9 = nI (s + 1) from rfl, show (sI (sI zk 9 (nI (s + 1))) 8 (nI L.length)).1 10 = zk.1 10 from rfl, e2, show (sI (sI zk 9 (nI (s + 1))) 8 (nI L.length)).1 11 = zk.1 11 from rfl, e3]
    have hF : Fr [8, 9, 10, 11] [] zk (sI (sI zk 9 (nI (s + 1))) 8 (nI L.length)) := Fr_I (Fr_I (Fr_r _ _ zk) (by decide) _) (by decide) _
    by_cases c : m = 0
    · subst c
      rw [if_neg (nI_nlt (by omega) (by omega)), if_neg (nI_m1 (by omega)), gds (vp_in_nI (by omega) (by omega)), gds (vp_in_nI (by omega) (by omega)), gds (vp_in_nI (by omega) (by omega)), nI_clamp (by omega)]
      refine ⟨_, rfl, rfl, ?_, Fr_I (Fr_I (Fr_I hF (by decide) _) (by decide) _) (by decide) _⟩
      have := Rep_fr (d' := D) (Ls' := Ls) (by omega) (fun k _ => rfl) (hP p hp)
      rw [e6]
      exact this
    · obtain ⟨m, rfl⟩ : ∃ g, m = g + 1 := ⟨m - 1, by omega⟩
      rw [if_pos (nI_lt (by omega) (by omega))]
      refine ⟨_, rfl, rfl, Or.inr ⟨s + 1, m, p, rfl, ?_, e3, by omega, hp, e6⟩, hF⟩
      show zk.1 10 = _
      rw [e2, show s + (m + 1) + 1 = s + 1 + m + 1 by omega]
theorem open_X {g : GT} {zg z zk zd zu zl : OS} {D q : Nat} (h : LF g zg z q) (hD : D < 3001) (h7 : zk.1 7 = nI D) : mX3_openPlace zk zd zg zu zl (nI q) = some (sI zk 7 (nI (D + 1)), sA (sA (sA (sA (sA (sB (sA (sA zl 0 (nI D) (nI q)) 1 (nI D) (nI (lft g q 0))) 2 (nI D) 0) 3 (nI D) (zu.1 6)) 4 (nI D) (zk.1 8)) 5 (nI D) (zk.1 9)) 6 (nI D) (zk.1 10)) 7 (nI D) (zk.1 11)) := by
  obtain ⟨a1, a2, a3, a4, a5, a6, a7, a8, a9⟩ := h
  have e := usm_0 (gWt g) (gFa g q) (gAl g q) 0 (by omega)
  rw [Nat.zero_add, show sumW (gWt g) (gFa g q) 0 = 0 from rfl, Nat.zero_add] at e
  unfold mX3_openPlace mX3_openPlace_b0
  simp only [nms]
  rw [h7, if_neg (show ¬ (3001 : Int32) ≤ nI D from nI_ge (b := 3001) hD (by omega)), has_rule zg a1 (by omega) a4, b1s, if_neg (show ¬ gAl g q = 0 by omega), if_neg z01, nI_clamp (show q < 2 ^ 31 by omega), a6, ← e]
  simp only [gds (vp_in_nI hD (show (3001 : Nat) < 2 ^ 31 by omega)), gds (vp_in_nI a1 (show (26 : Nat) < 2 ^ 31 by omega))]
  rw [nI_1]
  rfl
theorem keep_M {z : OS} {D q : Nat} (hD : D < 3002) (h47 : z.1 47 = nI D) : mX10_keep z (nI q) = some (sI (sB (sA (sA (sA (sA (sA (sA (sA (sA (sA z 37 (nI D) (nI q)) 38 (nI D) (z.1 30)) 39 (nI D) (z.1 31)) 40 (nI D) (z.1 32)) 41 (nI D) (z.1 33)) 42 (nI D) (z.1 34)) 43 (nI D) (z.1 35)) 44 (nI D) (z.1 36)) 45 (nI D) (z.1 29)) 46 (nI D) 0) 47 (nI (D + 1))) := by
  have hv := vp_in_nI hD (show (3002 : Nat) < 2 ^ 31 by omega)
  unfold mX10_keep mX10_keep_b0
  simp only [nms]
  rw [h47, gds hv]
  obtain ⟨y1, hy1⟩ : ∃ y, y = sA z 37 (nI D) (nI q) := ⟨_, rfl⟩
  rw [← hy1, show y1.1 47 = nI D from by rw [hy1]; exact h47, gds hv, show y1.1 30 = z.1 30 from by rw [hy1]; rfl]
  obtain ⟨y2, hy2⟩ : ∃ y, y = sA y1 38 (nI D) (z.1 30) := ⟨_, rfl⟩
  rw [← hy2, show y2.1 47 = nI D from by rw [hy2, hy1]; exact h47, gds hv, show y2.1 31 = z.1 31 from by rw [hy2, hy1]; rfl]
  obtain ⟨y3, hy3⟩ : ∃ y, y = sA y2 39 (nI D) (z.1 31) := ⟨_, rfl⟩
  rw [← hy3, show y3.1 47 = nI D from by rw [hy3, hy2, hy1]; exact h47, gds hv, show y3.1 32 = z.1 32 from by rw [hy3, hy2, hy1]; rfl]
  obtain ⟨y4, hy4⟩ : ∃ y, y = sA y3 40 (nI D) (z.1 32) := ⟨_, rfl⟩
  rw [← hy4, show y4.1 47 = nI D from by rw [hy4, hy3, hy2, hy1]; exact h47, gds hv, show y4.1 33 = z.1 33 from by rw [hy4, hy3, hy2, hy1]; rfl]
  obtain ⟨y5, hy5⟩ : ∃ y, y = sA y4 41 (nI D) (z.1 33) := ⟨_, rfl⟩
  rw [← hy5, show y5.1 47 = nI D from by rw [hy5, hy4, hy3, hy2, hy1]; exact h47, gds hv, show y5.1 34 = z.1 34 from by rw [hy5, hy4, hy3, hy2, hy1]; rfl]
  obtain ⟨y6, hy6⟩ : ∃ y, y = sA y5 42 (nI D) (z.1 34) := ⟨_, rfl⟩
  rw [← hy6, show y6.1 47 = nI D from by rw [hy6, hy5, hy4, hy3, hy2, hy1]; exact h47, gds hv, show y6.1 35 = z.1 35 from by rw [hy6, hy5, hy4, hy3, hy2, hy1]; rfl]
  obtain ⟨y7, hy7⟩ : ∃ y, y = sA y6 43 (nI D) (z.1 35) := ⟨_, rfl⟩
  rw [← hy7, show y7.1 47 = nI D from by rw [hy7, hy6, hy5, hy4, hy3, hy2, hy1]; exact h47, gds hv, show y7.1 36 = z.1 36 from by rw [hy7, hy6, hy5, hy4, hy3, hy2, hy1]; rfl]
  obtain ⟨y8, hy8⟩ : ∃ y, y = sA y7 44 (nI D) (z.1 36) := ⟨_, rfl⟩
  rw [← hy8, show y8.1 47 = nI D from by rw [hy8, hy7, hy6, hy5, hy4, hy3, hy2, hy1]; exact h47, gds hv, show y8.1 29 = z.1 29 from by rw [hy8, hy7, hy6, hy5, hy4, hy3, hy2, hy1]; rfl]
  obtain ⟨y9, hy9⟩ : ∃ y, y = sA y8 45 (nI D) (z.1 29) := ⟨_, rfl⟩
  rw [← hy9, show y9.1 47 = nI D from by rw [hy9, hy8, hy7, hy6, hy5, hy4, hy3, hy2, hy1]; exact h47, gds hv]
  obtain ⟨y10, hy10⟩ : ∃ y, y = sB y9 46 (nI D) 0 := ⟨_, rfl⟩
  rw [← hy10, show y10.1 47 = nI D from by rw [hy10, hy9, hy8, hy7, hy6, hy5, hy4, hy3, hy2, hy1]; exact h47, nI_1]
theorem back_M {z : OS} {d : Nat} (hd : d < 3002) (h47 : z.1 47 = nI (d + 1)) : mX10_back z = some (sI (sI (sI (sI (sI (sI (sI (sI z 30 (z.2.2.1 38 d)) 31 (z.2.2.1 39 d)) 32 (z.2.2.1 40 d)) 33 (z.2.2.1 41 d)) 34 (z.2.2.1 42 d)) 35 (z.2.2.1 43 d)) 36 (z.2.2.1 44 d)) 29 (z.2.2.1 45 d)) := by
  have hv := vp_in_nI hd (show (3002 : Nat) < 2 ^ 31 by omega)
  unfold mX10_back mX10_back_b0
  simp only [nms]
  rw [h47, nI_pred, nI_clamp (by omega)]
  simp only [gds hv]
  rfl

/-! rows of twelve -/
def fv (f : Nat → Nat) (fo b i : Nat) : Nat := if fo % 2 = 1 then (2 * f 0 + 24 + b - f (if 1 < fo then 11 - i else i)) % 12 else (f (if 1 < fo then 11 - i else i) + 24 + b) % 12
theorem ff1 : ∀ a, a < 12 → ∀ b, b < 12 → ∀ c, c < 12 → ((((2 * nI a) - nI b) + nI c) + 24) - ((((2 * nI a) - nI b) + nI c) + 24) / 12 * 12 = nI ((2 * a + 24 + c - b) % 12) := by decide +kernel
theorem ff2 : ∀ b, b < 12 → ∀ c, c < 12 → ((nI b + nI c) + 24) - ((nI b + nI c) + 24) / 12 * 12 = nI ((b + 24 + c) % 12) := by decide +kernel
theorem ff3 : ∀ a, a < 12 → ∀ b, b < 12 → ∀ c, c < 12 → mJ9_floorMod_7cf53 (((2 * nI a) - nI b) + nI c) 12 = some (nI ((2 * a + 24 + c - b) % 12)) := by decide +kernel
theorem ff4 : ∀ b, b < 12 → ∀ c, c < 12 → mJ9_floorMod_7cf53 (nI b + nI c) 12 = some (nI ((b + 24 + c) % 12)) := by decide +kernel
theorem m11 : ∀ i, i < 12 → (11 : Int32) - nI i = nI (11 - i) := by decide +kernel
theorem form_b17 (zx : OS) (f : Nat → Nat) (hf : ∀ j, j < 12 → f j < 12 ∧ zx.2.2.1 52 j = nI (f j)) {fo b i : Nat} (hfo : fo < 4) (hb : b < 12) (hi : i < 12) : mX10_formOf_b17 zx (nI fo) (nI b) (nI i) = some (nI (if fo % 2 = 1 then (2 * f 0 + 24 + b - f i) % 12 else (f i + 24 + b) % 12)) := by
  unfold mX10_formOf_b17
  have v0 : vp_in 0 12 := by unfold vp_in; decide
  have c0 : (0 : Int32).toNatClampNeg = 0 := by decide
  rw [gds (vp_in_nI hi (by omega)), nI_clamp (by omega), nms, gds v0, c0, (hf i hi).2, (hf 0 (by omega)).2, nms, ff1 _ (hf 0 (by omega)).1 _ (hf i hi).1 _ hb, ff2 _ (hf i hi).1 _ hb]
  rcases (show fo = 0 ∨ fo = 1 ∨ fo = 2 ∨ fo = 3 by omega) with rfl | rfl | rfl | rfl
  · rw [if_neg (by decide), if_neg (by decide)]
  · rw [if_pos (by decide), if_pos (by decide)]
  · rw [if_neg (by decide), if_neg (by decide)]
  · rw [if_pos (by decide), if_pos (by decide)]
theorem form_M (zx : OS) (f : Nat → Nat) (hf : ∀ j, j < 12 → f j < 12 ∧ zx.2.2.1 52 j = nI (f j)) {fo b i : Nat} (hfo : fo < 4) (hb : b < 12) (hi : i < 12) : mX10_formOf zx (nI fo) (nI b) (nI i) = some (nI (fv f fo b i)) := by
  unfold mX10_formOf mX10_formOf_b0 fv
  by_cases c : 1 < fo
  · rw [if_neg (show ¬ nI fo ≤ 1 from fun z => absurd z (nI_ge (a := 1) c (by omega))), m11 i hi, form_b17 zx f hf hfo hb (by omega)]
    simp only [if_pos c]
  · rw [if_pos (le_litB (y := 1) (b := 1) rfl (by omega) (by omega)), form_b17 zx f hf hfo hb hi]
    simp only [if_neg c]
theorem num_b51 (zw : OS) (f : Nat → Nat) (hf : ∀ j, j < 12 → f j < 12 ∧ zw.2.2.1 0 j = nI (f j)) {b i : Nat} (hb : b < 12) (hi : i < 12) (u : Nat) (hu : u < 2) : mX7_numberOf_b51 zw (nI b) (nI u) (nI i) = some (nI (if u = 1 then (2 * f 0 + 24 + b - f i) % 12 else (f i + 24 + b) % 12)) := by
  unfold mX7_numberOf_b51 mX7_numberOf_b75
  have v0 : vp_in 0 12 := by unfold vp_in; decide
  have c0 : (0 : Int32).toNatClampNeg = 0 := by decide
  rw [gds (vp_in_nI hi (by omega)), nI_clamp (by omega), nms, gds v0, c0, (hf i hi).2, (hf 0 (by omega)).2, ff3 _ (hf 0 (by omega)).1 _ (hf i hi).1 _ hb, ff4 _ (hf i hi).1 _ hb]
  rcases (show u = 0 ∨ u = 1 by omega) with rfl | rfl
  · rw [if_pos (by decide), if_neg (by decide)]; rfl
  · rw [if_neg (by decide), if_pos (by decide)]; rfl
theorem num_X (zw : OS) (f : Nat → Nat) (hf : ∀ j, j < 12 → f j < 12 ∧ zw.2.2.1 0 j = nI (f j)) {fo b i : Nat} (hfo : fo < 4) (hb : b < 12) (hi : i < 12) : mX7_numberOf zw (nI fo) (nI b) (nI i) = some (nI (fv f fo b i)) := by
  unfold mX7_numberOf mX7_numberOf_b0 mX7_numberOf_b15 mX7_numberOf_b32 fv
  rw [m11 i hi]
  rcases (show fo = 0 ∨ fo = 1 ∨ fo = 2 ∨ fo = 3 by omega) with rfl | rfl | rfl | rfl
  · exact num_b51 zw f hf hb hi 0 (by omega)
  · exact num_b51 zw f hf hb hi 1 (by omega)
  · exact num_b51 zw f hf hb (show 11 - i < 12 by omega) 0 (by omega)
  · exact num_b51 zw f hf hb (show 11 - i < 12 by omega) 1 (by omega)
theorem R_form {zt zs zg zh zu zl zc zw zx : OS} (h : Rel zt zs zg zh zu zl zc zw zx) (p0 : Int32) (p1 : Int32) (p2 : Int32) : ∃ (F1 F2 : Nat) (r : Int32), mX9_form zt zs zg zh zu zl zc zw p0 p1 p2 = some r ∧ mX10_form zx p0 p1 p2 = some r ∧ Rel zt zs zg zh zu zl zc zw zx := by
  obtain ⟨f, hf, -, -⟩ := h.2.2.2.2.1
  unfold mX9_form mX9_form_b0 mX10_form mX10_form_b0
  rw [iw, iw, iw]
  by_cases c : 0 ≤ p0 ∧ p0 ≤ 3
  · rw [if_pos c, b1s, if_neg z01, if_neg (Int32.not_lt.mpr c.1), if_neg (Int32.not_lt.mpr c.2)]
    obtain ⟨fo, hfo, rfl⟩ := le_nI (n := 3) (by omega) c.1 c.2
    by_cases d : 0 ≤ p1 ∧ p1 ≤ 11
    · rw [if_pos d, b1s, if_neg z01, if_neg (Int32.not_lt.mpr d.1), if_neg (Int32.not_lt.mpr d.2)]
      obtain ⟨b, hb, rfl⟩ := le_nI (n := 11) (by omega) d.1 d.2
      by_cases e : 0 ≤ p2 ∧ p2 ≤ 11
      · rw [if_pos e, b1s, if_neg z01, if_neg (Int32.not_lt.mpr e.1), if_pos e.2]
        obtain ⟨i, hi, rfl⟩ := le_nI (n := 11) (by omega) e.1 e.2
        rw [num_X zw f (fun j hj => ⟨(hf j hj).1, (hf j hj).2.1⟩) (by omega) (by omega) (by omega), form_M zx f (fun j hj => ⟨(hf j hj).1, (hf j hj).2.2⟩) (by omega) (by omega) (by omega)]
        exact ⟨0, 0, _, rfl, rfl, h⟩
      · rw [if_neg e, b1s, if_pos rfl]
        refine ⟨0, 0, -2, rfl, ?_, h⟩
        by_cases c1 : p2 < 0
        · rw [if_pos c1]
        · rw [if_neg c1, if_neg (fun z => e ⟨Int32.not_lt.mp c1, z⟩)]
    · rw [if_neg d, b1s, if_pos rfl]
      refine ⟨0, 0, -2, rfl, ?_, h⟩
      by_cases c1 : p1 < 0
      · rw [if_pos c1]
      · rw [if_neg c1, if_pos (Int32.not_le.mp (fun z => d ⟨Int32.not_lt.mp c1, z⟩))]
  · rw [if_neg c, b1s, if_pos rfl]
    refine ⟨0, 0, -2, rfl, ?_, h⟩
    by_cases c1 : p0 < 0
    · rw [if_pos c1]
    · rw [if_neg c1, if_pos (Int32.not_le.mp (fun z => c ⟨Int32.not_lt.mp c1, z⟩))]
theorem sRR (σ : OS) (k : Nat) (f g : Nat → Int32) : sR (sR σ k f) k g = sR σ k g := by
  unfold sR
  simp only [bx_uu]
theorem sRg (σ : OS) (k : Nat) (f : Nat → Int32) : (sR σ k f).2.2.1 k = f := va_up_self _ _ _
theorem swap_loop (F : Nat) (zw : OS) {i v k : Nat} (hi : i < 12) (hk : k < 12) (hv : zw.2.2.1 0 k = nI v) (hn : ∀ j, j < k → ¬ zw.2.2.1 0 j = nI v) : ∀ (n t : Nat), t ≤ k → k < t + n → mX7_swapIn_b2 F n zw (nI i) (nI v) (nI t) = some (sA (sA zw 0 (nI k) (zw.2.2.1 0 i)) 0 (nI i) (nI v)) := by
  intro n
  induction n with
  | zero => intro t h1 h2; omega
  | succ n ih =>
    intro t h1 h2
    unfold mX7_swapIn_b2
    have hvi : vp_in (nI i) 12 := vp_in_nI hi (by omega)
    have hvt : vp_in (nI t) 12 := vp_in_nI (by omega) (by omega)
    rw [if_neg (ge_lit (y := 12) (b := 12) rfl (by omega) (by omega)), gds hvt, nI_clamp (by omega)]
    by_cases c : t = k
    · subst c
      rw [if_pos hv, gds hvi, gds hvt, nms, gds hvi, nms, nI_clamp (by omega)]
    · rw [if_neg (hn t (by omega)), nms, nI_1]
      exact ih (t + 1) (by omega) (by omega)
theorem place_loop (F : Nat) {i v w : Nat} (hi : i < 12) : ∀ (n t : Nat) (zx : OS), t ≤ 12 → 12 < t + n → ∃ g : Nat → Int32, mX10_place_b33 F n zx (nI i) (nI v) (nI w) (nI t) = some (1, sR zx 52 g) ∧ ∀ j, j < 12 → g j = if j = i then nI v else if t ≤ j ∧ zx.2.2.1 52 j = nI v then nI w else zx.2.2.1 52 j := by
  intro n
  induction n with
  | zero => intro t zx h1 h2; omega
  | succ n ih =>
    intro t zx h1 h2
    unfold mX10_place_b33
    have hvi : vp_in (nI i) 12 := vp_in_nI hi (by omega)
    by_cases c : t = 12
    · subst c
      refine ⟨upd (zx.2.2.1 52) i (nI v), ?_, ?_⟩
      · rw [if_pos (le_litA (y := 12) (a := 12) rfl (by omega) (by omega)), gds hvi, nms]
        unfold sA
        rw [nI_clamp (by omega)]
      · intro j hj
        by_cases e : j = i
        · subst e; rw [pk_us, if_pos rfl]
        · rw [pk_un e, if_neg e, if_neg (by omega)]
    · have hvt : vp_in (nI t) 12 := vp_in_nI (by omega) (by omega)
      rw [if_neg (ge_lit (y := 12) (b := 12) rfl (by omega) (by omega)), gds hvt, gds hvt, gds hvt, gds hvt, nms, nms, nms, nms, nI_1, nI_clamp (by omega)]
      by_cases d : zx.2.2.1 52 t = nI v
      · rw [if_pos d]
        obtain ⟨g, e1, e2⟩ := ih (t + 1) (sA zx 52 (nI t) (nI w)) (by omega) (by omega)
        refine ⟨g, ?_, ?_⟩
        · rw [e1]; unfold sA; rw [sRR]
        · intro j hj
          have e3 := e2 j hj
          have e4 : (sA zx 52 (nI t) (nI w)).2.2.1 52 j = if j = t then nI w else zx.2.2.1 52 j := by
            unfold sA; rw [sRg, nI_clamp (by omega)]; rfl
          rw [e3, e4]
          by_cases x1 : j = i
          · rw [if_pos x1, if_pos x1]
          · rw [if_neg x1, if_neg x1]
            by_cases x2 : j = t
            · subst x2
              rw [if_pos rfl, if_neg (by omega), if_pos ⟨Nat.le_refl _, d⟩]
            · rw [if_neg x2]
              by_cases x3 : t + 1 ≤ j ∧ zx.2.2.1 52 j = nI v
              · rw [if_pos x3, if_pos ⟨by omega, x3.2⟩]
              · rw [if_neg x3, if_neg (fun z => x3 ⟨by omega, z.2⟩)]
      · rw [if_neg d]
        obtain ⟨g, e1, e2⟩ := ih (t + 1) (sA zx 52 (nI t) (zx.2.2.1 52 t)) (by omega) (by omega)
        refine ⟨g, ?_, ?_⟩
        · rw [e1]; unfold sA; rw [sRR]
        · intro j hj
          have e3 := e2 j hj
          have e4 : (sA zx 52 (nI t) (zx.2.2.1 52 t)).2.2.1 52 j = zx.2.2.1 52 j := by
            unfold sA; rw [sRg, nI_clamp (by omega)]
            by_cases y : j = t
            · subst y; rw [pk_us]
            · rw [pk_un y]
          rw [e3, e4]
          by_cases x1 : j = i
          · rw [if_pos x1, if_pos x1]
          · rw [if_neg x1, if_neg x1]
            by_cases x2 : j = t
            · subst x2
              rw [if_neg (by omega), if_neg (fun z => d z.2)]
            · by_cases x3 : t + 1 ≤ j ∧ zx.2.2.1 52 j = nI v
              · rw [if_pos x3, if_pos ⟨by omega, x3.2⟩]
              · rw [if_neg x3, if_neg (fun z => x3 ⟨by omega, z.2⟩)]
theorem R_place {zt zs zg zh zu zl zc zw zx : OS} (h : Rel zt zs zg zh zu zl zc zw zx) (p0 : Int32) (p1 : Int32) : ∃ (F1 F2 : Nat) (r : Int32) (zw' : OS) (zx' : OS), mX9_place F1 zt zs zg zh zu zl zc zw p0 p1 = some (r, zw') ∧ mX10_place F2 zx p0 p1 = some (r, zx') ∧ Rel zt zs zg zh zu zl zc zw' zx' := by
  have hh := h
  obtain ⟨hX, hW, hU, hC, ⟨f, hf, hin, hsu⟩, hG, hT⟩ := h
  unfold mX9_place mX9_place_b0 mX10_place mX10_place_b0 mX7_swapIn mX7_swapIn_b0
  refine ⟨13, 13, ?_⟩
  rw [iw, iw]
  by_cases c : 0 ≤ p0 ∧ p0 ≤ 11
  · rw [if_pos c, b1s, if_neg z01, if_neg (Int32.not_lt.mpr c.1), if_neg (Int32.not_lt.mpr c.2)]
    obtain ⟨i, hi, rfl⟩ := le_nI (n := 11) (by omega) c.1 c.2
    by_cases d : 0 ≤ p1 ∧ p1 ≤ 11
    · rw [if_pos d, b1s, if_neg z01, if_neg (Int32.not_lt.mpr d.1), if_pos d.2]
      obtain ⟨v, hv, rfl⟩ := le_nI (n := 11) (by omega) d.1 d.2
      obtain ⟨k, hk, hfk⟩ := hsu v (by omega)
      have hX1 := swap_loop 13 zw (i := i) (v := v) (k := k) (by omega) hk (by rw [(hf k hk).2.1, hfk]) (fun j hj z => by
        rw [(hf j (by omega)).2.1] at z
        have := (nI_eq (by have := (hf j (by omega)).1; omega) (by omega)).mp z
        have := hin j k (by omega) hk (by omega)
        omega) 13 0 (by omega) (by omega)
      obtain ⟨g, hM1, hM2⟩ := place_loop 13 (i := i) (v := v) (w := f i) (by omega) 13 0 zx (by omega) (by omega)
      refine ⟨1, sA (sA zw 0 (nI k) (zw.2.2.1 0 i)) 0 (nI i) (nI v), sR zx 52 g, by rw [nms, show (0 : Int32) = nI 0 from rfl, hX1]; rfl, by rw [gds (vp_in_nI (by omega) (by omega)), nms, nms, nI_clamp (by omega), (hf i (by omega)).2.2, show (0 : Int32) = nI 0 from rfl, hM1], hX, hW, hU, hC, ⟨fun j => if j = i then v else if f j = v then f i else f j, ?_, ?_, ?_⟩, hG, hT⟩
      · intro j hj
        have hfj := (hf j hj).1
        have hfi := (hf i (by omega)).1
        have hlt : (if j = i then v else if f j = v then f i else f j) < 12 := by
          by_cases q1 : j = i
          · rw [if_pos q1]; omega
          · rw [if_neg q1]
            by_cases q2 : f j = v
            · rw [if_pos q2]; omega
            · rw [if_neg q2]; omega
        refine ⟨hlt, ?_, ?_⟩
        · have e4 : (sA (sA zw 0 (nI k) (zw.2.2.1 0 i)) 0 (nI i) (nI v)).2.2.1 0 j = if j = i then nI v else if j = k then zw.2.2.1 0 i else zw.2.2.1 0 j := by
            unfold sA; rw [sRg, sRg, nI_clamp (by omega), nI_clamp (by omega)]; rfl
          rw [e4]
          by_cases x1 : j = i
          · rw [if_pos x1]; simp only [if_pos x1]
          · rw [if_neg x1]; simp only [if_neg x1]
            by_cases x2 : j = k
            · subst x2; rw [if_pos rfl, if_pos hfk]; exact (hf i (by omega)).2.1
            · rw [if_neg x2, if_neg (fun z => x2 (hin j k hj hk (by omega)))]; exact (hf j hj).2.1
        · show (sR zx 52 g).2.2.1 52 j = _
          rw [sRg, hM2 j hj]
          by_cases x1 : j = i
          · rw [if_pos x1]; simp only [if_pos x1]
          · rw [if_neg x1]; simp only [if_neg x1]
            by_cases x2 : f j = v
            · rw [if_pos ⟨by omega, by rw [(hf j hj).2.2, x2]⟩, if_pos x2]
            · rw [if_neg (fun z => x2 (by
                have z2 := z.2
                rw [(hf j hj).2.2] at z2
                exact (nI_eq (by omega) (by omega)).mp z2)), if_neg x2]
              exact (hf j hj).2.2
      · intro a b ha hb e
        dsimp only at e
        by_cases a1 : a = i
        · by_cases b1 : b = i
          · omega
          · rw [if_pos a1, if_neg b1] at e
            by_cases b2 : f b = v
            · rw [if_pos b2] at e
              exact absurd (hin b i hb (by omega) (by omega)) b1
            · rw [if_neg b2] at e; omega
        · by_cases b1 : b = i
          · rw [if_neg a1, if_pos b1] at e
            by_cases a2 : f a = v
            · rw [if_pos a2] at e
              exact absurd (hin a i ha (by omega) (by omega)) a1
            · rw [if_neg a2] at e; omega
          · rw [if_neg a1, if_neg b1] at e
            by_cases a2 : f a = v
            · by_cases b2 : f b = v
              · exact hin a b ha hb (by omega)
              · rw [if_pos a2, if_neg b2] at e
                exact absurd (hin b i hb (by omega) (by omega)) b1
            · by_cases b2 : f b = v
              · rw [if_neg a2, if_pos b2] at e
                exact absurd (hin a i ha (by omega) (by omega)) a1
              · rw [if_neg a2, if_neg b2] at e
                exact hin a b ha hb e
      · intro u hu
        dsimp only
        by_cases u1 : u = v
        · exact ⟨i, by omega, by rw [if_pos rfl]; omega⟩
        · by_cases u2 : u = f i
          · refine ⟨k, hk, ?_⟩
            by_cases y : k = i
            · subst y; omega
            · rw [if_neg y, if_pos hfk]; omega
          · obtain ⟨q, hq, hfq⟩ := hsu u hu
            refine ⟨q, hq, ?_⟩
            rw [if_neg (fun z => u2 (by rw [← hfq, z])), if_neg (by omega)]
            exact hfq
    · rw [if_neg d, b1s, if_pos rfl]
      refine ⟨-2, zw, zx, rfl, ?_, hh⟩
      by_cases c1 : p1 < 0
      · rw [if_pos c1]
      · rw [if_neg c1, if_neg (fun z => d ⟨Int32.not_lt.mp c1, z⟩)]
  · rw [if_neg c, b1s, if_pos rfl]
    refine ⟨-2, zw, zx, rfl, ?_, hh⟩
    by_cases c1 : p0 < 0
    · rw [if_pos c1]
    · rw [if_neg c1, if_pos (Int32.not_le.mp (fun z => c ⟨Int32.not_lt.mp c1, z⟩))]
/-! forms that are alike -/
def smB (f : Nat → Nat) (a b : Nat) : Nat → Nat → Bool
  | 0, _ => true
  | n + 1, t => decide (fv f (a / 12) (a % 12) t = fv f (b / 12) (b % 12) t) && smB f a b n (t + 1)
def hdB (f : Nat → Nat) (a : Nat) : Nat → Nat → Bool
  | 0, _ => false
  | n + 1, b => smB f a b 12 0 || hdB f a n (b + 1)
def cdB (f : Nat → Nat) : Nat → Nat → Nat → Nat
  | 0, _, c => c
  | n + 1, a, c => cdB f n (a + 1) (c + if hdB f a a 0 then 1 else 0)
theorem fv_lt (f : Nat → Nat) (fo b i : Nat) : fv f fo b i < 12 := by
  unfold fv
  split <;> exact Nat.mod_lt _ (by omega)
theorem d12 : ∀ a, a < 48 → nI a / 12 = nI (a / 12) ∧ nI a - nI a / 12 * 12 = nI (a % 12) := by decide +kernel
theorem same_X (F : Nat) (zw : OS) (f : Nat → Nat) (hf : ∀ j, j < 12 → f j < 12 ∧ zw.2.2.1 0 j = nI (f j)) {a b : Nat} (ha : a < 48) (hb : b < 48) : ∀ (n t k : Nat), t + k = 12 → k < n → mX7_isSame_b2 F n zw (nI a) (nI b) (nI t) = some (if smB f a b k t then 1 else 0) := by
  intro n
  induction n with
  | zero => intro t k h1 h2; omega
  | succ n ih =>
    intro t k h1 h2
    unfold mX7_isSame_b2
    cases k with
    | zero =>
      rw [if_pos (le_litA (y := 12) (a := 12) rfl (by omega) (by omega))]
      rfl
    | succ k =>
      rw [if_neg (ge_lit (y := 12) (b := 12) rfl (by omega) (by omega)), (d12 a ha).1, (d12 b hb).1]
      have e1 := (d12 a ha).2
      have e2 := (d12 b hb).2
      rw [(d12 a ha).1] at e1
      rw [(d12 b hb).1] at e2
      rw [e1, e2, num_X zw f hf (by omega) (Nat.mod_lt _ (by omega)) (by omega), b1s, num_X zw f hf (by omega) (Nat.mod_lt _ (by omega)) (by omega), b1s, nms, nI_1]
      have l1 := fv_lt f (a / 12) (a % 12) t
      have l2 := fv_lt f (b / 12) (b % 12) t
      by_cases c : fv f (a / 12) (a % 12) t = fv f (b / 12) (b % 12) t
      · rw [if_pos (congrArg nI c), ih (t + 1) k (by omega) (by omega)]
        simp only [smB, c, decide_true, Bool.true_and]
      · rw [if_neg (fun z => c ((nI_eq (by omega) (by omega)).mp z))]
        simp [smB, c]
theorem one_X (F : Nat) (hF : 12 < F) (zw : OS) (f : Nat → Nat) (hf : ∀ j, j < 12 → f j < 12 ∧ zw.2.2.1 0 j = nI (f j)) {a : Nat} (ha : a < 48) : ∀ (n b k : Nat), b + k = a → k < n → mX7_isAsOneBefore_b2 F n zw (nI a) (nI b) = some (if hdB f a k b then 1 else 0) := by
  intro n
  induction n with
  | zero => intro b k h1 h2; omega
  | succ n ih =>
    intro b k h1 h2
    unfold mX7_isAsOneBefore_b2 mX7_isSame mX7_isSame_b0
    cases k with
    | zero =>
      rw [if_pos (nI_le (by omega) (by omega))]
      rfl
    | succ k =>
      rw [if_neg (nI_ge (by omega) (by omega)), nms, show (0 : Int32) = nI 0 from rfl, same_X F zw f hf ha (by omega) F 0 12 (by omega) (by omega), b1s, nms, nI_1]
      by_cases c : smB f a b 12 0 = true
      · rw [if_pos c, if_neg (by decide)]
        simp [hdB, c]
      · rw [if_neg c, if_pos (by decide), ih (b + 1) k (by omega) (by omega)]
        simp only [hdB, Bool.not_eq_true] at c ⊢
        simp only [c, Bool.false_or]
        rfl
theorem cnt_X (F : Nat) (hF : 48 < F) (zw : OS) (f : Nat → Nat) (hf : ∀ j, j < 12 → f j < 12 ∧ zw.2.2.1 0 j = nI (f j)) : ∀ (n a k c : Nat), a + k = 48 → k < n → mX7_countDoubled_b4 F n zw (nI c) (nI a) = some (nI (cdB f k a c)) := by
  intro n
  induction n with
  | zero => intro a k c h1 h2; omega
  | succ n ih =>
    intro a k c h1 h2
    unfold mX7_countDoubled_b4 mX7_isAsOneBefore mX7_isAsOneBefore_b0
    cases k with
    | zero =>
      rw [if_pos (le_litA (y := 48) (a := 48) rfl (by omega) (by omega))]
      rfl
    | succ k =>
      rw [if_neg (ge_lit (y := 48) (b := 48) rfl (by omega) (by omega)), nms, show (0 : Int32) = nI 0 from rfl, one_X F (by omega) zw f hf (by omega) F 0 a (by omega) (by omega), b1s, nms, nms, nms, nI_1, nI_1]
      by_cases q : hdB f a a 0 = true
      · rw [if_pos q, if_neg (by decide), ih (a + 1) k (c + 1) (by omega) (by omega)]
        simp only [cdB, q, if_true]
      · rw [if_neg q, if_pos (by decide), ih (a + 1) k c (by omega) (by omega)]
        simp only [cdB, q]
        simp
theorem bit01 : ∀ a, a < 2 → ∀ b, b < 2 → nI a &&& 1 = nI a ∧ nI a &&& 0 = 0 ∧ nI a ||| nI b = nI (a ||| b) ∧ (a ||| b) < 2 := by decide +kernel
theorem dbl_27 (F : Nat) (zx : OS) (f : Nat → Nat) (hf : ∀ j, j < 12 → f j < 12 ∧ zx.2.2.1 52 j = nI (f j)) {a b : Nat} (ha : a < 48) (hb : b < 48) (K : OS → Int32 → Int32 → Int32 → Int32 → Option Int32) (cn : Int32) (hd : Nat) (hhd : hd < 2) : ∀ (n t k s : Nat), t + k = 12 → k < n → s < 2 → mX10_doubled_b27 F K n zx cn (nI a) (nI hd) (nI b) (nI s) (nI t) = K zx cn (nI a) (nI (hd ||| (if smB f a b k t then s else 0))) (nI (b + 1)) := by
  intro n
  induction n with
  | zero => intro t k s h1 h2; omega
  | succ n ih =>
    intro t k s h1 h2 hs
    unfold mX10_doubled_b27
    cases k with
    | zero =>
      rw [if_pos (le_litA (y := 12) (a := 12) rfl (by omega) (by omega)), nms, nms, (bit01 hd hhd s hs).2.2.1, nI_1]
      rfl
    | succ k =>
      rw [if_neg (ge_lit (y := 12) (b := 12) rfl (by omega) (by omega)), (d12 a ha).1, (d12 b hb).1]
      have e1 := (d12 a ha).2
      have e2 := (d12 b hb).2
      rw [(d12 a ha).1] at e1
      rw [(d12 b hb).1] at e2
      rw [e1, e2, form_M zx f hf (by omega) (Nat.mod_lt _ (by omega)) (by omega), b1s, form_M zx f hf (by omega) (Nat.mod_lt _ (by omega)) (by omega), b1s, nms, nms, nms, nms, nI_1, (bit01 s hs 0 (by omega)).1, (bit01 s hs 0 (by omega)).2.1]
      have l1 := fv_lt f (a / 12) (a % 12) t
      have l2 := fv_lt f (b / 12) (b % 12) t
      by_cases c : fv f (a / 12) (a % 12) t = fv f (b / 12) (b % 12) t
      · rw [if_pos (congrArg nI c), ih (t + 1) k s (by omega) (by omega) hs]
        simp only [smB, c, decide_true, Bool.true_and]
      · rw [if_neg (fun z => c ((nI_eq (by omega) (by omega)).mp z)), show (0 : Int32) = nI 0 from rfl, ih (t + 1) k 0 (by omega) (by omega) (by omega)]
        simp [smB, c]
theorem dbl_15 (F : Nat) (hF : 12 < F) (zx : OS) (f : Nat → Nat) (hf : ∀ j, j < 12 → f j < 12 ∧ zx.2.2.1 52 j = nI (f j)) {a : Nat} (ha : a < 48) (K : OS → Int32 → Int32 → Option Int32) (cn : Nat) : ∀ (n b k hd : Nat), b + k = a → k < n → hd < 2 → mX10_doubled_b15 F K n zx (nI cn) (nI a) (nI hd) (nI b) = K zx (nI (cn + if (decide (hd = 1) || hdB f a k b) then 1 else 0)) (nI (a + 1)) := by
  intro n
  induction n with
  | zero => intro b k hd h1 h2; omega
  | succ n ih =>
    intro b k hd h1 h2 hh
    unfold mX10_doubled_b15
    cases k with
    | zero =>
      rw [if_pos (nI_le (by omega) (by omega)), nms, nms, nms, nms, nI_1, nI_1]
      rcases (show hd = 0 ∨ hd = 1 by omega) with rfl | rfl
      · rw [if_pos (by decide), show nI cn + 0 = nI (cn + 0) from nI_add cn 0]
        rfl
      · rw [if_neg (by decide)]
        rfl
    | succ k =>
      rw [if_neg (nI_ge (by omega) (by omega)), nms, nms, show (1 : Int32) = nI 1 from rfl, show (0 : Int32) = nI 0 from rfl, dbl_27 F zx f hf ha (by omega) _ _ hd hh F 0 12 1 (by omega) (by omega) (by omega)]
      by_cases c : smB f a b 12 0 = true
      · rw [if_pos c]
        have e : hd ||| 1 = 1 := by rcases (show hd = 0 ∨ hd = 1 by omega) with rfl | rfl <;> rfl
        rw [e, ih (b + 1) k 1 (by omega) (by omega) (by omega)]
        simp [hdB, c]
      · rw [if_neg c]
        have e : hd ||| 0 = hd := Nat.or_zero hd
        rw [e, ih (b + 1) k hd (by omega) (by omega) hh]
        simp only [Bool.not_eq_true] at c
        simp [hdB, c]
theorem dbl_4 (F : Nat) (hF : 48 < F) (zx : OS) (f : Nat → Nat) (hf : ∀ j, j < 12 → f j < 12 ∧ zx.2.2.1 52 j = nI (f j)) : ∀ (n a k c : Nat), a + k = 48 → k < n → mX10_doubled_b4 F n zx (nI c) (nI a) = some (nI (cdB f k a c)) := by
  intro n
  induction n with
  | zero => intro a k c h1 h2; omega
  | succ n ih =>
    intro a k c h1 h2
    unfold mX10_doubled_b4
    cases k with
    | zero =>
      rw [if_pos (le_litA (y := 48) (a := 48) rfl (by omega) (by omega))]
      rfl
    | succ k =>
      rw [if_neg (ge_lit (y := 48) (b := 48) rfl (by omega) (by omega)), nms, nms, show (0 : Int32) = nI 0 from rfl, dbl_15 F (by omega) zx f hf (by omega) _ c F 0 a 0 (by omega) (by omega) (by omega), ih (a + 1) k _ (by omega) (by omega)]
      simp [cdB]
theorem R_doubled {zt zs zg zh zu zl zc zw zx : OS} (h : Rel zt zs zg zh zu zl zc zw zx)  : ∃ (F1 F2 : Nat) (r : Int32), mX9_doubled F1 zt zs zg zh zu zl zc zw  = some r ∧ mX10_doubled F2 zx  = some r ∧ Rel zt zs zg zh zu zl zc zw zx := by
  obtain ⟨f, hf, -, -⟩ := h.2.2.2.2.1
  refine ⟨50, 50, nI (cdB f 47 1 0), ?_, ?_, h⟩
  · unfold mX9_doubled mX9_doubled_b0 mX7_countDoubled mX7_countDoubled_b0
    rw [nms, nms, show (0 : Int32) = nI 0 from rfl, show (1 : Int32) = nI 1 from rfl, cnt_X 50 (by omega) zw f (fun j hj => ⟨(hf j hj).1, (hf j hj).2.1⟩) 50 1 47 0 (by omega) (by omega)]
    rfl
  · unfold mX10_doubled mX10_doubled_b0
    rw [nms, nms, show (0 : Int32) = nI 0 from rfl, dbl_4 50 (by omega) zx f (fun j hj => ⟨(hf j hj).1, (hf j hj).2.2⟩) 50 0 48 0 (by omega) (by omega)]
    rfl

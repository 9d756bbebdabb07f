/-! rows of strokes turned -/
theorem lg0 (x y : Int64) : lg_cmp x y = 0 ↔ x = y := by
  unfold lg_cmp
  by_cases h1 : x > y
  · rw [if_pos h1]
    constructor
    · intro z; exact absurd z (by decide)
    · intro z
      rw [z] at h1
      have := Int64.lt_iff_toInt_lt.mp h1
      omega
  · rw [if_neg h1]
    by_cases h2 : x = y
    · rw [if_pos h2]; exact ⟨fun _ => h2, fun _ => rfl⟩
    · rw [if_neg h2]
      constructor
      · intro z; exact absurd z (by decide)
      · intro z; exact absurd z h2
def gb (x : Int64) (i : Nat) : Bool := x.toBitVec.getLsbD i
theorem gb_ext {x y : Int64} (h : ∀ i, i < 64 → gb x i = gb y i) : x = y := Int64.toBitVec_inj.mp (BitVec.eq_of_getLsbD_eq h)
theorem t_cs : ∀ i, i < 64 → ((nI i).toInt64 &&& 63).toBitVec.smod 64 = BitVec.ofNat 64 i := by decide +kernel
theorem t_cu : ∀ i, i < 64 → ((nI i).toInt64.toUInt64 &&& Int64.toUInt64 63).toBitVec % 64 = BitVec.ofNat 64 i := by decide +kernel
theorem gb_sar (x : Int64) {i j : Nat} (hi : i < 64) (h : i + j < 64) : gb (x >>> ((nI i).toInt64 &&& 63)) j = gb x (i + j) := by
  unfold gb
  rw [Int64.toBitVec_shiftRight, t_cs i hi]
  have e0 : (BitVec.ofNat 64 i).toNat = i := by simp; omega
  show (x.toBitVec.sshiftRight (BitVec.ofNat 64 i).toNat).getLsbD j = _
  rw [e0, BitVec.getLsbD_sshiftRight]
  simp [h]
  intro h2
  omega
theorem gb_shr (x : Int64) {i : Nat} (j : Nat) (hi : i < 64) : gb ((x.toUInt64 >>> ((nI i).toInt64.toUInt64 &&& Int64.toUInt64 63)).toInt64) j = gb x (i + j) := by
  unfold gb
  have e0 : (BitVec.ofNat 64 i).toNat = i := by simp; omega
  rw [UInt64.toBitVec_toInt64, UInt64.toBitVec_shiftRight, t_cu i hi, BitVec.ushiftRight_eq', e0, BitVec.getLsbD_ushiftRight]
  rfl
theorem gb_shl (x : Int64) {i j : Nat} (hi : i < 64) (hj : j < 64) : gb (x <<< ((nI i).toInt64 &&& 63)) j = (decide (i ≤ j) && gb x (j - i)) := by
  unfold gb
  have e0 : (BitVec.ofNat 64 i).toNat = i := by simp; omega
  rw [Int64.toBitVec_shiftLeft, t_cs i hi, BitVec.shiftLeft_eq', e0, BitVec.getLsbD_shiftLeft]
  by_cases c : i ≤ j
  · have : ¬ j < i := by omega
    simp [c, this, hj]
  · have : j < i := by omega
    simp [c, this]
theorem gb_and (x y : Int64) (j : Nat) : gb (x &&& y) j = (gb x j && gb y j) := by
  unfold gb
  rw [Int64.toBitVec_and, BitVec.getLsbD_and]
theorem gb_or (x y : Int64) (j : Nat) : gb (x ||| y) j = (gb x j || gb y j) := by
  unfold gb
  rw [Int64.toBitVec_or, BitVec.getLsbD_or]
theorem gb_1 : ∀ j, j < 64 → gb 1 j = decide (j = 0) := by decide +kernel
theorem gb_m1 : ∀ j, j < 64 → gb (-1) j = true := by decide +kernel
theorem gb_big (x : Int64) {j : Nat} (h : 64 ≤ j) : gb x j = false := BitVec.getLsbD_of_ge _ _ h
theorem bit1 (x y : Int64) {i k : Nat} (hi : i < 64) (hk : k < 64) : ((x >>> ((nI i).toInt64 &&& 63)) &&& 1 = (y >>> ((nI k).toInt64 &&& 63)) &&& 1) ↔ gb x i = gb y k := by
  constructor
  · intro h
    have := congrArg (fun z => gb z 0) h
    rw [gb_and, gb_and, gb_sar x hi (by omega), gb_sar y hk (by omega), gb_1 0 (by omega)] at this
    simpa using this
  · intro h
    apply gb_ext
    intro j hj
    rw [gb_and, gb_and, gb_1 j hj]
    by_cases c : j = 0
    · subst c
      rw [gb_sar x hi (by omega), gb_sar y hk (by omega)]
      simp [h]
    · simp [c]
def pb (a b : Int64) (s t : Nat) : Nat → Nat → Bool
  | 0, _ => true
  | d + 1, i => (gb b i == gb a ((i + t) % s)) && pb a b s t d (i + 1)
theorem pb_iff (a b : Int64) (s t : Nat) : ∀ d i, pb a b s t d i = true ↔ ∀ j, i ≤ j → j < i + d → gb b j = gb a ((j + t) % s) := by
  intro d
  induction d with
  | zero => intro i; exact ⟨fun _ j h1 h2 => by omega, fun _ => rfl⟩
  | succ d ih =>
    intro i
    simp only [pb, Bool.and_eq_true, beq_iff_eq, ih (i + 1)]
    constructor
    · rintro ⟨h1, h2⟩ j hj1 hj2
      by_cases c : j = i
      · rw [c]; exact h1
      · exact h2 j (by omega) (by omega)
    · intro h
      exact ⟨h i (by omega) (by omega), fun j h1 h2 => h j (by omega) (by omega)⟩
theorem ms_c : ∀ s, s < 65 → 1 ≤ s → ((64 - nI s : Int32).toInt64.toUInt64 &&& Int64.toUInt64 63) = ((nI (64 - s)).toInt64.toUInt64 &&& Int64.toUInt64 63) := by decide +kernel
def msk (s : Nat) : Int64 := (((-1) : Int64).toUInt64 >>> ((64 - nI s : Int32).toInt64.toUInt64 &&& Int64.toUInt64 63)).toInt64
theorem gb_msk {s j : Nat} (h1 : 1 ≤ s) (h2 : s ≤ 64) : gb (msk s) j = decide (j < s) := by
  unfold msk
  rw [ms_c s (by omega) h1, gb_shr _ j (show 64 - s < 64 by omega)]
  by_cases c : 64 - s + j < 64
  · rw [gb_m1 _ c]; simp; omega
  · rw [gb_big _ (by omega)]; simp; omega
theorem rot_eq (a b : Int64) {s t : Nat} (h1 : 1 ≤ s) (h2 : s ≤ 64) (ht0 : 1 ≤ t) (ht : t < s) : ((((((a &&& msk s).toUInt64 >>> ((nI t).toInt64.toUInt64 &&& Int64.toUInt64 63)).toInt64) ||| ((a &&& msk s) <<< ((nI (s - t)).toInt64 &&& 63))) &&& msk s) = b &&& msk s) ↔ pb a b s t s 0 = true := by
  rw [pb_iff]
  have key : ∀ j, j < s → gb (((((a &&& msk s).toUInt64 >>> ((nI t).toInt64.toUInt64 &&& Int64.toUInt64 63)).toInt64) ||| ((a &&& msk s) <<< ((nI (s - t)).toInt64 &&& 63))) &&& msk s) j = gb a ((j + t) % s) := by
    intro j hj
    rw [gb_and, gb_or, gb_shr _ j (show t < 64 by omega), gb_shl _ (show s - t < 64 by omega) (show j < 64 by omega), gb_and, gb_and, gb_msk h1 h2, gb_msk h1 h2, gb_msk h1 h2]
    by_cases c : j + t < s
    · rw [Nat.mod_eq_of_lt c]
      have e1 : t + j < s := by omega
      have e2 : ¬ s - t ≤ j := by omega
      simp [e1, e2, hj, Nat.add_comm]
    · have e3 : (j + t) % s = j - (s - t) := by
        rw [Nat.mod_eq_sub_mod (by omega), Nat.mod_eq_of_lt (by omega)]
        omega
      have e1 : ¬ t + j < s := by omega
      have e2 : s - t ≤ j := by omega
      have e4 : j - (s - t) < s := by omega
      rw [e3]
      simp [e1, e2, e4, hj]
  constructor
  · intro h j _ hj
    have h3 := congrArg (fun z => gb z j) h
    rw [key j (by omega), gb_and, gb_msk h1 h2] at h3
    rw [h3]
    simp
    intro _
    omega
  · intro h
    apply gb_ext
    intro j hj
    by_cases c : j < s
    · rw [key j c, gb_and, gb_msk h1 h2, h j (by omega) (by omega)]
      simp [c]
    · rw [gb_and, gb_and, gb_msk h1 h2]
      simp [c]
theorem rot0_eq (a b : Int64) {s : Nat} (h1 : 1 ≤ s) (h2 : s ≤ 64) : (a &&& msk s = b &&& msk s) ↔ pb a b s 0 s 0 = true := by
  rw [pb_iff]
  constructor
  · intro h j _ hj
    have h3 := congrArg (fun z => gb z j) h
    rw [gb_and, gb_and, gb_msk h1 h2] at h3
    rw [Nat.add_zero, Nat.mod_eq_of_lt (by omega)]
    simp [show j < s by omega] at h3
    exact h3.symm
  · intro h
    apply gb_ext
    intro j hj
    rw [gb_and, gb_and, gb_msk h1 h2]
    by_cases c : j < s
    · have := h j (by omega) (by omega)
      rw [Nat.add_zero, Nat.mod_eq_of_lt c] at this
      simp [c, this]
    · simp [c]
/-- the least t from t on that turns a into b -/
def fnT (a b : Int64) (s : Nat) : Nat → Nat → Int32
  | 0, _ => -1
  | d + 1, t => if pb a b s t s 0 then nI t else fnT a b s d (t + 1)
theorem turn_X (F : Nat) (zt zs zg zh zu zl zc zw : OS) (a b : Int64) {s : Nat} (h1 : 1 ≤ s) (h2 : s ≤ 64) : ∀ (d t f : Nat), t + d = s → 1 ≤ t → d < f → mX9_turned_b50 F f zt zs zg zh zu zl zc zw (nI s) (msk s) (a &&& msk s) (b &&& msk s) (nI t) = some (fnT a b s d t) := by
  intro d
  induction d with
  | zero =>
    intro t f h3 h4 h5
    obtain ⟨f, rfl⟩ : ∃ q, f = q + 1 := ⟨f - 1, by omega⟩
    unfold mX9_turned_b50
    rw [if_pos (nI_le (by omega) (by omega))]
    rfl
  | succ d ih =>
    intro t f h3 h4 h5
    obtain ⟨f, rfl⟩ : ∃ q, f = q + 1 := ⟨f - 1, by omega⟩
    unfold mX9_turned_b50
    rw [if_neg (nI_ge (by omega) (by omega)), pk_sub (show t ≤ s by omega), nms, nI_1, ih (t + 1) f (by omega) (by omega) (by omega)]
    by_cases c : pb a b s t s 0 = true
    · rw [if_pos ((lg0 _ _).mpr ((rot_eq a b h1 h2 h4 (by omega)).mpr c))]
      simp only [fnT, if_pos c]
    · rw [if_neg (fun z => c ((rot_eq a b h1 h2 h4 (by omega)).mp ((lg0 _ _).mp z)))]
      simp only [fnT, if_neg c]
theorem turn_32 (F : Nat) (zx : OS) (a b : Int64) {s t : Nat} (h1 : 1 ≤ s) (h2 : s ≤ 64) (ht : t < s) (K : OS → Int64 → Int64 → Int32 → Int32 → Option Int32) : ∀ (d i f m : Nat), i + d = s → d < f → m < 2 → mX10_turned_b32 F K f zx a b (nI s) (nI t) (nI m) (nI i) = if m = 1 ∧ pb a b s t d i = true then some (nI t) else K zx a b (nI s) (nI (t + 1)) := by
  intro d
  induction d with
  | zero =>
    intro i f m h3 h4 hm
    obtain ⟨f, rfl⟩ : ∃ q, f = q + 1 := ⟨f - 1, by omega⟩
    unfold mX10_turned_b32
    rw [if_pos (nI_le (by omega) (by omega)), nms, nI_1]
    rcases (show m = 0 ∨ m = 1 by omega) with rfl | rfl
    · rw [if_pos (by decide), if_neg (by simp)]
    · rw [if_neg (by decide), if_pos ⟨rfl, rfl⟩]
  | succ d ih =>
    intro i f m h3 h4 hm
    obtain ⟨f, rfl⟩ : ∃ q, f = q + 1 := ⟨f - 1, by omega⟩
    unfold mX10_turned_b32
    have hs0 : ¬ nI s = 0 := nI_ne0 (by omega) (by omega)
    rw [if_neg (nI_ge (by omega) (by omega)), nzs hs0, nI_add, pk_rem (by omega) (by omega) (by omega)]
    simp only [nms, nI_1]
    rw [(bit01 m hm 0 (by omega)).1, (bit01 m hm 0 (by omega)).2.1]
    have hmod : (i + t) % s < 64 := Nat.lt_of_lt_of_le (Nat.mod_lt _ (by omega)) h2
    by_cases c : gb b i = gb a ((i + t) % s)
    · rw [if_pos ((lg0 _ _).mpr ((bit1 b a (by omega) hmod).mpr c)), ih (i + 1) f m (by omega) (by omega) hm]
      simp only [pb, c, beq_self_eq_true, Bool.true_and]
    · rw [if_neg (fun z => c ((bit1 b a (by omega) hmod).mp ((lg0 _ _).mp z))), show (0 : Int32) = nI 0 from rfl, ih (i + 1) f 0 (by omega) (by omega) (by omega), if_neg (by simp), if_neg]
      intro z
      have z2 := z.2
      simp only [pb, Bool.and_eq_true, beq_iff_eq] at z2
      exact c z2.1
theorem turn_19 (F : Nat) (zx : OS) (a b : Int64) {s : Nat} (h1 : 1 ≤ s) (h2 : s ≤ 64) (hF : s < F) : ∀ (d t f : Nat), t + d = s → d < f → mX10_turned_b19 F f zx a b (nI s) (nI t) = some (fnT a b s d t) := by
  intro d
  induction d with
  | zero =>
    intro t f h3 h5
    obtain ⟨f, rfl⟩ : ∃ q, f = q + 1 := ⟨f - 1, by omega⟩
    unfold mX10_turned_b19
    rw [if_pos (nI_le (by omega) (by omega))]
    rfl
  | succ d ih =>
    intro t f h3 h5
    obtain ⟨f, rfl⟩ : ∃ q, f = q + 1 := ⟨f - 1, by omega⟩
    unfold mX10_turned_b19
    rw [if_neg (nI_ge (by omega) (by omega)), nms, nms, show (1 : Int32) = nI 1 from rfl, show (0 : Int32) = nI 0 from rfl, turn_32 F zx a b h1 h2 (by omega) _ s 0 F 1 (by omega) hF (by omega), ih (t + 1) f (by omega) (by omega)]
    by_cases c : pb a b s t s 0 = true
    · rw [if_pos ⟨rfl, c⟩]
      simp only [fnT, if_pos c]
    · rw [if_neg (fun z => c z.2)]
      simp only [fnT, if_neg c]
theorem turned_X0 (F : Nat) (zt zs zg zh zu zl zc zw : OS) (a b : Int64) (s : Nat) : mX9_turned F zt zs zg zh zu zl zc zw a b (nI s) = b1 (mX9_isWithin (nI s) 1 64) (fun r1 => (if (r1 : Int32) = 0 then some (-2) else (if (lg_cmp (a &&& msk s) (b &&& msk s) : Int32) = 0 then some 0 else mX9_turned_b50 F F zt zs zg zh zu zl zc zw (nI s) (msk s) (a &&& msk s) (b &&& msk s) (nI 1)))) := rfl
theorem R_turned {zt zs zg zh zu zl zc zw zx : OS} (h : Rel zt zs zg zh zu zl zc zw zx) (p0 : Int64) (p1 : Int64) (p2 : Int32) : ∃ (F1 F2 : Nat) (r : Int32), mX9_turned F1 zt zs zg zh zu zl zc zw p0 p1 p2 = some r ∧ mX10_turned F2 zx p0 p1 p2 = some r ∧ Rel zt zs zg zh zu zl zc zw zx := by
  obtain ⟨F, hF⟩ : ∃ F : Nat, 65 < F := ⟨66, by omega⟩
  refine ⟨F, F, ?_⟩
  by_cases c : 1 ≤ p2 ∧ p2 ≤ 64
  · obtain ⟨s, hs, rfl⟩ := le_nI (n := 64) (x := p2) (by omega) (Int32.le_trans (by decide) c.1) c.2
    have h1 : 1 ≤ s := (nI_leI (a := 1) (by omega) (by omega)).mp c.1
    refine ⟨fnT p0 p1 s s 0, ?_, ?_, h⟩
    · rw [turned_X0, iw, if_pos c, b1s, if_neg z01]
      obtain ⟨d, rfl⟩ : ∃ d, s = d + 1 := ⟨s - 1, by omega⟩
      by_cases e : pb p0 p1 (d + 1) 0 (d + 1) 0 = true
      · rw [if_pos ((lg0 _ _).mpr ((rot0_eq p0 p1 h1 (by omega)).mpr e))]
        simp only [fnT, if_pos e]
        rfl
      · rw [if_neg (fun z => e ((rot0_eq p0 p1 h1 (by omega)).mp ((lg0 _ _).mp z))), turn_X F zt zs zg zh zu zl zc zw p0 p1 h1 (by omega) d 1 F (by omega) (by omega) (by omega)]
        simp only [fnT, if_neg e]
    · unfold mX10_turned mX10_turned_b0
      rw [if_neg (Int32.not_lt.mpr c.1), if_pos c.2, nms]
      exact turn_19 F zx p0 p1 h1 (by omega) (by omega) s 0 F (by omega) (by omega)
  · refine ⟨-2, ?_, ?_, h⟩
    · unfold mX9_turned mX9_turned_b0
      rw [iw, if_neg c, b1s, if_pos rfl]
    · unfold mX10_turned mX10_turned_b0
      by_cases c1 : p2 < 1
      · rw [if_pos c1]
      · rw [if_neg c1, if_neg (fun z => c ⟨Int32.not_lt.mp c1, z⟩)]

/-! bytes of a long -/
def byt (x : Int64) (k : Nat) : Int32 := (((x.toUInt64 >>> ((nI (56 - 8 * k)).toInt64.toUInt64 &&& Int64.toUInt64 63)).toInt64).toInt32) &&& 255
theorem sh_cu : ∀ k, k < 8 → ((nI (56 - 8 * k)).toInt64.toUInt64 &&& Int64.toUInt64 63).toBitVec % 64 = BitVec.ofNat 64 (56 - 8 * k) := by decide +kernel
theorem sh_cs : ∀ k, k < 8 → ((56 - (8 * nI k) : Int32).toInt64 &&& 63).toBitVec.smod 64 = BitVec.ofNat 64 (56 - 8 * k) := by decide +kernel
theorem byt_M (x : Int64) (k : Nat) (hk : k < 8) : ((x >>> ((56 - (8 * nI k) : Int32).toInt64 &&& 63)).toInt32 &&& 255) = byt x k := by
  unfold byt
  apply Int32.toBitVec_inj.mp
  apply BitVec.eq_of_getLsbD_eq
  intro i hi
  rw [Int32.toBitVec_and, Int32.toBitVec_and, BitVec.getLsbD_and, BitVec.getLsbD_and]
  by_cases c : i < 8
  · congr 1
    rw [Int64.toBitVec_toInt32, Int64.toBitVec_toInt32, Int64.toBitVec_shiftRight, UInt64.toBitVec_toInt64, UInt64.toBitVec_shiftRight, sh_cu k hk, sh_cs k hk]
    have e0 : (BitVec.ofNat 64 (56 - 8 * k)).toNat = 56 - 8 * k := by simp; omega
    simp only [BitVec.getLsbD_signExtend, hi, decide_true, Bool.true_and, show i < 64 by omega, if_true, BitVec.ushiftRight_eq', e0, BitVec.getLsbD_sshiftRight, BitVec.getLsbD_ushiftRight, show 56 - 8 * k + i < 64 by omega, show ¬ 64 ≤ i by omega, decide_false, Bool.not_false]
    show (x.toBitVec.sshiftRight (BitVec.ofNat 64 (56 - 8 * k)).toNat).getLsbD i = x.toBitVec.getLsbD (56 - 8 * k + i)
    rw [e0, BitVec.getLsbD_sshiftRight]
    simp [show 56 - 8 * k + i < 64 by omega]
    intro h
    omega
  · have e : (255 : Int32).toBitVec.getLsbD i = false := by
      have : ∀ j, j < 32 → ¬ j < 8 → (255 : Int32).toBitVec.getLsbD j = false := by decide +kernel
      exact this i hi c
    rw [e, Bool.and_false, Bool.and_false]
theorem byt_lt (x : Int64) (k : Nat) : ∃ c, c < 256 ∧ byt x k = nI c := pk_andE _ 8 (by decide)
theorem c56 : ∀ k, k < 8 → nI (56 - 8 * k) + (-8) = (if k = 7 then -8 else nI (56 - 8 * (k + 1))) := by decide +kernel
theorem byt_X (x : Int64) (k : Nat) : mX6_byteOf x (nI (56 - 8 * k)) = some (byt x k) := rfl
/-- as many of the bytes from k on as are none -/
def cntB (x : Int64) : Nat → Nat → Nat
  | 0, _ => 0
  | n + 1, k => (if byt x k = 0 then 0 else 1) + cntB x n (k + 1)
def okTx (x : Int64) : Nat → Nat → Bool
  | 0, _ => true
  | n + 1, k => (decide (byt x k = 0) || decide (byt x k = 10) || (decide (32 ≤ byt x k) && decide (byt x k ≤ 126))) && okTx x n (k + 1)
theorem allow_X (c : Int32) : mX6_isAllowed c = some (if (decide (c = 0) || decide (c = 10) || (decide (32 ≤ c) && decide (c ≤ 126))) then 1 else 0) := by
  unfold mX6_isAllowed mX6_isAllowed_b0
  rw [iw]
  by_cases a : c = 0
  · rw [if_pos a]; simp [a]
  · rw [if_neg a]
    by_cases b : c = 10
    · rw [if_pos b]; simp [b]
    · rw [if_neg b, b1s]
      by_cases d : 32 ≤ c ∧ c ≤ 126
      · rw [if_pos d, if_neg z01]; simp [d.1, d.2]
      · rw [if_neg d, if_pos rfl]
        have e : (decide (32 ≤ c) && decide (c ≤ 126)) = false := by
          cases h : (decide (32 ≤ c) && decide (c ≤ 126)) with
          | false => rfl
          | true => simp at h; exact absurd h d
        simp [a, b, e]
def shB (k : Nat) : Int32 := if k = 8 then -8 else nI (56 - 8 * k)
theorem shB_8 : shB 8 = -8 := rfl
theorem shB_k {k : Nat} (h : k < 8) : shB k = nI (56 - 8 * k) := if_neg (by omega)
theorem shB_s {k : Nat} (h : k < 8) : shB k + (-8) = shB (k + 1) := by
  rw [shB_k h, c56 k h]
  unfold shB
  by_cases c : k = 7
  · subst c; rfl
  · rw [if_neg c, if_neg (by omega)]
theorem shB_n {k : Nat} (h : k < 8) : ¬ shB k < 0 := by rw [shB_k h]; exact nI_pos (by omega)
theorem first_X (F : Nat) (zs : OS) (row : Int64) : ∀ (d k f c : Nat), k + d = 8 → d < f → mX6_append_b6 F f zs row (nI c) (shB k) = if okTx row d k then (if zs.1 1 + nI (c + cntB row d k) ≤ 1200 then mX6_append_b68 F F zs row 56 else some (-4, zs)) else some (-2, zs) := by
  intro d
  induction d with
  | zero =>
    intro k f c h1 h2
    obtain ⟨f, rfl⟩ : ∃ q, f = q + 1 := ⟨f - 1, by omega⟩
    have hk : k = 8 := by omega
    subst hk
    unfold mX6_append_b6
    rw [shB_8, if_pos (by decide)]
    rfl
  | succ d ih =>
    intro k f c h1 h2
    obtain ⟨f, rfl⟩ : ∃ q, f = q + 1 := ⟨f - 1, by omega⟩
    unfold mX6_append_b6
    rw [if_neg (shB_n (by omega)), nms, nms, nms, nms, shB_s (by omega), shB_k (by omega), byt_X, b1s, allow_X, b1s]
    cases e : (decide (byt row k = 0) || decide (byt row k = 10) || (decide (32 ≤ byt row k) && decide (byt row k ≤ 126))) with
    | false =>
      simp only [okTx, e]
      rfl
    | true =>
      simp only [okTx, e, if_true, Bool.true_and]
      rw [if_neg z01]
      by_cases z : byt row k = 0
      · rw [if_pos z, show nI c + 0 = nI (c + 0) from nI_add c 0, ih (k + 1) f (c + 0) (by omega) (by omega)]
        simp only [cntB, z, if_true]
        rw [show c + 0 + cntB row d (k + 1) = c + (0 + cntB row d (k + 1)) by omega]
      · rw [if_neg z, nI_1, ih (k + 1) f (c + 1) (by omega) (by omega)]
        simp only [cntB, z, if_false]
        rw [show c + 1 + cntB row d (k + 1) = c + (1 + cntB row d (k + 1)) by omega]
theorem first_M (F : Nat) (zx : OS) (row : Int64) : ∀ (d k f c : Nat), k + d = 8 → d < f → mX10_text_b5 F f zx row (nI c) (nI k) = if okTx row d k then (if zx.1 2 + nI (c + cntB row d k) ≤ 1200 then mX10_text_b95 F F zx row 0 else some (-4, zx)) else some (-2, zx) := by
  intro d
  induction d with
  | zero =>
    intro k f c h1 h2
    obtain ⟨f, rfl⟩ : ∃ q, f = q + 1 := ⟨f - 1, by omega⟩
    have hk : k = 8 := by omega
    subst hk
    unfold mX10_text_b5
    rw [if_pos (le_litA (y := 8) (a := 8) rfl (by omega) (by omega))]
    rfl
  | succ d ih =>
    intro k f c h1 h2
    obtain ⟨f, rfl⟩ : ∃ q, f = q + 1 := ⟨f - 1, by omega⟩
    unfold mX10_text_b5 mX10_text_b58
    rw [if_neg (ge_lit (y := 8) (b := 8) rfl (by omega) (by omega)), byt_M row k (by omega)]
    simp only [nms, nI_1]
    have i1 := ih (k + 1) f c (by omega) (by omega)
    have i2 := ih (k + 1) f (c + 1) (by omega) (by omega)
    rw [show nI c + 0 = nI (c + 0) from nI_add c 0, Nat.add_zero, i1, i2]
    obtain ⟨w, hw, ew⟩ := byt_lt row k
    rw [ew]
    have step : (if nI w = 0 then (if okTx row d (k + 1) = true then (if zx.1 2 + nI (c + cntB row d (k + 1)) ≤ 1200 then mX10_text_b95 F F zx row 0 else some (-4, zx)) else some (-2, zx)) else (if okTx row d (k + 1) = true then (if zx.1 2 + nI (c + 1 + cntB row d (k + 1)) ≤ 1200 then mX10_text_b95 F F zx row 0 else some (-4, zx)) else some (-2, zx))) = (if okTx row d (k + 1) = true then (if zx.1 2 + nI (c + cntB row (d + 1) k) ≤ 1200 then mX10_text_b95 F F zx row 0 else some (-4, zx)) else some (-2, zx)) := by
      simp only [cntB, ew]
      by_cases z : nI w = 0
      · rw [if_pos z, if_pos z, Nat.zero_add]
      · rw [if_neg z, if_neg z, show c + 1 + cntB row d (k + 1) = c + (1 + cntB row d (k + 1)) by omega]
    rw [step]
    have lt1 : (126 : Int32) < nI w ↔ 126 < w := nI_ltI (a := 126) (by omega) (by omega)
    have le1 : (32 : Int32) ≤ nI w ↔ 32 ≤ w := nI_leI (a := 32) (by omega) (by omega)
    have le2 : nI w ≤ (126 : Int32) ↔ w ≤ 126 := nI_leI (b := 126) (by omega) (by omega)
    have eq0 : nI w = (0 : Int32) ↔ w = 0 := nI_eq (b := 0) (by omega) (by omega)
    have eq1 : nI w = (10 : Int32) ↔ w = 10 := nI_eq (b := 10) (by omega) (by omega)
    have ok : okTx row (d + 1) k = ((decide (w = 0) || decide (w = 10) || (decide (32 ≤ w) && decide (w ≤ 126))) && okTx row d (k + 1)) := by
      simp only [okTx, ew, eq0, eq1, le1, le2]
    rw [ok]
    simp only [lt1, le1, eq0, eq1]
    by_cases a : 126 < w
    · rw [if_pos a]
      have e1 : decide (w = 0) = false := decide_eq_false (by omega)
      have e2 : decide (w = 10) = false := decide_eq_false (by omega)
      have e3 : decide (w ≤ 126) = false := decide_eq_false (by omega)
      rw [e1, e2, e3]
      simp
    · rw [if_neg a]
      by_cases b : 32 ≤ w
      · rw [if_pos b]
        have e3 : decide (w ≤ 126) = true := decide_eq_true (by omega)
        have e4 : decide (32 ≤ w) = true := decide_eq_true b
        rw [e3, e4]
        simp
      · rw [if_neg b]
        by_cases e : w = 0
        · rw [if_pos e, decide_eq_true e]
          simp
        · rw [if_neg e]
          by_cases g : w = 10
          · rw [if_pos g, decide_eq_true g]
            simp
          · rw [if_neg g, decide_eq_false e, decide_eq_false g, decide_eq_false b]
            simp
theorem up_eta {α : Type} (f : Nat → α) (k : Nat) : va_up f k (f k) = f := funext fun j => by
  by_cases q : j = k
  · subst q; exact va_up_self _ _ _
  · exact va_up_ne _ _ q
theorem sR_eta (σ : OS) (k : Nat) : sR σ k (σ.2.2.1 k) = σ := by unfold sR; rw [up_eta]
theorem sI_eta (σ : OS) (k : Nat) : sI σ k (σ.1 k) = σ := by unfold sI; rw [up_eta]
theorem sII (σ : OS) (k : Nat) (a b : Int32) : sI (sI σ k a) k b = sI σ k b := by unfold sI; simp only [bx_uu]
theorem sRI (σ : OS) (k j : Nat) (f : Nat → Int32) (a : Int32) : sR (sI σ j a) k f = sI (sR σ k f) j a := rfl
theorem nar_c {w : Nat} (hw : w < 256) : vp_nar .char (((nI w : Int32).toUInt32 % 65536).toInt32) = nI w := by
  rw [pk_vc, pk_char, pk_tn (by omega), Nat.mod_eq_of_lt (by omega)]

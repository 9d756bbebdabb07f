/-! the checks over lanes -/
theorem pk_c (c n : Nat) : Nat.mul c (pack (fun _ => 1) n) = pack (fun _ => c) n := by
  show c * pack (fun _ => 1) n = _
  rw [pack_mul]
  exact pack_congr n (fun _ _ => Nat.mul_one c)
theorem pk_land (a b : Nat → Nat) (ha : ∀ j, a j < 2 ^ 128) (hb : ∀ j, b j < 2 ^ 128) (n : Nat) : Nat.land (pack a n) (pack b n) = pack (fun j => a j &&& b j) n := by
  apply Nat.eq_of_testBit_eq
  intro i
  show ((pack a n) &&& (pack b n)).testBit i = _
  rw [Nat.testBit_and, pack_bit a ha, pack_bit b hb, pack_bit _ (fun j => Nat.and_lt_two_pow _ (hb j)), Nat.testBit_and]
  cases decide (i / 128 < n) <;> simp
theorem and_top (b a : Nat) (hb : b ≤ 64) (h : 2 ^ 64 - 2 ^ b ≤ a % 2 ^ 64) : a &&& (2 ^ 64 - 2 ^ b) = 2 ^ 64 - 2 ^ b := by
  have e1 : 2 ^ 64 - 2 ^ b = 2 ^ b * (2 ^ (64 - b) - 1) := by
    rw [Nat.mul_sub, ← Nat.pow_add, Nat.mul_one, Nat.add_sub_cancel' hb]
  have hp : 2 ^ b ≤ 2 ^ 64 := Nat.pow_le_pow_right (by omega) hb
  have hm : a % 2 ^ 64 < 2 ^ 64 := Nat.mod_lt _ (by decide)
  obtain ⟨w, hw⟩ : ∃ w, a % 2 ^ 64 = (2 ^ 64 - 2 ^ b) + w := ⟨a % 2 ^ 64 - (2 ^ 64 - 2 ^ b), by omega⟩
  have hw2 : w < 2 ^ b := by omega
  apply Nat.eq_of_testBit_eq
  intro i
  rw [Nat.testBit_and]
  have h2 : (2 ^ 64 - 2 ^ b).testBit i = (decide (i ≥ b) && decide (i - b < 64 - b)) := by
    rw [e1, Nat.testBit_two_pow_mul, Nat.testBit_two_pow_sub_one]
  rw [h2]
  by_cases c : b ≤ i ∧ i < 64
  · have h3 : a.testBit i = (a % 2 ^ 64).testBit i := by
      rw [Nat.testBit_mod_two_pow]
      simp [c.2]
    have h4 : i - b < 64 - b := by omega
    rw [h3, hw, e1, Nat.testBit_two_pow_mul_add _ hw2, if_neg (by omega), Nat.testBit_two_pow_sub_one]
    simp [c.1, h4]
  · have : ¬ (i ≥ b ∧ i - b < 64 - b) := by omega
    have h5 : (decide (i ≥ b) && decide (i - b < 64 - b)) = false := by
      rw [← Bool.decide_and]
      exact decide_eq_false this
    rw [h5]
    simp
/-- no lane has ones alone in its bits b to 63; t is 2^b and u those bits -/
def ckT (t u O m : Nat) : Bool := Nat.beq (Nat.land (Nat.add (Nat.land m (Nat.mul u O)) (Nat.mul t O)) (Nat.mul 18446744073709551616 O)) 0
theorem ckT_ok (b t u : Nat) (hb : b ≤ 64) (ht : t = 2 ^ b) (hu : u = 2 ^ 64 - 2 ^ b) (a : Nat → Nat) (ha : ∀ j, a j < 2 ^ 128) (n : Nat) (h : ckT t u (pack (fun _ => 1) n) (pack a n) = true) : ∀ j, j < n → a j % 2 ^ 64 < 2 ^ 64 - 2 ^ b := by
  intro j hj
  apply Nat.lt_of_not_le
  intro c
  have e : a j &&& u = u := by rw [hu]; exact and_top b (a j) hb c
  have hp : 2 ^ b ≤ 2 ^ 64 := Nat.pow_le_pow_right (by omega) hb
  have hu1 : u ≤ 2 ^ 64 := by rw [hu]; exact Nat.sub_le _ _
  have hu2 : u < 2 ^ 128 := Nat.lt_of_le_of_lt hu1 (by decide)
  have hl : ∀ j, (a j &&& u) + t < 2 ^ 128 := by
    intro j
    have h1 : a j &&& u ≤ u := Nat.and_le_right
    have h2 : t ≤ 2 ^ 64 := by rw [ht]; exact hp
    have h3 : (2 : Nat) ^ 64 + 2 ^ 64 < 2 ^ 128 := by decide
    omega
  unfold ckT at h
  rw [pk_c, pk_c, pk_c, pk_land a _ ha (fun _ => hu2)] at h
  rw [show ∀ x y : Nat, Nat.add x y = x + y from fun _ _ => rfl, pack_add, pk_land _ _ hl (fun _ => by decide)] at h
  have h0 := Nat.eq_of_beq_eq_true h
  have h1 : (pack (fun j => ((a j &&& u) + t) &&& 18446744073709551616) n).testBit (128 * j + 64) = true := by
    rw [pack_bit _ (fun j => Nat.and_lt_two_pow _ (by decide)), show (128 * j + 64) / 128 = j by omega, show (128 * j + 64) % 128 = 64 by omega, e]
    have h6 : u + t = 18446744073709551616 := by
      have h7 : (2 : Nat) ^ 64 = 18446744073709551616 := by decide
      omega
    rw [h6]
    simp [hj]
    decide
  rw [h0] at h1
  simp at h1
def sm_Y (r : Nat) : Nat := r ^^^ (r >>> 27) ^^^ (r >>> 54)
def sm_P (r : Nat) : Nat := 10871156337175269513 * sm_Y r
def sm_X (p : Nat) : Nat := p ^^^ (p >>> 30) ^^^ (p >>> 60)
def sm_N (x : Nat) : Nat := (x + 14727398570297873639) % 2 ^ 64
def sm_A (x : Nat) : Nat := x ^^^ (x >>> 30)
def sm_B (p : Nat) : Nat := (13787848793156543929 * p) % 2 ^ 64
def sm_C (q : Nat) : Nat := q ^^^ (q >>> 27)
def sm_M (x : Nat) : Nat := 10723151780598845931 * sm_C (sm_B (sm_A x))
def okB (r : Nat) : Prop := 2 ^ 64 - 2 ^ 46 ≤ sm_P r % 2 ^ 64 → sm_M (sm_N (sm_X (sm_P r % 2 ^ 64))) % 2 ^ 64 < 2 ^ 64 - 2 ^ 33
def ckV (O M q : Nat) : Bool := ckT 8589934592 18446744065119617024 O (Nat.mul 10723151780598845931 (Nat.land (Nat.xor q (Nat.shiftRight q 27)) M))
def ckW (O M x : Nat) : Bool := ckV O M (Nat.land (Nat.mul 13787848793156543929 (Nat.land (Nat.xor x (Nat.shiftRight x 30)) M)) M)
def ckX (O M p : Nat) : Bool := ckW O M (Nat.land (Nat.add (Nat.land (Nat.xor (Nat.xor p (Nat.shiftRight p 30)) (Nat.shiftRight p 60)) M) (Nat.mul 14727398570297873639 O)) M)
def ckY (O M m : Nat) : Bool := ckT 70368744177664 18446673704965373952 O m || ckX O M (Nat.land m M)
def ckZ (O M r : Nat) : Bool := ckY O M (Nat.mul 10871156337175269513 (Nat.land (Nat.xor (Nat.xor r (Nat.shiftRight r 27)) (Nat.shiftRight r 54)) M))
def ckN (O S M : Nat) : Nat → Nat → Bool
  | 0, _ => true
  | n + 1, z => ckZ O M z && ckN O S M n (Nat.land (Nat.add z S) M)
def ckA (e n c : Nat) : Bool := ckN (lnO e) (Nat.mul (3573116690164977347 * 2 ^ e % 18446744073709551616) (lnO e)) (Nat.mul 18446744073709551615 (lnO e)) n (Nat.land (Nat.mul 3573116690164977347 (Nat.add (lnI e) (Nat.mul c (lnO e)))) (Nat.mul 18446744073709551615 (lnO e)))
theorem x2_lt {a s : Nat} (ha : a < 2 ^ 64) : a ^^^ (a >>> s) < 2 ^ 64 := Nat.xor_lt_two_pow ha (Nat.lt_of_le_of_lt (Nat.shiftRight_le _ _) ha)
theorem x3_lt {a s t : Nat} (ha : a < 2 ^ 64) : a ^^^ (a >>> s) ^^^ (a >>> t) < 2 ^ 64 := Nat.xor_lt_two_pow (x2_lt ha) (Nat.lt_of_le_of_lt (Nat.shiftRight_le _ _) ha)
theorem mul_128 {c a : Nat} (hc : c < 2 ^ 64) (ha : a < 2 ^ 64) : c * a < 2 ^ 128 := by
  have h1 : c * a ≤ c * 2 ^ 64 := Nat.mul_le_mul_left _ (Nat.le_of_lt ha)
  have h2 : c * 2 ^ 64 < 2 ^ 64 * 2 ^ 64 := (Nat.mul_lt_mul_right (by decide)).mpr hc
  have h3 : (2 : Nat) ^ 64 * 2 ^ 64 = 2 ^ 128 := by decide
  omega
theorem pk_mulc (c : Nat) (a : Nat → Nat) (n : Nat) : Nat.mul c (pack a n) = pack (fun j => c * a j) n := pack_mul c a n
theorem pk_addc (a b : Nat → Nat) (n : Nat) : Nat.add (pack a n) (pack b n) = pack (fun j => a j + b j) n := pack_add a b n
theorem m64_lt (a : Nat) : a % 2 ^ 64 < 2 ^ 64 := Nat.mod_lt _ (by decide)
theorem ckV_ok (a : Nat → Nat) (ha : ∀ j, a j < 2 ^ 64) (n : Nat) (h : ckV (pack (fun _ => 1) n) (pack (fun _ => M64) n) (pack a n) = true) : ∀ j, j < n → (10723151780598845931 * sm_C (a j)) % 2 ^ 64 < 2 ^ 64 - 2 ^ 33 := by
  unfold ckV at h
  rw [pk_x2 a ha n 27 (by decide), pk_mulc] at h
  exact ckT_ok 33 _ _ (by decide) (by decide) (by decide) _ (fun j => mul_128 (by decide) (x2_lt (ha j))) n h
theorem ckW_ok (a : Nat → Nat) (ha : ∀ j, a j < 2 ^ 64) (n : Nat) (h : ckW (pack (fun _ => 1) n) (pack (fun _ => M64) n) (pack a n) = true) : ∀ j, j < n → sm_M (a j) % 2 ^ 64 < 2 ^ 64 - 2 ^ 33 := by
  unfold ckW at h
  rw [pk_x2 a ha n 30 (by decide), pk_mulc, pk_low _ (fun j => mul_128 (by decide) (x2_lt (ha j)))] at h
  exact ckV_ok _ (fun j => m64_lt _) n h
theorem ckX_ok (a : Nat → Nat) (ha : ∀ j, a j < 2 ^ 64) (n : Nat) (h : ckX (pack (fun _ => 1) n) (pack (fun _ => M64) n) (pack a n) = true) : ∀ j, j < n → sm_M (sm_N (sm_X (a j))) % 2 ^ 64 < 2 ^ 64 - 2 ^ 33 := by
  unfold ckX at h
  rw [pk_x3 a ha n 30 60 (by decide) (by decide), pk_c, pk_addc, pk_low _ (fun j => by
    have h1 : a j ^^^ (a j >>> 30) ^^^ (a j >>> 60) < 2 ^ 64 := x3_lt (ha j)
    have h2 : (2 : Nat) ^ 64 + 14727398570297873639 < 2 ^ 128 := by decide
    omega)] at h
  exact ckW_ok _ (fun j => m64_lt _) n h
theorem ckZ_ok (a : Nat → Nat) (ha : ∀ j, a j < 2 ^ 64) (n : Nat) (h : ckZ (pack (fun _ => 1) n) (pack (fun _ => M64) n) (pack a n) = true) : ∀ j, j < n → okB (a j) := by
  unfold ckZ ckY at h
  rw [pk_x3 a ha n 27 54 (by decide) (by decide), pk_mulc] at h
  have hm : ∀ j, 10871156337175269513 * (a j ^^^ (a j >>> 27) ^^^ (a j >>> 54)) < 2 ^ 128 := fun j => mul_128 (by decide) (x3_lt (ha j))
  intro j hj
  rcases Bool.or_eq_true_iff.mp h with h1 | h1
  · have h2 := ckT_ok 46 _ _ (by decide) (by decide) (by decide) _ hm n h1 j hj
    intro h3
    exact absurd h2 (Nat.not_lt.mpr h3)
  · rw [pk_low _ hm] at h1
    have h2 := ckX_ok _ (fun j => m64_lt _) n h1 j hj
    intro _
    exact h2
theorem ckN_ok (n S : Nat) (hS : S < 2 ^ 64) : ∀ (k : Nat) (a : Nat → Nat), (∀ j, a j < 2 ^ 64) → ckN (pack (fun _ => 1) n) (pack (fun _ => S) n) (pack (fun _ => M64) n) k (pack a n) = true → ∀ i, i < k → ∀ j, j < n → okB ((a j + i * S) % 2 ^ 64) := by
  intro k
  induction k with
  | zero => intro a _ _ i hi; omega
  | succ k ih =>
    intro a ha h i hi j hj
    rw [ckN] at h
    obtain ⟨h1, h2⟩ := Bool.and_eq_true_iff.mp h
    cases i with
    | zero =>
      rw [Nat.zero_mul, Nat.add_zero, Nat.mod_eq_of_lt (ha j)]
      exact ckZ_ok a ha n h1 j hj
    | succ i =>
      rw [pk_addc, pk_low _ (fun j => by
        have h3 := ha j
        have h4 : (2 : Nat) ^ 64 + 2 ^ 64 < 2 ^ 128 := by decide
        omega)] at h2
      have h5 := ih _ (fun j => m64_lt _) h2 i (by omega) j hj
      rw [Nat.mod_add_mod] at h5
      rw [show a j + (i + 1) * S = a j + S + i * S by rw [Nat.succ_mul]; omega]
      exact h5
theorem ckA_ok (e n c : Nat) (hc : c + 2 ^ e ≤ 2 ^ 64) (h : ckA e n c = true) : ∀ v, c ≤ v → v < c + n * 2 ^ e → okB ((3573116690164977347 * v) % 2 ^ 64) := by
  intro v h1 h2
  unfold ckA at h
  have h64 : (18446744073709551616 : Nat) = 2 ^ 64 := by decide
  rw [lnO_p, lnI_p, pk_c, pk_c, pk_c, pk_addc, pk_mulc, h64] at h
  have hp : 0 < 2 ^ e := Nat.pow_pos (by decide)
  rw [show pack (fun j => 3573116690164977347 * (j + c)) (2 ^ e) = pack (fun j => 3573116690164977347 * ((j + c) % 2 ^ 64)) (2 ^ e) from pack_congr _ (fun j hj => by rw [Nat.mod_eq_of_lt (by omega)])] at h
  rw [show (pack (fun _ => 18446744073709551615) (2 ^ e)) = pack (fun _ => M64) (2 ^ e) from rfl] at h
  rw [pk_low _ (fun j => mul_128 (by decide) (m64_lt _))] at h
  have h3 := ckN_ok (2 ^ e) _ (m64_lt _) n _ (fun j => m64_lt _) h ((v - c) / 2 ^ e) ((Nat.div_lt_iff_lt_mul hp).mpr (by omega)) ((v - c) % 2 ^ e) (Nat.mod_lt _ hp)
  have h4 : ((v - c) % 2 ^ e + c) % 2 ^ 64 = (v - c) % 2 ^ e + c := Nat.mod_eq_of_lt (by have := Nat.mod_lt (v - c) hp; omega)
  rw [h4, Nat.mod_add_mod, Nat.add_mod, Nat.mul_mod ((v - c) / 2 ^ e), Nat.mod_mod, ← Nat.mul_mod, ← Nat.add_mod] at h3
  have h5 := Nat.mod_add_div (v - c) (2 ^ e)
  rw [show 3573116690164977347 * ((v - c) % 2 ^ e + c) + (v - c) / 2 ^ e * (3573116690164977347 * 2 ^ e) = 3573116690164977347 * v by
    rw [Nat.mul_comm ((v - c) / 2 ^ e), Nat.mul_assoc, ← Nat.mul_add]
    congr 1
    omega] at h3
  exact h3
/-- all numbers from a on, below b, are well -/
def okR (a b : Nat) : Prop := ∀ v, a ≤ v → v < b → okB ((3573116690164977347 * v) % 2 ^ 64)
theorem okR_0 (a : Nat) : okR a a := fun v h1 h2 => absurd h1 (Nat.not_le.mpr h2)
theorem okR_s (a c d : Nat) (h0 : okR a c) (h : (Nat.beq (c + 1048576) d && (Nat.ble (c + 4096) 18446744073709551616 && ckA 12 256 c)) = true) : okR a d := by
  obtain ⟨h1, h2⟩ := Bool.and_eq_true_iff.mp h
  obtain ⟨h3, h4⟩ := Bool.and_eq_true_iff.mp h2
  have h5 := Nat.eq_of_beq_eq_true h1
  have h6 := Nat.le_of_ble_eq_true h3
  intro v h7 h8
  by_cases q : v < c
  · exact h0 v h7 q
  · exact ckA_ok 12 256 c (by omega) h4 v (by omega) (by omega)

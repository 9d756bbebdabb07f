/-! many numbers of 64 bits in one: lanes of 128 bits -/
def pack (l : Nat → Nat) : Nat → Nat
  | 0 => 0
  | n + 1 => 2 ^ (128 * n) * l n + pack l n
theorem pack_lt (l : Nat → Nat) (hl : ∀ j, l j < 2 ^ 128) : ∀ n, pack l n < 2 ^ (128 * n) := by
  intro n
  induction n with
  | zero => exact Nat.lt_of_lt_of_eq (Nat.zero_lt_one) rfl
  | succ n ih =>
    have h1 : 2 ^ (128 * n) * l n + 2 ^ (128 * n) ≤ 2 ^ (128 * n) * 2 ^ 128 := by
      rw [← Nat.mul_succ]
      exact Nat.mul_le_mul_left _ (hl n)
    rw [show 128 * (n + 1) = 128 * n + 128 by omega, Nat.pow_add]
    show 2 ^ (128 * n) * l n + pack l n < _
    omega
theorem pack_bit (l : Nat → Nat) (hl : ∀ j, l j < 2 ^ 128) : ∀ n i, (pack l n).testBit i = (decide (i / 128 < n) && (l (i / 128)).testBit (i % 128)) := by
  intro n
  induction n with
  | zero => intro i; simp [pack]
  | succ n ih =>
    intro i
    show (2 ^ (128 * n) * l n + pack l n).testBit i = _
    rw [Nat.testBit_two_pow_mul_add _ (pack_lt l hl n), ih i]
    by_cases c : i < 128 * n
    · rw [if_pos c]
      have h1 : i / 128 < n := by omega
      simp [h1, Nat.lt_succ_of_lt h1]
    · rw [if_neg c]
      by_cases d : i / 128 = n
      · have e : i - 128 * n = i % 128 := by omega
        rw [d, e]
        simp
      · have h1 : ¬ i / 128 < n + 1 := by omega
        have h2 : 128 ≤ i - 128 * n := by omega
        rw [Nat.testBit_lt_two_pow (Nat.lt_of_lt_of_le (hl n) (Nat.pow_le_pow_right (by omega) h2))]
        simp [h1]
theorem pack_congr {a b : Nat → Nat} : ∀ n, (∀ j, j < n → a j = b j) → pack a n = pack b n := by
  intro n
  induction n with
  | zero => intro _; rfl
  | succ n ih =>
    intro h
    show 2 ^ (128 * n) * a n + pack a n = 2 ^ (128 * n) * b n + pack b n
    rw [h n (by omega), ih (fun j hj => h j (by omega))]
theorem pack_add (a b : Nat → Nat) : ∀ n, pack a n + pack b n = pack (fun j => a j + b j) n := by
  intro n
  induction n with
  | zero => rfl
  | succ n ih =>
    show (2 ^ (128 * n) * a n + pack a n) + (2 ^ (128 * n) * b n + pack b n) = 2 ^ (128 * n) * (a n + b n) + pack (fun j => a j + b j) n
    rw [← ih, Nat.mul_add]
    omega
theorem pack_mul (c : Nat) (a : Nat → Nat) : ∀ n, c * pack a n = pack (fun j => c * a j) n := by
  intro n
  induction n with
  | zero => rfl
  | succ n ih =>
    show c * (2 ^ (128 * n) * a n + pack a n) = 2 ^ (128 * n) * (c * a n) + pack (fun j => c * a j) n
    rw [← ih, Nat.mul_add, Nat.mul_left_comm]
theorem pack_split (l : Nat → Nat) : ∀ n m, pack l (n + m) = pack l n + 2 ^ (128 * n) * pack (fun j => l (n + j)) m := by
  intro n m
  induction m with
  | zero => rfl
  | succ m ih =>
    show 2 ^ (128 * (n + m)) * l (n + m) + pack l (n + m) = pack l n + 2 ^ (128 * n) * (2 ^ (128 * m) * l (n + m) + pack (fun j => l (n + j)) m)
    rw [ih, Nat.mul_add (2 ^ (128 * n)), ← Nat.mul_assoc, ← Nat.pow_add, ← Nat.mul_add 128]
    omega
def lnS (e : Nat) : Nat := 2 ^ (128 * 2 ^ e)
def lnO : Nat → Nat
  | 0 => 1
  | e + 1 => lnO e + lnS e * lnO e
def lnI : Nat → Nat
  | 0 => 0
  | e + 1 => lnI e + lnS e * (lnI e + 2 ^ e * lnO e)
theorem lnO_p : ∀ e, lnO e = pack (fun _ => 1) (2 ^ e) := by
  intro e
  induction e with
  | zero => rfl
  | succ e ih =>
    rw [Nat.pow_succ, Nat.mul_two, pack_split, ← ih]
    rfl
theorem lnI_p : ∀ e, lnI e = pack (fun j => j) (2 ^ e) := by
  intro e
  induction e with
  | zero => rfl
  | succ e ih =>
    rw [Nat.pow_succ, Nat.mul_two, pack_split, ← ih]
    show lnI e + lnS e * (lnI e + 2 ^ e * lnO e) = _
    rw [lnO_p, pack_mul, ih, pack_add]
    congr 2
    apply pack_congr
    intro j _
    omega
def M64 : Nat := 18446744073709551615
theorem M64_bit (r : Nat) : M64.testBit r = decide (r < 64) := by
  show (2 ^ 64 - 1).testBit r = _
  exact Nat.testBit_two_pow_sub_one 64 r
theorem pk_mask (n : Nat) (i : Nat) : (pack (fun _ => M64) n).testBit i = (decide (i / 128 < n) && decide (i % 128 < 64)) := by
  rw [pack_bit _ (fun _ => by decide), M64_bit]
/-- what stands in the lanes' lower halves -/
theorem pk_low (a : Nat → Nat) (ha : ∀ j, a j < 2 ^ 128) (n : Nat) : Nat.land (pack a n) (pack (fun _ => M64) n) = pack (fun j => a j % 2 ^ 64) n := by
  apply Nat.eq_of_testBit_eq
  intro i
  show ((pack a n) &&& (pack (fun _ => M64) n)).testBit i = _
  rw [Nat.testBit_and, pack_bit a ha, pk_mask, pack_bit _ (fun j => Nat.lt_of_lt_of_le (Nat.mod_lt _ (by decide)) (by decide)), Nat.testBit_mod_two_pow]
  cases decide (i / 128 < n) <;> cases decide (i % 128 < 64) <;> simp
theorem pk_x2 (a : Nat → Nat) (ha : ∀ j, a j < 2 ^ 64) (n s : Nat) (hs : s ≤ 64) : Nat.land (Nat.xor (pack a n) (Nat.shiftRight (pack a n) s)) (pack (fun _ => M64) n) = pack (fun j => a j ^^^ (a j >>> s)) n := by
  have h128 : ∀ j, a j < 2 ^ 128 := fun j => Nat.lt_of_lt_of_le (ha j) (by decide)
  have hx : ∀ j, a j ^^^ (a j >>> s) < 2 ^ 64 := fun j => Nat.xor_lt_two_pow (ha j) (Nat.lt_of_le_of_lt (Nat.shiftRight_le _ _) (ha j))
  apply Nat.eq_of_testBit_eq
  intro i
  show (((pack a n) ^^^ ((pack a n) >>> s)) &&& (pack (fun _ => M64) n)).testBit i = _
  rw [Nat.testBit_and, Nat.testBit_xor, Nat.testBit_shiftRight, pack_bit a h128, pack_bit a h128, pk_mask, pack_bit _ (fun j => Nat.lt_of_lt_of_le (hx j) (by decide)), Nat.testBit_xor, Nat.testBit_shiftRight]
  by_cases c : i % 128 < 64
  · have e1 : (s + i) / 128 = i / 128 := by omega
    have e2 : (s + i) % 128 = s + i % 128 := by omega
    rw [e1, e2]
    by_cases d : i / 128 < n <;> simp [c, d]
  · have h1 : (a (i / 128)).testBit (i % 128) = false := Nat.testBit_lt_two_pow (Nat.lt_of_lt_of_le (ha _) (Nat.pow_le_pow_right (by omega) (by omega)))
    have h2 : (a (i / 128)).testBit (s + i % 128) = false := Nat.testBit_lt_two_pow (Nat.lt_of_lt_of_le (ha _) (Nat.pow_le_pow_right (by omega) (by omega)))
    simp [c, h1, h2]
theorem pk_x3 (a : Nat → Nat) (ha : ∀ j, a j < 2 ^ 64) (n s t : Nat) (hs : s ≤ 64) (ht : t ≤ 64) : Nat.land (Nat.xor (Nat.xor (pack a n) (Nat.shiftRight (pack a n) s)) (Nat.shiftRight (pack a n) t)) (pack (fun _ => M64) n) = pack (fun j => a j ^^^ (a j >>> s) ^^^ (a j >>> t)) n := by
  have h128 : ∀ j, a j < 2 ^ 128 := fun j => Nat.lt_of_lt_of_le (ha j) (by decide)
  have hx : ∀ j, a j ^^^ (a j >>> s) ^^^ (a j >>> t) < 2 ^ 64 := fun j => Nat.xor_lt_two_pow (Nat.xor_lt_two_pow (ha j) (Nat.lt_of_le_of_lt (Nat.shiftRight_le _ _) (ha j))) (Nat.lt_of_le_of_lt (Nat.shiftRight_le _ _) (ha j))
  apply Nat.eq_of_testBit_eq
  intro i
  show (((pack a n) ^^^ ((pack a n) >>> s) ^^^ ((pack a n) >>> t)) &&& (pack (fun _ => M64) n)).testBit i = _
  rw [Nat.testBit_and, Nat.testBit_xor, Nat.testBit_xor, Nat.testBit_shiftRight, Nat.testBit_shiftRight, pack_bit a h128, pack_bit a h128, pack_bit a h128, pk_mask, pack_bit _ (fun j => Nat.lt_of_lt_of_le (hx j) (by decide)), Nat.testBit_xor, Nat.testBit_xor, Nat.testBit_shiftRight, Nat.testBit_shiftRight]
  by_cases c : i % 128 < 64
  · have e1 : (s + i) / 128 = i / 128 := by omega
    have e2 : (s + i) % 128 = s + i % 128 := by omega
    have e3 : (t + i) / 128 = i / 128 := by omega
    have e4 : (t + i) % 128 = t + i % 128 := by omega
    rw [e1, e2, e3, e4]
    by_cases d : i / 128 < n <;> simp [c, d]
  · have h1 : (a (i / 128)).testBit (i % 128) = false := Nat.testBit_lt_two_pow (Nat.lt_of_lt_of_le (ha _) (Nat.pow_le_pow_right (by omega) (by omega)))
    have h2 : (a (i / 128)).testBit (s + i % 128) = false := Nat.testBit_lt_two_pow (Nat.lt_of_lt_of_le (ha _) (Nat.pow_le_pow_right (by omega) (by omega)))
    have h3 : (a (i / 128)).testBit (t + i % 128) = false := Nat.testBit_lt_two_pow (Nat.lt_of_lt_of_le (ha _) (Nat.pow_le_pow_right (by omega) (by omega)))
    simp [c, h1, h2, h3]

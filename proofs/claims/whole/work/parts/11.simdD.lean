/-! back from a mixed number to the state, and the steps of the state round the circle -/
theorem shr_0 {a k : Nat} (h : a < 2 ^ k) : a >>> k = 0 := by
  rw [Nat.shiftRight_eq_div_pow]
  exact Nat.div_eq_of_lt h
theorem unx {a s t : Nat} (ha : a < 2 ^ 64) (hst : t = s + s) (h3 : 64 ≤ s + t) : (a ^^^ (a >>> s)) ^^^ ((a ^^^ (a >>> s)) >>> s) ^^^ ((a ^^^ (a >>> s)) >>> t) = a := by
  apply Nat.eq_of_testBit_eq
  intro i
  simp only [Nat.testBit_xor, Nat.testBit_shiftRight]
  have h1 : a.testBit (s + (t + i)) = false := Nat.testBit_lt_two_pow (Nat.lt_of_lt_of_le ha (Nat.pow_le_pow_right (by omega) (by omega)))
  rw [h1, show s + (s + i) = t + i by omega]
  cases a.testBit i <;> cases a.testBit (s + i) <;> cases a.testBit (t + i) <;> rfl
theorem inv_mul {c d p : Nat} (hcd : (d * c) % 2 ^ 64 = 1) (hp : p < 2 ^ 64) : (d * ((c * p) % 2 ^ 64)) % 2 ^ 64 = p := by
  rw [Nat.mul_mod_mod, ← Nat.mul_assoc, Nat.mul_mod, hcd, Nat.one_mul, Nat.mod_mod, Nat.mod_eq_of_lt hp]
theorem smA_lt {x : Nat} (h : x < 2 ^ 64) : sm_A x < 2 ^ 64 := x2_lt h
theorem smC_lt {x : Nat} (h : x < 2 ^ 64) : sm_C x < 2 ^ 64 := x2_lt h
theorem smB_lt (x : Nat) : sm_B x < 2 ^ 64 := m64_lt _
theorem back_r {x : Nat} : (3573116690164977347 * (sm_M x % 2 ^ 64)) % 2 ^ 64 = sm_C (sm_B (sm_A x)) := inv_mul (by decide) (smC_lt (smB_lt _))
theorem back_p {x : Nat} (h : x < 2 ^ 64) : sm_P (sm_C (sm_B (sm_A x))) % 2 ^ 64 = sm_A x := by
  have e : sm_Y (sm_C (sm_B (sm_A x))) = sm_B (sm_A x) := unx (s := 27) (t := 54) (smB_lt _) (by decide) (by decide)
  unfold sm_P
  rw [e]
  exact inv_mul (by decide) (smA_lt h)
theorem back_x {x : Nat} (h : x < 2 ^ 64) : sm_X (sm_A x) = x := unx (s := 30) (t := 60) h (by decide) (by decide)
theorem smA_top {x : Nat} (h : x < 2 ^ 64) (h1 : 2 ^ 64 - 2 ^ 46 ≤ x) : 2 ^ 64 - 2 ^ 46 ≤ sm_A x := by
  have e : sm_A x >>> 46 = x >>> 46 := by
    unfold sm_A
    rw [Nat.shiftRight_xor_distrib, ← Nat.shiftRight_add, shr_0 (a := x) (k := 30 + 46) (Nat.lt_of_lt_of_le h (by decide)), Nat.xor_zero]
  rw [Nat.shiftRight_eq_div_pow, Nat.shiftRight_eq_div_pow] at e
  omega
/-- within c steps the state comes into the last A numbers -/
def exP (c A : Nat) : Prop := ∀ X, X < 2 ^ 64 → ∃ k, k ≤ c ∧ 2 ^ 64 ≤ (X + k * 11400714819323198485) % 2 ^ 64 + A
theorem ex_0 : exP 0 (2 ^ 64) := fun X _ => ⟨0, Nat.le_refl _, by omega⟩
theorem ex_s {c A : Nat} (α f c' : Nat) (hf : f * 11400714819323198485 % 2 ^ 64 = α) (hα : 0 < α) (hc : c' = c + (A - 1) / α * f) (h : exP c A) : exP c' α := by
  intro X hX
  obtain ⟨k, hk, h1⟩ := h X hX
  have h2 : (X + k * 11400714819323198485) % 2 ^ 64 < 2 ^ 64 := m64_lt _
  generalize hY : (X + k * 11400714819323198485) % 2 ^ 64 = Y at h1 h2
  have h3 := Nat.mod_add_div (2 ^ 64 - 1 - Y) α
  have h4 := Nat.mod_lt (2 ^ 64 - 1 - Y) hα
  refine ⟨k + (2 ^ 64 - 1 - Y) / α * f, ?_, ?_⟩
  · rw [hc]
    exact Nat.add_le_add hk (Nat.mul_le_mul_right _ (Nat.div_le_div_right (by omega)))
  · have e : (X + (k + (2 ^ 64 - 1 - Y) / α * f) * 11400714819323198485) % 2 ^ 64 = Y + (2 ^ 64 - 1 - Y) / α * α := by
      rw [Nat.add_mul, ← Nat.add_assoc, Nat.add_mod, hY, Nat.mul_assoc, Nat.mul_mod ((2 ^ 64 - 1 - Y) / α), hf, Nat.mod_mul_mod, Nat.add_mod_mod]
      apply Nat.mod_eq_of_lt
      rw [Nat.mul_comm]
      omega
    rw [e, Nat.mul_comm]
    omega
theorem ex_end : exP 635624 42000400705642 := ex_s 42000400705642 196418 635624 (by decide) (by decide) (by decide) (ex_s 109958477006437 75025 242788 (by decide) (by decide) (by decide) (ex_s 287875030313669 28657 92738 (by decide) (by decide) (by decide) (ex_s 753666613934570 10946 35424 (by decide) (by decide) (by decide) (ex_s 1973124811490041 4181 13532 (by decide) (by decide) (by decide) (ex_s 5165707820535553 1597 5170 (by decide) (by decide) (by decide) (ex_s 13523998650116618 610 1976 (by decide) (by decide) (by decide) (ex_s 35406288129814301 233 756 (by decide) (by decide) (by decide) (ex_s 92694865739326285 89 290 (by decide) (by decide) (by decide) (ex_s 242678309088164554 34 112 (by decide) (by decide) (by decide) (ex_s 635340061525167377 13 44 (by decide) (by decide) (by decide) (ex_s 1663341875487337577 5 18 (by decide) (by decide) (by decide) (ex_s 4354685564936845354 2 8 (by decide) (by decide) (by decide) (ex_0)))))))))))))

/-! THE HIGHEST BIT, smeared downwards -/
def Sm (x n s : Nat) : Prop := ∀ i, s.testBit i = true ↔ ∃ d, d < n ∧ x.testBit (i + d) = true
theorem sm_1 (x : Nat) : Sm x 1 x := by
  intro i
  constructor
  · intro h
    exact ⟨0, by decide, h⟩
  · rintro ⟨d, h1, h2⟩
    have : d = 0 := by omega
    subst this
    exact h2
theorem sm_dbl {x n s : Nat} (h : Sm x n s) : Sm x (n + n) (s ||| s >>> n) := by
  intro i
  rw [Nat.testBit_or, Nat.testBit_shiftRight, Bool.or_eq_true, h i, h (n + i)]
  constructor
  · rintro (⟨d, h1, h2⟩ | ⟨d, h1, h2⟩)
    · exact ⟨d, by omega, h2⟩
    · exact ⟨n + d, by omega, by rw [show i + (n + d) = n + i + d by omega]; exact h2⟩
  · rintro ⟨d, h1, h2⟩
    rcases Nat.lt_or_ge d n with q | q
    · exact Or.inl ⟨d, q, h2⟩
    · exact Or.inr ⟨d - n, by omega, by rw [show n + i + (d - n) = i + d by omega]; exact h2⟩
theorem sm_top {x : Nat} (h : x ≠ 0) : x.testBit (nb x - 1) = true := by
  have a1 := nb_lt x
  have a2 := nb_le h
  have a3 := nb_pos h
  rw [Nat.testBit_eq_decide_div_mod_eq]
  have : x / 2 ^ (nb x - 1) = 1 := by
    rw [Nat.div_eq_iff (Nat.pow_pos (by decide))]
    rw [show nb x = (nb x - 1) + 1 by omega, Nat.pow_succ] at a1
    omega
  rw [this]
  rfl
theorem sm_32 {x s : Nat} (h : Sm x 32 s) (hx : x < 2 ^ 32) : s = 2 ^ nb x - 1 := by
  apply Nat.eq_of_testBit_eq
  intro i
  rw [Nat.testBit_two_pow_sub_one]
  have hb : nb x ≤ 32 := nb_le_iff.mpr hx
  apply Bool.eq_iff_iff.mpr
  rw [h i, decide_eq_true_iff]
  constructor
  · rintro ⟨d, h1, h2⟩
    have h3 : 2 ^ (i + d) ≤ x := Nat.ge_two_pow_of_testBit h2
    have h4 : 2 ^ i ≤ x := Nat.le_trans (Nat.pow_le_pow_right (by decide) (by omega)) h3
    exact (Nat.pow_lt_pow_iff_right (by decide : 1 < 2)).mp (Nat.lt_of_le_of_lt h4 (nb_lt x))
  · intro hi
    have h0 : x ≠ 0 := fun q => by rw [q, nb_0] at hi; omega
    exact ⟨nb x - 1 - i, by omega, by rw [show i + (nb x - 1 - i) = nb x - 1 by omega]; exact sm_top h0⟩

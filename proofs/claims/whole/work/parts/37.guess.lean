/-! THE GUESS of a quotient's word -/
theorem gc_core {F S2 Dl P X Nl g0 : Nat} (hF : 2147483648 ≤ F) (hS2 : S2 < 4294967296) (hDl : Dl < P) (hNl : Nl < P * 4294967296) (hlt : X * (P * 4294967296) + Nl < (F * (P * 4294967296) + S2 * P + Dl) * 4294967296)
    (h1 : g0 * F ≤ X) (h2 : g0 ≤ 4294967295) (h3 : X < (g0 + 1) * F ∨ g0 = 4294967295) :
    (X - g0 * F < g0 * S2 / 4294967296 → 1 ≤ g0 ∧ X * (P * 4294967296) + Nl < g0 * (F * (P * 4294967296) + S2 * P + Dl) ∧ g0 * (F * (P * 4294967296) + S2 * P + Dl) ≤ X * (P * 4294967296) + Nl + 2 * (F * (P * 4294967296) + S2 * P + Dl)) ∧
    (¬ X - g0 * F < g0 * S2 / 4294967296 → X * (P * 4294967296) + Nl < (g0 + 1) * (F * (P * 4294967296) + S2 * P + Dl) ∧ g0 * (F * (P * 4294967296) + S2 * P + Dl) ≤ X * (P * 4294967296) + Nl + (F * (P * 4294967296) + S2 * P + Dl)) := by
  obtain ⟨left, hleft⟩ : ∃ left, X = g0 * F + left := ⟨X - g0 * F, by omega⟩
  have eD : g0 * (F * (P * 4294967296) + S2 * P + Dl) = g0 * F * (P * 4294967296) + g0 * S2 * P + g0 * Dl := by rw [Nat.mul_add, Nat.mul_add, ← Nat.mul_assoc, ← Nat.mul_assoc g0 S2]
  have eX : X * (P * 4294967296) = g0 * F * (P * 4294967296) + left * (P * 4294967296) := by rw [hleft, Nat.add_mul]
  have hFQ : 2147483648 * (P * 4294967296) ≤ F * (P * 4294967296) := Nat.mul_le_mul_right _ hF
  have hleft2 : X - g0 * F = left := by omega
  rw [hleft2]
  constructor
  · intro hc
    have hc1 : (left + 1) * 4294967296 ≤ g0 * S2 := by
      have : left + 1 ≤ g0 * S2 / 4294967296 := hc
      exact (Nat.le_div_iff_mul_le (by decide)).mp this
    have hc2 : (left + 1) * 4294967296 * P ≤ g0 * S2 * P := Nat.mul_le_mul_right _ hc1
    have e3 : (left + 1) * 4294967296 * P = left * (P * 4294967296) + P * 4294967296 := by rw [Nat.mul_assoc, Nat.mul_comm 4294967296 P, Nat.add_mul, Nat.one_mul]
    refine ⟨?_, ?_, ?_⟩
    · rcases Nat.eq_zero_or_pos g0 with q | q
      · rw [q, Nat.zero_mul] at hc1
        omega
      · exact q
    · rw [eD, eX]
      omega
    · have h5 : S2 * P + Dl ≤ P * 4294967296 := by
        have : (S2 + 1) * P ≤ 4294967296 * P := Nat.mul_le_mul_right _ hS2
        rw [Nat.add_mul, Nat.one_mul] at this
        omega
      have h6 : g0 * (S2 * P + Dl) ≤ 4294967296 * (P * 4294967296) := Nat.mul_le_mul (by omega) h5
      rw [Nat.mul_add, ← Nat.mul_assoc] at h6
      rw [eD, eX]
      omega
  · intro hc
    have hc1 : g0 * S2 < (left + 1) * 4294967296 := by
      have h4 : g0 * S2 / 4294967296 < left + 1 := by omega
      exact (Nat.div_lt_iff_lt_mul (by decide)).mp h4
    have hc2 : g0 * S2 * P ≤ (left + 1) * 4294967296 * P := Nat.mul_le_mul_right _ (by omega)
    have e3 : (left + 1) * 4294967296 * P = left * (P * 4294967296) + P * 4294967296 := by rw [Nat.mul_assoc, Nat.mul_comm 4294967296 P, Nat.add_mul, Nat.one_mul]
    have h6 : g0 * Dl ≤ 4294967296 * P := Nat.mul_le_mul (by omega) (by omega)
    refine ⟨?_, ?_⟩
    · rcases h3 with q | q
      · have h7 : (X + 1) * (P * 4294967296) ≤ (g0 + 1) * F * (P * 4294967296) := Nat.mul_le_mul_right _ q
        rw [Nat.add_mul X] at h7
        have h8 : (g0 + 1) * F * (P * 4294967296) ≤ (g0 + 1) * (F * (P * 4294967296) + S2 * P + Dl) := by
          rw [Nat.mul_assoc]
          exact Nat.mul_le_mul_left _ (by omega)
        omega
      · rw [q, Nat.mul_comm (4294967295 + 1)]
        exact hlt
    · rw [eD, eX]
      omega
theorem gc_top {F S2 Dl P X Nl h x1 : Nat} (hS2 : S2 < 4294967296) (hDl : Dl < P) (hX : X = h * 4294967296 + x1) (hlt : X * (P * 4294967296) + Nl < (F * (P * 4294967296) + S2 * P + Dl) * 4294967296) : h ≤ F := by
  have h5 : S2 * P + Dl ≤ P * 4294967296 := by
    have : (S2 + 1) * P ≤ 4294967296 * P := Nat.mul_le_mul_right _ hS2
    rw [Nat.add_mul, Nat.one_mul] at this
    omega
  have h6 : (F * (P * 4294967296) + S2 * P + Dl) * 4294967296 ≤ (F + 1) * 4294967296 * (P * 4294967296) := by
    have : F * (P * 4294967296) + S2 * P + Dl ≤ (F + 1) * (P * 4294967296) := by rw [Nat.add_mul, Nat.one_mul]; omega
    have := Nat.mul_le_mul_right 4294967296 this
    rw [Nat.mul_right_comm] at this
    exact this
  have h7 : X * (P * 4294967296) < (F + 1) * 4294967296 * (P * 4294967296) := by omega
  have h8 := Nat.lt_of_mul_lt_mul_right h7
  omega
/-- the pieces of a long number and of its divisor -/
theorem gc_N (g : Nat → Int32) (n e : Nat) : vN g n (e + 2 + 1) = (wN (g (n + (e + 2))) * 4294967296 + wN (g (n + (e + 1)))) * (4294967296 ^ e * 4294967296) + vN g n (e + 1) := by
  have p1 : (4294967296 : Nat) ^ (e + 1) = 4294967296 ^ e * 4294967296 := Nat.pow_succ _ _
  have p2 : (4294967296 : Nat) ^ (e + 2) = 4294967296 ^ e * 4294967296 * 4294967296 := by rw [Nat.pow_succ, p1]
  rw [vN_sucA, vN_sucA g n (e + 1), p2, p1, Nat.add_mul, Nat.mul_assoc (wN (g (n + (e + 2)))), Nat.mul_comm 4294967296 (4294967296 ^ e * 4294967296)]
  omega
theorem gc_D (g : Nat → Int32) (d e : Nat) : vN g d (e + 2) = wN (g (d + (e + 1))) * (4294967296 ^ e * 4294967296) + wN (g (d + e)) * 4294967296 ^ e + vN g d e := by
  rw [vN_sucA g d (e + 1), vN_sucA g d e, Nat.pow_succ]
  omega
theorem gc_fin {N D q : Nat} (hD : 0 < D) (h1 : N < (q + 1) * D) (h2 : q * D ≤ N + D) : N / D ≤ q ∧ q ≤ N / D + 1 := by
  have a1 : N / D < q + 1 := (Nat.div_lt_iff_lt_mul hD).mpr h1
  refine ⟨by omega, ?_⟩
  rcases Nat.eq_zero_or_pos q with z | z
  · rw [z]
    exact Nat.zero_le _
  · have : (q - 1) * D ≤ N := by
      rw [Nat.sub_mul, Nat.one_mul]
      omega
    have := (Nat.le_div_iff_mul_le hD).mpr this
    omega
theorem gc_fin2 {N D q : Nat} (hD : 0 < D) (h0 : 1 ≤ q) (h1 : N < q * D) (h2 : q * D ≤ N + 2 * D) : N / D ≤ q - 1 ∧ q - 1 ≤ N / D + 1 := by
  refine gc_fin hD (by rw [show q - 1 + 1 = q by omega]; exact h1) ?_
  rw [Nat.sub_mul, Nat.one_mul]
  omega

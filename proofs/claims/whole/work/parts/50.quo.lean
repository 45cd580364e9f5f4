/-! THE QUOTIENT of two numbers: the values -/
theorem top_bit {f : Nat → Int32} {d n : Nat} (hn : 1 ≤ n) (h : 2 ^ (32 * n - 1) ≤ vN f d n) : 2147483648 ≤ wN (f (d + n - 1)) := by
  obtain ⟨e, rfl⟩ : ∃ e, n = e + 1 := ⟨n - 1, by omega⟩
  rw [vN_sucA, show 32 * (e + 1) - 1 = 31 + 32 * e by omega, Nat.pow_add, ← pwB] at h
  rw [show d + (e + 1) - 1 = d + e by omega]
  have h1 := vN_lt f d e
  have h2 : 2 ^ 31 * 4294967296 ^ e < (wN (f (d + e)) + 1) * 4294967296 ^ e := by rw [Nat.add_mul, Nat.one_mul]; omega
  have h3 := Nat.lt_of_mul_lt_mul_right h2
  omega
theorem up_lo {u dn up : Nat} (hu : u ≠ 0) (h : nb u ≤ 32 * dn) (hup : up = 32 * dn - nb u) : 2 ^ (32 * dn - 1) ≤ u * 2 ^ up ∧ u * 2 ^ up < 2 ^ (32 * dn) := by
  have h1 := nb_le hu
  have h2 := nb_lt u
  have h3 := nb_pos hu
  have h0 : 0 < 2 ^ up := Nat.pow_pos (by decide)
  constructor
  · have := Nat.mul_le_mul_right (2 ^ up) h1
    rw [← Nat.pow_add, show nb u - 1 + up = 32 * dn - 1 by omega] at this
    exact this
  · have := Nat.mul_lt_mul_of_pos_right h2 h0
    rw [← Nat.pow_add, show nb u + up = 32 * dn by omega] at this
    exact this
theorem pq_init {v u an dn qn up D : Nat} (hv : v < 4294967296 ^ an) (hu : 4294967296 ^ (dn - 1) ≤ u) (hdn : 1 ≤ dn) (hq : an + 1 = dn + qn) (hD : D = u * 2 ^ up) : v * 2 ^ up < D * 4294967296 ^ qn := by
  have h0 : 0 < 2 ^ up := Nat.pow_pos (by decide)
  have h1 : v < u * 4294967296 ^ qn := by
    refine Nat.lt_of_lt_of_le hv ?_
    rw [show an = dn - 1 + qn by omega, Nat.pow_add]
    exact Nat.mul_le_mul_right _ hu
  rw [hD, Nat.mul_right_comm]
  exact Nat.mul_lt_mul_of_pos_right h1 h0
theorem pq_step {f f1 : Nat → Int32} {q l1 k m dn N0 D nx : Nat} (hD : 0 < D) (H1 : N0 = vN f (q + (l1 + k)) m * (D * 4294967296 ^ (l1 + k)) + vN f 0 (dn + (l1 + k))) (H2 : vN f 0 (dn + (l1 + k)) < D * 4294967296 ^ (l1 + k))
    (hQ : nx * 4294967296 ^ k + vN f1 (q + l1) k = vN f l1 (dn + k) / D) (hR : vN f1 l1 dn = vN f l1 (dn + k) % D) (hlo : vN f1 0 l1 = vN f 0 l1) (hup : vN f1 (q + (l1 + k)) m = vN f (q + (l1 + k)) m) :
    N0 = vN f1 (q + l1) (k + m) * (D * 4294967296 ^ l1) + vN f1 0 (dn + l1) ∧ vN f1 0 (dn + l1) < D * 4294967296 ^ l1 := by
  have e1 : vN f 0 (dn + (l1 + k)) = vN f 0 l1 + 4294967296 ^ l1 * vN f l1 (dn + k) := by rw [show dn + (l1 + k) = l1 + (dn + k) by omega, vN_add, Nat.zero_add]
  have e2 : vN f1 0 (dn + l1) = vN f 0 l1 + 4294967296 ^ l1 * (vN f l1 (dn + k) % D) := by rw [Nat.add_comm dn l1, vN_add, Nat.zero_add, hlo, hR]
  have e3 : vN f1 (q + l1) (k + m) = vN f1 (q + l1) k + 4294967296 ^ k * vN f (q + (l1 + k)) m := by rw [vN_add, Nat.add_assoc, hup]
  have hl := vN_lt f 0 l1
  rw [e1, Nat.pow_add] at H1 H2
  rw [e2, e3]
  have hdm := Nat.div_add_mod (vN f l1 (dn + k)) D
  have hml := Nat.mod_lt (vN f l1 (dn + k)) hD
  generalize vN f l1 (dn + k) = X at *
  generalize vN f 0 l1 = lo at *
  generalize vN f (q + (l1 + k)) m = Qm at *
  generalize vN f1 (q + l1) k = Qk at *
  generalize 4294967296 ^ l1 = T at *
  generalize 4294967296 ^ k = P at *
  have hX : X < D * P := by
    have : T * X < T * (D * P) := by rw [show T * (D * P) = D * (T * P) by rw [Nat.mul_left_comm]]; omega
    exact Nat.lt_of_mul_lt_mul_left this
  have hz : nx = 0 := by
    rcases Nat.eq_zero_or_pos nx with z | z
    · exact z
    · have h1 : X / D < P := by rw [Nat.div_lt_iff_lt_mul hD, Nat.mul_comm]; exact hX
      have h2 : 1 * P ≤ nx * P := Nat.mul_le_mul_right _ z
      omega
  subst hz
  rw [Nat.zero_mul, Nat.zero_add] at hQ
  rw [← hQ] at hdm
  constructor
  · have a1 : T * X = T * (D * Qk) + T * (X % D) := by rw [← Nat.mul_add, hdm]
    have a2 : (Qk + P * Qm) * (D * T) = T * (D * Qk) + Qm * (D * (T * P)) := by
      rw [Nat.add_mul]
      congr 1 <;> ac_rfl
    omega
  · have h1 : T * (X % D + 1) ≤ T * D := Nat.mul_le_mul_left _ hml
    rw [Nat.mul_add, Nat.mul_one, Nat.mul_comm T D] at h1
    omega
/-- the quotient of the moved numbers -/
theorem pq_fin {v u up N0 D Q R : Nat} (hD : D = u * 2 ^ up) (hN : N0 = v * 2 ^ up) (hu : 0 < u) (h : N0 = Q * D + R) (hR : R < D) : Q = v / u ∧ R = v % u * 2 ^ up := by
  have h0 : 0 < 2 ^ up := Nat.pow_pos (by decide)
  have hz := dv_end h hR
  rw [hN, hD, Nat.mul_div_mul_right _ _ h0] at hz
  rw [Nat.mul_mod_mul_right] at hz
  exact hz

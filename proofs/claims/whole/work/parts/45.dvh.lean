/-! QUOTIENTS by the divisor's head: the values -/
def so3 (f g : Nat → Int32) (a n b m c k : Nat) : Prop := ∀ q, (q < a ∨ a + n ≤ q) → (q < b ∨ b + m ≤ q) → (q < c ∨ c + k ≤ q) → f q = g q
theorem so3.vN {f g : Nat → Int32} {a n b m c k p u : Nat} (h : so3 f g a n b m c k) (h1 : p + u ≤ a ∨ a + n ≤ p) (h2 : p + u ≤ b ∨ b + m ≤ p) (h3 : p + u ≤ c ∨ c + k ≤ p) : vN f p u = vN g p u := vN_congr (fun i hi => h _ (by omega) (by omega) (by omega))
theorem sub_at {f g : Nat → Int32} {r h u o T : Nat} (hs : so f g (r + h) u) (hv : vN f (r + h) u + T = vN g (r + h) u + o * 4294967296 ^ u) : vN f r (h + u) + 4294967296 ^ h * T = vN g r (h + u) + o * 4294967296 ^ (h + u) := by
  rw [vN_add, vN_add, hs.vN (Or.inl (by omega)), Nat.pow_add, Nat.mul_left_comm, Nat.add_assoc, ← Nat.mul_add, hv, Nat.mul_add, Nat.add_assoc]
theorem hd_inv {Nl Nh Dh Dt T Qp Rh V2 V D N P ow : Nat} (hQ : Qp = Nh / Dh) (hR : Rh = Nh % Dh) (hV2 : V2 = Nl + T * Rh) (hN : N = Nl + T * Nh) (hD : D = Dt + T * Dh) (hV : V + Qp * Dt = V2 + ow * P) : N + ow * P = Qp * D + V := by
  have h1 := Nat.div_add_mod Nh Dh
  rw [← hQ, ← hR] at h1
  have h2 : T * Nh = T * (Dh * Qp) + T * Rh := by rw [← Nat.mul_add, h1]
  have h3 : Qp * D = Qp * Dt + T * (Dh * Qp) := by rw [hD, Nat.mul_add, Nat.mul_left_comm, Nat.mul_comm Qp Dh]
  omega
theorem hd_lt {Nl Dh Dt T Qp Rh V2 V D P ow : Nat} (hNl : Nl < T) (hR : Rh < Dh) (hV2 : V2 = Nl + T * Rh) (hD : D = Dt + T * Dh) (hV : V + Qp * Dt = V2 + ow * P) (h0 : ow = 0) : V < D := by
  subst h0
  have h1 : T * (Rh + 1) ≤ T * Dh := Nat.mul_le_mul_left _ hR
  rw [Nat.mul_add, Nat.mul_one] at h1
  omega
theorem hd_bound {N Qp D V P ow : Nat} (h : N + ow * P = Qp * D + V) (ho : ow ≤ 2) (hP : P ≤ 2 * D) (hD : 0 < D) : Qp ≤ N / D + 4 := by
  have h1 : ow * P ≤ 2 * P := Nat.mul_le_mul_right _ ho
  have h2 : Qp * D ≤ N + 4 * D := by omega
  have h3 : Qp ≤ (N + 4 * D) / D := (Nat.le_div_iff_mul_le hD).mpr h2
  rw [Nat.add_mul_div_right _ _ hD] at h3
  exact h3
theorem hd_gt {N Qp D V P ow : Nat} (h : N + ow * P = Qp * D + V) (hV : V < P) (ho : 1 ≤ ow) (hD : 0 < D) : N / D < Qp := by
  have h1 : 1 * P ≤ ow * P := Nat.mul_le_mul_right _ ho
  exact (Nat.div_lt_iff_lt_mul hD).mpr (by omega)
/-- one taken from the quotient -/
theorem hd_one {nx P Qw Qw' o : Nat} (hQ : 1 ≤ nx * P + Qw) (h : Qw' + 1 = Qw + o * P) (hw : Qw' < P) (ho : o ≤ 1) : o ≤ nx ∧ (nx - o) * P + Qw' + 1 = nx * P + Qw := by
  rcases Nat.lt_or_ge o 1 with q | q
  · rw [show o = 0 by omega] at h ⊢
    rw [Nat.sub_zero]
    omega
  · rw [show o = 1 by omega] at h ⊢
    rcases Nat.eq_zero_or_pos nx with z | z
    · subst z; omega
    · obtain ⟨u, rfl⟩ : ∃ u, nx = u + 1 := ⟨nx - 1, by omega⟩
      rw [Nat.add_sub_cancel, Nat.add_mul]
      omega
theorem hd_step {N P Q Q' D V V' ow cy : Nat} (hinv : N + ow * P = Q * D + V) (hq : Q' + 1 = Q) (hv : V' + cy * P = V + D) (hc : cy ≤ ow) : N + (ow - cy) * P = Q' * D + V' := by
  obtain ⟨u, rfl⟩ : ∃ u, ow = u + cy := ⟨ow - cy, by omega⟩
  rw [Nat.add_sub_cancel]
  subst hq
  rw [Nat.add_mul, Nat.add_mul] at hinv
  omega
theorem hd_step0 {P D V V' ow cy : Nat} (ho : 1 ≤ ow) (hv : V' + cy * P = V + D) (hV : V < P) (hc : cy ≤ 1) (h0 : ow - cy = 0) : V' < D := by
  have : cy = 1 := by omega
  subst this
  omega
theorem hd_add {nx B' Qw Dt V4 V3 V2 o1 o2 P : Nat} (h1 : V3 + Qw * Dt = V2 + o1 * P) (hn : nx = 1) (h2 : V4 + B' * Dt = V3 + o2 * P) : V4 + (nx * B' + Qw) * Dt = V2 + (o1 + o2) * P := by
  subst hn
  rw [Nat.one_mul, Nat.add_mul, Nat.add_mul]
  omega
theorem hd_end {N ow P Q D V : Nat} (h : N + ow * P = Q * D + V) (h0 : ow = 0) (hV : V < D) : Q = N / D ∧ V = N % D := by
  subst h0
  exact dv_end (by omega) hV
/-- a quotient in two runs -/
theorem tr_end {N Nl Nh D T nx q1 q2 nx2 R1 R2 Nlo P : Nat} (hD : 0 < D) (hN : N = Nl + T * Nh) (hNl : Nl < T) (h1 : nx * P + q1 = Nh / D) (hR1 : R1 = Nh % D) (hlo : Nlo = Nl + T * R1) (h2 : nx2 * T + q2 = Nlo / D) (hR2 : R2 = Nlo % D) : nx * (T * P) + (q2 + T * q1) = N / D ∧ R2 = N % D := by
  have a1 := Nat.div_add_mod Nh D
  have a2 := Nat.div_add_mod Nlo D
  have a3 := Nat.mod_lt Nh hD
  have a4 := Nat.mod_lt Nlo hD
  rw [← h1, ← hR1] at a1
  rw [← h2, ← hR2] at a2
  rw [← hR1] at a3
  rw [← hR2] at a4
  have b0 : T * (R1 + 1) ≤ T * D := Nat.mul_le_mul_left _ a3
  rw [Nat.mul_add, Nat.mul_one] at b0
  have b1 : Nlo < T * D := by omega
  have b2 : nx2 = 0 := by
    rcases Nat.eq_zero_or_pos nx2 with z | z
    · exact z
    · have c1 : 1 * T ≤ nx2 * T := Nat.mul_le_mul_right _ z
      have c2 : D * T ≤ D * (nx2 * T + q2) := Nat.mul_le_mul_left _ (by omega)
      rw [Nat.mul_comm D T] at c2
      omega
  subst b2
  rw [Nat.zero_mul, Nat.zero_add] at a2
  refine dv_end ?_ a4
  have e1 : T * Nh = T * (D * (nx * P + q1)) + T * R1 := by rw [← Nat.mul_add, a1]
  have e2 : (nx * (T * P) + (q2 + T * q1)) * D = T * (D * (nx * P + q1)) + D * q2 := by
    rw [show nx * (T * P) + (q2 + T * q1) = T * (nx * P + q1) + q2 by rw [Nat.mul_add, Nat.mul_left_comm]; omega, Nat.add_mul, Nat.mul_assoc, Nat.mul_comm (nx * P + q1) D, Nat.mul_comm q2 D]
  omega
/-- the quotient, as it is called at a depth -/
def DivAt (l : Launch) (D : va_G) (cI cB cR : ClassId) (ad : Nat → Nat) (h9 : Nat) : Prop := ∀ (w : St) (sz : Nat) {q0 n0 d0 dn9 k9 fr : Nat} (_ : 1 ≤ dn9) (_ : dn9 < 80 ∨ k9 ≤ dn9) (_ : n0 + dn9 + k9 ≤ fr) (_ : d0 + dn9 ≤ fr) (_ : q0 + k9 ≤ fr) (_ : n0 + dn9 + k9 ≤ d0 ∨ d0 + dn9 ≤ n0) (_ : n0 + dn9 + k9 ≤ q0 ∨ q0 + k9 ≤ n0) (_ : d0 + dn9 ≤ q0 ∨ q0 + k9 ≤ d0) (_ : 2147483648 ≤ wN (sR w (d0 + dn9 - 1))) (_ : fr ≤ 28672)
  (_ : dn9 < 80 ∨ k9 < 80 ∨ 2 * (fr + dn9) + 4 * max k9 (dn9 - k9) + 86 ≤ 57344 ∨ 2 * (fr + dn9) + 3 * max k9 (dn9 - k9) + 2 * min k9 (dn9 - k9) + 90 ≤ 57344),
  Met l y_Be_divideRun (q_Be_divideRun :: wA) { frames := 2 * h9 + 50, cells := 0, slots := 0, locals := 80 * h9 + 1850 } (va_Pc [.ref (ad 2), .int (nI (q0)), .int (nI (n0)), .int (nI (d0)), .int (nI (dn9)), .int (nI (k9)), .int (nI (fr)), .int (nI (h9))] (PW D cI cB cR ad w sz)) (va_Qi (fun (r : Int32) (w1 : St) => ∃ (f : Nat → Int32) (nx : Nat), w1 = pR w f ∧ r = nI nx ∧ nx ≤ 1 ∧ so3 f (sR w) n0 (dn9 + k9) q0 k9 fr (28672 - fr) ∧ nx * 4294967296 ^ k9 + vN f q0 k9 = vN (sR w) n0 (dn9 + k9) / vN (sR w) d0 dn9 ∧ vN f n0 dn9 = vN (sR w) n0 (dn9 + k9) % vN (sR w) d0 dn9) (BW D cI cB cR ad) (AA ad sz)) 0 0 (AA ad sz)

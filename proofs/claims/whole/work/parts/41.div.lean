/-! QUOTIENTS word by word: the values -/
/-- the same outside of two parts -/
def so2 (f g : Nat → Int32) (a n b m : Nat) : Prop := ∀ q, (q < a ∨ a + n ≤ q) → (q < b ∨ b + m ≤ q) → f q = g q
theorem so2_refl (g : Nat → Int32) (a n b m : Nat) : so2 g g a n b m := fun _ _ _ => rfl
theorem so2.vN {f g : Nat → Int32} {a n b m c k : Nat} (h : so2 f g a n b m) (h1 : c + k ≤ a ∨ a + n ≤ c) (h2 : c + k ≤ b ∨ b + m ≤ c) : vN f c k = vN g c k := vN_congr (fun i hi => h _ (by omega) (by omega))
theorem so2.trans {f g h : Nat → Int32} {a n b m : Nat} (h1 : so2 f g a n b m) (h2 : so2 g h a n b m) : so2 f h a n b m := fun q p1 p2 => (h1 q p1 p2).trans (h2 q p1 p2)
theorem so.l2 {f g : Nat → Int32} {a n a' n' b m : Nat} (h : so f g a n) (h1 : a' ≤ a) (h2 : a + n ≤ a' + n') : so2 f g a' n' b m := fun q p1 _ => h q (by omega)
theorem so.r2 {f g : Nat → Int32} {a n a' n' b m : Nat} (h : so f g b m) (h1 : a' ≤ b) (h2 : b + m ≤ a' + n') : so2 f g a n a' n' := fun q _ p2 => h q (by omega)
theorem half_D {g : Nat → Int32} {d dn : Nat} (hdn : 1 ≤ dn) (h : 2147483648 ≤ wN (g (d + dn - 1))) : 4294967296 ^ dn ≤ 2 * vN g d dn := by
  obtain ⟨e, rfl⟩ : ∃ e, dn = e + 1 := ⟨dn - 1, by omega⟩
  rw [vN_sucA, Nat.pow_succ]
  rw [show d + (e + 1) - 1 = d + e by omega] at h
  have : 2147483648 * 4294967296 ^ e ≤ wN (g (d + e)) * 4294967296 ^ e := Nat.mul_le_mul_right _ h
  omega
theorem pos_D {g : Nat → Int32} {d dn : Nat} (hdn : 1 ≤ dn) (h : 2147483648 ≤ wN (g (d + dn - 1))) : 0 < vN g d dn := by
  have h1 := half_D hdn h
  have h2 : 0 < 4294967296 ^ dn := Nat.pow_pos (by decide)
  omega
/-- not too much taken: what the guess leaves -/
theorem dq_pos {V V1 D P X q o t : Nat} (hX : X = V + t * P) (h : V1 + q * D = V + o * P) (hV : V1 < P) (hDP : D ≤ P) (hD : 0 < D) (hq1 : X / D ≤ q) (ho : o ≤ t) : q = X / D ∧ V1 = X % D ∧ t = o := by
  obtain ⟨u, rfl⟩ : ∃ u, t = o + u := ⟨t - o, by omega⟩
  rw [Nat.add_mul] at hX
  have e : X = V1 + u * P + q * D := by omega
  have h1 : q * D ≤ X := by omega
  have h2 : q ≤ X / D := (Nat.le_div_iff_mul_le hD).mpr h1
  have h4 := Nat.div_add_mod X D
  have h5 := Nat.mod_lt X hD
  generalize X / D = Q at *
  generalize X % D = R at *
  have h3 : q = Q := by omega
  subst h3
  rw [Nat.mul_comm] at h4
  have h6 : u = 0 := by
    rcases Nat.eq_zero_or_pos u with z | z
    · exact z
    · have : 1 * P ≤ u * P := Nat.mul_le_mul_right _ z
      omega
  subst h6
  refine ⟨rfl, by omega, by omega⟩
/-- one too much taken -/
theorem dq_neg {V V1 V2 D P X q o t cy : Nat} (hX : X = V + t * P) (h : V1 + q * D = V + o * P) (hV : V1 < P) (hDP : D ≤ P) (hD : 0 < D) (hq2 : q ≤ X / D + 1) (ho : t < o) (h2 : V2 + cy * P = V1 + D) (hV2 : V2 < P) : 1 ≤ q ∧ q - 1 = X / D ∧ V2 = X % D ∧ t + cy = o := by
  obtain ⟨u, rfl⟩ : ∃ u, o = t + 1 + u := ⟨o - t - 1, by omega⟩
  rw [Nat.add_mul, Nat.add_mul, Nat.one_mul] at h
  have e : X + P + u * P = V1 + q * D := by omega
  have h3 : X < q * D := by omega
  have h4 : X / D < q := (Nat.div_lt_iff_lt_mul hD).mpr h3
  have h6 := Nat.div_add_mod X D
  have h7 := Nat.mod_lt X hD
  generalize X / D = Q at *
  generalize X % D = R at *
  have h5 : q = Q + 1 := by omega
  subst h5
  rw [Nat.add_mul, Nat.one_mul, Nat.mul_comm Q] at e
  have e2 : R + (P + u * P) = V2 + cy * P := by omega
  have e3 : 1 + u = cy := by
    rcases Nat.lt_trichotomy (1 + u) cy with z | z | z
    · have : (1 + u + 1) * P ≤ cy * P := Nat.mul_le_mul_right _ z
      rw [Nat.add_mul, Nat.add_mul, Nat.one_mul] at this
      omega
    · exact z
    · have : (cy + 1) * P ≤ (1 + u) * P := Nat.mul_le_mul_right _ z
      rw [Nat.add_mul, Nat.add_mul, Nat.one_mul] at this
      omega
  subst e3
  rw [Nat.add_mul, Nat.one_mul] at e2
  exact ⟨by omega, by omega, by omega, by omega⟩
theorem dp_step {f f' : Nat → Int32} {n0 q0 dn k i N D nx : Nat} (hi : i + 1 ≤ k) (hinv : N = (nx * 4294967296 ^ (k - (i + 1)) + vN f (q0 + (i + 1)) (k - (i + 1))) * D * 4294967296 ^ (i + 1) + vN f n0 (dn + (i + 1)))
    (hlo : vN f' n0 i = vN f n0 i) (hup : vN f' (q0 + (i + 1)) (k - (i + 1)) = vN f (q0 + (i + 1)) (k - (i + 1)))
    (hr : vN f' (n0 + i) dn = vN f (n0 + i) (dn + 1) % D) (hq : wN (f' (q0 + i)) = vN f (n0 + i) (dn + 1) / D) :
    N = (nx * 4294967296 ^ (k - i) + vN f' (q0 + i) (k - i)) * D * 4294967296 ^ i + vN f' n0 (dn + i) := by
  have e1 : vN f' n0 (dn + i) = vN f n0 i + 4294967296 ^ i * (vN f (n0 + i) (dn + 1) % D) := by rw [Nat.add_comm dn i, vN_add, hlo, hr]
  have e2 : vN f n0 (dn + (i + 1)) = vN f n0 i + 4294967296 ^ i * vN f (n0 + i) (dn + 1) := by rw [show dn + (i + 1) = i + (dn + 1) by omega, vN_add]
  have e3 : vN f' (q0 + i) (k - i) = vN f (n0 + i) (dn + 1) / D + 4294967296 * vN f (q0 + (i + 1)) (k - (i + 1)) := by
    rw [show k - i = (k - (i + 1)) + 1 by omega, vN_cons, hq, show q0 + i + 1 = q0 + (i + 1) by omega, hup]
  have e4 := Nat.div_add_mod (vN f (n0 + i) (dn + 1)) D
  rw [hinv, e1, e2, e3, show 4294967296 ^ (k - i) = 4294967296 ^ (k - (i + 1)) * 4294967296 by rw [show k - i = (k - (i + 1)) + 1 by omega, Nat.pow_succ], Nat.pow_succ 4294967296 i]
  generalize vN f (n0 + i) (dn + 1) = X at *
  generalize vN f (q0 + (i + 1)) (k - (i + 1)) = Q
  generalize 4294967296 ^ (k - (i + 1)) = P
  generalize 4294967296 ^ i = R
  generalize vN f n0 i = V
  have a1 : R * X = R * (D * (X / D)) + R * (X % D) := by rw [← Nat.mul_add, e4]
  have a2 : (nx * P + Q) * D * (R * 4294967296) = 4294967296 * ((nx * P + Q) * D * R) := by rw [← Nat.mul_assoc, Nat.mul_comm]
  have a3 : (nx * (P * 4294967296) + (X / D + 4294967296 * Q)) * D * R = 4294967296 * ((nx * P + Q) * D * R) + R * (D * (X / D)) := by
    rw [show nx * (P * 4294967296) + (X / D + 4294967296 * Q) = 4294967296 * (nx * P + Q) + X / D by rw [Nat.mul_add, ← Nat.mul_assoc, Nat.mul_comm (nx * P)]; omega, Nat.add_mul, Nat.add_mul, Nat.mul_assoc, Nat.mul_assoc, Nat.mul_comm (X / D), Nat.mul_comm (D * (X / D)), ← Nat.mul_assoc (nx * P + Q)]
  rw [a1, a2, a3]
  omega
theorem dp_X {f : Nat → Int32} {n0 i dn D : Nat} (h : vN f (n0 + (i + 1)) dn < D) : vN f (n0 + i) (dn + 1) < D * 4294967296 := by
  have := wN_lt (f (n0 + i))
  rw [vN_cons, show n0 + i + 1 = n0 + (i + 1) by omega]
  omega
theorem lZ_ge0 {z : Int} (h1 : -2 ^ 63 ≤ z) (h2 : z < 2 ^ 63) : lN 0 ≤ lZ z ↔ 0 ≤ z := by
  rw [Int64.le_iff_toInt_le, lZ_toInt h1 h2]
  exact Iff.rfl
theorem nI_l1 {c : Nat} (h : c ≤ 1) : (nI c).toInt64 = lZ (c : Int) := by
  rcases Nat.lt_or_ge c 1 with q | q
  · rw [show c = 0 by omega]; decide
  · rw [show c = 1 by omega]; decide
theorem dv_end {N D Q R : Nat} (h : N = Q * D + R) (hR : R < D) : Q = N / D ∧ R = N % D := by
  subst h
  rw [Nat.add_comm, Nat.add_mul_div_right _ _ (by omega), Nat.div_eq_of_lt hR, Nat.add_mul_mod_self_right, Nat.mod_eq_of_lt hR]
  exact ⟨by omega, rfl⟩

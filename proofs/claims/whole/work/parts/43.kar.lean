/-! PRODUCTS by halves: the values -/
theorem add_at {f g : Nat → Int32} {r h u cy T : Nat} (hs : so f g (r + h) u) (hv : vN f (r + h) u + cy * 4294967296 ^ u = vN g (r + h) u + T) (hlt : vN g r (h + u) + 4294967296 ^ h * T < 4294967296 ^ (h + u)) : vN f r (h + u) = vN g r (h + u) + 4294967296 ^ h * T := by
  rw [vN_add, Nat.pow_add] at hlt
  rw [vN_add, vN_add, hs.vN (Or.inl (by omega))]
  have e : 4294967296 ^ h * (vN f (r + h) u) + 4294967296 ^ h * (cy * 4294967296 ^ u) = 4294967296 ^ h * vN g (r + h) u + 4294967296 ^ h * T := by rw [← Nat.mul_add, hv, Nat.mul_add]
  have hz : cy = 0 := by
    rcases Nat.eq_zero_or_pos cy with z | z
    · exact z
    · have h1 : 4294967296 ^ h * (1 * 4294967296 ^ u) ≤ 4294967296 ^ h * (cy * 4294967296 ^ u) := Nat.mul_le_mul_left _ (Nat.mul_le_mul_right _ z)
      rw [Nat.one_mul] at h1
      omega
  subst hz
  rw [Nat.zero_mul, Nat.mul_zero] at e
  omega
theorem vN_low {f : Nat → Int32} {a n m X : Nat} (hm : m ≤ n) (h : vN f a n = X) (hX : X < 4294967296 ^ m) : vN f a m = X := by
  obtain ⟨k, rfl⟩ : ∃ k, n = m + k := ⟨n - m, by omega⟩
  rw [vN_add] at h
  have hz : vN f (a + m) k = 0 := by
    rcases Nat.eq_zero_or_pos (vN f (a + m) k) with z | z
    · exact z
    · have : 4294967296 ^ m * 1 ≤ 4294967296 ^ m * vN f (a + m) k := Nat.mul_le_mul_left _ z
      omega
  rw [hz, Nat.mul_zero] at h
  omega
theorem mul_pw {f g : Nat → Int32} {a n b m : Nat} : vN f a n * vN g b m < 4294967296 ^ (n + m) := by
  rw [Nat.pow_add]
  exact Nat.mul_lt_mul_of_lt_of_le (vN_lt f a n) (Nat.le_of_lt (vN_lt g b m)) (Nat.pow_pos (by decide))
/-- the longer factor in two parts -/
theorem tw_end {f f3 g : Nat → Int32} {r a an b bn hf up cy : Nat} (hh : hf ≤ an) (hu : up = an - hf + bn) (h3 : vN f3 r (an + bn) = vN g a hf * vN g b bn) (hs : so f f3 (r + hf) up) (hv : vN f (r + hf) up + cy * 4294967296 ^ up = vN f3 (r + hf) up + vN g (a + hf) (an - hf) * vN g b bn) : vN f r (an + bn) = vN g a an * vN g b bn := by
  have e0 : vN g a an * vN g b bn = vN g a hf * vN g b bn + 4294967296 ^ hf * (vN g (a + hf) (an - hf) * vN g b bn) := by
    rw [← Nat.mul_assoc, ← Nat.add_mul, ← vN_add, show hf + (an - hf) = an by omega]
  have e1 : an + bn = hf + up := by omega
  have hlt : vN g a an * vN g b bn < 4294967296 ^ (an + bn) := mul_pw
  rw [e0, ← h3, e1] at hlt
  rw [e0, ← h3, e1]
  exact add_at hs hv hlt
theorem tw_fill {f : Nat → Int32} {r a an b bn hf V : Nat} (hh : hf ≤ an) (h : vN f r (hf + bn) = V) : vN (fl f (r + hf + bn) (r + an + bn) (nI 0)) r (an + bn) = V := by
  rw [show an + bn = (hf + bn) + (an - hf) by omega, vN_add]
  have e1 : vN (fl f (r + hf + bn) (r + an + bn) (nI 0)) r (hf + bn) = vN f r (hf + bn) := vN_congr (fun i hi => fl_out (by omega))
  have e2 : vN (fl f (r + hf + bn) (r + an + bn) (nI 0)) (r + (hf + bn)) (an - hf) = 0 := vN_zero (fun i hi => by rw [fl_in (by omega) (by omega)]; exact nI_0)
  rw [e1, e2, h]
  omega
theorem kar_s1 {A1 B1 x y : Nat} : (A1 + x) * (B1 + y) + A1 * B1 = x * y + ((A1 + x) * B1 + A1 * (B1 + y)) := by
  simp only [Nat.add_mul, Nat.mul_add]
  omega
theorem kar_s2 {A0 B0 x y : Nat} : A0 * B0 + (A0 + x) * (B0 + y) = x * y + (A0 * (B0 + y) + (A0 + x) * B0) := by
  simp only [Nat.add_mul, Nat.mul_add]
  omega
theorem kar_d1 {A1 B0 x y : Nat} : (A1 + x) * B0 + A1 * (B0 + y) + x * y = (A1 + x) * (B0 + y) + A1 * B0 := by
  simp only [Nat.add_mul, Nat.mul_add]
  omega
theorem kar_d2 {A0 B1 x y : Nat} : A0 * (B1 + y) + (A0 + x) * B1 + x * y = A0 * B1 + (A0 + x) * (B1 + y) := by
  simp only [Nat.add_mul, Nat.mul_add]
  omega
/-- how the halves lie to each other -/
def sgn (β A0 A1 x : Nat) : Prop := (β = 1 ∧ A1 = A0 + x) ∨ (β = 0 ∧ A0 = A1 + x)
theorem sgn_of {r : Int32} {A0 A1 x : Nat} (h : (A0 < A1 ∧ r = nI 1 ∧ x = A1 - A0) ∨ (A1 ≤ A0 ∧ r = nI 0 ∧ x = A0 - A1)) : ∃ β, r = nI β ∧ β ≤ 1 ∧ sgn β A0 A1 x := by
  rcases h with ⟨h1, h2, h3⟩ | ⟨h1, h2, h3⟩
  · exact ⟨1, h2, Nat.le_refl _, Or.inl ⟨rfl, by omega⟩⟩
  · exact ⟨0, h2, by omega, Or.inr ⟨rfl, by omega⟩⟩
theorem kar_same {β A0 A1 B0 B1 x y : Nat} (h1 : sgn β A0 A1 x) (h2 : sgn β B0 B1 y) : A0 * B0 + A1 * B1 = x * y + (A0 * B1 + A1 * B0) := by
  rcases h1 with ⟨q1, rfl⟩ | ⟨q1, rfl⟩ <;> rcases h2 with ⟨q2, rfl⟩ | ⟨q2, rfl⟩
  · exact kar_s2
  · omega
  · omega
  · exact kar_s1
theorem kar_diff {β γ A0 A1 B0 B1 x y : Nat} (hne : ¬ β = γ) (h1 : sgn β A0 A1 x) (h2 : sgn γ B0 B1 y) : A0 * B0 + A1 * B1 + x * y = A0 * B1 + A1 * B0 := by
  rcases h1 with ⟨q1, rfl⟩ | ⟨q1, rfl⟩ <;> rcases h2 with ⟨q2, rfl⟩ | ⟨q2, rfl⟩
  · omega
  · exact kar_d2
  · exact kar_d1
  · omega
theorem no_cy {V cy P X : Nat} (h : V + cy * P = X) (hX : X < P) : V = X := by
  rcases Nat.eq_zero_or_pos cy with z | z
  · subst z; omega
  · have : 1 * P ≤ cy * P := Nat.mul_le_mul_right _ z
    omega
theorem no_ow {V o P M X Y : Nat} (h : V + M = Y + o * P) (hY : Y = M + X) (hV : V < P) : V = X := by
  rcases Nat.eq_zero_or_pos o with z | z
  · subst z; omega
  · have : 1 * P ≤ o * P := Nat.mul_le_mul_right _ z
    omega
/-- both factors in two parts: the product -/
theorem kar_prod {g : Nat → Int32} {a an b bn hf : Nat} (ha : hf ≤ an) (hb : hf ≤ bn) : vN g a an * vN g b bn = vN g a hf * vN g b hf + 4294967296 ^ (2 * hf) * (vN g (a + hf) (an - hf) * vN g (b + hf) (bn - hf)) + 4294967296 ^ hf * (vN g a hf * vN g (b + hf) (bn - hf) + vN g (a + hf) (an - hf) * vN g b hf) := by
  have e1 : vN g a an = vN g a hf + 4294967296 ^ hf * vN g (a + hf) (an - hf) := by rw [← vN_add, show hf + (an - hf) = an by omega]
  have e2 : vN g b bn = vN g b hf + 4294967296 ^ hf * vN g (b + hf) (bn - hf) := by rw [← vN_add, show hf + (bn - hf) = bn by omega]
  rw [e1, e2, Nat.two_mul, Nat.pow_add]
  generalize vN g a hf = A0
  generalize vN g b hf = B0
  generalize vN g (a + hf) (an - hf) = A1
  generalize vN g (b + hf) (bn - hf) = B1
  generalize 4294967296 ^ hf = P
  rw [Nat.add_mul, Nat.mul_add, Nat.mul_add, Nat.mul_add P]
  have a1 : A0 * (P * B1) = P * (A0 * B1) := Nat.mul_left_comm _ _ _
  have a2 : P * A1 * B0 = P * (A1 * B0) := Nat.mul_assoc _ _ _
  have a3 : P * A1 * (P * B1) = P * P * (A1 * B1) := Nat.mul_mul_mul_comm _ _ _ _
  rw [a1, a2, a3]
  omega
/-- the mixed products' bounds -/
theorem kar_mx {g : Nat → Int32} {a an b bn hf : Nat} (ha : hf ≤ an) (hb : hf ≤ bn) : vN g a hf * vN g (b + hf) (bn - hf) + vN g (a + hf) (an - hf) * vN g b hf < 4294967296 ^ (an + bn - hf) := by
  have h1 := kar_prod (g := g) (a := a) (b := b) ha hb
  have h2 : vN g a an * vN g b bn < 4294967296 ^ (an + bn) := mul_pw
  rw [show an + bn = hf + (an + bn - hf) by omega, Nat.pow_add] at h2
  exact Nat.lt_of_mul_lt_mul_left (a := 4294967296 ^ hf) (by omega)
theorem pw_mono {n m : Nat} (h : n ≤ m) : 4294967296 ^ n ≤ 4294967296 ^ m := Nat.pow_le_pow_right (by decide) h
theorem kar_2h {g : Nat → Int32} {a an b bn hf : Nat} (ha : an ≤ 2 * hf) (hb : bn ≤ 2 * hf) : vN g a hf * vN g b hf + vN g (a + hf) (an - hf) * vN g (b + hf) (bn - hf) < 4294967296 ^ (2 * hf + 1) ∧ vN g a hf * vN g (b + hf) (bn - hf) + vN g (a + hf) (an - hf) * vN g b hf < 4294967296 ^ (2 * hf + 1) := by
  have q0 : vN g a hf * vN g b hf < 4294967296 ^ (hf + hf) := mul_pw
  have q1 : vN g (a + hf) (an - hf) * vN g (b + hf) (bn - hf) < 4294967296 ^ (an - hf + (bn - hf)) := mul_pw
  have q2 : vN g a hf * vN g (b + hf) (bn - hf) < 4294967296 ^ (hf + (bn - hf)) := mul_pw
  have q3 : vN g (a + hf) (an - hf) * vN g b hf < 4294967296 ^ (an - hf + hf) := mul_pw
  have m0 := pw_mono (show hf + hf ≤ 2 * hf by omega)
  have m1 := pw_mono (show an - hf + (bn - hf) ≤ 2 * hf by omega)
  have m2 := pw_mono (show hf + (bn - hf) ≤ 2 * hf by omega)
  have m3 := pw_mono (show an - hf + hf ≤ 2 * hf by omega)
  rw [Nat.pow_succ]
  omega
/-- both parts laid, the mixed products added -/
theorem kar_end {f f9 g : Nat → Int32} {r a an b bn hf up cy : Nat} (ha : hf ≤ an) (hb : hf ≤ bn) (hu : up = an + bn - 2 * hf) (h0 : vN f9 r (2 * hf) = vN g a hf * vN g b hf) (h2 : vN f9 (r + 2 * hf) up = vN g (a + hf) (an - hf) * vN g (b + hf) (bn - hf)) (hs : so f f9 (r + hf) (hf + up)) (hv : vN f (r + hf) (hf + up) + cy * 4294967296 ^ (hf + up) = vN f9 (r + hf) (hf + up) + (vN g a hf * vN g (b + hf) (bn - hf) + vN g (a + hf) (an - hf) * vN g b hf)) : vN f r (an + bn) = vN g a an * vN g b bn := by
  have hp := kar_prod (g := g) (a := a) (b := b) ha hb
  have e9 : vN f9 r (hf + (hf + up)) = vN g a hf * vN g b hf + 4294967296 ^ (2 * hf) * (vN g (a + hf) (an - hf) * vN g (b + hf) (bn - hf)) := by
    rw [show hf + (hf + up) = 2 * hf + up by omega, vN_add, h0, h2]
  have e1 : an + bn = hf + (hf + up) := by omega
  have hlt : vN g a an * vN g b bn < 4294967296 ^ (an + bn) := mul_pw
  rw [hp, ← e9, e1] at hlt
  rw [hp, ← e9, e1]
  exact add_at hs hv hlt
theorem cpy_out {f g : Nat → Int32} {a b n j : Nat} (h : j < b ∨ b + n ≤ j) : va_cpy f g a b n j = g j := by
  unfold va_cpy
  exact if_neg (by omega)
theorem cpy_vN {f g : Nat → Int32} {a b n : Nat} : vN (va_cpy f g a b n) b n = vN f a n := vN_congr (fun i hi => by
  unfold va_cpy
  rw [if_pos ⟨by omega, by omega⟩]
  congr 1
  omega)
/-- the product, as it is called at a depth -/
def MulAt (l : Launch) (D : va_G) (cI cB cR : ClassId) (ad : Nat → Nat) (h9 : Nat) : Prop := ∀ (w : St) (sz : Nat) {r0 a0 an b0 bn fr : Nat} (_ : 1 ≤ an) (_ : 1 ≤ bn) (_ : a0 = b0 ∧ an = bn ∨ a0 + an ≤ b0 ∨ b0 + bn ≤ a0) (_ : a0 + an ≤ fr) (_ : b0 + bn ≤ fr) (_ : r0 + an + bn ≤ fr) (_ : fr ≤ 28672) (_ : a0 + an ≤ r0 ∨ r0 + an + bn ≤ a0) (_ : b0 + bn ≤ r0 ∨ r0 + an + bn ≤ b0) (_ : 2 * fr + 4 * max an bn + 4 * h9 + 6 ≤ 57344 ∨ 2 * fr + 3 * max an bn + 2 * min an bn + 4 * h9 + 10 ≤ 57344),
  Met l y_Be_multiply (q_Be_multiply :: wA) { frames := 2 * h9 + 3, cells := 0, slots := 0, locals := 80 * h9 + 120 } (va_Pc [.ref (ad 2), .int (nI (r0)), .int (nI (a0)), .int (nI (an)), .int (nI (b0)), .int (nI (bn)), .int (nI (fr)), .int (nI (h9))] (PW D cI cB cR ad w sz)) (va_Qv (fun w1 : St => ∃ f : Nat → Int32, w1 = pR w f ∧ so2 f (sR w) r0 (an + bn) fr (28672 - fr) ∧ vN f r0 (an + bn) = vN (sR w) a0 an * vN (sR w) b0 bn) (BW D cI cB cR ad) (AA ad sz)) 0 0 (AA ad sz)

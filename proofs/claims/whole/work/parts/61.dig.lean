/-! DIGITS: the values -/
def eqQ (w w1 : St) (p : List Nat) : Prop := (∀ j, j ∉ p → sW w1 j = sW w j ∧ sL w1 j = sL w j) ∧ w1.2.2.2.2 = w.2.2.2.2
theorem eqB.Q {w w1 : St} {p : List Nat} (h : eqB w w1 p) : eqQ w w1 p := ⟨h.1, by rw [h.2]⟩
theorem eqQ.trans {w w1 w2 : St} {p : List Nat} (h : eqQ w w1 p) (h2 : eqQ w1 w2 p) : eqQ w w2 p :=
  ⟨fun j hj => ⟨(h2.1 j hj).1.trans (h.1 j hj).1, (h2.1 j hj).2.trans (h.1 j hj).2⟩, h2.2.trans h.2⟩
theorem eqQ_pP (w : St) (f : Nat → Int32) (p : List Nat) : eqQ w (pP w f) p := ⟨fun _ _ => ⟨rfl, rfl⟩, rfl⟩
theorem CI.sameQ {w w1 : St} {A : Ab} {p : List Nat} (h : CI w A) (hE : eqQ w w1 p) (hp : ∀ j, j ∈ p → 10 ≤ j) : CI w1 A := by
  have e := hE.2
  have eT : sT w1 = sT w := by show w1.2.2.2.2.1 = w.2.2.2.2.1; rw [e]
  have eO : sO w1 = sO w := by show w1.2.2.2.2.2.1 = w.2.2.2.2.2.1; rw [e]
  have eA : sA w1 = sA w := by show w1.2.2.2.2.2.2.1 = w.2.2.2.2.2.2.1; rw [e]
  have eB : sB w1 = sB w := by show w1.2.2.2.2.2.2.2 = w.2.2.2.2.2.2.2; rw [e]
  refine ⟨fun i hi => ⟨?_, h.bits hi⟩, ?_, ?_⟩
  · have q := hE.1 i (fun z => by have := hp i z; omega)
    unfold NV
    rw [q.1, q.2]
    exact h.reg hi
  · rw [eA, eT]; exact h.2.1
  · rw [eB, eO]; exact h.2.2
/-- the value of i digits from fr on -/
def pcv (b : Nat) (T : Nat → Int32) (fr : Nat) : Nat → Nat
  | 0 => 0
  | i + 1 => pcv b T fr i * b + dgN (T (fr + i))
theorem rdv_add (b : Nat) (T : Nat → Int32) (fr : Nat) : ∀ i, rdv b T (fr + i) = rdv b T fr * b ^ i + pcv b T fr i := by
  intro i
  induction i with
  | zero => rw [Nat.pow_zero]; show rdv b T fr = _; simp only [pcv]; omega
  | succ i ih =>
    show rdv b T (fr + i) * b + dgN (T (fr + i)) = rdv b T fr * b ^ (i + 1) + (pcv b T fr i * b + dgN (T (fr + i)))
    rw [ih, Nat.add_mul, Nat.pow_succ, Nat.mul_assoc]
    omega
theorem pcv_lt {b : Nat} {T : Nat → Int32} {fr : Nat} : ∀ i, (∀ j, j < i → dgN (T (fr + j)) < b) → pcv b T fr i < b ^ i := by
  intro i
  induction i with
  | zero => intro _; rw [Nat.pow_zero]; show 0 < 1; omega
  | succ i ih =>
    intro h
    have h1 := ih (fun j hj => h j (by omega))
    have h2 := h i (by omega)
    show pcv b T fr i * b + dgN (T (fr + i)) < b ^ (i + 1)
    have h3 : (pcv b T fr i + 1) * b ≤ b ^ (i + 1) := by rw [Nat.pow_succ]; exact Nat.mul_le_mul_right _ h1
    rw [Nat.add_mul, Nat.one_mul] at h3
    omega
theorem rdv_pcv (b : Nat) (T : Nat → Int32) (k : Nat) : rdv b T k = pcv b T 0 k := by
  have := rdv_add b T 0 k
  rw [Nat.zero_add, show rdv b T 0 = 0 from rfl, Nat.zero_mul, Nat.zero_add] at this
  exact this
theorem rdv_lt {b : Nat} {T : Nat → Int32} {k : Nat} (h : ∀ j, j < k → dgN (T j) < b) : rdv b T k < b ^ k := by
  rw [rdv_pcv]
  exact pcv_lt k (fun j hj => by rw [Nat.zero_add]; exact h j hj)
theorem rdv_c {b : Nat} {T T' : Nat → Int32} : ∀ k, (∀ j, j < k → T j = T' j) → rdv b T k = rdv b T' k := by
  intro k
  induction k with
  | zero => intro _; rfl
  | succ k ih =>
    intro h
    show rdv b T k * b + dgN (T k) = rdv b T' k * b + dgN (T' k)
    rw [ih (fun j hj => h j (by omega)), h k (by omega)]
theorem rdv_small {b : Nat} {T : Nat → Int32} {k : Nat} (hb : b ≤ 36) (hk : k ≤ 4096) (h : ∀ j, j < k → dgN (T j) < b) : rdv b T k < 2 ^ 24576 := by
  refine Nat.lt_of_lt_of_le (rdv_lt h) ?_
  have h1 : b ^ k ≤ (2 ^ 6) ^ k := Nat.pow_le_pow_left (by omega) k
  rw [← Nat.pow_mul] at h1
  exact Nat.le_trans h1 (Nat.pow_le_pow_right (by decide) (by omega))
theorem ndg_1 {b v : Nat} (h : v < b) : ndg b v = 1 := by
  rw [ndg]
  exact dif_neg (by omega)
theorem ndg_s {b v : Nat} (h2 : 2 ≤ b) (h : b ≤ v) : ndg b v = ndg b (v / b) + 1 := by
  rw [ndg]
  exact dif_pos ⟨h2, h⟩
theorem ndg_pos (b v : Nat) : 1 ≤ ndg b v := by
  rw [ndg]
  split <;> omega
theorem ndg_pow {b : Nat} (h2 : 2 ≤ b) : ∀ (k v : Nat), b ^ k ≤ v → ndg b v = ndg b (v / b ^ k) + k := by
  intro k
  induction k with
  | zero => intro v _; rw [Nat.pow_zero, Nat.div_one]; rfl
  | succ k ih =>
    intro v h
    rw [Nat.pow_succ] at h
    have h0 : 0 < b ^ k := Nat.pow_pos (by omega)
    have h3 : b ≤ v := Nat.le_trans (Nat.le_mul_of_pos_left _ h0) h
    rw [ndg_s h2 h3, ih (v / b) ((Nat.le_div_iff_mul_le (by omega)).mpr h), Nat.div_div_eq_div_mul, Nat.pow_succ, Nat.mul_comm b]
    omega
theorem ndg_eq {b v i : Nat} (h2 : 2 ≤ b) (hi : 1 ≤ i) (h : v < b ^ i) (h1 : i = 1 ∨ b ^ (i - 1) ≤ v) : ndg b v = i := by
  rcases h1 with q | q
  · subst q
    rw [Nat.pow_one] at h
    exact ndg_1 h
  · rw [ndg_pow h2 (i - 1) v q, ndg_1]
    · omega
    · rw [Nat.div_lt_iff_lt_mul (Nat.pow_pos (by omega)), Nat.mul_comm, ← Nat.pow_succ, show (i - 1).succ = i by omega]
      exact h
theorem ndg_gt {b v k : Nat} (h2 : 2 ≤ b) (h : b ^ k ≤ v) : k < ndg b v := by
  rw [ndg_pow h2 k v h]
  have := ndg_pos b (v / b ^ k)
  omega
/-- a digit of a piece is a digit of the number -/
theorem dig_pc {v b d i : Nat} (hb : 2 ≤ b) (hd : 1 ≤ d) : v / (b ^ d) ^ (i / d) % b ^ d / b ^ (i % d) % b = v / b ^ i % b := by
  have hm := Nat.mod_lt i (show 0 < d by omega)
  have e0 := Nat.div_add_mod i d
  have e1 : v / b ^ i = v / (b ^ d) ^ (i / d) / b ^ (i % d) := by
    rw [← Nat.pow_mul, Nat.div_div_eq_div_mul, ← Nat.pow_add, e0]
  rw [e1]
  generalize v / (b ^ d) ^ (i / d) = X
  generalize i % d = r at hm
  have e2 : b ^ d = b ^ r * b ^ (d - r) := by rw [← Nat.pow_add, show r + (d - r) = d by omega]
  rw [e2, Nat.mod_mul_right_div_self]
  apply Nat.mod_mod_of_dvd
  exact ⟨b ^ (d - r - 1), by rw [Nat.mul_comm, ← Nat.pow_succ, show (d - r - 1).succ = d - r by omega]⟩
theorem nar_nI : ∀ k, k < 128 → vp_nar .byte (nI k).toInt8.toInt32 = nI k := by decide +kernel
theorem nar_i2b (x : Int32) : vp_nar .byte x.toInt8.toInt32 = vp_nar .byte x := by
  show (x.toInt8.toInt32).toInt8.toInt32 = x.toInt8.toInt32
  rw [Int8.toInt8_toInt32]

/-! THE ANSWERS in a contract's words -/
def okp (R : Rs) (r : Int32) (u : St) : Prop := ∃ A', CI u A' ∧ R = (0, r, A')
def thp (R : Rs) (e1 e2 : String) (E : String) (u : St) : Prop := ∃ A', CI u A' ∧ ((E = e1 ∧ R = (1, 0, A')) ∨ (E = e2 ∧ R = (2, 0, A')))
theorem lt2e5 : (200000 : Int32) = nI 200000 := rfl
theorem CI.put2 {w w1 : St} {A : Ab} {x y q r : Nat} (h : CI w A) (hE : eqB w w1 [x, y]) (hq : x ≠ y → NV w1 x q) (hr : NV w1 y r) (hbq : nb q ≤ 200000) (hbr : nb r ≤ 200000) : CI w1 (pG (pG A x q) y r) := by
  have e := hE.2
  have eT : sT w1 = sT w := by show w1.2.2.2.2.1 = w.2.2.2.2.1; rw [e]
  have eO : sO w1 = sO w := by show w1.2.2.2.2.2.1 = w.2.2.2.2.2.1; rw [e]
  have eA : sA w1 = sA w := by show w1.2.2.2.2.2.2.1 = w.2.2.2.2.2.2.1; rw [e]
  have eB : sB w1 = sB w := by show w1.2.2.2.2.2.2.2 = w.2.2.2.2.2.2.2; rw [e]
  refine ⟨fun j hj => ?_, ?_, ?_⟩
  · by_cases q1 : j = y
    · subst q1
      rw [show aG (pG (pG A x q) j r) j = r from if_pos rfl]
      exact ⟨hr, hbr⟩
    · rw [show aG (pG (pG A x q) y r) j = aG (pG A x q) j from if_neg q1]
      by_cases q2 : j = x
      · subst q2
        rw [show aG (pG A j q) j = q from if_pos rfl]
        exact ⟨hq q1, hbq⟩
      · rw [show aG (pG A x q) j = aG A j from if_neg q2]
        exact ⟨hE.nv (by simp only [List.mem_cons, List.not_mem_nil, or_false]; omega) (h.reg hj), h.bits hj⟩
  · rw [eA, eT]; exact h.2.1
  · rw [eB, eO]; exact h.2.2
theorem nb_mono {a b : Nat} (h : a ≤ b) : nb a ≤ nb b := nb_le_iff.mpr (Nat.lt_of_le_of_lt h (nb_lt b))
theorem nb_mul2 {v k : Nat} (h : v ≠ 0) : nb (v * 2 ^ k) = nb v + k := by
  have h1 := nb_le h
  have h2 := nb_lt v
  have h3 := nb_pos h
  have e1 := Nat.mul_le_mul_right (2 ^ k) h1
  have e2 := Nat.mul_lt_mul_of_pos_right h2 (Nat.pow_pos (n := k) (show 0 < 2 by decide))
  rw [← Nat.pow_add] at e1 e2
  have := nb_eq (v := v * 2 ^ k) (k := nb v - 1 + k) e1 (by rw [show nb v - 1 + k + 1 = nb v + k by omega]; exact e2)
  omega
theorem nb_add {v u : Nat} (hv : nb v ≤ 200000) (hu : nb u ≤ 200000) : nb (v + u) ≤ 200001 := by
  have h1 := nb_le_iff.mp hv
  have h2 := nb_le_iff.mp hu
  refine nb_le_iff.mpr ?_
  rw [Nat.pow_succ]
  generalize 2 ^ 200000 = X at *
  omega
theorem nb_mulL (v u : Nat) : nb (v * u) ≤ nb v + nb u := by
  refine nb_le_iff.mpr ?_
  rw [Nat.pow_add]
  have h1 := nb_lt v
  have h2 := nb_lt u
  exact Nat.mul_lt_mul_of_lt_of_le h1 (Nat.le_of_lt h2) (Nat.pow_pos (by decide))
theorem nb_powL (v : Nat) {k : Nat} (hk : 1 ≤ k) : nb (v ^ k) ≤ k * nb v := by
  refine nb_le_iff.mpr ?_
  rw [Nat.mul_comm, Nat.pow_mul]
  exact pw_lt (nb_lt v) hk
theorem nb_fit {v k : Nat} (h : nb v ≤ k) (hk : k ≤ 200639) : v < 2 ^ 200640 := p2_fit (nb_le_iff.mp h) (by omega)
theorem fitB {w : St} {a v k : Nat} (hv : NV w a v) (h : nb v ≤ k) (hk : k ≤ 200640) : sL w a ≤ 6270 := fitL hv (p2_fit (nb_le_iff.mp h) (by omega))
theorem sh_cases {n : Int32} (h1 : -200000 ≤ n) (h2 : n ≤ 200000) : (∃ k, k ≤ 200000 ∧ n = nI k) ∨ ∃ k, 1 ≤ k ∧ k ≤ 200000 ∧ n = -nI k := by
  have e1 := Int32.le_iff_toInt_le.mp h1
  have e2 := Int32.le_iff_toInt_le.mp h2
  have e3 : (-200000 : Int32).toInt = -200000 := by decide
  have e4 : (200000 : Int32).toInt = 200000 := by decide
  rw [e3] at e1
  rw [e4] at e2
  have e0 : n = iZ n.toInt := (Int32.ofInt_toInt n).symm
  rcases Int.lt_or_le n.toInt 0 with q | q
  · refine Or.inr ⟨(-n.toInt).toNat, by omega, by omega, ?_⟩
    rw [nI_iZ, show (((-n.toInt).toNat : Nat) : Int) = -n.toInt by omega]
    show n = -Int32.ofInt (-n.toInt)
    rw [← Int32.ofInt_neg, Int.neg_neg]
    exact e0
  · refine Or.inl ⟨n.toInt.toNat, by omega, ?_⟩
    rw [nI_iZ, show ((n.toInt.toNat : Nat) : Int) = n.toInt by omega]
    exact e0
theorem ng_add (a b : Nat) : nI a + -nI b = iZ ((a : Int) - (b : Int)) := by
  rw [← Int32.sub_eq_add_neg]
  exact nI_sZ a b
theorem shv_U {v k : Nat} (hk : k ≤ 200000) : shv v (nI k) = v * 2 ^ k := by
  unfold shv
  rw [if_pos ((nI_leI (by omega) (by omega)).mpr (by omega)), wN_small (by omega)]
theorem shv_D {v k : Nat} (h1 : 1 ≤ k) (hk : k ≤ 200000) : shv v (-nI k) = v / 2 ^ k := by
  unfold shv
  rw [if_neg, Int32.neg_neg, wN_small (by omega)]
  intro h
  have e1 := Int32.le_iff_toInt_le.mp h
  have e2 : (-nI k) = iZ (-(k : Int)) := by rw [nI_iZ]; exact (Int32.ofInt_neg (k : Int)).symm
  rw [e2, iZ_toInt (by omega) (by omega)] at e1
  have e3 : (nI 0).toInt = 0 := by decide
  rw [e3] at e1
  omega
theorem vN_word {f : Nat → Int32} {L q : Nat} (h : q < L) : vN f 0 L / 4294967296 ^ q % 4294967296 = wN (f q) := by
  obtain ⟨r, rfl⟩ : ∃ r, L = q + (r + 1) := ⟨L - q - 1, by omega⟩
  rw [vN_add, Nat.add_comm (vN f 0 q), Nat.mul_add_div (Nat.pow_pos (by decide)), Nat.div_eq_of_lt (vN_lt f 0 q), Nat.add_zero, Nat.zero_add, vN_cons, Nat.add_mul_mod_self_left, Nat.mod_eq_of_lt (wN_lt _)]
theorem pow_nb {b : Nat} (h2 : 2 ≤ b) : b ≤ 2 ^ nb (b - 1) := by
  have := nb_lt (b - 1)
  omega
theorem wr_big {v b : Nat} (h2 : 2 ≤ b) (h : 20000 * nb (b - 1) < nb v) : 20000 < ndg b v := by
  apply ndg_gt h2
  have h1 : b ^ 20000 ≤ (2 ^ nb (b - 1)) ^ 20000 := Nat.pow_le_pow_left (pow_nb h2) _
  rw [← Nat.pow_mul, Nat.mul_comm] at h1
  have hv : v ≠ 0 := fun q => by rw [q, nb_0] at h; omega
  have h3 := nb_le hv
  exact Nat.le_trans h1 (Nat.le_trans (Nat.pow_le_pow_right (by decide) (by omega)) h3)
theorem wr_fit {v b d : Nat} (h2 : 2 ≤ b) (hb : b ≤ 36) (hd : 2147483647 < b ^ (d + 1)) (h : nb v ≤ 20000 * nb (b - 1)) : v < (b ^ d) ^ 4800 := by
  have t6 : nb (b - 1) ≤ 6 := nb_le_iff.mpr (by omega)
  have hb2 := pow_nb h2
  have h1 : 2 ^ 25 ≤ b ^ d := by
    rw [Nat.pow_succ] at hd
    have q1 : b ^ d * b ≤ b ^ d * 2 ^ 6 := Nat.mul_le_mul_left _ (by omega)
    omega
  have h3 := nb_le_iff.mp h
  refine Nat.lt_of_lt_of_le h3 ?_
  refine Nat.le_trans (Nat.pow_le_pow_right (by decide) (show 20000 * nb (b - 1) ≤ 25 * 4800 by omega)) ?_
  rw [Nat.pow_mul]
  exact Nat.pow_le_pow_left h1 _
theorem wr_cnt {v b d c : Nat} (h2 : 2 ≤ b) (hc : 1 ≤ c) (hv : v < (b ^ d) ^ c) (hlo : c = 1 ∨ (b ^ d) ^ (c - 1) ≤ v) : v / (b ^ d) ^ (c - 1) % b ^ d = v / (b ^ d) ^ (c - 1) ∧ (c - 1) * d + ndg b (v / (b ^ d) ^ (c - 1)) = ndg b v ∧ v / (b ^ d) ^ (c - 1) < b ^ d := by
  have h0 : v / (b ^ d) ^ (c - 1) < b ^ d := by
    rw [Nat.div_lt_iff_lt_mul (Nat.pow_pos (Nat.pow_pos (by omega))), Nat.mul_comm, ← Nat.pow_succ, show (c - 1).succ = c by omega]
    exact hv
  refine ⟨Nat.mod_eq_of_lt h0, ?_, h0⟩
  rcases hlo with q | q
  · subst q
    rw [Nat.sub_self, Nat.pow_zero, Nat.div_one, Nat.zero_mul, Nat.zero_add]
  · rw [← Nat.pow_mul] at q ⊢
    rw [ndg_pow h2 _ v q, Nat.mul_comm d]
    omega
theorem wr_len {v b c d : Nat} (h2 : 2 ≤ b) (hc : 1 ≤ c) (hd : 1 ≤ d) (hv : v < (b ^ d) ^ c) : ndg b v ≤ c * d := by
  rcases Nat.lt_or_ge (c * d) (ndg b v) with q | q
  · exfalso
    have hp := ndg_pos b v
    have key : ∀ k u, u < b ^ (k + 1) → ndg b u ≤ k + 1 := by
      intro k
      induction k with
      | zero => intro u hu; rw [Nat.zero_add, Nat.pow_one] at hu; rw [ndg_1 hu]; exact Nat.le_refl _
      | succ k ih =>
        intro u hu
        rcases Nat.lt_or_ge u b with z | z
        · rw [ndg_1 z]; omega
        · rw [ndg_s h2 z]
          have := ih (u / b) (by rw [Nat.div_lt_iff_lt_mul (by omega), ← Nat.pow_succ]; exact hu)
          omega
    have hcd : 1 ≤ c * d := Nat.mul_pos hc hd
    rw [← Nat.pow_mul, Nat.mul_comm d c] at hv
    have := key (c * d - 1) v (by rw [show c * d - 1 + 1 = c * d by omega]; exact hv)
    omega
  · exact q

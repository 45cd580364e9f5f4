/-! PIECES for putMoved, putOnes -/
theorem neg_nI (n : Nat) : - -nI n = nI n := Int32.neg_neg
theorem nI_negT {n : Nat} (h : n < 2 ^ 30) : (-nI n).toInt = -(n : Int) := by
  rw [Int32.toInt_neg, nI_toInt (by omega)]
  show Int.bmod _ (2 ^ 32) = _
  rw [Int.bmod_def]
  omega
theorem neg_ge {n : Nat} (h : n < 2 ^ 30) (hc : ¬ -nI n < 0) : n = 0 := by
  rw [Int32.lt_iff_toInt_lt, nI_negT h] at hc
  have : (0 : Int32).toInt = 0 := by decide
  rw [this] at hc
  omega
theorem wN_neg1 : wN (-1) = 4294967295 := by decide
theorem ones_all {f : Nat → Int32} {n : Nat} (h : ∀ i, i < n → f i = -1) : vN f 0 n + 1 = 4294967296 ^ n := by
  induction n with
  | zero => rfl
  | succ n ih =>
    have := ih (fun i hi => h i (by omega))
    rw [vN_suc0, h n (by omega), wN_neg1, Nat.pow_succ]
    omega
theorem sl_one : ∀ k, k < 32 → wN (sl (nI 1) k - nI 1) = 2 ^ k - 1 := by decide +kernel
theorem ones_val (f : Nat → Int32) (n : Nat) : vN (upd (fl f 0 (n / 32) (-1)) (n / 32) (sl (nI 1) (n % 32) - nI 1)) 0 (n / 32 + 1) = 2 ^ n - 1 := by
  rw [vN_suc0, pk_us, vN_out (Or.inr (by omega)), sl_one _ (Nat.mod_lt _ (by decide))]
  have h := ones_all (f := fl f 0 (n / 32) (-1)) (n := n / 32) (fun i hi => fl_in (Nat.zero_le _) hi)
  have e : 2 ^ n = 2 ^ (n % 32) * 4294967296 ^ (n / 32) := by
    show 2 ^ n = 2 ^ (n % 32) * (2 ^ 32) ^ (n / 32)
    rw [← Nat.pow_mul, ← Nat.pow_add, show n % 32 + 32 * (n / 32) = n by omega]
  have h1 : 1 ≤ 2 ^ (n % 32) := Nat.pow_pos (by decide)
  rw [e]
  generalize 2 ^ (n % 32) = P at *
  generalize 4294967296 ^ (n / 32) = Q at *
  obtain ⟨P', rfl⟩ : ∃ z, P = z + 1 := ⟨P - 1, by omega⟩
  rw [show P' + 1 - 1 = P' by omega, Nat.add_mul, Nat.one_mul]
  omega

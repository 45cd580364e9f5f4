/-! PIECES for scale, reduce, takeOne -/
theorem wN_dec {x : Int32} (h : x ≠ 0) : wN (x - nI 1) + 1 = wN x := by
  have h0 : wN x ≠ 0 := fun q => h (wN_eq0.mp q)
  have h1 := wN_lt x
  rw [← nI_wN x, pk_sub (by omega), wN_nI, wN_nI]
  omega
theorem wN_dec0 : wN ((0 : Int32) - nI 1) = 4294967295 := by decide
theorem lN_c : ∀ k, k < 64 → ((nI k).toInt64 &&& 63) = lN k := by decide +kernel
theorem lN_sm : ∀ k, k < 64 → (BitVec.ofNat 64 k).smod 64 = BitVec.ofNat 64 k := by decide +kernel
theorem lN_tb (n : Nat) : (lN n).toBitVec = BitVec.ofNat 64 n := rfl
theorem lN_shl (n : Nat) {k : Nat} (hk : k < 64) : lN n <<< ((nI k).toInt64 &&& 63) = lN (n * 2 ^ k) := by
  rw [lN_c k hk]
  apply Int64.toBitVec_inj.mp
  rw [Int64.toBitVec_shiftLeft, lN_tb, lN_tb, lN_tb, lN_sm k hk]
  apply BitVec.eq_of_toNat_eq
  rw [BitVec.shiftLeft_eq', BitVec.toNat_shiftLeft, BitVec.toNat_ofNat, BitVec.toNat_ofNat, BitVec.toNat_ofNat, Nat.mod_eq_of_lt (show k < 2 ^ 64 by omega), Nat.shiftLeft_eq, Nat.mul_mod, Nat.mod_mod, ← Nat.mul_mod]
theorem lN_shl32 (n : Nat) : lN n <<< ((nI 32).toInt64 &&& 63) = lN (n * 4294967296) := lN_shl n (by decide)
theorem lN_or {a b : Nat} (ha : a < 2 ^ 64) (hb : b < 2 ^ 64) : lN a ||| lN b = lN (a ||| b) := by
  apply Int64.toBitVec_inj.mp
  rw [Int64.toBitVec_or, lN_tb, lN_tb, lN_tb]
  apply BitVec.eq_of_toNat_eq
  rw [BitVec.toNat_or, BitVec.toNat_ofNat, BitVec.toNat_ofNat, BitVec.toNat_ofNat, Nat.mod_eq_of_lt ha, Nat.mod_eq_of_lt hb, Nat.mod_eq_of_lt (Nat.or_lt_two_pow ha hb)]
theorem lN_join {h x : Nat} (hh : h < 4294967296) (hx : x < 4294967296) : lN (h * 4294967296) ||| lN x = lN (h * 4294967296 + x) := by
  rw [lN_or (by omega) (by omega), Nat.mul_comm h]
  exact congrArg lN (Nat.two_pow_add_eq_or_of_lt (i := 32) hx h).symm
theorem lN_ne0 {d : Nat} (h0 : 0 < d) (h : d < 2 ^ 63) : ¬ lN d = 0 := by
  intro q
  have := (pk_lEQ h (by decide : 0 < 2 ^ 63)).mp (q.trans (rfl : (0 : Int64) = lN 0))
  omega
/-- one step of a division by a word, from above -/
theorem rd_step {f g : Nat → Int32} {k n d r x : Nat} (hq : vN f (k + 1) n * d + r = vN g (k + 1) n) (hx : x = wN (g k)) (hd : 0 < d) (hs : (r * 4294967296 + x) / d < 4294967296) :
    vN (upd f k (nI ((r * 4294967296 + x) / d))) k (n + 1) * d + (r * 4294967296 + x - (r * 4294967296 + x) / d * d) = vN g k (n + 1) := by
  rw [vN_cons, vN_cons, pk_us, wN_nI, Nat.mod_eq_of_lt hs, vN_out (Or.inl (by omega)), ← hq, ← hx]
  have h1 : (r * 4294967296 + x) / d * d ≤ r * 4294967296 + x := Nat.div_mul_le_self _ _
  generalize (r * 4294967296 + x) / d = s at *
  generalize vN f (k + 1) n = q
  have e1 : (s + 4294967296 * q) * d = s * d + 4294967296 * (q * d) := by rw [Nat.add_mul, Nat.mul_assoc]
  rw [e1]
  generalize s * d = a at *
  generalize q * d = b
  omega
theorem rd_share {r x d : Nat} (hr : r < d) (hx : x < 4294967296) : (r * 4294967296 + x) / d < 4294967296 := by
  rw [Nat.div_lt_iff_lt_mul (by omega)]
  have : (r + 1) * 4294967296 ≤ d * 4294967296 := Nat.mul_le_mul_right _ hr
  rw [Nat.add_mul] at this
  rw [Nat.mul_comm 4294967296 d]
  omega
theorem rd_rest {p d : Nat} (hd : 0 < d) : p - p / d * d < d := by
  have h := Nat.div_add_mod p d
  have h2 := Nat.mod_lt p hd
  rw [Nat.mul_comm] at h
  omega
theorem rd_end {q d r v : Nat} (h : q * d + r = v) (hr : r < d) : q = v / d ∧ r = v % d := by
  subst h
  rw [Nat.mul_comm q d]
  constructor
  · rw [Nat.mul_add_div (by omega), Nat.div_eq_of_lt hr, Nat.add_zero]
  · rw [Nat.mul_add_mod, Nat.mod_eq_of_lt hr]
theorem sc_step {A x P φ μ : Nat} : A * φ + μ + x * φ * P = (A + x * P) * φ + μ := by
  rw [Nat.add_mul, Nat.mul_right_comm x P φ]
  omega
/-- the part above is as it was -/
theorem vN_tail {f g : Nat → Int32} {j n : Nat} (hj : j ≤ n) (h : ∀ q, j ≤ q → f q = g q) {a b : Nat} (he : vN f 0 j + a = vN g 0 j + b) : vN f 0 n + a = vN g 0 n + b := by
  obtain ⟨d, rfl⟩ : ∃ d, n = j + d := ⟨n - j, by omega⟩
  rw [vN_add f 0 j d, vN_add g 0 j d, vN_congr (f := f) (g := g) (a := 0 + j) (b := 0 + j) (n := d) (fun i hi => h _ (by omega))]
  omega

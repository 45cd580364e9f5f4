/-! CHAINS OF WORDS: one step of an addition, of a subtraction (in Int) -/
theorem vN_push (f : Nat → Int32) (a i : Nat) (x : Int32) : vN (upd f (a + i) x) a (i + 1) = vN f a i + wN x * 4294967296 ^ i := by
  rw [vN_succ, vN_out (Or.inr (Nat.le_refl _)), pk_us]
theorem ch_split (S q : Nat) : S % 4294967296 * q + S / 4294967296 * (q * 4294967296) = S * q := by
  have h := Nat.div_add_mod S 4294967296
  have h2 : S / 4294967296 * (q * 4294967296) = 4294967296 * (S / 4294967296) * q := by
    rw [Nat.mul_comm q, ← Nat.mul_assoc, Nat.mul_comm (S / 4294967296)]
  rw [h2, ← Nat.add_mul, Nat.add_comm, h]
theorem ch_add {f : Nat → Int32} {a i c t V : Nat} (h : vN f a i + c * 4294967296 ^ i = V) : vN (upd f (a + i) (nI (c + t))) a (i + 1) + (c + t) / 4294967296 * 4294967296 ^ (i + 1) = V + t * 4294967296 ^ i := by
  rw [vN_push, wN_nI, Nat.pow_succ, Nat.add_assoc, ch_split, ← h, Nat.add_mul]
  omega
/-- an Int as a long -/
def lZ (z : Int) : Int64 := Int64.ofInt z
theorem lZ_add (a b : Int) : lZ a + lZ b = lZ (a + b) := (Int64.ofInt_add a b).symm
theorem lZ_sub (a b : Int) : lZ a - lZ b = lZ (a - b) := (Int64.ofInt_sub a b).symm
theorem lZ_mul (a b : Int) : lZ a * lZ b = lZ (a * b) := (Int64.ofInt_mul a b).symm
theorem lZ_N (n : Nat) : lN n = lZ (n : Int) := (Int64.ofInt_eq_ofNat (n := n)).symm
theorem lZ_toInt {z : Int} (h1 : -2 ^ 63 ≤ z) (h2 : z < 2 ^ 63) : (lZ z).toInt = z := by
  show (Int64.ofInt z).toInt = z
  rw [Int64.toInt_ofInt]
  show z.bmod (2 ^ 64) = z
  rw [Int.bmod_def]
  omega
theorem lZ_inj {x : Int64} {z : Int} (h : x.toInt = z) : x = lZ z := by
  rw [← h]
  exact (Int64.ofInt_toInt x).symm
theorem lZ_shr {z : Int} (h1 : -2 ^ 63 ≤ z) (h2 : z < 2 ^ 63) : lZ z >>> ((nI 32).toInt64 &&& 63) = lZ (z / 4294967296) := by
  apply lZ_inj
  have h : (((nI 32).toInt64 &&& 63).toBitVec.smod 64).toNat = 32 := by decide
  have e : (lZ z >>> ((nI 32).toInt64 &&& 63)).toInt = ((lZ z).toBitVec.sshiftRight' (((nI 32).toInt64 &&& 63).toBitVec.smod 64)).toInt := rfl
  rw [e, BitVec.toInt_sshiftRight', h, Int.shiftRight_eq_div_pow]
  show (lZ z).toInt / _ = _
  rw [lZ_toInt h1 h2]
  rfl
/-- the low word of a long that holds an Int -/
theorem lZ_word {z : Int} : (wN (lZ z).toInt32 : Int) = z % 4294967296 := by
  show (((lZ z).toInt32.toBitVec.toNat : Nat) : Int) = _
  have h : (lZ z).toInt32 = Int32.ofInt z := Int64.toInt32_ofInt
  rw [h]
  show ((BitVec.ofInt 32 z).toNat : Int) = _
  rw [BitVec.toNat_ofInt]
  omega
theorem ch_addZ {f : Nat → Int32} {a i : Nat} {c t V : Int} (h : (vN f a i : Int) + c * 4294967296 ^ i = V) : (vN (upd f (a + i) (lZ (c + t)).toInt32) a (i + 1) : Int) + (c + t) / 4294967296 * 4294967296 ^ (i + 1) = V + t * 4294967296 ^ i := by
  have e : (vN (upd f (a + i) (lZ (c + t)).toInt32) a (i + 1) : Int) = (vN f a i : Int) + (c + t) % 4294967296 * 4294967296 ^ i := by
    rw [vN_push, Int.natCast_add, Int.natCast_mul, Int.natCast_pow, lZ_word]
    rfl
  have h2 := Int.emod_add_mul_ediv (c + t) 4294967296
  rw [e, ← h, Int.pow_succ]
  generalize (4294967296 : Int) ^ i = P
  have h3 : (c + t) / 4294967296 * (P * 4294967296) = 4294967296 * ((c + t) / 4294967296) * P := by
    rw [Int.mul_comm P, ← Int.mul_assoc, Int.mul_comm ((c + t) / 4294967296)]
  have h4 : (c + t) % 4294967296 * P + 4294967296 * ((c + t) / 4294967296) * P = c * P + t * P := by
    rw [← Int.add_mul, h2, Int.add_mul]
  rw [h3]
  omega

/-! BITS OF A WORD -/
theorem wN_or (x y : Int32) : wN (x ||| y) = wN x ||| wN y := by
  show (x.toBitVec ||| y.toBitVec).toNat = _
  rw [BitVec.toNat_or]
  rfl
abbrev us (x : Int32) (k : Nat) : Int32 := (x.toUInt32 >>> ((nI k).toUInt32 &&& Int32.toUInt32 31)).toInt32
theorem wN_us1 (x : Int32) : wN (us x 1) = wN x >>> 1 := by rw [Nat.shiftRight_eq_div_pow]; exact pk_ushr x (nI 1) 1 (by decide)
theorem wN_us2 (x : Int32) : wN (us x 2) = wN x >>> 2 := by rw [Nat.shiftRight_eq_div_pow]; exact pk_ushr x (nI 2) 2 (by decide)
theorem wN_us4 (x : Int32) : wN (us x 4) = wN x >>> 4 := by rw [Nat.shiftRight_eq_div_pow]; exact pk_ushr x (nI 4) 4 (by decide)
theorem wN_us8 (x : Int32) : wN (us x 8) = wN x >>> 8 := by rw [Nat.shiftRight_eq_div_pow]; exact pk_ushr x (nI 8) 8 (by decide)
theorem wN_us16 (x : Int32) : wN (us x 16) = wN x >>> 16 := by rw [Nat.shiftRight_eq_div_pow]; exact pk_ushr x (nI 16) 16 (by decide)
/-- the count of bits as the JDK makes it -/
def bc1 (x : Int32) : Int32 := x - (us x 1 &&& 1431655765)
def bc2 (x : Int32) : Int32 := (x &&& 858993459) + (us x 2 &&& 858993459)
def bc3 (x : Int32) : Int32 := (x + us x 4) &&& 252645135
def bc4 (x : Int32) : Int32 := x + us x 8
def bc5 (x : Int32) : Int32 := x + us x 16
def bc (x : Int32) : Int32 := bc5 (bc4 (bc3 (bc2 (bc1 x)))) &&& nI 63
theorem bc_pow : ∀ k, k < 33 → bc (nI (2 ^ k - 1)) = nI k := by decide +kernel
/-- the bits of a word by its smeared form -/
theorem bits_smear {x z1 z2 z3 z4 z5 : Int32} (e1 : z1 = x ||| us x 1) (e2 : z2 = z1 ||| us z1 2) (e3 : z3 = z2 ||| us z2 4) (e4 : z4 = z3 ||| us z3 8) (e5 : z5 = z4 ||| us z4 16) : bc z5 = nI (nb (wN x)) := by
  have s1 : Sm (wN x) 2 (wN z1) := by rw [e1, wN_or, wN_us1]; exact sm_dbl (sm_1 _)
  have s2 : Sm (wN x) 4 (wN z2) := by rw [e2, wN_or, wN_us2]; exact sm_dbl s1
  have s3 : Sm (wN x) 8 (wN z3) := by rw [e3, wN_or, wN_us4]; exact sm_dbl s2
  have s4 : Sm (wN x) 16 (wN z4) := by rw [e4, wN_or, wN_us8]; exact sm_dbl s3
  have s5 : Sm (wN x) 32 (wN z5) := by rw [e5, wN_or, wN_us16]; exact sm_dbl s4
  have h : wN z5 = 2 ^ nb (wN x) - 1 := sm_32 s5 (wN_lt x)
  have hb : nb (wN x) ≤ 32 := nb_le_iff.mpr (wN_lt x)
  rw [← nI_wN z5, h]
  exact bc_pow _ (by omega)

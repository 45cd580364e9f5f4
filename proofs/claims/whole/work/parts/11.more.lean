/-! SMALL ROWS for the walks -/
theorem BW_of {D : va_G} {cI cB cR : ClassId} {ad : Nat → Nat} {w : St} {t : State} {H : Heap} (ht : t.heap = H) (hP : va_P D clA (NC cI cB cR ad w) H) : BW D cI cB cR ad w t := by
  show va_P D clA (NC cI cB cR ad w) t.heap
  rw [ht]
  exact hP
theorem iinc_dn {a : Nat} (h : 1 ≤ a) : nI a + Int32.ofInt (-1) = nI (a - 1) := by
  obtain ⟨b, rfl⟩ : ∃ b, a = b + 1 := ⟨a - 1, by omega⟩
  exact pk_m1 b
theorem lN_cu : ∀ k, k < 64 → ((nI k).toInt64.toUInt64 &&& Int64.toUInt64 63) = UInt64.ofNat k := by decide +kernel
theorem lN_shr {n k : Nat} (hn : n < 2 ^ 64) (hk : k < 64) : ((lN n).toUInt64 >>> ((nI k).toInt64.toUInt64 &&& Int64.toUInt64 63)).toInt64 = lN (n / 2 ^ k) := by
  rw [lN_cu k hk]
  apply Int64.toBitVec_inj.mp
  apply BitVec.eq_of_toNat_eq
  show ((lN n).toUInt64 >>> UInt64.ofNat k).toNat = (BitVec.ofNat 64 _).toNat
  have h1 : (UInt64.ofNat k).toNat = k := by
    show (BitVec.ofNat 64 k).toNat = k
    rw [BitVec.toNat_ofNat, Nat.mod_eq_of_lt (by omega)]
  have h2 : (lN n).toUInt64.toNat = n := by
    show (BitVec.ofNat 64 n).toNat = n
    rw [BitVec.toNat_ofNat, Nat.mod_eq_of_lt hn]
  rw [UInt64.toNat_shiftRight, h1, h2, Nat.mod_eq_of_lt hk, Nat.shiftRight_eq_div_pow, BitVec.toNat_ofNat, Nat.mod_eq_of_lt (Nat.lt_of_le_of_lt (Nat.div_le_self _ _) hn)]
theorem lN_shr32 {n : Nat} (hn : n < 2 ^ 64) : ((lN n).toUInt64 >>> ((nI 32).toInt64.toUInt64 &&& Int64.toUInt64 63)).toInt64 = lN (n / 4294967296) := lN_shr hn (by decide)
/-- every long by its number without a sign -/
def uL (x : Int64) : Nat := x.toBitVec.toNat
theorem uL_lt (x : Int64) : uL x < 2 ^ 64 := x.toBitVec.isLt
theorem lN_uL (x : Int64) : lN (uL x) = x := Int64.toBitVec_inj.mp (by show BitVec.ofNat 64 x.toBitVec.toNat = _; simp)
/-- how many of n words are left when the zeroes at the upper end are left off -/
def tl (f : Nat → Int32) : Nat → Nat
  | 0 => 0
  | n + 1 => if f n = 0 then tl f n else n + 1
theorem tl_le (f : Nat → Int32) (n : Nat) : tl f n ≤ n := by
  induction n with
  | zero => exact Nat.le_refl 0
  | succ n ih =>
    show (if f n = 0 then tl f n else n + 1) ≤ n + 1
    split
    · omega
    · exact Nat.le_refl _
theorem tl_top (f : Nat → Int32) (n : Nat) : tl f n = 0 ∨ f (tl f n - 1) ≠ 0 := by
  induction n with
  | zero => exact Or.inl rfl
  | succ n ih =>
    by_cases h : f n = 0
    · rw [show tl f (n + 1) = tl f n from if_pos h]; exact ih
    · rw [show tl f (n + 1) = n + 1 from if_neg h]; exact Or.inr h
theorem tl_val (f : Nat → Int32) (n : Nat) : vN f 0 (tl f n) = vN f 0 n := by
  induction n with
  | zero => rfl
  | succ n ih =>
    by_cases h : f n = 0
    · rw [show tl f (n + 1) = tl f n from if_pos h, ih, vN_top0 (by rw [Nat.zero_add]; exact h)]
    · rw [show tl f (n + 1) = n + 1 from if_neg h]

/-! PIECES for the bench's row -/
/-- f is g outside the n places from a on -/
def so (f g : Nat → Int32) (a n : Nat) : Prop := ∀ q, (q < a ∨ a + n ≤ q) → f q = g q
theorem so_refl (g : Nat → Int32) (a n : Nat) : so g g a n := fun _ _ => rfl
theorem so_upd {f g : Nat → Int32} {a j : Nat} {x : Int32} (h : so f g a j) : so (upd f (a + j) x) g a (j + 1) := fun q hq => by
  rw [pk_un (by omega)]
  exact h q (by omega)
theorem so.wide {f g : Nat → Int32} {a n m : Nat} (h : so f g a n) (hm : n ≤ m) : so f g a m := fun q hq => h q (by omega)
theorem so.vN {f g : Nat → Int32} {a n b m : Nat} (h : so f g a n) (hd : b + m ≤ a ∨ a + n ≤ b) : vN f b m = vN g b m := vN_congr (fun i hi => h _ (by omega))
theorem so.trans {f g h : Nat → Int32} {a n : Nat} (h1 : so f g a n) (h2 : so g h a n) : so f h a n := fun q hq => (h1 q hq).trans (h2 q hq)
theorem vN_sucA (f : Nat → Int32) (a n : Nat) : vN f a (n + 1) = vN f a n + wN (f (a + n)) * 4294967296 ^ n := rfl
theorem pr_bound {x φ : Nat} (hx : x < 4294967296) (hφ : φ < 4294967296) : x * φ ≤ 18446744065119617025 := by
  have : x * φ ≤ 4294967295 * 4294967295 := Nat.mul_le_mul (by omega) (by omega)
  exact this
theorem ap_step {f g : Nat → Int32} {a s j cy φ : Nat} (hinv : vN f a j + cy * 4294967296 ^ j = vN g a j + φ * vN g s j) :
    vN (upd f (a + j) (nI (cy + (wN (g (s + j)) * φ + wN (g (a + j)))))) a (j + 1) + (cy + (wN (g (s + j)) * φ + wN (g (a + j)))) / 4294967296 * 4294967296 ^ (j + 1) = vN g a (j + 1) + φ * vN g s (j + 1) := by
  rw [ch_add hinv, vN_sucA, vN_sucA, Nat.mul_add, Nat.add_mul]
  have e : φ * (wN (g (s + j)) * 4294967296 ^ j) = wN (g (s + j)) * φ * 4294967296 ^ j := by rw [← Nat.mul_assoc, Nat.mul_comm φ]
  omega
theorem lN_low {n : Nat} (h : n < 2 ^ 64) : lN n &&& 4294967295 = lN (n % 4294967296) := by
  apply Int64.toBitVec_inj.mp
  rw [Int64.toBitVec_and, lN_tb, lN_tb]
  apply BitVec.eq_of_toNat_eq
  show (BitVec.ofNat 64 n &&& 4294967295#64).toNat = _
  have e : n &&& 4294967295 = n % 4294967296 := Nat.and_two_pow_sub_one_eq_mod n 32
  rw [BitVec.toNat_and, BitVec.toNat_ofNat, BitVec.toNat_ofNat, BitVec.toNat_ofNat, Nat.mod_eq_of_lt h, show 4294967295 % 2 ^ 64 = 4294967295 from rfl, e]
  omega
/-- the sign of a long, as 0 or 1 -/
def ngN (y m : Nat) : Nat := if y < m then 1 else 0
theorem lZ_sign {y m : Nat} (hy : y < 4294967296) (hm : m < 4294967296) : ((lZ ((y : Int) - (m : Int))).toUInt64 >>> ((nI 63).toInt64.toUInt64 &&& Int64.toUInt64 63)).toInt64 = lN (ngN y m) := by
  unfold ngN
  by_cases h : y < m
  · rw [if_pos h]
    have e : lZ ((y : Int) - (m : Int)) = lN (2 ^ 64 - (m - y)) := by
      apply Int64.toBitVec_inj.mp
      apply BitVec.eq_of_toNat_eq
      show (BitVec.ofInt 64 ((y : Int) - (m : Int))).toNat = (BitVec.ofNat 64 (2 ^ 64 - (m - y))).toNat
      rw [BitVec.toNat_ofInt, BitVec.toNat_ofNat]
      omega
    rw [e, lN_shr (by omega) (by decide)]
    congr 1
    omega
  · rw [if_neg h, ← lZ_pm, lN_sub (by omega), lN_shr (by omega) (by decide)]
    congr 1
    omega
theorem lZ_dw {y m : Nat} (hy : y < 4294967296) (hm : m < 4294967296) : wN (lZ ((y : Int) - (m : Int))).toInt32 + m = y + ngN y m * 4294967296 := by
  have h := lZ_word (z := (y : Int) - (m : Int))
  unfold ngN
  by_cases q : y < m
  · rw [if_pos q]
    omega
  · rw [if_neg q]
    omega
theorem tp_step {f g : Nat → Int32} {a s j o φ : Nat} (hm : wN (g (s + j)) * φ ≤ 18446744065119617025) (ho : o < 4294967296) (hinv : vN f a j + φ * vN g s j = vN g a j + o * 4294967296 ^ j) :
    vN (upd f (a + j) (lZ ((wN (g (a + j)) : Int) - (((o + wN (g (s + j)) * φ) % 4294967296 : Nat) : Int))).toInt32) a (j + 1) + φ * vN g s (j + 1) = vN g a (j + 1) + ((o + wN (g (s + j)) * φ) / 4294967296 + ngN (wN (g (a + j))) ((o + wN (g (s + j)) * φ) % 4294967296)) * 4294967296 ^ (j + 1) := by
  have hd := lZ_dw (wN_lt (g (a + j))) (Nat.mod_lt (o + wN (g (s + j)) * φ) (by decide : 0 < 4294967296))
  rw [vN_push, vN_sucA g s, vN_sucA g a, Nat.pow_succ, Nat.mul_add]
  have h := Nat.div_add_mod (o + wN (g (s + j)) * φ) 4294967296
  have e1 : φ * (wN (g (s + j)) * 4294967296 ^ j) = wN (g (s + j)) * φ * 4294967296 ^ j := by rw [← Nat.mul_assoc, Nat.mul_comm φ]
  rw [e1]
  generalize wN (lZ ((wN (g (a + j)) : Int) - (((o + wN (g (s + j)) * φ) % 4294967296 : Nat) : Int))).toInt32 = d at *
  generalize ngN (wN (g (a + j))) ((o + wN (g (s + j)) * φ) % 4294967296) = b at *
  generalize wN (g (s + j)) * φ = X at *
  generalize (o + X) / 4294967296 = Y at *
  generalize (o + X) % 4294967296 = Z at *
  generalize wN (g (a + j)) = y at *
  generalize 4294967296 ^ j = P at *
  have e2 : (Y + b) * (P * 4294967296) = (4294967296 * Y + b * 4294967296) * P := by
    rw [Nat.mul_comm P, ← Nat.mul_assoc, Nat.add_mul, Nat.mul_comm Y]
  have e3 : (d + Z) * P = (y + b * 4294967296) * P := by rw [hd]
  have e4 : (4294967296 * Y + Z) * P = (o + X) * P := by rw [h]
  rw [e2]
  simp only [Nat.add_mul] at e3 e4 ⊢
  omega

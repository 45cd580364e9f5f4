/-! PIECES for the bench's row, 3 -/
/-- the first j of m words from a on -/
def vMA (f : Nat → Int32) (a m j : Nat) : Nat := vN f a (min j m)
theorem vMA_0 (f : Nat → Int32) (a m : Nat) : vMA f a m 0 = 0 := by unfold vMA; rw [Nat.zero_min]; rfl
theorem vMA_all {f : Nat → Int32} {a m j : Nat} (h : m ≤ j) : vMA f a m j = vN f a m := by
  unfold vMA
  rw [Nat.min_eq_right h]
theorem vMA_lt {f : Nat → Int32} {a m j : Nat} (h : j < m) : ((vMA f a m (j + 1) : Nat) : Int) = (vMA f a m j : Int) + (wN (f (a + j)) : Int) * 4294967296 ^ j := by
  unfold vMA
  rw [Nat.min_eq_left (by omega), Nat.min_eq_left (by omega), sbA_lt]
theorem vMA_ge {f : Nat → Int32} {a m j : Nat} (h : m ≤ j) : ((vMA f a m (j + 1) : Nat) : Int) = (vMA f a m j : Int) + ((0 : Nat) : Int) * 4294967296 ^ j := by
  unfold vMA
  rw [Nat.min_eq_right (by omega), Nat.min_eq_right h]
  omega
theorem ld_step {f : Nat → Int32} {a j : Nat} {o x y : Int} {V U V' U' : Nat} (hinv : (vN f a j : Int) + o * 4294967296 ^ j = (V : Int) - (U : Int)) (hV : (V' : Int) = (V : Int) + x * 4294967296 ^ j) (hU : (U' : Int) = (U : Int) + y * 4294967296 ^ j) :
    (vN (upd f (a + j) (lZ (o + (x - y))).toInt32) a (j + 1) : Int) + (o + (x - y)) / 4294967296 * 4294967296 ^ (j + 1) = (V' : Int) - (U' : Int) := by
  rw [ch_addZ hinv, hV, hU, Int.sub_mul]
  omega
theorem ld_pos {f : Nat → Int32} {a n V U : Nat} (h : (vN f a n : Int) + 0 * 4294967296 ^ n = (V : Int) - (U : Int)) : U ≤ V ∧ vN f a n = V - U := by omega
theorem ld_neg {f : Nat → Int32} {a n V U : Nat} (h : (vN f a n : Int) + -1 * 4294967296 ^ n = (V : Int) - (U : Int)) : V < U ∧ vN f a n + U = V + 4294967296 ^ n := by
  have h1 := vN_lt f a n
  have e : ((4294967296 ^ n : Nat) : Int) = (4294967296 : Int) ^ n := by rw [Int.natCast_pow]; rfl
  omega
theorem wN_not (x : Int32) : wN (x ^^^ -1) + wN x = 4294967295 := by
  have h : wN (x ^^^ -1) = 2 ^ 32 - 1 - wN x := by
    show (x.toBitVec ^^^ BitVec.allOnes 32).toNat = _
    rw [BitVec.xor_allOnes, BitVec.toNat_not]
    rfl
  have := wN_lt x
  omega
theorem ng_step {f h : Nat → Int32} {a j cy : Nat} (hinv : vN h a j + cy * 4294967296 ^ j + vN f a j = 4294967296 ^ j) :
    vN (upd h (a + j) (nI (cy + wN (f (a + j) ^^^ -1)))) a (j + 1) + (cy + wN (f (a + j) ^^^ -1)) / 4294967296 * 4294967296 ^ (j + 1) + vN f a (j + 1) = 4294967296 ^ (j + 1) := by
  have h1 := ch_add (f := h) (a := a) (i := j) (c := cy) (t := wN (f (a + j) ^^^ -1)) rfl
  have h2 := wN_not (f (a + j))
  have h3 : (wN (f (a + j) ^^^ -1) + wN (f (a + j))) * 4294967296 ^ j = 4294967295 * 4294967296 ^ j := by rw [h2]
  rw [Nat.add_mul] at h3
  rw [h1, vN_sucA, Nat.pow_succ]
  omega
theorem lm_step {f g : Nat → Int32} {a j up : Nat} {x y : Int32} (hup : up < 32) (hx : x = g j) (hinv : vN f a j + wN y * 2 ^ up / 4294967296 * 4294967296 ^ j = vN g 0 j * 2 ^ up) :
    vN (upd f (a + j) (upw up x y)) a (j + 1) + wN x * 2 ^ up / 4294967296 * 4294967296 ^ (j + 1) = vN g 0 (j + 1) * 2 ^ up := by
  rw [vN_push, wN_upw hup, vN_suc0, Nat.pow_succ, ← hx]
  have h := Nat.div_add_mod (wN x * 2 ^ up) 4294967296
  have e1 : (vN g 0 j + wN x * 4294967296 ^ j) * 2 ^ up = vN g 0 j * 2 ^ up + wN x * 2 ^ up * 4294967296 ^ j := by rw [Nat.add_mul, Nat.mul_right_comm]
  rw [e1]
  generalize wN x * 2 ^ up = X at *
  generalize wN y * 2 ^ up / 4294967296 = Y at *
  generalize 4294967296 ^ j = P at *
  have e2 : X / 4294967296 * (P * 4294967296) = 4294967296 * (X / 4294967296) * P := by rw [Nat.mul_comm P, ← Nat.mul_assoc, Nat.mul_comm (X / 4294967296)]
  have e3 : (4294967296 * (X / 4294967296) + X % 4294967296) * P = X * P := by rw [h]
  rw [e2]
  rw [Nat.add_mul] at e3 ⊢
  omega
theorem lm_top {up : Nat} (h : up < 32) (h0 : ¬ up = 0) (y : Int32) : wN (us y (32 - up)) = wN y * 2 ^ up / 4294967296 := by rw [wN_us y (by omega), div_pw (by omega)]
theorem sh_eq {b d : Nat} (hd : 0 < d) : b - b / 2 / d * 2 * d < 2 * d ∧ b / 2 / d * 2 * d ≤ b ∧ (b - b / 2 / d * 2 * d < d → b / d = b / 2 / d * 2) ∧ (¬ b - b / 2 / d * 2 * d < d → b / d = b / 2 / d * 2 + 1) := by
  have h1 := Nat.div_add_mod (b / 2) d
  have h2 := Nat.mod_lt (b / 2) hd
  have e : b / 2 / d * 2 * d = 2 * (d * (b / 2 / d)) := by rw [Nat.mul_right_comm, Nat.mul_comm, Nat.mul_comm d]
  generalize b / 2 / d = q at *
  have hb : b = q * 2 * d + (b - q * 2 * d) := by omega
  refine ⟨by omega, by omega, fun h => ?_, fun h => ?_⟩
  · exact ((rd_end (q := q * 2) (d := d) (r := b - q * 2 * d) hb.symm h).1).symm
  · refine ((rd_end (q := q * 2 + 1) (d := d) (r := b - q * 2 * d - d) ?_ (by omega)).1).symm
    rw [Nat.add_mul]
    omega

/-! NUMBERS: a word without its sign, the value of a part of a row, its laws (no machine in here) -/
/-- a word, taken without a sign -/
def wN (x : Int32) : Nat := x.toBitVec.toNat
theorem wN_lt (x : Int32) : wN x < 4294967296 := x.toBitVec.isLt
theorem wN_nI (n : Nat) : wN (nI n) = n % 4294967296 := by
  show (BitVec.ofNat 32 n).toNat = _
  rw [BitVec.toNat_ofNat]
theorem nI_wN (x : Int32) : nI (wN x) = x := by
  apply Int32.toBitVec_inj.mp
  show BitVec.ofNat 32 x.toBitVec.toNat = x.toBitVec
  simp
theorem wN_inj {x y : Int32} (h : wN x = wN y) : x = y := by rw [← nI_wN x, ← nI_wN y, h]
theorem wN_0 : wN 0 = 0 := by decide
theorem wN_eq0 {x : Int32} : wN x = 0 ↔ x = 0 := ⟨fun h => wN_inj (h.trans wN_0.symm), fun h => by rw [h]; exact wN_0⟩
/-- the value of n words of f from a on, the lowest first -/
def vN (f : Nat → Int32) (a : Nat) : Nat → Nat
  | 0 => 0
  | n + 1 => vN f a n + wN (f (a + n)) * 4294967296 ^ n
theorem vN_0 (f : Nat → Int32) (a : Nat) : vN f a 0 = 0 := rfl
theorem vN_succ (f : Nat → Int32) (a n : Nat) : vN f a (n + 1) = vN f a n + wN (f (a + n)) * 4294967296 ^ n := rfl
theorem vN_lt (f : Nat → Int32) (a n : Nat) : vN f a n < 4294967296 ^ n := by
  induction n with
  | zero => exact Nat.one_pos
  | succ n ih =>
    rw [vN_succ, Nat.pow_succ]
    have h := wN_lt (f (a + n))
    have h2 : (wN (f (a + n)) + 1) * 4294967296 ^ n ≤ 4294967296 * 4294967296 ^ n := Nat.mul_le_mul_right _ h
    rw [Nat.add_mul, Nat.one_mul] at h2
    rw [Nat.mul_comm (4294967296 ^ n)]
    omega
theorem vN_congr {f g : Nat → Int32} {a b n : Nat} (h : ∀ i, i < n → f (a + i) = g (b + i)) : vN f a n = vN g b n := by
  induction n with
  | zero => rfl
  | succ n ih => rw [vN_succ, vN_succ, ih (fun i hi => h i (by omega)), h n (by omega)]
theorem vN_add (f : Nat → Int32) (a n k : Nat) : vN f a (n + k) = vN f a n + 4294967296 ^ n * vN f (a + n) k := by
  induction k with
  | zero => rw [vN_0, Nat.mul_zero, Nat.add_zero, Nat.add_zero]
  | succ k ih =>
    rw [← Nat.add_assoc, vN_succ, ih, vN_succ, Nat.mul_add, Nat.pow_add, Nat.add_assoc a n k]
    have : wN (f (a + (n + k))) * (4294967296 ^ n * 4294967296 ^ k) = 4294967296 ^ n * (wN (f (a + (n + k))) * 4294967296 ^ k) := by
      rw [Nat.mul_left_comm]
    omega
theorem vN_one (f : Nat → Int32) (a : Nat) : vN f a 1 = wN (f a) := by
  rw [vN_succ, vN_0, Nat.pow_zero, Nat.mul_one, Nat.zero_add, Nat.add_zero]
theorem vN_cons (f : Nat → Int32) (a n : Nat) : vN f a (n + 1) = wN (f a) + 4294967296 * vN f (a + 1) n := by
  rw [Nat.add_comm n 1, vN_add, vN_one, Nat.pow_one]
theorem vN_zero {f : Nat → Int32} {a n : Nat} (h : ∀ i, i < n → f (a + i) = 0) : vN f a n = 0 := by
  induction n with
  | zero => rfl
  | succ n ih => rw [vN_succ, ih (fun i hi => h i (by omega)), h n (by omega), wN_0, Nat.zero_mul]
theorem vN_eq0 {f : Nat → Int32} {a n : Nat} (h : vN f a n = 0) : ∀ i, i < n → f (a + i) = 0 := by
  induction n with
  | zero => intro i hi; omega
  | succ n ih =>
    rw [vN_succ] at h
    have h1 : vN f a n = 0 := by omega
    have h2 : wN (f (a + n)) * 4294967296 ^ n = 0 := by omega
    intro i hi
    rcases Nat.lt_or_ge i n with q | q
    · exact ih h1 i q
    · have : i = n := by omega
      subst this
      rcases Nat.mul_eq_zero.mp h2 with q | q
      · exact wN_eq0.mp q
      · exact absurd q (Nat.ne_of_gt (Nat.pow_pos (by decide)))
theorem vN_inj {f g : Nat → Int32} {a b n : Nat} (h : vN f a n = vN g b n) : ∀ i, i < n → f (a + i) = g (b + i) := by
  induction n with
  | zero => intro i hi; omega
  | succ n ih =>
    rw [vN_succ, vN_succ] at h
    have h1 := vN_lt f a n
    have h2 := vN_lt g b n
    have e1 : wN (f (a + n)) = wN (g (b + n)) := by
      have d1 : (vN f a n + wN (f (a + n)) * 4294967296 ^ n) / 4294967296 ^ n = wN (f (a + n)) := by
        rw [Nat.add_mul_div_right _ _ (Nat.pow_pos (by decide)), Nat.div_eq_of_lt h1, Nat.zero_add]
      have d2 : (vN g b n + wN (g (b + n)) * 4294967296 ^ n) / 4294967296 ^ n = wN (g (b + n)) := by
        rw [Nat.add_mul_div_right _ _ (Nat.pow_pos (by decide)), Nat.div_eq_of_lt h2, Nat.zero_add]
      rw [← d1, ← d2, h]
    rw [e1] at h
    have e2 : vN f a n = vN g b n := by omega
    intro i hi
    rcases Nat.lt_or_ge i n with q | q
    · exact ih e2 i q
    · have : i = n := by omega
      subst this
      exact wN_inj e1
/-- the highest word isn't 0: how large the value is at least -/
theorem vN_ge {f : Nat → Int32} {a n : Nat} (h : f (a + n) ≠ 0) : 4294967296 ^ n ≤ vN f a (n + 1) := by
  rw [vN_succ]
  have h1 : 1 ≤ wN (f (a + n)) := Nat.one_le_iff_ne_zero.mpr (fun q => h (wN_eq0.mp q))
  have h2 : 1 * 4294967296 ^ n ≤ wN (f (a + n)) * 4294967296 ^ n := Nat.mul_le_mul_right _ h1
  omega
theorem vN_top0 {f : Nat → Int32} {a n : Nat} (h : f (a + n) = 0) : vN f a (n + 1) = vN f a n := by
  rw [vN_succ, h, wN_0, Nat.zero_mul, Nat.add_zero]
/-- a store outside the part leaves its value -/
theorem vN_out {f : Nat → Int32} {a n k : Nat} {x : Int32} (h : k < a ∨ a + n ≤ k) : vN (upd f k x) a n = vN f a n :=
  vN_congr (fun i hi => pk_un (by omega))
/-- how many bits a number has -/
def nb (v : Nat) : Nat := if v = 0 then 0 else Nat.log2 v + 1
theorem nb_0 : nb 0 = 0 := rfl
theorem nb_lt (v : Nat) : v < 2 ^ nb v := by
  unfold nb
  split
  · omega
  · exact Nat.lt_log2_self
theorem nb_le {v : Nat} (h : v ≠ 0) : 2 ^ (nb v - 1) ≤ v := by
  unfold nb
  rw [if_neg h]
  exact Nat.log2_self_le h
theorem nb_pos {v : Nat} (h : v ≠ 0) : 1 ≤ nb v := by
  unfold nb
  rw [if_neg h]
  omega
theorem nb_eq {v k : Nat} (h1 : 2 ^ k ≤ v) (h2 : v < 2 ^ (k + 1)) : nb v = k + 1 := by
  have h0 : v ≠ 0 := by
    intro h
    rw [h] at h1
    exact absurd h1 (Nat.not_le.mpr (Nat.pow_pos (by decide)))
  have a1 := nb_lt v
  have a2 := nb_le h0
  have a3 := nb_pos h0
  have b1 : k < nb v := (Nat.pow_lt_pow_iff_right (by decide : 1 < 2)).mp (Nat.lt_of_le_of_lt h1 a1)
  have b2 : nb v - 1 < k + 1 := (Nat.pow_lt_pow_iff_right (by decide : 1 < 2)).mp (Nat.lt_of_le_of_lt a2 h2)
  omega
theorem nb_le_iff {v k : Nat} : nb v ≤ k ↔ v < 2 ^ k := by
  constructor
  · intro h
    exact Nat.lt_of_lt_of_le (nb_lt v) (Nat.pow_le_pow_right (by decide) h)
  · intro h
    rcases Nat.eq_zero_or_pos v with q | q
    · rw [q]; exact Nat.zero_le _
    · have a2 := nb_le (Nat.ne_of_gt q)
      have a3 := nb_pos (Nat.ne_of_gt q)
      have b2 : nb v - 1 < k := (Nat.pow_lt_pow_iff_right (by decide : 1 < 2)).mp (Nat.lt_of_le_of_lt a2 h)
      omega
/-- the bits of a row's value by those of its highest word -/
theorem nb_vN {f : Nat → Int32} {a n : Nat} (h : f (a + n) ≠ 0) : nb (vN f a (n + 1)) = 32 * n + nb (wN (f (a + n))) := by
  have h0 : wN (f (a + n)) ≠ 0 := fun q => h (wN_eq0.mp q)
  have l1 := vN_lt f a n
  have hp : (4294967296 : Nat) ^ n = 2 ^ (32 * n) := by rw [Nat.pow_mul]
  have a1 := nb_lt (wN (f (a + n)))
  have a2 := nb_le h0
  have a3 := nb_pos h0
  have e : 32 * n + nb (wN (f (a + n))) = (32 * n + (nb (wN (f (a + n))) - 1)) + 1 := by omega
  rw [e]
  apply nb_eq
  · rw [vN_succ, hp, Nat.pow_add, Nat.mul_comm]
    have := Nat.mul_le_mul_right (2 ^ (32 * n)) a2
    omega
  · rw [vN_succ, hp]
    rw [hp] at l1
    have e2 : 32 * n + (nb (wN (f (a + n))) - 1) + 1 = nb (wN (f (a + n))) + 32 * n := by omega
    rw [e2, Nat.pow_add]
    have := Nat.mul_le_mul_right (2 ^ (32 * n)) (show wN (f (a + n)) + 1 ≤ 2 ^ nb (wN (f (a + n))) from a1)
    rw [Nat.add_mul, Nat.one_mul] at this
    omega
/-- a word masked in a long: its number -/
theorem lw_low (x : Int32) : x.toInt64 &&& 4294967295 = lN (wN x) := by
  apply Int64.toBitVec_inj.mp
  apply BitVec.eq_of_toNat_eq
  show (x.toInt64.toBitVec &&& 4294967295#64).toNat = (BitVec.ofNat 64 (wN x)).toNat
  have h1 : x.toInt64.toBitVec = x.toBitVec.signExtend 64 := rfl
  have h2 : wN x = x.toBitVec.toNat := rfl
  have h3 := wN_lt x
  rw [BitVec.toNat_and, show (4294967295#64).toNat = 2 ^ 32 - 1 from by decide, Nat.and_two_pow_sub_one_eq_mod, BitVec.toNat_ofNat, h1, BitVec.toNat_signExtend, BitVec.toNat_setWidth, ← h2]
  split <;> omega
theorem lw_low2 (x : Int32) : lN 4294967295 &&& x.toInt64 = lN (wN x) := by
  rw [← lw_low x]
  exact Int64.toBitVec_inj.mp (BitVec.and_comm _ _)

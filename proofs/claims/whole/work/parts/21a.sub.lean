/-! PIECES for subtraction -/
theorem lZ_pm {a b : Nat} : lN a - lN b = lZ ((a : Int) - (b : Int)) := by rw [lZ_N, lZ_N, lZ_sub]
theorem lZ_z (a : Nat) : lN a - lN 0 = lZ ((a : Int) - ((0 : Nat) : Int)) := lZ_pm
theorem lZ_0 : lN 0 = lZ 0 := lZ_N 0
theorem NV.le_len {w : St} {a b v u : Nat} (hv : NV w a v) (hu : NV w b u) (h : u ≤ v) : sL w b ≤ sL w a := by
  rcases Nat.lt_or_ge (sL w a) (sL w b) with q | q
  · have h1 := hu.ge (by omega)
    have h2 := hv.lt
    have h3 : (4294967296 : Nat) ^ sL w a ≤ 4294967296 ^ (sL w b - 1) := Nat.pow_le_pow_right (by decide) (by omega)
    omega
  · exact q
/-- one step of a subtraction: the values so far -/
theorem sb_step {f g h : Nat → Int32} {m j : Nat} {o x y : Int} {V U : Nat} (hinv : (vN f 0 j : Int) + o * 4294967296 ^ j = (V : Int) - (U : Int)) {V' U' : Nat} (hV : (V' : Int) = (V : Int) + x * 4294967296 ^ j) (hU : (U' : Int) = (U : Int) + y * 4294967296 ^ j) :
    (vN (upd f j (lZ (o + (x - y))).toInt32) 0 (j + 1) : Int) + (o + (x - y)) / 4294967296 * 4294967296 ^ (j + 1) = (V' : Int) - (U' : Int) := by
  rw [ch_addZ0 hinv, hV, hU, Int.sub_mul]
  omega
theorem sb_lt (f : Nat → Int32) (j : Nat) : ((vN f 0 (j + 1) : Nat) : Int) = (vN f 0 j : Int) + (wN (f j) : Int) * 4294967296 ^ j := by
  rw [vN_suc0, Int.natCast_add, Int.natCast_mul, Int.natCast_pow]
  rfl
theorem sb_Mlt {f : Nat → Int32} {m j : Nat} (h : j < m) : ((vM f m (j + 1) : Nat) : Int) = (vM f m j : Int) + (wN (f j) : Int) * 4294967296 ^ j := by
  rw [vM_lt h, Int.natCast_add, Int.natCast_mul, Int.natCast_pow]
  rfl
theorem sb_Mge {f : Nat → Int32} {m j : Nat} (h : m ≤ j) : ((vM f m (j + 1) : Nat) : Int) = (vM f m j : Int) + ((0 : Nat) : Int) * 4294967296 ^ j := by
  rw [vM_ge h]
  omega
theorem sb_end {n V U : Nat} {f : Nat → Int32} {o : Int} (ho : o = 0 ∨ o = -1) (h : (vN f 0 n : Int) + o * 4294967296 ^ n = (V : Int) - (U : Int)) (hUV : U ≤ V) : vN f 0 n = V - U := by
  have h1 := vN_lt f 0 n
  have h2 : ((vN f 0 n : Nat) : Int) < (4294967296 : Int) ^ n := by
    have := Int.ofNat_lt.mpr h1
    rw [Int.natCast_pow] at this
    exact this
  rcases ho with e | e
  · rw [e] at h
    omega
  · rw [e] at h
    omega

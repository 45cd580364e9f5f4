/-! PIECES for the bench's row, 2 -/
theorem ix_sh (a s j : Nat) : nI (a + j) + (nI s - nI a) = nI (s + j) := by
  have h : nI (a + j) = nI a + nI j := (nI_add a j).symm
  rw [h, Int32.add_comm (nI a), Int32.add_assoc, Int32.add_comm (nI a) (nI s - nI a), Int32.sub_add_cancel, nI_add, Nat.add_comm]
theorem so.ge {f g : Nat → Int32} {a j : Nat} (h : so f g a j) : ∀ q, a + j ≤ q → f q = g q := fun q hq => h q (Or.inr hq)
theorem vN_tailA {f g : Nat → Int32} {a j n : Nat} (hj : j ≤ n) (h : ∀ q, a + j ≤ q → f q = g q) {x y : Nat} (he : vN f a j + x = vN g a j + y) : vN f a n + x = vN g a n + y := by
  obtain ⟨d, rfl⟩ : ∃ d, n = j + d := ⟨n - j, by omega⟩
  rw [vN_add f a j d, vN_add g a j d, vN_congr (f := f) (g := g) (a := a + j) (b := a + j) (n := d) (fun i hi => h _ (by omega))]
  omega
theorem ai_step {f g : Nat → Int32} {a s j cy : Nat} (hinv : vN f a j + cy * 4294967296 ^ j = vN g a j + vN g s j) :
    vN (upd f (a + j) (nI (cy + (wN (g (a + j)) + wN (g (s + j)))))) a (j + 1) + (cy + (wN (g (a + j)) + wN (g (s + j)))) / 4294967296 * 4294967296 ^ (j + 1) = vN g a (j + 1) + vN g s (j + 1) := by
  rw [ch_add hinv, vN_sucA, vN_sucA, Nat.add_mul]
  omega
theorem ai_step2 {f g : Nat → Int32} {a j cy U : Nat} (hinv : vN f a j + cy * 4294967296 ^ j = vN g a j + U) :
    vN (upd f (a + j) (nI (cy + wN (g (a + j))))) a (j + 1) + (cy + wN (g (a + j))) / 4294967296 * 4294967296 ^ (j + 1) = vN g a (j + 1) + U := by
  rw [ch_add hinv, vN_sucA]
  omega
theorem sbA_lt (f : Nat → Int32) (a j : Nat) : ((vN f a (j + 1) : Nat) : Int) = (vN f a j : Int) + (wN (f (a + j)) : Int) * 4294967296 ^ j := by
  rw [vN_sucA, Int.natCast_add, Int.natCast_mul, Int.natCast_pow]
  rfl
theorem tf_step {f g : Nat → Int32} {a s j : Nat} {o : Int} (hinv : (vN f a j : Int) + o * 4294967296 ^ j = (vN g a j : Int) - (vN g s j : Int)) :
    (vN (upd f (a + j) (lZ (o + ((wN (g (a + j)) : Int) - (wN (g (s + j)) : Int)))).toInt32) a (j + 1) : Int) + (o + ((wN (g (a + j)) : Int) - (wN (g (s + j)) : Int))) / 4294967296 * 4294967296 ^ (j + 1) = (vN g a (j + 1) : Int) - (vN g s (j + 1) : Int) := by
  rw [ch_addZ hinv, sbA_lt, sbA_lt, Int.sub_mul]
  omega
theorem tf_step2 {f g : Nat → Int32} {a j U : Nat} {o : Int} (hinv : (vN f a j : Int) + o * 4294967296 ^ j = (vN g a j : Int) - (U : Int)) :
    (vN (upd f (a + j) (lZ (o + (wN (g (a + j)) : Int))).toInt32) a (j + 1) : Int) + (o + (wN (g (a + j)) : Int)) / 4294967296 * 4294967296 ^ (j + 1) = (vN g a (j + 1) : Int) - (U : Int) := by
  rw [ch_addZ hinv, sbA_lt]
  omega
theorem lZ_addN (z : Int) (n : Nat) : lZ z + lN n = lZ (z + (n : Int)) := by rw [lZ_N, lZ_add]
/-- what is owed, as 0 or 1 -/
def ow (o : Int) : Nat := if o = 0 then 0 else 1
theorem ow_le (o : Int) : ow o ≤ 1 := by unfold ow; split <;> omega
theorem ow_neg {o : Int} (h : o = 0 ∨ o = -1) : (-(lZ o)).toInt32 = nI (ow o) := by
  rcases h with e | e <;> subst e <;> decide
theorem ow_ne {o : Int} (h : o = 0 ∨ o = -1) (hz : lZ o = lN 0) : o = 0 := by
  rcases h with e | e
  · exact e
  · subst e
    exact absurd hz (by decide)
theorem ow_end {f g : Nat → Int32} {a n U : Nat} {o : Int} (ho : o = 0 ∨ o = -1) (h : (vN f a n : Int) + o * 4294967296 ^ n = (vN g a n : Int) - (U : Int)) : vN f a n + U = vN g a n + ow o * 4294967296 ^ n := by
  have e : ((ow o * 4294967296 ^ n : Nat) : Int) = -(o * 4294967296 ^ n) := by
    rw [Int.natCast_mul, Int.natCast_pow]
    rcases ho with q | q <;> subst q
    · show (0 : Int) * _ = _
      omega
    · show (1 : Int) * (4294967296 : Int) ^ n = _
      omega
  omega
theorem ow_tail {f g : Nat → Int32} {a j n U : Nat} (hj : j ≤ n) (hs : so f g a j) (h : (vN f a j : Int) + 0 * 4294967296 ^ j = (vN g a j : Int) - (U : Int)) : vN f a n + U = vN g a n + 0 := by
  have h2 : vN f a j + U = vN g a j + 0 := by omega
  exact vN_tailA hj hs.ge h2
theorem t1_eq {x : Int32} (h : x - nI 1 = -1) : x = 0 := by
  have := congrArg (fun z => z + nI 1) h
  simp only [Int32.sub_add_cancel] at this
  rw [this]
  decide
theorem t1_step0 {f g : Nat → Int32} {a j : Nat} (hinv : vN f a j + 1 = vN g a j + 4294967296 ^ j) (hx : g (a + j) - nI 1 = -1) : vN (upd f (a + j) (g (a + j) - nI 1)) a (j + 1) + 1 = vN g a (j + 1) + 4294967296 ^ (j + 1) := by
  rw [vN_push, vN_sucA, hx, t1_eq hx, wN_neg1, wN_0, Nat.pow_succ]
  omega
theorem t1_step1 {f g : Nat → Int32} {a j n : Nat} (hj : j + 1 ≤ n) (hs : so f g a j) (hinv : vN f a j + 1 = vN g a j + 4294967296 ^ j) (hx : ¬ g (a + j) - nI 1 = -1) : vN (upd f (a + j) (g (a + j) - nI 1)) a n + 1 = vN g a n + 0 := by
  have h0 : g (a + j) ≠ 0 := fun q => hx (by rw [q]; decide)
  refine vN_tailA (j := j + 1) hj (so_upd hs).ge ?_
  have h7 := wN_dec h0
  rw [vN_push, vN_sucA]
  generalize wN (g (a + j) - nI 1) = z at *
  rw [← h7, Nat.add_mul]
  omega
theorem dn_lexA {f g : Nat → Int32} {a b L k : Nat} (hk : k < L) (he : ∀ j, k < j → j < L → f (a + j) = g (b + j)) (h : wN (f (a + k)) < wN (g (b + k))) : vN f a L < vN g b L := by
  have := dn_lex (f := fun j => f (a + j)) (g := fun j => g (b + j)) hk he h
  rw [vN_congr (f := f) (g := fun j => f (a + j)) (a := a) (b := 0) (n := L) (fun i hi => by rw [Nat.zero_add]), vN_congr (f := g) (g := fun j => g (b + j)) (a := b) (b := 0) (n := L) (fun i hi => by rw [Nat.zero_add])]
  exact this

/-! WHAT THE CALLS ANSWER: ten numbers, a tape, an out -/
abbrev Ab : Type := (Nat → Nat) × (Nat → Int32) × Nat × (Nat → Int32) × Nat
def aG (A : Ab) : Nat → Nat := A.1
def aT (A : Ab) : Nat → Int32 := A.2.1
def aN (A : Ab) : Nat := A.2.2.1
def aO (A : Ab) : Nat → Int32 := A.2.2.2.1
def aM (A : Ab) : Nat := A.2.2.2.2
def pG (A : Ab) (i v : Nat) : Ab := (fun j => if j = i then v else A.1 j, A.2)
def pN (A : Ab) (n : Nat) : Ab := (A.1, A.2.1, n, A.2.2.2)
abbrev rg (x : Int32) : Prop := nI 0 ≤ x ∧ x ≤ nI 9
abbrev Rs : Type := Nat × Int32 × Ab
/-- a byte as a digit; 36: none -/
def dgN (x : Int32) : Nat := if 48 ≤ wN x ∧ wN x ≤ 57 then wN x - 48 else if 97 ≤ wN x ∧ wN x ≤ 122 then wN x - 87 else if 65 ≤ wN x ∧ wN x ≤ 90 then wN x - 55 else 36
/-- the first k digits' value -/
def rdv (b : Nat) (T : Nat → Int32) : Nat → Nat
  | 0 => 0
  | k + 1 => rdv b T k * b + dgN (T k)
/-- how many digits -/
def ndg (b v : Nat) : Nat := if _h : 2 ≤ b ∧ b ≤ v then ndg b (v / b) + 1 else 1
termination_by v
decreasing_by exact Nat.div_lt_self (by omega) (by omega)
def chr9 (d : Nat) : Int32 := if d < 10 then nI (48 + d) else nI (87 + d)
noncomputable def rootN (v n : Nat) : Nat := if h : 1 ≤ n then Classical.choose (root_ex n h v) else 0
theorem rootN_is {v n : Nat} (h : 1 ≤ n) : isRoot v n (rootN v n) := by
  unfold rootN
  rw [dif_pos h]
  exact Classical.choose_spec (root_ex n h v)
theorem rootN_eq {v n r : Nat} (h : 1 ≤ n) (hr : isRoot v n r) : r = rootN v n := root_uniq hr (rootN_is h) h
def shv (v : Nat) (n : Int32) : Nat := if nI 0 ≤ n then v * 2 ^ wN n else v / 2 ^ wN (-n)
def byt (x : Int32) (k : Nat) : Int32 := vp_nar .byte (x >>> (nI (24 - 8 * k) &&& 31))
def fdT (A : Ab) (a b c d e : Int32) : Nat → Int32 := fun j => if j < aN A then aT A j else byt (if j - aN A < 4 then a else if j - aN A < 8 then b else if j - aN A < 12 then c else if j - aN A < 16 then d else e) ((j - aN A) % 4)
def sp_set (x : Int32) (v : Int64) (A : Ab) : Rs := if rg x then (0, nI (nb (uL v)), pG A (wN x) (uL v)) else (1, 0, A)
def sp_copy (x a : Int32) (A : Ab) : Rs := if rg x ∧ rg a then (0, nI (nb (aG A (wN a))), pG A (wN x) (aG A (wN a))) else (1, 0, A)
def sp_shift (x a n : Int32) (A : Ab) : Rs := if rg x ∧ rg a ∧ -200000 ≤ n ∧ n ≤ 200000 then (if 200000 < nb (shv (aG A (wN a)) n) then (2, 0, A) else (0, nI (nb (shv (aG A (wN a)) n)), pG A (wN x) (shv (aG A (wN a)) n))) else (1, 0, A)
def sp_add (x a b : Int32) (A : Ab) : Rs := if rg x ∧ rg a ∧ rg b then (if 200000 < nb (aG A (wN a) + aG A (wN b)) then (2, 0, A) else (0, nI (nb (aG A (wN a) + aG A (wN b))), pG A (wN x) (aG A (wN a) + aG A (wN b)))) else (1, 0, A)
def sp_subtract (x a b : Int32) (A : Ab) : Rs := if rg x ∧ rg a ∧ rg b then (if aG A (wN a) < aG A (wN b) then (2, 0, A) else (0, nI (nb (aG A (wN a) - aG A (wN b))), pG A (wN x) (aG A (wN a) - aG A (wN b)))) else (1, 0, A)
def sp_times (x a b : Int32) (A : Ab) : Rs := if rg x ∧ rg a ∧ rg b then (if 200000 < nb (aG A (wN a)) + nb (aG A (wN b)) then (2, 0, A) else (0, nI (nb (aG A (wN a) * aG A (wN b))), pG A (wN x) (aG A (wN a) * aG A (wN b)))) else (1, 0, A)
def sp_divide (x y a b : Int32) (A : Ab) : Rs := if rg x ∧ rg y ∧ rg a ∧ rg b then (if aG A (wN b) = 0 then (2, 0, A) else (0, nI (nb (aG A (wN a) / aG A (wN b))), pG (pG A (wN x) (aG A (wN a) / aG A (wN b))) (wN y) (aG A (wN a) % aG A (wN b)))) else (1, 0, A)
def sp_power (x a n : Int32) (A : Ab) : Rs := if rg x ∧ rg a ∧ nI 0 ≤ n ∧ n ≤ nI 100 then (if 200000 < wN n * nb (aG A (wN a)) then (2, 0, A) else (0, nI (nb (aG A (wN a) ^ wN n)), pG A (wN x) (aG A (wN a) ^ wN n))) else (1, 0, A)
noncomputable def sp_root (x a n : Int32) (A : Ab) : Rs := if rg x ∧ rg a ∧ nI 1 ≤ n ∧ n ≤ nI 40 then (0, nI (nb (rootN (aG A (wN a)) (wN n))), pG A (wN x) (rootN (aG A (wN a)) (wN n))) else (1, 0, A)
def sp_compare (a b : Int32) (A : Ab) : Rs := if rg a ∧ rg b then (0, cmpN (aG A (wN a)) (aG A (wN b)), A) else (1, 0, A)
def sp_bits (a : Int32) (A : Ab) : Rs := if rg a then (0, nI (nb (aG A (wN a))), A) else (1, 0, A)
def sp_word (a k : Int32) (A : Ab) : Nat × Int64 × Ab := if rg a ∧ nI 0 ≤ k ∧ k ≤ nI 6249 then (0, lN (aG A (wN a) / 4294967296 ^ wN k % 4294967296), A) else (1, 0, A)
def sp_feed (a b c d e : Int32) (A : Ab) : Rs := if aN A + 20 ≤ 4096 then (0, 0, (A.1, fdT A a b c d e, aN A + 20, A.2.2.2)) else (1, 0, A)
def sp_end (n : Int32) (A : Ab) : Rs := if nI 0 ≤ n ∧ n ≤ nI (aN A) then (0, nI (aN A - wN n), pN A (wN n)) else (1, 0, A)
def okd (b : Nat) (T : Nat → Int32) (n : Nat) : Bool := (List.range n).all (fun j => decide (dgN (T j) < b))
def sp_read (x b : Int32) (A : Ab) : Rs := if rg x ∧ nI 2 ≤ b ∧ b ≤ nI 36 then (if okd (wN b) (aT A) (aN A) = true then (0, nI (nb (rdv (wN b) (aT A) (aN A))), pG (pN A 0) (wN x) (rdv (wN b) (aT A) (aN A))) else (2, 0, pN A 0)) else (1, 0, A)
def sp_write (a b : Int32) (A : Ab) : Rs := if rg a ∧ nI 2 ≤ b ∧ b ≤ nI 36 then (if 20000 < ndg (wN b) (aG A (wN a)) then (2, 0, A) else (0, nI (ndg (wN b) (aG A (wN a))), (A.1, A.2.1, A.2.2.1, fun j => chr9 (aG A (wN a) / wN b ^ (ndg (wN b) (aG A (wN a)) - 1 - j) % wN b), ndg (wN b) (aG A (wN a))))) else (1, 0, A)
def sp_octet (k : Int32) (A : Ab) : Rs := if nI 0 ≤ k ∧ k < nI (aM A) then (0, aO A (wN k), A) else (1, 0, A)
/-- the class's world holds them -/
def CI (w : St) (A : Ab) : Prop := (∀ i, i < 10 → NV w i (aG A i) ∧ nb (aG A i) ≤ 200000) ∧ (sA w = aN A ∧ aN A ≤ 4096 ∧ ∀ j, j < aN A → sT w j = aT A j) ∧ (sB w = aM A ∧ aM A ≤ 20000 ∧ ∀ j, j < aM A → sO w j = aO A j)
theorem CI.reg {w : St} {A : Ab} (h : CI w A) {i : Nat} (hi : i < 10) : NV w i (aG A i) := (h.1 i hi).1
theorem CI.bits {w : St} {A : Ab} (h : CI w A) {i : Nat} (hi : i < 10) : nb (aG A i) ≤ 200000 := (h.1 i hi).2
theorem CI.same {w w1 : St} {A : Ab} {p : List Nat} (h : CI w A) (hE : eqB w w1 p) (hp : ∀ j, j ∈ p → 10 ≤ j) : CI w1 A := by
  have e := hE.2
  have eT : sT w1 = sT w := by show w1.2.2.2.2.1 = w.2.2.2.2.1; rw [e]
  have eO : sO w1 = sO w := by show w1.2.2.2.2.2.1 = w.2.2.2.2.2.1; rw [e]
  have eA : sA w1 = sA w := by show w1.2.2.2.2.2.2.1 = w.2.2.2.2.2.2.1; rw [e]
  have eB : sB w1 = sB w := by show w1.2.2.2.2.2.2.2 = w.2.2.2.2.2.2.2; rw [e]
  refine ⟨fun i hi => ⟨hE.nv (fun z => by have := hp i z; omega) (h.reg hi), h.bits hi⟩, ?_, ?_⟩
  · rw [eA, eT]; exact h.2.1
  · rw [eB, eO]; exact h.2.2
theorem CI.put {w w1 : St} {A : Ab} {p : List Nat} {i v : Nat} (h : CI w A) (hE : eqB w w1 p) (hp : ∀ j, j ∈ p → j = i ∨ 10 ≤ j) (hV : NV w1 i v) (hb : nb v ≤ 200000) : CI w1 (pG A i v) := by
  have e := hE.2
  have eT : sT w1 = sT w := by show w1.2.2.2.2.1 = w.2.2.2.2.1; rw [e]
  have eO : sO w1 = sO w := by show w1.2.2.2.2.2.1 = w.2.2.2.2.2.1; rw [e]
  have eA : sA w1 = sA w := by show w1.2.2.2.2.2.2.1 = w.2.2.2.2.2.2.1; rw [e]
  have eB : sB w1 = sB w := by show w1.2.2.2.2.2.2.2 = w.2.2.2.2.2.2.2; rw [e]
  refine ⟨fun j hj => ?_, ?_, ?_⟩
  · by_cases q : j = i
    · subst q
      rw [show aG (pG A j v) j = v from if_pos rfl]
      exact ⟨hV, hb⟩
    · rw [show aG (pG A i v) j = aG A j from if_neg q]
      exact ⟨hE.nv (fun z => by have := hp j z; omega) (h.reg hj), h.bits hj⟩
  · rw [eA, eT]; exact h.2.1
  · rw [eB, eO]; exact h.2.2
theorem wN_small {i : Nat} (h : i < 4294967296) : wN (nI i) = i := by rw [wN_nI, Nat.mod_eq_of_lt h]
theorem rg_nI {i : Nat} (h : i < 10) : rg (nI i) := ⟨(nI_leI (by omega) (by omega)).mpr (by omega), (nI_leI (by omega) (by omega)).mpr (by omega)⟩
theorem rng_ix {x : Int32} {a b : Nat} (hb : b < 2 ^ 31) (h1 : nI a ≤ x) (h2 : x ≤ nI b) (ha : a < 2 ^ 31) : ∃ i, a ≤ i ∧ i ≤ b ∧ x = nI i := by
  refine ⟨wN x, ?_, ?_, (nI_wN x).symm⟩
  all_goals
    have e1 := Int32.le_iff_toInt_le.mp h1
    have e2 := Int32.le_iff_toInt_le.mp h2
    rw [nI_iZ, iZ_toInt (by omega) (by omega)] at e1
    rw [nI_iZ, iZ_toInt (by omega) (by omega)] at e2
    have e5 : (wN x : Int) = x.toInt ∨ (wN x : Int) = x.toInt + 4294967296 := by
      show ((x.toBitVec.toNat : Nat) : Int) = x.toBitVec.toInt ∨ ((x.toBitVec.toNat : Nat) : Int) = x.toBitVec.toInt + 4294967296
      rw [BitVec.toInt_eq_toNat_cond]
      have := x.toBitVec.isLt
      split <;> omega
    have e6 := wN_lt x
    omega
theorem rng_no1 {x : Int32} {a b : Nat} (ha : a < 2 ^ 31) (hb : b < 2 ^ 31) (h : x < nI a) : ¬ (a ≤ wN x ∧ wN x ≤ b) := fun q => by
  have : nI a ≤ nI (wN x) := (nI_leI (by omega) (by omega)).mpr q.1
  rw [nI_wN] at this
  exact absurd h (Int32.not_lt.mpr this)
theorem rng_no2 {x : Int32} {a b : Nat} (hb : b < 2 ^ 31) (h : nI b < x) : ¬ (a ≤ wN x ∧ wN x ≤ b) := fun q => by
  have : nI (wN x) ≤ nI b := (nI_leI (by omega) (by omega)).mpr q.2
  rw [nI_wN] at this
  exact absurd h (Int32.not_lt.mpr this)
theorem dgN_le (x : Int32) : dgN x ≤ 36 := by
  unfold dgN
  split
  · omega
  · split
    · omega
    · split <;> omega

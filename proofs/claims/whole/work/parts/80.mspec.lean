/-! WHAT THE REFERENCE'S CALLS ANSWER: the same words as the class's -/
def MI (w : Mt) (A : Ab) : Prop := W3 w ∧ (∀ i, i < 10 → NU w i (aG A i) ∧ nb (aG A i) ≤ 200000) ∧ (mA w = aN A ∧ aN A ≤ 4096 ∧ ∀ j, j < aN A → mT w j = aT A j) ∧ (mB w = aM A ∧ aM A ≤ 20000 ∧ ∀ j, j < aM A → mO w j = aO A j)
theorem MI.reg {w : Mt} {A : Ab} (h : MI w A) {i : Nat} (hi : i < 10) : NU w i (aG A i) := (h.2.1 i hi).1
theorem MI.bits {w : Mt} {A : Ab} (h : MI w A) {i : Nat} (hi : i < 10) : nb (aG A i) ≤ 200000 := (h.2.1 i hi).2
theorem MI.w3 {w : Mt} {A : Ab} (h : MI w A) : W3 w := h.1
theorem eqM.X {w w1 : Mt} {p : List Nat} (h : eqM w w1 p) : mX w1 = mX w := by show w1.2.2.2.2.2.2 = w.2.2.2.2.2.2; rw [h.2]
theorem eqM.A {w w1 : Mt} {p : List Nat} (h : eqM w w1 p) : mA w1 = mA w := by show w1.2.2.2.2.1 = w.2.2.2.2.1; rw [h.2]
theorem eqM.T {w w1 : Mt} {p : List Nat} (h : eqM w w1 p) : mT w1 = mT w := by show w1.2.2.1 = w.2.2.1; rw [h.2]
theorem eqM.O {w w1 : Mt} {p : List Nat} (h : eqM w w1 p) : mO w1 = mO w := by show w1.2.2.2.1 = w.2.2.2.1; rw [h.2]
theorem eqM.B {w w1 : Mt} {p : List Nat} (h : eqM w w1 p) : mB w1 = mB w := by show w1.2.2.2.2.2.1 = w.2.2.2.2.2.1; rw [h.2]
theorem MI.same {w w1 : Mt} {A : Ab} {p : List Nat} (h : MI w A) (hE : eqM w w1 p) (h3 : W3 w1) (hp : ∀ j, j ∈ p → 10 ≤ j) : MI w1 A := by
  refine ⟨h3, fun i hi => ⟨hE.nu (fun z => by have := hp i z; omega) (h.reg hi), h.bits hi⟩, ?_, ?_⟩
  · rw [hE.A, hE.T]; exact h.2.2.1
  · rw [hE.B, hE.O]; exact h.2.2.2
theorem MI.put {w w1 : Mt} {A : Ab} {p : List Nat} {i v : Nat} (h : MI w A) (hE : eqM w w1 p) (h3 : W3 w1) (hp : ∀ j, j ∈ p → j = i ∨ 10 ≤ j) (hV : NU w1 i v) (hb : nb v ≤ 200000) : MI w1 (pG A i v) := by
  refine ⟨h3, fun j hj => ?_, ?_, ?_⟩
  · by_cases q : j = i
    · subst q
      rw [show aG (pG A j v) j = v from if_pos rfl]
      exact ⟨hV, hb⟩
    · rw [show aG (pG A i v) j = aG A j from if_neg q]
      exact ⟨hE.nu (fun z => by have := hp j z; omega) (h.reg hj), h.bits hj⟩
  · rw [hE.A, hE.T]; exact h.2.2.1
  · rw [hE.B, hE.O]; exact h.2.2.2
def okm (X : Nat) (R : Rs) (r : Int32) (u : Mt) : Prop := ∃ A', MI u A' ∧ mX u = X ∧ R = (0, r, A')
def thm9 (R : Rs) (e1 e2 : String) (E : String) (u : Mt) : Prop := ∃ A', MI u A' ∧ ((E = e1 ∧ R = (1, 0, A')) ∨ (E = e2 ∧ R = (2, 0, A')))
def okml (X : Nat) (R : Nat × Int64 × Ab) (r : Int64) (u : Mt) : Prop := ∃ A', MI u A' ∧ mX u = X ∧ R = (0, r, A')
def thml (R : Nat × Int64 × Ab) (e1 e2 : String) (E : String) (u : Mt) : Prop := ∃ A', MI u A' ∧ ((E = e1 ∧ R = (1, 0, A')) ∨ (E = e2 ∧ R = (2, 0, A')))
theorem one10 {a j : Nat} (ha : 10 ≤ a) (hj : j ∈ [a]) : 10 ≤ j := by rw [List.mem_singleton.mp hj]; exact ha
theorem one_i {i j : Nat} (hj : j ∈ [i]) : j = i ∨ 10 ≤ j := Or.inl (List.mem_singleton.mp hj)
theorem fitb3 {w : Mt} {i v k : Nat} (hv : NU w i v) (h : nb v ≤ k) (hk : k ≤ 200100) : mL w i ≤ 6670 := by have := hv.fitb h; omega
/-- all but the out -/
def MP (u : Mt) (A : Ab) (X : Nat) : Prop := W3 u ∧ (∀ i, i < 10 → NU u i (aG A i) ∧ nb (aG A i) ≤ 200000) ∧ (mA u = aN A ∧ aN A ≤ 4096 ∧ ∀ j, j < aN A → mT u j = aT A j) ∧ mX u = X
theorem MP.same {w w1 : Mt} {A : Ab} {X : Nat} {p : List Nat} (h : MP w A X) (hE : eqM w w1 p) (h3 : W3 w1) (hp : ∀ j, j ∈ p → 10 ≤ j) : MP w1 A X := by
  refine ⟨h3, fun i hi => ⟨hE.nu (fun z => by have := hp i z; omega) (h.2.1 i hi).1, (h.2.1 i hi).2⟩, ?_, hE.X.trans h.2.2.2⟩
  rw [hE.A, hE.T]; exact h.2.2.1
theorem wd_step {X y j : Nat} (hj : j < 32) (hy : y = X / 2 ^ (j + 1) % 2 ^ (31 - j)) : 2 * y + X / 2 ^ j % 2 = X / 2 ^ j % 2 ^ (32 - j) := by
  rw [hy, Nat.pow_succ, ← Nat.div_div_eq_div_mul, show 32 - j = 31 - j + 1 by omega, Nat.pow_succ, Nat.mul_comm (2 ^ (31 - j)) 2, Nat.mod_mul]
  omega
theorem oc_dn {x : Int32} {M : Nat} (hM : M ≤ 20000) : (nI 0 ≤ x ∧ x ≤ dn M) ↔ (nI 0 ≤ x ∧ x < nI M) := by
  have e0 : (nI 0).toInt = 0 := by decide
  have e1 : (dn M).toInt = (M : Int) - 1 := by
    match M, hM with
    | 0, _ => decide
    | m + 1, hM =>
      show (nI m).toInt = _
      rw [nI_iZ, iZ_toInt (by omega) (by omega)]
      omega
  have e2 : (nI M).toInt = (M : Int) := by rw [nI_iZ, iZ_toInt (by omega) (by omega)]
  rw [Int32.le_iff_toInt_le, Int32.le_iff_toInt_le, Int32.lt_iff_toInt_lt, e0, e1, e2]
  omega
theorem wr_end {v b n : Nat} (h2 : 2 ≤ b) (h0 : v / b ^ (n + 1) = 0) (h1 : n = 0 ∨ v / b ^ n ≠ 0) : ndg b v = n + 1 := by
  have hp : 0 < b ^ (n + 1) := Nat.pow_pos (by omega)
  refine ndg_eq h2 (by omega) (by rcases Nat.div_eq_zero_iff.mp h0 with z | z; omega; exact z) ?_
  rcases h1 with z | z
  · left; omega
  · right
    rw [Nat.add_sub_cancel]
    rcases Nat.lt_or_ge v (b ^ n) with q | q
    · exact absurd (Nat.div_eq_of_lt q) z
    · exact q
theorem wr_over {v b n : Nat} (h2 : 2 ≤ b) (h1 : v / b ^ n ≠ 0) : n < ndg b v := by
  refine ndg_gt h2 ?_
  rcases Nat.lt_or_ge v (b ^ n) with q | q
  · exact absurd (Nat.div_eq_of_lt q) h1
  · exact q
theorem wr_div {v b n : Nat} : v / b ^ n / b = v / b ^ (n + 1) := by rw [Nat.pow_succ, Nat.div_div_eq_div_mul]

/-! WHAT STAYS when the bench's row and some numbers change; sizes -/
def eqB (w w1 : St) (p : List Nat) : Prop := (∀ j, j ∉ p → sW w1 j = sW w j ∧ sL w1 j = sL w j) ∧ w1.2.2.2 = w.2.2.2
theorem eqB_refl (w : St) (p : List Nat) : eqB w w p := ⟨fun _ _ => ⟨rfl, rfl⟩, rfl⟩
theorem eqB.trans {w w1 w2 : St} {p : List Nat} (h : eqB w w1 p) (h2 : eqB w1 w2 p) : eqB w w2 p :=
  ⟨fun j hj => ⟨(h2.1 j hj).1.trans (h.1 j hj).1, (h2.1 j hj).2.trans (h.1 j hj).2⟩, h2.2.trans h.2⟩
theorem eqB.nv {w w1 : St} {p : List Nat} {j v : Nat} (h : eqB w w1 p) (hj : j ∉ p) (hv : NV w j v) : NV w1 j v := by
  unfold NV
  rw [(h.1 j hj).1, (h.1 j hj).2]
  exact hv
theorem eqB.mono {w w1 : St} {p q : List Nat} (h : eqB w w1 p) (hs : ∀ j, j ∈ p → j ∈ q) : eqB w w1 q := ⟨fun j hj => h.1 j (fun z => hj (hs j z)), h.2⟩
theorem eqN.B {w w1 : St} {i : Nat} {p : List Nat} (h : eqN w w1 i) (hi : i ∈ p) : eqB w w1 p := ⟨fun j hj => h.1 j (fun q => hj (q ▸ hi)), by rw [h.2]⟩
theorem eqB_pR (w : St) (f : Nat → Int32) (p : List Nat) : eqB w (pR w f) p := ⟨fun _ _ => ⟨rfl, rfl⟩, rfl⟩
theorem NV_pR {w : St} {f : Nat → Int32} {i v : Nat} : NV (pR w f) i v ↔ NV w i v := Iff.rfl
theorem NV_z (w : St) (i : Nat) : NV (pL w i 0) i 0 := by
  unfold NV
  rw [sL_pL]
  exact ⟨by omega, Or.inl rfl, rfl⟩
theorem eqN_0 (w : St) (i n : Nat) : eqN w (pL w i n) i := ⟨fun j hj => ⟨rfl, sL_pLn w n hj⟩, rfl⟩
theorem ad_inj {A : Nat → Prop} {cI cB cR : ClassId} {ad : Nat → Nat} {w : St} (hD : va_D A (NC cI cB cR ad w)) {i j : Nat} (hi : i < 36) (hj : j < 36) (h : ad i = ad j) : i = j := hD.1 i j _ _ (NC_at hi) (NC_at hj) h
theorem pwB (n : Nat) : 4294967296 ^ n = 2 ^ (32 * n) := by rw [show 4294967296 = 2 ^ 32 from rfl, ← Nat.pow_mul]
/-- a product that fits: its factors' lengths -/
theorem fitM {w : St} {a b v u : Nat} (hv : NV w a v) (hu : NV w b u) (h : v * u < 2 ^ 200640) : sL w a + sL w b ≤ 6272 := by
  have h1 := hv.len
  have h2 := hu.len
  rcases Nat.eq_zero_or_pos (sL w a) with q | q
  · omega
  · rcases Nat.eq_zero_or_pos (sL w b) with r | r
    · omega
    · have e1 := hv.ge (by omega)
      have e2 := hu.ge (by omega)
      have e3 := Nat.mul_le_mul e1 e2
      rw [← Nat.pow_add, pwB] at e3
      have e4 := Nat.lt_of_le_of_lt e3 h
      have e5 := (Nat.pow_lt_pow_iff_right (by decide : 1 < 2)).mp e4
      omega
theorem fitL {w : St} {a v k : Nat} (hv : NV w a v) (h : v < 2 ^ (32 * k)) : sL w a ≤ k := by
  rcases Nat.eq_zero_or_pos (sL w a) with q | q
  · omega
  · have e1 := hv.ge (by omega)
    rw [pwB] at e1
    have e5 := (Nat.pow_lt_pow_iff_right (by decide : 1 < 2)).mp (Nat.lt_of_le_of_lt e1 h)
    omega
theorem pow_bit {v n k : Nat} : v ^ (n / 2 ^ (k + 1)) * v ^ (n / 2 ^ (k + 1)) * v ^ (n / 2 ^ k % 2) = v ^ (n / 2 ^ k) := by
  rw [← Nat.pow_add, ← Nat.pow_add, Nat.pow_succ 2 k, ← Nat.div_div_eq_div_mul]
  congr 1
  omega
theorem ishr_bit : ∀ n, n ≤ 100 → ∀ k, k < 7 → nI n >>> (nI k &&& 31) &&& nI 1 = nI (n / 2 ^ k % 2) := by decide +kernel
theorem nb_top {n : Nat} (h : 1 ≤ n) : n / 2 ^ (nb n - 1) = 1 := by
  have h1 := nb_le (v := n) (by omega)
  have h2 := nb_lt n
  have h3 := nb_pos (v := n) (by omega)
  apply Nat.div_eq_of_lt_le
  · rw [Nat.one_mul]; exact h1
  · rw [show 2 ^ nb n = 2 ^ (nb n - 1 + 1) by rw [Nat.sub_add_cancel h3], Nat.pow_succ] at h2
    omega
theorem dn_2 {L : Nat} (h : 1 ≤ L) : nI L - nI 2 = dn (L - 1) := by
  obtain ⟨k, rfl⟩ : ∃ k, L = k + 1 := ⟨L - 1, by omega⟩
  have e : nI 2 = nI 1 + nI 1 := (nI_add 1 1).symm
  rw [Nat.add_sub_cancel, ← dn_sub k, e, ← Int32.sub_sub, pk_sub (show 1 ≤ k + 1 by omega), Nat.add_sub_cancel]
theorem pow_le_n {v m n : Nat} (h : m ≤ n) {X : Nat} (hX : v ^ n < X) (h1 : 1 ≤ v) : v ^ m < X := Nat.lt_of_le_of_lt (Nat.pow_le_pow_right h1 h) hX
/-- powers that fit -/
theorem pow_fit {v m n X : Nat} (h : m ≤ n) (hX : v ^ n < X) (hX1 : 1 < X) : v ^ m < X := by
  rcases Nat.eq_zero_or_pos v with z | z
  · subst z
    rcases Nat.eq_zero_or_pos m with y | y
    · subst y; exact hX1
    · rw [Nat.zero_pow y]; omega
  · exact pow_le_n h hX z

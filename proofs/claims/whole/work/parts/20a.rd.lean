/-! READING a number while another, or the same, is being written from below -/
theorem rdW {w : St} {i p j : Nat} {f : Nat → Int32} {j0 : Nat} (hf : ∀ q, j0 ≤ q → f q = sW w i q) (hj : j0 ≤ j) : sW (pW w i f) p j = sW w p j := by
  by_cases h : p = i
  · rw [h, sW_pW]
    exact hf j hj
  · rw [sW_pWn _ _ h]

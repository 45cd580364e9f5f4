/-! A NUMBER'S VALUE in the world; what else stays -/
def NV (w : St) (i v : Nat) : Prop := sL w i ≤ 6272 ∧ (sL w i = 0 ∨ sW w i (sL w i - 1) ≠ 0) ∧ vN (sW w i) 0 (sL w i) = v
def eqN (w w1 : St) (i : Nat) : Prop := (∀ j, j ≠ i → sW w1 j = sW w j ∧ sL w1 j = sL w j) ∧ w1.2.2 = w.2.2
theorem eqN_refl (w : St) (i : Nat) : eqN w w i := ⟨fun _ _ => ⟨rfl, rfl⟩, rfl⟩
theorem eqN.trans {w w1 w2 : St} {i : Nat} (h : eqN w w1 i) (h2 : eqN w1 w2 i) : eqN w w2 i :=
  ⟨fun j hj => ⟨(h2.1 j hj).1.trans (h.1 j hj).1, (h2.1 j hj).2.trans (h.1 j hj).2⟩, h2.2.trans h.2⟩
theorem eqN.nv {w w1 : St} {i j v : Nat} (h : eqN w w1 i) (hj : j ≠ i) (hv : NV w j v) : NV w1 j v := by
  unfold NV
  rw [(h.1 j hj).1, (h.1 j hj).2]
  exact hv
theorem eqN_tr (w : St) (i : Nat) (f : Nat → Int32) (k : Nat) : eqN w (pL (pW w i f) i k) i := by
  refine ⟨fun j hj => ⟨?_, ?_⟩, rfl⟩
  · show sW (pW w i f) j = sW w j
    exact sW_pWn w f hj
  · rw [sL_pLn _ _ hj]
    rfl
theorem NV_tr {w : St} {i n : Nat} {f : Nat → Int32} (hn : n ≤ 6272) : NV (pL (pW w i f) i (tl f n)) i (vN f 0 n) := by
  have h1 : sL (pL (pW w i f) i (tl f n)) i = tl f n := sL_pL _ _ _
  have h2 : sW (pL (pW w i f) i (tl f n)) i = f := sW_pW w i f
  unfold NV
  rw [h1, h2]
  exact ⟨Nat.le_trans (tl_le f n) hn, tl_top f n, tl_val f n⟩
theorem NV.len {w : St} {i v : Nat} (h : NV w i v) : sL w i ≤ 6272 := h.1
theorem NV.lt {w : St} {i v : Nat} (h : NV w i v) : v < 4294967296 ^ sL w i := by rw [← h.2.2]; exact vN_lt _ _ _
theorem NV.ge {w : St} {i v : Nat} (h : NV w i v) (h0 : sL w i ≠ 0) : 4294967296 ^ (sL w i - 1) ≤ v := by
  rcases h.2.1 with q | q
  · exact absurd q h0
  · have := vN_ge (f := sW w i) (a := 0) (n := sL w i - 1) (by rw [Nat.zero_add]; exact q)
    rw [show sL w i - 1 + 1 = sL w i by omega, h.2.2] at this
    exact this
theorem NV.zero {w : St} {i v : Nat} (h : NV w i v) : sL w i = 0 ↔ v = 0 := by
  constructor
  · intro q
    have := h.2.2
    rw [q] at this
    exact this.symm
  · intro q
    rcases Nat.eq_zero_or_pos (sL w i) with z | z
    · exact z
    · have := h.ge (by omega)
      rw [q] at this
      exact absurd this (Nat.not_le.mpr (Nat.pow_pos (by decide)))
theorem NV.nb {w : St} {i v : Nat} (h : NV w i v) (h0 : sL w i ≠ 0) : nb v = 32 * (sL w i - 1) + nb (wN (sW w i (sL w i - 1))) := by
  rcases h.2.1 with q | q
  · exact absurd q h0
  · have := nb_vN (f := sW w i) (a := 0) (n := sL w i - 1) (by rw [Nat.zero_add]; exact q)
    rw [show sL w i - 1 + 1 = sL w i by omega, h.2.2, Nat.zero_add] at this
    exact this
theorem ch_add0 {f : Nat → Int32} {i c t V : Nat} (h : vN f 0 i + c * 4294967296 ^ i = V) : vN (upd f i (nI (c + t))) 0 (i + 1) + (c + t) / 4294967296 * 4294967296 ^ (i + 1) = V + t * 4294967296 ^ i := by
  have := ch_add (a := 0) (t := t) h
  rw [Nat.zero_add] at this
  exact this
theorem ch_addZ0 {f : Nat → Int32} {i : Nat} {c t V : Int} (h : (vN f 0 i : Int) + c * 4294967296 ^ i = V) : (vN (upd f i (lZ (c + t)).toInt32) 0 (i + 1) : Int) + (c + t) / 4294967296 * 4294967296 ^ (i + 1) = V + t * 4294967296 ^ i := by
  have := ch_addZ (a := 0) (t := t) h
  rw [Nat.zero_add] at this
  exact this
theorem vN_suc0 (f : Nat → Int32) (n : Nat) : vN f 0 (n + 1) = vN f 0 n + wN (f n) * 4294967296 ^ n := by rw [vN_succ, Nat.zero_add]
/-- the first j of m words -/
def vM (f : Nat → Int32) (m j : Nat) : Nat := vN f 0 (min j m)
theorem vM_0 (f : Nat → Int32) (m : Nat) : vM f m 0 = 0 := by unfold vM; rw [Nat.zero_min]; rfl
theorem vM_lt {f : Nat → Int32} {m j : Nat} (h : j < m) : vM f m (j + 1) = vM f m j + wN (f j) * 4294967296 ^ j := by
  unfold vM
  rw [Nat.min_eq_left (by omega), Nat.min_eq_left (by omega), vN_suc0]
theorem vM_ge {f : Nat → Int32} {m j : Nat} (h : m ≤ j) : vM f m (j + 1) = vM f m j := by
  unfold vM
  rw [Nat.min_eq_right (by omega), Nat.min_eq_right h]
theorem vM_all {f : Nat → Int32} {m j : Nat} (h : m ≤ j) : vM f m j = vN f 0 m := by
  unfold vM
  rw [Nat.min_eq_right h]

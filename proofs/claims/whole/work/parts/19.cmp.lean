/-! COMPARING; a number laid as another -/
def cmpN (v u : Nat) : Int32 := if v < u then -1 else if v = u then 0 else nI 1
theorem cmpN_eq (v : Nat) : cmpN v v = 0 := by
  unfold cmpN
  rw [if_neg (Nat.lt_irrefl v), if_pos rfl]
theorem cmpN_lt {v u : Nat} (h : v < u) : cmpN v u = -1 := if_pos h
theorem cmpN_gt {v u : Nat} (h : u < v) : cmpN v u = nI 1 := by
  unfold cmpN
  rw [if_neg (by omega), if_neg (by omega)]
theorem NV_as {w w1 : St} {i a v : Nat} (h : NV w a v) (hl : sL w1 i = sL w a) (hf : ∀ j, j < sL w a → sW w1 i j = sW w a j) : NV w1 i v := by
  refine ⟨by rw [hl]; exact h.1, ?_, ?_⟩
  · rw [hl]
    rcases h.2.1 with q | q
    · exact Or.inl q
    · rcases Nat.eq_zero_or_pos (sL w a) with z | z
      · exact Or.inl z
      · right
        rw [hf _ (by omega)]
        exact q
  · rw [hl, ← h.2.2]
    exact vN_congr (fun j hj => by rw [Nat.zero_add]; exact hf j hj)

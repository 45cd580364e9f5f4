/-! ROOTS: one step's values -/
theorem rt_step {v n kn mo al r9 hid x9 : Nat} (hn2 : 2 ≤ n) (hk1 : 1 ≤ kn) (hkm : kn + mo ≤ al) (hmo : mo = 1 ∨ mo + (nb n + 1) ≤ kn) (hhid : hid = (al - (kn + mo)) * n) (hr : isRoot (v / 2 ^ ((al - kn) * n)) n r9) (hlo : 2 ^ (kn - 1) ≤ r9) (hhi : r9 < 2 ^ kn) (hx : x9 = (v / 2 ^ (hid + mo * (n - 1)) - r9 ^ n * 2 ^ mo) / (r9 ^ (n - 1) * n)) :
    r9 ^ n * 2 ^ mo ≤ v / 2 ^ (hid + mo * (n - 1)) ∧ ∃ r', isRoot (v / 2 ^ hid) n r' ∧ r' ≤ r9 * 2 ^ mo + (if nb x9 ≤ mo then x9 else 2 ^ mo - 1) ∧ r9 * 2 ^ mo + (if nb x9 ≤ mo then x9 else 2 ^ mo - 1) ≤ r' + 1 ∧ r9 * 2 ^ mo + (if nb x9 ≤ mo then x9 else 2 ^ mo - 1) < 2 ^ (kn + mo) ∧ 2 ^ (kn + mo - 1) ≤ r' := by
  obtain ⟨n1, rfl⟩ : ∃ n1, n = n1 + 1 := ⟨n - 1, by omega⟩
  rw [Nat.add_sub_cancel] at hx ⊢
  have e1 : (al - kn) * (n1 + 1) = hid + mo * (n1 + 1) := by rw [hhid, ← Nat.add_mul]; congr 1; omega
  rw [e1, Nat.pow_add, ← Nat.div_div_eq_div_mul] at hr
  have e2 : v / 2 ^ (hid + mo * n1) = v / 2 ^ hid / 2 ^ (mo * n1) := by rw [Nat.pow_add, Nat.div_div_eq_div_mul]
  rw [e2] at hx ⊢
  have hr1 : 1 ≤ r9 := Nat.le_trans (Nat.pow_pos (by decide)) hlo
  have hm : mo = 1 ∨ (n1 + 1) * 2 ^ mo ≤ r9 := by
    rcases hmo with q | q
    · exact Or.inl q
    · exact Or.inr (rt_long (by omega) hlo q)
  obtain ⟨a1, a2, r', a3, a4, a5, a6⟩ := rt_cand hr1 hr rfl rfl hx rfl hm
  refine ⟨a1, r', a3, a4, a5, ?_, ?_⟩
  · have h1 : (r9 + 1) * 2 ^ mo ≤ 2 ^ kn * 2 ^ mo := Nat.mul_le_mul_right _ hhi
    rw [← Nat.pow_add, Nat.add_mul, Nat.one_mul] at h1
    omega
  · have h1 : 2 ^ (kn - 1) * 2 ^ mo ≤ r9 * 2 ^ mo := Nat.mul_le_mul_right _ hlo
    rw [← Nat.pow_add, show kn - 1 + mo = kn + mo - 1 by omega] at h1
    omega
theorem root_one (v : Nat) : isRoot v 1 v := by
  unfold isRoot
  rw [Nat.pow_one, Nat.pow_one]
  exact ⟨Nat.le_refl _, Nat.lt_succ_self _⟩
theorem root_zero {n : Nat} (hn : 1 ≤ n) : isRoot 0 n 0 := by
  unfold isRoot
  rw [Nat.zero_pow (by omega), Nat.zero_add, Nat.one_pow]
  exact ⟨Nat.le_refl _, by omega⟩
theorem p2_fit {x k m : Nat} (h : x < 2 ^ k) (hk : k ≤ m) : x < 2 ^ m := Nat.lt_of_lt_of_le h (Nat.pow_le_pow_right (by decide) hk)
theorem iZ_kn (z : Int) (kn : Nat) : iZ z - nI kn = iZ (z - (kn : Int)) := by rw [nI_iZ, iZ_sub]

/-! ROOTS: the values -/
def isRoot (v n r : Nat) : Prop := r ^ n ≤ v ∧ v < (r + 1) ^ n
theorem pw_lt {a b n : Nat} (h : a < b) (hn : 1 ≤ n) : a ^ n < b ^ n := Nat.pow_lt_pow_left h (by omega)
theorem root_ex (n : Nat) (hn : 1 ≤ n) : ∀ v, ∃ r, isRoot v n r := by
  intro v
  induction v with
  | zero => exact ⟨0, by rw [Nat.zero_pow (by omega)]; exact Nat.le_refl _, by rw [Nat.zero_add, Nat.one_pow]; omega⟩
  | succ v ih =>
    obtain ⟨r, h1, h2⟩ := ih
    rcases Nat.lt_or_ge (v + 1) ((r + 1) ^ n) with q | q
    · exact ⟨r, by omega, q⟩
    · exact ⟨r + 1, q, Nat.lt_of_le_of_lt (by omega) (pw_lt (show r + 1 < r + 1 + 1 by omega) hn)⟩
theorem root_le {v n r c : Nat} (h : isRoot v n r) (hc : c ^ n ≤ v) (hn : 1 ≤ n) : c ≤ r := by
  rcases Nat.lt_or_ge r c with q | q
  · have := Nat.pow_le_pow_left (show r + 1 ≤ c from q) n
    have := h.2
    omega
  · exact q
theorem root_lt {v n r c : Nat} (h : isRoot v n r) (hc : v < c ^ n) : r < c := by
  rcases Nat.lt_or_ge r c with q | q
  · exact q
  · have := Nat.pow_le_pow_left q n
    have := h.1
    omega
theorem root_uniq {v n r c : Nat} (h : isRoot v n r) (hc : isRoot v n c) (hn : 1 ≤ n) : r = c := Nat.le_antisymm (root_le hc h.1 hn) (root_le h hc.1 hn)
/-- Bernoulli -/
theorem bern {E y : Nat} : ∀ n, E ^ (n + 1) + (n + 1) * E ^ n * y ≤ (E + y) ^ (n + 1) := by
  intro n
  induction n with
  | zero => rw [Nat.zero_add, Nat.pow_one, Nat.pow_one, Nat.pow_zero]; omega
  | succ n ih =>
    have h := Nat.mul_le_mul_right (E + y) ih
    rw [← Nat.pow_succ] at h
    refine Nat.le_trans ?_ h
    rw [Nat.mul_add (E ^ (n + 1) + (n + 1) * E ^ n * y) E y, Nat.add_mul (E ^ (n + 1)) _ E, Nat.add_mul (E ^ (n + 1)) _ y]
    have e1 : E ^ (n + 1) * E = E ^ (n + 1 + 1) := (Nat.pow_succ ..).symm
    have e2 : (n + 1) * E ^ n * y * E = (n + 1) * (E ^ (n + 1) * y) := by rw [Nat.pow_succ]; ac_rfl
    have e3 : (n + 1 + 1) * E ^ (n + 1) * y = (n + 1) * (E ^ (n + 1) * y) + E ^ (n + 1) * y := by rw [Nat.mul_assoc, Nat.add_mul (n + 1) 1, Nat.one_mul]
    rw [e1, e2, e3]
    omega
/-- not much above Bernoulli -/
theorem bern_up {E t n : Nat} (h : n * (t * (t + 1)) ≤ E) : ∀ m, m ≤ n → (E + t) ^ m * E ≤ E ^ m * (E + m * (t + 1)) := by
  intro m
  induction m with
  | zero => intro _; rw [Nat.pow_zero, Nat.pow_zero, Nat.zero_mul]; omega
  | succ m ih =>
    intro hm
    have h1 := Nat.mul_le_mul_left (E + t) (ih (by omega))
    have h2 : m * (t * (t + 1)) ≤ n * (t * (t + 1)) := Nat.mul_le_mul_right _ (by omega)
    have e1 : (E + t) ^ (m + 1) * E = (E + t) * ((E + t) ^ m * E) := by rw [Nat.pow_succ]; ac_rfl
    have e2 : (E + t) * (E ^ m * (E + m * (t + 1))) = E ^ m * ((E + t) * (E + m * (t + 1))) := by ac_rfl
    have e3 : E ^ (m + 1) * (E + (m + 1) * (t + 1)) = E ^ m * (E * (E + (m + 1) * (t + 1))) := by rw [Nat.pow_succ]; ac_rfl
    rw [e1, e3]
    refine Nat.le_trans h1 ?_
    rw [e2]
    apply Nat.mul_le_mul_left
    have e4 : (E + t) * (E + m * (t + 1)) = E * E + E * (m * (t + 1)) + t * E + m * (t * (t + 1)) := by
      have e6 : t * (m * (t + 1)) = m * (t * (t + 1)) := Nat.mul_left_comm _ _ _
      rw [← e6]
      generalize m * (t + 1) = S
      rw [Nat.add_mul, Nat.mul_add, Nat.mul_add]
      omega
    have e5 : E * (E + (m + 1) * (t + 1)) = E * E + E * (m * (t + 1)) + t * E + E := by
      rw [Nat.add_mul m 1, Nat.one_mul, Nat.mul_add, Nat.mul_add E, Nat.mul_add E t 1, Nat.mul_one, Nat.mul_comm E t]
      omega
    omega
/-- the step's candidate: the root, or one too much -/
theorem rt_cand {A r n1 mo E P1 x y9 : Nat} (hr : 1 ≤ r) (hk : isRoot (A / 2 ^ (mo * (n1 + 1))) (n1 + 1) r) (hE : E = r * 2 ^ mo) (hP : P1 = A / 2 ^ (mo * n1) - r ^ (n1 + 1) * 2 ^ mo) (hx : x = P1 / (r ^ n1 * (n1 + 1))) (hy : y9 = if nb x ≤ mo then x else 2 ^ mo - 1) (hmo : mo = 1 ∨ (n1 + 1) * 2 ^ mo ≤ r) :
    r ^ (n1 + 1) * 2 ^ mo ≤ A / 2 ^ (mo * n1) ∧ y9 < 2 ^ mo ∧ ∃ r', isRoot A (n1 + 1) r' ∧ r' ≤ E + y9 ∧ E + y9 ≤ r' + 1 ∧ E ≤ r' := by
  have hM : 0 < 2 ^ mo := Nat.pow_pos (by decide)
  have hM1 : 0 < 2 ^ (mo * n1) := Nat.pow_pos (by decide)
  have hMn : 2 ^ (mo * (n1 + 1)) = 2 ^ mo * 2 ^ (mo * n1) := by rw [Nat.mul_add, Nat.mul_one, Nat.pow_add, Nat.mul_comm]
  have hEn1 : E ^ n1 = r ^ n1 * 2 ^ (mo * n1) := by rw [hE, Nat.mul_pow, ← Nat.pow_mul]
  have hEn : E ^ (n1 + 1) = r ^ (n1 + 1) * 2 ^ mo * 2 ^ (mo * n1) := by rw [hE, Nat.mul_pow, ← Nat.pow_mul, hMn, Nat.mul_assoc]
  have hE0 : 0 < E := by rw [hE]; exact Nat.mul_pos hr hM
  have hr1 : 0 < r ^ n1 := Nat.pow_pos hr
  -- the old root, lengthened, is not above
  have a0 : E ^ (n1 + 1) ≤ A := by
    have h1 : r ^ (n1 + 1) * 2 ^ (mo * (n1 + 1)) ≤ A / 2 ^ (mo * (n1 + 1)) * 2 ^ (mo * (n1 + 1)) := Nat.mul_le_mul_right _ hk.1
    have h2 := Nat.div_mul_le_self A (2 ^ (mo * (n1 + 1)))
    rw [hEn, Nat.mul_assoc, ← hMn]
    omega
  have a1 : r ^ (n1 + 1) * 2 ^ mo ≤ A / 2 ^ (mo * n1) := by
    rw [Nat.le_div_iff_mul_le hM1, ← hEn]
    exact a0
  have hyl : y9 < 2 ^ mo ∧ y9 ≤ x ∧ (x < 2 ^ mo → y9 = x) ∧ (¬ x < 2 ^ mo → y9 = 2 ^ mo - 1) := by
    rcases Nat.lt_or_ge x (2 ^ mo) with q | q
    · rw [if_pos (nb_le_iff.mpr q)] at hy
      exact ⟨by omega, by omega, fun _ => hy, fun h => absurd q h⟩
    · rw [if_neg (fun h => absurd (nb_le_iff.mp h) (by omega))] at hy
      exact ⟨by omega, by omega, fun h => absurd h (by omega), fun _ => hy⟩
  refine ⟨a1, hyl.1, ?_⟩
  obtain ⟨r', hr'⟩ := root_ex (n1 + 1) (by omega) A
  have b0 : E ≤ r' := root_le hr' a0 (by omega)
  have b1 : r' < E + 2 ^ mo := by
    apply root_lt hr'
    have h1 := hk.2
    have h2 : A / 2 ^ (mo * (n1 + 1)) < (r + 1) ^ (n1 + 1) := h1
    have h3 : A < (r + 1) ^ (n1 + 1) * 2 ^ (mo * (n1 + 1)) := (Nat.div_lt_iff_lt_mul (Nat.pow_pos (by decide))).mp h2
    have h4 : (E + 2 ^ mo) ^ (n1 + 1) = (r + 1) ^ (n1 + 1) * 2 ^ (mo * (n1 + 1)) := by
      rw [hE, show r * 2 ^ mo + 2 ^ mo = (r + 1) * 2 ^ mo by rw [Nat.add_mul, Nat.one_mul], Nat.mul_pow, ← Nat.pow_mul]
    rw [h4]
    exact h3
  obtain ⟨y, rfl⟩ : ∃ y, r' = E + y := ⟨r' - E, by omega⟩
  refine ⟨E + y, hr', ?_, ?_, b0⟩
  · -- not below
    have h1 := Nat.le_trans (bern (E := E) (y := y) n1) hr'.1
    have h2 : (r ^ (n1 + 1) * 2 ^ mo + r ^ n1 * (n1 + 1) * y) * 2 ^ (mo * n1) ≤ A := by
      rw [Nat.add_mul, ← hEn, show r ^ n1 * (n1 + 1) * y * 2 ^ (mo * n1) = (n1 + 1) * (r ^ n1 * 2 ^ (mo * n1)) * y by ac_rfl, ← hEn1]
      exact h1
    have h3 := (Nat.le_div_iff_mul_le hM1).mpr h2
    have h4 : y * (r ^ n1 * (n1 + 1)) ≤ P1 := by rw [hP, Nat.mul_comm y]; omega
    have h5 : y ≤ x := by rw [hx, Nat.le_div_iff_mul_le (Nat.mul_pos hr1 (by omega))]; exact h4
    rcases Nat.lt_or_ge x (2 ^ mo) with q | q
    · have := hyl.2.2.1 q; omega
    · have := hyl.2.2.2 (by omega); omega
  · rcases Nat.eq_zero_or_pos y9 with z | z
    · omega
    · rcases hmo with q | q
      · rw [q] at hyl; omega
      · obtain ⟨t, rfl⟩ : ∃ t, y9 = t + 1 := ⟨y9 - 1, by omega⟩
        have c0 : t * (t + 1) ≤ 2 ^ mo * 2 ^ mo := Nat.mul_le_mul (by omega) (by omega)
        have c1 : (n1 + 1) * (t * (t + 1)) ≤ E := by
          have d1 : (n1 + 1) * (t * (t + 1)) ≤ (n1 + 1) * 2 ^ mo * 2 ^ mo := by rw [Nat.mul_assoc (n1 + 1)]; exact Nat.mul_le_mul_left (n1 + 1) c0
          have d2 := Nat.mul_le_mul_right (2 ^ mo) q
          rw [hE]
          exact Nat.le_trans d1 d2
        have c2 := bern_up c1 (n1 + 1) (Nat.le_refl _)
        have c3 : (E + t) ^ (n1 + 1) ≤ E ^ n1 * (E + (n1 + 1) * (t + 1)) := by
          have d3 : (E + t) ^ (n1 + 1) * E ≤ E ^ n1 * (E + (n1 + 1) * (t + 1)) * E := by
            refine Nat.le_trans c2 (Nat.le_of_eq ?_)
            rw [Nat.pow_succ]
            ac_rfl
          exact Nat.le_of_mul_le_mul_right d3 hE0
        have c4 : (t + 1) * (r ^ n1 * (n1 + 1)) ≤ P1 := by
          have d4 : (t + 1) ≤ P1 / (r ^ n1 * (n1 + 1)) := by omega
          exact (Nat.le_div_iff_mul_le (Nat.mul_pos hr1 (by omega))).mp d4
        have c5 : r ^ (n1 + 1) * 2 ^ mo + (t + 1) * (r ^ n1 * (n1 + 1)) ≤ A / 2 ^ (mo * n1) := by omega
        have c6 := (Nat.le_div_iff_mul_le hM1).mp c5
        have c7 : E ^ n1 * (E + (n1 + 1) * (t + 1)) = (r ^ (n1 + 1) * 2 ^ mo + (t + 1) * (r ^ n1 * (n1 + 1))) * 2 ^ (mo * n1) := by
          rw [Nat.mul_add (E ^ n1) E, ← Nat.pow_succ, hEn, hEn1, Nat.add_mul _ _ (2 ^ (mo * n1))]
          congr 1
          generalize t + 1 = T
          generalize n1 + 1 = M
          ac_rfl
        have c8 := root_le hr' (c := E + t) (by omega) (by omega)
        omega
theorem ceil_div {b n a : Nat} (hn : 1 ≤ n) (hb : 1 ≤ b) (h : a = (b + n - 1) / n) : 1 ≤ a ∧ b ≤ a * n ∧ (a - 1) * n + 1 ≤ b := by
  have h1 := Nat.div_add_mod (b + n - 1) n
  have h2 := Nat.mod_lt (b + n - 1) (show 0 < n by omega)
  rw [← h, Nat.mul_comm] at h1
  have h3 : 1 ≤ a := by
    rcases Nat.eq_zero_or_pos a with z | z
    · subst z; omega
    · exact z
  obtain ⟨c, rfl⟩ : ∃ c, a = c + 1 := ⟨a - 1, by omega⟩
  rw [Nat.add_mul, Nat.one_mul] at h1
  refine ⟨h3, ?_, ?_⟩
  · rw [Nat.add_mul, Nat.one_mul]; omega
  · rw [Nat.add_sub_cancel]; omega
theorem rt_init {v n al : Nat} (hn : 1 ≤ n) (hv : v ≠ 0) (h : al = (nb v + n - 1) / n) : isRoot (v / 2 ^ ((al - 1) * n)) n 1 := by
  have hp := nb_pos hv
  obtain ⟨h1, h2, h3⟩ := ceil_div hn hp h
  have h4 := nb_le hv
  have h5 := nb_lt v
  constructor
  · rw [Nat.one_pow, Nat.le_div_iff_mul_le (Nat.pow_pos (by decide)), Nat.one_mul]
    exact Nat.le_trans (Nat.pow_le_pow_right (by decide) (by omega)) h4
  · rw [Nat.div_lt_iff_lt_mul (Nat.pow_pos (by decide)), ← Nat.pow_add]
    refine Nat.lt_of_lt_of_le h5 (Nat.pow_le_pow_right (by decide) ?_)
    obtain ⟨c, rfl⟩ : ∃ c, al = c + 1 := ⟨al - 1, by omega⟩
    rw [Nat.add_mul, Nat.one_mul] at h2
    rw [Nat.add_sub_cancel]
    omega
/-- whole numbers with a sign, 32 bits -/
def iZ (z : Int) : Int32 := Int32.ofInt z
theorem nI_iZ (n : Nat) : nI n = iZ (n : Int) := (Int32.ofInt_eq_ofNat (n := n)).symm
theorem iZ_sub (a b : Int) : iZ a - iZ b = iZ (a - b) := (Int32.ofInt_sub a b).symm
theorem iZ_toInt {z : Int} (h1 : -2 ^ 31 ≤ z) (h2 : z < 2 ^ 31) : (iZ z).toInt = z := Int32.toInt_ofInt_of_le h1 h2
theorem nI_sZ (a b : Nat) : nI a - nI b = iZ ((a : Int) - (b : Int)) := by rw [nI_iZ, nI_iZ, iZ_sub]
theorem iZ_le {a b : Int} (h1 : -2 ^ 31 ≤ a) (h2 : a < 2 ^ 31) (h3 : -2 ^ 31 ≤ b) (h4 : b < 2 ^ 31) : iZ a ≤ iZ b ↔ a ≤ b := by rw [Int32.le_iff_toInt_le, iZ_toInt h1 h2, iZ_toInt h3 h4]
theorem iZ_lt {a b : Int} (h1 : -2 ^ 31 ≤ a) (h2 : a < 2 ^ 31) (h3 : -2 ^ 31 ≤ b) (h4 : b < 2 ^ 31) : iZ a < iZ b ↔ a < b := by rw [Int32.lt_iff_toInt_lt, iZ_toInt h1 h2, iZ_toInt h3 h4]
theorem ng_sub (a b : Nat) : -nI a - nI b = -nI (a + b) := by
  rw [← nI_add, Int32.neg_add]
theorem mx_one {z : Int} (h1 : -2 ^ 31 ≤ z) (h2 : z < 2 ^ 31) : ∃ m : Nat, (if nI 1 < iZ z then iZ z else nI 1) = nI m ∧ 1 ≤ m ∧ (m = 1 ∨ (m : Int) = z) ∧ z ≤ (m : Int) := by
  rw [show nI 1 = iZ 1 from nI_iZ 1]
  by_cases h : (1 : Int) < z
  · rw [if_pos ((iZ_lt (by omega) (by omega) h1 h2).mpr h)]
    obtain ⟨k, rfl⟩ : ∃ k : Nat, z = (k : Int) := ⟨z.toNat, by omega⟩
    exact ⟨k, (nI_iZ k).symm, by omega, Or.inr rfl, by omega⟩
  · rw [if_neg (fun q => h ((iZ_lt (by omega) (by omega) h1 h2).mp q))]
    exact ⟨1, (nI_iZ 1).symm, by omega, Or.inl rfl, by omega⟩
/-- a root that is longer by a step that is not too long is big enough -/
theorem rt_long {n kn mo r : Nat} (hn : 1 ≤ n) (hr : 2 ^ (kn - 1) ≤ r) (h : mo + (nb n + 1) ≤ kn) : n * 2 ^ mo ≤ r := by
  have h1 := nb_lt n
  have h2 : n * 2 ^ mo ≤ 2 ^ nb n * 2 ^ mo := Nat.mul_le_mul_right _ (by omega)
  rw [← Nat.pow_add] at h2
  have h3 : 2 ^ (nb n + mo) ≤ 2 ^ (kn - 1) := Nat.pow_le_pow_right (by decide) (by omega)
  omega
theorem fitU {w : St} {i r m : Nat} (hv : NV w i r) (h : r * 2 ^ m < 2 ^ 200640) (hm : m ≤ 200600) : sL w i + m / 32 + 1 ≤ 6272 := by
  rcases Nat.eq_zero_or_pos (sL w i) with q | q
  · omega
  · have e1 := hv.ge (by omega)
    rw [pwB] at e1
    have e2 := Nat.mul_le_mul_right (2 ^ m) e1
    rw [← Nat.pow_add] at e2
    have e5 := (Nat.pow_lt_pow_iff_right (by decide : 1 < 2)).mp (Nat.lt_of_le_of_lt e2 h)
    omega

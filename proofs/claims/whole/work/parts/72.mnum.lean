/-! NUMBERS OF THE REFERENCE: words of 30 bits, all of them below 2^30 -/
def uV (f : Nat → Nat) (a : Nat) : Nat → Nat
  | 0 => 0
  | n + 1 => uV f a n + f (a + n) * 1073741824 ^ n
abbrev B3 (f : Nat → Nat) : Prop := ∀ j, f j < 1073741824
def W3 (w : Mt) : Prop := ∀ i, B3 (mW w i)
theorem upM_s (f : Nat → Nat) (k x : Nat) : upM f k x k = x := if_pos rfl
theorem upM_n {f : Nat → Nat} {k x j : Nat} (h : j ≠ k) : upM f k x j = f j := if_neg h
theorem upM_B {f : Nat → Nat} {k x : Nat} (h : B3 f) (hx : x < 1073741824) : B3 (upM f k x) := fun j => by
  show (if j = k then x else f j) < _
  split
  · exact hx
  · exact h j
theorem W3.put {w : Mt} {i : Nat} {f : Nat → Nat} (h : W3 w) (hf : B3 f) : W3 (qW w i f) := fun j q => by
  show (if j = i then f else mW w j) q < _
  split
  · exact hf q
  · exact h j q
theorem W3.len {w : Mt} {i n : Nat} (h : W3 w) : W3 (qL w i n) := fun j q => h j q
theorem uV_0 (f : Nat → Nat) (a : Nat) : uV f a 0 = 0 := rfl
theorem uV_suc (f : Nat → Nat) (a n : Nat) : uV f a (n + 1) = uV f a n + f (a + n) * 1073741824 ^ n := rfl
theorem uV_suc0 (f : Nat → Nat) (n : Nat) : uV f 0 (n + 1) = uV f 0 n + f n * 1073741824 ^ n := by rw [uV_suc, Nat.zero_add]
theorem uV_lt {f : Nat → Nat} (hf : B3 f) (a n : Nat) : uV f a n < 1073741824 ^ n := by
  induction n with
  | zero => exact Nat.one_pos
  | succ n ih =>
    rw [uV_suc, Nat.pow_succ]
    have h := hf (a + n)
    have h2 : (f (a + n) + 1) * 1073741824 ^ n ≤ 1073741824 * 1073741824 ^ n := Nat.mul_le_mul_right _ h
    rw [Nat.add_mul, Nat.one_mul] at h2
    rw [Nat.mul_comm (1073741824 ^ n)]
    omega
theorem uV_congr {f g : Nat → Nat} {a b n : Nat} (h : ∀ i, i < n → f (a + i) = g (b + i)) : uV f a n = uV g b n := by
  induction n with
  | zero => rfl
  | succ n ih => rw [uV_suc, uV_suc, ih (fun i hi => h i (by omega)), h n (by omega)]
theorem uV_add (f : Nat → Nat) (a n k : Nat) : uV f a (n + k) = uV f a n + 1073741824 ^ n * uV f (a + n) k := by
  induction k with
  | zero => rw [uV_0, Nat.mul_zero, Nat.add_zero, Nat.add_zero]
  | succ k ih =>
    rw [← Nat.add_assoc, uV_suc, ih, uV_suc, Nat.mul_add, Nat.pow_add, Nat.add_assoc a n k]
    have : f (a + (n + k)) * (1073741824 ^ n * 1073741824 ^ k) = 1073741824 ^ n * (f (a + (n + k)) * 1073741824 ^ k) := by
      rw [Nat.mul_left_comm]
    omega
theorem uV_one (f : Nat → Nat) (a : Nat) : uV f a 1 = f a := by
  rw [uV_suc, uV_0, Nat.pow_zero, Nat.mul_one, Nat.zero_add, Nat.add_zero]
theorem uV_cons (f : Nat → Nat) (a n : Nat) : uV f a (n + 1) = f a + 1073741824 * uV f (a + 1) n := by
  rw [Nat.add_comm n 1, uV_add, uV_one, Nat.pow_one]
theorem uV_zero {f : Nat → Nat} {a n : Nat} (h : ∀ i, i < n → f (a + i) = 0) : uV f a n = 0 := by
  induction n with
  | zero => rfl
  | succ n ih => rw [uV_suc, ih (fun i hi => h i (by omega)), h n (by omega), Nat.zero_mul]
theorem uV_ge {f : Nat → Nat} {a n : Nat} (h : f (a + n) ≠ 0) : 1073741824 ^ n ≤ uV f a (n + 1) := by
  rw [uV_suc]
  have h1 : 1 ≤ f (a + n) := Nat.one_le_iff_ne_zero.mpr h
  have h2 : 1 * 1073741824 ^ n ≤ f (a + n) * 1073741824 ^ n := Nat.mul_le_mul_right _ h1
  omega
theorem uV_top {f : Nat → Nat} (hf : B3 f) {n : Nat} (hn : n ≠ 0) (h : 1073741824 ^ (n - 1) ≤ uV f 0 n) : f (n - 1) ≠ 0 := fun q => by
  obtain ⟨k, rfl⟩ : ∃ k, n = k + 1 := ⟨n - 1, by omega⟩
  rw [show k + 1 - 1 = k from rfl] at q h
  rw [uV_suc0, q, Nat.zero_mul, Nat.add_zero] at h
  exact absurd h (Nat.not_le.mpr (uV_lt hf 0 k))
theorem uV_out {f : Nat → Nat} {a n k x : Nat} (h : k < a ∨ a + n ≤ k) : uV (upM f k x) a n = uV f a n :=
  uV_congr (fun i hi => upM_n (by omega))
theorem uV_push (f : Nat → Nat) (a i x : Nat) : uV (upM f (a + i) x) a (i + 1) = uV f a i + x * 1073741824 ^ i := by
  rw [uV_suc, uV_out (Or.inr (Nat.le_refl _)), upM_s]
/-- a word in the midst laid anew -/
theorem uV_mid (f : Nat → Nat) (a x : Nat) {q n : Nat} (h : q < n) : uV (upM f (a + q) x) a n + f (a + q) * 1073741824 ^ q = uV f a n + x * 1073741824 ^ q := by
  obtain ⟨d, rfl⟩ : ∃ d, n = q + 1 + d := ⟨n - (q + 1), by omega⟩
  rw [uV_add _ a (q + 1) d, uV_push, uV_out (Or.inl (by omega)), uV_add f a (q + 1) d, uV_suc f a q]
  omega
theorem uV_tail {f g : Nat → Nat} {j n : Nat} (hj : j ≤ n) (h : ∀ q, j ≤ q → f q = g q) {a b : Nat} (he : uV f 0 j + a = uV g 0 j + b) : uV f 0 n + a = uV g 0 n + b := by
  obtain ⟨d, rfl⟩ : ∃ d, n = j + d := ⟨n - j, by omega⟩
  rw [uV_add f 0 j d, uV_add g 0 j d, uV_congr (f := f) (g := g) (a := 0 + j) (b := 0 + j) (n := d) (fun i hi => h _ (by omega))]
  omega
theorem p3_split (S q : Nat) : S % 1073741824 * q + S / 1073741824 * (q * 1073741824) = S * q := by
  have h := Nat.div_add_mod S 1073741824
  have h2 : S / 1073741824 * (q * 1073741824) = 1073741824 * (S / 1073741824) * q := by
    rw [Nat.mul_comm q, ← Nat.mul_assoc, Nat.mul_comm (S / 1073741824)]
  rw [h2, ← Nat.add_mul, Nat.add_comm, h]
theorem p3_mod (S : Nat) : S % 1073741824 < 1073741824 := Nat.mod_lt _ (by decide)
/-- one step of a chain -/
theorem u_ch {f : Nat → Nat} {a i y t V : Nat} (h : uV f a i + y * 1073741824 ^ i = V) : uV (upM f (a + i) ((y + t) % 1073741824)) a (i + 1) + (y + t) / 1073741824 * 1073741824 ^ (i + 1) = V + t * 1073741824 ^ i := by
  rw [uV_push, Nat.pow_succ, Nat.add_assoc, p3_split, ← h, Nat.add_mul]
  omega
theorem u_ch0 {f : Nat → Nat} {i y t V : Nat} (h : uV f 0 i + y * 1073741824 ^ i = V) : uV (upM f i ((y + t) % 1073741824)) 0 (i + 1) + (y + t) / 1073741824 * 1073741824 ^ (i + 1) = V + t * 1073741824 ^ i := by
  have := u_ch (a := 0) (t := t) h
  rw [Nat.zero_add] at this
  exact this
theorem nb_uV {f : Nat → Nat} (hf : B3 f) {a n : Nat} (h0 : f (a + n) ≠ 0) : nb (uV f a (n + 1)) = 30 * n + nb (f (a + n)) := by
  have l1 := uV_lt hf a n
  have hp : (1073741824 : Nat) ^ n = 2 ^ (30 * n) := by rw [Nat.pow_mul]
  have a1 := nb_lt (f (a + n))
  have a2 := nb_le h0
  have a3 := nb_pos h0
  have e : 30 * n + nb (f (a + n)) = (30 * n + (nb (f (a + n)) - 1)) + 1 := by omega
  rw [e]
  apply nb_eq
  · rw [uV_suc, hp, Nat.pow_add, Nat.mul_comm]
    have := Nat.mul_le_mul_right (2 ^ (30 * n)) a2
    omega
  · rw [uV_suc, hp]
    rw [hp] at l1
    have e2 : 30 * n + (nb (f (a + n)) - 1) + 1 = nb (f (a + n)) + 30 * n := by omega
    rw [e2, Nat.pow_add]
    have := Nat.mul_le_mul_right (2 ^ (30 * n)) (show f (a + n) + 1 ≤ 2 ^ nb (f (a + n)) from a1)
    rw [Nat.add_mul, Nat.one_mul] at this
    omega
/-- how long without the zeros at the top -/
def tm (f : Nat → Nat) : Nat → Nat
  | 0 => 0
  | n + 1 => if f n = 0 then tm f n else n + 1
theorem tm_le (f : Nat → Nat) (n : Nat) : tm f n ≤ n := by
  induction n with
  | zero => exact Nat.le_refl 0
  | succ n ih =>
    show (if f n = 0 then tm f n else n + 1) ≤ n + 1
    split
    · omega
    · exact Nat.le_refl _
theorem tm_top (f : Nat → Nat) (n : Nat) : tm f n = 0 ∨ f (tm f n - 1) ≠ 0 := by
  induction n with
  | zero => exact Or.inl rfl
  | succ n ih =>
    by_cases h : f n = 0
    · rw [show tm f (n + 1) = tm f n from if_pos h]; exact ih
    · rw [show tm f (n + 1) = n + 1 from if_neg h]; exact Or.inr h
theorem tm_val (f : Nat → Nat) (n : Nat) : uV f 0 (tm f n) = uV f 0 n := by
  induction n with
  | zero => rfl
  | succ n ih =>
    by_cases h : f n = 0
    · rw [show tm f (n + 1) = tm f n from if_pos h, ih, uV_suc0, h, Nat.zero_mul, Nat.add_zero]
    · rw [show tm f (n + 1) = n + 1 from if_neg h]
/-- number i holds v -/
def NU (w : Mt) (i v : Nat) : Prop := mL w i ≤ 6800 ∧ (mL w i = 0 ∨ mW w i (mL w i - 1) ≠ 0) ∧ uV (mW w i) 0 (mL w i) = v
/-- all but the numbers of a list is as it was -/
def eqM (w w1 : Mt) (p : List Nat) : Prop := (∀ j, j ∉ p → mW w1 j = mW w j ∧ mL w1 j = mL w j) ∧ w1.2.2 = w.2.2
theorem eqM_refl (w : Mt) (p : List Nat) : eqM w w p := ⟨fun _ _ => ⟨rfl, rfl⟩, rfl⟩
theorem eqM.trans {w w1 w2 : Mt} {p : List Nat} (h : eqM w w1 p) (h2 : eqM w1 w2 p) : eqM w w2 p :=
  ⟨fun j hj => ⟨(h2.1 j hj).1.trans (h.1 j hj).1, (h2.1 j hj).2.trans (h.1 j hj).2⟩, h2.2.trans h.2⟩
theorem eqM.mono {w w1 : Mt} {p q : List Nat} (h : eqM w w1 p) (hs : ∀ j, j ∈ p → j ∈ q) : eqM w w1 q := ⟨fun j hj => h.1 j (fun z => hj (hs j z)), h.2⟩
theorem eqM.nu {w w1 : Mt} {p : List Nat} {j v : Nat} (h : eqM w w1 p) (hj : j ∉ p) (hv : NU w j v) : NU w1 j v := by
  unfold NU
  rw [(h.1 j hj).1, (h.1 j hj).2]
  exact hv
theorem eqM_qL (w : Mt) (i n : Nat) : eqM w (qL w i n) [i] := ⟨fun j hj => ⟨rfl, mL_qLn w n (by simpa using hj)⟩, rfl⟩
theorem eqM_qW (w : Mt) (i : Nat) (f : Nat → Nat) : eqM w (qW w i f) [i] := ⟨fun j hj => ⟨mW_qWn w f (by simpa using hj), rfl⟩, rfl⟩
theorem eqM_tr (w : Mt) (i : Nat) (f : Nat → Nat) (k : Nat) : eqM w (qL (qW w i f) i k) [i] := (eqM_qW w i f).trans (eqM_qL _ i k)
theorem NU_of {w : Mt} {i n v : Nat} {f : Nat → Nat} (hn : n ≤ 6800) (ht : n = 0 ∨ f (n - 1) ≠ 0) (hv : uV f 0 n = v) : NU (qL (qW w i f) i n) i v := by
  have h1 : mL (qL (qW w i f) i n) i = n := mL_qL _ _ _
  have h2 : mW (qL (qW w i f) i n) i = f := mW_qW w i f
  unfold NU
  rw [h1, h2]
  exact ⟨hn, ht, hv⟩
theorem NU_tr {w : Mt} {i n : Nat} {f : Nat → Nat} (hn : n ≤ 6800) : NU (qL (qW w i f) i (tm f n)) i (uV f 0 n) := NU_of (Nat.le_trans (tm_le f n) hn) (tm_top f n) (tm_val f n)
theorem NU.len {w : Mt} {i v : Nat} (h : NU w i v) : mL w i ≤ 6800 := h.1
theorem NU.lt {w : Mt} {i v : Nat} (h : NU w i v) (h3 : W3 w) : v < 1073741824 ^ mL w i := by rw [← h.2.2]; exact uV_lt (h3 i) _ _
theorem NU.ge {w : Mt} {i v : Nat} (h : NU w i v) (h0 : mL w i ≠ 0) : 1073741824 ^ (mL w i - 1) ≤ v := by
  rcases h.2.1 with q | q
  · exact absurd q h0
  · have := uV_ge (f := mW w i) (a := 0) (n := mL w i - 1) (by rw [Nat.zero_add]; exact q)
    rw [show mL w i - 1 + 1 = mL w i by omega, h.2.2] at this
    exact this
theorem NU.zero {w : Mt} {i v : Nat} (h : NU w i v) : mL w i = 0 ↔ v = 0 := by
  constructor
  · intro q
    have := h.2.2
    rw [q] at this
    exact this.symm
  · intro q
    rcases Nat.eq_zero_or_pos (mL w i) with z | z
    · exact z
    · have := h.ge (by omega)
      rw [q] at this
      exact absurd this (Nat.not_le.mpr (Nat.pow_pos (by decide)))
theorem NU.bts {w : Mt} {i v : Nat} (h : NU w i v) (h3 : W3 w) (h0 : mL w i ≠ 0) : nb v = 30 * (mL w i - 1) + nb (mW w i (mL w i - 1)) := by
  rcases h.2.1 with q | q
  · exact absurd q h0
  · have := nb_uV (h3 i) (a := 0) (n := mL w i - 1) (by rw [Nat.zero_add]; exact q)
    rw [show mL w i - 1 + 1 = mL w i by omega, h.2.2, Nat.zero_add] at this
    exact this
theorem pw3 (n : Nat) : 1073741824 ^ n = 2 ^ (30 * n) := by rw [show 1073741824 = 2 ^ 30 from rfl, ← Nat.pow_mul]
/-- how long a number is at most -/
theorem NU.fit {w : Mt} {i v k : Nat} (h : NU w i v) (hk : v < 2 ^ k) : mL w i ≤ (k + 29) / 30 := by
  rcases Nat.eq_zero_or_pos (mL w i) with z | z
  · omega
  · have h1 := h.ge (by omega)
    rw [pw3] at h1
    have h2 : 30 * (mL w i - 1) < k := by
      rcases Nat.lt_or_ge (30 * (mL w i - 1)) k with q | q
      · exact q
      · exact absurd (Nat.lt_of_lt_of_le hk (Nat.pow_le_pow_right (by decide) q)) (by omega)
    omega
theorem NU.fitb {w : Mt} {i v k : Nat} (h : NU w i v) (hk : nb v ≤ k) : mL w i ≤ (k + 29) / 30 := h.fit (nb_le_iff.mp hk)
theorem NU_as {w w1 : Mt} {i a v : Nat} (h : NU w a v) (hl : mL w1 i = mL w a) (hf : ∀ j, j < mL w a → mW w1 i j = mW w a j) : NU w1 i v := by
  unfold NU
  rw [hl]
  refine ⟨h.1, ?_, ?_⟩
  · rcases h.2.1 with q | q
    · exact Or.inl q
    · rcases Nat.eq_zero_or_pos (mL w a) with z | z
      · exact Or.inl z
      · right; rw [hf _ (by omega)]; exact q
  · rw [← h.2.2]
    exact uV_congr (fun j hj => by rw [Nat.zero_add]; exact hf j hj)
/-- the first j of m words -/
def uM (f : Nat → Nat) (m j : Nat) : Nat := uV f 0 (min j m)
theorem uM_0 (f : Nat → Nat) (m : Nat) : uM f m 0 = 0 := by unfold uM; rw [Nat.zero_min]; rfl
theorem uM_lt {f : Nat → Nat} {m j : Nat} (h : j < m) : uM f m (j + 1) = uM f m j + f j * 1073741824 ^ j := by
  unfold uM
  rw [Nat.min_eq_left (by omega), Nat.min_eq_left (by omega), uV_suc0]
theorem uM_ge {f : Nat → Nat} {m j : Nat} (h : m ≤ j) : uM f m (j + 1) = uM f m j := by
  unfold uM
  rw [Nat.min_eq_right (by omega), Nat.min_eq_right h]
theorem uM_all {f : Nat → Nat} {m j : Nat} (h : m ≤ j) : uM f m j = uV f 0 m := by
  unfold uM
  rw [Nat.min_eq_right h]
theorem u_lex {f g : Nat → Nat} (hf : B3 f) {L k : Nat} (hk : k < L) (he : ∀ j, k < j → j < L → f j = g j) (h : f k < g k) : uV f 0 L < uV g 0 L := by
  obtain ⟨d, rfl⟩ : ∃ d, L = k + 1 + d := ⟨L - (k + 1), by omega⟩
  rw [uV_add f 0 (k + 1) d, uV_add g 0 (k + 1) d, uV_suc0 f k, uV_suc0 g k, uV_congr (f := f) (g := g) (a := 0 + (k + 1)) (b := 0 + (k + 1)) (n := d) (fun j hj => he _ (by omega) (by omega))]
  have h1 := uV_lt hf 0 k
  have h2 : (f k + 1) * 1073741824 ^ k ≤ g k * 1073741824 ^ k := Nat.mul_le_mul_right _ h
  rw [Nat.add_mul, Nat.one_mul] at h2
  omega
/-! the machine's numbers -/
theorem nI_mask (n : Nat) : nI n &&& 1073741823 = nI (n % 1073741824) := by
  apply wN_inj
  rw [wN_nI]
  show (BitVec.ofNat 32 n &&& 1073741823#32).toNat = _
  rw [BitVec.toNat_and, BitVec.toNat_ofNat]
  show (n % 4294967296) &&& (2 ^ 30 - 1) = _
  rw [Nat.and_two_pow_sub_one_eq_mod]
  omega
theorem nI_us30 {n : Nat} (h : n < 4294967296) : us (nI n) 30 = nI (n / 1073741824) := by
  apply wN_inj
  rw [wN_us _ (by decide), wN_nI, wN_nI]
  omega
theorem lN_toI {n : Nat} (h : n < 2 ^ 63) : (lN n).toInt = (n : Int) := by rw [lZ_N, lZ_toInt (by omega) (by omega)]
theorem lN_srk {n k : Nat} (h : n < 2 ^ 63) (hk : k < 64) : lN n >>> ((nI k).toInt64 &&& 63) = lN (n / 2 ^ k) := by
  have h1 : (((nI k).toInt64 &&& 63).toBitVec.smod 64).toNat = k := by
    rw [lN_c k hk, lN_tb, lN_sm k hk, BitVec.toNat_ofNat, Nat.mod_eq_of_lt (by omega)]
  have e : (lN n >>> ((nI k).toInt64 &&& 63)).toInt = ((lN n).toBitVec.sshiftRight' (((nI k).toInt64 &&& 63).toBitVec.smod 64)).toInt := rfl
  rw [lZ_N (n / 2 ^ k)]
  apply lZ_inj
  rw [e, BitVec.sshiftRight_eq', h1, BitVec.toInt_sshiftRight]
  have e2 : (lN n).toBitVec.toInt = (n : Int) := lN_toI h
  rw [e2, Int.shiftRight_eq_div_pow]
  norm_cast
theorem lN_sr30 {n : Nat} (h : n < 2 ^ 63) : lN n >>> ((nI 30).toInt64 &&& 63) = lN (n / 1073741824) := lN_srk h (by decide)
theorem lN_eqI {a b : Nat} (ha : a < 2 ^ 64) (hb : b < 2 ^ 64) : lN a = lN b ↔ a = b := by
  constructor
  · intro h
    have := congrArg (fun x : Int64 => x.toBitVec.toNat) h
    simp only [lN_tb, BitVec.toNat_ofNat] at this
    rw [Nat.mod_eq_of_lt ha, Nat.mod_eq_of_lt hb] at this
    exact this
  · intro h; rw [h]
theorem lN_div {a b : Nat} (ha : a < 2 ^ 63) (hb : b < 2 ^ 63) : lN a / lN b = lN (a / b) := by
  have h0 : lN a ≠ Int64.minValue := by
    intro q
    have := congrArg Int64.toInt q
    rw [lN_toI ha] at this
    have h2 : Int64.minValue.toInt = -9223372036854775808 := by decide
    omega
  have e := Int64.toInt_div_of_ne_left (lN a) (lN b) h0
  rw [lN_toI ha, lN_toI hb] at e
  rw [lZ_N (a / b)]
  apply lZ_inj
  rw [e]
  exact (Int.ofNat_tdiv a b).symm
theorem lN_orA {h x : Nat} (hh : h < 8589934592) (hx : x < 1073741824) : lN (h * 1073741824) ||| lN x = lN (h * 1073741824 + x) := by
  rw [lN_or (by omega) (by omega)]
  congr 1
  have := Nat.two_pow_add_eq_or_of_lt (i := 30) hx h
  rw [Nat.mul_comm]
  exact this.symm
theorem nI_or {a b : Nat} (ha : a < 4294967296) (hb : b < 4294967296) : nI a ||| nI b = nI (a ||| b) := by
  apply wN_inj
  rw [wN_or, wN_small ha, wN_small hb, wN_small (Nat.or_lt_two_pow (n := 32) ha hb)]
theorem or_low {a b p : Nat} (ha : a % 2 ^ p = 0) (hb : b < 2 ^ p) : a ||| b = a + b := by
  have h := Nat.two_pow_add_eq_or_of_lt hb (a / 2 ^ p)
  have e : 2 ^ p * (a / 2 ^ p) = a := by
    have := Nat.div_add_mod a (2 ^ p)
    omega
  rw [e] at h
  exact h.symm
theorem nI_shl {n k : Nat} (hk : k < 32) : nI n <<< (nI k &&& 31) = nI (n * 2 ^ k) := by
  apply wN_inj
  have h := wN_sl (nI n) hk
  rw [wN_nI] at h
  rw [wN_nI, ← Nat.mod_mul_mod]
  exact h
theorem lN_rem {a b : Nat} (ha : a < 2 ^ 63) (hb : b < 2 ^ 63) : lN a - lN a / lN b * lN b = lN (a % b) := by
  have h := Nat.div_add_mod a b
  rw [Nat.mul_comm] at h
  rw [lN_div ha hb, lN_mul, lN_sub (by omega)]
  congr 1
  omega
section NWM
variable {p : Program} {l : Launch} {e : Env} {R : Room} {s : State} {m : MethodId} {args : Array Value} {below : List Frame} {meth : Method} {c : Code} {H : Heap} {locs : List Loc} {cells slots : Nat} {Q : State → Prop}
variable {cc : ByteArray} {pc : Nat} {ls : Array Slot} {rest : List Value}
theorem nw_lrem (hexec : p.tables.exec = Jvm.exec) (hb : c.code = cc) {x y v : Int64} (hdg : decode cc pc = .ok (.lrem, 1)) (hne : ¬ y = 0) (hv : x - x / y * y = v)
    (k : W p l e R s m args below meth c H locs cells slots Q (F0 m (pc + 1) ls (.long v :: rest))) : W p l e R s m args below meth c H locs cells slots Q (F0 m pc ls (.long y :: .long x :: rest)) := by
  subst hv
  exact lv_lrem hexec hb hdg hne k
end NWM
/-! number i with the words f, of length n -/
def st (w : Mt) (i : Nat) (f : Nat → Nat) (n : Nat) : Mt := qL (qW w i f) i n
section ST
variable {w : Mt} {i : Nat} {f g : Nat → Nat} {n k : Nat}
theorem st_mL : mL (st w i f n) i = n := mL_qL _ _ _
theorem st_mW : mW (st w i f n) i = f := mW_qW w i f
theorem st_mLn (w : Mt) (f : Nat → Nat) (n : Nat) {i j : Nat} (h : j ≠ i) : mL (st w i f n) j = mL w j := mL_qLn _ n h
theorem st_mWn (w : Mt) (f : Nat → Nat) (n : Nat) {i j : Nat} (h : j ≠ i) : mW (st w i f n) j = mW w j := mW_qWn w f h
theorem sm_ext {a b : Mt} (h1 : mW a = mW b) (h2 : mL a = mL b) (h3 : a.2.2 = b.2.2) : a = b := Prod.ext h1 (Prod.ext h2 h3)
theorem st_qW : qW (st w i f n) i g = st w i g n := by
  refine sm_ext ?_ rfl rfl
  funext j
  show (if j = i then g else (if j = i then f else mW w j)) = (if j = i then g else mW w j)
  split <;> rfl
theorem st_qL : qL (st w i f n) i k = st w i f k := by
  refine sm_ext rfl ?_ rfl
  funext j
  show (if j = i then k else (if j = i then n else mL w j)) = (if j = i then k else mL w j)
  split <;> rfl
theorem st_ofW : qW w i f = st w i f (mL w i) := by
  refine sm_ext rfl ?_ rfl
  funext j
  show mL w j = (if j = i then mL w i else mL w j)
  split
  · rename_i h; rw [h]
  · rfl
theorem st_ofL : qL w i n = st w i (mW w i) n := by
  refine sm_ext ?_ rfl rfl
  funext j
  show mW w j = (if j = i then mW w i else mW w j)
  split
  · rename_i h; rw [h]
  · rfl
theorem st_st : st (st w i f n) i g k = st w i g k := by
  show qL (qW (st w i f n) i g) i k = _
  rw [st_qW, st_qL]
theorem st_self : st w i (mW w i) (mL w i) = w := by
  rw [← st_ofL]
  refine sm_ext rfl ?_ rfl
  funext j
  show (if j = i then mL w i else mL w j) = mL w j
  split
  · rename_i h; rw [h]
  · rfl
theorem eqM_st (w : Mt) (i : Nat) (f : Nat → Nat) (n : Nat) : eqM w (st w i f n) [i] := eqM_tr w i f n
theorem W3.st (h : W3 w) (hf : B3 f) : W3 (st w i f n) := (h.put hf).len
theorem NU_st {v : Nat} (hn : n ≤ 6800) (ht : n = 0 ∨ f (n - 1) ≠ 0) (hv : uV f 0 n = v) : NU (st w i f n) i v := NU_of hn ht hv
theorem cpy_B {a b : Nat} (hf : B3 f) (hg : B3 g) : B3 (va_cpy f g a b n) := fun j => by
  show (if b ≤ j ∧ j < b + n then f (a + (j - b)) else g j) < _
  split
  · exact hf _
  · exact hg _
end ST
theorem u_ch1 (f : Nat → Nat) (i L : Nat) : uV (upM f i (L % 1073741824)) 0 (i + 1) + L / 1073741824 * 1073741824 ^ (i + 1) = uV f 0 i + L * 1073741824 ^ i := by
  have := u_ch0 (f := f) (i := i) (y := L) (t := 0) rfl
  rw [Nat.add_zero, Nat.zero_mul, Nat.add_zero] at this
  exact this
theorem nI_sr {n k : Nat} (h : n < 2147483648) (hk : k < 32) : nI n >>> (nI k &&& 31) = nI (n / 2 ^ k) := by
  have h1 := sh_c k hk
  have e : (nI n >>> (nI k &&& 31)).toInt = ((nI n).toBitVec.sshiftRight' ((nI k &&& 31).toBitVec.smod 32)).toInt := rfl
  have e2 : (nI n).toBitVec.toInt = (n : Int) := by
    show (nI n).toInt = _
    rw [nI_iZ, iZ_toInt (by omega) (by omega)]
  have h2 : n / 2 ^ k ≤ n := Nat.div_le_self _ _
  have h3 : (((n / 2 ^ k : Nat)) : Int) = (n : Int) / 2 ^ k := by norm_cast
  obtain ⟨D, hD⟩ : ∃ D, D = n / 2 ^ k := ⟨_, rfl⟩
  rw [← hD] at h2 h3 ⊢
  apply Int32.toInt_inj.mp
  rw [e, BitVec.sshiftRight_eq', h1, BitVec.toInt_sshiftRight, e2, Int.shiftRight_eq_div_pow, nI_iZ D, iZ_toInt (by omega) (by omega), h3]
  norm_cast
theorem nI_and1 (n : Nat) : nI n &&& nI 1 = nI (n % 2) := by
  apply wN_inj
  rw [wN_nI]
  show (BitVec.ofNat 32 n &&& 1#32).toNat = _
  rw [BitVec.toNat_and, BitVec.toNat_ofNat]
  show (n % 4294967296) &&& (2 ^ 1 - 1) = _
  rw [Nat.and_two_pow_sub_one_eq_mod]
  omega
theorem nb_half {x : Nat} (h : x ≠ 0) : nb (x / 2) + 1 = nb x := by
  have a1 := nb_lt x
  have a2 := nb_le h
  have a3 := nb_pos h
  rcases Nat.lt_or_ge x 2 with q | q
  · have : x = 1 := by omega
    subst this
    rfl
  · have h2 : 2 ≤ nb x := by
      rcases Nat.lt_or_ge (nb x) 2 with z | z
      · have : nb x = 1 := by omega
        rw [this] at a1
        omega
      · exact z
    obtain ⟨k, hk⟩ : ∃ k, nb x = k + 2 := ⟨nb x - 2, by omega⟩
    rw [hk] at a1 a2 ⊢
    rw [show k + 2 - 1 = k + 1 by omega, Nat.pow_succ] at a2
    rw [show k + 2 = k + 1 + 1 by omega, Nat.pow_succ] at a1
    rw [nb_eq (v := x / 2) (k := k) (by omega) (by omega)]
/-- a word out of a value -/
theorem uV_word {f : Nat → Nat} (hf : B3 f) {L q : Nat} (h : q < L) : uV f 0 L / 1073741824 ^ q % 1073741824 = f q := by
  obtain ⟨d, rfl⟩ : ∃ d, L = q + (d + 1) := ⟨L - q - 1, by omega⟩
  rw [uV_add, Nat.zero_add, Nat.add_mul_div_left _ _ (Nat.pow_pos (by decide)), Nat.div_eq_of_lt (uV_lt hf 0 q), Nat.zero_add, uV_cons, Nat.add_mul_mod_self_left, Nat.mod_eq_of_lt (hf q)]
theorem bit_low {X r : Nat} (hr : r < 30) : X % 1073741824 / 2 ^ r % 2 = X / 2 ^ r % 2 := by
  have hB : (1073741824 : Nat) = 2 ^ r * (2 * 2 ^ (29 - r)) := by
    rw [← Nat.mul_assoc, ← Nat.pow_succ, ← Nat.pow_add, show r + 1 + (29 - r) = 30 by omega]
  have h := Nat.div_add_mod X 1073741824
  generalize X % 1073741824 = x at *
  generalize X / 1073741824 = y at *
  rw [← h, hB, Nat.mul_assoc, Nat.mul_add_div (Nat.pow_pos (by decide))]
  rw [show 2 * 2 ^ (29 - r) * y + x / 2 ^ r = x / 2 ^ r + 2 * (2 ^ (29 - r) * y) by rw [Nat.mul_assoc]; omega, Nat.add_mul_mod_self_left]
theorem uV_bit {f : Nat → Nat} (hf : B3 f) {L k : Nat} (h : k / 30 < L) : uV f 0 L / 2 ^ k % 2 = f (k / 30) / 2 ^ (k % 30) % 2 := by
  rw [← uV_word hf h, bit_low (Nat.mod_lt _ (by decide)), pw3, Nat.div_div_eq_div_mul, ← Nat.pow_add, Nat.div_add_mod]
theorem uV_bit0 {f : Nat → Nat} (hf : B3 f) {L k : Nat} (h : L ≤ k / 30) : uV f 0 L / 2 ^ k % 2 = 0 := by
  have h1 := uV_lt hf 0 L
  rw [pw3] at h1
  rw [Nat.div_eq_of_lt (Nat.lt_of_lt_of_le h1 (Nat.pow_le_pow_right (by decide) (by omega)))]
theorem nI_usk {n k : Nat} (h : n < 4294967296) (hk : k < 32) : us (nI n) k = nI (n / 2 ^ k) := by
  apply wN_inj
  have h2 : n / 2 ^ k ≤ n := Nat.div_le_self _ _
  rw [wN_us _ hk, wN_nI, wN_nI, Nat.mod_eq_of_lt h, Nat.mod_eq_of_lt (by omega)]

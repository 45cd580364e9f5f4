/-! STEPS of the reference's loops: the values -/
theorem u_ch2 {f : Nat → Nat} {i y t V S : Nat} (h : uV f 0 i + y * 1073741824 ^ i = V) (hS : S = y + t) : uV (upM f i (S % 1073741824)) 0 (i + 1) + S / 1073741824 * 1073741824 ^ (i + 1) = V + t * 1073741824 ^ i := by
  subst hS
  exact u_ch0 h
theorem uM_lt' {f : Nat → Nat} {m j x : Nat} (h : j < m) (hx : x = f j) : uM f m (j + 1) = uM f m j + x * 1073741824 ^ j := by rw [hx]; exact uM_lt h
theorem uM_ge' {f : Nat → Nat} {m j : Nat} (h : m ≤ j) : uM f m (j + 1) = uM f m j + 0 * 1073741824 ^ j := by rw [uM_ge h, Nat.zero_mul, Nat.add_zero]
theorem ad_step {f g h : Nat → Nat} {n m j y S x1 x2 : Nat} (hinv : uV f 0 j + y * 1073741824 ^ j = uM g n j + uM h m j) (h1 : uM g n (j + 1) = uM g n j + x1 * 1073741824 ^ j) (h2 : uM h m (j + 1) = uM h m j + x2 * 1073741824 ^ j) (hS : S = y + (x1 + x2)) :
    uV (upM f j (S % 1073741824)) 0 (j + 1) + S / 1073741824 * 1073741824 ^ (j + 1) = uM g n (j + 1) + uM h m (j + 1) := by
  rw [u_ch2 hinv hS, h1, h2, Nat.add_mul]
  omega
theorem up_keep {f g : Nat → Nat} {j x : Nat} (h : ∀ z, j ≤ z → f z = g z) : ∀ z, j + 1 ≤ z → upM f j x z = g z := fun z hz => by
  rw [upM_n (by omega)]
  exact h z (by omega)
theorem ls_eq {a b y : Nat} (ha : a < 1073741824) (hb : b < 1073741824) (hy : y ≤ 1) : nI a - nI b - nI y = nI (a + 4294967296 - (b + y)) := by
  apply Int32.toBitVec_inj.mp
  show BitVec.ofNat 32 a - BitVec.ofNat 32 b - BitVec.ofNat 32 y = BitVec.ofNat 32 (a + 4294967296 - (b + y))
  apply BitVec.eq_of_toNat_eq
  simp only [BitVec.toNat_sub, BitVec.toNat_ofNat]
  omega
theorem ls_lt {a b y : Nat} (ha : a < 1073741824) (hb : b < 1073741824) (hy : y ≤ 1) (h : a < b + y) : (nI a - nI b - nI y) &&& 1073741823 = nI (a + 1073741824 - (b + y)) := by
  rw [ls_eq ha hb hy, nI_mask]
  congr 1
  omega
theorem ls_ng {a b y : Nat} (ha : a < 1073741824) (hb : b < 1073741824) (hy : y ≤ 1) (h : a < b + y) : nI a - nI b - nI y < 0 := by
  rw [nI_sZ, nI_iZ, iZ_sub, show (0 : Int32) = iZ 0 from rfl, iZ_lt (by omega) (by omega) (by omega) (by omega)]
  omega
theorem ls_ge {a b y : Nat} (h : b + y ≤ a) : nI a - nI b - nI y = nI (a - (b + y)) := by
  rw [pk_sub (by omega), pk_sub (by omega)]
  congr 1
  omega
theorem le_step {f g h : Nat → Nat} {m j y y' X x2 : Nat} (hinv : uV f 0 j + uM h m j = uV g 0 j + y * 1073741824 ^ j) (h2 : uM h m (j + 1) = uM h m j + x2 * 1073741824 ^ j) (hX : X + (x2 + y) = g j + y' * 1073741824) :
    uV (upM f j X) 0 (j + 1) + uM h m (j + 1) = uV g 0 (j + 1) + y' * 1073741824 ^ (j + 1) := by
  have e := uV_push f 0 j X
  rw [Nat.zero_add] at e
  rw [e, h2, uV_suc0, Nat.pow_succ]
  have e2 : (X + (x2 + y)) * 1073741824 ^ j = (g j + y' * 1073741824) * 1073741824 ^ j := by rw [hX]
  rw [Nat.add_mul, Nat.add_mul, Nat.add_mul] at e2
  have e3 : y' * (1073741824 ^ j * 1073741824) = y' * 1073741824 * 1073741824 ^ j := by rw [Nat.mul_comm (1073741824 ^ j), Nat.mul_assoc]
  rw [e3]
  omega
theorem ti_step {f g : Nat → Nat} {j y d S : Nat} (hinv : uV f 0 j + y * 1073741824 ^ j = uV g 0 j * d) (hS : S = g j * d + y) :
    uV (upM f j (S % 1073741824)) 0 (j + 1) + S / 1073741824 * 1073741824 ^ (j + 1) = uV g 0 (j + 1) * d := by
  rw [u_ch2 (t := g j * d) hinv (by omega), uV_suc0, Nat.add_mul, Nat.mul_right_comm]
theorem ti_rest {x y d : Nat} (hx : x < 1073741824) (hy : y < d) : (x * d + y) / 1073741824 < d := by
  rw [Nat.div_lt_iff_lt_mul (by decide)]
  have : (x + 1) * d ≤ 1073741824 * d := Nat.mul_le_mul_right _ hx
  rw [Nat.add_mul] at this
  rw [Nat.mul_comm d]
  omega
theorem ov_step {f g : Nat → Nat} {k n d r x : Nat} (hq : uV f (k + 1) n * d + r = uV g (k + 1) n) (hx : x = g k) :
    uV (upM f k ((r * 1073741824 + x) / d)) k (n + 1) * d + (r * 1073741824 + x) % d = uV g k (n + 1) := by
  rw [uV_cons, uV_cons, upM_s, uV_out (Or.inl (by omega)), ← hq, ← hx]
  have h1 := Nat.div_add_mod (r * 1073741824 + x) d
  generalize (r * 1073741824 + x) / d = s at *
  generalize (r * 1073741824 + x) % d = z at *
  generalize uV f (k + 1) n = q
  have e1 : (s + 1073741824 * q) * d = d * s + 1073741824 * (q * d) := by rw [Nat.add_mul, Nat.mul_assoc, Nat.mul_comm s]
  rw [e1]
  generalize d * s = a at *
  generalize q * d = b
  omega
theorem ov_share {r x d : Nat} (hr : r < d) (hx : x < 1073741824) : (r * 1073741824 + x) / d < 1073741824 := by
  rw [Nat.div_lt_iff_lt_mul (by omega)]
  have : (r + 1) * 1073741824 ≤ d * 1073741824 := Nat.mul_le_mul_right _ hr
  rw [Nat.add_mul] at this
  rw [Nat.mul_comm 1073741824 d]
  omega
theorem aj_step {f : Nat → Nat} {j n y S V : Nat} (hj : j < n) (hinv : uV f 0 n + y * 1073741824 ^ j = V) (hS : S = f j + y) : uV (upM f j (S % 1073741824)) 0 n + S / 1073741824 * 1073741824 ^ (j + 1) = V := by
  have e := uV_mid f 0 (S % 1073741824) hj
  rw [Nat.zero_add] at e
  have e2 := p3_split S (1073741824 ^ j)
  rw [hS, Nat.add_mul] at e2
  rw [← hS] at e2
  rw [Nat.pow_succ]
  omega
theorem pr_bnd {x y o q : Nat} (hx : x < 1073741824) (hy : y < 1073741824) (ho : o < 1073741824) (hq : q < 1073741824) : x * y + o + q < 1152921504606846976 ∧ (x * y + o + q) / 1073741824 < 1073741824 := by
  have : x * y ≤ 1073741823 * 1073741823 := Nat.mul_le_mul (by omega) (by omega)
  omega
theorem pm_step {f h : Nat → Nat} {i m j y x V S : Nat} (hj : j < m) (hinv : uV f 0 (i + m) + y * 1073741824 ^ (i + j) = V + x * uV h 0 j * 1073741824 ^ i) (hS : S = x * h j + f (i + j) + y) :
    uV (upM f (i + j) (S % 1073741824)) 0 (i + m) + S / 1073741824 * 1073741824 ^ (i + (j + 1)) = V + x * uV h 0 (j + 1) * 1073741824 ^ i := by
  have e := uV_mid f 0 (S % 1073741824) (show i + j < i + m by omega)
  rw [Nat.zero_add] at e
  have e2 := p3_split S (1073741824 ^ (i + j))
  rw [hS, Nat.add_mul, Nat.add_mul] at e2
  rw [← hS] at e2
  have e3 : x * uV h 0 (j + 1) * 1073741824 ^ i = x * uV h 0 j * 1073741824 ^ i + x * h j * 1073741824 ^ (i + j) := by
    rw [uV_suc0, Nat.mul_add, Nat.add_mul, Nat.pow_add, ← Nat.mul_assoc x (h j), Nat.mul_assoc (x * h j), Nat.mul_comm (1073741824 ^ j)]
  rw [e3, show i + (j + 1) = i + j + 1 by omega, Nat.pow_succ]
  omega
theorem pm_end {f g h : Nat → Nat} {i m y : Nat} (hinv : uV f 0 (i + m) + y * 1073741824 ^ (i + m) = uV g 0 i * uV h 0 m + g i * uV h 0 m * 1073741824 ^ i) : uV (upM f (i + m) y) 0 (i + 1 + m) = uV g 0 (i + 1) * uV h 0 m := by
  have e := uV_push f 0 (i + m) y
  rw [Nat.zero_add] at e
  rw [show i + 1 + m = i + m + 1 by omega, e, hinv, uV_suc0, Nat.add_mul, Nat.mul_right_comm]
theorem us_step {f g : Nat → Nat} {k q n pt X : Nat} (hpt : pt < 30) (hinv : uV f (k + 1 + q) (n + 1) = uV g (k + 1) n * 2 ^ pt) (hX : X = f (k + 1 + q) + g k * 2 ^ pt / 1073741824) :
    uV (upM (upM f (k + q + 1) X) (k + q) (g k * 2 ^ pt % 1073741824)) (k + q) (n + 2) = uV g k (n + 1) * 2 ^ pt := by
  rw [show n + 2 = n + 1 + 1 from rfl, uV_cons, upM_s, uV_out (Or.inl (by omega)), uV_cons, upM_s, uV_out (Or.inl (by omega)), hX]
  rw [show k + 1 + q = k + q + 1 by omega, uV_cons] at hinv
  rw [uV_cons, Nat.add_mul, Nat.mul_assoc, ← hinv, show k + 1 + q = k + q + 1 by omega]
  have h := Nat.div_add_mod (g k * 2 ^ pt) 1073741824
  generalize g k * 2 ^ pt = Y at *
  generalize uV f (k + q + 1 + 1) n = T
  generalize f (k + q + 1) = z
  omega
theorem us_end {f g : Nat → Nat} {n q pt v : Nat} (hinv : uV f q (n + 1) = uV g 0 n * 2 ^ pt) (hz : ∀ j, j < q → f j = 0) (hv : uV g 0 n = v) : uV f 0 (n + q + 1) = v * 2 ^ (30 * q + pt) := by
  rw [show n + q + 1 = q + (n + 1) by omega, uV_add, uV_zero (fun i hi => by rw [Nat.zero_add]; exact hz i hi), Nat.zero_add, Nat.zero_add, hinv, hv, pw3, Nat.pow_add, Nat.mul_left_comm]
theorem dw_step {f : Nat → Nat} {j pt r0 V x y : Nat} (hpt : pt < 30) (hx : x < 1073741824) (hinv : uV f 0 j * 2 ^ pt + r0 = V + x % 2 ^ pt * 1073741824 ^ j) :
    uV (upM f j ((x + y * 1073741824) / 2 ^ pt % 1073741824)) 0 (j + 1) * 2 ^ pt + r0 = V + x * 1073741824 ^ j + y % 2 ^ pt * 1073741824 ^ (j + 1) := by
  have e := uV_push f 0 j ((x + y * 1073741824) / 2 ^ pt % 1073741824)
  rw [Nat.zero_add] at e
  have hB : (1073741824 : Nat) = 2 ^ pt * 2 ^ (30 - pt) := by rw [← Nat.pow_add, show pt + (30 - pt) = 30 by omega]
  -- the word
  have h : ((x + y * 1073741824) / 2 ^ pt % 1073741824) * 2 ^ pt + x % 2 ^ pt = x + y % 2 ^ pt * 1073741824 := by
    have hp : 0 < 2 ^ pt := Nat.pow_pos (by decide)
    have e1 : (x + y * 1073741824) / 2 ^ pt = x / 2 ^ pt + 2 ^ (30 - pt) * y := by
      rw [show y * 1073741824 = 2 ^ pt * (2 ^ (30 - pt) * y) by rw [← Nat.mul_assoc, ← hB, Nat.mul_comm], Nat.add_mul_div_left _ _ hp]
    have e2 : x / 2 ^ pt < 2 ^ (30 - pt) := by
      rw [Nat.div_lt_iff_lt_mul hp, Nat.mul_comm, ← hB]
      exact hx
    have e3 : (x / 2 ^ pt + 2 ^ (30 - pt) * y) % 1073741824 = x / 2 ^ pt + 2 ^ (30 - pt) * (y % 2 ^ pt) := by
      have e4 := Nat.div_add_mod y (2 ^ pt)
      have e5 : 2 ^ (30 - pt) * y = 2 ^ (30 - pt) * (y % 2 ^ pt) + 1073741824 * (y / 2 ^ pt) := by
        have e6 : 2 ^ (30 - pt) * (2 ^ pt * (y / 2 ^ pt) + y % 2 ^ pt) = 2 ^ (30 - pt) * (y % 2 ^ pt) + 1073741824 * (y / 2 ^ pt) := by
          rw [Nat.mul_add, ← Nat.mul_assoc, Nat.mul_comm (2 ^ (30 - pt)) (2 ^ pt), ← hB]
          omega
        rw [e4] at e6
        exact e6
      rw [e5, ← Nat.add_assoc, Nat.add_mul_mod_self_left]
      apply Nat.mod_eq_of_lt
      have h7 := Nat.mod_lt y hp
      have h8 : 2 ^ (30 - pt) * (y % 2 ^ pt + 1) ≤ 2 ^ (30 - pt) * 2 ^ pt := Nat.mul_le_mul_left _ h7
      rw [Nat.mul_comm (2 ^ (30 - pt)) (2 ^ pt), ← hB, Nat.mul_add, Nat.mul_one] at h8
      omega
    rw [e1, e3, Nat.add_mul, Nat.mul_right_comm, Nat.mul_comm (2 ^ (30 - pt)) (2 ^ pt), ← hB]
    have e9 := Nat.div_add_mod x (2 ^ pt)
    rw [Nat.mul_comm (2 ^ pt)] at e9
    rw [Nat.mul_comm 1073741824]
    omega
  rw [e, Nat.pow_succ]
  generalize (x + y * 1073741824) / 2 ^ pt % 1073741824 = d at *
  generalize x % 2 ^ pt = xm at *
  generalize y % 2 ^ pt = ym at *
  generalize 2 ^ pt = P at *
  generalize 1073741824 ^ j = Q at *
  have e1 : (uV f 0 j + d * Q) * P = uV f 0 j * P + d * P * Q := by rw [Nat.add_mul, Nat.mul_right_comm]
  have e2 : (d * P + xm) * Q = (x + ym * 1073741824) * Q := by rw [h]
  rw [Nat.add_mul, Nat.add_mul] at e2
  have e3 : ym * (Q * 1073741824) = ym * 1073741824 * Q := by rw [Nat.mul_comm Q, Nat.mul_assoc]
  rw [e1, e3]
  omega
theorem dw_end {f g : Nat → Nat} (hg : B3 g) {n q pt v r0 t : Nat} (hv : uV g 0 n = v) (ht : t = n - q) (h : uV f 0 t * 2 ^ pt + r0 = uV g q t) (hr : r0 < 2 ^ pt) : uV f 0 t = v / 2 ^ (30 * q + pt) := by
  have h1 : v / 1073741824 ^ q = uV g q t := by
    rcases Nat.lt_or_ge n q with z | z
    · have : t = 0 := by omega
      subst this
      rw [← hv, Nat.div_eq_of_lt (Nat.lt_of_lt_of_le (uV_lt hg 0 n) (Nat.pow_le_pow_right (by decide) (by omega)))]
      rfl
    · have e : uV g 0 n = uV g 0 q + 1073741824 ^ q * uV g (0 + q) t := by rw [← uV_add, show q + t = n by omega]
      rw [← hv, e, Nat.zero_add, Nat.add_mul_div_left _ _ (Nat.pow_pos (by decide)), Nat.div_eq_of_lt (uV_lt hg 0 q), Nat.zero_add]
  rw [Nat.pow_add, ← pw3, ← Nat.div_div_eq_div_mul, h1]
  exact (rd_end h hr).1
def flM (f : Nat → Nat) (a b x : Nat) : Nat → Nat := fun j => if a ≤ j ∧ j < b then x else f j
theorem flM_in {f : Nat → Nat} {a b j x : Nat} (h1 : a ≤ j) (h2 : j < b) : flM f a b x j = x := if_pos ⟨h1, h2⟩
theorem flM_out {f : Nat → Nat} {a b j x : Nat} (h : j < a ∨ b ≤ j) : flM f a b x j = f j := if_neg (by omega)
theorem flM_0 (f : Nat → Nat) (a x : Nat) : flM f a a x = f := by
  funext j
  exact flM_out (by omega)
theorem flM_suc (f : Nat → Nat) {a b : Nat} (x : Nat) (h : a ≤ b) : upM (flM f a b x) b x = flM f a (b + 1) x := by
  funext j
  show (if j = b then x else if a ≤ j ∧ j < b then x else f j) = if a ≤ j ∧ j < b + 1 then x else f j
  by_cases h1 : j = b
  · rw [if_pos h1, if_pos (by omega)]
  · rw [if_neg h1]
    by_cases h2 : a ≤ j ∧ j < b
    · rw [if_pos h2, if_pos (by omega)]
    · rw [if_neg h2, if_neg (by omega)]
theorem flM_B {f : Nat → Nat} {a b x : Nat} (h : B3 f) (hx : x < 1073741824) : B3 (flM f a b x) := fun j => by
  show (if a ≤ j ∧ j < b then x else f j) < _
  split
  · exact hx
  · exact h j
theorem us_mod {x pt : Nat} (hpt : pt < 30) : x * 2 ^ pt % 1073741824 % 2 ^ pt = 0 := by
  have hB : (1073741824 : Nat) = 2 ^ pt * 2 ^ (30 - pt) := by rw [← Nat.pow_add, show pt + (30 - pt) = 30 by omega]
  rw [hB, Nat.mod_mul_right_mod, Nat.mul_mod_left]
theorem us_hi {x pt : Nat} (hx : x < 1073741824) : x * 2 ^ pt / 1073741824 < 2 ^ pt := by
  rw [Nat.div_lt_iff_lt_mul (by decide), Nat.mul_comm (2 ^ pt)]
  exact Nat.mul_lt_mul_of_pos_right hx (Nat.pow_pos (by decide))
theorem p2_30 {pt : Nat} (h : pt < 30) : 2 ^ pt < 1073741824 := Nat.pow_lt_pow_right (by decide) h
theorem us_or {a b pt : Nat} (ha : a < 1073741824) (hm : a % 2 ^ pt = 0) (hpt : pt < 30) (hb : b < 2 ^ pt) : nI a ||| nI b = nI (a + b) ∧ a + b < 1073741824 := by
  have h1 := p2_30 hpt
  have e := or_low hm hb
  refine ⟨by rw [nI_or (by omega) (by omega), e], ?_⟩
  rw [← e]
  exact Nat.or_lt_two_pow (n := 30) ha (by omega)
theorem lN_orB {a b : Nat} (ha : a < 1073741824) (hb : b < 1073741824) : lN a ||| lN (b * 1073741824) = lN (a + b * 1073741824) := by
  rw [lN_or (by omega) (by omega), Nat.or_comm, ← lN_or (by omega) (by omega), lN_orA (by omega) ha, Nat.add_comm]
theorem lN_or0 {a : Nat} (ha : a < 1073741824) : lN a ||| lN 0 = lN (a + 0 * 1073741824) := lN_orB (b := 0) ha (by decide)
theorem pk_subL (a b : Nat) : nI (a + b) - nI a = nI b := by rw [pk_sub (by omega), Nat.add_sub_cancel_left]
theorem p2_k (k : Nat) : 2 ^ k = 1073741824 ^ (k / 30) * 2 ^ (k % 30) := by rw [pw3, ← Nat.pow_add, Nat.div_add_mod]
/-! the reference's division -/
theorem tt_sub {r Z : Nat} (hr : r < 1073741824) (hZ : Z < 2305843009213693952) : ∃ r' y', r' < 1073741824 ∧ r' + Z = r + y' * 1073741824 ∧ (lZ ((r : Int) - (Z : Int))).toInt32 &&& 1073741823 = nI r' ∧ -(lZ ((r : Int) - (Z : Int)) >>> ((nI 30).toInt64 &&& 63)) = lN y' := by
  obtain ⟨z, hz⟩ : ∃ z : Int, z = (r : Int) - (Z : Int) := ⟨_, rfl⟩
  rw [← hz]
  have hd := Int.mul_ediv_add_emod z 1073741824
  have hm1 := Int.emod_nonneg z (show (1073741824 : Int) ≠ 0 by decide)
  have hm2 := Int.emod_lt_of_pos z (show (0 : Int) < 1073741824 by decide)
  have hs : lZ z >>> ((nI 30).toInt64 &&& 63) = lZ (z / 1073741824) := by
    apply lZ_inj
    have h : (((nI 30).toInt64 &&& 63).toBitVec.smod 64).toNat = 30 := by decide
    have e : (lZ z >>> ((nI 30).toInt64 &&& 63)).toInt = ((lZ z).toBitVec.sshiftRight' (((nI 30).toInt64 &&& 63).toBitVec.smod 64)).toInt := rfl
    have e2 : (lZ z).toBitVec.toInt = z := lZ_toInt (by omega) (by omega)
    rw [e, BitVec.sshiftRight_eq', h, BitVec.toInt_sshiftRight, e2, Int.shiftRight_eq_div_pow]
    rfl
  have hw : (lZ z).toInt32 &&& 1073741823 = nI (z % 1073741824).toNat := by
    have h1 := lZ_word (z := z)
    have h2 : (lZ z).toInt32 = nI (wN (lZ z).toInt32) := (nI_wN _).symm
    rw [h2, nI_mask]
    congr 1
    omega
  refine ⟨(z % 1073741824).toNat, (-(z / 1073741824)).toNat, by omega, by omega, hw, ?_⟩
  rw [hs, lZ_N]
  have h9 : (((-(z / 1073741824)).toNat : Nat) : Int) = -(z / 1073741824) := by omega
  rw [h9]
  show -(Int64.ofInt _) = Int64.ofInt _
  rw [Int64.ofInt_neg]
theorem tt_carry {x d y r r' y' : Nat} (hx : x < 1073741824) (hd : d < 1073741824) (hy : y < 1073741824) (hr : r < 1073741824) (hr' : r' < 1073741824) (h : r' + (x * d + y) = r + y' * 1073741824) : y' < 1073741824 := by
  have : x * d ≤ 1073741823 * 1073741823 := Nat.mul_le_mul (by omega) (by omega)
  omega
theorem tt_bnd {x d y : Nat} (hx : x < 1073741824) (hd : d < 1073741824) (hy : y < 1073741824) : x * d + y < 2305843009213693952 := by
  have : x * d ≤ 1073741823 * 1073741823 := Nat.mul_le_mul (by omega) (by omega)
  omega
theorem tt_z {r x y : Nat} : lN r - lN x - lN y = lZ ((r : Int) - ((x + y : Nat) : Int)) := by
  rw [lZ_N, lZ_N, lZ_N, lZ_sub, lZ_sub, Int.natCast_add]
  congr 1
  omega
theorem tt_step {f g : Nat → Nat} {a t x M M' d y y' X : Nat} (hinv : uV f a t + x * M = uV g a t + y * 1073741824 ^ t) (hM : M' = M + d * 1073741824 ^ t) (hX : X + (x * d + y) = g (a + t) + y' * 1073741824) :
    uV (upM f (a + t) X) a (t + 1) + x * M' = uV g a (t + 1) + y' * 1073741824 ^ (t + 1) := by
  rw [uV_push, uV_suc, Nat.pow_succ, hM, Nat.mul_add]
  have e2 : (X + (x * d + y)) * 1073741824 ^ t = (g (a + t) + y' * 1073741824) * 1073741824 ^ t := by rw [hX]
  rw [Nat.add_mul, Nat.add_mul, Nat.add_mul, Nat.mul_assoc x d] at e2
  have e3 : y' * (1073741824 ^ t * 1073741824) = y' * 1073741824 * 1073741824 ^ t := by rw [Nat.mul_comm (1073741824 ^ t), Nat.mul_assoc]
  rw [e3]
  omega
theorem tb_step {f g : Nat → Nat} {a t x M M' d y S : Nat} (hinv : uV f a t + y * 1073741824 ^ t = uV g a t + x * M) (hM : M' = M + d * 1073741824 ^ t) (hS : S = g (a + t) + x * d + y) :
    uV (upM f (a + t) (S % 1073741824)) a (t + 1) + S / 1073741824 * 1073741824 ^ (t + 1) = uV g a (t + 1) + x * M' := by
  subst hS
  rw [show g (a + t) + x * d + y = y + (g (a + t) + x * d) by omega, u_ch hinv, uV_suc g, hM, Nat.mul_add, Nat.add_mul, Nat.mul_assoc x d]
  omega
theorem tt_keep {f g : Nat → Nat} {a t x : Nat} (h : ∀ z, (z < a ∨ a + t ≤ z) → f z = g z) : ∀ z, (z < a ∨ a + (t + 1) ≤ z) → upM f (a + t) x z = g z := fun z hz => by
  rw [upM_n (by omega)]
  exact h z (by omega)
theorem st_comm {w : Mt} {i j : Nat} {f g : Nat → Nat} {n k : Nat} (h : i ≠ j) : st (st w i f n) j g k = st (st w j g k) i f n := by
  refine sm_ext ?_ ?_ rfl
  · funext q
    show (if q = j then g else if q = i then f else mW w q) = if q = i then f else if q = j then g else mW w q
    by_cases h1 : q = j
    · rw [if_pos h1, if_neg (by omega), if_pos h1]
    · rw [if_neg h1, if_neg h1]
  · funext q
    show (if q = j then k else if q = i then n else mL w q) = if q = i then n else if q = j then k else mL w q
    by_cases h1 : q = j
    · rw [if_pos h1, if_neg (by omega), if_pos h1]
    · rw [if_neg h1, if_neg h1]
theorem st_under {w : Mt} {i j : Nat} {f g f' : Nat → Nat} {n k n' : Nat} (h : i ≠ j) : st (st (st w i f n) j g k) i f' n' = st (st w i f' n') j g k := by
  rw [st_comm (i := i) (j := j) h, st_st, st_comm (Ne.symm h)]
/-- the guess is not too small -/
theorem dg_ge {f d : Nat → Nat} (hf : B3 f) (hd : B3 d) {j n : Nat} (hn : 1 ≤ n) (h0 : d (n - 1) ≠ 0) : uV f j (n + 1) / uV d 0 n ≤ (f (j + n) * 1073741824 + f (j + n - 1)) / d (n - 1) := by
  obtain ⟨k, rfl⟩ : ∃ k, n = k + 1 := ⟨n - 1, by omega⟩
  rw [show k + 1 - 1 = k from rfl] at *
  rw [show j + (k + 1) - 1 = j + k by omega]
  have hk := uV_lt hf j k
  have hP : 0 < 1073741824 ^ k := Nat.pow_pos (by decide)
  have e1 : uV f j (k + 1 + 1) / 1073741824 ^ k = f (j + (k + 1)) * 1073741824 + f (j + k) := by
    rw [uV_suc, uV_suc, Nat.pow_succ]
    rw [show uV f j k + f (j + k) * 1073741824 ^ k + f (j + (k + 1)) * (1073741824 ^ k * 1073741824) = uV f j k + 1073741824 ^ k * (f (j + (k + 1)) * 1073741824 + f (j + k)) by
      rw [Nat.mul_add, Nat.mul_comm (f (j + k)), show f (j + (k + 1)) * (1073741824 ^ k * 1073741824) = 1073741824 ^ k * (f (j + (k + 1)) * 1073741824) by rw [Nat.mul_left_comm]]; omega]
    rw [Nat.add_mul_div_left _ _ hP, Nat.div_eq_of_lt hk, Nat.zero_add]
  have e2 : d k * 1073741824 ^ k ≤ uV d 0 (k + 1) := by rw [uV_suc0]; omega
  have e3 : 0 < d k * 1073741824 ^ k := Nat.mul_pos (by omega) hP
  calc uV f j (k + 1 + 1) / uV d 0 (k + 1) ≤ uV f j (k + 1 + 1) / (d k * 1073741824 ^ k) := Nat.div_le_div_left e2 e3
    _ = uV f j (k + 1 + 1) / 1073741824 ^ k / d k := by rw [Nat.mul_comm, Nat.div_div_eq_div_mul]
    _ = _ := by rw [e1]
theorem dv_win {f : Nat → Nat} (hf : B3 f) {j n D : Nat} (hD : D ≤ 1073741824 ^ n) (h : uV f j (n + 1) < D) : f (j + n) = 0 ∧ uV f j n = uV f j (n + 1) := by
  rw [uV_suc] at h ⊢
  rcases Nat.eq_zero_or_pos (f (j + n)) with z | z
  · exact ⟨z, by rw [z]; omega⟩
  · have : 1 * 1073741824 ^ n ≤ f (j + n) * 1073741824 ^ n := Nat.mul_le_mul_right _ z
    omega
theorem dv_q {X D x : Nat} (hD : 0 < D) (h1 : X / D ≤ x) (h2 : x * D ≤ X) : x = X / D ∧ X - x * D = X % D := by
  have h3 : x ≤ X / D := (Nat.le_div_iff_mul_le hD).mpr h2
  have e : x = X / D := by omega
  have h4 := Nat.div_add_mod X D
  rw [Nat.mul_comm, ← e] at h4
  exact ⟨e, by omega⟩
/-- a word of the quotient is found -/
theorem dv_step {f f' g : Nat → Nat} (hf : B3 f) (hf' : B3 f') {j n t N0 D x X : Nat} (hD0 : 0 < D) (hDn : D ≤ 1073741824 ^ n) (hN : N0 = uV g (j + 1) t * 1073741824 ^ (j + 1) * D + uV f 0 (j + 1 + n)) (hX : X = uV f j (n + 1)) (hx : x = X / D) (hw : uV f' j (n + 1) = X % D) (hk : ∀ z, z < j → f' z = f z) :
    N0 = uV (upM g j x) j (t + 1) * 1073741824 ^ j * D + uV f' 0 (j + n) ∧ uV f' 0 (j + n) < D * 1073741824 ^ j := by
  have hm := Nat.mod_lt X hD0
  have h1 := dv_win hf' hDn (show uV f' j (n + 1) < D by rw [hw]; exact hm)
  have e0 : uV f' 0 j = uV f 0 j := uV_congr (fun i hi => by rw [Nat.zero_add]; exact hk i hi)
  have e1 : uV f' 0 (j + n) = uV f 0 j + 1073741824 ^ j * (X % D) := by rw [uV_add, Nat.zero_add, h1.2, hw, e0]
  have e2 : uV f 0 (j + 1 + n) = uV f 0 j + 1073741824 ^ j * X := by rw [show j + 1 + n = j + (n + 1) by omega, uV_add, Nat.zero_add, ← hX]
  have hl := uV_lt hf 0 j
  constructor
  · rw [e1, hN, e2, uV_cons (upM g j x), upM_s, uV_out (Or.inl (by omega)), hx, Nat.pow_succ]
    have h2 := Nat.div_add_mod X D
    have h3 : 1073741824 ^ j * X = 1073741824 ^ j * (D * (X / D)) + 1073741824 ^ j * (X % D) := by rw [← Nat.mul_add, h2]
    rw [h3]
    generalize uV g (j + 1) t = T
    generalize X / D = y
    generalize X % D = r
    have h4 : (y + 1073741824 * T) * 1073741824 ^ j * D = 1073741824 ^ j * (D * y) + T * (1073741824 ^ j * 1073741824) * D := by
      rw [Nat.add_mul, Nat.add_mul]
      have a1 : y * 1073741824 ^ j * D = 1073741824 ^ j * (D * y) := by ac_rfl
      have a2 : 1073741824 * T * 1073741824 ^ j * D = T * (1073741824 ^ j * 1073741824) * D := by ac_rfl
      rw [a1, a2]
    rw [h4]
    omega
  · rw [e1]
    have h5 : 1073741824 ^ j * (X % D + 1) ≤ 1073741824 ^ j * D := Nat.mul_le_mul_left _ hm
    rw [Nat.mul_add, Nat.mul_one] at h5
    rw [Nat.mul_comm D]
    omega
theorem dv_X {f : Nat → Nat} {j n D : Nat} (h : uV f 0 (j + 1 + n) < D * 1073741824 ^ (j + 1)) : uV f j (n + 1) / D < 1073741824 := by
  rcases Nat.eq_zero_or_pos D with z | z
  · rw [z, Nat.div_zero]; decide
  · rw [Nat.div_lt_iff_lt_mul z]
    rw [show j + 1 + n = j + (n + 1) by omega, uV_add, Nat.zero_add, Nat.pow_succ] at h
    have h2 : 1073741824 ^ j * uV f j (n + 1) < 1073741824 ^ j * (1073741824 * D) := by
      rw [show 1073741824 ^ j * (1073741824 * D) = D * (1073741824 ^ j * 1073741824) by ac_rfl]
      omega
    exact Nat.lt_of_mul_lt_mul_left h2

/-! MOVES by bits: the values -/
theorem mu_step {g f : Nat → Int32} {k b n pt : Nat} {A y : Int32} (hpt : pt < 32) (hinv : vN g (k + 1) n * 2 ^ pt = wN A * 2 ^ pt % 4294967296 + 4294967296 * vN f (b + 1) n) (hy : y = g k) :
    vN g k (n + 1) * 2 ^ pt = wN y * 2 ^ pt % 4294967296 + 4294967296 * vN (upd f b (upw pt A y)) b (n + 1) := by
  rw [vN_cons, vN_cons, pk_us, vN_out (Or.inl (by omega)), wN_upw hpt, ← hy, Nat.add_mul, Nat.mul_assoc, hinv]
  have h := Nat.div_add_mod (wN y * 2 ^ pt) 4294967296
  generalize wN y * 2 ^ pt = Y at *
  generalize wN A * 2 ^ pt % 4294967296 = X
  generalize vN f (b + 1) n = T
  omega
theorem mu_end {g f : Nat → Int32} {L wh pt v : Nat} {A : Int32} (hpt : pt < 32) (hinv : vN g 0 L * 2 ^ pt = wN A * 2 ^ pt % 4294967296 + 4294967296 * vN f (0 + wh + 1) L) (hv : vN g 0 L = v) :
    vN (fl (upd f wh (sl A pt)) 0 wh (nI 0)) 0 (L + wh + 1) = v * 2 ^ (32 * wh + pt) := by
  rw [show L + wh + 1 = wh + (L + 1) by omega, vN_add, vN_zero (fun i hi => by rw [Nat.zero_add, fl_in (Nat.zero_le _) hi]; exact nI_0), vN_cons]
  rw [Nat.zero_add wh, fl_out (by omega), Nat.zero_add, pk_us, wN_sl A hpt, vN_congr (f := fl (upd f wh (sl A pt)) 0 wh (nI 0)) (g := f) (a := wh + 1) (b := wh + 1) (fun i hi => by rw [fl_out (by omega), pk_un (by omega)])]
  rw [Nat.zero_add] at hinv
  rw [← hinv, hv, Nat.pow_add, Nat.pow_mul]
  show 4294967296 ^ wh * (v * 2 ^ pt) = v * (4294967296 ^ wh * 2 ^ pt)
  rw [Nat.mul_left_comm]
theorem md_step {f : Nat → Int32} {j pt r0 V : Nat} {x y : Int32} (hpt : pt < 32) (hinv : vN f 0 j * 2 ^ pt + r0 = V + wN x % 2 ^ pt * 4294967296 ^ j) :
    vN (upd f j (dnw pt x y)) 0 (j + 1) * 2 ^ pt + r0 = V + wN x * 4294967296 ^ j + wN y % 2 ^ pt * 4294967296 ^ (j + 1) := by
  rw [vN_suc0, pk_us, vN_out (Or.inr (by omega)), Nat.pow_succ]
  have h := wN_dnw hpt x y
  generalize wN (dnw pt x y) = d at *
  generalize wN x % 2 ^ pt = xm at *
  generalize wN y % 2 ^ pt = ym at *
  generalize 2 ^ pt = P at *
  generalize 4294967296 ^ j = Q at *
  have e1 : (vN f 0 j + d * Q) * P = vN f 0 j * P + d * P * Q := by rw [Nat.add_mul, Nat.mul_right_comm]
  have e2 : (d * P + xm) * Q = (wN x + ym * 4294967296) * Q := by rw [h]
  rw [Nat.add_mul, Nat.add_mul] at e2
  have e3 : ym * (Q * 4294967296) = ym * 4294967296 * Q := by rw [Nat.mul_comm Q, Nat.mul_assoc]
  rw [e1, e3]
  omega
theorem md_end {f g : Nat → Int32} {L wh pt v r0 cnt : Nat} (hv : vN g 0 L = v) (hcnt : cnt = L - wh) (h : vN f 0 cnt * 2 ^ pt + r0 = vN g wh cnt) (hr : r0 < 2 ^ pt) : vN f 0 cnt = v / 2 ^ (32 * wh + pt) := by
  have h1 : v / 4294967296 ^ wh = vN g wh cnt := by
    rcases Nat.lt_or_ge L wh with q | q
    · have : cnt = 0 := by omega
      subst this
      rw [← hv, Nat.div_eq_of_lt (Nat.lt_of_lt_of_le (vN_lt g 0 L) (Nat.pow_le_pow_right (by decide) (by omega)))]
      rfl
    · have e : vN g 0 L = vN g 0 wh + 4294967296 ^ wh * vN g (0 + wh) cnt := by rw [← vN_add, show wh + cnt = L by omega]
      rw [← hv, e, Nat.zero_add, Nat.add_mul_div_left _ _ (Nat.pow_pos (by decide)), Nat.div_eq_of_lt (vN_lt g 0 wh), Nat.zero_add]
  rw [Nat.pow_add, Nat.pow_mul, ← Nat.div_div_eq_div_mul]
  show _ = v / 4294967296 ^ wh / 2 ^ pt
  rw [h1]
  exact (rd_end h hr).1
theorem mx_sub {a b : Nat} (ha : a < 2 ^ 30) (hb : b < 2 ^ 30) : (if nI 0 < nI a - nI b then nI a - nI b else nI 0) = nI (a - b) := by
  have hi := pk_sub_toInt ha hb
  have h0 : (nI 0).toInt = 0 := by decide
  rcases Nat.lt_or_ge b a with q | q
  · rw [if_pos (by rw [Int32.lt_iff_toInt_lt, hi, h0]; omega), pk_sub (by omega)]
  · rw [if_neg (by rw [Int32.lt_iff_toInt_lt, hi, h0]; omega), show a - b = 0 by omega]
theorem NV_0 (w : St) (i : Nat) : NV (pL w i 0) i 0 := by
  unfold NV
  rw [sL_pL]
  exact ⟨by omega, Or.inl rfl, rfl⟩
theorem eqN_pL (w : St) (i k : Nat) : eqN w (pL w i k) i := ⟨fun j hj => ⟨rfl, sL_pLn w k hj⟩, rfl⟩

/-! PIECES for fills and moves -/
section NLEN
variable {p : Program} {l : Launch} {e : Env} {R : Room} {s : State} {m : MethodId} {args : Array Value} {below : List Frame} {meth : Method} {c : Code} {H : Heap} {locs : List Loc} {cells slots : Nat} {Q : State → Prop}
variable {cc : ByteArray} {pc : Nat} {ls : Array Slot} {rest : List Value} {D : va_G} {cI cB cR : ClassId} {ad : Nat → Nat} {w : St}
theorem nw_nW (hexec : p.tables.exec = Jvm.exec) (hb : c.code = cc) (hK : va_K D clA (tyA cI cB cR) s) (hP : va_P D clA (NC cI cB cR ad w) H) {i : Nat} (hi : i < 14) (hdg : decode cc pc = .ok (.arraylength, 1))
    (kk : W p l e R s m args below meth c H locs cells slots Q (F0 m (pc + 1) ls (.int (nI 6272) :: rest))) : W p l e R s m args below meth c H locs cells slots Q (F0 m pc ls (.ref (ad (2 * i + 9)) :: rest)) :=
  va_alen hexec hb hK hP (2 * i + 9) 0 (NC_w hi) rfl rfl hdg kk
theorem nw_nR (hexec : p.tables.exec = Jvm.exec) (hb : c.code = cc) (hK : va_K D clA (tyA cI cB cR) s) (hP : va_P D clA (NC cI cB cR ad w) H) (hdg : decode cc pc = .ok (.arraylength, 1))
    (kk : W p l e R s m args below meth c H locs cells slots Q (F0 m (pc + 1) ls (.int (nI 28672) :: rest))) : W p l e R s m args below meth c H locs cells slots Q (F0 m pc ls (.ref (ad 3) :: rest)) :=
  va_alen hexec hb hK hP 3 0 (NC_at (by decide)) rfl rfl hdg kk
end NLEN
/-- the places from a to b laid with x -/
def fl (f : Nat → Int32) (a b : Nat) (x : Int32) : Nat → Int32 := fun j => if a ≤ j ∧ j < b then x else f j
theorem fl_in {f : Nat → Int32} {a b j : Nat} {x : Int32} (h1 : a ≤ j) (h2 : j < b) : fl f a b x j = x := if_pos ⟨h1, h2⟩
theorem fl_out {f : Nat → Int32} {a b j : Nat} {x : Int32} (h : j < a ∨ b ≤ j) : fl f a b x j = f j := if_neg (by omega)
theorem fl_0 (f : Nat → Int32) (a : Nat) (x : Int32) : fl f a a x = f := by
  funext j
  exact fl_out (by omega)
theorem fl_suc (f : Nat → Int32) {a b : Nat} (x : Int32) (h : a ≤ b) : upd (fl f a b x) b x = fl f a (b + 1) x := by
  funext j
  by_cases hj : j = b
  · rw [hj, pk_us, fl_in h (by omega)]
  · rw [pk_un hj]
    by_cases h2 : a ≤ j ∧ j < b
    · rw [fl_in h2.1 h2.2, fl_in h2.1 (by omega)]
    · rw [fl_out (by omega), fl_out (by omega)]
theorem rdX {w : St} {i p j : Nat} {f : Nat → Int32} (h : f j = sW w i j) : sW (pW w i f) p j = sW w p j := by
  by_cases hp : p = i
  · rw [hp, sW_pW]
    exact h
  · rw [sW_pWn _ _ hp]
theorem sh_c : ∀ k, k < 32 → ((nI k &&& 31).toBitVec.smod 32).toNat = k := by decide +kernel
theorem us_c : ∀ k, k < 32 → (((nI k).toUInt32 &&& Int32.toUInt32 31).toBitVec % 32).toNat = k := by decide +kernel
abbrev sl (x : Int32) (k : Nat) : Int32 := x <<< (nI k &&& 31)
theorem wN_sl (x : Int32) {k : Nat} (hk : k < 32) : wN (sl x k) = wN x * 2 ^ k % 4294967296 := pk_shl x (nI k &&& 31) k (sh_c k hk)
theorem wN_us (x : Int32) {k : Nat} (hk : k < 32) : wN (us x k) = wN x / 2 ^ k := pk_ushr x (nI k) k (us_c k hk)
theorem mod_pw {x k : Nat} (hk : k ≤ 32) : x * 2 ^ k % 4294967296 = 2 ^ k * (x % 2 ^ (32 - k)) := by
  rw [show (4294967296 : Nat) = 2 ^ k * 2 ^ (32 - k) by rw [← Nat.pow_add, show k + (32 - k) = 32 by omega], Nat.mul_comm x, Nat.mul_mod_mul_left]
theorem div_pw {x k : Nat} (hk : k ≤ 32) : x * 2 ^ k / 4294967296 = x / 2 ^ (32 - k) := by
  rw [show (4294967296 : Nat) = 2 ^ k * 2 ^ (32 - k) by rw [← Nat.pow_add, show k + (32 - k) = 32 by omega], Nat.mul_comm x, Nat.mul_div_mul_left _ _ (Nat.pow_pos (by decide))]
theorem div_lt_pw {x k : Nat} (hx : x < 4294967296) (hk : k ≤ 32) : x / 2 ^ (32 - k) < 2 ^ k := by
  rw [Nat.div_lt_iff_lt_mul (Nat.pow_pos (by decide)), ← Nat.pow_add, show k + (32 - k) = 32 by omega]
  exact hx
/-- a word of a number moved up by part bits: from this word and the one below -/
def upw (part : Nat) (x y : Int32) : Int32 := if part = 0 then x else sl x part ||| us y (32 - part)
theorem wN_upw {part : Nat} (h : part < 32) (x y : Int32) : wN (upw part x y) = wN x * 2 ^ part % 4294967296 + wN y * 2 ^ part / 4294967296 := by
  unfold upw
  have hx := wN_lt x
  have hy := wN_lt y
  by_cases h0 : part = 0
  · rw [if_pos h0, h0, Nat.pow_zero, Nat.mul_one, Nat.mul_one, Nat.mod_eq_of_lt hx, Nat.div_eq_of_lt hy]
    rfl
  · rw [if_neg h0, wN_or, wN_sl x h, wN_us y (by omega), mod_pw (by omega), div_pw (by omega)]
    exact (Nat.two_pow_add_eq_or_of_lt (div_lt_pw hy (by omega)) _).symm
/-- a word of a number moved down by part bits: from this word and the one above -/
def dnw (part : Nat) (x y : Int32) : Int32 := if part = 0 then x else us x part ||| sl y (32 - part)
theorem wN_dnw {part : Nat} (h : part < 32) (x y : Int32) : wN (dnw part x y) * 2 ^ part + wN x % 2 ^ part = wN x + wN y % 2 ^ part * 4294967296 := by
  unfold dnw
  have hx := wN_lt x
  have hy := wN_lt y
  by_cases h0 : part = 0
  · rw [if_pos h0, h0, Nat.pow_zero, Nat.mul_one, Nat.mod_one, Nat.mod_one]
  · have hp : (2 : Nat) ^ (32 - part) * 2 ^ part = 4294967296 := by rw [← Nat.pow_add, show 32 - part + part = 32 by omega]
    have hlt : wN x / 2 ^ part < 2 ^ (32 - part) := by
      rw [Nat.div_lt_iff_lt_mul (Nat.pow_pos (by decide)), hp]
      exact hx
    rw [if_neg h0, wN_or, wN_us x h, wN_sl y (by omega), mod_pw (by omega), show 32 - (32 - part) = part by omega, Nat.or_comm, ← Nat.two_pow_add_eq_or_of_lt hlt, Nat.add_mul]
    have h1 : 2 ^ (32 - part) * (wN y % 2 ^ part) * 2 ^ part = wN y % 2 ^ part * 4294967296 := by
      rw [Nat.mul_right_comm, hp, Nat.mul_comm]
    have h2 := Nat.div_add_mod (wN x) (2 ^ part)
    rw [Nat.mul_comm] at h2
    rw [h1]
    omega

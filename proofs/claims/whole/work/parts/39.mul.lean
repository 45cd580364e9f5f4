/-! PRODUCTS word by word: the values -/
theorem mp_step {f f1 g : Nat → Int32} {r a an b j cy : Nat} (hinv : vN f r (an + j) = vN g a an * vN g b j) (hso : so f1 f (r + j) an) (hcy : cy < 4294967296) (hv : vN f1 (r + j) an + cy * 4294967296 ^ an = vN f (r + j) an + wN (g (b + j)) * vN g a an) :
    vN (upd f1 (r + an + j) (nI cy)) r (an + (j + 1)) = vN g a an * vN g b (j + 1) := by
  have e1 : vN (upd f1 (r + an + j) (nI cy)) r (an + (j + 1)) = vN f r j + 4294967296 ^ j * (vN f1 (r + j) an + cy * 4294967296 ^ an) := by
    rw [show an + (j + 1) = j + (an + 1) by omega, vN_add, vN_sucA, vN_out (Or.inr (by omega)), vN_out (Or.inr (by omega)), show r + j + an = r + an + j by omega, pk_us, wN_nI, Nat.mod_eq_of_lt hcy, hso.vN (Or.inl (by omega))]
  have e2 : vN f r (an + j) = vN f r j + 4294967296 ^ j * vN f (r + j) an := by rw [Nat.add_comm an j, vN_add]
  rw [e1, hv, Nat.mul_add, vN_sucA g b, Nat.mul_add, ← hinv, e2]
  have e3 : 4294967296 ^ j * (wN (g (b + j)) * vN g a an) = vN g a an * (wN (g (b + j)) * 4294967296 ^ j) := by rw [Nat.mul_comm, Nat.mul_comm (wN (g (b + j))), Nat.mul_assoc]
  omega
theorem so_mp {f f1 g : Nat → Int32} {r an j : Nat} {x : Int32} (h : so f g r (an + j)) (h1 : so f1 f (r + j) an) : so (upd f1 (r + an + j) x) g r (an + (j + 1)) := fun q hq => by
  rw [pk_un (by omega), h1 q (by omega)]
  exact h q (by omega)
theorem fl_val {g : Nat → Int32} {a b : Nat} (n : Nat) (hn : b = a + n) : vN (fl g a b (nI 0)) a n = 0 := vN_zero (fun i hi => by rw [fl_in (by omega) (by omega)]; exact nI_0)
theorem so_fl {g : Nat → Int32} {a b n : Nat} {x : Int32} (hn : b = a + n) : so (fl g a b x) g a n := fun q hq => fl_out (by omega)
/-- the products of different words, each once -/
def sqT (g : Nat → Int32) (a an : Nat) : Nat → Nat
  | 0 => 0
  | i + 1 => sqT g a an i + 4294967296 ^ (2 * i + 1) * (wN (g (a + i)) * vN g (a + i + 1) (an - 1 - i))
/-- the squares of the words -/
def sqQ (g : Nat → Int32) (a : Nat) : Nat → Nat
  | 0 => 0
  | i + 1 => sqQ g a i + wN (g (a + i)) * wN (g (a + i)) * 4294967296 ^ (2 * i)
theorem sq_all {g : Nat → Int32} {a an : Nat} : ∀ i, i ≤ an → 2 * sqT g a an i + sqQ g a i + 4294967296 ^ (2 * i) * (vN g (a + i) (an - i) * vN g (a + i) (an - i)) = vN g a an * vN g a an := by
  intro i
  induction i with
  | zero => intro _; show 2 * 0 + 0 + 4294967296 ^ 0 * (vN g a an * vN g a an) = _; rw [Nat.pow_zero, Nat.one_mul]; omega
  | succ i ih =>
    intro hi
    rw [← ih (by omega)]
    obtain ⟨m, hm⟩ : ∃ m, an - i = m + 1 := ⟨an - i - 1, by omega⟩
    rw [hm, show an - (i + 1) = m by omega, vN_cons]
    show 2 * (sqT g a an i + 4294967296 ^ (2 * i + 1) * (wN (g (a + i)) * vN g (a + i + 1) (an - 1 - i))) + (sqQ g a i + wN (g (a + i)) * wN (g (a + i)) * 4294967296 ^ (2 * i)) + _ = _
    rw [show an - 1 - i = m by omega, show 2 * (i + 1) = 2 * i + 1 + 1 by omega, Nat.pow_succ 4294967296 (2 * i + 1), Nat.pow_succ 4294967296 (2 * i), show a + (i + 1) = a + i + 1 by omega]
    generalize wN (g (a + i)) = x
    generalize vN g (a + i + 1) m = S
    generalize 4294967296 ^ (2 * i) = P
    generalize sqT g a an i = T
    generalize sqQ g a i = U
    have e1 : (x + 4294967296 * S) * (x + 4294967296 * S) = x * x + 2 * (4294967296 * (x * S)) + 4294967296 * 4294967296 * (S * S) := by
      rw [Nat.add_mul, Nat.mul_add, Nat.mul_add]
      have a1 : x * (4294967296 * S) = 4294967296 * (x * S) := by rw [Nat.mul_left_comm]
      have a2 : 4294967296 * S * x = 4294967296 * (x * S) := by rw [Nat.mul_assoc, Nat.mul_comm S x]
      have a3 : 4294967296 * S * (4294967296 * S) = 4294967296 * 4294967296 * (S * S) := by rw [Nat.mul_mul_mul_comm]
      rw [a1, a2, a3]
      omega
    rw [e1]
    simp only [Nat.mul_add]
    have b1 : P * 4294967296 * (x * S) = 4294967296 * (P * (x * S)) := by rw [Nat.mul_comm P, Nat.mul_assoc]
    have b2 : P * (2 * (4294967296 * (x * S))) = 2 * (4294967296 * (P * (x * S))) := by rw [Nat.mul_left_comm, Nat.mul_left_comm P]
    have b3 : P * 4294967296 * 4294967296 * (S * S) = P * (4294967296 * 4294967296 * (S * S)) := by rw [Nat.mul_assoc P, Nat.mul_assoc P]
    have b4 : x * x * P = P * (x * x) := Nat.mul_comm _ _
    rw [b1, b2, b3, b4]
    omega
theorem sq_step {f f1 g : Nat → Int32} {r a an i cy : Nat} (hi : i < an) (hinv : vN f r (an + i) = sqT g a an i) (hso : so f1 f (r + 2 * i + 1) (an - 1 - i)) (hcy : cy < 4294967296) (hv : vN f1 (r + 2 * i + 1) (an - 1 - i) + cy * 4294967296 ^ (an - 1 - i) = vN f (r + 2 * i + 1) (an - 1 - i) + wN (g (a + i)) * vN g (a + i + 1) (an - 1 - i)) :
    vN (upd f1 (r + an + i) (nI cy)) r (an + (i + 1)) = sqT g a an (i + 1) := by
  obtain ⟨m, hm⟩ : ∃ m, an - 1 - i = m := ⟨_, rfl⟩
  rw [hm] at hso hv
  have e1 : vN (upd f1 (r + an + i) (nI cy)) r (an + (i + 1)) = vN f r (2 * i + 1) + 4294967296 ^ (2 * i + 1) * (vN f1 (r + 2 * i + 1) m + cy * 4294967296 ^ m) := by
    rw [show an + (i + 1) = 2 * i + 1 + (m + 1) by omega, vN_add, vN_sucA _ (r + (2 * i + 1)) m, show r + (2 * i + 1) = r + 2 * i + 1 by omega, vN_out (a := r) (n := 2 * i + 1) (Or.inr (by omega)), vN_out (a := r + 2 * i + 1) (n := m) (Or.inr (by omega)), show r + 2 * i + 1 + m = r + an + i by omega, pk_us, wN_nI, Nat.mod_eq_of_lt hcy, hso.vN (Or.inl (by omega))]
  have e2 : vN f r (an + i) = vN f r (2 * i + 1) + 4294967296 ^ (2 * i + 1) * vN f (r + 2 * i + 1) m := by
    rw [show an + i = 2 * i + 1 + m by omega, vN_add, show r + (2 * i + 1) = r + 2 * i + 1 by omega]
  show _ = sqT g a an i + 4294967296 ^ (2 * i + 1) * (wN (g (a + i)) * vN g (a + i + 1) (an - 1 - i))
  rw [e1, hv, hm, Nat.mul_add, ← hinv, e2]
  omega
theorem so_sq {f f1 g : Nat → Int32} {r an i : Nat} {x : Int32} (hi : i < an) (h : so f g r (2 * an)) (h1 : so f1 f (r + 2 * i + 1) (an - 1 - i)) : so (upd f1 (r + an + i) x) g r (2 * an) := fun q hq => by
  rw [pk_un (by omega), h1 q (by omega)]
  exact h q (by omega)
/-- two words of the doubled sum -/
theorem db_step {f h : Nat → Int32} {r j c x : Nat} {V : Nat} (hinv : vN f r (2 * j) + c * 4294967296 ^ (2 * j) = 2 * vN h r (2 * j) + V) (hf : ∀ q, r + 2 * j ≤ q → f q = h q) :
    vN (upd (upd f (r + 2 * j) (nI (c + (wN (h (r + 2 * j)) * 2 + x * x % 4294967296)))) (r + 2 * j + 1) (nI ((c + (wN (h (r + 2 * j)) * 2 + x * x % 4294967296)) / 4294967296 + wN (h (r + 2 * j + 1)) * 2 + x * x / 4294967296))) r (2 * (j + 1)) + ((c + (wN (h (r + 2 * j)) * 2 + x * x % 4294967296)) / 4294967296 + wN (h (r + 2 * j + 1)) * 2 + x * x / 4294967296) / 4294967296 * 4294967296 ^ (2 * (j + 1)) = 2 * vN h r (2 * (j + 1)) + (V + x * x * 4294967296 ^ (2 * j)) := by
  have s1 := ch_add (f := f) (a := r) (i := 2 * j) (c := c) (t := wN (h (r + 2 * j)) * 2 + x * x % 4294967296) rfl
  have s2 := ch_add (f := upd f (r + 2 * j) (nI (c + (wN (h (r + 2 * j)) * 2 + x * x % 4294967296)))) (a := r) (i := 2 * j + 1) (c := (c + (wN (h (r + 2 * j)) * 2 + x * x % 4294967296)) / 4294967296) (t := wN (h (r + 2 * j + 1)) * 2 + x * x / 4294967296) rfl
  rw [show 2 * (j + 1) = 2 * j + 1 + 1 by omega, show r + 2 * j + 1 = r + (2 * j + 1) by omega, Nat.add_assoc ((c + (wN (h (r + 2 * j)) * 2 + x * x % 4294967296)) / 4294967296), show r + (2 * j + 1) = r + 2 * j + 1 by omega]
  rw [show r + (2 * j + 1) = r + 2 * j + 1 by omega] at s2
  rw [s2, s1, hinv, vN_sucA h r (2 * j + 1), vN_sucA h r (2 * j), show r + (2 * j + 1) = r + 2 * j + 1 by omega, Nat.pow_succ]
  have hd := Nat.div_add_mod (x * x) 4294967296
  generalize x * x = X at *
  generalize wN (h (r + 2 * j)) = y0
  generalize wN (h (r + 2 * j + 1)) = y1
  generalize 4294967296 ^ (2 * j) = P
  have e1 : (4294967296 * (X / 4294967296) + X % 4294967296) * P = X * P := by rw [hd]
  have e2 : (y1 * 2 + X / 4294967296) * (P * 4294967296) = 2 * (y1 * (P * 4294967296)) + 4294967296 * (X / 4294967296) * P := by
    rw [Nat.add_mul, Nat.mul_right_comm, Nat.mul_comm (y1 * (P * 4294967296))]
    have : X / 4294967296 * (P * 4294967296) = 4294967296 * (X / 4294967296) * P := by rw [Nat.mul_comm P, ← Nat.mul_assoc, Nat.mul_comm (X / 4294967296)]
    rw [this]
  have e3 : (y0 * 2 + X % 4294967296) * P = 2 * (y0 * P) + X % 4294967296 * P := by rw [Nat.add_mul, Nat.mul_right_comm, Nat.mul_comm (y0 * P)]
  rw [e2, e3]
  rw [Nat.add_mul] at e1
  omega

/-! THE REFERENCE: numberOfLeadingZeros, raise, rootOf (rows laid by wip/whole/gen/c_mo3.py) -/
theorem fitM3 {w : Mt} {a b v u : Nat} (hv : NU w a v) (hu : NU w b u) (h : v * u < 2 ^ 200200) : mL w a + mL w b ≤ 6800 := by
  have l1 := hv.len
  have l2 := hu.len
  rcases Nat.eq_zero_or_pos (mL w a) with z | z
  · omega
  rcases Nat.eq_zero_or_pos (mL w b) with z2 | z2
  · omega
  have h1 := hv.ge (by omega)
  have h2 := hu.ge (by omega)
  have h3 := Nat.mul_le_mul h1 h2
  rw [pw3, pw3, ← Nat.pow_add] at h3
  have h4 : 30 * (mL w a - 1) + 30 * (mL w b - 1) < 200200 := by
    rcases Nat.lt_or_ge (30 * (mL w a - 1) + 30 * (mL w b - 1)) 200200 with q | q
    · exact q
    · exact absurd (Nat.lt_of_lt_of_le h (Nat.pow_le_pow_right (by decide) q)) (by omega)
  omega
theorem nlz_0 : ∀ n, n ≤ 100 → 1 ≤ n → n < 4 → 31 - n / 2 = 32 - nb n := by decide +kernel
theorem nlz_1 : ∀ n, n ≤ 100 → 4 ≤ n → n < 16 → 29 - n / 4 / 2 = 32 - nb n := by decide +kernel
theorem nlz_2 : ∀ n, n ≤ 100 → 16 ≤ n → n / 16 < 4 → 27 - n / 16 / 2 = 32 - nb n := by decide +kernel
theorem nlz_3 : ∀ n, n ≤ 100 → 16 ≤ n → 4 ≤ n / 16 → 25 - n / 16 / 4 / 2 = 32 - nb n := by decide +kernel
/-- what Newton's step from above gives -/
theorem nw_am {r g : Nat} (h : r ≤ g) : ∀ n, (n + 1) * r * g ^ n ≤ r ^ (n + 1) + n * g ^ (n + 1) := by
  intro n
  induction n with
  | zero => simp
  | succ n ih =>
    have h1 := Nat.mul_le_mul_right g ih
    have h2 : r ^ (n + 1) ≤ g ^ (n + 1) := Nat.pow_le_pow_left h _
    obtain ⟨d, rfl⟩ : ∃ d, g = r + d := ⟨g - r, by omega⟩
    obtain ⟨q, hq⟩ : ∃ q, (r + d) ^ (n + 1) = r ^ (n + 1) + q := ⟨(r + d) ^ (n + 1) - r ^ (n + 1), by omega⟩
    have e1 : (n + 1 + 1) * r * (r + d) ^ (n + 1) = (n + 1) * r * (r + d) ^ n * (r + d) + r * (r + d) ^ (n + 1) := by
      rw [Nat.pow_succ, show n + 1 + 1 = (n + 1) + 1 from rfl, Nat.add_mul (n + 1) 1 r, Nat.one_mul, Nat.add_mul, Nat.mul_assoc ((n + 1) * r)]
    have e2 : r ^ (n + 1 + 1) = r ^ (n + 1) * r := Nat.pow_succ ..
    have e3 : (n + 1) * (r + d) ^ (n + 1 + 1) = n * (r + d) ^ (n + 1) * (r + d) + (r + d) ^ (n + 1) * (r + d) := by
      rw [Nat.pow_succ (r + d) (n + 1), Nat.add_mul, Nat.one_mul, Nat.mul_assoc]
    rw [Nat.add_mul (r ^ (n + 1))] at h1
    rw [e1, e2, e3]
    have e4 : r * (r + d) ^ (n + 1) + r ^ (n + 1) * (r + d) ≤ r ^ (n + 1) * r + (r + d) ^ (n + 1) * (r + d) := by
      rw [hq]
      generalize r ^ (n + 1) = P
      have a1 : r * (P + q) = r * P + r * q := Nat.mul_add ..
      have a2 : P * (r + d) = P * r + P * d := Nat.mul_add ..
      have a3 : (P + q) * (r + d) = P * r + P * d + (q * r + q * d) := by rw [Nat.add_mul, Nat.mul_add, Nat.mul_add]
      rw [a1, a2, a3, Nat.mul_comm r P, Nat.mul_comm r q]
      omega
    omega
theorem nt_ge {v n g r : Nat} (hr : r ^ (n + 1) ≤ v) (hg : 1 ≤ g) (h : r ≤ g) : r ≤ (g * n + v / g ^ n) / (n + 1) := by
  rw [Nat.le_div_iff_mul_le (by omega)]
  have hP : 0 < g ^ n := Nat.pow_pos (by omega)
  have h1 := nw_am h n
  rcases Nat.lt_or_ge (r * (n + 1)) (g * n) with z | z
  · exact Nat.le_trans (Nat.le_of_lt z) (Nat.le_add_right _ _)
  · have h2 : r * (n + 1) - g * n ≤ v / g ^ n := by
      rw [Nat.le_div_iff_mul_le hP, Nat.sub_mul]
      have e1 : r * (n + 1) * g ^ n = (n + 1) * r * g ^ n := by rw [Nat.mul_comm r]
      have e2 : g * n * g ^ n = n * g ^ (n + 1) := by rw [Nat.pow_succ, Nat.mul_comm g n, Nat.mul_assoc, Nat.mul_comm g]
      rw [e1, e2]
      omega
    omega
theorem nt_lt {v n g : Nat} (hg : 1 ≤ g) (h : v < g ^ (n + 1)) : (g * n + v / g ^ n) / (n + 1) < g := by
  rw [Nat.div_lt_iff_lt_mul (by omega)]
  have h1 : v / g ^ n < g := by
    rw [Nat.div_lt_iff_lt_mul (Nat.pow_pos (by omega)), Nat.mul_comm, ← Nat.pow_succ]
    exact h
  rw [Nat.mul_add, Nat.mul_one]
  omega
theorem nt_end {v n g : Nat} (hg : 1 ≤ g) (hr : rootN v (n + 1) ≤ g) (h : ¬ (g * n + v / g ^ n) / (n + 1) < g) : g = rootN v (n + 1) := by
  have h1 : ¬ v < g ^ (n + 1) := fun z => h (nt_lt hg z)
  have h2 := root_le (rootN_is (v := v) (n := n + 1) (by omega)) (Nat.not_lt.mp h1) (by omega)
  omega
theorem rootN_pos {v n : Nat} (hn : 1 ≤ n) (hv : v ≠ 0) : 1 ≤ rootN v n := root_le (rootN_is hn) (by rw [Nat.one_pow]; omega) hn
theorem rootN_1 (v : Nat) : rootN v 1 = v := (rootN_eq (by decide) ⟨by rw [Nat.pow_one]; exact Nat.le_refl _, by rw [Nat.pow_one]; omega⟩).symm
theorem nt_0 {v n g0 : Nat} (hn : 1 ≤ n) (hv : v ≠ 0) (h : g0 = (nb v + n - 1) / n) : rootN v n ≤ 2 ^ g0 := by
  have h1 := ceil_div (b := nb v) (n := n) (a := g0) hn (nb_pos hv) h
  have h2 : v < (2 ^ g0) ^ n := by
    rw [← Nat.pow_mul]
    exact Nat.lt_of_lt_of_le (nb_lt v) (Nat.pow_le_pow_right (by decide) h1.2.1)
  exact Nat.le_of_lt (root_lt (rootN_is hn) h2)
theorem nt_fit {v n g0 g : Nat} (hv : v ≠ 0) (hb : nb v ≤ 200000) (hn : n + 1 ≤ 40) (h : g0 = (nb v + (n + 1) - 1) / (n + 1)) (hg : g ≤ 2 ^ g0) : g ^ n < 2 ^ 200100 := by
  have h1 := ceil_div (b := nb v) (n := n + 1) (a := g0) (by omega) (nb_pos hv) h
  have h2 : g ^ n ≤ 2 ^ (g0 * n) := by rw [Nat.pow_mul]; exact Nat.pow_le_pow_left hg _
  have h3 : g0 * n ≤ 200050 := by
    have e : (g0 - 1) * (n + 1) = g0 * (n + 1) - (n + 1) := by rw [Nat.sub_mul, Nat.one_mul]
    have e2 : g0 * (n + 1) = g0 * n + g0 := by rw [Nat.mul_add, Nat.mul_one]
    have e3 : 1 * (n + 1) ≤ g0 * (n + 1) := Nat.mul_le_mul_right _ h1.1
    omega
  exact Nat.lt_of_le_of_lt h2 (Nat.pow_lt_pow_right (by decide) (by omega))
set_option maxHeartbeats 4000000 in
set_option maxRecDepth 100000 in
/-- Integer.numberOfLeadingZeros -/
theorem c_Mx_nlz (l : Launch) {D : va_G} {cI cB cR : ClassId} {ad : Nat → Nat} (w : Mt) (sz : Nat) {n : Nat} (hn1 : 1 ≤ n) (hn2 : n ≤ 100) : Met l y_Ji_numberOfLeadingZeros (q_Ji_numberOfLeadingZeros :: wA) { frames := 0, cells := 0, slots := 0, locals := 0 } (va_Pc [.int (nI (n))] (PM D cI cB cR ad w sz)) (va_Qi (fun (r : Int32) (w1 : Mt) => r = nI (32 - nb n) ∧ w1 = w) (BM D cI cB cR ad) (AM ad sz)) 0 0 (AM ad sz) := by
  refine Met.ofW (cc := b_Ji_numberOfLeadingZeros) (maxL := 2) (ret := (some (.int))) (by decide) rfl ?_
  intro p e s m args below meth c s₁ B hml hv
  obtain ⟨rfl, hsz, hP, hD0, hKW⟩ := hv
  have hx := B.exec
  have hb := B.bytes
  have hr := B.returns
  have hts := atoms_spec (ws := q_Ji_numberOfLeadingZeros :: wA) B.pre
  have hown : s.vm.findClass R_Ji = some m.cls := findClass_of_methodNamed B.named
  have hlocks := B.notSynchronized
  subst hsz
  have hD := NM_AM (sz := s.heap.size) hD0
  have hS : va_S (AM ad s.heap.size) s.heap s.heap [] := va_S.rf
  have hl := lv_entry ([.int (nI (n))]) (n := 2) (Nat.le_of_ble_eq_true rfl)
  rw [lg_entry_eq]
  generalize (lg_sl ([.int (nI (n))]) ++ List.replicate (2 - (lg_sl ([.int (nI (n))])).length) Slot.unset).toArray = ls at hl ⊢
  have hl : lv_has ls 2 [(0, .int (nI (n)))] := hl
  refine lv_iload_n hx hb d_Ji_numberOfLeadingZeros_0 rfl (lv_at hl 0 rfl) ?_
  refine lv_if_gt (tgt := 15) hx hb d_Ji_numberOfLeadingZeros_1 (by decide) (fun c1 => ?_) (fun c1 => ?_)
  · skip
    have c1 : 0 < n := (nI_ltI (by omega) (by omega)).mp (by first | (rw [nI_0]; exact c1) | rw [nI_0])
    refine lv_bipush (v := nI (31)) hx hb d_Ji_numberOfLeadingZeros_15 (by decide) ?_
    refine lv_istore_n (lv' := [(1, .int (nI (31))), (0, .int (nI (n)))]) hx hb d_Ji_numberOfLeadingZeros_17 rfl hl (by decide) rfl (fun ls hl => ?_)
    refine lv_iload_n hx hb d_Ji_numberOfLeadingZeros_18 rfl (lv_at hl 1 rfl) ?_
    refine lv_ldcw (v := nI 65536) hx hb hown (hA_ hts lk_Ji_264) d_Ji_numberOfLeadingZeros_19 ?_
    refine lv_icmp_lt (tgt := 33) hx hb d_Ji_numberOfLeadingZeros_22 (by decide) (fun c22 => ?_) (fun c22 => ?_)
    · skip
      have c22 : n < 65536 := (nI_ltI (by omega) (by omega)).mp c22
      refine lv_iload_n hx hb d_Ji_numberOfLeadingZeros_33 rfl (lv_at hl 1 rfl) ?_
      refine lv_sipush (v := nI (256)) hx hb d_Ji_numberOfLeadingZeros_34 (by decide) ?_
      refine lv_icmp_lt (tgt := 48) hx hb d_Ji_numberOfLeadingZeros_37 (by decide) (fun c37 => ?_) (fun c37 => ?_)
      · skip
        have c37 : n < 256 := (nI_ltI (by omega) (by omega)).mp c37
        refine lv_iload_n hx hb d_Ji_numberOfLeadingZeros_48 rfl (lv_at hl 1 rfl) ?_
        refine lv_bipush (v := nI (16)) hx hb d_Ji_numberOfLeadingZeros_49 (by decide) ?_
        refine lv_icmp_lt (tgt := 61) hx hb d_Ji_numberOfLeadingZeros_51 (by decide) (fun c51 => ?_) (fun c51 => ?_)
        · skip
          have c51 : n < 16 := (nI_ltI (by omega) (by omega)).mp c51
          refine lv_iload_n hx hb d_Ji_numberOfLeadingZeros_61 rfl (lv_at hl 1 rfl) ?_
          refine lv_iconst (v := nI (4)) hx hb d_Ji_numberOfLeadingZeros_62 (by decide) ?_
          refine lv_icmp_lt (tgt := 73) hx hb d_Ji_numberOfLeadingZeros_63 (by decide) (fun c63 => ?_) (fun c63 => ?_)
          · skip
            have c63 : n < 4 := (nI_ltI (by omega) (by omega)).mp c63
            refine lv_iload_n hx hb d_Ji_numberOfLeadingZeros_73 rfl (lv_at hl 0 rfl) ?_
            refine lv_iload_n hx hb d_Ji_numberOfLeadingZeros_74 rfl (lv_at hl 1 rfl) ?_
            refine lv_iconst (v := nI (1)) hx hb d_Ji_numberOfLeadingZeros_75 (by decide) ?_
            refine lv_iushr (v := nI (n / 2)) hx hb d_Ji_numberOfLeadingZeros_76 (nI_usk (k := 1) (by omega) (by decide)) ?_
            refine nw_isub (v := nI (32 - nb n)) hx hb d_Ji_numberOfLeadingZeros_77 ((pk_sub (by omega)).trans (by rw [nlz_0 n hn2 hn1 (by omega)])) ?_
            exact W.iret (v := nI (32 - nb n)) hx hb hr (fun t ht hW => ⟨⟨_, w, rfl, ⟨rfl, rfl⟩, BM_of ht hP⟩, hS.F ht⟩) hS.2.2 d_Ji_numberOfLeadingZeros_78
          · skip
            have c63 : ¬ (n < 4) := fun h => c63 ((nI_ltI (by omega) (by omega)).mpr h)
            refine lv_iinc (v := nI (29)) (lv' := [(1, .int (nI (29))), (0, .int (nI (n)))]) hx hb d_Ji_numberOfLeadingZeros_66 hl (k := 0) rfl (by decide) (by decide) rfl (fun ls hl => ?_)
            refine lv_iload_n hx hb d_Ji_numberOfLeadingZeros_69 rfl (lv_at hl 1 rfl) ?_
            refine lv_iconst (v := nI (2)) hx hb d_Ji_numberOfLeadingZeros_70 (by decide) ?_
            refine lv_iushr (v := nI (n / 4)) hx hb d_Ji_numberOfLeadingZeros_71 (nI_usk (k := 2) (by omega) (by decide)) ?_
            refine lv_istore_n (lv' := [(0, .int (nI (n / 4))), (1, .int (nI (29)))]) hx hb d_Ji_numberOfLeadingZeros_72 rfl hl (by decide) rfl (fun ls hl => ?_)
            refine lv_iload_n hx hb d_Ji_numberOfLeadingZeros_73 rfl (lv_at hl 1 rfl) ?_
            refine lv_iload_n hx hb d_Ji_numberOfLeadingZeros_74 rfl (lv_at hl 0 rfl) ?_
            refine lv_iconst (v := nI (1)) hx hb d_Ji_numberOfLeadingZeros_75 (by decide) ?_
            refine lv_iushr (v := nI ((n / 4) / 2)) hx hb d_Ji_numberOfLeadingZeros_76 (nI_usk (k := 1) (by omega) (by decide)) ?_
            refine nw_isub (v := nI (32 - nb n)) hx hb d_Ji_numberOfLeadingZeros_77 ((pk_sub (by omega)).trans (by rw [nlz_1 n hn2 (by omega) (by omega)])) ?_
            exact W.iret (v := nI (32 - nb n)) hx hb hr (fun t ht hW => ⟨⟨_, w, rfl, ⟨rfl, rfl⟩, BM_of ht hP⟩, hS.F ht⟩) hS.2.2 d_Ji_numberOfLeadingZeros_78
        · skip
          have c51 : ¬ (n < 16) := fun h => c51 ((nI_ltI (by omega) (by omega)).mpr h)
          refine lv_iinc (v := nI (27)) (lv' := [(1, .int (nI (27))), (0, .int (nI (n)))]) hx hb d_Ji_numberOfLeadingZeros_54 hl (k := 0) rfl (by decide) (by decide) rfl (fun ls hl => ?_)
          refine lv_iload_n hx hb d_Ji_numberOfLeadingZeros_57 rfl (lv_at hl 1 rfl) ?_
          refine lv_iconst (v := nI (4)) hx hb d_Ji_numberOfLeadingZeros_58 (by decide) ?_
          refine lv_iushr (v := nI (n / 16)) hx hb d_Ji_numberOfLeadingZeros_59 (nI_usk (k := 4) (by omega) (by decide)) ?_
          refine lv_istore_n (lv' := [(0, .int (nI (n / 16))), (1, .int (nI (27)))]) hx hb d_Ji_numberOfLeadingZeros_60 rfl hl (by decide) rfl (fun ls hl => ?_)
          refine lv_iload_n hx hb d_Ji_numberOfLeadingZeros_61 rfl (lv_at hl 0 rfl) ?_
          refine lv_iconst (v := nI (4)) hx hb d_Ji_numberOfLeadingZeros_62 (by decide) ?_
          refine lv_icmp_lt (tgt := 73) hx hb d_Ji_numberOfLeadingZeros_63 (by decide) (fun c63 => ?_) (fun c63 => ?_)
          · skip
            have c63 : n / 16 < 4 := (nI_ltI (by omega) (by omega)).mp c63
            refine lv_iload_n hx hb d_Ji_numberOfLeadingZeros_73 rfl (lv_at hl 1 rfl) ?_
            refine lv_iload_n hx hb d_Ji_numberOfLeadingZeros_74 rfl (lv_at hl 0 rfl) ?_
            refine lv_iconst (v := nI (1)) hx hb d_Ji_numberOfLeadingZeros_75 (by decide) ?_
            refine lv_iushr (v := nI ((n / 16) / 2)) hx hb d_Ji_numberOfLeadingZeros_76 (nI_usk (k := 1) (by omega) (by decide)) ?_
            refine nw_isub (v := nI (32 - nb n)) hx hb d_Ji_numberOfLeadingZeros_77 ((pk_sub (by omega)).trans (by rw [nlz_2 n hn2 (by omega) (by omega)])) ?_
            exact W.iret (v := nI (32 - nb n)) hx hb hr (fun t ht hW => ⟨⟨_, w, rfl, ⟨rfl, rfl⟩, BM_of ht hP⟩, hS.F ht⟩) hS.2.2 d_Ji_numberOfLeadingZeros_78
          · skip
            have c63 : ¬ (n / 16 < 4) := fun h => c63 ((nI_ltI (by omega) (by omega)).mpr h)
            refine lv_iinc (v := nI (25)) (lv' := [(1, .int (nI (25))), (0, .int (nI (n / 16)))]) hx hb d_Ji_numberOfLeadingZeros_66 hl (k := 1) rfl (by decide) (by decide) rfl (fun ls hl => ?_)
            refine lv_iload_n hx hb d_Ji_numberOfLeadingZeros_69 rfl (lv_at hl 1 rfl) ?_
            refine lv_iconst (v := nI (2)) hx hb d_Ji_numberOfLeadingZeros_70 (by decide) ?_
            refine lv_iushr (v := nI ((n / 16) / 4)) hx hb d_Ji_numberOfLeadingZeros_71 (nI_usk (k := 2) (by omega) (by decide)) ?_
            refine lv_istore_n (lv' := [(0, .int (nI ((n / 16) / 4))), (1, .int (nI (25)))]) hx hb d_Ji_numberOfLeadingZeros_72 rfl hl (by decide) rfl (fun ls hl => ?_)
            refine lv_iload_n hx hb d_Ji_numberOfLeadingZeros_73 rfl (lv_at hl 1 rfl) ?_
            refine lv_iload_n hx hb d_Ji_numberOfLeadingZeros_74 rfl (lv_at hl 0 rfl) ?_
            refine lv_iconst (v := nI (1)) hx hb d_Ji_numberOfLeadingZeros_75 (by decide) ?_
            refine lv_iushr (v := nI ((n / 16 / 4) / 2)) hx hb d_Ji_numberOfLeadingZeros_76 (nI_usk (k := 1) (by omega) (by decide)) ?_
            refine nw_isub (v := nI (32 - nb n)) hx hb d_Ji_numberOfLeadingZeros_77 ((pk_sub (by omega)).trans (by rw [nlz_3 n hn2 (by omega) (by omega)])) ?_
            exact W.iret (v := nI (32 - nb n)) hx hb hr (fun t ht hW => ⟨⟨_, w, rfl, ⟨rfl, rfl⟩, BM_of ht hP⟩, hS.F ht⟩) hS.2.2 d_Ji_numberOfLeadingZeros_78
      · skip
        have c37 : ¬ (n < 256) := fun h => c37 ((nI_ltI (by omega) (by omega)).mpr h)
        omega
    · skip
      have c22 : ¬ (n < 65536) := fun h => c22 ((nI_ltI (by omega) (by omega)).mpr h)
      omega
  · skip
    have c1 : ¬ (0 < n) := fun h => c1 (by have := (nI_ltI (by omega) (by omega)).mpr h; rwa [nI_0] at this)
    omega
set_option maxHeartbeats 4000000 in
set_option maxRecDepth 100000 in
/-- raise(guess, n) -/
theorem c_Mo_raise (l : Launch) {D : va_G} {cI cB cR : ClassId} {ad : Nat → Nat} (w : Mt) (sz : Nat) {g n : Nat} (hn1 : 1 ≤ n) (hn2 : n ≤ 100) (h3 : W3 w) (hg : NU w 17 g) (hfit : g ^ n < 2 ^ 200100) : Met l y_Mo_raise (q_Mo_raise :: wA) { frames := 4, cells := 0, slots := 0, locals := 160 } (va_Pc [.ref (ad 0), .ref (ad 38), .int (nI (n))] (PM D cI cB cR ad w sz)) (va_Qv (fun w1 : Mt => eqM w w1 [15, 18] ∧ NU w1 15 (g ^ n) ∧ W3 w1) (BM D cI cB cR ad) (AM ad sz)) 0 0 (AM ad sz) := by
  refine Met.ofW (cc := b_Mo_raise) (maxL := 4) (ret := none) (by decide) rfl ?_
  intro p e s m args below meth c s₁ B hml hv
  obtain ⟨rfl, hsz, hP, hD0, hKW⟩ := hv
  have hx := B.exec
  have hb := B.bytes
  have hr := B.returns
  have hts := atoms_spec (ws := q_Mo_raise :: wA) B.pre
  have hown : s.vm.findClass R_Mo = some m.cls := findClass_of_methodNamed B.named
  have hlocks := B.notSynchronized
  subst hsz
  have hD := NM_AM (sz := s.heap.size) hD0
  have hS : va_S (AM ad s.heap.size) s.heap s.heap [] := va_S.rf
  have hl := lv_entry ([.ref (ad 0), .ref (ad 38), .int (nI (n))]) (n := 4) (Nat.le_of_ble_eq_true rfl)
  rw [lg_entry_eq]
  generalize (lg_sl ([.ref (ad 0), .ref (ad 38), .int (nI (n))]) ++ List.replicate (4 - (lg_sl ([.ref (ad 0), .ref (ad 38), .int (nI (n))])).length) Slot.unset).toArray = ls at hl ⊢
  have hl : lv_has ls 4 [(0, .ref (ad 0)), (1, .ref (ad 38)), (2, .int (nI (n)))] := hl
  have hnb : nb n ≤ 7 := nb_le_iff.mpr (by omega)
  have hnb1 : 1 ≤ nb n := nb_pos (by omega)
  refine lv_aload_n hx hb d_Mo_raise_0 rfl (lv_at hl 0 rfl) ?_
  refine mw_gF6 hx hb hts hown hKW.1 hP lf_Mo_34 d_Mo_raise_1 ?_
  refine lv_aload_n hx hb d_Mo_raise_4 rfl (lv_at hl 1 rfl) ?_
  refine zV_v (As := [.ref (ad 38)]) (rest := []) (n := 1) ⟨hx, hb, hml, hown, hts⟩ (c_Mn_set_N l w _ (i := 15) (a := 17) (by omega) (by omega) (by omega) h3 hg) (cwV0 1 hts lm_Mo_69 im_Mn_set_N se_Mn_set_N in_Mn kq_Mn_set_N rfl rfl rfl (by decide +kernel) ⟨Nat.le_of_ble_eq_true rfl, Nat.le_of_ble_eq_true rfl⟩) (recMn hKW.1 hP (i := 15) (by omega)) hKW hP hD hS rfl hl.1 rfl (Nat.le_of_ble_eq_true rfl) d_Mo_raise_5 ⟨Nat.zero_le _, Nat.zero_le _⟩ (fun w1 H locs hp hP hD hS => ?_)
  obtain ⟨hE1, hV1, h31⟩ := hp
  refine lv_bipush (v := nI (31)) hx hb d_Mo_raise_8 (by decide) ?_
  refine lv_iload_n hx hb d_Mo_raise_10 rfl (lv_at hl 2 rfl) ?_
  refine zS_i (As := [.int (nI (n))]) (rest := [.int (nI (31))]) (n := 1) ⟨hx, hb, hml, hown, hts⟩ (c_Mx_nlz l w1 _ (n := n) hn1 hn2) (cwS0 1 hts lm_Mo_151 st_Ji_numberOfLeadingZeros in_Ji kq_Ji_numberOfLeadingZeros rfl rfl rfl (by decide +kernel) ⟨Nat.le_of_ble_eq_true rfl, Nat.le_of_ble_eq_true rfl⟩) hKW hP hD hS rfl hl.1 rfl (Nat.le_of_ble_eq_true rfl) d_Mo_raise_11 ⟨Nat.zero_le _, Nat.zero_le _⟩ (fun r w2 H locs hp hP hD hS => ?_)
  obtain ⟨er, ew⟩ := hp
  rw [ew] at hP hD
  subst er
  refine nw_isub (v := nI (nb n - 1)) hx hb d_Mo_raise_14 ((pk_sub (by omega)).trans (by rw [show 31 - (32 - nb n) = nb n - 1 by omega])) ?_
  refine lv_iconst (v := nI (1)) hx hb d_Mo_raise_15 (by decide) ?_
  refine nw_isub (v := dn (nb n - 1)) hx hb d_Mo_raise_16 (dn_sub _) ?_
  refine lv_istore_n (lv' := [(3, .int (dn (nb n - 1))), (0, .ref (ad 0)), (1, .ref (ad 38)), (2, .int (nI (n)))]) hx hb d_Mo_raise_17 rfl hl (by decide) rfl (fun ls hl => ?_)
  have loop : ∀ (k : Nat) (w1 : Mt) (H : Heap) (locs : List Loc) (ls : Array Slot), k ≤ nb n - 1 → eqM w w1 [15, 18] → NU w1 15 (g ^ (n / 2 ^ k)) → W3 w1 → va_P D clA (NM cI cB cR ad (w1)) H → va_D (AM ad s.heap.size) (NM cI cB cR ad (w1)) → va_S (AM ad s.heap.size) s.heap H locs → lv_has ls 4 [(3, .int (dn k)), (0, .ref (ad 0)), (1, .ref (ad 38)), (2, .int (nI (n)))] → W p l e (headSpec (q_Mo_raise :: wA) { frames := 4, cells := 0, slots := 0, locals := 160 }).room s m ([.ref (ad 0), .ref (ad 38), .int (nI (n))] : List Value).toArray below meth c H locs 0 0 (MQ below (va_Qv (fun w1 : Mt => eqM w w1 [15, 18] ∧ NU w1 15 (g ^ n) ∧ W3 w1) (BM D cI cB cR ad) (AM ad s.heap.size)) ([.ref (ad 0), .ref (ad 38), .int (nI (n))] : List Value).toArray s 0 0 (AM ad s.heap.size)) (F0 m 18 ls []) := by
    intro k
    induction k with
    | zero =>
      intro w1 H locs ls hk hE hV h31 hP hD hS hl
      refine lv_iload_n hx hb d_Mo_raise_18 rfl (lv_at hl 0 rfl) ?_
      refine lv_if_lt (tgt := 88) hx hb d_Mo_raise_19 (by decide) (fun c19 => ?_) (fun c19 => ?_)
      · skip
        rw [Nat.pow_zero, Nat.div_one] at hV
        exact W.vret hx hb hr (fun t ht hW => ⟨⟨w1, rfl, ⟨hE, hV, h31⟩, BM_of ht hP⟩, hS.F ht⟩) hS.2.2 d_Mo_raise_88
      · exact absurd dn_0 c19
    | succ k ih =>
      intro w1 H locs ls hk hE hV h31 hP hD hS hl
      refine lv_iload_n hx hb d_Mo_raise_18 rfl (lv_at hl 0 rfl) ?_
      refine lv_if_lt (tgt := 88) hx hb d_Mo_raise_19 (by decide) (fun c19 => ?_) (fun c19 => ?_)
      · exact absurd c19 (nI_pos (by omega))
      · skip
        have hX1 : 1 < 2 ^ 200100 := Nat.one_lt_two_pow (by decide)
        have hle : n / 2 ^ k ≤ n := Nat.div_le_self _ _
        have hb9 := pow_bit (v := g) (n := n) (k := k)
        have hm2 : n / 2 ^ k % 2 < 2 := Nat.mod_lt _ (by decide)
        have hQ : g ^ (n / 2 ^ k) < 2 ^ 200100 := pow_fit hle hfit hX1
        have hd2 : n / 2 ^ (k + 1) = n / 2 ^ k / 2 := by rw [Nat.pow_succ, Nat.div_div_eq_div_mul]
        have hQ2 : g ^ (n / 2 ^ (k + 1)) * g ^ (n / 2 ^ (k + 1)) < 2 ^ 200100 := by rw [← Nat.pow_add]; exact pow_fit (by omega) hfit hX1
        have hbig : (2 : Nat) ^ 200100 ≤ 2 ^ 200200 := Nat.pow_le_pow_right (by decide) (by decide)
        refine lv_aload_n hx hb d_Mo_raise_22 rfl (lv_at hl 1 rfl) ?_
        refine mw_gF9 hx hb hts hown hKW.1 hP lf_Mo_43 d_Mo_raise_23 ?_
        refine lv_aload_n hx hb d_Mo_raise_26 rfl (lv_at hl 1 rfl) ?_
        refine mw_gF6 hx hb hts hown hKW.1 hP lf_Mo_34 d_Mo_raise_27 ?_
        refine lv_aload_n hx hb d_Mo_raise_30 rfl (lv_at hl 1 rfl) ?_
        refine mw_gF6 hx hb hts hown hKW.1 hP lf_Mo_34 d_Mo_raise_31 ?_
        refine zV_v (As := [.ref (ad 34), .ref (ad 34)]) (rest := []) (n := 2) ⟨hx, hb, hml, hown, hts⟩ (c_Mn_product l w1 _ (i := 18) (a := 15) (b := 15) (by omega) (by omega) (by omega) (by omega) (by omega) h31 hV hV (fitM3 hV hV (Nat.lt_of_lt_of_le hQ2 hbig))) (cwV0 2 hts lm_Mo_115 im_Mn_product se_Mn_product in_Mn kq_Mn_product rfl rfl rfl (by decide +kernel) ⟨Nat.le_of_ble_eq_true rfl, Nat.le_of_ble_eq_true rfl⟩) (recMn hKW.1 hP (i := 18) (by omega)) hKW hP hD hS rfl hl.1 rfl (Nat.le_of_ble_eq_true rfl) d_Mo_raise_34 ⟨Nat.zero_le _, Nat.zero_le _⟩ (fun w2 H locs hp hP hD hS => ?_)
        obtain ⟨hE2, hV2, h32⟩ := hp
        refine lv_aload_n hx hb d_Mo_raise_37 rfl (lv_at hl 1 rfl) ?_
        refine mw_gF6 hx hb hts hown hKW.1 hP lf_Mo_34 d_Mo_raise_38 ?_
        refine lv_aload_n hx hb d_Mo_raise_41 rfl (lv_at hl 1 rfl) ?_
        refine mw_gF9 hx hb hts hown hKW.1 hP lf_Mo_43 d_Mo_raise_42 ?_
        refine zV_v (As := [.ref (ad 40)]) (rest := []) (n := 1) ⟨hx, hb, hml, hown, hts⟩ (c_Mn_set_N l w2 _ (i := 15) (a := 18) (by omega) (by omega) (by omega) h32 hV2) (cwV0 1 hts lm_Mo_69 im_Mn_set_N se_Mn_set_N in_Mn kq_Mn_set_N rfl rfl rfl (by decide +kernel) ⟨Nat.le_of_ble_eq_true rfl, Nat.le_of_ble_eq_true rfl⟩) (recMn hKW.1 hP (i := 15) (by omega)) hKW hP hD hS rfl hl.1 rfl (Nat.le_of_ble_eq_true rfl) d_Mo_raise_45 ⟨Nat.zero_le _, Nat.zero_le _⟩ (fun w3 H locs hp hP hD hS => ?_)
        obtain ⟨hE3, hV3, h33⟩ := hp
        have hEE : eqM w w3 [15, 18] := hE.trans ((hE2.mono (by simp)).trans (hE3.mono (by simp)))
        refine lv_iload_n hx hb d_Mo_raise_48 rfl (lv_at hl 3 rfl) ?_
        refine lv_iload_n hx hb d_Mo_raise_49 rfl (lv_at hl 0 rfl) ?_
        refine nw_ishr (v := nI (n / 2 ^ k)) hx hb d_Mo_raise_50 (nI_sr (by omega) (by omega)) ?_
        refine lv_iconst (v := nI (1)) hx hb d_Mo_raise_51 (by decide) ?_
        refine nw_iand (v := nI ((n / 2 ^ k) % 2)) hx hb d_Mo_raise_52 (nI_and1 _) ?_
        refine lv_if_ne (tgt := 59) hx hb d_Mo_raise_53 (by decide) (fun c53 => ?_) (fun c53 => ?_)
        · skip
          have c53 : ¬ ((n / 2 ^ k) % 2 = 0) := fun h => c53 (by have := (nI_eq (by omega) (by omega)).mpr h; rwa [nI_0] at this)
          rw [show n / 2 ^ k % 2 = 1 by omega, Nat.pow_one] at hb9
          have hg3 : NU w3 17 g := hEE.nu (by simp) hg
          refine lv_aload_n hx hb d_Mo_raise_59 rfl (lv_at hl 1 rfl) ?_
          refine mw_gF9 hx hb hts hown hKW.1 hP lf_Mo_43 d_Mo_raise_60 ?_
          refine lv_aload_n hx hb d_Mo_raise_63 rfl (lv_at hl 1 rfl) ?_
          refine mw_gF6 hx hb hts hown hKW.1 hP lf_Mo_34 d_Mo_raise_64 ?_
          refine lv_aload_n hx hb d_Mo_raise_67 rfl (lv_at hl 2 rfl) ?_
          refine zV_v (As := [.ref (ad 34), .ref (ad 38)]) (rest := []) (n := 2) ⟨hx, hb, hml, hown, hts⟩ (c_Mn_product l w3 _ (i := 18) (a := 15) (b := 17) (by omega) (by omega) (by omega) (by omega) (by omega) h33 hV3 hg3 (fitM3 hV3 hg3 (by rw [hb9]; exact Nat.lt_of_lt_of_le hQ hbig))) (cwV0 2 hts lm_Mo_115 im_Mn_product se_Mn_product in_Mn kq_Mn_product rfl rfl rfl (by decide +kernel) ⟨Nat.le_of_ble_eq_true rfl, Nat.le_of_ble_eq_true rfl⟩) (recMn hKW.1 hP (i := 18) (by omega)) hKW hP hD hS rfl hl.1 rfl (Nat.le_of_ble_eq_true rfl) d_Mo_raise_68 ⟨Nat.zero_le _, Nat.zero_le _⟩ (fun w4 H locs hp hP hD hS => ?_)
          obtain ⟨hE4, hV4, h34⟩ := hp
          rw [hb9] at hV4
          refine lv_aload_n hx hb d_Mo_raise_71 rfl (lv_at hl 1 rfl) ?_
          refine mw_gF6 hx hb hts hown hKW.1 hP lf_Mo_34 d_Mo_raise_72 ?_
          refine lv_aload_n hx hb d_Mo_raise_75 rfl (lv_at hl 1 rfl) ?_
          refine mw_gF9 hx hb hts hown hKW.1 hP lf_Mo_43 d_Mo_raise_76 ?_
          refine zV_v (As := [.ref (ad 40)]) (rest := []) (n := 1) ⟨hx, hb, hml, hown, hts⟩ (c_Mn_set_N l w4 _ (i := 15) (a := 18) (by omega) (by omega) (by omega) h34 hV4) (cwV0 1 hts lm_Mo_69 im_Mn_set_N se_Mn_set_N in_Mn kq_Mn_set_N rfl rfl rfl (by decide +kernel) ⟨Nat.le_of_ble_eq_true rfl, Nat.le_of_ble_eq_true rfl⟩) (recMn hKW.1 hP (i := 15) (by omega)) hKW hP hD hS rfl hl.1 rfl (Nat.le_of_ble_eq_true rfl) d_Mo_raise_79 ⟨Nat.zero_le _, Nat.zero_le _⟩ (fun w5 H locs hp hP hD hS => ?_)
          obtain ⟨hE5, hV5, h35⟩ := hp
          refine lv_iinc (v := dn k) (lv' := [(3, .int (dn k)), (0, .ref (ad 0)), (1, .ref (ad 38)), (2, .int (nI (n)))]) hx hb d_Mo_raise_82 hl (k := 0) rfl (dn_dec k) (by decide) rfl (fun ls hl => ?_)
          refine lv_goto (tgt := 18) hx hb d_Mo_raise_85 (by decide) ?_
          exact ih w5 H locs ls (by omega) (hEE.trans ((hE4.mono (by simp)).trans (hE5.mono (by simp)))) hV5 h35 hP hD hS (lv_sub hl [0, 1, 2, 3] rfl)
        · skip
          have c53 : (n / 2 ^ k) % 2 = 0 := (nI_eq (by omega) (by omega)).mp (by first | (rw [nI_0]; exact c53) | rw [nI_0])
          rw [c53, Nat.pow_zero, Nat.mul_one] at hb9
          rw [hb9] at hV3
          refine lv_goto (tgt := 82) hx hb d_Mo_raise_56 (by decide) ?_
          refine lv_iinc (v := dn k) (lv' := [(3, .int (dn k)), (0, .ref (ad 0)), (1, .ref (ad 38)), (2, .int (nI (n)))]) hx hb d_Mo_raise_82 hl (k := 0) rfl (dn_dec k) (by decide) rfl (fun ls hl => ?_)
          refine lv_goto (tgt := 18) hx hb d_Mo_raise_85 (by decide) ?_
          exact ih w3 H locs ls (by omega) hEE hV3 h33 hP hD hS (lv_sub hl [0, 1, 2, 3] rfl)
  refine loop (nb n - 1) w1 _ _ ls (Nat.le_refl _) (hE1.mono (by simp)) ?_ h31 hP hD hS (lv_sub hl [0, 1, 2, 3] rfl)
  rw [nb_top hn1, Nat.pow_one]; exact hV1
set_option maxHeartbeats 4000000 in
set_option maxRecDepth 100000 in
/-- rootOf(n) -/
theorem c_Mo_rootOf (l : Launch) {D : va_G} {cI cB cR : ClassId} {ad : Nat → Nat} (w : Mt) (sz : Nat) {v n : Nat} (hn1 : 1 ≤ n) (hn2 : n ≤ 40) (h3 : W3 w) (hv : NU w 10 v) (hv0 : v ≠ 0) (hvb : nb v ≤ 200000) : Met l y_Mo_rootOf (q_Mo_rootOf :: wA) { frames := 6, cells := 0, slots := 0, locals := 220 } (va_Pc [.ref (ad 0), .int (nI (n))] (PM D cI cB cR ad w sz)) (va_Qi (fun (_ : Int32) (w1 : Mt) => eqM w w1 [11, 12, 13, 14, 15, 16, 17, 18] ∧ NU w1 17 (rootN v n) ∧ W3 w1) (BM D cI cB cR ad) (AM ad sz)) 0 0 (AM ad sz) := by
  refine Met.ofW (cc := b_Mo_rootOf) (maxL := 3) (ret := (some (.boolean))) (by decide) rfl ?_
  intro p e s m args below meth c s₁ B hml hv
  obtain ⟨rfl, hsz, hP, hD0, hKW⟩ := hv
  have hx := B.exec
  have hb := B.bytes
  have hr := B.returns
  have hts := atoms_spec (ws := q_Mo_rootOf :: wA) B.pre
  have hown : s.vm.findClass R_Mo = some m.cls := findClass_of_methodNamed B.named
  have hlocks := B.notSynchronized
  subst hsz
  have hD := NM_AM (sz := s.heap.size) hD0
  have hS : va_S (AM ad s.heap.size) s.heap s.heap [] := va_S.rf
  have hl := lv_entry ([.ref (ad 0), .int (nI (n))]) (n := 3) (Nat.le_of_ble_eq_true rfl)
  rw [lg_entry_eq]
  generalize (lg_sl ([.ref (ad 0), .int (nI (n))]) ++ List.replicate (3 - (lg_sl ([.ref (ad 0), .int (nI (n))])).length) Slot.unset).toArray = ls at hl ⊢
  have hl : lv_has ls 3 [(0, .ref (ad 0)), (1, .int (nI (n)))] := hl
  have hv2 : v < 2 ^ 200000 := nb_le_iff.mp hvb
  refine lv_iload_n hx hb d_Mo_rootOf_0 rfl (lv_at hl 1 rfl) ?_
  refine lv_iconst (v := nI (1)) hx hb d_Mo_rootOf_1 (by decide) ?_
  refine lv_icmp_ne (tgt := 18) hx hb d_Mo_rootOf_2 (by decide) (fun c2 => ?_) (fun c2 => ?_)
  · skip
    have c2 : ¬ (n = 1) := fun h => c2 ((nI_eq (by omega) (by omega)).mpr h)
    obtain ⟨n1, rfl⟩ : ∃ n1, n = n1 + 1 := ⟨n - 1, by omega⟩
    refine lv_aload_n hx hb d_Mo_rootOf_18 rfl (lv_at hl 0 rfl) ?_
    refine mw_gF8 hx hb hts hown hKW.1 hP lf_Mo_40 d_Mo_rootOf_19 ?_
    refine lv_aload_n hx hb d_Mo_rootOf_22 rfl (lv_at hl 0 rfl) ?_
    refine mw_gF1 hx hb hts hown hKW.1 hP lf_Mo_18 d_Mo_rootOf_23 ?_
    refine zV_i (As := []) (rest := [.ref (ad 38)]) (n := 0) ⟨hx, hb, hml, hown, hts⟩ (c_Mn_bits l w _ (i := 10) (by omega) h3 hv) (cwV0 0 hts lm_Mo_73 im_Mn_bits se_Mn_bits in_Mn kq_Mn_bits rfl rfl rfl (by decide +kernel) ⟨Nat.le_of_ble_eq_true rfl, Nat.le_of_ble_eq_true rfl⟩) (recMn hKW.1 hP (i := 10) (by omega)) hKW hP hD hS rfl hl.1 rfl (Nat.le_of_ble_eq_true rfl) d_Mo_rootOf_26 ⟨Nat.zero_le _, Nat.zero_le _⟩ (fun r w1 H locs hp hP hD hS => ?_)
    obtain ⟨er, ew⟩ := hp
    rw [ew] at hP hD
    subst er
    obtain ⟨g0, hg0⟩ : ∃ g0, g0 = (nb v + (n1 + 1) - 1) / (n1 + 1) := ⟨_, rfl⟩
    have hg0b : g0 ≤ 200000 := by
      rw [hg0]
      refine Nat.le_trans ((Nat.div_le_iff_le_mul_add_pred (by omega)).mpr ?_) hvb
      have := Nat.mul_le_mul_right (nb v) (show 1 ≤ n1 + 1 by omega)
      omega
    refine lv_iload_n hx hb d_Mo_rootOf_29 rfl (lv_at hl 1 rfl) ?_
    refine nw_iadd (v := nI (nb v + (n1 + 1))) hx hb d_Mo_rootOf_30 (nI_add _ _) ?_
    refine lv_iconst (v := nI (1)) hx hb d_Mo_rootOf_31 (by decide) ?_
    refine nw_isub (v := nI (nb v + (n1 + 1) - 1)) hx hb d_Mo_rootOf_32 (pk_sub (by omega)) ?_
    refine lv_iload_n hx hb d_Mo_rootOf_33 rfl (lv_at hl 1 rfl) ?_
    refine nw_idiv (v := nI (g0)) hx hb d_Mo_rootOf_34 (nI_ne0 (by omega) (by omega)) (by rw [hg0]; exact pk_div (by omega) (by omega) (by omega)) ?_
    refine zV_v (As := [.int (nI (g0))]) (rest := []) (n := 1) ⟨hx, hb, hml, hown, hts⟩ (c_Mn_one l w _ (i := 17) (k := g0) (by omega) h3 (by omega)) (cwV0 1 hts lm_Mo_141 im_Mn_one se_Mn_one in_Mn kq_Mn_one rfl rfl rfl (by decide +kernel) ⟨Nat.le_of_ble_eq_true rfl, Nat.le_of_ble_eq_true rfl⟩) (recMn hKW.1 hP (i := 17) (by omega)) hKW hP hD hS rfl hl.1 rfl (Nat.le_of_ble_eq_true rfl) d_Mo_rootOf_35 ⟨Nat.zero_le _, Nat.zero_le _⟩ (fun w1 H locs hp hP hD hS => ?_)
    obtain ⟨hE1, hV1, h31⟩ := hp
    refine lv_iconst (v := nI (1)) hx hb d_Mo_rootOf_38 (by decide) ?_
    refine lv_istore_n (lv' := [(2, .int (nI (1))), (0, .ref (ad 0)), (1, .int (nI (n1 + 1)))]) hx hb d_Mo_rootOf_39 rfl hl (by decide) rfl (fun ls hl => ?_)
    have hvr : ∀ w1 : Mt, eqM w w1 [11, 12, 13, 14, 15, 16, 17, 18] → NU w1 10 v := fun w1 hE => hE.nu (by simp) hv
    have hrt := rootN_is (v := v) (n := n1 + 1) (by omega)
    have fin : ∀ (w1 : Mt) (H : Heap) (locs : List Loc) (ls : Array Slot), eqM w w1 [11, 12, 13, 14, 15, 16, 17, 18] → NU w1 17 (rootN v (n1 + 1)) → W3 w1 → va_P D clA (NM cI cB cR ad (w1)) H → va_D (AM ad s.heap.size) (NM cI cB cR ad (w1)) → va_S (AM ad s.heap.size) s.heap H locs → lv_has ls 3 [(0, .ref (ad 0)), (1, .int (nI (n1 + 1)))] → W p l e (headSpec (q_Mo_rootOf :: wA) { frames := 6, cells := 0, slots := 0, locals := 220 }).room s m ([.ref (ad 0), .int (nI (n1 + 1))] : List Value).toArray below meth c H locs 0 0 (MQ below (va_Qi (fun (_ : Int32) (w1 : Mt) => eqM w w1 [11, 12, 13, 14, 15, 16, 17, 18] ∧ NU w1 17 (rootN v (n1 + 1)) ∧ W3 w1) (BM D cI cB cR ad) (AM ad s.heap.size)) ([.ref (ad 0), .int (nI (n1 + 1))] : List Value).toArray s 0 0 (AM ad s.heap.size)) (F0 m 161 ls []) := by
      intro w1 H locs ls hE hV h31 hP hD hS hl
      refine lv_aload_n hx hb d_Mo_rootOf_161 rfl (lv_at hl 0 rfl) ?_
      refine lv_aload_n hx hb d_Mo_rootOf_162 rfl (lv_at hl 0 rfl) ?_
      refine mw_gF8 hx hb hts hown hKW.1 hP lf_Mo_40 d_Mo_rootOf_163 ?_
      refine lv_iload_n hx hb d_Mo_rootOf_166 rfl (lv_at hl 1 rfl) ?_
      refine zV_v (As := [.ref (ad 38), .int (nI (n1 + 1))]) (rest := []) (n := 2) ⟨hx, hb, hml, hown, hts⟩ (c_Mo_raise l w1 _ (g := rootN v (n1 + 1)) (n := n1 + 1) (by omega) (by omega) h31 hV (Nat.lt_of_le_of_lt hrt.1 (Nat.lt_trans hv2 (Nat.pow_lt_pow_right (by decide) (by decide))))) (cwV0 2 hts lm_Mo_137 im_Mo_raise se_Mo_raise in_Mo kq_Mo_raise rfl rfl rfl (by decide +kernel) ⟨Nat.le_of_ble_eq_true rfl, Nat.le_of_ble_eq_true rfl⟩) (recMo hKW.1 hP) hKW hP hD hS rfl hl.1 rfl (Nat.le_of_ble_eq_true rfl) d_Mo_rootOf_167 ⟨Nat.zero_le _, Nat.zero_le _⟩ (fun w2 H locs hp hP hD hS => ?_)
      obtain ⟨hE2, hV2, h32⟩ := hp
      have hEE : eqM w w2 [11, 12, 13, 14, 15, 16, 17, 18] := hE.trans (hE2.mono (by simp))
      refine lv_aload_n hx hb d_Mo_rootOf_170 rfl (lv_at hl 0 rfl) ?_
      refine mw_gF6 hx hb hts hown hKW.1 hP lf_Mo_34 d_Mo_rootOf_171 ?_
      refine lv_aload_n hx hb d_Mo_rootOf_174 rfl (lv_at hl 0 rfl) ?_
      refine mw_gF1 hx hb hts hown hKW.1 hP lf_Mo_18 d_Mo_rootOf_175 ?_
      refine zV_i (As := [.ref (ad 24)]) (rest := []) (n := 1) ⟨hx, hb, hml, hown, hts⟩ (c_Mn_compare l w2 _ (i := 15) (b := 10) (by omega) (by omega) h32 hV2 (hvr w2 hEE)) (cwV0 1 hts lm_Mo_105 im_Mn_compare se_Mn_compare in_Mn kq_Mn_compare rfl rfl rfl (by decide +kernel) ⟨Nat.le_of_ble_eq_true rfl, Nat.le_of_ble_eq_true rfl⟩) (recMn hKW.1 hP (i := 15) (by omega)) hKW hP hD hS rfl hl.1 rfl (Nat.le_of_ble_eq_true rfl) d_Mo_rootOf_178 ⟨Nat.zero_le _, Nat.zero_le _⟩ (fun r w3 H locs hp hP hD hS => ?_)
      obtain ⟨er, ew⟩ := hp
      rw [ew] at hP hD
      refine lv_if_eq (tgt := 188) hx hb d_Mo_rootOf_181 (by decide) (fun c181 => ?_) (fun c181 => ?_)
      · skip
        refine lv_iconst (v := nI (0)) hx hb d_Mo_rootOf_188 (by decide) ?_
        exact W.zret (v := nI (0)) hx hb hr (by decide) (fun t ht hW => ⟨⟨_, w2, rfl, ⟨hEE, hE2.nu (by simp) hV, h32⟩, BM_of ht hP⟩, hS.F ht⟩) hS.2.2 d_Mo_rootOf_189
      · skip
        refine lv_iconst (v := nI (1)) hx hb d_Mo_rootOf_184 (by decide) ?_
        refine lv_goto (tgt := 189) hx hb d_Mo_rootOf_185 (by decide) ?_
        exact W.zret (v := nI (1)) hx hb hr (by decide) (fun t ht hW => ⟨⟨_, w2, rfl, ⟨hEE, hE2.nu (by simp) hV, h32⟩, BM_of ht hP⟩, hS.F ht⟩) hS.2.2 d_Mo_rootOf_189
    have loop : ∀ (q g : Nat) (w1 : Mt) (H : Heap) (locs : List Loc) (ls : Array Slot), g ≤ q → rootN v (n1 + 1) ≤ g → g ≤ 2 ^ g0 → eqM w w1 [11, 12, 13, 14, 15, 16, 17, 18] → NU w1 17 g → W3 w1 → va_P D clA (NM cI cB cR ad (w1)) H → va_D (AM ad s.heap.size) (NM cI cB cR ad (w1)) → va_S (AM ad s.heap.size) s.heap H locs → lv_has ls 3 [(2, .int (nI (1))), (0, .ref (ad 0)), (1, .int (nI (n1 + 1)))] → W p l e (headSpec (q_Mo_rootOf :: wA) { frames := 6, cells := 0, slots := 0, locals := 220 }).room s m ([.ref (ad 0), .int (nI (n1 + 1))] : List Value).toArray below meth c H locs 0 0 (MQ below (va_Qi (fun (_ : Int32) (w1 : Mt) => eqM w w1 [11, 12, 13, 14, 15, 16, 17, 18] ∧ NU w1 17 (rootN v (n1 + 1)) ∧ W3 w1) (BM D cI cB cR ad) (AM ad s.heap.size)) ([.ref (ad 0), .int (nI (n1 + 1))] : List Value).toArray s 0 0 (AM ad s.heap.size)) (F0 m 40 ls []) := by
      intro q
      induction q with
      | zero =>
        intro g w1 H locs ls hq hr
        have := rootN_pos (v := v) (n := n1 + 1) (by omega) hv0
        omega
      | succ q ih =>
        intro g w1 H locs ls hq hr hg2 hE hV h31 hP hD hS hl
        have hg1 : 1 ≤ g := Nat.le_trans (rootN_pos (by omega) hv0) hr
        have hgn := nt_fit hv0 hvb (by omega) hg0 hg2
        have hgp : 0 < g ^ n1 := Nat.pow_pos (by omega)
        refine lv_iload_n hx hb d_Mo_rootOf_40 rfl (lv_at hl 0 rfl) ?_
        refine lv_if_eq (tgt := 161) hx hb d_Mo_rootOf_41 (by decide) (fun c41 => ?_) (fun c41 => ?_)
        · skip
          have c41 : 1 = 0 := (nI_eq (by omega) (by omega)).mp (by first | (rw [nI_0]; exact c41) | rw [nI_0])
          omega
        · skip
          have c41 : ¬ (1 = 0) := fun h => c41 (by have := (nI_eq (by omega) (by omega)).mpr h; rwa [nI_0] at this)
          refine lv_aload_n hx hb d_Mo_rootOf_44 rfl (lv_at hl 1 rfl) ?_
          refine lv_aload_n hx hb d_Mo_rootOf_45 rfl (lv_at hl 1 rfl) ?_
          refine mw_gF8 hx hb hts hown hKW.1 hP lf_Mo_40 d_Mo_rootOf_46 ?_
          refine lv_iload_n hx hb d_Mo_rootOf_49 rfl (lv_at hl 2 rfl) ?_
          refine lv_iconst (v := nI (1)) hx hb d_Mo_rootOf_50 (by decide) ?_
          refine nw_isub (v := nI (n1)) hx hb d_Mo_rootOf_51 (pk_sub (by omega)) ?_
          refine zV_v (As := [.ref (ad 38), .int (nI (n1))]) (rest := []) (n := 2) ⟨hx, hb, hml, hown, hts⟩ (c_Mo_raise l w1 _ (g := g) (n := n1) (by omega) (by omega) h31 hV hgn) (cwV0 2 hts lm_Mo_137 im_Mo_raise se_Mo_raise in_Mo kq_Mo_raise rfl rfl rfl (by decide +kernel) ⟨Nat.le_of_ble_eq_true rfl, Nat.le_of_ble_eq_true rfl⟩) (recMo hKW.1 hP) hKW hP hD hS rfl hl.1 rfl (Nat.le_of_ble_eq_true rfl) d_Mo_rootOf_52 ⟨Nat.zero_le _, Nat.zero_le _⟩ (fun w2 H locs hp hP hD hS => ?_)
          obtain ⟨hE2, hV2, h32⟩ := hp
          have hF2 : eqM w w2 [11, 12, 13, 14, 15, 16, 17, 18] := hE.trans (hE2.mono (by simp))
          refine lv_aload_n hx hb d_Mo_rootOf_55 rfl (lv_at hl 1 rfl) ?_
          refine mw_gF2 hx hb hts hown hKW.1 hP lf_Mo_22 d_Mo_rootOf_56 ?_
          refine lv_aload_n hx hb d_Mo_rootOf_59 rfl (lv_at hl 1 rfl) ?_
          refine mw_gF1 hx hb hts hown hKW.1 hP lf_Mo_18 d_Mo_rootOf_60 ?_
          refine zV_v (As := [.ref (ad 24)]) (rest := []) (n := 1) ⟨hx, hb, hml, hown, hts⟩ (c_Mn_set_N l w2 _ (i := 11) (a := 10) (by omega) (by omega) (by omega) h32 (hvr w2 hF2)) (cwV0 1 hts lm_Mo_69 im_Mn_set_N se_Mn_set_N in_Mn kq_Mn_set_N rfl rfl rfl (by decide +kernel) ⟨Nat.le_of_ble_eq_true rfl, Nat.le_of_ble_eq_true rfl⟩) (recMn hKW.1 hP (i := 11) (by omega)) hKW hP hD hS rfl hl.1 rfl (Nat.le_of_ble_eq_true rfl) d_Mo_rootOf_63 ⟨Nat.zero_le _, Nat.zero_le _⟩ (fun w3 H locs hp hP hD hS => ?_)
          obtain ⟨hE3, hV3, h33⟩ := hp
          have hF3 : eqM w w3 [11, 12, 13, 14, 15, 16, 17, 18] := hF2.trans (hE3.mono (by simp))
          refine lv_aload_n hx hb d_Mo_rootOf_66 rfl (lv_at hl 1 rfl) ?_
          refine lv_aload_n hx hb d_Mo_rootOf_67 rfl (lv_at hl 1 rfl) ?_
          refine mw_gF2 hx hb hts hown hKW.1 hP lf_Mo_22 d_Mo_rootOf_68 ?_
          refine lv_aload_n hx hb d_Mo_rootOf_71 rfl (lv_at hl 1 rfl) ?_
          refine mw_gF6 hx hb hts hown hKW.1 hP lf_Mo_34 d_Mo_rootOf_72 ?_
          refine lv_aload_n hx hb d_Mo_rootOf_75 rfl (lv_at hl 1 rfl) ?_
          refine mw_gF3 hx hb hts hown hKW.1 hP lf_Mo_25 d_Mo_rootOf_76 ?_
          refine zV_v (As := [.ref (ad 26), .ref (ad 34), .ref (ad 28)]) (rest := []) (n := 3) ⟨hx, hb, hml, hown, hts⟩ (c_Mo_divide_NNN l w3 _ (t := 12) (Or.inr rfl) h33 hV3 (hE3.nu (by simp) hV2) (by omega) (Nat.lt_trans hv2 (Nat.pow_lt_pow_right (by decide) (by decide))) hgn) (cwV0 3 hts lm_Mo_133 im_Mo_divide_NNN se_Mo_divide_NNN in_Mo kq_Mo_divide_NNN rfl rfl rfl (by decide +kernel) ⟨Nat.le_of_ble_eq_true rfl, Nat.le_of_ble_eq_true rfl⟩) (recMo hKW.1 hP) hKW hP hD hS rfl hl.1 rfl (Nat.le_of_ble_eq_true rfl) d_Mo_rootOf_79 ⟨Nat.zero_le _, Nat.zero_le _⟩ (fun w4 H locs hp hP hD hS => ?_)
          obtain ⟨hE4, hQ4, hR4, h34⟩ := hp
          have hF4 : eqM w w4 [11, 12, 13, 14, 15, 16, 17, 18] := hF3.trans (hE4.mono (by simp))
          have hg4 : NU w4 17 g := hE4.nu (by simp) (hE3.nu (by simp) (hE2.nu (by simp) hV))
          refine lv_aload_n hx hb d_Mo_rootOf_82 rfl (lv_at hl 1 rfl) ?_
          refine mw_gF7 hx hb hts hown hKW.1 hP lf_Mo_37 d_Mo_rootOf_83 ?_
          refine lv_aload_n hx hb d_Mo_rootOf_86 rfl (lv_at hl 1 rfl) ?_
          refine mw_gF8 hx hb hts hown hKW.1 hP lf_Mo_40 d_Mo_rootOf_87 ?_
          refine zV_v (As := [.ref (ad 38)]) (rest := []) (n := 1) ⟨hx, hb, hml, hown, hts⟩ (c_Mn_set_N l w4 _ (i := 16) (a := 17) (by omega) (by omega) (by omega) h34 hg4) (cwV0 1 hts lm_Mo_69 im_Mn_set_N se_Mn_set_N in_Mn kq_Mn_set_N rfl rfl rfl (by decide +kernel) ⟨Nat.le_of_ble_eq_true rfl, Nat.le_of_ble_eq_true rfl⟩) (recMn hKW.1 hP (i := 16) (by omega)) hKW hP hD hS rfl hl.1 rfl (Nat.le_of_ble_eq_true rfl) d_Mo_rootOf_90 ⟨Nat.zero_le _, Nat.zero_le _⟩ (fun w5 H locs hp hP hD hS => ?_)
          obtain ⟨hE5, hV5, h35⟩ := hp
          have hF5 : eqM w w5 [11, 12, 13, 14, 15, 16, 17, 18] := hF4.trans (hE5.mono (by simp))
          have hgb : g < 2 ^ 200001 := Nat.lt_of_le_of_lt hg2 (Nat.pow_lt_pow_right (by decide) (by omega))
          have hl5 := hV5.fit hgb
          refine lv_aload_n hx hb d_Mo_rootOf_93 rfl (lv_at hl 1 rfl) ?_
          refine mw_gF7 hx hb hts hown hKW.1 hP lf_Mo_37 d_Mo_rootOf_94 ?_
          refine lv_iload_n hx hb d_Mo_rootOf_97 rfl (lv_at hl 2 rfl) ?_
          refine lv_iconst (v := nI (1)) hx hb d_Mo_rootOf_98 (by decide) ?_
          refine nw_isub (v := nI (n1)) hx hb d_Mo_rootOf_99 (pk_sub (by omega)) ?_
          refine zV_v (As := [.int (nI (n1))]) (rest := []) (n := 1) ⟨hx, hb, hml, hown, hts⟩ (c_Mn_times l w5 _ (i := 16) (d := n1) (by omega) h35 hV5 (by omega) (by omega) (by omega)) (cwV0 1 hts lm_Mo_144 im_Mn_times se_Mn_times in_Mn kq_Mn_times rfl rfl rfl (by decide +kernel) ⟨Nat.le_of_ble_eq_true rfl, Nat.le_of_ble_eq_true rfl⟩) (recMn hKW.1 hP (i := 16) (by omega)) hKW hP hD hS rfl hl.1 rfl (Nat.le_of_ble_eq_true rfl) d_Mo_rootOf_100 ⟨Nat.zero_le _, Nat.zero_le _⟩ (fun w6 H locs hp hP hD hS => ?_)
          obtain ⟨hE6, hV6, h36⟩ := hp
          have hF6 : eqM w w6 [11, 12, 13, 14, 15, 16, 17, 18] := hF5.trans (hE6.mono (by simp))
          have hQ6 : NU w6 12 (v / g ^ n1) := hE6.nu (by simp) (hE5.nu (by simp) hQ4)
          have hl6 := hQ6.fit (Nat.lt_of_le_of_lt (Nat.div_le_self _ _) hv2)
          have hl66 := hV6.fit (k := 200010) (by
            have a1 : g * n1 ≤ 2 ^ g0 * 2 ^ 6 := Nat.mul_le_mul hg2 (by omega)
            rw [← Nat.pow_add] at a1
            exact Nat.lt_of_le_of_lt a1 (Nat.pow_lt_pow_right (by decide) (by omega)))
          refine lv_aload_n hx hb d_Mo_rootOf_103 rfl (lv_at hl 1 rfl) ?_
          refine mw_gF7 hx hb hts hown hKW.1 hP lf_Mo_37 d_Mo_rootOf_104 ?_
          refine lv_aload_n hx hb d_Mo_rootOf_107 rfl (lv_at hl 1 rfl) ?_
          refine mw_gF3 hx hb hts hown hKW.1 hP lf_Mo_25 d_Mo_rootOf_108 ?_
          refine zV_v (As := [.ref (ad 28)]) (rest := []) (n := 1) ⟨hx, hb, hml, hown, hts⟩ (c_Mn_add_N l w6 _ (i := 16) (a := 12) (by omega) (by omega) (by omega) h36 hV6 hQ6 (by omega) (by omega)) (cwV0 1 hts lm_Mo_102 im_Mn_add_N se_Mn_add_N in_Mn kq_Mn_add_N rfl rfl rfl (by decide +kernel) ⟨Nat.le_of_ble_eq_true rfl, Nat.le_of_ble_eq_true rfl⟩) (recMn hKW.1 hP (i := 16) (by omega)) hKW hP hD hS rfl hl.1 rfl (Nat.le_of_ble_eq_true rfl) d_Mo_rootOf_111 ⟨Nat.zero_le _, Nat.zero_le _⟩ (fun w7 H locs hp hP hD hS => ?_)
          obtain ⟨hE7, hV7, h37⟩ := hp
          have hF7 : eqM w w7 [11, 12, 13, 14, 15, 16, 17, 18] := hF6.trans (hE7.mono (by simp))
          refine lv_aload_n hx hb d_Mo_rootOf_114 rfl (lv_at hl 1 rfl) ?_
          refine mw_gF7 hx hb hts hown hKW.1 hP lf_Mo_37 d_Mo_rootOf_115 ?_
          refine lv_iload_n hx hb d_Mo_rootOf_118 rfl (lv_at hl 2 rfl) ?_
          refine zV_i (As := [.int (nI (n1 + 1))]) (rest := []) (n := 1) ⟨hx, hb, hml, hown, hts⟩ (c_Mn_over l w7 _ (i := 16) (d := n1 + 1) (by omega) h37 hV7 (by omega) (by omega)) (cwV0 1 hts lm_Mo_147 im_Mn_over se_Mn_over in_Mn kq_Mn_over rfl rfl rfl (by decide +kernel) ⟨Nat.le_of_ble_eq_true rfl, Nat.le_of_ble_eq_true rfl⟩) (recMn hKW.1 hP (i := 16) (by omega)) hKW hP hD hS rfl hl.1 rfl (Nat.le_of_ble_eq_true rfl) d_Mo_rootOf_119 ⟨Nat.zero_le _, Nat.zero_le _⟩ (fun r w8 H locs hp hP hD hS => ?_)
          obtain ⟨er, hE8, hV8, h38⟩ := hp
          have hF8 : eqM w w8 [11, 12, 13, 14, 15, 16, 17, 18] := hF7.trans (hE8.mono (by simp))
          have hg8 : NU w8 17 g := hE8.nu (by simp) (hE7.nu (by simp) (hE6.nu (by simp) (hE5.nu (by simp) hg4)))
          refine lv_pop hx hb d_Mo_rootOf_122 rfl ?_
          refine lv_aload_n hx hb d_Mo_rootOf_123 rfl (lv_at hl 1 rfl) ?_
          refine mw_gF7 hx hb hts hown hKW.1 hP lf_Mo_37 d_Mo_rootOf_124 ?_
          refine lv_aload_n hx hb d_Mo_rootOf_127 rfl (lv_at hl 1 rfl) ?_
          refine mw_gF8 hx hb hts hown hKW.1 hP lf_Mo_40 d_Mo_rootOf_128 ?_
          refine zV_i (As := [.ref (ad 38)]) (rest := []) (n := 1) ⟨hx, hb, hml, hown, hts⟩ (c_Mn_compare l w8 _ (i := 16) (b := 17) (by omega) (by omega) h38 hV8 hg8) (cwV0 1 hts lm_Mo_105 im_Mn_compare se_Mn_compare in_Mn kq_Mn_compare rfl rfl rfl (by decide +kernel) ⟨Nat.le_of_ble_eq_true rfl, Nat.le_of_ble_eq_true rfl⟩) (recMn hKW.1 hP (i := 16) (by omega)) hKW hP hD hS rfl hl.1 rfl (Nat.le_of_ble_eq_true rfl) d_Mo_rootOf_131 ⟨Nat.zero_le _, Nat.zero_le _⟩ (fun r w9 H locs hp hP hD hS => ?_)
          obtain ⟨er2, ew⟩ := hp
          rw [ew] at hP hD
          rcases Nat.lt_or_ge ((g * n1 + v / g ^ n1) / (n1 + 1)) g with hc | hc
          · rw [cmpN_lt hc] at er2
            subst er2
            refine lv_if_ge (tgt := 141) hx hb d_Mo_rootOf_134 (by decide) (fun c134 => ?_) (fun c134 => ?_)
            · exact absurd c134 (by decide)
            · skip
              refine lv_iconst (v := nI (1)) hx hb d_Mo_rootOf_137 (by decide) ?_
              refine lv_goto (tgt := 142) hx hb d_Mo_rootOf_138 (by decide) ?_
              refine lv_istore_n (lv' := [(2, .int (nI (1))), (0, .ref (ad 0)), (1, .int (nI (n1 + 1)))]) hx hb d_Mo_rootOf_142 rfl hl (by decide) rfl (fun ls hl => ?_)
              refine lv_iload_n hx hb d_Mo_rootOf_143 rfl (lv_at hl 0 rfl) ?_
              refine lv_if_eq (tgt := 40) hx hb d_Mo_rootOf_144 (by decide) (fun c144 => ?_) (fun c144 => ?_)
              · skip
                have c144 : 1 = 0 := (nI_eq (by omega) (by omega)).mp (by first | (rw [nI_0]; exact c144) | rw [nI_0])
                omega
              · skip
                have c144 : ¬ (1 = 0) := fun h => c144 (by have := (nI_eq (by omega) (by omega)).mpr h; rwa [nI_0] at this)
                refine lv_aload_n hx hb d_Mo_rootOf_147 rfl (lv_at hl 1 rfl) ?_
                refine mw_gF8 hx hb hts hown hKW.1 hP lf_Mo_40 d_Mo_rootOf_148 ?_
                refine lv_aload_n hx hb d_Mo_rootOf_151 rfl (lv_at hl 1 rfl) ?_
                refine mw_gF7 hx hb hts hown hKW.1 hP lf_Mo_37 d_Mo_rootOf_152 ?_
                refine zV_v (As := [.ref (ad 36)]) (rest := []) (n := 1) ⟨hx, hb, hml, hown, hts⟩ (c_Mn_set_N l w8 _ (i := 17) (a := 16) (by omega) (by omega) (by omega) h38 hV8) (cwV0 1 hts lm_Mo_69 im_Mn_set_N se_Mn_set_N in_Mn kq_Mn_set_N rfl rfl rfl (by decide +kernel) ⟨Nat.le_of_ble_eq_true rfl, Nat.le_of_ble_eq_true rfl⟩) (recMn hKW.1 hP (i := 17) (by omega)) hKW hP hD hS rfl hl.1 rfl (Nat.le_of_ble_eq_true rfl) d_Mo_rootOf_155 ⟨Nat.zero_le _, Nat.zero_le _⟩ (fun w10 H locs hp hP hD hS => ?_)
                obtain ⟨hE9, hV9, h39⟩ := hp
                refine lv_goto (tgt := 40) hx hb d_Mo_rootOf_158 (by decide) ?_
                exact ih _ w10 H locs ls (by omega) (nt_ge hrt.1 hg1 hr) (by omega) (hF8.trans (hE9.mono (by simp))) hV9 h39 hP hD hS (lv_sub hl [0, 1, 2] rfl)
          · skip
            have hge : 0 ≤ r := by
              rw [er2]
              unfold cmpN
              rw [if_neg (by omega)]
              split <;> decide
            have hgr := nt_end hg1 hr (by omega)
            refine lv_if_ge (tgt := 141) hx hb d_Mo_rootOf_134 (by decide) (fun c134 => ?_) (fun c134 => ?_)
            · skip
              refine lv_iconst (v := nI (0)) hx hb d_Mo_rootOf_141 (by decide) ?_
              refine lv_istore_n (lv' := [(2, .int (nI (0))), (0, .ref (ad 0)), (1, .int (nI (n1 + 1)))]) hx hb d_Mo_rootOf_142 rfl hl (by decide) rfl (fun ls hl => ?_)
              refine lv_iload_n hx hb d_Mo_rootOf_143 rfl (lv_at hl 0 rfl) ?_
              refine lv_if_eq (tgt := 40) hx hb d_Mo_rootOf_144 (by decide) (fun c144 => ?_) (fun c144 => ?_)
              · skip
                have c144 : 0 = 0 := (nI_eq (by omega) (by omega)).mp (by first | (rw [nI_0]; exact c144) | rw [nI_0])
                refine lv_iload_n hx hb d_Mo_rootOf_40 rfl (lv_at hl 0 rfl) ?_
                refine lv_if_eq (tgt := 161) hx hb d_Mo_rootOf_41 (by decide) (fun c41 => ?_) (fun c41 => ?_)
                · skip
                  have c41 : 0 = 0 := (nI_eq (by omega) (by omega)).mp (by first | (rw [nI_0]; exact c41) | rw [nI_0])
                  exact fin w8 H locs ls hF8 (hgr ▸ hg8) h38 hP hD hS (lv_sub hl [1, 2] rfl)
                · skip
                  have c41 : ¬ (0 = 0) := fun h => c41 (by have := (nI_eq (by omega) (by omega)).mpr h; rwa [nI_0] at this)
                  omega
              · skip
                have c144 : ¬ (0 = 0) := fun h => c144 (by have := (nI_eq (by omega) (by omega)).mpr h; rwa [nI_0] at this)
                omega
            · exact absurd hge c134
    exact loop (2 ^ g0) (2 ^ g0) w1 _ _ ls (Nat.le_refl _) (nt_0 (by omega) hv0 hg0) (Nat.le_refl _) (hE1.mono (by simp)) hV1 h31 hP hD hS (lv_sub hl [0, 1, 2] rfl)
  · skip
    have c2 : n = 1 := (nI_eq (by omega) (by omega)).mp c2
    subst c2
    refine lv_aload_n hx hb d_Mo_rootOf_5 rfl (lv_at hl 0 rfl) ?_
    refine mw_gF8 hx hb hts hown hKW.1 hP lf_Mo_40 d_Mo_rootOf_6 ?_
    refine lv_aload_n hx hb d_Mo_rootOf_9 rfl (lv_at hl 0 rfl) ?_
    refine mw_gF1 hx hb hts hown hKW.1 hP lf_Mo_18 d_Mo_rootOf_10 ?_
    refine zV_v (As := [.ref (ad 24)]) (rest := []) (n := 1) ⟨hx, hb, hml, hown, hts⟩ (c_Mn_set_N l w _ (i := 17) (a := 10) (by omega) (by omega) (by omega) h3 hv) (cwV0 1 hts lm_Mo_69 im_Mn_set_N se_Mn_set_N in_Mn kq_Mn_set_N rfl rfl rfl (by decide +kernel) ⟨Nat.le_of_ble_eq_true rfl, Nat.le_of_ble_eq_true rfl⟩) (recMn hKW.1 hP (i := 17) (by omega)) hKW hP hD hS rfl hl.1 rfl (Nat.le_of_ble_eq_true rfl) d_Mo_rootOf_13 ⟨Nat.zero_le _, Nat.zero_le _⟩ (fun w1 H locs hp hP hD hS => ?_)
    obtain ⟨hE1, hV1, h31⟩ := hp
    refine lv_iconst (v := nI (0)) hx hb d_Mo_rootOf_16 (by decide) ?_
    exact W.zret (v := nI (0)) hx hb hr (by decide) (fun t ht hW => ⟨⟨_, w1, rfl, ⟨hE1.mono (by simp), by rw [rootN_1]; exact hV1, h31⟩, BM_of ht hP⟩, hS.F ht⟩) hS.2.2 d_Mo_rootOf_17

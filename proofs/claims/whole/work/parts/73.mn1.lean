/-! THE REFERENCE'S NUMBERS, 1 (rows laid by wip/whole/gen/c_mn1.py) -/
set_option maxHeartbeats 4000000 in
set_option maxRecDepth 100000 in
/-- set(x) -/
theorem c_Mn_set_N (l : Launch) {D : va_G} {cI cB cR : ClassId} {ad : Nat → Nat} (w : Mt) (sz : Nat) {i a v : Nat} (hi : i < 19) (ha : a < 19) (hai : a ≠ i) (h3 : W3 w) (hv : NU w a v) : Met l y_Mn_set_N (q_Mn_set_N :: wA) { frames := 1, cells := 0, slots := 0, locals := 60 } (va_Pc [.ref (ad (2 * i + 4)), .ref (ad (2 * a + 4))] (PM D cI cB cR ad w sz)) (va_Qv (fun w1 : Mt => eqM w w1 [i] ∧ NU w1 i (v) ∧ W3 w1) (BM D cI cB cR ad) (AM ad sz)) 0 0 (AM ad sz) := by
  refine Met.ofW (cc := b_Mn_set_N) (maxL := 2) (ret := none) (by decide) rfl ?_
  intro p e s m args below meth c s₁ B hml hv
  obtain ⟨rfl, hsz, hP, hD0, hKW⟩ := hv
  have hx := B.exec
  have hb := B.bytes
  have hr := B.returns
  have hts := atoms_spec (ws := q_Mn_set_N :: wA) B.pre
  have hown : s.vm.findClass R_Mn = some m.cls := findClass_of_methodNamed B.named
  have hlocks := B.notSynchronized
  subst hsz
  have hD := NM_AM (sz := s.heap.size) hD0
  have hS : va_S (AM ad s.heap.size) s.heap s.heap [] := va_S.rf
  have hl := lv_entry ([.ref (ad (2 * i + 4)), .ref (ad (2 * a + 4))]) (n := 2) (Nat.le_of_ble_eq_true rfl)
  rw [lg_entry_eq]
  generalize (lg_sl ([.ref (ad (2 * i + 4)), .ref (ad (2 * a + 4))]) ++ List.replicate (2 - (lg_sl ([.ref (ad (2 * i + 4)), .ref (ad (2 * a + 4))])).length) Slot.unset).toArray = ls at hl ⊢
  have hl : lv_has ls 2 [(0, .ref (ad (2 * i + 4))), (1, .ref (ad (2 * a + 4)))] := hl
  have hlen := hv.len
  refine lv_aload_n hx hb d_Mn_set_N_0 rfl (lv_at hl 1 rfl) ?_
  refine mw_gW hx hb hts hown hKW.1 hP (i := a) (by omega) lf_Mn_9 d_Mn_set_N_1 ?_
  refine lv_iconst (v := nI (0)) hx hb d_Mn_set_N_4 (by decide) ?_
  refine lv_aload_n hx hb d_Mn_set_N_5 rfl (lv_at hl 0 rfl) ?_
  refine mw_gW hx hb hts hown hKW.1 hP (i := i) (by omega) lf_Mn_9 d_Mn_set_N_6 ?_
  refine lv_iconst (v := nI (0)) hx hb d_Mn_set_N_9 (by decide) ?_
  refine lv_aload_n hx hb d_Mn_set_N_10 rfl (lv_at hl 1 rfl) ?_
  refine mw_gL hx hb hts hown hKW.1 hP (i := a) (by omega) (n := mL w a) rfl lf_Mn_15 d_Mn_set_N_11 ?_
  refine mw_cWW hx hb (hml.trans hl.1.symm) hts hown lm_Mn_19 hKW.1 hP hD hS (a := a) ha (i := i) hi (sp := 0) (dp := 0) (n := mL w a) (by omega) (by omega) (Nat.le_of_ble_eq_true rfl) (by decide) d_Mn_set_N_14 (fun H locs hP hD hS => ?_)
  rw [st_ofW] at hP hD
  refine lv_aload_n hx hb d_Mn_set_N_17 rfl (lv_at hl 0 rfl) ?_
  refine lv_aload_n hx hb d_Mn_set_N_18 rfl (lv_at hl 1 rfl) ?_
  refine mw_gL hx hb hts hown hKW.1 hP (i := a) (by omega) (n := mL w a) (by rw [st_mLn _ _ _ (by omega)]) lf_Mn_15 d_Mn_set_N_19 ?_
  refine mw_pL hx hb hts hown hKW.1 hP hD hS (i := i) (by omega) lf_Mn_15 d_Mn_set_N_22 (fun H locs hP hD hS => ?_)
  rw [st_qL] at hP hD
  have hf : ∀ j, j < mL w a → va_cpy (mW w a) (mW w i) 0 0 (mL w a) j = mW w a j := fun j hj => by
    rw [pk_cpy_in (Nat.zero_le _) (by omega)]
    simp
  exact W.vret hx hb hr (fun t ht hW => ⟨⟨st w i (va_cpy (mW w a) (mW w i) 0 0 (mL w a)) (mL w a), rfl, ⟨eqM_st _ _ _ _, NU_as hv st_mL (fun j hj => by rw [st_mW]; exact hf j hj), h3.st (cpy_B (h3 a) (h3 i))⟩, BM_of ht hP⟩, hS.F ht⟩) hS.2.2 d_Mn_set_N_25
set_option maxHeartbeats 4000000 in
set_option maxRecDepth 100000 in
/-- set(v) -/
theorem c_Mn_set_J (l : Launch) {D : va_G} {cI cB cR : ClassId} {ad : Nat → Nat} (w : Mt) (sz : Nat) {i V : Nat} (hi : i < 19) (hV : V < 2 ^ 64) (h3 : W3 w) : Met l y_Mn_set_J (q_Mn_set_J :: wA) { frames := 0, cells := 0, slots := 0, locals := 0 } (va_Pc [.ref (ad (2 * i + 4)), .long (lN (V))] (PM D cI cB cR ad w sz)) (va_Qv (fun w1 : Mt => eqM w w1 [i] ∧ NU w1 i (V) ∧ W3 w1) (BM D cI cB cR ad) (AM ad sz)) 0 0 (AM ad sz) := by
  refine Met.ofW (cc := b_Mn_set_J) (maxL := 5) (ret := none) (by decide) rfl ?_
  intro p e s m args below meth c s₁ B hml hv
  obtain ⟨rfl, hsz, hP, hD0, hKW⟩ := hv
  have hx := B.exec
  have hb := B.bytes
  have hr := B.returns
  have hts := atoms_spec (ws := q_Mn_set_J :: wA) B.pre
  have hown : s.vm.findClass R_Mn = some m.cls := findClass_of_methodNamed B.named
  have hlocks := B.notSynchronized
  subst hsz
  have hD := NM_AM (sz := s.heap.size) hD0
  have hS : va_S (AM ad s.heap.size) s.heap s.heap [] := va_S.rf
  have hl := lv_entry ([.ref (ad (2 * i + 4)), .long (lN (V))]) (n := 5) (Nat.le_of_ble_eq_true rfl)
  rw [lg_entry_eq]
  generalize (lg_sl ([.ref (ad (2 * i + 4)), .long (lN (V))]) ++ List.replicate (5 - (lg_sl ([.ref (ad (2 * i + 4)), .long (lN (V))])).length) Slot.unset).toArray = ls at hl ⊢
  have hl : lv_has ls 5 [(0, .ref (ad (2 * i + 4))), (1, .long (lN (V)))] := hl
  refine lv_aload_n hx hb d_Mn_set_J_0 rfl (lv_at hl 0 rfl) ?_
  refine lv_iconst (v := nI (0)) hx hb d_Mn_set_J_1 (by decide) ?_
  refine mw_pL hx hb hts hown hKW.1 hP hD hS (i := i) (by omega) lf_Mn_15 d_Mn_set_J_2 (fun H locs hP hD hS => ?_)
  rw [st_ofL] at hP hD
  refine lv_lload_n hx hb d_Mn_set_J_5 rfl (lv_at hl 1 rfl) ?_
  refine lv_lstore_n (lv' := [(3, .long (lN (V))), (0, .ref (ad (2 * i + 4))), (1, .long (lN (V)))]) hx hb d_Mn_set_J_6 rfl hl (by decide) rfl (fun ls hl => ?_)
  have loop : ∀ (q x n : Nat) (f : Nat → Nat) (H : Heap) (locs : List Loc) (ls : Array Slot), x < 1073741824 ^ q → x < 2 ^ 64 → n + q ≤ 3 → B3 f → uV f 0 n + x * 1073741824 ^ n = V → (x ≠ 0 ∨ n = 0 ∨ f (n - 1) ≠ 0) → va_P D clA (NM cI cB cR ad (st w i f n)) H → va_D (AM ad s.heap.size) (NM cI cB cR ad (st w i f n)) → va_S (AM ad s.heap.size) s.heap H locs → lv_has ls 5 [(3, .long (lN (x))), (0, .ref (ad (2 * i + 4))), (1, .long (lN (V)))] → W p l e (headSpec (q_Mn_set_J :: wA) { frames := 0, cells := 0, slots := 0, locals := 0 }).room s m ([.ref (ad (2 * i + 4)), .long (lN (V))] : List Value).toArray below meth c H locs 0 0 (MQ below (va_Qv (fun w1 : Mt => eqM w w1 [i] ∧ NU w1 i (V) ∧ W3 w1) (BM D cI cB cR ad) (AM ad s.heap.size)) ([.ref (ad (2 * i + 4)), .long (lN (V))] : List Value).toArray s 0 0 (AM ad s.heap.size)) (F0 m 7 ls []) := by
    intro q
    induction q with
    | zero =>
      intro x n f H locs ls h1 h2 h5 hB hv htp hP hD hS hl
      refine lv_lload_n hx hb d_Mn_set_J_7 rfl (lv_at hl 0 rfl) ?_
      refine lv_lconst (v := lN (0)) hx hb d_Mn_set_J_8 (by decide) ?_
      refine W.lcmp hx hb d_Mn_set_J_9 ?_
      refine lv_if_eq (tgt := 45) hx hb d_Mn_set_J_10 (by decide) (fun c10 => ?_) (fun c10 => ?_)
      · skip
        have c10 : x = 0 := (lN_eqI (by omega) (by omega)).mp ((lg_cmp_eq _ _).mp c10)
        have htp : n = 0 ∨ f (n - 1) ≠ 0 := by rcases htp with z | z; exact absurd c10 z; exact z
        have hv : uV f 0 n = V := by rw [c10, Nat.zero_mul] at hv; exact hv
        exact W.vret hx hb hr (fun t ht hW => ⟨⟨st w i f n, rfl, ⟨eqM_st _ _ _ _, NU_st (by omega) htp hv, h3.st hB⟩, BM_of ht hP⟩, hS.F ht⟩) hS.2.2 d_Mn_set_J_45
      · skip
        have c10 : ¬ (x = 0) := fun h => c10 ((lg_cmp_eq _ _).mpr ((lN_eqI (by omega) (by omega)).mpr h))
        rw [Nat.pow_zero] at h1
        omega
    | succ q ih =>
      intro x n f H locs ls h1 h2 h5 hB hv htp hP hD hS hl
      refine lv_lload_n hx hb d_Mn_set_J_7 rfl (lv_at hl 0 rfl) ?_
      refine lv_lconst (v := lN (0)) hx hb d_Mn_set_J_8 (by decide) ?_
      refine W.lcmp hx hb d_Mn_set_J_9 ?_
      refine lv_if_eq (tgt := 45) hx hb d_Mn_set_J_10 (by decide) (fun c10 => ?_) (fun c10 => ?_)
      · skip
        have c10 : x = 0 := (lN_eqI (by omega) (by omega)).mp ((lg_cmp_eq _ _).mp c10)
        have htp : n = 0 ∨ f (n - 1) ≠ 0 := by rcases htp with z | z; exact absurd c10 z; exact z
        have hv : uV f 0 n = V := by rw [c10, Nat.zero_mul] at hv; exact hv
        exact W.vret hx hb hr (fun t ht hW => ⟨⟨st w i f n, rfl, ⟨eqM_st _ _ _ _, NU_st (by omega) htp hv, h3.st hB⟩, BM_of ht hP⟩, hS.F ht⟩) hS.2.2 d_Mn_set_J_45
      · skip
        have c10 : ¬ (x = 0) := fun h => c10 ((lg_cmp_eq _ _).mpr ((lN_eqI (by omega) (by omega)).mpr h))
        refine lv_aload_n hx hb d_Mn_set_J_13 rfl (lv_at hl 1 rfl) ?_
        refine mw_gW hx hb hts hown hKW.1 hP (i := i) (by omega) lf_Mn_9 d_Mn_set_J_14 ?_
        refine lv_aload_n hx hb d_Mn_set_J_17 rfl (lv_at hl 1 rfl) ?_
        refine mw_gL hx hb hts hown hKW.1 hP (i := i) (by omega) (n := n) (by rw [st_mL]) lf_Mn_15 d_Mn_set_J_18 ?_
        refine lv_lload_n hx hb d_Mn_set_J_21 rfl (lv_at hl 0 rfl) ?_
        refine lv_l2i (v := nI (x)) hx hb d_Mn_set_J_22 (lN_i _) ?_
        refine lv_ldc (v := 1073741823) hx hb hown (hA_ hts lk_Mn_25) d_Mn_set_J_23 ?_
        refine nw_iand (v := nI (x % 1073741824)) hx hb d_Mn_set_J_25 (nI_mask _) ?_
        refine mw_sW hx hb hKW.1 hP hD hS (i := i) (by omega) (j := n) (by omega) d_Mn_set_J_26 (fun H locs hP hD hS => ?_)
        rw [st_qW, st_mW] at hP hD
        refine lv_aload_n hx hb d_Mn_set_J_27 rfl (lv_at hl 1 rfl) ?_
        refine lv_dup hx hb d_Mn_set_J_28 rfl ?_
        refine mw_gL hx hb hts hown hKW.1 hP (i := i) (by omega) (n := n) (by rw [st_mL]) lf_Mn_15 d_Mn_set_J_29 ?_
        refine lv_iconst (v := nI (1)) hx hb d_Mn_set_J_32 (by decide) ?_
        refine nw_iadd (v := nI (n + 1)) hx hb d_Mn_set_J_33 (nI_add _ _) ?_
        refine mw_pL hx hb hts hown hKW.1 hP hD hS (i := i) (by omega) lf_Mn_15 d_Mn_set_J_34 (fun H locs hP hD hS => ?_)
        rw [st_qL] at hP hD
        refine lv_lload_n hx hb d_Mn_set_J_37 rfl (lv_at hl 0 rfl) ?_
        refine lv_bipush (v := nI (30)) hx hb d_Mn_set_J_38 (by decide) ?_
        refine lv_lushr (v := lN (x / 1073741824)) hx hb d_Mn_set_J_40 (lN_shr (k := 30) (by omega) (by decide)) ?_
        refine lv_lstore_n (lv' := [(3, .long (lN (x / 1073741824))), (0, .ref (ad (2 * i + 4))), (1, .long (lN (V)))]) hx hb d_Mn_set_J_41 rfl hl (by decide) rfl (fun ls hl => ?_)
        refine lv_goto (tgt := 7) hx hb d_Mn_set_J_42 (by decide) ?_
        rw [Nat.pow_succ] at h1
        refine ih (x / 1073741824) (n + 1) _ H locs ls (Nat.div_lt_of_lt_mul (by rw [Nat.mul_comm]; exact h1)) (by omega) (by omega) (upM_B hB (p3_mod _)) (by rw [u_ch1]; exact hv) ?_ hP hD hS (lv_sub hl [0, 1, 2] rfl)
        by_cases z : x / 1073741824 = 0
        · right; right; rw [Nat.add_sub_cancel, upM_s]; omega
        · exact Or.inl z
  exact loop 3 V 0 _ _ _ ls (by omega) hV (by omega) (h3 i) (by rw [uV_0, Nat.pow_zero]; omega) (Or.inr (Or.inl rfl)) hP hD hS (lv_sub hl [0, 1, 2] rfl)
set_option maxHeartbeats 4000000 in
set_option maxRecDepth 100000 in
/-- trim(top) -/
theorem c_Mn_trim (l : Launch) {D : va_G} {cI cB cR : ClassId} {ad : Nat → Nat} (w : Mt) (sz : Nat) {i top : Nat} (hi : i < 19) (h3 : W3 w) (htop : top ≤ 6800) : Met l y_Mn_trim (q_Mn_trim :: wA) { frames := 0, cells := 0, slots := 0, locals := 0 } (va_Pc [.ref (ad (2 * i + 4)), .int (nI (top))] (PM D cI cB cR ad w sz)) (va_Qv (fun w1 : Mt => w1 = st w i (mW w i) (tm (mW w i) top)) (BM D cI cB cR ad) (AM ad sz)) 0 0 (AM ad sz) := by
  refine Met.ofW (cc := b_Mn_trim) (maxL := 2) (ret := none) (by decide) rfl ?_
  intro p e s m args below meth c s₁ B hml hv
  obtain ⟨rfl, hsz, hP, hD0, hKW⟩ := hv
  have hx := B.exec
  have hb := B.bytes
  have hr := B.returns
  have hts := atoms_spec (ws := q_Mn_trim :: wA) B.pre
  have hown : s.vm.findClass R_Mn = some m.cls := findClass_of_methodNamed B.named
  have hlocks := B.notSynchronized
  subst hsz
  have hD := NM_AM (sz := s.heap.size) hD0
  have hS : va_S (AM ad s.heap.size) s.heap s.heap [] := va_S.rf
  have hl := lv_entry ([.ref (ad (2 * i + 4)), .int (nI (top))]) (n := 2) (Nat.le_of_ble_eq_true rfl)
  rw [lg_entry_eq]
  generalize (lg_sl ([.ref (ad (2 * i + 4)), .int (nI (top))]) ++ List.replicate (2 - (lg_sl ([.ref (ad (2 * i + 4)), .int (nI (top))])).length) Slot.unset).toArray = ls at hl ⊢
  have hl : lv_has ls 2 [(0, .ref (ad (2 * i + 4))), (1, .int (nI (top)))] := hl
  refine lv_aload_n hx hb d_Mn_trim_0 rfl (lv_at hl 0 rfl) ?_
  refine lv_iload_n hx hb d_Mn_trim_1 rfl (lv_at hl 1 rfl) ?_
  refine mw_pL hx hb hts hown hKW.1 hP hD hS (i := i) (by omega) lf_Mn_15 d_Mn_trim_2 (fun H locs hP hD hS => ?_)
  rw [st_ofL] at hP hD
  have loop : ∀ (n : Nat) (H : Heap) (locs : List Loc) (ls : Array Slot), n ≤ 6800 → tm (mW w i) n = tm (mW w i) top → va_P D clA (NM cI cB cR ad (st w i (mW w i) n)) H → va_D (AM ad s.heap.size) (NM cI cB cR ad (st w i (mW w i) n)) → va_S (AM ad s.heap.size) s.heap H locs → lv_has ls 2 [(0, .ref (ad (2 * i + 4))), (1, .int (nI (top)))] → W p l e (headSpec (q_Mn_trim :: wA) { frames := 0, cells := 0, slots := 0, locals := 0 }).room s m ([.ref (ad (2 * i + 4)), .int (nI (top))] : List Value).toArray below meth c H locs 0 0 (MQ below (va_Qv (fun w1 : Mt => w1 = st w i (mW w i) (tm (mW w i) top)) (BM D cI cB cR ad) (AM ad s.heap.size)) ([.ref (ad (2 * i + 4)), .int (nI (top))] : List Value).toArray s 0 0 (AM ad s.heap.size)) (F0 m 5 ls []) := by
    intro n
    induction n with
    | zero =>
      intro H locs ls h1 h2 hP hD hS hl
      refine lv_aload_n hx hb d_Mn_trim_5 rfl (lv_at hl 0 rfl) ?_
      refine mw_gL hx hb hts hown hKW.1 hP (i := i) (by omega) (n := 0) (by rw [st_mL]) lf_Mn_15 d_Mn_trim_6 ?_
      refine lv_if_le (tgt := 39) hx hb d_Mn_trim_9 (by decide) (fun c9 => ?_) (fun c9 => ?_)
      · skip
        have c9 : 0 ≤ 0 := (nI_leI (by omega) (by omega)).mp (by first | (rw [nI_0]; exact c9) | rw [nI_0])
        exact W.vret hx hb hr (fun t ht hW => ⟨⟨st w i (mW w i) 0, rfl, (by rw [← h2]; rfl), BM_of ht hP⟩, hS.F ht⟩) hS.2.2 d_Mn_trim_39
      · skip
        have c9 : ¬ (0 ≤ 0) := fun h => c9 (by have := (nI_leI (by omega) (by omega)).mpr h; rwa [nI_0] at this)
        omega
    | succ n ih =>
      intro H locs ls h1 h2 hP hD hS hl
      have hn9 := h3 i n
      refine lv_aload_n hx hb d_Mn_trim_5 rfl (lv_at hl 0 rfl) ?_
      refine mw_gL hx hb hts hown hKW.1 hP (i := i) (by omega) (n := n + 1) (by rw [st_mL]) lf_Mn_15 d_Mn_trim_6 ?_
      refine lv_if_le (tgt := 39) hx hb d_Mn_trim_9 (by decide) (fun c9 => ?_) (fun c9 => ?_)
      · skip
        have c9 : n + 1 ≤ 0 := (nI_leI (by omega) (by omega)).mp (by first | (rw [nI_0]; exact c9) | rw [nI_0])
        omega
      · skip
        have c9 : ¬ (n + 1 ≤ 0) := fun h => c9 (by have := (nI_leI (by omega) (by omega)).mpr h; rwa [nI_0] at this)
        refine lv_aload_n hx hb d_Mn_trim_12 rfl (lv_at hl 0 rfl) ?_
        refine mw_gW hx hb hts hown hKW.1 hP (i := i) (by omega) lf_Mn_9 d_Mn_trim_13 ?_
        refine lv_aload_n hx hb d_Mn_trim_16 rfl (lv_at hl 0 rfl) ?_
        refine mw_gL hx hb hts hown hKW.1 hP (i := i) (by omega) (n := n + 1) (by rw [st_mL]) lf_Mn_15 d_Mn_trim_17 ?_
        refine lv_iconst (v := nI (1)) hx hb d_Mn_trim_20 (by decide) ?_
        refine nw_isub (v := nI (n)) hx hb d_Mn_trim_21 (pk_sub (by omega)) ?_
        refine mw_lW hx hb hKW.1 hP (i := i) (by omega) (j := n) (by omega) (x := (mW w i) n) (by rw [st_mW]) d_Mn_trim_22 ?_
        refine lv_if_ne (tgt := 39) hx hb d_Mn_trim_23 (by decide) (fun c23 => ?_) (fun c23 => ?_)
        · skip
          have c23 : ¬ ((mW w i) n = 0) := fun h => c23 (by have := (nI_eq (by omega) (by omega)).mpr h; rwa [nI_0] at this)
          exact W.vret hx hb hr (fun t ht hW => ⟨⟨st w i (mW w i) (n + 1), rfl, (by rw [← h2, show tm (mW w i) (n + 1) = n + 1 from if_neg c23]), BM_of ht hP⟩, hS.F ht⟩) hS.2.2 d_Mn_trim_39
        · skip
          have c23 : (mW w i) n = 0 := (nI_eq (by omega) (by omega)).mp (by first | (rw [nI_0]; exact c23) | rw [nI_0])
          refine lv_aload_n hx hb d_Mn_trim_26 rfl (lv_at hl 0 rfl) ?_
          refine lv_dup hx hb d_Mn_trim_27 rfl ?_
          refine mw_gL hx hb hts hown hKW.1 hP (i := i) (by omega) (n := n + 1) (by rw [st_mL]) lf_Mn_15 d_Mn_trim_28 ?_
          refine lv_iconst (v := nI (1)) hx hb d_Mn_trim_31 (by decide) ?_
          refine nw_isub (v := nI (n)) hx hb d_Mn_trim_32 (pk_sub (by omega)) ?_
          refine mw_pL hx hb hts hown hKW.1 hP hD hS (i := i) (by omega) lf_Mn_15 d_Mn_trim_33 (fun H locs hP hD hS => ?_)
          rw [st_qL] at hP hD
          refine lv_goto (tgt := 5) hx hb d_Mn_trim_36 (by decide) ?_
          exact ih H locs ls (by omega) (by rw [← h2, show tm (mW w i) (n + 1) = tm (mW w i) n from if_pos c23]) hP hD hS (lv_sub hl [0, 1] rfl)
  exact loop top _ _ ls htop rfl hP hD hS (lv_sub hl [0, 1] rfl)
set_option maxHeartbeats 4000000 in
set_option maxRecDepth 100000 in
/-- bits() -/
theorem c_Mn_bits (l : Launch) {D : va_G} {cI cB cR : ClassId} {ad : Nat → Nat} (w : Mt) (sz : Nat) {i v : Nat} (hi : i < 19) (h3 : W3 w) (hv : NU w i v) : Met l y_Mn_bits (q_Mn_bits :: wA) { frames := 0, cells := 0, slots := 0, locals := 0 } (va_Pc [.ref (ad (2 * i + 4))] (PM D cI cB cR ad w sz)) (va_Qi (fun (r : Int32) (w1 : Mt) => r = nI (nb v) ∧ w1 = w) (BM D cI cB cR ad) (AM ad sz)) 0 0 (AM ad sz) := by
  refine Met.ofW (cc := b_Mn_bits) (maxL := 3) (ret := (some (.int))) (by decide) rfl ?_
  intro p e s m args below meth c s₁ B hml hv
  obtain ⟨rfl, hsz, hP, hD0, hKW⟩ := hv
  have hx := B.exec
  have hb := B.bytes
  have hr := B.returns
  have hts := atoms_spec (ws := q_Mn_bits :: wA) B.pre
  have hown : s.vm.findClass R_Mn = some m.cls := findClass_of_methodNamed B.named
  have hlocks := B.notSynchronized
  subst hsz
  have hD := NM_AM (sz := s.heap.size) hD0
  have hS : va_S (AM ad s.heap.size) s.heap s.heap [] := va_S.rf
  have hl := lv_entry ([.ref (ad (2 * i + 4))]) (n := 3) (Nat.le_of_ble_eq_true rfl)
  rw [lg_entry_eq]
  generalize (lg_sl ([.ref (ad (2 * i + 4))]) ++ List.replicate (3 - (lg_sl ([.ref (ad (2 * i + 4))])).length) Slot.unset).toArray = ls at hl ⊢
  have hl : lv_has ls 3 [(0, .ref (ad (2 * i + 4)))] := hl
  have hlen := hv.len
  refine lv_aload_n hx hb d_Mn_bits_0 rfl (lv_at hl 0 rfl) ?_
  refine mw_gL hx hb hts hown hKW.1 hP (i := i) (by omega) (n := mL w i) rfl lf_Mn_15 d_Mn_bits_1 ?_
  refine lv_if_ne (tgt := 9) hx hb d_Mn_bits_4 (by decide) (fun c4 => ?_) (fun c4 => ?_)
  · skip
    have c4 : ¬ (mL w i = 0) := fun h => c4 (by have := (nI_eq (by omega) (by omega)).mpr h; rwa [nI_0] at this)
    have hb9 := hv.bts h3 c4
    have hn9 := h3 i (mL w i - 1)
    refine lv_bipush (v := nI (30)) hx hb d_Mn_bits_9 (by decide) ?_
    refine lv_aload_n hx hb d_Mn_bits_11 rfl (lv_at hl 0 rfl) ?_
    refine mw_gL hx hb hts hown hKW.1 hP (i := i) (by omega) (n := mL w i) rfl lf_Mn_15 d_Mn_bits_12 ?_
    refine lv_iconst (v := nI (1)) hx hb d_Mn_bits_15 (by decide) ?_
    refine nw_isub (v := nI (mL w i - 1)) hx hb d_Mn_bits_16 (pk_sub (by omega)) ?_
    refine nw_imul (v := nI (30 * (mL w i - 1))) hx hb d_Mn_bits_17 (pk_mul _ _) ?_
    refine lv_istore_n (lv' := [(1, .int (nI (30 * (mL w i - 1)))), (0, .ref (ad (2 * i + 4)))]) hx hb d_Mn_bits_18 rfl hl (by decide) rfl (fun ls hl => ?_)
    refine lv_aload_n hx hb d_Mn_bits_19 rfl (lv_at hl 1 rfl) ?_
    refine mw_gW hx hb hts hown hKW.1 hP (i := i) (by omega) lf_Mn_9 d_Mn_bits_20 ?_
    refine lv_aload_n hx hb d_Mn_bits_23 rfl (lv_at hl 1 rfl) ?_
    refine mw_gL hx hb hts hown hKW.1 hP (i := i) (by omega) (n := mL w i) rfl lf_Mn_15 d_Mn_bits_24 ?_
    refine lv_iconst (v := nI (1)) hx hb d_Mn_bits_27 (by decide) ?_
    refine nw_isub (v := nI (mL w i - 1)) hx hb d_Mn_bits_28 (pk_sub (by omega)) ?_
    refine mw_lW hx hb hKW.1 hP (i := i) (by omega) (j := mL w i - 1) (by omega) (x := mW w i (mL w i - 1)) rfl d_Mn_bits_29 ?_
    refine lv_istore_n (lv' := [(2, .int (nI (mW w i (mL w i - 1)))), (1, .int (nI (30 * (mL w i - 1)))), (0, .ref (ad (2 * i + 4)))]) hx hb d_Mn_bits_30 rfl hl (by decide) rfl (fun ls hl => ?_)
    have loop : ∀ (q x b : Nat) (ls : Array Slot), nb x = q → b + q = nb v → x < 1073741824 → lv_has ls 3 [(2, .int (nI (x))), (1, .int (nI (b))), (0, .ref (ad (2 * i + 4)))] → W p l e (headSpec (q_Mn_bits :: wA) { frames := 0, cells := 0, slots := 0, locals := 0 }).room s m ([.ref (ad (2 * i + 4))] : List Value).toArray below meth c s.heap [] 0 0 (MQ below (va_Qi (fun (r : Int32) (w1 : Mt) => r = nI (nb v) ∧ w1 = w) (BM D cI cB cR ad) (AM ad s.heap.size)) ([.ref (ad (2 * i + 4))] : List Value).toArray s 0 0 (AM ad s.heap.size)) (F0 m 31 ls []) := by
      intro q
      induction q with
      | zero =>
        intro x b ls h1 h2 h4 hl
        refine lv_iload_n hx hb d_Mn_bits_31 rfl (lv_at hl 0 rfl) ?_
        refine lv_if_eq (tgt := 45) hx hb d_Mn_bits_32 (by decide) (fun c32 => ?_) (fun c32 => ?_)
        · skip
          have c32 : x = 0 := (nI_eq (by omega) (by omega)).mp (by first | (rw [nI_0]; exact c32) | rw [nI_0])
          refine lv_iload_n hx hb d_Mn_bits_45 rfl (lv_at hl 1 rfl) ?_
          exact W.iret (v := nI (b)) hx hb hr (fun t ht hW => ⟨⟨_, w, rfl, ⟨by rw [← h2]; rfl, rfl⟩, BM_of ht hP⟩, hS.F ht⟩) hS.2.2 d_Mn_bits_46
        · skip
          have c32 : ¬ (x = 0) := fun h => c32 (by have := (nI_eq (by omega) (by omega)).mpr h; rwa [nI_0] at this)
          have := nb_pos c32
          omega
      | succ q ih =>
        intro x b ls h1 h2 h4 hl
        refine lv_iload_n hx hb d_Mn_bits_31 rfl (lv_at hl 0 rfl) ?_
        refine lv_if_eq (tgt := 45) hx hb d_Mn_bits_32 (by decide) (fun c32 => ?_) (fun c32 => ?_)
        · skip
          have c32 : x = 0 := (nI_eq (by omega) (by omega)).mp (by first | (rw [nI_0]; exact c32) | rw [nI_0])
          refine lv_iload_n hx hb d_Mn_bits_45 rfl (lv_at hl 1 rfl) ?_
          rw [c32] at h1
          exact absurd h1 (by rw [nb_0]; omega)
        · skip
          have c32 : ¬ (x = 0) := fun h => c32 (by have := (nI_eq (by omega) (by omega)).mpr h; rwa [nI_0] at this)
          have h7 := nb_half c32
          refine lv_iinc (v := nI (b + 1)) (lv' := [(1, .int (nI (b + 1))), (2, .int (nI (x))), (0, .ref (ad (2 * i + 4)))]) hx hb d_Mn_bits_35 hl (k := 1) rfl (nI_add _ 1) (by decide) rfl (fun ls hl => ?_)
          refine lv_iload_n hx hb d_Mn_bits_38 rfl (lv_at hl 1 rfl) ?_
          refine lv_iconst (v := nI (1)) hx hb d_Mn_bits_39 (by decide) ?_
          refine nw_ishr (v := nI (x / 2 ^ 1)) hx hb d_Mn_bits_40 (nI_sr (by omega) (by omega)) ?_
          refine lv_istore_n (lv' := [(2, .int (nI (x / 2 ^ 1))), (1, .int (nI (b + 1))), (0, .ref (ad (2 * i + 4)))]) hx hb d_Mn_bits_41 rfl hl (by decide) rfl (fun ls hl => ?_)
          refine lv_goto (tgt := 31) hx hb d_Mn_bits_42 (by decide) ?_
          exact ih (x / 2) (b + 1) ls (by omega) (by omega) (by omega) (lv_sub hl [0, 1, 2] rfl)
    exact loop _ _ _ ls rfl (by omega) hn9 (lv_sub hl [0, 1, 2] rfl)
  · skip
    have c4 : mL w i = 0 := (nI_eq (by omega) (by omega)).mp (by first | (rw [nI_0]; exact c4) | rw [nI_0])
    refine lv_iconst (v := nI (0)) hx hb d_Mn_bits_7 (by decide) ?_
    exact W.iret (v := nI (0)) hx hb hr (fun t ht hW => ⟨⟨_, w, rfl, ⟨by rw [(hv.zero.mp c4)]; rfl, rfl⟩, BM_of ht hP⟩, hS.F ht⟩) hS.2.2 d_Mn_bits_8
set_option maxHeartbeats 4000000 in
set_option maxRecDepth 100000 in
/-- bit(k) -/
theorem c_Mn_bit (l : Launch) {D : va_G} {cI cB cR : ClassId} {ad : Nat → Nat} (w : Mt) (sz : Nat) {i v k : Nat} (hi : i < 19) (h3 : W3 w) (hv : NU w i v) (hk : k < 1000000) : Met l y_Mn_bit (q_Mn_bit :: wA) { frames := 0, cells := 0, slots := 0, locals := 0 } (va_Pc [.ref (ad (2 * i + 4)), .int (nI (k))] (PM D cI cB cR ad w sz)) (va_Qi (fun (r : Int32) (w1 : Mt) => r = nI (v / 2 ^ k % 2) ∧ w1 = w) (BM D cI cB cR ad) (AM ad sz)) 0 0 (AM ad sz) := by
  refine Met.ofW (cc := b_Mn_bit) (maxL := 2) (ret := (some (.boolean))) (by decide) rfl ?_
  intro p e s m args below meth c s₁ B hml hv
  obtain ⟨rfl, hsz, hP, hD0, hKW⟩ := hv
  have hx := B.exec
  have hb := B.bytes
  have hr := B.returns
  have hts := atoms_spec (ws := q_Mn_bit :: wA) B.pre
  have hown : s.vm.findClass R_Mn = some m.cls := findClass_of_methodNamed B.named
  have hlocks := B.notSynchronized
  subst hsz
  have hD := NM_AM (sz := s.heap.size) hD0
  have hS : va_S (AM ad s.heap.size) s.heap s.heap [] := va_S.rf
  have hl := lv_entry ([.ref (ad (2 * i + 4)), .int (nI (k))]) (n := 2) (Nat.le_of_ble_eq_true rfl)
  rw [lg_entry_eq]
  generalize (lg_sl ([.ref (ad (2 * i + 4)), .int (nI (k))]) ++ List.replicate (2 - (lg_sl ([.ref (ad (2 * i + 4)), .int (nI (k))])).length) Slot.unset).toArray = ls at hl ⊢
  have hl : lv_has ls 2 [(0, .ref (ad (2 * i + 4))), (1, .int (nI (k)))] := hl
  have hlen := hv.len
  have hn9 := h3 i (k / 30)
  refine lv_iload_n hx hb d_Mn_bit_0 rfl (lv_at hl 1 rfl) ?_
  refine lv_if_lt (tgt := 39) hx hb d_Mn_bit_1 (by decide) (fun c1 => ?_) (fun c1 => ?_)
  · skip
    have c1 : k < 0 := (nI_ltI (by omega) (by omega)).mp (by first | (rw [nI_0]; exact c1) | rw [nI_0])
    omega
  · skip
    have c1 : ¬ (k < 0) := fun h => c1 (by have := (nI_ltI (by omega) (by omega)).mpr h; rwa [nI_0] at this)
    refine lv_iload_n hx hb d_Mn_bit_4 rfl (lv_at hl 1 rfl) ?_
    refine lv_bipush (v := nI (30)) hx hb d_Mn_bit_5 (by decide) ?_
    refine nw_idiv (v := nI (k / 30)) hx hb d_Mn_bit_7 (nI_ne0 (by omega) (by omega)) (pk_div (by omega) (by omega) (by omega)) ?_
    refine lv_aload_n hx hb d_Mn_bit_8 rfl (lv_at hl 0 rfl) ?_
    refine mw_gL hx hb hts hown hKW.1 hP (i := i) (by omega) (n := mL w i) rfl lf_Mn_15 d_Mn_bit_9 ?_
    refine lv_icmp_ge (tgt := 39) hx hb d_Mn_bit_12 (by decide) (fun c12 => ?_) (fun c12 => ?_)
    · skip
      have c12 : mL w i ≤ k / 30 := (nI_leI (by omega) (by omega)).mp c12
      refine lv_iconst (v := nI (0)) hx hb d_Mn_bit_39 (by decide) ?_
      exact W.zret (v := nI (0)) hx hb hr (by decide) (fun t ht hW => ⟨⟨_, w, rfl, ⟨by rw [← hv.2.2, uV_bit0 (h3 i) c12], rfl⟩, BM_of ht hP⟩, hS.F ht⟩) hS.2.2 d_Mn_bit_40
    · skip
      have c12 : ¬ (mL w i ≤ k / 30) := fun h => c12 ((nI_leI (by omega) (by omega)).mpr h)
      have e9 := uV_bit (h3 i) (L := mL w i) (k := k) (by omega)
      rw [hv.2.2] at e9
      refine lv_aload_n hx hb d_Mn_bit_15 rfl (lv_at hl 0 rfl) ?_
      refine mw_gW hx hb hts hown hKW.1 hP (i := i) (by omega) lf_Mn_9 d_Mn_bit_16 ?_
      refine lv_iload_n hx hb d_Mn_bit_19 rfl (lv_at hl 1 rfl) ?_
      refine lv_bipush (v := nI (30)) hx hb d_Mn_bit_20 (by decide) ?_
      refine nw_idiv (v := nI (k / 30)) hx hb d_Mn_bit_22 (nI_ne0 (by omega) (by omega)) (pk_div (by omega) (by omega) (by omega)) ?_
      refine mw_lW hx hb hKW.1 hP (i := i) (by omega) (j := k / 30) (by omega) (x := mW w i (k / 30)) rfl d_Mn_bit_23 ?_
      refine lv_iload_n hx hb d_Mn_bit_24 rfl (lv_at hl 1 rfl) ?_
      refine lv_bipush (v := nI (30)) hx hb d_Mn_bit_25 (by decide) ?_
      refine nw_irem (v := nI (k % 30)) hx hb d_Mn_bit_27 (nI_ne0 (by omega) (by omega)) (pk_rem (by omega) (by omega) (by omega)) ?_
      refine nw_ishr (v := nI ((mW w i (k / 30)) / 2 ^ (k % 30))) hx hb d_Mn_bit_28 (nI_sr (by omega) (by omega)) ?_
      refine lv_iconst (v := nI (1)) hx hb d_Mn_bit_29 (by decide) ?_
      refine nw_iand (v := nI (((mW w i (k / 30)) / 2 ^ (k % 30)) % 2)) hx hb d_Mn_bit_30 (nI_and1 _) ?_
      refine lv_iconst (v := nI (1)) hx hb d_Mn_bit_31 (by decide) ?_
      refine lv_icmp_ne (tgt := 39) hx hb d_Mn_bit_32 (by decide) (fun c32 => ?_) (fun c32 => ?_)
      · skip
        have c32 : ¬ (((mW w i (k / 30)) / 2 ^ (k % 30)) % 2 = 1) := fun h => c32 ((nI_eq (by omega) (by omega)).mpr h)
        refine lv_iconst (v := nI (0)) hx hb d_Mn_bit_39 (by decide) ?_
        exact W.zret (v := nI (0)) hx hb hr (by decide) (fun t ht hW => ⟨⟨_, w, rfl, ⟨by rw [e9]; congr 1; omega, rfl⟩, BM_of ht hP⟩, hS.F ht⟩) hS.2.2 d_Mn_bit_40
      · skip
        have c32 : ((mW w i (k / 30)) / 2 ^ (k % 30)) % 2 = 1 := (nI_eq (by omega) (by omega)).mp c32
        refine lv_iconst (v := nI (1)) hx hb d_Mn_bit_35 (by decide) ?_
        refine lv_goto (tgt := 40) hx hb d_Mn_bit_36 (by decide) ?_
        exact W.zret (v := nI (1)) hx hb hr (by decide) (fun t ht hW => ⟨⟨_, w, rfl, ⟨by rw [e9]; congr 1; omega, rfl⟩, BM_of ht hP⟩, hS.F ht⟩) hS.2.2 d_Mn_bit_40
set_option maxHeartbeats 4000000 in
set_option maxRecDepth 100000 in
/-- compare(x) -/
theorem c_Mn_compare (l : Launch) {D : va_G} {cI cB cR : ClassId} {ad : Nat → Nat} (w : Mt) (sz : Nat) {i b v u : Nat} (hi : i < 19) (hb19 : b < 19) (h3 : W3 w) (hv : NU w i v) (hu : NU w b u) : Met l y_Mn_compare (q_Mn_compare :: wA) { frames := 0, cells := 0, slots := 0, locals := 0 } (va_Pc [.ref (ad (2 * i + 4)), .ref (ad (2 * b + 4))] (PM D cI cB cR ad w sz)) (va_Qi (fun (r : Int32) (w1 : Mt) => r = cmpN v u ∧ w1 = w) (BM D cI cB cR ad) (AM ad sz)) 0 0 (AM ad sz) := by
  refine Met.ofW (cc := b_Mn_compare) (maxL := 3) (ret := (some (.int))) (by decide) rfl ?_
  intro p e s m args below meth c s₁ B hml hv
  obtain ⟨rfl, hsz, hP, hD0, hKW⟩ := hv
  have hx := B.exec
  have hb := B.bytes
  have hr := B.returns
  have hts := atoms_spec (ws := q_Mn_compare :: wA) B.pre
  have hown : s.vm.findClass R_Mn = some m.cls := findClass_of_methodNamed B.named
  have hlocks := B.notSynchronized
  subst hsz
  have hD := NM_AM (sz := s.heap.size) hD0
  have hS : va_S (AM ad s.heap.size) s.heap s.heap [] := va_S.rf
  have hl := lv_entry ([.ref (ad (2 * i + 4)), .ref (ad (2 * b + 4))]) (n := 3) (Nat.le_of_ble_eq_true rfl)
  rw [lg_entry_eq]
  generalize (lg_sl ([.ref (ad (2 * i + 4)), .ref (ad (2 * b + 4))]) ++ List.replicate (3 - (lg_sl ([.ref (ad (2 * i + 4)), .ref (ad (2 * b + 4))])).length) Slot.unset).toArray = ls at hl ⊢
  have hl : lv_has ls 3 [(0, .ref (ad (2 * i + 4))), (1, .ref (ad (2 * b + 4)))] := hl
  have hlen := hv.len
  have hlen2 := hu.len
  refine lv_aload_n hx hb d_Mn_compare_0 rfl (lv_at hl 0 rfl) ?_
  refine mw_gL hx hb hts hown hKW.1 hP (i := i) (by omega) (n := mL w i) rfl lf_Mn_15 d_Mn_compare_1 ?_
  refine lv_aload_n hx hb d_Mn_compare_4 rfl (lv_at hl 1 rfl) ?_
  refine mw_gL hx hb hts hown hKW.1 hP (i := b) (by omega) (n := mL w b) rfl lf_Mn_15 d_Mn_compare_5 ?_
  refine lv_icmp_eq (tgt := 28) hx hb d_Mn_compare_8 (by decide) (fun c8 => ?_) (fun c8 => ?_)
  · skip
    have c8 : mL w i = mL w b := (nI_eq (by omega) (by omega)).mp c8
    refine lv_aload_n hx hb d_Mn_compare_28 rfl (lv_at hl 0 rfl) ?_
    refine mw_gL hx hb hts hown hKW.1 hP (i := i) (by omega) (n := mL w i) rfl lf_Mn_15 d_Mn_compare_29 ?_
    refine lv_iconst (v := nI (1)) hx hb d_Mn_compare_32 (by decide) ?_
    refine nw_isub (v := dn (mL w i)) hx hb d_Mn_compare_33 (dn_sub _) ?_
    refine lv_istore_n (lv' := [(2, .int (dn (mL w i))), (0, .ref (ad (2 * i + 4))), (1, .ref (ad (2 * b + 4)))]) hx hb d_Mn_compare_34 rfl hl (by decide) rfl (fun ls hl => ?_)
    have loop : ∀ (k : Nat), k ≤ mL w i → (∀ j, k ≤ j → j < mL w i → mW w i j = mW w b j) → ∀ ls : Array Slot, lv_has ls 3 [(2, .int (dn k)), (0, .ref (ad (2 * i + 4))), (1, .ref (ad (2 * b + 4)))] → W p l e (headSpec (q_Mn_compare :: wA) { frames := 0, cells := 0, slots := 0, locals := 0 }).room s m ([.ref (ad (2 * i + 4)), .ref (ad (2 * b + 4))] : List Value).toArray below meth c s.heap [] 0 0 (MQ below (va_Qi (fun (r : Int32) (w1 : Mt) => r = cmpN v u ∧ w1 = w) (BM D cI cB cR ad) (AM ad s.heap.size)) ([.ref (ad (2 * i + 4)), .ref (ad (2 * b + 4))] : List Value).toArray s 0 0 (AM ad s.heap.size)) (F0 m 35 ls []) := by
      intro k
      induction k with
      | zero =>
        intro _ he ls hl
        refine lv_iload_n hx hb d_Mn_compare_35 rfl (lv_at hl 0 rfl) ?_
        refine lv_if_lt (tgt := 81) hx hb d_Mn_compare_36 (by decide) (fun c36 => ?_) (fun c36 => ?_)
        · skip
          refine lv_iconst (v := nI (0)) hx hb d_Mn_compare_81 (by decide) ?_
          have huv : v = u := by rw [← hv.2.2, ← hu.2.2, ← c8]; exact uV_congr (fun j hj => by rw [Nat.zero_add]; exact he j (Nat.zero_le _) hj)
          exact W.iret (v := nI (0)) hx hb hr (fun t ht hW => ⟨⟨_, w, rfl, ⟨by rw [huv, cmpN_eq]; exact nI_0, rfl⟩, BM_of ht hP⟩, hS.F ht⟩) hS.2.2 d_Mn_compare_82
        · exact absurd dn_0 c36
      | succ k ih =>
        intro hk he ls hl
        have hn8 := h3 i k
        have hn9 := h3 b k
        refine lv_iload_n hx hb d_Mn_compare_35 rfl (lv_at hl 0 rfl) ?_
        refine lv_if_lt (tgt := 81) hx hb d_Mn_compare_36 (by decide) (fun c36 => ?_) (fun c36 => ?_)
        · exact absurd c36 (nI_pos (by omega))
        · skip
          refine lv_aload_n hx hb d_Mn_compare_39 rfl (lv_at hl 1 rfl) ?_
          refine mw_gW hx hb hts hown hKW.1 hP (i := i) (by omega) lf_Mn_9 d_Mn_compare_40 ?_
          refine lv_iload_n hx hb d_Mn_compare_43 rfl (lv_at hl 0 rfl) ?_
          refine mw_lW hx hb hKW.1 hP (i := i) (by omega) (j := k) (by omega) (x := mW w i k) rfl d_Mn_compare_44 ?_
          refine lv_aload_n hx hb d_Mn_compare_45 rfl (lv_at hl 2 rfl) ?_
          refine mw_gW hx hb hts hown hKW.1 hP (i := b) (by omega) lf_Mn_9 d_Mn_compare_46 ?_
          refine lv_iload_n hx hb d_Mn_compare_49 rfl (lv_at hl 0 rfl) ?_
          refine mw_lW hx hb hKW.1 hP (i := b) (by omega) (j := k) (by omega) (x := mW w b k) rfl d_Mn_compare_50 ?_
          refine lv_icmp_eq (tgt := 75) hx hb d_Mn_compare_51 (by decide) (fun c51 => ?_) (fun c51 => ?_)
          · skip
            have c51 : mW w i k = mW w b k := (nI_eq (by omega) (by omega)).mp c51
            refine lv_iinc (v := dn k) (lv' := [(2, .int (dn k)), (0, .ref (ad (2 * i + 4))), (1, .ref (ad (2 * b + 4)))]) hx hb d_Mn_compare_75 hl (k := 0) rfl (dn_dec k) (by decide) rfl (fun ls hl => ?_)
            refine lv_goto (tgt := 35) hx hb d_Mn_compare_78 (by decide) ?_
            exact ih (by omega) (fun j h1 h2 => by rcases Nat.lt_or_ge k j with q | q; exact he j (by omega) h2; rw [show j = k by omega]; exact c51) ls (lv_sub hl [0, 1, 2] rfl)
          · skip
            have c51 : ¬ (mW w i k = mW w b k) := fun h => c51 ((nI_eq (by omega) (by omega)).mpr h)
            refine lv_aload_n hx hb d_Mn_compare_54 rfl (lv_at hl 1 rfl) ?_
            refine mw_gW hx hb hts hown hKW.1 hP (i := i) (by omega) lf_Mn_9 d_Mn_compare_55 ?_
            refine lv_iload_n hx hb d_Mn_compare_58 rfl (lv_at hl 0 rfl) ?_
            refine mw_lW hx hb hKW.1 hP (i := i) (by omega) (j := k) (by omega) (x := mW w i k) rfl d_Mn_compare_59 ?_
            refine lv_aload_n hx hb d_Mn_compare_60 rfl (lv_at hl 2 rfl) ?_
            refine mw_gW hx hb hts hown hKW.1 hP (i := b) (by omega) lf_Mn_9 d_Mn_compare_61 ?_
            refine lv_iload_n hx hb d_Mn_compare_64 rfl (lv_at hl 0 rfl) ?_
            refine mw_lW hx hb hKW.1 hP (i := b) (by omega) (j := k) (by omega) (x := mW w b k) rfl d_Mn_compare_65 ?_
            refine lv_icmp_ge (tgt := 73) hx hb d_Mn_compare_66 (by decide) (fun c66 => ?_) (fun c66 => ?_)
            · skip
              have c66 : mW w b k ≤ mW w i k := (nI_leI (by omega) (by omega)).mp c66
              have h7 : u < v := by rw [← hv.2.2, ← hu.2.2, ← c8]; exact u_lex (h3 b) (k := k) (by omega) (fun j h1 h2 => (he j (by omega) h2).symm) (by omega)
              refine lv_iconst (v := nI (1)) hx hb d_Mn_compare_73 (by decide) ?_
              exact W.iret (v := nI (1)) hx hb hr (fun t ht hW => ⟨⟨_, w, rfl, ⟨(cmpN_gt h7).symm, rfl⟩, BM_of ht hP⟩, hS.F ht⟩) hS.2.2 d_Mn_compare_74
            · skip
              have c66 : ¬ (mW w b k ≤ mW w i k) := fun h => c66 ((nI_leI (by omega) (by omega)).mpr h)
              have h7 : v < u := by rw [← hv.2.2, ← hu.2.2, ← c8]; exact u_lex (h3 i) (k := k) (by omega) (fun j h1 h2 => he j (by omega) h2) (by omega)
              refine lv_iconst (v := -1) hx hb d_Mn_compare_69 (by decide) ?_
              refine lv_goto (tgt := 74) hx hb d_Mn_compare_70 (by decide) ?_
              exact W.iret (v := -1) hx hb hr (fun t ht hW => ⟨⟨_, w, rfl, ⟨(cmpN_lt h7).symm, rfl⟩, BM_of ht hP⟩, hS.F ht⟩) hS.2.2 d_Mn_compare_74
    exact loop (mL w i) (Nat.le_refl _) (fun j h1 h2 => absurd h2 (by omega)) ls hl
  · skip
    have c8 : ¬ (mL w i = mL w b) := fun h => c8 ((nI_eq (by omega) (by omega)).mpr h)
    refine lv_aload_n hx hb d_Mn_compare_11 rfl (lv_at hl 0 rfl) ?_
    refine mw_gL hx hb hts hown hKW.1 hP (i := i) (by omega) (n := mL w i) rfl lf_Mn_15 d_Mn_compare_12 ?_
    refine lv_aload_n hx hb d_Mn_compare_15 rfl (lv_at hl 1 rfl) ?_
    refine mw_gL hx hb hts hown hKW.1 hP (i := b) (by omega) (n := mL w b) rfl lf_Mn_15 d_Mn_compare_16 ?_
    refine lv_icmp_ge (tgt := 26) hx hb d_Mn_compare_19 (by decide) (fun c19 => ?_) (fun c19 => ?_)
    · skip
      have c19 : mL w b ≤ mL w i := (nI_leI (by omega) (by omega)).mp c19
      refine lv_iconst (v := nI (1)) hx hb d_Mn_compare_26 (by decide) ?_
      have h7 : u < v := Nat.lt_of_lt_of_le (hu.lt h3) (Nat.le_trans (Nat.pow_le_pow_right (by decide) (by omega)) (hv.ge (by omega)))
      exact W.iret (v := nI (1)) hx hb hr (fun t ht hW => ⟨⟨_, w, rfl, ⟨(cmpN_gt h7).symm, rfl⟩, BM_of ht hP⟩, hS.F ht⟩) hS.2.2 d_Mn_compare_27
    · skip
      have c19 : ¬ (mL w b ≤ mL w i) := fun h => c19 ((nI_leI (by omega) (by omega)).mpr h)
      refine lv_iconst (v := -1) hx hb d_Mn_compare_22 (by decide) ?_
      refine lv_goto (tgt := 27) hx hb d_Mn_compare_23 (by decide) ?_
      have h7 : v < u := Nat.lt_of_lt_of_le (hv.lt h3) (Nat.le_trans (Nat.pow_le_pow_right (by decide) (by omega)) (hu.ge (by omega)))
      exact W.iret (v := -1) hx hb hr (fun t ht hW => ⟨⟨_, w, rfl, ⟨(cmpN_lt h7).symm, rfl⟩, BM_of ht hP⟩, hS.F ht⟩) hS.2.2 d_Mn_compare_27

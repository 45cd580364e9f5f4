/-! THE REFERENCE'S NUMBERS, 2 (rows laid by wip/whole/gen/c_mn2.py) -/
set_option maxHeartbeats 4000000 in
set_option maxRecDepth 100000 in
/-- rangeCheck, where nothing is wrong -/
theorem c_Mx_rangeCheck (l : Launch) {D : va_G} {cI cB cR : ClassId} {ad : Nat → Nat} (w : Mt) (sz : Nat) {n a b : Nat} (hab : a ≤ b) (hbn : b ≤ n) (hn : n < 2 ^ 31) : Met l y_Ja_rangeCheck (q_Ja_rangeCheck :: wA) { frames := 0, cells := 0, slots := 0, locals := 0 } (va_Pc [.int (nI (n)), .int (nI (a)), .int (nI (b))] (PM D cI cB cR ad w sz)) (va_Qv (fun w1 : Mt => w1 = w) (BM D cI cB cR ad) (AM ad sz)) 0 0 (AM ad sz) := by
  refine Met.ofW (cc := b_Ja_rangeCheck) (maxL := 3) (ret := none) (by decide) rfl ?_
  intro p e s m args below meth c s₁ B hml hv
  obtain ⟨rfl, hsz, hP, hD0, hKW⟩ := hv
  have hx := B.exec
  have hb := B.bytes
  have hr := B.returns
  have hts := atoms_spec (ws := q_Ja_rangeCheck :: wA) B.pre
  have hown : s.vm.findClass R_Ja = some m.cls := findClass_of_methodNamed B.named
  have hlocks := B.notSynchronized
  subst hsz
  have hD := NM_AM (sz := s.heap.size) hD0
  have hS : va_S (AM ad s.heap.size) s.heap s.heap [] := va_S.rf
  have hl := lv_entry ([.int (nI (n)), .int (nI (a)), .int (nI (b))]) (n := 3) (Nat.le_of_ble_eq_true rfl)
  rw [lg_entry_eq]
  generalize (lg_sl ([.int (nI (n)), .int (nI (a)), .int (nI (b))]) ++ List.replicate (3 - (lg_sl ([.int (nI (n)), .int (nI (a)), .int (nI (b))])).length) Slot.unset).toArray = ls at hl ⊢
  have hl : lv_has ls 3 [(0, .int (nI (n))), (1, .int (nI (a))), (2, .int (nI (b)))] := hl
  refine lv_iload_n hx hb d_Ja_rangeCheck_0 rfl (lv_at hl 1 rfl) ?_
  refine lv_iload_n hx hb d_Ja_rangeCheck_1 rfl (lv_at hl 2 rfl) ?_
  refine lv_icmp_le (tgt := 46) hx hb d_Ja_rangeCheck_2 (by decide) (fun c2 => ?_) (fun c2 => ?_)
  · skip
    have c2 : a ≤ b := (nI_leI (by omega) (by omega)).mp c2
    refine lv_iload_n hx hb d_Ja_rangeCheck_46 rfl (lv_at hl 1 rfl) ?_
    refine lv_if_ge (tgt := 59) hx hb d_Ja_rangeCheck_47 (by decide) (fun c47 => ?_) (fun c47 => ?_)
    · skip
      have c47 : 0 ≤ a := (nI_leI (by omega) (by omega)).mp (by first | (rw [nI_0]; exact c47) | rw [nI_0])
      refine lv_iload_n hx hb d_Ja_rangeCheck_59 rfl (lv_at hl 2 rfl) ?_
      refine lv_iload_n hx hb d_Ja_rangeCheck_60 rfl (lv_at hl 0 rfl) ?_
      refine lv_icmp_le (tgt := 73) hx hb d_Ja_rangeCheck_61 (by decide) (fun c61 => ?_) (fun c61 => ?_)
      · skip
        have c61 : b ≤ n := (nI_leI (by omega) (by omega)).mp c61
        exact W.vret hx hb hr (fun t ht hW => ⟨⟨w, rfl, rfl, BM_of ht hP⟩, hS.F ht⟩) hS.2.2 d_Ja_rangeCheck_73
      · exact absurd (nI_le hbn (by omega)) c61
    · exact absurd (nI_pos' (by omega)) c47
  · exact absurd (nI_le hab (by omega)) c2
set_option maxHeartbeats 4000000 in
set_option maxRecDepth 100000 in
/-- Arrays.fill -/
theorem c_Mx_fill (l : Launch) {D : va_G} {cI cB cR : ClassId} {ad : Nat → Nat} (w : Mt) (sz : Nat) {i a b x : Nat} (hi : i < 19) (hab : a ≤ b) (hbn : b ≤ 6800) : Met l y_Ja_fill (q_Ja_fill :: wA) { frames := 1, cells := 0, slots := 0, locals := 24 } (va_Pc [.ref (ad (2 * i + 5)), .int (nI (a)), .int (nI (b)), .int (nI (x))] (PM D cI cB cR ad w sz)) (va_Qv (fun w1 : Mt => w1 = st w i (flM (mW w i) a b x) (mL w i)) (BM D cI cB cR ad) (AM ad sz)) 0 0 (AM ad sz) := by
  refine Met.ofW (cc := b_Ja_fill) (maxL := 5) (ret := none) (by decide) rfl ?_
  intro p e s m args below meth c s₁ B hml hv
  obtain ⟨rfl, hsz, hP, hD0, hKW⟩ := hv
  have hx := B.exec
  have hb := B.bytes
  have hr := B.returns
  have hts := atoms_spec (ws := q_Ja_fill :: wA) B.pre
  have hown : s.vm.findClass R_Ja = some m.cls := findClass_of_methodNamed B.named
  have hlocks := B.notSynchronized
  subst hsz
  have hD := NM_AM (sz := s.heap.size) hD0
  have hS : va_S (AM ad s.heap.size) s.heap s.heap [] := va_S.rf
  have hl := lv_entry ([.ref (ad (2 * i + 5)), .int (nI (a)), .int (nI (b)), .int (nI (x))]) (n := 5) (Nat.le_of_ble_eq_true rfl)
  rw [lg_entry_eq]
  generalize (lg_sl ([.ref (ad (2 * i + 5)), .int (nI (a)), .int (nI (b)), .int (nI (x))]) ++ List.replicate (5 - (lg_sl ([.ref (ad (2 * i + 5)), .int (nI (a)), .int (nI (b)), .int (nI (x))])).length) Slot.unset).toArray = ls at hl ⊢
  have hl : lv_has ls 5 [(0, .ref (ad (2 * i + 5))), (1, .int (nI (a))), (2, .int (nI (b))), (3, .int (nI (x)))] := hl
  refine lv_aload_n hx hb d_Ja_fill_0 rfl (lv_at hl 0 rfl) ?_
  refine mw_nW hx hb hKW.1 hP (i := i) (by omega) d_Ja_fill_1 ?_
  refine lv_iload_n hx hb d_Ja_fill_2 rfl (lv_at hl 1 rfl) ?_
  refine lv_iload_n hx hb d_Ja_fill_3 rfl (lv_at hl 2 rfl) ?_
  refine zS_v (As := [.int (nI (6800)), .int (nI (a)), .int (nI (b))]) (rest := []) (n := 3) ⟨hx, hb, hml, hown, hts⟩ (c_Mx_rangeCheck l w _ (n := 6800) (a := a) (b := b) hab hbn (by decide)) (cwS0 3 hts lm_Ja_13 st_Ja_rangeCheck in_Ja kq_Ja_rangeCheck rfl rfl rfl (by decide +kernel) ⟨Nat.le_of_ble_eq_true rfl, Nat.le_of_ble_eq_true rfl⟩) hKW hP hD hS rfl hl.1 rfl (Nat.le_of_ble_eq_true rfl) d_Ja_fill_4 ⟨Nat.zero_le _, Nat.zero_le _⟩ (fun w1 H locs hp hP hD hS => ?_)
  rw [hp] at hP hD
  refine lv_iload_n hx hb d_Ja_fill_7 rfl (lv_at hl 1 rfl) ?_
  refine lv_istore (lv' := [(4, .int (nI (a))), (0, .ref (ad (2 * i + 5))), (1, .int (nI (a))), (2, .int (nI (b))), (3, .int (nI (x)))]) hx hb d_Ja_fill_8 hl (by decide) rfl (fun ls hl => ?_)
  have loop : ∀ (n j : Nat) (H : Heap) (locs : List Loc) (ls : Array Slot), a ≤ j → j + n = b → va_P D clA (NM cI cB cR ad (st w i (flM (mW w i) a j x) (mL w i))) H → va_D (AM ad s.heap.size) (NM cI cB cR ad (st w i (flM (mW w i) a j x) (mL w i))) → va_S (AM ad s.heap.size) s.heap H locs → lv_has ls 5 [(4, .int (nI (j))), (0, .ref (ad (2 * i + 5))), (1, .int (nI (a))), (2, .int (nI (b))), (3, .int (nI (x)))] → W p l e (headSpec (q_Ja_fill :: wA) { frames := 1, cells := 0, slots := 0, locals := 24 }).room s m ([.ref (ad (2 * i + 5)), .int (nI (a)), .int (nI (b)), .int (nI (x))] : List Value).toArray below meth c H locs 0 0 (MQ below (va_Qv (fun w1 : Mt => w1 = st w i (flM (mW w i) a b x) (mL w i)) (BM D cI cB cR ad) (AM ad s.heap.size)) ([.ref (ad (2 * i + 5)), .int (nI (a)), .int (nI (b)), .int (nI (x))] : List Value).toArray s 0 0 (AM ad s.heap.size)) (F0 m 10 ls []) := by
    intro n
    induction n with
    | zero =>
      intro j H locs ls h1 hj hP hD hS hl
      refine lv_iload hx hb d_Ja_fill_10 (lv_at hl 0 rfl) ?_
      refine lv_iload_n hx hb d_Ja_fill_12 rfl (lv_at hl 3 rfl) ?_
      refine lv_icmp_ge (tgt := 27) hx hb d_Ja_fill_13 (by decide) (fun c13 => ?_) (fun c13 => ?_)
      · skip
        have c13 : b ≤ j := (nI_leI (by omega) (by omega)).mp c13
        have ej : j = b := by omega
        subst ej
        exact W.vret hx hb hr (fun t ht hW => ⟨⟨st w i (flM (mW w i) a j x) (mL w i), rfl, rfl, BM_of ht hP⟩, hS.F ht⟩) hS.2.2 d_Ja_fill_27
      · exact absurd (nI_le (by omega) (by omega)) c13
    | succ n ih =>
      intro j H locs ls h1 hj hP hD hS hl
      refine lv_iload hx hb d_Ja_fill_10 (lv_at hl 0 rfl) ?_
      refine lv_iload_n hx hb d_Ja_fill_12 rfl (lv_at hl 3 rfl) ?_
      refine lv_icmp_ge (tgt := 27) hx hb d_Ja_fill_13 (by decide) (fun c13 => ?_) (fun c13 => ?_)
      · exact absurd c13 (nI_ge (by omega) (by omega))
      · skip
        refine lv_aload_n hx hb d_Ja_fill_16 rfl (lv_at hl 1 rfl) ?_
        refine lv_iload hx hb d_Ja_fill_17 (lv_at hl 0 rfl) ?_
        refine lv_iload_n hx hb d_Ja_fill_19 rfl (lv_at hl 4 rfl) ?_
        refine mw_sW hx hb hKW.1 hP hD hS (i := i) (by omega) (j := j) (by omega) d_Ja_fill_20 (fun H locs hP hD hS => ?_)
        rw [st_qW, st_mW] at hP hD
        refine lv_iinc (v := nI (j + 1)) (lv' := [(4, .int (nI (j + 1))), (0, .ref (ad (2 * i + 5))), (1, .int (nI (a))), (2, .int (nI (b))), (3, .int (nI (x)))]) hx hb d_Ja_fill_21 hl (k := 0) rfl (nI_add _ 1) (by decide) rfl (fun ls hl => ?_)
        refine lv_goto (tgt := 10) hx hb d_Ja_fill_24 (by decide) ?_
        rw [flM_suc _ _ h1] at hP hD
        exact ih (j + 1) H locs ls (by omega) (by omega) hP hD hS (lv_sub hl [0, 1, 2, 3, 4] rfl)
  exact loop (b - a) a _ _ ls (Nat.le_refl _) (by omega) (by rw [flM_0, st_self]; exact hP) (by rw [flM_0, st_self]; exact hD) hS (lv_sub hl [0, 1, 2, 3, 4] rfl)
set_option maxHeartbeats 4000000 in
set_option maxRecDepth 100000 in
/-- add(x) -/
theorem c_Mn_add_N (l : Launch) {D : va_G} {cI cB cR : ClassId} {ad : Nat → Nat} (w : Mt) (sz : Nat) {i a v u : Nat} (hi : i < 19) (ha : a < 19) (hai : a ≠ i) (h3 : W3 w) (hv : NU w i v) (hu : NU w a u) (hn : mL w i ≤ 6799) (hm : mL w a ≤ 6799) : Met l y_Mn_add_N (q_Mn_add_N :: wA) { frames := 1, cells := 0, slots := 0, locals := 60 } (va_Pc [.ref (ad (2 * i + 4)), .ref (ad (2 * a + 4))] (PM D cI cB cR ad w sz)) (va_Qv (fun w1 : Mt => eqM w w1 [i] ∧ NU w1 i (v + u) ∧ W3 w1) (BM D cI cB cR ad) (AM ad sz)) 0 0 (AM ad sz) := by
  refine Met.ofW (cc := b_Mn_add_N) (maxL := 6) (ret := none) (by decide) rfl ?_
  intro p e s m args below meth c s₁ B hml hv
  obtain ⟨rfl, hsz, hP, hD0, hKW⟩ := hv
  have hx := B.exec
  have hb := B.bytes
  have hr := B.returns
  have hts := atoms_spec (ws := q_Mn_add_N :: wA) B.pre
  have hown : s.vm.findClass R_Mn = some m.cls := findClass_of_methodNamed B.named
  have hlocks := B.notSynchronized
  subst hsz
  have hD := NM_AM (sz := s.heap.size) hD0
  have hS : va_S (AM ad s.heap.size) s.heap s.heap [] := va_S.rf
  have hl := lv_entry ([.ref (ad (2 * i + 4)), .ref (ad (2 * a + 4))]) (n := 6) (Nat.le_of_ble_eq_true rfl)
  rw [lg_entry_eq]
  generalize (lg_sl ([.ref (ad (2 * i + 4)), .ref (ad (2 * a + 4))]) ++ List.replicate (6 - (lg_sl ([.ref (ad (2 * i + 4)), .ref (ad (2 * a + 4))])).length) Slot.unset).toArray = ls at hl ⊢
  have hl : lv_has ls 6 [(0, .ref (ad (2 * i + 4))), (1, .ref (ad (2 * a + 4)))] := hl
  refine lv_iconst (v := nI (0)) hx hb d_Mn_add_N_0 (by decide) ?_
  refine lv_istore_n (lv' := [(2, .int (nI (0))), (0, .ref (ad (2 * i + 4))), (1, .ref (ad (2 * a + 4)))]) hx hb d_Mn_add_N_1 rfl hl (by decide) rfl (fun ls hl => ?_)
  refine lv_aload_n hx hb d_Mn_add_N_2 rfl (lv_at hl 1 rfl) ?_
  refine mw_gL hx hb hts hown hKW.1 hP (i := i) (by omega) (n := mL w i) rfl lf_Mn_15 d_Mn_add_N_3 ?_
  refine lv_aload_n hx hb d_Mn_add_N_6 rfl (lv_at hl 2 rfl) ?_
  refine mw_gL hx hb hts hown hKW.1 hP (i := a) (by omega) (n := mL w a) rfl lf_Mn_15 d_Mn_add_N_7 ?_
  refine nw_max hx hb (hml.trans hl.1.symm) hts hown lm_Mn_26 (Nat.le_of_ble_eq_true rfl) (Nat.le_of_ble_eq_true rfl) (Nat.zero_le _) (Nat.zero_le _) (nI_max (by omega) (by omega)) d_Mn_add_N_10 ?_
  obtain ⟨T, hT⟩ : ∃ T, T = max (mL w i) (mL w a) := ⟨_, rfl⟩
  rw [← hT]
  have hT1 : mL w i ≤ T := by omega
  have hT2 : mL w a ≤ T := by omega
  have hT3 : T ≤ 6799 := by omega
  refine lv_istore_n (lv' := [(3, .int (nI (T))), (2, .int (nI (0))), (0, .ref (ad (2 * i + 4))), (1, .ref (ad (2 * a + 4)))]) hx hb d_Mn_add_N_13 rfl hl (by decide) rfl (fun ls hl => ?_)
  refine lv_iconst (v := nI (0)) hx hb d_Mn_add_N_14 (by decide) ?_
  refine lv_istore (lv' := [(4, .int (nI (0))), (3, .int (nI (T))), (2, .int (nI (0))), (0, .ref (ad (2 * i + 4))), (1, .ref (ad (2 * a + 4)))]) hx hb d_Mn_add_N_15 hl (by decide) rfl (fun ls hl => ?_)
  have loop : ∀ (q j y : Nat) (f : Nat → Nat) (H : Heap) (locs : List Loc) (ls : Array Slot), j + q = T → y ≤ 1 → B3 f → uV f 0 j + y * 1073741824 ^ j = uM (mW w i) (mL w i) j + uM (mW w a) (mL w a) j → (∀ z, j ≤ z → f z = mW w i z) → va_P D clA (NM cI cB cR ad (st w i f (mL w i))) H → va_D (AM ad s.heap.size) (NM cI cB cR ad (st w i f (mL w i))) → va_S (AM ad s.heap.size) s.heap H locs → lv_has ls 6 [(4, .int (nI (j))), (2, .int (nI (y))), (3, .int (nI (T))), (0, .ref (ad (2 * i + 4))), (1, .ref (ad (2 * a + 4)))] → W p l e (headSpec (q_Mn_add_N :: wA) { frames := 1, cells := 0, slots := 0, locals := 60 }).room s m ([.ref (ad (2 * i + 4)), .ref (ad (2 * a + 4))] : List Value).toArray below meth c H locs 0 0 (MQ below (va_Qv (fun w1 : Mt => eqM w w1 [i] ∧ NU w1 i (v + u) ∧ W3 w1) (BM D cI cB cR ad) (AM ad s.heap.size)) ([.ref (ad (2 * i + 4)), .ref (ad (2 * a + 4))] : List Value).toArray s 0 0 (AM ad s.heap.size)) (F0 m 17 ls []) := by
    intro q
    induction q with
    | zero =>
      intro j y f H locs ls hj hy hB hinv hk hP hD hS hl
      refine lv_iload hx hb d_Mn_add_N_17 (lv_at hl 0 rfl) ?_
      refine lv_iload_n hx hb d_Mn_add_N_19 rfl (lv_at hl 2 rfl) ?_
      refine lv_icmp_ge (tgt := 92) hx hb d_Mn_add_N_20 (by decide) (fun c20 => ?_) (fun c20 => ?_)
      · skip
        have c20 : T ≤ j := (nI_leI (by omega) (by omega)).mp c20
        have ej : T = j := by omega
        subst ej
        rw [uM_all hT1, uM_all hT2, hv.2.2, hu.2.2] at hinv
        refine lv_aload_n hx hb d_Mn_add_N_92 rfl (lv_at hl 3 rfl) ?_
        refine lv_iload_n hx hb d_Mn_add_N_93 rfl (lv_at hl 2 rfl) ?_
        refine mw_pL hx hb hts hown hKW.1 hP hD hS (i := i) (by omega) lf_Mn_15 d_Mn_add_N_94 (fun H locs hP hD hS => ?_)
        rw [st_qL] at hP hD
        refine lv_iload_n hx hb d_Mn_add_N_97 rfl (lv_at hl 1 rfl) ?_
        refine lv_if_le (tgt := 121) hx hb d_Mn_add_N_98 (by decide) (fun c98 => ?_) (fun c98 => ?_)
        · skip
          have c98 : y ≤ 0 := (nI_leI (by omega) (by omega)).mp (by first | (rw [nI_0]; exact c98) | rw [nI_0])
          have ey : y = 0 := by omega
          subst ey
          rw [Nat.zero_mul, Nat.add_zero] at hinv
          have htop : T = 0 ∨ f (T - 1) ≠ 0 := by
            rcases Nat.eq_zero_or_pos T with z | z
            · exact Or.inl z
            · right
              refine uV_top hB (by omega) ?_
              rw [hinv]
              rcases Nat.lt_or_ge (mL w i) (mL w a) with z2 | z2
              · have := hu.ge (by omega)
                rw [show mL w a = T by omega] at this
                omega
              · have := hv.ge (by omega)
                rw [show mL w i = T by omega] at this
                omega
          exact W.vret hx hb hr (fun t ht hW => ⟨⟨st w i f T, rfl, ⟨eqM_st _ _ _ _, NU_st (by omega) htop hinv, h3.st hB⟩, BM_of ht hP⟩, hS.F ht⟩) hS.2.2 d_Mn_add_N_121
        · skip
          have c98 : ¬ (y ≤ 0) := fun h => c98 (by have := (nI_leI (by omega) (by omega)).mpr h; rwa [nI_0] at this)
          refine lv_aload_n hx hb d_Mn_add_N_101 rfl (lv_at hl 3 rfl) ?_
          refine mw_gW hx hb hts hown hKW.1 hP (i := i) (by omega) lf_Mn_9 d_Mn_add_N_102 ?_
          refine lv_aload_n hx hb d_Mn_add_N_105 rfl (lv_at hl 3 rfl) ?_
          refine mw_gL hx hb hts hown hKW.1 hP (i := i) (by omega) (n := T) (by rw [st_mL]) lf_Mn_15 d_Mn_add_N_106 ?_
          refine lv_iload_n hx hb d_Mn_add_N_109 rfl (lv_at hl 1 rfl) ?_
          refine mw_sW hx hb hKW.1 hP hD hS (i := i) (by omega) (j := T) (by omega) d_Mn_add_N_110 (fun H locs hP hD hS => ?_)
          rw [st_qW, st_mW] at hP hD
          refine lv_aload_n hx hb d_Mn_add_N_111 rfl (lv_at hl 3 rfl) ?_
          refine lv_dup hx hb d_Mn_add_N_112 rfl ?_
          refine mw_gL hx hb hts hown hKW.1 hP (i := i) (by omega) (n := T) (by rw [st_mL]) lf_Mn_15 d_Mn_add_N_113 ?_
          refine lv_iconst (v := nI (1)) hx hb d_Mn_add_N_116 (by decide) ?_
          refine nw_iadd (v := nI (T + 1)) hx hb d_Mn_add_N_117 (nI_add _ _) ?_
          refine mw_pL hx hb hts hown hKW.1 hP hD hS (i := i) (by omega) lf_Mn_15 d_Mn_add_N_118 (fun H locs hP hD hS => ?_)
          rw [st_qL] at hP hD
          have e := uV_push f 0 T y
          rw [Nat.zero_add, hinv] at e
          exact W.vret hx hb hr (fun t ht hW => ⟨⟨st w i (upM f T y) (T + 1), rfl, ⟨eqM_st _ _ _ _, NU_st (by omega) (Or.inr (by rw [Nat.add_sub_cancel, upM_s]; omega)) e, h3.st (upM_B hB (by omega))⟩, BM_of ht hP⟩, hS.F ht⟩) hS.2.2 d_Mn_add_N_121
      · skip
        have c20 : ¬ (T ≤ j) := fun h => c20 ((nI_leI (by omega) (by omega)).mpr h)
        omega
    | succ q ih =>
      intro j y f H locs ls hj hy hB hinv hk hP hD hS hl
      refine lv_iload hx hb d_Mn_add_N_17 (lv_at hl 0 rfl) ?_
      refine lv_iload_n hx hb d_Mn_add_N_19 rfl (lv_at hl 2 rfl) ?_
      refine lv_icmp_ge (tgt := 92) hx hb d_Mn_add_N_20 (by decide) (fun c20 => ?_) (fun c20 => ?_)
      · skip
        have c20 : T ≤ j := (nI_leI (by omega) (by omega)).mp c20
        omega
      · skip
        have c20 : ¬ (T ≤ j) := fun h => c20 ((nI_leI (by omega) (by omega)).mpr h)
        have hf9 := hB j
        have ha9 := h3 a j
        have hk9 := hk j (Nat.le_refl _)
        refine lv_iload hx hb d_Mn_add_N_23 (lv_at hl 0 rfl) ?_
        refine lv_aload_n hx hb d_Mn_add_N_25 rfl (lv_at hl 3 rfl) ?_
        refine mw_gL hx hb hts hown hKW.1 hP (i := i) (by omega) (n := mL w i) (by rw [st_mL]) lf_Mn_15 d_Mn_add_N_26 ?_
        refine lv_icmp_ge (tgt := 42) hx hb d_Mn_add_N_29 (by decide) (fun c29 => ?_) (fun c29 => ?_)
        · skip
          have c29 : mL w i ≤ j := (nI_leI (by omega) (by omega)).mp c29
          refine lv_iconst (v := nI (0)) hx hb d_Mn_add_N_42 (by decide) ?_
          refine lv_iload hx hb d_Mn_add_N_43 (lv_at hl 0 rfl) ?_
          refine lv_aload_n hx hb d_Mn_add_N_45 rfl (lv_at hl 4 rfl) ?_
          refine mw_gL hx hb hts hown hKW.1 hP (i := a) (by omega) (n := mL w a) (by rw [st_mLn _ _ _ (by omega)]) lf_Mn_15 d_Mn_add_N_46 ?_
          refine lv_icmp_ge (tgt := 62) hx hb d_Mn_add_N_49 (by decide) (fun c49 => ?_) (fun c49 => ?_)
          · skip
            have c49 : mL w a ≤ j := (nI_leI (by omega) (by omega)).mp c49
            refine lv_iconst (v := nI (0)) hx hb d_Mn_add_N_62 (by decide) ?_
            refine nw_iadd (v := nI (0 + 0)) hx hb d_Mn_add_N_63 (nI_add _ _) ?_
            refine lv_iload_n hx hb d_Mn_add_N_64 rfl (lv_at hl 1 rfl) ?_
            refine nw_iadd (v := nI (0 + 0 + y)) hx hb d_Mn_add_N_65 (nI_add _ _) ?_
            refine lv_istore (lv' := [(5, .int (nI (0 + 0 + y))), (4, .int (nI (j))), (2, .int (nI (y))), (3, .int (nI (T))), (0, .ref (ad (2 * i + 4))), (1, .ref (ad (2 * a + 4)))]) hx hb d_Mn_add_N_66 hl (by decide) rfl (fun ls hl => ?_)
            refine lv_aload_n hx hb d_Mn_add_N_68 rfl (lv_at hl 4 rfl) ?_
            refine mw_gW hx hb hts hown hKW.1 hP (i := i) (by omega) lf_Mn_9 d_Mn_add_N_69 ?_
            refine lv_iload hx hb d_Mn_add_N_72 (lv_at hl 1 rfl) ?_
            refine lv_iload hx hb d_Mn_add_N_74 (lv_at hl 0 rfl) ?_
            refine lv_ldc (v := 1073741823) hx hb hown (hA_ hts lk_Mn_25) d_Mn_add_N_76 ?_
            refine nw_iand (v := nI ((0 + 0 + y) % 1073741824)) hx hb d_Mn_add_N_78 (nI_mask _) ?_
            refine mw_sW hx hb hKW.1 hP hD hS (i := i) (by omega) (j := j) (by omega) d_Mn_add_N_79 (fun H locs hP hD hS => ?_)
            rw [st_qW, st_mW] at hP hD
            refine lv_iload hx hb d_Mn_add_N_80 (lv_at hl 0 rfl) ?_
            refine lv_bipush (v := nI (30)) hx hb d_Mn_add_N_82 (by decide) ?_
            refine lv_iushr (v := nI ((0 + 0 + y) / 1073741824)) hx hb d_Mn_add_N_84 (nI_us30 (by omega)) ?_
            refine lv_istore_n (lv' := [(2, .int (nI ((0 + 0 + y) / 1073741824))), (5, .int (nI (0 + 0 + y))), (4, .int (nI (j))), (3, .int (nI (T))), (0, .ref (ad (2 * i + 4))), (1, .ref (ad (2 * a + 4)))]) hx hb d_Mn_add_N_85 rfl hl (by decide) rfl (fun ls hl => ?_)
            refine lv_iinc (v := nI (j + 1)) (lv' := [(4, .int (nI (j + 1))), (2, .int (nI ((0 + 0 + y) / 1073741824))), (5, .int (nI (0 + 0 + y))), (3, .int (nI (T))), (0, .ref (ad (2 * i + 4))), (1, .ref (ad (2 * a + 4)))]) hx hb d_Mn_add_N_86 hl (k := 2) rfl (nI_add _ 1) (by decide) rfl (fun ls hl => ?_)
            refine lv_goto (tgt := 17) hx hb d_Mn_add_N_89 (by decide) ?_
            exact ih (j + 1) _ _ H locs ls (by omega) (by omega) (upM_B hB (p3_mod _)) (ad_step hinv (uM_ge' c29) (uM_ge' c49) (by omega)) (up_keep hk) hP hD hS (lv_sub hl [0, 1, 3, 4, 5] rfl)
          · skip
            have c49 : ¬ (mL w a ≤ j) := fun h => c49 ((nI_leI (by omega) (by omega)).mpr h)
            refine lv_aload_n hx hb d_Mn_add_N_52 rfl (lv_at hl 4 rfl) ?_
            refine mw_gW hx hb hts hown hKW.1 hP (i := a) (by omega) lf_Mn_9 d_Mn_add_N_53 ?_
            refine lv_iload hx hb d_Mn_add_N_56 (lv_at hl 0 rfl) ?_
            refine mw_lW hx hb hKW.1 hP (i := a) (by omega) (j := j) (by omega) (x := mW w a j) (by rw [st_mWn _ _ _ (by omega)]) d_Mn_add_N_58 ?_
            refine lv_goto (tgt := 63) hx hb d_Mn_add_N_59 (by decide) ?_
            refine nw_iadd (v := nI (0 + (mW w a j))) hx hb d_Mn_add_N_63 (nI_add _ _) ?_
            refine lv_iload_n hx hb d_Mn_add_N_64 rfl (lv_at hl 1 rfl) ?_
            refine nw_iadd (v := nI (0 + (mW w a j) + y)) hx hb d_Mn_add_N_65 (nI_add _ _) ?_
            refine lv_istore (lv' := [(5, .int (nI (0 + (mW w a j) + y))), (4, .int (nI (j))), (2, .int (nI (y))), (3, .int (nI (T))), (0, .ref (ad (2 * i + 4))), (1, .ref (ad (2 * a + 4)))]) hx hb d_Mn_add_N_66 hl (by decide) rfl (fun ls hl => ?_)
            refine lv_aload_n hx hb d_Mn_add_N_68 rfl (lv_at hl 4 rfl) ?_
            refine mw_gW hx hb hts hown hKW.1 hP (i := i) (by omega) lf_Mn_9 d_Mn_add_N_69 ?_
            refine lv_iload hx hb d_Mn_add_N_72 (lv_at hl 1 rfl) ?_
            refine lv_iload hx hb d_Mn_add_N_74 (lv_at hl 0 rfl) ?_
            refine lv_ldc (v := 1073741823) hx hb hown (hA_ hts lk_Mn_25) d_Mn_add_N_76 ?_
            refine nw_iand (v := nI ((0 + (mW w a j) + y) % 1073741824)) hx hb d_Mn_add_N_78 (nI_mask _) ?_
            refine mw_sW hx hb hKW.1 hP hD hS (i := i) (by omega) (j := j) (by omega) d_Mn_add_N_79 (fun H locs hP hD hS => ?_)
            rw [st_qW, st_mW] at hP hD
            refine lv_iload hx hb d_Mn_add_N_80 (lv_at hl 0 rfl) ?_
            refine lv_bipush (v := nI (30)) hx hb d_Mn_add_N_82 (by decide) ?_
            refine lv_iushr (v := nI ((0 + (mW w a j) + y) / 1073741824)) hx hb d_Mn_add_N_84 (nI_us30 (by omega)) ?_
            refine lv_istore_n (lv' := [(2, .int (nI ((0 + (mW w a j) + y) / 1073741824))), (5, .int (nI (0 + (mW w a j) + y))), (4, .int (nI (j))), (3, .int (nI (T))), (0, .ref (ad (2 * i + 4))), (1, .ref (ad (2 * a + 4)))]) hx hb d_Mn_add_N_85 rfl hl (by decide) rfl (fun ls hl => ?_)
            refine lv_iinc (v := nI (j + 1)) (lv' := [(4, .int (nI (j + 1))), (2, .int (nI ((0 + (mW w a j) + y) / 1073741824))), (5, .int (nI (0 + (mW w a j) + y))), (3, .int (nI (T))), (0, .ref (ad (2 * i + 4))), (1, .ref (ad (2 * a + 4)))]) hx hb d_Mn_add_N_86 hl (k := 2) rfl (nI_add _ 1) (by decide) rfl (fun ls hl => ?_)
            refine lv_goto (tgt := 17) hx hb d_Mn_add_N_89 (by decide) ?_
            exact ih (j + 1) _ _ H locs ls (by omega) (by omega) (upM_B hB (p3_mod _)) (ad_step hinv (uM_ge' c29) (uM_lt' (by omega) rfl) (by omega)) (up_keep hk) hP hD hS (lv_sub hl [0, 1, 3, 4, 5] rfl)
        · skip
          have c29 : ¬ (mL w i ≤ j) := fun h => c29 ((nI_leI (by omega) (by omega)).mpr h)
          refine lv_aload_n hx hb d_Mn_add_N_32 rfl (lv_at hl 3 rfl) ?_
          refine mw_gW hx hb hts hown hKW.1 hP (i := i) (by omega) lf_Mn_9 d_Mn_add_N_33 ?_
          refine lv_iload hx hb d_Mn_add_N_36 (lv_at hl 0 rfl) ?_
          refine mw_lW hx hb hKW.1 hP (i := i) (by omega) (j := j) (by omega) (x := f j) (by rw [st_mW]) d_Mn_add_N_38 ?_
          refine lv_goto (tgt := 43) hx hb d_Mn_add_N_39 (by decide) ?_
          refine lv_iload hx hb d_Mn_add_N_43 (lv_at hl 0 rfl) ?_
          refine lv_aload_n hx hb d_Mn_add_N_45 rfl (lv_at hl 4 rfl) ?_
          refine mw_gL hx hb hts hown hKW.1 hP (i := a) (by omega) (n := mL w a) (by rw [st_mLn _ _ _ (by omega)]) lf_Mn_15 d_Mn_add_N_46 ?_
          refine lv_icmp_ge (tgt := 62) hx hb d_Mn_add_N_49 (by decide) (fun c49 => ?_) (fun c49 => ?_)
          · skip
            have c49 : mL w a ≤ j := (nI_leI (by omega) (by omega)).mp c49
            refine lv_iconst (v := nI (0)) hx hb d_Mn_add_N_62 (by decide) ?_
            refine nw_iadd (v := nI (f j + 0)) hx hb d_Mn_add_N_63 (nI_add _ _) ?_
            refine lv_iload_n hx hb d_Mn_add_N_64 rfl (lv_at hl 1 rfl) ?_
            refine nw_iadd (v := nI (f j + 0 + y)) hx hb d_Mn_add_N_65 (nI_add _ _) ?_
            refine lv_istore (lv' := [(5, .int (nI (f j + 0 + y))), (4, .int (nI (j))), (2, .int (nI (y))), (3, .int (nI (T))), (0, .ref (ad (2 * i + 4))), (1, .ref (ad (2 * a + 4)))]) hx hb d_Mn_add_N_66 hl (by decide) rfl (fun ls hl => ?_)
            refine lv_aload_n hx hb d_Mn_add_N_68 rfl (lv_at hl 4 rfl) ?_
            refine mw_gW hx hb hts hown hKW.1 hP (i := i) (by omega) lf_Mn_9 d_Mn_add_N_69 ?_
            refine lv_iload hx hb d_Mn_add_N_72 (lv_at hl 1 rfl) ?_
            refine lv_iload hx hb d_Mn_add_N_74 (lv_at hl 0 rfl) ?_
            refine lv_ldc (v := 1073741823) hx hb hown (hA_ hts lk_Mn_25) d_Mn_add_N_76 ?_
            refine nw_iand (v := nI ((f j + 0 + y) % 1073741824)) hx hb d_Mn_add_N_78 (nI_mask _) ?_
            refine mw_sW hx hb hKW.1 hP hD hS (i := i) (by omega) (j := j) (by omega) d_Mn_add_N_79 (fun H locs hP hD hS => ?_)
            rw [st_qW, st_mW] at hP hD
            refine lv_iload hx hb d_Mn_add_N_80 (lv_at hl 0 rfl) ?_
            refine lv_bipush (v := nI (30)) hx hb d_Mn_add_N_82 (by decide) ?_
            refine lv_iushr (v := nI ((f j + 0 + y) / 1073741824)) hx hb d_Mn_add_N_84 (nI_us30 (by omega)) ?_
            refine lv_istore_n (lv' := [(2, .int (nI ((f j + 0 + y) / 1073741824))), (5, .int (nI (f j + 0 + y))), (4, .int (nI (j))), (3, .int (nI (T))), (0, .ref (ad (2 * i + 4))), (1, .ref (ad (2 * a + 4)))]) hx hb d_Mn_add_N_85 rfl hl (by decide) rfl (fun ls hl => ?_)
            refine lv_iinc (v := nI (j + 1)) (lv' := [(4, .int (nI (j + 1))), (2, .int (nI ((f j + 0 + y) / 1073741824))), (5, .int (nI (f j + 0 + y))), (3, .int (nI (T))), (0, .ref (ad (2 * i + 4))), (1, .ref (ad (2 * a + 4)))]) hx hb d_Mn_add_N_86 hl (k := 2) rfl (nI_add _ 1) (by decide) rfl (fun ls hl => ?_)
            refine lv_goto (tgt := 17) hx hb d_Mn_add_N_89 (by decide) ?_
            exact ih (j + 1) _ _ H locs ls (by omega) (by omega) (upM_B hB (p3_mod _)) (ad_step hinv (uM_lt' (by omega) hk9) (uM_ge' c49) (by omega)) (up_keep hk) hP hD hS (lv_sub hl [0, 1, 3, 4, 5] rfl)
          · skip
            have c49 : ¬ (mL w a ≤ j) := fun h => c49 ((nI_leI (by omega) (by omega)).mpr h)
            refine lv_aload_n hx hb d_Mn_add_N_52 rfl (lv_at hl 4 rfl) ?_
            refine mw_gW hx hb hts hown hKW.1 hP (i := a) (by omega) lf_Mn_9 d_Mn_add_N_53 ?_
            refine lv_iload hx hb d_Mn_add_N_56 (lv_at hl 0 rfl) ?_
            refine mw_lW hx hb hKW.1 hP (i := a) (by omega) (j := j) (by omega) (x := mW w a j) (by rw [st_mWn _ _ _ (by omega)]) d_Mn_add_N_58 ?_
            refine lv_goto (tgt := 63) hx hb d_Mn_add_N_59 (by decide) ?_
            refine nw_iadd (v := nI (f j + (mW w a j))) hx hb d_Mn_add_N_63 (nI_add _ _) ?_
            refine lv_iload_n hx hb d_Mn_add_N_64 rfl (lv_at hl 1 rfl) ?_
            refine nw_iadd (v := nI (f j + (mW w a j) + y)) hx hb d_Mn_add_N_65 (nI_add _ _) ?_
            refine lv_istore (lv' := [(5, .int (nI (f j + (mW w a j) + y))), (4, .int (nI (j))), (2, .int (nI (y))), (3, .int (nI (T))), (0, .ref (ad (2 * i + 4))), (1, .ref (ad (2 * a + 4)))]) hx hb d_Mn_add_N_66 hl (by decide) rfl (fun ls hl => ?_)
            refine lv_aload_n hx hb d_Mn_add_N_68 rfl (lv_at hl 4 rfl) ?_
            refine mw_gW hx hb hts hown hKW.1 hP (i := i) (by omega) lf_Mn_9 d_Mn_add_N_69 ?_
            refine lv_iload hx hb d_Mn_add_N_72 (lv_at hl 1 rfl) ?_
            refine lv_iload hx hb d_Mn_add_N_74 (lv_at hl 0 rfl) ?_
            refine lv_ldc (v := 1073741823) hx hb hown (hA_ hts lk_Mn_25) d_Mn_add_N_76 ?_
            refine nw_iand (v := nI ((f j + (mW w a j) + y) % 1073741824)) hx hb d_Mn_add_N_78 (nI_mask _) ?_
            refine mw_sW hx hb hKW.1 hP hD hS (i := i) (by omega) (j := j) (by omega) d_Mn_add_N_79 (fun H locs hP hD hS => ?_)
            rw [st_qW, st_mW] at hP hD
            refine lv_iload hx hb d_Mn_add_N_80 (lv_at hl 0 rfl) ?_
            refine lv_bipush (v := nI (30)) hx hb d_Mn_add_N_82 (by decide) ?_
            refine lv_iushr (v := nI ((f j + (mW w a j) + y) / 1073741824)) hx hb d_Mn_add_N_84 (nI_us30 (by omega)) ?_
            refine lv_istore_n (lv' := [(2, .int (nI ((f j + (mW w a j) + y) / 1073741824))), (5, .int (nI (f j + (mW w a j) + y))), (4, .int (nI (j))), (3, .int (nI (T))), (0, .ref (ad (2 * i + 4))), (1, .ref (ad (2 * a + 4)))]) hx hb d_Mn_add_N_85 rfl hl (by decide) rfl (fun ls hl => ?_)
            refine lv_iinc (v := nI (j + 1)) (lv' := [(4, .int (nI (j + 1))), (2, .int (nI ((f j + (mW w a j) + y) / 1073741824))), (5, .int (nI (f j + (mW w a j) + y))), (3, .int (nI (T))), (0, .ref (ad (2 * i + 4))), (1, .ref (ad (2 * a + 4)))]) hx hb d_Mn_add_N_86 hl (k := 2) rfl (nI_add _ 1) (by decide) rfl (fun ls hl => ?_)
            refine lv_goto (tgt := 17) hx hb d_Mn_add_N_89 (by decide) ?_
            exact ih (j + 1) _ _ H locs ls (by omega) (by omega) (upM_B hB (p3_mod _)) (ad_step hinv (uM_lt' (by omega) hk9) (uM_lt' (by omega) rfl) (by omega)) (up_keep hk) hP hD hS (lv_sub hl [0, 1, 3, 4, 5] rfl)
  exact loop T 0 0 _ _ _ ls (by omega) (by omega) (h3 i) (by rw [uM_0, uM_0]; rfl) (fun _ _ => rfl) (by rw [st_self]; exact hP) (by rw [st_self]; exact hD) hS (lv_sub hl [0, 2, 1, 3, 4] rfl)
set_option maxHeartbeats 4000000 in
set_option maxRecDepth 100000 in
/-- add(v) -/
theorem c_Mn_add_I (l : Launch) {D : va_G} {cI cB cR : ClassId} {ad : Nat → Nat} (w : Mt) (sz : Nat) {i v x : Nat} (hi : i < 19) (h3 : W3 w) (hv : NU w i v) (hn : mL w i ≤ 6799) (hx9 : x < 1000) : Met l y_Mn_add_I (q_Mn_add_I :: wA) { frames := 0, cells := 0, slots := 0, locals := 0 } (va_Pc [.ref (ad (2 * i + 4)), .int (nI (x))] (PM D cI cB cR ad w sz)) (va_Qv (fun w1 : Mt => eqM w w1 [i] ∧ NU w1 i (v + x) ∧ W3 w1) (BM D cI cB cR ad) (AM ad sz)) 0 0 (AM ad sz) := by
  refine Met.ofW (cc := b_Mn_add_I) (maxL := 5) (ret := none) (by decide) rfl ?_
  intro p e s m args below meth c s₁ B hml hv
  obtain ⟨rfl, hsz, hP, hD0, hKW⟩ := hv
  have hx := B.exec
  have hb := B.bytes
  have hr := B.returns
  have hts := atoms_spec (ws := q_Mn_add_I :: wA) B.pre
  have hown : s.vm.findClass R_Mn = some m.cls := findClass_of_methodNamed B.named
  have hlocks := B.notSynchronized
  subst hsz
  have hD := NM_AM (sz := s.heap.size) hD0
  have hS : va_S (AM ad s.heap.size) s.heap s.heap [] := va_S.rf
  have hl := lv_entry ([.ref (ad (2 * i + 4)), .int (nI (x))]) (n := 5) (Nat.le_of_ble_eq_true rfl)
  rw [lg_entry_eq]
  generalize (lg_sl ([.ref (ad (2 * i + 4)), .int (nI (x))]) ++ List.replicate (5 - (lg_sl ([.ref (ad (2 * i + 4)), .int (nI (x))])).length) Slot.unset).toArray = ls at hl ⊢
  have hl : lv_has ls 5 [(0, .ref (ad (2 * i + 4))), (1, .int (nI (x)))] := hl
  refine lv_iload_n hx hb d_Mn_add_I_0 rfl (lv_at hl 1 rfl) ?_
  refine lv_istore_n (lv' := [(2, .int (nI (x))), (0, .ref (ad (2 * i + 4))), (1, .int (nI (x)))]) hx hb d_Mn_add_I_1 rfl hl (by decide) rfl (fun ls hl => ?_)
  refine lv_iconst (v := nI (0)) hx hb d_Mn_add_I_2 (by decide) ?_
  refine lv_istore_n (lv' := [(3, .int (nI (0))), (2, .int (nI (x))), (0, .ref (ad (2 * i + 4))), (1, .int (nI (x)))]) hx hb d_Mn_add_I_3 rfl hl (by decide) rfl (fun ls hl => ?_)
  have loop : ∀ (q j y : Nat) (f : Nat → Nat) (H : Heap) (locs : List Loc) (ls : Array Slot), j + q = mL w i → y < 1000 → B3 f → uV f 0 (mL w i) + y * 1073741824 ^ j = v + x → (j < mL w i → f (mL w i - 1) ≠ 0) → (y ≠ 0 ∨ mL w i = 0 ∨ f (mL w i - 1) ≠ 0) → va_P D clA (NM cI cB cR ad (st w i f (mL w i))) H → va_D (AM ad s.heap.size) (NM cI cB cR ad (st w i f (mL w i))) → va_S (AM ad s.heap.size) s.heap H locs → lv_has ls 5 [(3, .int (nI (j))), (2, .int (nI (y))), (0, .ref (ad (2 * i + 4))), (1, .int (nI (x)))] → W p l e (headSpec (q_Mn_add_I :: wA) { frames := 0, cells := 0, slots := 0, locals := 0 }).room s m ([.ref (ad (2 * i + 4)), .int (nI (x))] : List Value).toArray below meth c H locs 0 0 (MQ below (va_Qv (fun w1 : Mt => eqM w w1 [i] ∧ NU w1 i (v + x) ∧ W3 w1) (BM D cI cB cR ad) (AM ad s.heap.size)) ([.ref (ad (2 * i + 4)), .int (nI (x))] : List Value).toArray s 0 0 (AM ad s.heap.size)) (F0 m 4 ls []) := by
    intro q
    induction q with
    | zero =>
      intro j y f H locs ls hj hy hB hinv hT1 hT2 hP hD hS hl
      have hf9 := hB j
      refine lv_iload_n hx hb d_Mn_add_I_4 rfl (lv_at hl 1 rfl) ?_
      refine lv_if_le (tgt := 66) hx hb d_Mn_add_I_5 (by decide) (fun c5 => ?_) (fun c5 => ?_)
      · skip
        have c5 : y ≤ 0 := (nI_leI (by omega) (by omega)).mp (by first | (rw [nI_0]; exact c5) | rw [nI_0])
        have ey : y = 0 := by omega
        subst ey
        rw [Nat.zero_mul, Nat.add_zero] at hinv
        exact W.vret hx hb hr (fun t ht hW => ⟨⟨st w i f (mL w i), rfl, ⟨eqM_st _ _ _ _, NU_st (by omega) (by rcases hT2 with z | z; exact absurd rfl z; exact z) hinv, h3.st hB⟩, BM_of ht hP⟩, hS.F ht⟩) hS.2.2 d_Mn_add_I_66
      · skip
        have c5 : ¬ (y ≤ 0) := fun h => c5 (by have := (nI_leI (by omega) (by omega)).mpr h; rwa [nI_0] at this)
        refine lv_iload_n hx hb d_Mn_add_I_8 rfl (lv_at hl 0 rfl) ?_
        refine lv_aload_n hx hb d_Mn_add_I_9 rfl (lv_at hl 2 rfl) ?_
        refine mw_gL hx hb hts hown hKW.1 hP (i := i) (by omega) (n := mL w i) (by rw [st_mL]) lf_Mn_15 d_Mn_add_I_10 ?_
        refine lv_icmp_ge (tgt := 25) hx hb d_Mn_add_I_13 (by decide) (fun c13 => ?_) (fun c13 => ?_)
        · skip
          have c13 : mL w i ≤ j := (nI_leI (by omega) (by omega)).mp c13
          have ej : mL w i = j := by omega
          refine lv_iconst (v := nI (0)) hx hb d_Mn_add_I_25 (by decide) ?_
          refine lv_iload_n hx hb d_Mn_add_I_26 rfl (lv_at hl 1 rfl) ?_
          refine nw_iadd (v := nI (0 + y)) hx hb d_Mn_add_I_27 (nI_add _ _) ?_
          refine lv_istore (lv' := [(4, .int (nI (0 + y))), (3, .int (nI (j))), (2, .int (nI (y))), (0, .ref (ad (2 * i + 4))), (1, .int (nI (x)))]) hx hb d_Mn_add_I_28 hl (by decide) rfl (fun ls hl => ?_)
          refine lv_aload_n hx hb d_Mn_add_I_30 rfl (lv_at hl 3 rfl) ?_
          refine mw_gW hx hb hts hown hKW.1 hP (i := i) (by omega) lf_Mn_9 d_Mn_add_I_31 ?_
          refine lv_iload_n hx hb d_Mn_add_I_34 rfl (lv_at hl 1 rfl) ?_
          refine lv_iload hx hb d_Mn_add_I_35 (lv_at hl 0 rfl) ?_
          refine lv_ldc (v := 1073741823) hx hb hown (hA_ hts lk_Mn_25) d_Mn_add_I_37 ?_
          refine nw_iand (v := nI ((0 + y) % 1073741824)) hx hb d_Mn_add_I_39 (nI_mask _) ?_
          refine mw_sW hx hb hKW.1 hP hD hS (i := i) (by omega) (j := j) (by omega) d_Mn_add_I_40 (fun H locs hP hD hS => ?_)
          rw [st_qW, st_mW] at hP hD
          refine lv_iload hx hb d_Mn_add_I_41 (lv_at hl 0 rfl) ?_
          refine lv_bipush (v := nI (30)) hx hb d_Mn_add_I_43 (by decide) ?_
          refine lv_iushr (v := nI ((0 + y) / 1073741824)) hx hb d_Mn_add_I_45 (nI_us30 (by omega)) ?_
          refine lv_istore_n (lv' := [(2, .int (nI ((0 + y) / 1073741824))), (4, .int (nI (0 + y))), (3, .int (nI (j))), (0, .ref (ad (2 * i + 4))), (1, .int (nI (x)))]) hx hb d_Mn_add_I_46 rfl hl (by decide) rfl (fun ls hl => ?_)
          refine lv_iinc (v := nI (j + 1)) (lv' := [(3, .int (nI (j + 1))), (2, .int (nI ((0 + y) / 1073741824))), (4, .int (nI (0 + y))), (0, .ref (ad (2 * i + 4))), (1, .int (nI (x)))]) hx hb d_Mn_add_I_47 hl (k := 2) rfl (nI_add _ 1) (by decide) rfl (fun ls hl => ?_)
          refine lv_iload_n hx hb d_Mn_add_I_50 rfl (lv_at hl 0 rfl) ?_
          refine lv_aload_n hx hb d_Mn_add_I_51 rfl (lv_at hl 3 rfl) ?_
          refine mw_gL hx hb hts hown hKW.1 hP (i := i) (by omega) (n := mL w i) (by rw [st_mL]) lf_Mn_15 d_Mn_add_I_52 ?_
          refine lv_icmp_le (tgt := 63) hx hb d_Mn_add_I_55 (by decide) (fun c55 => ?_) (fun c55 => ?_)
          · skip
            have c55 : j + 1 ≤ mL w i := (nI_leI (by omega) (by omega)).mp c55
            omega
          · skip
            have c55 : ¬ (j + 1 ≤ mL w i) := fun h => c55 ((nI_leI (by omega) (by omega)).mpr h)
            refine lv_aload_n hx hb d_Mn_add_I_58 rfl (lv_at hl 3 rfl) ?_
            refine lv_iload_n hx hb d_Mn_add_I_59 rfl (lv_at hl 0 rfl) ?_
            refine mw_pL hx hb hts hown hKW.1 hP hD hS (i := i) (by omega) lf_Mn_15 d_Mn_add_I_60 (fun H locs hP hD hS => ?_)
            rw [st_qL] at hP hD
            refine lv_goto (tgt := 4) hx hb d_Mn_add_I_63 (by decide) ?_
            refine lv_iload_n hx hb d_Mn_add_I_4 rfl (lv_at hl 1 rfl) ?_
            refine lv_if_le (tgt := 66) hx hb d_Mn_add_I_5 (by decide) (fun c5 => ?_) (fun c5 => ?_)
            · skip
              have c5 : (0 + y) / 1073741824 ≤ 0 := (nI_leI (by omega) (by omega)).mp (by first | (rw [nI_0]; exact c5) | rw [nI_0])
              have e := u_ch1 f j (0 + y)
              rw [show (0 + y) / 1073741824 = 0 by omega, Nat.zero_mul, Nat.add_zero, Nat.zero_add] at e
              rw [ej] at hinv
              rw [Nat.zero_add] at hP hD
              have e2 : uV (upM f j (y % 1073741824)) 0 (j + 1) = v + x := e.trans hinv
              exact W.vret hx hb hr (fun t ht hW => ⟨⟨st w i (upM f j (y % 1073741824)) (j + 1), rfl, ⟨eqM_st _ _ _ _, NU_st (by omega) (Or.inr (by rw [Nat.add_sub_cancel, upM_s]; omega)) e2, h3.st (upM_B hB (p3_mod _))⟩, BM_of ht hP⟩, hS.F ht⟩) hS.2.2 d_Mn_add_I_66
            · skip
              have c5 : ¬ ((0 + y) / 1073741824 ≤ 0) := fun h => c5 (by have := (nI_leI (by omega) (by omega)).mpr h; rwa [nI_0] at this)
              omega
        · skip
          have c13 : ¬ (mL w i ≤ j) := fun h => c13 ((nI_leI (by omega) (by omega)).mpr h)
          omega
    | succ q ih =>
      intro j y f H locs ls hj hy hB hinv hT1 hT2 hP hD hS hl
      have hf9 := hB j
      refine lv_iload_n hx hb d_Mn_add_I_4 rfl (lv_at hl 1 rfl) ?_
      refine lv_if_le (tgt := 66) hx hb d_Mn_add_I_5 (by decide) (fun c5 => ?_) (fun c5 => ?_)
      · skip
        have c5 : y ≤ 0 := (nI_leI (by omega) (by omega)).mp (by first | (rw [nI_0]; exact c5) | rw [nI_0])
        have ey : y = 0 := by omega
        subst ey
        rw [Nat.zero_mul, Nat.add_zero] at hinv
        exact W.vret hx hb hr (fun t ht hW => ⟨⟨st w i f (mL w i), rfl, ⟨eqM_st _ _ _ _, NU_st (by omega) (by rcases hT2 with z | z; exact absurd rfl z; exact z) hinv, h3.st hB⟩, BM_of ht hP⟩, hS.F ht⟩) hS.2.2 d_Mn_add_I_66
      · skip
        have c5 : ¬ (y ≤ 0) := fun h => c5 (by have := (nI_leI (by omega) (by omega)).mpr h; rwa [nI_0] at this)
        refine lv_iload_n hx hb d_Mn_add_I_8 rfl (lv_at hl 0 rfl) ?_
        refine lv_aload_n hx hb d_Mn_add_I_9 rfl (lv_at hl 2 rfl) ?_
        refine mw_gL hx hb hts hown hKW.1 hP (i := i) (by omega) (n := mL w i) (by rw [st_mL]) lf_Mn_15 d_Mn_add_I_10 ?_
        refine lv_icmp_ge (tgt := 25) hx hb d_Mn_add_I_13 (by decide) (fun c13 => ?_) (fun c13 => ?_)
        · skip
          have c13 : mL w i ≤ j := (nI_leI (by omega) (by omega)).mp c13
          omega
        · skip
          have c13 : ¬ (mL w i ≤ j) := fun h => c13 ((nI_leI (by omega) (by omega)).mpr h)
          refine lv_aload_n hx hb d_Mn_add_I_16 rfl (lv_at hl 2 rfl) ?_
          refine mw_gW hx hb hts hown hKW.1 hP (i := i) (by omega) lf_Mn_9 d_Mn_add_I_17 ?_
          refine lv_iload_n hx hb d_Mn_add_I_20 rfl (lv_at hl 0 rfl) ?_
          refine mw_lW hx hb hKW.1 hP (i := i) (by omega) (j := j) (by omega) (x := f j) (by rw [st_mW]) d_Mn_add_I_21 ?_
          refine lv_goto (tgt := 26) hx hb d_Mn_add_I_22 (by decide) ?_
          refine lv_iload_n hx hb d_Mn_add_I_26 rfl (lv_at hl 1 rfl) ?_
          refine nw_iadd (v := nI (f j + y)) hx hb d_Mn_add_I_27 (nI_add _ _) ?_
          refine lv_istore (lv' := [(4, .int (nI (f j + y))), (3, .int (nI (j))), (2, .int (nI (y))), (0, .ref (ad (2 * i + 4))), (1, .int (nI (x)))]) hx hb d_Mn_add_I_28 hl (by decide) rfl (fun ls hl => ?_)
          refine lv_aload_n hx hb d_Mn_add_I_30 rfl (lv_at hl 3 rfl) ?_
          refine mw_gW hx hb hts hown hKW.1 hP (i := i) (by omega) lf_Mn_9 d_Mn_add_I_31 ?_
          refine lv_iload_n hx hb d_Mn_add_I_34 rfl (lv_at hl 1 rfl) ?_
          refine lv_iload hx hb d_Mn_add_I_35 (lv_at hl 0 rfl) ?_
          refine lv_ldc (v := 1073741823) hx hb hown (hA_ hts lk_Mn_25) d_Mn_add_I_37 ?_
          refine nw_iand (v := nI ((f j + y) % 1073741824)) hx hb d_Mn_add_I_39 (nI_mask _) ?_
          refine mw_sW hx hb hKW.1 hP hD hS (i := i) (by omega) (j := j) (by omega) d_Mn_add_I_40 (fun H locs hP hD hS => ?_)
          rw [st_qW, st_mW] at hP hD
          refine lv_iload hx hb d_Mn_add_I_41 (lv_at hl 0 rfl) ?_
          refine lv_bipush (v := nI (30)) hx hb d_Mn_add_I_43 (by decide) ?_
          refine lv_iushr (v := nI ((f j + y) / 1073741824)) hx hb d_Mn_add_I_45 (nI_us30 (by omega)) ?_
          refine lv_istore_n (lv' := [(2, .int (nI ((f j + y) / 1073741824))), (4, .int (nI (f j + y))), (3, .int (nI (j))), (0, .ref (ad (2 * i + 4))), (1, .int (nI (x)))]) hx hb d_Mn_add_I_46 rfl hl (by decide) rfl (fun ls hl => ?_)
          refine lv_iinc (v := nI (j + 1)) (lv' := [(3, .int (nI (j + 1))), (2, .int (nI ((f j + y) / 1073741824))), (4, .int (nI (f j + y))), (0, .ref (ad (2 * i + 4))), (1, .int (nI (x)))]) hx hb d_Mn_add_I_47 hl (k := 2) rfl (nI_add _ 1) (by decide) rfl (fun ls hl => ?_)
          refine lv_iload_n hx hb d_Mn_add_I_50 rfl (lv_at hl 0 rfl) ?_
          refine lv_aload_n hx hb d_Mn_add_I_51 rfl (lv_at hl 3 rfl) ?_
          refine mw_gL hx hb hts hown hKW.1 hP (i := i) (by omega) (n := mL w i) (by rw [st_mL]) lf_Mn_15 d_Mn_add_I_52 ?_
          refine lv_icmp_le (tgt := 63) hx hb d_Mn_add_I_55 (by decide) (fun c55 => ?_) (fun c55 => ?_)
          · skip
            have c55 : j + 1 ≤ mL w i := (nI_leI (by omega) (by omega)).mp c55
            refine lv_goto (tgt := 4) hx hb d_Mn_add_I_63 (by decide) ?_
            refine ih (j + 1) _ _ H locs ls (by omega) (by omega) (upM_B hB (p3_mod _)) (aj_step (by omega) hinv rfl) ?_ ?_ hP hD hS (lv_sub hl [0, 1, 3, 4] rfl)
            · intro z; rw [upM_n (by omega)]; exact hT1 (by omega)
            · rcases Nat.lt_or_ge (j + 1) (mL w i) with z | z
              · right; right; rw [upM_n (by omega)]; exact hT1 (by omega)
              · rw [show mL w i - 1 = j by omega, upM_s]; omega
          · skip
            have c55 : ¬ (j + 1 ≤ mL w i) := fun h => c55 ((nI_leI (by omega) (by omega)).mpr h)
            omega
  refine loop (mL w i) 0 x _ _ _ ls (by omega) hx9 (h3 i) (by rw [hv.2.2, Nat.pow_zero, Nat.mul_one]) ?_ ?_ (by rw [st_self]; exact hP) (by rw [st_self]; exact hD) hS (lv_sub hl [0, 1, 2, 3] rfl)
  · intro z; rcases hv.2.1 with z2 | z2; omega; exact z2
  · exact Or.inr hv.2.1
set_option maxHeartbeats 4000000 in
set_option maxRecDepth 100000 in
/-- less(x) -/
theorem c_Mn_less (l : Launch) {D : va_G} {cI cB cR : ClassId} {ad : Nat → Nat} (w : Mt) (sz : Nat) {i a v u : Nat} (hi : i < 19) (ha : a < 19) (hai : a ≠ i) (h3 : W3 w) (hv : NU w i v) (hu : NU w a u) (huv : u ≤ v) : Met l y_Mn_less (q_Mn_less :: wA) { frames := 1, cells := 0, slots := 0, locals := 60 } (va_Pc [.ref (ad (2 * i + 4)), .ref (ad (2 * a + 4))] (PM D cI cB cR ad w sz)) (va_Qv (fun w1 : Mt => eqM w w1 [i] ∧ NU w1 i (v - u) ∧ W3 w1) (BM D cI cB cR ad) (AM ad sz)) 0 0 (AM ad sz) := by
  refine Met.ofW (cc := b_Mn_less) (maxL := 5) (ret := none) (by decide) rfl ?_
  intro p e s m args below meth c s₁ B hml hv
  obtain ⟨rfl, hsz, hP, hD0, hKW⟩ := hv
  have hx := B.exec
  have hb := B.bytes
  have hr := B.returns
  have hts := atoms_spec (ws := q_Mn_less :: wA) B.pre
  have hown : s.vm.findClass R_Mn = some m.cls := findClass_of_methodNamed B.named
  have hlocks := B.notSynchronized
  subst hsz
  have hD := NM_AM (sz := s.heap.size) hD0
  have hS : va_S (AM ad s.heap.size) s.heap s.heap [] := va_S.rf
  have hl := lv_entry ([.ref (ad (2 * i + 4)), .ref (ad (2 * a + 4))]) (n := 5) (Nat.le_of_ble_eq_true rfl)
  rw [lg_entry_eq]
  generalize (lg_sl ([.ref (ad (2 * i + 4)), .ref (ad (2 * a + 4))]) ++ List.replicate (5 - (lg_sl ([.ref (ad (2 * i + 4)), .ref (ad (2 * a + 4))])).length) Slot.unset).toArray = ls at hl ⊢
  have hl : lv_has ls 5 [(0, .ref (ad (2 * i + 4))), (1, .ref (ad (2 * a + 4)))] := hl
  have hlen := hv.len
  have hlen2 := hu.len
  have hle : mL w a ≤ mL w i := by
    rcases Nat.lt_or_ge (mL w i) (mL w a) with q | q
    · have h1 := hu.ge (by omega)
      have h2 := hv.lt h3
      have h9 : (1073741824 : Nat) ^ mL w i ≤ 1073741824 ^ (mL w a - 1) := Nat.pow_le_pow_right (by decide) (by omega)
      omega
    · exact q
  refine lv_iconst (v := nI (0)) hx hb d_Mn_less_0 (by decide) ?_
  refine lv_istore_n (lv' := [(2, .int (nI (0))), (0, .ref (ad (2 * i + 4))), (1, .ref (ad (2 * a + 4)))]) hx hb d_Mn_less_1 rfl hl (by decide) rfl (fun ls hl => ?_)
  refine lv_iconst (v := nI (0)) hx hb d_Mn_less_2 (by decide) ?_
  refine lv_istore_n (lv' := [(3, .int (nI (0))), (2, .int (nI (0))), (0, .ref (ad (2 * i + 4))), (1, .ref (ad (2 * a + 4)))]) hx hb d_Mn_less_3 rfl hl (by decide) rfl (fun ls hl => ?_)
  have loop : ∀ (q j y : Nat) (f : Nat → Nat) (H : Heap) (locs : List Loc) (ls : Array Slot), j + q = mL w i → y ≤ 1 → B3 f → uV f 0 j + uM (mW w a) (mL w a) j = uV (mW w i) 0 j + y * 1073741824 ^ j → (∀ z, j ≤ z → f z = mW w i z) → va_P D clA (NM cI cB cR ad (st w i f (mL w i))) H → va_D (AM ad s.heap.size) (NM cI cB cR ad (st w i f (mL w i))) → va_S (AM ad s.heap.size) s.heap H locs → lv_has ls 5 [(3, .int (nI (j))), (2, .int (nI (y))), (0, .ref (ad (2 * i + 4))), (1, .ref (ad (2 * a + 4)))] → W p l e (headSpec (q_Mn_less :: wA) { frames := 1, cells := 0, slots := 0, locals := 60 }).room s m ([.ref (ad (2 * i + 4)), .ref (ad (2 * a + 4))] : List Value).toArray below meth c H locs 0 0 (MQ below (va_Qv (fun w1 : Mt => eqM w w1 [i] ∧ NU w1 i (v - u) ∧ W3 w1) (BM D cI cB cR ad) (AM ad s.heap.size)) ([.ref (ad (2 * i + 4)), .ref (ad (2 * a + 4))] : List Value).toArray s 0 0 (AM ad s.heap.size)) (F0 m 4 ls []) := by
    intro q
    induction q with
    | zero =>
      intro j y f H locs ls hj hy hB hinv hk hP hD hS hl
      refine lv_iload_n hx hb d_Mn_less_4 rfl (lv_at hl 0 rfl) ?_
      refine lv_aload_n hx hb d_Mn_less_5 rfl (lv_at hl 2 rfl) ?_
      refine mw_gL hx hb hts hown hKW.1 hP (i := i) (by omega) (n := mL w i) (by rw [st_mL]) lf_Mn_15 d_Mn_less_6 ?_
      refine lv_icmp_ge (tgt := 69) hx hb d_Mn_less_9 (by decide) (fun c9 => ?_) (fun c9 => ?_)
      · skip
        have c9 : mL w i ≤ j := (nI_leI (by omega) (by omega)).mp c9
        have ej : j = mL w i := by omega
        rw [ej, uM_all hle, hv.2.2, hu.2.2] at hinv
        have hlt := uV_lt hB 0 (mL w i)
        have hval : uV f 0 (mL w i) = v - u := by
          rcases Nat.eq_zero_or_pos y with z | z
          · rw [z] at hinv; omega
          · rw [show y = 1 by omega] at hinv; omega
        refine lv_aload_n hx hb d_Mn_less_69 rfl (lv_at hl 2 rfl) ?_
        refine lv_aload_n hx hb d_Mn_less_70 rfl (lv_at hl 2 rfl) ?_
        refine mw_gL hx hb hts hown hKW.1 hP (i := i) (by omega) (n := mL w i) (by rw [st_mL]) lf_Mn_15 d_Mn_less_71 ?_
        refine zV_v (As := [.int (nI (mL w i))]) (rest := []) (n := 1) ⟨hx, hb, hml, hown, hts⟩ (c_Mn_trim l (st w i f (mL w i)) _ (i := i) (top := mL w i) hi (h3.st hB) (by omega)) (cwV0 1 hts lm_Mn_32 im_Mn_trim se_Mn_trim in_Mn kq_Mn_trim rfl rfl rfl (by decide +kernel) ⟨Nat.le_of_ble_eq_true rfl, Nat.le_of_ble_eq_true rfl⟩) (recMn hKW.1 hP (i := i) (by omega)) hKW hP hD hS rfl hl.1 rfl (Nat.le_of_ble_eq_true rfl) d_Mn_less_74 ⟨Nat.zero_le _, Nat.zero_le _⟩ (fun w1 H locs hp hP hD hS => ?_)
        rw [hp, st_mW, st_st] at hP hD
        exact W.vret hx hb hr (fun t ht hW => ⟨⟨st w i f (tm f (mL w i)), rfl, ⟨eqM_st _ _ _ _, hval ▸ NU_tr (by omega), h3.st hB⟩, BM_of ht hP⟩, hS.F ht⟩) hS.2.2 d_Mn_less_77
      · skip
        have c9 : ¬ (mL w i ≤ j) := fun h => c9 ((nI_leI (by omega) (by omega)).mpr h)
        omega
    | succ q ih =>
      intro j y f H locs ls hj hy hB hinv hk hP hD hS hl
      refine lv_iload_n hx hb d_Mn_less_4 rfl (lv_at hl 0 rfl) ?_
      refine lv_aload_n hx hb d_Mn_less_5 rfl (lv_at hl 2 rfl) ?_
      refine mw_gL hx hb hts hown hKW.1 hP (i := i) (by omega) (n := mL w i) (by rw [st_mL]) lf_Mn_15 d_Mn_less_6 ?_
      refine lv_icmp_ge (tgt := 69) hx hb d_Mn_less_9 (by decide) (fun c9 => ?_) (fun c9 => ?_)
      · skip
        have c9 : mL w i ≤ j := (nI_leI (by omega) (by omega)).mp c9
        omega
      · skip
        have c9 : ¬ (mL w i ≤ j) := fun h => c9 ((nI_leI (by omega) (by omega)).mpr h)
        have hf9 := hB j
        have ha9 := h3 a j
        have hk9 := hk j (Nat.le_refl _)
        refine lv_aload_n hx hb d_Mn_less_12 rfl (lv_at hl 2 rfl) ?_
        refine mw_gW hx hb hts hown hKW.1 hP (i := i) (by omega) lf_Mn_9 d_Mn_less_13 ?_
        refine lv_iload_n hx hb d_Mn_less_16 rfl (lv_at hl 0 rfl) ?_
        refine mw_lW hx hb hKW.1 hP (i := i) (by omega) (j := j) (by omega) (x := f j) (by rw [st_mW]) d_Mn_less_17 ?_
        refine lv_iload_n hx hb d_Mn_less_18 rfl (lv_at hl 0 rfl) ?_
        refine lv_aload_n hx hb d_Mn_less_19 rfl (lv_at hl 3 rfl) ?_
        refine mw_gL hx hb hts hown hKW.1 hP (i := a) (by omega) (n := mL w a) (by rw [st_mLn _ _ _ (by omega)]) lf_Mn_15 d_Mn_less_20 ?_
        refine lv_icmp_ge (tgt := 35) hx hb d_Mn_less_23 (by decide) (fun c23 => ?_) (fun c23 => ?_)
        · skip
          have c23 : mL w a ≤ j := (nI_leI (by omega) (by omega)).mp c23
          rcases Nat.lt_or_ge (f j) (0 + y) with z5 | z5
          · skip
            refine lv_iconst (v := nI (0)) hx hb d_Mn_less_35 (by decide) ?_
            refine nw_isub (v := nI (f j) - nI (0)) hx hb d_Mn_less_36 rfl ?_
            refine lv_iload_n hx hb d_Mn_less_37 rfl (lv_at hl 1 rfl) ?_
            refine nw_isub (v := nI (f j) - nI (0) - nI y) hx hb d_Mn_less_38 rfl ?_
            refine lv_istore (lv' := [(4, .int (nI (f j) - nI (0) - nI y)), (3, .int (nI (j))), (2, .int (nI (y))), (0, .ref (ad (2 * i + 4))), (1, .ref (ad (2 * a + 4)))]) hx hb d_Mn_less_39 hl (by decide) rfl (fun ls hl => ?_)
            refine lv_aload_n hx hb d_Mn_less_41 rfl (lv_at hl 3 rfl) ?_
            refine mw_gW hx hb hts hown hKW.1 hP (i := i) (by omega) lf_Mn_9 d_Mn_less_42 ?_
            refine lv_iload_n hx hb d_Mn_less_45 rfl (lv_at hl 1 rfl) ?_
            refine lv_iload hx hb d_Mn_less_46 (lv_at hl 0 rfl) ?_
            refine lv_ldc (v := 1073741823) hx hb hown (hA_ hts lk_Mn_25) d_Mn_less_48 ?_
            refine nw_iand (v := nI (f j + 1073741824 - (0 + y))) hx hb d_Mn_less_50 (ls_lt (by omega) (by omega) hy z5) ?_
            refine mw_sW hx hb hKW.1 hP hD hS (i := i) (by omega) (j := j) (by omega) d_Mn_less_51 (fun H locs hP hD hS => ?_)
            rw [st_qW, st_mW] at hP hD
            refine lv_iload hx hb d_Mn_less_52 (lv_at hl 0 rfl) ?_
            refine lv_if_ge (tgt := 61) hx hb d_Mn_less_54 (by decide) (fun c54 => ?_) (fun c54 => ?_)
            · exact absurd (ls_ng (by omega) (by omega) hy z5) (Int32.not_lt.mpr c54)
            · skip
              refine lv_iconst (v := nI (1)) hx hb d_Mn_less_57 (by decide) ?_
              refine lv_goto (tgt := 62) hx hb d_Mn_less_58 (by decide) ?_
              refine lv_istore_n (lv' := [(2, .int (nI (1))), (4, .int (nI (f j) - nI (0) - nI y)), (3, .int (nI (j))), (0, .ref (ad (2 * i + 4))), (1, .ref (ad (2 * a + 4)))]) hx hb d_Mn_less_62 rfl hl (by decide) rfl (fun ls hl => ?_)
              refine lv_iinc (v := nI (j + 1)) (lv' := [(3, .int (nI (j + 1))), (2, .int (nI (1))), (4, .int (nI (f j) - nI (0) - nI y)), (0, .ref (ad (2 * i + 4))), (1, .ref (ad (2 * a + 4)))]) hx hb d_Mn_less_63 hl (k := 2) rfl (nI_add _ 1) (by decide) rfl (fun ls hl => ?_)
              refine lv_goto (tgt := 4) hx hb d_Mn_less_66 (by decide) ?_
              exact ih (j + 1) _ _ H locs ls (by omega) (by omega) (upM_B hB (by omega)) (le_step (x2 := 0) (y' := 1) hinv (uM_ge' c23) (by omega)) (up_keep hk) hP hD hS (lv_sub hl [0, 1, 3, 4] rfl)
          · skip
            refine lv_iconst (v := nI (0)) hx hb d_Mn_less_35 (by decide) ?_
            refine nw_isub (v := nI (f j) - nI (0)) hx hb d_Mn_less_36 rfl ?_
            refine lv_iload_n hx hb d_Mn_less_37 rfl (lv_at hl 1 rfl) ?_
            refine nw_isub (v := nI (f j - (0 + y))) hx hb d_Mn_less_38 (ls_ge z5) ?_
            refine lv_istore (lv' := [(4, .int (nI (f j - (0 + y)))), (3, .int (nI (j))), (2, .int (nI (y))), (0, .ref (ad (2 * i + 4))), (1, .ref (ad (2 * a + 4)))]) hx hb d_Mn_less_39 hl (by decide) rfl (fun ls hl => ?_)
            refine lv_aload_n hx hb d_Mn_less_41 rfl (lv_at hl 3 rfl) ?_
            refine mw_gW hx hb hts hown hKW.1 hP (i := i) (by omega) lf_Mn_9 d_Mn_less_42 ?_
            refine lv_iload_n hx hb d_Mn_less_45 rfl (lv_at hl 1 rfl) ?_
            refine lv_iload hx hb d_Mn_less_46 (lv_at hl 0 rfl) ?_
            refine lv_ldc (v := 1073741823) hx hb hown (hA_ hts lk_Mn_25) d_Mn_less_48 ?_
            refine nw_iand (v := nI ((f j - (0 + y)) % 1073741824)) hx hb d_Mn_less_50 (nI_mask _) ?_
            refine mw_sW hx hb hKW.1 hP hD hS (i := i) (by omega) (j := j) (by omega) d_Mn_less_51 (fun H locs hP hD hS => ?_)
            rw [st_qW, st_mW] at hP hD
            refine lv_iload hx hb d_Mn_less_52 (lv_at hl 0 rfl) ?_
            refine lv_if_ge (tgt := 61) hx hb d_Mn_less_54 (by decide) (fun c54 => ?_) (fun c54 => ?_)
            · skip
              have c54 : 0 ≤ f j - (0 + y) := (nI_leI (by omega) (by omega)).mp (by first | (rw [nI_0]; exact c54) | rw [nI_0])
              refine lv_iconst (v := nI (0)) hx hb d_Mn_less_61 (by decide) ?_
              refine lv_istore_n (lv' := [(2, .int (nI (0))), (4, .int (nI (f j - (0 + y)))), (3, .int (nI (j))), (0, .ref (ad (2 * i + 4))), (1, .ref (ad (2 * a + 4)))]) hx hb d_Mn_less_62 rfl hl (by decide) rfl (fun ls hl => ?_)
              refine lv_iinc (v := nI (j + 1)) (lv' := [(3, .int (nI (j + 1))), (2, .int (nI (0))), (4, .int (nI (f j - (0 + y)))), (0, .ref (ad (2 * i + 4))), (1, .ref (ad (2 * a + 4)))]) hx hb d_Mn_less_63 hl (k := 2) rfl (nI_add _ 1) (by decide) rfl (fun ls hl => ?_)
              refine lv_goto (tgt := 4) hx hb d_Mn_less_66 (by decide) ?_
              exact ih (j + 1) _ _ H locs ls (by omega) (by omega) (upM_B hB (by omega)) (le_step (x2 := 0) (y' := 0) hinv (uM_ge' c23) (by omega)) (up_keep hk) hP hD hS (lv_sub hl [0, 1, 3, 4] rfl)
            · skip
              have c54 : ¬ (0 ≤ f j - (0 + y)) := fun h => c54 (by have := (nI_leI (by omega) (by omega)).mpr h; rwa [nI_0] at this)
              omega
        · skip
          have c23 : ¬ (mL w a ≤ j) := fun h => c23 ((nI_leI (by omega) (by omega)).mpr h)
          rcases Nat.lt_or_ge (f j) (mW w a j + y) with z5 | z5
          · skip
            refine lv_aload_n hx hb d_Mn_less_26 rfl (lv_at hl 3 rfl) ?_
            refine mw_gW hx hb hts hown hKW.1 hP (i := a) (by omega) lf_Mn_9 d_Mn_less_27 ?_
            refine lv_iload_n hx hb d_Mn_less_30 rfl (lv_at hl 0 rfl) ?_
            refine mw_lW hx hb hKW.1 hP (i := a) (by omega) (j := j) (by omega) (x := mW w a j) (by rw [st_mWn _ _ _ (by omega)]) d_Mn_less_31 ?_
            refine lv_goto (tgt := 36) hx hb d_Mn_less_32 (by decide) ?_
            refine nw_isub (v := nI (f j) - nI (mW w a j)) hx hb d_Mn_less_36 rfl ?_
            refine lv_iload_n hx hb d_Mn_less_37 rfl (lv_at hl 1 rfl) ?_
            refine nw_isub (v := nI (f j) - nI (mW w a j) - nI y) hx hb d_Mn_less_38 rfl ?_
            refine lv_istore (lv' := [(4, .int (nI (f j) - nI (mW w a j) - nI y)), (3, .int (nI (j))), (2, .int (nI (y))), (0, .ref (ad (2 * i + 4))), (1, .ref (ad (2 * a + 4)))]) hx hb d_Mn_less_39 hl (by decide) rfl (fun ls hl => ?_)
            refine lv_aload_n hx hb d_Mn_less_41 rfl (lv_at hl 3 rfl) ?_
            refine mw_gW hx hb hts hown hKW.1 hP (i := i) (by omega) lf_Mn_9 d_Mn_less_42 ?_
            refine lv_iload_n hx hb d_Mn_less_45 rfl (lv_at hl 1 rfl) ?_
            refine lv_iload hx hb d_Mn_less_46 (lv_at hl 0 rfl) ?_
            refine lv_ldc (v := 1073741823) hx hb hown (hA_ hts lk_Mn_25) d_Mn_less_48 ?_
            refine nw_iand (v := nI (f j + 1073741824 - (mW w a j + y))) hx hb d_Mn_less_50 (ls_lt (by omega) (by omega) hy z5) ?_
            refine mw_sW hx hb hKW.1 hP hD hS (i := i) (by omega) (j := j) (by omega) d_Mn_less_51 (fun H locs hP hD hS => ?_)
            rw [st_qW, st_mW] at hP hD
            refine lv_iload hx hb d_Mn_less_52 (lv_at hl 0 rfl) ?_
            refine lv_if_ge (tgt := 61) hx hb d_Mn_less_54 (by decide) (fun c54 => ?_) (fun c54 => ?_)
            · exact absurd (ls_ng (by omega) (by omega) hy z5) (Int32.not_lt.mpr c54)
            · skip
              refine lv_iconst (v := nI (1)) hx hb d_Mn_less_57 (by decide) ?_
              refine lv_goto (tgt := 62) hx hb d_Mn_less_58 (by decide) ?_
              refine lv_istore_n (lv' := [(2, .int (nI (1))), (4, .int (nI (f j) - nI (mW w a j) - nI y)), (3, .int (nI (j))), (0, .ref (ad (2 * i + 4))), (1, .ref (ad (2 * a + 4)))]) hx hb d_Mn_less_62 rfl hl (by decide) rfl (fun ls hl => ?_)
              refine lv_iinc (v := nI (j + 1)) (lv' := [(3, .int (nI (j + 1))), (2, .int (nI (1))), (4, .int (nI (f j) - nI (mW w a j) - nI y)), (0, .ref (ad (2 * i + 4))), (1, .ref (ad (2 * a + 4)))]) hx hb d_Mn_less_63 hl (k := 2) rfl (nI_add _ 1) (by decide) rfl (fun ls hl => ?_)
              refine lv_goto (tgt := 4) hx hb d_Mn_less_66 (by decide) ?_
              exact ih (j + 1) _ _ H locs ls (by omega) (by omega) (upM_B hB (by omega)) (le_step (x2 := mW w a j) (y' := 1) hinv (uM_lt' (by omega) rfl) (by omega)) (up_keep hk) hP hD hS (lv_sub hl [0, 1, 3, 4] rfl)
          · skip
            refine lv_aload_n hx hb d_Mn_less_26 rfl (lv_at hl 3 rfl) ?_
            refine mw_gW hx hb hts hown hKW.1 hP (i := a) (by omega) lf_Mn_9 d_Mn_less_27 ?_
            refine lv_iload_n hx hb d_Mn_less_30 rfl (lv_at hl 0 rfl) ?_
            refine mw_lW hx hb hKW.1 hP (i := a) (by omega) (j := j) (by omega) (x := mW w a j) (by rw [st_mWn _ _ _ (by omega)]) d_Mn_less_31 ?_
            refine lv_goto (tgt := 36) hx hb d_Mn_less_32 (by decide) ?_
            refine nw_isub (v := nI (f j) - nI (mW w a j)) hx hb d_Mn_less_36 rfl ?_
            refine lv_iload_n hx hb d_Mn_less_37 rfl (lv_at hl 1 rfl) ?_
            refine nw_isub (v := nI (f j - (mW w a j + y))) hx hb d_Mn_less_38 (ls_ge z5) ?_
            refine lv_istore (lv' := [(4, .int (nI (f j - (mW w a j + y)))), (3, .int (nI (j))), (2, .int (nI (y))), (0, .ref (ad (2 * i + 4))), (1, .ref (ad (2 * a + 4)))]) hx hb d_Mn_less_39 hl (by decide) rfl (fun ls hl => ?_)
            refine lv_aload_n hx hb d_Mn_less_41 rfl (lv_at hl 3 rfl) ?_
            refine mw_gW hx hb hts hown hKW.1 hP (i := i) (by omega) lf_Mn_9 d_Mn_less_42 ?_
            refine lv_iload_n hx hb d_Mn_less_45 rfl (lv_at hl 1 rfl) ?_
            refine lv_iload hx hb d_Mn_less_46 (lv_at hl 0 rfl) ?_
            refine lv_ldc (v := 1073741823) hx hb hown (hA_ hts lk_Mn_25) d_Mn_less_48 ?_
            refine nw_iand (v := nI ((f j - (mW w a j + y)) % 1073741824)) hx hb d_Mn_less_50 (nI_mask _) ?_
            refine mw_sW hx hb hKW.1 hP hD hS (i := i) (by omega) (j := j) (by omega) d_Mn_less_51 (fun H locs hP hD hS => ?_)
            rw [st_qW, st_mW] at hP hD
            refine lv_iload hx hb d_Mn_less_52 (lv_at hl 0 rfl) ?_
            refine lv_if_ge (tgt := 61) hx hb d_Mn_less_54 (by decide) (fun c54 => ?_) (fun c54 => ?_)
            · skip
              have c54 : 0 ≤ f j - (mW w a j + y) := (nI_leI (by omega) (by omega)).mp (by first | (rw [nI_0]; exact c54) | rw [nI_0])
              refine lv_iconst (v := nI (0)) hx hb d_Mn_less_61 (by decide) ?_
              refine lv_istore_n (lv' := [(2, .int (nI (0))), (4, .int (nI (f j - (mW w a j + y)))), (3, .int (nI (j))), (0, .ref (ad (2 * i + 4))), (1, .ref (ad (2 * a + 4)))]) hx hb d_Mn_less_62 rfl hl (by decide) rfl (fun ls hl => ?_)
              refine lv_iinc (v := nI (j + 1)) (lv' := [(3, .int (nI (j + 1))), (2, .int (nI (0))), (4, .int (nI (f j - (mW w a j + y)))), (0, .ref (ad (2 * i + 4))), (1, .ref (ad (2 * a + 4)))]) hx hb d_Mn_less_63 hl (k := 2) rfl (nI_add _ 1) (by decide) rfl (fun ls hl => ?_)
              refine lv_goto (tgt := 4) hx hb d_Mn_less_66 (by decide) ?_
              exact ih (j + 1) _ _ H locs ls (by omega) (by omega) (upM_B hB (by omega)) (le_step (x2 := mW w a j) (y' := 0) hinv (uM_lt' (by omega) rfl) (by omega)) (up_keep hk) hP hD hS (lv_sub hl [0, 1, 3, 4] rfl)
            · skip
              have c54 : ¬ (0 ≤ f j - (mW w a j + y)) := fun h => c54 (by have := (nI_leI (by omega) (by omega)).mpr h; rwa [nI_0] at this)
              omega
  exact loop (mL w i) 0 0 _ _ _ ls (by omega) (by omega) (h3 i) (by simp [uM_0, uV_0]) (fun _ _ => rfl) (by rw [st_self]; exact hP) (by rw [st_self]; exact hD) hS (lv_sub hl [0, 1, 2, 3] rfl)
set_option maxHeartbeats 4000000 in
set_option maxRecDepth 100000 in
/-- times(v) -/
theorem c_Mn_times (l : Launch) {D : va_G} {cI cB cR : ClassId} {ad : Nat → Nat} (w : Mt) (sz : Nat) {i v d : Nat} (hi : i < 19) (h3 : W3 w) (hv : NU w i v) (hn : mL w i ≤ 6799) (hd1 : 1 ≤ d) (hd2 : d ≤ 100) : Met l y_Mn_times (q_Mn_times :: wA) { frames := 0, cells := 0, slots := 0, locals := 0 } (va_Pc [.ref (ad (2 * i + 4)), .int (nI (d))] (PM D cI cB cR ad w sz)) (va_Qv (fun w1 : Mt => eqM w w1 [i] ∧ NU w1 i (v * d) ∧ W3 w1) (BM D cI cB cR ad) (AM ad sz)) 0 0 (AM ad sz) := by
  refine Met.ofW (cc := b_Mn_times) (maxL := 7) (ret := none) (by decide) rfl ?_
  intro p e s m args below meth c s₁ B hml hv
  obtain ⟨rfl, hsz, hP, hD0, hKW⟩ := hv
  have hx := B.exec
  have hb := B.bytes
  have hr := B.returns
  have hts := atoms_spec (ws := q_Mn_times :: wA) B.pre
  have hown : s.vm.findClass R_Mn = some m.cls := findClass_of_methodNamed B.named
  have hlocks := B.notSynchronized
  subst hsz
  have hD := NM_AM (sz := s.heap.size) hD0
  have hS : va_S (AM ad s.heap.size) s.heap s.heap [] := va_S.rf
  have hl := lv_entry ([.ref (ad (2 * i + 4)), .int (nI (d))]) (n := 7) (Nat.le_of_ble_eq_true rfl)
  rw [lg_entry_eq]
  generalize (lg_sl ([.ref (ad (2 * i + 4)), .int (nI (d))]) ++ List.replicate (7 - (lg_sl ([.ref (ad (2 * i + 4)), .int (nI (d))])).length) Slot.unset).toArray = ls at hl ⊢
  have hl : lv_has ls 7 [(0, .ref (ad (2 * i + 4))), (1, .int (nI (d)))] := hl
  refine lv_lconst (v := lN (0)) hx hb d_Mn_times_0 (by decide) ?_
  refine lv_lstore_n (lv' := [(2, .long (lN (0))), (0, .ref (ad (2 * i + 4))), (1, .int (nI (d)))]) hx hb d_Mn_times_1 rfl hl (by decide) rfl (fun ls hl => ?_)
  refine lv_iconst (v := nI (0)) hx hb d_Mn_times_2 (by decide) ?_
  refine lv_istore (lv' := [(4, .int (nI (0))), (2, .long (lN (0))), (0, .ref (ad (2 * i + 4))), (1, .int (nI (d)))]) hx hb d_Mn_times_3 hl (by decide) rfl (fun ls hl => ?_)
  have loop : ∀ (q j y : Nat) (f : Nat → Nat) (H : Heap) (locs : List Loc) (ls : Array Slot), j + q = mL w i → y < d → B3 f → uV f 0 j + y * 1073741824 ^ j = uV (mW w i) 0 j * d → (∀ z, j ≤ z → f z = mW w i z) → va_P D clA (NM cI cB cR ad (st w i f (mL w i))) H → va_D (AM ad s.heap.size) (NM cI cB cR ad (st w i f (mL w i))) → va_S (AM ad s.heap.size) s.heap H locs → lv_has ls 7 [(4, .int (nI (j))), (2, .long (lN (y))), (0, .ref (ad (2 * i + 4))), (1, .int (nI (d)))] → W p l e (headSpec (q_Mn_times :: wA) { frames := 0, cells := 0, slots := 0, locals := 0 }).room s m ([.ref (ad (2 * i + 4)), .int (nI (d))] : List Value).toArray below meth c H locs 0 0 (MQ below (va_Qv (fun w1 : Mt => eqM w w1 [i] ∧ NU w1 i (v * d) ∧ W3 w1) (BM D cI cB cR ad) (AM ad s.heap.size)) ([.ref (ad (2 * i + 4)), .int (nI (d))] : List Value).toArray s 0 0 (AM ad s.heap.size)) (F0 m 5 ls []) := by
    intro q
    induction q with
    | zero =>
      intro j y f H locs ls hj hy hB hinv hk hP hD hS hl
      refine lv_iload hx hb d_Mn_times_5 (lv_at hl 0 rfl) ?_
      refine lv_aload_n hx hb d_Mn_times_7 rfl (lv_at hl 2 rfl) ?_
      refine mw_gL hx hb hts hown hKW.1 hP (i := i) (by omega) (n := mL w i) (by rw [st_mL]) lf_Mn_15 d_Mn_times_8 ?_
      refine lv_icmp_ge (tgt := 54) hx hb d_Mn_times_11 (by decide) (fun c11 => ?_) (fun c11 => ?_)
      · skip
        have c11 : mL w i ≤ j := (nI_leI (by omega) (by omega)).mp c11
        have ej : j = mL w i := by omega
        rw [ej, hv.2.2] at hinv
        refine lv_lload_n hx hb d_Mn_times_54 rfl (lv_at hl 1 rfl) ?_
        refine lv_lconst (v := lN (0)) hx hb d_Mn_times_55 (by decide) ?_
        refine W.lcmp hx hb d_Mn_times_56 ?_
        refine lv_if_le (tgt := 92) hx hb d_Mn_times_57 (by decide) (fun c57 => ?_) (fun c57 => ?_)
        · skip
          have c57 : y ≤ 0 := (pk_lLE (by omega) (by omega)).mp ((lg_cmp_le _ _).mp c57)
          have ey : y = 0 := by omega
          subst ey
          rw [Nat.zero_mul, Nat.add_zero] at hinv
          have htop : mL w i = 0 ∨ f (mL w i - 1) ≠ 0 := by
            rcases Nat.eq_zero_or_pos (mL w i) with z | z
            · exact Or.inl z
            · right
              refine uV_top hB (by omega) ?_
              rw [hinv]
              exact Nat.le_trans (hv.ge (by omega)) (Nat.le_mul_of_pos_right _ hd1)
          exact W.vret hx hb hr (fun t ht hW => ⟨⟨st w i f (mL w i), rfl, ⟨eqM_st _ _ _ _, NU_st (by omega) htop hinv, h3.st hB⟩, BM_of ht hP⟩, hS.F ht⟩) hS.2.2 d_Mn_times_92
        · skip
          have c57 : ¬ (y ≤ 0) := fun h => c57 ((lg_cmp_le _ _).mpr ((pk_lLE (by omega) (by omega)).mpr h))
          refine lv_aload_n hx hb d_Mn_times_60 rfl (lv_at hl 2 rfl) ?_
          refine mw_gW hx hb hts hown hKW.1 hP (i := i) (by omega) lf_Mn_9 d_Mn_times_61 ?_
          refine lv_aload_n hx hb d_Mn_times_64 rfl (lv_at hl 2 rfl) ?_
          refine mw_gL hx hb hts hown hKW.1 hP (i := i) (by omega) (n := mL w i) (by rw [st_mL]) lf_Mn_15 d_Mn_times_65 ?_
          refine lv_lload_n hx hb d_Mn_times_68 rfl (lv_at hl 1 rfl) ?_
          refine lv_l2i (v := nI (y)) hx hb d_Mn_times_69 (lN_i _) ?_
          refine lv_ldc (v := 1073741823) hx hb hown (hA_ hts lk_Mn_25) d_Mn_times_70 ?_
          refine nw_iand (v := nI (y % 1073741824)) hx hb d_Mn_times_72 (nI_mask _) ?_
          refine mw_sW hx hb hKW.1 hP hD hS (i := i) (by omega) (j := mL w i) (by omega) d_Mn_times_73 (fun H locs hP hD hS => ?_)
          rw [st_qW, st_mW] at hP hD
          refine lv_lload_n hx hb d_Mn_times_74 rfl (lv_at hl 1 rfl) ?_
          refine lv_bipush (v := nI (30)) hx hb d_Mn_times_75 (by decide) ?_
          refine lv_lshr (v := lN (y / 1073741824)) hx hb d_Mn_times_77 (lN_sr30 (by omega)) ?_
          refine lv_lstore_n (lv' := [(2, .long (lN (y / 1073741824))), (4, .int (nI (j))), (0, .ref (ad (2 * i + 4))), (1, .int (nI (d)))]) hx hb d_Mn_times_78 rfl hl (by decide) rfl (fun ls hl => ?_)
          refine lv_aload_n hx hb d_Mn_times_79 rfl (lv_at hl 2 rfl) ?_
          refine lv_dup hx hb d_Mn_times_80 rfl ?_
          refine mw_gL hx hb hts hown hKW.1 hP (i := i) (by omega) (n := mL w i) (by rw [st_mL]) lf_Mn_15 d_Mn_times_81 ?_
          refine lv_iconst (v := nI (1)) hx hb d_Mn_times_84 (by decide) ?_
          refine nw_iadd (v := nI (mL w i + 1)) hx hb d_Mn_times_85 (nI_add _ _) ?_
          refine mw_pL hx hb hts hown hKW.1 hP hD hS (i := i) (by omega) lf_Mn_15 d_Mn_times_86 (fun H locs hP hD hS => ?_)
          rw [st_qL] at hP hD
          refine lv_goto (tgt := 54) hx hb d_Mn_times_89 (by decide) ?_
          refine lv_lload_n hx hb d_Mn_times_54 rfl (lv_at hl 0 rfl) ?_
          refine lv_lconst (v := lN (0)) hx hb d_Mn_times_55 (by decide) ?_
          refine W.lcmp hx hb d_Mn_times_56 ?_
          refine lv_if_le (tgt := 92) hx hb d_Mn_times_57 (by decide) (fun c57 => ?_) (fun c57 => ?_)
          · skip
            have c57 : y / 1073741824 ≤ 0 := (pk_lLE (by omega) (by omega)).mp ((lg_cmp_le _ _).mp c57)
            have e := u_ch1 f (mL w i) y
            rw [show y / 1073741824 = 0 by omega, Nat.zero_mul, Nat.add_zero, hinv] at e
            exact W.vret hx hb hr (fun t ht hW => ⟨⟨st w i (upM f (mL w i) (y % 1073741824)) (mL w i + 1), rfl, ⟨eqM_st _ _ _ _, NU_st (by omega) (Or.inr (by rw [Nat.add_sub_cancel, upM_s]; omega)) e, h3.st (upM_B hB (p3_mod _))⟩, BM_of ht hP⟩, hS.F ht⟩) hS.2.2 d_Mn_times_92
          · skip
            have c57 : ¬ (y / 1073741824 ≤ 0) := fun h => c57 ((lg_cmp_le _ _).mpr ((pk_lLE (by omega) (by omega)).mpr h))
            omega
      · skip
        have c11 : ¬ (mL w i ≤ j) := fun h => c11 ((nI_leI (by omega) (by omega)).mpr h)
        omega
    | succ q ih =>
      intro j y f H locs ls hj hy hB hinv hk hP hD hS hl
      refine lv_iload hx hb d_Mn_times_5 (lv_at hl 0 rfl) ?_
      refine lv_aload_n hx hb d_Mn_times_7 rfl (lv_at hl 2 rfl) ?_
      refine mw_gL hx hb hts hown hKW.1 hP (i := i) (by omega) (n := mL w i) (by rw [st_mL]) lf_Mn_15 d_Mn_times_8 ?_
      refine lv_icmp_ge (tgt := 54) hx hb d_Mn_times_11 (by decide) (fun c11 => ?_) (fun c11 => ?_)
      · skip
        have c11 : mL w i ≤ j := (nI_leI (by omega) (by omega)).mp c11
        omega
      · skip
        have c11 : ¬ (mL w i ≤ j) := fun h => c11 ((nI_leI (by omega) (by omega)).mpr h)
        have hf9 := hB j
        have hk9 := hk j (Nat.le_refl _)
        have hpm : f j * d ≤ 1073741824 * 100 := Nat.mul_le_mul (by omega) (by omega)
        have hr9 := ti_rest (x := f j) (y := y) (d := d) hf9 hy
        refine lv_aload_n hx hb d_Mn_times_14 rfl (lv_at hl 2 rfl) ?_
        refine mw_gW hx hb hts hown hKW.1 hP (i := i) (by omega) lf_Mn_9 d_Mn_times_15 ?_
        refine lv_iload hx hb d_Mn_times_18 (lv_at hl 0 rfl) ?_
        refine mw_lW hx hb hKW.1 hP (i := i) (by omega) (j := j) (by omega) (x := f j) (by rw [st_mW]) d_Mn_times_20 ?_
        refine lv_i2l (v := lN (f j)) hx hb d_Mn_times_21 (nI_l (by omega)) ?_
        refine lv_iload_n hx hb d_Mn_times_22 rfl (lv_at hl 3 rfl) ?_
        refine lv_i2l (v := lN (d)) hx hb d_Mn_times_23 (nI_l (by omega)) ?_
        refine nw_lmul (v := lN ((f j) * d)) hx hb d_Mn_times_24 (lN_mul _ _) ?_
        refine lv_lload_n hx hb d_Mn_times_25 rfl (lv_at hl 1 rfl) ?_
        refine nw_ladd (v := lN ((f j) * d + y)) hx hb d_Mn_times_26 (lN_add _ _) ?_
        refine lv_lstore (lv' := [(5, .long (lN ((f j) * d + y))), (4, .int (nI (j))), (2, .long (lN (y))), (0, .ref (ad (2 * i + 4))), (1, .int (nI (d)))]) hx hb d_Mn_times_27 hl (by decide) rfl (fun ls hl => ?_)
        refine lv_aload_n hx hb d_Mn_times_29 rfl (lv_at hl 3 rfl) ?_
        refine mw_gW hx hb hts hown hKW.1 hP (i := i) (by omega) lf_Mn_9 d_Mn_times_30 ?_
        refine lv_iload hx hb d_Mn_times_33 (lv_at hl 1 rfl) ?_
        refine lv_lload hx hb d_Mn_times_35 (lv_at hl 0 rfl) ?_
        refine lv_l2i (v := nI ((f j) * d + y)) hx hb d_Mn_times_37 (lN_i _) ?_
        refine lv_ldc (v := 1073741823) hx hb hown (hA_ hts lk_Mn_25) d_Mn_times_38 ?_
        refine nw_iand (v := nI (((f j) * d + y) % 1073741824)) hx hb d_Mn_times_40 (nI_mask _) ?_
        refine mw_sW hx hb hKW.1 hP hD hS (i := i) (by omega) (j := j) (by omega) d_Mn_times_41 (fun H locs hP hD hS => ?_)
        rw [st_qW, st_mW] at hP hD
        refine lv_lload hx hb d_Mn_times_42 (lv_at hl 0 rfl) ?_
        refine lv_bipush (v := nI (30)) hx hb d_Mn_times_44 (by decide) ?_
        refine lv_lshr (v := lN (((f j) * d + y) / 1073741824)) hx hb d_Mn_times_46 (lN_sr30 (by omega)) ?_
        refine lv_lstore_n (lv' := [(2, .long (lN (((f j) * d + y) / 1073741824))), (5, .long (lN ((f j) * d + y))), (4, .int (nI (j))), (0, .ref (ad (2 * i + 4))), (1, .int (nI (d)))]) hx hb d_Mn_times_47 rfl hl (by decide) rfl (fun ls hl => ?_)
        refine lv_iinc (v := nI (j + 1)) (lv' := [(4, .int (nI (j + 1))), (2, .long (lN (((f j) * d + y) / 1073741824))), (5, .long (lN ((f j) * d + y))), (0, .ref (ad (2 * i + 4))), (1, .int (nI (d)))]) hx hb d_Mn_times_48 hl (k := 2) rfl (nI_add _ 1) (by decide) rfl (fun ls hl => ?_)
        refine lv_goto (tgt := 5) hx hb d_Mn_times_51 (by decide) ?_
        exact ih (j + 1) _ _ H locs ls (by omega) hr9 (upM_B hB (p3_mod _)) (ti_step hinv (by rw [hk9])) (up_keep hk) hP hD hS (lv_sub hl [0, 1, 3, 4] rfl)
  exact loop (mL w i) 0 0 _ _ _ ls (by omega) (by omega) (h3 i) (by simp [uV_0]) (fun _ _ => rfl) (by rw [st_self]; exact hP) (by rw [st_self]; exact hD) hS (lv_sub hl [0, 1, 2, 3] rfl)
set_option maxHeartbeats 4000000 in
set_option maxRecDepth 100000 in
/-- over(v) -/
theorem c_Mn_over (l : Launch) {D : va_G} {cI cB cR : ClassId} {ad : Nat → Nat} (w : Mt) (sz : Nat) {i v d : Nat} (hi : i < 19) (h3 : W3 w) (hv : NU w i v) (hd1 : 1 ≤ d) (hd2 : d ≤ 100) : Met l y_Mn_over (q_Mn_over :: wA) { frames := 1, cells := 0, slots := 0, locals := 60 } (va_Pc [.ref (ad (2 * i + 4)), .int (nI (d))] (PM D cI cB cR ad w sz)) (va_Qi (fun (r : Int32) (w1 : Mt) => r = nI (v % d) ∧ eqM w w1 [i] ∧ NU w1 i (v / d) ∧ W3 w1) (BM D cI cB cR ad) (AM ad sz)) 0 0 (AM ad sz) := by
  refine Met.ofW (cc := b_Mn_over) (maxL := 7) (ret := (some (.int))) (by decide) rfl ?_
  intro p e s m args below meth c s₁ B hml hv
  obtain ⟨rfl, hsz, hP, hD0, hKW⟩ := hv
  have hx := B.exec
  have hb := B.bytes
  have hr := B.returns
  have hts := atoms_spec (ws := q_Mn_over :: wA) B.pre
  have hown : s.vm.findClass R_Mn = some m.cls := findClass_of_methodNamed B.named
  have hlocks := B.notSynchronized
  subst hsz
  have hD := NM_AM (sz := s.heap.size) hD0
  have hS : va_S (AM ad s.heap.size) s.heap s.heap [] := va_S.rf
  have hl := lv_entry ([.ref (ad (2 * i + 4)), .int (nI (d))]) (n := 7) (Nat.le_of_ble_eq_true rfl)
  rw [lg_entry_eq]
  generalize (lg_sl ([.ref (ad (2 * i + 4)), .int (nI (d))]) ++ List.replicate (7 - (lg_sl ([.ref (ad (2 * i + 4)), .int (nI (d))])).length) Slot.unset).toArray = ls at hl ⊢
  have hl : lv_has ls 7 [(0, .ref (ad (2 * i + 4))), (1, .int (nI (d)))] := hl
  have hlen := hv.len
  refine lv_lconst (v := lN (0)) hx hb d_Mn_over_0 (by decide) ?_
  refine lv_lstore_n (lv' := [(2, .long (lN (0))), (0, .ref (ad (2 * i + 4))), (1, .int (nI (d)))]) hx hb d_Mn_over_1 rfl hl (by decide) rfl (fun ls hl => ?_)
  refine lv_aload_n hx hb d_Mn_over_2 rfl (lv_at hl 1 rfl) ?_
  refine mw_gL hx hb hts hown hKW.1 hP (i := i) (by omega) (n := mL w i) rfl lf_Mn_15 d_Mn_over_3 ?_
  refine lv_iconst (v := nI (1)) hx hb d_Mn_over_6 (by decide) ?_
  refine nw_isub (v := dn (mL w i)) hx hb d_Mn_over_7 (dn_sub _) ?_
  refine lv_istore (lv' := [(4, .int (dn (mL w i))), (2, .long (lN (0))), (0, .ref (ad (2 * i + 4))), (1, .int (nI (d)))]) hx hb d_Mn_over_8 hl (by decide) rfl (fun ls hl => ?_)
  have loop : ∀ (k q r0 : Nat) (f : Nat → Nat) (H : Heap) (locs : List Loc) (ls : Array Slot), k + q = mL w i → r0 < d → B3 f → uV f k q * d + r0 = uV (mW w i) k q → (∀ z, z < k → f z = mW w i z) → va_P D clA (NM cI cB cR ad (st w i f (mL w i))) H → va_D (AM ad s.heap.size) (NM cI cB cR ad (st w i f (mL w i))) → va_S (AM ad s.heap.size) s.heap H locs → lv_has ls 7 [(4, .int (dn k)), (2, .long (lN (r0))), (0, .ref (ad (2 * i + 4))), (1, .int (nI (d)))] → W p l e (headSpec (q_Mn_over :: wA) { frames := 1, cells := 0, slots := 0, locals := 60 }).room s m ([.ref (ad (2 * i + 4)), .int (nI (d))] : List Value).toArray below meth c H locs 0 0 (MQ below (va_Qi (fun (r : Int32) (w1 : Mt) => r = nI (v % d) ∧ eqM w w1 [i] ∧ NU w1 i (v / d) ∧ W3 w1) (BM D cI cB cR ad) (AM ad s.heap.size)) ([.ref (ad (2 * i + 4)), .int (nI (d))] : List Value).toArray s 0 0 (AM ad s.heap.size)) (F0 m 10 ls []) := by
    intro k
    induction k with
    | zero =>
      intro q r0 f H locs ls hj hr0 hB hinv hk hP hD hS hl
      refine lv_iload hx hb d_Mn_over_10 (lv_at hl 0 rfl) ?_
      refine lv_if_lt (tgt := 55) hx hb d_Mn_over_12 (by decide) (fun c12 => ?_) (fun c12 => ?_)
      · skip
        have ej : q = mL w i := by omega
        rw [ej, hv.2.2] at hinv
        have he := rd_end hinv hr0
        refine lv_aload_n hx hb d_Mn_over_55 rfl (lv_at hl 2 rfl) ?_
        refine lv_aload_n hx hb d_Mn_over_56 rfl (lv_at hl 2 rfl) ?_
        refine mw_gL hx hb hts hown hKW.1 hP (i := i) (by omega) (n := mL w i) (by rw [st_mL]) lf_Mn_15 d_Mn_over_57 ?_
        refine zV_v (As := [.int (nI (mL w i))]) (rest := []) (n := 1) ⟨hx, hb, hml, hown, hts⟩ (c_Mn_trim l (st w i f (mL w i)) _ (i := i) (top := mL w i) hi (h3.st hB) (by omega)) (cwV0 1 hts lm_Mn_32 im_Mn_trim se_Mn_trim in_Mn kq_Mn_trim rfl rfl rfl (by decide +kernel) ⟨Nat.le_of_ble_eq_true rfl, Nat.le_of_ble_eq_true rfl⟩) (recMn hKW.1 hP (i := i) (by omega)) hKW hP hD hS rfl hl.1 rfl (Nat.le_of_ble_eq_true rfl) d_Mn_over_60 ⟨Nat.zero_le _, Nat.zero_le _⟩ (fun w1 H locs hp hP hD hS => ?_)
        rw [hp, st_mW, st_st] at hP hD
        refine lv_lload_n hx hb d_Mn_over_63 rfl (lv_at hl 1 rfl) ?_
        refine lv_l2i (v := nI (r0)) hx hb d_Mn_over_64 (lN_i _) ?_
        exact W.iret (v := nI (r0)) hx hb hr (fun t ht hW => ⟨⟨_, st w i f (tm f (mL w i)), rfl, ⟨by rw [he.2], eqM_st _ _ _ _, he.1 ▸ NU_tr (by omega), h3.st hB⟩, BM_of ht hP⟩, hS.F ht⟩) hS.2.2 d_Mn_over_65
      · exact absurd dn_0 c12
    | succ k ih =>
      intro q r0 f H locs ls hj hr0 hB hinv hk hP hD hS hl
      refine lv_iload hx hb d_Mn_over_10 (lv_at hl 0 rfl) ?_
      refine lv_if_lt (tgt := 55) hx hb d_Mn_over_12 (by decide) (fun c12 => ?_) (fun c12 => ?_)
      · exact absurd c12 (nI_pos (by omega))
      · skip
        have hf9 := hB k
        have hk9 := hk k (by omega)
        have hs9 := ov_share (d := d) hr0 hf9
        refine lv_lload_n hx hb d_Mn_over_15 rfl (lv_at hl 1 rfl) ?_
        refine lv_bipush (v := nI (30)) hx hb d_Mn_over_16 (by decide) ?_
        refine lv_lshl (v := lN (r0 * 1073741824)) hx hb d_Mn_over_18 (lN_shl _ (by decide)) ?_
        refine lv_aload_n hx hb d_Mn_over_19 rfl (lv_at hl 2 rfl) ?_
        refine mw_gW hx hb hts hown hKW.1 hP (i := i) (by omega) lf_Mn_9 d_Mn_over_20 ?_
        refine lv_iload hx hb d_Mn_over_23 (lv_at hl 0 rfl) ?_
        refine mw_lW hx hb hKW.1 hP (i := i) (by omega) (j := k) (by omega) (x := f k) (by rw [st_mW]) d_Mn_over_25 ?_
        refine lv_i2l (v := lN (f k)) hx hb d_Mn_over_26 (nI_l (by omega)) ?_
        refine nw_lor (v := lN (r0 * 1073741824 + f k)) hx hb d_Mn_over_27 (lN_orA (by omega) (by omega)) ?_
        refine lv_lstore (lv' := [(5, .long (lN (r0 * 1073741824 + f k))), (4, .int (nI (k))), (2, .long (lN (r0))), (0, .ref (ad (2 * i + 4))), (1, .int (nI (d)))]) hx hb d_Mn_over_28 hl (by decide) rfl (fun ls hl => ?_)
        refine lv_aload_n hx hb d_Mn_over_30 rfl (lv_at hl 3 rfl) ?_
        refine mw_gW hx hb hts hown hKW.1 hP (i := i) (by omega) lf_Mn_9 d_Mn_over_31 ?_
        refine lv_iload hx hb d_Mn_over_34 (lv_at hl 1 rfl) ?_
        refine lv_lload hx hb d_Mn_over_36 (lv_at hl 0 rfl) ?_
        refine lv_iload_n hx hb d_Mn_over_38 rfl (lv_at hl 4 rfl) ?_
        refine lv_i2l (v := lN (d)) hx hb d_Mn_over_39 (nI_l (by omega)) ?_
        refine nw_ldiv (v := lN ((r0 * 1073741824 + f k) / d)) hx hb d_Mn_over_40 (lN_ne0 (by omega) (by omega)) (lN_div (by omega) (by omega)) ?_
        refine lv_l2i (v := nI ((r0 * 1073741824 + f k) / d)) hx hb d_Mn_over_41 (lN_i _) ?_
        refine mw_sW hx hb hKW.1 hP hD hS (i := i) (by omega) (j := k) (by omega) d_Mn_over_42 (fun H locs hP hD hS => ?_)
        rw [st_qW, st_mW] at hP hD
        refine lv_lload hx hb d_Mn_over_43 (lv_at hl 0 rfl) ?_
        refine lv_iload_n hx hb d_Mn_over_45 rfl (lv_at hl 4 rfl) ?_
        refine lv_i2l (v := lN (d)) hx hb d_Mn_over_46 (nI_l (by omega)) ?_
        refine nw_lrem (v := lN ((r0 * 1073741824 + f k) % d)) hx hb d_Mn_over_47 (lN_ne0 (by omega) (by omega)) (lN_rem (by omega) (by omega)) ?_
        refine lv_lstore_n (lv' := [(2, .long (lN ((r0 * 1073741824 + f k) % d))), (5, .long (lN (r0 * 1073741824 + f k))), (4, .int (nI (k))), (0, .ref (ad (2 * i + 4))), (1, .int (nI (d)))]) hx hb d_Mn_over_48 rfl hl (by decide) rfl (fun ls hl => ?_)
        refine lv_iinc (v := dn k) (lv' := [(4, .int (dn k)), (2, .long (lN ((r0 * 1073741824 + f k) % d))), (5, .long (lN (r0 * 1073741824 + f k))), (0, .ref (ad (2 * i + 4))), (1, .int (nI (d)))]) hx hb d_Mn_over_49 hl (k := 2) rfl (dn_dec k) (by decide) rfl (fun ls hl => ?_)
        refine lv_goto (tgt := 10) hx hb d_Mn_over_52 (by decide) ?_
        exact ih (q + 1) _ _ H locs ls (by omega) (Nat.mod_lt _ (by omega)) (upM_B hB hs9) (ov_step hinv hk9) (fun z hz => by rw [upM_n (by omega)]; exact hk z (by omega)) hP hD hS (lv_sub hl [0, 1, 3, 4] rfl)
  exact loop (mL w i) 0 0 _ _ _ ls (by omega) (by omega) (h3 i) (by simp [uV_0]) (fun _ _ => rfl) (by rw [st_self]; exact hP) (by rw [st_self]; exact hD) hS (lv_sub hl [0, 1, 2, 3] rfl)

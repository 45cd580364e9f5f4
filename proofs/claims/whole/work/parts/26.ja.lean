/-! Arrays.rangeCheck, Arrays.fill (rows laid by wip/whole/gen/c_ja.py) -/
set_option maxHeartbeats 4000000 in
set_option maxRecDepth 100000 in
/-- rangeCheck, where nothing is wrong -/
theorem c_Ja_rangeCheck (l : Launch) {D : va_G} {cI cB cR : ClassId} {ad : Nat → Nat} (w : St) (sz : Nat) {n a b : Nat} (hab : a ≤ b) (hbn : b ≤ n) (hn : n < 2 ^ 31) : Met l y_Ja_rangeCheck (q_Ja_rangeCheck :: wA) { frames := 0, cells := 0, slots := 0, locals := 0 } (va_Pc [.int (nI (n)), .int (nI (a)), .int (nI (b))] (PW D cI cB cR ad w sz)) (va_Qv (fun w1 : St => w1 = w) (BW D cI cB cR ad) (AA ad sz)) 0 0 (AA ad sz) := by
  refine Met.ofW (cc := b_Ja_rangeCheck) (maxL := 3) (ret := none) (by decide) rfl ?_
  intro p e s m args below meth c s₁ B hml hv
  obtain ⟨rfl, hsz, hP, hD0, hKW⟩ := hv
  have hx := B.exec
  have hb := B.bytes
  have hr := B.returns
  have hts := atoms_spec (ws := q_Ja_rangeCheck :: wA) B.pre
  have hown : s.vm.findClass R_Ja = some m.cls := findClass_of_methodNamed B.named
  have hlocks := B.notSynchronized
  subst hsz
  have hD := NC_AA (sz := s.heap.size) hD0
  have hS : va_S (AA ad s.heap.size) s.heap s.heap [] := va_S.rf
  have hl := lv_entry ([.int (nI (n)), .int (nI (a)), .int (nI (b))]) (n := 3) (Nat.le_of_ble_eq_true rfl)
  rw [lg_entry_eq]
  generalize (lg_sl ([.int (nI (n)), .int (nI (a)), .int (nI (b))]) ++ List.replicate (3 - (lg_sl ([.int (nI (n)), .int (nI (a)), .int (nI (b))])).length) Slot.unset).toArray = ls at hl ⊢
  have hl : lv_has ls 3 [(0, .int (nI (n))), (1, .int (nI (a))), (2, .int (nI (b)))] := hl
  refine lv_iload_n hx hb d_Ja_rangeCheck_0 rfl (lv_at hl 1 rfl) ?_
  refine lv_iload_n hx hb d_Ja_rangeCheck_1 rfl (lv_at hl 2 rfl) ?_
  refine lv_icmp_le (tgt := 46) hx hb d_Ja_rangeCheck_2 (by decide) (fun c2 => ?_) (fun c2 => ?_)
  · skip
    have c2 : a ≤ b := (nI_leI (by omega) (by omega)).mp c2
    refine lv_iload_n hx hb d_Ja_rangeCheck_46 rfl (lv_at hl 1 rfl) ?_
    refine lv_if_ge (tgt := 59) hx hb d_Ja_rangeCheck_47 (by decide) (fun c47 => ?_) (fun c47 => ?_)
    · skip
      have c47 : 0 ≤ a := (nI_leI (by omega) (by omega)).mp (by rw [nI_0]; exact c47)
      refine lv_iload_n hx hb d_Ja_rangeCheck_59 rfl (lv_at hl 2 rfl) ?_
      refine lv_iload_n hx hb d_Ja_rangeCheck_60 rfl (lv_at hl 0 rfl) ?_
      refine lv_icmp_le (tgt := 73) hx hb d_Ja_rangeCheck_61 (by decide) (fun c61 => ?_) (fun c61 => ?_)
      · skip
        have c61 : b ≤ n := (nI_leI (by omega) (by omega)).mp c61
        exact W.vret hx hb hr (fun t ht hW => ⟨⟨w, rfl, rfl, BW_of ht hP⟩, hS.F ht⟩) hS.2.2 d_Ja_rangeCheck_73
      · exact absurd (nI_le hbn (by omega)) c61
    · exact absurd (nI_pos' (by omega)) c47
  · exact absurd (nI_le hab (by omega)) c2
set_option maxHeartbeats 4000000 in
set_option maxRecDepth 100000 in
/-- Arrays.fill -/
theorem c_Ja_fillW (l : Launch) {D : va_G} {cI cB cR : ClassId} {ad : Nat → Nat} (w : St) (sz : Nat) {i a b : Nat} (hi : i < 14) (hab : a ≤ b) (hbn : b ≤ 6272) (x : Int32) : Met l y_Ja_fill (q_Ja_fill :: wA) { frames := 1, cells := 0, slots := 0, locals := 24 } (va_Pc [.ref (ad (2 * i + 9)), .int (nI (a)), .int (nI (b)), .int (x)] (PW D cI cB cR ad w sz)) (va_Qv (fun w1 : St => w1 = pW w i (fl (sW w i) a b x)) (BW D cI cB cR ad) (AA ad sz)) 0 0 (AA ad sz) := by
  refine Met.ofW (cc := b_Ja_fill) (maxL := 5) (ret := none) (by decide) rfl ?_
  intro p e s m args below meth c s₁ B hml hv
  obtain ⟨rfl, hsz, hP, hD0, hKW⟩ := hv
  have hx := B.exec
  have hb := B.bytes
  have hr := B.returns
  have hts := atoms_spec (ws := q_Ja_fill :: wA) B.pre
  have hown : s.vm.findClass R_Ja = some m.cls := findClass_of_methodNamed B.named
  have hlocks := B.notSynchronized
  subst hsz
  have hD := NC_AA (sz := s.heap.size) hD0
  have hS : va_S (AA ad s.heap.size) s.heap s.heap [] := va_S.rf
  have hl := lv_entry ([.ref (ad (2 * i + 9)), .int (nI (a)), .int (nI (b)), .int (x)]) (n := 5) (Nat.le_of_ble_eq_true rfl)
  rw [lg_entry_eq]
  generalize (lg_sl ([.ref (ad (2 * i + 9)), .int (nI (a)), .int (nI (b)), .int (x)]) ++ List.replicate (5 - (lg_sl ([.ref (ad (2 * i + 9)), .int (nI (a)), .int (nI (b)), .int (x)])).length) Slot.unset).toArray = ls at hl ⊢
  have hl : lv_has ls 5 [(0, .ref (ad (2 * i + 9))), (1, .int (nI (a))), (2, .int (nI (b))), (3, .int (x))] := hl
  refine lv_aload_n hx hb d_Ja_fill_0 rfl (lv_at hl 0 rfl) ?_
  refine nw_nW hx hb hKW.1 hP (i := i) (by omega) d_Ja_fill_1 ?_
  refine lv_iload_n hx hb d_Ja_fill_2 rfl (lv_at hl 1 rfl) ?_
  refine lv_iload_n hx hb d_Ja_fill_3 rfl (lv_at hl 2 rfl) ?_
  refine wS_v (As := [.int (nI (6272)), .int (nI (a)), .int (nI (b))]) (rest := []) (n := 3) ⟨hx, hb, hml, hown, hts⟩ (c_Ja_rangeCheck l w _ (n := 6272) (a := a) (b := b) hab hbn (by decide)) (cwS0 3 hts lm_Ja_13 st_Ja_rangeCheck in_Ja kq_Ja_rangeCheck rfl rfl rfl (by decide +kernel) ⟨Nat.le_of_ble_eq_true rfl, Nat.le_of_ble_eq_true rfl⟩) hKW hP hD hS rfl hl.1 rfl (Nat.le_of_ble_eq_true rfl) d_Ja_fill_4 ⟨Nat.zero_le _, Nat.zero_le _⟩ (fun w1 H locs hp hP hD hS => ?_)
  rw [hp] at hP hD
  refine lv_iload_n hx hb d_Ja_fill_7 rfl (lv_at hl 1 rfl) ?_
  refine lv_istore (lv' := [(4, .int (nI (a))), (0, .ref (ad (2 * i + 9))), (1, .int (nI (a))), (2, .int (nI (b))), (3, .int (x))]) hx hb d_Ja_fill_8 hl (by decide) rfl (fun ls hl => ?_)
  have loop : ∀ (n j : Nat) (H : Heap) (locs : List Loc) (ls : Array Slot), a ≤ j → j + n = b → va_P D clA (NC cI cB cR ad (pW w i (fl (sW w i) a j x))) H → va_D (AA ad s.heap.size) (NC cI cB cR ad (pW w i (fl (sW w i) a j x))) → va_S (AA ad s.heap.size) s.heap H locs → lv_has ls 5 [(4, .int (nI (j))), (0, .ref (ad (2 * i + 9))), (1, .int (nI (a))), (2, .int (nI (b))), (3, .int (x))] → W p l e (headSpec (q_Ja_fill :: wA) { frames := 1, cells := 0, slots := 0, locals := 24 }).room s m ([.ref (ad (2 * i + 9)), .int (nI (a)), .int (nI (b)), .int (x)] : List Value).toArray below meth c H locs 0 0 (MQ below (va_Qv (fun w1 : St => w1 = pW w i (fl (sW w i) a b x)) (BW D cI cB cR ad) (AA ad s.heap.size)) ([.ref (ad (2 * i + 9)), .int (nI (a)), .int (nI (b)), .int (x)] : List Value).toArray s 0 0 (AA ad s.heap.size)) (F0 m 10 ls []) := by
    intro n
    induction n with
    | zero =>
      intro j H locs ls h1 hj hP hD hS hl
      refine lv_iload hx hb d_Ja_fill_10 (lv_at hl 0 rfl) ?_
      refine lv_iload_n hx hb d_Ja_fill_12 rfl (lv_at hl 3 rfl) ?_
      refine lv_icmp_ge (tgt := 27) hx hb d_Ja_fill_13 (by decide) (fun c13 => ?_) (fun c13 => ?_)
      · skip
        have c13 : b ≤ j := (nI_leI (by omega) (by omega)).mp c13
        have ej : j = b := by omega
        subst ej
        exact W.vret hx hb hr (fun t ht hW => ⟨⟨pW w i (fl (sW w i) a j x), rfl, rfl, BW_of ht hP⟩, hS.F ht⟩) hS.2.2 d_Ja_fill_27
      · exact absurd (nI_le (by omega) (by omega)) c13
    | succ n ih =>
      intro j H locs ls h1 hj hP hD hS hl
      refine lv_iload hx hb d_Ja_fill_10 (lv_at hl 0 rfl) ?_
      refine lv_iload_n hx hb d_Ja_fill_12 rfl (lv_at hl 3 rfl) ?_
      refine lv_icmp_ge (tgt := 27) hx hb d_Ja_fill_13 (by decide) (fun c13 => ?_) (fun c13 => ?_)
      · exact absurd c13 (nI_ge (by omega) (by omega))
      · skip
        refine lv_aload_n hx hb d_Ja_fill_16 rfl (lv_at hl 1 rfl) ?_
        refine lv_iload hx hb d_Ja_fill_17 (lv_at hl 0 rfl) ?_
        refine lv_iload_n hx hb d_Ja_fill_19 rfl (lv_at hl 4 rfl) ?_
        refine nw_sW hx hb hKW.1 hP hD hS (i := i) (by omega) (j := j) (by omega) d_Ja_fill_20 (fun H locs hP hD hS => ?_)
        refine lv_iinc (v := nI (j + 1)) (lv' := [(4, .int (nI (j + 1))), (0, .ref (ad (2 * i + 9))), (1, .int (nI (a))), (2, .int (nI (b))), (3, .int (x))]) hx hb d_Ja_fill_21 hl (k := 0) rfl (nI_add _ 1) (by decide) rfl (fun ls hl => ?_)
        refine lv_goto (tgt := 10) hx hb d_Ja_fill_24 (by decide) ?_
        rw [sW_pW, pW_pW, fl_suc _ _ h1] at hP hD
        exact ih (j + 1) H locs ls (by omega) (by omega) hP hD hS (lv_sub hl [0, 1, 2, 3, 4] rfl)
  have e0 : pW w i (fl (sW w i) a a x) = w := by rw [fl_0]; exact pW_self w i
  exact loop (b - a) a _ _ ls (Nat.le_refl _) (by omega) (by rw [e0]; exact hP) (by rw [e0]; exact hD) hS (lv_sub hl [0, 1, 2, 3, 4] rfl)
set_option maxHeartbeats 4000000 in
set_option maxRecDepth 100000 in
/-- Arrays.fill -/
theorem c_Ja_fillR (l : Launch) {D : va_G} {cI cB cR : ClassId} {ad : Nat → Nat} (w : St) (sz : Nat) {a b : Nat} (hab : a ≤ b) (hbn : b ≤ 28672) (x : Int32) : Met l y_Ja_fill (q_Ja_fill :: wA) { frames := 1, cells := 0, slots := 0, locals := 24 } (va_Pc [.ref (ad 3), .int (nI (a)), .int (nI (b)), .int (x)] (PW D cI cB cR ad w sz)) (va_Qv (fun w1 : St => w1 = pR w (fl (sR w) a b x)) (BW D cI cB cR ad) (AA ad sz)) 0 0 (AA ad sz) := by
  refine Met.ofW (cc := b_Ja_fill) (maxL := 5) (ret := none) (by decide) rfl ?_
  intro p e s m args below meth c s₁ B hml hv
  obtain ⟨rfl, hsz, hP, hD0, hKW⟩ := hv
  have hx := B.exec
  have hb := B.bytes
  have hr := B.returns
  have hts := atoms_spec (ws := q_Ja_fill :: wA) B.pre
  have hown : s.vm.findClass R_Ja = some m.cls := findClass_of_methodNamed B.named
  have hlocks := B.notSynchronized
  subst hsz
  have hD := NC_AA (sz := s.heap.size) hD0
  have hS : va_S (AA ad s.heap.size) s.heap s.heap [] := va_S.rf
  have hl := lv_entry ([.ref (ad 3), .int (nI (a)), .int (nI (b)), .int (x)]) (n := 5) (Nat.le_of_ble_eq_true rfl)
  rw [lg_entry_eq]
  generalize (lg_sl ([.ref (ad 3), .int (nI (a)), .int (nI (b)), .int (x)]) ++ List.replicate (5 - (lg_sl ([.ref (ad 3), .int (nI (a)), .int (nI (b)), .int (x)])).length) Slot.unset).toArray = ls at hl ⊢
  have hl : lv_has ls 5 [(0, .ref (ad 3)), (1, .int (nI (a))), (2, .int (nI (b))), (3, .int (x))] := hl
  refine lv_aload_n hx hb d_Ja_fill_0 rfl (lv_at hl 0 rfl) ?_
  refine nw_nR hx hb hKW.1 hP d_Ja_fill_1 ?_
  refine lv_iload_n hx hb d_Ja_fill_2 rfl (lv_at hl 1 rfl) ?_
  refine lv_iload_n hx hb d_Ja_fill_3 rfl (lv_at hl 2 rfl) ?_
  refine wS_v (As := [.int (nI (28672)), .int (nI (a)), .int (nI (b))]) (rest := []) (n := 3) ⟨hx, hb, hml, hown, hts⟩ (c_Ja_rangeCheck l w _ (n := 28672) (a := a) (b := b) hab hbn (by decide)) (cwS0 3 hts lm_Ja_13 st_Ja_rangeCheck in_Ja kq_Ja_rangeCheck rfl rfl rfl (by decide +kernel) ⟨Nat.le_of_ble_eq_true rfl, Nat.le_of_ble_eq_true rfl⟩) hKW hP hD hS rfl hl.1 rfl (Nat.le_of_ble_eq_true rfl) d_Ja_fill_4 ⟨Nat.zero_le _, Nat.zero_le _⟩ (fun w1 H locs hp hP hD hS => ?_)
  rw [hp] at hP hD
  refine lv_iload_n hx hb d_Ja_fill_7 rfl (lv_at hl 1 rfl) ?_
  refine lv_istore (lv' := [(4, .int (nI (a))), (0, .ref (ad 3)), (1, .int (nI (a))), (2, .int (nI (b))), (3, .int (x))]) hx hb d_Ja_fill_8 hl (by decide) rfl (fun ls hl => ?_)
  have loop : ∀ (n j : Nat) (H : Heap) (locs : List Loc) (ls : Array Slot), a ≤ j → j + n = b → va_P D clA (NC cI cB cR ad (pR w (fl (sR w) a j x))) H → va_D (AA ad s.heap.size) (NC cI cB cR ad (pR w (fl (sR w) a j x))) → va_S (AA ad s.heap.size) s.heap H locs → lv_has ls 5 [(4, .int (nI (j))), (0, .ref (ad 3)), (1, .int (nI (a))), (2, .int (nI (b))), (3, .int (x))] → W p l e (headSpec (q_Ja_fill :: wA) { frames := 1, cells := 0, slots := 0, locals := 24 }).room s m ([.ref (ad 3), .int (nI (a)), .int (nI (b)), .int (x)] : List Value).toArray below meth c H locs 0 0 (MQ below (va_Qv (fun w1 : St => w1 = pR w (fl (sR w) a b x)) (BW D cI cB cR ad) (AA ad s.heap.size)) ([.ref (ad 3), .int (nI (a)), .int (nI (b)), .int (x)] : List Value).toArray s 0 0 (AA ad s.heap.size)) (F0 m 10 ls []) := by
    intro n
    induction n with
    | zero =>
      intro j H locs ls h1 hj hP hD hS hl
      refine lv_iload hx hb d_Ja_fill_10 (lv_at hl 0 rfl) ?_
      refine lv_iload_n hx hb d_Ja_fill_12 rfl (lv_at hl 3 rfl) ?_
      refine lv_icmp_ge (tgt := 27) hx hb d_Ja_fill_13 (by decide) (fun c13 => ?_) (fun c13 => ?_)
      · skip
        have c13 : b ≤ j := (nI_leI (by omega) (by omega)).mp c13
        have ej : j = b := by omega
        subst ej
        exact W.vret hx hb hr (fun t ht hW => ⟨⟨pR w (fl (sR w) a j x), rfl, rfl, BW_of ht hP⟩, hS.F ht⟩) hS.2.2 d_Ja_fill_27
      · exact absurd (nI_le (by omega) (by omega)) c13
    | succ n ih =>
      intro j H locs ls h1 hj hP hD hS hl
      refine lv_iload hx hb d_Ja_fill_10 (lv_at hl 0 rfl) ?_
      refine lv_iload_n hx hb d_Ja_fill_12 rfl (lv_at hl 3 rfl) ?_
      refine lv_icmp_ge (tgt := 27) hx hb d_Ja_fill_13 (by decide) (fun c13 => ?_) (fun c13 => ?_)
      · exact absurd c13 (nI_ge (by omega) (by omega))
      · skip
        refine lv_aload_n hx hb d_Ja_fill_16 rfl (lv_at hl 1 rfl) ?_
        refine lv_iload hx hb d_Ja_fill_17 (lv_at hl 0 rfl) ?_
        refine lv_iload_n hx hb d_Ja_fill_19 rfl (lv_at hl 4 rfl) ?_
        refine nw_sR hx hb hKW.1 hP hD hS (j := j) (by omega) d_Ja_fill_20 (fun H locs hP hD hS => ?_)
        refine lv_iinc (v := nI (j + 1)) (lv' := [(4, .int (nI (j + 1))), (0, .ref (ad 3)), (1, .int (nI (a))), (2, .int (nI (b))), (3, .int (x))]) hx hb d_Ja_fill_21 hl (k := 0) rfl (nI_add _ 1) (by decide) rfl (fun ls hl => ?_)
        refine lv_goto (tgt := 10) hx hb d_Ja_fill_24 (by decide) ?_
        have hP : va_P D clA (NC cI cB cR ad (pR w (upd (fl (sR w) a j x) j x))) H := hP
        have hD : va_D (AA ad s.heap.size) (NC cI cB cR ad (pR w (upd (fl (sR w) a j x) j x))) := hD
        rw [fl_suc _ _ h1] at hP hD
        exact ih (j + 1) H locs ls (by omega) (by omega) hP hD hS (lv_sub hl [0, 1, 2, 3, 4] rfl)
  have e0 : pR w (fl (sR w) a a x) = w := by rw [fl_0]; exact pR_self w
  exact loop (b - a) a _ _ ls (Nat.le_refl _) (by omega) (by rw [e0]; exact hP) (by rw [e0]; exact hD) hS (lv_sub hl [0, 1, 2, 3, 4] rfl)

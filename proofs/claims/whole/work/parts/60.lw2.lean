/-! THE FACE: digitOf, hasDigitsAlone, digitsOfPiece, powerOf (rows laid by wip/whole/gen/c_lw2.py) -/
set_option maxHeartbeats 4000000 in
set_option maxRecDepth 100000 in
/-- digitOf(octet) -/
theorem c_Lw_digitOf (l : Launch) {D : va_G} {cI cB cR : ClassId} {ad : Nat → Nat} (w : St) (sz : Nat) (x : Int32) : Met l y_Lw_digitOf (q_Lw_digitOf :: wA) { frames := 0, cells := 0, slots := 0, locals := 0 } (va_Pc [.int (x)] (PW D cI cB cR ad w sz)) (va_Qi (fun (r : Int32) (w1 : St) => r = nI (dgN x) ∧ w1 = w) (BW D cI cB cR ad) (AA ad sz)) 0 0 (AA ad sz) := by
  refine Met.ofW (cc := b_Lw_digitOf) (maxL := 1) (ret := (some (.int))) (by decide) rfl ?_
  intro p e s m args below meth c s₁ B hml hv
  obtain ⟨rfl, hsz, hP, hD0, hKW⟩ := hv
  have hx := B.exec
  have hb := B.bytes
  have hr := B.returns
  have hts := atoms_spec (ws := q_Lw_digitOf :: wA) B.pre
  have hown : s.vm.findClass R_Lw = some m.cls := findClass_of_methodNamed B.named
  have hlocks := B.notSynchronized
  subst hsz
  have hD := NC_AA (sz := s.heap.size) hD0
  have hS : va_S (AA ad s.heap.size) s.heap s.heap [] := va_S.rf
  have hl := lv_entry ([.int (x)]) (n := 1) (Nat.le_of_ble_eq_true rfl)
  rw [lg_entry_eq]
  generalize (lg_sl ([.int (x)]) ++ List.replicate (1 - (lg_sl ([.int (x)])).length) Slot.unset).toArray = ls at hl ⊢
  have hl : lv_has ls 1 [(0, .int (x))] := hl
  have at57 : ∀ (ls : Array Slot), (¬ (48 ≤ wN x ∧ wN x ≤ 57)) → (¬ (97 ≤ wN x ∧ wN x ≤ 122)) → (¬ (65 ≤ wN x ∧ wN x ≤ 90)) → lv_has ls 1 [(0, .int (x))] → W p l e (headSpec (q_Lw_digitOf :: wA) { frames := 0, cells := 0, slots := 0, locals := 0 }).room s m ([.int (x)] : List Value).toArray below meth c s.heap [] 0 0 (MQ below (va_Qi (fun (r : Int32) (w1 : St) => r = nI (dgN x) ∧ w1 = w) (BW D cI cB cR ad) (AA ad s.heap.size)) ([.int (x)] : List Value).toArray s 0 0 (AA ad s.heap.size)) (F0 m 57 ls []) := by
    intro ls h1 h2 h3 hl
    refine lv_bipush (v := nI (36)) hx hb d_Lw_digitOf_57 (by decide) ?_
    exact W.iret (v := nI (36)) hx hb hr (fun t ht hW => ⟨⟨_, w, rfl, ⟨by unfold dgN; rw [if_neg h1, if_neg h2, if_neg h3], rfl⟩, BW_of ht hP⟩, hS.F ht⟩) hS.2.2 d_Lw_digitOf_59
  have at37 : ∀ (ls : Array Slot), (¬ (48 ≤ wN x ∧ wN x ≤ 57)) → (¬ (97 ≤ wN x ∧ wN x ≤ 122)) → lv_has ls 1 [(0, .int (x))] → W p l e (headSpec (q_Lw_digitOf :: wA) { frames := 0, cells := 0, slots := 0, locals := 0 }).room s m ([.int (x)] : List Value).toArray below meth c s.heap [] 0 0 (MQ below (va_Qi (fun (r : Int32) (w1 : St) => r = nI (dgN x) ∧ w1 = w) (BW D cI cB cR ad) (AA ad s.heap.size)) ([.int (x)] : List Value).toArray s 0 0 (AA ad s.heap.size)) (F0 m 37 ls []) := by
    intro ls h1 h2 hl
    refine lv_iload_n hx hb d_Lw_digitOf_37 rfl (lv_at hl 0 rfl) ?_
    refine lv_bipush (v := nI (65)) hx hb d_Lw_digitOf_38 (by decide) ?_
    refine lv_icmp_lt (tgt := 57) hx hb d_Lw_digitOf_40 (by decide) (fun c40 => ?_) (fun c40 => ?_)
    · skip
      exact at57 ls h1 h2 (rng_no1 (by omega) (by omega) c40) hl
    · skip
      refine lv_iload_n hx hb d_Lw_digitOf_43 rfl (lv_at hl 0 rfl) ?_
      refine lv_bipush (v := nI (90)) hx hb d_Lw_digitOf_44 (by decide) ?_
      refine lv_icmp_gt (tgt := 57) hx hb d_Lw_digitOf_46 (by decide) (fun c46 => ?_) (fun c46 => ?_)
      · skip
        exact at57 ls h1 h2 (rng_no2 (by omega) c46) hl
      · skip
        obtain ⟨q, hq1, hq2, rfl⟩ := rng_ix (by omega) (Int32.not_lt.mp c40) (Int32.not_lt.mp c46) (by omega)
        refine lv_iload_n hx hb d_Lw_digitOf_49 rfl (lv_at hl 0 rfl) ?_
        refine lv_bipush (v := nI (65)) hx hb d_Lw_digitOf_50 (by decide) ?_
        refine nw_isub (v := nI (q - 65)) hx hb d_Lw_digitOf_52 (pk_sub (by omega)) ?_
        refine lv_bipush (v := nI (10)) hx hb d_Lw_digitOf_53 (by decide) ?_
        refine nw_iadd (v := nI (q - 65 + 10)) hx hb d_Lw_digitOf_55 (nI_add _ _) ?_
        have hd : dgN (nI q) = q - 65 + 10 := by
          unfold dgN
          rw [wN_small (by omega)] at h1 h2
          rw [wN_small (by omega), if_neg h1, if_neg h2, if_pos ⟨hq1, hq2⟩]
          omega
        rw [← hd]
        exact W.iret (v := nI (dgN (nI q))) hx hb hr (fun t ht hW => ⟨⟨_, w, rfl, ⟨rfl, rfl⟩, BW_of ht hP⟩, hS.F ht⟩) hS.2.2 d_Lw_digitOf_56
  have at17 : ∀ (ls : Array Slot), (¬ (48 ≤ wN x ∧ wN x ≤ 57)) → lv_has ls 1 [(0, .int (x))] → W p l e (headSpec (q_Lw_digitOf :: wA) { frames := 0, cells := 0, slots := 0, locals := 0 }).room s m ([.int (x)] : List Value).toArray below meth c s.heap [] 0 0 (MQ below (va_Qi (fun (r : Int32) (w1 : St) => r = nI (dgN x) ∧ w1 = w) (BW D cI cB cR ad) (AA ad s.heap.size)) ([.int (x)] : List Value).toArray s 0 0 (AA ad s.heap.size)) (F0 m 17 ls []) := by
    intro ls h1 hl
    refine lv_iload_n hx hb d_Lw_digitOf_17 rfl (lv_at hl 0 rfl) ?_
    refine lv_bipush (v := nI (97)) hx hb d_Lw_digitOf_18 (by decide) ?_
    refine lv_icmp_lt (tgt := 37) hx hb d_Lw_digitOf_20 (by decide) (fun c20 => ?_) (fun c20 => ?_)
    · skip
      exact at37 ls h1 (rng_no1 (by omega) (by omega) c20) hl
    · skip
      refine lv_iload_n hx hb d_Lw_digitOf_23 rfl (lv_at hl 0 rfl) ?_
      refine lv_bipush (v := nI (122)) hx hb d_Lw_digitOf_24 (by decide) ?_
      refine lv_icmp_gt (tgt := 37) hx hb d_Lw_digitOf_26 (by decide) (fun c26 => ?_) (fun c26 => ?_)
      · skip
        exact at37 ls h1 (rng_no2 (by omega) c26) hl
      · skip
        obtain ⟨q, hq1, hq2, rfl⟩ := rng_ix (by omega) (Int32.not_lt.mp c20) (Int32.not_lt.mp c26) (by omega)
        refine lv_iload_n hx hb d_Lw_digitOf_29 rfl (lv_at hl 0 rfl) ?_
        refine lv_bipush (v := nI (97)) hx hb d_Lw_digitOf_30 (by decide) ?_
        refine nw_isub (v := nI (q - 97)) hx hb d_Lw_digitOf_32 (pk_sub (by omega)) ?_
        refine lv_bipush (v := nI (10)) hx hb d_Lw_digitOf_33 (by decide) ?_
        refine nw_iadd (v := nI (q - 97 + 10)) hx hb d_Lw_digitOf_35 (nI_add _ _) ?_
        have hd : dgN (nI q) = q - 97 + 10 := by
          unfold dgN
          rw [wN_small (by omega)] at h1
          rw [wN_small (by omega), if_neg h1, if_pos ⟨hq1, hq2⟩]
          omega
        rw [← hd]
        exact W.iret (v := nI (dgN (nI q))) hx hb hr (fun t ht hW => ⟨⟨_, w, rfl, ⟨rfl, rfl⟩, BW_of ht hP⟩, hS.F ht⟩) hS.2.2 d_Lw_digitOf_36
  refine lv_iload_n hx hb d_Lw_digitOf_0 rfl (lv_at hl 0 rfl) ?_
  refine lv_bipush (v := nI (48)) hx hb d_Lw_digitOf_1 (by decide) ?_
  refine lv_icmp_lt (tgt := 17) hx hb d_Lw_digitOf_3 (by decide) (fun c3 => ?_) (fun c3 => ?_)
  · skip
    exact at17 ls  (rng_no1 (by omega) (by omega) c3) hl
  · skip
    refine lv_iload_n hx hb d_Lw_digitOf_6 rfl (lv_at hl 0 rfl) ?_
    refine lv_bipush (v := nI (57)) hx hb d_Lw_digitOf_7 (by decide) ?_
    refine lv_icmp_gt (tgt := 17) hx hb d_Lw_digitOf_9 (by decide) (fun c9 => ?_) (fun c9 => ?_)
    · skip
      exact at17 ls  (rng_no2 (by omega) c9) hl
    · skip
      obtain ⟨q, hq1, hq2, rfl⟩ := rng_ix (by omega) (Int32.not_lt.mp c3) (Int32.not_lt.mp c9) (by omega)
      refine lv_iload_n hx hb d_Lw_digitOf_12 rfl (lv_at hl 0 rfl) ?_
      refine lv_bipush (v := nI (48)) hx hb d_Lw_digitOf_13 (by decide) ?_
      refine nw_isub (v := nI (q - 48)) hx hb d_Lw_digitOf_15 (pk_sub (by omega)) ?_
      have hd : dgN (nI q) = q - 48 := by
        unfold dgN
        rw [wN_small (by omega), if_pos ⟨hq1, hq2⟩]
      rw [← hd]
      exact W.iret (v := nI (dgN (nI q))) hx hb hr (fun t ht hW => ⟨⟨_, w, rfl, ⟨rfl, rfl⟩, BW_of ht hP⟩, hS.F ht⟩) hS.2.2 d_Lw_digitOf_16
theorem okd_t {b : Nat} {T : Nat → Int32} {n : Nat} (h : ∀ j, j < n → dgN (T j) < b) : okd b T n = true := List.all_eq_true.mpr (fun j hj => decide_eq_true (h j (List.mem_range.mp hj)))
theorem okd_f {b : Nat} {T : Nat → Int32} {n j : Nat} (hj : j < n) (h : ¬ dgN (T j) < b) : okd b T n = false := by
  cases e : okd b T n with
  | false => rfl
  | true => exact absurd (of_decide_eq_true (List.all_eq_true.mp e j (List.mem_range.mpr hj))) h
theorem okd_c {b : Nat} {T T' : Nat → Int32} {n : Nat} (h : ∀ j, j < n → T j = T' j) : okd b T n = okd b T' n := by
  unfold okd
  apply Bool.eq_iff_iff.mpr
  rw [List.all_eq_true, List.all_eq_true]
  exact ⟨fun q j hj => by have := q j hj; rw [h j (List.mem_range.mp hj)] at this; exact this, fun q j hj => by have := q j hj; rw [← h j (List.mem_range.mp hj)] at this; exact this⟩
set_option maxHeartbeats 4000000 in
set_option maxRecDepth 100000 in
/-- hasDigitsAlone(count, base) -/
theorem c_Lw_hasDigitsAlone (l : Launch) {D : va_G} {cI cB cR : ClassId} {ad : Nat → Nat} (w : St) (sz : Nat) {n b : Nat} (hn : n ≤ 4096) (hb9 : b ≤ 36) : Met l y_Lw_hasDigitsAlone (q_Lw_hasDigitsAlone :: wA) { frames := 1, cells := 0, slots := 0, locals := 30 } (va_Pc [.ref (ad 0), .int (nI (n)), .int (nI (b))] (PW D cI cB cR ad w sz)) (va_Qi (fun (r : Int32) (w1 : St) => r = (if okd b (sT w) n = true then nI 1 else nI 0) ∧ w1 = w) (BW D cI cB cR ad) (AA ad sz)) 0 0 (AA ad sz) := by
  refine Met.ofW (cc := b_Lw_hasDigitsAlone) (maxL := 4) (ret := (some (.boolean))) (by decide) rfl ?_
  intro p e s m args below meth c s₁ B hml hv
  obtain ⟨rfl, hsz, hP, hD0, hKW⟩ := hv
  have hx := B.exec
  have hb := B.bytes
  have hr := B.returns
  have hts := atoms_spec (ws := q_Lw_hasDigitsAlone :: wA) B.pre
  have hown : s.vm.findClass R_Lw = some m.cls := findClass_of_methodNamed B.named
  have hlocks := B.notSynchronized
  subst hsz
  have hD := NC_AA (sz := s.heap.size) hD0
  have hS : va_S (AA ad s.heap.size) s.heap s.heap [] := va_S.rf
  have hl := lv_entry ([.ref (ad 0), .int (nI (n)), .int (nI (b))]) (n := 4) (Nat.le_of_ble_eq_true rfl)
  rw [lg_entry_eq]
  generalize (lg_sl ([.ref (ad 0), .int (nI (n)), .int (nI (b))]) ++ List.replicate (4 - (lg_sl ([.ref (ad 0), .int (nI (n)), .int (nI (b))])).length) Slot.unset).toArray = ls at hl ⊢
  have hl : lv_has ls 4 [(0, .ref (ad 0)), (1, .int (nI (n))), (2, .int (nI (b)))] := hl
  refine lv_iconst (v := nI (0)) hx hb d_Lw_hasDigitsAlone_0 (by decide) ?_
  refine lv_istore_n (lv' := [(3, .int (nI (0))), (0, .ref (ad 0)), (1, .int (nI (n))), (2, .int (nI (b)))]) hx hb d_Lw_hasDigitsAlone_1 rfl hl (by decide) rfl (fun ls hl => ?_)
  have loop : ∀ (mm j : Nat) (H : Heap) (locs : List Loc) (ls : Array Slot), j + mm = n → (∀ q, q < j → dgN (sT w q) < b) → va_P D clA (NC cI cB cR ad (w)) H → va_D (AA ad s.heap.size) (NC cI cB cR ad (w)) → va_S (AA ad s.heap.size) s.heap H locs → lv_has ls 4 [(3, .int (nI (j))), (0, .ref (ad 0)), (1, .int (nI (n))), (2, .int (nI (b)))] → W p l e (headSpec (q_Lw_hasDigitsAlone :: wA) { frames := 1, cells := 0, slots := 0, locals := 30 }).room s m ([.ref (ad 0), .int (nI (n)), .int (nI (b))] : List Value).toArray below meth c H locs 0 0 (MQ below (va_Qi (fun (r : Int32) (w1 : St) => r = (if okd b (sT w) n = true then nI 1 else nI 0) ∧ w1 = w) (BW D cI cB cR ad) (AA ad s.heap.size)) ([.ref (ad 0), .int (nI (n)), .int (nI (b))] : List Value).toArray s 0 0 (AA ad s.heap.size)) (F0 m 2 ls []) := by
    intro mm
    induction mm with
    | zero =>
      intro j H locs ls hj hq hP hD hS hl
      refine lv_iload_n hx hb d_Lw_hasDigitsAlone_2 rfl (lv_at hl 0 rfl) ?_
      refine lv_iload_n hx hb d_Lw_hasDigitsAlone_3 rfl (lv_at hl 2 rfl) ?_
      refine lv_icmp_ge (tgt := 28) hx hb d_Lw_hasDigitsAlone_4 (by decide) (fun c4 => ?_) (fun c4 => ?_)
      · skip
        have c4 : n ≤ j := (nI_leI (by omega) (by omega)).mp c4
        refine lv_iconst (v := nI (1)) hx hb d_Lw_hasDigitsAlone_28 (by decide) ?_
        exact W.zret (v := nI (1)) hx hb hr (by decide) (fun t ht hW => ⟨⟨_, w, rfl, ⟨by rw [if_pos (okd_t (fun q hq9 => hq q (by omega)))], rfl⟩, BW_of ht hP⟩, hS.F ht⟩) hS.2.2 d_Lw_hasDigitsAlone_29
      · exact absurd (nI_le (by omega) (by omega)) c4
    | succ mm ih =>
      intro j H locs ls hj hq hP hD hS hl
      refine lv_iload_n hx hb d_Lw_hasDigitsAlone_2 rfl (lv_at hl 0 rfl) ?_
      refine lv_iload_n hx hb d_Lw_hasDigitsAlone_3 rfl (lv_at hl 2 rfl) ?_
      refine lv_icmp_ge (tgt := 28) hx hb d_Lw_hasDigitsAlone_4 (by decide) (fun c4 => ?_) (fun c4 => ?_)
      · exact absurd c4 (nI_ge (by omega) (by omega))
      · skip
        refine lv_aload_n hx hb d_Lw_hasDigitsAlone_7 rfl (lv_at hl 1 rfl) ?_
        refine nw_gF5 hx hb hts hown hKW.1 hP lf_Lw_38 d_Lw_hasDigitsAlone_8 ?_
        refine lv_iload_n hx hb d_Lw_hasDigitsAlone_11 rfl (lv_at hl 0 rfl) ?_
        refine nw_lT hx hb hKW.1 hP (j := j) (by omega) (x := sT (w) (j)) rfl d_Lw_hasDigitsAlone_12 ?_
        refine wS_i (As := [.int (sT (w) (j))]) (rest := []) (n := 1) ⟨hx, hb, hml, hown, hts⟩ (c_Lw_digitOf l w _ (sT w j)) (cwS0 1 hts lm_Lw_174 st_Lw_digitOf in_Lw kq_Lw_digitOf rfl rfl rfl (by decide +kernel) ⟨Nat.le_of_ble_eq_true rfl, Nat.le_of_ble_eq_true rfl⟩) hKW hP hD hS rfl hl.1 rfl (Nat.le_of_ble_eq_true rfl) d_Lw_hasDigitsAlone_13 ⟨Nat.zero_le _, Nat.zero_le _⟩ (fun r w1 H locs hp hP hD hS => ?_)
        obtain ⟨er, ew⟩ := hp
        rw [ew] at hP hD
        subst er
        have hd9 := dgN_le (sT w j)
        refine lv_iload_n hx hb d_Lw_hasDigitsAlone_16 rfl (lv_at hl 3 rfl) ?_
        refine lv_icmp_lt (tgt := 22) hx hb d_Lw_hasDigitsAlone_17 (by decide) (fun c17 => ?_) (fun c17 => ?_)
        · skip
          have c17 : dgN (sT w j) < b := (nI_ltI (by omega) (by omega)).mp c17
          refine lv_iinc (v := nI (j + 1)) (lv' := [(3, .int (nI (j + 1))), (0, .ref (ad 0)), (1, .int (nI (n))), (2, .int (nI (b)))]) hx hb d_Lw_hasDigitsAlone_22 hl (k := 0) rfl (nI_add _ 1) (by decide) rfl (fun ls hl => ?_)
          refine lv_goto (tgt := 2) hx hb d_Lw_hasDigitsAlone_25 (by decide) ?_
          exact ih (j + 1) H locs ls (by omega) (fun q h9 => by
            rcases Nat.lt_or_ge q j with z | z
            · exact hq q z
            · rw [show q = j by omega]; exact c17) hP hD hS (lv_sub hl [0, 1, 2, 3] rfl)
        · skip
          have c17 : ¬ (dgN (sT w j) < b) := fun h => c17 ((nI_ltI (by omega) (by omega)).mpr h)
          refine lv_iconst (v := nI (0)) hx hb d_Lw_hasDigitsAlone_20 (by decide) ?_
          exact W.zret (v := nI (0)) hx hb hr (by decide) (fun t ht hW => ⟨⟨_, w, rfl, ⟨by rw [okd_f (show j < n by omega) c17]; exact (if_neg Bool.false_ne_true).symm, rfl⟩, BW_of ht hP⟩, hS.F ht⟩) hS.2.2 d_Lw_hasDigitsAlone_21
  exact loop n 0 _ _ ls (by omega) (fun q h => absurd h (by omega)) hP hD hS hl
set_option maxHeartbeats 4000000 in
set_option maxRecDepth 100000 in
/-- powerOf(base, n) -/
theorem c_Lw_powerOf (l : Launch) {D : va_G} {cI cB cR : ClassId} {ad : Nat → Nat} (w : St) (sz : Nat) {b n : Nat} (hn : n < 2 ^ 30) : Met l y_Lw_powerOf (q_Lw_powerOf :: wA) { frames := 0, cells := 0, slots := 0, locals := 0 } (va_Pc [.int (nI (b)), .int (nI (n))] (PW D cI cB cR ad w sz)) (va_Qi (fun (r : Int32) (w1 : St) => r = nI (b ^ n) ∧ w1 = w) (BW D cI cB cR ad) (AA ad sz)) 0 0 (AA ad sz) := by
  refine Met.ofW (cc := b_Lw_powerOf) (maxL := 4) (ret := (some (.int))) (by decide) rfl ?_
  intro p e s m args below meth c s₁ B hml hv
  obtain ⟨rfl, hsz, hP, hD0, hKW⟩ := hv
  have hx := B.exec
  have hb := B.bytes
  have hr := B.returns
  have hts := atoms_spec (ws := q_Lw_powerOf :: wA) B.pre
  have hown : s.vm.findClass R_Lw = some m.cls := findClass_of_methodNamed B.named
  have hlocks := B.notSynchronized
  subst hsz
  have hD := NC_AA (sz := s.heap.size) hD0
  have hS : va_S (AA ad s.heap.size) s.heap s.heap [] := va_S.rf
  have hl := lv_entry ([.int (nI (b)), .int (nI (n))]) (n := 4) (Nat.le_of_ble_eq_true rfl)
  rw [lg_entry_eq]
  generalize (lg_sl ([.int (nI (b)), .int (nI (n))]) ++ List.replicate (4 - (lg_sl ([.int (nI (b)), .int (nI (n))])).length) Slot.unset).toArray = ls at hl ⊢
  have hl : lv_has ls 4 [(0, .int (nI (b))), (1, .int (nI (n)))] := hl
  refine lv_iconst (v := nI (1)) hx hb d_Lw_powerOf_0 (by decide) ?_
  refine lv_istore_n (lv' := [(2, .int (nI (1))), (0, .int (nI (b))), (1, .int (nI (n)))]) hx hb d_Lw_powerOf_1 rfl hl (by decide) rfl (fun ls hl => ?_)
  refine lv_iconst (v := nI (0)) hx hb d_Lw_powerOf_2 (by decide) ?_
  refine lv_istore_n (lv' := [(3, .int (nI (0))), (2, .int (nI (1))), (0, .int (nI (b))), (1, .int (nI (n)))]) hx hb d_Lw_powerOf_3 rfl hl (by decide) rfl (fun ls hl => ?_)
  have loop : ∀ (mm j : Nat) (ls : Array Slot), j + mm = n → lv_has ls 4 [(3, .int (nI (j))), (2, .int (nI (b ^ j))), (0, .int (nI (b))), (1, .int (nI (n)))] → W p l e (headSpec (q_Lw_powerOf :: wA) { frames := 0, cells := 0, slots := 0, locals := 0 }).room s m ([.int (nI (b)), .int (nI (n))] : List Value).toArray below meth c s.heap [] 0 0 (MQ below (va_Qi (fun (r : Int32) (w1 : St) => r = nI (b ^ n) ∧ w1 = w) (BW D cI cB cR ad) (AA ad s.heap.size)) ([.int (nI (b)), .int (nI (n))] : List Value).toArray s 0 0 (AA ad s.heap.size)) (F0 m 4 ls []) := by
    intro mm
    induction mm with
    | zero =>
      intro j ls hj hl
      refine lv_iload_n hx hb d_Lw_powerOf_4 rfl (lv_at hl 0 rfl) ?_
      refine lv_iload_n hx hb d_Lw_powerOf_5 rfl (lv_at hl 3 rfl) ?_
      refine lv_icmp_ge (tgt := 19) hx hb d_Lw_powerOf_6 (by decide) (fun c6 => ?_) (fun c6 => ?_)
      · skip
        have c6 : n ≤ j := (nI_leI (by omega) (by omega)).mp c6
        refine lv_iload_n hx hb d_Lw_powerOf_19 rfl (lv_at hl 1 rfl) ?_
        exact W.iret (v := nI (b ^ j)) hx hb hr (fun t ht hW => ⟨⟨_, w, rfl, ⟨by rw [show n = j by omega], rfl⟩, BW_of ht hP⟩, hS.F ht⟩) hS.2.2 d_Lw_powerOf_20
      · exact absurd (nI_le (by omega) (by omega)) c6
    | succ mm ih =>
      intro j ls hj hl
      refine lv_iload_n hx hb d_Lw_powerOf_4 rfl (lv_at hl 0 rfl) ?_
      refine lv_iload_n hx hb d_Lw_powerOf_5 rfl (lv_at hl 3 rfl) ?_
      refine lv_icmp_ge (tgt := 19) hx hb d_Lw_powerOf_6 (by decide) (fun c6 => ?_) (fun c6 => ?_)
      · exact absurd c6 (nI_ge (by omega) (by omega))
      · skip
        refine lv_iload_n hx hb d_Lw_powerOf_9 rfl (lv_at hl 1 rfl) ?_
        refine lv_iload_n hx hb d_Lw_powerOf_10 rfl (lv_at hl 2 rfl) ?_
        refine nw_imul (v := nI ((b ^ j) * b)) hx hb d_Lw_powerOf_11 (pk_mul _ _) ?_
        refine lv_istore_n (lv' := [(2, .int (nI ((b ^ j) * b))), (3, .int (nI (j))), (0, .int (nI (b))), (1, .int (nI (n)))]) hx hb d_Lw_powerOf_12 rfl hl (by decide) rfl (fun ls hl => ?_)
        refine lv_iinc (v := nI (j + 1)) (lv' := [(3, .int (nI (j + 1))), (2, .int (nI ((b ^ j) * b))), (0, .int (nI (b))), (1, .int (nI (n)))]) hx hb d_Lw_powerOf_13 hl (k := 1) rfl (nI_add _ 1) (by decide) rfl (fun ls hl => ?_)
        refine lv_goto (tgt := 4) hx hb d_Lw_powerOf_16 (by decide) ?_
        exact ih (j + 1) ls (by omega) (by rw [Nat.pow_succ]; exact (lv_sub hl [0, 1, 2, 3] rfl))
  exact loop n 0 ls (by omega) hl
set_option maxHeartbeats 4000000 in
set_option maxRecDepth 100000 in
/-- digitsOfPiece(base) -/
theorem c_Lw_digitsOfPiece (l : Launch) {D : va_G} {cI cB cR : ClassId} {ad : Nat → Nat} (w : St) (sz : Nat) {b : Nat} (h2 : 2 ≤ b) (hb9 : b ≤ 36) : Met l y_Lw_digitsOfPiece (q_Lw_digitsOfPiece :: wA) { frames := 0, cells := 0, slots := 0, locals := 0 } (va_Pc [.int (nI (b))] (PW D cI cB cR ad w sz)) (va_Qi (fun (r : Int32) (w1 : St) => w1 = w ∧ ∃ d, r = nI d ∧ 1 ≤ d ∧ d ≤ 31 ∧ b ^ d ≤ 2147483647 ∧ 2147483647 < b ^ (d + 1)) (BW D cI cB cR ad) (AA ad sz)) 0 0 (AA ad sz) := by
  refine Met.ofW (cc := b_Lw_digitsOfPiece) (maxL := 4) (ret := (some (.int))) (by decide) rfl ?_
  intro p e s m args below meth c s₁ B hml hv
  obtain ⟨rfl, hsz, hP, hD0, hKW⟩ := hv
  have hx := B.exec
  have hb := B.bytes
  have hr := B.returns
  have hts := atoms_spec (ws := q_Lw_digitsOfPiece :: wA) B.pre
  have hown : s.vm.findClass R_Lw = some m.cls := findClass_of_methodNamed B.named
  have hlocks := B.notSynchronized
  subst hsz
  have hD := NC_AA (sz := s.heap.size) hD0
  have hS : va_S (AA ad s.heap.size) s.heap s.heap [] := va_S.rf
  have hl := lv_entry ([.int (nI (b))]) (n := 4) (Nat.le_of_ble_eq_true rfl)
  rw [lg_entry_eq]
  generalize (lg_sl ([.int (nI (b))]) ++ List.replicate (4 - (lg_sl ([.int (nI (b))])).length) Slot.unset).toArray = ls at hl ⊢
  have hl : lv_has ls 4 [(0, .int (nI (b)))] := hl
  refine lv_iconst (v := nI (1)) hx hb d_Lw_digitsOfPiece_0 (by decide) ?_
  refine lv_istore_n (lv' := [(1, .int (nI (1))), (0, .int (nI (b)))]) hx hb d_Lw_digitsOfPiece_1 rfl hl (by decide) rfl (fun ls hl => ?_)
  refine lv_iload_n hx hb d_Lw_digitsOfPiece_2 rfl (lv_at hl 1 rfl) ?_
  refine lv_istore_n (lv' := [(2, .int (nI (b))), (1, .int (nI (1))), (0, .int (nI (b)))]) hx hb d_Lw_digitsOfPiece_3 rfl hl (by decide) rfl (fun ls hl => ?_)
  refine lv_iconst (v := nI (1)) hx hb d_Lw_digitsOfPiece_4 (by decide) ?_
  refine lv_istore_n (lv' := [(3, .int (nI (1))), (2, .int (nI (b))), (1, .int (nI (1))), (0, .int (nI (b)))]) hx hb d_Lw_digitsOfPiece_5 rfl hl (by decide) rfl (fun ls hl => ?_)
  have h231 : 2147483647 < b ^ 31 := Nat.lt_of_lt_of_le (by decide) (Nat.pow_le_pow_left h2 31)
  have loop : ∀ (mm j : Nat) (ls : Array Slot), j + mm = 31 → 1 ≤ j → b ^ j ≤ 2147483647 → lv_has ls 4 [(3, .int (nI (j))), (1, .int (nI (j))), (2, .int (nI (b ^ j))), (0, .int (nI (b)))] → W p l e (headSpec (q_Lw_digitsOfPiece :: wA) { frames := 0, cells := 0, slots := 0, locals := 0 }).room s m ([.int (nI (b))] : List Value).toArray below meth c s.heap [] 0 0 (MQ below (va_Qi (fun (r : Int32) (w1 : St) => w1 = w ∧ ∃ d, r = nI d ∧ 1 ≤ d ∧ d ≤ 31 ∧ b ^ d ≤ 2147483647 ∧ 2147483647 < b ^ (d + 1)) (BW D cI cB cR ad) (AA ad s.heap.size)) ([.int (nI (b))] : List Value).toArray s 0 0 (AA ad s.heap.size)) (F0 m 6 ls []) := by
    intro mm
    induction mm with
    | zero =>
      intro j ls hj hj1 hp9
      exfalso
      rw [show j = 31 by omega] at hp9
      omega
    | succ mm ih =>
      intro j ls hj hj1 hp9 hl
      refine lv_iload_n hx hb d_Lw_digitsOfPiece_6 rfl (lv_at hl 0 rfl) ?_
      refine lv_bipush (v := nI (31)) hx hb d_Lw_digitsOfPiece_7 (by decide) ?_
      refine lv_icmp_ge (tgt := 33) hx hb d_Lw_digitsOfPiece_9 (by decide) (fun c9 => ?_) (fun c9 => ?_)
      · exact absurd c9 (nI_ge (by omega) (by omega))
      · skip
        have hdl : 2147483647 / b ≤ 2147483647 := Nat.div_le_self _ _
        refine lv_iload_n hx hb d_Lw_digitsOfPiece_12 rfl (lv_at hl 2 rfl) ?_
        refine lv_ldc (v := 2147483647) hx hb hown (hA_ hts lk_Lw_185) d_Lw_digitsOfPiece_13 ?_
        refine lv_iload_n hx hb d_Lw_digitsOfPiece_15 rfl (lv_at hl 3 rfl) ?_
        refine nw_idiv (v := nI (2147483647 / b)) hx hb d_Lw_digitsOfPiece_16 (nI_ne0 (by omega) (by omega)) (pk_div (a := 2147483647) (by omega) (by omega) (by omega)) ?_
        refine lv_icmp_gt (tgt := 33) hx hb d_Lw_digitsOfPiece_17 (by decide) (fun c17 => ?_) (fun c17 => ?_)
        · skip
          have c17 : 2147483647 / b < b ^ j := (nI_ltI (by omega) (by omega)).mp c17
          refine lv_iload_n hx hb d_Lw_digitsOfPiece_33 rfl (lv_at hl 1 rfl) ?_
          exact W.iret (v := nI (j)) hx hb hr (fun t ht hW => ⟨⟨_, w, rfl, ⟨rfl, j, rfl, hj1, by omega, hp9, by rw [Nat.pow_succ]; exact (Nat.div_lt_iff_lt_mul (by omega)).mp c17⟩, BW_of ht hP⟩, hS.F ht⟩) hS.2.2 d_Lw_digitsOfPiece_34
        · skip
          have c17 : ¬ (2147483647 / b < b ^ j) := fun h => c17 ((nI_ltI (by omega) (by omega)).mpr h)
          refine lv_iload_n hx hb d_Lw_digitsOfPiece_20 rfl (lv_at hl 2 rfl) ?_
          refine lv_iload_n hx hb d_Lw_digitsOfPiece_21 rfl (lv_at hl 3 rfl) ?_
          refine nw_imul (v := nI ((b ^ j) * b)) hx hb d_Lw_digitsOfPiece_22 (pk_mul _ _) ?_
          refine lv_istore_n (lv' := [(2, .int (nI ((b ^ j) * b))), (3, .int (nI (j))), (1, .int (nI (j))), (0, .int (nI (b)))]) hx hb d_Lw_digitsOfPiece_23 rfl hl (by decide) rfl (fun ls hl => ?_)
          refine lv_iinc (v := nI (j + 1)) (lv' := [(1, .int (nI (j + 1))), (2, .int (nI ((b ^ j) * b))), (3, .int (nI (j))), (0, .int (nI (b)))]) hx hb d_Lw_digitsOfPiece_24 hl (k := 2) rfl (nI_add _ 1) (by decide) rfl (fun ls hl => ?_)
          refine lv_iinc (v := nI (j + 1)) (lv' := [(3, .int (nI (j + 1))), (1, .int (nI (j + 1))), (2, .int (nI ((b ^ j) * b))), (0, .int (nI (b)))]) hx hb d_Lw_digitsOfPiece_27 hl (k := 2) rfl (nI_add _ 1) (by decide) rfl (fun ls hl => ?_)
          refine lv_goto (tgt := 6) hx hb d_Lw_digitsOfPiece_30 (by decide) ?_
          have hpn : b ^ (j + 1) ≤ 2147483647 := by rw [Nat.pow_succ]; exact (Nat.le_div_iff_mul_le (by omega)).mp (Nat.not_lt.mp c17)
          exact ih (j + 1) ls (by omega) (by omega) hpn (by rw [Nat.pow_succ]; exact (lv_sub hl [0, 1, 2, 3] rfl))
  exact loop 30 1 ls (by omega) (by omega) (by rw [Nat.pow_one]; omega) (by rw [Nat.pow_one]; exact (lv_sub hl [0, 2, 1, 3] rfl))

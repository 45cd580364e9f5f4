/-! ROOTS: nextLength, layStep, lengthen, lowerToFit (rows laid by wip/whole/gen/c_ro.py) -/
theorem mn_Z {nx : Nat} {rc : Int} (h0 : nx < 2 ^ 30) (h1 : -2 ^ 31 ≤ rc) (h2 : rc < 2 ^ 31) : (if iZ rc < nI nx then iZ rc else nI nx) = iZ (if rc < (nx : Int) then rc else (nx : Int)) := by
  rw [nI_iZ]
  by_cases h : rc < (nx : Int)
  · rw [if_pos h, if_pos ((iZ_lt h1 h2 (by omega) (by omega)).mpr h)]
  · rw [if_neg h, if_neg (fun q => h ((iZ_lt h1 h2 (by omega) (by omega)).mp q))]
theorem cmpN_pos {v u : Nat} : 0 < cmpN v u ↔ u < v := by
  rcases Nat.lt_trichotomy v u with h | h | h
  · rw [cmpN_lt h]; exact ⟨fun q => absurd q (by decide), fun q => by omega⟩
  · subst h; rw [cmpN_eq]; exact ⟨fun q => absurd q (by decide), fun q => by omega⟩
  · rw [cmpN_gt h]; exact ⟨fun _ => h, fun _ => by decide⟩
set_option maxHeartbeats 4000000 in
set_option maxRecDepth 100000 in
/-- nextLength(known, all, n) -/
theorem c_Ro_nextLength (l : Launch) {D : va_G} {cI cB cR : ClassId} {ad : Nat → Nat} (w : St) (sz : Nat) {kn al n : Nat} (hk : kn < 2 ^ 20) (ha : al < 2 ^ 20) (hn : n ≤ 100) : Met l y_Ro_nextLength (q_Ro_nextLength :: wA) { frames := 2, cells := 0, slots := 0, locals := 60 } (va_Pc [.int (nI (kn)), .int (nI (al)), .int (nI (n))] (PW D cI cB cR ad w sz)) (va_Qi (fun (r : Int32) (w1 : St) => w1 = w ∧ ∃ z : Int, r = iZ z ∧ z ≤ (al : Int) ∧ z ≤ 2 * (kn : Int) - ((nb n : Int) + 1) ∧ -100 ≤ z) (BW D cI cB cR ad) (AA ad sz)) 0 0 (AA ad sz) := by
  refine Met.ofW (cc := b_Ro_nextLength) (maxL := 7) (ret := (some (.int))) (by decide) rfl ?_
  intro p e s m args below meth c s₁ B hml hv
  obtain ⟨rfl, hsz, hP, hD0, hKW⟩ := hv
  have hx := B.exec
  have hb := B.bytes
  have hr := B.returns
  have hts := atoms_spec (ws := q_Ro_nextLength :: wA) B.pre
  have hown : s.vm.findClass R_Ro = some m.cls := findClass_of_methodNamed B.named
  have hlocks := B.notSynchronized
  subst hsz
  have hD := NC_AA (sz := s.heap.size) hD0
  have hS : va_S (AA ad s.heap.size) s.heap s.heap [] := va_S.rf
  have hl := lv_entry ([.int (nI (kn)), .int (nI (al)), .int (nI (n))]) (n := 7) (Nat.le_of_ble_eq_true rfl)
  rw [lg_entry_eq]
  generalize (lg_sl ([.int (nI (kn)), .int (nI (al)), .int (nI (n))]) ++ List.replicate (7 - (lg_sl ([.int (nI (kn)), .int (nI (al)), .int (nI (n))])).length) Slot.unset).toArray = ls at hl ⊢
  have hl : lv_has ls 7 [(0, .int (nI (kn))), (1, .int (nI (al))), (2, .int (nI (n)))] := hl
  refine lv_iload_n hx hb d_Ro_nextLength_0 rfl (lv_at hl 2 rfl) ?_
  refine wSN_i (As := [.int (nI (n))]) (rest := []) (n := 1) ⟨hx, hb, hml, hown, hts⟩ (c_Lw_bitsOf l w _ (nI n)) (cwN0 1 hts hKW.2.1 nest_Ro st_Lw_bitsOf in_Lw kq_Lw_bitsOf rfl rfl rfl (by decide +kernel) ⟨Nat.le_of_ble_eq_true rfl, Nat.le_of_ble_eq_true rfl⟩) hKW hP hD hS rfl hl.1 rfl (Nat.le_of_ble_eq_true rfl) d_Ro_nextLength_1 ⟨Nat.zero_le _, Nat.zero_le _⟩ (fun r w1 H locs hp hP hD hS => ?_)
  obtain ⟨er, ew⟩ := hp
  rw [ew] at hP hD
  subst er
  rw [wN_nI, Nat.mod_eq_of_lt (show n < 4294967296 by omega)]
  have hnb : nb n ≤ 7 := nb_le_iff.mpr (by omega)
  refine lv_iconst (v := nI (1)) hx hb d_Ro_nextLength_4 (by decide) ?_
  refine nw_iadd (v := nI (nb n + 1)) hx hb d_Ro_nextLength_5 (nI_add _ _) ?_
  refine lv_istore_n (lv' := [(3, .int (nI (nb n + 1))), (0, .int (nI (kn))), (1, .int (nI (al))), (2, .int (nI (n)))]) hx hb d_Ro_nextLength_6 rfl hl (by decide) rfl (fun ls hl => ?_)
  refine lv_iconst (v := nI (2)) hx hb d_Ro_nextLength_7 (by decide) ?_
  refine lv_iload_n hx hb d_Ro_nextLength_8 rfl (lv_at hl 1 rfl) ?_
  refine nw_imul (v := nI (2 * kn)) hx hb d_Ro_nextLength_9 (pk_mul _ _) ?_
  refine lv_iload_n hx hb d_Ro_nextLength_10 rfl (lv_at hl 0 rfl) ?_
  refine nw_isub (v := iZ (((2 * kn : Nat) : Int) - ((nb n + 1 : Nat) : Int))) hx hb d_Ro_nextLength_11 (nI_sZ _ _) ?_
  obtain ⟨rc, hrc⟩ : ∃ rc : Int, rc = ((2 * kn : Nat) : Int) - ((nb n + 1 : Nat) : Int) := ⟨_, rfl⟩
  rw [← hrc]
  refine lv_istore (lv' := [(4, .int (iZ rc)), (3, .int (nI (nb n + 1))), (0, .int (nI (kn))), (1, .int (nI (al))), (2, .int (nI (n)))]) hx hb d_Ro_nextLength_12 hl (by decide) rfl (fun ls hl => ?_)
  refine lv_iload_n hx hb d_Ro_nextLength_14 rfl (lv_at hl 3 rfl) ?_
  refine lv_istore (lv' := [(5, .int (nI (al))), (4, .int (iZ rc)), (3, .int (nI (nb n + 1))), (0, .int (nI (kn))), (1, .int (nI (al))), (2, .int (nI (n)))]) hx hb d_Ro_nextLength_15 hl (by decide) rfl (fun ls hl => ?_)
  refine lv_iconst (v := nI (0)) hx hb d_Ro_nextLength_17 (by decide) ?_
  refine lv_istore (lv' := [(6, .int (nI (0))), (5, .int (nI (al))), (4, .int (iZ rc)), (3, .int (nI (nb n + 1))), (0, .int (nI (kn))), (1, .int (nI (al))), (2, .int (nI (n)))]) hx hb d_Ro_nextLength_18 hl (by decide) rfl (fun ls hl => ?_)
  have loop : ∀ (mm j nx : Nat) (ls : Array Slot), j + mm = 20 → (nx = al ∨ rc < (al : Int)) → nx < 2 ^ 21 → lv_has ls 7 [(6, .int (nI (j))), (5, .int (nI (nx))), (4, .int (iZ rc)), (3, .int (nI (nb n + 1))), (0, .int (nI (kn))), (1, .int (nI (al))), (2, .int (nI (n)))] → W p l e (headSpec (q_Ro_nextLength :: wA) { frames := 2, cells := 0, slots := 0, locals := 60 }).room s m ([.int (nI (kn)), .int (nI (al)), .int (nI (n))] : List Value).toArray below meth c H locs 0 0 (MQ below (va_Qi (fun (r : Int32) (w1 : St) => w1 = w ∧ ∃ z : Int, r = iZ z ∧ z ≤ (al : Int) ∧ z ≤ 2 * (kn : Int) - ((nb n : Int) + 1) ∧ -100 ≤ z) (BW D cI cB cR ad) (AA ad s.heap.size)) ([.int (nI (kn)), .int (nI (al)), .int (nI (n))] : List Value).toArray s 0 0 (AA ad s.heap.size)) (F0 m 20 ls []) := by
    intro mm
    induction mm with
    | zero =>
      intro j nx ls hj hx1 hx2 hl
      refine lv_iload hx hb d_Ro_nextLength_20 (lv_at hl 0 rfl) ?_
      refine lv_bipush (v := nI (20)) hx hb d_Ro_nextLength_22 (by decide) ?_
      refine lv_icmp_ge (tgt := 50) hx hb d_Ro_nextLength_24 (by decide) (fun c24 => ?_) (fun c24 => ?_)
      · skip
        have c24 : 20 ≤ j := (nI_leI (by omega) (by omega)).mp c24
        refine lv_iload hx hb d_Ro_nextLength_50 (lv_at hl 1 rfl) ?_
        refine lv_iload hx hb d_Ro_nextLength_52 (lv_at hl 2 rfl) ?_
        refine nw_min hx hb (hml.trans hl.1.symm) hts hown lm_Ro_71 (Nat.le_of_ble_eq_true rfl) (Nat.le_of_ble_eq_true rfl) (Nat.zero_le _) (Nat.zero_le _) (mn_Z (by omega) (by omega) (by omega)) d_Ro_nextLength_54 ?_
        exact W.iret (v := iZ (if rc < (nx : Int) then rc else (nx : Int))) hx hb hr (fun t ht hW => ⟨⟨_, w, rfl, ⟨rfl, _, rfl, by split <;> omega, by split <;> omega, by split <;> omega⟩, BW_of ht hP⟩, hS.F ht⟩) hS.2.2 d_Ro_nextLength_57
      · exact absurd (nI_le (by omega) (by omega)) c24
    | succ mm ih =>
      intro j nx ls hj hx1 hx2 hl
      refine lv_iload hx hb d_Ro_nextLength_20 (lv_at hl 0 rfl) ?_
      refine lv_bipush (v := nI (20)) hx hb d_Ro_nextLength_22 (by decide) ?_
      refine lv_icmp_ge (tgt := 50) hx hb d_Ro_nextLength_24 (by decide) (fun c24 => ?_) (fun c24 => ?_)
      · exact absurd c24 (nI_ge (by omega) (by omega))
      · skip
        refine lv_iload hx hb d_Ro_nextLength_27 (lv_at hl 1 rfl) ?_
        refine lv_iload hx hb d_Ro_nextLength_29 (lv_at hl 2 rfl) ?_
        refine lv_icmp_le (tgt := 50) hx hb d_Ro_nextLength_31 (by decide) (fun c31 => ?_) (fun c31 => ?_)
        · skip
          refine lv_iload hx hb d_Ro_nextLength_50 (lv_at hl 1 rfl) ?_
          refine lv_iload hx hb d_Ro_nextLength_52 (lv_at hl 2 rfl) ?_
          refine nw_min hx hb (hml.trans hl.1.symm) hts hown lm_Ro_71 (Nat.le_of_ble_eq_true rfl) (Nat.le_of_ble_eq_true rfl) (Nat.zero_le _) (Nat.zero_le _) (mn_Z (by omega) (by omega) (by omega)) d_Ro_nextLength_54 ?_
          exact W.iret (v := iZ (if rc < (nx : Int) then rc else (nx : Int))) hx hb hr (fun t ht hW => ⟨⟨_, w, rfl, ⟨rfl, _, rfl, by split <;> omega, by split <;> omega, by split <;> omega⟩, BW_of ht hP⟩, hS.F ht⟩) hS.2.2 d_Ro_nextLength_57
        · skip
          rw [nI_iZ] at c31
          have c31 : rc < (nx : Int) := Int.not_le.mp (fun q => c31 ((iZ_le (by omega) (by omega) (by omega) (by omega)).mpr q))
          refine lv_iload hx hb d_Ro_nextLength_34 (lv_at hl 1 rfl) ?_
          refine lv_iload_n hx hb d_Ro_nextLength_36 rfl (lv_at hl 3 rfl) ?_
          refine nw_iadd (v := nI (nx + (nb n + 1))) hx hb d_Ro_nextLength_37 (nI_add _ _) ?_
          refine lv_iconst (v := nI (1)) hx hb d_Ro_nextLength_38 (by decide) ?_
          refine nw_iadd (v := nI (nx + (nb n + 1) + 1)) hx hb d_Ro_nextLength_39 (nI_add _ _) ?_
          refine lv_iconst (v := nI (2)) hx hb d_Ro_nextLength_40 (by decide) ?_
          refine nw_idiv (v := nI ((nx + (nb n + 1) + 1) / 2)) hx hb d_Ro_nextLength_41 (nI_ne0 (by omega) (by omega)) (pk_div (by omega) (by omega) (by omega)) ?_
          refine lv_istore (lv' := [(5, .int (nI ((nx + (nb n + 1) + 1) / 2))), (6, .int (nI (j))), (4, .int (iZ rc)), (3, .int (nI (nb n + 1))), (0, .int (nI (kn))), (1, .int (nI (al))), (2, .int (nI (n)))]) hx hb d_Ro_nextLength_42 hl (by decide) rfl (fun ls hl => ?_)
          refine lv_iinc (v := nI (j + 1)) (lv' := [(6, .int (nI (j + 1))), (5, .int (nI ((nx + (nb n + 1) + 1) / 2))), (4, .int (iZ rc)), (3, .int (nI (nb n + 1))), (0, .int (nI (kn))), (1, .int (nI (al))), (2, .int (nI (n)))]) hx hb d_Ro_nextLength_44 hl (k := 1) rfl (nI_add _ 1) (by decide) rfl (fun ls hl => ?_)
          refine lv_goto (tgt := 20) hx hb d_Ro_nextLength_47 (by decide) ?_
          exact ih (j + 1) ((nx + (nb n + 1) + 1) / 2) ls (by omega) (by omega) (by omega) (lv_sub hl [0, 1, 2, 3, 4, 5, 6] rfl)
  exact loop 20 0 al ls (by omega) (Or.inl rfl) (by omega) hl
set_option maxHeartbeats 4000000 in
set_option maxRecDepth 100000 in
/-- layStep(a, n, more, hidden) -/
theorem c_Ro_layStep (l : Launch) {D : va_G} {cI cB cR : ClassId} {ad : Nat → Nat} (w : St) (sz : Nat) {a v n mo hid Wv Lv : Nat} (ha : a < 11) (hv : NV w a v) (hW : NV w 12 Wv) (hL : NV w 11 Lv) (hn1 : 1 ≤ n) (hn : n ≤ 100) (hmo : mo ≤ 200600) (hh : hid + mo * (n - 1) < 2 ^ 30) (hle : Wv * 2 ^ mo ≤ v / 2 ^ (hid + mo * (n - 1))) (hfa : sL w a ≤ 6271) (hfw : Wv * 2 ^ mo < 2 ^ 200640) (hfl : sL w 11 ≤ 6271) : Met l y_Ro_layStep (q_Ro_layStep :: wA) { frames := 4, cells := 0, slots := 0, locals := 130 } (va_Pc [.ref (ad 4), .ref (ad (2 * a + 8)), .int (nI (n)), .int (nI (mo)), .int (nI (hid))] (PW D cI cB cR ad w sz)) (va_Qv (fun w1 : St => eqB w w1 [11, 12, 13] ∧ NV w1 13 (v / 2 ^ (hid + mo * (n - 1)) - Wv * 2 ^ mo) ∧ NV w1 11 (Lv * n)) (BW D cI cB cR ad) (AA ad sz)) 0 0 (AA ad sz) := by
  refine Met.ofW (cc := b_Ro_layStep) (maxL := 5) (ret := none) (by decide) rfl ?_
  intro p e s m args below meth c s₁ B hml hv
  obtain ⟨rfl, hsz, hP, hD0, hKW⟩ := hv
  have hx := B.exec
  have hb := B.bytes
  have hr := B.returns
  have hts := atoms_spec (ws := q_Ro_layStep :: wA) B.pre
  have hown : s.vm.findClass R_Ro = some m.cls := findClass_of_methodNamed B.named
  have hlocks := B.notSynchronized
  subst hsz
  have hD := NC_AA (sz := s.heap.size) hD0
  have hS : va_S (AA ad s.heap.size) s.heap s.heap [] := va_S.rf
  have hl := lv_entry ([.ref (ad 4), .ref (ad (2 * a + 8)), .int (nI (n)), .int (nI (mo)), .int (nI (hid))]) (n := 5) (Nat.le_of_ble_eq_true rfl)
  rw [lg_entry_eq]
  generalize (lg_sl ([.ref (ad 4), .ref (ad (2 * a + 8)), .int (nI (n)), .int (nI (mo)), .int (nI (hid))]) ++ List.replicate (5 - (lg_sl ([.ref (ad 4), .ref (ad (2 * a + 8)), .int (nI (n)), .int (nI (mo)), .int (nI (hid))])).length) Slot.unset).toArray = ls at hl ⊢
  have hl : lv_has ls 5 [(0, .ref (ad 4)), (1, .ref (ad (2 * a + 8))), (2, .int (nI (n))), (3, .int (nI (mo))), (4, .int (nI (hid)))] := hl
  refine lv_aload_n hx hb d_Ro_layStep_0 rfl (lv_at hl 0 rfl) ?_
  refine nw_gO2 hx hb hts hown hKW.1 hP lf_Ro_19 d_Ro_layStep_1 ?_
  refine lv_aload_n hx hb d_Ro_layStep_4 rfl (lv_at hl 1 rfl) ?_
  refine lv_iload hx hb d_Ro_layStep_5 (lv_at hl 4 rfl) ?_
  refine nw_ineg (v := -(nI (hid))) hx hb d_Ro_layStep_7 rfl ?_
  refine lv_iload_n hx hb d_Ro_layStep_8 rfl (lv_at hl 3 rfl) ?_
  refine lv_iload_n hx hb d_Ro_layStep_9 rfl (lv_at hl 2 rfl) ?_
  refine lv_iconst (v := nI (1)) hx hb d_Ro_layStep_10 (by decide) ?_
  refine nw_isub (v := nI (n - 1)) hx hb d_Ro_layStep_11 (pk_sub (by omega)) ?_
  refine nw_imul (v := nI (mo * (n - 1))) hx hb d_Ro_layStep_12 (pk_mul _ _) ?_
  refine nw_isub (v := -nI (hid + mo * (n - 1))) hx hb d_Ro_layStep_13 (ng_sub _ _) ?_
  refine wV_v (As := [.ref (ad (2 * a + 8)), .int (-nI (hid + mo * (n - 1)))]) (rest := []) (n := 2) ⟨hx, hb, hml, hown, hts⟩ (c_Na_putMovedD l w _ (i := 13) (a := a) (n := hid + mo * (n - 1)) (by omega) (by omega) hv hh (by omega)) (cwV0 2 hts lm_Ro_58 im_Na_putMoved se_Na_putMoved in_Na kq_Na_putMoved rfl rfl rfl (by decide +kernel) ⟨Nat.le_of_ble_eq_true rfl, Nat.le_of_ble_eq_true rfl⟩) (recvN hKW.1 hP (i := 13) (by omega)) hKW hP hD hS rfl hl.1 rfl (Nat.le_of_ble_eq_true rfl) d_Ro_layStep_14 ⟨Nat.zero_le _, Nat.zero_le _⟩ (fun w1 H locs hp hP hD hS => ?_)
  obtain ⟨hE1, hV1⟩ := hp
  have hW1 := hE1.nv (show 12 ≠ 13 by decide) hW
  have hL1 := hE1.nv (show 11 ≠ 13 by decide) hL
  have hl11 : sL w1 11 ≤ 6271 := by rw [(hE1.1 11 (by decide)).2]; exact hfl
  refine lv_aload_n hx hb d_Ro_layStep_17 rfl (lv_at hl 0 rfl) ?_
  refine nw_gO1 hx hb hts hown hKW.1 hP lf_Ro_16 d_Ro_layStep_18 ?_
  refine lv_aload_n hx hb d_Ro_layStep_21 rfl (lv_at hl 0 rfl) ?_
  refine nw_gO1 hx hb hts hown hKW.1 hP lf_Ro_16 d_Ro_layStep_22 ?_
  refine lv_iload_n hx hb d_Ro_layStep_25 rfl (lv_at hl 3 rfl) ?_
  refine wV_v (As := [.ref (ad 32), .int (nI (mo))]) (rest := []) (n := 2) ⟨hx, hb, hml, hown, hts⟩ (c_Na_putMovedU l w1 _ (i := 12) (a := 12) (n := mo) (by omega) (by omega) hW1 (by omega) (fitU hW1 hfw hmo)) (cwV0 2 hts lm_Ro_58 im_Na_putMoved se_Na_putMoved in_Na kq_Na_putMoved rfl rfl rfl (by decide +kernel) ⟨Nat.le_of_ble_eq_true rfl, Nat.le_of_ble_eq_true rfl⟩) (recvN hKW.1 hP (i := 12) (by omega)) hKW hP hD hS rfl hl.1 rfl (Nat.le_of_ble_eq_true rfl) d_Ro_layStep_26 ⟨Nat.zero_le _, Nat.zero_le _⟩ (fun w2 H locs hp hP hD hS => ?_)
  obtain ⟨hE2, hV2⟩ := hp
  have hV1 := hE2.nv (show 13 ≠ 12 by decide) hV1
  have hL2 := hE2.nv (show 11 ≠ 12 by decide) hL1
  have hl11 : sL w2 11 ≤ 6271 := by rw [(hE2.1 11 (by decide)).2]; exact hl11
  refine lv_aload_n hx hb d_Ro_layStep_29 rfl (lv_at hl 0 rfl) ?_
  refine nw_gO2 hx hb hts hown hKW.1 hP lf_Ro_19 d_Ro_layStep_30 ?_
  refine lv_aload_n hx hb d_Ro_layStep_33 rfl (lv_at hl 0 rfl) ?_
  refine nw_gO2 hx hb hts hown hKW.1 hP lf_Ro_19 d_Ro_layStep_34 ?_
  refine lv_aload_n hx hb d_Ro_layStep_37 rfl (lv_at hl 0 rfl) ?_
  refine nw_gO1 hx hb hts hown hKW.1 hP lf_Ro_16 d_Ro_layStep_38 ?_
  refine wV_v (As := [.ref (ad 34), .ref (ad 32)]) (rest := []) (n := 2) ⟨hx, hb, hml, hown, hts⟩ (c_Na_putDifference l w2 _ (i := 13) (a := 13) (b := 12) (by omega) (by omega) (by omega) hV1 hV2 hle) (cwV0 2 hts lm_Ro_74 im_Na_putDifference se_Na_putDifference in_Na kq_Na_putDifference rfl rfl rfl (by decide +kernel) ⟨Nat.le_of_ble_eq_true rfl, Nat.le_of_ble_eq_true rfl⟩) (recvN hKW.1 hP (i := 13) (by omega)) hKW hP hD hS rfl hl.1 rfl (Nat.le_of_ble_eq_true rfl) d_Ro_layStep_41 ⟨Nat.zero_le _, Nat.zero_le _⟩ (fun w3 H locs hp hP hD hS => ?_)
  obtain ⟨hE3, hV3⟩ := hp
  have hL3 := hE3.nv (show 11 ≠ 13 by decide) hL2
  have hl11 : sL w3 11 ≤ 6271 := by rw [(hE3.1 11 (by decide)).2]; exact hl11
  refine lv_aload_n hx hb d_Ro_layStep_44 rfl (lv_at hl 0 rfl) ?_
  refine nw_gO0 hx hb hts hown hKW.1 hP lf_Ro_10 d_Ro_layStep_45 ?_
  refine lv_iload_n hx hb d_Ro_layStep_48 rfl (lv_at hl 2 rfl) ?_
  refine lv_iconst (v := nI (0)) hx hb d_Ro_layStep_49 (by decide) ?_
  refine wV_v (As := [.int (nI (n)), .int (nI (0))]) (rest := []) (n := 2) ⟨hx, hb, hml, hown, hts⟩ (c_Na_scale l w3 _ (i := 11) (φ := n) (μ := 0) (by omega) hL3 (by omega) (by omega) hl11) (cwV0 2 hts lm_Ro_78 im_Na_scale se_Na_scale in_Na kq_Na_scale rfl rfl rfl (by decide +kernel) ⟨Nat.le_of_ble_eq_true rfl, Nat.le_of_ble_eq_true rfl⟩) (recvN hKW.1 hP (i := 11) (by omega)) hKW hP hD hS rfl hl.1 rfl (Nat.le_of_ble_eq_true rfl) d_Ro_layStep_50 ⟨Nat.zero_le _, Nat.zero_le _⟩ (fun w4 H locs hp hP hD hS => ?_)
  obtain ⟨hE4, hV4⟩ := hp
  have hEE : eqB w w4 [11, 12, 13] := (((hE1.B (by decide)).trans (hE2.B (by decide))).trans (hE3.B (by decide))).trans (hE4.B (by decide))
  exact W.vret hx hb hr (fun t ht hW => ⟨⟨w4, rfl, ⟨hEE, hE4.nv (by decide) hV3, hV4⟩, BW_of ht hP⟩, hS.F ht⟩) hS.2.2 d_Ro_layStep_53
set_option maxHeartbeats 4000000 in
set_option maxRecDepth 100000 in
/-- lengthen(root, more) -/
theorem c_Ro_lengthen (l : Launch) {D : va_G} {cI cB cR : ClassId} {ad : Nat → Nat} (w : St) (sz : Nat) {i r9 x9 mo : Nat} (hi : i < 11) (hR : NV w i r9) (hX : NV w 13 x9) (hmo : mo ≤ 200000) (hfr : r9 * 2 ^ mo < 2 ^ 200640) (hxn : nb x9 < 2 ^ 30) : Met l y_Ro_lengthen (q_Ro_lengthen :: wA) { frames := 4, cells := 0, slots := 0, locals := 130 } (va_Pc [.ref (ad 4), .ref (ad (2 * i + 8)), .int (nI (mo))] (PW D cI cB cR ad w sz)) (va_Qv (fun w1 : St => eqB w w1 [i, 13] ∧ NV w1 i (r9 * 2 ^ mo + (if nb x9 ≤ mo then x9 else 2 ^ mo - 1))) (BW D cI cB cR ad) (AA ad sz)) 0 0 (AA ad sz) := by
  refine Met.ofW (cc := b_Ro_lengthen) (maxL := 3) (ret := none) (by decide) rfl ?_
  intro p e s m args below meth c s₁ B hml hv
  obtain ⟨rfl, hsz, hP, hD0, hKW⟩ := hv
  have hx := B.exec
  have hb := B.bytes
  have hr := B.returns
  have hts := atoms_spec (ws := q_Ro_lengthen :: wA) B.pre
  have hown : s.vm.findClass R_Ro = some m.cls := findClass_of_methodNamed B.named
  have hlocks := B.notSynchronized
  subst hsz
  have hD := NC_AA (sz := s.heap.size) hD0
  have hS : va_S (AA ad s.heap.size) s.heap s.heap [] := va_S.rf
  have hl := lv_entry ([.ref (ad 4), .ref (ad (2 * i + 8)), .int (nI (mo))]) (n := 3) (Nat.le_of_ble_eq_true rfl)
  rw [lg_entry_eq]
  generalize (lg_sl ([.ref (ad 4), .ref (ad (2 * i + 8)), .int (nI (mo))]) ++ List.replicate (3 - (lg_sl ([.ref (ad 4), .ref (ad (2 * i + 8)), .int (nI (mo))])).length) Slot.unset).toArray = ls at hl ⊢
  have hl : lv_has ls 3 [(0, .ref (ad 4)), (1, .ref (ad (2 * i + 8))), (2, .int (nI (mo)))] := hl
  refine lv_aload_n hx hb d_Ro_lengthen_0 rfl (lv_at hl 0 rfl) ?_
  refine nw_gO2 hx hb hts hown hKW.1 hP lf_Ro_19 d_Ro_lengthen_1 ?_
  refine wV_i (As := []) (rest := []) (n := 0) ⟨hx, hb, hml, hown, hts⟩ (c_Na_countBits l w _ (i := 13) (by omega) hX) (cwV0 0 hts lm_Ro_22 im_Na_countBits se_Na_countBits in_Na kq_Na_countBits rfl rfl rfl (by decide +kernel) ⟨Nat.le_of_ble_eq_true rfl, Nat.le_of_ble_eq_true rfl⟩) (recvN hKW.1 hP (i := 13) (by omega)) hKW hP hD hS rfl hl.1 rfl (Nat.le_of_ble_eq_true rfl) d_Ro_lengthen_4 ⟨Nat.zero_le _, Nat.zero_le _⟩ (fun r w1 H locs hp hP hD hS => ?_)
  obtain ⟨er, ew⟩ := hp
  rw [ew] at hP hD
  subst er
  have tail9 : ∀ (w1 : St) (y9 : Nat) (H : Heap) (locs : List Loc) (ls : Array Slot), eqB w w1 [i, 13] → NV w1 i r9 → NV w1 13 y9 → y9 < 2 ^ mo → y9 = (if nb x9 ≤ mo then x9 else 2 ^ mo - 1) → va_P D clA (NC cI cB cR ad (w1)) H → va_D (AA ad s.heap.size) (NC cI cB cR ad (w1)) → va_S (AA ad s.heap.size) s.heap H locs → lv_has ls 3 [(0, .ref (ad 4)), (1, .ref (ad (2 * i + 8))), (2, .int (nI (mo)))] → W p l e (headSpec (q_Ro_lengthen :: wA) { frames := 4, cells := 0, slots := 0, locals := 130 }).room s m ([.ref (ad 4), .ref (ad (2 * i + 8)), .int (nI (mo))] : List Value).toArray below meth c H locs 0 0 (MQ below (va_Qv (fun w1 : St => eqB w w1 [i, 13] ∧ NV w1 i (r9 * 2 ^ mo + (if nb x9 ≤ mo then x9 else 2 ^ mo - 1))) (BW D cI cB cR ad) (AA ad s.heap.size)) ([.ref (ad 4), .ref (ad (2 * i + 8)), .int (nI (mo))] : List Value).toArray s 0 0 (AA ad s.heap.size)) (F0 m 19 ls []) := by
    intro w1 y9 H locs ls hE hR hY hyl hye hP hD hS hl
    refine lv_aload_n hx hb d_Ro_lengthen_19 rfl (lv_at hl 1 rfl) ?_
    refine lv_aload_n hx hb d_Ro_lengthen_20 rfl (lv_at hl 1 rfl) ?_
    refine lv_iload_n hx hb d_Ro_lengthen_21 rfl (lv_at hl 2 rfl) ?_
    refine wV_v (As := [.ref (ad (2 * i + 8)), .int (nI (mo))]) (rest := []) (n := 2) ⟨hx, hb, hml, hown, hts⟩ (c_Na_putMovedU l w1 _ (i := i) (a := i) (n := mo) (by omega) (by omega) hR (by omega) (fitU hR hfr (by omega))) (cwV0 2 hts lm_Ro_58 im_Na_putMoved se_Na_putMoved in_Na kq_Na_putMoved rfl rfl rfl (by decide +kernel) ⟨Nat.le_of_ble_eq_true rfl, Nat.le_of_ble_eq_true rfl⟩) (recvN hKW.1 hP (i := i) (by omega)) hKW hP hD hS rfl hl.1 rfl (Nat.le_of_ble_eq_true rfl) d_Ro_lengthen_22 ⟨Nat.zero_le _, Nat.zero_le _⟩ (fun w2 H locs hp hP hD hS => ?_)
    obtain ⟨hE2, hV2⟩ := hp
    have hY2 := hE2.nv (show 13 ≠ i by omega) hY
    have hy2 : y9 < 2 ^ (32 * 6271) := Nat.lt_of_lt_of_le hyl (Nat.pow_le_pow_right (by decide) (by omega))
    have hr2 : r9 * 2 ^ mo < 2 ^ (32 * 6271) := Nat.lt_of_lt_of_le hfr (Nat.pow_le_pow_right (by decide) (by omega))
    refine lv_aload_n hx hb d_Ro_lengthen_25 rfl (lv_at hl 1 rfl) ?_
    refine lv_aload_n hx hb d_Ro_lengthen_26 rfl (lv_at hl 1 rfl) ?_
    refine lv_aload_n hx hb d_Ro_lengthen_27 rfl (lv_at hl 0 rfl) ?_
    refine nw_gO2 hx hb hts hown hKW.1 hP lf_Ro_19 d_Ro_lengthen_28 ?_
    refine wV_v (As := [.ref (ad (2 * i + 8)), .ref (ad 34)]) (rest := []) (n := 2) ⟨hx, hb, hml, hown, hts⟩ (c_Na_putSum l w2 _ (i := i) (a := i) (b := 13) (by omega) (by omega) (by omega) hV2 hY2 (fitL hV2 hr2) (fitL hY2 hy2)) (cwV0 2 hts lm_Ro_86 im_Na_putSum se_Na_putSum in_Na kq_Na_putSum rfl rfl rfl (by decide +kernel) ⟨Nat.le_of_ble_eq_true rfl, Nat.le_of_ble_eq_true rfl⟩) (recvN hKW.1 hP (i := i) (by omega)) hKW hP hD hS rfl hl.1 rfl (Nat.le_of_ble_eq_true rfl) d_Ro_lengthen_31 ⟨Nat.zero_le _, Nat.zero_le _⟩ (fun w3 H locs hp hP hD hS => ?_)
    obtain ⟨hE3, hV3⟩ := hp
    have hi9 : i ∈ [i, 13] := List.mem_cons_self ..
    exact W.vret hx hb hr (fun t ht hW => ⟨⟨w3, rfl, ⟨(hE.trans (hE2.B hi9)).trans (hE3.B hi9), hye ▸ hV3⟩, BW_of ht hP⟩, hS.F ht⟩) hS.2.2 d_Ro_lengthen_34
  refine lv_iload_n hx hb d_Ro_lengthen_7 rfl (lv_at hl 2 rfl) ?_
  refine lv_icmp_le (tgt := 19) hx hb d_Ro_lengthen_8 (by decide) (fun c8 => ?_) (fun c8 => ?_)
  · skip
    have c8 : nb x9 ≤ mo := (nI_leI (by omega) (by omega)).mp c8
    exact tail9 w x9 H locs ls (eqB_refl _ _) hR hX (nb_le_iff.mp c8) (by rw [if_pos c8]) hP hD hS hl
  · skip
    have c8 : ¬ (nb x9 ≤ mo) := fun h => c8 ((nI_leI (by omega) (by omega)).mpr h)
    refine lv_aload_n hx hb d_Ro_lengthen_11 rfl (lv_at hl 0 rfl) ?_
    refine nw_gO2 hx hb hts hown hKW.1 hP lf_Ro_19 d_Ro_lengthen_12 ?_
    refine lv_iload_n hx hb d_Ro_lengthen_15 rfl (lv_at hl 2 rfl) ?_
    refine wV_v (As := [.int (nI (mo))]) (rest := []) (n := 1) ⟨hx, hb, hml, hown, hts⟩ (c_Na_putOnes l w _ (i := 13) (n := mo) (by omega) (by omega)) (cwV0 1 hts lm_Ro_82 im_Na_putOnes se_Na_putOnes in_Na kq_Na_putOnes rfl rfl rfl (by decide +kernel) ⟨Nat.le_of_ble_eq_true rfl, Nat.le_of_ble_eq_true rfl⟩) (recvN hKW.1 hP (i := 13) (by omega)) hKW hP hD hS rfl hl.1 rfl (Nat.le_of_ble_eq_true rfl) d_Ro_lengthen_16 ⟨Nat.zero_le _, Nat.zero_le _⟩ (fun w1 H locs hp hP hD hS => ?_)
    obtain ⟨hE1, hV1⟩ := hp
    have h13 : 13 ∈ [i, 13] := List.mem_cons_of_mem _ (List.mem_singleton.mpr rfl)
    have hp2 : 0 < 2 ^ mo := Nat.pow_pos (by decide)
    exact tail9 w1 (2 ^ mo - 1) H locs ls (hE1.B h13) (hE1.nv (by omega) hR) hV1 (by omega) (by rw [if_neg c8]) hP hD hS hl
set_option maxHeartbeats 4000000 in
set_option maxRecDepth 100000 in
/-- lowerToFit(root, n, bench) -/
theorem c_Ro_lowerToFit (l : Launch) {D : va_G} {cI cB cR : ClassId} {ad : Nat → Nat} (w : St) (sz : Nat) {i n v r9 k9 : Nat} (hi : i < 11) (hn2 : 2 ≤ n) (hn : n ≤ 100) (hV : NV w 13 v) (hR : NV w i k9) (hr9 : isRoot v n r9) (hc1 : r9 ≤ k9) (hc2 : k9 ≤ r9 + 3) (hfit : k9 ^ n < 2 ^ 200640) : Met l y_Ro_lowerToFit (q_Ro_lowerToFit :: wA) { frames := 47, cells := 0, slots := 0, locals := 1900 } (va_Pc [.ref (ad 4), .ref (ad (2 * i + 8)), .int (nI (n)), .ref (ad 2)] (PW D cI cB cR ad w sz)) (va_Qv (fun w1 : St => eqB w w1 [i, 11, 12] ∧ NV w1 i r9 ∧ NV w1 11 (r9 ^ (n - 1)) ∧ NV w1 12 (r9 ^ n)) (BW D cI cB cR ad) (AA ad sz)) 0 0 (AA ad sz) := by
  refine Met.ofW (cc := b_Ro_lowerToFit) (maxL := 6) (ret := none) (by decide) rfl ?_
  intro p e s m args below meth c s₁ B hml hv
  obtain ⟨rfl, hsz, hP, hD0, hKW⟩ := hv
  have hx := B.exec
  have hb := B.bytes
  have hr := B.returns
  have hts := atoms_spec (ws := q_Ro_lowerToFit :: wA) B.pre
  have hown : s.vm.findClass R_Ro = some m.cls := findClass_of_methodNamed B.named
  have hlocks := B.notSynchronized
  subst hsz
  have hD := NC_AA (sz := s.heap.size) hD0
  have hS : va_S (AA ad s.heap.size) s.heap s.heap [] := va_S.rf
  have hl := lv_entry ([.ref (ad 4), .ref (ad (2 * i + 8)), .int (nI (n)), .ref (ad 2)]) (n := 6) (Nat.le_of_ble_eq_true rfl)
  rw [lg_entry_eq]
  generalize (lg_sl ([.ref (ad 4), .ref (ad (2 * i + 8)), .int (nI (n)), .ref (ad 2)]) ++ List.replicate (6 - (lg_sl ([.ref (ad 4), .ref (ad (2 * i + 8)), .int (nI (n)), .ref (ad 2)])).length) Slot.unset).toArray = ls at hl ⊢
  have hl : lv_has ls 6 [(0, .ref (ad 4)), (1, .ref (ad (2 * i + 8))), (2, .int (nI (n))), (3, .ref (ad 2))] := hl
  refine lv_iconst (v := nI (0)) hx hb d_Ro_lowerToFit_0 (by decide) ?_
  refine lv_istore (lv' := [(4, .int (nI (0))), (0, .ref (ad 4)), (1, .ref (ad (2 * i + 8))), (2, .int (nI (n))), (3, .ref (ad 2))]) hx hb d_Ro_lowerToFit_1 hl (by decide) rfl (fun ls hl => ?_)
  refine lv_iconst (v := nI (0)) hx hb d_Ro_lowerToFit_3 (by decide) ?_
  refine lv_istore (lv' := [(5, .int (nI (0))), (4, .int (nI (0))), (0, .ref (ad 4)), (1, .ref (ad (2 * i + 8))), (2, .int (nI (n))), (3, .ref (ad 2))]) hx hb d_Ro_lowerToFit_4 hl (by decide) rfl (fun ls hl => ?_)
  have done : ∀ (j : Nat) (w2 : St) (H : Heap) (locs : List Loc) (ls : Array Slot), j < 2 ^ 20 → eqB w w2 [i, 11, 12] → NV w2 i r9 → NV w2 11 (r9 ^ (n - 1)) → NV w2 12 (r9 ^ n) → va_P D clA (NC cI cB cR ad (w2)) H → va_D (AA ad s.heap.size) (NC cI cB cR ad (w2)) → va_S (AA ad s.heap.size) s.heap H locs → lv_has ls 6 [(5, .int (nI (j))), (4, .int (nI (1))), (0, .ref (ad 4)), (1, .ref (ad (2 * i + 8))), (2, .int (nI (n))), (3, .ref (ad 2))] → W p l e (headSpec (q_Ro_lowerToFit :: wA) { frames := 47, cells := 0, slots := 0, locals := 1900 }).room s m ([.ref (ad 4), .ref (ad (2 * i + 8)), .int (nI (n)), .ref (ad 2)] : List Value).toArray below meth c H locs 0 0 (MQ below (va_Qv (fun w1 : St => eqB w w1 [i, 11, 12] ∧ NV w1 i r9 ∧ NV w1 11 (r9 ^ (n - 1)) ∧ NV w1 12 (r9 ^ n)) (BW D cI cB cR ad) (AA ad s.heap.size)) ([.ref (ad 4), .ref (ad (2 * i + 8)), .int (nI (n)), .ref (ad 2)] : List Value).toArray s 0 0 (AA ad s.heap.size)) (F0 m 6 ls []) := by
    intro j w2 H locs ls hj hE h1 h2 h3 hP hD hS hl
    refine lv_iload hx hb d_Ro_lowerToFit_6 (lv_at hl 0 rfl) ?_
    refine lv_iconst (v := nI (4)) hx hb d_Ro_lowerToFit_8 (by decide) ?_
    refine lv_icmp_ge (tgt := 87) hx hb d_Ro_lowerToFit_9 (by decide) (fun c9 => ?_) (fun c9 => ?_)
    · skip
      have c9 : 4 ≤ j := (nI_leI (by omega) (by omega)).mp c9
      exact W.vret hx hb hr (fun t ht hW => ⟨⟨w2, rfl, ⟨hE, h1, h2, h3⟩, BW_of ht hP⟩, hS.F ht⟩) hS.2.2 d_Ro_lowerToFit_87
    · skip
      have c9 : ¬ (4 ≤ j) := fun h => c9 ((nI_leI (by omega) (by omega)).mpr h)
      refine lv_iload hx hb d_Ro_lowerToFit_12 (lv_at hl 1 rfl) ?_
      refine lv_if_ne (tgt := 87) hx hb d_Ro_lowerToFit_14 (by decide) (fun c14 => ?_) (fun c14 => ?_)
      · skip
        exact W.vret hx hb hr (fun t ht hW => ⟨⟨w2, rfl, ⟨hE, h1, h2, h3⟩, BW_of ht hP⟩, hS.F ht⟩) hS.2.2 d_Ro_lowerToFit_87
      · exact absurd c14 (by decide)
  have loop : ∀ (mm j q9 : Nat) (w2 : St) (H : Heap) (locs : List Loc) (ls : Array Slot), j + mm = 4 → r9 ≤ q9 → q9 + j ≤ r9 + 3 → q9 ≤ k9 → eqB w w2 [i, 11, 12] → NV w2 i q9 → va_P D clA (NC cI cB cR ad (w2)) H → va_D (AA ad s.heap.size) (NC cI cB cR ad (w2)) → va_S (AA ad s.heap.size) s.heap H locs → lv_has ls 6 [(5, .int (nI (j))), (4, .int (nI (0))), (0, .ref (ad 4)), (1, .ref (ad (2 * i + 8))), (2, .int (nI (n))), (3, .ref (ad 2))] → W p l e (headSpec (q_Ro_lowerToFit :: wA) { frames := 47, cells := 0, slots := 0, locals := 1900 }).room s m ([.ref (ad 4), .ref (ad (2 * i + 8)), .int (nI (n)), .ref (ad 2)] : List Value).toArray below meth c H locs 0 0 (MQ below (va_Qv (fun w1 : St => eqB w w1 [i, 11, 12] ∧ NV w1 i r9 ∧ NV w1 11 (r9 ^ (n - 1)) ∧ NV w1 12 (r9 ^ n)) (BW D cI cB cR ad) (AA ad s.heap.size)) ([.ref (ad 4), .ref (ad (2 * i + 8)), .int (nI (n)), .ref (ad 2)] : List Value).toArray s 0 0 (AA ad s.heap.size)) (F0 m 6 ls []) := by
    intro mm
    induction mm with
    | zero =>
      intro j q9 w2 H locs ls hj h1 h2
      exfalso
      omega
    | succ mm ih =>
      intro j q9 w2 H locs ls hj h1 h2 h3 hE hQ hP hD hS hl
      refine lv_iload hx hb d_Ro_lowerToFit_6 (lv_at hl 0 rfl) ?_
      refine lv_iconst (v := nI (4)) hx hb d_Ro_lowerToFit_8 (by decide) ?_
      refine lv_icmp_ge (tgt := 87) hx hb d_Ro_lowerToFit_9 (by decide) (fun c9 => ?_) (fun c9 => ?_)
      · exact absurd c9 (nI_ge (by omega) (by omega))
      · skip
        refine lv_iload hx hb d_Ro_lowerToFit_12 (lv_at hl 1 rfl) ?_
        refine lv_if_ne (tgt := 87) hx hb d_Ro_lowerToFit_14 (by decide) (fun c14 => ?_) (fun c14 => ?_)
        · exact absurd nI_0 c14
        · skip
          refine lv_aload_n hx hb d_Ro_lowerToFit_17 rfl (lv_at hl 5 rfl) ?_
          refine lv_aload_n hx hb d_Ro_lowerToFit_18 rfl (lv_at hl 2 rfl) ?_
          refine nw_gO0 hx hb hts hown hKW.1 hP lf_Ro_10 d_Ro_lowerToFit_19 ?_
          refine lv_aload_n hx hb d_Ro_lowerToFit_22 rfl (lv_at hl 3 rfl) ?_
          refine lv_iload_n hx hb d_Ro_lowerToFit_23 rfl (lv_at hl 4 rfl) ?_
          refine lv_iconst (v := nI (1)) hx hb d_Ro_lowerToFit_24 (by decide) ?_
          refine nw_isub (v := nI (n - 1)) hx hb d_Ro_lowerToFit_25 (pk_sub (by omega)) ?_
          have hqf : q9 ^ n < 2 ^ 200640 := Nat.lt_of_le_of_lt (Nat.pow_le_pow_left h3 n) hfit
          have hqg : q9 ^ (n - 1) < 2 ^ 200640 := pow_fit (by omega) hqf (by rw [← Nat.pow_zero 2]; exact Nat.pow_lt_pow_right (by decide) (by decide))
          refine wV_v (As := [.ref (ad 30), .ref (ad (2 * i + 8)), .int (nI (n - 1))]) (rest := []) (n := 3) ⟨hx, hb, hml, hown, hts⟩ (c_Be_putPower l w2 _ (i := 11) (a := i) (n := n - 1) (by omega) (by omega) (by omega) hQ (by omega) hqg) (cwV0 3 hts lm_Ro_89 im_Be_putPower se_Be_putPower in_Be kq_Be_putPower rfl rfl rfl (by decide +kernel) ⟨Nat.le_of_ble_eq_true rfl, Nat.le_of_ble_eq_true rfl⟩) (recvB hKW.1 hP) hKW hP hD hS rfl hl.1 rfl (Nat.le_of_ble_eq_true rfl) d_Ro_lowerToFit_26 ⟨Nat.zero_le _, Nat.zero_le _⟩ (fun w3 H locs hp hP hD hS => ?_)
          obtain ⟨hE3, hL3⟩ := hp
          have hQ3 := hE3.nv (by simp only [List.mem_cons, List.not_mem_nil, or_false]; omega) hQ
          have hE03 := hE.trans (hE3.mono (q := [i, 11, 12]) (fun j h => by simp only [List.mem_cons, List.not_mem_nil, or_false] at h ⊢; omega))
          have hpw : q9 ^ (n - 1) * q9 = q9 ^ n := by rw [← Nat.pow_succ, show (n - 1).succ = n by omega]
          refine lv_aload_n hx hb d_Ro_lowerToFit_29 rfl (lv_at hl 5 rfl) ?_
          refine lv_aload_n hx hb d_Ro_lowerToFit_30 rfl (lv_at hl 2 rfl) ?_
          refine nw_gO1 hx hb hts hown hKW.1 hP lf_Ro_16 d_Ro_lowerToFit_31 ?_
          refine lv_iload_n hx hb d_Ro_lowerToFit_34 rfl (lv_at hl 4 rfl) ?_
          refine lv_iconst (v := nI (2)) hx hb d_Ro_lowerToFit_35 (by decide) ?_
          refine lv_icmp_ne (tgt := 43) hx hb d_Ro_lowerToFit_36 (by decide) (fun c36 => ?_) (fun c36 => ?_)
          · skip
            have c36 : ¬ (n = 2) := fun h => c36 ((nI_eq (by omega) (by omega)).mpr h)
            refine lv_aload_n hx hb d_Ro_lowerToFit_43 rfl (lv_at hl 2 rfl) ?_
            refine nw_gO0 hx hb hts hown hKW.1 hP lf_Ro_10 d_Ro_lowerToFit_44 ?_
            refine lv_aload_n hx hb d_Ro_lowerToFit_47 rfl (lv_at hl 3 rfl) ?_
            refine wV_v (As := [.ref (ad 32), .ref (ad 30), .ref (ad (2 * i + 8))]) (rest := []) (n := 3) ⟨hx, hb, hml, hown, hts⟩ (c_Be_putProduct l w3 _ (i := 12) (a := 11) (b := i) (by omega) (by omega) (by omega) hL3 hQ3 (fitM hL3 hQ3 (by rw [hpw]; exact hqf))) (cwV0 3 hts lm_Ro_93 im_Be_putProduct se_Be_putProduct in_Be kq_Be_putProduct rfl rfl rfl (by decide +kernel) ⟨Nat.le_of_ble_eq_true rfl, Nat.le_of_ble_eq_true rfl⟩) (recvB hKW.1 hP) hKW hP hD hS rfl hl.1 rfl (Nat.le_of_ble_eq_true rfl) d_Ro_lowerToFit_48 ⟨Nat.zero_le _, Nat.zero_le _⟩ (fun w4 H locs hp hP hD hS => ?_)
            obtain ⟨hE4, hW4⟩ := hp
            rw [hpw] at hW4
            have hQ4 := hE4.nv (by simp only [List.mem_cons, List.not_mem_nil, or_false]; omega) hQ3
            have hL4 := hE4.nv (by decide) hL3
            have hE04 := hE03.trans (hE4.mono (q := [i, 11, 12]) (fun j h => by simp only [List.mem_cons, List.not_mem_nil, or_false] at h ⊢; omega))
            have hV4 : NV w4 13 v := hE04.nv (by simp only [List.mem_cons, List.not_mem_nil, or_false]; omega) hV
            refine lv_aload_n hx hb d_Ro_lowerToFit_51 rfl (lv_at hl 2 rfl) ?_
            refine nw_gO1 hx hb hts hown hKW.1 hP lf_Ro_16 d_Ro_lowerToFit_52 ?_
            refine lv_aload_n hx hb d_Ro_lowerToFit_55 rfl (lv_at hl 2 rfl) ?_
            refine nw_gO2 hx hb hts hown hKW.1 hP lf_Ro_19 d_Ro_lowerToFit_56 ?_
            refine wV_i (As := [.ref (ad 34)]) (rest := []) (n := 1) ⟨hx, hb, hml, hown, hts⟩ (c_Na_order l w4 _ (i := 12) (b := 13) (by omega) (by omega) hW4 hV4) (cwV0 1 hts lm_Ro_97 im_Na_order se_Na_order in_Na kq_Na_order rfl rfl rfl (by decide +kernel) ⟨Nat.le_of_ble_eq_true rfl, Nat.le_of_ble_eq_true rfl⟩) (recvN hKW.1 hP (i := 12) (by omega)) hKW hP hD hS rfl hl.1 rfl (Nat.le_of_ble_eq_true rfl) d_Ro_lowerToFit_59 ⟨Nat.zero_le _, Nat.zero_le _⟩ (fun r w5 H locs hp hP hD hS => ?_)
            obtain ⟨er, ew⟩ := hp
            rw [ew] at hP hD
            subst er
            refine lv_if_gt (tgt := 69) hx hb d_Ro_lowerToFit_62 (by decide) (fun c62 => ?_) (fun c62 => ?_)
            · skip
              have c62 : v < q9 ^ n := cmpN_pos.mp c62
              have hlt := root_lt hr9 c62
              refine lv_iconst (v := nI (0)) hx hb d_Ro_lowerToFit_69 (by decide) ?_
              refine lv_istore (lv' := [(4, .int (nI (0))), (5, .int (nI (j))), (0, .ref (ad 4)), (1, .ref (ad (2 * i + 8))), (2, .int (nI (n))), (3, .ref (ad 2))]) hx hb d_Ro_lowerToFit_70 hl (by decide) rfl (fun ls hl => ?_)
              refine lv_iload hx hb d_Ro_lowerToFit_72 (lv_at hl 0 rfl) ?_
              refine lv_if_ne (tgt := 81) hx hb d_Ro_lowerToFit_74 (by decide) (fun c74 => ?_) (fun c74 => ?_)
              · exact absurd nI_0 c74
              · skip
                refine lv_aload_n hx hb d_Ro_lowerToFit_77 rfl (lv_at hl 3 rfl) ?_
                refine wV_v (As := []) (rest := []) (n := 0) ⟨hx, hb, hml, hown, hts⟩ (c_Na_takeOne l w4 _ (i := i) (by omega) hQ4 (by omega)) (cwV0 0 hts lm_Ro_101 im_Na_takeOne se_Na_takeOne in_Na kq_Na_takeOne rfl rfl rfl (by decide +kernel) ⟨Nat.le_of_ble_eq_true rfl, Nat.le_of_ble_eq_true rfl⟩) (recvN hKW.1 hP (i := i) (by omega)) hKW hP hD hS rfl hl.1 rfl (Nat.le_of_ble_eq_true rfl) d_Ro_lowerToFit_78 ⟨Nat.zero_le _, Nat.zero_le _⟩ (fun w6 H locs hp hP hD hS => ?_)
                obtain ⟨hE6, hQ6⟩ := hp
                refine lv_iinc (v := nI (j + 1)) (lv' := [(5, .int (nI (j + 1))), (4, .int (nI (0))), (0, .ref (ad 4)), (1, .ref (ad (2 * i + 8))), (2, .int (nI (n))), (3, .ref (ad 2))]) hx hb d_Ro_lowerToFit_81 hl (k := 1) rfl (nI_add _ 1) (by decide) rfl (fun ls hl => ?_)
                refine lv_goto (tgt := 6) hx hb d_Ro_lowerToFit_84 (by decide) ?_
                exact ih (j + 1) (q9 - 1) w6 H locs ls (by omega) (by omega) (by omega) (by omega) (hE04.trans (hE6.B (List.mem_cons_self ..))) hQ6 hP hD hS (lv_sub hl [0, 1, 2, 3, 4, 5] rfl)
            · skip
              have c62 : q9 ^ n ≤ v := Nat.not_lt.mp (fun h => c62 (cmpN_pos.mpr h))
              have hqr : r9 = q9 := Nat.le_antisymm h1 (root_le hr9 c62 (by omega))
              refine lv_iconst (v := nI (1)) hx hb d_Ro_lowerToFit_65 (by decide) ?_
              refine lv_goto (tgt := 70) hx hb d_Ro_lowerToFit_66 (by decide) ?_
              refine lv_istore (lv' := [(4, .int (nI (1))), (5, .int (nI (j))), (0, .ref (ad 4)), (1, .ref (ad (2 * i + 8))), (2, .int (nI (n))), (3, .ref (ad 2))]) hx hb d_Ro_lowerToFit_70 hl (by decide) rfl (fun ls hl => ?_)
              refine lv_iload hx hb d_Ro_lowerToFit_72 (lv_at hl 0 rfl) ?_
              refine lv_if_ne (tgt := 81) hx hb d_Ro_lowerToFit_74 (by decide) (fun c74 => ?_) (fun c74 => ?_)
              · skip
                refine lv_iinc (v := nI (j + 1)) (lv' := [(5, .int (nI (j + 1))), (4, .int (nI (1))), (0, .ref (ad 4)), (1, .ref (ad (2 * i + 8))), (2, .int (nI (n))), (3, .ref (ad 2))]) hx hb d_Ro_lowerToFit_81 hl (k := 1) rfl (nI_add _ 1) (by decide) rfl (fun ls hl => ?_)
                refine lv_goto (tgt := 6) hx hb d_Ro_lowerToFit_84 (by decide) ?_
                exact done (j + 1) w4 H locs ls (by omega) hE04 (hqr ▸ hQ4) (hqr ▸ hL4) (hqr ▸ hW4) hP hD hS (lv_sub hl [0, 1, 2, 3, 4, 5] rfl)
              · exact absurd c74 (by decide)
          · skip
            have c36 : n = 2 := (nI_eq (by omega) (by omega)).mp c36
            refine lv_aload_n hx hb d_Ro_lowerToFit_39 rfl (lv_at hl 3 rfl) ?_
            refine lv_goto (tgt := 47) hx hb d_Ro_lowerToFit_40 (by decide) ?_
            refine lv_aload_n hx hb d_Ro_lowerToFit_47 rfl (lv_at hl 3 rfl) ?_
            have hsq : q9 * q9 = q9 ^ n := by rw [c36, Nat.pow_two]
            refine wV_v (As := [.ref (ad 32), .ref (ad (2 * i + 8)), .ref (ad (2 * i + 8))]) (rest := []) (n := 3) ⟨hx, hb, hml, hown, hts⟩ (c_Be_putProduct l w3 _ (i := 12) (a := i) (b := i) (by omega) (by omega) (by omega) hQ3 hQ3 (fitM hQ3 hQ3 (by rw [hsq]; exact hqf))) (cwV0 3 hts lm_Ro_93 im_Be_putProduct se_Be_putProduct in_Be kq_Be_putProduct rfl rfl rfl (by decide +kernel) ⟨Nat.le_of_ble_eq_true rfl, Nat.le_of_ble_eq_true rfl⟩) (recvB hKW.1 hP) hKW hP hD hS rfl hl.1 rfl (Nat.le_of_ble_eq_true rfl) d_Ro_lowerToFit_48 ⟨Nat.zero_le _, Nat.zero_le _⟩ (fun w4 H locs hp hP hD hS => ?_)
            obtain ⟨hE4, hW4⟩ := hp
            rw [hsq] at hW4
            have hQ4 := hE4.nv (by simp only [List.mem_cons, List.not_mem_nil, or_false]; omega) hQ3
            have hL4 := hE4.nv (by decide) hL3
            have hE04 := hE03.trans (hE4.mono (q := [i, 11, 12]) (fun j h => by simp only [List.mem_cons, List.not_mem_nil, or_false] at h ⊢; omega))
            have hV4 : NV w4 13 v := hE04.nv (by simp only [List.mem_cons, List.not_mem_nil, or_false]; omega) hV
            refine lv_aload_n hx hb d_Ro_lowerToFit_51 rfl (lv_at hl 2 rfl) ?_
            refine nw_gO1 hx hb hts hown hKW.1 hP lf_Ro_16 d_Ro_lowerToFit_52 ?_
            refine lv_aload_n hx hb d_Ro_lowerToFit_55 rfl (lv_at hl 2 rfl) ?_
            refine nw_gO2 hx hb hts hown hKW.1 hP lf_Ro_19 d_Ro_lowerToFit_56 ?_
            refine wV_i (As := [.ref (ad 34)]) (rest := []) (n := 1) ⟨hx, hb, hml, hown, hts⟩ (c_Na_order l w4 _ (i := 12) (b := 13) (by omega) (by omega) hW4 hV4) (cwV0 1 hts lm_Ro_97 im_Na_order se_Na_order in_Na kq_Na_order rfl rfl rfl (by decide +kernel) ⟨Nat.le_of_ble_eq_true rfl, Nat.le_of_ble_eq_true rfl⟩) (recvN hKW.1 hP (i := 12) (by omega)) hKW hP hD hS rfl hl.1 rfl (Nat.le_of_ble_eq_true rfl) d_Ro_lowerToFit_59 ⟨Nat.zero_le _, Nat.zero_le _⟩ (fun r w5 H locs hp hP hD hS => ?_)
            obtain ⟨er, ew⟩ := hp
            rw [ew] at hP hD
            subst er
            refine lv_if_gt (tgt := 69) hx hb d_Ro_lowerToFit_62 (by decide) (fun c62 => ?_) (fun c62 => ?_)
            · skip
              have c62 : v < q9 ^ n := cmpN_pos.mp c62
              have hlt := root_lt hr9 c62
              refine lv_iconst (v := nI (0)) hx hb d_Ro_lowerToFit_69 (by decide) ?_
              refine lv_istore (lv' := [(4, .int (nI (0))), (5, .int (nI (j))), (0, .ref (ad 4)), (1, .ref (ad (2 * i + 8))), (2, .int (nI (n))), (3, .ref (ad 2))]) hx hb d_Ro_lowerToFit_70 hl (by decide) rfl (fun ls hl => ?_)
              refine lv_iload hx hb d_Ro_lowerToFit_72 (lv_at hl 0 rfl) ?_
              refine lv_if_ne (tgt := 81) hx hb d_Ro_lowerToFit_74 (by decide) (fun c74 => ?_) (fun c74 => ?_)
              · exact absurd nI_0 c74
              · skip
                refine lv_aload_n hx hb d_Ro_lowerToFit_77 rfl (lv_at hl 3 rfl) ?_
                refine wV_v (As := []) (rest := []) (n := 0) ⟨hx, hb, hml, hown, hts⟩ (c_Na_takeOne l w4 _ (i := i) (by omega) hQ4 (by omega)) (cwV0 0 hts lm_Ro_101 im_Na_takeOne se_Na_takeOne in_Na kq_Na_takeOne rfl rfl rfl (by decide +kernel) ⟨Nat.le_of_ble_eq_true rfl, Nat.le_of_ble_eq_true rfl⟩) (recvN hKW.1 hP (i := i) (by omega)) hKW hP hD hS rfl hl.1 rfl (Nat.le_of_ble_eq_true rfl) d_Ro_lowerToFit_78 ⟨Nat.zero_le _, Nat.zero_le _⟩ (fun w6 H locs hp hP hD hS => ?_)
                obtain ⟨hE6, hQ6⟩ := hp
                refine lv_iinc (v := nI (j + 1)) (lv' := [(5, .int (nI (j + 1))), (4, .int (nI (0))), (0, .ref (ad 4)), (1, .ref (ad (2 * i + 8))), (2, .int (nI (n))), (3, .ref (ad 2))]) hx hb d_Ro_lowerToFit_81 hl (k := 1) rfl (nI_add _ 1) (by decide) rfl (fun ls hl => ?_)
                refine lv_goto (tgt := 6) hx hb d_Ro_lowerToFit_84 (by decide) ?_
                exact ih (j + 1) (q9 - 1) w6 H locs ls (by omega) (by omega) (by omega) (by omega) (hE04.trans (hE6.B (List.mem_cons_self ..))) hQ6 hP hD hS (lv_sub hl [0, 1, 2, 3, 4, 5] rfl)
            · skip
              have c62 : q9 ^ n ≤ v := Nat.not_lt.mp (fun h => c62 (cmpN_pos.mpr h))
              have hqr : r9 = q9 := Nat.le_antisymm h1 (root_le hr9 c62 (by omega))
              refine lv_iconst (v := nI (1)) hx hb d_Ro_lowerToFit_65 (by decide) ?_
              refine lv_goto (tgt := 70) hx hb d_Ro_lowerToFit_66 (by decide) ?_
              refine lv_istore (lv' := [(4, .int (nI (1))), (5, .int (nI (j))), (0, .ref (ad 4)), (1, .ref (ad (2 * i + 8))), (2, .int (nI (n))), (3, .ref (ad 2))]) hx hb d_Ro_lowerToFit_70 hl (by decide) rfl (fun ls hl => ?_)
              refine lv_iload hx hb d_Ro_lowerToFit_72 (lv_at hl 0 rfl) ?_
              refine lv_if_ne (tgt := 81) hx hb d_Ro_lowerToFit_74 (by decide) (fun c74 => ?_) (fun c74 => ?_)
              · skip
                refine lv_iinc (v := nI (j + 1)) (lv' := [(5, .int (nI (j + 1))), (4, .int (nI (1))), (0, .ref (ad 4)), (1, .ref (ad (2 * i + 8))), (2, .int (nI (n))), (3, .ref (ad 2))]) hx hb d_Ro_lowerToFit_81 hl (k := 1) rfl (nI_add _ 1) (by decide) rfl (fun ls hl => ?_)
                refine lv_goto (tgt := 6) hx hb d_Ro_lowerToFit_84 (by decide) ?_
                exact done (j + 1) w4 H locs ls (by omega) hE04 (hqr ▸ hQ4) (hqr ▸ hL4) (hqr ▸ hW4) hP hD hS (lv_sub hl [0, 1, 2, 3, 4, 5] rfl)
              · exact absurd c74 (by decide)
  exact loop 4 0 k9 w _ _ ls (by omega) hc1 (by omega) (Nat.le_refl _) (eqB_refl _ _) hR hP hD hS hl

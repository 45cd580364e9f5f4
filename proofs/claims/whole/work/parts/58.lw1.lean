/-! THE FACE: requireRange, refuseBeyond, registerAt, keep (rows laid by wip/whole/gen/c_lw1.py) -/
set_option maxHeartbeats 4000000 in
set_option maxRecDepth 100000 in
/-- requireRange(value, least, most) -/
theorem c_Lw_requireRange (l : Launch) {D : va_G} {cI cB cR : ClassId} {ad : Nat → Nat} (w : St) (sz : Nat) (hl9 : l.stackTraces = false) (x lo hi9 : Int32) : vx_Met l y_Lw_requireRange (q_Lw_requireRange :: wA) { frames := 6, cells := 1, slots := 6, locals := 90 } (va_Pc [.int (x), .int (lo), .int (hi9)] (PW D cI cB cR ad w sz)) (va_Qv (fun w1 : St => w1 = w ∧ lo ≤ x ∧ x ≤ hi9) (BW D cI cB cR ad) (AA ad sz)) (XW D cI cB cR ad (fun E u => E = E_IA ∧ u = w ∧ ¬ (lo ≤ x ∧ x ≤ hi9)) sz) 1 6 (AA ad sz) := by
  refine vx_ofW (cc := b_Lw_requireRange) (maxL := 3) (ret := none) (by decide) rfl ?_
  intro p e s m args below meth c s₁ B hml htab hv
  obtain ⟨rfl, hsz, hP, hD0, hKW⟩ := hv
  have hx := B.exec
  have hb := B.bytes
  have hr := B.returns
  have hts := atoms_spec (ws := q_Lw_requireRange :: wA) B.pre
  have hown : s.vm.findClass R_Lw = some m.cls := findClass_of_methodNamed B.named
  have hlocks := B.notSynchronized
  subst hsz
  have hD := NC_AA (sz := s.heap.size) hD0
  have hS : va_S (AA ad s.heap.size) s.heap s.heap [] := va_S.rf
  have hl := lv_entry ([.int (x), .int (lo), .int (hi9)]) (n := 3) (Nat.le_of_ble_eq_true rfl)
  rw [lg_entry_eq]
  generalize (lg_sl ([.int (x), .int (lo), .int (hi9)]) ++ List.replicate (3 - (lg_sl ([.int (x), .int (lo), .int (hi9)])).length) Slot.unset).toArray = ls at hl ⊢
  have hl : lv_has ls 3 [(0, .int (x)), (1, .int (lo)), (2, .int (hi9))] := hl
  refine lv_iload_n hx hb d_Lw_requireRange_0 rfl (lv_at hl 0 rfl) ?_
  refine lv_iload_n hx hb d_Lw_requireRange_1 rfl (lv_at hl 1 rfl) ?_
  refine lv_icmp_lt (tgt := 10) hx hb d_Lw_requireRange_2 (by decide) (fun c2 => ?_) (fun c2 => ?_)
  · skip
    exact xthrow hx hb hl9 hown (by decide) hts ta_Lw_IA tb_Lw_IA tg_Lw_IA tk_Lw_IA ti_IA hKW hP hS (hl.1.trans hml.symm) d_Lw_requireRange_10 d_Lw_requireRange_13 d_Lw_requireRange_14 d_Lw_requireRange_17 htab hlocks (Nat.le_of_ble_eq_true rfl) (Nat.le_of_ble_eq_true rfl) (Nat.le_of_ble_eq_true rfl) (Nat.le_of_ble_eq_true rfl) (Nat.le_of_ble_eq_true rfl) (Nat.le_of_ble_eq_true rfl) (⟨rfl, rfl, fun h => absurd c2 (Int32.not_lt.mpr h.1)⟩)
  · skip
    refine lv_iload_n hx hb d_Lw_requireRange_5 rfl (lv_at hl 0 rfl) ?_
    refine lv_iload_n hx hb d_Lw_requireRange_6 rfl (lv_at hl 2 rfl) ?_
    refine lv_icmp_le (tgt := 18) hx hb d_Lw_requireRange_7 (by decide) (fun c7 => ?_) (fun c7 => ?_)
    · skip
      exact vx_ret (W.widen (k := 1) (n := 6) (Nat.le_of_ble_eq_true rfl) (Nat.le_of_ble_eq_true rfl) (W.vret hx hb hr (fun t ht hW => ⟨⟨w, rfl, ⟨rfl, Int32.not_lt.mp c2, c7⟩, BW_of ht hP⟩, hS.F ht⟩) hS.2.2 d_Lw_requireRange_18))
    · skip
      exact xthrow hx hb hl9 hown (by decide) hts ta_Lw_IA tb_Lw_IA tg_Lw_IA tk_Lw_IA ti_IA hKW hP hS (hl.1.trans hml.symm) d_Lw_requireRange_10 d_Lw_requireRange_13 d_Lw_requireRange_14 d_Lw_requireRange_17 htab hlocks (Nat.le_of_ble_eq_true rfl) (Nat.le_of_ble_eq_true rfl) (Nat.le_of_ble_eq_true rfl) (Nat.le_of_ble_eq_true rfl) (Nat.le_of_ble_eq_true rfl) (Nat.le_of_ble_eq_true rfl) (⟨rfl, rfl, fun h => c7 h.2⟩)
set_option maxHeartbeats 4000000 in
set_option maxRecDepth 100000 in
/-- refuseBeyond(amount, most) -/
theorem c_Lw_refuseBeyond (l : Launch) {D : va_G} {cI cB cR : ClassId} {ad : Nat → Nat} (w : St) (sz : Nat) (hl9 : l.stackTraces = false) (x hi9 : Int32) : vx_Met l y_Lw_refuseBeyond (q_Lw_refuseBeyond :: wA) { frames := 6, cells := 1, slots := 6, locals := 90 } (va_Pc [.int (x), .int (hi9)] (PW D cI cB cR ad w sz)) (va_Qv (fun w1 : St => w1 = w ∧ x ≤ hi9) (BW D cI cB cR ad) (AA ad sz)) (XW D cI cB cR ad (fun E u => E = E_IS ∧ u = w ∧ ¬ x ≤ hi9) sz) 1 6 (AA ad sz) := by
  refine vx_ofW (cc := b_Lw_refuseBeyond) (maxL := 2) (ret := none) (by decide) rfl ?_
  intro p e s m args below meth c s₁ B hml htab hv
  obtain ⟨rfl, hsz, hP, hD0, hKW⟩ := hv
  have hx := B.exec
  have hb := B.bytes
  have hr := B.returns
  have hts := atoms_spec (ws := q_Lw_refuseBeyond :: wA) B.pre
  have hown : s.vm.findClass R_Lw = some m.cls := findClass_of_methodNamed B.named
  have hlocks := B.notSynchronized
  subst hsz
  have hD := NC_AA (sz := s.heap.size) hD0
  have hS : va_S (AA ad s.heap.size) s.heap s.heap [] := va_S.rf
  have hl := lv_entry ([.int (x), .int (hi9)]) (n := 2) (Nat.le_of_ble_eq_true rfl)
  rw [lg_entry_eq]
  generalize (lg_sl ([.int (x), .int (hi9)]) ++ List.replicate (2 - (lg_sl ([.int (x), .int (hi9)])).length) Slot.unset).toArray = ls at hl ⊢
  have hl : lv_has ls 2 [(0, .int (x)), (1, .int (hi9))] := hl
  refine lv_iload_n hx hb d_Lw_refuseBeyond_0 rfl (lv_at hl 0 rfl) ?_
  refine lv_iload_n hx hb d_Lw_refuseBeyond_1 rfl (lv_at hl 1 rfl) ?_
  refine lv_icmp_le (tgt := 13) hx hb d_Lw_refuseBeyond_2 (by decide) (fun c2 => ?_) (fun c2 => ?_)
  · skip
    exact vx_ret (W.widen (k := 1) (n := 6) (Nat.le_of_ble_eq_true rfl) (Nat.le_of_ble_eq_true rfl) (W.vret hx hb hr (fun t ht hW => ⟨⟨w, rfl, ⟨rfl, c2⟩, BW_of ht hP⟩, hS.F ht⟩) hS.2.2 d_Lw_refuseBeyond_13))
  · skip
    exact xthrow hx hb hl9 hown (by decide) hts ta_Lw_IS tb_Lw_IS tg_Lw_IS tk_Lw_IS ti_IS hKW hP hS (hl.1.trans hml.symm) d_Lw_refuseBeyond_5 d_Lw_refuseBeyond_8 d_Lw_refuseBeyond_9 d_Lw_refuseBeyond_12 htab hlocks (Nat.le_of_ble_eq_true rfl) (Nat.le_of_ble_eq_true rfl) (Nat.le_of_ble_eq_true rfl) (Nat.le_of_ble_eq_true rfl) (Nat.le_of_ble_eq_true rfl) (Nat.le_of_ble_eq_true rfl) (⟨rfl, rfl, c2⟩)
theorem reg_ix {x : Int32} (h1 : nI 0 ≤ x) (h2 : x ≤ nI 9) : ∃ i, i < 10 ∧ x = nI i := by
  refine ⟨wN x, ?_, (nI_wN x).symm⟩
  have e1 := Int32.le_iff_toInt_le.mp h1
  have e2 := Int32.le_iff_toInt_le.mp h2
  have e3 : (nI 0).toInt = 0 := by decide
  have e4 : (nI 9).toInt = 9 := by decide
  rw [e3] at e1
  rw [e4] at e2
  have e5 : (wN x : Int) = x.toInt ∨ (wN x : Int) = x.toInt + 4294967296 := by
    show ((x.toBitVec.toNat : Nat) : Int) = x.toBitVec.toInt ∨ ((x.toBitVec.toNat : Nat) : Int) = x.toBitVec.toInt + 4294967296
    rw [BitVec.toInt_eq_toNat_cond]
    have := x.toBitVec.isLt
    split <;> omega
  have e6 := wN_lt x
  omega
set_option maxHeartbeats 4000000 in
set_option maxRecDepth 100000 in
/-- registerAt(register) -/
theorem c_Lw_registerAt (l : Launch) {D : va_G} {cI cB cR : ClassId} {ad : Nat → Nat} (w : St) (sz : Nat) (hl9 : l.stackTraces = false) (x : Int32) : vx_Met l y_Lw_registerAt (q_Lw_registerAt :: wA) { frames := 8, cells := 1, slots := 6, locals := 130 } (va_Pc [.ref (ad 0), .int (x)] (PW D cI cB cR ad w sz)) (va_Qr (fun u : St × Nat => u.1 = w ∧ ∃ i, i < 10 ∧ x = nI i ∧ u.2 = ad (2 * i + 8)) (fun u ra t => ra = u.2 ∧ BW D cI cB cR ad u.1 t) (AA ad sz)) (XW D cI cB cR ad (fun E u => E = E_IA ∧ u = w ∧ ¬ (nI 0 ≤ x ∧ x ≤ nI 9)) sz) 1 6 (AA ad sz) := by
  refine vx_ofW (cc := b_Lw_registerAt) (maxL := 2) (ret := (some ((.object "LimbWorks$Natural")))) (by decide) rfl ?_
  intro p e s m args below meth c s₁ B hml htab hv
  obtain ⟨rfl, hsz, hP, hD0, hKW⟩ := hv
  have hx := B.exec
  have hb := B.bytes
  have hr := B.returns
  have hts := atoms_spec (ws := q_Lw_registerAt :: wA) B.pre
  have hown : s.vm.findClass R_Lw = some m.cls := findClass_of_methodNamed B.named
  have hlocks := B.notSynchronized
  subst hsz
  have hD := NC_AA (sz := s.heap.size) hD0
  have hS : va_S (AA ad s.heap.size) s.heap s.heap [] := va_S.rf
  have hl := lv_entry ([.ref (ad 0), .int (x)]) (n := 2) (Nat.le_of_ble_eq_true rfl)
  rw [lg_entry_eq]
  generalize (lg_sl ([.ref (ad 0), .int (x)]) ++ List.replicate (2 - (lg_sl ([.ref (ad 0), .int (x)])).length) Slot.unset).toArray = ls at hl ⊢
  have hl : lv_has ls 2 [(0, .ref (ad 0)), (1, .int (x))] := hl
  refine lv_iload_n hx hb d_Lw_registerAt_0 rfl (lv_at hl 1 rfl) ?_
  refine lv_iconst (v := nI (0)) hx hb d_Lw_registerAt_1 (by decide) ?_
  refine lv_bipush (v := nI (9)) hx hb d_Lw_registerAt_2 (by decide) ?_
  refine xS_v (As := [.int (x), .int (nI (0)), .int (nI (9))]) (rest := []) (n := 3) ⟨hx, hb, hml, hown, hts⟩ (c_Lw_requireRange l w _ hl9 x (nI 0) (nI 9)) (cwS0 3 hts lm_Lw_70 st_Lw_requireRange in_Lw kq_Lw_requireRange rfl rfl rfl (by decide +kernel) ⟨Nat.le_of_ble_eq_true rfl, Nat.le_of_ble_eq_true rfl⟩) hKW hP hD hS rfl hl.1 rfl (Nat.le_of_ble_eq_true rfl) d_Lw_registerAt_4 ⟨Nat.le_of_ble_eq_true rfl, Nat.le_of_ble_eq_true rfl⟩ htab hlocks ⟨Nat.le_of_ble_eq_true rfl, Nat.le_of_ble_eq_true rfl⟩ (fun E u h => h) (fun w1 H locs hp hP hD hS => ?_)
  obtain ⟨ew, h1, h2⟩ := hp
  rw [ew] at hP hD
  obtain ⟨i, hi, hxi⟩ := reg_ix h1 h2
  subst hxi
  refine lv_aload_n hx hb d_Lw_registerAt_7 rfl (lv_at hl 0 rfl) ?_
  refine nw_gF0 hx hb hts hown hKW.1 hP lf_Lw_11 d_Lw_registerAt_8 ?_
  refine lv_iload_n hx hb d_Lw_registerAt_11 rfl (lv_at hl 1 rfl) ?_
  refine nw_lG hx hb hKW.1 hP (j := i) (by omega) d_Lw_registerAt_12 ?_
  skip
  exact vx_ret (W.widen (k := 1) (n := 6) (Nat.le_of_ble_eq_true rfl) (Nat.le_of_ble_eq_true rfl) (W.aret hx hb hr (Or.inl ⟨_, rfl⟩) (Or.inr ⟨_, rfl⟩) (fun t ht hW => ⟨⟨(w, ad (2 * i + 8)), _, rfl, ⟨rfl, i, hi, rfl, rfl⟩, rfl, BW_of ht hP⟩, hS.F ht⟩) hS.2.2 d_Lw_registerAt_13))
set_option maxHeartbeats 4000000 in
set_option maxRecDepth 100000 in
/-- keep(target, value) -/
theorem c_Lw_keep (l : Launch) {D : va_G} {cI cB cR : ClassId} {ad : Nat → Nat} (w : St) (sz : Nat) {i a v : Nat} (hi : i < 14) (ha : a < 14) (hv : NV w a v) : Met l y_Lw_keep (q_Lw_keep :: wA) { frames := 3, cells := 0, slots := 0, locals := 100 } (va_Pc [.ref (ad (2 * i + 8)), .ref (ad (2 * a + 8))] (PW D cI cB cR ad w sz)) (va_Qi (fun (r : Int32) (w1 : St) => r = nI (nb v) ∧ eqN w w1 i ∧ NV w1 i v) (BW D cI cB cR ad) (AA ad sz)) 0 0 (AA ad sz) := by
  refine Met.ofW (cc := b_Lw_keep) (maxL := 2) (ret := (some (.int))) (by decide) rfl ?_
  intro p e s m args below meth c s₁ B hml hv
  obtain ⟨rfl, hsz, hP, hD0, hKW⟩ := hv
  have hx := B.exec
  have hb := B.bytes
  have hr := B.returns
  have hts := atoms_spec (ws := q_Lw_keep :: wA) B.pre
  have hown : s.vm.findClass R_Lw = some m.cls := findClass_of_methodNamed B.named
  have hlocks := B.notSynchronized
  subst hsz
  have hD := NC_AA (sz := s.heap.size) hD0
  have hS : va_S (AA ad s.heap.size) s.heap s.heap [] := va_S.rf
  have hl := lv_entry ([.ref (ad (2 * i + 8)), .ref (ad (2 * a + 8))]) (n := 2) (Nat.le_of_ble_eq_true rfl)
  rw [lg_entry_eq]
  generalize (lg_sl ([.ref (ad (2 * i + 8)), .ref (ad (2 * a + 8))]) ++ List.replicate (2 - (lg_sl ([.ref (ad (2 * i + 8)), .ref (ad (2 * a + 8))])).length) Slot.unset).toArray = ls at hl ⊢
  have hl : lv_has ls 2 [(0, .ref (ad (2 * i + 8))), (1, .ref (ad (2 * a + 8)))] := hl
  refine lv_aload_n hx hb d_Lw_keep_0 rfl (lv_at hl 0 rfl) ?_
  refine lv_aload_n hx hb d_Lw_keep_1 rfl (lv_at hl 1 rfl) ?_
  refine wV_v (As := [.ref (ad (2 * a + 8))]) (rest := []) (n := 1) ⟨hx, hb, hml, hown, hts⟩ (c_Na_putSame l w _ (i := i) (a := a) (by omega) (by omega) hv) (cwV0 1 hts lm_Lw_165 im_Na_putSame se_Na_putSame in_Na kq_Na_putSame rfl rfl rfl (by decide +kernel) ⟨Nat.le_of_ble_eq_true rfl, Nat.le_of_ble_eq_true rfl⟩) (recvN hKW.1 hP (i := i) (by omega)) hKW hP hD hS rfl hl.1 rfl (Nat.le_of_ble_eq_true rfl) d_Lw_keep_2 ⟨Nat.zero_le _, Nat.zero_le _⟩ (fun w1 H locs hp hP hD hS => ?_)
  obtain ⟨hE1, hV1⟩ := hp
  refine lv_aload_n hx hb d_Lw_keep_5 rfl (lv_at hl 0 rfl) ?_
  refine wV_i (As := []) (rest := []) (n := 0) ⟨hx, hb, hml, hown, hts⟩ (c_Na_countBits l w1 _ (i := i) (by omega) hV1) (cwV0 0 hts lm_Lw_60 im_Na_countBits se_Na_countBits in_Na kq_Na_countBits rfl rfl rfl (by decide +kernel) ⟨Nat.le_of_ble_eq_true rfl, Nat.le_of_ble_eq_true rfl⟩) (recvN hKW.1 hP (i := i) (by omega)) hKW hP hD hS rfl hl.1 rfl (Nat.le_of_ble_eq_true rfl) d_Lw_keep_6 ⟨Nat.zero_le _, Nat.zero_le _⟩ (fun r w2 H locs hp hP hD hS => ?_)
  obtain ⟨er, ew⟩ := hp
  rw [ew] at hP hD
  subst er
  exact W.iret (v := nI (nb v)) hx hb hr (fun t ht hW => ⟨⟨_, w1, rfl, ⟨rfl, hE1, hV1⟩, BW_of ht hP⟩, hS.F ht⟩) hS.2.2 d_Lw_keep_9

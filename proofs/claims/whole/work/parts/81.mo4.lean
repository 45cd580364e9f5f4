/-! THE REFERENCE'S CALLS: set, copy, shift, add, subtract, times, divide (rows laid by wip/whole/gen/c_mo4.py) -/
set_option maxHeartbeats 4000000 in
set_option maxRecDepth 100000 in
/-- set0 -/
theorem c_Mo_set0 (l : Launch) {D : va_G} {cI cB cR : ClassId} {ad : Nat → Nat} (w : Mt) (sz : Nat) (hl9 : l.stackTraces = false) (x1 : Int32) {V : Nat} (hV64 : V < 2 ^ 64) (A : Ab) (hMI : MI w A) : vx_Met l y_Mo_set0 (q_Mo_set0 :: wA) { frames := 12, cells := 1, slots := 6, locals := 260 } (va_Pc [.ref (ad 0), .int (x1), .long (lN (V))] (PM D cI cB cR ad w sz)) (va_Qi (fun (r : Int32) (w1 : Mt) => okm (mX w) (sp_set x1 (lN V) A) r w1) (BM D cI cB cR ad) (AM ad sz)) (XM D cI cB cR ad (fun E u => thm9 (sp_set x1 (lN V) A) E_IA E_IS E u) sz) 1 6 (AM ad sz) := by
  refine vx_ofW (cc := b_Mo_set0) (maxL := 4) (ret := (some (.int))) (by decide) rfl ?_
  intro p e s m args below meth c s₁ B hml htab hv
  obtain ⟨rfl, hsz, hP, hD0, hKW⟩ := hv
  have hx := B.exec
  have hb := B.bytes
  have hr := B.returns
  have hts := atoms_spec (ws := q_Mo_set0 :: wA) B.pre
  have hown : s.vm.findClass R_Mo = some m.cls := findClass_of_methodNamed B.named
  have hlocks := B.notSynchronized
  subst hsz
  have hD := NM_AM (sz := s.heap.size) hD0
  have hS : va_S (AM ad s.heap.size) s.heap s.heap [] := va_S.rf
  have hl := lv_entry ([.ref (ad 0), .int (x1), .long (lN (V))]) (n := 4) (Nat.le_of_ble_eq_true rfl)
  rw [lg_entry_eq]
  generalize (lg_sl ([.ref (ad 0), .int (x1), .long (lN (V))]) ++ List.replicate (4 - (lg_sl ([.ref (ad 0), .int (x1), .long (lN (V))])).length) Slot.unset).toArray = ls at hl ⊢
  have hl : lv_has ls 4 [(0, .ref (ad 0)), (1, .int (x1)), (2, .long (lN (V)))] := hl
  have h3 := hMI.w3
  refine lv_iload_n hx hb d_Mo_set0_0 rfl (lv_at hl 1 rfl) ?_
  refine yS_v (As := [.int (x1)]) (rest := []) (n := 1) ⟨hx, hb, hml, hown, hts⟩ (c_Mo_named l w _ hl9 x1) (cwS0 1 hts lm_Mo_77 st_Mo_named in_Mo kq_Mo_named rfl rfl rfl (by decide +kernel) ⟨Nat.le_of_ble_eq_true rfl, Nat.le_of_ble_eq_true rfl⟩) hKW hP hD hS rfl hl.1 rfl (Nat.le_of_ble_eq_true rfl) d_Mo_set0_1 ⟨Nat.le_of_ble_eq_true rfl, Nat.le_of_ble_eq_true rfl⟩ htab hlocks ⟨Nat.le_of_ble_eq_true rfl, Nat.le_of_ble_eq_true rfl⟩ (fun E u h => by obtain ⟨hEx, hu, hn⟩ := h; subst hu; exact ⟨A, hMI, Or.inl ⟨hEx, if_neg (fun q => hn q)⟩⟩) (fun w1 H locs hp hP hD hS => ?_)
  obtain ⟨ew, hr1, hr2⟩ := hp
  rw [ew] at hP hD
  obtain ⟨i1, hi1, hvi1⟩ := reg_ix hr1 hr2
  subst hvi1
  have wni1 : wN (nI i1) = i1 := wN_small (by omega)
  refine lv_aload_n hx hb d_Mo_set0_4 rfl (lv_at hl 0 rfl) ?_
  refine mw_gF1 hx hb hts hown hKW.1 hP lf_Mo_18 d_Mo_set0_5 ?_
  refine lv_lload_n hx hb d_Mo_set0_8 rfl (lv_at hl 2 rfl) ?_
  refine zV_v (As := [.long (lN (V))]) (rest := []) (n := 1) ⟨hx, hb, hml, hown, hts⟩ (c_Mn_set_J l w _ (i := 10) (V := V) (by omega) hV64 h3) (cwV0 1 hts lm_Mo_80 im_Mn_set_J se_Mn_set_J in_Mn kq_Mn_set_J rfl rfl rfl (by decide +kernel) ⟨Nat.le_of_ble_eq_true rfl, Nat.le_of_ble_eq_true rfl⟩) (recMn hKW.1 hP (i := 10) (by omega)) hKW hP hD hS rfl hl.1 rfl (Nat.le_of_ble_eq_true rfl) d_Mo_set0_9 ⟨Nat.le_of_ble_eq_true rfl, Nat.le_of_ble_eq_true rfl⟩ (fun w2 H locs hp hP hD hS => ?_)
  obtain ⟨hE2, hV2, h32⟩ := hp
  refine lv_aload_n hx hb d_Mo_set0_12 rfl (lv_at hl 0 rfl) ?_
  refine lv_iload_n hx hb d_Mo_set0_13 rfl (lv_at hl 1 rfl) ?_
  refine lv_aload_n hx hb d_Mo_set0_14 rfl (lv_at hl 0 rfl) ?_
  refine mw_gF1 hx hb hts hown hKW.1 hP lf_Mo_18 d_Mo_set0_15 ?_
  refine zV_i (As := [.int (nI (i1)), .ref (ad 24)]) (rest := []) (n := 2) ⟨hx, hb, hml, hown, hts⟩ (c_Mo_keep l w2 _ (x := i1) (a := 10) (by omega) (by omega) (by omega) h32 hV2) (cwV0 2 hts lm_Mo_83 im_Mo_keep se_Mo_keep in_Mo kq_Mo_keep rfl rfl rfl (by decide +kernel) ⟨Nat.le_of_ble_eq_true rfl, Nat.le_of_ble_eq_true rfl⟩) (recMo hKW.1 hP) hKW hP hD hS rfl hl.1 rfl (Nat.le_of_ble_eq_true rfl) d_Mo_set0_18 ⟨Nat.le_of_ble_eq_true rfl, Nat.le_of_ble_eq_true rfl⟩ (fun r w3 H locs hp hP hD hS => ?_)
  obtain ⟨er, hEk, hVk, h3k⟩ := hp
  subst er
  have hu : uL (lN V) = V := by show (BitVec.ofNat 64 V).toNat = V; rw [BitVec.toNat_ofNat, Nat.mod_eq_of_lt hV64]
  have h64 : nb V ≤ 64 := nb_le_iff.mpr hV64
  exact vx_ret (W.widen (k := 1) (n := 6) (Nat.le_of_ble_eq_true rfl) (Nat.le_of_ble_eq_true rfl) (W.iret (v := nI (nb (V))) hx hb hr (fun t ht hW => ⟨⟨_, w3, rfl, ⟨pG A i1 V, (hMI.same hE2 h32 (fun j => one10 (by omega))).put hEk h3k (fun j => one_i) hVk (by omega), hEk.X.trans hE2.X, by unfold sp_set; rw [wni1, hu, if_pos (rg_nI hi1)]⟩, BM_of ht hP⟩, hS.F ht⟩) hS.2.2 d_Mo_set0_21))
set_option maxHeartbeats 4000000 in
set_option maxRecDepth 100000 in
/-- copy0 -/
theorem c_Mo_copy0 (l : Launch) {D : va_G} {cI cB cR : ClassId} {ad : Nat → Nat} (w : Mt) (sz : Nat) (hl9 : l.stackTraces = false) (x1 x2 : Int32) (A : Ab) (hMI : MI w A) : vx_Met l y_Mo_copy0 (q_Mo_copy0 :: wA) { frames := 12, cells := 2, slots := 12, locals := 260 } (va_Pc [.ref (ad 0), .int (x1), .int (x2)] (PM D cI cB cR ad w sz)) (va_Qi (fun (r : Int32) (w1 : Mt) => okm (mX w) (sp_copy x1 x2 A) r w1) (BM D cI cB cR ad) (AM ad sz)) (XM D cI cB cR ad (fun E u => thm9 (sp_copy x1 x2 A) E_IA E_IS E u) sz) 2 12 (AM ad sz) := by
  refine vx_ofW (cc := b_Mo_copy0) (maxL := 3) (ret := (some (.int))) (by decide) rfl ?_
  intro p e s m args below meth c s₁ B hml htab hv
  obtain ⟨rfl, hsz, hP, hD0, hKW⟩ := hv
  have hx := B.exec
  have hb := B.bytes
  have hr := B.returns
  have hts := atoms_spec (ws := q_Mo_copy0 :: wA) B.pre
  have hown : s.vm.findClass R_Mo = some m.cls := findClass_of_methodNamed B.named
  have hlocks := B.notSynchronized
  subst hsz
  have hD := NM_AM (sz := s.heap.size) hD0
  have hS : va_S (AM ad s.heap.size) s.heap s.heap [] := va_S.rf
  have hl := lv_entry ([.ref (ad 0), .int (x1), .int (x2)]) (n := 3) (Nat.le_of_ble_eq_true rfl)
  rw [lg_entry_eq]
  generalize (lg_sl ([.ref (ad 0), .int (x1), .int (x2)]) ++ List.replicate (3 - (lg_sl ([.ref (ad 0), .int (x1), .int (x2)])).length) Slot.unset).toArray = ls at hl ⊢
  have hl : lv_has ls 3 [(0, .ref (ad 0)), (1, .int (x1)), (2, .int (x2))] := hl
  have h3 := hMI.w3
  refine lv_iload_n hx hb d_Mo_copy0_0 rfl (lv_at hl 1 rfl) ?_
  refine yS_v (As := [.int (x1)]) (rest := []) (n := 1) ⟨hx, hb, hml, hown, hts⟩ (c_Mo_named l w _ hl9 x1) (cwS0 1 hts lm_Mo_77 st_Mo_named in_Mo kq_Mo_named rfl rfl rfl (by decide +kernel) ⟨Nat.le_of_ble_eq_true rfl, Nat.le_of_ble_eq_true rfl⟩) hKW hP hD hS rfl hl.1 rfl (Nat.le_of_ble_eq_true rfl) d_Mo_copy0_1 ⟨Nat.le_of_ble_eq_true rfl, Nat.le_of_ble_eq_true rfl⟩ htab hlocks ⟨Nat.le_of_ble_eq_true rfl, Nat.le_of_ble_eq_true rfl⟩ (fun E u h => by obtain ⟨hEx, hu, hn⟩ := h; subst hu; exact ⟨A, hMI, Or.inl ⟨hEx, if_neg (fun q => hn q.1)⟩⟩) (fun w1 H locs hp hP hD hS => ?_)
  obtain ⟨ew, hr1, hr2⟩ := hp
  rw [ew] at hP hD
  obtain ⟨i1, hi1, hvi1⟩ := reg_ix hr1 hr2
  subst hvi1
  have wni1 : wN (nI i1) = i1 := wN_small (by omega)
  refine lv_iload_n hx hb d_Mo_copy0_4 rfl (lv_at hl 2 rfl) ?_
  refine yS_v (As := [.int (x2)]) (rest := []) (n := 1) ⟨hx, hb, hml, hown, hts⟩ (c_Mo_named l w _ hl9 x2) (cwS0 1 hts lm_Mo_77 st_Mo_named in_Mo kq_Mo_named rfl rfl rfl (by decide +kernel) ⟨Nat.le_of_ble_eq_true rfl, Nat.le_of_ble_eq_true rfl⟩) hKW hP hD hS rfl hl.1 rfl (Nat.le_of_ble_eq_true rfl) d_Mo_copy0_5 ⟨Nat.le_of_ble_eq_true rfl, Nat.le_of_ble_eq_true rfl⟩ htab hlocks ⟨Nat.le_of_ble_eq_true rfl, Nat.le_of_ble_eq_true rfl⟩ (fun E u h => by obtain ⟨hEx, hu, hn⟩ := h; subst hu; exact ⟨A, hMI, Or.inl ⟨hEx, if_neg (fun q => hn q.2)⟩⟩) (fun w1 H locs hp hP hD hS => ?_)
  obtain ⟨ew, hr1, hr2⟩ := hp
  rw [ew] at hP hD
  obtain ⟨i2, hi2, hvi2⟩ := reg_ix hr1 hr2
  subst hvi2
  have wni2 : wN (nI i2) = i2 := wN_small (by omega)
  refine lv_aload_n hx hb d_Mo_copy0_8 rfl (lv_at hl 0 rfl) ?_
  refine mw_gF1 hx hb hts hown hKW.1 hP lf_Mo_18 d_Mo_copy0_9 ?_
  refine lv_aload_n hx hb d_Mo_copy0_12 rfl (lv_at hl 0 rfl) ?_
  refine mw_gF0 hx hb hts hown hKW.1 hP lf_Mo_11 d_Mo_copy0_13 ?_
  refine lv_iload_n hx hb d_Mo_copy0_16 rfl (lv_at hl 2 rfl) ?_
  refine mw_lG hx hb hKW.1 hP (j := i2) (by omega) d_Mo_copy0_17 ?_
  refine zV_v (As := [.ref (ad (2 * i2 + 4))]) (rest := []) (n := 1) ⟨hx, hb, hml, hown, hts⟩ (c_Mn_set_N l w _ (i := 10) (a := i2) (by omega) (by omega) (by omega) h3 (hMI.reg hi2)) (cwV0 1 hts lm_Mo_69 im_Mn_set_N se_Mn_set_N in_Mn kq_Mn_set_N rfl rfl rfl (by decide +kernel) ⟨Nat.le_of_ble_eq_true rfl, Nat.le_of_ble_eq_true rfl⟩) (recMn hKW.1 hP (i := 10) (by omega)) hKW hP hD hS rfl hl.1 rfl (Nat.le_of_ble_eq_true rfl) d_Mo_copy0_18 ⟨Nat.le_of_ble_eq_true rfl, Nat.le_of_ble_eq_true rfl⟩ (fun w2 H locs hp hP hD hS => ?_)
  obtain ⟨hE2, hV2, h32⟩ := hp
  refine lv_aload_n hx hb d_Mo_copy0_21 rfl (lv_at hl 0 rfl) ?_
  refine lv_iload_n hx hb d_Mo_copy0_22 rfl (lv_at hl 1 rfl) ?_
  refine lv_aload_n hx hb d_Mo_copy0_23 rfl (lv_at hl 0 rfl) ?_
  refine mw_gF1 hx hb hts hown hKW.1 hP lf_Mo_18 d_Mo_copy0_24 ?_
  refine zV_i (As := [.int (nI (i1)), .ref (ad 24)]) (rest := []) (n := 2) ⟨hx, hb, hml, hown, hts⟩ (c_Mo_keep l w2 _ (x := i1) (a := 10) (by omega) (by omega) (by omega) h32 hV2) (cwV0 2 hts lm_Mo_83 im_Mo_keep se_Mo_keep in_Mo kq_Mo_keep rfl rfl rfl (by decide +kernel) ⟨Nat.le_of_ble_eq_true rfl, Nat.le_of_ble_eq_true rfl⟩) (recMo hKW.1 hP) hKW hP hD hS rfl hl.1 rfl (Nat.le_of_ble_eq_true rfl) d_Mo_copy0_27 ⟨Nat.le_of_ble_eq_true rfl, Nat.le_of_ble_eq_true rfl⟩ (fun r w3 H locs hp hP hD hS => ?_)
  obtain ⟨er, hEk, hVk, h3k⟩ := hp
  subst er
  exact vx_ret (W.widen (k := 2) (n := 12) (Nat.le_of_ble_eq_true rfl) (Nat.le_of_ble_eq_true rfl) (W.iret (v := nI (nb (aG A i2))) hx hb hr (fun t ht hW => ⟨⟨_, w3, rfl, ⟨pG A i1 (aG A i2), (hMI.same hE2 h32 (fun j => one10 (by omega))).put hEk h3k (fun j => one_i) hVk (hMI.bits hi2), hEk.X.trans hE2.X, by unfold sp_copy; rw [wni1, wni2, if_pos ⟨rg_nI hi1, rg_nI hi2⟩]⟩, BM_of ht hP⟩, hS.F ht⟩) hS.2.2 d_Mo_copy0_30))
set_option maxHeartbeats 4000000 in
set_option maxRecDepth 100000 in
/-- shift0 -/
theorem c_Mo_shift0 (l : Launch) {D : va_G} {cI cB cR : ClassId} {ad : Nat → Nat} (w : Mt) (sz : Nat) (hl9 : l.stackTraces = false) (x1 x2 n : Int32) (A : Ab) (hMI : MI w A) : vx_Met l y_Mo_shift0 (q_Mo_shift0 :: wA) { frames := 14, cells := 4, slots := 24, locals := 300 } (va_Pc [.ref (ad 0), .int (x1), .int (x2), .int (n)] (PM D cI cB cR ad w sz)) (va_Qi (fun (r : Int32) (w1 : Mt) => okm (mX w) (sp_shift x1 x2 n A) r w1) (BM D cI cB cR ad) (AM ad sz)) (XM D cI cB cR ad (fun E u => thm9 (sp_shift x1 x2 n A) E_IA E_IS E u) sz) 4 24 (AM ad sz) := by
  refine vx_ofW (cc := b_Mo_shift0) (maxL := 4) (ret := (some (.int))) (by decide) rfl ?_
  intro p e s m args below meth c s₁ B hml htab hv
  obtain ⟨rfl, hsz, hP, hD0, hKW⟩ := hv
  have hx := B.exec
  have hb := B.bytes
  have hr := B.returns
  have hts := atoms_spec (ws := q_Mo_shift0 :: wA) B.pre
  have hown : s.vm.findClass R_Mo = some m.cls := findClass_of_methodNamed B.named
  have hlocks := B.notSynchronized
  subst hsz
  have hD := NM_AM (sz := s.heap.size) hD0
  have hS : va_S (AM ad s.heap.size) s.heap s.heap [] := va_S.rf
  have hl := lv_entry ([.ref (ad 0), .int (x1), .int (x2), .int (n)]) (n := 4) (Nat.le_of_ble_eq_true rfl)
  rw [lg_entry_eq]
  generalize (lg_sl ([.ref (ad 0), .int (x1), .int (x2), .int (n)]) ++ List.replicate (4 - (lg_sl ([.ref (ad 0), .int (x1), .int (x2), .int (n)])).length) Slot.unset).toArray = ls at hl ⊢
  have hl : lv_has ls 4 [(0, .ref (ad 0)), (1, .int (x1)), (2, .int (x2)), (3, .int (n))] := hl
  have h3 := hMI.w3
  refine lv_iload_n hx hb d_Mo_shift0_0 rfl (lv_at hl 1 rfl) ?_
  refine yS_v (As := [.int (x1)]) (rest := []) (n := 1) ⟨hx, hb, hml, hown, hts⟩ (c_Mo_named l w _ hl9 x1) (cwS0 1 hts lm_Mo_77 st_Mo_named in_Mo kq_Mo_named rfl rfl rfl (by decide +kernel) ⟨Nat.le_of_ble_eq_true rfl, Nat.le_of_ble_eq_true rfl⟩) hKW hP hD hS rfl hl.1 rfl (Nat.le_of_ble_eq_true rfl) d_Mo_shift0_1 ⟨Nat.le_of_ble_eq_true rfl, Nat.le_of_ble_eq_true rfl⟩ htab hlocks ⟨Nat.le_of_ble_eq_true rfl, Nat.le_of_ble_eq_true rfl⟩ (fun E u h => by obtain ⟨hEx, hu, hn⟩ := h; subst hu; exact ⟨A, hMI, Or.inl ⟨hEx, if_neg (fun q => hn q.1)⟩⟩) (fun w1 H locs hp hP hD hS => ?_)
  obtain ⟨ew, hr1, hr2⟩ := hp
  rw [ew] at hP hD
  obtain ⟨i1, hi1, hvi1⟩ := reg_ix hr1 hr2
  subst hvi1
  have wni1 : wN (nI i1) = i1 := wN_small (by omega)
  refine lv_iload_n hx hb d_Mo_shift0_4 rfl (lv_at hl 2 rfl) ?_
  refine yS_v (As := [.int (x2)]) (rest := []) (n := 1) ⟨hx, hb, hml, hown, hts⟩ (c_Mo_named l w _ hl9 x2) (cwS0 1 hts lm_Mo_77 st_Mo_named in_Mo kq_Mo_named rfl rfl rfl (by decide +kernel) ⟨Nat.le_of_ble_eq_true rfl, Nat.le_of_ble_eq_true rfl⟩) hKW hP hD hS rfl hl.1 rfl (Nat.le_of_ble_eq_true rfl) d_Mo_shift0_5 ⟨Nat.le_of_ble_eq_true rfl, Nat.le_of_ble_eq_true rfl⟩ htab hlocks ⟨Nat.le_of_ble_eq_true rfl, Nat.le_of_ble_eq_true rfl⟩ (fun E u h => by obtain ⟨hEx, hu, hn⟩ := h; subst hu; exact ⟨A, hMI, Or.inl ⟨hEx, if_neg (fun q => hn q.2.1)⟩⟩) (fun w1 H locs hp hP hD hS => ?_)
  obtain ⟨ew, hr1, hr2⟩ := hp
  rw [ew] at hP hD
  obtain ⟨i2, hi2, hvi2⟩ := reg_ix hr1 hr2
  subst hvi2
  have wni2 : wN (nI i2) = i2 := wN_small (by omega)
  refine lv_iload_n hx hb d_Mo_shift0_8 rfl (lv_at hl 3 rfl) ?_
  refine lv_ldc (v := (-200000)) hx hb hown (hA_ hts lk_Mo_87) d_Mo_shift0_9 ?_
  refine lv_ldc (v := 200000) hx hb hown (hA_ hts lk_Mo_88) d_Mo_shift0_11 ?_
  refine zS_i (As := [.int (n), .int (-200000), .int (200000)]) (rest := []) (n := 3) ⟨hx, hb, hml, hown, hts⟩ (c_Mo_in l w _ n (-200000) 200000) (cwS0 3 hts lm_Mo_56 st_Mo_in in_Mo kq_Mo_in rfl rfl rfl (by decide +kernel) ⟨Nat.le_of_ble_eq_true rfl, Nat.le_of_ble_eq_true rfl⟩) hKW hP hD hS rfl hl.1 rfl (Nat.le_of_ble_eq_true rfl) d_Mo_shift0_13 ⟨Nat.le_of_ble_eq_true rfl, Nat.le_of_ble_eq_true rfl⟩ (fun r w1 H locs hp hP hD hS => ?_)
  obtain ⟨ew, hor⟩ := hp
  rw [ew] at hP hD
  refine yS_v (As := [.int (r)]) (rest := []) (n := 1) ⟨hx, hb, hml, hown, hts⟩ (c_Mo_check l w _ hl9 r) (cwS0 1 hts lm_Mo_60 st_Mo_check in_Mo kq_Mo_check rfl rfl rfl (by decide +kernel) ⟨Nat.le_of_ble_eq_true rfl, Nat.le_of_ble_eq_true rfl⟩) hKW hP hD hS rfl hl.1 rfl (Nat.le_of_ble_eq_true rfl) d_Mo_shift0_16 ⟨Nat.le_of_ble_eq_true rfl, Nat.le_of_ble_eq_true rfl⟩ htab hlocks ⟨Nat.le_of_ble_eq_true rfl, Nat.le_of_ble_eq_true rfl⟩ (fun E u h => by obtain ⟨hEx, hu, hz⟩ := h; subst hu; exact ⟨A, hMI, Or.inl ⟨hEx, if_neg (fun q => by rcases hor with z | z; exact absurd (z.1.symm.trans hz) (by decide); exact z.2 q.2.2)⟩⟩) (fun w2 H locs hp hP hD hS => ?_)
  obtain ⟨ew, hne⟩ := hp
  rw [ew] at hP hD
  obtain ⟨hr1, hr2⟩ : (-200000) ≤ n ∧ n ≤ 200000 := by rcases hor with z | z; exact z.2; exact absurd z.1 hne
  refine lv_aload_n hx hb d_Mo_shift0_19 rfl (lv_at hl 0 rfl) ?_
  refine mw_gF1 hx hb hts hown hKW.1 hP lf_Mo_18 d_Mo_shift0_20 ?_
  refine lv_aload_n hx hb d_Mo_shift0_23 rfl (lv_at hl 0 rfl) ?_
  refine mw_gF0 hx hb hts hown hKW.1 hP lf_Mo_11 d_Mo_shift0_24 ?_
  refine lv_iload_n hx hb d_Mo_shift0_27 rfl (lv_at hl 2 rfl) ?_
  refine mw_lG hx hb hKW.1 hP (j := i2) (by omega) d_Mo_shift0_28 ?_
  refine zV_v (As := [.ref (ad (2 * i2 + 4))]) (rest := []) (n := 1) ⟨hx, hb, hml, hown, hts⟩ (c_Mn_set_N l w _ (i := 10) (a := i2) (by omega) (by omega) (by omega) h3 (hMI.reg hi2)) (cwV0 1 hts lm_Mo_69 im_Mn_set_N se_Mn_set_N in_Mn kq_Mn_set_N rfl rfl rfl (by decide +kernel) ⟨Nat.le_of_ble_eq_true rfl, Nat.le_of_ble_eq_true rfl⟩) (recMn hKW.1 hP (i := 10) (by omega)) hKW hP hD hS rfl hl.1 rfl (Nat.le_of_ble_eq_true rfl) d_Mo_shift0_29 ⟨Nat.le_of_ble_eq_true rfl, Nat.le_of_ble_eq_true rfl⟩ (fun w2 H locs hp hP hD hS => ?_)
  obtain ⟨hE2, hV2, h32⟩ := hp
  have hM2 := hMI.same hE2 h32 (fun j => one10 (by omega))
  have hbv := hMI.bits hi2
  have hl2 := fitb3 hV2 hbv (by omega)
  have hl22 := hV2.fitb (Nat.le_refl (nb (aG A i2)))
  have hz2 := hV2.zero
  obtain ⟨L9, hL9⟩ : ∃ L9, mL w2 10 = L9 := ⟨_, rfl⟩
  rw [hL9] at hl2 hz2 hl22
  rcases sh_cases hr1 hr2 with ⟨kk, hk, hnk⟩ | ⟨kk, hk1, hk, hnk⟩
  · skip
    subst hnk
    have hs9 : shv (aG A i2) (nI kk) = aG A i2 * 2 ^ kk := shv_U hk
    have hrg : rg (nI i1) ∧ rg (nI i2) ∧ -200000 ≤ nI kk ∧ nI kk ≤ 200000 := ⟨rg_nI hi1, rg_nI hi2, hr1, hr2⟩
    refine lv_iload_n hx hb d_Mo_shift0_32 rfl (lv_at hl 3 rfl) ?_
    refine lv_if_le (tgt := 60) hx hb d_Mo_shift0_33 (by decide) (fun c33 => ?_) (fun c33 => ?_)
    · skip
      have c33 : kk ≤ 0 := (nI_leI (by omega) (by omega)).mp (by first | (rw [nI_0]; exact c33) | rw [nI_0])
      have ek : kk = 0 := by omega
      subst ek
      rw [Nat.pow_zero, Nat.mul_one] at hs9
      refine lv_iload_n hx hb d_Mo_shift0_60 rfl (lv_at hl 3 rfl) ?_
      refine lv_if_le (tgt := 75) hx hb d_Mo_shift0_61 (by decide) (fun c61 => ?_) (fun c61 => ?_)
      · skip
        have c61 : 0 ≤ 0 := (nI_leI (by omega) (by omega)).mp (by first | (rw [nI_0]; exact c61) | rw [nI_0])
        refine lv_aload_n hx hb d_Mo_shift0_75 rfl (lv_at hl 0 rfl) ?_
        refine mw_gF1 hx hb hts hown hKW.1 hP lf_Mo_18 d_Mo_shift0_76 ?_
        refine lv_iload_n hx hb d_Mo_shift0_79 rfl (lv_at hl 3 rfl) ?_
        refine nw_ineg (v := nI (0)) hx hb d_Mo_shift0_80 (by decide) ?_
        refine zV_v (As := [.int (nI (0))]) (rest := []) (n := 1) ⟨hx, hb, hml, hown, hts⟩ (c_Mn_down l w2 _ (i := 10) (k := 0) (by omega) h32 hV2 (by omega)) (cwV0 1 hts lm_Mo_99 im_Mn_down se_Mn_down in_Mn kq_Mn_down rfl rfl rfl (by decide +kernel) ⟨Nat.le_of_ble_eq_true rfl, Nat.le_of_ble_eq_true rfl⟩) (recMn hKW.1 hP (i := 10) (by omega)) hKW hP hD hS rfl hl.1 rfl (Nat.le_of_ble_eq_true rfl) d_Mo_shift0_81 ⟨Nat.le_of_ble_eq_true rfl, Nat.le_of_ble_eq_true rfl⟩ (fun w4 H locs hp hP hD hS => ?_)
        obtain ⟨hE4, hV4, h34⟩ := hp
        rw [Nat.pow_zero, Nat.div_one] at hV4
        refine lv_aload_n hx hb d_Mo_shift0_84 rfl (lv_at hl 0 rfl) ?_
        refine lv_iload_n hx hb d_Mo_shift0_85 rfl (lv_at hl 1 rfl) ?_
        refine lv_aload_n hx hb d_Mo_shift0_86 rfl (lv_at hl 0 rfl) ?_
        refine mw_gF1 hx hb hts hown hKW.1 hP lf_Mo_18 d_Mo_shift0_87 ?_
        refine zV_i (As := [.int (nI (i1)), .ref (ad 24)]) (rest := []) (n := 2) ⟨hx, hb, hml, hown, hts⟩ (c_Mo_keep l w4 _ (x := i1) (a := 10) (by omega) (by omega) (by omega) h34 hV4) (cwV0 2 hts lm_Mo_83 im_Mo_keep se_Mo_keep in_Mo kq_Mo_keep rfl rfl rfl (by decide +kernel) ⟨Nat.le_of_ble_eq_true rfl, Nat.le_of_ble_eq_true rfl⟩) (recMo hKW.1 hP) hKW hP hD hS rfl hl.1 rfl (Nat.le_of_ble_eq_true rfl) d_Mo_shift0_90 ⟨Nat.le_of_ble_eq_true rfl, Nat.le_of_ble_eq_true rfl⟩ (fun r w5 H locs hp hP hD hS => ?_)
        obtain ⟨er, hEk, hVk, h3k⟩ := hp
        subst er
        exact vx_ret (W.widen (k := 4) (n := 24) (Nat.le_of_ble_eq_true rfl) (Nat.le_of_ble_eq_true rfl) (W.iret (v := nI (nb (aG A i2))) hx hb hr (fun t ht hW => ⟨⟨_, w5, rfl, ⟨pG A i1 (aG A i2), (hM2.same hE4 h34 (fun j => one10 (by omega))).put hEk h3k (fun j => one_i) hVk (by omega), hEk.X.trans (hE4.X.trans hE2.X), by unfold sp_shift; rw [wni1, wni2, hs9, if_pos hrg, if_neg (by omega)]⟩, BM_of ht hP⟩, hS.F ht⟩) hS.2.2 d_Mo_shift0_93))
      · skip
        have c61 : ¬ (0 ≤ 0) := fun h => c61 (by have := (nI_leI (by omega) (by omega)).mpr h; rwa [nI_0] at this)
        omega
    · skip
      have c33 : ¬ (kk ≤ 0) := fun h => c33 (by have := (nI_leI (by omega) (by omega)).mpr h; rwa [nI_0] at this)
      refine lv_aload_n hx hb d_Mo_shift0_36 rfl (lv_at hl 0 rfl) ?_
      refine mw_gF1 hx hb hts hown hKW.1 hP lf_Mo_18 d_Mo_shift0_37 ?_
      refine mw_gL hx hb hts hown hKW.1 hP (i := 10) (by omega) (n := L9) hL9 lf_Mo_89 d_Mo_shift0_40 ?_
      refine lv_if_le (tgt := 60) hx hb d_Mo_shift0_43 (by decide) (fun c43 => ?_) (fun c43 => ?_)
      · skip
        have c43 : L9 ≤ 0 := (nI_leI (by omega) (by omega)).mp (by first | (rw [nI_0]; exact c43) | rw [nI_0])
        have hv0 : aG A i2 = 0 := hz2.mp (by omega)
        have hnb0 : nb (aG A i2 * 2 ^ kk) = 0 := by rw [hv0, Nat.zero_mul]; rfl
        refine lv_iload_n hx hb d_Mo_shift0_60 rfl (lv_at hl 3 rfl) ?_
        refine lv_if_le (tgt := 75) hx hb d_Mo_shift0_61 (by decide) (fun c61 => ?_) (fun c61 => ?_)
        · skip
          have c61 : kk ≤ 0 := (nI_leI (by omega) (by omega)).mp (by first | (rw [nI_0]; exact c61) | rw [nI_0])
          omega
        · skip
          have c61 : ¬ (kk ≤ 0) := fun h => c61 (by have := (nI_leI (by omega) (by omega)).mpr h; rwa [nI_0] at this)
          refine lv_aload_n hx hb d_Mo_shift0_64 rfl (lv_at hl 0 rfl) ?_
          refine mw_gF1 hx hb hts hown hKW.1 hP lf_Mo_18 d_Mo_shift0_65 ?_
          refine lv_iload_n hx hb d_Mo_shift0_68 rfl (lv_at hl 3 rfl) ?_
          refine zV_v (As := [.int (nI (kk))]) (rest := []) (n := 1) ⟨hx, hb, hml, hown, hts⟩ (c_Mn_up l w2 _ (i := 10) (k := kk) (by omega) h32 hV2 hk (by rw [hL9]; omega)) (cwV0 1 hts lm_Mo_96 im_Mn_up se_Mn_up in_Mn kq_Mn_up rfl rfl rfl (by decide +kernel) ⟨Nat.le_of_ble_eq_true rfl, Nat.le_of_ble_eq_true rfl⟩) (recMn hKW.1 hP (i := 10) (by omega)) hKW hP hD hS rfl hl.1 rfl (Nat.le_of_ble_eq_true rfl) d_Mo_shift0_69 ⟨Nat.le_of_ble_eq_true rfl, Nat.le_of_ble_eq_true rfl⟩ (fun w4 H locs hp hP hD hS => ?_)
          obtain ⟨hE4, hV4, h34⟩ := hp
          refine lv_goto (tgt := 84) hx hb d_Mo_shift0_72 (by decide) ?_
          refine lv_aload_n hx hb d_Mo_shift0_84 rfl (lv_at hl 0 rfl) ?_
          refine lv_iload_n hx hb d_Mo_shift0_85 rfl (lv_at hl 1 rfl) ?_
          refine lv_aload_n hx hb d_Mo_shift0_86 rfl (lv_at hl 0 rfl) ?_
          refine mw_gF1 hx hb hts hown hKW.1 hP lf_Mo_18 d_Mo_shift0_87 ?_
          refine zV_i (As := [.int (nI (i1)), .ref (ad 24)]) (rest := []) (n := 2) ⟨hx, hb, hml, hown, hts⟩ (c_Mo_keep l w4 _ (x := i1) (a := 10) (by omega) (by omega) (by omega) h34 hV4) (cwV0 2 hts lm_Mo_83 im_Mo_keep se_Mo_keep in_Mo kq_Mo_keep rfl rfl rfl (by decide +kernel) ⟨Nat.le_of_ble_eq_true rfl, Nat.le_of_ble_eq_true rfl⟩) (recMo hKW.1 hP) hKW hP hD hS rfl hl.1 rfl (Nat.le_of_ble_eq_true rfl) d_Mo_shift0_90 ⟨Nat.le_of_ble_eq_true rfl, Nat.le_of_ble_eq_true rfl⟩ (fun r w5 H locs hp hP hD hS => ?_)
          obtain ⟨er, hEk, hVk, h3k⟩ := hp
          subst er
          exact vx_ret (W.widen (k := 4) (n := 24) (Nat.le_of_ble_eq_true rfl) (Nat.le_of_ble_eq_true rfl) (W.iret (v := nI (nb (aG A i2 * 2 ^ kk))) hx hb hr (fun t ht hW => ⟨⟨_, w5, rfl, ⟨pG A i1 (aG A i2 * 2 ^ kk), (hM2.same hE4 h34 (fun j => one10 (by omega))).put hEk h3k (fun j => one_i) hVk (by omega), hEk.X.trans (hE4.X.trans hE2.X), by unfold sp_shift; rw [wni1, wni2, hs9, if_pos hrg, if_neg (by omega)]⟩, BM_of ht hP⟩, hS.F ht⟩) hS.2.2 d_Mo_shift0_93))
      · skip
        have c43 : ¬ (L9 ≤ 0) := fun h => c43 (by have := (nI_leI (by omega) (by omega)).mpr h; rwa [nI_0] at this)
        have hv0 : aG A i2 ≠ 0 := fun q => by have := hz2.mpr q; omega
        have hnb := nb_mul2 (k := kk) hv0
        refine lv_aload_n hx hb d_Mo_shift0_46 rfl (lv_at hl 0 rfl) ?_
        refine mw_gF1 hx hb hts hown hKW.1 hP lf_Mo_18 d_Mo_shift0_47 ?_
        refine zV_i (As := []) (rest := []) (n := 0) ⟨hx, hb, hml, hown, hts⟩ (c_Mn_bits l w2 _ (i := 10) (by omega) h32 hV2) (cwV0 0 hts lm_Mo_73 im_Mn_bits se_Mn_bits in_Mn kq_Mn_bits rfl rfl rfl (by decide +kernel) ⟨Nat.le_of_ble_eq_true rfl, Nat.le_of_ble_eq_true rfl⟩) (recMn hKW.1 hP (i := 10) (by omega)) hKW hP hD hS rfl hl.1 rfl (Nat.le_of_ble_eq_true rfl) d_Mo_shift0_50 ⟨Nat.le_of_ble_eq_true rfl, Nat.le_of_ble_eq_true rfl⟩ (fun r w3 H locs hp hP hD hS => ?_)
        obtain ⟨er, ew⟩ := hp
        rw [ew] at hP hD
        subst er
        refine lv_i2l (v := lN (nb (aG A i2))) hx hb d_Mo_shift0_53 (nI_l (by omega)) ?_
        refine lv_iload_n hx hb d_Mo_shift0_54 rfl (lv_at hl 3 rfl) ?_
        refine lv_i2l (v := lN (kk)) hx hb d_Mo_shift0_55 (nI_l (by omega)) ?_
        refine nw_ladd (v := lN (nb (aG A i2) + kk)) hx hb d_Mo_shift0_56 (lN_add _ _) ?_
        refine yS_v (As := [.long (lN (nb (aG A i2) + kk))]) (rest := []) (n := 1) ⟨hx, hb, hml, hown, hts⟩ (c_Mo_fits l w2 _ hl9 (b := nb (aG A i2) + kk) (by omega)) (cwS0 1 hts lm_Mo_93 st_Mo_fits in_Mo kq_Mo_fits rfl rfl rfl (by decide +kernel) ⟨Nat.le_of_ble_eq_true rfl, Nat.le_of_ble_eq_true rfl⟩) hKW hP hD hS rfl hl.1 rfl (Nat.le_of_ble_eq_true rfl) d_Mo_shift0_57 ⟨Nat.le_of_ble_eq_true rfl, Nat.le_of_ble_eq_true rfl⟩ htab hlocks ⟨Nat.le_of_ble_eq_true rfl, Nat.le_of_ble_eq_true rfl⟩ (fun E u h => by obtain ⟨hEx, hu, hn⟩ := h; subst hu; exact ⟨A, hM2, Or.inr ⟨hEx, by unfold sp_shift; rw [wni2, hs9, if_pos hrg, if_pos (by omega)]⟩⟩) (fun w3 H locs hp hP hD hS => ?_)
        obtain ⟨ew, hle⟩ := hp
        rw [ew] at hP hD
        refine lv_iload_n hx hb d_Mo_shift0_60 rfl (lv_at hl 3 rfl) ?_
        refine lv_if_le (tgt := 75) hx hb d_Mo_shift0_61 (by decide) (fun c61 => ?_) (fun c61 => ?_)
        · skip
          have c61 : kk ≤ 0 := (nI_leI (by omega) (by omega)).mp (by first | (rw [nI_0]; exact c61) | rw [nI_0])
          omega
        · skip
          have c61 : ¬ (kk ≤ 0) := fun h => c61 (by have := (nI_leI (by omega) (by omega)).mpr h; rwa [nI_0] at this)
          refine lv_aload_n hx hb d_Mo_shift0_64 rfl (lv_at hl 0 rfl) ?_
          refine mw_gF1 hx hb hts hown hKW.1 hP lf_Mo_18 d_Mo_shift0_65 ?_
          refine lv_iload_n hx hb d_Mo_shift0_68 rfl (lv_at hl 3 rfl) ?_
          refine zV_v (As := [.int (nI (kk))]) (rest := []) (n := 1) ⟨hx, hb, hml, hown, hts⟩ (c_Mn_up l w2 _ (i := 10) (k := kk) (by omega) h32 hV2 hk (by rw [hL9]; omega)) (cwV0 1 hts lm_Mo_96 im_Mn_up se_Mn_up in_Mn kq_Mn_up rfl rfl rfl (by decide +kernel) ⟨Nat.le_of_ble_eq_true rfl, Nat.le_of_ble_eq_true rfl⟩) (recMn hKW.1 hP (i := 10) (by omega)) hKW hP hD hS rfl hl.1 rfl (Nat.le_of_ble_eq_true rfl) d_Mo_shift0_69 ⟨Nat.le_of_ble_eq_true rfl, Nat.le_of_ble_eq_true rfl⟩ (fun w4 H locs hp hP hD hS => ?_)
          obtain ⟨hE4, hV4, h34⟩ := hp
          refine lv_goto (tgt := 84) hx hb d_Mo_shift0_72 (by decide) ?_
          refine lv_aload_n hx hb d_Mo_shift0_84 rfl (lv_at hl 0 rfl) ?_
          refine lv_iload_n hx hb d_Mo_shift0_85 rfl (lv_at hl 1 rfl) ?_
          refine lv_aload_n hx hb d_Mo_shift0_86 rfl (lv_at hl 0 rfl) ?_
          refine mw_gF1 hx hb hts hown hKW.1 hP lf_Mo_18 d_Mo_shift0_87 ?_
          refine zV_i (As := [.int (nI (i1)), .ref (ad 24)]) (rest := []) (n := 2) ⟨hx, hb, hml, hown, hts⟩ (c_Mo_keep l w4 _ (x := i1) (a := 10) (by omega) (by omega) (by omega) h34 hV4) (cwV0 2 hts lm_Mo_83 im_Mo_keep se_Mo_keep in_Mo kq_Mo_keep rfl rfl rfl (by decide +kernel) ⟨Nat.le_of_ble_eq_true rfl, Nat.le_of_ble_eq_true rfl⟩) (recMo hKW.1 hP) hKW hP hD hS rfl hl.1 rfl (Nat.le_of_ble_eq_true rfl) d_Mo_shift0_90 ⟨Nat.le_of_ble_eq_true rfl, Nat.le_of_ble_eq_true rfl⟩ (fun r w5 H locs hp hP hD hS => ?_)
          obtain ⟨er, hEk, hVk, h3k⟩ := hp
          subst er
          exact vx_ret (W.widen (k := 4) (n := 24) (Nat.le_of_ble_eq_true rfl) (Nat.le_of_ble_eq_true rfl) (W.iret (v := nI (nb (aG A i2 * 2 ^ kk))) hx hb hr (fun t ht hW => ⟨⟨_, w5, rfl, ⟨pG A i1 (aG A i2 * 2 ^ kk), (hM2.same hE4 h34 (fun j => one10 (by omega))).put hEk h3k (fun j => one_i) hVk (by omega), hEk.X.trans (hE4.X.trans hE2.X), by unfold sp_shift; rw [wni1, wni2, hs9, if_pos hrg, if_neg (by omega)]⟩, BM_of ht hP⟩, hS.F ht⟩) hS.2.2 d_Mo_shift0_93))
  · skip
    subst hnk
    have hs9 : shv (aG A i2) (-nI kk) = aG A i2 / 2 ^ kk := shv_D hk1 hk
    have hrg : rg (nI i1) ∧ rg (nI i2) ∧ -200000 ≤ -nI kk ∧ -nI kk ≤ 200000 := ⟨rg_nI hi1, rg_nI hi2, hr1, hr2⟩
    have hmn := nb_mono (Nat.div_le_self (aG A i2) (2 ^ kk))
    have hneg : -nI kk ≤ 0 := by
      have e1 : -nI kk = iZ (-(kk : Int)) := by rw [nI_iZ]; show -(Int32.ofInt _) = Int32.ofInt _; rw [Int32.ofInt_neg]
      rw [e1, show (0 : Int32) = iZ 0 from rfl, iZ_le (by omega) (by omega) (by omega) (by omega)]
      omega
    refine lv_iload_n hx hb d_Mo_shift0_32 rfl (lv_at hl 3 rfl) ?_
    refine lv_if_le (tgt := 60) hx hb d_Mo_shift0_33 (by decide) (fun c33 => ?_) (fun c33 => ?_)
    · skip
      refine lv_iload_n hx hb d_Mo_shift0_60 rfl (lv_at hl 3 rfl) ?_
      refine lv_if_le (tgt := 75) hx hb d_Mo_shift0_61 (by decide) (fun c61 => ?_) (fun c61 => ?_)
      · skip
        refine lv_aload_n hx hb d_Mo_shift0_75 rfl (lv_at hl 0 rfl) ?_
        refine mw_gF1 hx hb hts hown hKW.1 hP lf_Mo_18 d_Mo_shift0_76 ?_
        refine lv_iload_n hx hb d_Mo_shift0_79 rfl (lv_at hl 3 rfl) ?_
        refine nw_ineg (v := nI (kk)) hx hb d_Mo_shift0_80 (by rw [Int32.neg_neg]) ?_
        refine zV_v (As := [.int (nI (kk))]) (rest := []) (n := 1) ⟨hx, hb, hml, hown, hts⟩ (c_Mn_down l w2 _ (i := 10) (k := kk) (by omega) h32 hV2 (by omega)) (cwV0 1 hts lm_Mo_99 im_Mn_down se_Mn_down in_Mn kq_Mn_down rfl rfl rfl (by decide +kernel) ⟨Nat.le_of_ble_eq_true rfl, Nat.le_of_ble_eq_true rfl⟩) (recMn hKW.1 hP (i := 10) (by omega)) hKW hP hD hS rfl hl.1 rfl (Nat.le_of_ble_eq_true rfl) d_Mo_shift0_81 ⟨Nat.le_of_ble_eq_true rfl, Nat.le_of_ble_eq_true rfl⟩ (fun w4 H locs hp hP hD hS => ?_)
        obtain ⟨hE4, hV4, h34⟩ := hp
        refine lv_aload_n hx hb d_Mo_shift0_84 rfl (lv_at hl 0 rfl) ?_
        refine lv_iload_n hx hb d_Mo_shift0_85 rfl (lv_at hl 1 rfl) ?_
        refine lv_aload_n hx hb d_Mo_shift0_86 rfl (lv_at hl 0 rfl) ?_
        refine mw_gF1 hx hb hts hown hKW.1 hP lf_Mo_18 d_Mo_shift0_87 ?_
        refine zV_i (As := [.int (nI (i1)), .ref (ad 24)]) (rest := []) (n := 2) ⟨hx, hb, hml, hown, hts⟩ (c_Mo_keep l w4 _ (x := i1) (a := 10) (by omega) (by omega) (by omega) h34 hV4) (cwV0 2 hts lm_Mo_83 im_Mo_keep se_Mo_keep in_Mo kq_Mo_keep rfl rfl rfl (by decide +kernel) ⟨Nat.le_of_ble_eq_true rfl, Nat.le_of_ble_eq_true rfl⟩) (recMo hKW.1 hP) hKW hP hD hS rfl hl.1 rfl (Nat.le_of_ble_eq_true rfl) d_Mo_shift0_90 ⟨Nat.le_of_ble_eq_true rfl, Nat.le_of_ble_eq_true rfl⟩ (fun r w5 H locs hp hP hD hS => ?_)
        obtain ⟨er, hEk, hVk, h3k⟩ := hp
        subst er
        exact vx_ret (W.widen (k := 4) (n := 24) (Nat.le_of_ble_eq_true rfl) (Nat.le_of_ble_eq_true rfl) (W.iret (v := nI (nb (aG A i2 / 2 ^ kk))) hx hb hr (fun t ht hW => ⟨⟨_, w5, rfl, ⟨pG A i1 (aG A i2 / 2 ^ kk), (hM2.same hE4 h34 (fun j => one10 (by omega))).put hEk h3k (fun j => one_i) hVk (by omega), hEk.X.trans (hE4.X.trans hE2.X), by unfold sp_shift; rw [wni1, wni2, hs9, if_pos hrg, if_neg (by omega)]⟩, BM_of ht hP⟩, hS.F ht⟩) hS.2.2 d_Mo_shift0_93))
      · exact absurd hneg c61
    · exact absurd hneg c33
set_option maxHeartbeats 4000000 in
set_option maxRecDepth 100000 in
/-- add0 -/
theorem c_Mo_add0 (l : Launch) {D : va_G} {cI cB cR : ClassId} {ad : Nat → Nat} (w : Mt) (sz : Nat) (hl9 : l.stackTraces = false) (x1 x2 x3 : Int32) (A : Ab) (hMI : MI w A) : vx_Met l y_Mo_add0 (q_Mo_add0 :: wA) { frames := 14, cells := 4, slots := 24, locals := 300 } (va_Pc [.ref (ad 0), .int (x1), .int (x2), .int (x3)] (PM D cI cB cR ad w sz)) (va_Qi (fun (r : Int32) (w1 : Mt) => okm (mX w) (sp_add x1 x2 x3 A) r w1) (BM D cI cB cR ad) (AM ad sz)) (XM D cI cB cR ad (fun E u => thm9 (sp_add x1 x2 x3 A) E_IA E_IS E u) sz) 4 24 (AM ad sz) := by
  refine vx_ofW (cc := b_Mo_add0) (maxL := 4) (ret := (some (.int))) (by decide) rfl ?_
  intro p e s m args below meth c s₁ B hml htab hv
  obtain ⟨rfl, hsz, hP, hD0, hKW⟩ := hv
  have hx := B.exec
  have hb := B.bytes
  have hr := B.returns
  have hts := atoms_spec (ws := q_Mo_add0 :: wA) B.pre
  have hown : s.vm.findClass R_Mo = some m.cls := findClass_of_methodNamed B.named
  have hlocks := B.notSynchronized
  subst hsz
  have hD := NM_AM (sz := s.heap.size) hD0
  have hS : va_S (AM ad s.heap.size) s.heap s.heap [] := va_S.rf
  have hl := lv_entry ([.ref (ad 0), .int (x1), .int (x2), .int (x3)]) (n := 4) (Nat.le_of_ble_eq_true rfl)
  rw [lg_entry_eq]
  generalize (lg_sl ([.ref (ad 0), .int (x1), .int (x2), .int (x3)]) ++ List.replicate (4 - (lg_sl ([.ref (ad 0), .int (x1), .int (x2), .int (x3)])).length) Slot.unset).toArray = ls at hl ⊢
  have hl : lv_has ls 4 [(0, .ref (ad 0)), (1, .int (x1)), (2, .int (x2)), (3, .int (x3))] := hl
  have h3 := hMI.w3
  refine lv_iload_n hx hb d_Mo_add0_0 rfl (lv_at hl 1 rfl) ?_
  refine yS_v (As := [.int (x1)]) (rest := []) (n := 1) ⟨hx, hb, hml, hown, hts⟩ (c_Mo_named l w _ hl9 x1) (cwS0 1 hts lm_Mo_77 st_Mo_named in_Mo kq_Mo_named rfl rfl rfl (by decide +kernel) ⟨Nat.le_of_ble_eq_true rfl, Nat.le_of_ble_eq_true rfl⟩) hKW hP hD hS rfl hl.1 rfl (Nat.le_of_ble_eq_true rfl) d_Mo_add0_1 ⟨Nat.le_of_ble_eq_true rfl, Nat.le_of_ble_eq_true rfl⟩ htab hlocks ⟨Nat.le_of_ble_eq_true rfl, Nat.le_of_ble_eq_true rfl⟩ (fun E u h => by obtain ⟨hEx, hu, hn⟩ := h; subst hu; exact ⟨A, hMI, Or.inl ⟨hEx, if_neg (fun q => hn q.1)⟩⟩) (fun w1 H locs hp hP hD hS => ?_)
  obtain ⟨ew, hr1, hr2⟩ := hp
  rw [ew] at hP hD
  obtain ⟨i1, hi1, hvi1⟩ := reg_ix hr1 hr2
  subst hvi1
  have wni1 : wN (nI i1) = i1 := wN_small (by omega)
  refine lv_iload_n hx hb d_Mo_add0_4 rfl (lv_at hl 2 rfl) ?_
  refine yS_v (As := [.int (x2)]) (rest := []) (n := 1) ⟨hx, hb, hml, hown, hts⟩ (c_Mo_named l w _ hl9 x2) (cwS0 1 hts lm_Mo_77 st_Mo_named in_Mo kq_Mo_named rfl rfl rfl (by decide +kernel) ⟨Nat.le_of_ble_eq_true rfl, Nat.le_of_ble_eq_true rfl⟩) hKW hP hD hS rfl hl.1 rfl (Nat.le_of_ble_eq_true rfl) d_Mo_add0_5 ⟨Nat.le_of_ble_eq_true rfl, Nat.le_of_ble_eq_true rfl⟩ htab hlocks ⟨Nat.le_of_ble_eq_true rfl, Nat.le_of_ble_eq_true rfl⟩ (fun E u h => by obtain ⟨hEx, hu, hn⟩ := h; subst hu; exact ⟨A, hMI, Or.inl ⟨hEx, if_neg (fun q => hn q.2.1)⟩⟩) (fun w1 H locs hp hP hD hS => ?_)
  obtain ⟨ew, hr1, hr2⟩ := hp
  rw [ew] at hP hD
  obtain ⟨i2, hi2, hvi2⟩ := reg_ix hr1 hr2
  subst hvi2
  have wni2 : wN (nI i2) = i2 := wN_small (by omega)
  refine lv_iload_n hx hb d_Mo_add0_8 rfl (lv_at hl 3 rfl) ?_
  refine yS_v (As := [.int (x3)]) (rest := []) (n := 1) ⟨hx, hb, hml, hown, hts⟩ (c_Mo_named l w _ hl9 x3) (cwS0 1 hts lm_Mo_77 st_Mo_named in_Mo kq_Mo_named rfl rfl rfl (by decide +kernel) ⟨Nat.le_of_ble_eq_true rfl, Nat.le_of_ble_eq_true rfl⟩) hKW hP hD hS rfl hl.1 rfl (Nat.le_of_ble_eq_true rfl) d_Mo_add0_9 ⟨Nat.le_of_ble_eq_true rfl, Nat.le_of_ble_eq_true rfl⟩ htab hlocks ⟨Nat.le_of_ble_eq_true rfl, Nat.le_of_ble_eq_true rfl⟩ (fun E u h => by obtain ⟨hEx, hu, hn⟩ := h; subst hu; exact ⟨A, hMI, Or.inl ⟨hEx, if_neg (fun q => hn q.2.2)⟩⟩) (fun w1 H locs hp hP hD hS => ?_)
  obtain ⟨ew, hr1, hr2⟩ := hp
  rw [ew] at hP hD
  obtain ⟨i3, hi3, hvi3⟩ := reg_ix hr1 hr2
  subst hvi3
  have wni3 : wN (nI i3) = i3 := wN_small (by omega)
  refine lv_aload_n hx hb d_Mo_add0_12 rfl (lv_at hl 0 rfl) ?_
  refine mw_gF1 hx hb hts hown hKW.1 hP lf_Mo_18 d_Mo_add0_13 ?_
  refine lv_aload_n hx hb d_Mo_add0_16 rfl (lv_at hl 0 rfl) ?_
  refine mw_gF0 hx hb hts hown hKW.1 hP lf_Mo_11 d_Mo_add0_17 ?_
  refine lv_iload_n hx hb d_Mo_add0_20 rfl (lv_at hl 2 rfl) ?_
  refine mw_lG hx hb hKW.1 hP (j := i2) (by omega) d_Mo_add0_21 ?_
  have hb2 := hMI.bits hi2
  have hb3 := hMI.bits hi3
  have hns := nb_add hb2 hb3
  have hrg : rg (nI i1) ∧ rg (nI i2) ∧ rg (nI i3) := ⟨rg_nI hi1, rg_nI hi2, rg_nI hi3⟩
  refine zV_v (As := [.ref (ad (2 * i2 + 4))]) (rest := []) (n := 1) ⟨hx, hb, hml, hown, hts⟩ (c_Mn_set_N l w _ (i := 10) (a := i2) (by omega) (by omega) (by omega) h3 (hMI.reg hi2)) (cwV0 1 hts lm_Mo_69 im_Mn_set_N se_Mn_set_N in_Mn kq_Mn_set_N rfl rfl rfl (by decide +kernel) ⟨Nat.le_of_ble_eq_true rfl, Nat.le_of_ble_eq_true rfl⟩) (recMn hKW.1 hP (i := 10) (by omega)) hKW hP hD hS rfl hl.1 rfl (Nat.le_of_ble_eq_true rfl) d_Mo_add0_22 ⟨Nat.le_of_ble_eq_true rfl, Nat.le_of_ble_eq_true rfl⟩ (fun w2 H locs hp hP hD hS => ?_)
  obtain ⟨hE2, hV2, h32⟩ := hp
  have hM2 := hMI.same hE2 h32 (fun j => one10 (by omega))
  refine lv_aload_n hx hb d_Mo_add0_25 rfl (lv_at hl 0 rfl) ?_
  refine mw_gF1 hx hb hts hown hKW.1 hP lf_Mo_18 d_Mo_add0_26 ?_
  refine lv_aload_n hx hb d_Mo_add0_29 rfl (lv_at hl 0 rfl) ?_
  refine mw_gF0 hx hb hts hown hKW.1 hP lf_Mo_11 d_Mo_add0_30 ?_
  refine lv_iload_n hx hb d_Mo_add0_33 rfl (lv_at hl 3 rfl) ?_
  refine mw_lG hx hb hKW.1 hP (j := i3) (by omega) d_Mo_add0_34 ?_
  refine zV_v (As := [.ref (ad (2 * i3 + 4))]) (rest := []) (n := 1) ⟨hx, hb, hml, hown, hts⟩ (c_Mn_add_N l w2 _ (i := 10) (a := i3) (by omega) (by omega) (by omega) h32 hV2 (hM2.reg hi3) (by have := fitb3 hV2 hb2 (by omega); omega) (by have := fitb3 (hM2.reg hi3) hb3 (by omega); omega)) (cwV0 1 hts lm_Mo_102 im_Mn_add_N se_Mn_add_N in_Mn kq_Mn_add_N rfl rfl rfl (by decide +kernel) ⟨Nat.le_of_ble_eq_true rfl, Nat.le_of_ble_eq_true rfl⟩) (recMn hKW.1 hP (i := 10) (by omega)) hKW hP hD hS rfl hl.1 rfl (Nat.le_of_ble_eq_true rfl) d_Mo_add0_35 ⟨Nat.le_of_ble_eq_true rfl, Nat.le_of_ble_eq_true rfl⟩ (fun w3 H locs hp hP hD hS => ?_)
  obtain ⟨hE3, hV3, h33⟩ := hp
  have hM3 := hM2.same hE3 h33 (fun j => one10 (by omega))
  refine lv_aload_n hx hb d_Mo_add0_38 rfl (lv_at hl 0 rfl) ?_
  refine mw_gF1 hx hb hts hown hKW.1 hP lf_Mo_18 d_Mo_add0_39 ?_
  refine zV_i (As := []) (rest := []) (n := 0) ⟨hx, hb, hml, hown, hts⟩ (c_Mn_bits l w3 _ (i := 10) (by omega) h33 hV3) (cwV0 0 hts lm_Mo_73 im_Mn_bits se_Mn_bits in_Mn kq_Mn_bits rfl rfl rfl (by decide +kernel) ⟨Nat.le_of_ble_eq_true rfl, Nat.le_of_ble_eq_true rfl⟩) (recMn hKW.1 hP (i := 10) (by omega)) hKW hP hD hS rfl hl.1 rfl (Nat.le_of_ble_eq_true rfl) d_Mo_add0_42 ⟨Nat.le_of_ble_eq_true rfl, Nat.le_of_ble_eq_true rfl⟩ (fun r w4 H locs hp hP hD hS => ?_)
  obtain ⟨er, ew⟩ := hp
  rw [ew] at hP hD
  subst er
  refine lv_i2l (v := lN (nb (aG A i2 + aG A i3))) hx hb d_Mo_add0_45 (nI_l (by omega)) ?_
  refine yS_v (As := [.long (lN (nb (aG A i2 + aG A i3)))]) (rest := []) (n := 1) ⟨hx, hb, hml, hown, hts⟩ (c_Mo_fits l w3 _ hl9 (b := nb (aG A i2 + aG A i3)) (by omega)) (cwS0 1 hts lm_Mo_93 st_Mo_fits in_Mo kq_Mo_fits rfl rfl rfl (by decide +kernel) ⟨Nat.le_of_ble_eq_true rfl, Nat.le_of_ble_eq_true rfl⟩) hKW hP hD hS rfl hl.1 rfl (Nat.le_of_ble_eq_true rfl) d_Mo_add0_46 ⟨Nat.le_of_ble_eq_true rfl, Nat.le_of_ble_eq_true rfl⟩ htab hlocks ⟨Nat.le_of_ble_eq_true rfl, Nat.le_of_ble_eq_true rfl⟩ (fun E u h => by obtain ⟨hEx, hu, hn⟩ := h; subst hu; exact ⟨A, hM3, Or.inr ⟨hEx, by unfold sp_add; rw [wni2, wni3, if_pos hrg, if_pos hn]⟩⟩) (fun w4 H locs hp hP hD hS => ?_)
  obtain ⟨ew, hle⟩ := hp
  rw [ew] at hP hD
  refine lv_aload_n hx hb d_Mo_add0_49 rfl (lv_at hl 0 rfl) ?_
  refine lv_iload_n hx hb d_Mo_add0_50 rfl (lv_at hl 1 rfl) ?_
  refine lv_aload_n hx hb d_Mo_add0_51 rfl (lv_at hl 0 rfl) ?_
  refine mw_gF1 hx hb hts hown hKW.1 hP lf_Mo_18 d_Mo_add0_52 ?_
  refine zV_i (As := [.int (nI (i1)), .ref (ad 24)]) (rest := []) (n := 2) ⟨hx, hb, hml, hown, hts⟩ (c_Mo_keep l w3 _ (x := i1) (a := 10) (by omega) (by omega) (by omega) h33 hV3) (cwV0 2 hts lm_Mo_83 im_Mo_keep se_Mo_keep in_Mo kq_Mo_keep rfl rfl rfl (by decide +kernel) ⟨Nat.le_of_ble_eq_true rfl, Nat.le_of_ble_eq_true rfl⟩) (recMo hKW.1 hP) hKW hP hD hS rfl hl.1 rfl (Nat.le_of_ble_eq_true rfl) d_Mo_add0_55 ⟨Nat.le_of_ble_eq_true rfl, Nat.le_of_ble_eq_true rfl⟩ (fun r w5 H locs hp hP hD hS => ?_)
  obtain ⟨er, hEk, hVk, h3k⟩ := hp
  subst er
  exact vx_ret (W.widen (k := 4) (n := 24) (Nat.le_of_ble_eq_true rfl) (Nat.le_of_ble_eq_true rfl) (W.iret (v := nI (nb (aG A i2 + aG A i3))) hx hb hr (fun t ht hW => ⟨⟨_, w5, rfl, ⟨pG A i1 (aG A i2 + aG A i3), hM3.put hEk h3k (fun j => one_i) hVk hle, hEk.X.trans (hE3.X.trans hE2.X), by unfold sp_add; rw [wni1, wni2, wni3, if_pos hrg, if_neg (by omega)]⟩, BM_of ht hP⟩, hS.F ht⟩) hS.2.2 d_Mo_add0_58))
set_option maxHeartbeats 4000000 in
set_option maxRecDepth 100000 in
/-- subtract0 -/
theorem c_Mo_subtract0 (l : Launch) {D : va_G} {cI cB cR : ClassId} {ad : Nat → Nat} (w : Mt) (sz : Nat) (hl9 : l.stackTraces = false) (x1 x2 x3 : Int32) (A : Ab) (hMI : MI w A) : vx_Met l y_Mo_subtract0 (q_Mo_subtract0 :: wA) { frames := 14, cells := 4, slots := 24, locals := 300 } (va_Pc [.ref (ad 0), .int (x1), .int (x2), .int (x3)] (PM D cI cB cR ad w sz)) (va_Qi (fun (r : Int32) (w1 : Mt) => okm (mX w) (sp_subtract x1 x2 x3 A) r w1) (BM D cI cB cR ad) (AM ad sz)) (XM D cI cB cR ad (fun E u => thm9 (sp_subtract x1 x2 x3 A) E_IA E_AR E u) sz) 4 24 (AM ad sz) := by
  refine vx_ofW (cc := b_Mo_subtract0) (maxL := 4) (ret := (some (.int))) (by decide) rfl ?_
  intro p e s m args below meth c s₁ B hml htab hv
  obtain ⟨rfl, hsz, hP, hD0, hKW⟩ := hv
  have hx := B.exec
  have hb := B.bytes
  have hr := B.returns
  have hts := atoms_spec (ws := q_Mo_subtract0 :: wA) B.pre
  have hown : s.vm.findClass R_Mo = some m.cls := findClass_of_methodNamed B.named
  have hlocks := B.notSynchronized
  subst hsz
  have hD := NM_AM (sz := s.heap.size) hD0
  have hS : va_S (AM ad s.heap.size) s.heap s.heap [] := va_S.rf
  have hl := lv_entry ([.ref (ad 0), .int (x1), .int (x2), .int (x3)]) (n := 4) (Nat.le_of_ble_eq_true rfl)
  rw [lg_entry_eq]
  generalize (lg_sl ([.ref (ad 0), .int (x1), .int (x2), .int (x3)]) ++ List.replicate (4 - (lg_sl ([.ref (ad 0), .int (x1), .int (x2), .int (x3)])).length) Slot.unset).toArray = ls at hl ⊢
  have hl : lv_has ls 4 [(0, .ref (ad 0)), (1, .int (x1)), (2, .int (x2)), (3, .int (x3))] := hl
  have h3 := hMI.w3
  refine lv_iload_n hx hb d_Mo_subtract0_0 rfl (lv_at hl 1 rfl) ?_
  refine yS_v (As := [.int (x1)]) (rest := []) (n := 1) ⟨hx, hb, hml, hown, hts⟩ (c_Mo_named l w _ hl9 x1) (cwS0 1 hts lm_Mo_77 st_Mo_named in_Mo kq_Mo_named rfl rfl rfl (by decide +kernel) ⟨Nat.le_of_ble_eq_true rfl, Nat.le_of_ble_eq_true rfl⟩) hKW hP hD hS rfl hl.1 rfl (Nat.le_of_ble_eq_true rfl) d_Mo_subtract0_1 ⟨Nat.le_of_ble_eq_true rfl, Nat.le_of_ble_eq_true rfl⟩ htab hlocks ⟨Nat.le_of_ble_eq_true rfl, Nat.le_of_ble_eq_true rfl⟩ (fun E u h => by obtain ⟨hEx, hu, hn⟩ := h; subst hu; exact ⟨A, hMI, Or.inl ⟨hEx, if_neg (fun q => hn q.1)⟩⟩) (fun w1 H locs hp hP hD hS => ?_)
  obtain ⟨ew, hr1, hr2⟩ := hp
  rw [ew] at hP hD
  obtain ⟨i1, hi1, hvi1⟩ := reg_ix hr1 hr2
  subst hvi1
  have wni1 : wN (nI i1) = i1 := wN_small (by omega)
  refine lv_iload_n hx hb d_Mo_subtract0_4 rfl (lv_at hl 2 rfl) ?_
  refine yS_v (As := [.int (x2)]) (rest := []) (n := 1) ⟨hx, hb, hml, hown, hts⟩ (c_Mo_named l w _ hl9 x2) (cwS0 1 hts lm_Mo_77 st_Mo_named in_Mo kq_Mo_named rfl rfl rfl (by decide +kernel) ⟨Nat.le_of_ble_eq_true rfl, Nat.le_of_ble_eq_true rfl⟩) hKW hP hD hS rfl hl.1 rfl (Nat.le_of_ble_eq_true rfl) d_Mo_subtract0_5 ⟨Nat.le_of_ble_eq_true rfl, Nat.le_of_ble_eq_true rfl⟩ htab hlocks ⟨Nat.le_of_ble_eq_true rfl, Nat.le_of_ble_eq_true rfl⟩ (fun E u h => by obtain ⟨hEx, hu, hn⟩ := h; subst hu; exact ⟨A, hMI, Or.inl ⟨hEx, if_neg (fun q => hn q.2.1)⟩⟩) (fun w1 H locs hp hP hD hS => ?_)
  obtain ⟨ew, hr1, hr2⟩ := hp
  rw [ew] at hP hD
  obtain ⟨i2, hi2, hvi2⟩ := reg_ix hr1 hr2
  subst hvi2
  have wni2 : wN (nI i2) = i2 := wN_small (by omega)
  refine lv_iload_n hx hb d_Mo_subtract0_8 rfl (lv_at hl 3 rfl) ?_
  refine yS_v (As := [.int (x3)]) (rest := []) (n := 1) ⟨hx, hb, hml, hown, hts⟩ (c_Mo_named l w _ hl9 x3) (cwS0 1 hts lm_Mo_77 st_Mo_named in_Mo kq_Mo_named rfl rfl rfl (by decide +kernel) ⟨Nat.le_of_ble_eq_true rfl, Nat.le_of_ble_eq_true rfl⟩) hKW hP hD hS rfl hl.1 rfl (Nat.le_of_ble_eq_true rfl) d_Mo_subtract0_9 ⟨Nat.le_of_ble_eq_true rfl, Nat.le_of_ble_eq_true rfl⟩ htab hlocks ⟨Nat.le_of_ble_eq_true rfl, Nat.le_of_ble_eq_true rfl⟩ (fun E u h => by obtain ⟨hEx, hu, hn⟩ := h; subst hu; exact ⟨A, hMI, Or.inl ⟨hEx, if_neg (fun q => hn q.2.2)⟩⟩) (fun w1 H locs hp hP hD hS => ?_)
  obtain ⟨ew, hr1, hr2⟩ := hp
  rw [ew] at hP hD
  obtain ⟨i3, hi3, hvi3⟩ := reg_ix hr1 hr2
  subst hvi3
  have wni3 : wN (nI i3) = i3 := wN_small (by omega)
  refine lv_aload_n hx hb d_Mo_subtract0_12 rfl (lv_at hl 0 rfl) ?_
  refine mw_gF0 hx hb hts hown hKW.1 hP lf_Mo_11 d_Mo_subtract0_13 ?_
  refine lv_iload_n hx hb d_Mo_subtract0_16 rfl (lv_at hl 2 rfl) ?_
  refine mw_lG hx hb hKW.1 hP (j := i2) (by omega) d_Mo_subtract0_17 ?_
  refine lv_aload_n hx hb d_Mo_subtract0_18 rfl (lv_at hl 0 rfl) ?_
  refine mw_gF0 hx hb hts hown hKW.1 hP lf_Mo_11 d_Mo_subtract0_19 ?_
  refine lv_iload_n hx hb d_Mo_subtract0_22 rfl (lv_at hl 3 rfl) ?_
  refine mw_lG hx hb hKW.1 hP (j := i3) (by omega) d_Mo_subtract0_23 ?_
  have hb2 := hMI.bits hi2
  have hrg : rg (nI i1) ∧ rg (nI i2) ∧ rg (nI i3) := ⟨rg_nI hi1, rg_nI hi2, rg_nI hi3⟩
  refine zV_i (As := [.ref (ad (2 * i3 + 4))]) (rest := []) (n := 1) ⟨hx, hb, hml, hown, hts⟩ (c_Mn_compare l w _ (i := i2) (b := i3) (by omega) (by omega) h3 (hMI.reg hi2) (hMI.reg hi3)) (cwV0 1 hts lm_Mo_105 im_Mn_compare se_Mn_compare in_Mn kq_Mn_compare rfl rfl rfl (by decide +kernel) ⟨Nat.le_of_ble_eq_true rfl, Nat.le_of_ble_eq_true rfl⟩) (recMn hKW.1 hP (i := i2) (by omega)) hKW hP hD hS rfl hl.1 rfl (Nat.le_of_ble_eq_true rfl) d_Mo_subtract0_24 ⟨Nat.le_of_ble_eq_true rfl, Nat.le_of_ble_eq_true rfl⟩ (fun r w2 H locs hp hP hD hS => ?_)
  obtain ⟨er, ew⟩ := hp
  rw [ew] at hP hD
  subst er
  refine lv_if_ge (tgt := 38) hx hb d_Mo_subtract0_27 (by decide) (fun c27 => ?_) (fun c27 => ?_)
  · skip
    have hge : aG A i3 ≤ aG A i2 := by
      rcases Nat.lt_or_ge (aG A i2) (aG A i3) with q | q
      · rw [cmpN_lt q] at c27; exact absurd c27 (by decide)
      · exact q
    refine lv_aload_n hx hb d_Mo_subtract0_38 rfl (lv_at hl 0 rfl) ?_
    refine mw_gF1 hx hb hts hown hKW.1 hP lf_Mo_18 d_Mo_subtract0_39 ?_
    refine lv_aload_n hx hb d_Mo_subtract0_42 rfl (lv_at hl 0 rfl) ?_
    refine mw_gF0 hx hb hts hown hKW.1 hP lf_Mo_11 d_Mo_subtract0_43 ?_
    refine lv_iload_n hx hb d_Mo_subtract0_46 rfl (lv_at hl 2 rfl) ?_
    refine mw_lG hx hb hKW.1 hP (j := i2) (by omega) d_Mo_subtract0_47 ?_
    refine zV_v (As := [.ref (ad (2 * i2 + 4))]) (rest := []) (n := 1) ⟨hx, hb, hml, hown, hts⟩ (c_Mn_set_N l w _ (i := 10) (a := i2) (by omega) (by omega) (by omega) h3 (hMI.reg hi2)) (cwV0 1 hts lm_Mo_69 im_Mn_set_N se_Mn_set_N in_Mn kq_Mn_set_N rfl rfl rfl (by decide +kernel) ⟨Nat.le_of_ble_eq_true rfl, Nat.le_of_ble_eq_true rfl⟩) (recMn hKW.1 hP (i := 10) (by omega)) hKW hP hD hS rfl hl.1 rfl (Nat.le_of_ble_eq_true rfl) d_Mo_subtract0_48 ⟨Nat.le_of_ble_eq_true rfl, Nat.le_of_ble_eq_true rfl⟩ (fun w2 H locs hp hP hD hS => ?_)
    obtain ⟨hE2, hV2, h32⟩ := hp
    have hM2 := hMI.same hE2 h32 (fun j => one10 (by omega))
    refine lv_aload_n hx hb d_Mo_subtract0_51 rfl (lv_at hl 0 rfl) ?_
    refine mw_gF1 hx hb hts hown hKW.1 hP lf_Mo_18 d_Mo_subtract0_52 ?_
    refine lv_aload_n hx hb d_Mo_subtract0_55 rfl (lv_at hl 0 rfl) ?_
    refine mw_gF0 hx hb hts hown hKW.1 hP lf_Mo_11 d_Mo_subtract0_56 ?_
    refine lv_iload_n hx hb d_Mo_subtract0_59 rfl (lv_at hl 3 rfl) ?_
    refine mw_lG hx hb hKW.1 hP (j := i3) (by omega) d_Mo_subtract0_60 ?_
    refine zV_v (As := [.ref (ad (2 * i3 + 4))]) (rest := []) (n := 1) ⟨hx, hb, hml, hown, hts⟩ (c_Mn_less l w2 _ (i := 10) (a := i3) (by omega) (by omega) (by omega) h32 hV2 (hM2.reg hi3) hge) (cwV0 1 hts lm_Mo_112 im_Mn_less se_Mn_less in_Mn kq_Mn_less rfl rfl rfl (by decide +kernel) ⟨Nat.le_of_ble_eq_true rfl, Nat.le_of_ble_eq_true rfl⟩) (recMn hKW.1 hP (i := 10) (by omega)) hKW hP hD hS rfl hl.1 rfl (Nat.le_of_ble_eq_true rfl) d_Mo_subtract0_61 ⟨Nat.le_of_ble_eq_true rfl, Nat.le_of_ble_eq_true rfl⟩ (fun w3 H locs hp hP hD hS => ?_)
    obtain ⟨hE3, hV3, h33⟩ := hp
    have hM3 := hM2.same hE3 h33 (fun j => one10 (by omega))
    refine lv_aload_n hx hb d_Mo_subtract0_64 rfl (lv_at hl 0 rfl) ?_
    refine lv_iload_n hx hb d_Mo_subtract0_65 rfl (lv_at hl 1 rfl) ?_
    refine lv_aload_n hx hb d_Mo_subtract0_66 rfl (lv_at hl 0 rfl) ?_
    refine mw_gF1 hx hb hts hown hKW.1 hP lf_Mo_18 d_Mo_subtract0_67 ?_
    refine zV_i (As := [.int (nI (i1)), .ref (ad 24)]) (rest := []) (n := 2) ⟨hx, hb, hml, hown, hts⟩ (c_Mo_keep l w3 _ (x := i1) (a := 10) (by omega) (by omega) (by omega) h33 hV3) (cwV0 2 hts lm_Mo_83 im_Mo_keep se_Mo_keep in_Mo kq_Mo_keep rfl rfl rfl (by decide +kernel) ⟨Nat.le_of_ble_eq_true rfl, Nat.le_of_ble_eq_true rfl⟩) (recMo hKW.1 hP) hKW hP hD hS rfl hl.1 rfl (Nat.le_of_ble_eq_true rfl) d_Mo_subtract0_70 ⟨Nat.le_of_ble_eq_true rfl, Nat.le_of_ble_eq_true rfl⟩ (fun r w5 H locs hp hP hD hS => ?_)
    obtain ⟨er, hEk, hVk, h3k⟩ := hp
    subst er
    have hmn := nb_mono (Nat.sub_le (aG A i2) (aG A i3))
    exact vx_ret (W.widen (k := 4) (n := 24) (Nat.le_of_ble_eq_true rfl) (Nat.le_of_ble_eq_true rfl) (W.iret (v := nI (nb (aG A i2 - aG A i3))) hx hb hr (fun t ht hW => ⟨⟨_, w5, rfl, ⟨pG A i1 (aG A i2 - aG A i3), hM3.put hEk h3k (fun j => one_i) hVk (by omega), hEk.X.trans (hE3.X.trans hE2.X), by unfold sp_subtract; rw [wni1, wni2, wni3, if_pos hrg, if_neg (by omega)]⟩, BM_of ht hP⟩, hS.F ht⟩) hS.2.2 d_Mo_subtract0_73))
  · skip
    have hlt : aG A i2 < aG A i3 := by
      rcases Nat.lt_trichotomy (aG A i2) (aG A i3) with q | q | q
      · exact q
      · rw [q, cmpN_eq] at c27; exact absurd (by decide) c27
      · rw [cmpN_gt q] at c27; exact absurd (by decide) c27
    exact ythrow hx hb hl9 hown (by decide) hts ta_Mo_AR tb_Mo_AR tg_Mo_AR tk_Mo_AR ti_AR hKW hP hS (hl.1.trans hml.symm) d_Mo_subtract0_30 d_Mo_subtract0_33 d_Mo_subtract0_34 d_Mo_subtract0_37 htab hlocks (Nat.le_of_ble_eq_true rfl) (Nat.le_of_ble_eq_true rfl) (Nat.le_of_ble_eq_true rfl) (Nat.le_of_ble_eq_true rfl) (Nat.le_of_ble_eq_true rfl) (Nat.le_of_ble_eq_true rfl) (⟨A, hMI, Or.inr ⟨rfl, by unfold sp_subtract; rw [wni2, wni3, if_pos hrg, if_pos hlt]⟩⟩)
set_option maxHeartbeats 4000000 in
set_option maxRecDepth 100000 in
/-- times0 -/
theorem c_Mo_times0 (l : Launch) {D : va_G} {cI cB cR : ClassId} {ad : Nat → Nat} (w : Mt) (sz : Nat) (hl9 : l.stackTraces = false) (x1 x2 x3 : Int32) (A : Ab) (hMI : MI w A) : vx_Met l y_Mo_times0 (q_Mo_times0 :: wA) { frames := 14, cells := 4, slots := 24, locals := 300 } (va_Pc [.ref (ad 0), .int (x1), .int (x2), .int (x3)] (PM D cI cB cR ad w sz)) (va_Qi (fun (r : Int32) (w1 : Mt) => okm (mX w) (sp_times x1 x2 x3 A) r w1) (BM D cI cB cR ad) (AM ad sz)) (XM D cI cB cR ad (fun E u => thm9 (sp_times x1 x2 x3 A) E_IA E_IS E u) sz) 4 24 (AM ad sz) := by
  refine vx_ofW (cc := b_Mo_times0) (maxL := 4) (ret := (some (.int))) (by decide) rfl ?_
  intro p e s m args below meth c s₁ B hml htab hv
  obtain ⟨rfl, hsz, hP, hD0, hKW⟩ := hv
  have hx := B.exec
  have hb := B.bytes
  have hr := B.returns
  have hts := atoms_spec (ws := q_Mo_times0 :: wA) B.pre
  have hown : s.vm.findClass R_Mo = some m.cls := findClass_of_methodNamed B.named
  have hlocks := B.notSynchronized
  subst hsz
  have hD := NM_AM (sz := s.heap.size) hD0
  have hS : va_S (AM ad s.heap.size) s.heap s.heap [] := va_S.rf
  have hl := lv_entry ([.ref (ad 0), .int (x1), .int (x2), .int (x3)]) (n := 4) (Nat.le_of_ble_eq_true rfl)
  rw [lg_entry_eq]
  generalize (lg_sl ([.ref (ad 0), .int (x1), .int (x2), .int (x3)]) ++ List.replicate (4 - (lg_sl ([.ref (ad 0), .int (x1), .int (x2), .int (x3)])).length) Slot.unset).toArray = ls at hl ⊢
  have hl : lv_has ls 4 [(0, .ref (ad 0)), (1, .int (x1)), (2, .int (x2)), (3, .int (x3))] := hl
  have h3 := hMI.w3
  refine lv_iload_n hx hb d_Mo_times0_0 rfl (lv_at hl 1 rfl) ?_
  refine yS_v (As := [.int (x1)]) (rest := []) (n := 1) ⟨hx, hb, hml, hown, hts⟩ (c_Mo_named l w _ hl9 x1) (cwS0 1 hts lm_Mo_77 st_Mo_named in_Mo kq_Mo_named rfl rfl rfl (by decide +kernel) ⟨Nat.le_of_ble_eq_true rfl, Nat.le_of_ble_eq_true rfl⟩) hKW hP hD hS rfl hl.1 rfl (Nat.le_of_ble_eq_true rfl) d_Mo_times0_1 ⟨Nat.le_of_ble_eq_true rfl, Nat.le_of_ble_eq_true rfl⟩ htab hlocks ⟨Nat.le_of_ble_eq_true rfl, Nat.le_of_ble_eq_true rfl⟩ (fun E u h => by obtain ⟨hEx, hu, hn⟩ := h; subst hu; exact ⟨A, hMI, Or.inl ⟨hEx, if_neg (fun q => hn q.1)⟩⟩) (fun w1 H locs hp hP hD hS => ?_)
  obtain ⟨ew, hr1, hr2⟩ := hp
  rw [ew] at hP hD
  obtain ⟨i1, hi1, hvi1⟩ := reg_ix hr1 hr2
  subst hvi1
  have wni1 : wN (nI i1) = i1 := wN_small (by omega)
  refine lv_iload_n hx hb d_Mo_times0_4 rfl (lv_at hl 2 rfl) ?_
  refine yS_v (As := [.int (x2)]) (rest := []) (n := 1) ⟨hx, hb, hml, hown, hts⟩ (c_Mo_named l w _ hl9 x2) (cwS0 1 hts lm_Mo_77 st_Mo_named in_Mo kq_Mo_named rfl rfl rfl (by decide +kernel) ⟨Nat.le_of_ble_eq_true rfl, Nat.le_of_ble_eq_true rfl⟩) hKW hP hD hS rfl hl.1 rfl (Nat.le_of_ble_eq_true rfl) d_Mo_times0_5 ⟨Nat.le_of_ble_eq_true rfl, Nat.le_of_ble_eq_true rfl⟩ htab hlocks ⟨Nat.le_of_ble_eq_true rfl, Nat.le_of_ble_eq_true rfl⟩ (fun E u h => by obtain ⟨hEx, hu, hn⟩ := h; subst hu; exact ⟨A, hMI, Or.inl ⟨hEx, if_neg (fun q => hn q.2.1)⟩⟩) (fun w1 H locs hp hP hD hS => ?_)
  obtain ⟨ew, hr1, hr2⟩ := hp
  rw [ew] at hP hD
  obtain ⟨i2, hi2, hvi2⟩ := reg_ix hr1 hr2
  subst hvi2
  have wni2 : wN (nI i2) = i2 := wN_small (by omega)
  refine lv_iload_n hx hb d_Mo_times0_8 rfl (lv_at hl 3 rfl) ?_
  refine yS_v (As := [.int (x3)]) (rest := []) (n := 1) ⟨hx, hb, hml, hown, hts⟩ (c_Mo_named l w _ hl9 x3) (cwS0 1 hts lm_Mo_77 st_Mo_named in_Mo kq_Mo_named rfl rfl rfl (by decide +kernel) ⟨Nat.le_of_ble_eq_true rfl, Nat.le_of_ble_eq_true rfl⟩) hKW hP hD hS rfl hl.1 rfl (Nat.le_of_ble_eq_true rfl) d_Mo_times0_9 ⟨Nat.le_of_ble_eq_true rfl, Nat.le_of_ble_eq_true rfl⟩ htab hlocks ⟨Nat.le_of_ble_eq_true rfl, Nat.le_of_ble_eq_true rfl⟩ (fun E u h => by obtain ⟨hEx, hu, hn⟩ := h; subst hu; exact ⟨A, hMI, Or.inl ⟨hEx, if_neg (fun q => hn q.2.2)⟩⟩) (fun w1 H locs hp hP hD hS => ?_)
  obtain ⟨ew, hr1, hr2⟩ := hp
  rw [ew] at hP hD
  obtain ⟨i3, hi3, hvi3⟩ := reg_ix hr1 hr2
  subst hvi3
  have wni3 : wN (nI i3) = i3 := wN_small (by omega)
  refine lv_aload_n hx hb d_Mo_times0_12 rfl (lv_at hl 0 rfl) ?_
  refine mw_gF0 hx hb hts hown hKW.1 hP lf_Mo_11 d_Mo_times0_13 ?_
  refine lv_iload_n hx hb d_Mo_times0_16 rfl (lv_at hl 2 rfl) ?_
  refine mw_lG hx hb hKW.1 hP (j := i2) (by omega) d_Mo_times0_17 ?_
  have hb2 := hMI.bits hi2
  have hb3 := hMI.bits hi3
  have hnp := nb_mulL (aG A i2) (aG A i3)
  have hrg : rg (nI i1) ∧ rg (nI i2) ∧ rg (nI i3) := ⟨rg_nI hi1, rg_nI hi2, rg_nI hi3⟩
  refine zV_i (As := []) (rest := []) (n := 0) ⟨hx, hb, hml, hown, hts⟩ (c_Mn_bits l w _ (i := i2) (by omega) h3 (hMI.reg hi2)) (cwV0 0 hts lm_Mo_73 im_Mn_bits se_Mn_bits in_Mn kq_Mn_bits rfl rfl rfl (by decide +kernel) ⟨Nat.le_of_ble_eq_true rfl, Nat.le_of_ble_eq_true rfl⟩) (recMn hKW.1 hP (i := i2) (by omega)) hKW hP hD hS rfl hl.1 rfl (Nat.le_of_ble_eq_true rfl) d_Mo_times0_18 ⟨Nat.le_of_ble_eq_true rfl, Nat.le_of_ble_eq_true rfl⟩ (fun r w2 H locs hp hP hD hS => ?_)
  obtain ⟨er, ew⟩ := hp
  rw [ew] at hP hD
  subst er
  refine lv_aload_n hx hb d_Mo_times0_21 rfl (lv_at hl 0 rfl) ?_
  refine mw_gF0 hx hb hts hown hKW.1 hP lf_Mo_11 d_Mo_times0_22 ?_
  refine lv_iload_n hx hb d_Mo_times0_25 rfl (lv_at hl 3 rfl) ?_
  refine mw_lG hx hb hKW.1 hP (j := i3) (by omega) d_Mo_times0_26 ?_
  refine zV_i (As := []) (rest := [.int (nI (nb (aG A i2)))]) (n := 0) ⟨hx, hb, hml, hown, hts⟩ (c_Mn_bits l w _ (i := i3) (by omega) h3 (hMI.reg hi3)) (cwV0 0 hts lm_Mo_73 im_Mn_bits se_Mn_bits in_Mn kq_Mn_bits rfl rfl rfl (by decide +kernel) ⟨Nat.le_of_ble_eq_true rfl, Nat.le_of_ble_eq_true rfl⟩) (recMn hKW.1 hP (i := i3) (by omega)) hKW hP hD hS rfl hl.1 rfl (Nat.le_of_ble_eq_true rfl) d_Mo_times0_27 ⟨Nat.le_of_ble_eq_true rfl, Nat.le_of_ble_eq_true rfl⟩ (fun r w2 H locs hp hP hD hS => ?_)
  obtain ⟨er, ew⟩ := hp
  rw [ew] at hP hD
  subst er
  refine nw_iadd (v := nI (nb (aG A i2) + (nb (aG A i3)))) hx hb d_Mo_times0_30 (nI_add _ _) ?_
  refine lv_i2l (v := lN (nb (aG A i2) + (nb (aG A i3)))) hx hb d_Mo_times0_31 (nI_l (by omega)) ?_
  refine yS_v (As := [.long (lN (nb (aG A i2) + (nb (aG A i3))))]) (rest := []) (n := 1) ⟨hx, hb, hml, hown, hts⟩ (c_Mo_fits l w _ hl9 (b := nb (aG A i2) + nb (aG A i3)) (by omega)) (cwS0 1 hts lm_Mo_93 st_Mo_fits in_Mo kq_Mo_fits rfl rfl rfl (by decide +kernel) ⟨Nat.le_of_ble_eq_true rfl, Nat.le_of_ble_eq_true rfl⟩) hKW hP hD hS rfl hl.1 rfl (Nat.le_of_ble_eq_true rfl) d_Mo_times0_32 ⟨Nat.le_of_ble_eq_true rfl, Nat.le_of_ble_eq_true rfl⟩ htab hlocks ⟨Nat.le_of_ble_eq_true rfl, Nat.le_of_ble_eq_true rfl⟩ (fun E u h => by obtain ⟨hEx, hu, hn⟩ := h; subst hu; exact ⟨A, hMI, Or.inr ⟨hEx, by unfold sp_times; rw [wni2, wni3, if_pos hrg, if_pos hn]⟩⟩) (fun w2 H locs hp hP hD hS => ?_)
  obtain ⟨ew, hle⟩ := hp
  rw [ew] at hP hD
  refine lv_aload_n hx hb d_Mo_times0_35 rfl (lv_at hl 0 rfl) ?_
  refine mw_gF1 hx hb hts hown hKW.1 hP lf_Mo_18 d_Mo_times0_36 ?_
  refine lv_aload_n hx hb d_Mo_times0_39 rfl (lv_at hl 0 rfl) ?_
  refine mw_gF0 hx hb hts hown hKW.1 hP lf_Mo_11 d_Mo_times0_40 ?_
  refine lv_iload_n hx hb d_Mo_times0_43 rfl (lv_at hl 2 rfl) ?_
  refine mw_lG hx hb hKW.1 hP (j := i2) (by omega) d_Mo_times0_44 ?_
  refine lv_aload_n hx hb d_Mo_times0_45 rfl (lv_at hl 0 rfl) ?_
  refine mw_gF0 hx hb hts hown hKW.1 hP lf_Mo_11 d_Mo_times0_46 ?_
  refine lv_iload_n hx hb d_Mo_times0_49 rfl (lv_at hl 3 rfl) ?_
  refine mw_lG hx hb hKW.1 hP (j := i3) (by omega) d_Mo_times0_50 ?_
  refine zV_v (As := [.ref (ad (2 * i2 + 4)), .ref (ad (2 * i3 + 4))]) (rest := []) (n := 2) ⟨hx, hb, hml, hown, hts⟩ (c_Mn_product l w _ (i := 10) (a := i2) (b := i3) (by omega) (by omega) (by omega) (by omega) (by omega) h3 (hMI.reg hi2) (hMI.reg hi3) (fitM3 (hMI.reg hi2) (hMI.reg hi3) (p2_fit (nb_le_iff.mp (Nat.le_trans hnp hle)) (by omega)))) (cwV0 2 hts lm_Mo_115 im_Mn_product se_Mn_product in_Mn kq_Mn_product rfl rfl rfl (by decide +kernel) ⟨Nat.le_of_ble_eq_true rfl, Nat.le_of_ble_eq_true rfl⟩) (recMn hKW.1 hP (i := 10) (by omega)) hKW hP hD hS rfl hl.1 rfl (Nat.le_of_ble_eq_true rfl) d_Mo_times0_51 ⟨Nat.le_of_ble_eq_true rfl, Nat.le_of_ble_eq_true rfl⟩ (fun w3 H locs hp hP hD hS => ?_)
  obtain ⟨hE3, hV3, h33⟩ := hp
  have hM3 := hMI.same hE3 h33 (fun j => one10 (by omega))
  refine lv_aload_n hx hb d_Mo_times0_54 rfl (lv_at hl 0 rfl) ?_
  refine lv_iload_n hx hb d_Mo_times0_55 rfl (lv_at hl 1 rfl) ?_
  refine lv_aload_n hx hb d_Mo_times0_56 rfl (lv_at hl 0 rfl) ?_
  refine mw_gF1 hx hb hts hown hKW.1 hP lf_Mo_18 d_Mo_times0_57 ?_
  refine zV_i (As := [.int (nI (i1)), .ref (ad 24)]) (rest := []) (n := 2) ⟨hx, hb, hml, hown, hts⟩ (c_Mo_keep l w3 _ (x := i1) (a := 10) (by omega) (by omega) (by omega) h33 hV3) (cwV0 2 hts lm_Mo_83 im_Mo_keep se_Mo_keep in_Mo kq_Mo_keep rfl rfl rfl (by decide +kernel) ⟨Nat.le_of_ble_eq_true rfl, Nat.le_of_ble_eq_true rfl⟩) (recMo hKW.1 hP) hKW hP hD hS rfl hl.1 rfl (Nat.le_of_ble_eq_true rfl) d_Mo_times0_60 ⟨Nat.le_of_ble_eq_true rfl, Nat.le_of_ble_eq_true rfl⟩ (fun r w5 H locs hp hP hD hS => ?_)
  obtain ⟨er, hEk, hVk, h3k⟩ := hp
  subst er
  exact vx_ret (W.widen (k := 4) (n := 24) (Nat.le_of_ble_eq_true rfl) (Nat.le_of_ble_eq_true rfl) (W.iret (v := nI (nb (aG A i2 * aG A i3))) hx hb hr (fun t ht hW => ⟨⟨_, w5, rfl, ⟨pG A i1 (aG A i2 * aG A i3), hM3.put hEk h3k (fun j => one_i) hVk (by omega), hEk.X.trans hE3.X, by unfold sp_times; rw [wni1, wni2, wni3, if_pos hrg, if_neg (by omega)]⟩, BM_of ht hP⟩, hS.F ht⟩) hS.2.2 d_Mo_times0_63))
set_option maxHeartbeats 4000000 in
set_option maxRecDepth 100000 in
/-- divide0 -/
theorem c_Mo_divide0 (l : Launch) {D : va_G} {cI cB cR : ClassId} {ad : Nat → Nat} (w : Mt) (sz : Nat) (hl9 : l.stackTraces = false) (x1 x2 x3 x4 : Int32) (A : Ab) (hMI : MI w A) : vx_Met l y_Mo_divide0 (q_Mo_divide0 :: wA) { frames := 14, cells := 5, slots := 30, locals := 300 } (va_Pc [.ref (ad 0), .int (x1), .int (x2), .int (x3), .int (x4)] (PM D cI cB cR ad w sz)) (va_Qi (fun (r : Int32) (w1 : Mt) => okm (mX w) (sp_divide x1 x2 x3 x4 A) r w1) (BM D cI cB cR ad) (AM ad sz)) (XM D cI cB cR ad (fun E u => thm9 (sp_divide x1 x2 x3 x4 A) E_IA E_AR E u) sz) 5 30 (AM ad sz) := by
  refine vx_ofW (cc := b_Mo_divide0) (maxL := 6) (ret := (some (.int))) (by decide) rfl ?_
  intro p e s m args below meth c s₁ B hml htab hv
  obtain ⟨rfl, hsz, hP, hD0, hKW⟩ := hv
  have hx := B.exec
  have hb := B.bytes
  have hr := B.returns
  have hts := atoms_spec (ws := q_Mo_divide0 :: wA) B.pre
  have hown : s.vm.findClass R_Mo = some m.cls := findClass_of_methodNamed B.named
  have hlocks := B.notSynchronized
  subst hsz
  have hD := NM_AM (sz := s.heap.size) hD0
  have hS : va_S (AM ad s.heap.size) s.heap s.heap [] := va_S.rf
  have hl := lv_entry ([.ref (ad 0), .int (x1), .int (x2), .int (x3), .int (x4)]) (n := 6) (Nat.le_of_ble_eq_true rfl)
  rw [lg_entry_eq]
  generalize (lg_sl ([.ref (ad 0), .int (x1), .int (x2), .int (x3), .int (x4)]) ++ List.replicate (6 - (lg_sl ([.ref (ad 0), .int (x1), .int (x2), .int (x3), .int (x4)])).length) Slot.unset).toArray = ls at hl ⊢
  have hl : lv_has ls 6 [(0, .ref (ad 0)), (1, .int (x1)), (2, .int (x2)), (3, .int (x3)), (4, .int (x4))] := hl
  have h3 := hMI.w3
  refine lv_iload_n hx hb d_Mo_divide0_0 rfl (lv_at hl 1 rfl) ?_
  refine yS_v (As := [.int (x1)]) (rest := []) (n := 1) ⟨hx, hb, hml, hown, hts⟩ (c_Mo_named l w _ hl9 x1) (cwS0 1 hts lm_Mo_77 st_Mo_named in_Mo kq_Mo_named rfl rfl rfl (by decide +kernel) ⟨Nat.le_of_ble_eq_true rfl, Nat.le_of_ble_eq_true rfl⟩) hKW hP hD hS rfl hl.1 rfl (Nat.le_of_ble_eq_true rfl) d_Mo_divide0_1 ⟨Nat.le_of_ble_eq_true rfl, Nat.le_of_ble_eq_true rfl⟩ htab hlocks ⟨Nat.le_of_ble_eq_true rfl, Nat.le_of_ble_eq_true rfl⟩ (fun E u h => by obtain ⟨hEx, hu, hn⟩ := h; subst hu; exact ⟨A, hMI, Or.inl ⟨hEx, if_neg (fun q => hn q.1)⟩⟩) (fun w1 H locs hp hP hD hS => ?_)
  obtain ⟨ew, hr1, hr2⟩ := hp
  rw [ew] at hP hD
  obtain ⟨i1, hi1, hvi1⟩ := reg_ix hr1 hr2
  subst hvi1
  have wni1 : wN (nI i1) = i1 := wN_small (by omega)
  refine lv_iload_n hx hb d_Mo_divide0_4 rfl (lv_at hl 2 rfl) ?_
  refine yS_v (As := [.int (x2)]) (rest := []) (n := 1) ⟨hx, hb, hml, hown, hts⟩ (c_Mo_named l w _ hl9 x2) (cwS0 1 hts lm_Mo_77 st_Mo_named in_Mo kq_Mo_named rfl rfl rfl (by decide +kernel) ⟨Nat.le_of_ble_eq_true rfl, Nat.le_of_ble_eq_true rfl⟩) hKW hP hD hS rfl hl.1 rfl (Nat.le_of_ble_eq_true rfl) d_Mo_divide0_5 ⟨Nat.le_of_ble_eq_true rfl, Nat.le_of_ble_eq_true rfl⟩ htab hlocks ⟨Nat.le_of_ble_eq_true rfl, Nat.le_of_ble_eq_true rfl⟩ (fun E u h => by obtain ⟨hEx, hu, hn⟩ := h; subst hu; exact ⟨A, hMI, Or.inl ⟨hEx, if_neg (fun q => hn q.2.1)⟩⟩) (fun w1 H locs hp hP hD hS => ?_)
  obtain ⟨ew, hr1, hr2⟩ := hp
  rw [ew] at hP hD
  obtain ⟨i2, hi2, hvi2⟩ := reg_ix hr1 hr2
  subst hvi2
  have wni2 : wN (nI i2) = i2 := wN_small (by omega)
  refine lv_iload_n hx hb d_Mo_divide0_8 rfl (lv_at hl 3 rfl) ?_
  refine yS_v (As := [.int (x3)]) (rest := []) (n := 1) ⟨hx, hb, hml, hown, hts⟩ (c_Mo_named l w _ hl9 x3) (cwS0 1 hts lm_Mo_77 st_Mo_named in_Mo kq_Mo_named rfl rfl rfl (by decide +kernel) ⟨Nat.le_of_ble_eq_true rfl, Nat.le_of_ble_eq_true rfl⟩) hKW hP hD hS rfl hl.1 rfl (Nat.le_of_ble_eq_true rfl) d_Mo_divide0_9 ⟨Nat.le_of_ble_eq_true rfl, Nat.le_of_ble_eq_true rfl⟩ htab hlocks ⟨Nat.le_of_ble_eq_true rfl, Nat.le_of_ble_eq_true rfl⟩ (fun E u h => by obtain ⟨hEx, hu, hn⟩ := h; subst hu; exact ⟨A, hMI, Or.inl ⟨hEx, if_neg (fun q => hn q.2.2.1)⟩⟩) (fun w1 H locs hp hP hD hS => ?_)
  obtain ⟨ew, hr1, hr2⟩ := hp
  rw [ew] at hP hD
  obtain ⟨i3, hi3, hvi3⟩ := reg_ix hr1 hr2
  subst hvi3
  have wni3 : wN (nI i3) = i3 := wN_small (by omega)
  refine lv_iload hx hb d_Mo_divide0_12 (lv_at hl 4 rfl) ?_
  refine yS_v (As := [.int (x4)]) (rest := []) (n := 1) ⟨hx, hb, hml, hown, hts⟩ (c_Mo_named l w _ hl9 x4) (cwS0 1 hts lm_Mo_77 st_Mo_named in_Mo kq_Mo_named rfl rfl rfl (by decide +kernel) ⟨Nat.le_of_ble_eq_true rfl, Nat.le_of_ble_eq_true rfl⟩) hKW hP hD hS rfl hl.1 rfl (Nat.le_of_ble_eq_true rfl) d_Mo_divide0_14 ⟨Nat.le_of_ble_eq_true rfl, Nat.le_of_ble_eq_true rfl⟩ htab hlocks ⟨Nat.le_of_ble_eq_true rfl, Nat.le_of_ble_eq_true rfl⟩ (fun E u h => by obtain ⟨hEx, hu, hn⟩ := h; subst hu; exact ⟨A, hMI, Or.inl ⟨hEx, if_neg (fun q => hn q.2.2.2)⟩⟩) (fun w1 H locs hp hP hD hS => ?_)
  obtain ⟨ew, hr1, hr2⟩ := hp
  rw [ew] at hP hD
  obtain ⟨i4, hi4, hvi4⟩ := reg_ix hr1 hr2
  subst hvi4
  have wni4 : wN (nI i4) = i4 := wN_small (by omega)
  have hb3 := hMI.bits hi3
  have hb4 := hMI.bits hi4
  have hz4 := (hMI.reg hi4).zero
  have hl4 := (hMI.reg hi4).len
  have hrg : rg (nI i1) ∧ rg (nI i2) ∧ rg (nI i3) ∧ rg (nI i4) := ⟨rg_nI hi1, rg_nI hi2, rg_nI hi3, rg_nI hi4⟩
  obtain ⟨L9, hL9⟩ : ∃ L9, mL w i4 = L9 := ⟨_, rfl⟩
  rw [hL9] at hz4 hl4
  refine lv_aload_n hx hb d_Mo_divide0_17 rfl (lv_at hl 0 rfl) ?_
  refine mw_gF0 hx hb hts hown hKW.1 hP lf_Mo_11 d_Mo_divide0_18 ?_
  refine lv_iload hx hb d_Mo_divide0_21 (lv_at hl 4 rfl) ?_
  refine mw_lG hx hb hKW.1 hP (j := i4) (by omega) d_Mo_divide0_23 ?_
  refine mw_gL hx hb hts hown hKW.1 hP (i := i4) (by omega) (n := L9) hL9 lf_Mo_89 d_Mo_divide0_24 ?_
  refine lv_if_ne (tgt := 38) hx hb d_Mo_divide0_27 (by decide) (fun c27 => ?_) (fun c27 => ?_)
  · skip
    have c27 : ¬ (L9 = 0) := fun h => c27 (by have := (nI_eq (by omega) (by omega)).mpr h; rwa [nI_0] at this)
    have hu0 : aG A i4 ≠ 0 := fun q => c27 (hz4.mpr q)
    refine lv_aload_n hx hb d_Mo_divide0_38 rfl (lv_at hl 0 rfl) ?_
    refine mw_gF2 hx hb hts hown hKW.1 hP lf_Mo_22 d_Mo_divide0_39 ?_
    refine lv_aload_n hx hb d_Mo_divide0_42 rfl (lv_at hl 0 rfl) ?_
    refine mw_gF0 hx hb hts hown hKW.1 hP lf_Mo_11 d_Mo_divide0_43 ?_
    refine lv_iload_n hx hb d_Mo_divide0_46 rfl (lv_at hl 3 rfl) ?_
    refine mw_lG hx hb hKW.1 hP (j := i3) (by omega) d_Mo_divide0_47 ?_
    refine zV_v (As := [.ref (ad (2 * i3 + 4))]) (rest := []) (n := 1) ⟨hx, hb, hml, hown, hts⟩ (c_Mn_set_N l w _ (i := 11) (a := i3) (by omega) (by omega) (by omega) h3 (hMI.reg hi3)) (cwV0 1 hts lm_Mo_69 im_Mn_set_N se_Mn_set_N in_Mn kq_Mn_set_N rfl rfl rfl (by decide +kernel) ⟨Nat.le_of_ble_eq_true rfl, Nat.le_of_ble_eq_true rfl⟩) (recMn hKW.1 hP (i := 11) (by omega)) hKW hP hD hS rfl hl.1 rfl (Nat.le_of_ble_eq_true rfl) d_Mo_divide0_48 ⟨Nat.le_of_ble_eq_true rfl, Nat.le_of_ble_eq_true rfl⟩ (fun w2 H locs hp hP hD hS => ?_)
    obtain ⟨hE2, hV2, h32⟩ := hp
    have hM2 := hMI.same hE2 h32 (fun j => one10 (by omega))
    refine lv_aload_n hx hb d_Mo_divide0_51 rfl (lv_at hl 0 rfl) ?_
    refine mw_gF6 hx hb hts hown hKW.1 hP lf_Mo_34 d_Mo_divide0_52 ?_
    refine lv_aload_n hx hb d_Mo_divide0_55 rfl (lv_at hl 0 rfl) ?_
    refine mw_gF0 hx hb hts hown hKW.1 hP lf_Mo_11 d_Mo_divide0_56 ?_
    refine lv_iload hx hb d_Mo_divide0_59 (lv_at hl 4 rfl) ?_
    refine mw_lG hx hb hKW.1 hP (j := i4) (by omega) d_Mo_divide0_61 ?_
    refine zV_v (As := [.ref (ad (2 * i4 + 4))]) (rest := []) (n := 1) ⟨hx, hb, hml, hown, hts⟩ (c_Mn_set_N l w2 _ (i := 15) (a := i4) (by omega) (by omega) (by omega) h32 (hM2.reg hi4)) (cwV0 1 hts lm_Mo_69 im_Mn_set_N se_Mn_set_N in_Mn kq_Mn_set_N rfl rfl rfl (by decide +kernel) ⟨Nat.le_of_ble_eq_true rfl, Nat.le_of_ble_eq_true rfl⟩) (recMn hKW.1 hP (i := 15) (by omega)) hKW hP hD hS rfl hl.1 rfl (Nat.le_of_ble_eq_true rfl) d_Mo_divide0_62 ⟨Nat.le_of_ble_eq_true rfl, Nat.le_of_ble_eq_true rfl⟩ (fun w3 H locs hp hP hD hS => ?_)
    obtain ⟨hE3, hV3, h33⟩ := hp
    have hM3 := hM2.same hE3 h33 (fun j => one10 (by omega))
    refine lv_aload_n hx hb d_Mo_divide0_65 rfl (lv_at hl 0 rfl) ?_
    refine lv_aload_n hx hb d_Mo_divide0_66 rfl (lv_at hl 0 rfl) ?_
    refine mw_gF2 hx hb hts hown hKW.1 hP lf_Mo_22 d_Mo_divide0_67 ?_
    refine lv_aload_n hx hb d_Mo_divide0_70 rfl (lv_at hl 0 rfl) ?_
    refine mw_gF6 hx hb hts hown hKW.1 hP lf_Mo_34 d_Mo_divide0_71 ?_
    refine lv_aload_n hx hb d_Mo_divide0_74 rfl (lv_at hl 0 rfl) ?_
    refine mw_gF1 hx hb hts hown hKW.1 hP lf_Mo_18 d_Mo_divide0_75 ?_
    refine zV_v (As := [.ref (ad 26), .ref (ad 34), .ref (ad 24)]) (rest := []) (n := 3) ⟨hx, hb, hml, hown, hts⟩ (c_Mo_divide_NNN l w3 _ (t := 10) (Or.inl rfl) h33 (hE3.nu (by simp) hV2) hV3 hu0 (p2_fit (nb_le_iff.mp hb3) (by omega)) (p2_fit (nb_le_iff.mp hb4) (by omega))) (cwV0 3 hts lm_Mo_133 im_Mo_divide_NNN se_Mo_divide_NNN in_Mo kq_Mo_divide_NNN rfl rfl rfl (by decide +kernel) ⟨Nat.le_of_ble_eq_true rfl, Nat.le_of_ble_eq_true rfl⟩) (recMo hKW.1 hP) hKW hP hD hS rfl hl.1 rfl (Nat.le_of_ble_eq_true rfl) d_Mo_divide0_78 ⟨Nat.le_of_ble_eq_true rfl, Nat.le_of_ble_eq_true rfl⟩ (fun w4 H locs hp hP hD hS => ?_)
    obtain ⟨hE4, hQ4, hR4, h34⟩ := hp
    have hM4 := hM3.same hE4 h34 (fun j hj => by simp only [List.mem_cons, List.not_mem_nil, or_false] at hj; omega)
    have hm1 := nb_mono (Nat.div_le_self (aG A i3) (aG A i4))
    have hm2 := nb_mono (Nat.mod_le (aG A i3) (aG A i4))
    refine lv_aload_n hx hb d_Mo_divide0_81 rfl (lv_at hl 0 rfl) ?_
    refine lv_iload_n hx hb d_Mo_divide0_82 rfl (lv_at hl 1 rfl) ?_
    refine lv_aload_n hx hb d_Mo_divide0_83 rfl (lv_at hl 0 rfl) ?_
    refine mw_gF1 hx hb hts hown hKW.1 hP lf_Mo_18 d_Mo_divide0_84 ?_
    refine zV_i (As := [.int (nI (i1)), .ref (ad 24)]) (rest := []) (n := 2) ⟨hx, hb, hml, hown, hts⟩ (c_Mo_keep l w4 _ (x := i1) (a := 10) (by omega) (by omega) (by omega) h34 hQ4) (cwV0 2 hts lm_Mo_83 im_Mo_keep se_Mo_keep in_Mo kq_Mo_keep rfl rfl rfl (by decide +kernel) ⟨Nat.le_of_ble_eq_true rfl, Nat.le_of_ble_eq_true rfl⟩) (recMo hKW.1 hP) hKW hP hD hS rfl hl.1 rfl (Nat.le_of_ble_eq_true rfl) d_Mo_divide0_87 ⟨Nat.le_of_ble_eq_true rfl, Nat.le_of_ble_eq_true rfl⟩ (fun r w5 H locs hp hP hD hS => ?_)
    obtain ⟨er, hEk, hVk, h3k⟩ := hp
    subst er
    have hM5 := hM4.put hEk h3k (fun j => one_i) hVk (by omega)
    refine lv_istore (lv' := [(5, .int (nI (nb (aG A i3 / aG A i4)))), (0, .ref (ad 0)), (1, .int (nI (i1))), (2, .int (nI (i2))), (3, .int (nI (i3))), (4, .int (nI (i4)))]) hx hb d_Mo_divide0_90 hl (by decide) rfl (fun ls hl => ?_)
    refine lv_aload_n hx hb d_Mo_divide0_92 rfl (lv_at hl 1 rfl) ?_
    refine mw_gF0 hx hb hts hown hKW.1 hP lf_Mo_11 d_Mo_divide0_93 ?_
    refine lv_iload_n hx hb d_Mo_divide0_96 rfl (lv_at hl 3 rfl) ?_
    refine mw_lG hx hb hKW.1 hP (j := i2) (by omega) d_Mo_divide0_97 ?_
    refine lv_aload_n hx hb d_Mo_divide0_98 rfl (lv_at hl 1 rfl) ?_
    refine mw_gF4 hx hb hts hown hKW.1 hP lf_Mo_28 d_Mo_divide0_99 ?_
    refine zV_v (As := [.ref (ad 30)]) (rest := []) (n := 1) ⟨hx, hb, hml, hown, hts⟩ (c_Mn_set_N l w5 _ (i := i2) (a := 13) (by omega) (by omega) (by omega) h3k (hEk.nu (by simp; omega) hR4)) (cwV0 1 hts lm_Mo_69 im_Mn_set_N se_Mn_set_N in_Mn kq_Mn_set_N rfl rfl rfl (by decide +kernel) ⟨Nat.le_of_ble_eq_true rfl, Nat.le_of_ble_eq_true rfl⟩) (recMn hKW.1 hP (i := i2) (by omega)) hKW hP hD hS rfl hl.1 rfl (Nat.le_of_ble_eq_true rfl) d_Mo_divide0_102 ⟨Nat.le_of_ble_eq_true rfl, Nat.le_of_ble_eq_true rfl⟩ (fun w6 H locs hp hP hD hS => ?_)
    obtain ⟨hE6, hV6, h36⟩ := hp
    refine lv_iload hx hb d_Mo_divide0_105 (lv_at hl 0 rfl) ?_
    exact vx_ret (W.widen (k := 5) (n := 30) (Nat.le_of_ble_eq_true rfl) (Nat.le_of_ble_eq_true rfl) (W.iret (v := nI (nb (aG A i3 / aG A i4))) hx hb hr (fun t ht hW => ⟨⟨_, w6, rfl, ⟨pG (pG A i1 (aG A i3 / aG A i4)) i2 (aG A i3 % aG A i4), hM5.put hE6 h36 (fun j => one_i) hV6 (by omega), hE6.X.trans (hEk.X.trans (hE4.X.trans (hE3.X.trans hE2.X))), by unfold sp_divide; rw [wni1, wni2, wni3, wni4, if_pos hrg, if_neg hu0]⟩, BM_of ht hP⟩, hS.F ht⟩) hS.2.2 d_Mo_divide0_107))
  · skip
    have c27 : L9 = 0 := (nI_eq (by omega) (by omega)).mp (by first | (rw [nI_0]; exact c27) | rw [nI_0])
    exact ythrow hx hb hl9 hown (by decide) hts ta_Mo_AR tb_Mo_AR tg_Mo_AR tk_Mo_AR ti_AR hKW hP hS (hl.1.trans hml.symm) d_Mo_divide0_30 d_Mo_divide0_33 d_Mo_divide0_34 d_Mo_divide0_37 htab hlocks (Nat.le_of_ble_eq_true rfl) (Nat.le_of_ble_eq_true rfl) (Nat.le_of_ble_eq_true rfl) (Nat.le_of_ble_eq_true rfl) (Nat.le_of_ble_eq_true rfl) (Nat.le_of_ble_eq_true rfl) (⟨A, hMI, Or.inr ⟨rfl, by unfold sp_divide; rw [wni4, if_pos hrg, if_pos (hz4.mp c27)]⟩⟩)

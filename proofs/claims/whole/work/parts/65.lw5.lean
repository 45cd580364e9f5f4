/-! THE FACE: set, copy, shift, add, subtract, times, divide (rows laid by wip/whole/gen/c_lw5.py) -/
set_option maxHeartbeats 4000000 in
set_option maxRecDepth 100000 in
/-- set -/
theorem c_Lw_set (l : Launch) {D : va_G} {cI cB cR : ClassId} {ad : Nat → Nat} (w : St) (sz : Nat) (hl9 : l.stackTraces = false) (x1 : Int32) (v : Int64) (A : Ab) (hCI : CI w A) : vx_Met l y_Lw_set (q_Lw_set :: wA) { frames := 12, cells := 1, slots := 6, locals := 260 } (va_Pc [.ref (ad 0), .int (x1), .long (v)] (PW D cI cB cR ad w sz)) (va_Qi (fun (r : Int32) (w1 : St) => okp (sp_set x1 v A) r w1) (BW D cI cB cR ad) (AA ad sz)) (XW D cI cB cR ad (fun E u => thp (sp_set x1 v A) E_IA E_IS E u) sz) 1 6 (AA ad sz) := by
  refine vx_ofW (cc := b_Lw_set) (maxL := 5) (ret := (some (.int))) (by decide) rfl ?_
  intro p e s m args below meth c s₁ B hml htab hv
  obtain ⟨rfl, hsz, hP, hD0, hKW⟩ := hv
  have hx := B.exec
  have hb := B.bytes
  have hr := B.returns
  have hts := atoms_spec (ws := q_Lw_set :: wA) B.pre
  have hown : s.vm.findClass R_Lw = some m.cls := findClass_of_methodNamed B.named
  have hlocks := B.notSynchronized
  subst hsz
  have hD := NC_AA (sz := s.heap.size) hD0
  have hS : va_S (AA ad s.heap.size) s.heap s.heap [] := va_S.rf
  have hl := lv_entry ([.ref (ad 0), .int (x1), .long (v)]) (n := 5) (Nat.le_of_ble_eq_true rfl)
  rw [lg_entry_eq]
  generalize (lg_sl ([.ref (ad 0), .int (x1), .long (v)]) ++ List.replicate (5 - (lg_sl ([.ref (ad 0), .int (x1), .long (v)])).length) Slot.unset).toArray = ls at hl ⊢
  have hl : lv_has ls 5 [(0, .ref (ad 0)), (1, .int (x1)), (2, .long (v))] := hl
  refine lv_aload_n hx hb d_Lw_set_0 rfl (lv_at hl 0 rfl) ?_
  refine lv_iload_n hx hb d_Lw_set_1 rfl (lv_at hl 1 rfl) ?_
  refine xV_r (As := [.int (x1)]) (rest := []) (n := 1) ⟨hx, hb, hml, hown, hts⟩ (c_Lw_registerAt l w _ hl9 x1) (cwV0 1 hts lm_Lw_52 im_Lw_registerAt se_Lw_registerAt in_Lw kq_Lw_registerAt rfl rfl rfl (by decide +kernel) ⟨Nat.le_of_ble_eq_true rfl, Nat.le_of_ble_eq_true rfl⟩) (recvL hKW.1 hP) hKW hP hD hS rfl hl.1 rfl (Nat.le_of_ble_eq_true rfl) d_Lw_set_2 ⟨Nat.le_of_ble_eq_true rfl, Nat.le_of_ble_eq_true rfl⟩ htab hlocks ⟨Nat.le_of_ble_eq_true rfl, Nat.le_of_ble_eq_true rfl⟩ (fun E u h => by obtain ⟨hEx, hu, hn⟩ := h; subst hu; exact ⟨A, hCI, Or.inl ⟨hEx, if_neg (fun q => hn q)⟩⟩) (fun w1 ra H locs hp hP hD hS => ?_)
  obtain ⟨ew, i1, hi1, hvi1, hra⟩ := hp
  rw [show w1 = w from ew] at hP hD
  have hra : ra = ad (2 * i1 + 8) := hra
  subst hra
  subst hvi1
  have wni1 : wN (nI i1) = i1 := wN_small (by omega)
  refine lv_astore (lv' := [(4, .ref (ad (2 * i1 + 8))), (0, .ref (ad 0)), (1, .int (nI (i1))), (2, .long (v))]) hx hb d_Lw_set_5 hl (by decide) rfl (fun ls hl => ?_)
  refine lv_aload hx hb d_Lw_set_7 (lv_at hl 0 rfl) ?_
  refine lv_lload_n hx hb d_Lw_set_9 rfl (lv_at hl 3 rfl) ?_
  refine wV_v (As := [.long (v)]) (rest := []) (n := 1) ⟨hx, hb, hml, hown, hts⟩ (c_Na_putLong l w _ (i := i1) (by omega) v) (cwV0 1 hts lm_Lw_56 im_Na_putLong se_Na_putLong in_Na kq_Na_putLong rfl rfl rfl (by decide +kernel) ⟨Nat.le_of_ble_eq_true rfl, Nat.le_of_ble_eq_true rfl⟩) (recvN hKW.1 hP (i := i1) (by omega)) hKW hP hD hS rfl hl.1 rfl (Nat.le_of_ble_eq_true rfl) d_Lw_set_10 ⟨Nat.le_of_ble_eq_true rfl, Nat.le_of_ble_eq_true rfl⟩ (fun w2 H locs hp hP hD hS => ?_)
  obtain ⟨hE, hV⟩ := hp
  refine lv_aload hx hb d_Lw_set_13 (lv_at hl 0 rfl) ?_
  refine wV_i (As := []) (rest := []) (n := 0) ⟨hx, hb, hml, hown, hts⟩ (c_Na_countBits l w2 _ (i := i1) (by omega) hV) (cwV0 0 hts lm_Lw_60 im_Na_countBits se_Na_countBits in_Na kq_Na_countBits rfl rfl rfl (by decide +kernel) ⟨Nat.le_of_ble_eq_true rfl, Nat.le_of_ble_eq_true rfl⟩) (recvN hKW.1 hP (i := i1) (by omega)) hKW hP hD hS rfl hl.1 rfl (Nat.le_of_ble_eq_true rfl) d_Lw_set_15 ⟨Nat.le_of_ble_eq_true rfl, Nat.le_of_ble_eq_true rfl⟩ (fun r w3 H locs hp hP hD hS => ?_)
  obtain ⟨er, ew⟩ := hp
  rw [ew] at hP hD
  subst er
  have h64 : nb (uL v) ≤ 64 := nb_le_iff.mpr (uL_lt v)
  exact vx_ret (W.widen (k := 1) (n := 6) (Nat.le_of_ble_eq_true rfl) (Nat.le_of_ble_eq_true rfl) (W.iret (v := nI (nb (uL v))) hx hb hr (fun t ht hW => ⟨⟨_, w2, rfl, ⟨pG A i1 (uL v), hCI.put (hE.B (List.mem_singleton.mpr rfl)) (fun j hj => Or.inl (List.mem_singleton.mp hj)) hV (by omega), by unfold sp_set; rw [wni1, if_pos (rg_nI hi1)]⟩, BW_of ht hP⟩, hS.F ht⟩) hS.2.2 d_Lw_set_18))
set_option maxHeartbeats 4000000 in
set_option maxRecDepth 100000 in
/-- copy -/
theorem c_Lw_copy (l : Launch) {D : va_G} {cI cB cR : ClassId} {ad : Nat → Nat} (w : St) (sz : Nat) (hl9 : l.stackTraces = false) (x1 x2 : Int32) (A : Ab) (hCI : CI w A) : vx_Met l y_Lw_copy (q_Lw_copy :: wA) { frames := 12, cells := 2, slots := 12, locals := 260 } (va_Pc [.ref (ad 0), .int (x1), .int (x2)] (PW D cI cB cR ad w sz)) (va_Qi (fun (r : Int32) (w1 : St) => okp (sp_copy x1 x2 A) r w1) (BW D cI cB cR ad) (AA ad sz)) (XW D cI cB cR ad (fun E u => thp (sp_copy x1 x2 A) E_IA E_IS E u) sz) 2 12 (AA ad sz) := by
  refine vx_ofW (cc := b_Lw_copy) (maxL := 4) (ret := (some (.int))) (by decide) rfl ?_
  intro p e s m args below meth c s₁ B hml htab hv
  obtain ⟨rfl, hsz, hP, hD0, hKW⟩ := hv
  have hx := B.exec
  have hb := B.bytes
  have hr := B.returns
  have hts := atoms_spec (ws := q_Lw_copy :: wA) B.pre
  have hown : s.vm.findClass R_Lw = some m.cls := findClass_of_methodNamed B.named
  have hlocks := B.notSynchronized
  subst hsz
  have hD := NC_AA (sz := s.heap.size) hD0
  have hS : va_S (AA ad s.heap.size) s.heap s.heap [] := va_S.rf
  have hl := lv_entry ([.ref (ad 0), .int (x1), .int (x2)]) (n := 4) (Nat.le_of_ble_eq_true rfl)
  rw [lg_entry_eq]
  generalize (lg_sl ([.ref (ad 0), .int (x1), .int (x2)]) ++ List.replicate (4 - (lg_sl ([.ref (ad 0), .int (x1), .int (x2)])).length) Slot.unset).toArray = ls at hl ⊢
  have hl : lv_has ls 4 [(0, .ref (ad 0)), (1, .int (x1)), (2, .int (x2))] := hl
  refine lv_aload_n hx hb d_Lw_copy_0 rfl (lv_at hl 0 rfl) ?_
  refine lv_iload_n hx hb d_Lw_copy_1 rfl (lv_at hl 1 rfl) ?_
  refine xV_r (As := [.int (x1)]) (rest := []) (n := 1) ⟨hx, hb, hml, hown, hts⟩ (c_Lw_registerAt l w _ hl9 x1) (cwV0 1 hts lm_Lw_52 im_Lw_registerAt se_Lw_registerAt in_Lw kq_Lw_registerAt rfl rfl rfl (by decide +kernel) ⟨Nat.le_of_ble_eq_true rfl, Nat.le_of_ble_eq_true rfl⟩) (recvL hKW.1 hP) hKW hP hD hS rfl hl.1 rfl (Nat.le_of_ble_eq_true rfl) d_Lw_copy_2 ⟨Nat.le_of_ble_eq_true rfl, Nat.le_of_ble_eq_true rfl⟩ htab hlocks ⟨Nat.le_of_ble_eq_true rfl, Nat.le_of_ble_eq_true rfl⟩ (fun E u h => by obtain ⟨hEx, hu, hn⟩ := h; subst hu; exact ⟨A, hCI, Or.inl ⟨hEx, if_neg (fun q => hn q.1)⟩⟩) (fun w1 ra H locs hp hP hD hS => ?_)
  obtain ⟨ew, i1, hi1, hvi1, hra⟩ := hp
  rw [show w1 = w from ew] at hP hD
  have hra : ra = ad (2 * i1 + 8) := hra
  subst hra
  subst hvi1
  have wni1 : wN (nI i1) = i1 := wN_small (by omega)
  refine lv_astore_n (lv' := [(3, .ref (ad (2 * i1 + 8))), (0, .ref (ad 0)), (1, .int (nI (i1))), (2, .int (x2))]) hx hb d_Lw_copy_5 rfl hl (by decide) rfl (fun ls hl => ?_)
  refine lv_aload_n hx hb d_Lw_copy_6 rfl (lv_at hl 0 rfl) ?_
  refine lv_aload_n hx hb d_Lw_copy_7 rfl (lv_at hl 1 rfl) ?_
  refine lv_iload_n hx hb d_Lw_copy_8 rfl (lv_at hl 3 rfl) ?_
  refine xV_r (As := [.int (x2)]) (rest := [.ref (ad (2 * i1 + 8))]) (n := 1) ⟨hx, hb, hml, hown, hts⟩ (c_Lw_registerAt l w _ hl9 x2) (cwV0 1 hts lm_Lw_52 im_Lw_registerAt se_Lw_registerAt in_Lw kq_Lw_registerAt rfl rfl rfl (by decide +kernel) ⟨Nat.le_of_ble_eq_true rfl, Nat.le_of_ble_eq_true rfl⟩) (recvL hKW.1 hP) hKW hP hD hS rfl hl.1 rfl (Nat.le_of_ble_eq_true rfl) d_Lw_copy_9 ⟨Nat.le_of_ble_eq_true rfl, Nat.le_of_ble_eq_true rfl⟩ htab hlocks ⟨Nat.le_of_ble_eq_true rfl, Nat.le_of_ble_eq_true rfl⟩ (fun E u h => by obtain ⟨hEx, hu, hn⟩ := h; subst hu; exact ⟨A, hCI, Or.inl ⟨hEx, if_neg (fun q => hn q.2)⟩⟩) (fun w1 ra H locs hp hP hD hS => ?_)
  obtain ⟨ew, i2, hi2, hvi2, hra⟩ := hp
  rw [show w1 = w from ew] at hP hD
  have hra : ra = ad (2 * i2 + 8) := hra
  subst hra
  subst hvi2
  have wni2 : wN (nI i2) = i2 := wN_small (by omega)
  refine wS_i (As := [.ref (ad (2 * i1 + 8)), .ref (ad (2 * i2 + 8))]) (rest := []) (n := 2) ⟨hx, hb, hml, hown, hts⟩ (c_Lw_keep l w _ (i := i1) (a := i2) (by omega) (by omega) (hCI.reg hi2)) (cwS0 2 hts lm_Lw_64 st_Lw_keep in_Lw kq_Lw_keep rfl rfl rfl (by decide +kernel) ⟨Nat.le_of_ble_eq_true rfl, Nat.le_of_ble_eq_true rfl⟩) hKW hP hD hS rfl hl.1 rfl (Nat.le_of_ble_eq_true rfl) d_Lw_copy_12 ⟨Nat.le_of_ble_eq_true rfl, Nat.le_of_ble_eq_true rfl⟩ (fun r w2 H locs hp hP hD hS => ?_)
  obtain ⟨er, hE, hV⟩ := hp
  subst er
  exact vx_ret (W.widen (k := 2) (n := 12) (Nat.le_of_ble_eq_true rfl) (Nat.le_of_ble_eq_true rfl) (W.iret (v := nI (nb (aG A i2))) hx hb hr (fun t ht hW => ⟨⟨_, w2, rfl, ⟨pG A i1 (aG A i2), hCI.put (hE.B (List.mem_singleton.mpr rfl)) (fun j hj => Or.inl (List.mem_singleton.mp hj)) hV (hCI.bits hi2), by unfold sp_copy; rw [wni1, wni2, if_pos ⟨rg_nI hi1, rg_nI hi2⟩]⟩, BW_of ht hP⟩, hS.F ht⟩) hS.2.2 d_Lw_copy_15))
set_option maxHeartbeats 4000000 in
set_option maxRecDepth 100000 in
/-- shift -/
theorem c_Lw_shift (l : Launch) {D : va_G} {cI cB cR : ClassId} {ad : Nat → Nat} (w : St) (sz : Nat) (hl9 : l.stackTraces = false) (x1 x2 n : Int32) (A : Ab) (hCI : CI w A) : vx_Met l y_Lw_shift (q_Lw_shift :: wA) { frames := 14, cells := 4, slots := 24, locals := 300 } (va_Pc [.ref (ad 0), .int (x1), .int (x2), .int (n)] (PW D cI cB cR ad w sz)) (va_Qi (fun (r : Int32) (w1 : St) => okp (sp_shift x1 x2 n A) r w1) (BW D cI cB cR ad) (AA ad sz)) (XW D cI cB cR ad (fun E u => thp (sp_shift x1 x2 n A) E_IA E_IS E u) sz) 4 24 (AA ad sz) := by
  refine vx_ofW (cc := b_Lw_shift) (maxL := 6) (ret := (some (.int))) (by decide) rfl ?_
  intro p e s m args below meth c s₁ B hml htab hv
  obtain ⟨rfl, hsz, hP, hD0, hKW⟩ := hv
  have hx := B.exec
  have hb := B.bytes
  have hr := B.returns
  have hts := atoms_spec (ws := q_Lw_shift :: wA) B.pre
  have hown : s.vm.findClass R_Lw = some m.cls := findClass_of_methodNamed B.named
  have hlocks := B.notSynchronized
  subst hsz
  have hD := NC_AA (sz := s.heap.size) hD0
  have hS : va_S (AA ad s.heap.size) s.heap s.heap [] := va_S.rf
  have hl := lv_entry ([.ref (ad 0), .int (x1), .int (x2), .int (n)]) (n := 6) (Nat.le_of_ble_eq_true rfl)
  rw [lg_entry_eq]
  generalize (lg_sl ([.ref (ad 0), .int (x1), .int (x2), .int (n)]) ++ List.replicate (6 - (lg_sl ([.ref (ad 0), .int (x1), .int (x2), .int (n)])).length) Slot.unset).toArray = ls at hl ⊢
  have hl : lv_has ls 6 [(0, .ref (ad 0)), (1, .int (x1)), (2, .int (x2)), (3, .int (n))] := hl
  refine lv_aload_n hx hb d_Lw_shift_0 rfl (lv_at hl 0 rfl) ?_
  refine lv_iload_n hx hb d_Lw_shift_1 rfl (lv_at hl 1 rfl) ?_
  refine xV_r (As := [.int (x1)]) (rest := []) (n := 1) ⟨hx, hb, hml, hown, hts⟩ (c_Lw_registerAt l w _ hl9 x1) (cwV0 1 hts lm_Lw_52 im_Lw_registerAt se_Lw_registerAt in_Lw kq_Lw_registerAt rfl rfl rfl (by decide +kernel) ⟨Nat.le_of_ble_eq_true rfl, Nat.le_of_ble_eq_true rfl⟩) (recvL hKW.1 hP) hKW hP hD hS rfl hl.1 rfl (Nat.le_of_ble_eq_true rfl) d_Lw_shift_2 ⟨Nat.le_of_ble_eq_true rfl, Nat.le_of_ble_eq_true rfl⟩ htab hlocks ⟨Nat.le_of_ble_eq_true rfl, Nat.le_of_ble_eq_true rfl⟩ (fun E u h => by obtain ⟨hEx, hu, hn⟩ := h; subst hu; exact ⟨A, hCI, Or.inl ⟨hEx, if_neg (fun q => hn q.1)⟩⟩) (fun w1 ra H locs hp hP hD hS => ?_)
  obtain ⟨ew, i1, hi1, hvi1, hra⟩ := hp
  rw [show w1 = w from ew] at hP hD
  have hra : ra = ad (2 * i1 + 8) := hra
  subst hra
  subst hvi1
  have wni1 : wN (nI i1) = i1 := wN_small (by omega)
  refine lv_astore (lv' := [(4, .ref (ad (2 * i1 + 8))), (0, .ref (ad 0)), (1, .int (nI (i1))), (2, .int (x2)), (3, .int (n))]) hx hb d_Lw_shift_5 hl (by decide) rfl (fun ls hl => ?_)
  refine lv_aload_n hx hb d_Lw_shift_7 rfl (lv_at hl 1 rfl) ?_
  refine lv_iload_n hx hb d_Lw_shift_8 rfl (lv_at hl 3 rfl) ?_
  refine xV_r (As := [.int (x2)]) (rest := []) (n := 1) ⟨hx, hb, hml, hown, hts⟩ (c_Lw_registerAt l w _ hl9 x2) (cwV0 1 hts lm_Lw_52 im_Lw_registerAt se_Lw_registerAt in_Lw kq_Lw_registerAt rfl rfl rfl (by decide +kernel) ⟨Nat.le_of_ble_eq_true rfl, Nat.le_of_ble_eq_true rfl⟩) (recvL hKW.1 hP) hKW hP hD hS rfl hl.1 rfl (Nat.le_of_ble_eq_true rfl) d_Lw_shift_9 ⟨Nat.le_of_ble_eq_true rfl, Nat.le_of_ble_eq_true rfl⟩ htab hlocks ⟨Nat.le_of_ble_eq_true rfl, Nat.le_of_ble_eq_true rfl⟩ (fun E u h => by obtain ⟨hEx, hu, hn⟩ := h; subst hu; exact ⟨A, hCI, Or.inl ⟨hEx, if_neg (fun q => hn q.2.1)⟩⟩) (fun w1 ra H locs hp hP hD hS => ?_)
  obtain ⟨ew, i2, hi2, hvi2, hra⟩ := hp
  rw [show w1 = w from ew] at hP hD
  have hra : ra = ad (2 * i2 + 8) := hra
  subst hra
  subst hvi2
  have wni2 : wN (nI i2) = i2 := wN_small (by omega)
  refine lv_astore (lv' := [(5, .ref (ad (2 * i2 + 8))), (4, .ref (ad (2 * i1 + 8))), (0, .ref (ad 0)), (1, .int (nI (i1))), (2, .int (nI (i2))), (3, .int (n))]) hx hb d_Lw_shift_12 hl (by decide) rfl (fun ls hl => ?_)
  refine lv_iload_n hx hb d_Lw_shift_14 rfl (lv_at hl 5 rfl) ?_
  refine lv_ldc (v := (-200000)) hx hb hown (hA_ hts lk_Lw_68) d_Lw_shift_15 ?_
  refine lv_ldc (v := 200000) hx hb hown (hA_ hts lk_Lw_69) d_Lw_shift_17 ?_
  refine xS_v (As := [.int (n), .int (-200000), .int (200000)]) (rest := []) (n := 3) ⟨hx, hb, hml, hown, hts⟩ (c_Lw_requireRange l w _ hl9 n (-200000) 200000) (cwS0 3 hts lm_Lw_70 st_Lw_requireRange in_Lw kq_Lw_requireRange rfl rfl rfl (by decide +kernel) ⟨Nat.le_of_ble_eq_true rfl, Nat.le_of_ble_eq_true rfl⟩) hKW hP hD hS rfl hl.1 rfl (Nat.le_of_ble_eq_true rfl) d_Lw_shift_19 ⟨Nat.le_of_ble_eq_true rfl, Nat.le_of_ble_eq_true rfl⟩ htab hlocks ⟨Nat.le_of_ble_eq_true rfl, Nat.le_of_ble_eq_true rfl⟩ (fun E u h => by obtain ⟨hEx, hu, hn⟩ := h; subst hu; exact ⟨A, hCI, Or.inl ⟨hEx, if_neg (fun q => hn q.2.2)⟩⟩) (fun w1 H locs hp hP hD hS => ?_)
  obtain ⟨ew, hr1, hr2⟩ := hp
  rw [ew] at hP hD
  have hbv := hCI.bits hi2
  have hVa := hCI.reg hi2
  rcases sh_cases hr1 hr2 with ⟨kk, hk, hnk⟩ | ⟨kk, hk1, hk, hnk⟩
  · skip
    subst hnk
    have hs9 : shv (aG A i2) (nI kk) = aG A i2 * 2 ^ kk := shv_U hk
    have hrg : rg (nI i1) ∧ rg (nI i2) ∧ -200000 ≤ nI kk ∧ nI kk ≤ 200000 := ⟨rg_nI hi1, rg_nI hi2, hr1, hr2⟩
    have hnn : 200000 < nb (aG A i2) + kk ↔ 200000 < nb (aG A i2 * 2 ^ kk) := by
      rcases Nat.eq_zero_or_pos (aG A i2) with z | z
      · rw [z, Nat.zero_mul, nb_0]; omega
      · rw [nb_mul2 (by omega)]
    refine lv_aload hx hb d_Lw_shift_22 (lv_at hl 0 rfl) ?_
    refine wV_i (As := []) (rest := []) (n := 0) ⟨hx, hb, hml, hown, hts⟩ (c_Na_countBits l w _ (i := i2) (by omega) hVa) (cwV0 0 hts lm_Lw_60 im_Na_countBits se_Na_countBits in_Na kq_Na_countBits rfl rfl rfl (by decide +kernel) ⟨Nat.le_of_ble_eq_true rfl, Nat.le_of_ble_eq_true rfl⟩) (recvN hKW.1 hP (i := i2) (by omega)) hKW hP hD hS rfl hl.1 rfl (Nat.le_of_ble_eq_true rfl) d_Lw_shift_24 ⟨Nat.le_of_ble_eq_true rfl, Nat.le_of_ble_eq_true rfl⟩ (fun r w1 H locs hp hP hD hS => ?_)
    obtain ⟨er, ew⟩ := hp
    rw [ew] at hP hD
    subst er
    refine lv_iload_n hx hb d_Lw_shift_27 rfl (lv_at hl 5 rfl) ?_
    refine nw_iadd (v := nI (nb (aG A i2) + kk)) hx hb d_Lw_shift_28 (nI_add _ _) ?_
    refine lv_ldc (v := 200000) hx hb hown (hA_ hts lk_Lw_69) d_Lw_shift_29 ?_
    refine xS_v (As := [.int (nI (nb (aG A i2) + kk)), .int (200000)]) (rest := []) (n := 2) ⟨hx, hb, hml, hown, hts⟩ (c_Lw_refuseBeyond l w _ hl9 (nI (nb (aG A i2) + kk)) 200000) (cwS0 2 hts lm_Lw_74 st_Lw_refuseBeyond in_Lw kq_Lw_refuseBeyond rfl rfl rfl (by decide +kernel) ⟨Nat.le_of_ble_eq_true rfl, Nat.le_of_ble_eq_true rfl⟩) hKW hP hD hS rfl hl.1 rfl (Nat.le_of_ble_eq_true rfl) d_Lw_shift_31 ⟨Nat.le_of_ble_eq_true rfl, Nat.le_of_ble_eq_true rfl⟩ htab hlocks ⟨Nat.le_of_ble_eq_true rfl, Nat.le_of_ble_eq_true rfl⟩ (fun E u h => by obtain ⟨hEx, hu, hn⟩ := h; subst hu; exact ⟨A, hCI, Or.inr ⟨hEx, by unfold sp_shift; rw [wni2, hs9, if_pos hrg, if_pos (hnn.mp (Nat.not_le.mp (fun q => hn (by rw [lt2e5]; exact (nI_leI (by omega) (by omega)).mpr q))))]⟩⟩) (fun w1 H locs hp hP hD hS => ?_)
    obtain ⟨ew, hle⟩ := hp
    rw [ew] at hP hD
    have hle : nb (aG A i2) + kk ≤ 200000 := (nI_leI (by omega) (by omega)).mp hle
    have hno : ¬ 200000 < nb (aG A i2 * 2 ^ kk) := fun q => by have := hnn.mpr q; omega
    refine lv_aload hx hb d_Lw_shift_34 (lv_at hl 1 rfl) ?_
    refine lv_aload hx hb d_Lw_shift_36 (lv_at hl 0 rfl) ?_
    refine lv_iload_n hx hb d_Lw_shift_38 rfl (lv_at hl 5 rfl) ?_
    refine wV_v (As := [.ref (ad (2 * i2 + 8)), .int (nI (kk))]) (rest := []) (n := 2) ⟨hx, hb, hml, hown, hts⟩ (c_Na_putMovedU l w _ (i := i1) (a := i2) (n := kk) (by omega) (by omega) hVa (by omega) (fitU hVa (nb_fit (show nb (aG A i2 * 2 ^ kk) ≤ 200000 by omega) (by omega)) (by omega))) (cwV0 2 hts lm_Lw_78 im_Na_putMoved se_Na_putMoved in_Na kq_Na_putMoved rfl rfl rfl (by decide +kernel) ⟨Nat.le_of_ble_eq_true rfl, Nat.le_of_ble_eq_true rfl⟩) (recvN hKW.1 hP (i := i1) (by omega)) hKW hP hD hS rfl hl.1 rfl (Nat.le_of_ble_eq_true rfl) d_Lw_shift_39 ⟨Nat.le_of_ble_eq_true rfl, Nat.le_of_ble_eq_true rfl⟩ (fun w2 H locs hp hP hD hS => ?_)
    obtain ⟨hE, hV⟩ := hp
    refine lv_aload hx hb d_Lw_shift_42 (lv_at hl 1 rfl) ?_
    refine wV_i (As := []) (rest := []) (n := 0) ⟨hx, hb, hml, hown, hts⟩ (c_Na_countBits l w2 _ (i := i1) (by omega) hV) (cwV0 0 hts lm_Lw_60 im_Na_countBits se_Na_countBits in_Na kq_Na_countBits rfl rfl rfl (by decide +kernel) ⟨Nat.le_of_ble_eq_true rfl, Nat.le_of_ble_eq_true rfl⟩) (recvN hKW.1 hP (i := i1) (by omega)) hKW hP hD hS rfl hl.1 rfl (Nat.le_of_ble_eq_true rfl) d_Lw_shift_44 ⟨Nat.le_of_ble_eq_true rfl, Nat.le_of_ble_eq_true rfl⟩ (fun r w3 H locs hp hP hD hS => ?_)
    obtain ⟨er, ew⟩ := hp
    rw [ew] at hP hD
    subst er
    exact vx_ret (W.widen (k := 4) (n := 24) (Nat.le_of_ble_eq_true rfl) (Nat.le_of_ble_eq_true rfl) (W.iret (v := nI (nb (aG A i2 * 2 ^ kk))) hx hb hr (fun t ht hW => ⟨⟨_, w2, rfl, ⟨pG A i1 (aG A i2 * 2 ^ kk), hCI.put (hE.B (List.mem_singleton.mpr rfl)) (fun j hj => Or.inl (List.mem_singleton.mp hj)) hV (by omega), by unfold sp_shift; rw [wni1, wni2, hs9, if_pos hrg, if_neg hno]⟩, BW_of ht hP⟩, hS.F ht⟩) hS.2.2 d_Lw_shift_47))
  · skip
    subst hnk
    have hs9 : shv (aG A i2) (-nI kk) = aG A i2 / 2 ^ kk := shv_D hk1 hk
    have hrg : rg (nI i1) ∧ rg (nI i2) ∧ -200000 ≤ -nI kk ∧ -nI kk ≤ 200000 := ⟨rg_nI hi1, rg_nI hi2, hr1, hr2⟩
    have hno : ¬ 200000 < nb (aG A i2 / 2 ^ kk) := fun q => by have := nb_mono (Nat.div_le_self (aG A i2) (2 ^ kk)); omega
    refine lv_aload hx hb d_Lw_shift_22 (lv_at hl 0 rfl) ?_
    refine wV_i (As := []) (rest := []) (n := 0) ⟨hx, hb, hml, hown, hts⟩ (c_Na_countBits l w _ (i := i2) (by omega) hVa) (cwV0 0 hts lm_Lw_60 im_Na_countBits se_Na_countBits in_Na kq_Na_countBits rfl rfl rfl (by decide +kernel) ⟨Nat.le_of_ble_eq_true rfl, Nat.le_of_ble_eq_true rfl⟩) (recvN hKW.1 hP (i := i2) (by omega)) hKW hP hD hS rfl hl.1 rfl (Nat.le_of_ble_eq_true rfl) d_Lw_shift_24 ⟨Nat.le_of_ble_eq_true rfl, Nat.le_of_ble_eq_true rfl⟩ (fun r w1 H locs hp hP hD hS => ?_)
    obtain ⟨er, ew⟩ := hp
    rw [ew] at hP hD
    subst er
    refine lv_iload_n hx hb d_Lw_shift_27 rfl (lv_at hl 5 rfl) ?_
    refine nw_iadd (v := iZ (((nb (aG A i2) : Nat) : Int) - (kk : Int))) hx hb d_Lw_shift_28 (ng_add _ _) ?_
    refine lv_ldc (v := 200000) hx hb hown (hA_ hts lk_Lw_69) d_Lw_shift_29 ?_
    refine xS_v (As := [.int (iZ (((nb (aG A i2) : Nat) : Int) - (kk : Int))), .int (200000)]) (rest := []) (n := 2) ⟨hx, hb, hml, hown, hts⟩ (c_Lw_refuseBeyond l w _ hl9 (iZ (((nb (aG A i2) : Nat) : Int) - (kk : Int))) 200000) (cwS0 2 hts lm_Lw_74 st_Lw_refuseBeyond in_Lw kq_Lw_refuseBeyond rfl rfl rfl (by decide +kernel) ⟨Nat.le_of_ble_eq_true rfl, Nat.le_of_ble_eq_true rfl⟩) hKW hP hD hS rfl hl.1 rfl (Nat.le_of_ble_eq_true rfl) d_Lw_shift_31 ⟨Nat.le_of_ble_eq_true rfl, Nat.le_of_ble_eq_true rfl⟩ htab hlocks ⟨Nat.le_of_ble_eq_true rfl, Nat.le_of_ble_eq_true rfl⟩ (fun E u h => by obtain ⟨hE, hu, hn⟩ := h; exact absurd (by rw [lt2e5, nI_iZ]; exact (iZ_le (by omega) (by omega) (by omega) (by omega)).mpr (by omega)) hn) (fun w1 H locs hp hP hD hS => ?_)
    obtain ⟨ew, hle⟩ := hp
    rw [ew] at hP hD
    refine lv_aload hx hb d_Lw_shift_34 (lv_at hl 1 rfl) ?_
    refine lv_aload hx hb d_Lw_shift_36 (lv_at hl 0 rfl) ?_
    refine lv_iload_n hx hb d_Lw_shift_38 rfl (lv_at hl 5 rfl) ?_
    refine wV_v (As := [.ref (ad (2 * i2 + 8)), .int (-nI kk)]) (rest := []) (n := 2) ⟨hx, hb, hml, hown, hts⟩ (c_Na_putMovedD l w _ (i := i1) (a := i2) (n := kk) (by omega) (by omega) hVa (by omega) (by have := fitB hVa hbv (by omega); omega)) (cwV0 2 hts lm_Lw_78 im_Na_putMoved se_Na_putMoved in_Na kq_Na_putMoved rfl rfl rfl (by decide +kernel) ⟨Nat.le_of_ble_eq_true rfl, Nat.le_of_ble_eq_true rfl⟩) (recvN hKW.1 hP (i := i1) (by omega)) hKW hP hD hS rfl hl.1 rfl (Nat.le_of_ble_eq_true rfl) d_Lw_shift_39 ⟨Nat.le_of_ble_eq_true rfl, Nat.le_of_ble_eq_true rfl⟩ (fun w2 H locs hp hP hD hS => ?_)
    obtain ⟨hE, hV⟩ := hp
    refine lv_aload hx hb d_Lw_shift_42 (lv_at hl 1 rfl) ?_
    refine wV_i (As := []) (rest := []) (n := 0) ⟨hx, hb, hml, hown, hts⟩ (c_Na_countBits l w2 _ (i := i1) (by omega) hV) (cwV0 0 hts lm_Lw_60 im_Na_countBits se_Na_countBits in_Na kq_Na_countBits rfl rfl rfl (by decide +kernel) ⟨Nat.le_of_ble_eq_true rfl, Nat.le_of_ble_eq_true rfl⟩) (recvN hKW.1 hP (i := i1) (by omega)) hKW hP hD hS rfl hl.1 rfl (Nat.le_of_ble_eq_true rfl) d_Lw_shift_44 ⟨Nat.le_of_ble_eq_true rfl, Nat.le_of_ble_eq_true rfl⟩ (fun r w3 H locs hp hP hD hS => ?_)
    obtain ⟨er, ew⟩ := hp
    rw [ew] at hP hD
    subst er
    exact vx_ret (W.widen (k := 4) (n := 24) (Nat.le_of_ble_eq_true rfl) (Nat.le_of_ble_eq_true rfl) (W.iret (v := nI (nb (aG A i2 / 2 ^ kk))) hx hb hr (fun t ht hW => ⟨⟨_, w2, rfl, ⟨pG A i1 (aG A i2 / 2 ^ kk), hCI.put (hE.B (List.mem_singleton.mpr rfl)) (fun j hj => Or.inl (List.mem_singleton.mp hj)) hV (by omega), by unfold sp_shift; rw [wni1, wni2, hs9, if_pos hrg, if_neg hno]⟩, BW_of ht hP⟩, hS.F ht⟩) hS.2.2 d_Lw_shift_47))
set_option maxHeartbeats 4000000 in
set_option maxRecDepth 100000 in
/-- add -/
theorem c_Lw_add (l : Launch) {D : va_G} {cI cB cR : ClassId} {ad : Nat → Nat} (w : St) (sz : Nat) (hl9 : l.stackTraces = false) (x1 x2 x3 : Int32) (A : Ab) (hCI : CI w A) : vx_Met l y_Lw_add (q_Lw_add :: wA) { frames := 14, cells := 4, slots := 24, locals := 300 } (va_Pc [.ref (ad 0), .int (x1), .int (x2), .int (x3)] (PW D cI cB cR ad w sz)) (va_Qi (fun (r : Int32) (w1 : St) => okp (sp_add x1 x2 x3 A) r w1) (BW D cI cB cR ad) (AA ad sz)) (XW D cI cB cR ad (fun E u => thp (sp_add x1 x2 x3 A) E_IA E_IS E u) sz) 4 24 (AA ad sz) := by
  refine vx_ofW (cc := b_Lw_add) (maxL := 5) (ret := (some (.int))) (by decide) rfl ?_
  intro p e s m args below meth c s₁ B hml htab hv
  obtain ⟨rfl, hsz, hP, hD0, hKW⟩ := hv
  have hx := B.exec
  have hb := B.bytes
  have hr := B.returns
  have hts := atoms_spec (ws := q_Lw_add :: wA) B.pre
  have hown : s.vm.findClass R_Lw = some m.cls := findClass_of_methodNamed B.named
  have hlocks := B.notSynchronized
  subst hsz
  have hD := NC_AA (sz := s.heap.size) hD0
  have hS : va_S (AA ad s.heap.size) s.heap s.heap [] := va_S.rf
  have hl := lv_entry ([.ref (ad 0), .int (x1), .int (x2), .int (x3)]) (n := 5) (Nat.le_of_ble_eq_true rfl)
  rw [lg_entry_eq]
  generalize (lg_sl ([.ref (ad 0), .int (x1), .int (x2), .int (x3)]) ++ List.replicate (5 - (lg_sl ([.ref (ad 0), .int (x1), .int (x2), .int (x3)])).length) Slot.unset).toArray = ls at hl ⊢
  have hl : lv_has ls 5 [(0, .ref (ad 0)), (1, .int (x1)), (2, .int (x2)), (3, .int (x3))] := hl
  refine lv_aload_n hx hb d_Lw_add_0 rfl (lv_at hl 0 rfl) ?_
  refine lv_iload_n hx hb d_Lw_add_1 rfl (lv_at hl 1 rfl) ?_
  refine xV_r (As := [.int (x1)]) (rest := []) (n := 1) ⟨hx, hb, hml, hown, hts⟩ (c_Lw_registerAt l w _ hl9 x1) (cwV0 1 hts lm_Lw_52 im_Lw_registerAt se_Lw_registerAt in_Lw kq_Lw_registerAt rfl rfl rfl (by decide +kernel) ⟨Nat.le_of_ble_eq_true rfl, Nat.le_of_ble_eq_true rfl⟩) (recvL hKW.1 hP) hKW hP hD hS rfl hl.1 rfl (Nat.le_of_ble_eq_true rfl) d_Lw_add_2 ⟨Nat.le_of_ble_eq_true rfl, Nat.le_of_ble_eq_true rfl⟩ htab hlocks ⟨Nat.le_of_ble_eq_true rfl, Nat.le_of_ble_eq_true rfl⟩ (fun E u h => by obtain ⟨hEx, hu, hn⟩ := h; subst hu; exact ⟨A, hCI, Or.inl ⟨hEx, if_neg (fun q => hn q.1)⟩⟩) (fun w1 ra H locs hp hP hD hS => ?_)
  obtain ⟨ew, i1, hi1, hvi1, hra⟩ := hp
  rw [show w1 = w from ew] at hP hD
  have hra : ra = ad (2 * i1 + 8) := hra
  subst hra
  subst hvi1
  have wni1 : wN (nI i1) = i1 := wN_small (by omega)
  refine lv_astore (lv' := [(4, .ref (ad (2 * i1 + 8))), (0, .ref (ad 0)), (1, .int (nI (i1))), (2, .int (x2)), (3, .int (x3))]) hx hb d_Lw_add_5 hl (by decide) rfl (fun ls hl => ?_)
  refine lv_aload_n hx hb d_Lw_add_7 rfl (lv_at hl 1 rfl) ?_
  refine nw_gF1 hx hb hts hown hKW.1 hP lf_Lw_16 d_Lw_add_8 ?_
  refine lv_aload_n hx hb d_Lw_add_11 rfl (lv_at hl 1 rfl) ?_
  refine lv_iload_n hx hb d_Lw_add_12 rfl (lv_at hl 3 rfl) ?_
  refine xV_r (As := [.int (x2)]) (rest := [.ref (ad 28)]) (n := 1) ⟨hx, hb, hml, hown, hts⟩ (c_Lw_registerAt l w _ hl9 x2) (cwV0 1 hts lm_Lw_52 im_Lw_registerAt se_Lw_registerAt in_Lw kq_Lw_registerAt rfl rfl rfl (by decide +kernel) ⟨Nat.le_of_ble_eq_true rfl, Nat.le_of_ble_eq_true rfl⟩) (recvL hKW.1 hP) hKW hP hD hS rfl hl.1 rfl (Nat.le_of_ble_eq_true rfl) d_Lw_add_13 ⟨Nat.le_of_ble_eq_true rfl, Nat.le_of_ble_eq_true rfl⟩ htab hlocks ⟨Nat.le_of_ble_eq_true rfl, Nat.le_of_ble_eq_true rfl⟩ (fun E u h => by obtain ⟨hEx, hu, hn⟩ := h; subst hu; exact ⟨A, hCI, Or.inl ⟨hEx, if_neg (fun q => hn q.2.1)⟩⟩) (fun w1 ra H locs hp hP hD hS => ?_)
  obtain ⟨ew, i2, hi2, hvi2, hra⟩ := hp
  rw [show w1 = w from ew] at hP hD
  have hra : ra = ad (2 * i2 + 8) := hra
  subst hra
  subst hvi2
  have wni2 : wN (nI i2) = i2 := wN_small (by omega)
  refine lv_aload_n hx hb d_Lw_add_16 rfl (lv_at hl 1 rfl) ?_
  refine lv_iload_n hx hb d_Lw_add_17 rfl (lv_at hl 4 rfl) ?_
  refine xV_r (As := [.int (x3)]) (rest := [.ref (ad (2 * i2 + 8)), .ref (ad 28)]) (n := 1) ⟨hx, hb, hml, hown, hts⟩ (c_Lw_registerAt l w _ hl9 x3) (cwV0 1 hts lm_Lw_52 im_Lw_registerAt se_Lw_registerAt in_Lw kq_Lw_registerAt rfl rfl rfl (by decide +kernel) ⟨Nat.le_of_ble_eq_true rfl, Nat.le_of_ble_eq_true rfl⟩) (recvL hKW.1 hP) hKW hP hD hS rfl hl.1 rfl (Nat.le_of_ble_eq_true rfl) d_Lw_add_18 ⟨Nat.le_of_ble_eq_true rfl, Nat.le_of_ble_eq_true rfl⟩ htab hlocks ⟨Nat.le_of_ble_eq_true rfl, Nat.le_of_ble_eq_true rfl⟩ (fun E u h => by obtain ⟨hEx, hu, hn⟩ := h; subst hu; exact ⟨A, hCI, Or.inl ⟨hEx, if_neg (fun q => hn q.2.2)⟩⟩) (fun w1 ra H locs hp hP hD hS => ?_)
  obtain ⟨ew, i3, hi3, hvi3, hra⟩ := hp
  rw [show w1 = w from ew] at hP hD
  have hra : ra = ad (2 * i3 + 8) := hra
  subst hra
  subst hvi3
  have wni3 : wN (nI i3) = i3 := wN_small (by omega)
  have hb2 := hCI.bits hi2
  have hb3 := hCI.bits hi3
  have hV2 := hCI.reg hi2
  have hV3 := hCI.reg hi3
  have hrg : rg (nI i1) ∧ rg (nI i2) ∧ rg (nI i3) := ⟨rg_nI hi1, rg_nI hi2, rg_nI hi3⟩
  have hns := nb_add hb2 hb3
  refine wV_v (As := [.ref (ad (2 * i2 + 8)), .ref (ad (2 * i3 + 8))]) (rest := []) (n := 2) ⟨hx, hb, hml, hown, hts⟩ (c_Na_putSum l w _ (i := 10) (a := i2) (b := i3) (by omega) (by omega) (by omega) hV2 hV3 (by have := fitB hV2 hb2 (by omega); omega) (by have := fitB hV3 hb3 (by omega); omega)) (cwV0 2 hts lm_Lw_82 im_Na_putSum se_Na_putSum in_Na kq_Na_putSum rfl rfl rfl (by decide +kernel) ⟨Nat.le_of_ble_eq_true rfl, Nat.le_of_ble_eq_true rfl⟩) (recvN hKW.1 hP (i := 10) (by omega)) hKW hP hD hS rfl hl.1 rfl (Nat.le_of_ble_eq_true rfl) d_Lw_add_21 ⟨Nat.le_of_ble_eq_true rfl, Nat.le_of_ble_eq_true rfl⟩ (fun w2 H locs hp hP hD hS => ?_)
  obtain ⟨hE, hV⟩ := hp
  have hE2 : eqB w w2 [10] := hE.B (List.mem_singleton.mpr rfl)
  have hC2 := hCI.same hE2 (fun j hj => by rw [List.mem_singleton.mp hj]; omega)
  refine lv_aload_n hx hb d_Lw_add_24 rfl (lv_at hl 1 rfl) ?_
  refine nw_gF1 hx hb hts hown hKW.1 hP lf_Lw_16 d_Lw_add_25 ?_
  refine wV_i (As := []) (rest := []) (n := 0) ⟨hx, hb, hml, hown, hts⟩ (c_Na_countBits l w2 _ (i := 10) (by omega) hV) (cwV0 0 hts lm_Lw_60 im_Na_countBits se_Na_countBits in_Na kq_Na_countBits rfl rfl rfl (by decide +kernel) ⟨Nat.le_of_ble_eq_true rfl, Nat.le_of_ble_eq_true rfl⟩) (recvN hKW.1 hP (i := 10) (by omega)) hKW hP hD hS rfl hl.1 rfl (Nat.le_of_ble_eq_true rfl) d_Lw_add_28 ⟨Nat.le_of_ble_eq_true rfl, Nat.le_of_ble_eq_true rfl⟩ (fun r w3 H locs hp hP hD hS => ?_)
  obtain ⟨er, ew⟩ := hp
  rw [ew] at hP hD
  subst er
  refine lv_ldc (v := 200000) hx hb hown (hA_ hts lk_Lw_69) d_Lw_add_31 ?_
  refine xS_v (As := [.int (nI (nb (aG A i2 + aG A i3))), .int (200000)]) (rest := []) (n := 2) ⟨hx, hb, hml, hown, hts⟩ (c_Lw_refuseBeyond l w2 _ hl9 (nI (nb (aG A i2 + aG A i3))) 200000) (cwS0 2 hts lm_Lw_74 st_Lw_refuseBeyond in_Lw kq_Lw_refuseBeyond rfl rfl rfl (by decide +kernel) ⟨Nat.le_of_ble_eq_true rfl, Nat.le_of_ble_eq_true rfl⟩) hKW hP hD hS rfl hl.1 rfl (Nat.le_of_ble_eq_true rfl) d_Lw_add_33 ⟨Nat.le_of_ble_eq_true rfl, Nat.le_of_ble_eq_true rfl⟩ htab hlocks ⟨Nat.le_of_ble_eq_true rfl, Nat.le_of_ble_eq_true rfl⟩ (fun E u h => by obtain ⟨hEx, hu, hn⟩ := h; subst hu; exact ⟨A, hC2, Or.inr ⟨hEx, by unfold sp_add; rw [wni2, wni3, if_pos hrg, if_pos (Nat.not_le.mp (fun q => hn (by rw [lt2e5]; exact (nI_leI (by omega) (by omega)).mpr q)))]⟩⟩) (fun w3 H locs hp hP hD hS => ?_)
  obtain ⟨ew, hle⟩ := hp
  rw [ew] at hP hD
  have hle : nb (aG A i2 + aG A i3) ≤ 200000 := (nI_leI (by omega) (by omega)).mp hle
  refine lv_aload hx hb d_Lw_add_36 (lv_at hl 0 rfl) ?_
  refine lv_aload_n hx hb d_Lw_add_38 rfl (lv_at hl 1 rfl) ?_
  refine nw_gF1 hx hb hts hown hKW.1 hP lf_Lw_16 d_Lw_add_39 ?_
  refine wS_i (As := [.ref (ad (2 * i1 + 8)), .ref (ad 28)]) (rest := []) (n := 2) ⟨hx, hb, hml, hown, hts⟩ (c_Lw_keep l w2 _ (i := i1) (a := 10) (by omega) (by omega) hV) (cwS0 2 hts lm_Lw_64 st_Lw_keep in_Lw kq_Lw_keep rfl rfl rfl (by decide +kernel) ⟨Nat.le_of_ble_eq_true rfl, Nat.le_of_ble_eq_true rfl⟩) hKW hP hD hS rfl hl.1 rfl (Nat.le_of_ble_eq_true rfl) d_Lw_add_42 ⟨Nat.le_of_ble_eq_true rfl, Nat.le_of_ble_eq_true rfl⟩ (fun r w4 H locs hp hP hD hS => ?_)
  obtain ⟨er, hE4, hV4⟩ := hp
  subst er
  exact vx_ret (W.widen (k := 4) (n := 24) (Nat.le_of_ble_eq_true rfl) (Nat.le_of_ble_eq_true rfl) (W.iret (v := nI (nb (aG A i2 + aG A i3))) hx hb hr (fun t ht hW => ⟨⟨_, w4, rfl, ⟨pG A i1 (aG A i2 + aG A i3), hC2.put (hE4.B (List.mem_singleton.mpr rfl)) (fun j hj => Or.inl (List.mem_singleton.mp hj)) hV4 hle, by unfold sp_add; rw [wni1, wni2, wni3, if_pos hrg, if_neg (by omega)]⟩, BW_of ht hP⟩, hS.F ht⟩) hS.2.2 d_Lw_add_45))
set_option maxHeartbeats 4000000 in
set_option maxRecDepth 100000 in
/-- subtract -/
theorem c_Lw_subtract (l : Launch) {D : va_G} {cI cB cR : ClassId} {ad : Nat → Nat} (w : St) (sz : Nat) (hl9 : l.stackTraces = false) (x1 x2 x3 : Int32) (A : Ab) (hCI : CI w A) : vx_Met l y_Lw_subtract (q_Lw_subtract :: wA) { frames := 14, cells := 4, slots := 24, locals := 300 } (va_Pc [.ref (ad 0), .int (x1), .int (x2), .int (x3)] (PW D cI cB cR ad w sz)) (va_Qi (fun (r : Int32) (w1 : St) => okp (sp_subtract x1 x2 x3 A) r w1) (BW D cI cB cR ad) (AA ad sz)) (XW D cI cB cR ad (fun E u => thp (sp_subtract x1 x2 x3 A) E_IA E_AR E u) sz) 4 24 (AA ad sz) := by
  refine vx_ofW (cc := b_Lw_subtract) (maxL := 7) (ret := (some (.int))) (by decide) rfl ?_
  intro p e s m args below meth c s₁ B hml htab hv
  obtain ⟨rfl, hsz, hP, hD0, hKW⟩ := hv
  have hx := B.exec
  have hb := B.bytes
  have hr := B.returns
  have hts := atoms_spec (ws := q_Lw_subtract :: wA) B.pre
  have hown : s.vm.findClass R_Lw = some m.cls := findClass_of_methodNamed B.named
  have hlocks := B.notSynchronized
  subst hsz
  have hD := NC_AA (sz := s.heap.size) hD0
  have hS : va_S (AA ad s.heap.size) s.heap s.heap [] := va_S.rf
  have hl := lv_entry ([.ref (ad 0), .int (x1), .int (x2), .int (x3)]) (n := 7) (Nat.le_of_ble_eq_true rfl)
  rw [lg_entry_eq]
  generalize (lg_sl ([.ref (ad 0), .int (x1), .int (x2), .int (x3)]) ++ List.replicate (7 - (lg_sl ([.ref (ad 0), .int (x1), .int (x2), .int (x3)])).length) Slot.unset).toArray = ls at hl ⊢
  have hl : lv_has ls 7 [(0, .ref (ad 0)), (1, .int (x1)), (2, .int (x2)), (3, .int (x3))] := hl
  refine lv_aload_n hx hb d_Lw_subtract_0 rfl (lv_at hl 0 rfl) ?_
  refine lv_iload_n hx hb d_Lw_subtract_1 rfl (lv_at hl 1 rfl) ?_
  refine xV_r (As := [.int (x1)]) (rest := []) (n := 1) ⟨hx, hb, hml, hown, hts⟩ (c_Lw_registerAt l w _ hl9 x1) (cwV0 1 hts lm_Lw_52 im_Lw_registerAt se_Lw_registerAt in_Lw kq_Lw_registerAt rfl rfl rfl (by decide +kernel) ⟨Nat.le_of_ble_eq_true rfl, Nat.le_of_ble_eq_true rfl⟩) (recvL hKW.1 hP) hKW hP hD hS rfl hl.1 rfl (Nat.le_of_ble_eq_true rfl) d_Lw_subtract_2 ⟨Nat.le_of_ble_eq_true rfl, Nat.le_of_ble_eq_true rfl⟩ htab hlocks ⟨Nat.le_of_ble_eq_true rfl, Nat.le_of_ble_eq_true rfl⟩ (fun E u h => by obtain ⟨hEx, hu, hn⟩ := h; subst hu; exact ⟨A, hCI, Or.inl ⟨hEx, if_neg (fun q => hn q.1)⟩⟩) (fun w1 ra H locs hp hP hD hS => ?_)
  obtain ⟨ew, i1, hi1, hvi1, hra⟩ := hp
  rw [show w1 = w from ew] at hP hD
  have hra : ra = ad (2 * i1 + 8) := hra
  subst hra
  subst hvi1
  have wni1 : wN (nI i1) = i1 := wN_small (by omega)
  refine lv_astore (lv' := [(4, .ref (ad (2 * i1 + 8))), (0, .ref (ad 0)), (1, .int (nI (i1))), (2, .int (x2)), (3, .int (x3))]) hx hb d_Lw_subtract_5 hl (by decide) rfl (fun ls hl => ?_)
  refine lv_aload_n hx hb d_Lw_subtract_7 rfl (lv_at hl 1 rfl) ?_
  refine lv_iload_n hx hb d_Lw_subtract_8 rfl (lv_at hl 3 rfl) ?_
  refine xV_r (As := [.int (x2)]) (rest := []) (n := 1) ⟨hx, hb, hml, hown, hts⟩ (c_Lw_registerAt l w _ hl9 x2) (cwV0 1 hts lm_Lw_52 im_Lw_registerAt se_Lw_registerAt in_Lw kq_Lw_registerAt rfl rfl rfl (by decide +kernel) ⟨Nat.le_of_ble_eq_true rfl, Nat.le_of_ble_eq_true rfl⟩) (recvL hKW.1 hP) hKW hP hD hS rfl hl.1 rfl (Nat.le_of_ble_eq_true rfl) d_Lw_subtract_9 ⟨Nat.le_of_ble_eq_true rfl, Nat.le_of_ble_eq_true rfl⟩ htab hlocks ⟨Nat.le_of_ble_eq_true rfl, Nat.le_of_ble_eq_true rfl⟩ (fun E u h => by obtain ⟨hEx, hu, hn⟩ := h; subst hu; exact ⟨A, hCI, Or.inl ⟨hEx, if_neg (fun q => hn q.2.1)⟩⟩) (fun w1 ra H locs hp hP hD hS => ?_)
  obtain ⟨ew, i2, hi2, hvi2, hra⟩ := hp
  rw [show w1 = w from ew] at hP hD
  have hra : ra = ad (2 * i2 + 8) := hra
  subst hra
  subst hvi2
  have wni2 : wN (nI i2) = i2 := wN_small (by omega)
  refine lv_astore (lv' := [(5, .ref (ad (2 * i2 + 8))), (4, .ref (ad (2 * i1 + 8))), (0, .ref (ad 0)), (1, .int (nI (i1))), (2, .int (nI (i2))), (3, .int (x3))]) hx hb d_Lw_subtract_12 hl (by decide) rfl (fun ls hl => ?_)
  refine lv_aload_n hx hb d_Lw_subtract_14 rfl (lv_at hl 2 rfl) ?_
  refine lv_iload_n hx hb d_Lw_subtract_15 rfl (lv_at hl 5 rfl) ?_
  refine xV_r (As := [.int (x3)]) (rest := []) (n := 1) ⟨hx, hb, hml, hown, hts⟩ (c_Lw_registerAt l w _ hl9 x3) (cwV0 1 hts lm_Lw_52 im_Lw_registerAt se_Lw_registerAt in_Lw kq_Lw_registerAt rfl rfl rfl (by decide +kernel) ⟨Nat.le_of_ble_eq_true rfl, Nat.le_of_ble_eq_true rfl⟩) (recvL hKW.1 hP) hKW hP hD hS rfl hl.1 rfl (Nat.le_of_ble_eq_true rfl) d_Lw_subtract_16 ⟨Nat.le_of_ble_eq_true rfl, Nat.le_of_ble_eq_true rfl⟩ htab hlocks ⟨Nat.le_of_ble_eq_true rfl, Nat.le_of_ble_eq_true rfl⟩ (fun E u h => by obtain ⟨hEx, hu, hn⟩ := h; subst hu; exact ⟨A, hCI, Or.inl ⟨hEx, if_neg (fun q => hn q.2.2)⟩⟩) (fun w1 ra H locs hp hP hD hS => ?_)
  obtain ⟨ew, i3, hi3, hvi3, hra⟩ := hp
  rw [show w1 = w from ew] at hP hD
  have hra : ra = ad (2 * i3 + 8) := hra
  subst hra
  subst hvi3
  have wni3 : wN (nI i3) = i3 := wN_small (by omega)
  refine lv_astore (lv' := [(6, .ref (ad (2 * i3 + 8))), (5, .ref (ad (2 * i2 + 8))), (4, .ref (ad (2 * i1 + 8))), (0, .ref (ad 0)), (1, .int (nI (i1))), (2, .int (nI (i2))), (3, .int (nI (i3)))]) hx hb d_Lw_subtract_19 hl (by decide) rfl (fun ls hl => ?_)
  refine lv_aload hx hb d_Lw_subtract_21 (lv_at hl 1 rfl) ?_
  refine lv_aload hx hb d_Lw_subtract_23 (lv_at hl 0 rfl) ?_
  have hb2 := hCI.bits hi2
  have hV2 := hCI.reg hi2
  have hV3 := hCI.reg hi3
  have hrg : rg (nI i1) ∧ rg (nI i2) ∧ rg (nI i3) := ⟨rg_nI hi1, rg_nI hi2, rg_nI hi3⟩
  refine wV_i (As := [.ref (ad (2 * i3 + 8))]) (rest := []) (n := 1) ⟨hx, hb, hml, hown, hts⟩ (c_Na_order l w _ (i := i2) (b := i3) (by omega) (by omega) hV2 hV3) (cwV0 1 hts lm_Lw_86 im_Na_order se_Na_order in_Na kq_Na_order rfl rfl rfl (by decide +kernel) ⟨Nat.le_of_ble_eq_true rfl, Nat.le_of_ble_eq_true rfl⟩) (recvN hKW.1 hP (i := i2) (by omega)) hKW hP hD hS rfl hl.1 rfl (Nat.le_of_ble_eq_true rfl) d_Lw_subtract_25 ⟨Nat.le_of_ble_eq_true rfl, Nat.le_of_ble_eq_true rfl⟩ (fun r w2 H locs hp hP hD hS => ?_)
  obtain ⟨er, ew⟩ := hp
  rw [ew] at hP hD
  subst er
  refine lv_if_ge (tgt := 39) hx hb d_Lw_subtract_28 (by decide) (fun c28 => ?_) (fun c28 => ?_)
  · skip
    have hge : aG A i3 ≤ aG A i2 := by
      rcases Nat.lt_or_ge (aG A i2) (aG A i3) with q | q
      · rw [cmpN_lt q] at c28; exact absurd c28 (by decide)
      · exact q
    refine lv_aload hx hb d_Lw_subtract_39 (lv_at hl 2 rfl) ?_
    refine lv_aload hx hb d_Lw_subtract_41 (lv_at hl 1 rfl) ?_
    refine lv_aload hx hb d_Lw_subtract_43 (lv_at hl 0 rfl) ?_
    refine wV_v (As := [.ref (ad (2 * i2 + 8)), .ref (ad (2 * i3 + 8))]) (rest := []) (n := 2) ⟨hx, hb, hml, hown, hts⟩ (c_Na_putDifference l w _ (i := i1) (a := i2) (b := i3) (by omega) (by omega) (by omega) hV2 hV3 hge) (cwV0 2 hts lm_Lw_93 im_Na_putDifference se_Na_putDifference in_Na kq_Na_putDifference rfl rfl rfl (by decide +kernel) ⟨Nat.le_of_ble_eq_true rfl, Nat.le_of_ble_eq_true rfl⟩) (recvN hKW.1 hP (i := i1) (by omega)) hKW hP hD hS rfl hl.1 rfl (Nat.le_of_ble_eq_true rfl) d_Lw_subtract_45 ⟨Nat.le_of_ble_eq_true rfl, Nat.le_of_ble_eq_true rfl⟩ (fun w2 H locs hp hP hD hS => ?_)
    obtain ⟨hE, hV⟩ := hp
    refine lv_aload hx hb d_Lw_subtract_48 (lv_at hl 2 rfl) ?_
    refine wV_i (As := []) (rest := []) (n := 0) ⟨hx, hb, hml, hown, hts⟩ (c_Na_countBits l w2 _ (i := i1) (by omega) hV) (cwV0 0 hts lm_Lw_60 im_Na_countBits se_Na_countBits in_Na kq_Na_countBits rfl rfl rfl (by decide +kernel) ⟨Nat.le_of_ble_eq_true rfl, Nat.le_of_ble_eq_true rfl⟩) (recvN hKW.1 hP (i := i1) (by omega)) hKW hP hD hS rfl hl.1 rfl (Nat.le_of_ble_eq_true rfl) d_Lw_subtract_50 ⟨Nat.le_of_ble_eq_true rfl, Nat.le_of_ble_eq_true rfl⟩ (fun r w3 H locs hp hP hD hS => ?_)
    obtain ⟨er, ew⟩ := hp
    rw [ew] at hP hD
    subst er
    have hmn := nb_mono (Nat.sub_le (aG A i2) (aG A i3))
    exact vx_ret (W.widen (k := 4) (n := 24) (Nat.le_of_ble_eq_true rfl) (Nat.le_of_ble_eq_true rfl) (W.iret (v := nI (nb (aG A i2 - aG A i3))) hx hb hr (fun t ht hW => ⟨⟨_, w2, rfl, ⟨pG A i1 (aG A i2 - aG A i3), hCI.put (hE.B (List.mem_singleton.mpr rfl)) (fun j hj => Or.inl (List.mem_singleton.mp hj)) hV (by omega), by unfold sp_subtract; rw [wni1, wni2, wni3, if_pos hrg, if_neg (by omega)]⟩, BW_of ht hP⟩, hS.F ht⟩) hS.2.2 d_Lw_subtract_53))
  · skip
    have hlt : aG A i2 < aG A i3 := by
      rcases Nat.lt_trichotomy (aG A i2) (aG A i3) with q | q | q
      · exact q
      · rw [q, cmpN_eq] at c28; exact absurd (by decide) c28
      · rw [cmpN_gt q] at c28; exact absurd (by decide) c28
    exact xthrow hx hb hl9 hown (by decide) hts ta_Lw_AR tb_Lw_AR tg_Lw_AR tk_Lw_AR ti_AR hKW hP hS (hl.1.trans hml.symm) d_Lw_subtract_31 d_Lw_subtract_34 d_Lw_subtract_35 d_Lw_subtract_38 htab hlocks (Nat.le_of_ble_eq_true rfl) (Nat.le_of_ble_eq_true rfl) (Nat.le_of_ble_eq_true rfl) (Nat.le_of_ble_eq_true rfl) (Nat.le_of_ble_eq_true rfl) (Nat.le_of_ble_eq_true rfl) (⟨A, hCI, Or.inr ⟨rfl, by unfold sp_subtract; rw [wni2, wni3, if_pos hrg, if_pos hlt]⟩⟩)
set_option maxHeartbeats 4000000 in
set_option maxRecDepth 100000 in
/-- times -/
theorem c_Lw_times (l : Launch) {D : va_G} {cI cB cR : ClassId} {ad : Nat → Nat} (w : St) (sz : Nat) (hl9 : l.stackTraces = false) (x1 x2 x3 : Int32) (A : Ab) (hCI : CI w A) : vx_Met l y_Lw_times (q_Lw_times :: wA) { frames := 48, cells := 4, slots := 24, locals := 1950 } (va_Pc [.ref (ad 0), .int (x1), .int (x2), .int (x3)] (PW D cI cB cR ad w sz)) (va_Qi (fun (r : Int32) (w1 : St) => okp (sp_times x1 x2 x3 A) r w1) (BW D cI cB cR ad) (AA ad sz)) (XW D cI cB cR ad (fun E u => thp (sp_times x1 x2 x3 A) E_IA E_IS E u) sz) 4 24 (AA ad sz) := by
  refine vx_ofW (cc := b_Lw_times) (maxL := 7) (ret := (some (.int))) (by decide) rfl ?_
  intro p e s m args below meth c s₁ B hml htab hv
  obtain ⟨rfl, hsz, hP, hD0, hKW⟩ := hv
  have hx := B.exec
  have hb := B.bytes
  have hr := B.returns
  have hts := atoms_spec (ws := q_Lw_times :: wA) B.pre
  have hown : s.vm.findClass R_Lw = some m.cls := findClass_of_methodNamed B.named
  have hlocks := B.notSynchronized
  subst hsz
  have hD := NC_AA (sz := s.heap.size) hD0
  have hS : va_S (AA ad s.heap.size) s.heap s.heap [] := va_S.rf
  have hl := lv_entry ([.ref (ad 0), .int (x1), .int (x2), .int (x3)]) (n := 7) (Nat.le_of_ble_eq_true rfl)
  rw [lg_entry_eq]
  generalize (lg_sl ([.ref (ad 0), .int (x1), .int (x2), .int (x3)]) ++ List.replicate (7 - (lg_sl ([.ref (ad 0), .int (x1), .int (x2), .int (x3)])).length) Slot.unset).toArray = ls at hl ⊢
  have hl : lv_has ls 7 [(0, .ref (ad 0)), (1, .int (x1)), (2, .int (x2)), (3, .int (x3))] := hl
  refine lv_aload_n hx hb d_Lw_times_0 rfl (lv_at hl 0 rfl) ?_
  refine lv_iload_n hx hb d_Lw_times_1 rfl (lv_at hl 1 rfl) ?_
  refine xV_r (As := [.int (x1)]) (rest := []) (n := 1) ⟨hx, hb, hml, hown, hts⟩ (c_Lw_registerAt l w _ hl9 x1) (cwV0 1 hts lm_Lw_52 im_Lw_registerAt se_Lw_registerAt in_Lw kq_Lw_registerAt rfl rfl rfl (by decide +kernel) ⟨Nat.le_of_ble_eq_true rfl, Nat.le_of_ble_eq_true rfl⟩) (recvL hKW.1 hP) hKW hP hD hS rfl hl.1 rfl (Nat.le_of_ble_eq_true rfl) d_Lw_times_2 ⟨Nat.le_of_ble_eq_true rfl, Nat.le_of_ble_eq_true rfl⟩ htab hlocks ⟨Nat.le_of_ble_eq_true rfl, Nat.le_of_ble_eq_true rfl⟩ (fun E u h => by obtain ⟨hEx, hu, hn⟩ := h; subst hu; exact ⟨A, hCI, Or.inl ⟨hEx, if_neg (fun q => hn q.1)⟩⟩) (fun w1 ra H locs hp hP hD hS => ?_)
  obtain ⟨ew, i1, hi1, hvi1, hra⟩ := hp
  rw [show w1 = w from ew] at hP hD
  have hra : ra = ad (2 * i1 + 8) := hra
  subst hra
  subst hvi1
  have wni1 : wN (nI i1) = i1 := wN_small (by omega)
  refine lv_astore (lv' := [(4, .ref (ad (2 * i1 + 8))), (0, .ref (ad 0)), (1, .int (nI (i1))), (2, .int (x2)), (3, .int (x3))]) hx hb d_Lw_times_5 hl (by decide) rfl (fun ls hl => ?_)
  refine lv_aload_n hx hb d_Lw_times_7 rfl (lv_at hl 1 rfl) ?_
  refine lv_iload_n hx hb d_Lw_times_8 rfl (lv_at hl 3 rfl) ?_
  refine xV_r (As := [.int (x2)]) (rest := []) (n := 1) ⟨hx, hb, hml, hown, hts⟩ (c_Lw_registerAt l w _ hl9 x2) (cwV0 1 hts lm_Lw_52 im_Lw_registerAt se_Lw_registerAt in_Lw kq_Lw_registerAt rfl rfl rfl (by decide +kernel) ⟨Nat.le_of_ble_eq_true rfl, Nat.le_of_ble_eq_true rfl⟩) (recvL hKW.1 hP) hKW hP hD hS rfl hl.1 rfl (Nat.le_of_ble_eq_true rfl) d_Lw_times_9 ⟨Nat.le_of_ble_eq_true rfl, Nat.le_of_ble_eq_true rfl⟩ htab hlocks ⟨Nat.le_of_ble_eq_true rfl, Nat.le_of_ble_eq_true rfl⟩ (fun E u h => by obtain ⟨hEx, hu, hn⟩ := h; subst hu; exact ⟨A, hCI, Or.inl ⟨hEx, if_neg (fun q => hn q.2.1)⟩⟩) (fun w1 ra H locs hp hP hD hS => ?_)
  obtain ⟨ew, i2, hi2, hvi2, hra⟩ := hp
  rw [show w1 = w from ew] at hP hD
  have hra : ra = ad (2 * i2 + 8) := hra
  subst hra
  subst hvi2
  have wni2 : wN (nI i2) = i2 := wN_small (by omega)
  refine lv_astore (lv' := [(5, .ref (ad (2 * i2 + 8))), (4, .ref (ad (2 * i1 + 8))), (0, .ref (ad 0)), (1, .int (nI (i1))), (2, .int (nI (i2))), (3, .int (x3))]) hx hb d_Lw_times_12 hl (by decide) rfl (fun ls hl => ?_)
  refine lv_aload_n hx hb d_Lw_times_14 rfl (lv_at hl 2 rfl) ?_
  refine lv_iload_n hx hb d_Lw_times_15 rfl (lv_at hl 5 rfl) ?_
  refine xV_r (As := [.int (x3)]) (rest := []) (n := 1) ⟨hx, hb, hml, hown, hts⟩ (c_Lw_registerAt l w _ hl9 x3) (cwV0 1 hts lm_Lw_52 im_Lw_registerAt se_Lw_registerAt in_Lw kq_Lw_registerAt rfl rfl rfl (by decide +kernel) ⟨Nat.le_of_ble_eq_true rfl, Nat.le_of_ble_eq_true rfl⟩) (recvL hKW.1 hP) hKW hP hD hS rfl hl.1 rfl (Nat.le_of_ble_eq_true rfl) d_Lw_times_16 ⟨Nat.le_of_ble_eq_true rfl, Nat.le_of_ble_eq_true rfl⟩ htab hlocks ⟨Nat.le_of_ble_eq_true rfl, Nat.le_of_ble_eq_true rfl⟩ (fun E u h => by obtain ⟨hEx, hu, hn⟩ := h; subst hu; exact ⟨A, hCI, Or.inl ⟨hEx, if_neg (fun q => hn q.2.2)⟩⟩) (fun w1 ra H locs hp hP hD hS => ?_)
  obtain ⟨ew, i3, hi3, hvi3, hra⟩ := hp
  rw [show w1 = w from ew] at hP hD
  have hra : ra = ad (2 * i3 + 8) := hra
  subst hra
  subst hvi3
  have wni3 : wN (nI i3) = i3 := wN_small (by omega)
  refine lv_astore (lv' := [(6, .ref (ad (2 * i3 + 8))), (5, .ref (ad (2 * i2 + 8))), (4, .ref (ad (2 * i1 + 8))), (0, .ref (ad 0)), (1, .int (nI (i1))), (2, .int (nI (i2))), (3, .int (nI (i3)))]) hx hb d_Lw_times_19 hl (by decide) rfl (fun ls hl => ?_)
  refine lv_aload hx hb d_Lw_times_21 (lv_at hl 1 rfl) ?_
  have hb2 := hCI.bits hi2
  have hb3 := hCI.bits hi3
  have hV2 := hCI.reg hi2
  have hV3 := hCI.reg hi3
  have hrg : rg (nI i1) ∧ rg (nI i2) ∧ rg (nI i3) := ⟨rg_nI hi1, rg_nI hi2, rg_nI hi3⟩
  refine wV_i (As := []) (rest := []) (n := 0) ⟨hx, hb, hml, hown, hts⟩ (c_Na_countBits l w _ (i := i2) (by omega) hV2) (cwV0 0 hts lm_Lw_60 im_Na_countBits se_Na_countBits in_Na kq_Na_countBits rfl rfl rfl (by decide +kernel) ⟨Nat.le_of_ble_eq_true rfl, Nat.le_of_ble_eq_true rfl⟩) (recvN hKW.1 hP (i := i2) (by omega)) hKW hP hD hS rfl hl.1 rfl (Nat.le_of_ble_eq_true rfl) d_Lw_times_23 ⟨Nat.le_of_ble_eq_true rfl, Nat.le_of_ble_eq_true rfl⟩ (fun r w1 H locs hp hP hD hS => ?_)
  obtain ⟨er, ew⟩ := hp
  rw [ew] at hP hD
  subst er
  refine lv_aload hx hb d_Lw_times_26 (lv_at hl 0 rfl) ?_
  refine wV_i (As := []) (rest := [.int (nI (nb (aG A i2)))]) (n := 0) ⟨hx, hb, hml, hown, hts⟩ (c_Na_countBits l w _ (i := i3) (by omega) hV3) (cwV0 0 hts lm_Lw_60 im_Na_countBits se_Na_countBits in_Na kq_Na_countBits rfl rfl rfl (by decide +kernel) ⟨Nat.le_of_ble_eq_true rfl, Nat.le_of_ble_eq_true rfl⟩) (recvN hKW.1 hP (i := i3) (by omega)) hKW hP hD hS rfl hl.1 rfl (Nat.le_of_ble_eq_true rfl) d_Lw_times_28 ⟨Nat.le_of_ble_eq_true rfl, Nat.le_of_ble_eq_true rfl⟩ (fun r w1 H locs hp hP hD hS => ?_)
  obtain ⟨er, ew⟩ := hp
  rw [ew] at hP hD
  subst er
  refine nw_iadd (v := nI (nb (aG A i2) + (nb (aG A i3)))) hx hb d_Lw_times_31 (nI_add _ _) ?_
  refine lv_ldc (v := 200000) hx hb hown (hA_ hts lk_Lw_69) d_Lw_times_32 ?_
  refine xS_v (As := [.int (nI (nb (aG A i2) + (nb (aG A i3)))), .int (200000)]) (rest := []) (n := 2) ⟨hx, hb, hml, hown, hts⟩ (c_Lw_refuseBeyond l w _ hl9 (nI (nb (aG A i2) + nb (aG A i3))) 200000) (cwS0 2 hts lm_Lw_74 st_Lw_refuseBeyond in_Lw kq_Lw_refuseBeyond rfl rfl rfl (by decide +kernel) ⟨Nat.le_of_ble_eq_true rfl, Nat.le_of_ble_eq_true rfl⟩) hKW hP hD hS rfl hl.1 rfl (Nat.le_of_ble_eq_true rfl) d_Lw_times_34 ⟨Nat.le_of_ble_eq_true rfl, Nat.le_of_ble_eq_true rfl⟩ htab hlocks ⟨Nat.le_of_ble_eq_true rfl, Nat.le_of_ble_eq_true rfl⟩ (fun E u h => by obtain ⟨hEx, hu, hn⟩ := h; subst hu; exact ⟨A, hCI, Or.inr ⟨hEx, by unfold sp_times; rw [wni2, wni3, if_pos hrg, if_pos (Nat.not_le.mp (fun q => hn (by rw [lt2e5]; exact (nI_leI (by omega) (by omega)).mpr q)))]⟩⟩) (fun w1 H locs hp hP hD hS => ?_)
  obtain ⟨ew, hle⟩ := hp
  rw [ew] at hP hD
  have hle : nb (aG A i2) + nb (aG A i3) ≤ 200000 := (nI_leI (by omega) (by omega)).mp hle
  have hnp := nb_mulL (aG A i2) (aG A i3)
  refine lv_aload_n hx hb d_Lw_times_37 rfl (lv_at hl 3 rfl) ?_
  refine nw_gF2 hx hb hts hown hKW.1 hP lf_Lw_23 d_Lw_times_38 ?_
  refine lv_aload hx hb d_Lw_times_41 (lv_at hl 2 rfl) ?_
  refine lv_aload hx hb d_Lw_times_43 (lv_at hl 1 rfl) ?_
  refine lv_aload hx hb d_Lw_times_45 (lv_at hl 0 rfl) ?_
  refine wV_v (As := [.ref (ad (2 * i1 + 8)), .ref (ad (2 * i2 + 8)), .ref (ad (2 * i3 + 8))]) (rest := []) (n := 3) ⟨hx, hb, hml, hown, hts⟩ (c_Be_putProduct l w _ (i := i1) (a := i2) (b := i3) (by omega) (by omega) (by omega) hV2 hV3 (fitM hV2 hV3 (nb_fit (show nb (aG A i2 * aG A i3) ≤ 200000 by omega) (by omega)))) (cwV0 3 hts lm_Lw_96 im_Be_putProduct se_Be_putProduct in_Be kq_Be_putProduct rfl rfl rfl (by decide +kernel) ⟨Nat.le_of_ble_eq_true rfl, Nat.le_of_ble_eq_true rfl⟩) (recvB hKW.1 hP) hKW hP hD hS rfl hl.1 rfl (Nat.le_of_ble_eq_true rfl) d_Lw_times_47 ⟨Nat.le_of_ble_eq_true rfl, Nat.le_of_ble_eq_true rfl⟩ (fun w2 H locs hp hP hD hS => ?_)
  obtain ⟨hE, hV⟩ := hp
  refine lv_aload hx hb d_Lw_times_50 (lv_at hl 2 rfl) ?_
  refine wV_i (As := []) (rest := []) (n := 0) ⟨hx, hb, hml, hown, hts⟩ (c_Na_countBits l w2 _ (i := i1) (by omega) hV) (cwV0 0 hts lm_Lw_60 im_Na_countBits se_Na_countBits in_Na kq_Na_countBits rfl rfl rfl (by decide +kernel) ⟨Nat.le_of_ble_eq_true rfl, Nat.le_of_ble_eq_true rfl⟩) (recvN hKW.1 hP (i := i1) (by omega)) hKW hP hD hS rfl hl.1 rfl (Nat.le_of_ble_eq_true rfl) d_Lw_times_52 ⟨Nat.le_of_ble_eq_true rfl, Nat.le_of_ble_eq_true rfl⟩ (fun r w3 H locs hp hP hD hS => ?_)
  obtain ⟨er, ew⟩ := hp
  rw [ew] at hP hD
  subst er
  exact vx_ret (W.widen (k := 4) (n := 24) (Nat.le_of_ble_eq_true rfl) (Nat.le_of_ble_eq_true rfl) (W.iret (v := nI (nb (aG A i2 * aG A i3))) hx hb hr (fun t ht hW => ⟨⟨_, w2, rfl, ⟨pG A i1 (aG A i2 * aG A i3), hCI.put hE (fun j hj => Or.inl (List.mem_singleton.mp hj)) hV (by omega), by unfold sp_times; rw [wni1, wni2, wni3, if_pos hrg, if_neg (by omega)]⟩, BW_of ht hP⟩, hS.F ht⟩) hS.2.2 d_Lw_times_55))
set_option maxHeartbeats 4000000 in
set_option maxRecDepth 100000 in
/-- divide -/
theorem c_Lw_divide (l : Launch) {D : va_G} {cI cB cR : ClassId} {ad : Nat → Nat} (w : St) (sz : Nat) (hl9 : l.stackTraces = false) (x1 x2 x3 x4 : Int32) (A : Ab) (hCI : CI w A) : vx_Met l y_Lw_divide (q_Lw_divide :: wA) { frames := 98, cells := 5, slots := 30, locals := 3800 } (va_Pc [.ref (ad 0), .int (x1), .int (x2), .int (x3), .int (x4)] (PW D cI cB cR ad w sz)) (va_Qi (fun (r : Int32) (w1 : St) => okp (sp_divide x1 x2 x3 x4 A) r w1) (BW D cI cB cR ad) (AA ad sz)) (XW D cI cB cR ad (fun E u => thp (sp_divide x1 x2 x3 x4 A) E_IA E_AR E u) sz) 5 30 (AA ad sz) := by
  refine vx_ofW (cc := b_Lw_divide) (maxL := 9) (ret := (some (.int))) (by decide) rfl ?_
  intro p e s m args below meth c s₁ B hml htab hv
  obtain ⟨rfl, hsz, hP, hD0, hKW⟩ := hv
  have hx := B.exec
  have hb := B.bytes
  have hr := B.returns
  have hts := atoms_spec (ws := q_Lw_divide :: wA) B.pre
  have hown : s.vm.findClass R_Lw = some m.cls := findClass_of_methodNamed B.named
  have hlocks := B.notSynchronized
  subst hsz
  have hD := NC_AA (sz := s.heap.size) hD0
  have hS : va_S (AA ad s.heap.size) s.heap s.heap [] := va_S.rf
  have hl := lv_entry ([.ref (ad 0), .int (x1), .int (x2), .int (x3), .int (x4)]) (n := 9) (Nat.le_of_ble_eq_true rfl)
  rw [lg_entry_eq]
  generalize (lg_sl ([.ref (ad 0), .int (x1), .int (x2), .int (x3), .int (x4)]) ++ List.replicate (9 - (lg_sl ([.ref (ad 0), .int (x1), .int (x2), .int (x3), .int (x4)])).length) Slot.unset).toArray = ls at hl ⊢
  have hl : lv_has ls 9 [(0, .ref (ad 0)), (1, .int (x1)), (2, .int (x2)), (3, .int (x3)), (4, .int (x4))] := hl
  refine lv_aload_n hx hb d_Lw_divide_0 rfl (lv_at hl 0 rfl) ?_
  refine lv_iload_n hx hb d_Lw_divide_1 rfl (lv_at hl 1 rfl) ?_
  refine xV_r (As := [.int (x1)]) (rest := []) (n := 1) ⟨hx, hb, hml, hown, hts⟩ (c_Lw_registerAt l w _ hl9 x1) (cwV0 1 hts lm_Lw_52 im_Lw_registerAt se_Lw_registerAt in_Lw kq_Lw_registerAt rfl rfl rfl (by decide +kernel) ⟨Nat.le_of_ble_eq_true rfl, Nat.le_of_ble_eq_true rfl⟩) (recvL hKW.1 hP) hKW hP hD hS rfl hl.1 rfl (Nat.le_of_ble_eq_true rfl) d_Lw_divide_2 ⟨Nat.le_of_ble_eq_true rfl, Nat.le_of_ble_eq_true rfl⟩ htab hlocks ⟨Nat.le_of_ble_eq_true rfl, Nat.le_of_ble_eq_true rfl⟩ (fun E u h => by obtain ⟨hEx, hu, hn⟩ := h; subst hu; exact ⟨A, hCI, Or.inl ⟨hEx, if_neg (fun q => hn q.1)⟩⟩) (fun w1 ra H locs hp hP hD hS => ?_)
  obtain ⟨ew, i1, hi1, hvi1, hra⟩ := hp
  rw [show w1 = w from ew] at hP hD
  have hra : ra = ad (2 * i1 + 8) := hra
  subst hra
  subst hvi1
  have wni1 : wN (nI i1) = i1 := wN_small (by omega)
  refine lv_astore (lv' := [(5, .ref (ad (2 * i1 + 8))), (0, .ref (ad 0)), (1, .int (nI (i1))), (2, .int (x2)), (3, .int (x3)), (4, .int (x4))]) hx hb d_Lw_divide_5 hl (by decide) rfl (fun ls hl => ?_)
  refine lv_aload_n hx hb d_Lw_divide_7 rfl (lv_at hl 1 rfl) ?_
  refine lv_iload_n hx hb d_Lw_divide_8 rfl (lv_at hl 3 rfl) ?_
  refine xV_r (As := [.int (x2)]) (rest := []) (n := 1) ⟨hx, hb, hml, hown, hts⟩ (c_Lw_registerAt l w _ hl9 x2) (cwV0 1 hts lm_Lw_52 im_Lw_registerAt se_Lw_registerAt in_Lw kq_Lw_registerAt rfl rfl rfl (by decide +kernel) ⟨Nat.le_of_ble_eq_true rfl, Nat.le_of_ble_eq_true rfl⟩) (recvL hKW.1 hP) hKW hP hD hS rfl hl.1 rfl (Nat.le_of_ble_eq_true rfl) d_Lw_divide_9 ⟨Nat.le_of_ble_eq_true rfl, Nat.le_of_ble_eq_true rfl⟩ htab hlocks ⟨Nat.le_of_ble_eq_true rfl, Nat.le_of_ble_eq_true rfl⟩ (fun E u h => by obtain ⟨hEx, hu, hn⟩ := h; subst hu; exact ⟨A, hCI, Or.inl ⟨hEx, if_neg (fun q => hn q.2.1)⟩⟩) (fun w1 ra H locs hp hP hD hS => ?_)
  obtain ⟨ew, i2, hi2, hvi2, hra⟩ := hp
  rw [show w1 = w from ew] at hP hD
  have hra : ra = ad (2 * i2 + 8) := hra
  subst hra
  subst hvi2
  have wni2 : wN (nI i2) = i2 := wN_small (by omega)
  refine lv_astore (lv' := [(6, .ref (ad (2 * i2 + 8))), (5, .ref (ad (2 * i1 + 8))), (0, .ref (ad 0)), (1, .int (nI (i1))), (2, .int (nI (i2))), (3, .int (x3)), (4, .int (x4))]) hx hb d_Lw_divide_12 hl (by decide) rfl (fun ls hl => ?_)
  refine lv_aload_n hx hb d_Lw_divide_14 rfl (lv_at hl 2 rfl) ?_
  refine lv_iload_n hx hb d_Lw_divide_15 rfl (lv_at hl 5 rfl) ?_
  refine xV_r (As := [.int (x3)]) (rest := []) (n := 1) ⟨hx, hb, hml, hown, hts⟩ (c_Lw_registerAt l w _ hl9 x3) (cwV0 1 hts lm_Lw_52 im_Lw_registerAt se_Lw_registerAt in_Lw kq_Lw_registerAt rfl rfl rfl (by decide +kernel) ⟨Nat.le_of_ble_eq_true rfl, Nat.le_of_ble_eq_true rfl⟩) (recvL hKW.1 hP) hKW hP hD hS rfl hl.1 rfl (Nat.le_of_ble_eq_true rfl) d_Lw_divide_16 ⟨Nat.le_of_ble_eq_true rfl, Nat.le_of_ble_eq_true rfl⟩ htab hlocks ⟨Nat.le_of_ble_eq_true rfl, Nat.le_of_ble_eq_true rfl⟩ (fun E u h => by obtain ⟨hEx, hu, hn⟩ := h; subst hu; exact ⟨A, hCI, Or.inl ⟨hEx, if_neg (fun q => hn q.2.2.1)⟩⟩) (fun w1 ra H locs hp hP hD hS => ?_)
  obtain ⟨ew, i3, hi3, hvi3, hra⟩ := hp
  rw [show w1 = w from ew] at hP hD
  have hra : ra = ad (2 * i3 + 8) := hra
  subst hra
  subst hvi3
  have wni3 : wN (nI i3) = i3 := wN_small (by omega)
  refine lv_astore (lv' := [(7, .ref (ad (2 * i3 + 8))), (6, .ref (ad (2 * i2 + 8))), (5, .ref (ad (2 * i1 + 8))), (0, .ref (ad 0)), (1, .int (nI (i1))), (2, .int (nI (i2))), (3, .int (nI (i3))), (4, .int (x4))]) hx hb d_Lw_divide_19 hl (by decide) rfl (fun ls hl => ?_)
  refine lv_aload_n hx hb d_Lw_divide_21 rfl (lv_at hl 3 rfl) ?_
  refine lv_iload hx hb d_Lw_divide_22 (lv_at hl 7 rfl) ?_
  refine xV_r (As := [.int (x4)]) (rest := []) (n := 1) ⟨hx, hb, hml, hown, hts⟩ (c_Lw_registerAt l w _ hl9 x4) (cwV0 1 hts lm_Lw_52 im_Lw_registerAt se_Lw_registerAt in_Lw kq_Lw_registerAt rfl rfl rfl (by decide +kernel) ⟨Nat.le_of_ble_eq_true rfl, Nat.le_of_ble_eq_true rfl⟩) (recvL hKW.1 hP) hKW hP hD hS rfl hl.1 rfl (Nat.le_of_ble_eq_true rfl) d_Lw_divide_24 ⟨Nat.le_of_ble_eq_true rfl, Nat.le_of_ble_eq_true rfl⟩ htab hlocks ⟨Nat.le_of_ble_eq_true rfl, Nat.le_of_ble_eq_true rfl⟩ (fun E u h => by obtain ⟨hEx, hu, hn⟩ := h; subst hu; exact ⟨A, hCI, Or.inl ⟨hEx, if_neg (fun q => hn q.2.2.2)⟩⟩) (fun w1 ra H locs hp hP hD hS => ?_)
  obtain ⟨ew, i4, hi4, hvi4, hra⟩ := hp
  rw [show w1 = w from ew] at hP hD
  have hra : ra = ad (2 * i4 + 8) := hra
  subst hra
  subst hvi4
  have wni4 : wN (nI i4) = i4 := wN_small (by omega)
  have hb3 := hCI.bits hi3
  have hb4 := hCI.bits hi4
  have hV3 := hCI.reg hi3
  have hV4 := hCI.reg hi4
  have hrg : rg (nI i1) ∧ rg (nI i2) ∧ rg (nI i3) ∧ rg (nI i4) := ⟨rg_nI hi1, rg_nI hi2, rg_nI hi3, rg_nI hi4⟩
  have hL9 := hV4.len
  have hz9 := hV4.zero
  obtain ⟨L9, hL⟩ : ∃ L9, L9 = sL w i4 := ⟨_, rfl⟩
  rw [← hL] at hL9 hz9
  refine lv_astore (lv' := [(8, .ref (ad (2 * i4 + 8))), (7, .ref (ad (2 * i3 + 8))), (6, .ref (ad (2 * i2 + 8))), (5, .ref (ad (2 * i1 + 8))), (0, .ref (ad 0)), (1, .int (nI (i1))), (2, .int (nI (i2))), (3, .int (nI (i3))), (4, .int (nI (i4)))]) hx hb d_Lw_divide_27 hl (by decide) rfl (fun ls hl => ?_)
  refine lv_aload hx hb d_Lw_divide_29 (lv_at hl 0 rfl) ?_
  refine nw_gL hx hb hts hown hKW.1 hP (i := i4) (by omega) (n := L9) hL.symm lf_Lw_100 d_Lw_divide_31 ?_
  refine lv_if_ne (tgt := 45) hx hb d_Lw_divide_34 (by decide) (fun c34 => ?_) (fun c34 => ?_)
  · skip
    have c34 : ¬ (L9 = 0) := fun h => c34 (by have := (nI_eq (by omega) (by omega)).mpr h; rwa [nI_0] at this)
    have hu0 : aG A i4 ≠ 0 := fun q => c34 (hz9.mpr q)
    refine lv_aload_n hx hb d_Lw_divide_45 rfl (lv_at hl 4 rfl) ?_
    refine nw_gF2 hx hb hts hown hKW.1 hP lf_Lw_23 d_Lw_divide_46 ?_
    refine lv_aload hx hb d_Lw_divide_49 (lv_at hl 3 rfl) ?_
    refine lv_aload hx hb d_Lw_divide_51 (lv_at hl 2 rfl) ?_
    refine lv_aload hx hb d_Lw_divide_53 (lv_at hl 1 rfl) ?_
    refine lv_aload hx hb d_Lw_divide_55 (lv_at hl 0 rfl) ?_
    refine wV_i (As := [.ref (ad (2 * i1 + 8)), .ref (ad (2 * i2 + 8)), .ref (ad (2 * i3 + 8)), .ref (ad (2 * i4 + 8))]) (rest := []) (n := 4) ⟨hx, hb, hml, hown, hts⟩ (c_Be_putQuotient l w _ (x := i1) (y := i2) (a := i3) (b := i4) (by omega) (by omega) (by omega) (by omega) hV3 hV4 hu0 (fitB hV3 hb3 (by omega))) (cwV0 4 hts lm_Lw_103 im_Be_putQuotient se_Be_putQuotient in_Be kq_Be_putQuotient rfl rfl rfl (by decide +kernel) ⟨Nat.le_of_ble_eq_true rfl, Nat.le_of_ble_eq_true rfl⟩) (recvB hKW.1 hP) hKW hP hD hS rfl hl.1 rfl (Nat.le_of_ble_eq_true rfl) d_Lw_divide_57 ⟨Nat.le_of_ble_eq_true rfl, Nat.le_of_ble_eq_true rfl⟩ (fun r w2 H locs hp hP hD hS => ?_)
    obtain ⟨er, hE, hQ, hR⟩ := hp
    subst er
    have hm1 := nb_mono (Nat.div_le_self (aG A i3) (aG A i4))
    have hm2 := nb_mono (Nat.mod_le (aG A i3) (aG A i4))
    exact vx_ret (W.widen (k := 5) (n := 30) (Nat.le_of_ble_eq_true rfl) (Nat.le_of_ble_eq_true rfl) (W.iret (v := nI (nb (aG A i3 / aG A i4))) hx hb hr (fun t ht hW => ⟨⟨_, w2, rfl, ⟨pG (pG A i1 (aG A i3 / aG A i4)) i2 (aG A i3 % aG A i4), hCI.put2 hE hQ hR (by omega) (by omega), by unfold sp_divide; rw [wni1, wni2, wni3, wni4, if_pos hrg, if_neg hu0]⟩, BW_of ht hP⟩, hS.F ht⟩) hS.2.2 d_Lw_divide_60))
  · skip
    have c34 : L9 = 0 := (nI_eq (by omega) (by omega)).mp (by rw [nI_0]; exact c34)
    exact xthrow hx hb hl9 hown (by decide) hts ta_Lw_AR tb_Lw_AR tg_Lw_AR tk_Lw_AR ti_AR hKW hP hS (hl.1.trans hml.symm) d_Lw_divide_37 d_Lw_divide_40 d_Lw_divide_41 d_Lw_divide_44 htab hlocks (Nat.le_of_ble_eq_true rfl) (Nat.le_of_ble_eq_true rfl) (Nat.le_of_ble_eq_true rfl) (Nat.le_of_ble_eq_true rfl) (Nat.le_of_ble_eq_true rfl) (Nat.le_of_ble_eq_true rfl) (⟨A, hCI, Or.inr ⟨rfl, by unfold sp_divide; rw [wni4, if_pos hrg, if_pos (hz9.mp c34)]⟩⟩)

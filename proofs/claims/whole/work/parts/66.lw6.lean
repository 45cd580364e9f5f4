/-! THE FACE: power, root, compare, bits, word, feed, end, read, write, octet (rows laid by wip/whole/gen/c_lw6.py) -/
set_option maxHeartbeats 4000000 in
set_option maxRecDepth 100000 in
/-- power -/
theorem c_Lw_power (l : Launch) {D : va_G} {cI cB cR : ClassId} {ad : Nat → Nat} (w : St) (sz : Nat) (hl9 : l.stackTraces = false) (x1 x2 n : Int32) (A : Ab) (hCI : CI w A) : vx_Met l y_Lw_power (q_Lw_power :: wA) { frames := 50, cells := 4, slots := 24, locals := 2050 } (va_Pc [.ref (ad 0), .int (x1), .int (x2), .int (n)] (PW D cI cB cR ad w sz)) (va_Qi (fun (r : Int32) (w1 : St) => okp (sp_power x1 x2 n A) r w1) (BW D cI cB cR ad) (AA ad sz)) (XW D cI cB cR ad (fun E u => thp (sp_power x1 x2 n A) E_IA E_IS E u) sz) 4 24 (AA ad sz) := by
  refine vx_ofW (cc := b_Lw_power) (maxL := 6) (ret := (some (.int))) (by decide) rfl ?_
  intro p e s m args below meth c s₁ B hml htab hv
  obtain ⟨rfl, hsz, hP, hD0, hKW⟩ := hv
  have hx := B.exec
  have hb := B.bytes
  have hr := B.returns
  have hts := atoms_spec (ws := q_Lw_power :: wA) B.pre
  have hown : s.vm.findClass R_Lw = some m.cls := findClass_of_methodNamed B.named
  have hlocks := B.notSynchronized
  subst hsz
  have hD := NC_AA (sz := s.heap.size) hD0
  have hS : va_S (AA ad s.heap.size) s.heap s.heap [] := va_S.rf
  have hl := lv_entry ([.ref (ad 0), .int (x1), .int (x2), .int (n)]) (n := 6) (Nat.le_of_ble_eq_true rfl)
  rw [lg_entry_eq]
  generalize (lg_sl ([.ref (ad 0), .int (x1), .int (x2), .int (n)]) ++ List.replicate (6 - (lg_sl ([.ref (ad 0), .int (x1), .int (x2), .int (n)])).length) Slot.unset).toArray = ls at hl ⊢
  have hl : lv_has ls 6 [(0, .ref (ad 0)), (1, .int (x1)), (2, .int (x2)), (3, .int (n))] := hl
  refine lv_aload_n hx hb d_Lw_power_0 rfl (lv_at hl 0 rfl) ?_
  refine lv_iload_n hx hb d_Lw_power_1 rfl (lv_at hl 1 rfl) ?_
  refine xV_r (As := [.int (x1)]) (rest := []) (n := 1) ⟨hx, hb, hml, hown, hts⟩ (c_Lw_registerAt l w _ hl9 x1) (cwV0 1 hts lm_Lw_52 im_Lw_registerAt se_Lw_registerAt in_Lw kq_Lw_registerAt rfl rfl rfl (by decide +kernel) ⟨Nat.le_of_ble_eq_true rfl, Nat.le_of_ble_eq_true rfl⟩) (recvL hKW.1 hP) hKW hP hD hS rfl hl.1 rfl (Nat.le_of_ble_eq_true rfl) d_Lw_power_2 ⟨Nat.le_of_ble_eq_true rfl, Nat.le_of_ble_eq_true rfl⟩ htab hlocks ⟨Nat.le_of_ble_eq_true rfl, Nat.le_of_ble_eq_true rfl⟩ (fun E u h => by obtain ⟨hEx, hu, hn⟩ := h; subst hu; exact ⟨A, hCI, Or.inl ⟨hEx, if_neg (fun q => hn q.1)⟩⟩) (fun w1 ra H locs hp hP hD hS => ?_)
  obtain ⟨ew, i1, hi1, hvi1, hra⟩ := hp
  rw [show w1 = w from ew] at hP hD
  have hra : ra = ad (2 * i1 + 8) := hra
  subst hra
  subst hvi1
  have wni1 : wN (nI i1) = i1 := wN_small (by omega)
  refine lv_astore (lv' := [(4, .ref (ad (2 * i1 + 8))), (0, .ref (ad 0)), (1, .int (nI (i1))), (2, .int (x2)), (3, .int (n))]) hx hb d_Lw_power_5 hl (by decide) rfl (fun ls hl => ?_)
  refine lv_aload_n hx hb d_Lw_power_7 rfl (lv_at hl 1 rfl) ?_
  refine lv_iload_n hx hb d_Lw_power_8 rfl (lv_at hl 3 rfl) ?_
  refine xV_r (As := [.int (x2)]) (rest := []) (n := 1) ⟨hx, hb, hml, hown, hts⟩ (c_Lw_registerAt l w _ hl9 x2) (cwV0 1 hts lm_Lw_52 im_Lw_registerAt se_Lw_registerAt in_Lw kq_Lw_registerAt rfl rfl rfl (by decide +kernel) ⟨Nat.le_of_ble_eq_true rfl, Nat.le_of_ble_eq_true rfl⟩) (recvL hKW.1 hP) hKW hP hD hS rfl hl.1 rfl (Nat.le_of_ble_eq_true rfl) d_Lw_power_9 ⟨Nat.le_of_ble_eq_true rfl, Nat.le_of_ble_eq_true rfl⟩ htab hlocks ⟨Nat.le_of_ble_eq_true rfl, Nat.le_of_ble_eq_true rfl⟩ (fun E u h => by obtain ⟨hEx, hu, hn⟩ := h; subst hu; exact ⟨A, hCI, Or.inl ⟨hEx, if_neg (fun q => hn q.2.1)⟩⟩) (fun w1 ra H locs hp hP hD hS => ?_)
  obtain ⟨ew, i2, hi2, hvi2, hra⟩ := hp
  rw [show w1 = w from ew] at hP hD
  have hra : ra = ad (2 * i2 + 8) := hra
  subst hra
  subst hvi2
  have wni2 : wN (nI i2) = i2 := wN_small (by omega)
  refine lv_astore (lv' := [(5, .ref (ad (2 * i2 + 8))), (4, .ref (ad (2 * i1 + 8))), (0, .ref (ad 0)), (1, .int (nI (i1))), (2, .int (nI (i2))), (3, .int (n))]) hx hb d_Lw_power_12 hl (by decide) rfl (fun ls hl => ?_)
  refine lv_iload_n hx hb d_Lw_power_14 rfl (lv_at hl 5 rfl) ?_
  refine lv_iconst (v := nI (0)) hx hb d_Lw_power_15 (by decide) ?_
  refine lv_bipush (v := nI (100)) hx hb d_Lw_power_16 (by decide) ?_
  refine xS_v (As := [.int (n), .int (nI (0)), .int (nI (100))]) (rest := []) (n := 3) ⟨hx, hb, hml, hown, hts⟩ (c_Lw_requireRange l w _ hl9 n (nI 0) (nI 100)) (cwS0 3 hts lm_Lw_70 st_Lw_requireRange in_Lw kq_Lw_requireRange rfl rfl rfl (by decide +kernel) ⟨Nat.le_of_ble_eq_true rfl, Nat.le_of_ble_eq_true rfl⟩) hKW hP hD hS rfl hl.1 rfl (Nat.le_of_ble_eq_true rfl) d_Lw_power_18 ⟨Nat.le_of_ble_eq_true rfl, Nat.le_of_ble_eq_true rfl⟩ htab hlocks ⟨Nat.le_of_ble_eq_true rfl, Nat.le_of_ble_eq_true rfl⟩ (fun E u h => by obtain ⟨hEx, hu, hn⟩ := h; subst hu; exact ⟨A, hCI, Or.inl ⟨hEx, if_neg (fun q => hn q.2.2)⟩⟩) (fun w1 H locs hp hP hD hS => ?_)
  obtain ⟨ew, hr1, hr2⟩ := hp
  rw [ew] at hP hD
  obtain ⟨kk, hkkl, hkkh, hvkk⟩ := rng_ix (a := 0) (b := 100) (by omega) hr1 hr2 (by omega)
  subst hvkk
  have wnkk : wN (nI kk) = kk := wN_small (by omega)
  have hbv := hCI.bits hi2
  have hVa := hCI.reg hi2
  have hrg : rg (nI i1) ∧ rg (nI i2) ∧ nI 0 ≤ nI kk ∧ nI kk ≤ nI 100 := ⟨rg_nI hi1, rg_nI hi2, hr1, hr2⟩
  have hkb : kk * nb (aG A i2) ≤ 100 * 200000 := Nat.mul_le_mul hkkh hbv
  refine lv_iload_n hx hb d_Lw_power_21 rfl (lv_at hl 5 rfl) ?_
  refine lv_aload hx hb d_Lw_power_22 (lv_at hl 0 rfl) ?_
  refine wV_i (As := []) (rest := [.int (nI (kk))]) (n := 0) ⟨hx, hb, hml, hown, hts⟩ (c_Na_countBits l w _ (i := i2) (by omega) hVa) (cwV0 0 hts lm_Lw_60 im_Na_countBits se_Na_countBits in_Na kq_Na_countBits rfl rfl rfl (by decide +kernel) ⟨Nat.le_of_ble_eq_true rfl, Nat.le_of_ble_eq_true rfl⟩) (recvN hKW.1 hP (i := i2) (by omega)) hKW hP hD hS rfl hl.1 rfl (Nat.le_of_ble_eq_true rfl) d_Lw_power_24 ⟨Nat.le_of_ble_eq_true rfl, Nat.le_of_ble_eq_true rfl⟩ (fun r w1 H locs hp hP hD hS => ?_)
  obtain ⟨er, ew⟩ := hp
  rw [ew] at hP hD
  subst er
  refine nw_imul (v := nI (kk * (nb (aG A i2)))) hx hb d_Lw_power_27 (pk_mul _ _) ?_
  refine lv_ldc (v := 200000) hx hb hown (hA_ hts lk_Lw_69) d_Lw_power_28 ?_
  refine xS_v (As := [.int (nI (kk * (nb (aG A i2)))), .int (200000)]) (rest := []) (n := 2) ⟨hx, hb, hml, hown, hts⟩ (c_Lw_refuseBeyond l w _ hl9 (nI (kk * nb (aG A i2))) 200000) (cwS0 2 hts lm_Lw_74 st_Lw_refuseBeyond in_Lw kq_Lw_refuseBeyond rfl rfl rfl (by decide +kernel) ⟨Nat.le_of_ble_eq_true rfl, Nat.le_of_ble_eq_true rfl⟩) hKW hP hD hS rfl hl.1 rfl (Nat.le_of_ble_eq_true rfl) d_Lw_power_30 ⟨Nat.le_of_ble_eq_true rfl, Nat.le_of_ble_eq_true rfl⟩ htab hlocks ⟨Nat.le_of_ble_eq_true rfl, Nat.le_of_ble_eq_true rfl⟩ (fun E u h => by obtain ⟨hEx, hu, hn⟩ := h; subst hu; exact ⟨A, hCI, Or.inr ⟨hEx, by unfold sp_power; rw [wni2, wnkk, if_pos hrg, if_pos (Nat.not_le.mp (fun q => hn (by rw [lt2e5]; exact (nI_leI (by omega) (by omega)).mpr q)))]⟩⟩) (fun w1 H locs hp hP hD hS => ?_)
  obtain ⟨ew, hle⟩ := hp
  rw [ew] at hP hD
  have hle : kk * nb (aG A i2) ≤ 200000 := (nI_leI (by omega) (by omega)).mp hle
  have hpb : nb (aG A i2 ^ kk) ≤ 200000 := by
    rcases Nat.eq_zero_or_pos kk with z | z
    · rw [z, Nat.pow_zero]; decide
    · exact Nat.le_trans (nb_powL _ z) hle
  refine lv_aload_n hx hb d_Lw_power_33 rfl (lv_at hl 2 rfl) ?_
  refine nw_gF2 hx hb hts hown hKW.1 hP lf_Lw_23 d_Lw_power_34 ?_
  refine lv_aload_n hx hb d_Lw_power_37 rfl (lv_at hl 2 rfl) ?_
  refine nw_gF1 hx hb hts hown hKW.1 hP lf_Lw_16 d_Lw_power_38 ?_
  refine lv_aload hx hb d_Lw_power_41 (lv_at hl 0 rfl) ?_
  refine lv_iload_n hx hb d_Lw_power_43 rfl (lv_at hl 5 rfl) ?_
  refine wV_v (As := [.ref (ad 28), .ref (ad (2 * i2 + 8)), .int (nI (kk))]) (rest := []) (n := 3) ⟨hx, hb, hml, hown, hts⟩ (c_Be_putPower l w _ (i := 10) (a := i2) (n := kk) (by omega) (by omega) (by omega) hVa hkkh (nb_fit hpb (by omega))) (cwV0 3 hts lm_Lw_107 im_Be_putPower se_Be_putPower in_Be kq_Be_putPower rfl rfl rfl (by decide +kernel) ⟨Nat.le_of_ble_eq_true rfl, Nat.le_of_ble_eq_true rfl⟩) (recvB hKW.1 hP) hKW hP hD hS rfl hl.1 rfl (Nat.le_of_ble_eq_true rfl) d_Lw_power_44 ⟨Nat.le_of_ble_eq_true rfl, Nat.le_of_ble_eq_true rfl⟩ (fun w2 H locs hp hP hD hS => ?_)
  obtain ⟨hE2, hV⟩ := hp
  have hC2 := hCI.same hE2 (fun j hj => by rw [List.mem_singleton.mp hj]; omega)
  refine lv_aload hx hb d_Lw_power_47 (lv_at hl 1 rfl) ?_
  refine lv_aload_n hx hb d_Lw_power_49 rfl (lv_at hl 2 rfl) ?_
  refine nw_gF1 hx hb hts hown hKW.1 hP lf_Lw_16 d_Lw_power_50 ?_
  refine wS_i (As := [.ref (ad (2 * i1 + 8)), .ref (ad 28)]) (rest := []) (n := 2) ⟨hx, hb, hml, hown, hts⟩ (c_Lw_keep l w2 _ (i := i1) (a := 10) (by omega) (by omega) hV) (cwS0 2 hts lm_Lw_64 st_Lw_keep in_Lw kq_Lw_keep rfl rfl rfl (by decide +kernel) ⟨Nat.le_of_ble_eq_true rfl, Nat.le_of_ble_eq_true rfl⟩) hKW hP hD hS rfl hl.1 rfl (Nat.le_of_ble_eq_true rfl) d_Lw_power_53 ⟨Nat.le_of_ble_eq_true rfl, Nat.le_of_ble_eq_true rfl⟩ (fun r w4 H locs hp hP hD hS => ?_)
  obtain ⟨er, hE4, hV4⟩ := hp
  subst er
  exact vx_ret (W.widen (k := 4) (n := 24) (Nat.le_of_ble_eq_true rfl) (Nat.le_of_ble_eq_true rfl) (W.iret (v := nI (nb (aG A i2 ^ kk))) hx hb hr (fun t ht hW => ⟨⟨_, w4, rfl, ⟨pG A i1 (aG A i2 ^ kk), hC2.put (hE4.B (List.mem_singleton.mpr rfl)) (fun j hj => Or.inl (List.mem_singleton.mp hj)) hV4 hpb, by unfold sp_power; rw [wni1, wni2, wnkk, if_pos hrg, if_neg (by omega)]⟩, BW_of ht hP⟩, hS.F ht⟩) hS.2.2 d_Lw_power_56))
set_option maxHeartbeats 4000000 in
set_option maxRecDepth 100000 in
/-- root -/
theorem c_Lw_root (l : Launch) {D : va_G} {cI cB cR : ClassId} {ad : Nat → Nat} (w : St) (sz : Nat) (hl9 : l.stackTraces = false) (x1 x2 n : Int32) (A : Ab) (hCI : CI w A) : vx_Met l y_Lw_root (q_Lw_root :: wA) { frames := 100, cells := 3, slots := 18, locals := 3900 } (va_Pc [.ref (ad 0), .int (x1), .int (x2), .int (n)] (PW D cI cB cR ad w sz)) (va_Qi (fun (r : Int32) (w1 : St) => okp (sp_root x1 x2 n A) r w1) (BW D cI cB cR ad) (AA ad sz)) (XW D cI cB cR ad (fun E u => thp (sp_root x1 x2 n A) E_IA E_IS E u) sz) 3 18 (AA ad sz) := by
  refine vx_ofW (cc := b_Lw_root) (maxL := 6) (ret := (some (.int))) (by decide) rfl ?_
  intro p e s m args below meth c s₁ B hml htab hv
  obtain ⟨rfl, hsz, hP, hD0, hKW⟩ := hv
  have hx := B.exec
  have hb := B.bytes
  have hr := B.returns
  have hts := atoms_spec (ws := q_Lw_root :: wA) B.pre
  have hown : s.vm.findClass R_Lw = some m.cls := findClass_of_methodNamed B.named
  have hlocks := B.notSynchronized
  subst hsz
  have hD := NC_AA (sz := s.heap.size) hD0
  have hS : va_S (AA ad s.heap.size) s.heap s.heap [] := va_S.rf
  have hl := lv_entry ([.ref (ad 0), .int (x1), .int (x2), .int (n)]) (n := 6) (Nat.le_of_ble_eq_true rfl)
  rw [lg_entry_eq]
  generalize (lg_sl ([.ref (ad 0), .int (x1), .int (x2), .int (n)]) ++ List.replicate (6 - (lg_sl ([.ref (ad 0), .int (x1), .int (x2), .int (n)])).length) Slot.unset).toArray = ls at hl ⊢
  have hl : lv_has ls 6 [(0, .ref (ad 0)), (1, .int (x1)), (2, .int (x2)), (3, .int (n))] := hl
  refine lv_aload_n hx hb d_Lw_root_0 rfl (lv_at hl 0 rfl) ?_
  refine lv_iload_n hx hb d_Lw_root_1 rfl (lv_at hl 1 rfl) ?_
  refine xV_r (As := [.int (x1)]) (rest := []) (n := 1) ⟨hx, hb, hml, hown, hts⟩ (c_Lw_registerAt l w _ hl9 x1) (cwV0 1 hts lm_Lw_52 im_Lw_registerAt se_Lw_registerAt in_Lw kq_Lw_registerAt rfl rfl rfl (by decide +kernel) ⟨Nat.le_of_ble_eq_true rfl, Nat.le_of_ble_eq_true rfl⟩) (recvL hKW.1 hP) hKW hP hD hS rfl hl.1 rfl (Nat.le_of_ble_eq_true rfl) d_Lw_root_2 ⟨Nat.le_of_ble_eq_true rfl, Nat.le_of_ble_eq_true rfl⟩ htab hlocks ⟨Nat.le_of_ble_eq_true rfl, Nat.le_of_ble_eq_true rfl⟩ (fun E u h => by obtain ⟨hEx, hu, hn⟩ := h; subst hu; exact ⟨A, hCI, Or.inl ⟨hEx, if_neg (fun q => hn q.1)⟩⟩) (fun w1 ra H locs hp hP hD hS => ?_)
  obtain ⟨ew, i1, hi1, hvi1, hra⟩ := hp
  rw [show w1 = w from ew] at hP hD
  have hra : ra = ad (2 * i1 + 8) := hra
  subst hra
  subst hvi1
  have wni1 : wN (nI i1) = i1 := wN_small (by omega)
  refine lv_astore (lv' := [(4, .ref (ad (2 * i1 + 8))), (0, .ref (ad 0)), (1, .int (nI (i1))), (2, .int (x2)), (3, .int (n))]) hx hb d_Lw_root_5 hl (by decide) rfl (fun ls hl => ?_)
  refine lv_aload_n hx hb d_Lw_root_7 rfl (lv_at hl 1 rfl) ?_
  refine lv_iload_n hx hb d_Lw_root_8 rfl (lv_at hl 3 rfl) ?_
  refine xV_r (As := [.int (x2)]) (rest := []) (n := 1) ⟨hx, hb, hml, hown, hts⟩ (c_Lw_registerAt l w _ hl9 x2) (cwV0 1 hts lm_Lw_52 im_Lw_registerAt se_Lw_registerAt in_Lw kq_Lw_registerAt rfl rfl rfl (by decide +kernel) ⟨Nat.le_of_ble_eq_true rfl, Nat.le_of_ble_eq_true rfl⟩) (recvL hKW.1 hP) hKW hP hD hS rfl hl.1 rfl (Nat.le_of_ble_eq_true rfl) d_Lw_root_9 ⟨Nat.le_of_ble_eq_true rfl, Nat.le_of_ble_eq_true rfl⟩ htab hlocks ⟨Nat.le_of_ble_eq_true rfl, Nat.le_of_ble_eq_true rfl⟩ (fun E u h => by obtain ⟨hEx, hu, hn⟩ := h; subst hu; exact ⟨A, hCI, Or.inl ⟨hEx, if_neg (fun q => hn q.2.1)⟩⟩) (fun w1 ra H locs hp hP hD hS => ?_)
  obtain ⟨ew, i2, hi2, hvi2, hra⟩ := hp
  rw [show w1 = w from ew] at hP hD
  have hra : ra = ad (2 * i2 + 8) := hra
  subst hra
  subst hvi2
  have wni2 : wN (nI i2) = i2 := wN_small (by omega)
  refine lv_astore (lv' := [(5, .ref (ad (2 * i2 + 8))), (4, .ref (ad (2 * i1 + 8))), (0, .ref (ad 0)), (1, .int (nI (i1))), (2, .int (nI (i2))), (3, .int (n))]) hx hb d_Lw_root_12 hl (by decide) rfl (fun ls hl => ?_)
  refine lv_iload_n hx hb d_Lw_root_14 rfl (lv_at hl 5 rfl) ?_
  refine lv_iconst (v := nI (1)) hx hb d_Lw_root_15 (by decide) ?_
  refine lv_bipush (v := nI (40)) hx hb d_Lw_root_16 (by decide) ?_
  refine xS_v (As := [.int (n), .int (nI (1)), .int (nI (40))]) (rest := []) (n := 3) ⟨hx, hb, hml, hown, hts⟩ (c_Lw_requireRange l w _ hl9 n (nI 1) (nI 40)) (cwS0 3 hts lm_Lw_70 st_Lw_requireRange in_Lw kq_Lw_requireRange rfl rfl rfl (by decide +kernel) ⟨Nat.le_of_ble_eq_true rfl, Nat.le_of_ble_eq_true rfl⟩) hKW hP hD hS rfl hl.1 rfl (Nat.le_of_ble_eq_true rfl) d_Lw_root_18 ⟨Nat.le_of_ble_eq_true rfl, Nat.le_of_ble_eq_true rfl⟩ htab hlocks ⟨Nat.le_of_ble_eq_true rfl, Nat.le_of_ble_eq_true rfl⟩ (fun E u h => by obtain ⟨hEx, hu, hn⟩ := h; subst hu; exact ⟨A, hCI, Or.inl ⟨hEx, if_neg (fun q => hn q.2.2)⟩⟩) (fun w1 H locs hp hP hD hS => ?_)
  obtain ⟨ew, hr1, hr2⟩ := hp
  rw [ew] at hP hD
  obtain ⟨kk, hkkl, hkkh, hvkk⟩ := rng_ix (a := 1) (b := 40) (by omega) hr1 hr2 (by omega)
  subst hvkk
  have wnkk : wN (nI kk) = kk := wN_small (by omega)
  have hbv := hCI.bits hi2
  have hVa := hCI.reg hi2
  have hrg : rg (nI i1) ∧ rg (nI i2) ∧ nI 1 ≤ nI kk ∧ nI kk ≤ nI 40 := ⟨rg_nI hi1, rg_nI hi2, hr1, hr2⟩
  refine lv_aload_n hx hb d_Lw_root_21 rfl (lv_at hl 2 rfl) ?_
  refine nw_gF3 hx hb hts hown hKW.1 hP lf_Lw_30 d_Lw_root_22 ?_
  refine lv_aload_n hx hb d_Lw_root_25 rfl (lv_at hl 2 rfl) ?_
  refine nw_gF1 hx hb hts hown hKW.1 hP lf_Lw_16 d_Lw_root_26 ?_
  refine lv_aload hx hb d_Lw_root_29 (lv_at hl 0 rfl) ?_
  refine lv_iload_n hx hb d_Lw_root_31 rfl (lv_at hl 5 rfl) ?_
  refine lv_aload_n hx hb d_Lw_root_32 rfl (lv_at hl 2 rfl) ?_
  refine nw_gF2 hx hb hts hown hKW.1 hP lf_Lw_23 d_Lw_root_33 ?_
  refine wV_v (As := [.ref (ad 28), .ref (ad (2 * i2 + 8)), .int (nI (kk)), .ref (ad 2)]) (rest := []) (n := 4) ⟨hx, hb, hml, hown, hts⟩ (c_Ro_putRoot l w _ (i := 10) (a := i2) (n := kk) (by omega) (by omega) (by omega) hVa hkkl hkkh hbv) (cwV0 4 hts lm_Lw_111 im_Ro_putRoot se_Ro_putRoot in_Ro kq_Ro_putRoot rfl rfl rfl (by decide +kernel) ⟨Nat.le_of_ble_eq_true rfl, Nat.le_of_ble_eq_true rfl⟩) (recvO hKW.1 hP) hKW hP hD hS rfl hl.1 rfl (Nat.le_of_ble_eq_true rfl) d_Lw_root_36 ⟨Nat.le_of_ble_eq_true rfl, Nat.le_of_ble_eq_true rfl⟩ (fun w2 H locs hp hP hD hS => ?_)
  obtain ⟨hE2, r9, hV, hr9⟩ := hp
  have hre := rootN_eq hkkl hr9
  subst hre
  have hC2 := hCI.same hE2 (fun j hj => by simp only [List.mem_cons, List.not_mem_nil, or_false] at hj; omega)
  have hrb : nb (rootN (aG A i2) kk) ≤ 200000 := by
    refine Nat.le_trans (nb_mono ?_) hbv
    rcases Nat.eq_zero_or_pos (rootN (aG A i2) kk) with z | z
    · omega
    · refine Nat.le_trans ?_ hr9.1
      have := Nat.pow_le_pow_right z hkkl
      rwa [Nat.pow_one] at this
  refine lv_aload hx hb d_Lw_root_39 (lv_at hl 1 rfl) ?_
  refine lv_aload_n hx hb d_Lw_root_41 rfl (lv_at hl 2 rfl) ?_
  refine nw_gF1 hx hb hts hown hKW.1 hP lf_Lw_16 d_Lw_root_42 ?_
  refine wS_i (As := [.ref (ad (2 * i1 + 8)), .ref (ad 28)]) (rest := []) (n := 2) ⟨hx, hb, hml, hown, hts⟩ (c_Lw_keep l w2 _ (i := i1) (a := 10) (by omega) (by omega) hV) (cwS0 2 hts lm_Lw_64 st_Lw_keep in_Lw kq_Lw_keep rfl rfl rfl (by decide +kernel) ⟨Nat.le_of_ble_eq_true rfl, Nat.le_of_ble_eq_true rfl⟩) hKW hP hD hS rfl hl.1 rfl (Nat.le_of_ble_eq_true rfl) d_Lw_root_45 ⟨Nat.le_of_ble_eq_true rfl, Nat.le_of_ble_eq_true rfl⟩ (fun r w4 H locs hp hP hD hS => ?_)
  obtain ⟨er, hE4, hV4⟩ := hp
  subst er
  exact vx_ret (W.widen (k := 3) (n := 18) (Nat.le_of_ble_eq_true rfl) (Nat.le_of_ble_eq_true rfl) (W.iret (v := nI (nb (rootN (aG A i2) kk))) hx hb hr (fun t ht hW => ⟨⟨_, w4, rfl, ⟨pG A i1 (rootN (aG A i2) kk), hC2.put (hE4.B (List.mem_singleton.mpr rfl)) (fun j hj => Or.inl (List.mem_singleton.mp hj)) hV4 hrb, by unfold sp_root; rw [wni1, wni2, wnkk, if_pos hrg]⟩, BW_of ht hP⟩, hS.F ht⟩) hS.2.2 d_Lw_root_48))
set_option maxHeartbeats 4000000 in
set_option maxRecDepth 100000 in
/-- compare -/
theorem c_Lw_compare (l : Launch) {D : va_G} {cI cB cR : ClassId} {ad : Nat → Nat} (w : St) (sz : Nat) (hl9 : l.stackTraces = false) (x1 x2 : Int32) (A : Ab) (hCI : CI w A) : vx_Met l y_Lw_compare (q_Lw_compare :: wA) { frames := 12, cells := 2, slots := 12, locals := 260 } (va_Pc [.ref (ad 0), .int (x1), .int (x2)] (PW D cI cB cR ad w sz)) (va_Qi (fun (r : Int32) (w1 : St) => okp (sp_compare x1 x2 A) r w1) (BW D cI cB cR ad) (AA ad sz)) (XW D cI cB cR ad (fun E u => thp (sp_compare x1 x2 A) E_IA E_IS E u) sz) 2 12 (AA ad sz) := by
  refine vx_ofW (cc := b_Lw_compare) (maxL := 3) (ret := (some (.int))) (by decide) rfl ?_
  intro p e s m args below meth c s₁ B hml htab hv
  obtain ⟨rfl, hsz, hP, hD0, hKW⟩ := hv
  have hx := B.exec
  have hb := B.bytes
  have hr := B.returns
  have hts := atoms_spec (ws := q_Lw_compare :: wA) B.pre
  have hown : s.vm.findClass R_Lw = some m.cls := findClass_of_methodNamed B.named
  have hlocks := B.notSynchronized
  subst hsz
  have hD := NC_AA (sz := s.heap.size) hD0
  have hS : va_S (AA ad s.heap.size) s.heap s.heap [] := va_S.rf
  have hl := lv_entry ([.ref (ad 0), .int (x1), .int (x2)]) (n := 3) (Nat.le_of_ble_eq_true rfl)
  rw [lg_entry_eq]
  generalize (lg_sl ([.ref (ad 0), .int (x1), .int (x2)]) ++ List.replicate (3 - (lg_sl ([.ref (ad 0), .int (x1), .int (x2)])).length) Slot.unset).toArray = ls at hl ⊢
  have hl : lv_has ls 3 [(0, .ref (ad 0)), (1, .int (x1)), (2, .int (x2))] := hl
  refine lv_aload_n hx hb d_Lw_compare_0 rfl (lv_at hl 0 rfl) ?_
  refine lv_iload_n hx hb d_Lw_compare_1 rfl (lv_at hl 1 rfl) ?_
  refine xV_r (As := [.int (x1)]) (rest := []) (n := 1) ⟨hx, hb, hml, hown, hts⟩ (c_Lw_registerAt l w _ hl9 x1) (cwV0 1 hts lm_Lw_52 im_Lw_registerAt se_Lw_registerAt in_Lw kq_Lw_registerAt rfl rfl rfl (by decide +kernel) ⟨Nat.le_of_ble_eq_true rfl, Nat.le_of_ble_eq_true rfl⟩) (recvL hKW.1 hP) hKW hP hD hS rfl hl.1 rfl (Nat.le_of_ble_eq_true rfl) d_Lw_compare_2 ⟨Nat.le_of_ble_eq_true rfl, Nat.le_of_ble_eq_true rfl⟩ htab hlocks ⟨Nat.le_of_ble_eq_true rfl, Nat.le_of_ble_eq_true rfl⟩ (fun E u h => by obtain ⟨hEx, hu, hn⟩ := h; subst hu; exact ⟨A, hCI, Or.inl ⟨hEx, if_neg (fun q => hn q.1)⟩⟩) (fun w1 ra H locs hp hP hD hS => ?_)
  obtain ⟨ew, i1, hi1, hvi1, hra⟩ := hp
  rw [show w1 = w from ew] at hP hD
  have hra : ra = ad (2 * i1 + 8) := hra
  subst hra
  subst hvi1
  have wni1 : wN (nI i1) = i1 := wN_small (by omega)
  refine lv_aload_n hx hb d_Lw_compare_5 rfl (lv_at hl 0 rfl) ?_
  refine lv_iload_n hx hb d_Lw_compare_6 rfl (lv_at hl 2 rfl) ?_
  refine xV_r (As := [.int (x2)]) (rest := [.ref (ad (2 * i1 + 8))]) (n := 1) ⟨hx, hb, hml, hown, hts⟩ (c_Lw_registerAt l w _ hl9 x2) (cwV0 1 hts lm_Lw_52 im_Lw_registerAt se_Lw_registerAt in_Lw kq_Lw_registerAt rfl rfl rfl (by decide +kernel) ⟨Nat.le_of_ble_eq_true rfl, Nat.le_of_ble_eq_true rfl⟩) (recvL hKW.1 hP) hKW hP hD hS rfl hl.1 rfl (Nat.le_of_ble_eq_true rfl) d_Lw_compare_7 ⟨Nat.le_of_ble_eq_true rfl, Nat.le_of_ble_eq_true rfl⟩ htab hlocks ⟨Nat.le_of_ble_eq_true rfl, Nat.le_of_ble_eq_true rfl⟩ (fun E u h => by obtain ⟨hEx, hu, hn⟩ := h; subst hu; exact ⟨A, hCI, Or.inl ⟨hEx, if_neg (fun q => hn q.2)⟩⟩) (fun w1 ra H locs hp hP hD hS => ?_)
  obtain ⟨ew, i2, hi2, hvi2, hra⟩ := hp
  rw [show w1 = w from ew] at hP hD
  have hra : ra = ad (2 * i2 + 8) := hra
  subst hra
  subst hvi2
  have wni2 : wN (nI i2) = i2 := wN_small (by omega)
  refine wV_i (As := [.ref (ad (2 * i2 + 8))]) (rest := []) (n := 1) ⟨hx, hb, hml, hown, hts⟩ (c_Na_order l w _ (i := i1) (b := i2) (by omega) (by omega) (hCI.reg hi1) (hCI.reg hi2)) (cwV0 1 hts lm_Lw_86 im_Na_order se_Na_order in_Na kq_Na_order rfl rfl rfl (by decide +kernel) ⟨Nat.le_of_ble_eq_true rfl, Nat.le_of_ble_eq_true rfl⟩) (recvN hKW.1 hP (i := i1) (by omega)) hKW hP hD hS rfl hl.1 rfl (Nat.le_of_ble_eq_true rfl) d_Lw_compare_10 ⟨Nat.le_of_ble_eq_true rfl, Nat.le_of_ble_eq_true rfl⟩ (fun r w2 H locs hp hP hD hS => ?_)
  obtain ⟨er, ew⟩ := hp
  rw [ew] at hP hD
  subst er
  exact vx_ret (W.widen (k := 2) (n := 12) (Nat.le_of_ble_eq_true rfl) (Nat.le_of_ble_eq_true rfl) (W.iret (v := cmpN (aG A i1) (aG A i2)) hx hb hr (fun t ht hW => ⟨⟨_, w, rfl, ⟨A, hCI, by unfold sp_compare; rw [wni1, wni2, if_pos ⟨rg_nI hi1, rg_nI hi2⟩]⟩, BW_of ht hP⟩, hS.F ht⟩) hS.2.2 d_Lw_compare_13))
set_option maxHeartbeats 4000000 in
set_option maxRecDepth 100000 in
/-- bits -/
theorem c_Lw_bits (l : Launch) {D : va_G} {cI cB cR : ClassId} {ad : Nat → Nat} (w : St) (sz : Nat) (hl9 : l.stackTraces = false) (x1 : Int32) (A : Ab) (hCI : CI w A) : vx_Met l y_Lw_bits (q_Lw_bits :: wA) { frames := 12, cells := 1, slots := 6, locals := 260 } (va_Pc [.ref (ad 0), .int (x1)] (PW D cI cB cR ad w sz)) (va_Qi (fun (r : Int32) (w1 : St) => okp (sp_bits x1 A) r w1) (BW D cI cB cR ad) (AA ad sz)) (XW D cI cB cR ad (fun E u => thp (sp_bits x1 A) E_IA E_IS E u) sz) 1 6 (AA ad sz) := by
  refine vx_ofW (cc := b_Lw_bits) (maxL := 2) (ret := (some (.int))) (by decide) rfl ?_
  intro p e s m args below meth c s₁ B hml htab hv
  obtain ⟨rfl, hsz, hP, hD0, hKW⟩ := hv
  have hx := B.exec
  have hb := B.bytes
  have hr := B.returns
  have hts := atoms_spec (ws := q_Lw_bits :: wA) B.pre
  have hown : s.vm.findClass R_Lw = some m.cls := findClass_of_methodNamed B.named
  have hlocks := B.notSynchronized
  subst hsz
  have hD := NC_AA (sz := s.heap.size) hD0
  have hS : va_S (AA ad s.heap.size) s.heap s.heap [] := va_S.rf
  have hl := lv_entry ([.ref (ad 0), .int (x1)]) (n := 2) (Nat.le_of_ble_eq_true rfl)
  rw [lg_entry_eq]
  generalize (lg_sl ([.ref (ad 0), .int (x1)]) ++ List.replicate (2 - (lg_sl ([.ref (ad 0), .int (x1)])).length) Slot.unset).toArray = ls at hl ⊢
  have hl : lv_has ls 2 [(0, .ref (ad 0)), (1, .int (x1))] := hl
  refine lv_aload_n hx hb d_Lw_bits_0 rfl (lv_at hl 0 rfl) ?_
  refine lv_iload_n hx hb d_Lw_bits_1 rfl (lv_at hl 1 rfl) ?_
  refine xV_r (As := [.int (x1)]) (rest := []) (n := 1) ⟨hx, hb, hml, hown, hts⟩ (c_Lw_registerAt l w _ hl9 x1) (cwV0 1 hts lm_Lw_52 im_Lw_registerAt se_Lw_registerAt in_Lw kq_Lw_registerAt rfl rfl rfl (by decide +kernel) ⟨Nat.le_of_ble_eq_true rfl, Nat.le_of_ble_eq_true rfl⟩) (recvL hKW.1 hP) hKW hP hD hS rfl hl.1 rfl (Nat.le_of_ble_eq_true rfl) d_Lw_bits_2 ⟨Nat.le_of_ble_eq_true rfl, Nat.le_of_ble_eq_true rfl⟩ htab hlocks ⟨Nat.le_of_ble_eq_true rfl, Nat.le_of_ble_eq_true rfl⟩ (fun E u h => by obtain ⟨hEx, hu, hn⟩ := h; subst hu; exact ⟨A, hCI, Or.inl ⟨hEx, if_neg (fun q => hn q)⟩⟩) (fun w1 ra H locs hp hP hD hS => ?_)
  obtain ⟨ew, i1, hi1, hvi1, hra⟩ := hp
  rw [show w1 = w from ew] at hP hD
  have hra : ra = ad (2 * i1 + 8) := hra
  subst hra
  subst hvi1
  have wni1 : wN (nI i1) = i1 := wN_small (by omega)
  refine wV_i (As := []) (rest := []) (n := 0) ⟨hx, hb, hml, hown, hts⟩ (c_Na_countBits l w _ (i := i1) (by omega) (hCI.reg hi1)) (cwV0 0 hts lm_Lw_60 im_Na_countBits se_Na_countBits in_Na kq_Na_countBits rfl rfl rfl (by decide +kernel) ⟨Nat.le_of_ble_eq_true rfl, Nat.le_of_ble_eq_true rfl⟩) (recvN hKW.1 hP (i := i1) (by omega)) hKW hP hD hS rfl hl.1 rfl (Nat.le_of_ble_eq_true rfl) d_Lw_bits_5 ⟨Nat.le_of_ble_eq_true rfl, Nat.le_of_ble_eq_true rfl⟩ (fun r w1 H locs hp hP hD hS => ?_)
  obtain ⟨er, ew⟩ := hp
  rw [ew] at hP hD
  subst er
  exact vx_ret (W.widen (k := 1) (n := 6) (Nat.le_of_ble_eq_true rfl) (Nat.le_of_ble_eq_true rfl) (W.iret (v := nI (nb (aG A i1))) hx hb hr (fun t ht hW => ⟨⟨_, w, rfl, ⟨A, hCI, by unfold sp_bits; rw [wni1, if_pos (rg_nI hi1)]⟩, BW_of ht hP⟩, hS.F ht⟩) hS.2.2 d_Lw_bits_8))
def okpl (R : Nat × Int64 × Ab) (r : Int64) (u : St) : Prop := ∃ A', CI u A' ∧ R = (0, r, A')
def thpl (R : Nat × Int64 × Ab) (e1 e2 : String) (E : String) (u : St) : Prop := ∃ A', CI u A' ∧ ((E = e1 ∧ R = (1, 0, A')) ∨ (E = e2 ∧ R = (2, 0, A')))
set_option maxHeartbeats 4000000 in
set_option maxRecDepth 100000 in
/-- word -/
theorem c_Lw_word (l : Launch) {D : va_G} {cI cB cR : ClassId} {ad : Nat → Nat} (w : St) (sz : Nat) (hl9 : l.stackTraces = false) (x1 x2 : Int32) (A : Ab) (hCI : CI w A) : vx_Met l y_Lw_word (q_Lw_word :: wA) { frames := 12, cells := 2, slots := 12, locals := 260 } (va_Pc [.ref (ad 0), .int (x1), .int (x2)] (PW D cI cB cR ad w sz)) (va_Ql (fun (r : Int64) (w1 : St) => okpl (sp_word x1 x2 A) r w1) (BW D cI cB cR ad) (AA ad sz)) (XW D cI cB cR ad (fun E u => thpl (sp_word x1 x2 A) E_IA E_IS E u) sz) 2 12 (AA ad sz) := by
  refine vx_ofW (cc := b_Lw_word) (maxL := 4) (ret := (some (.long))) (by decide) rfl ?_
  intro p e s m args below meth c s₁ B hml htab hv
  obtain ⟨rfl, hsz, hP, hD0, hKW⟩ := hv
  have hx := B.exec
  have hb := B.bytes
  have hr := B.returns
  have hts := atoms_spec (ws := q_Lw_word :: wA) B.pre
  have hown : s.vm.findClass R_Lw = some m.cls := findClass_of_methodNamed B.named
  have hlocks := B.notSynchronized
  subst hsz
  have hD := NC_AA (sz := s.heap.size) hD0
  have hS : va_S (AA ad s.heap.size) s.heap s.heap [] := va_S.rf
  have hl := lv_entry ([.ref (ad 0), .int (x1), .int (x2)]) (n := 4) (Nat.le_of_ble_eq_true rfl)
  rw [lg_entry_eq]
  generalize (lg_sl ([.ref (ad 0), .int (x1), .int (x2)]) ++ List.replicate (4 - (lg_sl ([.ref (ad 0), .int (x1), .int (x2)])).length) Slot.unset).toArray = ls at hl ⊢
  have hl : lv_has ls 4 [(0, .ref (ad 0)), (1, .int (x1)), (2, .int (x2))] := hl
  refine lv_aload_n hx hb d_Lw_word_0 rfl (lv_at hl 0 rfl) ?_
  refine lv_iload_n hx hb d_Lw_word_1 rfl (lv_at hl 1 rfl) ?_
  refine xV_r (As := [.int (x1)]) (rest := []) (n := 1) ⟨hx, hb, hml, hown, hts⟩ (c_Lw_registerAt l w _ hl9 x1) (cwV0 1 hts lm_Lw_52 im_Lw_registerAt se_Lw_registerAt in_Lw kq_Lw_registerAt rfl rfl rfl (by decide +kernel) ⟨Nat.le_of_ble_eq_true rfl, Nat.le_of_ble_eq_true rfl⟩) (recvL hKW.1 hP) hKW hP hD hS rfl hl.1 rfl (Nat.le_of_ble_eq_true rfl) d_Lw_word_2 ⟨Nat.le_of_ble_eq_true rfl, Nat.le_of_ble_eq_true rfl⟩ htab hlocks ⟨Nat.le_of_ble_eq_true rfl, Nat.le_of_ble_eq_true rfl⟩ (fun E u h => by obtain ⟨hEx, hu, hn⟩ := h; subst hu; exact ⟨A, hCI, Or.inl ⟨hEx, if_neg (fun q => hn q.1)⟩⟩) (fun w1 ra H locs hp hP hD hS => ?_)
  obtain ⟨ew, i1, hi1, hvi1, hra⟩ := hp
  rw [show w1 = w from ew] at hP hD
  have hra : ra = ad (2 * i1 + 8) := hra
  subst hra
  subst hvi1
  have wni1 : wN (nI i1) = i1 := wN_small (by omega)
  refine lv_astore_n (lv' := [(3, .ref (ad (2 * i1 + 8))), (0, .ref (ad 0)), (1, .int (nI (i1))), (2, .int (x2))]) hx hb d_Lw_word_5 rfl hl (by decide) rfl (fun ls hl => ?_)
  refine lv_iload_n hx hb d_Lw_word_6 rfl (lv_at hl 3 rfl) ?_
  refine lv_iconst (v := nI (0)) hx hb d_Lw_word_7 (by decide) ?_
  refine lv_sipush (v := nI (6249)) hx hb d_Lw_word_8 (by decide) ?_
  refine xS_v (As := [.int (x2), .int (nI (0)), .int (nI (6249))]) (rest := []) (n := 3) ⟨hx, hb, hml, hown, hts⟩ (c_Lw_requireRange l w _ hl9 x2 (nI 0) (nI 6249)) (cwS0 3 hts lm_Lw_70 st_Lw_requireRange in_Lw kq_Lw_requireRange rfl rfl rfl (by decide +kernel) ⟨Nat.le_of_ble_eq_true rfl, Nat.le_of_ble_eq_true rfl⟩) hKW hP hD hS rfl hl.1 rfl (Nat.le_of_ble_eq_true rfl) d_Lw_word_11 ⟨Nat.le_of_ble_eq_true rfl, Nat.le_of_ble_eq_true rfl⟩ htab hlocks ⟨Nat.le_of_ble_eq_true rfl, Nat.le_of_ble_eq_true rfl⟩ (fun E u h => by obtain ⟨hEx, hu, hn⟩ := h; subst hu; exact ⟨A, hCI, Or.inl ⟨hEx, if_neg (fun q => hn q.2)⟩⟩) (fun w1 H locs hp hP hD hS => ?_)
  obtain ⟨ew, hr1, hr2⟩ := hp
  rw [ew] at hP hD
  obtain ⟨kk, hkkl, hkkh, hvkk⟩ := rng_ix (a := 0) (b := 6249) (by omega) hr1 hr2 (by omega)
  subst hvkk
  have wnkk : wN (nI kk) = kk := wN_small (by omega)
  have hVa := hCI.reg hi1
  have hL9 := hVa.len
  have hlt := hVa.lt
  have hval := hVa.2.2
  have hrg : rg (nI i1) ∧ nI 0 ≤ nI kk ∧ nI kk ≤ nI 6249 := ⟨rg_nI hi1, hr1, hr2⟩
  obtain ⟨L9, hL⟩ : ∃ L9, L9 = sL w i1 := ⟨_, rfl⟩
  rw [← hL] at hL9 hlt hval
  refine lv_iload_n hx hb d_Lw_word_14 rfl (lv_at hl 3 rfl) ?_
  refine lv_aload_n hx hb d_Lw_word_15 rfl (lv_at hl 0 rfl) ?_
  refine nw_gL hx hb hts hown hKW.1 hP (i := i1) (by omega) (n := L9) hL.symm lf_Lw_100 d_Lw_word_16 ?_
  refine lv_icmp_ge (tgt := 36) hx hb d_Lw_word_19 (by decide) (fun c19 => ?_) (fun c19 => ?_)
  · skip
    have c19 : L9 ≤ kk := (nI_leI (by omega) (by omega)).mp c19
    refine lv_lconst (v := lN (0)) hx hb d_Lw_word_36 (by decide) ?_
    exact vx_ret (W.widen (k := 2) (n := 12) (Nat.le_of_ble_eq_true rfl) (Nat.le_of_ble_eq_true rfl) (W.lret (v := lN (0)) hx hb hr (fun t ht hW => ⟨⟨_, w, rfl, ⟨A, hCI, by unfold sp_word; rw [wni1, wnkk, if_pos hrg, Nat.div_eq_of_lt (Nat.lt_of_lt_of_le hlt (pw_mono c19))]⟩, BW_of ht hP⟩, hS.F ht⟩) hS.2.2 d_Lw_word_37))
  · skip
    have c19 : ¬ (L9 ≤ kk) := fun h => c19 ((nI_leI (by omega) (by omega)).mpr h)
    refine lv_aload_n hx hb d_Lw_word_22 rfl (lv_at hl 0 rfl) ?_
    refine nw_gW hx hb hts hown hKW.1 hP (i := i1) (by omega) lf_Lw_115 d_Lw_word_23 ?_
    refine lv_iload_n hx hb d_Lw_word_26 rfl (lv_at hl 3 rfl) ?_
    refine nw_lW hx hb hKW.1 hP (i := i1) (by omega) (j := kk) (by omega) (x := sW (w) i1 (kk)) rfl d_Lw_word_27 ?_
    refine lv_i2l (v := (sW (w) i1 (kk)).toInt64) hx hb d_Lw_word_28 rfl ?_
    refine lv_ldc2 (v := 4294967295) hx hb hown (hA_ hts ll_Lw_118) d_Lw_word_29 ?_
    refine nw_land (v := lN (wN ((sW (w) i1 (kk))))) hx hb d_Lw_word_32 (lw_low _) ?_
    refine lv_goto (tgt := 37) hx hb d_Lw_word_33 (by decide) ?_
    exact vx_ret (W.widen (k := 2) (n := 12) (Nat.le_of_ble_eq_true rfl) (Nat.le_of_ble_eq_true rfl) (W.lret (v := lN (wN ((sW (w) i1 (kk))))) hx hb hr (fun t ht hW => ⟨⟨_, w, rfl, ⟨A, hCI, by unfold sp_word; rw [wni1, wnkk, if_pos hrg, ← hval, vN_word (by omega)]⟩, BW_of ht hP⟩, hS.F ht⟩) hS.2.2 d_Lw_word_37))
theorem feed_at {A : Ab} {a b c d e : Int32} {f1 f2 f3 f4 f5 : Nat → Int32} {n : Nat} {T0 : Nat → Int32} (hn : n = aN A) (h0 : ∀ j, j < n → T0 j = aT A j) (l1 : ∀ j, j < n → f1 j = T0 j) (g1 : ∀ k, k < 4 → f1 (n + k) = byt a k) (l2 : ∀ j, j < n + 4 → f2 j = f1 j) (g2 : ∀ k, k < 4 → f2 (n + 4 + k) = byt b k) (l3 : ∀ j, j < n + 4 + 4 → f3 j = f2 j) (g3 : ∀ k, k < 4 → f3 (n + 4 + 4 + k) = byt c k) (l4 : ∀ j, j < n + 4 + 4 + 4 → f4 j = f3 j) (g4 : ∀ k, k < 4 → f4 (n + 4 + 4 + 4 + k) = byt d k) (l5 : ∀ j, j < n + 4 + 4 + 4 + 4 → f5 j = f4 j) (g5 : ∀ k, k < 4 → f5 (n + 4 + 4 + 4 + 4 + k) = byt e k) :
    ∀ j, j < aN A + 20 → f5 j = fdT A a b c d e j := by
  intro j hj
  unfold fdT
  rw [← hn] at hj ⊢
  rcases Nat.lt_or_ge j n with q | q
  · rw [if_pos q, l5 j (by omega), l4 j (by omega), l3 j (by omega), l2 j (by omega), l1 j q, h0 j q]
  · obtain ⟨t, rfl⟩ : ∃ t, j = n + t := ⟨j - n, by omega⟩
    rw [if_neg (by omega), show n + t - n = t by omega]
    rcases Nat.lt_or_ge t 4 with q1 | q1
    · rw [if_pos q1, Nat.mod_eq_of_lt q1, l5 _ (by omega), l4 _ (by omega), l3 _ (by omega), l2 _ (by omega), g1 t q1]
    · rw [if_neg (by omega)]
      rcases Nat.lt_or_ge t 8 with q2 | q2
      · rw [if_pos q2, show t % 4 = t - 4 by omega, l5 _ (by omega), l4 _ (by omega), l3 _ (by omega), ← g2 (t - 4) (by omega), show n + 4 + (t - 4) = n + t by omega]
      · rw [if_neg (by omega)]
        rcases Nat.lt_or_ge t 12 with q3 | q3
        · rw [if_pos q3, show t % 4 = t - 8 by omega, l5 _ (by omega), l4 _ (by omega), ← g3 (t - 8) (by omega), show n + 4 + 4 + (t - 8) = n + t by omega]
        · rw [if_neg (by omega)]
          rcases Nat.lt_or_ge t 16 with q4 | q4
          · rw [if_pos q4, show t % 4 = t - 12 by omega, l5 _ (by omega), ← g4 (t - 12) (by omega), show n + 4 + 4 + 4 + (t - 12) = n + t by omega]
          · rw [if_neg (by omega), show t % 4 = t - 16 by omega, ← g5 (t - 16) (by omega), show n + 4 + 4 + 4 + 4 + (t - 16) = n + t by omega]
set_option maxHeartbeats 4000000 in
set_option maxRecDepth 100000 in
/-- feed -/
theorem c_Lw_feed (l : Launch) {D : va_G} {cI cB cR : ClassId} {ad : Nat → Nat} (w : St) (sz : Nat) (hl9 : l.stackTraces = false) (a b c9 d e9 : Int32) (A : Ab) (hCI : CI w A) : vx_Met l y_Lw_feed (q_Lw_feed :: wA) { frames := 12, cells := 1, slots := 6, locals := 260 } (va_Pc [.ref (ad 0), .int (a), .int (b), .int (c9), .int (d), .int (e9)] (PW D cI cB cR ad w sz)) (va_Qv (fun w1 : St => okp (sp_feed a b c9 d e9 A) 0 w1) (BW D cI cB cR ad) (AA ad sz)) (XW D cI cB cR ad (fun E u => thp (sp_feed a b c9 d e9 A) E_IS E_IS E u) sz) 1 6 (AA ad sz) := by
  refine vx_ofW (cc := b_Lw_feed) (maxL := 6) (ret := none) (by decide) rfl ?_
  intro p e s m args below meth c s₁ B hml htab hv
  obtain ⟨rfl, hsz, hP, hD0, hKW⟩ := hv
  have hx := B.exec
  have hb := B.bytes
  have hr := B.returns
  have hts := atoms_spec (ws := q_Lw_feed :: wA) B.pre
  have hown : s.vm.findClass R_Lw = some m.cls := findClass_of_methodNamed B.named
  have hlocks := B.notSynchronized
  subst hsz
  have hD := NC_AA (sz := s.heap.size) hD0
  have hS : va_S (AA ad s.heap.size) s.heap s.heap [] := va_S.rf
  have hl := lv_entry ([.ref (ad 0), .int (a), .int (b), .int (c9), .int (d), .int (e9)]) (n := 6) (Nat.le_of_ble_eq_true rfl)
  rw [lg_entry_eq]
  generalize (lg_sl ([.ref (ad 0), .int (a), .int (b), .int (c9), .int (d), .int (e9)]) ++ List.replicate (6 - (lg_sl ([.ref (ad 0), .int (a), .int (b), .int (c9), .int (d), .int (e9)])).length) Slot.unset).toArray = ls at hl ⊢
  have hl : lv_has ls 6 [(0, .ref (ad 0)), (1, .int (a)), (2, .int (b)), (3, .int (c9)), (4, .int (d)), (5, .int (e9))] := hl
  obtain ⟨hsA, hn9, hTT⟩ := hCI.2.1
  refine lv_aload_n hx hb d_Lw_feed_0 rfl (lv_at hl 0 rfl) ?_
  refine nw_gF7 hx hb hts hown hKW.1 hP (n := aN A) hsA lf_Lw_45 d_Lw_feed_1 ?_
  refine lv_bipush (v := nI (20)) hx hb d_Lw_feed_4 (by decide) ?_
  refine nw_iadd (v := nI (aN A + 20)) hx hb d_Lw_feed_6 (nI_add _ _) ?_
  refine lv_sipush (v := nI (4096)) hx hb d_Lw_feed_7 (by decide) ?_
  refine xS_v (As := [.int (nI (aN A + 20)), .int (nI (4096))]) (rest := []) (n := 2) ⟨hx, hb, hml, hown, hts⟩ (c_Lw_refuseBeyond l w _ hl9 (nI (aN A + 20)) (nI 4096)) (cwS0 2 hts lm_Lw_74 st_Lw_refuseBeyond in_Lw kq_Lw_refuseBeyond rfl rfl rfl (by decide +kernel) ⟨Nat.le_of_ble_eq_true rfl, Nat.le_of_ble_eq_true rfl⟩) hKW hP hD hS rfl hl.1 rfl (Nat.le_of_ble_eq_true rfl) d_Lw_feed_10 ⟨Nat.le_of_ble_eq_true rfl, Nat.le_of_ble_eq_true rfl⟩ htab hlocks ⟨Nat.le_of_ble_eq_true rfl, Nat.le_of_ble_eq_true rfl⟩ (fun E u h => by obtain ⟨hEx, hu, hn⟩ := h; subst hu; exact ⟨A, hCI, Or.inl ⟨hEx, by unfold sp_feed; rw [if_neg (fun q => hn ((nI_leI (by omega) (by omega)).mpr q))]⟩⟩) (fun w1 H locs hp hP hD hS => ?_)
  obtain ⟨ew, hle⟩ := hp
  rw [ew] at hP hD
  have hle : aN A + 20 ≤ 4096 := (nI_leI (by omega) (by omega)).mp hle
  refine lv_aload_n hx hb d_Lw_feed_13 rfl (lv_at hl 0 rfl) ?_
  refine lv_iload_n hx hb d_Lw_feed_14 rfl (lv_at hl 1 rfl) ?_
  refine wV_v (As := [.int (a)]) (rest := []) (n := 1) ⟨hx, hb, hml, hown, hts⟩ (c_Lw_feedWord l (w) _ (n := aN A) hsA (by omega) a) (cwV0 1 hts lm_Lw_120 im_Lw_feedWord se_Lw_feedWord in_Lw kq_Lw_feedWord rfl rfl rfl (by decide +kernel) ⟨Nat.le_of_ble_eq_true rfl, Nat.le_of_ble_eq_true rfl⟩) (recvL hKW.1 hP) hKW hP hD hS rfl hl.1 rfl (Nat.le_of_ble_eq_true rfl) d_Lw_feed_15 ⟨Nat.le_of_ble_eq_true rfl, Nat.le_of_ble_eq_true rfl⟩ (fun u1 H locs hp hP hD hS => ?_)
  obtain ⟨f1, ew1, l1, g1⟩ := hp
  subst ew1
  refine lv_aload_n hx hb d_Lw_feed_18 rfl (lv_at hl 0 rfl) ?_
  refine lv_iload_n hx hb d_Lw_feed_19 rfl (lv_at hl 2 rfl) ?_
  refine wV_v (As := [.int (b)]) (rest := []) (n := 1) ⟨hx, hb, hml, hown, hts⟩ (c_Lw_feedWord l (pA (pT (w) f1) (aN A + 4)) _ (n := aN A + 4) rfl (by omega) b) (cwV0 1 hts lm_Lw_120 im_Lw_feedWord se_Lw_feedWord in_Lw kq_Lw_feedWord rfl rfl rfl (by decide +kernel) ⟨Nat.le_of_ble_eq_true rfl, Nat.le_of_ble_eq_true rfl⟩) (recvL hKW.1 hP) hKW hP hD hS rfl hl.1 rfl (Nat.le_of_ble_eq_true rfl) d_Lw_feed_20 ⟨Nat.le_of_ble_eq_true rfl, Nat.le_of_ble_eq_true rfl⟩ (fun u2 H locs hp hP hD hS => ?_)
  obtain ⟨f2, ew2, l2, g2⟩ := hp
  subst ew2
  refine lv_aload_n hx hb d_Lw_feed_23 rfl (lv_at hl 0 rfl) ?_
  refine lv_iload_n hx hb d_Lw_feed_24 rfl (lv_at hl 3 rfl) ?_
  refine wV_v (As := [.int (c9)]) (rest := []) (n := 1) ⟨hx, hb, hml, hown, hts⟩ (c_Lw_feedWord l (pA (pT (pA (pT (w) f1) (aN A + 4)) f2) (aN A + 4 + 4)) _ (n := aN A + 4 + 4) rfl (by omega) c9) (cwV0 1 hts lm_Lw_120 im_Lw_feedWord se_Lw_feedWord in_Lw kq_Lw_feedWord rfl rfl rfl (by decide +kernel) ⟨Nat.le_of_ble_eq_true rfl, Nat.le_of_ble_eq_true rfl⟩) (recvL hKW.1 hP) hKW hP hD hS rfl hl.1 rfl (Nat.le_of_ble_eq_true rfl) d_Lw_feed_25 ⟨Nat.le_of_ble_eq_true rfl, Nat.le_of_ble_eq_true rfl⟩ (fun u3 H locs hp hP hD hS => ?_)
  obtain ⟨f3, ew3, l3, g3⟩ := hp
  subst ew3
  refine lv_aload_n hx hb d_Lw_feed_28 rfl (lv_at hl 0 rfl) ?_
  refine lv_iload hx hb d_Lw_feed_29 (lv_at hl 4 rfl) ?_
  refine wV_v (As := [.int (d)]) (rest := []) (n := 1) ⟨hx, hb, hml, hown, hts⟩ (c_Lw_feedWord l (pA (pT (pA (pT (pA (pT (w) f1) (aN A + 4)) f2) (aN A + 4 + 4)) f3) (aN A + 4 + 4 + 4)) _ (n := aN A + 4 + 4 + 4) rfl (by omega) d) (cwV0 1 hts lm_Lw_120 im_Lw_feedWord se_Lw_feedWord in_Lw kq_Lw_feedWord rfl rfl rfl (by decide +kernel) ⟨Nat.le_of_ble_eq_true rfl, Nat.le_of_ble_eq_true rfl⟩) (recvL hKW.1 hP) hKW hP hD hS rfl hl.1 rfl (Nat.le_of_ble_eq_true rfl) d_Lw_feed_31 ⟨Nat.le_of_ble_eq_true rfl, Nat.le_of_ble_eq_true rfl⟩ (fun u4 H locs hp hP hD hS => ?_)
  obtain ⟨f4, ew4, l4, g4⟩ := hp
  subst ew4
  refine lv_aload_n hx hb d_Lw_feed_34 rfl (lv_at hl 0 rfl) ?_
  refine lv_iload hx hb d_Lw_feed_35 (lv_at hl 5 rfl) ?_
  refine wV_v (As := [.int (e9)]) (rest := []) (n := 1) ⟨hx, hb, hml, hown, hts⟩ (c_Lw_feedWord l (pA (pT (pA (pT (pA (pT (pA (pT (w) f1) (aN A + 4)) f2) (aN A + 4 + 4)) f3) (aN A + 4 + 4 + 4)) f4) (aN A + 4 + 4 + 4 + 4)) _ (n := aN A + 4 + 4 + 4 + 4) rfl (by omega) e9) (cwV0 1 hts lm_Lw_120 im_Lw_feedWord se_Lw_feedWord in_Lw kq_Lw_feedWord rfl rfl rfl (by decide +kernel) ⟨Nat.le_of_ble_eq_true rfl, Nat.le_of_ble_eq_true rfl⟩) (recvL hKW.1 hP) hKW hP hD hS rfl hl.1 rfl (Nat.le_of_ble_eq_true rfl) d_Lw_feed_37 ⟨Nat.le_of_ble_eq_true rfl, Nat.le_of_ble_eq_true rfl⟩ (fun u5 H locs hp hP hD hS => ?_)
  obtain ⟨f5, ew5, l5, g5⟩ := hp
  subst ew5
  exact vx_ret (W.widen (k := 1) (n := 6) (Nat.le_of_ble_eq_true rfl) (Nat.le_of_ble_eq_true rfl) (W.vret hx hb hr (fun t ht hW => ⟨⟨pA (pT (pA (pT (pA (pT (pA (pT (pA (pT (w) f1) (aN A + 4)) f2) (aN A + 4 + 4)) f3) (aN A + 4 + 4 + 4)) f4) (aN A + 4 + 4 + 4 + 4)) f5) (aN A + 4 + 4 + 4 + 4 + 4), rfl, ⟨(A.1, fdT A a b c9 d e9, aN A + 20, A.2.2.2), ⟨hCI.1, ⟨rfl, hle, feed_at rfl hTT l1 g1 l2 g2 l3 g3 l4 g4 l5 g5⟩, hCI.2.2⟩, by unfold sp_feed; rw [if_pos hle]⟩, BW_of ht hP⟩, hS.F ht⟩) hS.2.2 d_Lw_feed_40))
set_option maxHeartbeats 4000000 in
set_option maxRecDepth 100000 in
/-- end -/
theorem c_Lw_end (l : Launch) {D : va_G} {cI cB cR : ClassId} {ad : Nat → Nat} (w : St) (sz : Nat) (hl9 : l.stackTraces = false) (n : Int32) (A : Ab) (hCI : CI w A) : vx_Met l y_Lw_end (q_Lw_end :: wA) { frames := 12, cells := 1, slots := 6, locals := 260 } (va_Pc [.ref (ad 0), .int (n)] (PW D cI cB cR ad w sz)) (va_Qi (fun (r : Int32) (w1 : St) => okp (sp_end n A) r w1) (BW D cI cB cR ad) (AA ad sz)) (XW D cI cB cR ad (fun E u => thp (sp_end n A) E_IA E_IS E u) sz) 1 6 (AA ad sz) := by
  refine vx_ofW (cc := b_Lw_end) (maxL := 3) (ret := (some (.int))) (by decide) rfl ?_
  intro p e s m args below meth c s₁ B hml htab hv
  obtain ⟨rfl, hsz, hP, hD0, hKW⟩ := hv
  have hx := B.exec
  have hb := B.bytes
  have hr := B.returns
  have hts := atoms_spec (ws := q_Lw_end :: wA) B.pre
  have hown : s.vm.findClass R_Lw = some m.cls := findClass_of_methodNamed B.named
  have hlocks := B.notSynchronized
  subst hsz
  have hD := NC_AA (sz := s.heap.size) hD0
  have hS : va_S (AA ad s.heap.size) s.heap s.heap [] := va_S.rf
  have hl := lv_entry ([.ref (ad 0), .int (n)]) (n := 3) (Nat.le_of_ble_eq_true rfl)
  rw [lg_entry_eq]
  generalize (lg_sl ([.ref (ad 0), .int (n)]) ++ List.replicate (3 - (lg_sl ([.ref (ad 0), .int (n)])).length) Slot.unset).toArray = ls at hl ⊢
  have hl : lv_has ls 3 [(0, .ref (ad 0)), (1, .int (n))] := hl
  obtain ⟨hsA, hn9, hTT⟩ := hCI.2.1
  refine lv_iload_n hx hb d_Lw_end_0 rfl (lv_at hl 1 rfl) ?_
  refine lv_iconst (v := nI (0)) hx hb d_Lw_end_1 (by decide) ?_
  refine lv_aload_n hx hb d_Lw_end_2 rfl (lv_at hl 0 rfl) ?_
  refine nw_gF7 hx hb hts hown hKW.1 hP (n := aN A) hsA lf_Lw_45 d_Lw_end_3 ?_
  refine xS_v (As := [.int (n), .int (nI (0)), .int (nI (aN A))]) (rest := []) (n := 3) ⟨hx, hb, hml, hown, hts⟩ (c_Lw_requireRange l w _ hl9 n (nI 0) (nI (aN A))) (cwS0 3 hts lm_Lw_70 st_Lw_requireRange in_Lw kq_Lw_requireRange rfl rfl rfl (by decide +kernel) ⟨Nat.le_of_ble_eq_true rfl, Nat.le_of_ble_eq_true rfl⟩) hKW hP hD hS rfl hl.1 rfl (Nat.le_of_ble_eq_true rfl) d_Lw_end_6 ⟨Nat.le_of_ble_eq_true rfl, Nat.le_of_ble_eq_true rfl⟩ htab hlocks ⟨Nat.le_of_ble_eq_true rfl, Nat.le_of_ble_eq_true rfl⟩ (fun E u h => by obtain ⟨hEx, hu, hn⟩ := h; subst hu; exact ⟨A, hCI, Or.inl ⟨hEx, if_neg (fun q => hn q)⟩⟩) (fun w1 H locs hp hP hD hS => ?_)
  obtain ⟨ew, hr1, hr2⟩ := hp
  rw [ew] at hP hD
  obtain ⟨kk, hkkl, hkkh, hvkk⟩ := rng_ix (a := 0) (b := aN A) (by omega) hr1 hr2 (by omega)
  subst hvkk
  have wnkk : wN (nI kk) = kk := wN_small (by omega)
  have hrg : nI 0 ≤ nI kk ∧ nI kk ≤ nI (aN A) := ⟨hr1, hr2⟩
  refine lv_aload_n hx hb d_Lw_end_9 rfl (lv_at hl 0 rfl) ?_
  refine nw_gF7 hx hb hts hown hKW.1 hP (n := aN A) hsA lf_Lw_45 d_Lw_end_10 ?_
  refine lv_iload_n hx hb d_Lw_end_13 rfl (lv_at hl 1 rfl) ?_
  refine nw_isub (v := nI (aN A - kk)) hx hb d_Lw_end_14 (pk_sub (by omega)) ?_
  refine lv_istore_n (lv' := [(2, .int (nI (aN A - kk))), (0, .ref (ad 0)), (1, .int (nI (kk)))]) hx hb d_Lw_end_15 rfl hl (by decide) rfl (fun ls hl => ?_)
  refine lv_aload_n hx hb d_Lw_end_16 rfl (lv_at hl 1 rfl) ?_
  refine lv_iload_n hx hb d_Lw_end_17 rfl (lv_at hl 2 rfl) ?_
  refine nw_pA hx hb hts hown hKW.1 hP hD hS lf_Lw_45 d_Lw_end_18 (fun H locs hP hD hS => ?_)
  refine lv_iload_n hx hb d_Lw_end_21 rfl (lv_at hl 0 rfl) ?_
  exact vx_ret (W.widen (k := 1) (n := 6) (Nat.le_of_ble_eq_true rfl) (Nat.le_of_ble_eq_true rfl) (W.iret (v := nI (aN A - kk)) hx hb hr (fun t ht hW => ⟨⟨_, pA w kk, rfl, ⟨pN A kk, ⟨hCI.1, ⟨rfl, Nat.le_trans hkkh hn9, fun j hj => hTT j (Nat.lt_of_lt_of_le hj hkkh)⟩, hCI.2.2⟩, by unfold sp_end; rw [wnkk, if_pos hrg]⟩, BW_of ht hP⟩, hS.F ht⟩) hS.2.2 d_Lw_end_22))
set_option maxHeartbeats 4000000 in
set_option maxRecDepth 100000 in
/-- read -/
theorem c_Lw_read (l : Launch) {D : va_G} {cI cB cR : ClassId} {ad : Nat → Nat} (w : St) (sz : Nat) (hl9 : l.stackTraces = false) (x1 b : Int32) (A : Ab) (hCI : CI w A) : vx_Met l y_Lw_read (q_Lw_read :: wA) { frames := 14, cells := 3, slots := 18, locals := 300 } (va_Pc [.ref (ad 0), .int (x1), .int (b)] (PW D cI cB cR ad w sz)) (va_Qi (fun (r : Int32) (w1 : St) => okp (sp_read x1 b A) r w1) (BW D cI cB cR ad) (AA ad sz)) (XW D cI cB cR ad (fun E u => thp (sp_read x1 b A) E_IA E_UO E u) sz) 3 18 (AA ad sz) := by
  refine vx_ofW (cc := b_Lw_read) (maxL := 5) (ret := (some (.int))) (by decide) rfl ?_
  intro p e s m args below meth c s₁ B hml htab hv
  obtain ⟨rfl, hsz, hP, hD0, hKW⟩ := hv
  have hx := B.exec
  have hb := B.bytes
  have hr := B.returns
  have hts := atoms_spec (ws := q_Lw_read :: wA) B.pre
  have hown : s.vm.findClass R_Lw = some m.cls := findClass_of_methodNamed B.named
  have hlocks := B.notSynchronized
  subst hsz
  have hD := NC_AA (sz := s.heap.size) hD0
  have hS : va_S (AA ad s.heap.size) s.heap s.heap [] := va_S.rf
  have hl := lv_entry ([.ref (ad 0), .int (x1), .int (b)]) (n := 5) (Nat.le_of_ble_eq_true rfl)
  rw [lg_entry_eq]
  generalize (lg_sl ([.ref (ad 0), .int (x1), .int (b)]) ++ List.replicate (5 - (lg_sl ([.ref (ad 0), .int (x1), .int (b)])).length) Slot.unset).toArray = ls at hl ⊢
  have hl : lv_has ls 5 [(0, .ref (ad 0)), (1, .int (x1)), (2, .int (b))] := hl
  refine lv_aload_n hx hb d_Lw_read_0 rfl (lv_at hl 0 rfl) ?_
  refine lv_iload_n hx hb d_Lw_read_1 rfl (lv_at hl 1 rfl) ?_
  refine xV_r (As := [.int (x1)]) (rest := []) (n := 1) ⟨hx, hb, hml, hown, hts⟩ (c_Lw_registerAt l w _ hl9 x1) (cwV0 1 hts lm_Lw_52 im_Lw_registerAt se_Lw_registerAt in_Lw kq_Lw_registerAt rfl rfl rfl (by decide +kernel) ⟨Nat.le_of_ble_eq_true rfl, Nat.le_of_ble_eq_true rfl⟩) (recvL hKW.1 hP) hKW hP hD hS rfl hl.1 rfl (Nat.le_of_ble_eq_true rfl) d_Lw_read_2 ⟨Nat.le_of_ble_eq_true rfl, Nat.le_of_ble_eq_true rfl⟩ htab hlocks ⟨Nat.le_of_ble_eq_true rfl, Nat.le_of_ble_eq_true rfl⟩ (fun E u h => by obtain ⟨hEx, hu, hn⟩ := h; subst hu; exact ⟨A, hCI, Or.inl ⟨hEx, if_neg (fun q => hn q.1)⟩⟩) (fun w1 ra H locs hp hP hD hS => ?_)
  obtain ⟨ew, i1, hi1, hvi1, hra⟩ := hp
  rw [show w1 = w from ew] at hP hD
  have hra : ra = ad (2 * i1 + 8) := hra
  subst hra
  subst hvi1
  have wni1 : wN (nI i1) = i1 := wN_small (by omega)
  refine lv_astore_n (lv' := [(3, .ref (ad (2 * i1 + 8))), (0, .ref (ad 0)), (1, .int (nI (i1))), (2, .int (b))]) hx hb d_Lw_read_5 rfl hl (by decide) rfl (fun ls hl => ?_)
  refine lv_iload_n hx hb d_Lw_read_6 rfl (lv_at hl 3 rfl) ?_
  refine lv_iconst (v := nI (2)) hx hb d_Lw_read_7 (by decide) ?_
  refine lv_bipush (v := nI (36)) hx hb d_Lw_read_8 (by decide) ?_
  refine xS_v (As := [.int (b), .int (nI (2)), .int (nI (36))]) (rest := []) (n := 3) ⟨hx, hb, hml, hown, hts⟩ (c_Lw_requireRange l w _ hl9 b (nI 2) (nI 36)) (cwS0 3 hts lm_Lw_70 st_Lw_requireRange in_Lw kq_Lw_requireRange rfl rfl rfl (by decide +kernel) ⟨Nat.le_of_ble_eq_true rfl, Nat.le_of_ble_eq_true rfl⟩) hKW hP hD hS rfl hl.1 rfl (Nat.le_of_ble_eq_true rfl) d_Lw_read_10 ⟨Nat.le_of_ble_eq_true rfl, Nat.le_of_ble_eq_true rfl⟩ htab hlocks ⟨Nat.le_of_ble_eq_true rfl, Nat.le_of_ble_eq_true rfl⟩ (fun E u h => by obtain ⟨hEx, hu, hn⟩ := h; subst hu; exact ⟨A, hCI, Or.inl ⟨hEx, if_neg (fun q => hn q.2)⟩⟩) (fun w1 H locs hp hP hD hS => ?_)
  obtain ⟨ew, hr1, hr2⟩ := hp
  rw [ew] at hP hD
  obtain ⟨kk, hkkl, hkkh, hvkk⟩ := rng_ix (a := 2) (b := 36) (by omega) hr1 hr2 (by omega)
  subst hvkk
  have wnkk : wN (nI kk) = kk := wN_small (by omega)
  obtain ⟨hsA, hn9, hTT⟩ := hCI.2.1
  have hrg : rg (nI i1) ∧ nI 2 ≤ nI kk ∧ nI kk ≤ nI 36 := ⟨rg_nI hi1, hr1, hr2⟩
  have hok : okd kk (sT w) (aN A) = okd kk (aT A) (aN A) := okd_c hTT
  have hC0 : CI (pA w 0) (pN A 0) := ⟨hCI.1, ⟨rfl, Nat.zero_le _, fun j hj => absurd hj (Nat.not_lt_zero _)⟩, hCI.2.2⟩
  refine lv_aload_n hx hb d_Lw_read_13 rfl (lv_at hl 1 rfl) ?_
  refine nw_gF7 hx hb hts hown hKW.1 hP (n := aN A) hsA lf_Lw_45 d_Lw_read_14 ?_
  refine lv_istore (lv' := [(4, .int (nI (aN A))), (3, .ref (ad (2 * i1 + 8))), (0, .ref (ad 0)), (1, .int (nI (i1))), (2, .int (nI (kk)))]) hx hb d_Lw_read_17 hl (by decide) rfl (fun ls hl => ?_)
  refine lv_aload_n hx hb d_Lw_read_19 rfl (lv_at hl 2 rfl) ?_
  refine lv_iconst (v := nI (0)) hx hb d_Lw_read_20 (by decide) ?_
  refine nw_pA hx hb hts hown hKW.1 hP hD hS lf_Lw_45 d_Lw_read_21 (fun H locs hP hD hS => ?_)
  refine lv_aload_n hx hb d_Lw_read_24 rfl (lv_at hl 2 rfl) ?_
  refine lv_iload hx hb d_Lw_read_25 (lv_at hl 0 rfl) ?_
  refine lv_iload_n hx hb d_Lw_read_27 rfl (lv_at hl 4 rfl) ?_
  refine wV_i (As := [.int (nI (aN A)), .int (nI (kk))]) (rest := []) (n := 2) ⟨hx, hb, hml, hown, hts⟩ (c_Lw_hasDigitsAlone l (pA w 0) _ (n := aN A) (b := kk) hn9 hkkh) (cwV0 2 hts lm_Lw_124 im_Lw_hasDigitsAlone se_Lw_hasDigitsAlone in_Lw kq_Lw_hasDigitsAlone rfl rfl rfl (by decide +kernel) ⟨Nat.le_of_ble_eq_true rfl, Nat.le_of_ble_eq_true rfl⟩) (recvL hKW.1 hP) hKW hP hD hS rfl hl.1 rfl (Nat.le_of_ble_eq_true rfl) d_Lw_read_28 ⟨Nat.le_of_ble_eq_true rfl, Nat.le_of_ble_eq_true rfl⟩ (fun r w2 H locs hp hP hD hS => ?_)
  obtain ⟨er, ew⟩ := hp
  rw [ew] at hP hD
  subst er
  have hok2 : okd kk (sT (pA w 0)) (aN A) = okd kk (aT A) (aN A) := hok
  rw [hok2]
  rcases Bool.eq_false_or_eq_true (okd kk (aT A) (aN A)) with hb8 | hb8
  · skip
    rw [if_pos hb8]
    refine lv_if_ne (tgt := 42) hx hb d_Lw_read_31 (by decide) (fun c31 => ?_) (fun c31 => ?_)
    · skip
      have hdg : ∀ j, j < aN A → dgN (sT (pA w 0) j) < kk := fun j hj => by
        have := of_decide_eq_true (List.all_eq_true.mp hb8 j (List.mem_range.mpr hj))
        rw [← hTT j hj] at this
        exact this
      have hrd : rdv kk (sT (pA w 0)) (aN A) = rdv kk (aT A) (aN A) := rdv_c _ hTT
      refine lv_aload_n hx hb d_Lw_read_42 rfl (lv_at hl 2 rfl) ?_
      refine lv_iload hx hb d_Lw_read_43 (lv_at hl 0 rfl) ?_
      refine lv_iload_n hx hb d_Lw_read_45 rfl (lv_at hl 4 rfl) ?_
      refine wV_v (As := [.int (nI (aN A)), .int (nI (kk))]) (rest := []) (n := 2) ⟨hx, hb, hml, hown, hts⟩ (c_Lw_readDigits l (pA w 0) _ (n := aN A) (b := kk) hn9 hkkl hkkh hdg) (cwV0 2 hts lm_Lw_131 im_Lw_readDigits se_Lw_readDigits in_Lw kq_Lw_readDigits rfl rfl rfl (by decide +kernel) ⟨Nat.le_of_ble_eq_true rfl, Nat.le_of_ble_eq_true rfl⟩) (recvL hKW.1 hP) hKW hP hD hS rfl hl.1 rfl (Nat.le_of_ble_eq_true rfl) d_Lw_read_46 ⟨Nat.le_of_ble_eq_true rfl, Nat.le_of_ble_eq_true rfl⟩ (fun w3 H locs hp hP hD hS => ?_)
      obtain ⟨hE3, hV3⟩ := hp
      have hrs := rdv_small hkkh hn9 hdg
      rw [hrd] at hV3 hrs
      have hC3 := hC0.same hE3 (fun j hj => by rw [List.mem_singleton.mp hj]; omega)
      refine lv_aload_n hx hb d_Lw_read_49 rfl (lv_at hl 1 rfl) ?_
      refine lv_aload_n hx hb d_Lw_read_50 rfl (lv_at hl 2 rfl) ?_
      refine nw_gF1 hx hb hts hown hKW.1 hP lf_Lw_16 d_Lw_read_51 ?_
      refine wS_i (As := [.ref (ad (2 * i1 + 8)), .ref (ad 28)]) (rest := []) (n := 2) ⟨hx, hb, hml, hown, hts⟩ (c_Lw_keep l w3 _ (i := i1) (a := 10) (by omega) (by omega) hV3) (cwS0 2 hts lm_Lw_64 st_Lw_keep in_Lw kq_Lw_keep rfl rfl rfl (by decide +kernel) ⟨Nat.le_of_ble_eq_true rfl, Nat.le_of_ble_eq_true rfl⟩) hKW hP hD hS rfl hl.1 rfl (Nat.le_of_ble_eq_true rfl) d_Lw_read_54 ⟨Nat.le_of_ble_eq_true rfl, Nat.le_of_ble_eq_true rfl⟩ (fun r w4 H locs hp hP hD hS => ?_)
      obtain ⟨er, hE4, hV4⟩ := hp
      subst er
      exact vx_ret (W.widen (k := 3) (n := 18) (Nat.le_of_ble_eq_true rfl) (Nat.le_of_ble_eq_true rfl) (W.iret (v := nI (nb (rdv kk (aT A) (aN A)))) hx hb hr (fun t ht hW => ⟨⟨_, w4, rfl, ⟨pG (pN A 0) i1 (rdv kk (aT A) (aN A)), hC3.put (hE4.B (List.mem_singleton.mpr rfl)) (fun j hj => Or.inl (List.mem_singleton.mp hj)) hV4 (nb_le_iff.mpr (p2_fit hrs (by omega))), by unfold sp_read; rw [wni1, wnkk, if_pos hrg, if_pos hb8]⟩, BW_of ht hP⟩, hS.F ht⟩) hS.2.2 d_Lw_read_57))
    · exact absurd c31 (by decide)
  · skip
    have hb7 : ¬ okd kk (aT A) (aN A) = true := by rw [hb8]; exact Bool.false_ne_true
    rw [if_neg hb7]
    refine lv_if_ne (tgt := 42) hx hb d_Lw_read_31 (by decide) (fun c31 => ?_) (fun c31 => ?_)
    · exact absurd nI_0 c31
    · skip
      exact xthrow hx hb hl9 hown (by decide) hts ta_Lw_UO tb_Lw_UO tg_Lw_UO tk_Lw_UO ti_UO hKW hP hS (hl.1.trans hml.symm) d_Lw_read_34 d_Lw_read_37 d_Lw_read_38 d_Lw_read_41 htab hlocks (Nat.le_of_ble_eq_true rfl) (Nat.le_of_ble_eq_true rfl) (Nat.le_of_ble_eq_true rfl) (Nat.le_of_ble_eq_true rfl) (Nat.le_of_ble_eq_true rfl) (Nat.le_of_ble_eq_true rfl) (⟨pN A 0, hC0, Or.inr ⟨rfl, by unfold sp_read; rw [wnkk, if_pos hrg, if_neg hb7]⟩⟩)
set_option maxHeartbeats 4000000 in
set_option maxRecDepth 100000 in
/-- write -/
theorem c_Lw_write (l : Launch) {D : va_G} {cI cB cR : ClassId} {ad : Nat → Nat} (w : St) (sz : Nat) (hl9 : l.stackTraces = false) (x1 b : Int32) (A : Ab) (hCI : CI w A) : vx_Met l y_Lw_write (q_Lw_write :: wA) { frames := 14, cells := 4, slots := 24, locals := 300 } (va_Pc [.ref (ad 0), .int (x1), .int (b)] (PW D cI cB cR ad w sz)) (va_Qi (fun (r : Int32) (w1 : St) => okp (sp_write x1 b A) r w1) (BW D cI cB cR ad) (AA ad sz)) (XW D cI cB cR ad (fun E u => thp (sp_write x1 b A) E_IA E_IS E u) sz) 4 24 (AA ad sz) := by
  refine vx_ofW (cc := b_Lw_write) (maxL := 7) (ret := (some (.int))) (by decide) rfl ?_
  intro p e s m args below meth c s₁ B hml htab hv
  obtain ⟨rfl, hsz, hP, hD0, hKW⟩ := hv
  have hx := B.exec
  have hb := B.bytes
  have hr := B.returns
  have hts := atoms_spec (ws := q_Lw_write :: wA) B.pre
  have hown : s.vm.findClass R_Lw = some m.cls := findClass_of_methodNamed B.named
  have hlocks := B.notSynchronized
  subst hsz
  have hD := NC_AA (sz := s.heap.size) hD0
  have hS : va_S (AA ad s.heap.size) s.heap s.heap [] := va_S.rf
  have hl := lv_entry ([.ref (ad 0), .int (x1), .int (b)]) (n := 7) (Nat.le_of_ble_eq_true rfl)
  rw [lg_entry_eq]
  generalize (lg_sl ([.ref (ad 0), .int (x1), .int (b)]) ++ List.replicate (7 - (lg_sl ([.ref (ad 0), .int (x1), .int (b)])).length) Slot.unset).toArray = ls at hl ⊢
  have hl : lv_has ls 7 [(0, .ref (ad 0)), (1, .int (x1)), (2, .int (b))] := hl
  refine lv_aload_n hx hb d_Lw_write_0 rfl (lv_at hl 0 rfl) ?_
  refine lv_iload_n hx hb d_Lw_write_1 rfl (lv_at hl 1 rfl) ?_
  refine xV_r (As := [.int (x1)]) (rest := []) (n := 1) ⟨hx, hb, hml, hown, hts⟩ (c_Lw_registerAt l w _ hl9 x1) (cwV0 1 hts lm_Lw_52 im_Lw_registerAt se_Lw_registerAt in_Lw kq_Lw_registerAt rfl rfl rfl (by decide +kernel) ⟨Nat.le_of_ble_eq_true rfl, Nat.le_of_ble_eq_true rfl⟩) (recvL hKW.1 hP) hKW hP hD hS rfl hl.1 rfl (Nat.le_of_ble_eq_true rfl) d_Lw_write_2 ⟨Nat.le_of_ble_eq_true rfl, Nat.le_of_ble_eq_true rfl⟩ htab hlocks ⟨Nat.le_of_ble_eq_true rfl, Nat.le_of_ble_eq_true rfl⟩ (fun E u h => by obtain ⟨hEx, hu, hn⟩ := h; subst hu; exact ⟨A, hCI, Or.inl ⟨hEx, if_neg (fun q => hn q.1)⟩⟩) (fun w1 ra H locs hp hP hD hS => ?_)
  obtain ⟨ew, i1, hi1, hvi1, hra⟩ := hp
  rw [show w1 = w from ew] at hP hD
  have hra : ra = ad (2 * i1 + 8) := hra
  subst hra
  subst hvi1
  have wni1 : wN (nI i1) = i1 := wN_small (by omega)
  refine lv_astore_n (lv' := [(3, .ref (ad (2 * i1 + 8))), (0, .ref (ad 0)), (1, .int (nI (i1))), (2, .int (b))]) hx hb d_Lw_write_5 rfl hl (by decide) rfl (fun ls hl => ?_)
  refine lv_iload_n hx hb d_Lw_write_6 rfl (lv_at hl 3 rfl) ?_
  refine lv_iconst (v := nI (2)) hx hb d_Lw_write_7 (by decide) ?_
  refine lv_bipush (v := nI (36)) hx hb d_Lw_write_8 (by decide) ?_
  refine xS_v (As := [.int (b), .int (nI (2)), .int (nI (36))]) (rest := []) (n := 3) ⟨hx, hb, hml, hown, hts⟩ (c_Lw_requireRange l w _ hl9 b (nI 2) (nI 36)) (cwS0 3 hts lm_Lw_70 st_Lw_requireRange in_Lw kq_Lw_requireRange rfl rfl rfl (by decide +kernel) ⟨Nat.le_of_ble_eq_true rfl, Nat.le_of_ble_eq_true rfl⟩) hKW hP hD hS rfl hl.1 rfl (Nat.le_of_ble_eq_true rfl) d_Lw_write_10 ⟨Nat.le_of_ble_eq_true rfl, Nat.le_of_ble_eq_true rfl⟩ htab hlocks ⟨Nat.le_of_ble_eq_true rfl, Nat.le_of_ble_eq_true rfl⟩ (fun E u h => by obtain ⟨hEx, hu, hn⟩ := h; subst hu; exact ⟨A, hCI, Or.inl ⟨hEx, if_neg (fun q => hn q.2)⟩⟩) (fun w1 H locs hp hP hD hS => ?_)
  obtain ⟨ew, hr1, hr2⟩ := hp
  rw [ew] at hP hD
  obtain ⟨kk, hkkl, hkkh, hvkk⟩ := rng_ix (a := 2) (b := 36) (by omega) hr1 hr2 (by omega)
  subst hvkk
  have wnkk : wN (nI kk) = kk := wN_small (by omega)
  have hbv := hCI.bits hi1
  have hVa := hCI.reg hi1
  have hrg : rg (nI i1) ∧ nI 2 ≤ nI kk ∧ nI kk ≤ nI 36 := ⟨rg_nI hi1, hr1, hr2⟩
  refine lv_aload_n hx hb d_Lw_write_13 rfl (lv_at hl 0 rfl) ?_
  refine wV_i (As := []) (rest := []) (n := 0) ⟨hx, hb, hml, hown, hts⟩ (c_Na_countBits l w _ (i := i1) (by omega) hVa) (cwV0 0 hts lm_Lw_60 im_Na_countBits se_Na_countBits in_Na kq_Na_countBits rfl rfl rfl (by decide +kernel) ⟨Nat.le_of_ble_eq_true rfl, Nat.le_of_ble_eq_true rfl⟩) (recvN hKW.1 hP (i := i1) (by omega)) hKW hP hD hS rfl hl.1 rfl (Nat.le_of_ble_eq_true rfl) d_Lw_write_14 ⟨Nat.le_of_ble_eq_true rfl, Nat.le_of_ble_eq_true rfl⟩ (fun r w1 H locs hp hP hD hS => ?_)
  obtain ⟨er, ew⟩ := hp
  rw [ew] at hP hD
  subst er
  refine lv_sipush (v := nI (20000)) hx hb d_Lw_write_17 (by decide) ?_
  refine lv_iload_n hx hb d_Lw_write_20 rfl (lv_at hl 3 rfl) ?_
  refine lv_iconst (v := nI (1)) hx hb d_Lw_write_21 (by decide) ?_
  refine nw_isub (v := nI (kk - 1)) hx hb d_Lw_write_22 (pk_sub (by omega)) ?_
  refine wS_i (As := [.int (nI (kk - 1))]) (rest := [.int (nI (20000)), .int (nI (nb (aG A i1)))]) (n := 1) ⟨hx, hb, hml, hown, hts⟩ (c_Lw_bitsOf l w _ (nI (kk - 1))) (cwS0 1 hts lm_Lw_134 st_Lw_bitsOf in_Lw kq_Lw_bitsOf rfl rfl rfl (by decide +kernel) ⟨Nat.le_of_ble_eq_true rfl, Nat.le_of_ble_eq_true rfl⟩) hKW hP hD hS rfl hl.1 rfl (Nat.le_of_ble_eq_true rfl) d_Lw_write_23 ⟨Nat.le_of_ble_eq_true rfl, Nat.le_of_ble_eq_true rfl⟩ (fun r w1 H locs hp hP hD hS => ?_)
  obtain ⟨er, ew⟩ := hp
  rw [ew] at hP hD
  subst er
  rw [wN_small (show kk - 1 < 4294967296 by omega)]
  have h6 : nb (kk - 1) ≤ 6 := nb_le_iff.mpr (by omega)
  refine nw_imul (v := nI (20000 * (nb (kk - 1)))) hx hb d_Lw_write_26 (pk_mul _ _) ?_
  refine xS_v (As := [.int (nI (nb (aG A i1))), .int (nI (20000 * (nb (kk - 1))))]) (rest := []) (n := 2) ⟨hx, hb, hml, hown, hts⟩ (c_Lw_refuseBeyond l w _ hl9 (nI (nb (aG A i1))) (nI (20000 * nb (kk - 1)))) (cwS0 2 hts lm_Lw_74 st_Lw_refuseBeyond in_Lw kq_Lw_refuseBeyond rfl rfl rfl (by decide +kernel) ⟨Nat.le_of_ble_eq_true rfl, Nat.le_of_ble_eq_true rfl⟩) hKW hP hD hS rfl hl.1 rfl (Nat.le_of_ble_eq_true rfl) d_Lw_write_27 ⟨Nat.le_of_ble_eq_true rfl, Nat.le_of_ble_eq_true rfl⟩ htab hlocks ⟨Nat.le_of_ble_eq_true rfl, Nat.le_of_ble_eq_true rfl⟩ (fun E u h => by obtain ⟨hEx, hu, hn⟩ := h; subst hu; exact ⟨A, hCI, Or.inr ⟨hEx, by unfold sp_write; rw [wni1, wnkk, if_pos hrg, if_pos (wr_big hkkl (Nat.not_le.mp (fun q => hn ((nI_leI (by omega) (by omega)).mpr q))))]⟩⟩) (fun w1 H locs hp hP hD hS => ?_)
  obtain ⟨ew, hle⟩ := hp
  rw [ew] at hP hD
  have hle : nb (aG A i1) ≤ 20000 * nb (kk - 1) := (nI_leI (by omega) (by omega)).mp hle
  refine lv_iload_n hx hb d_Lw_write_30 rfl (lv_at hl 3 rfl) ?_
  refine wS_i (As := [.int (nI (kk))]) (rest := []) (n := 1) ⟨hx, hb, hml, hown, hts⟩ (c_Lw_digitsOfPiece l w _ (b := kk) hkkl hkkh) (cwS0 1 hts lm_Lw_138 st_Lw_digitsOfPiece in_Lw kq_Lw_digitsOfPiece rfl rfl rfl (by decide +kernel) ⟨Nat.le_of_ble_eq_true rfl, Nat.le_of_ble_eq_true rfl⟩) hKW hP hD hS rfl hl.1 rfl (Nat.le_of_ble_eq_true rfl) d_Lw_write_31 ⟨Nat.le_of_ble_eq_true rfl, Nat.le_of_ble_eq_true rfl⟩ (fun r w1 H locs hp hP hD hS => ?_)
  obtain ⟨ew, d9, er, hd1, hd2, hd3, hd4⟩ := hp
  rw [ew] at hP hD
  subst er
  refine lv_istore (lv' := [(4, .int (nI (d9))), (3, .ref (ad (2 * i1 + 8))), (0, .ref (ad 0)), (1, .int (nI (i1))), (2, .int (nI (kk)))]) hx hb d_Lw_write_34 hl (by decide) rfl (fun ls hl => ?_)
  refine lv_aload_n hx hb d_Lw_write_36 rfl (lv_at hl 2 rfl) ?_
  refine lv_aload_n hx hb d_Lw_write_37 rfl (lv_at hl 1 rfl) ?_
  refine lv_iload_n hx hb d_Lw_write_38 rfl (lv_at hl 4 rfl) ?_
  refine lv_iload hx hb d_Lw_write_39 (lv_at hl 0 rfl) ?_
  refine wS_i (As := [.int (nI (kk)), .int (nI (d9))]) (rest := [.ref (ad (2 * i1 + 8)), .ref (ad 0)]) (n := 2) ⟨hx, hb, hml, hown, hts⟩ (c_Lw_powerOf l w _ (b := kk) (n := d9) (by omega)) (cwS0 2 hts lm_Lw_141 st_Lw_powerOf in_Lw kq_Lw_powerOf rfl rfl rfl (by decide +kernel) ⟨Nat.le_of_ble_eq_true rfl, Nat.le_of_ble_eq_true rfl⟩) hKW hP hD hS rfl hl.1 rfl (Nat.le_of_ble_eq_true rfl) d_Lw_write_41 ⟨Nat.le_of_ble_eq_true rfl, Nat.le_of_ble_eq_true rfl⟩ (fun r w1 H locs hp hP hD hS => ?_)
  obtain ⟨er, ew⟩ := hp
  rw [ew] at hP hD
  subst er
  have hP2 : 2 ≤ kk ^ d9 := Nat.le_trans hkkl (by have := Nat.pow_le_pow_right (show 0 < kk by omega) hd1; rwa [Nat.pow_one] at this)
  refine wV_i (As := [.ref (ad (2 * i1 + 8)), .int (nI (kk ^ d9))]) (rest := []) (n := 2) ⟨hx, hb, hml, hown, hts⟩ (c_Lw_cutIntoPieces l w _ (a := i1) (v := aG A i1) (P := kk ^ d9) hi1 hVa hP2 hd3 (wr_fit hkkl hkkh hd4 hle)) (cwV0 2 hts lm_Lw_145 im_Lw_cutIntoPieces se_Lw_cutIntoPieces in_Lw kq_Lw_cutIntoPieces rfl rfl rfl (by decide +kernel) ⟨Nat.le_of_ble_eq_true rfl, Nat.le_of_ble_eq_true rfl⟩) (recvL hKW.1 hP) hKW hP hD hS rfl hl.1 rfl (Nat.le_of_ble_eq_true rfl) d_Lw_write_44 ⟨Nat.le_of_ble_eq_true rfl, Nat.le_of_ble_eq_true rfl⟩ (fun r w2 H locs hp hP hD hS => ?_)
  obtain ⟨n9, er, hn1, hn2, hn3, hn4, hE2, hpc⟩ := hp
  subst er
  obtain ⟨hw1, hw2, hw3⟩ := wr_cnt hkkl hn1 hn3 hn4
  have hw4 := wr_len hkkl hn1 hd1 hn3
  have hC2 := hCI.sameQ hE2 (fun j hj => by rw [List.mem_singleton.mp hj]; omega)
  have hpt := hpc (n9 - 1) (by omega)
  rw [hw1] at hpt
  refine lv_istore (lv' := [(5, .int (nI (n9))), (4, .int (nI (d9))), (3, .ref (ad (2 * i1 + 8))), (0, .ref (ad 0)), (1, .int (nI (i1))), (2, .int (nI (kk)))]) hx hb d_Lw_write_47 hl (by decide) rfl (fun ls hl => ?_)
  refine lv_aload_n hx hb d_Lw_write_49 rfl (lv_at hl 3 rfl) ?_
  refine lv_iload hx hb d_Lw_write_50 (lv_at hl 0 rfl) ?_
  refine lv_iload_n hx hb d_Lw_write_52 rfl (lv_at hl 5 rfl) ?_
  refine lv_iload hx hb d_Lw_write_53 (lv_at hl 1 rfl) ?_
  refine wV_i (As := [.int (nI (n9)), .int (nI (kk)), .int (nI (d9))]) (rest := []) (n := 3) ⟨hx, hb, hml, hown, hts⟩ (c_Lw_countDigits l w2 _ (n := n9) (b := kk) (d := d9) (tp := aG A i1 / (kk ^ d9) ^ (n9 - 1)) hn1 hn2 hkkl hkkh hd1 hd2 hpt (by omega) hw3) (cwV0 3 hts lm_Lw_149 im_Lw_countDigits se_Lw_countDigits in_Lw kq_Lw_countDigits rfl rfl rfl (by decide +kernel) ⟨Nat.le_of_ble_eq_true rfl, Nat.le_of_ble_eq_true rfl⟩) (recvL hKW.1 hP) hKW hP hD hS rfl hl.1 rfl (Nat.le_of_ble_eq_true rfl) d_Lw_write_55 ⟨Nat.le_of_ble_eq_true rfl, Nat.le_of_ble_eq_true rfl⟩ (fun r w3 H locs hp hP hD hS => ?_)
  obtain ⟨er, ew⟩ := hp
  rw [ew] at hP hD
  rw [hw2] at er
  subst er
  have hnd : ndg kk (aG A i1) ≤ 4800 * 31 := Nat.le_trans hw4 (Nat.mul_le_mul hn2 hd2)
  refine lv_istore (lv' := [(6, .int (nI (ndg kk (aG A i1)))), (5, .int (nI (n9))), (4, .int (nI (d9))), (3, .ref (ad (2 * i1 + 8))), (0, .ref (ad 0)), (1, .int (nI (i1))), (2, .int (nI (kk)))]) hx hb d_Lw_write_58 hl (by decide) rfl (fun ls hl => ?_)
  refine lv_iload hx hb d_Lw_write_60 (lv_at hl 0 rfl) ?_
  refine lv_sipush (v := nI (20000)) hx hb d_Lw_write_62 (by decide) ?_
  refine xS_v (As := [.int (nI (ndg kk (aG A i1))), .int (nI (20000))]) (rest := []) (n := 2) ⟨hx, hb, hml, hown, hts⟩ (c_Lw_refuseBeyond l w2 _ hl9 (nI (ndg kk (aG A i1))) (nI 20000)) (cwS0 2 hts lm_Lw_74 st_Lw_refuseBeyond in_Lw kq_Lw_refuseBeyond rfl rfl rfl (by decide +kernel) ⟨Nat.le_of_ble_eq_true rfl, Nat.le_of_ble_eq_true rfl⟩) hKW hP hD hS rfl hl.1 rfl (Nat.le_of_ble_eq_true rfl) d_Lw_write_65 ⟨Nat.le_of_ble_eq_true rfl, Nat.le_of_ble_eq_true rfl⟩ htab hlocks ⟨Nat.le_of_ble_eq_true rfl, Nat.le_of_ble_eq_true rfl⟩ (fun E u h => by obtain ⟨hEx, hu, hn⟩ := h; subst hu; exact ⟨A, hC2, Or.inr ⟨hEx, by unfold sp_write; rw [wni1, wnkk, if_pos hrg, if_pos (Nat.not_le.mp (fun q => hn ((nI_leI (by omega) (by omega)).mpr q)))]⟩⟩) (fun w3 H locs hp hP hD hS => ?_)
  obtain ⟨ew, hle⟩ := hp
  rw [ew] at hP hD
  have hle2 : ndg kk (aG A i1) ≤ 20000 := (nI_leI (by omega) (by omega)).mp hle
  refine lv_aload_n hx hb d_Lw_write_68 rfl (lv_at hl 4 rfl) ?_
  refine lv_iload hx hb d_Lw_write_69 (lv_at hl 0 rfl) ?_
  refine lv_iload_n hx hb d_Lw_write_71 rfl (lv_at hl 6 rfl) ?_
  refine lv_iload hx hb d_Lw_write_72 (lv_at hl 2 rfl) ?_
  refine wV_v (As := [.int (nI (ndg kk (aG A i1))), .int (nI (kk)), .int (nI (d9))]) (rest := []) (n := 3) ⟨hx, hb, hml, hown, hts⟩ (c_Lw_writeDigits l w2 _ (cnt := ndg kk (aG A i1)) (b := kk) (d := d9) (v := aG A i1) (n := n9) hle2 hkkl hkkh hd1 hd2 hd3 hn2 hw4 hpc) (cwV0 3 hts lm_Lw_153 im_Lw_writeDigits se_Lw_writeDigits in_Lw kq_Lw_writeDigits rfl rfl rfl (by decide +kernel) ⟨Nat.le_of_ble_eq_true rfl, Nat.le_of_ble_eq_true rfl⟩) (recvL hKW.1 hP) hKW hP hD hS rfl hl.1 rfl (Nat.le_of_ble_eq_true rfl) d_Lw_write_74 ⟨Nat.le_of_ble_eq_true rfl, Nat.le_of_ble_eq_true rfl⟩ (fun w3 H locs hp hP hD hS => ?_)
  obtain ⟨f9, ew, hf9⟩ := hp
  rw [ew] at hP hD
  refine lv_aload_n hx hb d_Lw_write_77 rfl (lv_at hl 4 rfl) ?_
  refine lv_iload hx hb d_Lw_write_78 (lv_at hl 0 rfl) ?_
  refine nw_pB hx hb hts hown hKW.1 hP hD hS lf_Lw_49 d_Lw_write_80 (fun H locs hP hD hS => ?_)
  refine lv_iload hx hb d_Lw_write_83 (lv_at hl 0 rfl) ?_
  exact vx_ret (W.widen (k := 4) (n := 24) (Nat.le_of_ble_eq_true rfl) (Nat.le_of_ble_eq_true rfl) (W.iret (v := nI (ndg kk (aG A i1))) hx hb hr (fun t ht hW => ⟨⟨_, pB (pO w2 f9) (ndg kk (aG A i1)), rfl, ⟨(A.1, A.2.1, A.2.2.1, fun j => chr9 (aG A i1 / kk ^ (ndg kk (aG A i1) - 1 - j) % kk), ndg kk (aG A i1)), ⟨hC2.1, hC2.2.1, ⟨rfl, hle2, hf9⟩⟩, by unfold sp_write; rw [wni1, wnkk, if_pos hrg, if_neg (by omega)]⟩, BW_of ht hP⟩, hS.F ht⟩) hS.2.2 d_Lw_write_85))
set_option maxHeartbeats 4000000 in
set_option maxRecDepth 100000 in
/-- octet -/
theorem c_Lw_octet (l : Launch) {D : va_G} {cI cB cR : ClassId} {ad : Nat → Nat} (w : St) (sz : Nat) (hl9 : l.stackTraces = false) (n : Int32) (A : Ab) (hCI : CI w A) : vx_Met l y_Lw_octet (q_Lw_octet :: wA) { frames := 8, cells := 1, slots := 6, locals := 130 } (va_Pc [.ref (ad 0), .int (n)] (PW D cI cB cR ad w sz)) (va_Qi (fun (r : Int32) (w1 : St) => okp (sp_octet n A) r w1) (BW D cI cB cR ad) (AA ad sz)) (XW D cI cB cR ad (fun E u => thp (sp_octet n A) E_NS E_IS E u) sz) 1 6 (AA ad sz) := by
  refine vx_ofW (cc := b_Lw_octet) (maxL := 2) (ret := (some (.int))) (by decide) rfl ?_
  intro p e s m args below meth c s₁ B hml htab hv
  obtain ⟨rfl, hsz, hP, hD0, hKW⟩ := hv
  have hx := B.exec
  have hb := B.bytes
  have hr := B.returns
  have hts := atoms_spec (ws := q_Lw_octet :: wA) B.pre
  have hown : s.vm.findClass R_Lw = some m.cls := findClass_of_methodNamed B.named
  have hlocks := B.notSynchronized
  subst hsz
  have hD := NC_AA (sz := s.heap.size) hD0
  have hS : va_S (AA ad s.heap.size) s.heap s.heap [] := va_S.rf
  have hl := lv_entry ([.ref (ad 0), .int (n)]) (n := 2) (Nat.le_of_ble_eq_true rfl)
  rw [lg_entry_eq]
  generalize (lg_sl ([.ref (ad 0), .int (n)]) ++ List.replicate (2 - (lg_sl ([.ref (ad 0), .int (n)])).length) Slot.unset).toArray = ls at hl ⊢
  have hl : lv_has ls 2 [(0, .ref (ad 0)), (1, .int (n))] := hl
  obtain ⟨hsB, hm9, hOO⟩ := hCI.2.2
  refine lv_iload_n hx hb d_Lw_octet_0 rfl (lv_at hl 1 rfl) ?_
  refine lv_if_lt (tgt := 12) hx hb d_Lw_octet_1 (by decide) (fun c1 => ?_) (fun c1 => ?_)
  · skip
    exact xthrow hx hb hl9 hown (by decide) hts ta_Lw_NS tb_Lw_NS tg_Lw_NS tk_Lw_NS ti_NS hKW hP hS (hl.1.trans hml.symm) d_Lw_octet_12 d_Lw_octet_15 d_Lw_octet_16 d_Lw_octet_19 htab hlocks (Nat.le_of_ble_eq_true rfl) (Nat.le_of_ble_eq_true rfl) (Nat.le_of_ble_eq_true rfl) (Nat.le_of_ble_eq_true rfl) (Nat.le_of_ble_eq_true rfl) (Nat.le_of_ble_eq_true rfl) (⟨A, hCI, Or.inl ⟨rfl, if_neg (fun q => absurd c1 (Int32.not_lt.mpr q.1))⟩⟩)
  · skip
    refine lv_iload_n hx hb d_Lw_octet_4 rfl (lv_at hl 1 rfl) ?_
    refine lv_aload_n hx hb d_Lw_octet_5 rfl (lv_at hl 0 rfl) ?_
    refine nw_gF8 hx hb hts hown hKW.1 hP (n := aM A) hsB lf_Lw_49 d_Lw_octet_6 ?_
    refine lv_icmp_lt (tgt := 20) hx hb d_Lw_octet_9 (by decide) (fun c9 => ?_) (fun c9 => ?_)
    · skip
      have hrg : nI 0 ≤ n ∧ n < nI (aM A) := ⟨Int32.not_lt.mp c1, c9⟩
      obtain ⟨kk, hkk, hv⟩ : ∃ kk, kk < aM A ∧ n = nI kk := by
        obtain ⟨kk, _, h2, h3⟩ := rng_ix (a := 0) (b := aM A) (by omega) hrg.1 (Int32.le_of_lt c9) (by omega)
        refine ⟨kk, ?_, h3⟩
        rw [h3] at c9
        exact (nI_ltI (by omega) (by omega)).mp c9
      subst hv
      refine lv_aload_n hx hb d_Lw_octet_20 rfl (lv_at hl 0 rfl) ?_
      refine nw_gF6 hx hb hts hown hKW.1 hP lf_Lw_42 d_Lw_octet_21 ?_
      refine lv_iload_n hx hb d_Lw_octet_24 rfl (lv_at hl 1 rfl) ?_
      refine nw_lO hx hb hKW.1 hP (j := kk) (by omega) (x := aO A kk) (hOO kk hkk) d_Lw_octet_25 ?_
      exact vx_ret (W.widen (k := 1) (n := 6) (Nat.le_of_ble_eq_true rfl) (Nat.le_of_ble_eq_true rfl) (W.iret (v := aO A kk) hx hb hr (fun t ht hW => ⟨⟨_, w, rfl, ⟨A, hCI, by unfold sp_octet; rw [wN_small (by omega), if_pos hrg]⟩, BW_of ht hP⟩, hS.F ht⟩) hS.2.2 d_Lw_octet_26))
    · skip
      exact xthrow hx hb hl9 hown (by decide) hts ta_Lw_NS tb_Lw_NS tg_Lw_NS tk_Lw_NS ti_NS hKW hP hS (hl.1.trans hml.symm) d_Lw_octet_12 d_Lw_octet_15 d_Lw_octet_16 d_Lw_octet_19 htab hlocks (Nat.le_of_ble_eq_true rfl) (Nat.le_of_ble_eq_true rfl) (Nat.le_of_ble_eq_true rfl) (Nat.le_of_ble_eq_true rfl) (Nat.le_of_ble_eq_true rfl) (Nat.le_of_ble_eq_true rfl) (⟨A, hCI, Or.inl ⟨rfl, if_neg (fun q => c9 q.2)⟩⟩)
